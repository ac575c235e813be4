/-! a triangle's pixels, row by row, in lockstep -/
def fz_ok (ns : Nat) (tx vx vy vz vq gs so sd sa sq pl : Nat → Int32) : Prop := ns ≤ 10 ∧ ri_stp ns so sd sa sq ∧ ri_tex tx ∧ ri_set gs ∧ ri_ver vx vy vz vq pl
def ar_p (vx vy : Nat → Int32) (a b c : Nat) : Prop := a < 24 ∧ b < 24 ∧ c < 24 ∧ 0 < ca_cr (vx a).toInt (vy a).toInt (vx b).toInt (vy b).toInt (vx c).toInt (vy c).toInt
section ROW
variable {NS SL ST SR SB KE CA CB CC FL WA WB WC : Int32} {co de sn tx vx vy vz vq vv gs cn so sd sa sq rx : Nat → Int32}
variable {LE TO WI HI VA VB VC LA ZZ : Int32} {re gr bl pl ry : Nat → Int32}
theorem lk_sim {ns sl st sw sh x y a b c fl : Nat} (F : fz_ok ns tx vx vy vz vq gs so sd sa sq pl) (hA : ar_p vx vy a b c) (hf : fl < 24) (hc : ri_col co re gr bl) (hs : sl + sw ≤ 24) (hx : x < sl + sw) (hy : y < 16) : ∃ (WA' WB' WC' ZZ' : Int32) (co' de' sn' cn' rx' re' gr' bl' ry' : Nat → Int32), ri_col co' re' gr' bl'
    ∧ (∀ (post : SX → Prop) (J : _) (n : Nat), wX_drawTriangle_112 post J (nI y) n (nI (x + 1)) (nI ns) (nI sl) (nI st) (nI (sl + sw)) (nI (st + sh)) KE (nI a) (nI b) (nI c) (nI fl) WA' WB' WC' co' de' sn' tx vx vy vz vq vv gs cn' so sd sa sq rx' → wX_drawTriangle_112 post J (nI y) (n + 1) (nI x) (nI ns) (nI sl) (nI st) (nI (sl + sw)) (nI (st + sh)) KE (nI a) (nI b) (nI c) (nI fl) WA WB WC co de sn tx vx vy vz vq vv gs cn so sd sa sq rx)
    ∧ (∀ post : SY → Prop, post (nI sl, nI st, nI sw, nI sh, nI ns, KE, nI a, nI b, nI c, nI fl, ZZ', re', gr', bl', de', sn', tx, pl, vv, gs, so, sd, sa, sq, cn', ry') → wpY_look post (nI sl, nI st, nI sw, nI sh, nI ns, KE, nI a, nI b, nI c, nI fl, ZZ, re, gr, bl, de, sn, tx, pl, vv, gs, so, sd, sa, sq, cn, ry) (nI x) (nI y)) := by
  obtain ⟨hns, hst, ht, hset, hv⟩ := F
  obtain ⟨ha, hb, hcc, hpA⟩ := hA
  have hx24 : x < 24 := by omega
  have hy24 : y < 24 := by omega
  by_cases cov : cv_a vx vy a b c (8 * nI x + 4) (8 * nI y + 4)
  · obtain ⟨w1, w2, w3, hpos⟩ := cv_pos hv ha hb hcc (cv_mid hx24) (cv_mid hy24) hpA cov
    obtain ⟨_, _, _, za, qa⟩ := hv a ha
    obtain ⟨_, _, _, zb, qb⟩ := hv b hb
    obtain ⟨_, _, _, zc, qc⟩ := hv c hcc
    have hW : 0 < (cv_w vx vy b c (8 * nI x + 4) (8 * nI y + 4)).toInt64 + (cv_w vx vy c a (8 * nI x + 4) (8 * nI y + 4)).toInt64 + (cv_w vx vy a b (8 * nI x + 4) (8 * nI y + 4)).toInt64 := by
      rw [Int64.lt_iff_toInt_lt, ca_all w1 w2 w3, Int64.toInt_zero]
      exact hpos
    have hS := ca_shares w1 w2 w3 hpos qa qb qc
    have hZ : 0 ≤ (cv_w vx vy b c (8 * nI x + 4) (8 * nI y + 4)).toInt64 * (vz a).toInt64 + (cv_w vx vy c a (8 * nI x + 4) (8 * nI y + 4)).toInt64 * (vz b).toInt64 + (cv_w vx vy a b (8 * nI x + 4) (8 * nI y + 4)).toInt64 * (vz c).toInt64 := by
      obtain ⟨d1, d2, d3, d4⟩ := ca_dot w1 w2 w3 za zb zc
      rw [Int64.le_iff_toInt_le, d1, Int64.toInt_zero]
      omega
    have ez : (((cv_w vx vy b c (8 * nI x + 4) (8 * nI y + 4)).toInt64 * (vz a).toInt64 + (cv_w vx vy c a (8 * nI x + 4) (8 * nI y + 4)).toInt64 * (vz b).toInt64 + (cv_w vx vy a b (8 * nI x + 4) (8 * nI y + 4)).toInt64 * (vz c).toInt64) / ((cv_w vx vy b c (8 * nI x + 4) (8 * nI y + 4)).toInt64 + (cv_w vx vy c a (8 * nI x + 4) (8 * nI y + 4)).toInt64 + (cv_w vx vy a b (8 * nI x + 4) (8 * nI y + 4)).toInt64)).toInt32 = fd_g ((cv_w vx vy b c (8 * nI x + 4) (8 * nI y + 4)).toInt64 * (vz a).toInt64 + (cv_w vx vy c a (8 * nI x + 4) (8 * nI y + 4)).toInt64 * (vz b).toInt64 + (cv_w vx vy a b (8 * nI x + 4) (8 * nI y + 4)).toInt64 * (vz c).toInt64) ((cv_w vx vy b c (8 * nI x + 4) (8 * nI y + 4)).toInt64 + (cv_w vx vy c a (8 * nI x + 4) (8 * nI y + 4)).toInt64 + (cv_w vx vy a b (8 * nI x + 4) (8 * nI y + 4)).toInt64) := (if_neg (fd_nn hZ hW)).symm
    obtain ⟨r1, e1, H1⟩ := mx_load (NS := nI ns) (SL := nI sl) (ST := nI st) (SR := nI (sl + sw)) (SB := nI (st + sh)) (KE := KE) (WA := cv_w vx vy b c (8 * nI x + 4) (8 * nI y + 4)) (WB := cv_w vx vy c a (8 * nI x + 4) (8 * nI y + 4)) (WC := cv_w vx vy a b (8 * nI x + 4) (8 * nI y + 4)) (co := co) (de := de) (sn := sn) (tx := tx) (vx := vx) (vy := vy) (vz := vz) (vq := vq) (vv := vv) (gs := gs) (cn := cn) (so := so) (sd := sd) (sa := sa) (sq := sq) ha hb hcc hf hS rx
    obtain ⟨r2, e2, H2⟩ := my_155 (LE := nI sl) (TO := nI st) (WI := nI sw) (HI := nI sh) (NS := nI ns) (KE := KE) (re := re) (gr := gr) (bl := bl) (de := de) (sn := sn) (tx := tx) (pl := pl) (vv := vv) (gs := gs) (so := so) (sd := sd) (sa := sa) (sq := sq) (cn := cn) hv ha hb hcc hf hW hS ry
    rw [ez] at H2
    obtain ⟨co', de', sn', cn', rx', re', gr', bl', ry', hcol, HX, HY⟩ := fp_sim (SL := nI sl) (ST := nI st) (SR := nI (sl + sw)) (SB := nI (st + sh)) (KE := KE) (CA := nI a) (CB := nI b) (CC := nI c) (FL := nI fl) (WA := cv_w vx vy b c (8 * nI x + 4) (8 * nI y + 4)) (WB := cv_w vx vy c a (8 * nI x + 4) (8 * nI y + 4)) (WC := cv_w vx vy a b (8 * nI x + 4) (8 * nI y + 4)) (co := co) (de := de) (sn := sn) (tx := tx) (vx := vx) (vy := vy) (vz := vz) (vq := vq) (vv := vv) (gs := gs) (cn := cn) (so := so) (sd := sd) (sa := sa) (sq := sq) (rx := r1) (LE := nI sl) (TO := nI st) (WI := nI sw) (HI := nI sh) (VA := nI a) (VB := nI b) (VC := nI c) (LA := nI fl) (re := re) (gr := gr) (bl := bl) (pl := pl) (ry := r2) hns hst ht hset hc hx24 hy (fun n hn => (e1 n hn).trans (e2 n hn).symm) (fd_g ((cv_w vx vy b c (8 * nI x + 4) (8 * nI y + 4)).toInt64 * (vz a).toInt64 + (cv_w vx vy c a (8 * nI x + 4) (8 * nI y + 4)).toInt64 * (vz b).toInt64 + (cv_w vx vy a b (8 * nI x + 4) (8 * nI y + 4)).toInt64 * (vz c).toInt64) ((cv_w vx vy b c (8 * nI x + 4) (8 * nI y + 4)).toInt64 + (cv_w vx vy c a (8 * nI x + 4) (8 * nI y + 4)).toInt64 + (cv_w vx vy a b (8 * nI x + 4) (8 * nI y + 4)).toInt64))
    refine ⟨cv_w vx vy b c (8 * nI x + 4) (8 * nI y + 4), cv_w vx vy c a (8 * nI x + 4) (8 * nI y + 4), cv_w vx vy a b (8 * nI x + 4) (8 * nI y + 4), fd_g ((cv_w vx vy b c (8 * nI x + 4) (8 * nI y + 4)).toInt64 * (vz a).toInt64 + (cv_w vx vy c a (8 * nI x + 4) (8 * nI y + 4)).toInt64 * (vz b).toInt64 + (cv_w vx vy a b (8 * nI x + 4) (8 * nI y + 4)).toInt64 * (vz c).toInt64) ((cv_w vx vy b c (8 * nI x + 4) (8 * nI y + 4)).toInt64 + (cv_w vx vy c a (8 * nI x + 4) (8 * nI y + 4)).toInt64 + (cv_w vx vy a b (8 * nI x + 4) (8 * nI y + 4)).toInt64), co', de', sn', cn', rx', re', gr', bl', ry', hcol, fun post J n h => ?_, fun post h => ?_⟩
    · rw [wX_drawTriangle_112]
      refine br_f (nI_ge hx (by omega)) ?_
      refine mx_covers ha hb hcc (fun _ => br_f n10 ?_) (fun z => absurd cov z)
      refine H1 _ ?_
      refine mx_depth ha hb hcc hW ?_
      exact HX _ (nm_r (nI_1 x) h)
    · refine my_look hv ha hb hcc (cv_mid hx24) (cv_mid hy24) (fun _ => ?_) (fun z => absurd cov z)
      exact H2 post _ _ (HY _ h)
  · refine ⟨cv_w vx vy b c (8 * nI x + 4) (8 * nI y + 4), cv_w vx vy c a (8 * nI x + 4) (8 * nI y + 4), cv_w vx vy a b (8 * nI x + 4) (8 * nI y + 4), ZZ, co, de, sn, cn, rx, re, gr, bl, ry, hc, fun post J n h => ?_, fun post h => ?_⟩
    · rw [wX_drawTriangle_112]
      refine br_f (nI_ge hx (by omega)) ?_
      exact mx_covers ha hb hcc (fun z => absurd z cov) (fun _ => br_t rfl (nm_r (nI_1 x) h))
    · exact my_look hv ha hb hcc (cv_mid hx24) (cv_mid hy24) (fun z => absurd z cov) (fun _ => h)
theorem rw_sim {ns sl st sw sh y a b c fl : Nat} (F : fz_ok ns tx vx vy vz vq gs so sd sa sq pl) (hA : ar_p vx vy a b c) (hf : fl < 24) (hs : sl + sw ≤ 24) (hy : y < 16) : ∀ (m x : Nat) (WA WB WC ZZ : Int32) (co de sn cn rx re gr bl ry : Nat → Int32), ri_col co re gr bl → x + m = sl + sw → ∃ (WA' WB' WC' ZZ' : Int32) (co' de' sn' cn' rx' re' gr' bl' ry' : Nat → Int32), ri_col co' re' gr' bl'
    ∧ (∀ (post : SX → Prop) (J : _) (n : Nat), m < n → J (nI (y + 1)) (nI ns) (nI sl) (nI st) (nI (sl + sw)) (nI (st + sh)) KE (nI a) (nI b) (nI c) (nI fl) WA' WB' WC' co' de' sn' tx vx vy vz vq vv gs cn' so sd sa sq rx' → wX_drawTriangle_112 post J (nI y) n (nI x) (nI ns) (nI sl) (nI st) (nI (sl + sw)) (nI (st + sh)) KE (nI a) (nI b) (nI c) (nI fl) WA WB WC co de sn tx vx vy vz vq vv gs cn so sd sa sq rx)
    ∧ (∀ (post : SY → Prop) (J : _) (n : Nat), m < n → J (nI (y + 1)) (nI sl) (nI st) (nI sw) (nI sh) (nI ns) KE (nI a) (nI b) (nI c) (nI fl) ZZ' re' gr' bl' de' sn' tx pl vv gs so sd sa sq cn' ry' → wY_triangle_148 post J (nI y) n (nI x) (nI sl) (nI st) (nI sw) (nI sh) (nI ns) KE (nI a) (nI b) (nI c) (nI fl) ZZ re gr bl de sn tx pl vv gs so sd sa sq cn ry) := by
  intro m
  induction m with
  | zero =>
    intro x WA WB WC ZZ co de sn cn rx re gr bl ry hc hx
    refine ⟨WA, WB, WC, ZZ, co, de, sn, cn, rx, re, gr, bl, ry, hc, fun post J n hn h => ?_, fun post J n hn h => ?_⟩
    · obtain ⟨n, rfl⟩ : ∃ m, n = m + 1 := ⟨n - 1, by omega⟩
      rw [wX_drawTriangle_112]
      exact br_t (nI_le (by omega) (by omega)) (nm_r (nI_1 y) h)
    · obtain ⟨n, rfl⟩ : ∃ m, n = m + 1 := ⟨n - 1, by omega⟩
      rw [wY_triangle_148]
      exact br_t (by rw [nI_add]; exact nI_le (by omega) (by omega)) (nm_r (nI_1 y) h)
  | succ m ih =>
    intro x WA WB WC ZZ co de sn cn rx re gr bl ry hc hx
    obtain ⟨WA1, WB1, WC1, ZZ1, co1, de1, sn1, cn1, rx1, re1, gr1, bl1, ry1, hc1, HX1, HY1⟩ := lk_sim (KE := KE) (WA := WA) (WB := WB) (WC := WC) (co := co) (de := de) (sn := sn) (tx := tx) (vx := vx) (vy := vy) (vz := vz) (vq := vq) (vv := vv) (gs := gs) (cn := cn) (so := so) (sd := sd) (sa := sa) (sq := sq) (rx := rx) (ZZ := ZZ) (re := re) (gr := gr) (bl := bl) (pl := pl) (ry := ry) (sh := sh) (st := st) F hA hf hc hs (x := x) (by omega) hy
    obtain ⟨WA', WB', WC', ZZ', co', de', sn', cn', rx', re', gr', bl', ry', hc', HX, HY⟩ := ih (x + 1) WA1 WB1 WC1 ZZ1 co1 de1 sn1 cn1 rx1 re1 gr1 bl1 ry1 hc1 (by omega)
    refine ⟨WA', WB', WC', ZZ', co', de', sn', cn', rx', re', gr', bl', ry', hc', fun post J n hn h => ?_, fun post J n hn h => ?_⟩
    · obtain ⟨n, rfl⟩ : ∃ m, n = m + 1 := ⟨n - 1, by omega⟩
      exact HX1 post J n (HX post J n (by omega) h)
    · obtain ⟨n, rfl⟩ : ∃ m, n = m + 1 := ⟨n - 1, by omega⟩
      rw [wY_triangle_148]
      refine br_f (by rw [nI_add]; exact nI_ge (by omega) (by omega)) ?_
      exact HY1 _ (nm_r (nI_1 x) (HY post J n (by omega) h))
theorem cl_sim {ns sl st sw sh a b c fl : Nat} (F : fz_ok ns tx vx vy vz vq gs so sd sa sq pl) (hA : ar_p vx vy a b c) (hf : fl < 24) (hs : sl + sw ≤ 24) (ht : st + sh ≤ 16) : ∀ (m y : Nat) (WA WB WC ZZ : Int32) (co de sn cn rx re gr bl ry : Nat → Int32), ri_col co re gr bl → y + m = st + sh → ∃ (WA' WB' WC' ZZ' : Int32) (co' de' sn' cn' rx' re' gr' bl' ry' : Nat → Int32), ri_col co' re' gr' bl'
    ∧ (∀ (post : SX → Prop) (n : Nat), m < n → post (nI ns, nI sl, nI st, nI (sl + sw), nI (st + sh), KE, nI a, nI b, nI c, nI fl, WA', WB', WC', co', de', sn', tx, vx, vy, vz, vq, vv, gs, cn', so, sd, sa, sq, rx') → wX_drawTriangle_97 post n (nI y) (nI ns) (nI sl) (nI st) (nI (sl + sw)) (nI (st + sh)) KE (nI a) (nI b) (nI c) (nI fl) WA WB WC co de sn tx vx vy vz vq vv gs cn so sd sa sq rx)
    ∧ (∀ (post : SY → Prop) (n : Nat), m < n → post (nI sl, nI st, nI sw, nI sh, nI ns, KE, nI a, nI b, nI c, nI fl, ZZ', re', gr', bl', de', sn', tx, pl, vv, gs, so, sd, sa, sq, cn', ry') → wY_triangle_128 post n (nI y) (nI sl) (nI st) (nI sw) (nI sh) (nI ns) KE (nI a) (nI b) (nI c) (nI fl) ZZ re gr bl de sn tx pl vv gs so sd sa sq cn ry) := by
  intro m
  induction m with
  | zero =>
    intro y WA WB WC ZZ co de sn cn rx re gr bl ry hc hy
    refine ⟨WA, WB, WC, ZZ, co, de, sn, cn, rx, re, gr, bl, ry, hc, fun post n hn h => ?_, fun post n hn h => ?_⟩
    · obtain ⟨n, rfl⟩ : ∃ m, n = m + 1 := ⟨n - 1, by omega⟩
      rw [wX_drawTriangle_97]
      exact br_t (nI_le (by omega) (by omega)) h
    · obtain ⟨n, rfl⟩ : ∃ m, n = m + 1 := ⟨n - 1, by omega⟩
      rw [wY_triangle_128]
      exact br_t (by rw [nI_add]; exact nI_le (by omega) (by omega)) h
  | succ m ih =>
    intro y WA WB WC ZZ co de sn cn rx re gr bl ry hc hy
    obtain ⟨WA1, WB1, WC1, ZZ1, co1, de1, sn1, cn1, rx1, re1, gr1, bl1, ry1, hc1, HX1, HY1⟩ := rw_sim (KE := KE) (tx := tx) (vx := vx) (vy := vy) (vz := vz) (vq := vq) (vv := vv) (gs := gs) (so := so) (sd := sd) (sa := sa) (sq := sq) (pl := pl) (sh := sh) (st := st) F hA hf hs (y := y) (by omega) sw sl WA WB WC ZZ co de sn cn rx re gr bl ry hc (by omega)
    obtain ⟨WA', WB', WC', ZZ', co', de', sn', cn', rx', re', gr', bl', ry', hc', HX, HY⟩ := ih (y + 1) WA1 WB1 WC1 ZZ1 co1 de1 sn1 cn1 rx1 re1 gr1 bl1 ry1 hc1 (by omega)
    refine ⟨WA', WB', WC', ZZ', co', de', sn', cn', rx', re', gr', bl', ry', hc', fun post n hn h => ?_, fun post n hn h => ?_⟩
    · obtain ⟨n, rfl⟩ : ∃ m, n = m + 1 := ⟨n - 1, by omega⟩
      rw [wX_drawTriangle_97]
      exact br_f (nI_ge (by omega) (by omega)) ⟨sw + 1, HX1 post _ (sw + 1) (by omega) (HX post n (by omega) h)⟩
    · obtain ⟨n, rfl⟩ : ∃ m, n = m + 1 := ⟨n - 1, by omega⟩
      rw [wY_triangle_128]
      exact br_f (by rw [nI_add]; exact nI_ge (by omega) (by omega)) ⟨sw + 1, HY1 post _ (sw + 1) (by omega) (HY post n (by omega) h)⟩
end ROW
