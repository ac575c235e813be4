/-! clear -/
section CLR
variable {NS SL ST SR SB KE CA CB CC FL WA WB WC : Int32} {co de sn tx vx vy vz vq vv gs cn so sd sa sq rx : Nat → Int32}
variable {LE TO WI HI VA VB VC LA ZZ : Int32} {re gr bl pl ry : Nat → Int32}
theorem my_k184 {post : Int32 → SY → Prop} {J56 J75 : _} {what v y i : Int32} {x : Nat} (e : what = 0) (h : J75 (nI (x + 1)) re gr bl de sn tx pl vv gs so sd sa sq cn ry) : wY_clear_184 post J56 J75 what v y (nI x) i LE TO WI HI NS KE VA VB VC LA ZZ re gr bl de sn tx pl vv gs so sd sa sq cn ry :=
  br_f (fun z => absurd (e.symm.trans z) (by decide)) (br_f (fun z => absurd (e.symm.trans z) (by decide)) (nm_r (nI_1 x) h))
theorem my_k156 {post : Int32 → SY → Prop} {J56 J75 : _} {what v y i : Int32} {x : Nat} (vi : vp_in i 384) (e : what = 0) (h : J75 (nI (x + 1)) re gr (if wm_s (gs 8) then upd bl i.toNatClampNeg (v &&& 255) else bl) de sn tx pl vv gs so sd sa sq cn ry) : wY_clear_156 post J56 J75 what v y (nI x) i LE TO WI HI NS KE VA VB VC LA ZZ re gr bl de sn tx pl vv gs so sd sa sq cn ry := by
  by_cases a : (gs 8 &&& 4) = 0
  · rw [wm_s0 a, if_neg bz_f] at h
    exact br_t e (br_t a (my_k184 e h))
  · rw [wm_s1 a, if_pos rfl] at h
    exact br_t e (br_f a ⟨vi, nm_e (my_k184 e h)⟩)
theorem my_k125 {post : Int32 → SY → Prop} {J56 J75 : _} {what v y i : Int32} {x : Nat} (vi : vp_in i 384) (e : what = 0) (h : J75 (nI (x + 1)) re (if wm_q (gs 8) then upd gr i.toNatClampNeg ((v >>> ((8 : Int32) &&& 31)) &&& 255) else gr) (if wm_s (gs 8) then upd bl i.toNatClampNeg (v &&& 255) else bl) de sn tx pl vv gs so sd sa sq cn ry) : wY_clear_125 post J56 J75 what v y (nI x) i LE TO WI HI NS KE VA VB VC LA ZZ re gr bl de sn tx pl vv gs so sd sa sq cn ry := by
  by_cases a : (gs 8 &&& 2) = 0
  · rw [wm_q0 a, if_neg bz_f] at h
    exact br_t e (br_t a (my_k156 vi e h))
  · rw [wm_q1 a, if_pos rfl] at h
    exact br_t e (br_f a ⟨vi, nm_e (my_k156 vi e h)⟩)
theorem cq_sim {ns sl st sw sh x y : Nat} {what v : Int32} (hw : (what = 0 ∧ ∃ r g b : Nat, r < 256 ∧ g < 256 ∧ b < 256 ∧ v = cp_pk r g b) ∨ what = 1 ∨ what = 2) (hc : ri_col co re gr bl) (hs : sl + sw ≤ 24) (hx : x < sl + sw) (hy : y < 16) : ∃ (co' de' sn' re' gr' bl' : Nat → Int32), ri_col co' re' gr' bl'
    ∧ (∀ (post : Int32 → SX → Prop) (J : _) (n : Nat), wX_clear_56 post J what v (nI y) n (nI (x + 1)) (nI ns) (nI sl) (nI st) (nI (sl + sw)) (nI (st + sh)) KE CA CB CC FL WA WB WC co' de' sn' tx vx vy vz vq vv gs cn so sd sa sq rx → wX_clear_56 post J what v (nI y) (n + 1) (nI x) (nI ns) (nI sl) (nI st) (nI (sl + sw)) (nI (st + sh)) KE CA CB CC FL WA WB WC co de sn tx vx vy vz vq vv gs cn so sd sa sq rx)
    ∧ (∀ (post : Int32 → SY → Prop) (J : _) (n : Nat), wY_clear_75 post J what v (nI y) (nI sl) (nI st) (nI sw) (nI sh) (nI ns) KE VA VB VC LA ZZ n (nI (x + 1)) re' gr' bl' de' sn' tx pl vv gs so sd sa sq cn ry → wY_clear_75 post J what v (nI y) (nI sl) (nI st) (nI sw) (nI sh) (nI ns) KE VA VB VC LA ZZ (n + 1) (nI x) re gr bl de sn tx pl vv gs so sd sa sq cn ry) := by
  have vi : vp_in (nI (24 * y + x)) 384 := vp_in_nI (by omega) (by decide)
  have ex : nI y * 24 + nI x = nI (24 * y + x) := (ix_a (pk_mul y 24) x rfl).trans (congrArg nI (by omega))
  have ey : (24 : Int32) * nI y + nI x = nI (24 * y + x) := ix_a (pk_mul 24 y) x rfl
  have gx : ¬ nI (sl + sw) ≤ nI x := nI_ge hx (by omega)
  have gy : ¬ nI sl + nI sw ≤ nI x := by rw [nI_add]; exact gx
  rcases hw with ⟨e, r, g, b, hr, hg, hb, rfl⟩ | e | e
  · refine ⟨upd co (nI (24 * y + x)).toNatClampNeg (wm_f (gs 8) (co (nI (24 * y + x)).toNatClampNeg) (cp_pk r g b)), de, sn, (if wm_p (gs 8) then upd re (nI (24 * y + x)).toNatClampNeg (nI r) else re), (if wm_q (gs 8) then upd gr (nI (24 * y + x)).toNatClampNeg (nI g) else gr), (if wm_s (gs 8) then upd bl (nI (24 * y + x)).toNatClampNeg (nI b) else bl), ri_colW hc hr hg hb (gs 8), fun post J n h => ?_, fun post J n h => ?_⟩
    · rw [wX_clear_56]
      refine br_f gx ?_
      rw [ex]
      exact br_t e (mx_wcol vi (nm_r (nI_1 x) h))
    · rw [wY_clear_75]
      refine br_f gy (nm_r ey (br_t e ?_))
      rw [← cp_g hr hg hb, ← cp_b hr hg hb, ← cp_r hr hg hb] at h
      by_cases a : (gs 8 &&& 1) = 0
      · rw [wm_p0 a, if_neg bz_f] at h
        exact br_t a (my_k125 vi e h)
      · rw [wm_p1 a, if_pos rfl] at h
        exact br_f a ⟨vi, nm_e (my_k125 vi e h)⟩
  · have e0 : ¬ what = 0 := fun z => absurd (e.symm.trans z) (by decide)
    have e2 : ¬ what = 2 := fun z => absurd (e.symm.trans z) (by decide)
    refine ⟨co, (if gs 1 = 1 then upd de (nI (24 * y + x)).toNatClampNeg v else de), sn, re, gr, bl, hc, fun post J n h => ?_, fun post J n h => ?_⟩
    · rw [wX_clear_56]
      refine br_f gx ?_
      rw [ex]
      exact br_f e0 (br_t e (mx_wdep vi (nm_r (nI_1 x) h)))
    · rw [wY_clear_75]
      refine br_f gy (nm_r ey (br_f e0 (br_f e0 (br_f e0 (br_t e ?_)))))
      by_cases a : gs 1 = 1
      · rw [if_pos a] at h
        exact br_t a ⟨vi, nm_e (br_f e2 (nm_r (nI_1 x) h))⟩
      · rw [if_neg a] at h
        exact br_f a (br_f e2 (nm_r (nI_1 x) h))
  · have e0 : ¬ what = 0 := fun z => absurd (e.symm.trans z) (by decide)
    have e1 : ¬ what = 1 := fun z => absurd (e.symm.trans z) (by decide)
    refine ⟨co, de, upd sn (nI (24 * y + x)).toNatClampNeg v, re, gr, bl, hc, fun post J n h => ?_, fun post J n h => ?_⟩
    · rw [wX_clear_56]
      refine br_f gx ?_
      rw [ex]
      exact br_f e0 (br_f e1 ⟨vi, nm_e (nm_r (nI_1 x) h)⟩)
    · rw [wY_clear_75]
      exact br_f gy (nm_r ey (br_f e0 (br_f e0 (br_f e0 (br_f e1 (br_t e ⟨vi, nm_e (nm_r (nI_1 x) h)⟩))))))
theorem cr_sim {ns sl st sw sh y : Nat} {what v : Int32} (hw : (what = 0 ∧ ∃ r g b : Nat, r < 256 ∧ g < 256 ∧ b < 256 ∧ v = cp_pk r g b) ∨ what = 1 ∨ what = 2) (hs : sl + sw ≤ 24) (hy : y < 16) : ∀ (m x : Nat) (co de sn re gr bl : Nat → Int32), ri_col co re gr bl → x + m = sl + sw → ∃ (co' de' sn' re' gr' bl' : Nat → Int32), ri_col co' re' gr' bl'
    ∧ (∀ (post : Int32 → SX → Prop) (J : _) (n : Nat), m < n → J (nI (y + 1)) (nI ns) (nI sl) (nI st) (nI (sl + sw)) (nI (st + sh)) KE CA CB CC FL WA WB WC co' de' sn' tx vx vy vz vq vv gs cn so sd sa sq rx → wX_clear_56 post J what v (nI y) n (nI x) (nI ns) (nI sl) (nI st) (nI (sl + sw)) (nI (st + sh)) KE CA CB CC FL WA WB WC co de sn tx vx vy vz vq vv gs cn so sd sa sq rx)
    ∧ (∀ (post : Int32 → SY → Prop) (J : _) (n : Nat), m < n → J (nI (y + 1)) re' gr' bl' de' sn' tx pl vv gs so sd sa sq cn ry → wY_clear_75 post J what v (nI y) (nI sl) (nI st) (nI sw) (nI sh) (nI ns) KE VA VB VC LA ZZ n (nI x) re gr bl de sn tx pl vv gs so sd sa sq cn ry) := by
  intro m
  induction m with
  | zero =>
    intro x co de sn re gr bl hc hx
    refine ⟨co, de, sn, re, gr, bl, hc, fun post J n hn h => ?_, fun post J n hn h => ?_⟩
    · obtain ⟨n, rfl⟩ : ∃ m, n = m + 1 := ⟨n - 1, by omega⟩
      rw [wX_clear_56]
      exact br_t (nI_le (by omega) (by omega)) (nm_r (nI_1 y) h)
    · obtain ⟨n, rfl⟩ : ∃ m, n = m + 1 := ⟨n - 1, by omega⟩
      rw [wY_clear_75]
      exact br_t (by rw [nI_add]; exact nI_le (by omega) (by omega)) (nm_r (nI_1 y) h)
  | succ m ih =>
    intro x co de sn re gr bl hc hx
    obtain ⟨co1, de1, sn1, re1, gr1, bl1, hc1, HX1, HY1⟩ := cq_sim (KE := KE) (CA := CA) (CB := CB) (CC := CC) (FL := FL) (WA := WA) (WB := WB) (WC := WC) (co := co) (de := de) (sn := sn) (tx := tx) (vx := vx) (vy := vy) (vz := vz) (vq := vq) (vv := vv) (gs := gs) (cn := cn) (so := so) (sd := sd) (sa := sa) (sq := sq) (rx := rx) (VA := VA) (VB := VB) (VC := VC) (LA := LA) (ZZ := ZZ) (re := re) (gr := gr) (bl := bl) (pl := pl) (ry := ry) (ns := ns) (sh := sh) (st := st) hw hc hs (x := x) (by omega) hy
    obtain ⟨co', de', sn', re', gr', bl', hc', HX, HY⟩ := ih (x + 1) co1 de1 sn1 re1 gr1 bl1 hc1 (by omega)
    refine ⟨co', de', sn', re', gr', bl', hc', fun post J n hn h => ?_, fun post J n hn h => ?_⟩
    · obtain ⟨n, rfl⟩ : ∃ m, n = m + 1 := ⟨n - 1, by omega⟩
      exact HX1 post J n (HX post J n (by omega) h)
    · obtain ⟨n, rfl⟩ : ∃ m, n = m + 1 := ⟨n - 1, by omega⟩
      exact HY1 post J n (HY post J n (by omega) h)
theorem cc_sim {ns sl st sw sh : Nat} {what v : Int32} (hw : (what = 0 ∧ ∃ r g b : Nat, r < 256 ∧ g < 256 ∧ b < 256 ∧ v = cp_pk r g b) ∨ what = 1 ∨ what = 2) (hs : sl + sw ≤ 24) (ht : st + sh ≤ 16) : ∀ (m y : Nat) (co de sn re gr bl : Nat → Int32), ri_col co re gr bl → y + m = st + sh → ∃ (co' de' sn' re' gr' bl' : Nat → Int32), ri_col co' re' gr' bl'
    ∧ (∀ (post : Int32 → SX → Prop) (n : Nat), m < n → post 1 (nI ns, nI sl, nI st, nI (sl + sw), nI (st + sh), KE, CA, CB, CC, FL, WA, WB, WC, co', de', sn', tx, vx, vy, vz, vq, vv, gs, cn, so, sd, sa, sq, rx) → wX_clear_41 post what v n (nI y) (nI ns) (nI sl) (nI st) (nI (sl + sw)) (nI (st + sh)) KE CA CB CC FL WA WB WC co de sn tx vx vy vz vq vv gs cn so sd sa sq rx)
    ∧ (∀ (post : Int32 → SY → Prop) (n : Nat), m < n → post 1 (nI sl, nI st, nI sw, nI sh, nI ns, KE, VA, VB, VC, LA, ZZ, re', gr', bl', de', sn', tx, pl, vv, gs, so, sd, sa, sq, cn, ry) → wY_clear_56 post what v (nI sl) (nI st) (nI sw) (nI sh) (nI ns) KE VA VB VC LA ZZ n (nI y) re gr bl de sn tx pl vv gs so sd sa sq cn ry) := by
  intro m
  induction m with
  | zero =>
    intro y co de sn re gr bl hc hy
    refine ⟨co, de, sn, re, gr, bl, hc, fun post n hn h => ?_, fun post n hn h => ?_⟩
    · obtain ⟨n, rfl⟩ : ∃ m, n = m + 1 := ⟨n - 1, by omega⟩
      rw [wX_clear_41]
      exact br_t (nI_le (by omega) (by omega)) h
    · obtain ⟨n, rfl⟩ : ∃ m, n = m + 1 := ⟨n - 1, by omega⟩
      rw [wY_clear_56]
      exact br_t (by rw [nI_add]; exact nI_le (by omega) (by omega)) h
  | succ m ih =>
    intro y co de sn re gr bl hc hy
    obtain ⟨co1, de1, sn1, re1, gr1, bl1, hc1, HX1, HY1⟩ := cr_sim (KE := KE) (CA := CA) (CB := CB) (CC := CC) (FL := FL) (WA := WA) (WB := WB) (WC := WC) (tx := tx) (vx := vx) (vy := vy) (vz := vz) (vq := vq) (vv := vv) (gs := gs) (cn := cn) (so := so) (sd := sd) (sa := sa) (sq := sq) (rx := rx) (VA := VA) (VB := VB) (VC := VC) (LA := LA) (ZZ := ZZ) (pl := pl) (ry := ry) (ns := ns) (sh := sh) (st := st) hw hs (y := y) (by omega) sw sl co de sn re gr bl hc rfl
    obtain ⟨co', de', sn', re', gr', bl', hc', HX, HY⟩ := ih (y + 1) co1 de1 sn1 re1 gr1 bl1 hc1 (by omega)
    refine ⟨co', de', sn', re', gr', bl', hc', fun post n hn h => ?_, fun post n hn h => ?_⟩
    · obtain ⟨n, rfl⟩ : ∃ m, n = m + 1 := ⟨n - 1, by omega⟩
      rw [wX_clear_41]
      exact br_f (nI_ge (by omega) (by omega)) ⟨sw + 1, HX1 post _ (sw + 1) (by omega) (HX post n (by omega) h)⟩
    · obtain ⟨n, rfl⟩ : ∃ m, n = m + 1 := ⟨n - 1, by omega⟩
      rw [wY_clear_56]
      exact br_f (by rw [nI_add]; exact nI_ge (by omega) (by omega)) ⟨sw + 1, HY1 post _ (sw + 1) (by omega) (HY post n (by omega) h)⟩
end CLR
theorem i_vc_clear {k : Nat} {u : SX} {v : SY} (I : i_Rel k u v) (hk : k + 6 ≤ 3072) (v1 : Int32) (v2 : Int32) : wpX_clear (fun r u' => wpY_clear (fun r' v' => r' = r ∧ i_Rel (k + 6) u' v') v v1 v2) u v1 v2 := by
  obtain ⟨ns, sl, st, sw, sh, KE, CA, CB, CC, FL, WA, WB, WC, VA, VB, VC, LA, ZZ, co, de, sn, tx, vx, vy, vz, vq, vv, gs, cn, so, sd, sa, sq, rx, re, gr, bl, pl, ry, rfl, rfl, R⟩ := I
  unfold wpX_clear
  refine mx_btw (fun a => br_f n10 ?_) (fun a => br_t rfl ?_)
  · obtain ⟨w, hw2, rfl⟩ := ic_of 2 (by decide) a.1 a.2
    have c : w = 0 ∨ w = 1 ∨ w = 2 := by omega
    rcases c with rfl | rfl | rfl
    · refine br_t rfl (?_)
      refine mx_btw (fun b => br_f n10 ?_) (fun b => br_t rfl ?_)
      · have cw : ∃ r g b : Nat, r < 256 ∧ g < 256 ∧ b < 256 ∧ v2 = cp_pk r g b := by
          obtain ⟨c, hc, e⟩ := ic_of 16777215 (by decide) b.1 b.2
          rw [e]
          exact cp_of (by omega)
        have hw : (nI 0 = 0 ∧ ∃ r g b : Nat, r < 256 ∧ g < 256 ∧ b < 256 ∧ v2 = cp_pk r g b) ∨ nI 0 = 1 ∨ nI 0 = 2 := Or.inl ⟨rfl, cw⟩
        obtain ⟨co', de', sn', re', gr', bl', hc', HX, HY⟩ := cc_sim (KE := KE) (CA := CA) (CB := CB) (CC := CC) (FL := FL) (WA := WA) (WB := WB) (WC := WC) (tx := tx) (vx := vx) (vy := vy) (vz := vz) (vq := vq) (vv := vv) (gs := gs) (cn := cn) (so := so) (sd := sd) (sa := sa) (sq := sq) (rx := rx) (VA := VA) (VB := VB) (VC := VC) (LA := LA) (ZZ := ZZ) (pl := pl) (ry := ry) (ns := ns) (sl := sl) (sw := sw) hw R.1.2.1 R.1.2.2 sh st co de sn re gr bl R.2.1 rfl
        refine ⟨sh + 1, HX _ (sh + 1) (by omega) ?_⟩
        unfold wpY_clear
        refine my_in (fun _ => br_f n10 ?_) (fun n => absurd a n)
        refine br_t rfl (?_)
        exact my_in (fun _ => br_f n10 ⟨sh + 1, HY _ (sh + 1) (by omega) ⟨rfl, rel_mk ⟨R.1, hc', R.2.2⟩⟩⟩) (fun n => absurd b n)
      · refine mx_refuse ⟨rfl, ?_⟩
        unfold wpY_clear
        refine my_in (fun _ => br_f n10 ?_) (fun n => absurd a n)
        refine br_t rfl (?_)
        exact my_in (fun c => absurd c b) (fun _ => br_t rfl (my_fails ⟨rfl, rfl, rel_mk R⟩))
    · refine br_f (by decide) (br_t rfl (?_))
      refine mx_btw (fun b => br_f n10 ?_) (fun b => br_t rfl ?_)
      · have hw : (nI 1 = 0 ∧ ∃ r g b : Nat, r < 256 ∧ g < 256 ∧ b < 256 ∧ v2 = cp_pk r g b) ∨ nI 1 = 1 ∨ nI 1 = 2 := Or.inr (Or.inl rfl)
        obtain ⟨co', de', sn', re', gr', bl', hc', HX, HY⟩ := cc_sim (KE := KE) (CA := CA) (CB := CB) (CC := CC) (FL := FL) (WA := WA) (WB := WB) (WC := WC) (tx := tx) (vx := vx) (vy := vy) (vz := vz) (vq := vq) (vv := vv) (gs := gs) (cn := cn) (so := so) (sd := sd) (sa := sa) (sq := sq) (rx := rx) (VA := VA) (VB := VB) (VC := VC) (LA := LA) (ZZ := ZZ) (pl := pl) (ry := ry) (ns := ns) (sl := sl) (sw := sw) hw R.1.2.1 R.1.2.2 sh st co de sn re gr bl R.2.1 rfl
        refine ⟨sh + 1, HX _ (sh + 1) (by omega) ?_⟩
        unfold wpY_clear
        refine my_in (fun _ => br_f n10 ?_) (fun n => absurd a n)
        refine br_f (by decide) (br_t rfl (?_))
        exact my_in (fun _ => br_f n10 ⟨sh + 1, HY _ (sh + 1) (by omega) ⟨rfl, rel_mk ⟨R.1, hc', R.2.2⟩⟩⟩) (fun n => absurd b n)
      · refine mx_refuse ⟨rfl, ?_⟩
        unfold wpY_clear
        refine my_in (fun _ => br_f n10 ?_) (fun n => absurd a n)
        refine br_f (by decide) (br_t rfl (?_))
        exact my_in (fun c => absurd c b) (fun _ => br_t rfl (my_fails ⟨rfl, rfl, rel_mk R⟩))
    · refine br_f (by decide) (br_f (by decide) (?_))
      refine mx_btw (fun b => br_f n10 ?_) (fun b => br_t rfl ?_)
      · have hw : (nI 2 = 0 ∧ ∃ r g b : Nat, r < 256 ∧ g < 256 ∧ b < 256 ∧ v2 = cp_pk r g b) ∨ nI 2 = 1 ∨ nI 2 = 2 := Or.inr (Or.inr rfl)
        obtain ⟨co', de', sn', re', gr', bl', hc', HX, HY⟩ := cc_sim (KE := KE) (CA := CA) (CB := CB) (CC := CC) (FL := FL) (WA := WA) (WB := WB) (WC := WC) (tx := tx) (vx := vx) (vy := vy) (vz := vz) (vq := vq) (vv := vv) (gs := gs) (cn := cn) (so := so) (sd := sd) (sa := sa) (sq := sq) (rx := rx) (VA := VA) (VB := VB) (VC := VC) (LA := LA) (ZZ := ZZ) (pl := pl) (ry := ry) (ns := ns) (sl := sl) (sw := sw) hw R.1.2.1 R.1.2.2 sh st co de sn re gr bl R.2.1 rfl
        refine ⟨sh + 1, HX _ (sh + 1) (by omega) ?_⟩
        unfold wpY_clear
        refine my_in (fun _ => br_f n10 ?_) (fun n => absurd a n)
        refine br_f (by decide) (br_f (by decide) (?_))
        exact my_in (fun _ => br_f n10 ⟨sh + 1, HY _ (sh + 1) (by omega) ⟨rfl, rel_mk ⟨R.1, hc', R.2.2⟩⟩⟩) (fun n => absurd b n)
      · refine mx_refuse ⟨rfl, ?_⟩
        unfold wpY_clear
        refine my_in (fun _ => br_f n10 ?_) (fun n => absurd a n)
        refine br_f (by decide) (br_f (by decide) (?_))
        exact my_in (fun c => absurd c b) (fun _ => br_t rfl (my_fails ⟨rfl, rfl, rel_mk R⟩))
  · refine mx_refuse ⟨rfl, ?_⟩
    unfold wpY_clear
    exact my_in (fun c => absurd c a) (fun _ => br_t rfl (my_fails ⟨rfl, rfl, rel_mk R⟩))
