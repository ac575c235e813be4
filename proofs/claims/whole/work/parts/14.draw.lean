/-! the four modes of draw, in lockstep -/
section DRW
variable {NS SL ST SR SB KE CA CB CC FL WA WB WC : Int32} {co de sn tx vx vy vz vq vv gs cn so sd sa sq rx : Nat → Int32}
variable {LE TO WI HI VA VB VC LA ZZ : Int32} {re gr bl pl ry : Nat → Int32}
theorem dp_sim {ns sl st sw sh f cnt : Nat} {x1 : Int32} (F : fz_ok ns tx vx vy vz vq gs so sd sa sq pl) (hs : sl + sw ≤ 24) (ht : st + sh ≤ 16) (hf : f + cnt ≤ 24) : ∀ (m i : Nat) (CA CB CC FL WA WB WC VA VB VC LA ZZ : Int32) (co de sn cn rx re gr bl ry : Nat → Int32), ri_col co re gr bl → i + m = cnt → ∃ (CA' CB' CC' FL' WA' WB' WC' VA' VB' VC' LA' ZZ' : Int32) (co' de' sn' cn' rx' re' gr' bl' ry' : Nat → Int32), ri_col co' re' gr' bl'
    ∧ (∀ (post : SX → Prop) (n : Nat), m < n → post (nI ns, nI sl, nI st, nI (sl + sw), nI (st + sh), KE, CA', CB', CC', FL', WA', WB', WC', co', de', sn', tx, vx, vy, vz, vq, vv, gs, cn', so, sd, sa, sq, rx') → wX_drawPoints_2 post (nI f) (nI cnt) n (nI i) (nI ns) (nI sl) (nI st) (nI (sl + sw)) (nI (st + sh)) KE CA CB CC FL WA WB WC co de sn tx vx vy vz vq vv gs cn so sd sa sq rx)
    ∧ (∀ (post : Int32 → SY → Prop) (n : Nat), m < n → wY_draw_94 post x1 (nI f) (nI cnt) (nI sl) (nI st) (nI sw) (nI sh) (nI ns) KE VA' VB' VC' LA' ZZ' re' gr' bl' de' sn' tx pl vv gs so sd sa sq cn' ry' → wY_draw_74 post x1 (nI f) (nI cnt) n (nI (f + i)) (nI sl) (nI st) (nI sw) (nI sh) (nI ns) KE VA VB VC LA ZZ re gr bl de sn tx pl vv gs so sd sa sq cn ry) := by
  intro m
  induction m with
  | zero =>
    intro i CA CB CC FL WA WB WC VA VB VC LA ZZ co de sn cn rx re gr bl ry hc hi
    refine ⟨CA, CB, CC, FL, WA, WB, WC, VA, VB, VC, LA, ZZ, co, de, sn, cn, rx, re, gr, bl, ry, hc, fun post n hn h => ?_, fun post n hn h => ?_⟩
    · obtain ⟨n, rfl⟩ : ∃ m, n = m + 1 := ⟨n - 1, by omega⟩
      rw [wX_drawPoints_2]
      exact br_t (nI_le (by omega) (by omega)) h
    · obtain ⟨n, rfl⟩ : ∃ m, n = m + 1 := ⟨n - 1, by omega⟩
      rw [wY_draw_74]
      exact br_t (by rw [nI_add]; exact nI_le (by omega) (by omega)) h
  | succ m ih =>
    intro i CA CB CC FL WA WB WC VA VB VC LA ZZ co de sn cn rx re gr bl ry hc hi
    obtain ⟨CA1, CB1, CC1, FL1, WA1, WB1, WC1, VA1, VB1, VC1, LA1, ZZ1, co1, de1, sn1, cn1, rx1, re1, gr1, bl1, ry1, hc1, HX1, HY1⟩ := pt_sim (KE := KE) (CA := CA) (CB := CB) (CC := CC) (FL := FL) (WA := WA) (WB := WB) (WC := WC) (co := co) (de := de) (sn := sn) (tx := tx) (vx := vx) (vy := vy) (vz := vz) (vq := vq) (vv := vv) (gs := gs) (cn := cn) (so := so) (sd := sd) (sa := sa) (sq := sq) (rx := rx) (VA := VA) (VB := VB) (VC := VC) (LA := LA) (ZZ := ZZ) (re := re) (gr := gr) (bl := bl) (pl := pl) (ry := ry) F hs ht (i := f + i) (by omega) hc
    obtain ⟨CA', CB', CC', FL', WA', WB', WC', VA', VB', VC', LA', ZZ', co', de', sn', cn', rx', re', gr', bl', ry', hc', HX, HY⟩ := ih (i + 1) CA1 CB1 CC1 FL1 WA1 WB1 WC1 VA1 VB1 VC1 LA1 ZZ1 co1 de1 sn1 cn1 rx1 re1 gr1 bl1 ry1 hc1 (by omega)
    refine ⟨CA', CB', CC', FL', WA', WB', WC', VA', VB', VC', LA', ZZ', co', de', sn', cn', rx', re', gr', bl', ry', hc', fun post n hn h => ?_, fun post n hn h => ?_⟩
    · obtain ⟨n, rfl⟩ : ∃ m, n = m + 1 := ⟨n - 1, by omega⟩
      rw [wX_drawPoints_2]
      refine br_f (nI_ge (by omega) (by omega)) ?_
      rw [nI_add f i]
      exact HX1 _ (nm_r (nI_1 i) (HX post n (by omega) h))
    · obtain ⟨n, rfl⟩ : ∃ m, n = m + 1 := ⟨n - 1, by omega⟩
      rw [wY_draw_74]
      refine br_f (by rw [nI_add]; exact nI_ge (by omega) (by omega)) ?_
      exact HY1 _ (nm_r (nI_1 (f + i)) (HY post n (by omega) h))
theorem dt_sim {ns sl st sw sh f cnt : Nat} {x1 : Int32} (F : fz_ok ns tx vx vy vz vq gs so sd sa sq pl) (hs : sl + sw ≤ 24) (ht : st + sh ≤ 16) (hf : f + cnt ≤ 24) : ∀ (m i : Nat) (CA CB CC FL WA WB WC VA VB VC LA ZZ : Int32) (co de sn cn rx re gr bl ry : Nat → Int32), ri_col co re gr bl → cnt ≤ i + m → i ≤ 60 → ∃ (CA' CB' CC' FL' WA' WB' WC' VA' VB' VC' LA' ZZ' : Int32) (co' de' sn' cn' rx' re' gr' bl' ry' : Nat → Int32), ri_col co' re' gr' bl'
    ∧ (∀ (post : SX → Prop) (n : Nat), m < n → post (nI ns, nI sl, nI st, nI (sl + sw), nI (st + sh), KE, CA', CB', CC', FL', WA', WB', WC', co', de', sn', tx, vx, vy, vz, vq, vv, gs, cn', so, sd, sa, sq, rx') → wX_drawTriangles_2 post (nI f) (nI cnt) n (nI i) (nI ns) (nI sl) (nI st) (nI (sl + sw)) (nI (st + sh)) KE CA CB CC FL WA WB WC co de sn tx vx vy vz vq vv gs cn so sd sa sq rx)
    ∧ (∀ (post : Int32 → SY → Prop) (n : Nat), m < n → wY_draw_136 post x1 (nI f) (nI cnt) (nI sl) (nI st) (nI sw) (nI sh) (nI ns) KE VA' VB' VC' LA' ZZ' re' gr' bl' de' sn' tx pl vv gs so sd sa sq cn' ry' → wY_draw_102 post x1 (nI f) (nI cnt) n (nI i) (nI sl) (nI st) (nI sw) (nI sh) (nI ns) KE VA VB VC LA ZZ re gr bl de sn tx pl vv gs so sd sa sq cn ry) := by
  intro m
  induction m with
  | zero =>
    intro i CA CB CC FL WA WB WC VA VB VC LA ZZ co de sn cn rx re gr bl ry hc hi h60
    have x2 : nI i + 2 = nI (i + 2) := nI_add i 2
    have y3 : nI i + 3 = nI (i + 3) := nI_add i 3
    refine ⟨CA, CB, CC, FL, WA, WB, WC, VA, VB, VC, LA, ZZ, co, de, sn, cn, rx, re, gr, bl, ry, hc, fun post n hn h => (by obtain ⟨n, rfl⟩ : ∃ m, n = m + 1 := ⟨n - 1, by omega⟩; rw [wX_drawTriangles_2]; exact br_t (by rw [x2]; exact nI_le (by omega) (by omega)) h), fun post n hn h => (by obtain ⟨n, rfl⟩ : ∃ m, n = m + 1 := ⟨n - 1, by omega⟩; rw [wY_draw_102]; exact br_t (by rw [y3]; exact nI_lt (by omega) (by omega)) h)⟩
  | succ m ih =>
    intro i CA CB CC FL WA WB WC VA VB VC LA ZZ co de sn cn rx re gr bl ry hc hi h60
    have x2 : nI i + 2 = nI (i + 2) := nI_add i 2
    have y3 : nI i + 3 = nI (i + 3) := nI_add i 3
    by_cases q : cnt ≤ i + 2
    · refine ⟨CA, CB, CC, FL, WA, WB, WC, VA, VB, VC, LA, ZZ, co, de, sn, cn, rx, re, gr, bl, ry, hc, fun post n hn h => (by obtain ⟨n, rfl⟩ : ∃ m, n = m + 1 := ⟨n - 1, by omega⟩; rw [wX_drawTriangles_2]; exact br_t (by rw [x2]; exact nI_le (by omega) (by omega)) h), fun post n hn h => (by obtain ⟨n, rfl⟩ : ∃ m, n = m + 1 := ⟨n - 1, by omega⟩; rw [wY_draw_102]; exact br_t (by rw [y3]; exact nI_lt (by omega) (by omega)) h)⟩
    obtain ⟨CA1, CB1, CC1, FL1, WA1, WB1, WC1, VA1, VB1, VC1, LA1, ZZ1, co1, de1, sn1, cn1, rx1, re1, gr1, bl1, ry1, hc1, HX1, HY1⟩ := tr_sim (KE := KE) (CA := CA) (CB := CB) (CC := CC) (FL := FL) (WA := WA) (WB := WB) (WC := WC) (co := co) (de := de) (sn := sn) (tx := tx) (vx := vx) (vy := vy) (vz := vz) (vq := vq) (vv := vv) (gs := gs) (cn := cn) (so := so) (sd := sd) (sa := sa) (sq := sq) (rx := rx) (VA := VA) (VB := VB) (VC := VC) (LA := LA) (ZZ := ZZ) (re := re) (gr := gr) (bl := bl) (pl := pl) (ry := ry) F hs ht (a := f + i) (b := f + i + 1) (c := f + i + 2) (by omega) (by omega) (by omega) hc
    obtain ⟨CA', CB', CC', FL', WA', WB', WC', VA', VB', VC', LA', ZZ', co', de', sn', cn', rx', re', gr', bl', ry', hc', HX, HY⟩ := ih (i + 3) CA1 CB1 CC1 FL1 WA1 WB1 WC1 VA1 VB1 VC1 LA1 ZZ1 co1 de1 sn1 cn1 rx1 re1 gr1 bl1 ry1 hc1 (by omega) (by omega)
    have e2 : nI (f + i) + 2 = nI (f + i + 2) := nI_add (f + i) 2
    refine ⟨CA', CB', CC', FL', WA', WB', WC', VA', VB', VC', LA', ZZ', co', de', sn', cn', rx', re', gr', bl', ry', hc', fun post n hn h => ?_, fun post n hn h => ?_⟩
    · obtain ⟨n, rfl⟩ : ∃ m, n = m + 1 := ⟨n - 1, by omega⟩
      rw [wX_drawTriangles_2]
      refine br_f (by rw [x2]; exact nI_ge (by omega) (by omega)) (nm_r (nI_add f i) ?_)
      rw [nI_1 (f + i), e2]
      exact HX1 _ (nm_r y3 (HX post n (by omega) h))
    · obtain ⟨n, rfl⟩ : ∃ m, n = m + 1 := ⟨n - 1, by omega⟩
      rw [wY_draw_102]
      refine br_f (by rw [y3]; exact nI_nlt (by omega) (by omega)) ?_
      rw [nI_add f i, nI_1 (f + i), e2]
      exact HY1 _ (nm_r y3 (HY post n (by omega) h))
theorem ds_sim {ns sl st sw sh f cnt : Nat} {x1 : Int32} (F : fz_ok ns tx vx vy vz vq gs so sd sa sq pl) (hs : sl + sw ≤ 24) (ht : st + sh ≤ 16) (hf : f + cnt ≤ 24) : ∀ (m i : Nat) (CA CB CC FL WA WB WC VA VB VC LA ZZ : Int32) (co de sn cn rx re gr bl ry : Nat → Int32), ri_col co re gr bl → cnt ≤ i + m → i ≤ 60 → ∃ (CA' CB' CC' FL' WA' WB' WC' VA' VB' VC' LA' ZZ' : Int32) (co' de' sn' cn' rx' re' gr' bl' ry' : Nat → Int32), ri_col co' re' gr' bl'
    ∧ (∀ (post : SX → Prop) (n : Nat), m < n → post (nI ns, nI sl, nI st, nI (sl + sw), nI (st + sh), KE, CA', CB', CC', FL', WA', WB', WC', co', de', sn', tx, vx, vy, vz, vq, vv, gs, cn', so, sd, sa, sq, rx') → wX_drawStrip_2 post (nI f) (nI cnt) n (nI i) (nI ns) (nI sl) (nI st) (nI (sl + sw)) (nI (st + sh)) KE CA CB CC FL WA WB WC co de sn tx vx vy vz vq vv gs cn so sd sa sq rx)
    ∧ (∀ (post : Int32 → SY → Prop) (n : Nat), m < n → wY_draw_190 post x1 (nI f) (nI cnt) (nI sl) (nI st) (nI sw) (nI sh) (nI ns) KE VA' VB' VC' LA' ZZ' re' gr' bl' de' sn' tx pl vv gs so sd sa sq cn' ry' → wY_draw_144 post x1 (nI f) (nI cnt) n (nI i) (nI sl) (nI st) (nI sw) (nI sh) (nI ns) KE VA VB VC LA ZZ re gr bl de sn tx pl vv gs so sd sa sq cn ry) := by
  intro m
  induction m with
  | zero =>
    intro i CA CB CC FL WA WB WC VA VB VC LA ZZ co de sn cn rx re gr bl ry hc hi h60
    have x2 : nI i + 2 = nI (i + 2) := nI_add i 2
    have y3 : nI i + 3 = nI (i + 3) := nI_add i 3
    refine ⟨CA, CB, CC, FL, WA, WB, WC, VA, VB, VC, LA, ZZ, co, de, sn, cn, rx, re, gr, bl, ry, hc, fun post n hn h => (by obtain ⟨n, rfl⟩ : ∃ m, n = m + 1 := ⟨n - 1, by omega⟩; rw [wX_drawStrip_2]; exact br_t (by rw [x2]; exact nI_le (by omega) (by omega)) h), fun post n hn h => (by obtain ⟨n, rfl⟩ : ∃ m, n = m + 1 := ⟨n - 1, by omega⟩; rw [wY_draw_144]; exact br_t (by rw [y3]; exact nI_lt (by omega) (by omega)) h)⟩
  | succ m ih =>
    intro i CA CB CC FL WA WB WC VA VB VC LA ZZ co de sn cn rx re gr bl ry hc hi h60
    have x2 : nI i + 2 = nI (i + 2) := nI_add i 2
    have y3 : nI i + 3 = nI (i + 3) := nI_add i 3
    by_cases q : cnt ≤ i + 2
    · refine ⟨CA, CB, CC, FL, WA, WB, WC, VA, VB, VC, LA, ZZ, co, de, sn, cn, rx, re, gr, bl, ry, hc, fun post n hn h => (by obtain ⟨n, rfl⟩ : ∃ m, n = m + 1 := ⟨n - 1, by omega⟩; rw [wX_drawStrip_2]; exact br_t (by rw [x2]; exact nI_le (by omega) (by omega)) h), fun post n hn h => (by obtain ⟨n, rfl⟩ : ∃ m, n = m + 1 := ⟨n - 1, by omega⟩; rw [wY_draw_144]; exact br_t (by rw [y3]; exact nI_lt (by omega) (by omega)) h)⟩
    have e2 : nI (f + i) + 2 = nI (f + i + 2) := nI_add (f + i) 2
    have q3 : nI f + nI i + 2 = nI (f + i + 2) := ix_a (nI_add f i) 2 rfl
    have rm : nI i - nI i / 2 * 2 = nI (i % 2) := pk_rem (d := 2) (by omega) (by decide) (by decide)
    by_cases par : i % 2 = 0
    · obtain ⟨CA1, CB1, CC1, FL1, WA1, WB1, WC1, VA1, VB1, VC1, LA1, ZZ1, co1, de1, sn1, cn1, rx1, re1, gr1, bl1, ry1, hc1, HX1, HY1⟩ := tr_sim (KE := KE) (CA := CA) (CB := CB) (CC := CC) (FL := FL) (WA := WA) (WB := WB) (WC := WC) (co := co) (de := de) (sn := sn) (tx := tx) (vx := vx) (vy := vy) (vz := vz) (vq := vq) (vv := vv) (gs := gs) (cn := cn) (so := so) (sd := sd) (sa := sa) (sq := sq) (rx := rx) (VA := VA) (VB := VB) (VC := VC) (LA := LA) (ZZ := ZZ) (re := re) (gr := gr) (bl := bl) (pl := pl) (ry := ry) F hs ht (a := f + i) (b := f + i + 1) (c := f + i + 2) (by omega) (by omega) (by omega) hc
      obtain ⟨CA', CB', CC', FL', WA', WB', WC', VA', VB', VC', LA', ZZ', co', de', sn', cn', rx', re', gr', bl', ry', hc', HX, HY⟩ := ih (i + 1) CA1 CB1 CC1 FL1 WA1 WB1 WC1 VA1 VB1 VC1 LA1 ZZ1 co1 de1 sn1 cn1 rx1 re1 gr1 bl1 ry1 hc1 (by omega) (by omega)
      have q1 : nI f + nI i + nI 0 = nI (f + i) := ix_a (nI_add f i) 0 rfl
      have q2 : nI f + nI i + 1 - nI 0 = nI (f + i + 1) := by
        rw [nI_add, nI_1, pk_sub (Nat.zero_le _)]
        rfl
      refine ⟨CA', CB', CC', FL', WA', WB', WC', VA', VB', VC', LA', ZZ', co', de', sn', cn', rx', re', gr', bl', ry', hc', fun post n hn h => ?_, fun post n hn h => ?_⟩
      · obtain ⟨n, rfl⟩ : ∃ m, n = m + 1 := ⟨n - 1, by omega⟩
        rw [wX_drawStrip_2]
        refine br_f (by rw [x2]; exact nI_ge (by omega) (by omega)) (nm_r (nI_add f i) ⟨by decide, br_t (by rw [rm, par]; rfl) ?_⟩)
        rw [nI_1 (f + i), e2]
        exact HX1 _ (nm_r (nI_1 i) (HX post n (by omega) h))
      · obtain ⟨n, rfl⟩ : ∃ m, n = m + 1 := ⟨n - 1, by omega⟩
        rw [wY_draw_144]
        refine br_f (by rw [y3]; exact nI_nlt (by omega) (by omega)) ⟨by decide, nm_r (e' := nI 0) (by rw [rm, par]) ?_⟩
        rw [q1, q2, q3]
        exact HY1 _ (nm_r (nI_1 i) (HY post n (by omega) h))
    · have par1 : i % 2 = 1 := by omega
      obtain ⟨CA1, CB1, CC1, FL1, WA1, WB1, WC1, VA1, VB1, VC1, LA1, ZZ1, co1, de1, sn1, cn1, rx1, re1, gr1, bl1, ry1, hc1, HX1, HY1⟩ := tr_sim (KE := KE) (CA := CA) (CB := CB) (CC := CC) (FL := FL) (WA := WA) (WB := WB) (WC := WC) (co := co) (de := de) (sn := sn) (tx := tx) (vx := vx) (vy := vy) (vz := vz) (vq := vq) (vv := vv) (gs := gs) (cn := cn) (so := so) (sd := sd) (sa := sa) (sq := sq) (rx := rx) (VA := VA) (VB := VB) (VC := VC) (LA := LA) (ZZ := ZZ) (re := re) (gr := gr) (bl := bl) (pl := pl) (ry := ry) F hs ht (a := f + i + 1) (b := f + i) (c := f + i + 2) (by omega) (by omega) (by omega) hc
      obtain ⟨CA', CB', CC', FL', WA', WB', WC', VA', VB', VC', LA', ZZ', co', de', sn', cn', rx', re', gr', bl', ry', hc', HX, HY⟩ := ih (i + 1) CA1 CB1 CC1 FL1 WA1 WB1 WC1 VA1 VB1 VC1 LA1 ZZ1 co1 de1 sn1 cn1 rx1 re1 gr1 bl1 ry1 hc1 (by omega) (by omega)
      have q1 : nI f + nI i + nI 1 = nI (f + i + 1) := ix_a (nI_add f i) 1 rfl
      have q2 : nI f + nI i + 1 - nI 1 = nI (f + i) := by
        rw [nI_add, nI_1, pk_sub (by omega)]
        rfl
      refine ⟨CA', CB', CC', FL', WA', WB', WC', VA', VB', VC', LA', ZZ', co', de', sn', cn', rx', re', gr', bl', ry', hc', fun post n hn h => ?_, fun post n hn h => ?_⟩
      · obtain ⟨n, rfl⟩ : ∃ m, n = m + 1 := ⟨n - 1, by omega⟩
        rw [wX_drawStrip_2]
        refine br_f (by rw [x2]; exact nI_ge (by omega) (by omega)) (nm_r (nI_add f i) ⟨by decide, br_f (by rw [rm, par1]; decide) ?_⟩)
        rw [nI_1 (f + i), e2]
        exact HX1 _ (nm_r (nI_1 i) (HX post n (by omega) h))
      · obtain ⟨n, rfl⟩ : ∃ m, n = m + 1 := ⟨n - 1, by omega⟩
        rw [wY_draw_144]
        refine br_f (by rw [y3]; exact nI_nlt (by omega) (by omega)) ⟨by decide, nm_r (e' := nI 1) (by rw [rm, par1]) ?_⟩
        rw [q1, q2, q3]
        exact HY1 _ (nm_r (nI_1 i) (HY post n (by omega) h))
theorem df_sim {ns sl st sw sh f cnt : Nat} (F : fz_ok ns tx vx vy vz vq gs so sd sa sq pl) (hs : sl + sw ≤ 24) (ht : st + sh ≤ 16) (hf : f + cnt ≤ 24) : ∀ (m i : Nat) (CA CB CC FL WA WB WC VA VB VC LA ZZ : Int32) (co de sn cn rx re gr bl ry : Nat → Int32), ri_col co re gr bl → cnt ≤ i + m → i ≤ 60 → ∃ (CA' CB' CC' FL' WA' WB' WC' VA' VB' VC' LA' ZZ' : Int32) (co' de' sn' cn' rx' re' gr' bl' ry' : Nat → Int32), ri_col co' re' gr' bl'
    ∧ (∀ (post : SX → Prop) (n : Nat), m < n → post (nI ns, nI sl, nI st, nI (sl + sw), nI (st + sh), KE, CA', CB', CC', FL', WA', WB', WC', co', de', sn', tx, vx, vy, vz, vq, vv, gs, cn', so, sd, sa, sq, rx') → wX_drawFan_2 post (nI f) (nI cnt) n (nI i) (nI ns) (nI sl) (nI st) (nI (sl + sw)) (nI (st + sh)) KE CA CB CC FL WA WB WC co de sn tx vx vy vz vq vv gs cn so sd sa sq rx)
    ∧ (∀ (post : Int32 → SY → Prop) (n : Nat), m < n → post (cn' 4) (nI sl, nI st, nI sw, nI sh, nI ns, KE, VA', VB', VC', LA', ZZ', re', gr', bl', de', sn', tx, pl, vv, gs, so, sd, sa, sq, cn', ry') → wY_draw_198 post (nI f) (nI cnt) n (nI i) (nI sl) (nI st) (nI sw) (nI sh) (nI ns) KE VA VB VC LA ZZ re gr bl de sn tx pl vv gs so sd sa sq cn ry) := by
  intro m
  induction m with
  | zero =>
    intro i CA CB CC FL WA WB WC VA VB VC LA ZZ co de sn cn rx re gr bl ry hc hi h60
    have x2 : nI i + 2 = nI (i + 2) := nI_add i 2
    refine ⟨CA, CB, CC, FL, WA, WB, WC, VA, VB, VC, LA, ZZ, co, de, sn, cn, rx, re, gr, bl, ry, hc, fun post n hn h => (by obtain ⟨n, rfl⟩ : ∃ m, n = m + 1 := ⟨n - 1, by omega⟩; rw [wX_drawFan_2]; exact br_t (by rw [nI_1 i]; exact nI_le (by omega) (by omega)) h), fun post n hn h => (by obtain ⟨n, rfl⟩ : ∃ m, n = m + 1 := ⟨n - 1, by omega⟩; rw [wY_draw_198]; exact br_t (by rw [x2]; exact nI_lt (by omega) (by omega)) h)⟩
  | succ m ih =>
    intro i CA CB CC FL WA WB WC VA VB VC LA ZZ co de sn cn rx re gr bl ry hc hi h60
    have x2 : nI i + 2 = nI (i + 2) := nI_add i 2
    by_cases q : cnt ≤ i + 1
    · refine ⟨CA, CB, CC, FL, WA, WB, WC, VA, VB, VC, LA, ZZ, co, de, sn, cn, rx, re, gr, bl, ry, hc, fun post n hn h => (by obtain ⟨n, rfl⟩ : ∃ m, n = m + 1 := ⟨n - 1, by omega⟩; rw [wX_drawFan_2]; exact br_t (by rw [nI_1 i]; exact nI_le (by omega) (by omega)) h), fun post n hn h => (by obtain ⟨n, rfl⟩ : ∃ m, n = m + 1 := ⟨n - 1, by omega⟩; rw [wY_draw_198]; exact br_t (by rw [x2]; exact nI_lt (by omega) (by omega)) h)⟩
    obtain ⟨CA1, CB1, CC1, FL1, WA1, WB1, WC1, VA1, VB1, VC1, LA1, ZZ1, co1, de1, sn1, cn1, rx1, re1, gr1, bl1, ry1, hc1, HX1, HY1⟩ := tr_sim (KE := KE) (CA := CA) (CB := CB) (CC := CC) (FL := FL) (WA := WA) (WB := WB) (WC := WC) (co := co) (de := de) (sn := sn) (tx := tx) (vx := vx) (vy := vy) (vz := vz) (vq := vq) (vv := vv) (gs := gs) (cn := cn) (so := so) (sd := sd) (sa := sa) (sq := sq) (rx := rx) (VA := VA) (VB := VB) (VC := VC) (LA := LA) (ZZ := ZZ) (re := re) (gr := gr) (bl := bl) (pl := pl) (ry := ry) F hs ht (a := f) (b := f + i) (c := f + i + 1) (by omega) (by omega) (by omega) hc
    obtain ⟨CA', CB', CC', FL', WA', WB', WC', VA', VB', VC', LA', ZZ', co', de', sn', cn', rx', re', gr', bl', ry', hc', HX, HY⟩ := ih (i + 1) CA1 CB1 CC1 FL1 WA1 WB1 WC1 VA1 VB1 VC1 LA1 ZZ1 co1 de1 sn1 cn1 rx1 re1 gr1 bl1 ry1 hc1 (by omega) (by omega)
    refine ⟨CA', CB', CC', FL', WA', WB', WC', VA', VB', VC', LA', ZZ', co', de', sn', cn', rx', re', gr', bl', ry', hc', fun post n hn h => ?_, fun post n hn h => ?_⟩
    · obtain ⟨n, rfl⟩ : ∃ m, n = m + 1 := ⟨n - 1, by omega⟩
      rw [wX_drawFan_2]
      refine br_f (by rw [nI_1 i]; exact nI_ge (by omega) (by omega)) (nm_r (nI_add f i) ?_)
      rw [nI_1 (f + i)]
      exact HX1 _ (nm_r (nI_1 i) (HX post n (by omega) h))
    · obtain ⟨n, rfl⟩ : ∃ m, n = m + 1 := ⟨n - 1, by omega⟩
      rw [wY_draw_198]
      refine br_f (by rw [x2]; exact nI_nlt (by omega) (by omega)) ?_
      rw [nI_add f i, nI_1 (f + i)]
      exact HY1 _ (nm_r (nI_1 i) (HY post n (by omega) h))
end DRW
