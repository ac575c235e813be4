/-! one triangle, one point -/
section SHP
variable {NS SL ST SR SB KE CA CB CC FL WA WB WC : Int32} {co de sn tx vx vy vz vq vv gs cn so sd sa sq rx : Nat → Int32}
variable {LE TO WI HI VA VB VC LA ZZ : Int32} {re gr bl pl ry : Nat → Int32}
theorem mx_cull {post : Int32 → Prop} {f : Int32} (T : (gs 9 = 1 ∧ f = 0) ∨ (gs 9 = 2 ∧ ¬ f = 0) → post 1) (F : ¬ ((gs 9 = 1 ∧ f = 0) ∨ (gs 9 = 2 ∧ ¬ f = 0)) → post 0) : wpX_isCulled post (NS, SL, ST, SR, SB, KE, CA, CB, CC, FL, WA, WB, WC, co, de, sn, tx, vx, vy, vz, vq, vv, gs, cn, so, sd, sa, sq, rx) f := by
  have H : ¬ (gs 9 = 1 ∧ f = 0) → wX_isCulled_17 post f (gs 9) NS SL ST SR SB KE CA CB CC FL WA WB WC co de sn tx vx vy vz vq vv gs cn so sd sa sq rx := fun n => br_c (fun a => br_c (fun b => F (fun z => z.elim n (fun q => q.2 b))) (fun b => T (Or.inr ⟨a, b⟩))) (fun a => F (fun z => z.elim n (fun q => a q.1)))
  exact nm_e (br_c (fun a => br_c (fun b => T (Or.inl ⟨a, b⟩)) (fun b => H (fun z => b z.2))) (fun a => H (fun z => a z.1)))
theorem tr_sim {ns sl st sw sh a b c : Nat} (F : fz_ok ns tx vx vy vz vq gs so sd sa sq pl) (hs : sl + sw ≤ 24) (ht : st + sh ≤ 16) (ha : a < 24) (hb : b < 24) (hcc : c < 24) (hc : ri_col co re gr bl) : ∃ (CA' CB' CC' FL' WA' WB' WC' VA' VB' VC' LA' ZZ' : Int32) (co' de' sn' cn' rx' re' gr' bl' ry' : Nat → Int32), ri_col co' re' gr' bl'
    ∧ (∀ post : SX → Prop, post (nI ns, nI sl, nI st, nI (sl + sw), nI (st + sh), KE, CA', CB', CC', FL', WA', WB', WC', co', de', sn', tx, vx, vy, vz, vq, vv, gs, cn', so, sd, sa, sq, rx') → wpX_drawTriangle post (nI ns, nI sl, nI st, nI (sl + sw), nI (st + sh), KE, CA, CB, CC, FL, WA, WB, WC, co, de, sn, tx, vx, vy, vz, vq, vv, gs, cn, so, sd, sa, sq, rx) (nI a) (nI b) (nI c))
    ∧ (∀ post : SY → Prop, post (nI sl, nI st, nI sw, nI sh, nI ns, KE, VA', VB', VC', LA', ZZ', re', gr', bl', de', sn', tx, pl, vv, gs, so, sd, sa, sq, cn', ry') → wpY_triangle post (nI sl, nI st, nI sw, nI sh, nI ns, KE, VA, VB, VC, LA, ZZ, re, gr, bl, de, sn, tx, pl, vv, gs, so, sd, sa, sq, cn, ry) (nI a) (nI b) (nI c)) := by
  have hv := F.2.2.2.2
  obtain ⟨_, a1, a2, _⟩ := hv a ha
  obtain ⟨_, b1, b2, _⟩ := hv b hb
  obtain ⟨⟨p1, p2, _, _⟩, k1, k2, _⟩ := hv c hcc
  have vc : vp_in (nI c) 24 := vp_in_nI hcc (by decide)
  have cc : (nI c).toNatClampNeg = c := nI_clamp (by omega)
  obtain ⟨v1, c1⟩ := ix_p (x := 4 * nI c) 96 (pk_mul 4 c) (by omega) (by decide)
  obtain ⟨v2, c2⟩ := ix_p (x := 4 * nI c + 1) 96 (ix_a (pk_mul 4 c) 1 rfl) (by omega) (by decide)
  have eA : (cv_w vx vy a b (vx c) (vy c)).toInt = ca_cr (vx a).toInt (vy a).toInt (vx b).toInt (vy b).toInt (vx c).toInt (vy c).toInt := (ca_cross a1 a2 b1 b2 k1 k2).1
  have hX : ∀ post : SX → Prop, ((cv_w vx vy a b (vx c) (vy c) = 0 → post (nI ns, nI sl, nI st, nI (sl + sw), nI (st + sh), KE, CA, CB, CC, FL, WA, WB, WC, co, de, sn, tx, vx, vy, vz, vq, vv, gs, cn, so, sd, sa, sq, rx)) ∧ (¬ cv_w vx vy a b (vx c) (vy c) = 0 → ((cv_w vx vy a b (vx c) (vy c) ≤ 0 → wX_drawTriangle_36 post (nI a) (nI b) (nI c) (cv_w vx vy a b (vx c) (vy c)) 0 (nI ns) (nI sl) (nI st) (nI (sl + sw)) (nI (st + sh)) KE CA CB CC FL WA WB WC co de sn tx vx vy vz vq vv gs cn so sd sa sq rx) ∧ (¬ cv_w vx vy a b (vx c) (vy c) ≤ 0 → wX_drawTriangle_36 post (nI a) (nI b) (nI c) (cv_w vx vy a b (vx c) (vy c)) 1 (nI ns) (nI sl) (nI st) (nI (sl + sw)) (nI (st + sh)) KE CA CB CC FL WA WB WC co de sn tx vx vy vz vq vv gs cn so sd sa sq rx)))) → wpX_drawTriangle post (nI ns, nI sl, nI st, nI (sl + sw), nI (st + sh), KE, CA, CB, CC, FL, WA, WB, WC, co, de, sn, tx, vx, vy, vz, vq, vv, gs, cn, so, sd, sa, sq, rx) (nI a) (nI b) (nI c) := by
    intro post h
    unfold wpX_drawTriangle
    refine ⟨vc, vc, ?_⟩
    refine mx_cross ha hb ?_
    rw [cc]
    exact h
  have hY : ∀ post : SY → Prop, (((cv_w vx vy a b (vx c) (vy c)).toInt64 = 0 → post (nI sl, nI st, nI sw, nI sh, nI ns, KE, VA, VB, VC, LA, ZZ, re, gr, bl, de, sn, tx, pl, vv, gs, so, sd, sa, sq, cn, ry)) ∧ (¬ (cv_w vx vy a b (vx c) (vy c)).toInt64 = 0 → ((0 ≤ (cv_w vx vy a b (vx c) (vy c)).toInt64 → wY_triangle_51 post (nI a) (nI b) (nI c) (cv_w vx vy a b (vx c) (vy c)).toInt64 (nI sl) (nI st) (nI sw) (nI sh) (nI ns) KE VA VB VC LA ZZ re gr bl de sn tx pl vv gs so sd sa sq cn ry) ∧ (¬ 0 ≤ (cv_w vx vy a b (vx c) (vy c)).toInt64 → ((gs 9 = 1 → post (nI sl, nI st, nI sw, nI sh, nI ns, KE, VA, VB, VC, LA, ZZ, re, gr, bl, de, sn, tx, pl, vv, gs, so, sd, sa, sq, cn, ry)) ∧ (¬ gs 9 = 1 → wY_triangle_51 post (nI a) (nI b) (nI c) (cv_w vx vy a b (vx c) (vy c)).toInt64 (nI sl) (nI st) (nI sw) (nI sh) (nI ns) KE VA VB VC LA ZZ re gr bl de sn tx pl vv gs so sd sa sq cn ry)))))) → wpY_triangle post (nI sl, nI st, nI sw, nI sh, nI ns, KE, VA, VB, VC, LA, ZZ, re, gr, bl, de, sn, tx, pl, vv, gs, so, sd, sa, sq, cn, ry) (nI a) (nI b) (nI c) := by
    intro post h
    unfold wpY_triangle
    refine ⟨v1, v2, ?_⟩
    rw [c1, c2, ← p1, ← p2]
    exact my_weight hv ha hb k1 k2 h
  by_cases z0 : cv_w vx vy a b (vx c) (vy c) = 0
  · exact ⟨CA, CB, CC, FL, WA, WB, WC, VA, VB, VC, LA, ZZ, co, de, sn, cn, rx, re, gr, bl, ry, hc, fun post h => hX post (br_t z0 h), fun post h => hY post (br_t (l64_eq.mpr z0) h)⟩
  have z1 : ¬ (cv_w vx vy a b (vx c) (vy c)).toInt64 = 0 := fun z => z0 (l64_eq.mp z)
  by_cases ng : cv_w vx vy a b (vx c) (vy c) ≤ 0
  · have n0 : ¬ 0 ≤ (cv_w vx vy a b (vx c) (vy c)).toInt64 := fun z => z0 (Int32.le_antisymm ng (l64_le.mp z))
    by_cases cu : gs 9 = 1
    · refine ⟨CA, CB, CC, FL, WA, WB, WC, VA, VB, VC, LA, ZZ, co, de, sn, cn, rx, re, gr, bl, ry, hc, fun post h => hX post (br_f z0 (br_t ng ?_)), fun post h => hY post (br_f z1 (br_f n0 (br_t cu h)))⟩
      unfold wX_drawTriangle_36
      exact mx_cull (fun _ => br_f n10 h) (fun n => absurd (Or.inl ⟨cu, rfl⟩) n)
    · have hA : ar_p vx vy a c b := by
        refine ⟨ha, hcc, hb, ?_⟩
        have e := ca_flip (vx a).toInt (vy a).toInt (vx b).toInt (vy b).toInt (vx c).toInt (vy c).toInt
        have l := Int32.le_iff_toInt_le.mp ng
        have q : ¬ (cv_w vx vy a b (vx c) (vy c)).toInt = 0 := fun z => z0 (Int32.toInt_inj.mp (z.trans Int32.toInt_zero.symm))
        rw [Int32.toInt_zero] at l
        omega
      obtain ⟨WA', WB', WC', ZZ', co', de', sn', cn', rx', re', gr', bl', ry', hc', HX, HY⟩ := cl_sim (KE := KE) (tx := tx) (vx := vx) (vy := vy) (vz := vz) (vq := vq) (vv := vv) (gs := gs) (so := so) (sd := sd) (sa := sa) (sq := sq) (pl := pl) F hA hcc hs ht sh st WA WB WC ZZ co de sn (upd cn 5 (cn 5 + 1)) rx re gr bl ry hc rfl
      refine ⟨nI a, nI c, nI b, nI c, WA', WB', WC', nI a, nI c, nI b, nI c, ZZ', co', de', sn', cn', rx', re', gr', bl', ry', hc', fun post h => hX post (br_f z0 (br_t ng ?_)), fun post h => hY post (br_f z1 (br_f n0 (br_f cu ?_)))⟩
      · unfold wX_drawTriangle_36
        exact mx_cull (fun q => absurd q (fun w => w.elim (fun w => cu w.1) (fun w => w.2 rfl))) (fun _ => br_t rfl (nm_e (br_t ng (br_t ng ⟨sh + 1, HX post (sh + 1) (by omega) h⟩))))
      · exact br_t (l64_le'.mpr ng) (nm_e (br_f n0 (br_f n0 ⟨sh + 1, HY post (sh + 1) (by omega) h⟩)))
  · have p0 : 0 ≤ (cv_w vx vy a b (vx c) (vy c)).toInt64 := l64_le.mpr (Int32.le_of_lt (Int32.not_le.mp ng))
    have n1 : ¬ (cv_w vx vy a b (vx c) (vy c)).toInt64 ≤ 0 := fun z => ng (l64_le'.mp z)
    by_cases cu : gs 9 = 2
    · refine ⟨CA, CB, CC, FL, WA, WB, WC, VA, VB, VC, LA, ZZ, co, de, sn, cn, rx, re, gr, bl, ry, hc, fun post h => hX post (br_f z0 (br_f ng ?_)), fun post h => hY post (br_f z1 (br_t p0 (br_f n1 (br_t cu h))))⟩
      unfold wX_drawTriangle_36
      exact mx_cull (fun _ => br_f n10 h) (fun n => absurd (Or.inr ⟨cu, n10⟩) n)
    · have hA : ar_p vx vy a b c := by
        refine ⟨ha, hb, hcc, ?_⟩
        have l := Int32.lt_iff_toInt_lt.mp (Int32.not_le.mp ng)
        rw [Int32.toInt_zero] at l
        omega
      obtain ⟨WA', WB', WC', ZZ', co', de', sn', cn', rx', re', gr', bl', ry', hc', HX, HY⟩ := cl_sim (KE := KE) (tx := tx) (vx := vx) (vy := vy) (vz := vz) (vq := vq) (vv := vv) (gs := gs) (so := so) (sd := sd) (sa := sa) (sq := sq) (pl := pl) F hA hcc hs ht sh st WA WB WC ZZ co de sn (upd cn 5 (cn 5 + 1)) rx re gr bl ry hc rfl
      refine ⟨nI a, nI b, nI c, nI c, WA', WB', WC', nI a, nI b, nI c, nI c, ZZ', co', de', sn', cn', rx', re', gr', bl', ry', hc', fun post h => hX post (br_f z0 (br_f ng ?_)), fun post h => hY post (br_f z1 (br_t p0 (br_f n1 (br_f cu ?_))))⟩
      · unfold wX_drawTriangle_36
        exact mx_cull (fun q => absurd q (fun w => w.elim (fun w => n10 w.2) (fun w => cu w.1))) (fun _ => br_t rfl (nm_e (br_f ng (br_f ng ⟨sh + 1, HX post (sh + 1) (by omega) h⟩))))
      · exact nm_e (br_t p0 (br_t p0 ⟨sh + 1, HY post (sh + 1) (by omega) h⟩))
theorem pt_le {n : Nat} (h : n ≤ 24) {v : Int32} : v ≤ nI n - 1 ↔ v < nI n := by
  have e1 : (1 : Int32).toInt = 1 := by decide
  have e : (nI n - 1).toInt = (n : Int) - 1 := by
    rw [ca_sub (nI n) 1 (by rw [nI_toInt (by omega), e1]; omega), nI_toInt (by omega), e1]
  rw [Int32.le_iff_toInt_le, Int32.lt_iff_toInt_lt, e, nI_toInt (by omega)]
  omega
theorem my_pvl {i : Nat} (hv : ri_ver vx vy vz vq pl) (hi : i < 24) : ∀ (k j : Nat) (ry : Nat → Int32), j + k = 6 → ∃ r' : Nat → Int32, (∀ n, r' n = if j ≤ n ∧ n < 6 then vv (6 * i + n) else ry n)
    ∧ ∀ (post : SY → Prop) (x y : Int32) (n : Nat), k < n → wpY_work (fun u => match u with | (LE, TO, WI, HI, NS, KE, VA, VB, VC, LA, ZZ, re, gr, bl, de, sn, tx, pl, vv, gs, so, sd, sa, sq, cn, ry) => post (LE, TO, WI, HI, NS, KE, VA, VB, VC, LA, ZZ, re, gr, bl, de, sn, tx, pl, vv, gs, so, sd, sa, sq, cn, ry)) (LE, TO, WI, HI, NS, KE, VA, VB, VC, LA, vz i, re, gr, bl, de, sn, tx, pl, vv, gs, so, sd, sa, sq, cn, r') x y → wY_point_82 post (nI i) x y LE TO WI HI NS KE VA VB VC LA ZZ n (nI j) re gr bl de sn tx pl vv gs so sd sa sq cn ry := by
  intro k
  induction k with
  | zero =>
    intro j ry hj
    obtain ⟨⟨_, _, p3, _⟩, _⟩ := hv i hi
    obtain ⟨v1, c1⟩ := ix_p (x := 4 * nI i + 2) 96 (ix_a (pk_mul 4 i) 2 rfl) (by omega) (by decide)
    refine ⟨ry, fun n => (if_neg (by omega)).symm, fun post x y n hn h => ?_⟩
    obtain ⟨n, rfl⟩ : ∃ m, n = m + 1 := ⟨n - 1, by omega⟩
    rw [wY_point_82]
    exact br_t (nI_le (a := 6) (by omega) (by omega)) ⟨v1, nm_r (e' := vz i) (by rw [c1, p3]) h⟩
  | succ k ih =>
    intro j ry hj
    obtain ⟨v1, c1⟩ := ix_p 144 (tv_y6 i j) (by omega) (by decide)
    obtain ⟨v2, c2⟩ := ix_p (x := nI j) 8 rfl (by omega) (by decide)
    obtain ⟨r', hr, H⟩ := ih (j + 1) (upd ry j (vv (6 * i + j))) (by omega)
    refine ⟨r', fun n => ?_, fun post x y n hn h => ?_⟩
    · rw [hr n]
      by_cases e : n = j
      · subst e
        rw [if_neg (by omega), pk_us, if_pos (by omega)]
      · rw [pk_un e]
        by_cases g : j + 1 ≤ n ∧ n < 6
        · rw [if_pos g, if_pos (by omega)]
        · rw [if_neg g, if_neg (by omega)]
    · obtain ⟨n, rfl⟩ : ∃ m, n = m + 1 := ⟨n - 1, by omega⟩
      rw [wY_point_82]
      exact br_f (nI_ge (b := 6) (by omega) (by omega)) ⟨v1, v2, nm_r (e' := upd ry j (vv (6 * i + j))) (by rw [c1, c2]) (nm_r (nI_1 j) (H post x y n (by omega) h))⟩
theorem pt_sim {ns sl st sw sh i : Nat} (F : fz_ok ns tx vx vy vz vq gs so sd sa sq pl) (hs : sl + sw ≤ 24) (ht : st + sh ≤ 16) (hi : i < 24) (hc : ri_col co re gr bl) : ∃ (CA' CB' CC' FL' WA' WB' WC' VA' VB' VC' LA' ZZ' : Int32) (co' de' sn' cn' rx' re' gr' bl' ry' : Nat → Int32), ri_col co' re' gr' bl'
    ∧ (∀ post : SX → Prop, post (nI ns, nI sl, nI st, nI (sl + sw), nI (st + sh), KE, CA', CB', CC', FL', WA', WB', WC', co', de', sn', tx, vx, vy, vz, vq, vv, gs, cn', so, sd, sa, sq, rx') → wpX_drawPoint post (nI ns, nI sl, nI st, nI (sl + sw), nI (st + sh), KE, CA, CB, CC, FL, WA, WB, WC, co, de, sn, tx, vx, vy, vz, vq, vv, gs, cn, so, sd, sa, sq, rx) (nI i))
    ∧ (∀ post : SY → Prop, post (nI sl, nI st, nI sw, nI sh, nI ns, KE, VA', VB', VC', LA', ZZ', re', gr', bl', de', sn', tx, pl, vv, gs, so, sd, sa, sq, cn', ry') → wpY_point post (nI sl, nI st, nI sw, nI sh, nI ns, KE, VA, VB, VC, LA, ZZ, re, gr, bl, de, sn, tx, pl, vv, gs, so, sd, sa, sq, cn, ry) (nI i)) := by
  obtain ⟨hns, hst, htx, hset, hv⟩ := F
  obtain ⟨⟨p1, p2, p3, _⟩, _⟩ := hv i hi
  have vi : vp_in (nI i) 24 := vp_in_nI hi (by decide)
  have ci : (nI i).toNatClampNeg = i := nI_clamp (by omega)
  obtain ⟨v1, c1⟩ := ix_p (x := 4 * nI i) 96 (pk_mul 4 i) (by omega) (by decide)
  obtain ⟨v2, c2⟩ := ix_p (x := 4 * nI i + 1) 96 (ix_a (pk_mul 4 i) 1 rfl) (by omega) (by decide)
  have hX : ∀ post : SX → Prop, ((nI sl ≤ vx i >>> ((3 : Int32) &&& 31) ∧ vx i >>> ((3 : Int32) &&& 31) < nI (sl + sw)) ∧ (nI st ≤ vy i >>> ((3 : Int32) &&& 31) ∧ vy i >>> ((3 : Int32) &&& 31) < nI (st + sh)) → wpX_loadVertexValues (fun u => match u with | (NS, SL, ST, SR, SB, KE, CA, CB, CC, FL, WA, WB, WC, co, de, sn, tx, vx9, vy9, vz, vq, vv, gs, cn, so, sd, sa, sq, rx) => (vp_in (nI i) 24 ∧ wpX_finishPixel (fun u => match u with | (NS, SL, ST, SR, SB, KE, CA, CB, CC, FL, WA, WB, WC, co, de, sn, tx, vx, vy, vz, vq, vv, gs, cn, so, sd, sa, sq, rx) => post (NS, SL, ST, SR, SB, KE, CA, CB, CC, FL, WA, WB, WC, co, de, sn, tx, vx, vy, vz, vq, vv, gs, cn, so, sd, sa, sq, rx)) (NS, SL, ST, SR, SB, KE, CA, CB, CC, FL, WA, WB, WC, co, de, sn, tx, vx9, vy9, vz, vq, vv, gs, cn, so, sd, sa, sq, rx) (vx i >>> ((3 : Int32) &&& 31)) (vy i >>> ((3 : Int32) &&& 31)) (vz (nI i).toNatClampNeg))) (nI ns, nI sl, nI st, nI (sl + sw), nI (st + sh), KE, CA, CB, CC, FL, WA, WB, WC, co, de, sn, tx, vx, vy, vz, vq, vv, gs, upd cn 5 (cn 5 + 1), so, sd, sa, sq, rx) (nI i) 6) → (¬ ((nI sl ≤ vx i >>> ((3 : Int32) &&& 31) ∧ vx i >>> ((3 : Int32) &&& 31) < nI (sl + sw)) ∧ (nI st ≤ vy i >>> ((3 : Int32) &&& 31) ∧ vy i >>> ((3 : Int32) &&& 31) < nI (st + sh))) → post (nI ns, nI sl, nI st, nI (sl + sw), nI (st + sh), KE, CA, CB, CC, FL, WA, WB, WC, co, de, sn, tx, vx, vy, vz, vq, vv, gs, upd cn 5 (cn 5 + 1), so, sd, sa, sq, rx)) → wpX_drawPoint post (nI ns, nI sl, nI st, nI (sl + sw), nI (st + sh), KE, CA, CB, CC, FL, WA, WB, WC, co, de, sn, tx, vx, vy, vz, vq, vv, gs, cn, so, sd, sa, sq, rx) (nI i) := by
    intro post h1 h2
    refine nm_e ⟨vi, nm_r (e' := vx i >>> ((3 : Int32) &&& 31)) (by rw [ci]) ⟨vi, nm_r (e' := vy i >>> ((3 : Int32) &&& 31)) (by rw [ci]) ?_⟩⟩
    exact br_c (fun a => h2 (fun z => absurd a (Int32.not_lt.mpr z.1.1))) (fun a => br_c (fun b => h2 (fun z => absurd z.1.2 (Int32.not_lt.mpr b))) (fun b => br_c (fun c => h2 (fun z => absurd c (Int32.not_lt.mpr z.2.1))) (fun c => br_c (fun d => h1 ⟨⟨Int32.not_lt.mp a, Int32.not_le.mp b⟩, ⟨Int32.not_lt.mp c, d⟩⟩) (fun d => h2 (fun z => d z.2.2)))))
  have hY : ∀ post : SY → Prop, ((nI sl ≤ vx i >>> ((3 : Int32) &&& 31) ∧ vx i >>> ((3 : Int32) &&& 31) < nI (sl + sw)) ∧ (nI st ≤ vy i >>> ((3 : Int32) &&& 31) ∧ vy i >>> ((3 : Int32) &&& 31) < nI (st + sh)) → ∃ n, wY_point_82 post (nI i) (vx i >>> ((3 : Int32) &&& 31)) (vy i >>> ((3 : Int32) &&& 31)) (nI sl) (nI st) (nI sw) (nI sh) (nI ns) KE VA VB VC LA ZZ n 0 re gr bl de sn tx pl vv gs so sd sa sq (upd cn 5 (cn 5 + 1)) ry) → (¬ ((nI sl ≤ vx i >>> ((3 : Int32) &&& 31) ∧ vx i >>> ((3 : Int32) &&& 31) < nI (sl + sw)) ∧ (nI st ≤ vy i >>> ((3 : Int32) &&& 31) ∧ vy i >>> ((3 : Int32) &&& 31) < nI (st + sh))) → post (nI sl, nI st, nI sw, nI sh, nI ns, KE, VA, VB, VC, LA, ZZ, re, gr, bl, de, sn, tx, pl, vv, gs, so, sd, sa, sq, upd cn 5 (cn 5 + 1), ry)) → wpY_point post (nI sl, nI st, nI sw, nI sh, nI ns, KE, VA, VB, VC, LA, ZZ, re, gr, bl, de, sn, tx, pl, vv, gs, so, sd, sa, sq, cn, ry) (nI i) := by
    intro post h1 h2
    refine ⟨v1, nm_r (e' := vx i >>> ((3 : Int32) &&& 31)) (by rw [c1, p1]) ⟨v2, nm_r (e' := vy i >>> ((3 : Int32) &&& 31)) (by rw [c2, p2]) (nm_e ?_)⟩⟩
    rw [nI_add, nI_add]
    refine my_in (fun a => br_f n10 ?_) (fun a => br_t rfl (h2 (fun z => a ⟨z.1.1, (pt_le hs).mpr z.1.2⟩)))
    exact my_in (fun b => br_f n10 (h1 ⟨⟨a.1, (pt_le hs).mp a.2⟩, ⟨b.1, (pt_le (by omega)).mp b.2⟩⟩)) (fun b => br_t rfl (h2 (fun z => b ⟨z.2.1, (pt_le (by omega)).mpr z.2.2⟩)))
  by_cases ins : (nI sl ≤ vx i >>> ((3 : Int32) &&& 31) ∧ vx i >>> ((3 : Int32) &&& 31) < nI (sl + sw)) ∧ (nI st ≤ vy i >>> ((3 : Int32) &&& 31) ∧ vy i >>> ((3 : Int32) &&& 31) < nI (st + sh))
  · have g0 : ∀ n : Nat, n ≤ 24 → (0 : Int32) ≤ nI n := fun n hn => nI_pos' (by omega)
    obtain ⟨x, hx, ex⟩ := nI_of (x := vx i >>> ((3 : Int32) &&& 31)) (Int32.not_lt.mpr (Int32.le_trans (g0 sl (by omega)) ins.1.1))
    obtain ⟨y, hy, ey⟩ := nI_of (x := vy i >>> ((3 : Int32) &&& 31)) (Int32.not_lt.mpr (Int32.le_trans (g0 st (by omega)) ins.2.1))
    have hx2 : x < sl + sw := (nI_ltI hx (by omega)).mp (ex ▸ ins.1.2)
    have hy2 : y < st + sh := (nI_ltI hy (by omega)).mp (ey ▸ ins.2.2)
    obtain ⟨r1, e1, H1⟩ := mx_lvv (NS := nI ns) (SL := nI sl) (ST := nI st) (SR := nI (sl + sw)) (SB := nI (st + sh)) (KE := KE) (CA := CA) (CB := CB) (CC := CC) (FL := FL) (WA := WA) (WB := WB) (WC := WC) (co := co) (de := de) (sn := sn) (tx := tx) (vx := vx) (vy := vy) (vz := vz) (vq := vq) (vv := vv) (gs := gs) (cn := upd cn 5 (cn 5 + 1)) (so := so) (sd := sd) (sa := sa) (sq := sq) (i := i) (m := 6) hi (by decide) rx
    obtain ⟨r2, e2, H2⟩ := my_pvl (LE := nI sl) (TO := nI st) (WI := nI sw) (HI := nI sh) (NS := nI ns) (KE := KE) (VA := VA) (VB := VB) (VC := VC) (LA := LA) (re := re) (gr := gr) (bl := bl) (de := de) (sn := sn) (tx := tx) (pl := pl) (vv := vv) (gs := gs) (so := so) (sd := sd) (sa := sa) (sq := sq) (cn := upd cn 5 (cn 5 + 1)) hv hi 6 0 ry rfl
    obtain ⟨co', de', sn', cn', rx', re', gr', bl', ry', hcol, HX, HY⟩ := fp_sim (SL := nI sl) (ST := nI st) (SR := nI (sl + sw)) (SB := nI (st + sh)) (KE := KE) (CA := CA) (CB := CB) (CC := CC) (FL := FL) (WA := WA) (WB := WB) (WC := WC) (co := co) (de := de) (sn := sn) (tx := tx) (vx := vx) (vy := vy) (vz := vz) (vq := vq) (vv := vv) (gs := gs) (cn := upd cn 5 (cn 5 + 1)) (so := so) (sd := sd) (sa := sa) (sq := sq) (rx := r1) (LE := nI sl) (TO := nI st) (WI := nI sw) (HI := nI sh) (VA := VA) (VB := VB) (VC := VC) (LA := LA) (re := re) (gr := gr) (bl := bl) (pl := pl) (ry := r2) hns hst htx hset hc (x := x) (y := y) (by omega) (by omega) (fun n hn => by rw [e1 n, e2 n, if_pos hn, if_pos ⟨by omega, hn⟩]) (vz i)
    refine ⟨CA, CB, CC, FL, WA, WB, WC, VA, VB, VC, LA, vz i, co', de', sn', cn', rx', re', gr', bl', ry', hcol, fun post h => hX post (fun _ => ?_) (fun z => absurd ins z), fun post h => hY post (fun _ => ?_) (fun z => absurd ins z)⟩
    · refine H1 _ ⟨vi, ?_⟩
      rw [ex, ey, ci]
      exact HX _ h
    · refine ⟨7, ?_⟩
      rw [ex, ey]
      exact H2 post _ _ 7 (by decide) (HY _ h)
  · exact ⟨CA, CB, CC, FL, WA, WB, WC, VA, VB, VC, LA, ZZ, co, de, sn, upd cn 5 (cn 5 + 1), rx, re, gr, bl, ry, hc, fun post h => hX post (fun z => absurd z ins) (fun _ => h), fun post h => hY post (fun z => absurd z ins) (fun _ => h)⟩
end SHP
