/-! the program in lockstep; one pixel on both sides -/
section LCK
variable {NS SL ST SR SB KE CA CB CC FL WA WB WC : Int32} {co de sn tx vx vy vz vq vv gs cn so sd sa sq rx : Nat → Int32}
variable {LE TO WI HI VA VB VC LA ZZ : Int32} {re gr bl pl ry : Nat → Int32}
theorem pg_loop {ns : Nat} (hns : ns ≤ 10) (hst : ri_stp ns so sd sa sq) (ht : ri_tex tx) : ∀ (m i : Nat) (rx ry : Nat → Int32), i + m = ns → ag_r 8 rx ry → ∃ (k : Bool) (rx' ry' : Nat → Int32), ag_r 8 rx' ry'
    ∧ (∀ (post : Int32 → SX → Prop) (n : Nat), m < n → post (if k then 0 else 1) (nI ns, SL, ST, SR, SB, KE, CA, CB, CC, FL, WA, WB, WC, co, de, sn, tx, vx, vy, vz, vq, vv, gs, cn, so, sd, sa, sq, rx') → wX_survivesProgram_2 post n (nI i) (nI ns) SL ST SR SB KE CA CB CC FL WA WB WC co de sn tx vx vy vz vq vv gs cn so sd sa sq rx)
    ∧ (∀ (post : SY → Prop) (x y : Int32) (n : Nat), m < n → (k = true → post (LE, TO, WI, HI, nI ns, KE, VA, VB, VC, LA, ZZ, re, gr, bl, de, sn, tx, pl, vv, gs, so, sd, sa, sq, upd cn 1 (cn 1 + 1), ry')) → (k = false → ∃ q, wY_work_88 post x y LE TO WI HI (nI ns) KE VA VB VC LA ZZ q 0 re gr bl de sn tx pl vv gs so sd sa sq cn ry') → wY_work_31 post x y n (nI i) LE TO WI HI (nI ns) KE VA VB VC LA ZZ re gr bl de sn tx pl vv gs so sd sa sq cn ry) := by
  intro m
  induction m with
  | zero =>
    intro i rx ry hi ag
    have g : nI ns ≤ nI i := nI_le (by omega) (by omega)
    refine ⟨false, rx, ry, ag, fun post n hn h => ?_, fun post x y n hn h1 h2 => ?_⟩
    · obtain ⟨n, rfl⟩ : ∃ m, n = m + 1 := ⟨n - 1, by omega⟩
      rw [wX_survivesProgram_2]
      exact br_t g h
    · obtain ⟨n, rfl⟩ : ∃ m, n = m + 1 := ⟨n - 1, by omega⟩
      rw [wY_work_31]
      exact br_t g (h2 rfl)
  | succ m ih =>
    intro i rx ry hi ag
    have g : ¬ nI ns ≤ nI i := nI_ge (by omega) (by omega)
    have q := hst i (by omega)
    have i10 : i < 10 := by omega
    have v : vp_in (nI i) 10 := vp_in_nI i10 (by decide)
    have c : (nI i).toNatClampNeg = i := nI_clamp (by omega)
    by_cases e9 : so i = 9 ∧ rx (sa i).toNatClampNeg < 0
    · obtain ⟨A, hA, eA⟩ := q.2.2.1 (by rw [e9.1]; decide)
      have ea : rx (sa i).toNatClampNeg = ry (sa i).toNatClampNeg := ag _ (by rw [eA, nI_clamp (by omega)]; exact hA)
      have va : vp_in (sa (nI i).toNatClampNeg) 8 := by rw [c, eA]; exact vp_in_nI hA (by decide)
      refine ⟨true, rx, ry, ag, fun post n hn h => ?_, fun post x y n hn h1 h2 => ?_⟩
      · obtain ⟨n, rfl⟩ : ∃ m, n = m + 1 := ⟨n - 1, by omega⟩
        exact mx_kill i10 g q e9.1 e9.2 h
      · obtain ⟨n, rfl⟩ : ∃ m, n = m + 1 := ⟨n - 1, by omega⟩
        rw [wY_work_31]
        refine br_f g ⟨v, br_t (by rw [c]; exact e9.1) ⟨v, va, br_f ?_ (nm_e (h1 rfl))⟩⟩
        rw [c, ← ea]
        exact Int32.not_le.mpr e9.2
    · obtain ⟨k, rx', ry', ag', HX, HY⟩ := ih (i + 1) (st_f (gs 10) tx (so i) (sd i) (sa i) (sq i) rx) (st_f (gs 10) tx (so i) (sd i) (sa i) (sq i) ry) (by omega) (st_ag ag q)
      refine ⟨k, rx', ry', ag', fun post n hn h => ?_, fun post x y n hn h1 h2 => ?_⟩
      · obtain ⟨n, rfl⟩ : ∃ m, n = m + 1 := ⟨n - 1, by omega⟩
        exact mx_step i10 g q (fun a b => e9 ⟨a, b⟩) (HX post n (by omega) h)
      · obtain ⟨n, rfl⟩ : ∃ m, n = m + 1 := ⟨n - 1, by omega⟩
        have K := HY post x y n (by omega) h1 h2
        have C : wY_work_75 post (wY_work_31 post x y n) x y (nI i) LE TO WI HI (nI ns) KE VA VB VC LA ZZ re gr bl de sn tx pl vv gs so sd sa sq cn ry := by
          unfold wY_work_75
          exact my_carry i10 q ht (nm_r (nI_1 i) K)
        rw [wY_work_31]
        by_cases o9 : so i = 9
        · obtain ⟨A, hA, eA⟩ := q.2.2.1 (by rw [o9]; decide)
          have ea : rx (sa i).toNatClampNeg = ry (sa i).toNatClampNeg := ag _ (by rw [eA, nI_clamp (by omega)]; exact hA)
          have va : vp_in (sa (nI i).toNatClampNeg) 8 := by rw [c, eA]; exact vp_in_nI hA (by decide)
          refine br_f g ⟨v, br_t (by rw [c]; exact o9) ⟨v, va, br_t ?_ C⟩⟩
          rw [c, ← ea]
          exact Int32.not_lt.mp (fun z => e9 ⟨o9, z⟩)
        · exact br_f g ⟨v, br_f (by rw [c]; exact o9) C⟩
theorem fp_sim {ns x y : Nat} (hns : ns ≤ 10) (hst : ri_stp ns so sd sa sq) (ht : ri_tex tx) (hs : ri_set gs) (hc : ri_col co re gr bl) (hx : x < 24) (hy : y < 16) (ag : ag_r 6 rx ry) (z : Int32) :
    ∃ (co' de' sn' cn' rx' re' gr' bl' ry' : Nat → Int32), ri_col co' re' gr' bl'
    ∧ (∀ post : SX → Prop, post (nI ns, SL, ST, SR, SB, KE, CA, CB, CC, FL, WA, WB, WC, co', de', sn', tx, vx, vy, vz, vq, vv, gs, cn', so, sd, sa, sq, rx') → wpX_finishPixel post (nI ns, SL, ST, SR, SB, KE, CA, CB, CC, FL, WA, WB, WC, co, de, sn, tx, vx, vy, vz, vq, vv, gs, cn, so, sd, sa, sq, rx) (nI x) (nI y) z)
    ∧ (∀ post : SY → Prop, post (LE, TO, WI, HI, nI ns, KE, VA, VB, VC, LA, z, re', gr', bl', de', sn', tx, pl, vv, gs, so, sd, sa, sq, cn', ry') → wpY_work post (LE, TO, WI, HI, nI ns, KE, VA, VB, VC, LA, z, re, gr, bl, de, sn, tx, pl, vv, gs, so, sd, sa, sq, cn, ry) (nI x) (nI y)) := by
  have a8 : ag_r 8 (upd (upd rx 6 (nI x)) 7 z) (upd (upd ry 6 (nI x)) 7 z) := by
    intro j hj
    by_cases j7 : j = 7
    · rw [j7, pk_us, pk_us]
    · rw [pk_un j7, pk_un j7]
      by_cases j6 : j = 6
      · rw [j6, pk_us, pk_us]
      · rw [pk_un j6, pk_un j6]
        exact ag j (by omega)
  have vi : vp_in (nI (24 * y + x)) 384 := vp_in_nI (by omega) (by decide)
  have ci : (nI (24 * y + x)).toNatClampNeg = 24 * y + x := nI_clamp (by omega)
  have ex : nI y * 24 + nI x = nI (24 * y + x) := (ix_a (pk_mul y 24) x rfl).trans (congrArg nI (by omega))
  have ey : (24 : Int32) * nI y + nI x = nI (24 * y + x) := ix_a (pk_mul 24 y) x rfl
  obtain ⟨k, rx', ry', ag', HX, HY⟩ := pg_loop (SL := SL) (ST := ST) (SR := SR) (SB := SB) (KE := KE) (CA := CA) (CB := CB) (CC := CC) (FL := FL) (WA := WA) (WB := WB) (WC := WC) (co := co) (de := de) (sn := sn) (tx := tx) (vx := vx) (vy := vy) (vz := vz) (vq := vq) (vv := vv) (gs := gs) (cn := upd cn 0 (cn 0 + 1)) (so := so) (sd := sd) (sa := sa) (sq := sq) (LE := LE) (TO := TO) (WI := WI) (HI := HI) (VA := VA) (VB := VB) (VC := VC) (LA := LA) (ZZ := z) (re := re) (gr := gr) (bl := bl) (pl := pl) hns hst ht ns 0 _ _ (by omega) a8
  cases k with
  | true =>
    refine ⟨co, de, sn, upd (upd cn 0 (cn 0 + 1)) 1 ((upd cn 0 (cn 0 + 1)) 1 + 1), rx', re, gr, bl, ry', hc, fun post h => ?_, fun post h => ?_⟩
    · refine nm_e (nm_e (nm_e ?_))
      exact ⟨ns + 1, HX _ (ns + 1) (by omega) (br_t rfl (nm_e h))⟩
    · refine nm_e (nm_e (nm_e ?_))
      exact ⟨ns + 1, HY post _ _ (ns + 1) (by omega) (fun _ => h) (fun z => nomatch z)⟩
  | false =>
    by_cases c1 : cm_p (gs 2) (gs 3) (sn (nI (24 * y + x)).toNatClampNeg) = true
    · by_cases c2 : cm_p (gs 0) z (de (nI (24 * y + x)).toNatClampNeg) = true
      · have ok := bc_ok (rx := rx') (ry := cl_4 ry') hc (p := (nI (24 * y + x)).toNatClampNeg) (by rw [ci]; omega) (gs 7) (gs 8) (congrArg ac_f (ag' 0 (by decide)).symm) (congrArg ac_f (ag' 1 (by decide)).symm) (congrArg ac_f (ag' 2 (by decide)).symm) (congrArg ac_f (ag' 3 (by decide)).symm)
        refine ⟨(upd co (nI (24 * y + x)).toNatClampNeg (wm_f (gs 8) (co (nI (24 * y + x)).toNatClampNeg) (bc_f (gs 7) rx' (co (nI (24 * y + x)).toNatClampNeg)))), (if gs 1 = 1 then upd de (nI (24 * y + x)).toNatClampNeg z else de), (upd sn (nI (24 * y + x)).toNatClampNeg (sc_f (gs 6) (gs 3) (sn (nI (24 * y + x)).toNatClampNeg))), (upd (upd cn 0 (cn 0 + 1)) 4 ((upd cn 0 (cn 0 + 1)) 4 + 1)), rx', (if wm_p (gs 8) then upd re (nI (24 * y + x)).toNatClampNeg (bl_f (gs 7) (cl_4 ry' 0) (re (nI (24 * y + x)).toNatClampNeg) (cl_4 ry' 3)) else re), (if wm_q (gs 8) then upd gr (nI (24 * y + x)).toNatClampNeg (bl_f (gs 7) (cl_4 ry' 1) (gr (nI (24 * y + x)).toNatClampNeg) (cl_4 ry' 3)) else gr), (if wm_s (gs 8) then upd bl (nI (24 * y + x)).toNatClampNeg (bl_f (gs 7) (cl_4 ry' 2) (bl (nI (24 * y + x)).toNatClampNeg) (cl_4 ry' 3)) else bl), cl_4 ry', ok, fun post h => ?_, fun post h => ?_⟩
        rotate_left 1
        · refine nm_e (nm_e (nm_e ?_))
          refine ⟨ns + 1, HY post _ _ (ns + 1) (by omega) (fun z => nomatch z) (fun _ => my_clamp ey ?_)⟩
          exact my_test vi hs (fun a => absurd c1 a) (fun _ b => absurd c2 b) (fun _ _ => h)
        · refine nm_e (nm_e (nm_e ?_))
          refine ⟨ns + 1, HX _ (ns + 1) (by omega) (br_f n10 (nm_r ex ?_))⟩
          refine mx_tests vi (fun a => absurd c1 a) (fun _ b => absurd c2 b) (fun _ _ => br_f n10 (nm_e ?_))
          refine mx_wdep vi ⟨vi, ?_⟩
          refine mx_bcol ?_
          exact mx_wcol vi h
      · refine ⟨co, de, (upd sn (nI (24 * y + x)).toNatClampNeg (sc_f (gs 5) (gs 3) (sn (nI (24 * y + x)).toNatClampNeg))), (upd (upd cn 0 (cn 0 + 1)) 3 ((upd cn 0 (cn 0 + 1)) 3 + 1)), rx', re, gr, bl, cl_4 ry', hc, fun post h => ?_, fun post h => ?_⟩
        · refine nm_e (nm_e (nm_e ?_))
          refine ⟨ns + 1, HX _ (ns + 1) (by omega) (br_f n10 (nm_r ex ?_))⟩
          exact mx_tests vi (fun a => absurd c1 a) (fun _ _ => br_t rfl h) (fun _ b => absurd b c2)
        · refine nm_e (nm_e (nm_e ?_))
          refine ⟨ns + 1, HY post _ _ (ns + 1) (by omega) (fun z => nomatch z) (fun _ => my_clamp ey ?_)⟩
          exact my_test vi hs (fun a => absurd c1 a) (fun _ _ => h) (fun _ b => absurd b c2)
    · refine ⟨co, de, (upd sn (nI (24 * y + x)).toNatClampNeg (sc_f (gs 4) (gs 3) (sn (nI (24 * y + x)).toNatClampNeg))), (upd (upd cn 0 (cn 0 + 1)) 2 ((upd cn 0 (cn 0 + 1)) 2 + 1)), rx', re, gr, bl, cl_4 ry', hc, fun post h => ?_, fun post h => ?_⟩
      · refine nm_e (nm_e (nm_e ?_))
        refine ⟨ns + 1, HX _ (ns + 1) (by omega) (br_f n10 (nm_r ex ?_))⟩
        exact mx_tests vi (fun _ => br_t rfl h) (fun a => absurd a c1) (fun a => absurd a c1)
      · refine nm_e (nm_e (nm_e ?_))
        refine ⟨ns + 1, HY post _ _ (ns + 1) (by omega) (fun z => nomatch z) (fun _ => my_clamp ey ?_)⟩
        exact my_test vi hs (fun _ => h) (fun a => absurd a c1) (fun a => absurd a c1)
end LCK
