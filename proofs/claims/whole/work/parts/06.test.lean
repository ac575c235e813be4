/-! the reference's test of a pixel, and its clamping of registers 0 to 3 -/
theorem bz_f : ¬ (false = true) := by decide
section TST
variable {LE TO WI HI NS KE VA VB VC LA ZZ : Int32} {re gr bl de sn tx pl vv gs so sd sa sq cn ry : Nat → Int32}
theorem my_t200 {post : SY → Prop} {i : Int32} (vi : vp_in i 384) (hs : gs 7 = 0 ∨ gs 7 = 1 ∨ gs 7 = 2 ∨ gs 7 = 3 ∨ gs 7 = 4) (h : post (LE, TO, WI, HI, NS, KE, VA, VB, VC, LA, ZZ, re, gr, if wm_s (gs 8) then upd bl i.toNatClampNeg (bl_f (gs 7) (ry 2) (bl i.toNatClampNeg) (ry 3)) else bl, de, sn, tx, pl, vv, gs, so, sd, sa, sq, cn, ry)) : wY_test_200 post i LE TO WI HI NS KE VA VB VC LA ZZ re gr bl de sn tx pl vv gs so sd sa sq cn ry := by
  by_cases a : (gs 8 &&& 4) = 0
  · rw [wm_s0 a, if_neg bz_f] at h
    exact br_t a h
  · rw [wm_s1 a, if_pos rfl] at h
    refine br_f a ⟨vi, ?_⟩
    exact my_bl hs ⟨vi, nm_e h⟩
theorem my_t166 {post : SY → Prop} {i : Int32} (vi : vp_in i 384) (hs : gs 7 = 0 ∨ gs 7 = 1 ∨ gs 7 = 2 ∨ gs 7 = 3 ∨ gs 7 = 4) (h : post (LE, TO, WI, HI, NS, KE, VA, VB, VC, LA, ZZ, re, if wm_q (gs 8) then upd gr i.toNatClampNeg (bl_f (gs 7) (ry 1) (gr i.toNatClampNeg) (ry 3)) else gr, if wm_s (gs 8) then upd bl i.toNatClampNeg (bl_f (gs 7) (ry 2) (bl i.toNatClampNeg) (ry 3)) else bl, de, sn, tx, pl, vv, gs, so, sd, sa, sq, cn, ry)) : wY_test_166 post i LE TO WI HI NS KE VA VB VC LA ZZ re gr bl de sn tx pl vv gs so sd sa sq cn ry := by
  by_cases a : (gs 8 &&& 2) = 0
  · rw [wm_q0 a, if_neg bz_f] at h
    exact br_t a (my_t200 vi hs h)
  · rw [wm_q1 a, if_pos rfl] at h
    refine br_f a ⟨vi, ?_⟩
    exact my_bl hs ⟨vi, nm_e (my_t200 vi hs h)⟩
theorem my_t132 {post : SY → Prop} {i : Int32} (vi : vp_in i 384) (hs : gs 7 = 0 ∨ gs 7 = 1 ∨ gs 7 = 2 ∨ gs 7 = 3 ∨ gs 7 = 4) (h : post (LE, TO, WI, HI, NS, KE, VA, VB, VC, LA, ZZ, if wm_p (gs 8) then upd re i.toNatClampNeg (bl_f (gs 7) (ry 0) (re i.toNatClampNeg) (ry 3)) else re, if wm_q (gs 8) then upd gr i.toNatClampNeg (bl_f (gs 7) (ry 1) (gr i.toNatClampNeg) (ry 3)) else gr, if wm_s (gs 8) then upd bl i.toNatClampNeg (bl_f (gs 7) (ry 2) (bl i.toNatClampNeg) (ry 3)) else bl, de, sn, tx, pl, vv, gs, so, sd, sa, sq, cn, ry)) : wY_test_132 post i LE TO WI HI NS KE VA VB VC LA ZZ re gr bl de sn tx pl vv gs so sd sa sq cn ry := by
  by_cases a : (gs 8 &&& 1) = 0
  · rw [wm_p0 a, if_neg bz_f] at h
    exact br_t a (my_t166 vi hs h)
  · rw [wm_p1 a, if_pos rfl] at h
    refine br_f a ⟨vi, ?_⟩
    exact my_bl hs ⟨vi, nm_e (my_t166 vi hs h)⟩
theorem my_test {post : SY → Prop} {i : Int32} (vi : vp_in i 384) (hs : ri_set gs)
    (h1 : ¬ cm_p (gs 2) (gs 3) (sn i.toNatClampNeg) = true → post (LE, TO, WI, HI, NS, KE, VA, VB, VC, LA, ZZ, re, gr, bl, de, upd sn i.toNatClampNeg (sc_f (gs 4) (gs 3) (sn i.toNatClampNeg)), tx, pl, vv, gs, so, sd, sa, sq, upd cn 2 (cn 2 + 1), ry))
    (h2 : cm_p (gs 2) (gs 3) (sn i.toNatClampNeg) = true → ¬ cm_p (gs 0) ZZ (de i.toNatClampNeg) = true → post (LE, TO, WI, HI, NS, KE, VA, VB, VC, LA, ZZ, re, gr, bl, de, upd sn i.toNatClampNeg (sc_f (gs 5) (gs 3) (sn i.toNatClampNeg)), tx, pl, vv, gs, so, sd, sa, sq, upd cn 3 (cn 3 + 1), ry))
    (h3 : cm_p (gs 2) (gs 3) (sn i.toNatClampNeg) = true → cm_p (gs 0) ZZ (de i.toNatClampNeg) = true → post (LE, TO, WI, HI, NS, KE, VA, VB, VC, LA, ZZ, if wm_p (gs 8) then upd re i.toNatClampNeg (bl_f (gs 7) (ry 0) (re i.toNatClampNeg) (ry 3)) else re, if wm_q (gs 8) then upd gr i.toNatClampNeg (bl_f (gs 7) (ry 1) (gr i.toNatClampNeg) (ry 3)) else gr, if wm_s (gs 8) then upd bl i.toNatClampNeg (bl_f (gs 7) (ry 2) (bl i.toNatClampNeg) (ry 3)) else bl, if gs 1 = 1 then upd de i.toNatClampNeg ZZ else de, upd sn i.toNatClampNeg (sc_f (gs 6) (gs 3) (sn i.toNatClampNeg)), tx, pl, vv, gs, so, sd, sa, sq, upd cn 4 (cn 4 + 1), ry)) : wpY_test post (LE, TO, WI, HI, NS, KE, VA, VB, VC, LA, ZZ, re, gr, bl, de, sn, tx, pl, vv, gs, so, sd, sa, sq, cn, ry) i := by
  unfold wpY_test
  refine ⟨vi, ?_⟩
  refine my_cmp (fun a => ?_) (fun a => ?_)
  · refine br_f n10 ⟨vi, ?_⟩
    refine my_cmp (fun b => ?_) (fun b => ?_)
    · refine br_f n10 (nm_e ?_)
      refine my_chs vi hs.2.2.2 ?_
      have h := h3 a b
      by_cases c : gs 1 = 1
      · rw [if_pos c] at h
        exact br_t c ⟨vi, nm_e (my_t132 vi hs.1 h)⟩
      · rw [if_neg c] at h
        exact br_f c (my_t132 vi hs.1 h)
    · refine br_t rfl (nm_e ?_)
      exact my_chs vi hs.2.2.1 (h2 a b)
  · refine br_t rfl (nm_e ?_)
    exact my_chs vi hs.2.1 (h1 a)
theorem my_cl1 {post : SY → Prop} {x y : Int32} {j n : Nat} (hj : j < 4) (h : wY_work_88 post x y LE TO WI HI NS KE VA VB VC LA ZZ n (nI (j + 1)) re gr bl de sn tx pl vv gs so sd sa sq cn (upd ry j (ac_f (ry j)))) : wY_work_88 post x y LE TO WI HI NS KE VA VB VC LA ZZ (n + 1) (nI j) re gr bl de sn tx pl vv gs so sd sa sq cn ry := by
  have v : vp_in (nI j) 8 := vp_in_nI (by omega) (by decide)
  have c : (nI j).toNatClampNeg = j := nI_clamp (by omega)
  have g : ¬ (4 : Int32) ≤ nI j := nI_ge (b := 4) hj (by decide)
  rw [wY_work_88]
  unfold ac_f at h
  refine br_f g ⟨v, br_c (fun a => ⟨v, br_c (fun b => ⟨v, v, ?_⟩) (fun b => ⟨v, ?_⟩)⟩) (fun a => ⟨v, ?_⟩)⟩
  · rw [c] at a b
    rw [if_neg (Int32.not_lt.mpr a), if_neg (Int32.not_lt.mpr b)] at h
    exact nm_r (e' := upd ry j (ry j)) (by rw [c]) (nm_r (nI_1 j) h)
  · rw [c] at a b
    rw [if_neg (Int32.not_lt.mpr a), if_pos (Int32.not_le.mp b)] at h
    exact nm_r (e' := upd ry j 255) (by rw [c]) (nm_r (nI_1 j) h)
  · rw [c] at a
    rw [if_pos (Int32.not_le.mp a)] at h
    exact nm_r (e' := upd ry j 0) (by rw [c]) (nm_r (nI_1 j) h)
def cl_4 (r : Nat → Int32) : Nat → Int32 := fun j => if j < 4 then ac_f (r j) else r j
theorem cl_4e (r : Nat → Int32) : upd (upd (upd (upd r 0 (ac_f (r 0))) 1 (ac_f ((upd r 0 (ac_f (r 0))) 1))) 2 (ac_f ((upd (upd r 0 (ac_f (r 0))) 1 (ac_f ((upd r 0 (ac_f (r 0))) 1))) 2))) 3 (ac_f ((upd (upd (upd r 0 (ac_f (r 0))) 1 (ac_f ((upd r 0 (ac_f (r 0))) 1))) 2 (ac_f ((upd (upd r 0 (ac_f (r 0))) 1 (ac_f ((upd r 0 (ac_f (r 0))) 1))) 2))) 3)) = cl_4 r := by
  funext j
  have c : j = 0 ∨ j = 1 ∨ j = 2 ∨ j = 3 ∨ 4 ≤ j := by omega
  rcases c with rfl | rfl | rfl | rfl | h
  · rfl
  · rfl
  · rfl
  · rfl
  · rw [pk_un (by omega), pk_un (by omega), pk_un (by omega), pk_un (by omega)]
    exact (if_neg (by omega)).symm
theorem my_clamp {post : SY → Prop} {x y i : Int32} (hi : (24 * y) + x = i) (h : wpY_test (fun u => match u with | (LE, TO, WI, HI, NS, KE, VA, VB, VC, LA, ZZ, re, gr, bl, de, sn, tx, pl, vv, gs, so, sd, sa, sq, cn, ry) => post (LE, TO, WI, HI, NS, KE, VA, VB, VC, LA, ZZ, re, gr, bl, de, sn, tx, pl, vv, gs, so, sd, sa, sq, cn, ry)) (LE, TO, WI, HI, NS, KE, VA, VB, VC, LA, ZZ, re, gr, bl, de, sn, tx, pl, vv, gs, so, sd, sa, sq, cn, cl_4 ry) i) : ∃ q, wY_work_88 post x y LE TO WI HI NS KE VA VB VC LA ZZ q 0 re gr bl de sn tx pl vv gs so sd sa sq cn ry := by
  refine ⟨5, ?_⟩
  refine my_cl1 (j := 0) (by decide) ?_
  refine my_cl1 (j := 1) (by decide) ?_
  refine my_cl1 (j := 2) (by decide) ?_
  refine my_cl1 (j := 3) (by decide) ?_
  rw [cl_4e, wY_work_88]
  refine br_t (by decide) ?_
  rw [hi]
  exact h
end TST
theorem bc_ok {co re gr bl rx ry : Nat → Int32} (hc : ri_col co re gr bl) {p : Nat} (hp : p < 384) (m s : Int32) (e0 : ry 0 = ac_f (rx 0)) (e1 : ry 1 = ac_f (rx 1)) (e2 : ry 2 = ac_f (rx 2)) (e3 : ry 3 = ac_f (rx 3)) :
    ri_col (upd co p (wm_f s (co p) (bc_f m rx (co p)))) (if wm_p s then upd re p (bl_f m (ry 0) (re p) (ry 3)) else re) (if wm_q s then upd gr p (bl_f m (ry 1) (gr p) (ry 3)) else gr) (if wm_s s then upd bl p (bl_f m (ry 2) (bl p) (ry 3)) else bl) := by
  obtain ⟨r, g, b, hr, hg, hb, er, eg, eb, ec⟩ := hc p hp
  obtain ⟨a0, h0, k0⟩ := ac_r (rx 0)
  obtain ⟨a1, h1, k1⟩ := ac_r (rx 1)
  obtain ⟨a2, h2, k2⟩ := ac_r (rx 2)
  obtain ⟨a3, h3, k3⟩ := ac_r (rx 3)
  obtain ⟨r', hr', er'⟩ := bl_r m h0 hr h3
  obtain ⟨g', hg', eg'⟩ := bl_r m h1 hg h3
  obtain ⟨b', hb', eb'⟩ := bl_r m h2 hb h3
  have f1 : bc_f m rx (co p) = cp_pk r' g' b' := by
    unfold bc_f
    rw [ec, cp_r2 hr hg hb, cp_g hr hg hb, cp_b hr hg hb, k0, k1, k2, k3, er', eg', eb', cp_join hr' hg' hb']
  rw [f1, e0, e1, e2, e3, er, eg, eb, k0, k1, k2, k3, er', eg', eb']
  exact ri_colW hc hr' hg' hb' s
