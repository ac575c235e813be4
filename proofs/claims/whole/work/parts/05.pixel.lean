/-! one pixel behind the program: tests, stencil, depth, blending, masks -/
theorem wm_p0 {m : Int32} (a : (m &&& 1) = 0) : wm_p m = false := decide_eq_false (fun z => z a)
theorem wm_p1 {m : Int32} (a : ¬ (m &&& 1) = 0) : wm_p m = true := decide_eq_true a
theorem wm_q0 {m : Int32} (a : (m &&& 2) = 0) : wm_q m = false := decide_eq_false (fun z => z a)
theorem wm_q1 {m : Int32} (a : ¬ (m &&& 2) = 0) : wm_q m = true := decide_eq_true a
theorem wm_s0 {m : Int32} (a : (m &&& 4) = 0) : wm_s m = false := decide_eq_false (fun z => z a)
theorem wm_s1 {m : Int32} (a : ¬ (m &&& 4) = 0) : wm_s m = true := decide_eq_true a
def bc_f (m : Int32) (r : Nat → Int32) (c : Int32) : Int32 := ((bl_f m (ac_f (r 0)) ((c >>> ((16 : Int32) &&& 31)) &&& 255) (ac_f (r 3)) <<< ((16 : Int32) &&& 31)) ||| (bl_f m (ac_f (r 1)) ((c >>> ((8 : Int32) &&& 31)) &&& 255) (ac_f (r 3)) <<< ((8 : Int32) &&& 31))) ||| bl_f m (ac_f (r 2)) (c &&& 255) (ac_f (r 3))
section PIX
variable {NS SL ST SR SB KE CA CB CC FL WA WB WC : Int32} {co de sn tx vx vy vz vq vv gs cn so sd sa sq rx : Nat → Int32}
variable {LE TO WI HI VA VB VC LA ZZ : Int32} {re gr bl pl ry : Nat → Int32}
theorem mx_wcol {post : SX → Prop} {i c : Int32} (vi : vp_in i 384) (h : post (NS, SL, ST, SR, SB, KE, CA, CB, CC, FL, WA, WB, WC, upd co i.toNatClampNeg (wm_f (gs 8) (co i.toNatClampNeg) c), de, sn, tx, vx, vy, vz, vq, vv, gs, cn, so, sd, sa, sq, rx)) : wpX_writeColour post (NS, SL, ST, SR, SB, KE, CA, CB, CC, FL, WA, WB, WC, co, de, sn, tx, vx, vy, vz, vq, vv, gs, cn, so, sd, sa, sq, rx) i c := by
  have H : ∀ m : Int32, m = cp_bits (wm_p (gs 8)) (wm_q (gs 8)) (wm_s (gs 8)) → wX_writeColour_51 post i c m NS SL ST SR SB KE CA CB CC FL WA WB WC co de sn tx vx vy vz vq vv gs cn so sd sa sq rx := by
    intro m hm
    refine ⟨vi, vi, nm_r (e' := upd co i.toNatClampNeg (wm_f (gs 8) (co i.toNatClampNeg) c)) ?_ h⟩
    rw [hm]
    rfl
  refine nm_e (br_c (fun a => ?_) (fun a => nm_e ?_))
  · refine br_c (fun b => ?_) (fun b => nm_e ?_)
    · exact br_c (fun d => H _ (by rw [wm_p0 a, wm_q0 b, wm_s0 d]; decide)) (fun d => nm_e (H _ (by rw [wm_p0 a, wm_q0 b, wm_s1 d]; decide)))
    · exact br_c (fun d => H _ (by rw [wm_p0 a, wm_q1 b, wm_s0 d]; decide)) (fun d => nm_e (H _ (by rw [wm_p0 a, wm_q1 b, wm_s1 d]; decide)))
  · refine br_c (fun b => ?_) (fun b => nm_e ?_)
    · exact br_c (fun d => H _ (by rw [wm_p1 a, wm_q0 b, wm_s0 d]; decide)) (fun d => nm_e (H _ (by rw [wm_p1 a, wm_q0 b, wm_s1 d]; decide)))
    · exact br_c (fun d => H _ (by rw [wm_p1 a, wm_q1 b, wm_s0 d]; decide)) (fun d => nm_e (H _ (by rw [wm_p1 a, wm_q1 b, wm_s1 d]; decide)))
theorem mx_wdep {post : SX → Prop} {i z : Int32} (vi : vp_in i 384) (h : post (NS, SL, ST, SR, SB, KE, CA, CB, CC, FL, WA, WB, WC, co, if gs 1 = 1 then upd de i.toNatClampNeg z else de, sn, tx, vx, vy, vz, vq, vv, gs, cn, so, sd, sa, sq, rx)) : wpX_writeDepth post (NS, SL, ST, SR, SB, KE, CA, CB, CC, FL, WA, WB, WC, co, de, sn, tx, vx, vy, vz, vq, vv, gs, cn, so, sd, sa, sq, rx) i z := by
  by_cases a : gs 1 = 1
  · rw [if_pos a] at h
    exact br_t a ⟨vi, nm_e h⟩
  · rw [if_neg a] at h
    exact br_f a h
theorem mx_chs {post : SX → Prop} {i o : Int32} (vi : vp_in i 384) (h : post (NS, SL, ST, SR, SB, KE, CA, CB, CC, FL, WA, WB, WC, co, de, upd sn i.toNatClampNeg (sc_f o (gs 3) (sn i.toNatClampNeg)), tx, vx, vy, vz, vq, vv, gs, cn, so, sd, sa, sq, rx)) : wpX_changeStencil post (NS, SL, ST, SR, SB, KE, CA, CB, CC, FL, WA, WB, WC, co, de, sn, tx, vx, vy, vz, vq, vv, gs, cn, so, sd, sa, sq, rx) i o := by
  unfold sc_f at h
  refine ⟨vi, nm_e ?_⟩
  by_cases h1 : o < 1
  · have e : ∀ c : Int32, 1 ≤ c → ¬ o = c := fun c hc z => absurd h1 (Int32.not_lt.mpr (z ▸ hc))
    rw [if_neg (e 1 (by decide)), if_neg (e 2 (by decide)), if_neg (e 3 (by decide)), if_neg (e 4 (by decide)), if_neg (e 5 (by decide)), up_self] at h
    exact br_t h1 h
  · by_cases h5 : 5 < o
    · have e : ∀ c : Int32, c ≤ 5 → ¬ o = c := fun c hc z => absurd h5 (Int32.not_lt.mpr (z ▸ hc))
      rw [if_neg (e 1 (by decide)), if_neg (e 2 (by decide)), if_neg (e 3 (by decide)), if_neg (e 4 (by decide)), if_neg (e 5 (by decide)), up_self] at h
      exact br_f h1 (br_t h5 h)
    · refine br_f h1 (br_f h5 ?_)
      by_cases e1 : o = 1
      · rw [if_pos e1] at h
        exact br_t e1 ⟨vi, nm_e h⟩
      · rw [if_neg e1] at h
        refine br_f e1 ?_
        by_cases e2 : o = 2
        · rw [if_pos e2] at h
          exact br_t e2 ⟨vi, nm_e h⟩
        · rw [if_neg e2] at h
          refine br_f e2 ?_
          by_cases e3 : o = 3
          · rw [if_pos e3] at h
            refine br_t e3 (br_c (fun a => ?_) (fun a => ?_))
            · rw [if_neg (Int32.not_lt.mpr a)] at h
              exact ⟨vi, nm_e h⟩
            · rw [if_pos (Int32.not_le.mp a)] at h
              exact ⟨vi, nm_e h⟩
          · rw [if_neg e3] at h
            refine br_f e3 ?_
            by_cases e4 : o = 4
            · rw [if_pos e4] at h
              refine br_t e4 (br_c (fun a => ?_) (fun a => ?_))
              · rw [if_neg (Int32.not_lt.mpr a)] at h
                exact ⟨vi, nm_e h⟩
              · rw [if_pos (Int32.not_le.mp a)] at h
                exact ⟨vi, nm_e h⟩
            · rw [if_neg e4] at h
              refine br_f e4 ?_
              by_cases e5 : o = 5
              · rw [if_pos e5] at h
                exact br_t e5 ⟨vi, nm_e h⟩
              · exact br_f e5 trivial
theorem my_chs {post : SY → Prop} {i o : Int32} (vi : vp_in i 384) (ho : ri_06 o) (h : post (LE, TO, WI, HI, NS, KE, VA, VB, VC, LA, ZZ, re, gr, bl, de, upd sn i.toNatClampNeg (sc_f o (gs 3) (sn i.toNatClampNeg)), tx, pl, vv, gs, so, sd, sa, sq, cn, ry)) : wpY_change post (LE, TO, WI, HI, NS, KE, VA, VB, VC, LA, ZZ, re, gr, bl, de, sn, tx, pl, vv, gs, so, sd, sa, sq, cn, ry) i o := by
  unfold sc_f at h
  refine ⟨vi, nm_e ?_⟩
  by_cases e0 : o = 0
  · have e : ∀ c : Int32, ¬ (0 : Int32) = c → ¬ o = c := fun c hc z => hc (e0.symm.trans z)
    rw [if_neg (e 1 (by decide)), if_neg (e 2 (by decide)), if_neg (e 3 (by decide)), if_neg (e 4 (by decide)), if_neg (e 5 (by decide))] at h
    exact br_t e0 ⟨vi, nm_e h⟩
  · refine br_f e0 ?_
    by_cases e1 : o = 1
    · rw [if_pos e1] at h
      exact br_t e1 ⟨vi, nm_e h⟩
    · rw [if_neg e1] at h
      refine br_f e1 ?_
      by_cases e2 : o = 2
      · rw [if_pos e2] at h
        exact br_t e2 ⟨vi, nm_e h⟩
      · rw [if_neg e2] at h
        refine br_f e2 ?_
        by_cases e3 : o = 3
        · rw [if_pos e3] at h
          refine br_t e3 (br_c (fun a => ?_) (fun a => ?_))
          · rw [if_neg (Int32.not_lt.mpr a)] at h
            exact ⟨vi, nm_e h⟩
          · rw [if_pos (Int32.not_le.mp a)] at h
            exact ⟨vi, nm_e h⟩
        · rw [if_neg e3] at h
          refine br_f e3 ?_
          by_cases e4 : o = 4
          · rw [if_pos e4] at h
            refine br_t e4 (br_c (fun a => ?_) (fun a => ?_))
            · rw [if_neg (Int32.not_lt.mpr a)] at h
              exact ⟨vi, nm_e h⟩
            · rw [if_pos (Int32.not_le.mp a)] at h
              exact ⟨vi, nm_e h⟩
          · rw [if_neg e4] at h
            refine br_f e4 ?_
            have e5 : o = 5 := by
              rcases ho with q | q | q | q | q | q
              · exact absurd q e0
              · exact absurd q e1
              · exact absurd q e2
              · exact absurd q e3
              · exact absurd q e4
              · exact q
            rw [if_pos e5] at h
            exact ⟨vi, nm_e h⟩
theorem mx_bl {post : Int32 → Prop} {n o a : Int32} (h : post (bl_f (gs 7) n o a)) : wpX_blended post (NS, SL, ST, SR, SB, KE, CA, CB, CC, FL, WA, WB, WC, co, de, sn, tx, vx, vy, vz, vq, vv, gs, cn, so, sd, sa, sq, rx) n o a := by
  unfold bl_f at h
  refine nm_e ?_
  by_cases h1 : gs 7 < 1
  · have e : ∀ c : Int32, 1 ≤ c → ¬ gs 7 = c := fun c hc z => absurd h1 (Int32.not_lt.mpr (z ▸ hc))
    rw [if_neg (e 1 (by decide)), if_neg (e 2 (by decide)), if_neg (e 3 (by decide)), if_neg (e 4 (by decide))] at h
    exact br_t h1 h
  · by_cases h5 : 4 < gs 7
    · have e : ∀ c : Int32, c ≤ 4 → ¬ gs 7 = c := fun c hc z => absurd h5 (Int32.not_lt.mpr (z ▸ hc))
      rw [if_neg (e 1 (by decide)), if_neg (e 2 (by decide)), if_neg (e 3 (by decide)), if_neg (e 4 (by decide))] at h
      exact br_f h1 (br_t h5 h)
    · refine br_f h1 (br_f h5 ?_)
      by_cases e1 : gs 7 = 1
      · rw [if_pos e1] at h
        exact br_t e1 ⟨by decide, h⟩
      · rw [if_neg e1] at h
        refine br_f e1 ?_
        by_cases e2 : gs 7 = 2
        · rw [if_pos e2] at h
          refine br_t e2 (br_c (fun q => ?_) (fun q => ?_))
          · rw [if_neg (Int32.not_lt.mpr q)] at h
            exact h
          · rw [if_pos (Int32.not_le.mp q)] at h
            exact h
        · rw [if_neg e2] at h
          refine br_f e2 ?_
          by_cases e3 : gs 7 = 3
          · rw [if_pos e3] at h
            exact br_t e3 ⟨by decide, h⟩
          · rw [if_neg e3] at h
            refine br_f e3 ?_
            by_cases e4 : gs 7 = 4
            · rw [if_pos e4] at h
              refine br_t e4 (br_c (fun q => ?_) (fun q => ?_))
              · rw [if_neg (Int32.not_lt.mpr q)] at h
                exact h
              · rw [if_pos (Int32.not_le.mp q)] at h
                exact h
            · exact br_f e4 trivial
theorem my_bl {post : Int32 → Prop} {n o : Int32} (hs : gs 7 = 0 ∨ gs 7 = 1 ∨ gs 7 = 2 ∨ gs 7 = 3 ∨ gs 7 = 4) (h : post (bl_f (gs 7) n o (ry 3))) : wpY_blended post (LE, TO, WI, HI, NS, KE, VA, VB, VC, LA, ZZ, re, gr, bl, de, sn, tx, pl, vv, gs, so, sd, sa, sq, cn, ry) n o := by
  unfold bl_f at h
  rcases hs with e | e | e | e | e
  · refine nm_r e ?_
    rw [e, if_neg (by decide), if_neg (by decide), if_neg (by decide), if_neg (by decide)] at h
    exact br_f (by decide) (br_f (by decide) (br_t rfl h))
  · refine nm_r e ?_
    rw [e, if_pos rfl] at h
    exact br_f (by decide) (br_f (by decide) (br_f (by decide) (br_t rfl ⟨by decide, h⟩)))
  · refine nm_r e ?_
    rw [e, if_neg (by decide), if_pos rfl] at h
    refine br_f (by decide) (br_f (by decide) (br_f (by decide) (br_f (by decide) (br_t rfl (br_c (fun q => ?_) (fun q => ?_))))))
    · rw [if_neg (Int32.not_lt.mpr q)] at h
      exact h
    · rw [if_pos (Int32.not_le.mp q)] at h
      exact h
  · refine nm_r e ?_
    rw [e, if_neg (by decide), if_neg (by decide), if_pos rfl] at h
    exact br_f (by decide) (br_f (by decide) (br_f (by decide) (br_f (by decide) (br_f (by decide) (br_t rfl ⟨by decide, h⟩)))))
  · refine nm_r e ?_
    rw [e, if_neg (by decide), if_neg (by decide), if_neg (by decide), if_pos rfl] at h
    refine br_f (by decide) (br_t (by decide) (br_c (fun q => ?_) (fun q => ?_)))
    · rw [if_neg (Int32.not_lt.mpr q)] at h
      exact h
    · rw [if_pos (Int32.not_le.mp q)] at h
      exact h
theorem mx_bcol {post : Int32 → Prop} {c : Int32} (h : post (bc_f (gs 7) rx c)) : wpX_blendedColour post (NS, SL, ST, SR, SB, KE, CA, CB, CC, FL, WA, WB, WC, co, de, sn, tx, vx, vy, vz, vq, vv, gs, cn, so, sd, sa, sq, rx) c := by
  unfold wpX_blendedColour
  refine mx_chan ?_
  refine mx_chan ?_
  refine mx_chan ?_
  refine mx_chan ?_
  refine mx_bl ?_
  refine mx_bl ?_
  refine mx_bl ?_
  exact h
theorem mx_tests {post : Int32 → SX → Prop} {i z : Int32} (vi : vp_in i 384)
    (h1 : ¬ cm_p (gs 2) (gs 3) (sn i.toNatClampNeg) = true → post 0 (NS, SL, ST, SR, SB, KE, CA, CB, CC, FL, WA, WB, WC, co, de, upd sn i.toNatClampNeg (sc_f (gs 4) (gs 3) (sn i.toNatClampNeg)), tx, vx, vy, vz, vq, vv, gs, upd cn 2 (cn 2 + 1), so, sd, sa, sq, rx))
    (h2 : cm_p (gs 2) (gs 3) (sn i.toNatClampNeg) = true → ¬ cm_p (gs 0) z (de i.toNatClampNeg) = true → post 0 (NS, SL, ST, SR, SB, KE, CA, CB, CC, FL, WA, WB, WC, co, de, upd sn i.toNatClampNeg (sc_f (gs 5) (gs 3) (sn i.toNatClampNeg)), tx, vx, vy, vz, vq, vv, gs, upd cn 3 (cn 3 + 1), so, sd, sa, sq, rx))
    (h3 : cm_p (gs 2) (gs 3) (sn i.toNatClampNeg) = true → cm_p (gs 0) z (de i.toNatClampNeg) = true → post 1 (NS, SL, ST, SR, SB, KE, CA, CB, CC, FL, WA, WB, WC, co, de, upd sn i.toNatClampNeg (sc_f (gs 6) (gs 3) (sn i.toNatClampNeg)), tx, vx, vy, vz, vq, vv, gs, cn, so, sd, sa, sq, rx)) : wpX_passesTests post (NS, SL, ST, SR, SB, KE, CA, CB, CC, FL, WA, WB, WC, co, de, sn, tx, vx, vy, vz, vq, vv, gs, cn, so, sd, sa, sq, rx) i z := by
  unfold wpX_passesTests
  refine ⟨vi, ?_⟩
  refine mx_cmp (fun a => ?_) (fun a => ?_)
  · refine br_f n10 ⟨vi, ?_⟩
    refine mx_cmp (fun b => ?_) (fun b => ?_)
    · refine br_f n10 ?_
      exact mx_chs vi (h3 a b)
    · refine br_t rfl (nm_e ?_)
      exact mx_chs vi (h2 a b)
  · refine br_t rfl (nm_e ?_)
    exact mx_chs vi (h1 a)
end PIX
