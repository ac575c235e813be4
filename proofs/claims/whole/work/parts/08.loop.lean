/-! a step of the program on each side, and the loop -/
section STP
variable {NS SL ST SR SB KE CA CB CC FL WA WB WC : Int32} {co de sn tx vx vy vz vq vv gs cn so sd sa sq rx : Nat → Int32}
variable {LE TO WI HI VA VB VC LA ZZ : Int32} {re gr bl pl ry : Nat → Int32}
theorem my_carry {post : SY → Prop} {i : Nat} (hi : i < 10) (q : ri_one (so i) (sd i) (sa i) (sq i)) (ht : ri_tex tx) (h : post (LE, TO, WI, HI, NS, KE, VA, VB, VC, LA, ZZ, re, gr, bl, de, sn, tx, pl, vv, gs, so, sd, sa, sq, cn, st_f (gs 10) tx (so i) (sd i) (sa i) (sq i) ry)) : wpY_carryOut post (LE, TO, WI, HI, NS, KE, VA, VB, VC, LA, ZZ, re, gr, bl, de, sn, tx, pl, vv, gs, so, sd, sa, sq, cn, ry) (nI i) := by
  have v : vp_in (nI i) 10 := vp_in_nI hi (by decide)
  have c : (nI i).toNatClampNeg = i := nI_clamp (by omega)
  obtain ⟨⟨N, hN, eN⟩, qd, qa, qb⟩ := q
  have ne : ∀ k c : Int32, so i = k → ¬ k = c → ¬ so i = c := fun k c e h z => h (e.symm.trans z)
  refine ⟨v, nm_r (e' := so i) (by rw [c]) ⟨v, nm_r (e' := sd i) (by rw [c]) ?_⟩⟩
  by_cases e9 : so i = 9
  · rw [st_9 e9] at h
    exact br_t e9 h
  refine br_f e9 ?_
  obtain ⟨D, hD, eD⟩ := qd e9
  have vd : vp_in (sd i) 8 := by rw [eD]; exact vp_in_nI hD (by decide)
  by_cases e8 : so i = 8
  · rw [st_8 e8] at h
    exact br_t e8 ⟨v, vd, nm_r (by rw [c]) h⟩
  refine br_f e8 ?_
  obtain ⟨A, hA, eA⟩ := qa e8
  have va : vp_in (sa (nI i).toNatClampNeg) 8 := by rw [c, eA]; exact vp_in_nI hA (by decide)
  refine ⟨v, va, nm_r (e' := ry (sa i).toNatClampNeg) (by rw [c]) ?_⟩
  by_cases e0 : so i = 0
  · rw [st_o e9 (ne _ _ e0 (by decide)) e8] at h
    have z : ∀ d a b : Int32, op_f (so i) d a b = a := fun d a b => if_pos e0
    rw [z] at h
    exact br_t e0 (br_t e0 ⟨vd, nm_e (br_f (ne _ _ e0 (by decide)) (br_f (ne _ _ e0 (by decide)) (br_f (ne _ _ e0 (by decide)) (br_f (ne _ _ e0 (by decide)) (br_f (ne _ _ e0 (by decide)) (br_f (ne _ _ e0 (by decide)) (br_f (ne _ _ e0 (by decide)) h)))))))⟩)
  obtain ⟨B, hB, eB⟩ := qb e0 e8 e9
  have vb : vp_in (sq (nI i).toNatClampNeg) 8 := by rw [c, eB]; exact vp_in_nI hB (by decide)
  refine br_f e0 ⟨v, vb, ?_⟩
  rw [c]
  by_cases e7 : so i = 7
  · rw [st_7 e7, eD] at h
    rw [eD]
    exact br_f e0 (br_f (ne _ _ e7 (by decide)) (br_f (ne _ _ e7 (by decide)) (br_f (ne _ _ e7 (by decide)) (br_f (ne _ _ e7 (by decide)) (br_f (ne _ _ e7 (by decide)) (br_f (ne _ _ e7 (by decide)) (my_c7 (a := 0) (b := 0) hD ht e7 h)))))))
  rw [st_o e9 e7 e8] at h
  by_cases e1 : so i = 1
  · have z : ∀ d a b : Int32, op_f (so i) d a b = a + b := fun d a b => by unfold op_f; rw [if_neg e0, if_pos e1]
    rw [z] at h
    exact br_f e0 (br_t e1 ⟨vd, nm_e (br_f (ne _ _ e1 (by decide)) (br_f (ne _ _ e1 (by decide)) (br_f (ne _ _ e1 (by decide)) (br_f (ne _ _ e1 (by decide)) (br_f (ne _ _ e1 (by decide)) (br_f e7 h))))))⟩)
  by_cases e2 : so i = 2
  · have z : ∀ d a b : Int32, op_f (so i) d a b = a - b := fun d a b => by unfold op_f; rw [if_neg e0, if_neg e1, if_pos e2]
    rw [z] at h
    exact br_f e0 (br_f e1 (br_t e2 ⟨vd, nm_e (br_f (ne _ _ e2 (by decide)) (br_f (ne _ _ e2 (by decide)) (br_f (ne _ _ e2 (by decide)) (br_f (ne _ _ e2 (by decide)) (br_f e7 h)))))⟩))
  by_cases e3 : so i = 3
  · have z : ∀ d a b : Int32, op_f (so i) d a b = (a * b) >>> ((8 : Int32) &&& 31) := fun d a b => by unfold op_f; rw [if_neg e0, if_neg e1, if_neg e2, if_pos e3]
    rw [z] at h
    exact br_f e0 (br_f e1 (br_f e2 (br_t e3 ⟨vd, nm_e (br_f (ne _ _ e3 (by decide)) (br_f (ne _ _ e3 (by decide)) (br_f (ne _ _ e3 (by decide)) (br_f e7 h))))⟩)))
  by_cases e4 : so i = 4
  · have z : ∀ d a b : Int32, op_f (so i) d a b = if a < b then a else b := fun d a b => by unfold op_f; rw [if_neg e0, if_neg e1, if_neg e2, if_neg e3, if_pos e4]
    rw [z] at h
    refine br_f e0 (br_f e1 (br_f e2 (br_f e3 (br_t e4 (br_c (fun p => ?_) (fun p => ?_))))))
    · rw [if_neg (Int32.not_lt.mpr p)] at h
      exact ⟨vd, nm_e (br_f (ne _ _ e4 (by decide)) (br_f (ne _ _ e4 (by decide)) (br_f e7 h)))⟩
    · rw [if_pos (Int32.not_le.mp p)] at h
      exact ⟨vd, nm_e (br_f (ne _ _ e4 (by decide)) (br_f (ne _ _ e4 (by decide)) (br_f e7 h)))⟩
  by_cases e5 : so i = 5
  · have z : ∀ d a b : Int32, op_f (so i) d a b = if b < a then a else b := fun d a b => by unfold op_f; rw [if_neg e0, if_neg e1, if_neg e2, if_neg e3, if_neg e4, if_pos e5]
    rw [z] at h
    refine br_f e0 (br_f e1 (br_f e2 (br_f e3 (br_f e4 (br_t e5 (br_c (fun p => ?_) (fun p => ?_)))))))
    · rw [if_neg (Int32.not_lt.mpr p)] at h
      exact ⟨vd, nm_e (br_f (ne _ _ e5 (by decide)) (br_f e7 h))⟩
    · rw [if_pos (Int32.not_le.mp p)] at h
      exact ⟨vd, nm_e (br_f (ne _ _ e5 (by decide)) (br_f e7 h))⟩
  have e6 : so i = 6 := by
    have hc : N = 0 ∨ N = 1 ∨ N = 2 ∨ N = 3 ∨ N = 4 ∨ N = 5 ∨ N = 6 ∨ N = 7 ∨ N = 8 ∨ N = 9 := by omega
    rcases hc with rfl | rfl | rfl | rfl | rfl | rfl | rfl | rfl | rfl | rfl
    · exact absurd eN e0
    · exact absurd eN e1
    · exact absurd eN e2
    · exact absurd eN e3
    · exact absurd eN e4
    · exact absurd eN e5
    · exact eN
    · exact absurd eN e7
    · exact absurd eN e8
    · exact absurd eN e9
  have z : ∀ d a b : Int32, op_f (so i) d a b = if d < 0 then a else b := fun d a b => by unfold op_f; rw [if_neg e0, if_neg e1, if_neg e2, if_neg e3, if_neg e4, if_neg e5, if_pos e6]
  rw [z] at h
  refine br_f e0 (br_f e1 (br_f e2 (br_f e3 (br_f e4 (br_f e5 (br_t e6 ⟨vd, br_c (fun p => ?_) (fun p => ?_)⟩))))))
  · rw [if_neg (Int32.not_lt.mpr p)] at h
    exact ⟨vd, nm_e (br_f e7 h)⟩
  · rw [if_pos (Int32.not_le.mp p)] at h
    exact ⟨vd, nm_e (br_f e7 h)⟩
theorem mx_kill {post : Int32 → SX → Prop} {n i : Nat} (hi : i < 10) (hin : ¬ NS ≤ nI i) (q : ri_one (so i) (sd i) (sa i) (sq i)) (e9 : so i = 9) (hk : rx (sa i).toNatClampNeg < 0) (h : post 0 (NS, SL, ST, SR, SB, KE, CA, CB, CC, FL, WA, WB, WC, co, de, sn, tx, vx, vy, vz, vq, vv, gs, cn, so, sd, sa, sq, rx)) : wX_survivesProgram_2 post (n + 1) (nI i) NS SL ST SR SB KE CA CB CC FL WA WB WC co de sn tx vx vy vz vq vv gs cn so sd sa sq rx := by
  have v : vp_in (nI i) 10 := vp_in_nI hi (by decide)
  have c : (nI i).toNatClampNeg = i := nI_clamp (by omega)
  obtain ⟨⟨N, hN, eN⟩, qd, qa, qb⟩ := q
  have va : vp_in (sa (nI i).toNatClampNeg &&& 7) 8 := pk_andIn _ (m := 7) 3 (by decide) (by decide)
  have vb : vp_in (sq (nI i).toNatClampNeg &&& 7) 8 := pk_andIn _ (m := 7) 3 (by decide) (by decide)
  obtain ⟨A, hA, eA⟩ := qa (by rw [e9]; decide)
  have ea : sa i &&& 7 = sa i := by rw [eA]; exact st_m hA
  rw [wX_survivesProgram_2]
  refine br_f hin ⟨v, nm_r (e' := so i) (by rw [c]) ⟨v, nm_r (e' := sd i &&& 7) (by rw [c]) ⟨v, va, nm_r (e' := rx (sa i).toNatClampNeg) (by rw [c, ea]) ⟨v, vb, nm_e ?_⟩⟩⟩⟩
  exact br_t e9 (br_f (Int32.not_le.mpr hk) h)
theorem mx_step {post : Int32 → SX → Prop} {n i : Nat} (hi : i < 10) (hin : ¬ NS ≤ nI i) (q : ri_one (so i) (sd i) (sa i) (sq i)) (hk : so i = 9 → ¬ rx (sa i).toNatClampNeg < 0) (h : wX_survivesProgram_2 post n (nI (i + 1)) NS SL ST SR SB KE CA CB CC FL WA WB WC co de sn tx vx vy vz vq vv gs cn so sd sa sq (st_f (gs 10) tx (so i) (sd i) (sa i) (sq i) rx)) : wX_survivesProgram_2 post (n + 1) (nI i) NS SL ST SR SB KE CA CB CC FL WA WB WC co de sn tx vx vy vz vq vv gs cn so sd sa sq rx := by
  have v : vp_in (nI i) 10 := vp_in_nI hi (by decide)
  have c : (nI i).toNatClampNeg = i := nI_clamp (by omega)
  obtain ⟨⟨N, hN, eN⟩, qd, qa, qb⟩ := q
  have va : vp_in (sa (nI i).toNatClampNeg &&& 7) 8 := pk_andIn _ (m := 7) 3 (by decide) (by decide)
  have vb : vp_in (sq (nI i).toNatClampNeg &&& 7) 8 := pk_andIn _ (m := 7) 3 (by decide) (by decide)
  rw [wX_survivesProgram_2]
  by_cases e9 : so i = 9
  · obtain ⟨A, hA, eA⟩ := qa (by rw [e9]; decide)
    have ea : sa i &&& 7 = sa i := by rw [eA]; exact st_m hA
    rw [st_9 e9] at h
    refine br_f hin ⟨v, nm_r (e' := so i) (by rw [c]) ⟨v, nm_r (e' := sd i &&& 7) (by rw [c]) ⟨v, va, nm_r (e' := rx (sa i).toNatClampNeg) (by rw [c, ea]) ⟨v, vb, nm_e ?_⟩⟩⟩⟩
    exact br_t e9 (br_t (Int32.not_lt.mp (hk e9)) (nm_r (nI_1 i) h))
  obtain ⟨D, hD, eD⟩ := qd e9
  have vd : vp_in (sd i) 8 := by rw [eD]; exact vp_in_nI hD (by decide)
  have ed : sd i &&& 7 = sd i := by rw [eD]; exact st_m hD
  by_cases e8 : so i = 8
  · rw [st_8 e8] at h
    refine br_f hin ⟨v, nm_r (e' := so i) (by rw [c]) ⟨v, nm_r (e' := sd i) (by rw [c, ed]) ⟨v, va, nm_e ⟨v, vb, nm_e ?_⟩⟩⟩⟩
    exact br_f e9 (br_f (fun z => absurd (e8.symm.trans z) (by decide)) (br_t e8 ⟨v, vd, nm_r (by rw [c]) (nm_r (nI_1 i) h)⟩))
  obtain ⟨A, hA, eA⟩ := qa e8
  have ea : sa i &&& 7 = sa i := by rw [eA]; exact st_m hA
  by_cases e0 : so i = 0
  · rw [st_o e9 (fun z => absurd (e0.symm.trans z) (by decide)) e8] at h
    have z : ∀ d a b : Int32, op_f (so i) d a b = a := fun d a b => if_pos e0
    rw [z] at h
    refine br_f hin ⟨v, nm_r (e' := so i) (by rw [c]) ⟨v, nm_r (e' := sd i) (by rw [c, ed]) ⟨v, va, nm_r (e' := rx (sa i).toNatClampNeg) (by rw [c, ea]) ⟨v, vb, nm_e ?_⟩⟩⟩⟩
    refine br_f e9 (br_f (fun z => absurd (e0.symm.trans z) (by decide)) (br_f e8 ⟨vd, ?_⟩))
    refine mx_comp ⟨0, by decide, e0⟩ ?_
    rw [z]
    exact ⟨vd, nm_e (nm_r (nI_1 i) h)⟩
  obtain ⟨B, hB, eB⟩ := qb e0 e8 e9
  have eb : sq i &&& 7 = sq i := by rw [eB]; exact st_m hB
  refine br_f hin ⟨v, nm_r (e' := so i) (by rw [c]) ⟨v, nm_r (e' := sd i) (by rw [c, ed]) ⟨v, va, nm_r (e' := rx (sa i).toNatClampNeg) (by rw [c, ea]) ⟨v, vb, nm_r (e' := rx (sq i).toNatClampNeg) (by rw [c, eb]) ?_⟩⟩⟩⟩
  refine br_f e9 ?_
  by_cases e7 : so i = 7
  · rw [st_7 e7] at h
    obtain ⟨s, hs, es⟩ := pw_r (gs 10) (rx (sa i).toNatClampNeg >>> ((3 : Int32) &&& 31))
    obtain ⟨t, ht', et⟩ := pw_r (gs 10) (rx (sq i).toNatClampNeg >>> ((3 : Int32) &&& 31))
    have ei : pw_w (gs 10) (rx (sq i).toNatClampNeg >>> ((3 : Int32) &&& 31)) * 8 + pw_w (gs 10) (rx (sa i).toNatClampNeg >>> ((3 : Int32) &&& 31)) = nI (t * 8 + s) := by
      rw [es, et]
      exact ix_a (pk_mul t 8) s rfl
    have vi : vp_in (pw_w (gs 10) (rx (sq i).toNatClampNeg >>> ((3 : Int32) &&& 31)) * 8 + pw_w (gs 10) (rx (sa i).toNatClampNeg >>> ((3 : Int32) &&& 31))) 64 := by
      rw [ei]
      exact vp_in_nI (by omega) (by decide)
    have ci : (pw_w (gs 10) (rx (sq i).toNatClampNeg >>> ((3 : Int32) &&& 31)) * 8 + pw_w (gs 10) (rx (sa i).toNatClampNeg >>> ((3 : Int32) &&& 31))).toNatClampNeg = 8 * (pw_w (gs 10) (rx (sq i).toNatClampNeg >>> ((3 : Int32) &&& 31))).toNatClampNeg + (pw_w (gs 10) (rx (sa i).toNatClampNeg >>> ((3 : Int32) &&& 31))).toNatClampNeg := by
      rw [ei, es, et, nI_clamp (by omega), nI_clamp (by omega), nI_clamp (by omega)]
      omega
    unfold st_c at h
    rw [← ci, eD] at h
    refine br_t e7 ?_
    refine mx_wrap ?_
    refine mx_wrap ?_
    refine ⟨vi, ?_⟩
    rw [eD]
    exact mx_lch hD (nm_r (nI_1 i) h)
  · rw [st_o e9 e7 e8] at h
    have hc : N < 7 := by
      have h7 : ¬ N = 7 := fun z => e7 (eN.trans (by rw [z]; rfl))
      have h8 : ¬ N = 8 := fun z => e8 (eN.trans (by rw [z]; rfl))
      have h9 : ¬ N = 9 := fun z => e9 (eN.trans (by rw [z]; rfl))
      omega
    refine br_f e7 (br_f e8 ⟨vd, ?_⟩)
    refine mx_comp ⟨N, hc, eN⟩ ?_
    exact ⟨vd, nm_e (nm_r (nI_1 i) h)⟩
end STP
