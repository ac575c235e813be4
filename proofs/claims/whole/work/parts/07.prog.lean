/-! the program of a pixel: one step on both sides, then the loop in lockstep -/
def st_c (w : Int32) (tx : Nat → Int32) (a b : Int32) (r : Nat → Int32) : Int32 := tx (8 * (pw_w w (r b.toNatClampNeg >>> ((3 : Int32) &&& 31))).toNatClampNeg + (pw_w w (r a.toNatClampNeg >>> ((3 : Int32) &&& 31))).toNatClampNeg)
def st_t (d : Int32) (c : Int32) (r : Nat → Int32) : Nat → Int32 := upd (upd (upd r d.toNatClampNeg ((c >>> ((16 : Int32) &&& 31)) &&& 255)) ((d.toNatClampNeg + 1) % 8) ((c >>> ((8 : Int32) &&& 31)) &&& 255)) ((d.toNatClampNeg + 2) % 8) (c &&& 255)
def st_f (w : Int32) (tx : Nat → Int32) (o d a b : Int32) (r : Nat → Int32) : Nat → Int32 :=
  if o = 9 then r else if o = 7 then st_t d (st_c w tx a b r) r else if o = 8 then upd r d.toNatClampNeg a else upd r d.toNatClampNeg (op_f o (r d.toNatClampNeg) (r a.toNatClampNeg) (r b.toNatClampNeg))
theorem st_9 {w : Int32} {tx r : Nat → Int32} {o d a b : Int32} (e : o = 9) : st_f w tx o d a b r = r := if_pos e
theorem st_7 {w : Int32} {tx r : Nat → Int32} {o d a b : Int32} (e : o = 7) : st_f w tx o d a b r = st_t d (st_c w tx a b r) r := by
  unfold st_f
  rw [if_neg (by rw [e]; decide), if_pos e]
theorem st_8 {w : Int32} {tx r : Nat → Int32} {o d a b : Int32} (e : o = 8) : st_f w tx o d a b r = upd r d.toNatClampNeg a := by
  unfold st_f
  rw [if_neg (by rw [e]; decide), if_neg (by rw [e]; decide), if_pos e]
theorem st_o {w : Int32} {tx r : Nat → Int32} {o d a b : Int32} (e9 : ¬ o = 9) (e7 : ¬ o = 7) (e8 : ¬ o = 8) : st_f w tx o d a b r = upd r d.toNatClampNeg (op_f o (r d.toNatClampNeg) (r a.toNatClampNeg) (r b.toNatClampNeg)) := by
  unfold st_f
  rw [if_neg e9, if_neg e7, if_neg e8]
theorem st_ag {w : Int32} {tx rx ry : Nat → Int32} {o d a b : Int32} (h : ag_r 8 rx ry) (q : ri_one o d a b) : ag_r 8 (st_f w tx o d a b rx) (st_f w tx o d a b ry) := by
  obtain ⟨_, qd, qa, qb⟩ := q
  by_cases e9 : o = 9
  · rw [st_9 e9, st_9 e9]
    exact h
  · obtain ⟨D, hD, rfl⟩ := qd e9
    by_cases e8 : o = 8
    · rw [st_8 e8, st_8 e8]
      exact ag_u h _ _
    · obtain ⟨A, hA, rfl⟩ := qa e8
      have ea : rx (nI A).toNatClampNeg = ry (nI A).toNatClampNeg := h _ (by rw [nI_clamp (by omega)]; exact hA)
      have ed : rx (nI D).toNatClampNeg = ry (nI D).toNatClampNeg := h _ (by rw [nI_clamp (by omega)]; exact hD)
      by_cases e0 : o = 0
      · rw [st_o e9 (by rw [e0]; decide) e8, st_o e9 (by rw [e0]; decide) e8]
        have z : ∀ d a b : Int32, op_f o d a b = a := fun d a b => if_pos e0
        rw [z, z, ea]
        exact ag_u h _ _
      · obtain ⟨B, hB, rfl⟩ := qb e0 e8 e9
        have eb : rx (nI B).toNatClampNeg = ry (nI B).toNatClampNeg := h _ (by rw [nI_clamp (by omega)]; exact hB)
        by_cases e7 : o = 7
        · rw [st_7 e7, st_7 e7]
          unfold st_t st_c
          rw [ea, eb]
          exact ag_u (ag_u (ag_u h _ _) _ _) _ _
        · rw [st_o e9 e7 e8, st_o e9 e7 e8, ea, eb, ed]
          exact ag_u h _ _
theorem st_m {n : Nat} (h : n < 8) : nI n &&& 7 = nI n := by
  rw [pk_andN (n := n) (m := 7) (by omega) 3 (by decide)]
  exact congrArg nI (Nat.mod_eq_of_lt h)
theorem st_m1 {n : Nat} (h : n < 8) : (nI n + 1) &&& 7 = nI ((n + 1) % 8) := by
  rw [nI_1, pk_andN (n := n + 1) (m := 7) (by omega) 3 (by decide)]
theorem st_m2 {n : Nat} (h : n < 8) : (nI n + 2) &&& 7 = nI ((n + 2) % 8) := by
  rw [show nI n + 2 = nI (n + 2) from nI_add n 2, pk_andN (n := n + 2) (m := 7) (by omega) 3 (by decide)]
theorem st_d1 {n : Nat} (h : n < 8) : (nI n + 1) - (nI n + 1) / 8 * 8 = nI ((n + 1) % 8) := by
  rw [nI_1]
  exact pk_rem (a := n + 1) (d := 8) (by omega) (by decide) (by decide)
theorem st_d2 {n : Nat} (h : n < 8) : (nI n + 2) - (nI n + 2) / 8 * 8 = nI ((n + 2) % 8) := by
  rw [show nI n + 2 = nI (n + 2) from nI_add n 2]
  exact pk_rem (a := n + 2) (d := 8) (by omega) (by decide) (by decide)
section PRG
variable {NS SL ST SR SB KE CA CB CC FL WA WB WC : Int32} {co de sn tx vx vy vz vq vv gs cn so sd sa sq rx : Nat → Int32}
variable {LE TO WI HI VA VB VC LA ZZ : Int32} {re gr bl pl ry : Nat → Int32}
theorem mx_comp {post : Int32 → Prop} {o d a b : Int32} (ho : ∃ n : Nat, n < 7 ∧ o = nI n) (h : post (op_f o d a b)) : wpX_computed post o d a b := by
  obtain ⟨n, hn, rfl⟩ := ho
  unfold op_f at h
  have c : n = 0 ∨ n = 1 ∨ n = 2 ∨ n = 3 ∨ n = 4 ∨ n = 5 ∨ n = 6 := by omega
  rcases c with rfl | rfl | rfl | rfl | rfl | rfl | rfl
  · rw [if_pos (by decide)] at h
    exact br_f (by decide) (br_f (by decide) (br_t rfl h))
  · rw [if_neg (by decide), if_pos (by decide)] at h
    exact br_f (by decide) (br_f (by decide) (br_f (by decide) (br_t rfl h)))
  · rw [if_neg (by decide), if_neg (by decide), if_pos (by decide)] at h
    exact br_f (by decide) (br_f (by decide) (br_f (by decide) (br_f (by decide) (br_t rfl h))))
  · rw [if_neg (by decide), if_neg (by decide), if_neg (by decide), if_pos (by decide)] at h
    exact br_f (by decide) (br_f (by decide) (br_f (by decide) (br_f (by decide) (br_f (by decide) (br_t rfl h)))))
  · rw [if_neg (by decide), if_neg (by decide), if_neg (by decide), if_neg (by decide), if_pos (by decide)] at h
    refine br_f (by decide) (br_f (by decide) (br_f (by decide) (br_f (by decide) (br_f (by decide) (br_f (by decide) (br_t rfl (br_c (fun q => ?_) (fun q => ?_))))))))
    · rw [if_neg (Int32.not_lt.mpr q)] at h
      exact h
    · rw [if_pos (Int32.not_le.mp q)] at h
      exact h
  · rw [if_neg (by decide), if_neg (by decide), if_neg (by decide), if_neg (by decide), if_neg (by decide), if_pos (by decide)] at h
    refine br_f (by decide) (br_f (by decide) (br_f (by decide) (br_f (by decide) (br_f (by decide) (br_f (by decide) (br_f (by decide) (br_t rfl (br_c (fun q => ?_) (fun q => ?_)))))))))
    · rw [if_neg (Int32.not_lt.mpr q)] at h
      exact h
    · rw [if_pos (Int32.not_le.mp q)] at h
      exact h
  · rw [if_neg (by decide), if_neg (by decide), if_neg (by decide), if_neg (by decide), if_neg (by decide), if_neg (by decide), if_pos (by decide)] at h
    refine br_f (by decide) (br_f (by decide) (br_f (by decide) (br_f (by decide) (br_f (by decide) (br_f (by decide) (br_f (by decide) (br_f (by decide) (br_t rfl (br_c (fun q => ?_) (fun q => ?_))))))))))
    · rw [if_neg (Int32.not_lt.mpr q)] at h
      exact h
    · rw [if_pos (Int32.not_le.mp q)] at h
      exact h
theorem mx_lch {post : SX → Prop} {d : Nat} {c : Int32} (hd : d < 8) (h : post (NS, SL, ST, SR, SB, KE, CA, CB, CC, FL, WA, WB, WC, co, de, sn, tx, vx, vy, vz, vq, vv, gs, cn, so, sd, sa, sq, st_t (nI d) c rx)) : wpX_loadChannels post (NS, SL, ST, SR, SB, KE, CA, CB, CC, FL, WA, WB, WC, co, de, sn, tx, vx, vy, vz, vq, vv, gs, cn, so, sd, sa, sq, rx) (nI d) c := by
  unfold st_t at h
  have m1 := st_m1 hd
  have m2 := st_m2 hd
  have v0 : vp_in (nI d) 8 := vp_in_nI hd (by decide)
  have v1 : vp_in ((nI d + 1) &&& 7) 8 := by rw [m1]; exact vp_in_nI (Nat.mod_lt _ (by decide)) (by decide)
  have v2 : vp_in ((nI d + 2) &&& 7) 8 := by rw [m2]; exact vp_in_nI (Nat.mod_lt _ (by decide)) (by decide)
  have c0 : (nI d).toNatClampNeg = d := nI_clamp (by omega)
  have c1 : ((nI d + 1) &&& 7).toNatClampNeg = (d + 1) % 8 := by rw [m1]; exact nI_clamp (by omega)
  have c2 : ((nI d + 2) &&& 7).toNatClampNeg = (d + 2) % 8 := by rw [m2]; exact nI_clamp (by omega)
  rw [c0] at h
  refine ⟨v0, nm_r (e' := upd rx d ((c >>> ((16 : Int32) &&& 31)) &&& 255)) (by rw [c0]) ⟨v1, nm_r (e' := upd (upd rx d ((c >>> ((16 : Int32) &&& 31)) &&& 255)) ((d + 1) % 8) ((c >>> ((8 : Int32) &&& 31)) &&& 255)) (by rw [c1]) ⟨v2, ?_⟩⟩⟩
  exact nm_r (by rw [c2]) h
theorem my_c7 {post : SY → Prop} {o a b : Int32} {d : Nat} (hd : d < 8) (ht : ri_tex tx) (e : o = 7) {A B : Int32} (h : post (LE, TO, WI, HI, NS, KE, VA, VB, VC, LA, ZZ, re, gr, bl, de, sn, tx, pl, vv, gs, so, sd, sa, sq, cn, st_t (nI d) (tx (8 * (pw_w (gs 10) (B >>> ((3 : Int32) &&& 31))).toNatClampNeg + (pw_w (gs 10) (A >>> ((3 : Int32) &&& 31))).toNatClampNeg)) ry)) : wY_carryOut_215 post o (nI d) A B LE TO WI HI NS KE VA VB VC LA ZZ re gr bl de sn tx pl vv gs so sd sa sq cn ry := by
  obtain ⟨s, hs, es⟩ := pw_r (gs 10) (A >>> ((3 : Int32) &&& 31))
  obtain ⟨t, ht', et⟩ := pw_r (gs 10) (B >>> ((3 : Int32) &&& 31))
  have ei : (8 : Int32) * pw_w (gs 10) (B >>> ((3 : Int32) &&& 31)) + pw_w (gs 10) (A >>> ((3 : Int32) &&& 31)) = nI (8 * t + s) := by
    rw [es, et]
    exact ix_a (pk_mul 8 t) s rfl
  rw [es, et, nI_clamp (by omega), nI_clamp (by omega)] at h
  have vi : vp_in ((8 : Int32) * pw_w (gs 10) (B >>> ((3 : Int32) &&& 31)) + pw_w (gs 10) (A >>> ((3 : Int32) &&& 31))) 64 := by
    rw [ei]
    exact vp_in_nI (by omega) (by decide)
  have ci : ((8 : Int32) * pw_w (gs 10) (B >>> ((3 : Int32) &&& 31)) + pw_w (gs 10) (A >>> ((3 : Int32) &&& 31))).toNatClampNeg = 8 * t + s := by
    rw [ei]
    exact nI_clamp (by omega)
  obtain ⟨r, g, b', hr, hg, hb, ec⟩ := ht (8 * t + s) (by omega)
  unfold st_t at h
  have m1 := st_d1 hd
  have m2 := st_d2 hd
  have v0 : vp_in (nI d) 8 := vp_in_nI hd (by decide)
  have v1 : vp_in ((nI d + 1) - (nI d + 1) / 8 * 8) 8 := by rw [m1]; exact vp_in_nI (Nat.mod_lt _ (by decide)) (by decide)
  have v2 : vp_in ((nI d + 2) - (nI d + 2) / 8 * 8) 8 := by rw [m2]; exact vp_in_nI (Nat.mod_lt _ (by decide)) (by decide)
  have c0 : (nI d).toNatClampNeg = d := nI_clamp (by omega)
  have c1 : ((nI d + 1) - (nI d + 1) / 8 * 8).toNatClampNeg = (d + 1) % 8 := by rw [m1]; exact nI_clamp (by omega)
  have c2 : ((nI d + 2) - (nI d + 2) / 8 * 8).toNatClampNeg = (d + 2) % 8 := by rw [m2]; exact nI_clamp (by omega)
  rw [c0, ec, cp_r2 hr hg hb] at h
  refine br_t e ?_
  refine my_wrap ?_
  refine my_wrap ?_
  refine ⟨vi, nm_r (e' := cp_pk r g b') (by rw [ci, ec]) ⟨v0, nm_r (e' := upd ry d (nI r)) (by rw [c0, cp_r hr hg hb]) ⟨by decide, v1, nm_r (e' := upd (upd ry d (nI r)) ((d + 1) % 8) ((cp_pk r g b' >>> ((8 : Int32) &&& 31)) &&& 255)) (by rw [c1]) ⟨by decide, v2, ?_⟩⟩⟩⟩
  exact nm_r (by rw [c2]) h
end PRG
