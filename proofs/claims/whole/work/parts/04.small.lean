/-! small methods of both sides, each with a general post -/
theorem n10 : ¬ (1 : Int32) = 0 := by decide
theorem ix_a {x y : Int32} {n : Nat} (e : x = nI n) (k : Nat) (hy : y = nI k) : x + y = nI (n + k) := by
  subst e hy
  exact nI_add n k
theorem ix_m {x y : Int32} {n : Nat} (e : x = nI n) (k : Nat) (hy : y = nI k) : x * y = nI (n * k) := by
  subst e hy
  exact pk_mul n k
theorem ix_p {x : Int32} {n : Nat} (N : Nat) (e : x = nI n) (h : n < N) (hN : N < 2147483648) : vp_in x N ∧ x.toNatClampNeg = n := ⟨pk_in n N h e hN, pk_cl n e (by omega)⟩
section SM
variable {NS SL ST SR SB KE CA CB CC FL WA WB WC : Int32} {co de sn tx vx vy vz vq vv gs cn so sd sa sq rx : Nat → Int32}
variable {LE TO WI HI VA VB VC LA ZZ : Int32} {re gr bl pl ry : Nat → Int32}
theorem mx_btw {post : Int32 → Prop} {v l h : Int32} (t : l ≤ v ∧ v ≤ h → post 1) (f : ¬ (l ≤ v ∧ v ≤ h) → post 0) : wpX_isBetween post v l h :=
  br_c (fun a => f (fun z => absurd a (Int32.not_lt.mpr z.1))) (fun a => br_c (fun b => f (fun z => absurd b (Int32.not_lt.mpr z.2))) (fun b => t ⟨Int32.not_lt.mp a, Int32.not_lt.mp b⟩))
theorem my_in {post : Int32 → Prop} {v l h : Int32} (t : l ≤ v ∧ v ≤ h → post 1) (f : ¬ (l ≤ v ∧ v ≤ h) → post 0) : wpY_in post v l h :=
  br_c (fun a => f (fun z => absurd a (Int32.not_lt.mpr z.1))) (fun a => br_c (fun b => f (fun z => absurd b (Int32.not_lt.mpr z.2))) (fun b => t ⟨Int32.not_lt.mp a, Int32.not_lt.mp b⟩))
theorem mx_isV {post : Int32 → Prop} {v : Int32} (t : (0 : Int32) ≤ v ∧ v ≤ 23 → post 1) (f : ¬ ((0 : Int32) ≤ v ∧ v ≤ 23) → post 0) : wpX_isVertex post v :=
  br_c (fun a => f (fun z => absurd a (Int32.not_lt.mpr z.1))) (fun a => br_c (fun b => f (fun z => absurd (ic_lt24.mpr z.2) (Int32.not_lt.mpr b))) (fun b => t ⟨Int32.not_lt.mp a, ic_lt24.mp (Int32.not_le.mp b)⟩))
theorem mx_isR {post : Int32 → Prop} {v : Int32} (t : (0 : Int32) ≤ v ∧ v ≤ 7 → post 1) (f : ¬ ((0 : Int32) ≤ v ∧ v ≤ 7) → post 0) : wpX_isRegister post v :=
  br_c (fun a => f (fun z => absurd a (Int32.not_lt.mpr z.1))) (fun a => br_c (fun b => f (fun z => absurd (ic_lt8.mpr z.2) (Int32.not_lt.mpr b))) (fun b => t ⟨Int32.not_lt.mp a, ic_lt8.mp (Int32.not_le.mp b)⟩))
theorem mx_isS {post : Int32 → Prop} {x y : Int32} (t : ((0 : Int32) ≤ x ∧ x ≤ 23) ∧ ((0 : Int32) ≤ y ∧ y ≤ 15) → post 1) (f : ¬ (((0 : Int32) ≤ x ∧ x ≤ 23) ∧ ((0 : Int32) ≤ y ∧ y ≤ 15)) → post 0) : wpX_isOnScreen post x y :=
  br_c (fun a => f (fun z => absurd a (Int32.not_lt.mpr z.1.1))) (fun a => br_c (fun b => f (fun z => absurd (ic_lt24.mpr z.1.2) (Int32.not_lt.mpr b))) (fun b =>
  br_c (fun c => f (fun z => absurd c (Int32.not_lt.mpr z.2.1))) (fun c => br_c (fun d => f (fun z => absurd (ic_lt16.mpr z.2.2) (Int32.not_lt.mpr d))) (fun d => t ⟨⟨Int32.not_lt.mp a, ic_lt24.mp (Int32.not_le.mp b)⟩, ⟨Int32.not_lt.mp c, ic_lt16.mp (Int32.not_le.mp d)⟩⟩))))
theorem mx_keep {post : SX → Prop} {e : Int32} (h : post (NS, SL, ST, SR, SB, ke_f KE e, CA, CB, CC, FL, WA, WB, WC, co, de, sn, tx, vx, vy, vz, vq, vv, gs, cn, so, sd, sa, sq, rx)) : wpX_keepError post (NS, SL, ST, SR, SB, KE, CA, CB, CC, FL, WA, WB, WC, co, de, sn, tx, vx, vy, vz, vq, vv, gs, cn, so, sd, sa, sq, rx) e := by
  unfold ke_f at h
  by_cases k : KE = 0
  · rw [if_pos k] at h
    exact br_t k h
  · rw [if_neg k] at h
    exact br_f k h
theorem mx_refuse {post : Int32 → SX → Prop} {e : Int32} (h : post 0 (NS, SL, ST, SR, SB, ke_f KE e, CA, CB, CC, FL, WA, WB, WC, co, de, sn, tx, vx, vy, vz, vq, vv, gs, cn, so, sd, sa, sq, rx)) : wpX_refuse post (NS, SL, ST, SR, SB, KE, CA, CB, CC, FL, WA, WB, WC, co, de, sn, tx, vx, vy, vz, vq, vv, gs, cn, so, sd, sa, sq, rx) e := by
  unfold wpX_refuse
  exact mx_keep h
theorem my_fails {post : Int32 → SY → Prop} {e : Int32} (h : post 0 (LE, TO, WI, HI, NS, ke_f KE e, VA, VB, VC, LA, ZZ, re, gr, bl, de, sn, tx, pl, vv, gs, so, sd, sa, sq, cn, ry)) : wpY_fails post (LE, TO, WI, HI, NS, KE, VA, VB, VC, LA, ZZ, re, gr, bl, de, sn, tx, pl, vv, gs, so, sd, sa, sq, cn, ry) e := by
  unfold ke_f at h
  by_cases k : KE = 0
  · rw [if_pos k] at h
    exact br_t k h
  · rw [if_neg k] at h
    exact br_f k h
theorem my_none {post : Int32 → SY → Prop} {e : Int32} (h : post (-1) (LE, TO, WI, HI, NS, ke_f KE e, VA, VB, VC, LA, ZZ, re, gr, bl, de, sn, tx, pl, vv, gs, so, sd, sa, sq, cn, ry)) : wpY_none post (LE, TO, WI, HI, NS, KE, VA, VB, VC, LA, ZZ, re, gr, bl, de, sn, tx, pl, vv, gs, so, sd, sa, sq, cn, ry) e := by
  unfold ke_f at h
  by_cases k : KE = 0
  · rw [if_pos k] at h
    exact br_t k h
  · rw [if_neg k] at h
    exact br_f k h
/-! comparing, wrapping, channels -/
theorem mx_cmp {post : Int32 → Prop} {how l r : Int32} (t : cm_p how l r = true → post 1) (f : ¬ cm_p how l r = true → post 0) : wpX_compares post how l r := by
  unfold cm_p at t f
  unfold wpX_compares
  by_cases h0 : how < 0
  · refine br_t h0 (t ?_)
    have e : ∀ c : Int32, 0 ≤ c → ¬ how = c := fun c hc z => absurd h0 (Int32.not_lt.mpr (z ▸ hc))
    rw [if_neg (e 0 (by decide)), if_neg (e 1 (by decide)), if_neg (e 2 (by decide)), if_neg (e 3 (by decide)), if_neg (e 4 (by decide)), if_neg (e 5 (by decide)), if_neg (e 6 (by decide))]
  · refine br_f h0 ?_
    by_cases h6 : 6 < how
    · refine br_t h6 (t ?_)
      have e : ∀ c : Int32, c ≤ 6 → ¬ how = c := fun c hc z => absurd h6 (Int32.not_lt.mpr (z ▸ hc))
      rw [if_neg (e 0 (by decide)), if_neg (e 1 (by decide)), if_neg (e 2 (by decide)), if_neg (e 3 (by decide)), if_neg (e 4 (by decide)), if_neg (e 5 (by decide)), if_neg (e 6 (by decide))]
    · refine br_f h6 ?_
      obtain ⟨n, hn, rfl⟩ := nI_of2 (M := 6) (n := 6) (by decide) h0 (Int32.not_lt.mp h6)
      have c : n = 0 ∨ n = 1 ∨ n = 2 ∨ n = 3 ∨ n = 4 ∨ n = 5 ∨ n = 6 := by omega
      rcases c with rfl | rfl | rfl | rfl | rfl | rfl | rfl
      · exact br_t rfl (f (by rw [if_pos (show nI 0 = 0 from rfl)]; decide))
      · refine br_f (by decide) (br_t rfl (br_c (fun h => f ?_) (fun h => t ?_)))
        · exact fun z => absurd (of_decide_eq_true z) (Int32.not_lt.mpr h)
        · exact decide_eq_true (Int32.not_le.mp h)
      · refine br_f (by decide) (br_f (by decide) (br_t rfl (br_c (fun h => t ?_) (fun h => f ?_))))
        · exact decide_eq_true h
        · exact fun z => h (of_decide_eq_true z)
      · refine br_f (by decide) (br_f (by decide) (br_f (by decide) (br_t rfl (br_c (fun h => f ?_) (fun h => t ?_)))))
        · exact fun z => absurd h (Int32.not_lt.mpr (of_decide_eq_true z))
        · exact decide_eq_true (Int32.not_lt.mp h)
      · refine br_f (by decide) (br_f (by decide) (br_f (by decide) (br_f (by decide) (br_t rfl (br_c (fun h => f ?_) (fun h => t ?_))))))
        · exact fun z => absurd (of_decide_eq_true z) (Int32.not_lt.mpr h)
        · exact decide_eq_true (Int32.not_le.mp h)
      · refine br_f (by decide) (br_f (by decide) (br_f (by decide) (br_f (by decide) (br_f (by decide) (br_t rfl (br_c (fun h => f ?_) (fun h => t ?_)))))))
        · exact fun z => (of_decide_eq_true z) h
        · exact decide_eq_true h
      · refine br_f (by decide) (br_f (by decide) (br_f (by decide) (br_f (by decide) (br_f (by decide) (br_f (by decide) (br_t rfl (br_c (fun h => f ?_) (fun h => t ?_))))))))
        · exact fun z => absurd h (Int32.not_lt.mpr (of_decide_eq_true z))
        · exact decide_eq_true (Int32.not_lt.mp h)
theorem my_cmp {post : Int32 → Prop} {how l r : Int32} (t : cm_p how l r = true → post 1) (f : ¬ cm_p how l r = true → post 0) : wpY_compare post how l r := mx_cmp (post := post) t f
theorem mx_wrap {post : Int32 → Prop} {v : Int32} (h : post (pw_w (gs 10) v)) : wpX_wrapped post (NS, SL, ST, SR, SB, KE, CA, CB, CC, FL, WA, WB, WC, co, de, sn, tx, vx, vy, vz, vq, vv, gs, cn, so, sd, sa, sq, rx) v := by
  unfold pw_w at h
  refine nm_e (br_c (fun a => ?_) (fun a => br_c (fun b => br_c (fun c => br_c (fun d => ?_) (fun d => ?_)) (fun c => ?_)) (fun b => nm_e (br_c (fun c => ?_) (fun c => ?_)))))
  · rw [if_pos a] at h
    exact h
  · rw [if_neg a, if_pos b, if_neg (Int32.not_lt.mpr c), if_neg (Int32.not_lt.mpr d)] at h
    exact h
  · rw [if_neg a, if_pos b, if_neg (Int32.not_lt.mpr c), if_pos (Int32.not_le.mp d)] at h
    exact h
  · rw [if_neg a, if_pos b, if_pos (Int32.not_le.mp c)] at h
    exact h
  · rw [if_neg a, if_neg b, if_neg (Int32.not_lt.mpr c)] at h
    exact h
  · rw [if_neg a, if_neg b, if_pos (Int32.not_le.mp c)] at h
    exact h
theorem my_wrap {post : Int32 → Prop} {v : Int32} (h : post (pw_w (gs 10) v)) : wpY_wrapped post (LE, TO, WI, HI, NS, KE, VA, VB, VC, LA, ZZ, re, gr, bl, de, sn, tx, pl, vv, gs, so, sd, sa, sq, cn, ry) v := by
  unfold pw_w at h
  refine br_c (fun a => ?_) (fun a => br_c (fun b => br_c (fun c => br_c (fun d => ?_) (fun d => ?_)) (fun c => ?_)) (fun b => nm_e (br_c (fun c => ?_) (fun c => ?_))))
  · rw [if_pos a] at h
    exact h
  · rw [if_neg a, if_pos b, if_neg (Int32.not_lt.mpr c), if_neg (Int32.not_lt.mpr d)] at h
    exact h
  · rw [if_neg a, if_pos b, if_neg (Int32.not_lt.mpr c), if_pos (Int32.not_le.mp d)] at h
    exact h
  · rw [if_neg a, if_pos b, if_pos (Int32.not_le.mp c)] at h
    exact h
  · rw [if_neg a, if_neg b, if_neg (Int32.not_lt.mpr c)] at h
    exact h
  · rw [if_neg a, if_neg b, if_pos (Int32.not_le.mp c)] at h
    exact h
theorem mx_chan {post : Int32 → Prop} {v : Int32} (h : post (ac_f v)) : wpX_asChannel post v := by
  unfold ac_f at h
  refine br_c (fun c => br_c (fun d => ?_) (fun d => ?_)) (fun c => ?_)
  · rw [if_neg (Int32.not_lt.mpr c), if_neg (Int32.not_lt.mpr d)] at h
    exact h
  · rw [if_neg (Int32.not_lt.mpr c), if_pos (Int32.not_le.mp d)] at h
    exact h
  · rw [if_pos (Int32.not_le.mp c)] at h
    exact h
end SM
