/-! set, scissor, keep, step, pixel, at, error, count -/
theorem gm_ok {S : Nat} (hS : S ≤ 11) : ∃ g : Int32, (S = 7 → g = 4) ∧ (4 ≤ S → S ≤ 6 → g = 5) ∧ (∀ post : Int32 → Prop, post g → wpX_greatestOfSetting post (nI S)) ∧ (∀ post : Int32 → Prop, post g → wpY_mostOf post (nI S)) := by
  have c : S = 0 ∨ S = 1 ∨ S = 2 ∨ S = 3 ∨ S = 4 ∨ S = 5 ∨ S = 6 ∨ S = 7 ∨ S = 8 ∨ S = 9 ∨ S = 10 ∨ S = 11 := by omega
  rcases c with rfl | rfl | rfl | rfl | rfl | rfl | rfl | rfl | rfl | rfl | rfl | rfl
  · exact ⟨7, by decide, by decide, fun post h => br_f (by decide) (br_f (by decide) (br_t rfl h)), fun post h => br_f (by decide) (br_f (by decide) (br_t rfl h))⟩
  · exact ⟨1, by decide, by decide, fun post h => br_f (by decide) (br_f (by decide) (br_f (by decide) (br_t rfl h))), fun post h => br_f (by decide) (br_f (by decide) (br_f (by decide) (br_t rfl h)))⟩
  · exact ⟨7, by decide, by decide, fun post h => br_f (by decide) (br_f (by decide) (br_f (by decide) (br_f (by decide) (br_t rfl h)))), fun post h => br_f (by decide) (br_f (by decide) (br_f (by decide) (br_f (by decide) (br_t rfl h))))⟩
  · exact ⟨15, by decide, by decide, fun post h => br_f (by decide) (br_f (by decide) (br_f (by decide) (br_f (by decide) (br_f (by decide) (br_t rfl h))))), fun post h => br_f (by decide) (br_f (by decide) (br_f (by decide) (br_f (by decide) (br_f (by decide) (br_t rfl h)))))⟩
  · exact ⟨5, by decide, by decide, fun post h => br_f (by decide) (br_f (by decide) (br_f (by decide) (br_f (by decide) (br_f (by decide) (br_f (by decide) (br_t rfl h)))))), fun post h => br_f (by decide) (br_f (by decide) (br_f (by decide) (br_f (by decide) (br_f (by decide) (br_f (by decide) (br_t rfl h))))))⟩
  · exact ⟨5, by decide, by decide, fun post h => br_f (by decide) (br_f (by decide) (br_f (by decide) (br_f (by decide) (br_f (by decide) (br_f (by decide) (br_f (by decide) (br_t rfl h))))))), fun post h => br_f (by decide) (br_f (by decide) (br_f (by decide) (br_f (by decide) (br_f (by decide) (br_f (by decide) (br_f (by decide) (br_t rfl h)))))))⟩
  · exact ⟨5, by decide, by decide, fun post h => br_f (by decide) (br_f (by decide) (br_f (by decide) (br_f (by decide) (br_f (by decide) (br_f (by decide) (br_f (by decide) (br_f (by decide) (br_t rfl h)))))))), fun post h => br_f (by decide) (br_f (by decide) (br_f (by decide) (br_f (by decide) (br_f (by decide) (br_f (by decide) (br_f (by decide) (br_f (by decide) (br_t rfl h))))))))⟩
  · exact ⟨4, by decide, by decide, fun post h => br_f (by decide) (br_f (by decide) (br_f (by decide) (br_f (by decide) (br_f (by decide) (br_f (by decide) (br_f (by decide) (br_f (by decide) (br_f (by decide) (br_t rfl h))))))))), fun post h => br_f (by decide) (br_f (by decide) (br_f (by decide) (br_f (by decide) (br_f (by decide) (br_f (by decide) (br_f (by decide) (br_f (by decide) (br_f (by decide) (br_t rfl h)))))))))⟩
  · exact ⟨7, by decide, by decide, fun post h => br_f (by decide) (br_f (by decide) (br_f (by decide) (br_f (by decide) (br_f (by decide) (br_f (by decide) (br_f (by decide) (br_f (by decide) (br_f (by decide) (br_f (by decide) (br_t rfl h)))))))))), fun post h => br_f (by decide) (br_f (by decide) (br_f (by decide) (br_f (by decide) (br_f (by decide) (br_f (by decide) (br_f (by decide) (br_f (by decide) (br_f (by decide) (br_f (by decide) (br_t rfl h))))))))))⟩
  · exact ⟨2, by decide, by decide, fun post h => br_f (by decide) (br_f (by decide) (br_f (by decide) (br_f (by decide) (br_f (by decide) (br_f (by decide) (br_f (by decide) (br_f (by decide) (br_f (by decide) (br_f (by decide) (br_f (by decide) (br_t rfl h))))))))))), fun post h => br_f (by decide) (br_f (by decide) (br_f (by decide) (br_f (by decide) (br_f (by decide) (br_f (by decide) (br_f (by decide) (br_f (by decide) (br_f (by decide) (br_f (by decide) (br_f (by decide) (br_t rfl h)))))))))))⟩
  · exact ⟨2, by decide, by decide, fun post h => br_f (by decide) (br_f (by decide) (br_f (by decide) (br_f (by decide) (br_f (by decide) (br_f (by decide) (br_f (by decide) (br_f (by decide) (br_f (by decide) (br_f (by decide) (br_f (by decide) (br_f (by decide) (br_t rfl h)))))))))))), fun post h => br_f (by decide) (br_f (by decide) (br_f (by decide) (br_f (by decide) (br_f (by decide) (br_f (by decide) (br_f (by decide) (br_f (by decide) (br_f (by decide) (br_f (by decide) (br_f (by decide) (br_f (by decide) (br_t rfl h))))))))))))⟩
  · exact ⟨1, by decide, by decide, fun post h => br_f (by decide) (br_t (by decide) h), fun post h => br_f (by decide) (br_f (by decide) (br_f (by decide) (br_f (by decide) (br_f (by decide) (br_f (by decide) (br_f (by decide) (br_f (by decide) (br_f (by decide) (br_f (by decide) (br_f (by decide) (br_f (by decide) (br_f (by decide) (br_t rfl h)))))))))))))⟩
theorem ri_5 {v : Int32} (h : 0 ≤ v ∧ v ≤ 5) : ri_06 v := by
  obtain ⟨n, hn, rfl⟩ := ic_of 5 (by decide) h.1 h.2
  have c : n = 0 ∨ n = 1 ∨ n = 2 ∨ n = 3 ∨ n = 4 ∨ n = 5 := by omega
  rcases c with rfl | rfl | rfl | rfl | rfl | rfl
  · exact Or.inl rfl
  · exact Or.inr (Or.inl rfl)
  · exact Or.inr (Or.inr (Or.inl rfl))
  · exact Or.inr (Or.inr (Or.inr (Or.inl rfl)))
  · exact Or.inr (Or.inr (Or.inr (Or.inr (Or.inl rfl))))
  · exact Or.inr (Or.inr (Or.inr (Or.inr (Or.inr rfl))))
theorem ri_4 {v : Int32} (h : 0 ≤ v ∧ v ≤ 4) : v = 0 ∨ v = 1 ∨ v = 2 ∨ v = 3 ∨ v = 4 := by
  obtain ⟨n, hn, rfl⟩ := ic_of 4 (by decide) h.1 h.2
  have c : n = 0 ∨ n = 1 ∨ n = 2 ∨ n = 3 ∨ n = 4 := by omega
  rcases c with rfl | rfl | rfl | rfl | rfl
  · exact Or.inl rfl
  · exact Or.inr (Or.inl rfl)
  · exact Or.inr (Or.inr (Or.inl rfl))
  · exact Or.inr (Or.inr (Or.inr (Or.inl rfl)))
  · exact Or.inr (Or.inr (Or.inr (Or.inr rfl)))
theorem ri_setU {gs : Nat → Int32} (h : ri_set gs) {S : Nat} {v g : Int32} (h7 : S = 7 → g = 4) (h5 : 4 ≤ S → S ≤ 6 → g = 5) (hv : 0 ≤ v ∧ v ≤ g) : ri_set (upd gs S v) := by
  obtain ⟨a, b, c, d⟩ := h
  refine ⟨?_, ?_, ?_, ?_⟩
  · by_cases e : 7 = S
    · rw [← e, pk_us]
      exact ri_4 (by rw [← h7 e.symm]; exact hv)
    · rw [pk_un e]
      exact a
  · by_cases e : 4 = S
    · rw [← e, pk_us]
      exact ri_5 (by rw [← h5 (by omega) (by omega)]; exact hv)
    · rw [pk_un e]
      exact b
  · by_cases e : 5 = S
    · rw [← e, pk_us]
      exact ri_5 (by rw [← h5 (by omega) (by omega)]; exact hv)
    · rw [pk_un e]
      exact c
  · by_cases e : 6 = S
    · rw [← e, pk_us]
      exact ri_5 (by rw [← h5 (by omega) (by omega)]; exact hv)
    · rw [pk_un e]
      exact d
theorem i_vc_set {k : Nat} {u : SX} {v : SY} (I : i_Rel k u v) (hk : k + 6 ≤ 3072) (v1 : Int32) (v2 : Int32) : wpX_set (fun r u' => wpY_set (fun r' v' => r' = r ∧ i_Rel (k + 6) u' v') v v1 v2) u v1 v2 := by
  obtain ⟨ns, sl, st, sw, sh, KE, CA, CB, CC, FL, WA, WB, WC, VA, VB, VC, LA, ZZ, co, de, sn, tx, vx, vy, vz, vq, vv, gs, cn, so, sd, sa, sq, rx, re, gr, bl, pl, ry, rfl, rfl, R⟩ := I
  unfold wpX_set
  refine mx_btw (fun a => br_f n10 ?_) (fun a => br_t rfl ?_)
  · obtain ⟨S, hS, rfl⟩ := ic_of 11 (by decide) a.1 a.2
    obtain ⟨g, g7, g5, GX, GY⟩ := gm_ok hS
    have vs : vp_in (nI S) 12 := vp_in_nI (by omega) (by decide)
    have cs : (nI S).toNatClampNeg = S := nI_clamp (by omega)
    refine GX _ ?_
    refine mx_btw (fun b => br_f n10 ⟨vs, nm_r (e' := upd gs S v2) (by rw [cs]) ?_⟩) (fun b => br_t rfl ?_)
    · unfold wpY_set
      refine my_in (fun _ => br_f n10 ?_) (fun n => absurd a n)
      refine GY _ ?_
      refine my_in (fun _ => br_f n10 ⟨vs, nm_r (e' := upd gs S v2) (by rw [cs]) ⟨rfl, rel_mk ?_⟩⟩) (fun n => absurd b n)
      exact ⟨R.1, R.2.1, R.2.2.1, R.2.2.2.1, ri_setU R.2.2.2.2.1 g7 g5 b, R.2.2.2.2.2⟩
    · refine mx_refuse ⟨rfl, ?_⟩
      unfold wpY_set
      refine my_in (fun _ => br_f n10 ?_) (fun n => absurd a n)
      refine GY _ ?_
      exact my_in (fun c => absurd c b) (fun _ => br_t rfl (my_fails ⟨rfl, rfl, rel_mk R⟩))
  · refine mx_refuse ⟨rfl, ?_⟩
    unfold wpY_set
    exact my_in (fun c => absurd c a) (fun _ => br_t rfl (my_fails ⟨rfl, rfl, rel_mk R⟩))
section CL2
variable {NS SL ST SR SB KE CA CB CC FL WA WB WC : Int32} {co de sn tx vx vy vz vq vv gs cn so sd sa sq rx : Nat → Int32}
variable {LE TO WI HI VA VB VC LA ZZ : Int32} {re gr bl pl ry : Nat → Int32}
theorem mx_scissor {post : Int32 → SX → Prop} {x y w h : Int32} (T : ((0 : Int32) ≤ x ∧ x ≤ 24) ∧ ((0 : Int32) ≤ y ∧ y ≤ 16) ∧ ((0 : Int32) ≤ w ∧ w ≤ 24 - x) ∧ ((0 : Int32) ≤ h ∧ h ≤ 16 - y) → post 1 (NS, x, y, x + w, y + h, KE, CA, CB, CC, FL, WA, WB, WC, co, de, sn, tx, vx, vy, vz, vq, vv, gs, cn, so, sd, sa, sq, rx)) (F : ¬ (((0 : Int32) ≤ x ∧ x ≤ 24) ∧ ((0 : Int32) ≤ y ∧ y ≤ 16) ∧ ((0 : Int32) ≤ w ∧ w ≤ 24 - x) ∧ ((0 : Int32) ≤ h ∧ h ≤ 16 - y)) → post 0 (NS, SL, ST, SR, SB, ke_f KE 2, CA, CB, CC, FL, WA, WB, WC, co, de, sn, tx, vx, vy, vz, vq, vv, gs, cn, so, sd, sa, sq, rx)) : wpX_scissor post (NS, SL, ST, SR, SB, KE, CA, CB, CC, FL, WA, WB, WC, co, de, sn, tx, vx, vy, vz, vq, vv, gs, cn, so, sd, sa, sq, rx) x y w h := by
  have G : ¬ (((0 : Int32) ≤ x ∧ x ≤ 24) ∧ ((0 : Int32) ≤ y ∧ y ≤ 16) ∧ ((0 : Int32) ≤ w ∧ w ≤ 24 - x) ∧ ((0 : Int32) ≤ h ∧ h ≤ 16 - y)) → wX_scissor_45 post NS SL ST SR SB KE CA CB CC FL WA WB WC co de sn tx vx vy vz vq vv gs cn so sd sa sq rx := fun n => by
    unfold wX_scissor_45
    exact mx_refuse ⟨rfl, F n⟩
  unfold wpX_scissor
  refine mx_btw (fun a => br_f n10 ?_) (fun a => br_t rfl (G (fun z => a z.1)))
  refine mx_btw (fun b => br_f n10 ?_) (fun b => br_t rfl (G (fun z => b z.2.1)))
  refine mx_btw (fun c => br_f n10 ?_) (fun c => br_t rfl (G (fun z => c z.2.2.1)))
  refine mx_btw (fun d => br_f n10 ?_) (fun d => br_t rfl (G (fun z => d z.2.2.2)))
  exact nm_e (nm_e (T ⟨a, b, c, d⟩))
theorem my_scissor {post : Int32 → SY → Prop} {x y w h : Int32} (T : ((0 : Int32) ≤ x ∧ x ≤ 24) ∧ ((0 : Int32) ≤ y ∧ y ≤ 16) ∧ ((0 : Int32) ≤ w ∧ w ≤ 24 - x) ∧ ((0 : Int32) ≤ h ∧ h ≤ 16 - y) → post 1 (x, y, w, h, NS, KE, VA, VB, VC, LA, ZZ, re, gr, bl, de, sn, tx, pl, vv, gs, so, sd, sa, sq, cn, ry)) (F : ¬ (((0 : Int32) ≤ x ∧ x ≤ 24) ∧ ((0 : Int32) ≤ y ∧ y ≤ 16) ∧ ((0 : Int32) ≤ w ∧ w ≤ 24 - x) ∧ ((0 : Int32) ≤ h ∧ h ≤ 16 - y)) → post 0 (LE, TO, WI, HI, NS, ke_f KE 2, VA, VB, VC, LA, ZZ, re, gr, bl, de, sn, tx, pl, vv, gs, so, sd, sa, sq, cn, ry)) : wpY_scissor post (LE, TO, WI, HI, NS, KE, VA, VB, VC, LA, ZZ, re, gr, bl, de, sn, tx, pl, vv, gs, so, sd, sa, sq, cn, ry) x y w h := by
  have G : ¬ (((0 : Int32) ≤ x ∧ x ≤ 24) ∧ ((0 : Int32) ≤ y ∧ y ≤ 16) ∧ ((0 : Int32) ≤ w ∧ w ≤ 24 - x) ∧ ((0 : Int32) ≤ h ∧ h ≤ 16 - y)) → wY_scissor_45 post LE TO WI HI NS KE VA VB VC LA ZZ re gr bl de sn tx pl vv gs so sd sa sq cn ry := fun n => by
    unfold wY_scissor_45
    exact my_fails ⟨rfl, F n⟩
  unfold wpY_scissor
  refine my_in (fun a => br_f n10 ?_) (fun a => br_t rfl (G (fun z => a z.1)))
  refine my_in (fun b => br_f n10 ?_) (fun b => br_t rfl (G (fun z => b z.2.1)))
  refine my_in (fun c => br_f n10 ?_) (fun c => br_t rfl (G (fun z => c z.2.2.1)))
  refine my_in (fun d => br_f n10 ?_) (fun d => br_t rfl (G (fun z => d z.2.2.2)))
  exact T ⟨a, b, c, d⟩
/-! step -/
theorem mx_uD {post : Int32 → Prop} {o : Int32} (t : ¬ o = 9 → post 1) (f : o = 9 → post 0) : wpX_usesD post o := br_c f t
theorem mx_uA {post : Int32 → Prop} {o : Int32} (t : ¬ o = 8 → post 1) (f : o = 8 → post 0) : wpX_usesA post o := br_c f t
theorem mx_uB {post : Int32 → Prop} {o : Int32} (t : ¬ o = 0 → ¬ o = 8 → ¬ o = 9 → post 1) (f : (o = 0 ∨ o = 8 ∨ o = 9) → post 0) : wpX_usesB post o := br_c (fun a => f (Or.inl a)) (fun a => br_c (fun b => f (Or.inr (Or.inl b))) (fun b => br_c (fun c => f (Or.inr (Or.inr c))) (fun c => t a b c)))
theorem mx_st {post : Int32 → SX → Prop} {ns : Nat} {o d a b : Int32} (hns : ns ≤ 10) (F1 : ¬ ((0 : Int32) ≤ o ∧ o ≤ 9) → post (-1) (nI ns, SL, ST, SR, SB, ke_f KE 1, CA, CB, CC, FL, WA, WB, WC, co, de, sn, tx, vx, vy, vz, vq, vv, gs, cn, so, sd, sa, sq, rx)) (F2 : (0 : Int32) ≤ o ∧ o ≤ 9 → ¬ ((¬ o = 9 → (0 : Int32) ≤ d ∧ d ≤ 7) ∧ (¬ o = 8 → (0 : Int32) ≤ a ∧ a ≤ 7) ∧ (¬ o = 0 → ¬ o = 8 → ¬ o = 9 → (0 : Int32) ≤ b ∧ b ≤ 7)) → post (-1) (nI ns, SL, ST, SR, SB, ke_f KE 2, CA, CB, CC, FL, WA, WB, WC, co, de, sn, tx, vx, vy, vz, vq, vv, gs, cn, so, sd, sa, sq, rx)) (F3 : (0 : Int32) ≤ o ∧ o ≤ 9 → ((¬ o = 9 → (0 : Int32) ≤ d ∧ d ≤ 7) ∧ (¬ o = 8 → (0 : Int32) ≤ a ∧ a ≤ 7) ∧ (¬ o = 0 → ¬ o = 8 → ¬ o = 9 → (0 : Int32) ≤ b ∧ b ≤ 7)) → ns = 10 → post (-1) (nI ns, SL, ST, SR, SB, ke_f KE 3, CA, CB, CC, FL, WA, WB, WC, co, de, sn, tx, vx, vy, vz, vq, vv, gs, cn, so, sd, sa, sq, rx)) (T : (0 : Int32) ≤ o ∧ o ≤ 9 → ((¬ o = 9 → (0 : Int32) ≤ d ∧ d ≤ 7) ∧ (¬ o = 8 → (0 : Int32) ≤ a ∧ a ≤ 7) ∧ (¬ o = 0 → ¬ o = 8 → ¬ o = 9 → (0 : Int32) ≤ b ∧ b ≤ 7)) → ns < 10 → post (nI (ns + 1)) (nI (ns + 1), SL, ST, SR, SB, KE, CA, CB, CC, FL, WA, WB, WC, co, de, sn, tx, vx, vy, vz, vq, vv, gs, cn, upd so ns o, upd sd ns d, upd sa ns a, upd sq ns b, rx)) : wpX_step post (nI ns, SL, ST, SR, SB, KE, CA, CB, CC, FL, WA, WB, WC, co, de, sn, tx, vx, vy, vz, vq, vv, gs, cn, so, sd, sa, sq, rx) o d a b := by
  unfold wpX_step
  refine mx_btw (fun p => br_f n10 ?_) (fun p => br_t rfl ?_)
  · have G : ¬ ((¬ o = 9 → (0 : Int32) ≤ d ∧ d ≤ 7) ∧ (¬ o = 8 → (0 : Int32) ≤ a ∧ a ≤ 7) ∧ (¬ o = 0 → ¬ o = 8 → ¬ o = 9 → (0 : Int32) ≤ b ∧ b ≤ 7)) → wX_step_60 post (nI ns) SL ST SR SB KE CA CB CC FL WA WB WC co de sn tx vx vy vz vq vv gs cn so sd sa sq rx := fun n => by
      unfold wX_step_60
      exact mx_keep (F2 p n)
    have H67 : ((¬ o = 9 → (0 : Int32) ≤ d ∧ d ≤ 7) ∧ (¬ o = 8 → (0 : Int32) ≤ a ∧ a ≤ 7) ∧ (¬ o = 0 → ¬ o = 8 → ¬ o = 9 → (0 : Int32) ≤ b ∧ b ≤ 7)) → wX_step_67 post o d a b (nI ns) SL ST SR SB KE CA CB CC FL WA WB WC co de sn tx vx vy vz vq vv gs cn so sd sa sq rx := fun c => by
      by_cases q : ns < 10
      · have v : vp_in (nI ns) 10 := vp_in_nI q (by decide)
        have cl : (nI ns).toNatClampNeg = ns := nI_clamp (by omega)
        refine br_t (nI_lt (b := 10) q (by decide)) ⟨v, nm_r (e' := upd so ns o) (by rw [cl]) ⟨v, nm_r (e' := upd sd ns d) (by rw [cl]) ⟨v, nm_r (e' := upd sa ns a) (by rw [cl]) ⟨v, nm_r (e' := upd sq ns b) (by rw [cl]) (nm_r (nI_1 ns) ?_)⟩⟩⟩⟩
        exact T p c q
      · refine br_f (nI_nlt (b := 10) (by omega) (by omega)) ?_
        exact mx_keep (F3 p c (by omega))
    have H45 : (¬ o = 9 → (0 : Int32) ≤ d ∧ d ≤ 7) → (¬ o = 8 → (0 : Int32) ≤ a ∧ a ≤ 7) → wX_step_45 post o d a b (nI ns) SL ST SR SB KE CA CB CC FL WA WB WC co de sn tx vx vy vz vq vv gs cn so sd sa sq rx := fun c1 c2 => by
      unfold wX_step_45
      refine mx_uB (fun e1 e2 e3 => br_f n10 ?_) (fun e => br_t rfl (H67 ⟨c1, c2, fun e1 e2 e3 => absurd e (fun z => z.elim e1 (fun z => z.elim e2 e3))⟩))
      exact mx_isR (fun r => br_f n10 (H67 ⟨c1, c2, fun _ _ _ => r⟩)) (fun r => br_t rfl (G (fun z => r (z.2.2 e1 e2 e3))))
    have H31 : (¬ o = 9 → (0 : Int32) ≤ d ∧ d ≤ 7) → wX_step_31 post o d a b (nI ns) SL ST SR SB KE CA CB CC FL WA WB WC co de sn tx vx vy vz vq vv gs cn so sd sa sq rx := fun c1 => by
      unfold wX_step_31
      refine mx_uA (fun e => br_f n10 ?_) (fun e => br_t rfl (H45 c1 (fun z => absurd e z)))
      exact mx_isR (fun r => br_f n10 (H45 c1 (fun _ => r))) (fun r => br_t rfl (G (fun z => r (z.2.1 e))))
    refine mx_uD (fun e => br_f n10 ?_) (fun e => br_t rfl (H31 (fun z => absurd e z)))
    exact mx_isR (fun r => br_f n10 (H31 (fun _ => r))) (fun r => br_t rfl (G (fun z => r (z.1 e))))
  · exact mx_keep (F1 p)
theorem my_st {post : Int32 → SY → Prop} {ns : Nat} {o d a b : Int32} (hns : ns ≤ 10) (F1 : ¬ ((0 : Int32) ≤ o ∧ o ≤ 9) → post (-1) (LE, TO, WI, HI, nI ns, ke_f KE 1, VA, VB, VC, LA, ZZ, re, gr, bl, de, sn, tx, pl, vv, gs, so, sd, sa, sq, cn, ry)) (F2 : (0 : Int32) ≤ o ∧ o ≤ 9 → ¬ ((¬ o = 9 → (0 : Int32) ≤ d ∧ d ≤ 7) ∧ (¬ o = 8 → (0 : Int32) ≤ a ∧ a ≤ 7) ∧ (¬ o = 0 → ¬ o = 8 → ¬ o = 9 → (0 : Int32) ≤ b ∧ b ≤ 7)) → post (-1) (LE, TO, WI, HI, nI ns, ke_f KE 2, VA, VB, VC, LA, ZZ, re, gr, bl, de, sn, tx, pl, vv, gs, so, sd, sa, sq, cn, ry)) (F3 : (0 : Int32) ≤ o ∧ o ≤ 9 → ((¬ o = 9 → (0 : Int32) ≤ d ∧ d ≤ 7) ∧ (¬ o = 8 → (0 : Int32) ≤ a ∧ a ≤ 7) ∧ (¬ o = 0 → ¬ o = 8 → ¬ o = 9 → (0 : Int32) ≤ b ∧ b ≤ 7)) → ns = 10 → post (-1) (LE, TO, WI, HI, nI ns, ke_f KE 3, VA, VB, VC, LA, ZZ, re, gr, bl, de, sn, tx, pl, vv, gs, so, sd, sa, sq, cn, ry)) (T : (0 : Int32) ≤ o ∧ o ≤ 9 → ((¬ o = 9 → (0 : Int32) ≤ d ∧ d ≤ 7) ∧ (¬ o = 8 → (0 : Int32) ≤ a ∧ a ≤ 7) ∧ (¬ o = 0 → ¬ o = 8 → ¬ o = 9 → (0 : Int32) ≤ b ∧ b ≤ 7)) → ns < 10 → post (nI (ns + 1)) (LE, TO, WI, HI, nI (ns + 1), KE, VA, VB, VC, LA, ZZ, re, gr, bl, de, sn, tx, pl, vv, gs, upd so ns o, upd sd ns d, upd sa ns a, upd sq ns b, cn, ry)) : wpY_step post (LE, TO, WI, HI, nI ns, KE, VA, VB, VC, LA, ZZ, re, gr, bl, de, sn, tx, pl, vv, gs, so, sd, sa, sq, cn, ry) o d a b := by
  unfold wpY_step
  refine my_in (fun p => br_f n10 ?_) (fun p => br_t rfl ?_)
  · have G : ¬ ((¬ o = 9 → (0 : Int32) ≤ d ∧ d ≤ 7) ∧ (¬ o = 8 → (0 : Int32) ≤ a ∧ a ≤ 7) ∧ (¬ o = 0 → ¬ o = 8 → ¬ o = 9 → (0 : Int32) ≤ b ∧ b ≤ 7)) → wY_step_69 post LE TO WI HI (nI ns) KE VA VB VC LA ZZ re gr bl de sn tx pl vv gs so sd sa sq cn ry := fun n => by
      unfold wY_step_69
      exact my_none (F2 p n)
    have H75 : ((¬ o = 9 → (0 : Int32) ≤ d ∧ d ≤ 7) ∧ (¬ o = 8 → (0 : Int32) ≤ a ∧ a ≤ 7) ∧ (¬ o = 0 → ¬ o = 8 → ¬ o = 9 → (0 : Int32) ≤ b ∧ b ≤ 7)) → wY_step_75 post o d a b LE TO WI HI (nI ns) KE VA VB VC LA ZZ re gr bl de sn tx pl vv gs so sd sa sq cn ry := fun c => by
      by_cases q : ns < 10
      · have v : vp_in (nI ns) 10 := vp_in_nI q (by decide)
        have cl : (nI ns).toNatClampNeg = ns := nI_clamp (by omega)
        have e10 : ¬ nI ns = 10 := fun z => by
          have := (nI_eq (a := ns) (b := 10) (by omega) (by decide)).mp z
          omega
        refine br_f e10 ⟨v, nm_r (e' := upd so ns o) (by rw [cl]) ⟨v, nm_r (e' := upd sd ns d) (by rw [cl]) ⟨v, nm_r (e' := upd sa ns a) (by rw [cl]) ⟨v, nm_r (e' := upd sq ns b) (by rw [cl]) (nm_r (nI_1 ns) ?_)⟩⟩⟩⟩
        exact T p c q
      · have e : ns = 10 := by omega
        refine br_t (by rw [e]; rfl) ?_
        exact my_none (F3 p c e)
    have H48 : (¬ o = 9 → (0 : Int32) ≤ d ∧ d ≤ 7) → (¬ o = 8 → (0 : Int32) ≤ a ∧ a ≤ 7) → wY_step_48 post o d a b LE TO WI HI (nI ns) KE VA VB VC LA ZZ re gr bl de sn tx pl vv gs so sd sa sq cn ry := fun c1 c2 => by
      refine br_c (fun e => H75 ⟨c1, c2, fun e1 e2 e3 => absurd (Int32.le_antisymm e p.1) e1⟩) (fun e => br_c (fun f => H75 ⟨c1, c2, fun e1 e2 e3 => ?_⟩) (fun f => ?_))
      · obtain ⟨n, hn, rfl⟩ := ic_of 9 (by decide) p.1 p.2
        have f' : 8 ≤ n := (nI_leI (a := 8) (b := n) (by decide) (by omega)).mp f
        have c : n = 8 ∨ n = 9 := by omega
        rcases c with rfl | rfl
        · exact absurd rfl e2
        · exact absurd rfl e3
      · have e1 : ¬ o = 0 := fun z => e (by rw [z]; decide)
        have e2 : ¬ o = 8 := fun z => f (by rw [z]; decide)
        have e3 : ¬ o = 9 := fun z => f (by rw [z]; decide)
        exact my_in (fun r => br_f n10 (H75 ⟨c1, c2, fun _ _ _ => r⟩)) (fun r => br_t rfl (G (fun z => r (z.2.2 e1 e2 e3))))
    have H32 : (¬ o = 9 → (0 : Int32) ≤ d ∧ d ≤ 7) → wY_step_32 post o d a b LE TO WI HI (nI ns) KE VA VB VC LA ZZ re gr bl de sn tx pl vv gs so sd sa sq cn ry := fun c1 => by
      refine br_c (fun e => H48 c1 (fun z => absurd e z)) (fun e => ?_)
      exact my_in (fun r => br_f n10 (H48 c1 (fun _ => r))) (fun r => br_t rfl (G (fun z => r (z.2.1 e))))
    refine br_c (fun e => H32 (fun z => absurd e z)) (fun e => ?_)
    exact my_in (fun r => br_f n10 (H32 (fun _ => r))) (fun r => br_t rfl (G (fun z => r (z.1 e))))
  · exact my_none (F1 p)
theorem st_one {o d a b : Int32} (p : (0 : Int32) ≤ o ∧ o ≤ 9) (c : (¬ o = 9 → (0 : Int32) ≤ d ∧ d ≤ 7) ∧ (¬ o = 8 → (0 : Int32) ≤ a ∧ a ≤ 7) ∧ (¬ o = 0 → ¬ o = 8 → ¬ o = 9 → (0 : Int32) ≤ b ∧ b ≤ 7)) : ri_one o d a b := by
  have w : ∀ x : Int32, (0 : Int32) ≤ x ∧ x ≤ 7 → ∃ n : Nat, n < 8 ∧ x = nI n := fun x h => by
    obtain ⟨n, hn, e⟩ := ic_of 7 (by decide) h.1 h.2
    exact ⟨n, by omega, e⟩
  obtain ⟨n, hn, e⟩ := ic_of 9 (by decide) p.1 p.2
  exact ⟨⟨n, by omega, e⟩, fun z => w _ (c.1 z), fun z => w _ (c.2.1 z), fun z1 z2 z3 => w _ (c.2.2 z1 z2 z3)⟩
end CL2
theorem i_vc_scissor {k : Nat} {u : SX} {v : SY} (I : i_Rel k u v) (hk : k + 6 ≤ 3072) (v1 : Int32) (v2 : Int32) (v3 : Int32) (v4 : Int32) : wpX_scissor (fun r u' => wpY_scissor (fun r' v' => r' = r ∧ i_Rel (k + 6) u' v') v v1 v2 v3 v4) u v1 v2 v3 v4 := by
  obtain ⟨ns, sl, st, sw, sh, KE, CA, CB, CC, FL, WA, WB, WC, VA, VB, VC, LA, ZZ, co, de, sn, tx, vx, vy, vz, vq, vv, gs, cn, so, sd, sa, sq, rx, re, gr, bl, pl, ry, rfl, rfl, R⟩ := I
  refine mx_scissor (fun C => my_scissor (fun _ => ⟨rfl, ?_⟩) (fun n => absurd C n)) (fun n => my_scissor (fun C => absurd C n) (fun _ => ⟨rfl, rel_mk R⟩))
  obtain ⟨X, hX, rfl⟩ := ic_of 24 (by decide) C.1.1 C.1.2
  obtain ⟨Y, hY, rfl⟩ := ic_of 16 (by decide) C.2.1.1 C.2.1.2
  have e1 : (24 : Int32) - nI X = nI (24 - X) := pk_sub (a := 24) hX
  have e2 : (16 : Int32) - nI Y = nI (16 - Y) := pk_sub (a := 16) hY
  obtain ⟨W', hW, rfl⟩ := ic_of (24 - X) (by rw [e1]; exact nI_toInt (by omega)) C.2.2.1.1 C.2.2.1.2
  obtain ⟨H', hH, rfl⟩ := ic_of (16 - Y) (by rw [e2]; exact nI_toInt (by omega)) C.2.2.2.1 C.2.2.2.2
  rw [nI_add, nI_add]
  exact rel_mk ⟨⟨R.1.1, by omega, by omega⟩, R.2⟩
theorem i_vc_step {k : Nat} {u : SX} {v : SY} (I : i_Rel k u v) (hk : k + 6 ≤ 3072) (v1 : Int32) (v2 : Int32) (v3 : Int32) (v4 : Int32) : wpX_step (fun r u' => wpY_step (fun r' v' => r' = r ∧ i_Rel (k + 6) u' v') v v1 v2 v3 v4) u v1 v2 v3 v4 := by
  obtain ⟨ns, sl, st, sw, sh, KE, CA, CB, CC, FL, WA, WB, WC, VA, VB, VC, LA, ZZ, co, de, sn, tx, vx, vy, vz, vq, vv, gs, cn, so, sd, sa, sq, rx, re, gr, bl, pl, ry, rfl, rfl, R⟩ := I
  refine mx_st R.1.1 (fun n => my_st R.1.1 (fun _ => ⟨rfl, rel_mk R⟩) (fun p => absurd p n) (fun p => absurd p n) (fun p => absurd p n)) (fun p n => my_st R.1.1 (fun m => absurd p m) (fun _ _ => ⟨rfl, rel_mk R⟩) (fun _ c => absurd c n) (fun _ c => absurd c n)) (fun p c e => my_st R.1.1 (fun m => absurd p m) (fun _ n => absurd c n) (fun _ _ _ => ⟨rfl, rel_mk R⟩) (fun _ _ l => absurd l (by omega))) (fun p c l => my_st R.1.1 (fun m => absurd p m) (fun _ n => absurd c n) (fun _ _ e => absurd l (by omega)) (fun _ _ _ => ⟨rfl, rel_mk ?_⟩))
  exact ⟨⟨by omega, R.1.2⟩, R.2.1, R.2.2.1, R.2.2.2.1, R.2.2.2.2.1, ri_stpU R.2.2.2.2.2 (st_one p c)⟩
theorem i_vc_keep {k : Nat} {u : SX} {v : SY} (I : i_Rel k u v) (hk : k + 6 ≤ 3072) (v1 : Int32) : wpX_keep (fun r u' => wpY_keep (fun r' v' => r' = r ∧ i_Rel (k + 6) u' v') v v1) u v1 := by
  obtain ⟨ns, sl, st, sw, sh, KE, CA, CB, CC, FL, WA, WB, WC, VA, VB, VC, LA, ZZ, co, de, sn, tx, vx, vy, vz, vq, vv, gs, cn, so, sd, sa, sq, rx, re, gr, bl, pl, ry, rfl, rfl, R⟩ := I
  have h10 := R.1.1
  unfold wpX_keep
  refine mx_btw (fun a => br_f n10 ?_) (fun a => br_t rfl ?_)
  · unfold wpY_keep
    refine my_in (fun _ => br_f n10 ⟨rfl, ?_⟩) (fun n => absurd a n)
    obtain ⟨n, hn, rfl⟩ := ic_of ns (nI_toInt (by omega)) a.1 a.2
    exact rel_mk ⟨⟨by omega, R.1.2⟩, R.2.1, R.2.2.1, R.2.2.2.1, R.2.2.2.2.1, ri_stpK R.2.2.2.2.2 hn⟩
  · refine mx_refuse ⟨rfl, ?_⟩
    unfold wpY_keep
    exact my_in (fun c => absurd c a) (fun _ => br_t rfl (my_fails ⟨rfl, rfl, rel_mk R⟩))
theorem i_vc_pixel {k : Nat} {u : SX} {v : SY} (I : i_Rel k u v) (hk : k + 6 ≤ 3072) (v1 : Int32) (v2 : Int32) : wpX_pixel (fun r => wpY_pixel (fun r' => r' = r ∧ i_Rel (k + 6) u v) v v1 v2) u v1 v2 := by
  obtain ⟨ns, sl, st, sw, sh, KE, CA, CB, CC, FL, WA, WB, WC, VA, VB, VC, LA, ZZ, co, de, sn, tx, vx, vy, vz, vq, vv, gs, cn, so, sd, sa, sq, rx, re, gr, bl, pl, ry, rfl, rfl, R⟩ := I
  unfold wpX_pixel
  refine mx_isS (fun a => br_f n10 ?_) (fun a => br_t rfl ?_)
  · obtain ⟨X, hX, rfl⟩ := ic_of 23 (by decide) a.1.1 a.1.2
    obtain ⟨Y, hY, rfl⟩ := ic_of 15 (by decide) a.2.1 a.2.2
    obtain ⟨vx1, cx1⟩ := ix_p (x := nI Y * 24 + nI X) (n := 24 * Y + X) 384 ((ix_a (pk_mul Y 24) X rfl).trans (congrArg nI (by omega))) (by omega) (by decide)
    have ey : (24 : Int32) * nI Y + nI X = nI (24 * Y + X) := ix_a (pk_mul 24 Y) X rfl
    obtain ⟨vy1, cy1⟩ := ix_p (x := nI (24 * Y + X)) 384 rfl (by omega) (by decide)
    refine ⟨vx1, ?_⟩
    unfold wpY_pixel
    refine my_in (fun _ => br_f n10 ?_) (fun n => absurd a.1 n)
    refine my_in (fun _ => br_f n10 ?_) (fun n => absurd a.2 n)
    obtain ⟨r, g, b, hr, hg, hb, er, eg, eb, ec⟩ := R.2.1 (24 * Y + X) (by omega)
    refine nm_r ey ⟨vy1, vy1, vy1, ?_, rel_mk R⟩
    rw [cx1, cy1, er, eg, eb, ec]
    exact cp_join hr hg hb
  · unfold wpY_pixel
    refine my_in (fun p => br_f n10 ?_) (fun p => br_t rfl ⟨rfl, rel_mk R⟩)
    exact my_in (fun q => absurd ⟨p, q⟩ a) (fun q => br_t rfl ⟨rfl, rel_mk R⟩)
theorem i_vc_at {k : Nat} {u : SX} {v : SY} (I : i_Rel k u v) (hk : k + 6 ≤ 3072) (v1 : Int32) (v2 : Int32) (v3 : Int32) : wpX_at (fun r => wpY_at (fun r' => r' = r ∧ i_Rel (k + 6) u v) v v1 v2 v3) u v1 v2 v3 := by
  obtain ⟨ns, sl, st, sw, sh, KE, CA, CB, CC, FL, WA, WB, WC, VA, VB, VC, LA, ZZ, co, de, sn, tx, vx, vy, vz, vq, vv, gs, cn, so, sd, sa, sq, rx, re, gr, bl, pl, ry, rfl, rfl, R⟩ := I
  unfold wpX_at
  refine mx_isS (fun a => br_f n10 ?_) (fun a => br_t rfl ?_)
  · obtain ⟨X, hX, rfl⟩ := ic_of 23 (by decide) a.1.1 a.1.2
    obtain ⟨Y, hY, rfl⟩ := ic_of 15 (by decide) a.2.1 a.2.2
    have ex : nI Y * 24 + nI X = nI (24 * Y + X) := (ix_a (pk_mul Y 24) X rfl).trans (congrArg nI (by omega))
    have ey : (24 : Int32) * nI Y + nI X = nI (24 * Y + X) := ix_a (pk_mul 24 Y) X rfl
    obtain ⟨vy1, cy1⟩ := ix_p (x := nI (24 * Y + X)) 384 rfl (by omega) (by decide)
    obtain ⟨vz1, cz1⟩ := ix_p (x := 24 * nI Y + nI X) 384 ey (by omega) (by decide)
    refine nm_r ex (br_c (fun e => ⟨vy1, ?_⟩) (fun e => br_c (fun f => ⟨vy1, ?_⟩) (fun f => ?_)))
    · unfold wpY_at
      refine my_in (fun _ => br_f n10 ?_) (fun n => absurd a.1 n)
      refine my_in (fun _ => br_f n10 ?_) (fun n => absurd a.2 n)
      refine my_in (fun _ => br_f n10 ?_) (fun n => absurd (by rw [e]; decide) n)
      exact br_t e ⟨vz1, by rw [cz1, cy1], rel_mk R⟩
    · unfold wpY_at
      refine my_in (fun _ => br_f n10 ?_) (fun n => absurd a.1 n)
      refine my_in (fun _ => br_f n10 ?_) (fun n => absurd a.2 n)
      refine my_in (fun _ => br_f n10 ?_) (fun n => absurd (by rw [f]; decide) n)
      exact br_f e ⟨vz1, by rw [cz1, cy1], rel_mk R⟩
    · unfold wpY_at
      refine my_in (fun _ => br_f n10 ?_) (fun n => absurd a.1 n)
      refine my_in (fun _ => br_f n10 ?_) (fun n => absurd a.2 n)
      refine my_in (fun w => absurd w (fun w => ?_)) (fun n => br_t rfl ⟨rfl, rel_mk R⟩)
      obtain ⟨n, hn, rfl⟩ := ic_of 1 (by decide) w.1 w.2
      have c : n = 0 ∨ n = 1 := by omega
      rcases c with rfl | rfl
      · exact e rfl
      · exact f rfl
  · unfold wpY_at
    refine my_in (fun p => br_f n10 ?_) (fun p => br_t rfl ⟨rfl, rel_mk R⟩)
    exact my_in (fun q => absurd ⟨p, q⟩ a) (fun q => br_t rfl ⟨rfl, rel_mk R⟩)
theorem i_vc_error {k : Nat} {u : SX} {v : SY} (I : i_Rel k u v) (hk : k + 6 ≤ 3072) : wpX_error (fun r u' => wpY_error (fun r' v' => r' = r ∧ i_Rel (k + 6) u' v') v) u := by
  obtain ⟨ns, sl, st, sw, sh, KE, CA, CB, CC, FL, WA, WB, WC, VA, VB, VC, LA, ZZ, co, de, sn, tx, vx, vy, vz, vq, vv, gs, cn, so, sd, sa, sq, rx, re, gr, bl, pl, ry, rfl, rfl, R⟩ := I
  exact ⟨rfl, rel_mk R⟩
theorem i_vc_count {k : Nat} {u : SX} {v : SY} (I : i_Rel k u v) (hk : k + 6 ≤ 3072) (v1 : Int32) : wpX_count (fun r => wpY_count (fun r' => r' = r ∧ i_Rel (k + 6) u v) v v1) u v1 := by
  obtain ⟨ns, sl, st, sw, sh, KE, CA, CB, CC, FL, WA, WB, WC, VA, VB, VC, LA, ZZ, co, de, sn, tx, vx, vy, vz, vq, vv, gs, cn, so, sd, sa, sq, rx, re, gr, bl, pl, ry, rfl, rfl, R⟩ := I
  unfold wpX_count
  refine mx_btw (fun a => br_f n10 ?_) (fun a => br_t rfl ?_)
  · have v : vp_in v1 6 := ic_in (n := 5) (by decide) a (by decide)
    refine ⟨v, ?_⟩
    unfold wpY_count
    exact my_in (fun _ => br_f n10 ⟨v, rfl, rel_mk R⟩) (fun n => absurd a n)
  · unfold wpY_count
    exact my_in (fun c => absurd c a) (fun _ => br_t rfl ⟨rfl, rel_mk R⟩)
