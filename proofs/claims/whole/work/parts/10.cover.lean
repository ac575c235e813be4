/-! cross products, the cover of a pixel, division downwards -/
def fd_g (s d : Int64) : Int32 := if s < s / d * d then (s / d - 1).toInt32 else (s / d).toInt32
theorem l64_lt {w : Int32} : w.toInt64 < 0 ↔ w < 0 := Int32.toInt64_lt (a := w) (b := 0)
theorem l64_le {w : Int32} : 0 ≤ w.toInt64 ↔ 0 ≤ w := Int32.toInt64_le (a := 0) (b := w)
theorem l64_le' {w : Int32} : w.toInt64 ≤ 0 ↔ w ≤ 0 := Int32.toInt64_le (a := w) (b := 0)
theorem l64_eq {w : Int32} : w.toInt64 = 0 ↔ w = 0 := by
  rw [← Int64.toInt_inj, ← Int32.toInt_inj, Int32.toInt_toInt64, Int64.toInt_zero, Int32.toInt_zero]
theorem ca_inI {n : Nat} (h : n ≤ 800) : ca_in (nI n) := by
  unfold ca_in
  rw [nI_toInt (by omega)]
  omega
theorem cv_mid {x : Nat} (h : x < 24) : ca_in (8 * nI x + 4) := by
  rw [show (8 : Int32) * nI x + 4 = nI (8 * x + 4) from ix_a (pk_mul 8 x) 4 rfl]
  exact ca_inI (by omega)
theorem cv_pos {vx vy vz vq pl : Nat → Int32} (hv : ri_ver vx vy vz vq pl) {a b c : Nat} (ha : a < 24) (hb : b < 24) (hc : c < 24) {mx my : Int32} (hx : ca_in mx) (hy : ca_in my)
    (hA : 0 < ca_cr (vx a).toInt (vy a).toInt (vx b).toInt (vy b).toInt (vx c).toInt (vy c).toInt) (cov : cv_a vx vy a b c mx my) :
    ca_wt (cv_w vx vy b c mx my) ∧ ca_wt (cv_w vx vy c a mx my) ∧ ca_wt (cv_w vx vy a b mx my) ∧ 0 < (cv_w vx vy b c mx my).toInt + (cv_w vx vy c a mx my).toInt + (cv_w vx vy a b mx my).toInt := by
  obtain ⟨_, a1, a2, _⟩ := hv a ha
  obtain ⟨_, b1, b2, _⟩ := hv b hb
  obtain ⟨_, c1, c2, _⟩ := hv c hc
  obtain ⟨p1, p2, _⟩ := ca_cross b1 b2 c1 c2 hx hy
  obtain ⟨q1, q2, _⟩ := ca_cross c1 c2 a1 a2 hx hy
  obtain ⟨r1, r2, _⟩ := ca_cross a1 a2 b1 b2 hx hy
  have s := ca_area (vx a).toInt (vy a).toInt (vx b).toInt (vy b).toInt (vx c).toInt (vy c).toInt mx.toInt my.toInt
  obtain ⟨k1, k2, k3⟩ := cov
  have f1 := Int32.le_iff_toInt_le.mp k1.1
  have f2 := Int32.le_iff_toInt_le.mp k2.1
  have f3 := Int32.le_iff_toInt_le.mp k3.1
  rw [Int32.toInt_zero] at f1 f2 f3
  have e1 : (cv_w vx vy b c mx my).toInt = _ := p1
  have e2 : (cv_w vx vy c a mx my).toInt = _ := q1
  have e3 : (cv_w vx vy a b mx my).toInt = _ := r1
  unfold ca_wt
  rw [e1] at f1 ⊢
  rw [e2] at f2 ⊢
  rw [e3] at f3 ⊢
  rw [s]
  refine ⟨⟨f1, ?_⟩, ⟨f2, ?_⟩, ⟨f3, ?_⟩, hA⟩
  · omega
  · omega
  · omega
section CVR
variable {NS SL ST SR SB KE CA CB CC FL WA WB WC : Int32} {co de sn tx vx vy vz vq vv gs cn so sd sa sq rx : Nat → Int32}
variable {LE TO WI HI VA VB VC LA ZZ : Int32} {re gr bl pl ry : Nat → Int32}
theorem mx_cross {post : Int32 → Prop} {a b : Nat} {x y : Int32} (ha : a < 24) (hb : b < 24) (h : post (cv_w vx vy a b x y)) : wpX_cross post (NS, SL, ST, SR, SB, KE, CA, CB, CC, FL, WA, WB, WC, co, de, sn, tx, vx, vy, vz, vq, vv, gs, cn, so, sd, sa, sq, rx) (nI a) (nI b) x y := by
  have va : vp_in (nI a) 24 := vp_in_nI ha (by decide)
  have vb : vp_in (nI b) 24 := vp_in_nI hb (by decide)
  have c1 : (nI a).toNatClampNeg = a := nI_clamp (by omega)
  have c2 : (nI b).toNatClampNeg = b := nI_clamp (by omega)
  refine ⟨vb, va, va, vb, va, va, ?_⟩
  rw [c1, c2]
  exact h
theorem mx_inside {post : Int32 → Prop} {w : Int32} {f t : Nat} (hf : f < 24) (ht : t < 24) (T : cv_1 vx vy w f t → post 1) (F : ¬ cv_1 vx vy w f t → post 0) : wpX_isInside post (NS, SL, ST, SR, SB, KE, CA, CB, CC, FL, WA, WB, WC, co, de, sn, tx, vx, vy, vz, vq, vv, gs, cn, so, sd, sa, sq, rx) w (nI f) (nI t) := by
  have vf : vp_in (nI f) 24 := vp_in_nI hf (by decide)
  have vt : vp_in (nI t) 24 := vp_in_nI ht (by decide)
  have c1 : (nI f).toNatClampNeg = f := nI_clamp (by omega)
  have c2 : (nI t).toNatClampNeg = t := nI_clamp (by omega)
  refine br_c (fun e => ⟨vt, vf, nm_r (e' := vy t - vy f) (by rw [c1, c2]) ⟨vt, vf, nm_r (e' := vx t - vx f) (by rw [c1, c2]) (br_c (fun a => T ⟨?_, fun _ => Or.inl a⟩) (fun a => br_c (fun b => br_c (fun d => F ?_) (fun d => T ⟨?_, fun _ => Or.inr ⟨b, Int32.not_le.mp d⟩⟩)) (fun b => F ?_)))⟩⟩) (fun e => br_c (fun a => F ?_) (fun a => T ⟨Int32.le_of_lt (Int32.not_le.mp a), fun q => absurd q e⟩))
  · rw [e]
    decide
  · exact fun z => (z.2 e).elim a (fun q => absurd q.2 (Int32.not_lt.mpr d))
  · rw [e]
    decide
  · exact fun z => (z.2 e).elim a (fun q => b q.1)
  · exact fun z => e (Int32.le_antisymm a z.1)
theorem mx_covers {post : Int32 → SX → Prop} {a b c : Nat} {x y : Int32} (ha : a < 24) (hb : b < 24) (hc : c < 24) (T : cv_a vx vy a b c (8 * x + 4) (8 * y + 4) → post 1 (NS, SL, ST, SR, SB, KE, nI a, nI b, nI c, FL, cv_w vx vy b c (8 * x + 4) (8 * y + 4), cv_w vx vy c a (8 * x + 4) (8 * y + 4), cv_w vx vy a b (8 * x + 4) (8 * y + 4), co, de, sn, tx, vx, vy, vz, vq, vv, gs, cn, so, sd, sa, sq, rx)) (F : ¬ cv_a vx vy a b c (8 * x + 4) (8 * y + 4) → post 0 (NS, SL, ST, SR, SB, KE, nI a, nI b, nI c, FL, cv_w vx vy b c (8 * x + 4) (8 * y + 4), cv_w vx vy c a (8 * x + 4) (8 * y + 4), cv_w vx vy a b (8 * x + 4) (8 * y + 4), co, de, sn, tx, vx, vy, vz, vq, vv, gs, cn, so, sd, sa, sq, rx)) : wpX_coversPixel post (NS, SL, ST, SR, SB, KE, nI a, nI b, nI c, FL, WA, WB, WC, co, de, sn, tx, vx, vy, vz, vq, vv, gs, cn, so, sd, sa, sq, rx) x y := by
  unfold wpX_coversPixel
  refine nm_e (nm_e ?_)
  refine mx_cross hb hc ?_
  refine mx_cross hc ha ?_
  refine mx_cross ha hb ?_
  refine mx_inside hb hc (fun p => br_f n10 ?_) (fun p => br_t rfl (F (fun z => p z.1)))
  refine mx_inside hc ha (fun q => br_f n10 ?_) (fun q => br_t rfl (F (fun z => q z.2.1)))
  exact mx_inside ha hb (fun r => br_f n10 (T ⟨p, q, r⟩)) (fun r => br_t rfl (F (fun z => r z.2.2)))
theorem mx_div {post : Int32 → Prop} {s d : Int64} (hd : 0 < d) (h : post (fd_g s d)) : wpX_dividedDownwards post s d := by
  unfold fd_g at h
  have ne : ¬ d = 0 := fun z => by rw [z] at hd; exact absurd hd (by decide)
  refine br_t hd ⟨ne, nm_e (br_c (fun a => ?_) (fun a => ?_))⟩
  · rw [if_neg (Int64.not_lt.mpr a)] at h
    exact h
  · rw [if_pos (Int64.not_le.mp a)] at h
    exact h
theorem my_weight {post : Int64 → Prop} {a b : Nat} {x y : Int32} (hv : ri_ver vx vy vz vq pl) (ha : a < 24) (hb : b < 24) (hx : ca_in x) (hy : ca_in y) (h : post (cv_w vx vy a b x y).toInt64) : wpY_weight post (LE, TO, WI, HI, NS, KE, VA, VB, VC, LA, ZZ, re, gr, bl, de, sn, tx, pl, vv, gs, so, sd, sa, sq, cn, ry) (nI a) (nI b) x y := by
  obtain ⟨⟨p1, p2, _, _⟩, a1, a2, _⟩ := hv a ha
  obtain ⟨⟨q1, q2, _, _⟩, b1, b2, _⟩ := hv b hb
  have ia : (4 : Int32) * nI a = nI (4 * a) := pk_mul 4 a
  have ib : (4 : Int32) * nI b = nI (4 * b) := pk_mul 4 b
  obtain ⟨v1, c1⟩ := ix_p 96 ia (by omega) (by decide)
  obtain ⟨v2, c2⟩ := ix_p (x := 4 * nI a + 1) 96 (ix_a ia 1 rfl) (by omega) (by decide)
  obtain ⟨v3, c3⟩ := ix_p 96 ib (by omega) (by decide)
  obtain ⟨v4, c4⟩ := ix_p (x := 4 * nI b + 1) 96 (ix_a ib 1 rfl) (by omega) (by decide)
  refine ⟨v1, v2, v3, v4, ?_⟩
  show post _
  rw [show cv_w vx vy a b x y = (vx b - vx a) * (y - vy a) - (vy b - vy a) * (x - vx a) from rfl, (ca_cross a1 a2 b1 b2 hx hy).2.2] at h
  rw [p1, p2, q1, q2] at h
  rw [c1, c2, c3, c4]
  exact h
theorem my_has {post : Int32 → Prop} {f t : Nat} (hv : ri_ver vx vy vz vq pl) (hf : f < 24) (ht : t < 24) (T : cv_h vx vy f t → post 1) (F : ¬ cv_h vx vy f t → post 0) : wpY_has post (LE, TO, WI, HI, NS, KE, VA, VB, VC, LA, ZZ, re, gr, bl, de, sn, tx, pl, vv, gs, so, sd, sa, sq, cn, ry) (nI f) (nI t) := by
  obtain ⟨⟨p1, p2, _, _⟩, _⟩ := hv f hf
  obtain ⟨⟨q1, q2, _, _⟩, _⟩ := hv t ht
  have ia : (4 : Int32) * nI f = nI (4 * f) := pk_mul 4 f
  have ib : (4 : Int32) * nI t = nI (4 * t) := pk_mul 4 t
  obtain ⟨v1, c1⟩ := ix_p 96 ia (by omega) (by decide)
  obtain ⟨v2, c2⟩ := ix_p (x := 4 * nI f + 1) 96 (ix_a ia 1 rfl) (by omega) (by decide)
  obtain ⟨v3, c3⟩ := ix_p 96 ib (by omega) (by decide)
  obtain ⟨v4, c4⟩ := ix_p (x := 4 * nI t + 1) 96 (ix_a ib 1 rfl) (by omega) (by decide)
  refine ⟨v3, v1, nm_r (e' := vx t - vx f) (by rw [c1, c3, p1, q1]) ⟨v4, v2, nm_r (e' := vy t - vy f) (by rw [c2, c4, p2, q2]) (br_c (fun a => T (Or.inl a)) (fun a => br_c (fun b => br_c (fun d => F ?_) (fun d => T (Or.inr ⟨b, Int32.not_le.mp d⟩))) (fun b => F ?_)))⟩⟩
  · exact fun z => z.elim a (fun q => absurd q.2 (Int32.not_lt.mpr d))
  · exact fun z => z.elim a (fun q => b q.1)
theorem my_look {post : SY → Prop} {a b c : Nat} {x y : Int32} (hv : ri_ver vx vy vz vq pl) (ha : a < 24) (hb : b < 24) (hc : c < 24) (hx : ca_in (8 * x + 4)) (hy : ca_in (8 * y + 4)) (T : cv_a vx vy a b c (8 * x + 4) (8 * y + 4) → wY_look_155 post x y (cv_w vx vy b c (8 * x + 4) (8 * y + 4)).toInt64 (cv_w vx vy c a (8 * x + 4) (8 * y + 4)).toInt64 (cv_w vx vy a b (8 * x + 4) (8 * y + 4)).toInt64 LE TO WI HI NS KE (nI a) (nI b) (nI c) LA ZZ re gr bl de sn tx pl vv gs so sd sa sq cn ry) (F : ¬ cv_a vx vy a b c (8 * x + 4) (8 * y + 4) → post (LE, TO, WI, HI, NS, KE, nI a, nI b, nI c, LA, ZZ, re, gr, bl, de, sn, tx, pl, vv, gs, so, sd, sa, sq, cn, ry)) : wpY_look post (LE, TO, WI, HI, NS, KE, nI a, nI b, nI c, LA, ZZ, re, gr, bl, de, sn, tx, pl, vv, gs, so, sd, sa, sq, cn, ry) x y := by
  have H132 : cv_1 vx vy (cv_w vx vy b c (8 * x + 4) (8 * y + 4)) b c → cv_1 vx vy (cv_w vx vy c a (8 * x + 4) (8 * y + 4)) c a → 0 ≤ cv_w vx vy a b (8 * x + 4) (8 * y + 4) → wY_look_132 post x y (cv_w vx vy b c (8 * x + 4) (8 * y + 4)).toInt64 (cv_w vx vy c a (8 * x + 4) (8 * y + 4)).toInt64 (cv_w vx vy a b (8 * x + 4) (8 * y + 4)).toInt64 LE TO WI HI NS KE (nI a) (nI b) (nI c) LA ZZ re gr bl de sn tx pl vv gs so sd sa sq cn ry := by
    intro k1 k2 k3
    refine br_c (fun e => ?_) (fun e => T ⟨k1, k2, k3, fun z => absurd (l64_eq.mpr z) e⟩)
    exact my_has hv ha hb (fun t => br_f n10 (T ⟨k1, k2, k3, fun _ => t⟩)) (fun t => br_t rfl (F (fun z => t (z.2.2.2 (l64_eq.mp e)))))
  have H110 : cv_1 vx vy (cv_w vx vy b c (8 * x + 4) (8 * y + 4)) b c → 0 ≤ cv_w vx vy c a (8 * x + 4) (8 * y + 4) → 0 ≤ cv_w vx vy a b (8 * x + 4) (8 * y + 4) → wY_look_110 post x y (cv_w vx vy b c (8 * x + 4) (8 * y + 4)).toInt64 (cv_w vx vy c a (8 * x + 4) (8 * y + 4)).toInt64 (cv_w vx vy a b (8 * x + 4) (8 * y + 4)).toInt64 LE TO WI HI NS KE (nI a) (nI b) (nI c) LA ZZ re gr bl de sn tx pl vv gs so sd sa sq cn ry := by
    intro k1 k2 k3
    refine br_c (fun e => ?_) (fun e => H132 k1 ⟨k2, fun z => absurd (l64_eq.mpr z) e⟩ k3)
    exact my_has hv hc ha (fun t => br_f n10 (H132 k1 ⟨k2, fun _ => t⟩ k3)) (fun t => br_t rfl (F (fun z => t (z.2.1.2 (l64_eq.mp e)))))
  unfold wpY_look
  refine nm_e (nm_e ?_)
  refine my_weight hv hb hc hx hy ?_
  refine my_weight hv hc ha hx hy ?_
  refine my_weight hv ha hb hx hy ?_
  refine br_c (fun p => F (fun z => absurd (l64_lt.mp p) (Int32.not_lt.mpr z.1.1))) (fun p => br_c (fun q => F (fun z => absurd (l64_lt.mp q) (Int32.not_lt.mpr z.2.1.1))) (fun q => br_c (fun r => ?_) (fun r => F (fun z => r (l64_le.mpr z.2.2.1)))))
  have k1 : 0 ≤ cv_w vx vy b c (8 * x + 4) (8 * y + 4) := Int32.not_lt.mp (fun z => p (l64_lt.mpr z))
  have k2 : 0 ≤ cv_w vx vy c a (8 * x + 4) (8 * y + 4) := Int32.not_lt.mp (fun z => q (l64_lt.mpr z))
  have k3 : 0 ≤ cv_w vx vy a b (8 * x + 4) (8 * y + 4) := l64_le.mp r
  refine br_c (fun e => ?_) (fun e => H110 ⟨k1, fun z => absurd (l64_eq.mpr z) e⟩ k2 k3)
  exact my_has hv hb hc (fun t => br_f n10 (H110 ⟨k1, fun _ => t⟩ k2 k3)) (fun t => br_t rfl (F (fun z => t (z.1.2 (l64_eq.mp e)))))
end CVR
