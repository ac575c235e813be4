/-! vertex, paint, coords, texel, set, scissor, keep, pixel, at, error, count -/
section CLS
variable {NS SL ST SR SB KE CA CB CC FL WA WB WC : Int32} {co de sn tx vx vy vz vq vv gs cn so sd sa sq rx : Nat → Int32}
variable {LE TO WI HI VA VB VC LA ZZ : Int32} {re gr bl pl ry : Nat → Int32}
theorem rel_mk {k ns sl st sw sh : Nat} (R : ri_all ns sl st sw sh co tx vx vy vz vq gs so sd sa sq re gr bl pl) : i_Rel k (nI ns, nI sl, nI st, nI (sl + sw), nI (st + sh), KE, CA, CB, CC, FL, WA, WB, WC, co, de, sn, tx, vx, vy, vz, vq, vv, gs, cn, so, sd, sa, sq, rx) (nI sl, nI st, nI sw, nI sh, nI ns, KE, VA, VB, VC, LA, ZZ, re, gr, bl, de, sn, tx, pl, vv, gs, so, sd, sa, sq, cn, ry) := ⟨ns, sl, st, sw, sh, KE, CA, CB, CC, FL, WA, WB, WC, VA, VB, VC, LA, ZZ, co, de, sn, tx, vx, vy, vz, vq, vv, gs, cn, so, sd, sa, sq, rx, re, gr, bl, pl, ry, rfl, rfl, R⟩
theorem ic_in {x M : Int32} {n N : Nat} (hM : M.toInt = n) (h : 0 ≤ x ∧ x ≤ M) (hN : n < N) : vp_in x N := by
  have a := Int32.le_iff_toInt_le.mp h.1
  have b := Int32.le_iff_toInt_le.mp h.2
  rw [Int32.toInt_zero] at a
  exact vp_in_iff.mpr (by omega)
theorem mx_vertex {post : Int32 → SX → Prop} {i x y z q : Int32} (T : ((0 : Int32) ≤ i ∧ i ≤ 23) ∧ ((-800 : Int32) ≤ x ∧ x ≤ 800) ∧ ((-800 : Int32) ≤ y ∧ y ≤ 800) ∧ ((0 : Int32) ≤ z ∧ z ≤ 1023) ∧ ((1 : Int32) ≤ q ∧ q ≤ 64) → post 1 (NS, SL, ST, SR, SB, KE, CA, CB, CC, FL, WA, WB, WC, co, de, sn, tx, upd vx i.toNatClampNeg x, upd vy i.toNatClampNeg y, upd vz i.toNatClampNeg z, upd vq i.toNatClampNeg q, vv, gs, cn, so, sd, sa, sq, rx)) (F : ¬ (((0 : Int32) ≤ i ∧ i ≤ 23) ∧ ((-800 : Int32) ≤ x ∧ x ≤ 800) ∧ ((-800 : Int32) ≤ y ∧ y ≤ 800) ∧ ((0 : Int32) ≤ z ∧ z ≤ 1023) ∧ ((1 : Int32) ≤ q ∧ q ≤ 64)) → post 0 (NS, SL, ST, SR, SB, ke_f KE 2, CA, CB, CC, FL, WA, WB, WC, co, de, sn, tx, vx, vy, vz, vq, vv, gs, cn, so, sd, sa, sq, rx)) : wpX_vertex post (NS, SL, ST, SR, SB, KE, CA, CB, CC, FL, WA, WB, WC, co, de, sn, tx, vx, vy, vz, vq, vv, gs, cn, so, sd, sa, sq, rx) i x y z q := by
  have G : ¬ (((0 : Int32) ≤ i ∧ i ≤ 23) ∧ ((-800 : Int32) ≤ x ∧ x ≤ 800) ∧ ((-800 : Int32) ≤ y ∧ y ≤ 800) ∧ ((0 : Int32) ≤ z ∧ z ≤ 1023) ∧ ((1 : Int32) ≤ q ∧ q ≤ 64)) → wX_vertex_56 post NS SL ST SR SB KE CA CB CC FL WA WB WC co de sn tx vx vy vz vq vv gs cn so sd sa sq rx := fun n => by
    unfold wX_vertex_56
    exact mx_refuse ⟨rfl, F n⟩
  unfold wpX_vertex
  refine mx_isV (fun a => br_f n10 ?_) (fun a => br_t rfl (G (fun z => a z.1)))
  refine mx_btw (fun b => br_f n10 ?_) (fun b => br_t rfl (G (fun z => b z.2.1)))
  refine mx_btw (fun c => br_f n10 ?_) (fun c => br_t rfl (G (fun z => c z.2.2.1)))
  refine mx_btw (fun d => br_f n10 ?_) (fun d => br_t rfl (G (fun z => d z.2.2.2.1)))
  refine mx_btw (fun e => br_f n10 ?_) (fun e => br_t rfl (G (fun z => e z.2.2.2.2)))
  have v : vp_in i 24 := ic_in (n := 23) (by decide) a (by decide)
  exact ⟨v, nm_e ⟨v, nm_e ⟨v, nm_e ⟨v, nm_e (T ⟨a, b, c, d, e⟩)⟩⟩⟩⟩
theorem my_vertex {post : Int32 → SY → Prop} {i x y z q : Int32} (T : ((0 : Int32) ≤ i ∧ i ≤ 23) ∧ ((-800 : Int32) ≤ x ∧ x ≤ 800) ∧ ((-800 : Int32) ≤ y ∧ y ≤ 800) ∧ ((0 : Int32) ≤ z ∧ z ≤ 1023) ∧ ((1 : Int32) ≤ q ∧ q ≤ 64) → post 1 (LE, TO, WI, HI, NS, KE, VA, VB, VC, LA, ZZ, re, gr, bl, de, sn, tx, upd (upd (upd (upd pl (4 * i.toNatClampNeg) x) (4 * i.toNatClampNeg + 1) y) (4 * i.toNatClampNeg + 2) z) (4 * i.toNatClampNeg + 3) q, vv, gs, so, sd, sa, sq, cn, ry)) (F : ¬ (((0 : Int32) ≤ i ∧ i ≤ 23) ∧ ((-800 : Int32) ≤ x ∧ x ≤ 800) ∧ ((-800 : Int32) ≤ y ∧ y ≤ 800) ∧ ((0 : Int32) ≤ z ∧ z ≤ 1023) ∧ ((1 : Int32) ≤ q ∧ q ≤ 64)) → post 0 (LE, TO, WI, HI, NS, ke_f KE 2, VA, VB, VC, LA, ZZ, re, gr, bl, de, sn, tx, pl, vv, gs, so, sd, sa, sq, cn, ry)) : wpY_vertex post (LE, TO, WI, HI, NS, KE, VA, VB, VC, LA, ZZ, re, gr, bl, de, sn, tx, pl, vv, gs, so, sd, sa, sq, cn, ry) i x y z q := by
  have G : ¬ (((0 : Int32) ≤ i ∧ i ≤ 23) ∧ ((-800 : Int32) ≤ x ∧ x ≤ 800) ∧ ((-800 : Int32) ≤ y ∧ y ≤ 800) ∧ ((0 : Int32) ≤ z ∧ z ≤ 1023) ∧ ((1 : Int32) ≤ q ∧ q ≤ 64)) → wY_vertex_59 post LE TO WI HI NS KE VA VB VC LA ZZ re gr bl de sn tx pl vv gs so sd sa sq cn ry := fun n => by
    unfold wY_vertex_59
    exact my_fails ⟨rfl, F n⟩
  unfold wpY_vertex
  refine my_in (fun a => br_f n10 ?_) (fun a => br_t rfl (G (fun z => a z.1)))
  refine my_in (fun b => br_f n10 ?_) (fun b => br_t rfl (G (fun z => b z.2.1)))
  refine my_in (fun c => br_f n10 ?_) (fun c => br_t rfl (G (fun z => c z.2.2.1)))
  refine my_in (fun d => br_f n10 ?_) (fun d => br_t rfl (G (fun z => d z.2.2.2.1)))
  refine my_in (fun e => br_f n10 ?_) (fun e => br_t rfl (G (fun z => e z.2.2.2.2)))
  have t := T ⟨a, b, c, d, e⟩
  obtain ⟨I, hI, rfl⟩ := ic_of 23 (by decide) a.1 a.2
  rw [nI_clamp (by omega)] at t
  obtain ⟨v1, c1⟩ := ix_p (x := 4 * nI I) 96 (pk_mul 4 I) (by omega) (by decide)
  obtain ⟨v2, c2⟩ := ix_p (x := 4 * nI I + 1) 96 (ix_a (pk_mul 4 I) 1 rfl) (by omega) (by decide)
  obtain ⟨v3, c3⟩ := ix_p (x := 4 * nI I + 2) 96 (ix_a (pk_mul 4 I) 2 rfl) (by omega) (by decide)
  obtain ⟨v4, c4⟩ := ix_p (x := 4 * nI I + 3) 96 (ix_a (pk_mul 4 I) 3 rfl) (by omega) (by decide)
  refine ⟨v1, nm_r (e' := upd pl (4 * I) x) (by rw [c1]) ⟨v2, nm_r (e' := upd (upd pl (4 * I) x) (4 * I + 1) y) (by rw [c2]) ⟨v3, nm_r (e' := upd (upd (upd pl (4 * I) x) (4 * I + 1) y) (4 * I + 2) z) (by rw [c3]) ⟨v4, ?_⟩⟩⟩⟩
  exact nm_r (by rw [c4]) t
theorem mx_paint {post : Int32 → SX → Prop} {i x y z q : Int32} (T : ((0 : Int32) ≤ i ∧ i ≤ 23) ∧ ((0 : Int32) ≤ x ∧ x ≤ 255) ∧ ((0 : Int32) ≤ y ∧ y ≤ 255) ∧ ((0 : Int32) ≤ z ∧ z ≤ 255) ∧ ((0 : Int32) ≤ q ∧ q ≤ 255) → post 1 (NS, SL, ST, SR, SB, KE, CA, CB, CC, FL, WA, WB, WC, co, de, sn, tx, vx, vy, vz, vq, upd (upd (upd (upd vv (6 * i.toNatClampNeg) x) (6 * i.toNatClampNeg + 1) y) (6 * i.toNatClampNeg + 2) z) (6 * i.toNatClampNeg + 3) q, gs, cn, so, sd, sa, sq, rx)) (F : ¬ (((0 : Int32) ≤ i ∧ i ≤ 23) ∧ ((0 : Int32) ≤ x ∧ x ≤ 255) ∧ ((0 : Int32) ≤ y ∧ y ≤ 255) ∧ ((0 : Int32) ≤ z ∧ z ≤ 255) ∧ ((0 : Int32) ≤ q ∧ q ≤ 255)) → post 0 (NS, SL, ST, SR, SB, ke_f KE 2, CA, CB, CC, FL, WA, WB, WC, co, de, sn, tx, vx, vy, vz, vq, vv, gs, cn, so, sd, sa, sq, rx)) : wpX_paint post (NS, SL, ST, SR, SB, KE, CA, CB, CC, FL, WA, WB, WC, co, de, sn, tx, vx, vy, vz, vq, vv, gs, cn, so, sd, sa, sq, rx) i x y z q := by
  have G : ¬ (((0 : Int32) ≤ i ∧ i ≤ 23) ∧ ((0 : Int32) ≤ x ∧ x ≤ 255) ∧ ((0 : Int32) ≤ y ∧ y ≤ 255) ∧ ((0 : Int32) ≤ z ∧ z ≤ 255) ∧ ((0 : Int32) ≤ q ∧ q ≤ 255)) → wX_paint_53 post NS SL ST SR SB KE CA CB CC FL WA WB WC co de sn tx vx vy vz vq vv gs cn so sd sa sq rx := fun n => by
    unfold wX_paint_53
    exact mx_refuse ⟨rfl, F n⟩
  unfold wpX_paint
  refine mx_isV (fun a => br_f n10 ?_) (fun a => br_t rfl (G (fun z => a z.1)))
  refine mx_btw (fun b => br_f n10 ?_) (fun b => br_t rfl (G (fun z => b z.2.1)))
  refine mx_btw (fun c => br_f n10 ?_) (fun c => br_t rfl (G (fun z => c z.2.2.1)))
  refine mx_btw (fun d => br_f n10 ?_) (fun d => br_t rfl (G (fun z => d z.2.2.2.1)))
  refine mx_btw (fun e => br_f n10 ?_) (fun e => br_t rfl (G (fun z => e z.2.2.2.2)))
  have t := T ⟨a, b, c, d, e⟩
  obtain ⟨I, hI, rfl⟩ := ic_of 23 (by decide) a.1 a.2
  rw [nI_clamp (by omega)] at t
  have e6 : nI I * 6 = nI (6 * I) := (pk_mul I 6).trans (congrArg nI (Nat.mul_comm I 6))
  obtain ⟨v1, c1⟩ := ix_p (x := nI (6 * I)) 144 rfl (by omega) (by decide)
  obtain ⟨v2, c2⟩ := ix_p (x := nI (6 * I) + 1) 144 (nI_add (6 * I) 1) (by omega) (by decide)
  obtain ⟨v3, c3⟩ := ix_p (x := nI (6 * I) + 2) 144 (nI_add (6 * I) 2) (by omega) (by decide)
  obtain ⟨v4, c4⟩ := ix_p (x := nI (6 * I) + 3) 144 (nI_add (6 * I) 3) (by omega) (by decide)
  refine nm_r e6 ⟨v1, nm_r (e' := upd vv (6 * I) x) (by rw [c1]) ⟨v2, nm_r (e' := upd (upd vv (6 * I) x) (6 * I + 1) y) (by rw [c2]) ⟨v3, nm_r (e' := upd (upd (upd vv (6 * I) x) (6 * I + 1) y) (6 * I + 2) z) (by rw [c3]) ⟨v4, ?_⟩⟩⟩⟩
  exact nm_r (by rw [c4]) t
theorem my_paint {post : Int32 → SY → Prop} {i x y z q : Int32} (T : ((0 : Int32) ≤ i ∧ i ≤ 23) ∧ ((0 : Int32) ≤ x ∧ x ≤ 255) ∧ ((0 : Int32) ≤ y ∧ y ≤ 255) ∧ ((0 : Int32) ≤ z ∧ z ≤ 255) ∧ ((0 : Int32) ≤ q ∧ q ≤ 255) → post 1 (LE, TO, WI, HI, NS, KE, VA, VB, VC, LA, ZZ, re, gr, bl, de, sn, tx, pl, upd (upd (upd (upd vv (6 * i.toNatClampNeg) x) (6 * i.toNatClampNeg + 1) y) (6 * i.toNatClampNeg + 2) z) (6 * i.toNatClampNeg + 3) q, gs, so, sd, sa, sq, cn, ry)) (F : ¬ (((0 : Int32) ≤ i ∧ i ≤ 23) ∧ ((0 : Int32) ≤ x ∧ x ≤ 255) ∧ ((0 : Int32) ≤ y ∧ y ≤ 255) ∧ ((0 : Int32) ≤ z ∧ z ≤ 255) ∧ ((0 : Int32) ≤ q ∧ q ≤ 255)) → post 0 (LE, TO, WI, HI, NS, ke_f KE 2, VA, VB, VC, LA, ZZ, re, gr, bl, de, sn, tx, pl, vv, gs, so, sd, sa, sq, cn, ry)) : wpY_paint post (LE, TO, WI, HI, NS, KE, VA, VB, VC, LA, ZZ, re, gr, bl, de, sn, tx, pl, vv, gs, so, sd, sa, sq, cn, ry) i x y z q := by
  have G : ¬ (((0 : Int32) ≤ i ∧ i ≤ 23) ∧ ((0 : Int32) ≤ x ∧ x ≤ 255) ∧ ((0 : Int32) ≤ y ∧ y ≤ 255) ∧ ((0 : Int32) ≤ z ∧ z ≤ 255) ∧ ((0 : Int32) ≤ q ∧ q ≤ 255)) → wY_paint_56 post LE TO WI HI NS KE VA VB VC LA ZZ re gr bl de sn tx pl vv gs so sd sa sq cn ry := fun n => by
    unfold wY_paint_56
    exact my_fails ⟨rfl, F n⟩
  unfold wpY_paint
  refine my_in (fun a => br_f n10 ?_) (fun a => br_t rfl (G (fun z => a z.1)))
  refine my_in (fun b => br_f n10 ?_) (fun b => br_t rfl (G (fun z => b z.2.1)))
  refine my_in (fun c => br_f n10 ?_) (fun c => br_t rfl (G (fun z => c z.2.2.1)))
  refine my_in (fun d => br_f n10 ?_) (fun d => br_t rfl (G (fun z => d z.2.2.2.1)))
  refine my_in (fun e => br_f n10 ?_) (fun e => br_t rfl (G (fun z => e z.2.2.2.2)))
  have t := T ⟨a, b, c, d, e⟩
  obtain ⟨I, hI, rfl⟩ := ic_of 23 (by decide) a.1 a.2
  rw [nI_clamp (by omega)] at t
  obtain ⟨v1, c1⟩ := ix_p (x := 6 * nI I) 144 (pk_mul 6 I) (by omega) (by decide)
  obtain ⟨v2, c2⟩ := ix_p (x := 6 * nI I + 1) 144 (ix_a (pk_mul 6 I) 1 rfl) (by omega) (by decide)
  obtain ⟨v3, c3⟩ := ix_p (x := 6 * nI I + 2) 144 (ix_a (pk_mul 6 I) 2 rfl) (by omega) (by decide)
  obtain ⟨v4, c4⟩ := ix_p (x := 6 * nI I + 3) 144 (ix_a (pk_mul 6 I) 3 rfl) (by omega) (by decide)
  refine ⟨v1, nm_r (e' := upd vv (6 * I) x) (by rw [c1]) ⟨v2, nm_r (e' := upd (upd vv (6 * I) x) (6 * I + 1) y) (by rw [c2]) ⟨v3, nm_r (e' := upd (upd (upd vv (6 * I) x) (6 * I + 1) y) (6 * I + 2) z) (by rw [c3]) ⟨v4, ?_⟩⟩⟩⟩
  exact nm_r (by rw [c4]) t
theorem mx_coords {post : Int32 → SX → Prop} {i x y : Int32} (T : ((0 : Int32) ≤ i ∧ i ≤ 23) ∧ ((-1000 : Int32) ≤ x ∧ x ≤ 1000) ∧ ((-1000 : Int32) ≤ y ∧ y ≤ 1000) → post 1 (NS, SL, ST, SR, SB, KE, CA, CB, CC, FL, WA, WB, WC, co, de, sn, tx, vx, vy, vz, vq, upd (upd vv (6 * i.toNatClampNeg + 4) x) (6 * i.toNatClampNeg + 5) y, gs, cn, so, sd, sa, sq, rx)) (F : ¬ (((0 : Int32) ≤ i ∧ i ≤ 23) ∧ ((-1000 : Int32) ≤ x ∧ x ≤ 1000) ∧ ((-1000 : Int32) ≤ y ∧ y ≤ 1000)) → post 0 (NS, SL, ST, SR, SB, ke_f KE 2, CA, CB, CC, FL, WA, WB, WC, co, de, sn, tx, vx, vy, vz, vq, vv, gs, cn, so, sd, sa, sq, rx)) : wpX_coords post (NS, SL, ST, SR, SB, KE, CA, CB, CC, FL, WA, WB, WC, co, de, sn, tx, vx, vy, vz, vq, vv, gs, cn, so, sd, sa, sq, rx) i x y := by
  have G : ¬ (((0 : Int32) ≤ i ∧ i ≤ 23) ∧ ((-1000 : Int32) ≤ x ∧ x ≤ 1000) ∧ ((-1000 : Int32) ≤ y ∧ y ≤ 1000)) → wX_coords_33 post NS SL ST SR SB KE CA CB CC FL WA WB WC co de sn tx vx vy vz vq vv gs cn so sd sa sq rx := fun n => by
    unfold wX_coords_33
    exact mx_refuse ⟨rfl, F n⟩
  unfold wpX_coords
  refine mx_isV (fun a => br_f n10 ?_) (fun a => br_t rfl (G (fun z => a z.1)))
  refine mx_btw (fun b => br_f n10 ?_) (fun b => br_t rfl (G (fun z => b z.2.1)))
  refine mx_btw (fun c => br_f n10 ?_) (fun c => br_t rfl (G (fun z => c z.2.2)))
  have t := T ⟨a, b, c⟩
  obtain ⟨I, hI, rfl⟩ := ic_of 23 (by decide) a.1 a.2
  rw [nI_clamp (by omega)] at t
  have e6 : nI I * 6 = nI (6 * I) := (pk_mul I 6).trans (congrArg nI (Nat.mul_comm I 6))
  obtain ⟨v2, c2⟩ := ix_p (x := nI (6 * I) + 4) 144 (nI_add (6 * I) 4) (by omega) (by decide)
  obtain ⟨v3, c3⟩ := ix_p (x := nI (6 * I) + 5) 144 (nI_add (6 * I) 5) (by omega) (by decide)
  refine nm_r e6 ⟨v2, nm_r (e' := upd vv (6 * I + 4) x) (by rw [c2]) ⟨v3, ?_⟩⟩
  exact nm_r (by rw [c3]) t
theorem my_coords {post : Int32 → SY → Prop} {i x y : Int32} (T : ((0 : Int32) ≤ i ∧ i ≤ 23) ∧ ((-1000 : Int32) ≤ x ∧ x ≤ 1000) ∧ ((-1000 : Int32) ≤ y ∧ y ≤ 1000) → post 1 (LE, TO, WI, HI, NS, KE, VA, VB, VC, LA, ZZ, re, gr, bl, de, sn, tx, pl, upd (upd vv (6 * i.toNatClampNeg + 4) x) (6 * i.toNatClampNeg + 5) y, gs, so, sd, sa, sq, cn, ry)) (F : ¬ (((0 : Int32) ≤ i ∧ i ≤ 23) ∧ ((-1000 : Int32) ≤ x ∧ x ≤ 1000) ∧ ((-1000 : Int32) ≤ y ∧ y ≤ 1000)) → post 0 (LE, TO, WI, HI, NS, ke_f KE 2, VA, VB, VC, LA, ZZ, re, gr, bl, de, sn, tx, pl, vv, gs, so, sd, sa, sq, cn, ry)) : wpY_coords post (LE, TO, WI, HI, NS, KE, VA, VB, VC, LA, ZZ, re, gr, bl, de, sn, tx, pl, vv, gs, so, sd, sa, sq, cn, ry) i x y := by
  have G : ¬ (((0 : Int32) ≤ i ∧ i ≤ 23) ∧ ((-1000 : Int32) ≤ x ∧ x ≤ 1000) ∧ ((-1000 : Int32) ≤ y ∧ y ≤ 1000)) → wY_coords_36 post LE TO WI HI NS KE VA VB VC LA ZZ re gr bl de sn tx pl vv gs so sd sa sq cn ry := fun n => by
    unfold wY_coords_36
    exact my_fails ⟨rfl, F n⟩
  unfold wpY_coords
  refine my_in (fun a => br_f n10 ?_) (fun a => br_t rfl (G (fun z => a z.1)))
  refine my_in (fun b => br_f n10 ?_) (fun b => br_t rfl (G (fun z => b z.2.1)))
  refine my_in (fun c => br_f n10 ?_) (fun c => br_t rfl (G (fun z => c z.2.2)))
  have t := T ⟨a, b, c⟩
  obtain ⟨I, hI, rfl⟩ := ic_of 23 (by decide) a.1 a.2
  rw [nI_clamp (by omega)] at t
  obtain ⟨v2, c2⟩ := ix_p (x := 6 * nI I + 4) 144 (ix_a (pk_mul 6 I) 4 rfl) (by omega) (by decide)
  obtain ⟨v3, c3⟩ := ix_p (x := 6 * nI I + 5) 144 (ix_a (pk_mul 6 I) 5 rfl) (by omega) (by decide)
  refine ⟨v2, nm_r (e' := upd vv (6 * I + 4) x) (by rw [c2]) ⟨v3, ?_⟩⟩
  exact nm_r (by rw [c3]) t
theorem mx_texel {post : Int32 → SX → Prop} {x y z : Int32} (T : ((0 : Int32) ≤ x ∧ x ≤ 7) ∧ ((0 : Int32) ≤ y ∧ y ≤ 7) ∧ ((0 : Int32) ≤ z ∧ z ≤ 16777215) → post 1 (NS, SL, ST, SR, SB, KE, CA, CB, CC, FL, WA, WB, WC, co, de, sn, upd tx (8 * y.toNatClampNeg + x.toNatClampNeg) z, vx, vy, vz, vq, vv, gs, cn, so, sd, sa, sq, rx)) (F : ¬ (((0 : Int32) ≤ x ∧ x ≤ 7) ∧ ((0 : Int32) ≤ y ∧ y ≤ 7) ∧ ((0 : Int32) ≤ z ∧ z ≤ 16777215)) → post 0 (NS, SL, ST, SR, SB, ke_f KE 2, CA, CB, CC, FL, WA, WB, WC, co, de, sn, tx, vx, vy, vz, vq, vv, gs, cn, so, sd, sa, sq, rx)) : wpX_texel post (NS, SL, ST, SR, SB, KE, CA, CB, CC, FL, WA, WB, WC, co, de, sn, tx, vx, vy, vz, vq, vv, gs, cn, so, sd, sa, sq, rx) x y z := by
  have G : ¬ (((0 : Int32) ≤ x ∧ x ≤ 7) ∧ ((0 : Int32) ≤ y ∧ y ≤ 7) ∧ ((0 : Int32) ≤ z ∧ z ≤ 16777215)) → wX_texel_30 post NS SL ST SR SB KE CA CB CC FL WA WB WC co de sn tx vx vy vz vq vv gs cn so sd sa sq rx := fun n => by
    unfold wX_texel_30
    exact mx_refuse ⟨rfl, F n⟩
  unfold wpX_texel
  refine mx_btw (fun a => br_f n10 ?_) (fun a => br_t rfl (G (fun z => a z.1)))
  refine mx_btw (fun b => br_f n10 ?_) (fun b => br_t rfl (G (fun z => b z.2.1)))
  refine mx_btw (fun c => br_f n10 ?_) (fun c => br_t rfl (G (fun z => c z.2.2)))
  have t := T ⟨a, b, c⟩
  obtain ⟨I, hI, rfl⟩ := ic_of 7 (by decide) a.1 a.2
  obtain ⟨J, hJ, rfl⟩ := ic_of 7 (by decide) b.1 b.2
  rw [nI_clamp (by omega), nI_clamp (by omega)] at t
  obtain ⟨v2, c2⟩ := ix_p (x := nI J * 8 + nI I) (n := 8 * J + I) 64 ((ix_a (pk_mul J 8) I rfl).trans (congrArg nI (by omega))) (by omega) (by decide)
  exact ⟨v2, nm_r (by rw [c2]) t⟩
theorem my_texel {post : Int32 → SY → Prop} {x y z : Int32} (T : ((0 : Int32) ≤ x ∧ x ≤ 7) ∧ ((0 : Int32) ≤ y ∧ y ≤ 7) ∧ ((0 : Int32) ≤ z ∧ z ≤ 16777215) → post 1 (LE, TO, WI, HI, NS, KE, VA, VB, VC, LA, ZZ, re, gr, bl, de, sn, upd tx (8 * y.toNatClampNeg + x.toNatClampNeg) z, pl, vv, gs, so, sd, sa, sq, cn, ry)) (F : ¬ (((0 : Int32) ≤ x ∧ x ≤ 7) ∧ ((0 : Int32) ≤ y ∧ y ≤ 7) ∧ ((0 : Int32) ≤ z ∧ z ≤ 16777215)) → post 0 (LE, TO, WI, HI, NS, ke_f KE 2, VA, VB, VC, LA, ZZ, re, gr, bl, de, sn, tx, pl, vv, gs, so, sd, sa, sq, cn, ry)) : wpY_texel post (LE, TO, WI, HI, NS, KE, VA, VB, VC, LA, ZZ, re, gr, bl, de, sn, tx, pl, vv, gs, so, sd, sa, sq, cn, ry) x y z := by
  have G : ¬ (((0 : Int32) ≤ x ∧ x ≤ 7) ∧ ((0 : Int32) ≤ y ∧ y ≤ 7) ∧ ((0 : Int32) ≤ z ∧ z ≤ 16777215)) → wY_texel_30 post LE TO WI HI NS KE VA VB VC LA ZZ re gr bl de sn tx pl vv gs so sd sa sq cn ry := fun n => by
    unfold wY_texel_30
    exact my_fails ⟨rfl, F n⟩
  unfold wpY_texel
  refine my_in (fun a => br_f n10 ?_) (fun a => br_t rfl (G (fun z => a z.1)))
  refine my_in (fun b => br_f n10 ?_) (fun b => br_t rfl (G (fun z => b z.2.1)))
  refine my_in (fun c => br_f n10 ?_) (fun c => br_t rfl (G (fun z => c z.2.2)))
  have t := T ⟨a, b, c⟩
  obtain ⟨I, hI, rfl⟩ := ic_of 7 (by decide) a.1 a.2
  obtain ⟨J, hJ, rfl⟩ := ic_of 7 (by decide) b.1 b.2
  rw [nI_clamp (by omega), nI_clamp (by omega)] at t
  obtain ⟨v2, c2⟩ := ix_p (x := 8 * nI J + nI I) (n := 8 * J + I) 64 (ix_a (pk_mul 8 J) I rfl) (by omega) (by decide)
  exact ⟨v2, nm_r (by rw [c2]) t⟩
end CLS
theorem i_vc_vertex {k : Nat} {u : SX} {v : SY} (I : i_Rel k u v) (hk : k + 6 ≤ 3072) (v1 : Int32) (v2 : Int32) (v3 : Int32) (v4 : Int32) (v5 : Int32) : wpX_vertex (fun r u' => wpY_vertex (fun r' v' => r' = r ∧ i_Rel (k + 6) u' v') v v1 v2 v3 v4 v5) u v1 v2 v3 v4 v5 := by
  obtain ⟨ns, sl, st, sw, sh, KE, CA, CB, CC, FL, WA, WB, WC, VA, VB, VC, LA, ZZ, co, de, sn, tx, vx, vy, vz, vq, vv, gs, cn, so, sd, sa, sq, rx, re, gr, bl, pl, ry, rfl, rfl, R⟩ := I
  refine mx_vertex (fun C => my_vertex (fun _ => ⟨rfl, rel_mk ?_⟩) (fun n => absurd C n)) (fun n => my_vertex (fun C => absurd C n) (fun _ => ⟨rfl, rel_mk R⟩))
  exact ⟨R.1, R.2.1, R.2.2.1, ri_verU R.2.2.2.1 (ic_abs (by decide) (by decide) C.2.1.1 C.2.1.2) (ic_abs (by decide) (by decide) C.2.2.1.1 C.2.2.1.2) (ic_toInt (by decide) (by decide) C.2.2.2.1.1 C.2.2.2.1.2) (ic_toInt (by decide) (by decide) C.2.2.2.2.1 C.2.2.2.2.2), R.2.2.2.2⟩
theorem i_vc_paint {k : Nat} {u : SX} {v : SY} (I : i_Rel k u v) (hk : k + 6 ≤ 3072) (v1 : Int32) (v2 : Int32) (v3 : Int32) (v4 : Int32) (v5 : Int32) : wpX_paint (fun r u' => wpY_paint (fun r' v' => r' = r ∧ i_Rel (k + 6) u' v') v v1 v2 v3 v4 v5) u v1 v2 v3 v4 v5 := by
  obtain ⟨ns, sl, st, sw, sh, KE, CA, CB, CC, FL, WA, WB, WC, VA, VB, VC, LA, ZZ, co, de, sn, tx, vx, vy, vz, vq, vv, gs, cn, so, sd, sa, sq, rx, re, gr, bl, pl, ry, rfl, rfl, R⟩ := I
  exact mx_paint (fun C => my_paint (fun _ => ⟨rfl, rel_mk R⟩) (fun n => absurd C n)) (fun n => my_paint (fun C => absurd C n) (fun _ => ⟨rfl, rel_mk R⟩))
theorem i_vc_coords {k : Nat} {u : SX} {v : SY} (I : i_Rel k u v) (hk : k + 6 ≤ 3072) (v1 : Int32) (v2 : Int32) (v3 : Int32) : wpX_coords (fun r u' => wpY_coords (fun r' v' => r' = r ∧ i_Rel (k + 6) u' v') v v1 v2 v3) u v1 v2 v3 := by
  obtain ⟨ns, sl, st, sw, sh, KE, CA, CB, CC, FL, WA, WB, WC, VA, VB, VC, LA, ZZ, co, de, sn, tx, vx, vy, vz, vq, vv, gs, cn, so, sd, sa, sq, rx, re, gr, bl, pl, ry, rfl, rfl, R⟩ := I
  exact mx_coords (fun C => my_coords (fun _ => ⟨rfl, rel_mk R⟩) (fun n => absurd C n)) (fun n => my_coords (fun C => absurd C n) (fun _ => ⟨rfl, rel_mk R⟩))
theorem i_vc_texel {k : Nat} {u : SX} {v : SY} (I : i_Rel k u v) (hk : k + 6 ≤ 3072) (v1 : Int32) (v2 : Int32) (v3 : Int32) : wpX_texel (fun r u' => wpY_texel (fun r' v' => r' = r ∧ i_Rel (k + 6) u' v') v v1 v2 v3) u v1 v2 v3 := by
  obtain ⟨ns, sl, st, sw, sh, KE, CA, CB, CC, FL, WA, WB, WC, VA, VB, VC, LA, ZZ, co, de, sn, tx, vx, vy, vz, vq, vv, gs, cn, so, sd, sa, sq, rx, re, gr, bl, pl, ry, rfl, rfl, R⟩ := I
  refine mx_texel (fun C => my_texel (fun _ => ⟨rfl, rel_mk ?_⟩) (fun n => absurd C n)) (fun n => my_texel (fun C => absurd C n) (fun _ => ⟨rfl, rel_mk R⟩))
  obtain ⟨c, hc, e⟩ := ic_of 16777215 (by decide) C.2.2.1 C.2.2.2
  rw [e]
  exact ⟨R.1, R.2.1, ri_texU R.2.2.1 (by omega), R.2.2.2⟩
