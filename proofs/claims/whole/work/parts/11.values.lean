/-! the values of a pixel between the corners, on both sides -/
def tv_s (qa qb qc : Int64) (vv : Nat → Int32) (a b c n : Nat) : Int64 := qa * (vv (6 * a + n)).toInt64 + qb * (vv (6 * b + n)).toInt64 + qc * (vv (6 * c + n)).toInt64
def tv_v (gs vv : Nat → Int32) (qa qb qc : Int64) (a b c fl n : Nat) : Int32 := if gs 11 = 1 ∧ n < 4 then vv (6 * fl + n) else fd_g (tv_s qa qb qc vv a b c n) (qa + qb + qc)
theorem tv_x6 (i j : Nat) : nI i * 6 + nI j = nI (6 * i + j) := (ix_a (pk_mul i 6) j rfl).trans (congrArg nI (by omega))
theorem tv_y6 (i j : Nat) : 6 * nI i + nI j = nI (6 * i + j) := ix_a (pk_mul 6 i) j rfl
section VAL
variable {NS SL ST SR SB KE CA CB CC FL WA WB WC : Int32} {co de sn tx vx vy vz vq vv gs cn so sd sa sq rx : Nat → Int32}
variable {LE TO WI HI VA VB VC LA ZZ : Int32} {re gr bl pl ry : Nat → Int32}
theorem mx_lvl {i m : Nat} (hi : i < 24) (hm : m ≤ 6) : ∀ (k j : Nat) (rx : Nat → Int32), j + k = m → ∃ r' : Nat → Int32, (∀ n, r' n = if j ≤ n ∧ n < m then vv (6 * i + n) else rx n) ∧ ∀ (post : SX → Prop) (n : Nat), k < n → post (NS, SL, ST, SR, SB, KE, CA, CB, CC, FL, WA, WB, WC, co, de, sn, tx, vx, vy, vz, vq, vv, gs, cn, so, sd, sa, sq, r') → wX_loadVertexValues_2 post (nI i) (nI m) NS SL ST SR SB KE CA CB CC FL WA WB WC n (nI j) co de sn tx vx vy vz vq vv gs cn so sd sa sq rx := by
  intro k
  induction k with
  | zero =>
    intro j rx hj
    refine ⟨rx, fun n => (if_neg (by omega)).symm, fun post n hn h => ?_⟩
    obtain ⟨n, rfl⟩ : ∃ m, n = m + 1 := ⟨n - 1, by omega⟩
    rw [wX_loadVertexValues_2]
    exact br_t (nI_le (by omega) (by omega)) h
  | succ k ih =>
    intro j rx hj
    obtain ⟨v1, c1⟩ := ix_p 144 (tv_x6 i j) (by omega) (by decide)
    obtain ⟨v2, c2⟩ := ix_p (x := nI j) 8 rfl (by omega) (by decide)
    obtain ⟨r', hr, H⟩ := ih (j + 1) (upd rx j (vv (6 * i + j))) (by omega)
    refine ⟨r', fun n => ?_, fun post n hn h => ?_⟩
    · rw [hr n]
      by_cases e : n = j
      · subst e
        rw [if_neg (by omega), pk_us, if_pos (by omega)]
      · rw [pk_un e]
        by_cases g : j + 1 ≤ n ∧ n < m
        · rw [if_pos g, if_pos (by omega)]
        · rw [if_neg g, if_neg (by omega)]
    · obtain ⟨n, rfl⟩ : ∃ m, n = m + 1 := ⟨n - 1, by omega⟩
      rw [wX_loadVertexValues_2]
      exact br_f (nI_ge (by omega) (by omega)) ⟨v1, v2, nm_r (e' := upd rx j (vv (6 * i + j))) (by rw [c1, c2]) (nm_r (nI_1 j) (H post n (by omega) h))⟩
theorem mx_lvv {i m : Nat} (hi : i < 24) (hm : m ≤ 6) (rx : Nat → Int32) : ∃ r' : Nat → Int32, (∀ n, r' n = if n < m then vv (6 * i + n) else rx n) ∧ ∀ (post : SX → Prop), post (NS, SL, ST, SR, SB, KE, CA, CB, CC, FL, WA, WB, WC, co, de, sn, tx, vx, vy, vz, vq, vv, gs, cn, so, sd, sa, sq, r') → wpX_loadVertexValues post (NS, SL, ST, SR, SB, KE, CA, CB, CC, FL, WA, WB, WC, co, de, sn, tx, vx, vy, vz, vq, vv, gs, cn, so, sd, sa, sq, rx) (nI i) (nI m) := by
  obtain ⟨r', hr, H⟩ := mx_lvl (NS := NS) (SL := SL) (ST := ST) (SR := SR) (SB := SB) (KE := KE) (CA := CA) (CB := CB) (CC := CC) (FL := FL) (WA := WA) (WB := WB) (WC := WC) (co := co) (de := de) (sn := sn) (tx := tx) (vx := vx) (vy := vy) (vz := vz) (vq := vq) (vv := vv) (gs := gs) (cn := cn) (so := so) (sd := sd) (sa := sa) (sq := sq) hi hm m 0 rx (by omega)
  refine ⟨r', fun n => ?_, fun post h => ⟨m + 1, H post (m + 1) (by omega) h⟩⟩
  rw [hr n]
  by_cases g : n < m
  · rw [if_pos g, if_pos (by omega)]
  · rw [if_neg g, if_neg (by omega)]
theorem mx_ltl {a b c : Nat} {qa qb qc S : Int64} (ha : a < 24) (hb : b < 24) (hc : c < 24) (hS : 0 < S) : ∀ (k j : Nat) (rx : Nat → Int32), j + k = 6 → ∃ r' : Nat → Int32, (∀ n, r' n = if j ≤ n ∧ n < 6 then fd_g (tv_s qa qb qc vv a b c n) S else rx n)
    ∧ ∀ (post : SX → Prop) (n : Nat), k < n → ((gs 11 = 1 → wpX_loadVertexValues (fun u => match u with | (NS, SL, ST, SR, SB, KE, CA, CB, CC, FL, WA, WB, WC, co, de, sn, tx, vx, vy, vz, vq, vv, gs, cn, so, sd, sa, sq, rx) => post (NS, SL, ST, SR, SB, KE, CA, CB, CC, FL, WA, WB, WC, co, de, sn, tx, vx, vy, vz, vq, vv, gs, cn, so, sd, sa, sq, rx)) (NS, SL, ST, SR, SB, KE, nI a, nI b, nI c, FL, WA, WB, WC, co, de, sn, tx, vx, vy, vz, vq, vv, gs, cn, so, sd, sa, sq, r') FL 4) ∧ (¬ gs 11 = 1 → post (NS, SL, ST, SR, SB, KE, nI a, nI b, nI c, FL, WA, WB, WC, co, de, sn, tx, vx, vy, vz, vq, vv, gs, cn, so, sd, sa, sq, r'))) → wX_loadTriangleValues_63 post qa qb qc S NS SL ST SR SB KE (nI a) (nI b) (nI c) FL WA WB WC n (nI j) co de sn tx vx vy vz vq vv gs cn so sd sa sq rx := by
  intro k
  induction k with
  | zero =>
    intro j rx hj
    refine ⟨rx, fun n => (if_neg (by omega)).symm, fun post n hn h => ?_⟩
    obtain ⟨n, rfl⟩ : ∃ m, n = m + 1 := ⟨n - 1, by omega⟩
    rw [wX_loadTriangleValues_63]
    exact br_t (nI_le (a := 6) (by omega) (by omega)) h
  | succ k ih =>
    intro j rx hj
    obtain ⟨v1, c1⟩ := ix_p 144 (tv_x6 a j) (by omega) (by decide)
    obtain ⟨v2, c2⟩ := ix_p 144 (tv_x6 b j) (by omega) (by decide)
    obtain ⟨v3, c3⟩ := ix_p 144 (tv_x6 c j) (by omega) (by decide)
    obtain ⟨v4, c4⟩ := ix_p (x := nI j) 8 rfl (by omega) (by decide)
    obtain ⟨r', hr, H⟩ := ih (j + 1) (upd rx j (fd_g (tv_s qa qb qc vv a b c j) S)) (by omega)
    refine ⟨r', fun n => ?_, fun post n hn h => ?_⟩
    · rw [hr n]
      by_cases e : n = j
      · subst e
        rw [if_neg (by omega), pk_us, if_pos (by omega)]
      · rw [pk_un e]
        by_cases g : j + 1 ≤ n ∧ n < 6
        · rw [if_pos g, if_pos (by omega)]
        · rw [if_neg g, if_neg (by omega)]
    · obtain ⟨n, rfl⟩ : ∃ m, n = m + 1 := ⟨n - 1, by omega⟩
      rw [wX_loadTriangleValues_63]
      refine br_f (nI_ge (b := 6) (by omega) (by omega)) ⟨v1, v2, v3, nm_r (e' := tv_s qa qb qc vv a b c j) (by rw [c1, c2, c3]; rfl) ?_⟩
      refine mx_div hS ?_
      exact ⟨v4, nm_r (e' := upd rx j (fd_g (tv_s qa qb qc vv a b c j) S)) (by rw [c4]) (nm_r (nI_1 j) (H post n (by omega) h))⟩
theorem mx_load {a b c fl : Nat} (ha : a < 24) (hb : b < 24) (hc : c < 24) (hf : fl < 24) (hS : 0 < WA.toInt64 * (vq a).toInt64 + WB.toInt64 * (vq b).toInt64 + WC.toInt64 * (vq c).toInt64) (rx : Nat → Int32) : ∃ r' : Nat → Int32, (∀ n, n < 6 → r' n = tv_v gs vv (WA.toInt64 * (vq a).toInt64) (WB.toInt64 * (vq b).toInt64) (WC.toInt64 * (vq c).toInt64) a b c fl n)
    ∧ ∀ (post : SX → Prop), post (NS, SL, ST, SR, SB, KE, nI a, nI b, nI c, nI fl, WA, WB, WC, co, de, sn, tx, vx, vy, vz, vq, vv, gs, cn, so, sd, sa, sq, r') → wpX_loadTriangleValues post (NS, SL, ST, SR, SB, KE, nI a, nI b, nI c, nI fl, WA, WB, WC, co, de, sn, tx, vx, vy, vz, vq, vv, gs, cn, so, sd, sa, sq, rx) := by
  have va : vp_in (nI a) 24 := vp_in_nI ha (by decide)
  have vb : vp_in (nI b) 24 := vp_in_nI hb (by decide)
  have vc : vp_in (nI c) 24 := vp_in_nI hc (by decide)
  have c1 : (nI a).toNatClampNeg = a := nI_clamp (by omega)
  have c2 : (nI b).toNatClampNeg = b := nI_clamp (by omega)
  have c3 : (nI c).toNatClampNeg = c := nI_clamp (by omega)
  obtain ⟨r1, h1, H1⟩ := mx_ltl (NS := NS) (SL := SL) (ST := ST) (SR := SR) (SB := SB) (KE := KE) (FL := nI fl) (WA := WA) (WB := WB) (WC := WC) (co := co) (de := de) (sn := sn) (tx := tx) (vx := vx) (vy := vy) (vz := vz) (vq := vq) (vv := vv) (gs := gs) (cn := cn) (so := so) (sd := sd) (sa := sa) (sq := sq) (qa := WA.toInt64 * (vq a).toInt64) (qb := WB.toInt64 * (vq b).toInt64) (qc := WC.toInt64 * (vq c).toInt64) ha hb hc hS 6 0 rx rfl
  by_cases f : gs 11 = 1
  · obtain ⟨r2, h2, H2⟩ := mx_lvv (NS := NS) (SL := SL) (ST := ST) (SR := SR) (SB := SB) (KE := KE) (CA := nI a) (CB := nI b) (CC := nI c) (FL := nI fl) (WA := WA) (WB := WB) (WC := WC) (co := co) (de := de) (sn := sn) (tx := tx) (vx := vx) (vy := vy) (vz := vz) (vq := vq) (vv := vv) (gs := gs) (cn := cn) (so := so) (sd := sd) (sa := sa) (sq := sq) (i := fl) (m := 4) hf (by decide) r1
    refine ⟨r2, fun n hn => ?_, fun post h => ?_⟩
    · rw [h2 n]
      unfold tv_v
      by_cases g : n < 4
      · rw [if_pos g, if_pos ⟨f, g⟩]
      · rw [if_neg g, if_neg (fun z => g z.2), h1 n, if_pos ⟨by omega, hn⟩]
    · exact ⟨va, nm_r (e' := WA.toInt64 * (vq a).toInt64) (by rw [c1]) ⟨vb, nm_r (e' := WB.toInt64 * (vq b).toInt64) (by rw [c2]) ⟨vc, nm_r (e' := WC.toInt64 * (vq c).toInt64) (by rw [c3]) (nm_e ⟨7, H1 post 7 (by decide) ⟨fun _ => H2 _ h, fun z => absurd f z⟩⟩)⟩⟩⟩
  · refine ⟨r1, fun n hn => ?_, fun post h => ?_⟩
    · unfold tv_v
      rw [if_neg (fun z => f z.1), h1 n, if_pos ⟨by omega, hn⟩]
    · exact ⟨va, nm_r (e' := WA.toInt64 * (vq a).toInt64) (by rw [c1]) ⟨vb, nm_r (e' := WB.toInt64 * (vq b).toInt64) (by rw [c2]) ⟨vc, nm_r (e' := WC.toInt64 * (vq c).toInt64) (by rw [c3]) (nm_e ⟨7, H1 post 7 (by decide) ⟨fun z => absurd z f, fun _ => h⟩⟩)⟩⟩⟩
theorem mx_depth {post : Int32 → Prop} {a b c : Nat} (ha : a < 24) (hb : b < 24) (hc : c < 24) (hW : 0 < WA.toInt64 + WB.toInt64 + WC.toInt64) (h : post (fd_g (WA.toInt64 * (vz a).toInt64 + WB.toInt64 * (vz b).toInt64 + WC.toInt64 * (vz c).toInt64) (WA.toInt64 + WB.toInt64 + WC.toInt64))) : wpX_triangleDepth post (NS, SL, ST, SR, SB, KE, nI a, nI b, nI c, FL, WA, WB, WC, co, de, sn, tx, vx, vy, vz, vq, vv, gs, cn, so, sd, sa, sq, rx) := by
  have va : vp_in (nI a) 24 := vp_in_nI ha (by decide)
  have vb : vp_in (nI b) 24 := vp_in_nI hb (by decide)
  have vc : vp_in (nI c) 24 := vp_in_nI hc (by decide)
  have c1 : (nI a).toNatClampNeg = a := nI_clamp (by omega)
  have c2 : (nI b).toNatClampNeg = b := nI_clamp (by omega)
  have c3 : (nI c).toNatClampNeg = c := nI_clamp (by omega)
  refine ⟨va, vb, vc, nm_r (e' := WA.toInt64 * (vz a).toInt64 + WB.toInt64 * (vz b).toInt64 + WC.toInt64 * (vz c).toInt64) (by rw [c1, c2, c3]) ?_⟩
  exact mx_div hW h
theorem my_ltl {a b c fl : Nat} {qa qb qc : Int64} (ha : a < 24) (hb : b < 24) (hc : c < 24) (hf : fl < 24) (hS : 0 < qa + qb + qc) : ∀ (k j : Nat) (ry : Nat → Int32), j + k = 6 → ∃ r' : Nat → Int32, (∀ n, r' n = if j ≤ n ∧ n < 6 then tv_v gs vv qa qb qc a b c fl n else ry n)
    ∧ ∀ (post : SY → Prop) (x y : Int32) (n : Nat), k < n → wpY_work (fun u => match u with | (LE, TO, WI, HI, NS, KE, VA, VB, VC, LA, ZZ, re, gr, bl, de, sn, tx, pl, vv, gs, so, sd, sa, sq, cn, ry) => post (LE, TO, WI, HI, NS, KE, VA, VB, VC, LA, ZZ, re, gr, bl, de, sn, tx, pl, vv, gs, so, sd, sa, sq, cn, ry)) (LE, TO, WI, HI, NS, KE, nI a, nI b, nI c, nI fl, ZZ, re, gr, bl, de, sn, tx, pl, vv, gs, so, sd, sa, sq, cn, r') x y → wY_look_282 post x y qa qb qc LE TO WI HI NS KE (nI a) (nI b) (nI c) (nI fl) ZZ n (nI j) re gr bl de sn tx pl vv gs so sd sa sq cn ry := by
  have ne : ¬ qa + qb + qc = 0 := fun z => by rw [z] at hS; exact absurd hS (by decide)
  intro k
  induction k with
  | zero =>
    intro j ry hj
    refine ⟨ry, fun n => (if_neg (by omega)).symm, fun post x y n hn h => ?_⟩
    obtain ⟨n, rfl⟩ : ∃ m, n = m + 1 := ⟨n - 1, by omega⟩
    rw [wY_look_282]
    exact br_t (nI_le (a := 6) (by omega) (by omega)) h
  | succ k ih =>
    intro j ry hj
    obtain ⟨v1, c1⟩ := ix_p 144 (tv_y6 a j) (by omega) (by decide)
    obtain ⟨v2, c2⟩ := ix_p 144 (tv_y6 b j) (by omega) (by decide)
    obtain ⟨v3, c3⟩ := ix_p 144 (tv_y6 c j) (by omega) (by decide)
    obtain ⟨v5, c5⟩ := ix_p 144 (tv_y6 fl j) (by omega) (by decide)
    obtain ⟨v4, c4⟩ := ix_p (x := nI j) 8 rfl (by omega) (by decide)
    obtain ⟨r', hr, H⟩ := ih (j + 1) (upd ry j (tv_v gs vv qa qb qc a b c fl j)) (by omega)
    refine ⟨r', fun n => ?_, fun post x y n hn h => ?_⟩
    · rw [hr n]
      by_cases e : n = j
      · subst e
        rw [if_neg (by omega), pk_us, if_pos (by omega)]
      · rw [pk_un e]
        by_cases g : j + 1 ≤ n ∧ n < 6
        · rw [if_pos g, if_pos (by omega)]
        · rw [if_neg g, if_neg (by omega)]
    · obtain ⟨n, rfl⟩ : ∃ m, n = m + 1 := ⟨n - 1, by omega⟩
      have K := H post x y n (by omega) h
      have hv : ∀ w : Int64, (¬ (gs 11 = 1 ∧ j < 4) → tv_v gs vv qa qb qc a b c fl j = w.toInt32) → wY_look_383 post (wY_look_282 post x y qa qb qc LE TO WI HI NS KE (nI a) (nI b) (nI c) (nI fl) ZZ n) x y qa qb qc (nI j) w LE TO WI HI NS KE (nI a) (nI b) (nI c) (nI fl) ZZ re gr bl de sn tx pl vv gs so sd sa sq cn ry := by
        intro w hw
        refine br_c (fun f => br_c (fun g => ⟨v4, nm_r (e' := upd ry j (tv_v gs vv qa qb qc a b c fl j)) ?_ (nm_r (nI_1 j) K)⟩) (fun g => ⟨v5, v4, nm_r (e' := upd ry j (tv_v gs vv qa qb qc a b c fl j)) ?_ (nm_r (nI_1 j) K)⟩)) (fun f => ⟨v4, nm_r (e' := upd ry j (tv_v gs vv qa qb qc a b c fl j)) ?_ (nm_r (nI_1 j) K)⟩)
        · have g' : ¬ j < 4 := fun z => nI_ge (b := 4) z (by decide) g
          rw [c4, hw (fun z => g' z.2)]
        · have g' : j < 4 := by
            rcases Nat.lt_or_ge j 4 with z | z
            · exact z
            · exact absurd (nI_le (a := 4) z (by omega)) g
          rw [c4, c5]
          unfold tv_v
          rw [if_pos ⟨f, g'⟩]
        · rw [c4, hw (fun z => f z.1)]
      rw [wY_look_282]
      refine br_f (nI_ge (b := 6) (by omega) (by omega)) ⟨v1, v2, v3, nm_r (e' := tv_s qa qb qc vv a b c j) (by rw [c1, c2, c3]; rfl) (nm_e ⟨ne, nm_e ⟨ne, br_c (fun p => hv _ (fun z => ?_)) (fun p => nm_e (hv _ (fun z => ?_)))⟩⟩)⟩
      · unfold tv_v fd_g
        rw [if_neg z, if_neg (fun q => absurd ((fd_iff hS).mp q) (Int64.not_lt.mpr p))]
      · unfold tv_v fd_g
        rw [if_neg z, if_pos ((fd_iff hS).mpr (Int64.not_le.mp p))]
theorem my_155 {a b c fl : Nat} {wa wb wc : Int64} (hv : ri_ver vx vy vz vq pl) (ha : a < 24) (hb : b < 24) (hc : c < 24) (hf : fl < 24) (hW : 0 < wa + wb + wc) (hS : 0 < wa * (vq a).toInt64 + wb * (vq b).toInt64 + wc * (vq c).toInt64) (ry : Nat → Int32) : ∃ r' : Nat → Int32, (∀ n, n < 6 → r' n = tv_v gs vv (wa * (vq a).toInt64) (wb * (vq b).toInt64) (wc * (vq c).toInt64) a b c fl n)
    ∧ ∀ (post : SY → Prop) (x y : Int32), wpY_work (fun u => match u with | (LE, TO, WI, HI, NS, KE, VA, VB, VC, LA, ZZ, re, gr, bl, de, sn, tx, pl, vv, gs, so, sd, sa, sq, cn, ry) => post (LE, TO, WI, HI, NS, KE, VA, VB, VC, LA, ZZ, re, gr, bl, de, sn, tx, pl, vv, gs, so, sd, sa, sq, cn, ry)) (LE, TO, WI, HI, NS, KE, nI a, nI b, nI c, nI fl, ((wa * (vz a).toInt64 + wb * (vz b).toInt64 + wc * (vz c).toInt64) / (wa + wb + wc)).toInt32, re, gr, bl, de, sn, tx, pl, vv, gs, so, sd, sa, sq, cn, r') x y → wY_look_155 post x y wa wb wc LE TO WI HI NS KE (nI a) (nI b) (nI c) (nI fl) ZZ re gr bl de sn tx pl vv gs so sd sa sq cn ry := by
  have ne : ¬ wa + wb + wc = 0 := fun z => by rw [z] at hW; exact absurd hW (by decide)
  obtain ⟨⟨_, _, p3, p4⟩, _⟩ := hv a ha
  obtain ⟨⟨_, _, q3, q4⟩, _⟩ := hv b hb
  obtain ⟨⟨_, _, r3, r4⟩, _⟩ := hv c hc
  obtain ⟨v1, c1⟩ := ix_p (x := 4 * nI a + 2) 96 (ix_a (pk_mul 4 a) 2 rfl) (by omega) (by decide)
  obtain ⟨v2, c2⟩ := ix_p (x := 4 * nI b + 2) 96 (ix_a (pk_mul 4 b) 2 rfl) (by omega) (by decide)
  obtain ⟨v3, c3⟩ := ix_p (x := 4 * nI c + 2) 96 (ix_a (pk_mul 4 c) 2 rfl) (by omega) (by decide)
  obtain ⟨v4, c4⟩ := ix_p (x := 4 * nI a + 3) 96 (ix_a (pk_mul 4 a) 3 rfl) (by omega) (by decide)
  obtain ⟨v5, c5⟩ := ix_p (x := 4 * nI b + 3) 96 (ix_a (pk_mul 4 b) 3 rfl) (by omega) (by decide)
  obtain ⟨v6, c6⟩ := ix_p (x := 4 * nI c + 3) 96 (ix_a (pk_mul 4 c) 3 rfl) (by omega) (by decide)
  obtain ⟨r', hr, H⟩ := my_ltl (LE := LE) (TO := TO) (WI := WI) (HI := HI) (NS := NS) (KE := KE) (ZZ := ((wa * (vz a).toInt64 + wb * (vz b).toInt64 + wc * (vz c).toInt64) / (wa + wb + wc)).toInt32) (re := re) (gr := gr) (bl := bl) (de := de) (sn := sn) (tx := tx) (pl := pl) (vv := vv) (gs := gs) (so := so) (sd := sd) (sa := sa) (sq := sq) (cn := cn) (fl := fl) (qa := wa * (vq a).toInt64) (qb := wb * (vq b).toInt64) (qc := wc * (vq c).toInt64) ha hb hc hf hS 6 0 ry rfl
  refine ⟨r', fun n hn => ?_, fun post x y h => ?_⟩
  · rw [hr n, if_pos ⟨by omega, hn⟩]
  · exact ⟨v1, v2, v3, ne, nm_r (e' := ((wa * (vz a).toInt64 + wb * (vz b).toInt64 + wc * (vz c).toInt64) / (wa + wb + wc)).toInt32) (by rw [c1, c2, c3, p3, q3, r3]) ⟨v4, nm_r (e' := wa * (vq a).toInt64) (by rw [c4, p4]) ⟨v5, nm_r (e' := wb * (vq b).toInt64) (by rw [c5, q4]) ⟨v6, nm_r (e' := wc * (vq c).toInt64) (by rw [c6, r4]) ⟨7, H post x y 7 (by decide) h⟩⟩⟩⟩⟩
end VAL
