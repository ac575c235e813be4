/-! colours as three channels -/
def cp_pk (r g b : Nat) : Int32 := nI (r * 65536 + g * 256 + b)
theorem cp_btn (n : Nat) {i : Nat} (hi : i < 32) : bt (nI n) i = n.testBit i := by
  unfold bt
  show (BitVec.ofNat 32 n).getLsbD i = _
  rw [BitVec.getLsbD_ofNat, decide_eq_true hi, Bool.true_and]
theorem cp_hi {n i : Nat} (h : n < 256) (hi : 8 ≤ i) : n.testBit i = false :=
  Nat.testBit_lt_two_pow (Nat.lt_of_lt_of_le h (show 2 ^ 8 ≤ 2 ^ i from Nat.pow_le_pow_right (by decide) hi))
theorem cp_bt {r g b : Nat} (hg : g < 256) (hb : b < 256) {i : Nat} (hi : i < 32) : bt (cp_pk r g b) i = if i < 8 then b.testBit i else if i < 16 then g.testBit (i - 8) else r.testBit (i - 16) := by
  have e : r * 65536 + g * 256 + b = 2 ^ 8 * (2 ^ 8 * r + g) + b := by omega
  unfold cp_pk
  rw [cp_btn _ hi, e, Nat.testBit_two_pow_mul_add _ (show b < 2 ^ 8 from hb), Nat.testBit_two_pow_mul_add _ (show g < 2 ^ 8 from hg)]
  by_cases h8 : i < 8
  · rw [if_pos h8, if_pos h8]
  · rw [if_neg h8, if_neg h8]
    by_cases h16 : i < 16
    · rw [if_pos (show i - 8 < 8 by omega), if_pos h16]
    · rw [if_neg (show ¬ i - 8 < 8 by omega), if_neg h16, show i - 8 - 8 = i - 16 by omega]
def cp_bits (p q s : Bool) : Int32 := ((if p then 16711680 else 0) ||| (if q then 65280 else 0)) ||| (if s then 255 else 0)
theorem cp_bb : ∀ p q s : Bool, ∀ i, i < 32 → bt (cp_bits p q s) i = if i < 8 then s else if i < 16 then q else if i < 24 then p else false := by decide +kernel
theorem cp_mask {r g b r' g' b' : Nat} (hr : r < 256) (hg : g < 256) (hb : b < 256) (hr' : r' < 256) (hg' : g' < 256) (hb' : b' < 256) (p q s : Bool) : (cp_pk r g b &&& (cp_bits p q s ^^^ (-1))) ||| (cp_pk r' g' b' &&& cp_bits p q s) = cp_pk (if p then r' else r) (if q then g' else g) (if s then b' else b) := by
  apply b_ext
  intro i hi
  have h1 : (if q then g' else g) < 256 := by cases q <;> assumption
  have h2 : (if s then b' else b) < 256 := by cases s <;> assumption
  rw [b_or, b_and, b_and, b_xor, b_m1 i hi, cp_bt hg hb hi, cp_bt hg' hb' hi, cp_bt h1 h2 hi, cp_bb p q s i hi]
  by_cases h8 : i < 8
  · simp only [if_pos h8]
    cases s <;> simp
  · simp only [if_neg h8]
    by_cases h16 : i < 16
    · simp only [if_pos h16]
      cases q <;> simp
    · simp only [if_neg h16]
      by_cases h24 : i < 24
      · simp only [if_pos h24]
        cases p <;> simp
      · simp only [if_neg h24]
        have e1 : r.testBit (i - 16) = false := cp_hi hr (by omega)
        have e2 : r'.testBit (i - 16) = false := cp_hi hr' (by omega)
        rw [e1, e2]
        cases p <;> simp [e1, e2]
theorem cp_join {r g b : Nat} (hr : r < 256) (hg : g < 256) (hb : b < 256) : ((nI r <<< ((16 : Int32) &&& 31)) ||| (nI g <<< ((8 : Int32) &&& 31))) ||| nI b = cp_pk r g b := by
  apply b_ext
  intro i hi
  rw [b_or, b_or, b_shl16 _ hi, b_shl8 _ hi, cp_bt hg hb hi, cp_btn b hi, cp_btn r (show i - 16 < 32 by omega), cp_btn g (show i - 8 < 32 by omega)]
  by_cases h8 : i < 8
  · rw [if_pos h8, decide_eq_false (show ¬ 16 ≤ i by omega), decide_eq_false (show ¬ 8 ≤ i by omega)]
    simp
  · rw [if_neg h8, cp_hi hb (show 8 ≤ i by omega), decide_eq_true (show 8 ≤ i by omega)]
    by_cases h16 : i < 16
    · rw [if_pos h16, decide_eq_false (show ¬ 16 ≤ i by omega)]
      simp
    · rw [if_neg h16, cp_hi hg (show 8 ≤ i - 8 by omega), decide_eq_true (show 16 ≤ i by omega)]
      simp
theorem cp_r {r g b : Nat} (hr : r < 256) (hg : g < 256) (hb : b < 256) : cp_pk r g b >>> ((16 : Int32) &&& 31) = nI r := by
  unfold cp_pk
  rw [pk_shrN (n := r * 65536 + g * 256 + b) (by omega) ((16 : Int32) &&& 31) 16 (by decide)]
  show nI ((r * 65536 + g * 256 + b) / 65536) = _
  exact congrArg nI (by omega)
theorem cp_m {n : Nat} (h : n < 256) : nI n &&& 255 = nI n := by
  rw [pk_andN (n := n) (m := 255) (by omega) 8 (by decide)]
  exact congrArg nI (Nat.mod_eq_of_lt h)
theorem cp_r2 {r g b : Nat} (hr : r < 256) (hg : g < 256) (hb : b < 256) : (cp_pk r g b >>> ((16 : Int32) &&& 31)) &&& 255 = nI r := by
  rw [cp_r hr hg hb, cp_m hr]
theorem cp_g {r g b : Nat} (hr : r < 256) (hg : g < 256) (hb : b < 256) : (cp_pk r g b >>> ((8 : Int32) &&& 31)) &&& 255 = nI g := by
  unfold cp_pk
  rw [pk_shrN (n := r * 65536 + g * 256 + b) (by omega) ((8 : Int32) &&& 31) 8 (by decide), pk_andN (n := (r * 65536 + g * 256 + b) / 2 ^ 8) (m := 255) (by omega) 8 (by decide)]
  show nI ((r * 65536 + g * 256 + b) / 256 % 256) = _
  exact congrArg nI (by omega)
theorem cp_b {r g b : Nat} (hr : r < 256) (hg : g < 256) (hb : b < 256) : cp_pk r g b &&& 255 = nI b := by
  unfold cp_pk
  rw [pk_andN (n := r * 65536 + g * 256 + b) (m := 255) (by omega) 8 (by decide)]
  show nI ((r * 65536 + g * 256 + b) % 256) = _
  exact congrArg nI (by omega)
theorem cp_of {v : Nat} (h : v < 16777216) : ∃ r g b, r < 256 ∧ g < 256 ∧ b < 256 ∧ nI v = cp_pk r g b :=
  ⟨v / 65536, v / 256 % 256, v % 256, by omega, by omega, by omega, congrArg nI (by omega)⟩
/-! the cross product in ints and in longs -/
theorem ca_sub (a b : Int32) (h : (a.toInt - b.toInt).natAbs < 2147483648) : (a - b).toInt = a.toInt - b.toInt := by
  rw [Int32.toInt_sub]
  exact Int.bmod_eq_of_le (by omega) (by omega)
theorem ca_mul (a b : Int32) (h : (a.toInt * b.toInt).natAbs < 2147483648) : (a * b).toInt = a.toInt * b.toInt := by
  rw [Int32.toInt_mul]
  exact Int.bmod_eq_of_le (by omega) (by omega)
theorem ca_lsub (a b : Int64) (h : (a.toInt - b.toInt).natAbs < 9223372036854775808) : (a - b).toInt = a.toInt - b.toInt := by
  rw [Int64.toInt_sub]
  exact Int.bmod_eq_of_le (by omega) (by omega)
theorem ca_ladd (a b : Int64) (h : (a.toInt + b.toInt).natAbs < 9223372036854775808) : (a + b).toInt = a.toInt + b.toInt := by
  rw [Int64.toInt_add]
  exact Int.bmod_eq_of_le (by omega) (by omega)
theorem ca_lmul (a b : Int64) (h : (a.toInt * b.toInt).natAbs < 9223372036854775808) : (a * b).toInt = a.toInt * b.toInt := by
  rw [Int64.toInt_mul]
  exact Int.bmod_eq_of_le (by omega) (by omega)
theorem ca_abs {a b : Int} {M N : Nat} (ha : a.natAbs ≤ M) (hb : b.natAbs ≤ N) : (a * b).natAbs ≤ M * N := by
  rw [Int.natAbs_mul]
  exact Nat.mul_le_mul ha hb
def ca_in (a : Int32) : Prop := a.toInt.natAbs ≤ 800
def ca_cr (ax ay bx cy2 cx cy : Int) : Int := (bx - ax) * (cy - ay) - (cy2 - ay) * (cx - ax)
theorem ca_cross {ax ay bx b2 cx cy : Int32} (h1 : ca_in ax) (h2 : ca_in ay) (h3 : ca_in bx) (h4 : ca_in b2) (h5 : ca_in cx) (h6 : ca_in cy) :
    ((bx - ax) * (cy - ay) - (b2 - ay) * (cx - ax)).toInt = ca_cr ax.toInt ay.toInt bx.toInt b2.toInt cx.toInt cy.toInt
    ∧ (ca_cr ax.toInt ay.toInt bx.toInt b2.toInt cx.toInt cy.toInt).natAbs ≤ 5120000
    ∧ ((bx - ax) * (cy - ay) - (b2 - ay) * (cx - ax)).toInt64 = (bx - ax).toInt64 * (cy - ay).toInt64 - (b2 - ay).toInt64 * (cx - ax).toInt64 := by
  unfold ca_in at *
  have d1 : (bx - ax).toInt = bx.toInt - ax.toInt := ca_sub _ _ (by omega)
  have d2 : (cy - ay).toInt = cy.toInt - ay.toInt := ca_sub _ _ (by omega)
  have d3 : (b2 - ay).toInt = b2.toInt - ay.toInt := ca_sub _ _ (by omega)
  have d4 : (cx - ax).toInt = cx.toInt - ax.toInt := ca_sub _ _ (by omega)
  have p1 : ((bx.toInt - ax.toInt) * (cy.toInt - ay.toInt)).natAbs ≤ 1600 * 1600 := ca_abs (by omega) (by omega)
  have p2 : ((b2.toInt - ay.toInt) * (cx.toInt - ax.toInt)).natAbs ≤ 1600 * 1600 := ca_abs (by omega) (by omega)
  have m1 : ((bx - ax) * (cy - ay)).toInt = (bx.toInt - ax.toInt) * (cy.toInt - ay.toInt) := by
    rw [ca_mul (bx - ax) (cy - ay) (by rw [d1, d2]; omega), d1, d2]
  have m2 : ((b2 - ay) * (cx - ax)).toInt = (b2.toInt - ay.toInt) * (cx.toInt - ax.toInt) := by
    rw [ca_mul (b2 - ay) (cx - ax) (by rw [d3, d4]; omega), d3, d4]
  have l1 : ((bx - ax).toInt64 * (cy - ay).toInt64).toInt = (bx.toInt - ax.toInt) * (cy.toInt - ay.toInt) := by
    rw [ca_lmul (bx - ax).toInt64 (cy - ay).toInt64 (by rw [Int32.toInt_toInt64, Int32.toInt_toInt64, d1, d2]; omega), Int32.toInt_toInt64, Int32.toInt_toInt64, d1, d2]
  have l2 : ((b2 - ay).toInt64 * (cx - ax).toInt64).toInt = (b2.toInt - ay.toInt) * (cx.toInt - ax.toInt) := by
    rw [ca_lmul (b2 - ay).toInt64 (cx - ax).toInt64 (by rw [Int32.toInt_toInt64, Int32.toInt_toInt64, d3, d4]; omega), Int32.toInt_toInt64, Int32.toInt_toInt64, d3, d4]
  have e : ((bx - ax) * (cy - ay) - (b2 - ay) * (cx - ax)).toInt = ca_cr ax.toInt ay.toInt bx.toInt b2.toInt cx.toInt cy.toInt := by
    rw [ca_sub ((bx - ax) * (cy - ay)) ((b2 - ay) * (cx - ax)) (by rw [m1, m2]; omega), m1, m2]
    rfl
  refine ⟨e, ?_, ?_⟩
  · unfold ca_cr
    omega
  · apply Int64.toInt_inj.mp
    rw [Int32.toInt_toInt64, e, ca_lsub ((bx - ax).toInt64 * (cy - ay).toInt64) ((b2 - ay).toInt64 * (cx - ax).toInt64) (by rw [l1, l2]; omega), l1, l2]
    rfl
theorem ca_area (ax ay bx b2 cx cy mx my : Int) : ca_cr bx b2 cx cy mx my + ca_cr cx cy ax ay mx my + ca_cr ax ay bx b2 mx my = ca_cr ax ay bx b2 cx cy := by
  unfold ca_cr
  grind
theorem ca_flip (ax ay bx b2 cx cy : Int) : ca_cr ax ay cx cy bx b2 = - ca_cr ax ay bx b2 cx cy := by
  unfold ca_cr
  grind
/-! division downwards -/
theorem fd_q {s d : Int64} (hd : 0 < d) : (s / d * d).toInt = s.toInt - s.toInt.tmod d.toInt ∧ (s - s / d * d).toInt = s.toInt.tmod d.toInt := by
  have D : 0 < d.toInt := by
    have := Int64.lt_iff_toInt_lt.mp hd
    rwa [Int64.toInt_zero] at this
  have hne : d ≠ -1 := by
    intro h
    rw [h] at D
    exact absurd D (by decide)
  have q : (s / d).toInt = s.toInt.tdiv d.toInt := Int64.toInt_div_of_ne_right s d hne
  have e := Int.mul_tdiv_add_tmod s.toInt d.toInt
  have a1 := Int.tmod_lt_of_pos s.toInt D
  have a2 := Int.lt_tmod_of_pos s.toInt D
  have b1 := Int64.toInt_lt s
  have b2 := Int64.le_toInt s
  have b3 := Int64.toInt_lt d
  have n : (s.toInt.tdiv d.toInt * d.toInt).natAbs ≤ s.toInt.natAbs := by
    rw [Int.natAbs_mul, Int.natAbs_tdiv]
    exact Nat.div_mul_le_self _ _
  have c : s.toInt.tdiv d.toInt * d.toInt = s.toInt - s.toInt.tmod d.toInt := by
    rw [Int.mul_comm]
    omega
  rw [c] at n
  have p : (s / d * d).toInt = s.toInt - s.toInt.tmod d.toInt := by
    rw [Int64.toInt_mul, q, c]
    exact Int.bmod_eq_of_le (by omega) (by omega)
  refine ⟨p, ?_⟩
  rw [Int64.toInt_sub, p, show s.toInt - (s.toInt - s.toInt.tmod d.toInt) = s.toInt.tmod d.toInt by omega]
  exact Int.bmod_eq_of_le (by omega) (by omega)
theorem fd_iff {s d : Int64} (hd : 0 < d) : s < s / d * d ↔ s - s / d * d < 0 := by
  rw [Int64.lt_iff_toInt_lt, Int64.lt_iff_toInt_lt, (fd_q hd).1, (fd_q hd).2, Int64.toInt_zero]
  omega
theorem fd_nn {s d : Int64} (hs : 0 ≤ s) (hd : 0 < d) : ¬ s < s / d * d := by
  have S : 0 ≤ s.toInt := by
    have := Int64.le_iff_toInt_le.mp hs
    rwa [Int64.toInt_zero] at this
  have t := Int.tmod_nonneg d.toInt S
  rw [Int64.lt_iff_toInt_lt, (fd_q hd).1]
  omega
/-! sums of three products -/
def ca_wt (w : Int32) : Prop := 0 ≤ w.toInt ∧ w.toInt ≤ 5120000
theorem ca_prod {w f : Int32} (hw : ca_wt w) (h0 : 0 ≤ f.toInt) (h1 : f.toInt ≤ 1023) : (w.toInt64 * f.toInt64).toInt = w.toInt * f.toInt ∧ 0 ≤ w.toInt * f.toInt ∧ w.toInt * f.toInt ≤ 5237760000 := by
  have p : (w.toInt * f.toInt).natAbs ≤ 5120000 * 1023 := ca_abs (by unfold ca_wt at hw; omega) (by omega)
  have n : 0 ≤ w.toInt * f.toInt := Int.mul_nonneg hw.1 h0
  refine ⟨?_, n, by omega⟩
  rw [ca_lmul w.toInt64 f.toInt64 (by rw [Int32.toInt_toInt64, Int32.toInt_toInt64]; omega), Int32.toInt_toInt64, Int32.toInt_toInt64]
theorem ca_dot {w1 w2 w3 f1 f2 f3 : Int32} (hw1 : ca_wt w1) (hw2 : ca_wt w2) (hw3 : ca_wt w3) (h1 : 0 ≤ f1.toInt ∧ f1.toInt ≤ 1023) (h2 : 0 ≤ f2.toInt ∧ f2.toInt ≤ 1023) (h3 : 0 ≤ f3.toInt ∧ f3.toInt ≤ 1023) :
    (w1.toInt64 * f1.toInt64 + w2.toInt64 * f2.toInt64 + w3.toInt64 * f3.toInt64).toInt = w1.toInt * f1.toInt + w2.toInt * f2.toInt + w3.toInt * f3.toInt ∧ 0 ≤ w1.toInt * f1.toInt ∧ 0 ≤ w2.toInt * f2.toInt ∧ 0 ≤ w3.toInt * f3.toInt := by
  obtain ⟨a1, a2, a3⟩ := ca_prod hw1 h1.1 h1.2
  obtain ⟨b1, b2, b3⟩ := ca_prod hw2 h2.1 h2.2
  obtain ⟨c1, c2, c3⟩ := ca_prod hw3 h3.1 h3.2
  refine ⟨?_, a2, b2, c2⟩
  have e : (w1.toInt64 * f1.toInt64 + w2.toInt64 * f2.toInt64).toInt = w1.toInt * f1.toInt + w2.toInt * f2.toInt := by
    rw [ca_ladd (w1.toInt64 * f1.toInt64) (w2.toInt64 * f2.toInt64) (by rw [a1, b1]; omega), a1, b1]
  rw [ca_ladd (w1.toInt64 * f1.toInt64 + w2.toInt64 * f2.toInt64) (w3.toInt64 * f3.toInt64) (by rw [e, c1]; omega), e, c1]
theorem ca_all {w1 w2 w3 : Int32} (hw1 : ca_wt w1) (hw2 : ca_wt w2) (hw3 : ca_wt w3) : (w1.toInt64 + w2.toInt64 + w3.toInt64).toInt = w1.toInt + w2.toInt + w3.toInt := by
  unfold ca_wt at *
  have e : (w1.toInt64 + w2.toInt64).toInt = w1.toInt + w2.toInt := by
    rw [ca_ladd w1.toInt64 w2.toInt64 (by rw [Int32.toInt_toInt64, Int32.toInt_toInt64]; omega), Int32.toInt_toInt64, Int32.toInt_toInt64]
  rw [ca_ladd (w1.toInt64 + w2.toInt64) w3.toInt64 (by rw [e, Int32.toInt_toInt64]; omega), e, Int32.toInt_toInt64]
theorem ca_shares {w1 w2 w3 q1 q2 q3 : Int32} (hw1 : ca_wt w1) (hw2 : ca_wt w2) (hw3 : ca_wt w3) (hp : 0 < w1.toInt + w2.toInt + w3.toInt) (h1 : 1 ≤ q1.toInt ∧ q1.toInt ≤ 64) (h2 : 1 ≤ q2.toInt ∧ q2.toInt ≤ 64) (h3 : 1 ≤ q3.toInt ∧ q3.toInt ≤ 64) :
    0 < w1.toInt64 * q1.toInt64 + w2.toInt64 * q2.toInt64 + w3.toInt64 * q3.toInt64 := by
  rw [Int64.lt_iff_toInt_lt, (ca_dot hw1 hw2 hw3 (f1 := q1) (f2 := q2) (f3 := q3) (by omega) (by omega) (by omega)).1, Int64.toInt_zero]
  have a : w1.toInt * 1 ≤ w1.toInt * q1.toInt := Int.mul_le_mul_of_nonneg_left h1.1 hw1.1
  have b : w2.toInt * 1 ≤ w2.toInt * q2.toInt := Int.mul_le_mul_of_nonneg_left h2.1 hw2.1
  have c : w3.toInt * 1 ≤ w3.toInt * q3.toInt := Int.mul_le_mul_of_nonneg_left h3.1 hw3.1
  omega
/-! blending -/
theorem bl_1 {n o a : Nat} (hn : n < 256) (ho : o < 256) (ha : a < 256) : ∃ k, k < 256 ∧ (nI n * nI a + nI o * (255 - nI a)) / 255 = nI k := by
  have h1 : n * a ≤ 255 * a := Nat.mul_le_mul_right a (by omega)
  have h2 : o * (255 - a) ≤ 255 * (255 - a) := Nat.mul_le_mul_right _ (by omega)
  refine ⟨(n * a + o * (255 - a)) / 255, by omega, ?_⟩
  have e : (255 : Int32) - nI a = nI (255 - a) := pk_sub (a := 255) (by omega)
  rw [e, pk_mul, pk_mul, nI_add]
  exact pk_div (d := 255) (by omega) (by decide) (by decide)
theorem bl_3 {n o : Nat} (hn : n < 256) (ho : o < 256) : ∃ k, k < 256 ∧ (nI n * nI o) / 255 = nI k := by
  have h1 : n * o ≤ 255 * 255 := Nat.mul_le_mul (by omega) (by omega)
  refine ⟨n * o / 255, by omega, ?_⟩
  rw [pk_mul]
  exact pk_div (d := 255) (by omega) (by decide) (by decide)
/-! ranges of ints -/
theorem ic_lt24 {x : Int32} : x < 24 ↔ x ≤ 23 := by
  rw [Int32.lt_iff_toInt_lt, Int32.le_iff_toInt_le, show (24 : Int32).toInt = 24 from by decide, show (23 : Int32).toInt = 23 from by decide]
  omega
theorem ic_lt16 {x : Int32} : x < 16 ↔ x ≤ 15 := by
  rw [Int32.lt_iff_toInt_lt, Int32.le_iff_toInt_le, show (16 : Int32).toInt = 16 from by decide, show (15 : Int32).toInt = 15 from by decide]
  omega
theorem ic_lt8 {x : Int32} : x < 8 ↔ x ≤ 7 := by
  rw [Int32.lt_iff_toInt_lt, Int32.le_iff_toInt_le, show (8 : Int32).toInt = 8 from by decide, show (7 : Int32).toInt = 7 from by decide]
  omega
theorem ic_of {x M : Int32} (n : Nat) (hM : M.toInt = n) (h : 0 ≤ x) (h5 : x ≤ M) : ∃ j : Nat, j ≤ n ∧ x = nI j := nI_of2 hM (Int32.not_lt.mpr h) h5
theorem ic_abs {x M N : Int32} (hM : M.toInt = -800) (hN : N.toInt = 800) (h : M ≤ x) (h5 : x ≤ N) : ca_in x := by
  rw [Int32.le_iff_toInt_le] at h h5
  unfold ca_in
  omega
theorem ic_toInt {x M N : Int32} {m n : Int} (hM : M.toInt = m) (hN : N.toInt = n) (h : M ≤ x) (h5 : x ≤ N) : m ≤ x.toInt ∧ x.toInt ≤ n := by
  rw [Int32.le_iff_toInt_le] at h h5
  omega
theorem up_self (f : Nat → Int32) (k : Nat) : upd f k (f k) = f := by
  funext j
  unfold upd
  split
  · next h => rw [h]
  · rfl
/-! the texture's wrap -/
def pw_w (m v : Int32) : Int32 := if m = 0 then v &&& 7 else if m = 1 then (if v < 0 then 0 else if 7 < v then 7 else v) else (if 7 < v &&& 15 then 15 - (v &&& 15) else v &&& 15)
theorem pw_r (m v : Int32) : ∃ j : Nat, j < 8 ∧ pw_w m v = nI j := by
  unfold pw_w
  split
  · exact pk_andE v 3 (by decide)
  · split
    · split
      · exact ⟨0, by decide, rfl⟩
      · next h =>
        split
        · exact ⟨7, by decide, rfl⟩
        · next h7 =>
          obtain ⟨j, hj, e⟩ := nI_of2 (M := 7) (n := 7) (by decide) h (Int32.not_lt.mp h7)
          exact ⟨j, by omega, e⟩
    · obtain ⟨j, hj, e⟩ := pk_andE v (m := 15) 4 (by decide)
      rw [e]
      have hj' : j < 16 := hj
      split
      · next h =>
        have h' : 7 < j := (nI_ltI (a := 7) (b := j) (by decide) (by omega)).mp h
        exact ⟨15 - j, by omega, pk_sub (a := 15) (by omega)⟩
      · next h =>
        have h' : ¬ 7 < j := fun z => h (nI_lt (a := 7) z (by omega))
        exact ⟨j, by omega, rfl⟩
/-! a channel -/
def ac_f (v : Int32) : Int32 := if v < 0 then 0 else if 255 < v then 255 else v
theorem ac_r (v : Int32) : ∃ j : Nat, j < 256 ∧ ac_f v = nI j := by
  unfold ac_f
  split
  · exact ⟨0, by decide, rfl⟩
  · next h =>
    split
    · exact ⟨255, by decide, rfl⟩
    · next h7 =>
      obtain ⟨j, hj, e⟩ := nI_of2 (M := 255) (n := 255) (by decide) h (Int32.not_lt.mp h7)
      exact ⟨j, by omega, e⟩
