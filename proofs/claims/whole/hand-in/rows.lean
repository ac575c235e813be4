section
/-! rows pasted from the kit -/
theorem pk_us {f : Nat → Int32} {k : Nat} {x : Int32} : upd f k x k = x := if_pos rfl
theorem pk_un {f : Nat → Int32} {k j : Nat} {x : Int32} (h : j ≠ k) : upd f k x j = f j := if_neg h
theorem pk_sub {a b : Nat} (h : b ≤ a) : nI a - nI b = nI (a - b) := by
  obtain ⟨c, rfl⟩ : ∃ c, a = c + b := ⟨a - b, by omega⟩
  rw [← nI_add, Int32.add_sub_cancel, Nat.add_sub_cancel]
theorem pk_m1 (n : Nat) : nI (n + 1) + (-1) = nI n := by
  rw [← nI_1, Int32.add_assoc, show (1 : Int32) + (-1) = 0 from rfl, Int32.add_zero]
theorem pk_mul (a b : Nat) : nI a * nI b = nI (a * b) := (Int32.ofNat_mul a b).symm
theorem pk_div {a d : Nat} (ha : a < 2 ^ 31) (h0 : 0 < d) (hd : d < 2 ^ 31) : nI a / nI d = nI (a / d) := by
  apply Int32.toInt_inj.mp
  rw [lg_idiv_nonneg (by rw [nI_toInt ha]; omega) (by rw [nI_toInt hd]; omega), nI_toInt ha, nI_toInt hd, nI_toInt (Nat.lt_of_le_of_lt (Nat.div_le_self a d) ha)]
  first | rfl | exact (Int.natCast_ediv _ _).symm
theorem pk_rem {a d : Nat} (ha : a < 2 ^ 31) (h0 : 0 < d) (hd : d < 2 ^ 31) : nI a - nI a / nI d * nI d = nI (a % d) := by
  rw [pk_div ha h0 hd, pk_mul, pk_sub (Nat.div_mul_le_self a d)]
  exact congrArg nI (by have := Nat.div_add_mod' a d; omega)
theorem pk_ix (x : Int32) {n : Nat} (hn : n < 2 ^ 31) : x < 0 ∨ nI n ≤ x ∨ ∃ j : Nat, j < n ∧ x = nI j := by
  by_cases h : x < 0
  · exact Or.inl h
  · obtain ⟨j, hj, rfl⟩ := nI_of h
    by_cases h2 : j < n
    · exact Or.inr (Or.inr ⟨j, h2, rfl⟩)
    · exact Or.inr (Or.inl (nI_le (by omega) hj))
theorem pk_le {x y : Int32} {A B : Prop} (a b : Nat) (f : a ≤ b → A) (g : b < a → B) (hx : x = nI a := by rfl) (hy : y = nI b := by rfl) (ha : a < 2 ^ 31 := by omega) (hb : b < 2 ^ 31 := by omega) : (x ≤ y → A) ∧ (¬ x ≤ y → B) := by
  subst hx hy
  rw [nI_leI ha hb]
  exact ⟨f, fun z => g (by omega)⟩
theorem pk_lt {x y : Int32} {A B : Prop} (a b : Nat) (f : a < b → A) (g : b ≤ a → B) (hx : x = nI a := by rfl) (hy : y = nI b := by rfl) (ha : a < 2 ^ 31 := by omega) (hb : b < 2 ^ 31 := by omega) : (x < y → A) ∧ (¬ x < y → B) := by
  subst hx hy
  rw [nI_ltI ha hb]
  exact ⟨f, fun z => g (by omega)⟩
theorem pk_eq {x y : Int32} {A B : Prop} (a b : Nat) (f : a = b → A) (g : a ≠ b → B) (hx : x = nI a := by rfl) (hy : y = nI b := by rfl) (ha : a < 2 ^ 31 := by omega) (hb : b < 2 ^ 31 := by omega) : (x = y → A) ∧ (¬ x = y → B) := by
  subst hx hy
  rw [nI_eq ha hb]
  exact ⟨f, g⟩
theorem pk_in {x : Int32} (n N : Nat) (h : n < N) (hx : x = nI n := by rfl) (hN : N < 2 ^ 31 := by omega) : vp_in x N := by
  subst hx
  exact vp_in_nI h hN
theorem pk_cl {x : Int32} (n : Nat) (hx : x = nI n := by rfl) (h : n < 2 ^ 31 := by omega) : x.toNatClampNeg = n := by
  subst hx
  exact nI_clamp h
theorem pk_tn {n : Nat} (h : n < 2 ^ 32) : (nI n).toBitVec.toNat = n := Nat.mod_eq_of_lt h
theorem pk_and (x : Int32) {m : Int32} (k : Nat) (hm : m.toBitVec.toNat = 2 ^ k - 1) : x &&& m = nI (x.toBitVec.toNat % 2 ^ k) := by
  apply Int32.toBitVec_inj.mp
  apply BitVec.eq_of_toNat_eq
  rw [Int32.toBitVec_and, BitVec.toNat_and, hm, Nat.and_two_pow_sub_one_eq_mod]
  show _ = (BitVec.ofNat 32 _).toNat
  rw [BitVec.toNat_ofNat]
  exact (Nat.mod_eq_of_lt (Nat.lt_of_le_of_lt (Nat.mod_le _ _) x.toBitVec.isLt)).symm
theorem pk_andN {n : Nat} (h : n < 2 ^ 32) {m : Int32} (k : Nat) (hm : m.toBitVec.toNat = 2 ^ k - 1) : nI n &&& m = nI (n % 2 ^ k) := by
  rw [pk_and _ k hm, pk_tn h]
theorem pk_andE (x : Int32) {m : Int32} (k : Nat) (hm : m.toBitVec.toNat = 2 ^ k - 1) : ∃ j : Nat, j < 2 ^ k ∧ x &&& m = nI j := ⟨_, Nat.mod_lt _ (Nat.two_pow_pos k), pk_and x k hm⟩
theorem pk_andIn (x : Int32) {m : Int32} (k : Nat) (hm : m.toBitVec.toNat = 2 ^ k - 1) (hk : k ≤ 30) : vp_in (x &&& m) (2 ^ k) := by
  obtain ⟨j, hj, e⟩ := pk_andE x k hm
  rw [e]
  exact vp_in_nI hj (Nat.lt_of_le_of_lt (Nat.pow_le_pow_right (by decide) hk) (by decide))
theorem pk_shl (a s : Int32) (k : Nat) (hs : (s.toBitVec.smod 32).toNat = k) : (a <<< s).toBitVec.toNat = a.toBitVec.toNat * 2 ^ k % 2 ^ 32 := by
  show (a.toBitVec <<< (s.toBitVec.smod 32).toNat).toNat = _
  rw [hs, BitVec.toNat_shiftLeft, Nat.shiftLeft_eq]
theorem pk_shlN {n : Nat} (s : Int32) (k : Nat) (hs : (s.toBitVec.smod 32).toNat = k) (h : n * 2 ^ k < 2 ^ 32) : nI n <<< s = nI (n * 2 ^ k) := by
  apply Int32.toBitVec_inj.mp
  apply BitVec.eq_of_toNat_eq
  have hn : n < 2 ^ 32 := Nat.lt_of_le_of_lt (Nat.le_mul_of_pos_right n (Nat.two_pow_pos k)) h
  rw [pk_shl _ _ k hs, pk_tn hn, pk_tn h, Nat.mod_eq_of_lt h]
theorem pk_shr (a s : Int32) (k : Nat) (hs : (s.toBitVec.smod 32).toNat = k) : (a >>> s).toInt = a.toInt >>> k := by
  show (a.toBitVec.sshiftRight (s.toBitVec.smod 32).toNat).toInt = _
  rw [hs, BitVec.toInt_sshiftRight]
  rfl
theorem pk_shrN {n : Nat} (h : n < 2 ^ 31) (s : Int32) (k : Nat) (hs : (s.toBitVec.smod 32).toNat = k) : nI n >>> s = nI (n / 2 ^ k) := by
  apply Int32.toInt_inj.mp
  have h2 : n / 2 ^ k ≤ n := Nat.div_le_self _ _
  rw [pk_shr _ _ k hs, nI_toInt h, nI_toInt (by omega), Int.shiftRight_eq_div_pow]
  rfl
def bt (x : Int32) (i : Nat) : Bool := x.toBitVec.getLsbD i
theorem b_ext {x y : Int32} (h : ∀ i, i < 32 → bt x i = bt y i) : x = y := Int32.toBitVec_inj.mp (BitVec.eq_of_getLsbD_eq (fun i hi => h i hi))
theorem b_or (x y : Int32) (i : Nat) : bt (x ||| y) i = (bt x i || bt y i) := by unfold bt; rw [Int32.toBitVec_or, BitVec.getLsbD_or]
theorem b_and (x y : Int32) (i : Nat) : bt (x &&& y) i = (bt x i && bt y i) := by unfold bt; rw [Int32.toBitVec_and, BitVec.getLsbD_and]
theorem b_xor (x y : Int32) (i : Nat) : bt (x ^^^ y) i = (bt x i ^^ bt y i) := by unfold bt; rw [Int32.toBitVec_xor, BitVec.getLsbD_xor]
theorem b_big {x : Int32} {i : Nat} (h : 32 ≤ i) : bt x i = false := BitVec.getLsbD_of_ge _ _ h
theorem b_255 (i : Nat) : bt 255 i = decide (i < 8) := by
  rcases Nat.lt_or_ge i 32 with h | h
  · exact (by decide +kernel : ∀ i, i < 32 → bt 255 i = decide (i < 8)) i h
  · rw [b_big h, decide_eq_false (by omega)]
theorem b_m1 : ∀ i, i < 32 → bt (-1) i = true := by decide +kernel
theorem b_0 (i : Nat) : bt 0 i = false := BitVec.getLsbD_zero
theorem s_l : ∀ n, n < 32 → ((nI n &&& 31).toBitVec.smod 32).toNat = n := by decide +kernel
theorem b_shl (n : Nat) (hn : n < 32) (x : Int32) {i : Nat} (hi : i < 32) : bt (x <<< (nI n &&& 31)) i = (decide (n ≤ i) && bt x (i - n)) := by
  unfold bt
  rw [Int32.toBitVec_shiftLeft]
  show (x.toBitVec <<< ((nI n &&& 31).toBitVec.smod 32).toNat).getLsbD i = _
  rw [s_l n hn, BitVec.getLsbD_shiftLeft]
  rcases Nat.lt_or_ge i n with h | h
  · simp [h, Nat.not_le.mpr h]
  · simp [hi, h, Nat.not_lt.mpr h]
theorem b_sshr (n : Nat) (hn : n < 32) (x : Int32) {i : Nat} (hi : i < 32) : bt (x >>> (nI n &&& 31)) i = if n + i < 32 then bt x (n + i) else bt x 31 := by
  unfold bt
  rw [Int32.toBitVec_shiftRight]
  show (x.toBitVec.sshiftRight ((nI n &&& 31).toBitVec.smod 32).toNat).getLsbD i = _
  rw [s_l n hn, BitVec.getLsbD_sshiftRight, BitVec.msb_eq_getLsbD_last]
  simp [hi]
theorem b_shl8 (x : Int32) {i : Nat} (hi : i < 32) : bt (x <<< ((8 : Int32) &&& 31)) i = (decide (8 ≤ i) && bt x (i - 8)) := b_shl 8 (by omega) x hi
theorem b_shl16 (x : Int32) {i : Nat} (hi : i < 32) : bt (x <<< ((16 : Int32) &&& 31)) i = (decide (16 ≤ i) && bt x (i - 16)) := b_shl 16 (by omega) x hi
end
section
/-! colours as three channels -/
def cp_pk (r g b : Nat) : Int32 := nI (r * 65536 + g * 256 + b)
theorem cp_btn (n : Nat) {i : Nat} (hi : i < 32) : bt (nI n) i = n.testBit i := by
  unfold bt
  show (BitVec.ofNat 32 n).getLsbD i = _
  rw [BitVec.getLsbD_ofNat, decide_eq_true hi, Bool.true_and]
theorem cp_hi {n i : Nat} (h : n < 256) (hi : 8 ≤ i) : n.testBit i = false :=
  Nat.testBit_lt_two_pow (Nat.lt_of_lt_of_le h (show 2 ^ 8 ≤ 2 ^ i from Nat.pow_le_pow_right (by decide) hi))
theorem cp_bt {r g b : Nat} (hg : g < 256) (hb : b < 256) {i : Nat} (hi : i < 32) : bt (cp_pk r g b) i = if i < 8 then b.testBit i else if i < 16 then g.testBit (i - 8) else r.testBit (i - 16) := by
  have e : r * 65536 + g * 256 + b = 2 ^ 8 * (2 ^ 8 * r + g) + b := by omega
  unfold cp_pk
  rw [cp_btn _ hi, e, Nat.testBit_two_pow_mul_add _ (show b < 2 ^ 8 from hb), Nat.testBit_two_pow_mul_add _ (show g < 2 ^ 8 from hg)]
  by_cases h8 : i < 8
  · rw [if_pos h8, if_pos h8]
  · rw [if_neg h8, if_neg h8]
    by_cases h16 : i < 16
    · rw [if_pos (show i - 8 < 8 by omega), if_pos h16]
    · rw [if_neg (show ¬ i - 8 < 8 by omega), if_neg h16, show i - 8 - 8 = i - 16 by omega]
def cp_bits (p q s : Bool) : Int32 := ((if p then 16711680 else 0) ||| (if q then 65280 else 0)) ||| (if s then 255 else 0)
theorem cp_bb : ∀ p q s : Bool, ∀ i, i < 32 → bt (cp_bits p q s) i = if i < 8 then s else if i < 16 then q else if i < 24 then p else false := by decide +kernel
theorem cp_mask {r g b r' g' b' : Nat} (hr : r < 256) (hg : g < 256) (hb : b < 256) (hr' : r' < 256) (hg' : g' < 256) (hb' : b' < 256) (p q s : Bool) : (cp_pk r g b &&& (cp_bits p q s ^^^ (-1))) ||| (cp_pk r' g' b' &&& cp_bits p q s) = cp_pk (if p then r' else r) (if q then g' else g) (if s then b' else b) := by
  apply b_ext
  intro i hi
  have h1 : (if q then g' else g) < 256 := by cases q <;> assumption
  have h2 : (if s then b' else b) < 256 := by cases s <;> assumption
  rw [b_or, b_and, b_and, b_xor, b_m1 i hi, cp_bt hg hb hi, cp_bt hg' hb' hi, cp_bt h1 h2 hi, cp_bb p q s i hi]
  by_cases h8 : i < 8
  · simp only [if_pos h8]
    cases s <;> simp
  · simp only [if_neg h8]
    by_cases h16 : i < 16
    · simp only [if_pos h16]
      cases q <;> simp
    · simp only [if_neg h16]
      by_cases h24 : i < 24
      · simp only [if_pos h24]
        cases p <;> simp
      · simp only [if_neg h24]
        have e1 : r.testBit (i - 16) = false := cp_hi hr (by omega)
        have e2 : r'.testBit (i - 16) = false := cp_hi hr' (by omega)
        rw [e1, e2]
        cases p <;> simp [e1, e2]
theorem cp_join {r g b : Nat} (hr : r < 256) (hg : g < 256) (hb : b < 256) : ((nI r <<< ((16 : Int32) &&& 31)) ||| (nI g <<< ((8 : Int32) &&& 31))) ||| nI b = cp_pk r g b := by
  apply b_ext
  intro i hi
  rw [b_or, b_or, b_shl16 _ hi, b_shl8 _ hi, cp_bt hg hb hi, cp_btn b hi, cp_btn r (show i - 16 < 32 by omega), cp_btn g (show i - 8 < 32 by omega)]
  by_cases h8 : i < 8
  · rw [if_pos h8, decide_eq_false (show ¬ 16 ≤ i by omega), decide_eq_false (show ¬ 8 ≤ i by omega)]
    simp
  · rw [if_neg h8, cp_hi hb (show 8 ≤ i by omega), decide_eq_true (show 8 ≤ i by omega)]
    by_cases h16 : i < 16
    · rw [if_pos h16, decide_eq_false (show ¬ 16 ≤ i by omega)]
      simp
    · rw [if_neg h16, cp_hi hg (show 8 ≤ i - 8 by omega), decide_eq_true (show 16 ≤ i by omega)]
      simp
theorem cp_r {r g b : Nat} (hr : r < 256) (hg : g < 256) (hb : b < 256) : cp_pk r g b >>> ((16 : Int32) &&& 31) = nI r := by
  unfold cp_pk
  rw [pk_shrN (n := r * 65536 + g * 256 + b) (by omega) ((16 : Int32) &&& 31) 16 (by decide)]
  show nI ((r * 65536 + g * 256 + b) / 65536) = _
  exact congrArg nI (by omega)
theorem cp_m {n : Nat} (h : n < 256) : nI n &&& 255 = nI n := by
  rw [pk_andN (n := n) (m := 255) (by omega) 8 (by decide)]
  exact congrArg nI (Nat.mod_eq_of_lt h)
theorem cp_r2 {r g b : Nat} (hr : r < 256) (hg : g < 256) (hb : b < 256) : (cp_pk r g b >>> ((16 : Int32) &&& 31)) &&& 255 = nI r := by
  rw [cp_r hr hg hb, cp_m hr]
theorem cp_g {r g b : Nat} (hr : r < 256) (hg : g < 256) (hb : b < 256) : (cp_pk r g b >>> ((8 : Int32) &&& 31)) &&& 255 = nI g := by
  unfold cp_pk
  rw [pk_shrN (n := r * 65536 + g * 256 + b) (by omega) ((8 : Int32) &&& 31) 8 (by decide), pk_andN (n := (r * 65536 + g * 256 + b) / 2 ^ 8) (m := 255) (by omega) 8 (by decide)]
  show nI ((r * 65536 + g * 256 + b) / 256 % 256) = _
  exact congrArg nI (by omega)
theorem cp_b {r g b : Nat} (hr : r < 256) (hg : g < 256) (hb : b < 256) : cp_pk r g b &&& 255 = nI b := by
  unfold cp_pk
  rw [pk_andN (n := r * 65536 + g * 256 + b) (m := 255) (by omega) 8 (by decide)]
  show nI ((r * 65536 + g * 256 + b) % 256) = _
  exact congrArg nI (by omega)
theorem cp_of {v : Nat} (h : v < 16777216) : ∃ r g b, r < 256 ∧ g < 256 ∧ b < 256 ∧ nI v = cp_pk r g b :=
  ⟨v / 65536, v / 256 % 256, v % 256, by omega, by omega, by omega, congrArg nI (by omega)⟩
/-! the cross product in ints and in longs -/
theorem ca_sub (a b : Int32) (h : (a.toInt - b.toInt).natAbs < 2147483648) : (a - b).toInt = a.toInt - b.toInt := by
  rw [Int32.toInt_sub]
  exact Int.bmod_eq_of_le (by omega) (by omega)
theorem ca_mul (a b : Int32) (h : (a.toInt * b.toInt).natAbs < 2147483648) : (a * b).toInt = a.toInt * b.toInt := by
  rw [Int32.toInt_mul]
  exact Int.bmod_eq_of_le (by omega) (by omega)
theorem ca_lsub (a b : Int64) (h : (a.toInt - b.toInt).natAbs < 9223372036854775808) : (a - b).toInt = a.toInt - b.toInt := by
  rw [Int64.toInt_sub]
  exact Int.bmod_eq_of_le (by omega) (by omega)
theorem ca_ladd (a b : Int64) (h : (a.toInt + b.toInt).natAbs < 9223372036854775808) : (a + b).toInt = a.toInt + b.toInt := by
  rw [Int64.toInt_add]
  exact Int.bmod_eq_of_le (by omega) (by omega)
theorem ca_lmul (a b : Int64) (h : (a.toInt * b.toInt).natAbs < 9223372036854775808) : (a * b).toInt = a.toInt * b.toInt := by
  rw [Int64.toInt_mul]
  exact Int.bmod_eq_of_le (by omega) (by omega)
theorem ca_abs {a b : Int} {M N : Nat} (ha : a.natAbs ≤ M) (hb : b.natAbs ≤ N) : (a * b).natAbs ≤ M * N := by
  rw [Int.natAbs_mul]
  exact Nat.mul_le_mul ha hb
def ca_in (a : Int32) : Prop := a.toInt.natAbs ≤ 800
def ca_cr (ax ay bx cy2 cx cy : Int) : Int := (bx - ax) * (cy - ay) - (cy2 - ay) * (cx - ax)
theorem ca_cross {ax ay bx b2 cx cy : Int32} (h1 : ca_in ax) (h2 : ca_in ay) (h3 : ca_in bx) (h4 : ca_in b2) (h5 : ca_in cx) (h6 : ca_in cy) :
    ((bx - ax) * (cy - ay) - (b2 - ay) * (cx - ax)).toInt = ca_cr ax.toInt ay.toInt bx.toInt b2.toInt cx.toInt cy.toInt
    ∧ (ca_cr ax.toInt ay.toInt bx.toInt b2.toInt cx.toInt cy.toInt).natAbs ≤ 5120000
    ∧ ((bx - ax) * (cy - ay) - (b2 - ay) * (cx - ax)).toInt64 = (bx - ax).toInt64 * (cy - ay).toInt64 - (b2 - ay).toInt64 * (cx - ax).toInt64 := by
  unfold ca_in at *
  have d1 : (bx - ax).toInt = bx.toInt - ax.toInt := ca_sub _ _ (by omega)
  have d2 : (cy - ay).toInt = cy.toInt - ay.toInt := ca_sub _ _ (by omega)
  have d3 : (b2 - ay).toInt = b2.toInt - ay.toInt := ca_sub _ _ (by omega)
  have d4 : (cx - ax).toInt = cx.toInt - ax.toInt := ca_sub _ _ (by omega)
  have p1 : ((bx.toInt - ax.toInt) * (cy.toInt - ay.toInt)).natAbs ≤ 1600 * 1600 := ca_abs (by omega) (by omega)
  have p2 : ((b2.toInt - ay.toInt) * (cx.toInt - ax.toInt)).natAbs ≤ 1600 * 1600 := ca_abs (by omega) (by omega)
  have m1 : ((bx - ax) * (cy - ay)).toInt = (bx.toInt - ax.toInt) * (cy.toInt - ay.toInt) := by
    rw [ca_mul (bx - ax) (cy - ay) (by rw [d1, d2]; omega), d1, d2]
  have m2 : ((b2 - ay) * (cx - ax)).toInt = (b2.toInt - ay.toInt) * (cx.toInt - ax.toInt) := by
    rw [ca_mul (b2 - ay) (cx - ax) (by rw [d3, d4]; omega), d3, d4]
  have l1 : ((bx - ax).toInt64 * (cy - ay).toInt64).toInt = (bx.toInt - ax.toInt) * (cy.toInt - ay.toInt) := by
    rw [ca_lmul (bx - ax).toInt64 (cy - ay).toInt64 (by rw [Int32.toInt_toInt64, Int32.toInt_toInt64, d1, d2]; omega), Int32.toInt_toInt64, Int32.toInt_toInt64, d1, d2]
  have l2 : ((b2 - ay).toInt64 * (cx - ax).toInt64).toInt = (b2.toInt - ay.toInt) * (cx.toInt - ax.toInt) := by
    rw [ca_lmul (b2 - ay).toInt64 (cx - ax).toInt64 (by rw [Int32.toInt_toInt64, Int32.toInt_toInt64, d3, d4]; omega), Int32.toInt_toInt64, Int32.toInt_toInt64, d3, d4]
  have e : ((bx - ax) * (cy - ay) - (b2 - ay) * (cx - ax)).toInt = ca_cr ax.toInt ay.toInt bx.toInt b2.toInt cx.toInt cy.toInt := by
    rw [ca_sub ((bx - ax) * (cy - ay)) ((b2 - ay) * (cx - ax)) (by rw [m1, m2]; omega), m1, m2]
    rfl
  refine ⟨e, ?_, ?_⟩
  · unfold ca_cr
    omega
  · apply Int64.toInt_inj.mp
    rw [Int32.toInt_toInt64, e, ca_lsub ((bx - ax).toInt64 * (cy - ay).toInt64) ((b2 - ay).toInt64 * (cx - ax).toInt64) (by rw [l1, l2]; omega), l1, l2]
    rfl
theorem ca_area (ax ay bx b2 cx cy mx my : Int) : ca_cr bx b2 cx cy mx my + ca_cr cx cy ax ay mx my + ca_cr ax ay bx b2 mx my = ca_cr ax ay bx b2 cx cy := by
  unfold ca_cr
  grind
theorem ca_flip (ax ay bx b2 cx cy : Int) : ca_cr ax ay cx cy bx b2 = - ca_cr ax ay bx b2 cx cy := by
  unfold ca_cr
  grind
/-! division downwards -/
theorem fd_q {s d : Int64} (hd : 0 < d) : (s / d * d).toInt = s.toInt - s.toInt.tmod d.toInt ∧ (s - s / d * d).toInt = s.toInt.tmod d.toInt := by
  have D : 0 < d.toInt := by
    have := Int64.lt_iff_toInt_lt.mp hd
    rwa [Int64.toInt_zero] at this
  have hne : d ≠ -1 := by
    intro h
    rw [h] at D
    exact absurd D (by decide)
  have q : (s / d).toInt = s.toInt.tdiv d.toInt := Int64.toInt_div_of_ne_right s d hne
  have e := Int.mul_tdiv_add_tmod s.toInt d.toInt
  have a1 := Int.tmod_lt_of_pos s.toInt D
  have a2 := Int.lt_tmod_of_pos s.toInt D
  have b1 := Int64.toInt_lt s
  have b2 := Int64.le_toInt s
  have b3 := Int64.toInt_lt d
  have n : (s.toInt.tdiv d.toInt * d.toInt).natAbs ≤ s.toInt.natAbs := by
    rw [Int.natAbs_mul, Int.natAbs_tdiv]
    exact Nat.div_mul_le_self _ _
  have c : s.toInt.tdiv d.toInt * d.toInt = s.toInt - s.toInt.tmod d.toInt := by
    rw [Int.mul_comm]
    omega
  rw [c] at n
  have p : (s / d * d).toInt = s.toInt - s.toInt.tmod d.toInt := by
    rw [Int64.toInt_mul, q, c]
    exact Int.bmod_eq_of_le (by omega) (by omega)
  refine ⟨p, ?_⟩
  rw [Int64.toInt_sub, p, show s.toInt - (s.toInt - s.toInt.tmod d.toInt) = s.toInt.tmod d.toInt by omega]
  exact Int.bmod_eq_of_le (by omega) (by omega)
theorem fd_iff {s d : Int64} (hd : 0 < d) : s < s / d * d ↔ s - s / d * d < 0 := by
  rw [Int64.lt_iff_toInt_lt, Int64.lt_iff_toInt_lt, (fd_q hd).1, (fd_q hd).2, Int64.toInt_zero]
  omega
theorem fd_nn {s d : Int64} (hs : 0 ≤ s) (hd : 0 < d) : ¬ s < s / d * d := by
  have S : 0 ≤ s.toInt := by
    have := Int64.le_iff_toInt_le.mp hs
    rwa [Int64.toInt_zero] at this
  have t := Int.tmod_nonneg d.toInt S
  rw [Int64.lt_iff_toInt_lt, (fd_q hd).1]
  omega
/-! sums of three products -/
def ca_wt (w : Int32) : Prop := 0 ≤ w.toInt ∧ w.toInt ≤ 5120000
theorem ca_prod {w f : Int32} (hw : ca_wt w) (h0 : 0 ≤ f.toInt) (h1 : f.toInt ≤ 1023) : (w.toInt64 * f.toInt64).toInt = w.toInt * f.toInt ∧ 0 ≤ w.toInt * f.toInt ∧ w.toInt * f.toInt ≤ 5237760000 := by
  have p : (w.toInt * f.toInt).natAbs ≤ 5120000 * 1023 := ca_abs (by unfold ca_wt at hw; omega) (by omega)
  have n : 0 ≤ w.toInt * f.toInt := Int.mul_nonneg hw.1 h0
  refine ⟨?_, n, by omega⟩
  rw [ca_lmul w.toInt64 f.toInt64 (by rw [Int32.toInt_toInt64, Int32.toInt_toInt64]; omega), Int32.toInt_toInt64, Int32.toInt_toInt64]
theorem ca_dot {w1 w2 w3 f1 f2 f3 : Int32} (hw1 : ca_wt w1) (hw2 : ca_wt w2) (hw3 : ca_wt w3) (h1 : 0 ≤ f1.toInt ∧ f1.toInt ≤ 1023) (h2 : 0 ≤ f2.toInt ∧ f2.toInt ≤ 1023) (h3 : 0 ≤ f3.toInt ∧ f3.toInt ≤ 1023) :
    (w1.toInt64 * f1.toInt64 + w2.toInt64 * f2.toInt64 + w3.toInt64 * f3.toInt64).toInt = w1.toInt * f1.toInt + w2.toInt * f2.toInt + w3.toInt * f3.toInt ∧ 0 ≤ w1.toInt * f1.toInt ∧ 0 ≤ w2.toInt * f2.toInt ∧ 0 ≤ w3.toInt * f3.toInt := by
  obtain ⟨a1, a2, a3⟩ := ca_prod hw1 h1.1 h1.2
  obtain ⟨b1, b2, b3⟩ := ca_prod hw2 h2.1 h2.2
  obtain ⟨c1, c2, c3⟩ := ca_prod hw3 h3.1 h3.2
  refine ⟨?_, a2, b2, c2⟩
  have e : (w1.toInt64 * f1.toInt64 + w2.toInt64 * f2.toInt64).toInt = w1.toInt * f1.toInt + w2.toInt * f2.toInt := by
    rw [ca_ladd (w1.toInt64 * f1.toInt64) (w2.toInt64 * f2.toInt64) (by rw [a1, b1]; omega), a1, b1]
  rw [ca_ladd (w1.toInt64 * f1.toInt64 + w2.toInt64 * f2.toInt64) (w3.toInt64 * f3.toInt64) (by rw [e, c1]; omega), e, c1]
theorem ca_all {w1 w2 w3 : Int32} (hw1 : ca_wt w1) (hw2 : ca_wt w2) (hw3 : ca_wt w3) : (w1.toInt64 + w2.toInt64 + w3.toInt64).toInt = w1.toInt + w2.toInt + w3.toInt := by
  unfold ca_wt at *
  have e : (w1.toInt64 + w2.toInt64).toInt = w1.toInt + w2.toInt := by
    rw [ca_ladd w1.toInt64 w2.toInt64 (by rw [Int32.toInt_toInt64, Int32.toInt_toInt64]; omega), Int32.toInt_toInt64, Int32.toInt_toInt64]
  rw [ca_ladd (w1.toInt64 + w2.toInt64) w3.toInt64 (by rw [e, Int32.toInt_toInt64]; omega), e, Int32.toInt_toInt64]
theorem ca_shares {w1 w2 w3 q1 q2 q3 : Int32} (hw1 : ca_wt w1) (hw2 : ca_wt w2) (hw3 : ca_wt w3) (hp : 0 < w1.toInt + w2.toInt + w3.toInt) (h1 : 1 ≤ q1.toInt ∧ q1.toInt ≤ 64) (h2 : 1 ≤ q2.toInt ∧ q2.toInt ≤ 64) (h3 : 1 ≤ q3.toInt ∧ q3.toInt ≤ 64) :
    0 < w1.toInt64 * q1.toInt64 + w2.toInt64 * q2.toInt64 + w3.toInt64 * q3.toInt64 := by
  rw [Int64.lt_iff_toInt_lt, (ca_dot hw1 hw2 hw3 (f1 := q1) (f2 := q2) (f3 := q3) (by omega) (by omega) (by omega)).1, Int64.toInt_zero]
  have a : w1.toInt * 1 ≤ w1.toInt * q1.toInt := Int.mul_le_mul_of_nonneg_left h1.1 hw1.1
  have b : w2.toInt * 1 ≤ w2.toInt * q2.toInt := Int.mul_le_mul_of_nonneg_left h2.1 hw2.1
  have c : w3.toInt * 1 ≤ w3.toInt * q3.toInt := Int.mul_le_mul_of_nonneg_left h3.1 hw3.1
  omega
/-! blending -/
theorem bl_1 {n o a : Nat} (hn : n < 256) (ho : o < 256) (ha : a < 256) : ∃ k, k < 256 ∧ (nI n * nI a + nI o * (255 - nI a)) / 255 = nI k := by
  have h1 : n * a ≤ 255 * a := Nat.mul_le_mul_right a (by omega)
  have h2 : o * (255 - a) ≤ 255 * (255 - a) := Nat.mul_le_mul_right _ (by omega)
  refine ⟨(n * a + o * (255 - a)) / 255, by omega, ?_⟩
  have e : (255 : Int32) - nI a = nI (255 - a) := pk_sub (a := 255) (by omega)
  rw [e, pk_mul, pk_mul, nI_add]
  exact pk_div (d := 255) (by omega) (by decide) (by decide)
theorem bl_3 {n o : Nat} (hn : n < 256) (ho : o < 256) : ∃ k, k < 256 ∧ (nI n * nI o) / 255 = nI k := by
  have h1 : n * o ≤ 255 * 255 := Nat.mul_le_mul (by omega) (by omega)
  refine ⟨n * o / 255, by omega, ?_⟩
  rw [pk_mul]
  exact pk_div (d := 255) (by omega) (by decide) (by decide)
/-! ranges of ints -/
theorem ic_lt24 {x : Int32} : x < 24 ↔ x ≤ 23 := by
  rw [Int32.lt_iff_toInt_lt, Int32.le_iff_toInt_le, show (24 : Int32).toInt = 24 from by decide, show (23 : Int32).toInt = 23 from by decide]
  omega
theorem ic_lt16 {x : Int32} : x < 16 ↔ x ≤ 15 := by
  rw [Int32.lt_iff_toInt_lt, Int32.le_iff_toInt_le, show (16 : Int32).toInt = 16 from by decide, show (15 : Int32).toInt = 15 from by decide]
  omega
theorem ic_lt8 {x : Int32} : x < 8 ↔ x ≤ 7 := by
  rw [Int32.lt_iff_toInt_lt, Int32.le_iff_toInt_le, show (8 : Int32).toInt = 8 from by decide, show (7 : Int32).toInt = 7 from by decide]
  omega
theorem ic_of {x M : Int32} (n : Nat) (hM : M.toInt = n) (h : 0 ≤ x) (h5 : x ≤ M) : ∃ j : Nat, j ≤ n ∧ x = nI j := nI_of2 hM (Int32.not_lt.mpr h) h5
theorem ic_abs {x M N : Int32} (hM : M.toInt = -800) (hN : N.toInt = 800) (h : M ≤ x) (h5 : x ≤ N) : ca_in x := by
  rw [Int32.le_iff_toInt_le] at h h5
  unfold ca_in
  omega
theorem ic_toInt {x M N : Int32} {m n : Int} (hM : M.toInt = m) (hN : N.toInt = n) (h : M ≤ x) (h5 : x ≤ N) : m ≤ x.toInt ∧ x.toInt ≤ n := by
  rw [Int32.le_iff_toInt_le] at h h5
  omega
theorem up_self (f : Nat → Int32) (k : Nat) : upd f k (f k) = f := by
  funext j
  unfold upd
  split
  · next h => rw [h]
  · rfl
/-! the texture's wrap -/
def pw_w (m v : Int32) : Int32 := if m = 0 then v &&& 7 else if m = 1 then (if v < 0 then 0 else if 7 < v then 7 else v) else (if 7 < v &&& 15 then 15 - (v &&& 15) else v &&& 15)
theorem pw_r (m v : Int32) : ∃ j : Nat, j < 8 ∧ pw_w m v = nI j := by
  unfold pw_w
  split
  · exact pk_andE v 3 (by decide)
  · split
    · split
      · exact ⟨0, by decide, rfl⟩
      · next h =>
        split
        · exact ⟨7, by decide, rfl⟩
        · next h7 =>
          obtain ⟨j, hj, e⟩ := nI_of2 (M := 7) (n := 7) (by decide) h (Int32.not_lt.mp h7)
          exact ⟨j, by omega, e⟩
    · obtain ⟨j, hj, e⟩ := pk_andE v (m := 15) 4 (by decide)
      rw [e]
      have hj' : j < 16 := hj
      split
      · next h =>
        have h' : 7 < j := (nI_ltI (a := 7) (b := j) (by decide) (by omega)).mp h
        exact ⟨15 - j, by omega, pk_sub (a := 15) (by omega)⟩
      · next h =>
        have h' : ¬ 7 < j := fun z => h (nI_lt (a := 7) z (by omega))
        exact ⟨j, by omega, rfl⟩
/-! a channel -/
def ac_f (v : Int32) : Int32 := if v < 0 then 0 else if 255 < v then 255 else v
theorem ac_r (v : Int32) : ∃ j : Nat, j < 256 ∧ ac_f v = nI j := by
  unfold ac_f
  split
  · exact ⟨0, by decide, rfl⟩
  · next h =>
    split
    · exact ⟨255, by decide, rfl⟩
    · next h7 =>
      obtain ⟨j, hj, e⟩ := nI_of2 (M := 255) (n := 255) (by decide) h (Int32.not_lt.mp h7)
      exact ⟨j, by omega, e⟩
end
section
/-! the relation -/
def ri_col (co re gr bl : Nat → Int32) : Prop := ∀ k, k < 384 → ∃ r g b : Nat, r < 256 ∧ g < 256 ∧ b < 256 ∧ re k = nI r ∧ gr k = nI g ∧ bl k = nI b ∧ co k = cp_pk r g b
def ri_tex (tx : Nat → Int32) : Prop := ∀ k, k < 64 → ∃ r g b : Nat, r < 256 ∧ g < 256 ∧ b < 256 ∧ tx k = cp_pk r g b
def ri_ver (vx vy vz vq pl : Nat → Int32) : Prop := ∀ i, i < 24 → (vx i = pl (4 * i) ∧ vy i = pl (4 * i + 1) ∧ vz i = pl (4 * i + 2) ∧ vq i = pl (4 * i + 3)) ∧ ca_in (vx i) ∧ ca_in (vy i) ∧ (0 ≤ (vz i).toInt ∧ (vz i).toInt ≤ 1023) ∧ (1 ≤ (vq i).toInt ∧ (vq i).toInt ≤ 64)
def ri_06 (x : Int32) : Prop := x = 0 ∨ x = 1 ∨ x = 2 ∨ x = 3 ∨ x = 4 ∨ x = 5
def ri_set (gs : Nat → Int32) : Prop := (gs 7 = 0 ∨ gs 7 = 1 ∨ gs 7 = 2 ∨ gs 7 = 3 ∨ gs 7 = 4) ∧ ri_06 (gs 4) ∧ ri_06 (gs 5) ∧ ri_06 (gs 6)
def ri_one (o d a b : Int32) : Prop := (∃ n : Nat, n < 10 ∧ o = nI n) ∧ (¬ o = 9 → ∃ n : Nat, n < 8 ∧ d = nI n) ∧ (¬ o = 8 → ∃ n : Nat, n < 8 ∧ a = nI n) ∧ (¬ o = 0 → ¬ o = 8 → ¬ o = 9 → ∃ n : Nat, n < 8 ∧ b = nI n)
def ri_stp (ns : Nat) (so sd sa sq : Nat → Int32) : Prop := ∀ i, i < ns → ri_one (so i) (sd i) (sa i) (sq i)
def ri_all (ns sl st sw sh : Nat) (co tx vx vy vz vq gs so sd sa sq re gr bl pl : Nat → Int32) : Prop :=
  (ns ≤ 10 ∧ sl + sw ≤ 24 ∧ st + sh ≤ 16) ∧ ri_col co re gr bl ∧ ri_tex tx ∧ ri_ver vx vy vz vq pl ∧ ri_set gs ∧ ri_stp ns so sd sa sq
def i_Rel (_ : Nat) (u : SX) (v : SY) : Prop := ∃ (ns sl st sw sh : Nat) (KE CA CB CC FL WA WB WC VA VB VC LA ZZ : Int32) (co de sn tx vx vy vz vq vv gs cn so sd sa sq rx re gr bl pl ry : Nat → Int32),
  u = (nI ns, nI sl, nI st, nI (sl + sw), nI (st + sh), KE, CA, CB, CC, FL, WA, WB, WC, co, de, sn, tx, vx, vy, vz, vq, vv, gs, cn, so, sd, sa, sq, rx) ∧ v = (nI sl, nI st, nI sw, nI sh, nI ns, KE, VA, VB, VC, LA, ZZ, re, gr, bl, de, sn, tx, pl, vv, gs, so, sd, sa, sq, cn, ry) ∧ ri_all ns sl st sw sh co tx vx vy vz vq gs so sd sa sq re gr bl pl
/-! one pixel written under a mask -/
def wm_p (m : Int32) : Bool := decide (¬ (m &&& 1) = 0)
def wm_q (m : Int32) : Bool := decide (¬ (m &&& 2) = 0)
def wm_s (m : Int32) : Bool := decide (¬ (m &&& 4) = 0)
def wm_f (m o n : Int32) : Int32 := (o &&& (cp_bits (wm_p m) (wm_q m) (wm_s m) ^^^ (-1))) ||| (n &&& cp_bits (wm_p m) (wm_q m) (wm_s m))
theorem ri_colW {co re gr bl : Nat → Int32} (h : ri_col co re gr bl) {k r' g' b' : Nat} (hr' : r' < 256) (hg' : g' < 256) (hb' : b' < 256) (m : Int32) : ri_col (upd co k (wm_f m (co k) (cp_pk r' g' b'))) (if wm_p m then upd re k (nI r') else re) (if wm_q m then upd gr k (nI g') else gr) (if wm_s m then upd bl k (nI b') else bl) := by
  unfold wm_f
  generalize wm_p m = p
  generalize wm_q m = q
  generalize wm_s m = s
  intro j hj
  obtain ⟨r, g, b, hr, hg, hb, er, eg, eb, ec⟩ := h j hj
  by_cases e : j = k
  · subst e
    refine ⟨if p then r' else r, if q then g' else g, if s then b' else b, by cases p <;> assumption, by cases q <;> assumption, by cases s <;> assumption, ?_, ?_, ?_, ?_⟩
    · cases p
      · exact er
      · exact pk_us
    · cases q
      · exact eg
      · exact pk_us
    · cases s
      · exact eb
      · exact pk_us
    · rw [pk_us, ec, cp_mask hr hg hb hr' hg' hb']
  · refine ⟨r, g, b, hr, hg, hb, ?_, ?_, ?_, ?_⟩
    · cases p
      · exact er
      · exact (pk_un e).trans er
    · cases q
      · exact eg
      · exact (pk_un e).trans eg
    · cases s
      · exact eb
      · exact (pk_un e).trans eb
    · exact (pk_un e).trans ec
theorem ri_verU {vx vy vz vq pl : Nat → Int32} (h : ri_ver vx vy vz vq pl) {I : Nat} {x y z q : Int32} (hx : ca_in x) (hy : ca_in y) (hz : 0 ≤ z.toInt ∧ z.toInt ≤ 1023) (hq : 1 ≤ q.toInt ∧ q.toInt ≤ 64) : ri_ver (upd vx I x) (upd vy I y) (upd vz I z) (upd vq I q) (upd (upd (upd (upd pl (4 * I) x) (4 * I + 1) y) (4 * I + 2) z) (4 * I + 3) q) := by
  intro i hi
  by_cases e : i = I
  · subst e
    rw [pk_us, pk_us, pk_us, pk_us]
    refine ⟨⟨?_, ?_, ?_, ?_⟩, hx, hy, hz, hq⟩
    · rw [pk_un (by omega), pk_un (by omega), pk_un (by omega), pk_us]
    · rw [pk_un (by omega), pk_un (by omega), pk_us]
    · rw [pk_un (by omega), pk_us]
    · rw [pk_us]
  · rw [pk_un e, pk_un e, pk_un e, pk_un e]
    obtain ⟨⟨a, b, c, d⟩, r⟩ := h i hi
    refine ⟨⟨?_, ?_, ?_, ?_⟩, r⟩
    · rw [pk_un (by omega), pk_un (by omega), pk_un (by omega), pk_un (by omega)]
      exact a
    · rw [pk_un (by omega), pk_un (by omega), pk_un (by omega), pk_un (by omega)]
      exact b
    · rw [pk_un (by omega), pk_un (by omega), pk_un (by omega), pk_un (by omega)]
      exact c
    · rw [pk_un (by omega), pk_un (by omega), pk_un (by omega), pk_un (by omega)]
      exact d
theorem ri_texU {tx : Nat → Int32} (h : ri_tex tx) {k v : Nat} (hv : v < 16777216) : ri_tex (upd tx k (nI v)) := by
  intro j hj
  by_cases e : j = k
  · subst e
    obtain ⟨r, g, b, hr, hg, hb, ev⟩ := cp_of hv
    exact ⟨r, g, b, hr, hg, hb, pk_us.trans ev⟩
  · obtain ⟨r, g, b, hr, hg, hb, ev⟩ := h j hj
    exact ⟨r, g, b, hr, hg, hb, (pk_un e).trans ev⟩
theorem ri_stpU {ns : Nat} {so sd sa sq : Nat → Int32} (h : ri_stp ns so sd sa sq) {o d a b : Int32} (h1 : ri_one o d a b) : ri_stp (ns + 1) (upd so ns o) (upd sd ns d) (upd sa ns a) (upd sq ns b) := by
  intro i hi
  by_cases e : i = ns
  · subst e
    rw [pk_us, pk_us, pk_us, pk_us]
    exact h1
  · rw [pk_un e, pk_un e, pk_un e, pk_un e]
    exact h i (by omega)
theorem ri_stpK {ns n : Nat} {so sd sa sq : Nat → Int32} (h : ri_stp ns so sd sa sq) (hn : n ≤ ns) : ri_stp n so sd sa sq := fun i hi => h i (by omega)
/-! the error that is kept -/
def ke_f (k e : Int32) : Int32 := if k = 0 then e else k
/-! what a pixel's tests, blending and program reckon -/
def sc_f (op ref old : Int32) : Int32 := if op = 1 then 0 else if op = 2 then ref else if op = 3 then (if old < 15 then old + 1 else 15) else if op = 4 then (if 0 < old then old - 1 else 0) else if op = 5 then 15 - old else old
def cm_p (how l r : Int32) : Bool := if how = 0 then false else if how = 1 then decide (l < r) else if how = 2 then decide (l = r) else if how = 3 then decide (l ≤ r) else if how = 4 then decide (r < l) else if how = 5 then decide (¬ l = r) else if how = 6 then decide (r ≤ l) else true
def bl_f (m n o a : Int32) : Int32 := if m = 1 then (n * a + o * (255 - a)) / 255 else if m = 2 then (if 255 < n + o then 255 else n + o) else if m = 3 then n * o / 255 else if m = 4 then (if n < o then o - n else 0) else n
theorem bl_r (m : Int32) {n o a : Nat} (hn : n < 256) (ho : o < 256) (ha : a < 256) : ∃ k, k < 256 ∧ bl_f m (nI n) (nI o) (nI a) = nI k := by
  unfold bl_f
  split
  · exact bl_1 hn ho ha
  · split
    · rw [nI_add]
      split
      · exact ⟨255, by decide, rfl⟩
      · next h =>
        have h' : ¬ 255 < n + o := fun z => h (nI_lt (a := 255) z (by omega))
        exact ⟨n + o, by omega, rfl⟩
    · split
      · exact bl_3 hn ho
      · split
        · split
          · next h =>
            have h' : n < o := (nI_ltI (by omega) (by omega)).mp h
            exact ⟨o - n, by omega, pk_sub (by omega)⟩
          · exact ⟨0, by decide, rfl⟩
        · exact ⟨n, hn, rfl⟩
def op_f (o d a b : Int32) : Int32 := if o = 0 then a else if o = 1 then a + b else if o = 2 then a - b else if o = 3 then (a * b) >>> ((8 : Int32) &&& 31) else if o = 4 then (if a < b then a else b) else if o = 5 then (if b < a then a else b) else if o = 6 then (if d < 0 then a else b) else d
def ag_r (n : Nat) (rx ry : Nat → Int32) : Prop := ∀ j, j < n → rx j = ry j
theorem ag_u {n : Nat} {rx ry : Nat → Int32} (h : ag_r n rx ry) (k : Nat) (v : Int32) : ag_r n (upd rx k v) (upd ry k v) := by
  intro j hj
  unfold upd
  split
  · rfl
  · exact h j hj
/-! the cover of a pixel -/
def cv_h (vx vy : Nat → Int32) (f t : Nat) : Prop := vy t - vy f < 0 ∨ (vy t - vy f = 0 ∧ 0 < vx t - vx f)
def cv_1 (vx vy : Nat → Int32) (w : Int32) (f t : Nat) : Prop := 0 ≤ w ∧ (w = 0 → cv_h vx vy f t)
def cv_w (vx vy : Nat → Int32) (a b : Nat) (x y : Int32) : Int32 := (vx b - vx a) * (y - vy a) - (vy b - vy a) * (x - vx a)
def cv_a (vx vy : Nat → Int32) (a b c : Nat) (x y : Int32) : Prop := cv_1 vx vy (cv_w vx vy b c x y) b c ∧ cv_1 vx vy (cv_w vx vy c a x y) c a ∧ cv_1 vx vy (cv_w vx vy a b x y) a b
def fd_f (s d : Int64) : Int32 := if d ≤ 0 then 0 else if s < s / d * d then (s / d - 1).toInt32 else (s / d).toInt32
end
section
/-! small methods of both sides, each with a general post -/
theorem n10 : ¬ (1 : Int32) = 0 := by decide
theorem ix_a {x y : Int32} {n : Nat} (e : x = nI n) (k : Nat) (hy : y = nI k) : x + y = nI (n + k) := by
  subst e hy
  exact nI_add n k
theorem ix_m {x y : Int32} {n : Nat} (e : x = nI n) (k : Nat) (hy : y = nI k) : x * y = nI (n * k) := by
  subst e hy
  exact pk_mul n k
theorem ix_p {x : Int32} {n : Nat} (N : Nat) (e : x = nI n) (h : n < N) (hN : N < 2147483648) : vp_in x N ∧ x.toNatClampNeg = n := ⟨pk_in n N h e hN, pk_cl n e (by omega)⟩
section SM
variable {NS SL ST SR SB KE CA CB CC FL WA WB WC : Int32} {co de sn tx vx vy vz vq vv gs cn so sd sa sq rx : Nat → Int32}
variable {LE TO WI HI VA VB VC LA ZZ : Int32} {re gr bl pl ry : Nat → Int32}
theorem mx_btw {post : Int32 → Prop} {v l h : Int32} (t : l ≤ v ∧ v ≤ h → post 1) (f : ¬ (l ≤ v ∧ v ≤ h) → post 0) : wpX_isBetween post v l h :=
  br_c (fun a => f (fun z => absurd a (Int32.not_lt.mpr z.1))) (fun a => br_c (fun b => f (fun z => absurd b (Int32.not_lt.mpr z.2))) (fun b => t ⟨Int32.not_lt.mp a, Int32.not_lt.mp b⟩))
theorem my_in {post : Int32 → Prop} {v l h : Int32} (t : l ≤ v ∧ v ≤ h → post 1) (f : ¬ (l ≤ v ∧ v ≤ h) → post 0) : wpY_in post v l h :=
  br_c (fun a => f (fun z => absurd a (Int32.not_lt.mpr z.1))) (fun a => br_c (fun b => f (fun z => absurd b (Int32.not_lt.mpr z.2))) (fun b => t ⟨Int32.not_lt.mp a, Int32.not_lt.mp b⟩))
theorem mx_isV {post : Int32 → Prop} {v : Int32} (t : (0 : Int32) ≤ v ∧ v ≤ 23 → post 1) (f : ¬ ((0 : Int32) ≤ v ∧ v ≤ 23) → post 0) : wpX_isVertex post v :=
  br_c (fun a => f (fun z => absurd a (Int32.not_lt.mpr z.1))) (fun a => br_c (fun b => f (fun z => absurd (ic_lt24.mpr z.2) (Int32.not_lt.mpr b))) (fun b => t ⟨Int32.not_lt.mp a, ic_lt24.mp (Int32.not_le.mp b)⟩))
theorem mx_isR {post : Int32 → Prop} {v : Int32} (t : (0 : Int32) ≤ v ∧ v ≤ 7 → post 1) (f : ¬ ((0 : Int32) ≤ v ∧ v ≤ 7) → post 0) : wpX_isRegister post v :=
  br_c (fun a => f (fun z => absurd a (Int32.not_lt.mpr z.1))) (fun a => br_c (fun b => f (fun z => absurd (ic_lt8.mpr z.2) (Int32.not_lt.mpr b))) (fun b => t ⟨Int32.not_lt.mp a, ic_lt8.mp (Int32.not_le.mp b)⟩))
theorem mx_isS {post : Int32 → Prop} {x y : Int32} (t : ((0 : Int32) ≤ x ∧ x ≤ 23) ∧ ((0 : Int32) ≤ y ∧ y ≤ 15) → post 1) (f : ¬ (((0 : Int32) ≤ x ∧ x ≤ 23) ∧ ((0 : Int32) ≤ y ∧ y ≤ 15)) → post 0) : wpX_isOnScreen post x y :=
  br_c (fun a => f (fun z => absurd a (Int32.not_lt.mpr z.1.1))) (fun a => br_c (fun b => f (fun z => absurd (ic_lt24.mpr z.1.2) (Int32.not_lt.mpr b))) (fun b =>
  br_c (fun c => f (fun z => absurd c (Int32.not_lt.mpr z.2.1))) (fun c => br_c (fun d => f (fun z => absurd (ic_lt16.mpr z.2.2) (Int32.not_lt.mpr d))) (fun d => t ⟨⟨Int32.not_lt.mp a, ic_lt24.mp (Int32.not_le.mp b)⟩, ⟨Int32.not_lt.mp c, ic_lt16.mp (Int32.not_le.mp d)⟩⟩))))
theorem mx_keep {post : SX → Prop} {e : Int32} (h : post (NS, SL, ST, SR, SB, ke_f KE e, CA, CB, CC, FL, WA, WB, WC, co, de, sn, tx, vx, vy, vz, vq, vv, gs, cn, so, sd, sa, sq, rx)) : wpX_keepError post (NS, SL, ST, SR, SB, KE, CA, CB, CC, FL, WA, WB, WC, co, de, sn, tx, vx, vy, vz, vq, vv, gs, cn, so, sd, sa, sq, rx) e := by
  unfold ke_f at h
  by_cases k : KE = 0
  · rw [if_pos k] at h
    exact br_t k h
  · rw [if_neg k] at h
    exact br_f k h
theorem mx_refuse {post : Int32 → SX → Prop} {e : Int32} (h : post 0 (NS, SL, ST, SR, SB, ke_f KE e, CA, CB, CC, FL, WA, WB, WC, co, de, sn, tx, vx, vy, vz, vq, vv, gs, cn, so, sd, sa, sq, rx)) : wpX_refuse post (NS, SL, ST, SR, SB, KE, CA, CB, CC, FL, WA, WB, WC, co, de, sn, tx, vx, vy, vz, vq, vv, gs, cn, so, sd, sa, sq, rx) e := by
  unfold wpX_refuse
  exact mx_keep h
theorem my_fails {post : Int32 → SY → Prop} {e : Int32} (h : post 0 (LE, TO, WI, HI, NS, ke_f KE e, VA, VB, VC, LA, ZZ, re, gr, bl, de, sn, tx, pl, vv, gs, so, sd, sa, sq, cn, ry)) : wpY_fails post (LE, TO, WI, HI, NS, KE, VA, VB, VC, LA, ZZ, re, gr, bl, de, sn, tx, pl, vv, gs, so, sd, sa, sq, cn, ry) e := by
  unfold ke_f at h
  by_cases k : KE = 0
  · rw [if_pos k] at h
    exact br_t k h
  · rw [if_neg k] at h
    exact br_f k h
theorem my_none {post : Int32 → SY → Prop} {e : Int32} (h : post (-1) (LE, TO, WI, HI, NS, ke_f KE e, VA, VB, VC, LA, ZZ, re, gr, bl, de, sn, tx, pl, vv, gs, so, sd, sa, sq, cn, ry)) : wpY_none post (LE, TO, WI, HI, NS, KE, VA, VB, VC, LA, ZZ, re, gr, bl, de, sn, tx, pl, vv, gs, so, sd, sa, sq, cn, ry) e := by
  unfold ke_f at h
  by_cases k : KE = 0
  · rw [if_pos k] at h
    exact br_t k h
  · rw [if_neg k] at h
    exact br_f k h
/-! comparing, wrapping, channels -/
theorem mx_cmp {post : Int32 → Prop} {how l r : Int32} (t : cm_p how l r = true → post 1) (f : ¬ cm_p how l r = true → post 0) : wpX_compares post how l r := by
  unfold cm_p at t f
  unfold wpX_compares
  by_cases h0 : how < 0
  · refine br_t h0 (t ?_)
    have e : ∀ c : Int32, 0 ≤ c → ¬ how = c := fun c hc z => absurd h0 (Int32.not_lt.mpr (z ▸ hc))
    rw [if_neg (e 0 (by decide)), if_neg (e 1 (by decide)), if_neg (e 2 (by decide)), if_neg (e 3 (by decide)), if_neg (e 4 (by decide)), if_neg (e 5 (by decide)), if_neg (e 6 (by decide))]
  · refine br_f h0 ?_
    by_cases h6 : 6 < how
    · refine br_t h6 (t ?_)
      have e : ∀ c : Int32, c ≤ 6 → ¬ how = c := fun c hc z => absurd h6 (Int32.not_lt.mpr (z ▸ hc))
      rw [if_neg (e 0 (by decide)), if_neg (e 1 (by decide)), if_neg (e 2 (by decide)), if_neg (e 3 (by decide)), if_neg (e 4 (by decide)), if_neg (e 5 (by decide)), if_neg (e 6 (by decide))]
    · refine br_f h6 ?_
      obtain ⟨n, hn, rfl⟩ := nI_of2 (M := 6) (n := 6) (by decide) h0 (Int32.not_lt.mp h6)
      have c : n = 0 ∨ n = 1 ∨ n = 2 ∨ n = 3 ∨ n = 4 ∨ n = 5 ∨ n = 6 := by omega
      rcases c with rfl | rfl | rfl | rfl | rfl | rfl | rfl
      · exact br_t rfl (f (by rw [if_pos (show nI 0 = 0 from rfl)]; decide))
      · refine br_f (by decide) (br_t rfl (br_c (fun h => f ?_) (fun h => t ?_)))
        · exact fun z => absurd (of_decide_eq_true z) (Int32.not_lt.mpr h)
        · exact decide_eq_true (Int32.not_le.mp h)
      · refine br_f (by decide) (br_f (by decide) (br_t rfl (br_c (fun h => t ?_) (fun h => f ?_))))
        · exact decide_eq_true h
        · exact fun z => h (of_decide_eq_true z)
      · refine br_f (by decide) (br_f (by decide) (br_f (by decide) (br_t rfl (br_c (fun h => f ?_) (fun h => t ?_)))))
        · exact fun z => absurd h (Int32.not_lt.mpr (of_decide_eq_true z))
        · exact decide_eq_true (Int32.not_lt.mp h)
      · refine br_f (by decide) (br_f (by decide) (br_f (by decide) (br_f (by decide) (br_t rfl (br_c (fun h => f ?_) (fun h => t ?_))))))
        · exact fun z => absurd (of_decide_eq_true z) (Int32.not_lt.mpr h)
        · exact decide_eq_true (Int32.not_le.mp h)
      · refine br_f (by decide) (br_f (by decide) (br_f (by decide) (br_f (by decide) (br_f (by decide) (br_t rfl (br_c (fun h => f ?_) (fun h => t ?_)))))))
        · exact fun z => (of_decide_eq_true z) h
        · exact decide_eq_true h
      · refine br_f (by decide) (br_f (by decide) (br_f (by decide) (br_f (by decide) (br_f (by decide) (br_f (by decide) (br_t rfl (br_c (fun h => f ?_) (fun h => t ?_))))))))
        · exact fun z => absurd h (Int32.not_lt.mpr (of_decide_eq_true z))
        · exact decide_eq_true (Int32.not_lt.mp h)
theorem my_cmp {post : Int32 → Prop} {how l r : Int32} (t : cm_p how l r = true → post 1) (f : ¬ cm_p how l r = true → post 0) : wpY_compare post how l r := mx_cmp (post := post) t f
theorem mx_wrap {post : Int32 → Prop} {v : Int32} (h : post (pw_w (gs 10) v)) : wpX_wrapped post (NS, SL, ST, SR, SB, KE, CA, CB, CC, FL, WA, WB, WC, co, de, sn, tx, vx, vy, vz, vq, vv, gs, cn, so, sd, sa, sq, rx) v := by
  unfold pw_w at h
  refine nm_e (br_c (fun a => ?_) (fun a => br_c (fun b => br_c (fun c => br_c (fun d => ?_) (fun d => ?_)) (fun c => ?_)) (fun b => nm_e (br_c (fun c => ?_) (fun c => ?_)))))
  · rw [if_pos a] at h
    exact h
  · rw [if_neg a, if_pos b, if_neg (Int32.not_lt.mpr c), if_neg (Int32.not_lt.mpr d)] at h
    exact h
  · rw [if_neg a, if_pos b, if_neg (Int32.not_lt.mpr c), if_pos (Int32.not_le.mp d)] at h
    exact h
  · rw [if_neg a, if_pos b, if_pos (Int32.not_le.mp c)] at h
    exact h
  · rw [if_neg a, if_neg b, if_neg (Int32.not_lt.mpr c)] at h
    exact h
  · rw [if_neg a, if_neg b, if_pos (Int32.not_le.mp c)] at h
    exact h
theorem my_wrap {post : Int32 → Prop} {v : Int32} (h : post (pw_w (gs 10) v)) : wpY_wrapped post (LE, TO, WI, HI, NS, KE, VA, VB, VC, LA, ZZ, re, gr, bl, de, sn, tx, pl, vv, gs, so, sd, sa, sq, cn, ry) v := by
  unfold pw_w at h
  refine br_c (fun a => ?_) (fun a => br_c (fun b => br_c (fun c => br_c (fun d => ?_) (fun d => ?_)) (fun c => ?_)) (fun b => nm_e (br_c (fun c => ?_) (fun c => ?_))))
  · rw [if_pos a] at h
    exact h
  · rw [if_neg a, if_pos b, if_neg (Int32.not_lt.mpr c), if_neg (Int32.not_lt.mpr d)] at h
    exact h
  · rw [if_neg a, if_pos b, if_neg (Int32.not_lt.mpr c), if_pos (Int32.not_le.mp d)] at h
    exact h
  · rw [if_neg a, if_pos b, if_pos (Int32.not_le.mp c)] at h
    exact h
  · rw [if_neg a, if_neg b, if_neg (Int32.not_lt.mpr c)] at h
    exact h
  · rw [if_neg a, if_neg b, if_pos (Int32.not_le.mp c)] at h
    exact h
theorem mx_chan {post : Int32 → Prop} {v : Int32} (h : post (ac_f v)) : wpX_asChannel post v := by
  unfold ac_f at h
  refine br_c (fun c => br_c (fun d => ?_) (fun d => ?_)) (fun c => ?_)
  · rw [if_neg (Int32.not_lt.mpr c), if_neg (Int32.not_lt.mpr d)] at h
    exact h
  · rw [if_neg (Int32.not_lt.mpr c), if_pos (Int32.not_le.mp d)] at h
    exact h
  · rw [if_pos (Int32.not_le.mp c)] at h
    exact h
end SM
end
section
/-! one pixel behind the program: tests, stencil, depth, blending, masks -/
theorem wm_p0 {m : Int32} (a : (m &&& 1) = 0) : wm_p m = false := decide_eq_false (fun z => z a)
theorem wm_p1 {m : Int32} (a : ¬ (m &&& 1) = 0) : wm_p m = true := decide_eq_true a
theorem wm_q0 {m : Int32} (a : (m &&& 2) = 0) : wm_q m = false := decide_eq_false (fun z => z a)
theorem wm_q1 {m : Int32} (a : ¬ (m &&& 2) = 0) : wm_q m = true := decide_eq_true a
theorem wm_s0 {m : Int32} (a : (m &&& 4) = 0) : wm_s m = false := decide_eq_false (fun z => z a)
theorem wm_s1 {m : Int32} (a : ¬ (m &&& 4) = 0) : wm_s m = true := decide_eq_true a
def bc_f (m : Int32) (r : Nat → Int32) (c : Int32) : Int32 := ((bl_f m (ac_f (r 0)) ((c >>> ((16 : Int32) &&& 31)) &&& 255) (ac_f (r 3)) <<< ((16 : Int32) &&& 31)) ||| (bl_f m (ac_f (r 1)) ((c >>> ((8 : Int32) &&& 31)) &&& 255) (ac_f (r 3)) <<< ((8 : Int32) &&& 31))) ||| bl_f m (ac_f (r 2)) (c &&& 255) (ac_f (r 3))
section PIX
variable {NS SL ST SR SB KE CA CB CC FL WA WB WC : Int32} {co de sn tx vx vy vz vq vv gs cn so sd sa sq rx : Nat → Int32}
variable {LE TO WI HI VA VB VC LA ZZ : Int32} {re gr bl pl ry : Nat → Int32}
theorem mx_wcol {post : SX → Prop} {i c : Int32} (vi : vp_in i 384) (h : post (NS, SL, ST, SR, SB, KE, CA, CB, CC, FL, WA, WB, WC, upd co i.toNatClampNeg (wm_f (gs 8) (co i.toNatClampNeg) c), de, sn, tx, vx, vy, vz, vq, vv, gs, cn, so, sd, sa, sq, rx)) : wpX_writeColour post (NS, SL, ST, SR, SB, KE, CA, CB, CC, FL, WA, WB, WC, co, de, sn, tx, vx, vy, vz, vq, vv, gs, cn, so, sd, sa, sq, rx) i c := by
  have H : ∀ m : Int32, m = cp_bits (wm_p (gs 8)) (wm_q (gs 8)) (wm_s (gs 8)) → wX_writeColour_51 post i c m NS SL ST SR SB KE CA CB CC FL WA WB WC co de sn tx vx vy vz vq vv gs cn so sd sa sq rx := by
    intro m hm
    refine ⟨vi, vi, nm_r (e' := upd co i.toNatClampNeg (wm_f (gs 8) (co i.toNatClampNeg) c)) ?_ h⟩
    rw [hm]
    rfl
  refine nm_e (br_c (fun a => ?_) (fun a => nm_e ?_))
  · refine br_c (fun b => ?_) (fun b => nm_e ?_)
    · exact br_c (fun d => H _ (by rw [wm_p0 a, wm_q0 b, wm_s0 d]; decide)) (fun d => nm_e (H _ (by rw [wm_p0 a, wm_q0 b, wm_s1 d]; decide)))
    · exact br_c (fun d => H _ (by rw [wm_p0 a, wm_q1 b, wm_s0 d]; decide)) (fun d => nm_e (H _ (by rw [wm_p0 a, wm_q1 b, wm_s1 d]; decide)))
  · refine br_c (fun b => ?_) (fun b => nm_e ?_)
    · exact br_c (fun d => H _ (by rw [wm_p1 a, wm_q0 b, wm_s0 d]; decide)) (fun d => nm_e (H _ (by rw [wm_p1 a, wm_q0 b, wm_s1 d]; decide)))
    · exact br_c (fun d => H _ (by rw [wm_p1 a, wm_q1 b, wm_s0 d]; decide)) (fun d => nm_e (H _ (by rw [wm_p1 a, wm_q1 b, wm_s1 d]; decide)))
theorem mx_wdep {post : SX → Prop} {i z : Int32} (vi : vp_in i 384) (h : post (NS, SL, ST, SR, SB, KE, CA, CB, CC, FL, WA, WB, WC, co, if gs 1 = 1 then upd de i.toNatClampNeg z else de, sn, tx, vx, vy, vz, vq, vv, gs, cn, so, sd, sa, sq, rx)) : wpX_writeDepth post (NS, SL, ST, SR, SB, KE, CA, CB, CC, FL, WA, WB, WC, co, de, sn, tx, vx, vy, vz, vq, vv, gs, cn, so, sd, sa, sq, rx) i z := by
  by_cases a : gs 1 = 1
  · rw [if_pos a] at h
    exact br_t a ⟨vi, nm_e h⟩
  · rw [if_neg a] at h
    exact br_f a h
theorem mx_chs {post : SX → Prop} {i o : Int32} (vi : vp_in i 384) (h : post (NS, SL, ST, SR, SB, KE, CA, CB, CC, FL, WA, WB, WC, co, de, upd sn i.toNatClampNeg (sc_f o (gs 3) (sn i.toNatClampNeg)), tx, vx, vy, vz, vq, vv, gs, cn, so, sd, sa, sq, rx)) : wpX_changeStencil post (NS, SL, ST, SR, SB, KE, CA, CB, CC, FL, WA, WB, WC, co, de, sn, tx, vx, vy, vz, vq, vv, gs, cn, so, sd, sa, sq, rx) i o := by
  unfold sc_f at h
  refine ⟨vi, nm_e ?_⟩
  by_cases h1 : o < 1
  · have e : ∀ c : Int32, 1 ≤ c → ¬ o = c := fun c hc z => absurd h1 (Int32.not_lt.mpr (z ▸ hc))
    rw [if_neg (e 1 (by decide)), if_neg (e 2 (by decide)), if_neg (e 3 (by decide)), if_neg (e 4 (by decide)), if_neg (e 5 (by decide)), up_self] at h
    exact br_t h1 h
  · by_cases h5 : 5 < o
    · have e : ∀ c : Int32, c ≤ 5 → ¬ o = c := fun c hc z => absurd h5 (Int32.not_lt.mpr (z ▸ hc))
      rw [if_neg (e 1 (by decide)), if_neg (e 2 (by decide)), if_neg (e 3 (by decide)), if_neg (e 4 (by decide)), if_neg (e 5 (by decide)), up_self] at h
      exact br_f h1 (br_t h5 h)
    · refine br_f h1 (br_f h5 ?_)
      by_cases e1 : o = 1
      · rw [if_pos e1] at h
        exact br_t e1 ⟨vi, nm_e h⟩
      · rw [if_neg e1] at h
        refine br_f e1 ?_
        by_cases e2 : o = 2
        · rw [if_pos e2] at h
          exact br_t e2 ⟨vi, nm_e h⟩
        · rw [if_neg e2] at h
          refine br_f e2 ?_
          by_cases e3 : o = 3
          · rw [if_pos e3] at h
            refine br_t e3 (br_c (fun a => ?_) (fun a => ?_))
            · rw [if_neg (Int32.not_lt.mpr a)] at h
              exact ⟨vi, nm_e h⟩
            · rw [if_pos (Int32.not_le.mp a)] at h
              exact ⟨vi, nm_e h⟩
          · rw [if_neg e3] at h
            refine br_f e3 ?_
            by_cases e4 : o = 4
            · rw [if_pos e4] at h
              refine br_t e4 (br_c (fun a => ?_) (fun a => ?_))
              · rw [if_neg (Int32.not_lt.mpr a)] at h
                exact ⟨vi, nm_e h⟩
              · rw [if_pos (Int32.not_le.mp a)] at h
                exact ⟨vi, nm_e h⟩
            · rw [if_neg e4] at h
              refine br_f e4 ?_
              by_cases e5 : o = 5
              · rw [if_pos e5] at h
                exact br_t e5 ⟨vi, nm_e h⟩
              · exact br_f e5 trivial
theorem my_chs {post : SY → Prop} {i o : Int32} (vi : vp_in i 384) (ho : ri_06 o) (h : post (LE, TO, WI, HI, NS, KE, VA, VB, VC, LA, ZZ, re, gr, bl, de, upd sn i.toNatClampNeg (sc_f o (gs 3) (sn i.toNatClampNeg)), tx, pl, vv, gs, so, sd, sa, sq, cn, ry)) : wpY_change post (LE, TO, WI, HI, NS, KE, VA, VB, VC, LA, ZZ, re, gr, bl, de, sn, tx, pl, vv, gs, so, sd, sa, sq, cn, ry) i o := by
  unfold sc_f at h
  refine ⟨vi, nm_e ?_⟩
  by_cases e0 : o = 0
  · have e : ∀ c : Int32, ¬ (0 : Int32) = c → ¬ o = c := fun c hc z => hc (e0.symm.trans z)
    rw [if_neg (e 1 (by decide)), if_neg (e 2 (by decide)), if_neg (e 3 (by decide)), if_neg (e 4 (by decide)), if_neg (e 5 (by decide))] at h
    exact br_t e0 ⟨vi, nm_e h⟩
  · refine br_f e0 ?_
    by_cases e1 : o = 1
    · rw [if_pos e1] at h
      exact br_t e1 ⟨vi, nm_e h⟩
    · rw [if_neg e1] at h
      refine br_f e1 ?_
      by_cases e2 : o = 2
      · rw [if_pos e2] at h
        exact br_t e2 ⟨vi, nm_e h⟩
      · rw [if_neg e2] at h
        refine br_f e2 ?_
        by_cases e3 : o = 3
        · rw [if_pos e3] at h
          refine br_t e3 (br_c (fun a => ?_) (fun a => ?_))
          · rw [if_neg (Int32.not_lt.mpr a)] at h
            exact ⟨vi, nm_e h⟩
          · rw [if_pos (Int32.not_le.mp a)] at h
            exact ⟨vi, nm_e h⟩
        · rw [if_neg e3] at h
          refine br_f e3 ?_
          by_cases e4 : o = 4
          · rw [if_pos e4] at h
            refine br_t e4 (br_c (fun a => ?_) (fun a => ?_))
            · rw [if_neg (Int32.not_lt.mpr a)] at h
              exact ⟨vi, nm_e h⟩
            · rw [if_pos (Int32.not_le.mp a)] at h
              exact ⟨vi, nm_e h⟩
          · rw [if_neg e4] at h
            refine br_f e4 ?_
            have e5 : o = 5 := by
              rcases ho with q | q | q | q | q | q
              · exact absurd q e0
              · exact absurd q e1
              · exact absurd q e2
              · exact absurd q e3
              · exact absurd q e4
              · exact q
            rw [if_pos e5] at h
            exact ⟨vi, nm_e h⟩
theorem mx_bl {post : Int32 → Prop} {n o a : Int32} (h : post (bl_f (gs 7) n o a)) : wpX_blended post (NS, SL, ST, SR, SB, KE, CA, CB, CC, FL, WA, WB, WC, co, de, sn, tx, vx, vy, vz, vq, vv, gs, cn, so, sd, sa, sq, rx) n o a := by
  unfold bl_f at h
  refine nm_e ?_
  by_cases h1 : gs 7 < 1
  · have e : ∀ c : Int32, 1 ≤ c → ¬ gs 7 = c := fun c hc z => absurd h1 (Int32.not_lt.mpr (z ▸ hc))
    rw [if_neg (e 1 (by decide)), if_neg (e 2 (by decide)), if_neg (e 3 (by decide)), if_neg (e 4 (by decide))] at h
    exact br_t h1 h
  · by_cases h5 : 4 < gs 7
    · have e : ∀ c : Int32, c ≤ 4 → ¬ gs 7 = c := fun c hc z => absurd h5 (Int32.not_lt.mpr (z ▸ hc))
      rw [if_neg (e 1 (by decide)), if_neg (e 2 (by decide)), if_neg (e 3 (by decide)), if_neg (e 4 (by decide))] at h
      exact br_f h1 (br_t h5 h)
    · refine br_f h1 (br_f h5 ?_)
      by_cases e1 : gs 7 = 1
      · rw [if_pos e1] at h
        exact br_t e1 ⟨by decide, h⟩
      · rw [if_neg e1] at h
        refine br_f e1 ?_
        by_cases e2 : gs 7 = 2
        · rw [if_pos e2] at h
          refine br_t e2 (br_c (fun q => ?_) (fun q => ?_))
          · rw [if_neg (Int32.not_lt.mpr q)] at h
            exact h
          · rw [if_pos (Int32.not_le.mp q)] at h
            exact h
        · rw [if_neg e2] at h
          refine br_f e2 ?_
          by_cases e3 : gs 7 = 3
          · rw [if_pos e3] at h
            exact br_t e3 ⟨by decide, h⟩
          · rw [if_neg e3] at h
            refine br_f e3 ?_
            by_cases e4 : gs 7 = 4
            · rw [if_pos e4] at h
              refine br_t e4 (br_c (fun q => ?_) (fun q => ?_))
              · rw [if_neg (Int32.not_lt.mpr q)] at h
                exact h
              · rw [if_pos (Int32.not_le.mp q)] at h
                exact h
            · exact br_f e4 trivial
theorem my_bl {post : Int32 → Prop} {n o : Int32} (hs : gs 7 = 0 ∨ gs 7 = 1 ∨ gs 7 = 2 ∨ gs 7 = 3 ∨ gs 7 = 4) (h : post (bl_f (gs 7) n o (ry 3))) : wpY_blended post (LE, TO, WI, HI, NS, KE, VA, VB, VC, LA, ZZ, re, gr, bl, de, sn, tx, pl, vv, gs, so, sd, sa, sq, cn, ry) n o := by
  unfold bl_f at h
  rcases hs with e | e | e | e | e
  · refine nm_r e ?_
    rw [e, if_neg (by decide), if_neg (by decide), if_neg (by decide), if_neg (by decide)] at h
    exact br_f (by decide) (br_f (by decide) (br_t rfl h))
  · refine nm_r e ?_
    rw [e, if_pos rfl] at h
    exact br_f (by decide) (br_f (by decide) (br_f (by decide) (br_t rfl ⟨by decide, h⟩)))
  · refine nm_r e ?_
    rw [e, if_neg (by decide), if_pos rfl] at h
    refine br_f (by decide) (br_f (by decide) (br_f (by decide) (br_f (by decide) (br_t rfl (br_c (fun q => ?_) (fun q => ?_))))))
    · rw [if_neg (Int32.not_lt.mpr q)] at h
      exact h
    · rw [if_pos (Int32.not_le.mp q)] at h
      exact h
  · refine nm_r e ?_
    rw [e, if_neg (by decide), if_neg (by decide), if_pos rfl] at h
    exact br_f (by decide) (br_f (by decide) (br_f (by decide) (br_f (by decide) (br_f (by decide) (br_t rfl ⟨by decide, h⟩)))))
  · refine nm_r e ?_
    rw [e, if_neg (by decide), if_neg (by decide), if_neg (by decide), if_pos rfl] at h
    refine br_f (by decide) (br_t (by decide) (br_c (fun q => ?_) (fun q => ?_)))
    · rw [if_neg (Int32.not_lt.mpr q)] at h
      exact h
    · rw [if_pos (Int32.not_le.mp q)] at h
      exact h
theorem mx_bcol {post : Int32 → Prop} {c : Int32} (h : post (bc_f (gs 7) rx c)) : wpX_blendedColour post (NS, SL, ST, SR, SB, KE, CA, CB, CC, FL, WA, WB, WC, co, de, sn, tx, vx, vy, vz, vq, vv, gs, cn, so, sd, sa, sq, rx) c := by
  unfold wpX_blendedColour
  refine mx_chan ?_
  refine mx_chan ?_
  refine mx_chan ?_
  refine mx_chan ?_
  refine mx_bl ?_
  refine mx_bl ?_
  refine mx_bl ?_
  exact h
theorem mx_tests {post : Int32 → SX → Prop} {i z : Int32} (vi : vp_in i 384)
    (h1 : ¬ cm_p (gs 2) (gs 3) (sn i.toNatClampNeg) = true → post 0 (NS, SL, ST, SR, SB, KE, CA, CB, CC, FL, WA, WB, WC, co, de, upd sn i.toNatClampNeg (sc_f (gs 4) (gs 3) (sn i.toNatClampNeg)), tx, vx, vy, vz, vq, vv, gs, upd cn 2 (cn 2 + 1), so, sd, sa, sq, rx))
    (h2 : cm_p (gs 2) (gs 3) (sn i.toNatClampNeg) = true → ¬ cm_p (gs 0) z (de i.toNatClampNeg) = true → post 0 (NS, SL, ST, SR, SB, KE, CA, CB, CC, FL, WA, WB, WC, co, de, upd sn i.toNatClampNeg (sc_f (gs 5) (gs 3) (sn i.toNatClampNeg)), tx, vx, vy, vz, vq, vv, gs, upd cn 3 (cn 3 + 1), so, sd, sa, sq, rx))
    (h3 : cm_p (gs 2) (gs 3) (sn i.toNatClampNeg) = true → cm_p (gs 0) z (de i.toNatClampNeg) = true → post 1 (NS, SL, ST, SR, SB, KE, CA, CB, CC, FL, WA, WB, WC, co, de, upd sn i.toNatClampNeg (sc_f (gs 6) (gs 3) (sn i.toNatClampNeg)), tx, vx, vy, vz, vq, vv, gs, cn, so, sd, sa, sq, rx)) : wpX_passesTests post (NS, SL, ST, SR, SB, KE, CA, CB, CC, FL, WA, WB, WC, co, de, sn, tx, vx, vy, vz, vq, vv, gs, cn, so, sd, sa, sq, rx) i z := by
  unfold wpX_passesTests
  refine ⟨vi, ?_⟩
  refine mx_cmp (fun a => ?_) (fun a => ?_)
  · refine br_f n10 ⟨vi, ?_⟩
    refine mx_cmp (fun b => ?_) (fun b => ?_)
    · refine br_f n10 ?_
      exact mx_chs vi (h3 a b)
    · refine br_t rfl (nm_e ?_)
      exact mx_chs vi (h2 a b)
  · refine br_t rfl (nm_e ?_)
    exact mx_chs vi (h1 a)
end PIX
end
section
/-! the reference's test of a pixel, and its clamping of registers 0 to 3 -/
theorem bz_f : ¬ (false = true) := by decide
section TST
variable {LE TO WI HI NS KE VA VB VC LA ZZ : Int32} {re gr bl de sn tx pl vv gs so sd sa sq cn ry : Nat → Int32}
theorem my_t200 {post : SY → Prop} {i : Int32} (vi : vp_in i 384) (hs : gs 7 = 0 ∨ gs 7 = 1 ∨ gs 7 = 2 ∨ gs 7 = 3 ∨ gs 7 = 4) (h : post (LE, TO, WI, HI, NS, KE, VA, VB, VC, LA, ZZ, re, gr, if wm_s (gs 8) then upd bl i.toNatClampNeg (bl_f (gs 7) (ry 2) (bl i.toNatClampNeg) (ry 3)) else bl, de, sn, tx, pl, vv, gs, so, sd, sa, sq, cn, ry)) : wY_test_200 post i LE TO WI HI NS KE VA VB VC LA ZZ re gr bl de sn tx pl vv gs so sd sa sq cn ry := by
  by_cases a : (gs 8 &&& 4) = 0
  · rw [wm_s0 a, if_neg bz_f] at h
    exact br_t a h
  · rw [wm_s1 a, if_pos rfl] at h
    refine br_f a ⟨vi, ?_⟩
    exact my_bl hs ⟨vi, nm_e h⟩
theorem my_t166 {post : SY → Prop} {i : Int32} (vi : vp_in i 384) (hs : gs 7 = 0 ∨ gs 7 = 1 ∨ gs 7 = 2 ∨ gs 7 = 3 ∨ gs 7 = 4) (h : post (LE, TO, WI, HI, NS, KE, VA, VB, VC, LA, ZZ, re, if wm_q (gs 8) then upd gr i.toNatClampNeg (bl_f (gs 7) (ry 1) (gr i.toNatClampNeg) (ry 3)) else gr, if wm_s (gs 8) then upd bl i.toNatClampNeg (bl_f (gs 7) (ry 2) (bl i.toNatClampNeg) (ry 3)) else bl, de, sn, tx, pl, vv, gs, so, sd, sa, sq, cn, ry)) : wY_test_166 post i LE TO WI HI NS KE VA VB VC LA ZZ re gr bl de sn tx pl vv gs so sd sa sq cn ry := by
  by_cases a : (gs 8 &&& 2) = 0
  · rw [wm_q0 a, if_neg bz_f] at h
    exact br_t a (my_t200 vi hs h)
  · rw [wm_q1 a, if_pos rfl] at h
    refine br_f a ⟨vi, ?_⟩
    exact my_bl hs ⟨vi, nm_e (my_t200 vi hs h)⟩
theorem my_t132 {post : SY → Prop} {i : Int32} (vi : vp_in i 384) (hs : gs 7 = 0 ∨ gs 7 = 1 ∨ gs 7 = 2 ∨ gs 7 = 3 ∨ gs 7 = 4) (h : post (LE, TO, WI, HI, NS, KE, VA, VB, VC, LA, ZZ, if wm_p (gs 8) then upd re i.toNatClampNeg (bl_f (gs 7) (ry 0) (re i.toNatClampNeg) (ry 3)) else re, if wm_q (gs 8) then upd gr i.toNatClampNeg (bl_f (gs 7) (ry 1) (gr i.toNatClampNeg) (ry 3)) else gr, if wm_s (gs 8) then upd bl i.toNatClampNeg (bl_f (gs 7) (ry 2) (bl i.toNatClampNeg) (ry 3)) else bl, de, sn, tx, pl, vv, gs, so, sd, sa, sq, cn, ry)) : wY_test_132 post i LE TO WI HI NS KE VA VB VC LA ZZ re gr bl de sn tx pl vv gs so sd sa sq cn ry := by
  by_cases a : (gs 8 &&& 1) = 0
  · rw [wm_p0 a, if_neg bz_f] at h
    exact br_t a (my_t166 vi hs h)
  · rw [wm_p1 a, if_pos rfl] at h
    refine br_f a ⟨vi, ?_⟩
    exact my_bl hs ⟨vi, nm_e (my_t166 vi hs h)⟩
theorem my_test {post : SY → Prop} {i : Int32} (vi : vp_in i 384) (hs : ri_set gs)
    (h1 : ¬ cm_p (gs 2) (gs 3) (sn i.toNatClampNeg) = true → post (LE, TO, WI, HI, NS, KE, VA, VB, VC, LA, ZZ, re, gr, bl, de, upd sn i.toNatClampNeg (sc_f (gs 4) (gs 3) (sn i.toNatClampNeg)), tx, pl, vv, gs, so, sd, sa, sq, upd cn 2 (cn 2 + 1), ry))
    (h2 : cm_p (gs 2) (gs 3) (sn i.toNatClampNeg) = true → ¬ cm_p (gs 0) ZZ (de i.toNatClampNeg) = true → post (LE, TO, WI, HI, NS, KE, VA, VB, VC, LA, ZZ, re, gr, bl, de, upd sn i.toNatClampNeg (sc_f (gs 5) (gs 3) (sn i.toNatClampNeg)), tx, pl, vv, gs, so, sd, sa, sq, upd cn 3 (cn 3 + 1), ry))
    (h3 : cm_p (gs 2) (gs 3) (sn i.toNatClampNeg) = true → cm_p (gs 0) ZZ (de i.toNatClampNeg) = true → post (LE, TO, WI, HI, NS, KE, VA, VB, VC, LA, ZZ, if wm_p (gs 8) then upd re i.toNatClampNeg (bl_f (gs 7) (ry 0) (re i.toNatClampNeg) (ry 3)) else re, if wm_q (gs 8) then upd gr i.toNatClampNeg (bl_f (gs 7) (ry 1) (gr i.toNatClampNeg) (ry 3)) else gr, if wm_s (gs 8) then upd bl i.toNatClampNeg (bl_f (gs 7) (ry 2) (bl i.toNatClampNeg) (ry 3)) else bl, if gs 1 = 1 then upd de i.toNatClampNeg ZZ else de, upd sn i.toNatClampNeg (sc_f (gs 6) (gs 3) (sn i.toNatClampNeg)), tx, pl, vv, gs, so, sd, sa, sq, upd cn 4 (cn 4 + 1), ry)) : wpY_test post (LE, TO, WI, HI, NS, KE, VA, VB, VC, LA, ZZ, re, gr, bl, de, sn, tx, pl, vv, gs, so, sd, sa, sq, cn, ry) i := by
  unfold wpY_test
  refine ⟨vi, ?_⟩
  refine my_cmp (fun a => ?_) (fun a => ?_)
  · refine br_f n10 ⟨vi, ?_⟩
    refine my_cmp (fun b => ?_) (fun b => ?_)
    · refine br_f n10 (nm_e ?_)
      refine my_chs vi hs.2.2.2 ?_
      have h := h3 a b
      by_cases c : gs 1 = 1
      · rw [if_pos c] at h
        exact br_t c ⟨vi, nm_e (my_t132 vi hs.1 h)⟩
      · rw [if_neg c] at h
        exact br_f c (my_t132 vi hs.1 h)
    · refine br_t rfl (nm_e ?_)
      exact my_chs vi hs.2.2.1 (h2 a b)
  · refine br_t rfl (nm_e ?_)
    exact my_chs vi hs.2.1 (h1 a)
theorem my_cl1 {post : SY → Prop} {x y : Int32} {j n : Nat} (hj : j < 4) (h : wY_work_88 post x y LE TO WI HI NS KE VA VB VC LA ZZ n (nI (j + 1)) re gr bl de sn tx pl vv gs so sd sa sq cn (upd ry j (ac_f (ry j)))) : wY_work_88 post x y LE TO WI HI NS KE VA VB VC LA ZZ (n + 1) (nI j) re gr bl de sn tx pl vv gs so sd sa sq cn ry := by
  have v : vp_in (nI j) 8 := vp_in_nI (by omega) (by decide)
  have c : (nI j).toNatClampNeg = j := nI_clamp (by omega)
  have g : ¬ (4 : Int32) ≤ nI j := nI_ge (b := 4) hj (by decide)
  rw [wY_work_88]
  unfold ac_f at h
  refine br_f g ⟨v, br_c (fun a => ⟨v, br_c (fun b => ⟨v, v, ?_⟩) (fun b => ⟨v, ?_⟩)⟩) (fun a => ⟨v, ?_⟩)⟩
  · rw [c] at a b
    rw [if_neg (Int32.not_lt.mpr a), if_neg (Int32.not_lt.mpr b)] at h
    exact nm_r (e' := upd ry j (ry j)) (by rw [c]) (nm_r (nI_1 j) h)
  · rw [c] at a b
    rw [if_neg (Int32.not_lt.mpr a), if_pos (Int32.not_le.mp b)] at h
    exact nm_r (e' := upd ry j 255) (by rw [c]) (nm_r (nI_1 j) h)
  · rw [c] at a
    rw [if_pos (Int32.not_le.mp a)] at h
    exact nm_r (e' := upd ry j 0) (by rw [c]) (nm_r (nI_1 j) h)
def cl_4 (r : Nat → Int32) : Nat → Int32 := fun j => if j < 4 then ac_f (r j) else r j
theorem cl_4e (r : Nat → Int32) : upd (upd (upd (upd r 0 (ac_f (r 0))) 1 (ac_f ((upd r 0 (ac_f (r 0))) 1))) 2 (ac_f ((upd (upd r 0 (ac_f (r 0))) 1 (ac_f ((upd r 0 (ac_f (r 0))) 1))) 2))) 3 (ac_f ((upd (upd (upd r 0 (ac_f (r 0))) 1 (ac_f ((upd r 0 (ac_f (r 0))) 1))) 2 (ac_f ((upd (upd r 0 (ac_f (r 0))) 1 (ac_f ((upd r 0 (ac_f (r 0))) 1))) 2))) 3)) = cl_4 r := by
  funext j
  have c : j = 0 ∨ j = 1 ∨ j = 2 ∨ j = 3 ∨ 4 ≤ j := by omega
  rcases c with rfl | rfl | rfl | rfl | h
  · rfl
  · rfl
  · rfl
  · rfl
  · rw [pk_un (by omega), pk_un (by omega), pk_un (by omega), pk_un (by omega)]
    exact (if_neg (by omega)).symm
theorem my_clamp {post : SY → Prop} {x y i : Int32} (hi : (24 * y) + x = i) (h : wpY_test (fun u => match u with | (LE, TO, WI, HI, NS, KE, VA, VB, VC, LA, ZZ, re, gr, bl, de, sn, tx, pl, vv, gs, so, sd, sa, sq, cn, ry) => post (LE, TO, WI, HI, NS, KE, VA, VB, VC, LA, ZZ, re, gr, bl, de, sn, tx, pl, vv, gs, so, sd, sa, sq, cn, ry)) (LE, TO, WI, HI, NS, KE, VA, VB, VC, LA, ZZ, re, gr, bl, de, sn, tx, pl, vv, gs, so, sd, sa, sq, cn, cl_4 ry) i) : ∃ q, wY_work_88 post x y LE TO WI HI NS KE VA VB VC LA ZZ q 0 re gr bl de sn tx pl vv gs so sd sa sq cn ry := by
  refine ⟨5, ?_⟩
  refine my_cl1 (j := 0) (by decide) ?_
  refine my_cl1 (j := 1) (by decide) ?_
  refine my_cl1 (j := 2) (by decide) ?_
  refine my_cl1 (j := 3) (by decide) ?_
  rw [cl_4e, wY_work_88]
  refine br_t (by decide) ?_
  rw [hi]
  exact h
end TST
theorem bc_ok {co re gr bl rx ry : Nat → Int32} (hc : ri_col co re gr bl) {p : Nat} (hp : p < 384) (m s : Int32) (e0 : ry 0 = ac_f (rx 0)) (e1 : ry 1 = ac_f (rx 1)) (e2 : ry 2 = ac_f (rx 2)) (e3 : ry 3 = ac_f (rx 3)) :
    ri_col (upd co p (wm_f s (co p) (bc_f m rx (co p)))) (if wm_p s then upd re p (bl_f m (ry 0) (re p) (ry 3)) else re) (if wm_q s then upd gr p (bl_f m (ry 1) (gr p) (ry 3)) else gr) (if wm_s s then upd bl p (bl_f m (ry 2) (bl p) (ry 3)) else bl) := by
  obtain ⟨r, g, b, hr, hg, hb, er, eg, eb, ec⟩ := hc p hp
  obtain ⟨a0, h0, k0⟩ := ac_r (rx 0)
  obtain ⟨a1, h1, k1⟩ := ac_r (rx 1)
  obtain ⟨a2, h2, k2⟩ := ac_r (rx 2)
  obtain ⟨a3, h3, k3⟩ := ac_r (rx 3)
  obtain ⟨r', hr', er'⟩ := bl_r m h0 hr h3
  obtain ⟨g', hg', eg'⟩ := bl_r m h1 hg h3
  obtain ⟨b', hb', eb'⟩ := bl_r m h2 hb h3
  have f1 : bc_f m rx (co p) = cp_pk r' g' b' := by
    unfold bc_f
    rw [ec, cp_r2 hr hg hb, cp_g hr hg hb, cp_b hr hg hb, k0, k1, k2, k3, er', eg', eb', cp_join hr' hg' hb']
  rw [f1, e0, e1, e2, e3, er, eg, eb, k0, k1, k2, k3, er', eg', eb']
  exact ri_colW hc hr' hg' hb' s
end
section
/-! the program of a pixel: one step on both sides, then the loop in lockstep -/
def st_c (w : Int32) (tx : Nat → Int32) (a b : Int32) (r : Nat → Int32) : Int32 := tx (8 * (pw_w w (r b.toNatClampNeg >>> ((3 : Int32) &&& 31))).toNatClampNeg + (pw_w w (r a.toNatClampNeg >>> ((3 : Int32) &&& 31))).toNatClampNeg)
def st_t (d : Int32) (c : Int32) (r : Nat → Int32) : Nat → Int32 := upd (upd (upd r d.toNatClampNeg ((c >>> ((16 : Int32) &&& 31)) &&& 255)) ((d.toNatClampNeg + 1) % 8) ((c >>> ((8 : Int32) &&& 31)) &&& 255)) ((d.toNatClampNeg + 2) % 8) (c &&& 255)
def st_f (w : Int32) (tx : Nat → Int32) (o d a b : Int32) (r : Nat → Int32) : Nat → Int32 :=
  if o = 9 then r else if o = 7 then st_t d (st_c w tx a b r) r else if o = 8 then upd r d.toNatClampNeg a else upd r d.toNatClampNeg (op_f o (r d.toNatClampNeg) (r a.toNatClampNeg) (r b.toNatClampNeg))
theorem st_9 {w : Int32} {tx r : Nat → Int32} {o d a b : Int32} (e : o = 9) : st_f w tx o d a b r = r := if_pos e
theorem st_7 {w : Int32} {tx r : Nat → Int32} {o d a b : Int32} (e : o = 7) : st_f w tx o d a b r = st_t d (st_c w tx a b r) r := by
  unfold st_f
  rw [if_neg (by rw [e]; decide), if_pos e]
theorem st_8 {w : Int32} {tx r : Nat → Int32} {o d a b : Int32} (e : o = 8) : st_f w tx o d a b r = upd r d.toNatClampNeg a := by
  unfold st_f
  rw [if_neg (by rw [e]; decide), if_neg (by rw [e]; decide), if_pos e]
theorem st_o {w : Int32} {tx r : Nat → Int32} {o d a b : Int32} (e9 : ¬ o = 9) (e7 : ¬ o = 7) (e8 : ¬ o = 8) : st_f w tx o d a b r = upd r d.toNatClampNeg (op_f o (r d.toNatClampNeg) (r a.toNatClampNeg) (r b.toNatClampNeg)) := by
  unfold st_f
  rw [if_neg e9, if_neg e7, if_neg e8]
theorem st_ag {w : Int32} {tx rx ry : Nat → Int32} {o d a b : Int32} (h : ag_r 8 rx ry) (q : ri_one o d a b) : ag_r 8 (st_f w tx o d a b rx) (st_f w tx o d a b ry) := by
  obtain ⟨_, qd, qa, qb⟩ := q
  by_cases e9 : o = 9
  · rw [st_9 e9, st_9 e9]
    exact h
  · obtain ⟨D, hD, rfl⟩ := qd e9
    by_cases e8 : o = 8
    · rw [st_8 e8, st_8 e8]
      exact ag_u h _ _
    · obtain ⟨A, hA, rfl⟩ := qa e8
      have ea : rx (nI A).toNatClampNeg = ry (nI A).toNatClampNeg := h _ (by rw [nI_clamp (by omega)]; exact hA)
      have ed : rx (nI D).toNatClampNeg = ry (nI D).toNatClampNeg := h _ (by rw [nI_clamp (by omega)]; exact hD)
      by_cases e0 : o = 0
      · rw [st_o e9 (by rw [e0]; decide) e8, st_o e9 (by rw [e0]; decide) e8]
        have z : ∀ d a b : Int32, op_f o d a b = a := fun d a b => if_pos e0
        rw [z, z, ea]
        exact ag_u h _ _
      · obtain ⟨B, hB, rfl⟩ := qb e0 e8 e9
        have eb : rx (nI B).toNatClampNeg = ry (nI B).toNatClampNeg := h _ (by rw [nI_clamp (by omega)]; exact hB)
        by_cases e7 : o = 7
        · rw [st_7 e7, st_7 e7]
          unfold st_t st_c
          rw [ea, eb]
          exact ag_u (ag_u (ag_u h _ _) _ _) _ _
        · rw [st_o e9 e7 e8, st_o e9 e7 e8, ea, eb, ed]
          exact ag_u h _ _
theorem st_m {n : Nat} (h : n < 8) : nI n &&& 7 = nI n := by
  rw [pk_andN (n := n) (m := 7) (by omega) 3 (by decide)]
  exact congrArg nI (Nat.mod_eq_of_lt h)
theorem st_m1 {n : Nat} (h : n < 8) : (nI n + 1) &&& 7 = nI ((n + 1) % 8) := by
  rw [nI_1, pk_andN (n := n + 1) (m := 7) (by omega) 3 (by decide)]
theorem st_m2 {n : Nat} (h : n < 8) : (nI n + 2) &&& 7 = nI ((n + 2) % 8) := by
  rw [show nI n + 2 = nI (n + 2) from nI_add n 2, pk_andN (n := n + 2) (m := 7) (by omega) 3 (by decide)]
theorem st_d1 {n : Nat} (h : n < 8) : (nI n + 1) - (nI n + 1) / 8 * 8 = nI ((n + 1) % 8) := by
  rw [nI_1]
  exact pk_rem (a := n + 1) (d := 8) (by omega) (by decide) (by decide)
theorem st_d2 {n : Nat} (h : n < 8) : (nI n + 2) - (nI n + 2) / 8 * 8 = nI ((n + 2) % 8) := by
  rw [show nI n + 2 = nI (n + 2) from nI_add n 2]
  exact pk_rem (a := n + 2) (d := 8) (by omega) (by decide) (by decide)
section PRG
variable {NS SL ST SR SB KE CA CB CC FL WA WB WC : Int32} {co de sn tx vx vy vz vq vv gs cn so sd sa sq rx : Nat → Int32}
variable {LE TO WI HI VA VB VC LA ZZ : Int32} {re gr bl pl ry : Nat → Int32}
theorem mx_comp {post : Int32 → Prop} {o d a b : Int32} (ho : ∃ n : Nat, n < 7 ∧ o = nI n) (h : post (op_f o d a b)) : wpX_computed post o d a b := by
  obtain ⟨n, hn, rfl⟩ := ho
  unfold op_f at h
  have c : n = 0 ∨ n = 1 ∨ n = 2 ∨ n = 3 ∨ n = 4 ∨ n = 5 ∨ n = 6 := by omega
  rcases c with rfl | rfl | rfl | rfl | rfl | rfl | rfl
  · rw [if_pos (by decide)] at h
    exact br_f (by decide) (br_f (by decide) (br_t rfl h))
  · rw [if_neg (by decide), if_pos (by decide)] at h
    exact br_f (by decide) (br_f (by decide) (br_f (by decide) (br_t rfl h)))
  · rw [if_neg (by decide), if_neg (by decide), if_pos (by decide)] at h
    exact br_f (by decide) (br_f (by decide) (br_f (by decide) (br_f (by decide) (br_t rfl h))))
  · rw [if_neg (by decide), if_neg (by decide), if_neg (by decide), if_pos (by decide)] at h
    exact br_f (by decide) (br_f (by decide) (br_f (by decide) (br_f (by decide) (br_f (by decide) (br_t rfl h)))))
  · rw [if_neg (by decide), if_neg (by decide), if_neg (by decide), if_neg (by decide), if_pos (by decide)] at h
    refine br_f (by decide) (br_f (by decide) (br_f (by decide) (br_f (by decide) (br_f (by decide) (br_f (by decide) (br_t rfl (br_c (fun q => ?_) (fun q => ?_))))))))
    · rw [if_neg (Int32.not_lt.mpr q)] at h
      exact h
    · rw [if_pos (Int32.not_le.mp q)] at h
      exact h
  · rw [if_neg (by decide), if_neg (by decide), if_neg (by decide), if_neg (by decide), if_neg (by decide), if_pos (by decide)] at h
    refine br_f (by decide) (br_f (by decide) (br_f (by decide) (br_f (by decide) (br_f (by decide) (br_f (by decide) (br_f (by decide) (br_t rfl (br_c (fun q => ?_) (fun q => ?_)))))))))
    · rw [if_neg (Int32.not_lt.mpr q)] at h
      exact h
    · rw [if_pos (Int32.not_le.mp q)] at h
      exact h
  · rw [if_neg (by decide), if_neg (by decide), if_neg (by decide), if_neg (by decide), if_neg (by decide), if_neg (by decide), if_pos (by decide)] at h
    refine br_f (by decide) (br_f (by decide) (br_f (by decide) (br_f (by decide) (br_f (by decide) (br_f (by decide) (br_f (by decide) (br_f (by decide) (br_t rfl (br_c (fun q => ?_) (fun q => ?_))))))))))
    · rw [if_neg (Int32.not_lt.mpr q)] at h
      exact h
    · rw [if_pos (Int32.not_le.mp q)] at h
      exact h
theorem mx_lch {post : SX → Prop} {d : Nat} {c : Int32} (hd : d < 8) (h : post (NS, SL, ST, SR, SB, KE, CA, CB, CC, FL, WA, WB, WC, co, de, sn, tx, vx, vy, vz, vq, vv, gs, cn, so, sd, sa, sq, st_t (nI d) c rx)) : wpX_loadChannels post (NS, SL, ST, SR, SB, KE, CA, CB, CC, FL, WA, WB, WC, co, de, sn, tx, vx, vy, vz, vq, vv, gs, cn, so, sd, sa, sq, rx) (nI d) c := by
  unfold st_t at h
  have m1 := st_m1 hd
  have m2 := st_m2 hd
  have v0 : vp_in (nI d) 8 := vp_in_nI hd (by decide)
  have v1 : vp_in ((nI d + 1) &&& 7) 8 := by rw [m1]; exact vp_in_nI (Nat.mod_lt _ (by decide)) (by decide)
  have v2 : vp_in ((nI d + 2) &&& 7) 8 := by rw [m2]; exact vp_in_nI (Nat.mod_lt _ (by decide)) (by decide)
  have c0 : (nI d).toNatClampNeg = d := nI_clamp (by omega)
  have c1 : ((nI d + 1) &&& 7).toNatClampNeg = (d + 1) % 8 := by rw [m1]; exact nI_clamp (by omega)
  have c2 : ((nI d + 2) &&& 7).toNatClampNeg = (d + 2) % 8 := by rw [m2]; exact nI_clamp (by omega)
  rw [c0] at h
  refine ⟨v0, nm_r (e' := upd rx d ((c >>> ((16 : Int32) &&& 31)) &&& 255)) (by rw [c0]) ⟨v1, nm_r (e' := upd (upd rx d ((c >>> ((16 : Int32) &&& 31)) &&& 255)) ((d + 1) % 8) ((c >>> ((8 : Int32) &&& 31)) &&& 255)) (by rw [c1]) ⟨v2, ?_⟩⟩⟩
  exact nm_r (by rw [c2]) h
theorem my_c7 {post : SY → Prop} {o a b : Int32} {d : Nat} (hd : d < 8) (ht : ri_tex tx) (e : o = 7) {A B : Int32} (h : post (LE, TO, WI, HI, NS, KE, VA, VB, VC, LA, ZZ, re, gr, bl, de, sn, tx, pl, vv, gs, so, sd, sa, sq, cn, st_t (nI d) (tx (8 * (pw_w (gs 10) (B >>> ((3 : Int32) &&& 31))).toNatClampNeg + (pw_w (gs 10) (A >>> ((3 : Int32) &&& 31))).toNatClampNeg)) ry)) : wY_carryOut_215 post o (nI d) A B LE TO WI HI NS KE VA VB VC LA ZZ re gr bl de sn tx pl vv gs so sd sa sq cn ry := by
  obtain ⟨s, hs, es⟩ := pw_r (gs 10) (A >>> ((3 : Int32) &&& 31))
  obtain ⟨t, ht', et⟩ := pw_r (gs 10) (B >>> ((3 : Int32) &&& 31))
  have ei : (8 : Int32) * pw_w (gs 10) (B >>> ((3 : Int32) &&& 31)) + pw_w (gs 10) (A >>> ((3 : Int32) &&& 31)) = nI (8 * t + s) := by
    rw [es, et]
    exact ix_a (pk_mul 8 t) s rfl
  rw [es, et, nI_clamp (by omega), nI_clamp (by omega)] at h
  have vi : vp_in ((8 : Int32) * pw_w (gs 10) (B >>> ((3 : Int32) &&& 31)) + pw_w (gs 10) (A >>> ((3 : Int32) &&& 31))) 64 := by
    rw [ei]
    exact vp_in_nI (by omega) (by decide)
  have ci : ((8 : Int32) * pw_w (gs 10) (B >>> ((3 : Int32) &&& 31)) + pw_w (gs 10) (A >>> ((3 : Int32) &&& 31))).toNatClampNeg = 8 * t + s := by
    rw [ei]
    exact nI_clamp (by omega)
  obtain ⟨r, g, b', hr, hg, hb, ec⟩ := ht (8 * t + s) (by omega)
  unfold st_t at h
  have m1 := st_d1 hd
  have m2 := st_d2 hd
  have v0 : vp_in (nI d) 8 := vp_in_nI hd (by decide)
  have v1 : vp_in ((nI d + 1) - (nI d + 1) / 8 * 8) 8 := by rw [m1]; exact vp_in_nI (Nat.mod_lt _ (by decide)) (by decide)
  have v2 : vp_in ((nI d + 2) - (nI d + 2) / 8 * 8) 8 := by rw [m2]; exact vp_in_nI (Nat.mod_lt _ (by decide)) (by decide)
  have c0 : (nI d).toNatClampNeg = d := nI_clamp (by omega)
  have c1 : ((nI d + 1) - (nI d + 1) / 8 * 8).toNatClampNeg = (d + 1) % 8 := by rw [m1]; exact nI_clamp (by omega)
  have c2 : ((nI d + 2) - (nI d + 2) / 8 * 8).toNatClampNeg = (d + 2) % 8 := by rw [m2]; exact nI_clamp (by omega)
  rw [c0, ec, cp_r2 hr hg hb] at h
  refine br_t e ?_
  refine my_wrap ?_
  refine my_wrap ?_
  refine ⟨vi, nm_r (e' := cp_pk r g b') (by rw [ci, ec]) ⟨v0, nm_r (e' := upd ry d (nI r)) (by rw [c0, cp_r hr hg hb]) ⟨by decide, v1, nm_r (e' := upd (upd ry d (nI r)) ((d + 1) % 8) ((cp_pk r g b' >>> ((8 : Int32) &&& 31)) &&& 255)) (by rw [c1]) ⟨by decide, v2, ?_⟩⟩⟩⟩
  exact nm_r (by rw [c2]) h
end PRG
end
section
/-! a step of the program on each side, and the loop -/
section STP
variable {NS SL ST SR SB KE CA CB CC FL WA WB WC : Int32} {co de sn tx vx vy vz vq vv gs cn so sd sa sq rx : Nat → Int32}
variable {LE TO WI HI VA VB VC LA ZZ : Int32} {re gr bl pl ry : Nat → Int32}
theorem my_carry {post : SY → Prop} {i : Nat} (hi : i < 10) (q : ri_one (so i) (sd i) (sa i) (sq i)) (ht : ri_tex tx) (h : post (LE, TO, WI, HI, NS, KE, VA, VB, VC, LA, ZZ, re, gr, bl, de, sn, tx, pl, vv, gs, so, sd, sa, sq, cn, st_f (gs 10) tx (so i) (sd i) (sa i) (sq i) ry)) : wpY_carryOut post (LE, TO, WI, HI, NS, KE, VA, VB, VC, LA, ZZ, re, gr, bl, de, sn, tx, pl, vv, gs, so, sd, sa, sq, cn, ry) (nI i) := by
  have v : vp_in (nI i) 10 := vp_in_nI hi (by decide)
  have c : (nI i).toNatClampNeg = i := nI_clamp (by omega)
  obtain ⟨⟨N, hN, eN⟩, qd, qa, qb⟩ := q
  have ne : ∀ k c : Int32, so i = k → ¬ k = c → ¬ so i = c := fun k c e h z => h (e.symm.trans z)
  refine ⟨v, nm_r (e' := so i) (by rw [c]) ⟨v, nm_r (e' := sd i) (by rw [c]) ?_⟩⟩
  by_cases e9 : so i = 9
  · rw [st_9 e9] at h
    exact br_t e9 h
  refine br_f e9 ?_
  obtain ⟨D, hD, eD⟩ := qd e9
  have vd : vp_in (sd i) 8 := by rw [eD]; exact vp_in_nI hD (by decide)
  by_cases e8 : so i = 8
  · rw [st_8 e8] at h
    exact br_t e8 ⟨v, vd, nm_r (by rw [c]) h⟩
  refine br_f e8 ?_
  obtain ⟨A, hA, eA⟩ := qa e8
  have va : vp_in (sa (nI i).toNatClampNeg) 8 := by rw [c, eA]; exact vp_in_nI hA (by decide)
  refine ⟨v, va, nm_r (e' := ry (sa i).toNatClampNeg) (by rw [c]) ?_⟩
  by_cases e0 : so i = 0
  · rw [st_o e9 (ne _ _ e0 (by decide)) e8] at h
    have z : ∀ d a b : Int32, op_f (so i) d a b = a := fun d a b => if_pos e0
    rw [z] at h
    exact br_t e0 (br_t e0 ⟨vd, nm_e (br_f (ne _ _ e0 (by decide)) (br_f (ne _ _ e0 (by decide)) (br_f (ne _ _ e0 (by decide)) (br_f (ne _ _ e0 (by decide)) (br_f (ne _ _ e0 (by decide)) (br_f (ne _ _ e0 (by decide)) (br_f (ne _ _ e0 (by decide)) h)))))))⟩)
  obtain ⟨B, hB, eB⟩ := qb e0 e8 e9
  have vb : vp_in (sq (nI i).toNatClampNeg) 8 := by rw [c, eB]; exact vp_in_nI hB (by decide)
  refine br_f e0 ⟨v, vb, ?_⟩
  rw [c]
  by_cases e7 : so i = 7
  · rw [st_7 e7, eD] at h
    rw [eD]
    exact br_f e0 (br_f (ne _ _ e7 (by decide)) (br_f (ne _ _ e7 (by decide)) (br_f (ne _ _ e7 (by decide)) (br_f (ne _ _ e7 (by decide)) (br_f (ne _ _ e7 (by decide)) (br_f (ne _ _ e7 (by decide)) (my_c7 (a := 0) (b := 0) hD ht e7 h)))))))
  rw [st_o e9 e7 e8] at h
  by_cases e1 : so i = 1
  · have z : ∀ d a b : Int32, op_f (so i) d a b = a + b := fun d a b => by unfold op_f; rw [if_neg e0, if_pos e1]
    rw [z] at h
    exact br_f e0 (br_t e1 ⟨vd, nm_e (br_f (ne _ _ e1 (by decide)) (br_f (ne _ _ e1 (by decide)) (br_f (ne _ _ e1 (by decide)) (br_f (ne _ _ e1 (by decide)) (br_f (ne _ _ e1 (by decide)) (br_f e7 h))))))⟩)
  by_cases e2 : so i = 2
  · have z : ∀ d a b : Int32, op_f (so i) d a b = a - b := fun d a b => by unfold op_f; rw [if_neg e0, if_neg e1, if_pos e2]
    rw [z] at h
    exact br_f e0 (br_f e1 (br_t e2 ⟨vd, nm_e (br_f (ne _ _ e2 (by decide)) (br_f (ne _ _ e2 (by decide)) (br_f (ne _ _ e2 (by decide)) (br_f (ne _ _ e2 (by decide)) (br_f e7 h)))))⟩))
  by_cases e3 : so i = 3
  · have z : ∀ d a b : Int32, op_f (so i) d a b = (a * b) >>> ((8 : Int32) &&& 31) := fun d a b => by unfold op_f; rw [if_neg e0, if_neg e1, if_neg e2, if_pos e3]
    rw [z] at h
    exact br_f e0 (br_f e1 (br_f e2 (br_t e3 ⟨vd, nm_e (br_f (ne _ _ e3 (by decide)) (br_f (ne _ _ e3 (by decide)) (br_f (ne _ _ e3 (by decide)) (br_f e7 h))))⟩)))
  by_cases e4 : so i = 4
  · have z : ∀ d a b : Int32, op_f (so i) d a b = if a < b then a else b := fun d a b => by unfold op_f; rw [if_neg e0, if_neg e1, if_neg e2, if_neg e3, if_pos e4]
    rw [z] at h
    refine br_f e0 (br_f e1 (br_f e2 (br_f e3 (br_t e4 (br_c (fun p => ?_) (fun p => ?_))))))
    · rw [if_neg (Int32.not_lt.mpr p)] at h
      exact ⟨vd, nm_e (br_f (ne _ _ e4 (by decide)) (br_f (ne _ _ e4 (by decide)) (br_f e7 h)))⟩
    · rw [if_pos (Int32.not_le.mp p)] at h
      exact ⟨vd, nm_e (br_f (ne _ _ e4 (by decide)) (br_f (ne _ _ e4 (by decide)) (br_f e7 h)))⟩
  by_cases e5 : so i = 5
  · have z : ∀ d a b : Int32, op_f (so i) d a b = if b < a then a else b := fun d a b => by unfold op_f; rw [if_neg e0, if_neg e1, if_neg e2, if_neg e3, if_neg e4, if_pos e5]
    rw [z] at h
    refine br_f e0 (br_f e1 (br_f e2 (br_f e3 (br_f e4 (br_t e5 (br_c (fun p => ?_) (fun p => ?_)))))))
    · rw [if_neg (Int32.not_lt.mpr p)] at h
      exact ⟨vd, nm_e (br_f (ne _ _ e5 (by decide)) (br_f e7 h))⟩
    · rw [if_pos (Int32.not_le.mp p)] at h
      exact ⟨vd, nm_e (br_f (ne _ _ e5 (by decide)) (br_f e7 h))⟩
  have e6 : so i = 6 := by
    have hc : N = 0 ∨ N = 1 ∨ N = 2 ∨ N = 3 ∨ N = 4 ∨ N = 5 ∨ N = 6 ∨ N = 7 ∨ N = 8 ∨ N = 9 := by omega
    rcases hc with rfl | rfl | rfl | rfl | rfl | rfl | rfl | rfl | rfl | rfl
    · exact absurd eN e0
    · exact absurd eN e1
    · exact absurd eN e2
    · exact absurd eN e3
    · exact absurd eN e4
    · exact absurd eN e5
    · exact eN
    · exact absurd eN e7
    · exact absurd eN e8
    · exact absurd eN e9
  have z : ∀ d a b : Int32, op_f (so i) d a b = if d < 0 then a else b := fun d a b => by unfold op_f; rw [if_neg e0, if_neg e1, if_neg e2, if_neg e3, if_neg e4, if_neg e5, if_pos e6]
  rw [z] at h
  refine br_f e0 (br_f e1 (br_f e2 (br_f e3 (br_f e4 (br_f e5 (br_t e6 ⟨vd, br_c (fun p => ?_) (fun p => ?_)⟩))))))
  · rw [if_neg (Int32.not_lt.mpr p)] at h
    exact ⟨vd, nm_e (br_f e7 h)⟩
  · rw [if_pos (Int32.not_le.mp p)] at h
    exact ⟨vd, nm_e (br_f e7 h)⟩
theorem mx_kill {post : Int32 → SX → Prop} {n i : Nat} (hi : i < 10) (hin : ¬ NS ≤ nI i) (q : ri_one (so i) (sd i) (sa i) (sq i)) (e9 : so i = 9) (hk : rx (sa i).toNatClampNeg < 0) (h : post 0 (NS, SL, ST, SR, SB, KE, CA, CB, CC, FL, WA, WB, WC, co, de, sn, tx, vx, vy, vz, vq, vv, gs, cn, so, sd, sa, sq, rx)) : wX_survivesProgram_2 post (n + 1) (nI i) NS SL ST SR SB KE CA CB CC FL WA WB WC co de sn tx vx vy vz vq vv gs cn so sd sa sq rx := by
  have v : vp_in (nI i) 10 := vp_in_nI hi (by decide)
  have c : (nI i).toNatClampNeg = i := nI_clamp (by omega)
  obtain ⟨⟨N, hN, eN⟩, qd, qa, qb⟩ := q
  have va : vp_in (sa (nI i).toNatClampNeg &&& 7) 8 := pk_andIn _ (m := 7) 3 (by decide) (by decide)
  have vb : vp_in (sq (nI i).toNatClampNeg &&& 7) 8 := pk_andIn _ (m := 7) 3 (by decide) (by decide)
  obtain ⟨A, hA, eA⟩ := qa (by rw [e9]; decide)
  have ea : sa i &&& 7 = sa i := by rw [eA]; exact st_m hA
  rw [wX_survivesProgram_2]
  refine br_f hin ⟨v, nm_r (e' := so i) (by rw [c]) ⟨v, nm_r (e' := sd i &&& 7) (by rw [c]) ⟨v, va, nm_r (e' := rx (sa i).toNatClampNeg) (by rw [c, ea]) ⟨v, vb, nm_e ?_⟩⟩⟩⟩
  exact br_t e9 (br_f (Int32.not_le.mpr hk) h)
theorem mx_step {post : Int32 → SX → Prop} {n i : Nat} (hi : i < 10) (hin : ¬ NS ≤ nI i) (q : ri_one (so i) (sd i) (sa i) (sq i)) (hk : so i = 9 → ¬ rx (sa i).toNatClampNeg < 0) (h : wX_survivesProgram_2 post n (nI (i + 1)) NS SL ST SR SB KE CA CB CC FL WA WB WC co de sn tx vx vy vz vq vv gs cn so sd sa sq (st_f (gs 10) tx (so i) (sd i) (sa i) (sq i) rx)) : wX_survivesProgram_2 post (n + 1) (nI i) NS SL ST SR SB KE CA CB CC FL WA WB WC co de sn tx vx vy vz vq vv gs cn so sd sa sq rx := by
  have v : vp_in (nI i) 10 := vp_in_nI hi (by decide)
  have c : (nI i).toNatClampNeg = i := nI_clamp (by omega)
  obtain ⟨⟨N, hN, eN⟩, qd, qa, qb⟩ := q
  have va : vp_in (sa (nI i).toNatClampNeg &&& 7) 8 := pk_andIn _ (m := 7) 3 (by decide) (by decide)
  have vb : vp_in (sq (nI i).toNatClampNeg &&& 7) 8 := pk_andIn _ (m := 7) 3 (by decide) (by decide)
  rw [wX_survivesProgram_2]
  by_cases e9 : so i = 9
  · obtain ⟨A, hA, eA⟩ := qa (by rw [e9]; decide)
    have ea : sa i &&& 7 = sa i := by rw [eA]; exact st_m hA
    rw [st_9 e9] at h
    refine br_f hin ⟨v, nm_r (e' := so i) (by rw [c]) ⟨v, nm_r (e' := sd i &&& 7) (by rw [c]) ⟨v, va, nm_r (e' := rx (sa i).toNatClampNeg) (by rw [c, ea]) ⟨v, vb, nm_e ?_⟩⟩⟩⟩
    exact br_t e9 (br_t (Int32.not_lt.mp (hk e9)) (nm_r (nI_1 i) h))
  obtain ⟨D, hD, eD⟩ := qd e9
  have vd : vp_in (sd i) 8 := by rw [eD]; exact vp_in_nI hD (by decide)
  have ed : sd i &&& 7 = sd i := by rw [eD]; exact st_m hD
  by_cases e8 : so i = 8
  · rw [st_8 e8] at h
    refine br_f hin ⟨v, nm_r (e' := so i) (by rw [c]) ⟨v, nm_r (e' := sd i) (by rw [c, ed]) ⟨v, va, nm_e ⟨v, vb, nm_e ?_⟩⟩⟩⟩
    exact br_f e9 (br_f (fun z => absurd (e8.symm.trans z) (by decide)) (br_t e8 ⟨v, vd, nm_r (by rw [c]) (nm_r (nI_1 i) h)⟩))
  obtain ⟨A, hA, eA⟩ := qa e8
  have ea : sa i &&& 7 = sa i := by rw [eA]; exact st_m hA
  by_cases e0 : so i = 0
  · rw [st_o e9 (fun z => absurd (e0.symm.trans z) (by decide)) e8] at h
    have z : ∀ d a b : Int32, op_f (so i) d a b = a := fun d a b => if_pos e0
    rw [z] at h
    refine br_f hin ⟨v, nm_r (e' := so i) (by rw [c]) ⟨v, nm_r (e' := sd i) (by rw [c, ed]) ⟨v, va, nm_r (e' := rx (sa i).toNatClampNeg) (by rw [c, ea]) ⟨v, vb, nm_e ?_⟩⟩⟩⟩
    refine br_f e9 (br_f (fun z => absurd (e0.symm.trans z) (by decide)) (br_f e8 ⟨vd, ?_⟩))
    refine mx_comp ⟨0, by decide, e0⟩ ?_
    rw [z]
    exact ⟨vd, nm_e (nm_r (nI_1 i) h)⟩
  obtain ⟨B, hB, eB⟩ := qb e0 e8 e9
  have eb : sq i &&& 7 = sq i := by rw [eB]; exact st_m hB
  refine br_f hin ⟨v, nm_r (e' := so i) (by rw [c]) ⟨v, nm_r (e' := sd i) (by rw [c, ed]) ⟨v, va, nm_r (e' := rx (sa i).toNatClampNeg) (by rw [c, ea]) ⟨v, vb, nm_r (e' := rx (sq i).toNatClampNeg) (by rw [c, eb]) ?_⟩⟩⟩⟩
  refine br_f e9 ?_
  by_cases e7 : so i = 7
  · rw [st_7 e7] at h
    obtain ⟨s, hs, es⟩ := pw_r (gs 10) (rx (sa i).toNatClampNeg >>> ((3 : Int32) &&& 31))
    obtain ⟨t, ht', et⟩ := pw_r (gs 10) (rx (sq i).toNatClampNeg >>> ((3 : Int32) &&& 31))
    have ei : pw_w (gs 10) (rx (sq i).toNatClampNeg >>> ((3 : Int32) &&& 31)) * 8 + pw_w (gs 10) (rx (sa i).toNatClampNeg >>> ((3 : Int32) &&& 31)) = nI (t * 8 + s) := by
      rw [es, et]
      exact ix_a (pk_mul t 8) s rfl
    have vi : vp_in (pw_w (gs 10) (rx (sq i).toNatClampNeg >>> ((3 : Int32) &&& 31)) * 8 + pw_w (gs 10) (rx (sa i).toNatClampNeg >>> ((3 : Int32) &&& 31))) 64 := by
      rw [ei]
      exact vp_in_nI (by omega) (by decide)
    have ci : (pw_w (gs 10) (rx (sq i).toNatClampNeg >>> ((3 : Int32) &&& 31)) * 8 + pw_w (gs 10) (rx (sa i).toNatClampNeg >>> ((3 : Int32) &&& 31))).toNatClampNeg = 8 * (pw_w (gs 10) (rx (sq i).toNatClampNeg >>> ((3 : Int32) &&& 31))).toNatClampNeg + (pw_w (gs 10) (rx (sa i).toNatClampNeg >>> ((3 : Int32) &&& 31))).toNatClampNeg := by
      rw [ei, es, et, nI_clamp (by omega), nI_clamp (by omega), nI_clamp (by omega)]
      omega
    unfold st_c at h
    rw [← ci, eD] at h
    refine br_t e7 ?_
    refine mx_wrap ?_
    refine mx_wrap ?_
    refine ⟨vi, ?_⟩
    rw [eD]
    exact mx_lch hD (nm_r (nI_1 i) h)
  · rw [st_o e9 e7 e8] at h
    have hc : N < 7 := by
      have h7 : ¬ N = 7 := fun z => e7 (eN.trans (by rw [z]; rfl))
      have h8 : ¬ N = 8 := fun z => e8 (eN.trans (by rw [z]; rfl))
      have h9 : ¬ N = 9 := fun z => e9 (eN.trans (by rw [z]; rfl))
      omega
    refine br_f e7 (br_f e8 ⟨vd, ?_⟩)
    refine mx_comp ⟨N, hc, eN⟩ ?_
    exact ⟨vd, nm_e (nm_r (nI_1 i) h)⟩
end STP
end
section
/-! the program in lockstep; one pixel on both sides -/
section LCK
variable {NS SL ST SR SB KE CA CB CC FL WA WB WC : Int32} {co de sn tx vx vy vz vq vv gs cn so sd sa sq rx : Nat → Int32}
variable {LE TO WI HI VA VB VC LA ZZ : Int32} {re gr bl pl ry : Nat → Int32}
theorem pg_loop {ns : Nat} (hns : ns ≤ 10) (hst : ri_stp ns so sd sa sq) (ht : ri_tex tx) : ∀ (m i : Nat) (rx ry : Nat → Int32), i + m = ns → ag_r 8 rx ry → ∃ (k : Bool) (rx' ry' : Nat → Int32), ag_r 8 rx' ry'
    ∧ (∀ (post : Int32 → SX → Prop) (n : Nat), m < n → post (if k then 0 else 1) (nI ns, SL, ST, SR, SB, KE, CA, CB, CC, FL, WA, WB, WC, co, de, sn, tx, vx, vy, vz, vq, vv, gs, cn, so, sd, sa, sq, rx') → wX_survivesProgram_2 post n (nI i) (nI ns) SL ST SR SB KE CA CB CC FL WA WB WC co de sn tx vx vy vz vq vv gs cn so sd sa sq rx)
    ∧ (∀ (post : SY → Prop) (x y : Int32) (n : Nat), m < n → (k = true → post (LE, TO, WI, HI, nI ns, KE, VA, VB, VC, LA, ZZ, re, gr, bl, de, sn, tx, pl, vv, gs, so, sd, sa, sq, upd cn 1 (cn 1 + 1), ry')) → (k = false → ∃ q, wY_work_88 post x y LE TO WI HI (nI ns) KE VA VB VC LA ZZ q 0 re gr bl de sn tx pl vv gs so sd sa sq cn ry') → wY_work_31 post x y n (nI i) LE TO WI HI (nI ns) KE VA VB VC LA ZZ re gr bl de sn tx pl vv gs so sd sa sq cn ry) := by
  intro m
  induction m with
  | zero =>
    intro i rx ry hi ag
    have g : nI ns ≤ nI i := nI_le (by omega) (by omega)
    refine ⟨false, rx, ry, ag, fun post n hn h => ?_, fun post x y n hn h1 h2 => ?_⟩
    · obtain ⟨n, rfl⟩ : ∃ m, n = m + 1 := ⟨n - 1, by omega⟩
      rw [wX_survivesProgram_2]
      exact br_t g h
    · obtain ⟨n, rfl⟩ : ∃ m, n = m + 1 := ⟨n - 1, by omega⟩
      rw [wY_work_31]
      exact br_t g (h2 rfl)
  | succ m ih =>
    intro i rx ry hi ag
    have g : ¬ nI ns ≤ nI i := nI_ge (by omega) (by omega)
    have q := hst i (by omega)
    have i10 : i < 10 := by omega
    have v : vp_in (nI i) 10 := vp_in_nI i10 (by decide)
    have c : (nI i).toNatClampNeg = i := nI_clamp (by omega)
    by_cases e9 : so i = 9 ∧ rx (sa i).toNatClampNeg < 0
    · obtain ⟨A, hA, eA⟩ := q.2.2.1 (by rw [e9.1]; decide)
      have ea : rx (sa i).toNatClampNeg = ry (sa i).toNatClampNeg := ag _ (by rw [eA, nI_clamp (by omega)]; exact hA)
      have va : vp_in (sa (nI i).toNatClampNeg) 8 := by rw [c, eA]; exact vp_in_nI hA (by decide)
      refine ⟨true, rx, ry, ag, fun post n hn h => ?_, fun post x y n hn h1 h2 => ?_⟩
      · obtain ⟨n, rfl⟩ : ∃ m, n = m + 1 := ⟨n - 1, by omega⟩
        exact mx_kill i10 g q e9.1 e9.2 h
      · obtain ⟨n, rfl⟩ : ∃ m, n = m + 1 := ⟨n - 1, by omega⟩
        rw [wY_work_31]
        refine br_f g ⟨v, br_t (by rw [c]; exact e9.1) ⟨v, va, br_f ?_ (nm_e (h1 rfl))⟩⟩
        rw [c, ← ea]
        exact Int32.not_le.mpr e9.2
    · obtain ⟨k, rx', ry', ag', HX, HY⟩ := ih (i + 1) (st_f (gs 10) tx (so i) (sd i) (sa i) (sq i) rx) (st_f (gs 10) tx (so i) (sd i) (sa i) (sq i) ry) (by omega) (st_ag ag q)
      refine ⟨k, rx', ry', ag', fun post n hn h => ?_, fun post x y n hn h1 h2 => ?_⟩
      · obtain ⟨n, rfl⟩ : ∃ m, n = m + 1 := ⟨n - 1, by omega⟩
        exact mx_step i10 g q (fun a b => e9 ⟨a, b⟩) (HX post n (by omega) h)
      · obtain ⟨n, rfl⟩ : ∃ m, n = m + 1 := ⟨n - 1, by omega⟩
        have K := HY post x y n (by omega) h1 h2
        have C : wY_work_75 post (wY_work_31 post x y n) x y (nI i) LE TO WI HI (nI ns) KE VA VB VC LA ZZ re gr bl de sn tx pl vv gs so sd sa sq cn ry := by
          unfold wY_work_75
          exact my_carry i10 q ht (nm_r (nI_1 i) K)
        rw [wY_work_31]
        by_cases o9 : so i = 9
        · obtain ⟨A, hA, eA⟩ := q.2.2.1 (by rw [o9]; decide)
          have ea : rx (sa i).toNatClampNeg = ry (sa i).toNatClampNeg := ag _ (by rw [eA, nI_clamp (by omega)]; exact hA)
          have va : vp_in (sa (nI i).toNatClampNeg) 8 := by rw [c, eA]; exact vp_in_nI hA (by decide)
          refine br_f g ⟨v, br_t (by rw [c]; exact o9) ⟨v, va, br_t ?_ C⟩⟩
          rw [c, ← ea]
          exact Int32.not_lt.mp (fun z => e9 ⟨o9, z⟩)
        · exact br_f g ⟨v, br_f (by rw [c]; exact o9) C⟩
theorem fp_sim {ns x y : Nat} (hns : ns ≤ 10) (hst : ri_stp ns so sd sa sq) (ht : ri_tex tx) (hs : ri_set gs) (hc : ri_col co re gr bl) (hx : x < 24) (hy : y < 16) (ag : ag_r 6 rx ry) (z : Int32) :
    ∃ (co' de' sn' cn' rx' re' gr' bl' ry' : Nat → Int32), ri_col co' re' gr' bl'
    ∧ (∀ post : SX → Prop, post (nI ns, SL, ST, SR, SB, KE, CA, CB, CC, FL, WA, WB, WC, co', de', sn', tx, vx, vy, vz, vq, vv, gs, cn', so, sd, sa, sq, rx') → wpX_finishPixel post (nI ns, SL, ST, SR, SB, KE, CA, CB, CC, FL, WA, WB, WC, co, de, sn, tx, vx, vy, vz, vq, vv, gs, cn, so, sd, sa, sq, rx) (nI x) (nI y) z)
    ∧ (∀ post : SY → Prop, post (LE, TO, WI, HI, nI ns, KE, VA, VB, VC, LA, z, re', gr', bl', de', sn', tx, pl, vv, gs, so, sd, sa, sq, cn', ry') → wpY_work post (LE, TO, WI, HI, nI ns, KE, VA, VB, VC, LA, z, re, gr, bl, de, sn, tx, pl, vv, gs, so, sd, sa, sq, cn, ry) (nI x) (nI y)) := by
  have a8 : ag_r 8 (upd (upd rx 6 (nI x)) 7 z) (upd (upd ry 6 (nI x)) 7 z) := by
    intro j hj
    by_cases j7 : j = 7
    · rw [j7, pk_us, pk_us]
    · rw [pk_un j7, pk_un j7]
      by_cases j6 : j = 6
      · rw [j6, pk_us, pk_us]
      · rw [pk_un j6, pk_un j6]
        exact ag j (by omega)
  have vi : vp_in (nI (24 * y + x)) 384 := vp_in_nI (by omega) (by decide)
  have ci : (nI (24 * y + x)).toNatClampNeg = 24 * y + x := nI_clamp (by omega)
  have ex : nI y * 24 + nI x = nI (24 * y + x) := (ix_a (pk_mul y 24) x rfl).trans (congrArg nI (by omega))
  have ey : (24 : Int32) * nI y + nI x = nI (24 * y + x) := ix_a (pk_mul 24 y) x rfl
  obtain ⟨k, rx', ry', ag', HX, HY⟩ := pg_loop (SL := SL) (ST := ST) (SR := SR) (SB := SB) (KE := KE) (CA := CA) (CB := CB) (CC := CC) (FL := FL) (WA := WA) (WB := WB) (WC := WC) (co := co) (de := de) (sn := sn) (tx := tx) (vx := vx) (vy := vy) (vz := vz) (vq := vq) (vv := vv) (gs := gs) (cn := upd cn 0 (cn 0 + 1)) (so := so) (sd := sd) (sa := sa) (sq := sq) (LE := LE) (TO := TO) (WI := WI) (HI := HI) (VA := VA) (VB := VB) (VC := VC) (LA := LA) (ZZ := z) (re := re) (gr := gr) (bl := bl) (pl := pl) hns hst ht ns 0 _ _ (by omega) a8
  cases k with
  | true =>
    refine ⟨co, de, sn, upd (upd cn 0 (cn 0 + 1)) 1 ((upd cn 0 (cn 0 + 1)) 1 + 1), rx', re, gr, bl, ry', hc, fun post h => ?_, fun post h => ?_⟩
    · refine nm_e (nm_e (nm_e ?_))
      exact ⟨ns + 1, HX _ (ns + 1) (by omega) (br_t rfl (nm_e h))⟩
    · refine nm_e (nm_e (nm_e ?_))
      exact ⟨ns + 1, HY post _ _ (ns + 1) (by omega) (fun _ => h) (fun z => nomatch z)⟩
  | false =>
    by_cases c1 : cm_p (gs 2) (gs 3) (sn (nI (24 * y + x)).toNatClampNeg) = true
    · by_cases c2 : cm_p (gs 0) z (de (nI (24 * y + x)).toNatClampNeg) = true
      · have ok := bc_ok (rx := rx') (ry := cl_4 ry') hc (p := (nI (24 * y + x)).toNatClampNeg) (by rw [ci]; omega) (gs 7) (gs 8) (congrArg ac_f (ag' 0 (by decide)).symm) (congrArg ac_f (ag' 1 (by decide)).symm) (congrArg ac_f (ag' 2 (by decide)).symm) (congrArg ac_f (ag' 3 (by decide)).symm)
        refine ⟨(upd co (nI (24 * y + x)).toNatClampNeg (wm_f (gs 8) (co (nI (24 * y + x)).toNatClampNeg) (bc_f (gs 7) rx' (co (nI (24 * y + x)).toNatClampNeg)))), (if gs 1 = 1 then upd de (nI (24 * y + x)).toNatClampNeg z else de), (upd sn (nI (24 * y + x)).toNatClampNeg (sc_f (gs 6) (gs 3) (sn (nI (24 * y + x)).toNatClampNeg))), (upd (upd cn 0 (cn 0 + 1)) 4 ((upd cn 0 (cn 0 + 1)) 4 + 1)), rx', (if wm_p (gs 8) then upd re (nI (24 * y + x)).toNatClampNeg (bl_f (gs 7) (cl_4 ry' 0) (re (nI (24 * y + x)).toNatClampNeg) (cl_4 ry' 3)) else re), (if wm_q (gs 8) then upd gr (nI (24 * y + x)).toNatClampNeg (bl_f (gs 7) (cl_4 ry' 1) (gr (nI (24 * y + x)).toNatClampNeg) (cl_4 ry' 3)) else gr), (if wm_s (gs 8) then upd bl (nI (24 * y + x)).toNatClampNeg (bl_f (gs 7) (cl_4 ry' 2) (bl (nI (24 * y + x)).toNatClampNeg) (cl_4 ry' 3)) else bl), cl_4 ry', ok, fun post h => ?_, fun post h => ?_⟩
        rotate_left 1
        · refine nm_e (nm_e (nm_e ?_))
          refine ⟨ns + 1, HY post _ _ (ns + 1) (by omega) (fun z => nomatch z) (fun _ => my_clamp ey ?_)⟩
          exact my_test vi hs (fun a => absurd c1 a) (fun _ b => absurd c2 b) (fun _ _ => h)
        · refine nm_e (nm_e (nm_e ?_))
          refine ⟨ns + 1, HX _ (ns + 1) (by omega) (br_f n10 (nm_r ex ?_))⟩
          refine mx_tests vi (fun a => absurd c1 a) (fun _ b => absurd c2 b) (fun _ _ => br_f n10 (nm_e ?_))
          refine mx_wdep vi ⟨vi, ?_⟩
          refine mx_bcol ?_
          exact mx_wcol vi h
      · refine ⟨co, de, (upd sn (nI (24 * y + x)).toNatClampNeg (sc_f (gs 5) (gs 3) (sn (nI (24 * y + x)).toNatClampNeg))), (upd (upd cn 0 (cn 0 + 1)) 3 ((upd cn 0 (cn 0 + 1)) 3 + 1)), rx', re, gr, bl, cl_4 ry', hc, fun post h => ?_, fun post h => ?_⟩
        · refine nm_e (nm_e (nm_e ?_))
          refine ⟨ns + 1, HX _ (ns + 1) (by omega) (br_f n10 (nm_r ex ?_))⟩
          exact mx_tests vi (fun a => absurd c1 a) (fun _ _ => br_t rfl h) (fun _ b => absurd b c2)
        · refine nm_e (nm_e (nm_e ?_))
          refine ⟨ns + 1, HY post _ _ (ns + 1) (by omega) (fun z => nomatch z) (fun _ => my_clamp ey ?_)⟩
          exact my_test vi hs (fun a => absurd c1 a) (fun _ _ => h) (fun _ b => absurd b c2)
    · refine ⟨co, de, (upd sn (nI (24 * y + x)).toNatClampNeg (sc_f (gs 4) (gs 3) (sn (nI (24 * y + x)).toNatClampNeg))), (upd (upd cn 0 (cn 0 + 1)) 2 ((upd cn 0 (cn 0 + 1)) 2 + 1)), rx', re, gr, bl, cl_4 ry', hc, fun post h => ?_, fun post h => ?_⟩
      · refine nm_e (nm_e (nm_e ?_))
        refine ⟨ns + 1, HX _ (ns + 1) (by omega) (br_f n10 (nm_r ex ?_))⟩
        exact mx_tests vi (fun _ => br_t rfl h) (fun a => absurd a c1) (fun a => absurd a c1)
      · refine nm_e (nm_e (nm_e ?_))
        refine ⟨ns + 1, HY post _ _ (ns + 1) (by omega) (fun z => nomatch z) (fun _ => my_clamp ey ?_)⟩
        exact my_test vi hs (fun _ => h) (fun a => absurd a c1) (fun a => absurd a c1)
end LCK
end
section
/-! cross products, the cover of a pixel, division downwards -/
def fd_g (s d : Int64) : Int32 := if s < s / d * d then (s / d - 1).toInt32 else (s / d).toInt32
theorem l64_lt {w : Int32} : w.toInt64 < 0 ↔ w < 0 := Int32.toInt64_lt (a := w) (b := 0)
theorem l64_le {w : Int32} : 0 ≤ w.toInt64 ↔ 0 ≤ w := Int32.toInt64_le (a := 0) (b := w)
theorem l64_le' {w : Int32} : w.toInt64 ≤ 0 ↔ w ≤ 0 := Int32.toInt64_le (a := w) (b := 0)
theorem l64_eq {w : Int32} : w.toInt64 = 0 ↔ w = 0 := by
  rw [← Int64.toInt_inj, ← Int32.toInt_inj, Int32.toInt_toInt64, Int64.toInt_zero, Int32.toInt_zero]
theorem ca_inI {n : Nat} (h : n ≤ 800) : ca_in (nI n) := by
  unfold ca_in
  rw [nI_toInt (by omega)]
  omega
theorem cv_mid {x : Nat} (h : x < 24) : ca_in (8 * nI x + 4) := by
  rw [show (8 : Int32) * nI x + 4 = nI (8 * x + 4) from ix_a (pk_mul 8 x) 4 rfl]
  exact ca_inI (by omega)
theorem cv_pos {vx vy vz vq pl : Nat → Int32} (hv : ri_ver vx vy vz vq pl) {a b c : Nat} (ha : a < 24) (hb : b < 24) (hc : c < 24) {mx my : Int32} (hx : ca_in mx) (hy : ca_in my)
    (hA : 0 < ca_cr (vx a).toInt (vy a).toInt (vx b).toInt (vy b).toInt (vx c).toInt (vy c).toInt) (cov : cv_a vx vy a b c mx my) :
    ca_wt (cv_w vx vy b c mx my) ∧ ca_wt (cv_w vx vy c a mx my) ∧ ca_wt (cv_w vx vy a b mx my) ∧ 0 < (cv_w vx vy b c mx my).toInt + (cv_w vx vy c a mx my).toInt + (cv_w vx vy a b mx my).toInt := by
  obtain ⟨_, a1, a2, _⟩ := hv a ha
  obtain ⟨_, b1, b2, _⟩ := hv b hb
  obtain ⟨_, c1, c2, _⟩ := hv c hc
  obtain ⟨p1, p2, _⟩ := ca_cross b1 b2 c1 c2 hx hy
  obtain ⟨q1, q2, _⟩ := ca_cross c1 c2 a1 a2 hx hy
  obtain ⟨r1, r2, _⟩ := ca_cross a1 a2 b1 b2 hx hy
  have s := ca_area (vx a).toInt (vy a).toInt (vx b).toInt (vy b).toInt (vx c).toInt (vy c).toInt mx.toInt my.toInt
  obtain ⟨k1, k2, k3⟩ := cov
  have f1 := Int32.le_iff_toInt_le.mp k1.1
  have f2 := Int32.le_iff_toInt_le.mp k2.1
  have f3 := Int32.le_iff_toInt_le.mp k3.1
  rw [Int32.toInt_zero] at f1 f2 f3
  have e1 : (cv_w vx vy b c mx my).toInt = _ := p1
  have e2 : (cv_w vx vy c a mx my).toInt = _ := q1
  have e3 : (cv_w vx vy a b mx my).toInt = _ := r1
  unfold ca_wt
  rw [e1] at f1 ⊢
  rw [e2] at f2 ⊢
  rw [e3] at f3 ⊢
  rw [s]
  refine ⟨⟨f1, ?_⟩, ⟨f2, ?_⟩, ⟨f3, ?_⟩, hA⟩
  · omega
  · omega
  · omega
section CVR
variable {NS SL ST SR SB KE CA CB CC FL WA WB WC : Int32} {co de sn tx vx vy vz vq vv gs cn so sd sa sq rx : Nat → Int32}
variable {LE TO WI HI VA VB VC LA ZZ : Int32} {re gr bl pl ry : Nat → Int32}
theorem mx_cross {post : Int32 → Prop} {a b : Nat} {x y : Int32} (ha : a < 24) (hb : b < 24) (h : post (cv_w vx vy a b x y)) : wpX_cross post (NS, SL, ST, SR, SB, KE, CA, CB, CC, FL, WA, WB, WC, co, de, sn, tx, vx, vy, vz, vq, vv, gs, cn, so, sd, sa, sq, rx) (nI a) (nI b) x y := by
  have va : vp_in (nI a) 24 := vp_in_nI ha (by decide)
  have vb : vp_in (nI b) 24 := vp_in_nI hb (by decide)
  have c1 : (nI a).toNatClampNeg = a := nI_clamp (by omega)
  have c2 : (nI b).toNatClampNeg = b := nI_clamp (by omega)
  refine ⟨vb, va, va, vb, va, va, ?_⟩
  rw [c1, c2]
  exact h
theorem mx_inside {post : Int32 → Prop} {w : Int32} {f t : Nat} (hf : f < 24) (ht : t < 24) (T : cv_1 vx vy w f t → post 1) (F : ¬ cv_1 vx vy w f t → post 0) : wpX_isInside post (NS, SL, ST, SR, SB, KE, CA, CB, CC, FL, WA, WB, WC, co, de, sn, tx, vx, vy, vz, vq, vv, gs, cn, so, sd, sa, sq, rx) w (nI f) (nI t) := by
  have vf : vp_in (nI f) 24 := vp_in_nI hf (by decide)
  have vt : vp_in (nI t) 24 := vp_in_nI ht (by decide)
  have c1 : (nI f).toNatClampNeg = f := nI_clamp (by omega)
  have c2 : (nI t).toNatClampNeg = t := nI_clamp (by omega)
  refine br_c (fun e => ⟨vt, vf, nm_r (e' := vy t - vy f) (by rw [c1, c2]) ⟨vt, vf, nm_r (e' := vx t - vx f) (by rw [c1, c2]) (br_c (fun a => T ⟨?_, fun _ => Or.inl a⟩) (fun a => br_c (fun b => br_c (fun d => F ?_) (fun d => T ⟨?_, fun _ => Or.inr ⟨b, Int32.not_le.mp d⟩⟩)) (fun b => F ?_)))⟩⟩) (fun e => br_c (fun a => F ?_) (fun a => T ⟨Int32.le_of_lt (Int32.not_le.mp a), fun q => absurd q e⟩))
  · rw [e]
    decide
  · exact fun z => (z.2 e).elim a (fun q => absurd q.2 (Int32.not_lt.mpr d))
  · rw [e]
    decide
  · exact fun z => (z.2 e).elim a (fun q => b q.1)
  · exact fun z => e (Int32.le_antisymm a z.1)
theorem mx_covers {post : Int32 → SX → Prop} {a b c : Nat} {x y : Int32} (ha : a < 24) (hb : b < 24) (hc : c < 24) (T : cv_a vx vy a b c (8 * x + 4) (8 * y + 4) → post 1 (NS, SL, ST, SR, SB, KE, nI a, nI b, nI c, FL, cv_w vx vy b c (8 * x + 4) (8 * y + 4), cv_w vx vy c a (8 * x + 4) (8 * y + 4), cv_w vx vy a b (8 * x + 4) (8 * y + 4), co, de, sn, tx, vx, vy, vz, vq, vv, gs, cn, so, sd, sa, sq, rx)) (F : ¬ cv_a vx vy a b c (8 * x + 4) (8 * y + 4) → post 0 (NS, SL, ST, SR, SB, KE, nI a, nI b, nI c, FL, cv_w vx vy b c (8 * x + 4) (8 * y + 4), cv_w vx vy c a (8 * x + 4) (8 * y + 4), cv_w vx vy a b (8 * x + 4) (8 * y + 4), co, de, sn, tx, vx, vy, vz, vq, vv, gs, cn, so, sd, sa, sq, rx)) : wpX_coversPixel post (NS, SL, ST, SR, SB, KE, nI a, nI b, nI c, FL, WA, WB, WC, co, de, sn, tx, vx, vy, vz, vq, vv, gs, cn, so, sd, sa, sq, rx) x y := by
  unfold wpX_coversPixel
  refine nm_e (nm_e ?_)
  refine mx_cross hb hc ?_
  refine mx_cross hc ha ?_
  refine mx_cross ha hb ?_
  refine mx_inside hb hc (fun p => br_f n10 ?_) (fun p => br_t rfl (F (fun z => p z.1)))
  refine mx_inside hc ha (fun q => br_f n10 ?_) (fun q => br_t rfl (F (fun z => q z.2.1)))
  exact mx_inside ha hb (fun r => br_f n10 (T ⟨p, q, r⟩)) (fun r => br_t rfl (F (fun z => r z.2.2)))
theorem mx_div {post : Int32 → Prop} {s d : Int64} (hd : 0 < d) (h : post (fd_g s d)) : wpX_dividedDownwards post s d := by
  unfold fd_g at h
  have ne : ¬ d = 0 := fun z => by rw [z] at hd; exact absurd hd (by decide)
  refine br_t hd ⟨ne, nm_e (br_c (fun a => ?_) (fun a => ?_))⟩
  · rw [if_neg (Int64.not_lt.mpr a)] at h
    exact h
  · rw [if_pos (Int64.not_le.mp a)] at h
    exact h
theorem my_weight {post : Int64 → Prop} {a b : Nat} {x y : Int32} (hv : ri_ver vx vy vz vq pl) (ha : a < 24) (hb : b < 24) (hx : ca_in x) (hy : ca_in y) (h : post (cv_w vx vy a b x y).toInt64) : wpY_weight post (LE, TO, WI, HI, NS, KE, VA, VB, VC, LA, ZZ, re, gr, bl, de, sn, tx, pl, vv, gs, so, sd, sa, sq, cn, ry) (nI a) (nI b) x y := by
  obtain ⟨⟨p1, p2, _, _⟩, a1, a2, _⟩ := hv a ha
  obtain ⟨⟨q1, q2, _, _⟩, b1, b2, _⟩ := hv b hb
  have ia : (4 : Int32) * nI a = nI (4 * a) := pk_mul 4 a
  have ib : (4 : Int32) * nI b = nI (4 * b) := pk_mul 4 b
  obtain ⟨v1, c1⟩ := ix_p 96 ia (by omega) (by decide)
  obtain ⟨v2, c2⟩ := ix_p (x := 4 * nI a + 1) 96 (ix_a ia 1 rfl) (by omega) (by decide)
  obtain ⟨v3, c3⟩ := ix_p 96 ib (by omega) (by decide)
  obtain ⟨v4, c4⟩ := ix_p (x := 4 * nI b + 1) 96 (ix_a ib 1 rfl) (by omega) (by decide)
  refine ⟨v1, v2, v3, v4, ?_⟩
  show post _
  rw [show cv_w vx vy a b x y = (vx b - vx a) * (y - vy a) - (vy b - vy a) * (x - vx a) from rfl, (ca_cross a1 a2 b1 b2 hx hy).2.2] at h
  rw [p1, p2, q1, q2] at h
  rw [c1, c2, c3, c4]
  exact h
theorem my_has {post : Int32 → Prop} {f t : Nat} (hv : ri_ver vx vy vz vq pl) (hf : f < 24) (ht : t < 24) (T : cv_h vx vy f t → post 1) (F : ¬ cv_h vx vy f t → post 0) : wpY_has post (LE, TO, WI, HI, NS, KE, VA, VB, VC, LA, ZZ, re, gr, bl, de, sn, tx, pl, vv, gs, so, sd, sa, sq, cn, ry) (nI f) (nI t) := by
  obtain ⟨⟨p1, p2, _, _⟩, _⟩ := hv f hf
  obtain ⟨⟨q1, q2, _, _⟩, _⟩ := hv t ht
  have ia : (4 : Int32) * nI f = nI (4 * f) := pk_mul 4 f
  have ib : (4 : Int32) * nI t = nI (4 * t) := pk_mul 4 t
  obtain ⟨v1, c1⟩ := ix_p 96 ia (by omega) (by decide)
  obtain ⟨v2, c2⟩ := ix_p (x := 4 * nI f + 1) 96 (ix_a ia 1 rfl) (by omega) (by decide)
  obtain ⟨v3, c3⟩ := ix_p 96 ib (by omega) (by decide)
  obtain ⟨v4, c4⟩ := ix_p (x := 4 * nI t + 1) 96 (ix_a ib 1 rfl) (by omega) (by decide)
  refine ⟨v3, v1, nm_r (e' := vx t - vx f) (by rw [c1, c3, p1, q1]) ⟨v4, v2, nm_r (e' := vy t - vy f) (by rw [c2, c4, p2, q2]) (br_c (fun a => T (Or.inl a)) (fun a => br_c (fun b => br_c (fun d => F ?_) (fun d => T (Or.inr ⟨b, Int32.not_le.mp d⟩))) (fun b => F ?_)))⟩⟩
  · exact fun z => z.elim a (fun q => absurd q.2 (Int32.not_lt.mpr d))
  · exact fun z => z.elim a (fun q => b q.1)
theorem my_look {post : SY → Prop} {a b c : Nat} {x y : Int32} (hv : ri_ver vx vy vz vq pl) (ha : a < 24) (hb : b < 24) (hc : c < 24) (hx : ca_in (8 * x + 4)) (hy : ca_in (8 * y + 4)) (T : cv_a vx vy a b c (8 * x + 4) (8 * y + 4) → wY_look_155 post x y (cv_w vx vy b c (8 * x + 4) (8 * y + 4)).toInt64 (cv_w vx vy c a (8 * x + 4) (8 * y + 4)).toInt64 (cv_w vx vy a b (8 * x + 4) (8 * y + 4)).toInt64 LE TO WI HI NS KE (nI a) (nI b) (nI c) LA ZZ re gr bl de sn tx pl vv gs so sd sa sq cn ry) (F : ¬ cv_a vx vy a b c (8 * x + 4) (8 * y + 4) → post (LE, TO, WI, HI, NS, KE, nI a, nI b, nI c, LA, ZZ, re, gr, bl, de, sn, tx, pl, vv, gs, so, sd, sa, sq, cn, ry)) : wpY_look post (LE, TO, WI, HI, NS, KE, nI a, nI b, nI c, LA, ZZ, re, gr, bl, de, sn, tx, pl, vv, gs, so, sd, sa, sq, cn, ry) x y := by
  have H132 : cv_1 vx vy (cv_w vx vy b c (8 * x + 4) (8 * y + 4)) b c → cv_1 vx vy (cv_w vx vy c a (8 * x + 4) (8 * y + 4)) c a → 0 ≤ cv_w vx vy a b (8 * x + 4) (8 * y + 4) → wY_look_132 post x y (cv_w vx vy b c (8 * x + 4) (8 * y + 4)).toInt64 (cv_w vx vy c a (8 * x + 4) (8 * y + 4)).toInt64 (cv_w vx vy a b (8 * x + 4) (8 * y + 4)).toInt64 LE TO WI HI NS KE (nI a) (nI b) (nI c) LA ZZ re gr bl de sn tx pl vv gs so sd sa sq cn ry := by
    intro k1 k2 k3
    refine br_c (fun e => ?_) (fun e => T ⟨k1, k2, k3, fun z => absurd (l64_eq.mpr z) e⟩)
    exact my_has hv ha hb (fun t => br_f n10 (T ⟨k1, k2, k3, fun _ => t⟩)) (fun t => br_t rfl (F (fun z => t (z.2.2.2 (l64_eq.mp e)))))
  have H110 : cv_1 vx vy (cv_w vx vy b c (8 * x + 4) (8 * y + 4)) b c → 0 ≤ cv_w vx vy c a (8 * x + 4) (8 * y + 4) → 0 ≤ cv_w vx vy a b (8 * x + 4) (8 * y + 4) → wY_look_110 post x y (cv_w vx vy b c (8 * x + 4) (8 * y + 4)).toInt64 (cv_w vx vy c a (8 * x + 4) (8 * y + 4)).toInt64 (cv_w vx vy a b (8 * x + 4) (8 * y + 4)).toInt64 LE TO WI HI NS KE (nI a) (nI b) (nI c) LA ZZ re gr bl de sn tx pl vv gs so sd sa sq cn ry := by
    intro k1 k2 k3
    refine br_c (fun e => ?_) (fun e => H132 k1 ⟨k2, fun z => absurd (l64_eq.mpr z) e⟩ k3)
    exact my_has hv hc ha (fun t => br_f n10 (H132 k1 ⟨k2, fun _ => t⟩ k3)) (fun t => br_t rfl (F (fun z => t (z.2.1.2 (l64_eq.mp e)))))
  unfold wpY_look
  refine nm_e (nm_e ?_)
  refine my_weight hv hb hc hx hy ?_
  refine my_weight hv hc ha hx hy ?_
  refine my_weight hv ha hb hx hy ?_
  refine br_c (fun p => F (fun z => absurd (l64_lt.mp p) (Int32.not_lt.mpr z.1.1))) (fun p => br_c (fun q => F (fun z => absurd (l64_lt.mp q) (Int32.not_lt.mpr z.2.1.1))) (fun q => br_c (fun r => ?_) (fun r => F (fun z => r (l64_le.mpr z.2.2.1)))))
  have k1 : 0 ≤ cv_w vx vy b c (8 * x + 4) (8 * y + 4) := Int32.not_lt.mp (fun z => p (l64_lt.mpr z))
  have k2 : 0 ≤ cv_w vx vy c a (8 * x + 4) (8 * y + 4) := Int32.not_lt.mp (fun z => q (l64_lt.mpr z))
  have k3 : 0 ≤ cv_w vx vy a b (8 * x + 4) (8 * y + 4) := l64_le.mp r
  refine br_c (fun e => ?_) (fun e => H110 ⟨k1, fun z => absurd (l64_eq.mpr z) e⟩ k2 k3)
  exact my_has hv hb hc (fun t => br_f n10 (H110 ⟨k1, fun _ => t⟩ k2 k3)) (fun t => br_t rfl (F (fun z => t (z.1.2 (l64_eq.mp e)))))
end CVR
end
section
/-! the values of a pixel between the corners, on both sides -/
def tv_s (qa qb qc : Int64) (vv : Nat → Int32) (a b c n : Nat) : Int64 := qa * (vv (6 * a + n)).toInt64 + qb * (vv (6 * b + n)).toInt64 + qc * (vv (6 * c + n)).toInt64
def tv_v (gs vv : Nat → Int32) (qa qb qc : Int64) (a b c fl n : Nat) : Int32 := if gs 11 = 1 ∧ n < 4 then vv (6 * fl + n) else fd_g (tv_s qa qb qc vv a b c n) (qa + qb + qc)
theorem tv_x6 (i j : Nat) : nI i * 6 + nI j = nI (6 * i + j) := (ix_a (pk_mul i 6) j rfl).trans (congrArg nI (by omega))
theorem tv_y6 (i j : Nat) : 6 * nI i + nI j = nI (6 * i + j) := ix_a (pk_mul 6 i) j rfl
section VAL
variable {NS SL ST SR SB KE CA CB CC FL WA WB WC : Int32} {co de sn tx vx vy vz vq vv gs cn so sd sa sq rx : Nat → Int32}
variable {LE TO WI HI VA VB VC LA ZZ : Int32} {re gr bl pl ry : Nat → Int32}
theorem mx_lvl {i m : Nat} (hi : i < 24) (hm : m ≤ 6) : ∀ (k j : Nat) (rx : Nat → Int32), j + k = m → ∃ r' : Nat → Int32, (∀ n, r' n = if j ≤ n ∧ n < m then vv (6 * i + n) else rx n) ∧ ∀ (post : SX → Prop) (n : Nat), k < n → post (NS, SL, ST, SR, SB, KE, CA, CB, CC, FL, WA, WB, WC, co, de, sn, tx, vx, vy, vz, vq, vv, gs, cn, so, sd, sa, sq, r') → wX_loadVertexValues_2 post (nI i) (nI m) NS SL ST SR SB KE CA CB CC FL WA WB WC n (nI j) co de sn tx vx vy vz vq vv gs cn so sd sa sq rx := by
  intro k
  induction k with
  | zero =>
    intro j rx hj
    refine ⟨rx, fun n => (if_neg (by omega)).symm, fun post n hn h => ?_⟩
    obtain ⟨n, rfl⟩ : ∃ m, n = m + 1 := ⟨n - 1, by omega⟩
    rw [wX_loadVertexValues_2]
    exact br_t (nI_le (by omega) (by omega)) h
  | succ k ih =>
    intro j rx hj
    obtain ⟨v1, c1⟩ := ix_p 144 (tv_x6 i j) (by omega) (by decide)
    obtain ⟨v2, c2⟩ := ix_p (x := nI j) 8 rfl (by omega) (by decide)
    obtain ⟨r', hr, H⟩ := ih (j + 1) (upd rx j (vv (6 * i + j))) (by omega)
    refine ⟨r', fun n => ?_, fun post n hn h => ?_⟩
    · rw [hr n]
      by_cases e : n = j
      · subst e
        rw [if_neg (by omega), pk_us, if_pos (by omega)]
      · rw [pk_un e]
        by_cases g : j + 1 ≤ n ∧ n < m
        · rw [if_pos g, if_pos (by omega)]
        · rw [if_neg g, if_neg (by omega)]
    · obtain ⟨n, rfl⟩ : ∃ m, n = m + 1 := ⟨n - 1, by omega⟩
      rw [wX_loadVertexValues_2]
      exact br_f (nI_ge (by omega) (by omega)) ⟨v1, v2, nm_r (e' := upd rx j (vv (6 * i + j))) (by rw [c1, c2]) (nm_r (nI_1 j) (H post n (by omega) h))⟩
theorem mx_lvv {i m : Nat} (hi : i < 24) (hm : m ≤ 6) (rx : Nat → Int32) : ∃ r' : Nat → Int32, (∀ n, r' n = if n < m then vv (6 * i + n) else rx n) ∧ ∀ (post : SX → Prop), post (NS, SL, ST, SR, SB, KE, CA, CB, CC, FL, WA, WB, WC, co, de, sn, tx, vx, vy, vz, vq, vv, gs, cn, so, sd, sa, sq, r') → wpX_loadVertexValues post (NS, SL, ST, SR, SB, KE, CA, CB, CC, FL, WA, WB, WC, co, de, sn, tx, vx, vy, vz, vq, vv, gs, cn, so, sd, sa, sq, rx) (nI i) (nI m) := by
  obtain ⟨r', hr, H⟩ := mx_lvl (NS := NS) (SL := SL) (ST := ST) (SR := SR) (SB := SB) (KE := KE) (CA := CA) (CB := CB) (CC := CC) (FL := FL) (WA := WA) (WB := WB) (WC := WC) (co := co) (de := de) (sn := sn) (tx := tx) (vx := vx) (vy := vy) (vz := vz) (vq := vq) (vv := vv) (gs := gs) (cn := cn) (so := so) (sd := sd) (sa := sa) (sq := sq) hi hm m 0 rx (by omega)
  refine ⟨r', fun n => ?_, fun post h => ⟨m + 1, H post (m + 1) (by omega) h⟩⟩
  rw [hr n]
  by_cases g : n < m
  · rw [if_pos g, if_pos (by omega)]
  · rw [if_neg g, if_neg (by omega)]
theorem mx_ltl {a b c : Nat} {qa qb qc S : Int64} (ha : a < 24) (hb : b < 24) (hc : c < 24) (hS : 0 < S) : ∀ (k j : Nat) (rx : Nat → Int32), j + k = 6 → ∃ r' : Nat → Int32, (∀ n, r' n = if j ≤ n ∧ n < 6 then fd_g (tv_s qa qb qc vv a b c n) S else rx n)
    ∧ ∀ (post : SX → Prop) (n : Nat), k < n → ((gs 11 = 1 → wpX_loadVertexValues (fun u => match u with | (NS, SL, ST, SR, SB, KE, CA, CB, CC, FL, WA, WB, WC, co, de, sn, tx, vx, vy, vz, vq, vv, gs, cn, so, sd, sa, sq, rx) => post (NS, SL, ST, SR, SB, KE, CA, CB, CC, FL, WA, WB, WC, co, de, sn, tx, vx, vy, vz, vq, vv, gs, cn, so, sd, sa, sq, rx)) (NS, SL, ST, SR, SB, KE, nI a, nI b, nI c, FL, WA, WB, WC, co, de, sn, tx, vx, vy, vz, vq, vv, gs, cn, so, sd, sa, sq, r') FL 4) ∧ (¬ gs 11 = 1 → post (NS, SL, ST, SR, SB, KE, nI a, nI b, nI c, FL, WA, WB, WC, co, de, sn, tx, vx, vy, vz, vq, vv, gs, cn, so, sd, sa, sq, r'))) → wX_loadTriangleValues_63 post qa qb qc S NS SL ST SR SB KE (nI a) (nI b) (nI c) FL WA WB WC n (nI j) co de sn tx vx vy vz vq vv gs cn so sd sa sq rx := by
  intro k
  induction k with
  | zero =>
    intro j rx hj
    refine ⟨rx, fun n => (if_neg (by omega)).symm, fun post n hn h => ?_⟩
    obtain ⟨n, rfl⟩ : ∃ m, n = m + 1 := ⟨n - 1, by omega⟩
    rw [wX_loadTriangleValues_63]
    exact br_t (nI_le (a := 6) (by omega) (by omega)) h
  | succ k ih =>
    intro j rx hj
    obtain ⟨v1, c1⟩ := ix_p 144 (tv_x6 a j) (by omega) (by decide)
    obtain ⟨v2, c2⟩ := ix_p 144 (tv_x6 b j) (by omega) (by decide)
    obtain ⟨v3, c3⟩ := ix_p 144 (tv_x6 c j) (by omega) (by decide)
    obtain ⟨v4, c4⟩ := ix_p (x := nI j) 8 rfl (by omega) (by decide)
    obtain ⟨r', hr, H⟩ := ih (j + 1) (upd rx j (fd_g (tv_s qa qb qc vv a b c j) S)) (by omega)
    refine ⟨r', fun n => ?_, fun post n hn h => ?_⟩
    · rw [hr n]
      by_cases e : n = j
      · subst e
        rw [if_neg (by omega), pk_us, if_pos (by omega)]
      · rw [pk_un e]
        by_cases g : j + 1 ≤ n ∧ n < 6
        · rw [if_pos g, if_pos (by omega)]
        · rw [if_neg g, if_neg (by omega)]
    · obtain ⟨n, rfl⟩ : ∃ m, n = m + 1 := ⟨n - 1, by omega⟩
      rw [wX_loadTriangleValues_63]
      refine br_f (nI_ge (b := 6) (by omega) (by omega)) ⟨v1, v2, v3, nm_r (e' := tv_s qa qb qc vv a b c j) (by rw [c1, c2, c3]; rfl) ?_⟩
      refine mx_div hS ?_
      exact ⟨v4, nm_r (e' := upd rx j (fd_g (tv_s qa qb qc vv a b c j) S)) (by rw [c4]) (nm_r (nI_1 j) (H post n (by omega) h))⟩
theorem mx_load {a b c fl : Nat} (ha : a < 24) (hb : b < 24) (hc : c < 24) (hf : fl < 24) (hS : 0 < WA.toInt64 * (vq a).toInt64 + WB.toInt64 * (vq b).toInt64 + WC.toInt64 * (vq c).toInt64) (rx : Nat → Int32) : ∃ r' : Nat → Int32, (∀ n, n < 6 → r' n = tv_v gs vv (WA.toInt64 * (vq a).toInt64) (WB.toInt64 * (vq b).toInt64) (WC.toInt64 * (vq c).toInt64) a b c fl n)
    ∧ ∀ (post : SX → Prop), post (NS, SL, ST, SR, SB, KE, nI a, nI b, nI c, nI fl, WA, WB, WC, co, de, sn, tx, vx, vy, vz, vq, vv, gs, cn, so, sd, sa, sq, r') → wpX_loadTriangleValues post (NS, SL, ST, SR, SB, KE, nI a, nI b, nI c, nI fl, WA, WB, WC, co, de, sn, tx, vx, vy, vz, vq, vv, gs, cn, so, sd, sa, sq, rx) := by
  have va : vp_in (nI a) 24 := vp_in_nI ha (by decide)
  have vb : vp_in (nI b) 24 := vp_in_nI hb (by decide)
  have vc : vp_in (nI c) 24 := vp_in_nI hc (by decide)
  have c1 : (nI a).toNatClampNeg = a := nI_clamp (by omega)
  have c2 : (nI b).toNatClampNeg = b := nI_clamp (by omega)
  have c3 : (nI c).toNatClampNeg = c := nI_clamp (by omega)
  obtain ⟨r1, h1, H1⟩ := mx_ltl (NS := NS) (SL := SL) (ST := ST) (SR := SR) (SB := SB) (KE := KE) (FL := nI fl) (WA := WA) (WB := WB) (WC := WC) (co := co) (de := de) (sn := sn) (tx := tx) (vx := vx) (vy := vy) (vz := vz) (vq := vq) (vv := vv) (gs := gs) (cn := cn) (so := so) (sd := sd) (sa := sa) (sq := sq) (qa := WA.toInt64 * (vq a).toInt64) (qb := WB.toInt64 * (vq b).toInt64) (qc := WC.toInt64 * (vq c).toInt64) ha hb hc hS 6 0 rx rfl
  by_cases f : gs 11 = 1
  · obtain ⟨r2, h2, H2⟩ := mx_lvv (NS := NS) (SL := SL) (ST := ST) (SR := SR) (SB := SB) (KE := KE) (CA := nI a) (CB := nI b) (CC := nI c) (FL := nI fl) (WA := WA) (WB := WB) (WC := WC) (co := co) (de := de) (sn := sn) (tx := tx) (vx := vx) (vy := vy) (vz := vz) (vq := vq) (vv := vv) (gs := gs) (cn := cn) (so := so) (sd := sd) (sa := sa) (sq := sq) (i := fl) (m := 4) hf (by decide) r1
    refine ⟨r2, fun n hn => ?_, fun post h => ?_⟩
    · rw [h2 n]
      unfold tv_v
      by_cases g : n < 4
      · rw [if_pos g, if_pos ⟨f, g⟩]
      · rw [if_neg g, if_neg (fun z => g z.2), h1 n, if_pos ⟨by omega, hn⟩]
    · exact ⟨va, nm_r (e' := WA.toInt64 * (vq a).toInt64) (by rw [c1]) ⟨vb, nm_r (e' := WB.toInt64 * (vq b).toInt64) (by rw [c2]) ⟨vc, nm_r (e' := WC.toInt64 * (vq c).toInt64) (by rw [c3]) (nm_e ⟨7, H1 post 7 (by decide) ⟨fun _ => H2 _ h, fun z => absurd f z⟩⟩)⟩⟩⟩
  · refine ⟨r1, fun n hn => ?_, fun post h => ?_⟩
    · unfold tv_v
      rw [if_neg (fun z => f z.1), h1 n, if_pos ⟨by omega, hn⟩]
    · exact ⟨va, nm_r (e' := WA.toInt64 * (vq a).toInt64) (by rw [c1]) ⟨vb, nm_r (e' := WB.toInt64 * (vq b).toInt64) (by rw [c2]) ⟨vc, nm_r (e' := WC.toInt64 * (vq c).toInt64) (by rw [c3]) (nm_e ⟨7, H1 post 7 (by decide) ⟨fun z => absurd z f, fun _ => h⟩⟩)⟩⟩⟩
theorem mx_depth {post : Int32 → Prop} {a b c : Nat} (ha : a < 24) (hb : b < 24) (hc : c < 24) (hW : 0 < WA.toInt64 + WB.toInt64 + WC.toInt64) (h : post (fd_g (WA.toInt64 * (vz a).toInt64 + WB.toInt64 * (vz b).toInt64 + WC.toInt64 * (vz c).toInt64) (WA.toInt64 + WB.toInt64 + WC.toInt64))) : wpX_triangleDepth post (NS, SL, ST, SR, SB, KE, nI a, nI b, nI c, FL, WA, WB, WC, co, de, sn, tx, vx, vy, vz, vq, vv, gs, cn, so, sd, sa, sq, rx) := by
  have va : vp_in (nI a) 24 := vp_in_nI ha (by decide)
  have vb : vp_in (nI b) 24 := vp_in_nI hb (by decide)
  have vc : vp_in (nI c) 24 := vp_in_nI hc (by decide)
  have c1 : (nI a).toNatClampNeg = a := nI_clamp (by omega)
  have c2 : (nI b).toNatClampNeg = b := nI_clamp (by omega)
  have c3 : (nI c).toNatClampNeg = c := nI_clamp (by omega)
  refine ⟨va, vb, vc, nm_r (e' := WA.toInt64 * (vz a).toInt64 + WB.toInt64 * (vz b).toInt64 + WC.toInt64 * (vz c).toInt64) (by rw [c1, c2, c3]) ?_⟩
  exact mx_div hW h
theorem my_ltl {a b c fl : Nat} {qa qb qc : Int64} (ha : a < 24) (hb : b < 24) (hc : c < 24) (hf : fl < 24) (hS : 0 < qa + qb + qc) : ∀ (k j : Nat) (ry : Nat → Int32), j + k = 6 → ∃ r' : Nat → Int32, (∀ n, r' n = if j ≤ n ∧ n < 6 then tv_v gs vv qa qb qc a b c fl n else ry n)
    ∧ ∀ (post : SY → Prop) (x y : Int32) (n : Nat), k < n → wpY_work (fun u => match u with | (LE, TO, WI, HI, NS, KE, VA, VB, VC, LA, ZZ, re, gr, bl, de, sn, tx, pl, vv, gs, so, sd, sa, sq, cn, ry) => post (LE, TO, WI, HI, NS, KE, VA, VB, VC, LA, ZZ, re, gr, bl, de, sn, tx, pl, vv, gs, so, sd, sa, sq, cn, ry)) (LE, TO, WI, HI, NS, KE, nI a, nI b, nI c, nI fl, ZZ, re, gr, bl, de, sn, tx, pl, vv, gs, so, sd, sa, sq, cn, r') x y → wY_look_282 post x y qa qb qc LE TO WI HI NS KE (nI a) (nI b) (nI c) (nI fl) ZZ n (nI j) re gr bl de sn tx pl vv gs so sd sa sq cn ry := by
  have ne : ¬ qa + qb + qc = 0 := fun z => by rw [z] at hS; exact absurd hS (by decide)
  intro k
  induction k with
  | zero =>
    intro j ry hj
    refine ⟨ry, fun n => (if_neg (by omega)).symm, fun post x y n hn h => ?_⟩
    obtain ⟨n, rfl⟩ : ∃ m, n = m + 1 := ⟨n - 1, by omega⟩
    rw [wY_look_282]
    exact br_t (nI_le (a := 6) (by omega) (by omega)) h
  | succ k ih =>
    intro j ry hj
    obtain ⟨v1, c1⟩ := ix_p 144 (tv_y6 a j) (by omega) (by decide)
    obtain ⟨v2, c2⟩ := ix_p 144 (tv_y6 b j) (by omega) (by decide)
    obtain ⟨v3, c3⟩ := ix_p 144 (tv_y6 c j) (by omega) (by decide)
    obtain ⟨v5, c5⟩ := ix_p 144 (tv_y6 fl j) (by omega) (by decide)
    obtain ⟨v4, c4⟩ := ix_p (x := nI j) 8 rfl (by omega) (by decide)
    obtain ⟨r', hr, H⟩ := ih (j + 1) (upd ry j (tv_v gs vv qa qb qc a b c fl j)) (by omega)
    refine ⟨r', fun n => ?_, fun post x y n hn h => ?_⟩
    · rw [hr n]
      by_cases e : n = j
      · subst e
        rw [if_neg (by omega), pk_us, if_pos (by omega)]
      · rw [pk_un e]
        by_cases g : j + 1 ≤ n ∧ n < 6
        · rw [if_pos g, if_pos (by omega)]
        · rw [if_neg g, if_neg (by omega)]
    · obtain ⟨n, rfl⟩ : ∃ m, n = m + 1 := ⟨n - 1, by omega⟩
      have K := H post x y n (by omega) h
      have hv : ∀ w : Int64, (¬ (gs 11 = 1 ∧ j < 4) → tv_v gs vv qa qb qc a b c fl j = w.toInt32) → wY_look_383 post (wY_look_282 post x y qa qb qc LE TO WI HI NS KE (nI a) (nI b) (nI c) (nI fl) ZZ n) x y qa qb qc (nI j) w LE TO WI HI NS KE (nI a) (nI b) (nI c) (nI fl) ZZ re gr bl de sn tx pl vv gs so sd sa sq cn ry := by
        intro w hw
        refine br_c (fun f => br_c (fun g => ⟨v4, nm_r (e' := upd ry j (tv_v gs vv qa qb qc a b c fl j)) ?_ (nm_r (nI_1 j) K)⟩) (fun g => ⟨v5, v4, nm_r (e' := upd ry j (tv_v gs vv qa qb qc a b c fl j)) ?_ (nm_r (nI_1 j) K)⟩)) (fun f => ⟨v4, nm_r (e' := upd ry j (tv_v gs vv qa qb qc a b c fl j)) ?_ (nm_r (nI_1 j) K)⟩)
        · have g' : ¬ j < 4 := fun z => nI_ge (b := 4) z (by decide) g
          rw [c4, hw (fun z => g' z.2)]
        · have g' : j < 4 := by
            rcases Nat.lt_or_ge j 4 with z | z
            · exact z
            · exact absurd (nI_le (a := 4) z (by omega)) g
          rw [c4, c5]
          unfold tv_v
          rw [if_pos ⟨f, g'⟩]
        · rw [c4, hw (fun z => f z.1)]
      rw [wY_look_282]
      refine br_f (nI_ge (b := 6) (by omega) (by omega)) ⟨v1, v2, v3, nm_r (e' := tv_s qa qb qc vv a b c j) (by rw [c1, c2, c3]; rfl) (nm_e ⟨ne, nm_e ⟨ne, br_c (fun p => hv _ (fun z => ?_)) (fun p => nm_e (hv _ (fun z => ?_)))⟩⟩)⟩
      · unfold tv_v fd_g
        rw [if_neg z, if_neg (fun q => absurd ((fd_iff hS).mp q) (Int64.not_lt.mpr p))]
      · unfold tv_v fd_g
        rw [if_neg z, if_pos ((fd_iff hS).mpr (Int64.not_le.mp p))]
theorem my_155 {a b c fl : Nat} {wa wb wc : Int64} (hv : ri_ver vx vy vz vq pl) (ha : a < 24) (hb : b < 24) (hc : c < 24) (hf : fl < 24) (hW : 0 < wa + wb + wc) (hS : 0 < wa * (vq a).toInt64 + wb * (vq b).toInt64 + wc * (vq c).toInt64) (ry : Nat → Int32) : ∃ r' : Nat → Int32, (∀ n, n < 6 → r' n = tv_v gs vv (wa * (vq a).toInt64) (wb * (vq b).toInt64) (wc * (vq c).toInt64) a b c fl n)
    ∧ ∀ (post : SY → Prop) (x y : Int32), wpY_work (fun u => match u with | (LE, TO, WI, HI, NS, KE, VA, VB, VC, LA, ZZ, re, gr, bl, de, sn, tx, pl, vv, gs, so, sd, sa, sq, cn, ry) => post (LE, TO, WI, HI, NS, KE, VA, VB, VC, LA, ZZ, re, gr, bl, de, sn, tx, pl, vv, gs, so, sd, sa, sq, cn, ry)) (LE, TO, WI, HI, NS, KE, nI a, nI b, nI c, nI fl, ((wa * (vz a).toInt64 + wb * (vz b).toInt64 + wc * (vz c).toInt64) / (wa + wb + wc)).toInt32, re, gr, bl, de, sn, tx, pl, vv, gs, so, sd, sa, sq, cn, r') x y → wY_look_155 post x y wa wb wc LE TO WI HI NS KE (nI a) (nI b) (nI c) (nI fl) ZZ re gr bl de sn tx pl vv gs so sd sa sq cn ry := by
  have ne : ¬ wa + wb + wc = 0 := fun z => by rw [z] at hW; exact absurd hW (by decide)
  obtain ⟨⟨_, _, p3, p4⟩, _⟩ := hv a ha
  obtain ⟨⟨_, _, q3, q4⟩, _⟩ := hv b hb
  obtain ⟨⟨_, _, r3, r4⟩, _⟩ := hv c hc
  obtain ⟨v1, c1⟩ := ix_p (x := 4 * nI a + 2) 96 (ix_a (pk_mul 4 a) 2 rfl) (by omega) (by decide)
  obtain ⟨v2, c2⟩ := ix_p (x := 4 * nI b + 2) 96 (ix_a (pk_mul 4 b) 2 rfl) (by omega) (by decide)
  obtain ⟨v3, c3⟩ := ix_p (x := 4 * nI c + 2) 96 (ix_a (pk_mul 4 c) 2 rfl) (by omega) (by decide)
  obtain ⟨v4, c4⟩ := ix_p (x := 4 * nI a + 3) 96 (ix_a (pk_mul 4 a) 3 rfl) (by omega) (by decide)
  obtain ⟨v5, c5⟩ := ix_p (x := 4 * nI b + 3) 96 (ix_a (pk_mul 4 b) 3 rfl) (by omega) (by decide)
  obtain ⟨v6, c6⟩ := ix_p (x := 4 * nI c + 3) 96 (ix_a (pk_mul 4 c) 3 rfl) (by omega) (by decide)
  obtain ⟨r', hr, H⟩ := my_ltl (LE := LE) (TO := TO) (WI := WI) (HI := HI) (NS := NS) (KE := KE) (ZZ := ((wa * (vz a).toInt64 + wb * (vz b).toInt64 + wc * (vz c).toInt64) / (wa + wb + wc)).toInt32) (re := re) (gr := gr) (bl := bl) (de := de) (sn := sn) (tx := tx) (pl := pl) (vv := vv) (gs := gs) (so := so) (sd := sd) (sa := sa) (sq := sq) (cn := cn) (fl := fl) (qa := wa * (vq a).toInt64) (qb := wb * (vq b).toInt64) (qc := wc * (vq c).toInt64) ha hb hc hf hS 6 0 ry rfl
  refine ⟨r', fun n hn => ?_, fun post x y h => ?_⟩
  · rw [hr n, if_pos ⟨by omega, hn⟩]
  · exact ⟨v1, v2, v3, ne, nm_r (e' := ((wa * (vz a).toInt64 + wb * (vz b).toInt64 + wc * (vz c).toInt64) / (wa + wb + wc)).toInt32) (by rw [c1, c2, c3, p3, q3, r3]) ⟨v4, nm_r (e' := wa * (vq a).toInt64) (by rw [c4, p4]) ⟨v5, nm_r (e' := wb * (vq b).toInt64) (by rw [c5, q4]) ⟨v6, nm_r (e' := wc * (vq c).toInt64) (by rw [c6, r4]) ⟨7, H post x y 7 (by decide) h⟩⟩⟩⟩⟩
end VAL
end
section
/-! a triangle's pixels, row by row, in lockstep -/
def fz_ok (ns : Nat) (tx vx vy vz vq gs so sd sa sq pl : Nat → Int32) : Prop := ns ≤ 10 ∧ ri_stp ns so sd sa sq ∧ ri_tex tx ∧ ri_set gs ∧ ri_ver vx vy vz vq pl
def ar_p (vx vy : Nat → Int32) (a b c : Nat) : Prop := a < 24 ∧ b < 24 ∧ c < 24 ∧ 0 < ca_cr (vx a).toInt (vy a).toInt (vx b).toInt (vy b).toInt (vx c).toInt (vy c).toInt
section ROW
variable {NS SL ST SR SB KE CA CB CC FL WA WB WC : Int32} {co de sn tx vx vy vz vq vv gs cn so sd sa sq rx : Nat → Int32}
variable {LE TO WI HI VA VB VC LA ZZ : Int32} {re gr bl pl ry : Nat → Int32}
theorem lk_sim {ns sl st sw sh x y a b c fl : Nat} (F : fz_ok ns tx vx vy vz vq gs so sd sa sq pl) (hA : ar_p vx vy a b c) (hf : fl < 24) (hc : ri_col co re gr bl) (hs : sl + sw ≤ 24) (hx : x < sl + sw) (hy : y < 16) : ∃ (WA' WB' WC' ZZ' : Int32) (co' de' sn' cn' rx' re' gr' bl' ry' : Nat → Int32), ri_col co' re' gr' bl'
    ∧ (∀ (post : SX → Prop) (J : _) (n : Nat), wX_drawTriangle_112 post J (nI y) n (nI (x + 1)) (nI ns) (nI sl) (nI st) (nI (sl + sw)) (nI (st + sh)) KE (nI a) (nI b) (nI c) (nI fl) WA' WB' WC' co' de' sn' tx vx vy vz vq vv gs cn' so sd sa sq rx' → wX_drawTriangle_112 post J (nI y) (n + 1) (nI x) (nI ns) (nI sl) (nI st) (nI (sl + sw)) (nI (st + sh)) KE (nI a) (nI b) (nI c) (nI fl) WA WB WC co de sn tx vx vy vz vq vv gs cn so sd sa sq rx)
    ∧ (∀ post : SY → Prop, post (nI sl, nI st, nI sw, nI sh, nI ns, KE, nI a, nI b, nI c, nI fl, ZZ', re', gr', bl', de', sn', tx, pl, vv, gs, so, sd, sa, sq, cn', ry') → wpY_look post (nI sl, nI st, nI sw, nI sh, nI ns, KE, nI a, nI b, nI c, nI fl, ZZ, re, gr, bl, de, sn, tx, pl, vv, gs, so, sd, sa, sq, cn, ry) (nI x) (nI y)) := by
  obtain ⟨hns, hst, ht, hset, hv⟩ := F
  obtain ⟨ha, hb, hcc, hpA⟩ := hA
  have hx24 : x < 24 := by omega
  have hy24 : y < 24 := by omega
  by_cases cov : cv_a vx vy a b c (8 * nI x + 4) (8 * nI y + 4)
  · obtain ⟨w1, w2, w3, hpos⟩ := cv_pos hv ha hb hcc (cv_mid hx24) (cv_mid hy24) hpA cov
    obtain ⟨_, _, _, za, qa⟩ := hv a ha
    obtain ⟨_, _, _, zb, qb⟩ := hv b hb
    obtain ⟨_, _, _, zc, qc⟩ := hv c hcc
    have hW : 0 < (cv_w vx vy b c (8 * nI x + 4) (8 * nI y + 4)).toInt64 + (cv_w vx vy c a (8 * nI x + 4) (8 * nI y + 4)).toInt64 + (cv_w vx vy a b (8 * nI x + 4) (8 * nI y + 4)).toInt64 := by
      rw [Int64.lt_iff_toInt_lt, ca_all w1 w2 w3, Int64.toInt_zero]
      exact hpos
    have hS := ca_shares w1 w2 w3 hpos qa qb qc
    have hZ : 0 ≤ (cv_w vx vy b c (8 * nI x + 4) (8 * nI y + 4)).toInt64 * (vz a).toInt64 + (cv_w vx vy c a (8 * nI x + 4) (8 * nI y + 4)).toInt64 * (vz b).toInt64 + (cv_w vx vy a b (8 * nI x + 4) (8 * nI y + 4)).toInt64 * (vz c).toInt64 := by
      obtain ⟨d1, d2, d3, d4⟩ := ca_dot w1 w2 w3 za zb zc
      rw [Int64.le_iff_toInt_le, d1, Int64.toInt_zero]
      omega
    have ez : (((cv_w vx vy b c (8 * nI x + 4) (8 * nI y + 4)).toInt64 * (vz a).toInt64 + (cv_w vx vy c a (8 * nI x + 4) (8 * nI y + 4)).toInt64 * (vz b).toInt64 + (cv_w vx vy a b (8 * nI x + 4) (8 * nI y + 4)).toInt64 * (vz c).toInt64) / ((cv_w vx vy b c (8 * nI x + 4) (8 * nI y + 4)).toInt64 + (cv_w vx vy c a (8 * nI x + 4) (8 * nI y + 4)).toInt64 + (cv_w vx vy a b (8 * nI x + 4) (8 * nI y + 4)).toInt64)).toInt32 = fd_g ((cv_w vx vy b c (8 * nI x + 4) (8 * nI y + 4)).toInt64 * (vz a).toInt64 + (cv_w vx vy c a (8 * nI x + 4) (8 * nI y + 4)).toInt64 * (vz b).toInt64 + (cv_w vx vy a b (8 * nI x + 4) (8 * nI y + 4)).toInt64 * (vz c).toInt64) ((cv_w vx vy b c (8 * nI x + 4) (8 * nI y + 4)).toInt64 + (cv_w vx vy c a (8 * nI x + 4) (8 * nI y + 4)).toInt64 + (cv_w vx vy a b (8 * nI x + 4) (8 * nI y + 4)).toInt64) := (if_neg (fd_nn hZ hW)).symm
    obtain ⟨r1, e1, H1⟩ := mx_load (NS := nI ns) (SL := nI sl) (ST := nI st) (SR := nI (sl + sw)) (SB := nI (st + sh)) (KE := KE) (WA := cv_w vx vy b c (8 * nI x + 4) (8 * nI y + 4)) (WB := cv_w vx vy c a (8 * nI x + 4) (8 * nI y + 4)) (WC := cv_w vx vy a b (8 * nI x + 4) (8 * nI y + 4)) (co := co) (de := de) (sn := sn) (tx := tx) (vx := vx) (vy := vy) (vz := vz) (vq := vq) (vv := vv) (gs := gs) (cn := cn) (so := so) (sd := sd) (sa := sa) (sq := sq) ha hb hcc hf hS rx
    obtain ⟨r2, e2, H2⟩ := my_155 (LE := nI sl) (TO := nI st) (WI := nI sw) (HI := nI sh) (NS := nI ns) (KE := KE) (re := re) (gr := gr) (bl := bl) (de := de) (sn := sn) (tx := tx) (pl := pl) (vv := vv) (gs := gs) (so := so) (sd := sd) (sa := sa) (sq := sq) (cn := cn) hv ha hb hcc hf hW hS ry
    rw [ez] at H2
    obtain ⟨co', de', sn', cn', rx', re', gr', bl', ry', hcol, HX, HY⟩ := fp_sim (SL := nI sl) (ST := nI st) (SR := nI (sl + sw)) (SB := nI (st + sh)) (KE := KE) (CA := nI a) (CB := nI b) (CC := nI c) (FL := nI fl) (WA := cv_w vx vy b c (8 * nI x + 4) (8 * nI y + 4)) (WB := cv_w vx vy c a (8 * nI x + 4) (8 * nI y + 4)) (WC := cv_w vx vy a b (8 * nI x + 4) (8 * nI y + 4)) (co := co) (de := de) (sn := sn) (tx := tx) (vx := vx) (vy := vy) (vz := vz) (vq := vq) (vv := vv) (gs := gs) (cn := cn) (so := so) (sd := sd) (sa := sa) (sq := sq) (rx := r1) (LE := nI sl) (TO := nI st) (WI := nI sw) (HI := nI sh) (VA := nI a) (VB := nI b) (VC := nI c) (LA := nI fl) (re := re) (gr := gr) (bl := bl) (pl := pl) (ry := r2) hns hst ht hset hc hx24 hy (fun n hn => (e1 n hn).trans (e2 n hn).symm) (fd_g ((cv_w vx vy b c (8 * nI x + 4) (8 * nI y + 4)).toInt64 * (vz a).toInt64 + (cv_w vx vy c a (8 * nI x + 4) (8 * nI y + 4)).toInt64 * (vz b).toInt64 + (cv_w vx vy a b (8 * nI x + 4) (8 * nI y + 4)).toInt64 * (vz c).toInt64) ((cv_w vx vy b c (8 * nI x + 4) (8 * nI y + 4)).toInt64 + (cv_w vx vy c a (8 * nI x + 4) (8 * nI y + 4)).toInt64 + (cv_w vx vy a b (8 * nI x + 4) (8 * nI y + 4)).toInt64))
    refine ⟨cv_w vx vy b c (8 * nI x + 4) (8 * nI y + 4), cv_w vx vy c a (8 * nI x + 4) (8 * nI y + 4), cv_w vx vy a b (8 * nI x + 4) (8 * nI y + 4), fd_g ((cv_w vx vy b c (8 * nI x + 4) (8 * nI y + 4)).toInt64 * (vz a).toInt64 + (cv_w vx vy c a (8 * nI x + 4) (8 * nI y + 4)).toInt64 * (vz b).toInt64 + (cv_w vx vy a b (8 * nI x + 4) (8 * nI y + 4)).toInt64 * (vz c).toInt64) ((cv_w vx vy b c (8 * nI x + 4) (8 * nI y + 4)).toInt64 + (cv_w vx vy c a (8 * nI x + 4) (8 * nI y + 4)).toInt64 + (cv_w vx vy a b (8 * nI x + 4) (8 * nI y + 4)).toInt64), co', de', sn', cn', rx', re', gr', bl', ry', hcol, fun post J n h => ?_, fun post h => ?_⟩
    · rw [wX_drawTriangle_112]
      refine br_f (nI_ge hx (by omega)) ?_
      refine mx_covers ha hb hcc (fun _ => br_f n10 ?_) (fun z => absurd cov z)
      refine H1 _ ?_
      refine mx_depth ha hb hcc hW ?_
      exact HX _ (nm_r (nI_1 x) h)
    · refine my_look hv ha hb hcc (cv_mid hx24) (cv_mid hy24) (fun _ => ?_) (fun z => absurd cov z)
      exact H2 post _ _ (HY _ h)
  · refine ⟨cv_w vx vy b c (8 * nI x + 4) (8 * nI y + 4), cv_w vx vy c a (8 * nI x + 4) (8 * nI y + 4), cv_w vx vy a b (8 * nI x + 4) (8 * nI y + 4), ZZ, co, de, sn, cn, rx, re, gr, bl, ry, hc, fun post J n h => ?_, fun post h => ?_⟩
    · rw [wX_drawTriangle_112]
      refine br_f (nI_ge hx (by omega)) ?_
      exact mx_covers ha hb hcc (fun z => absurd z cov) (fun _ => br_t rfl (nm_r (nI_1 x) h))
    · exact my_look hv ha hb hcc (cv_mid hx24) (cv_mid hy24) (fun z => absurd z cov) (fun _ => h)
theorem rw_sim {ns sl st sw sh y a b c fl : Nat} (F : fz_ok ns tx vx vy vz vq gs so sd sa sq pl) (hA : ar_p vx vy a b c) (hf : fl < 24) (hs : sl + sw ≤ 24) (hy : y < 16) : ∀ (m x : Nat) (WA WB WC ZZ : Int32) (co de sn cn rx re gr bl ry : Nat → Int32), ri_col co re gr bl → x + m = sl + sw → ∃ (WA' WB' WC' ZZ' : Int32) (co' de' sn' cn' rx' re' gr' bl' ry' : Nat → Int32), ri_col co' re' gr' bl'
    ∧ (∀ (post : SX → Prop) (J : _) (n : Nat), m < n → J (nI (y + 1)) (nI ns) (nI sl) (nI st) (nI (sl + sw)) (nI (st + sh)) KE (nI a) (nI b) (nI c) (nI fl) WA' WB' WC' co' de' sn' tx vx vy vz vq vv gs cn' so sd sa sq rx' → wX_drawTriangle_112 post J (nI y) n (nI x) (nI ns) (nI sl) (nI st) (nI (sl + sw)) (nI (st + sh)) KE (nI a) (nI b) (nI c) (nI fl) WA WB WC co de sn tx vx vy vz vq vv gs cn so sd sa sq rx)
    ∧ (∀ (post : SY → Prop) (J : _) (n : Nat), m < n → J (nI (y + 1)) (nI sl) (nI st) (nI sw) (nI sh) (nI ns) KE (nI a) (nI b) (nI c) (nI fl) ZZ' re' gr' bl' de' sn' tx pl vv gs so sd sa sq cn' ry' → wY_triangle_148 post J (nI y) n (nI x) (nI sl) (nI st) (nI sw) (nI sh) (nI ns) KE (nI a) (nI b) (nI c) (nI fl) ZZ re gr bl de sn tx pl vv gs so sd sa sq cn ry) := by
  intro m
  induction m with
  | zero =>
    intro x WA WB WC ZZ co de sn cn rx re gr bl ry hc hx
    refine ⟨WA, WB, WC, ZZ, co, de, sn, cn, rx, re, gr, bl, ry, hc, fun post J n hn h => ?_, fun post J n hn h => ?_⟩
    · obtain ⟨n, rfl⟩ : ∃ m, n = m + 1 := ⟨n - 1, by omega⟩
      rw [wX_drawTriangle_112]
      exact br_t (nI_le (by omega) (by omega)) (nm_r (nI_1 y) h)
    · obtain ⟨n, rfl⟩ : ∃ m, n = m + 1 := ⟨n - 1, by omega⟩
      rw [wY_triangle_148]
      exact br_t (by rw [nI_add]; exact nI_le (by omega) (by omega)) (nm_r (nI_1 y) h)
  | succ m ih =>
    intro x WA WB WC ZZ co de sn cn rx re gr bl ry hc hx
    obtain ⟨WA1, WB1, WC1, ZZ1, co1, de1, sn1, cn1, rx1, re1, gr1, bl1, ry1, hc1, HX1, HY1⟩ := lk_sim (KE := KE) (WA := WA) (WB := WB) (WC := WC) (co := co) (de := de) (sn := sn) (tx := tx) (vx := vx) (vy := vy) (vz := vz) (vq := vq) (vv := vv) (gs := gs) (cn := cn) (so := so) (sd := sd) (sa := sa) (sq := sq) (rx := rx) (ZZ := ZZ) (re := re) (gr := gr) (bl := bl) (pl := pl) (ry := ry) (sh := sh) (st := st) F hA hf hc hs (x := x) (by omega) hy
    obtain ⟨WA', WB', WC', ZZ', co', de', sn', cn', rx', re', gr', bl', ry', hc', HX, HY⟩ := ih (x + 1) WA1 WB1 WC1 ZZ1 co1 de1 sn1 cn1 rx1 re1 gr1 bl1 ry1 hc1 (by omega)
    refine ⟨WA', WB', WC', ZZ', co', de', sn', cn', rx', re', gr', bl', ry', hc', fun post J n hn h => ?_, fun post J n hn h => ?_⟩
    · obtain ⟨n, rfl⟩ : ∃ m, n = m + 1 := ⟨n - 1, by omega⟩
      exact HX1 post J n (HX post J n (by omega) h)
    · obtain ⟨n, rfl⟩ : ∃ m, n = m + 1 := ⟨n - 1, by omega⟩
      rw [wY_triangle_148]
      refine br_f (by rw [nI_add]; exact nI_ge (by omega) (by omega)) ?_
      exact HY1 _ (nm_r (nI_1 x) (HY post J n (by omega) h))
theorem cl_sim {ns sl st sw sh a b c fl : Nat} (F : fz_ok ns tx vx vy vz vq gs so sd sa sq pl) (hA : ar_p vx vy a b c) (hf : fl < 24) (hs : sl + sw ≤ 24) (ht : st + sh ≤ 16) : ∀ (m y : Nat) (WA WB WC ZZ : Int32) (co de sn cn rx re gr bl ry : Nat → Int32), ri_col co re gr bl → y + m = st + sh → ∃ (WA' WB' WC' ZZ' : Int32) (co' de' sn' cn' rx' re' gr' bl' ry' : Nat → Int32), ri_col co' re' gr' bl'
    ∧ (∀ (post : SX → Prop) (n : Nat), m < n → post (nI ns, nI sl, nI st, nI (sl + sw), nI (st + sh), KE, nI a, nI b, nI c, nI fl, WA', WB', WC', co', de', sn', tx, vx, vy, vz, vq, vv, gs, cn', so, sd, sa, sq, rx') → wX_drawTriangle_97 post n (nI y) (nI ns) (nI sl) (nI st) (nI (sl + sw)) (nI (st + sh)) KE (nI a) (nI b) (nI c) (nI fl) WA WB WC co de sn tx vx vy vz vq vv gs cn so sd sa sq rx)
    ∧ (∀ (post : SY → Prop) (n : Nat), m < n → post (nI sl, nI st, nI sw, nI sh, nI ns, KE, nI a, nI b, nI c, nI fl, ZZ', re', gr', bl', de', sn', tx, pl, vv, gs, so, sd, sa, sq, cn', ry') → wY_triangle_128 post n (nI y) (nI sl) (nI st) (nI sw) (nI sh) (nI ns) KE (nI a) (nI b) (nI c) (nI fl) ZZ re gr bl de sn tx pl vv gs so sd sa sq cn ry) := by
  intro m
  induction m with
  | zero =>
    intro y WA WB WC ZZ co de sn cn rx re gr bl ry hc hy
    refine ⟨WA, WB, WC, ZZ, co, de, sn, cn, rx, re, gr, bl, ry, hc, fun post n hn h => ?_, fun post n hn h => ?_⟩
    · obtain ⟨n, rfl⟩ : ∃ m, n = m + 1 := ⟨n - 1, by omega⟩
      rw [wX_drawTriangle_97]
      exact br_t (nI_le (by omega) (by omega)) h
    · obtain ⟨n, rfl⟩ : ∃ m, n = m + 1 := ⟨n - 1, by omega⟩
      rw [wY_triangle_128]
      exact br_t (by rw [nI_add]; exact nI_le (by omega) (by omega)) h
  | succ m ih =>
    intro y WA WB WC ZZ co de sn cn rx re gr bl ry hc hy
    obtain ⟨WA1, WB1, WC1, ZZ1, co1, de1, sn1, cn1, rx1, re1, gr1, bl1, ry1, hc1, HX1, HY1⟩ := rw_sim (KE := KE) (tx := tx) (vx := vx) (vy := vy) (vz := vz) (vq := vq) (vv := vv) (gs := gs) (so := so) (sd := sd) (sa := sa) (sq := sq) (pl := pl) (sh := sh) (st := st) F hA hf hs (y := y) (by omega) sw sl WA WB WC ZZ co de sn cn rx re gr bl ry hc (by omega)
    obtain ⟨WA', WB', WC', ZZ', co', de', sn', cn', rx', re', gr', bl', ry', hc', HX, HY⟩ := ih (y + 1) WA1 WB1 WC1 ZZ1 co1 de1 sn1 cn1 rx1 re1 gr1 bl1 ry1 hc1 (by omega)
    refine ⟨WA', WB', WC', ZZ', co', de', sn', cn', rx', re', gr', bl', ry', hc', fun post n hn h => ?_, fun post n hn h => ?_⟩
    · obtain ⟨n, rfl⟩ : ∃ m, n = m + 1 := ⟨n - 1, by omega⟩
      rw [wX_drawTriangle_97]
      exact br_f (nI_ge (by omega) (by omega)) ⟨sw + 1, HX1 post _ (sw + 1) (by omega) (HX post n (by omega) h)⟩
    · obtain ⟨n, rfl⟩ : ∃ m, n = m + 1 := ⟨n - 1, by omega⟩
      rw [wY_triangle_128]
      exact br_f (by rw [nI_add]; exact nI_ge (by omega) (by omega)) ⟨sw + 1, HY1 post _ (sw + 1) (by omega) (HY post n (by omega) h)⟩
end ROW
end
section
/-! one triangle, one point -/
section SHP
variable {NS SL ST SR SB KE CA CB CC FL WA WB WC : Int32} {co de sn tx vx vy vz vq vv gs cn so sd sa sq rx : Nat → Int32}
variable {LE TO WI HI VA VB VC LA ZZ : Int32} {re gr bl pl ry : Nat → Int32}
theorem mx_cull {post : Int32 → Prop} {f : Int32} (T : (gs 9 = 1 ∧ f = 0) ∨ (gs 9 = 2 ∧ ¬ f = 0) → post 1) (F : ¬ ((gs 9 = 1 ∧ f = 0) ∨ (gs 9 = 2 ∧ ¬ f = 0)) → post 0) : wpX_isCulled post (NS, SL, ST, SR, SB, KE, CA, CB, CC, FL, WA, WB, WC, co, de, sn, tx, vx, vy, vz, vq, vv, gs, cn, so, sd, sa, sq, rx) f := by
  have H : ¬ (gs 9 = 1 ∧ f = 0) → wX_isCulled_17 post f (gs 9) NS SL ST SR SB KE CA CB CC FL WA WB WC co de sn tx vx vy vz vq vv gs cn so sd sa sq rx := fun n => br_c (fun a => br_c (fun b => F (fun z => z.elim n (fun q => q.2 b))) (fun b => T (Or.inr ⟨a, b⟩))) (fun a => F (fun z => z.elim n (fun q => a q.1)))
  exact nm_e (br_c (fun a => br_c (fun b => T (Or.inl ⟨a, b⟩)) (fun b => H (fun z => b z.2))) (fun a => H (fun z => a z.1)))
theorem tr_sim {ns sl st sw sh a b c : Nat} (F : fz_ok ns tx vx vy vz vq gs so sd sa sq pl) (hs : sl + sw ≤ 24) (ht : st + sh ≤ 16) (ha : a < 24) (hb : b < 24) (hcc : c < 24) (hc : ri_col co re gr bl) : ∃ (CA' CB' CC' FL' WA' WB' WC' VA' VB' VC' LA' ZZ' : Int32) (co' de' sn' cn' rx' re' gr' bl' ry' : Nat → Int32), ri_col co' re' gr' bl'
    ∧ (∀ post : SX → Prop, post (nI ns, nI sl, nI st, nI (sl + sw), nI (st + sh), KE, CA', CB', CC', FL', WA', WB', WC', co', de', sn', tx, vx, vy, vz, vq, vv, gs, cn', so, sd, sa, sq, rx') → wpX_drawTriangle post (nI ns, nI sl, nI st, nI (sl + sw), nI (st + sh), KE, CA, CB, CC, FL, WA, WB, WC, co, de, sn, tx, vx, vy, vz, vq, vv, gs, cn, so, sd, sa, sq, rx) (nI a) (nI b) (nI c))
    ∧ (∀ post : SY → Prop, post (nI sl, nI st, nI sw, nI sh, nI ns, KE, VA', VB', VC', LA', ZZ', re', gr', bl', de', sn', tx, pl, vv, gs, so, sd, sa, sq, cn', ry') → wpY_triangle post (nI sl, nI st, nI sw, nI sh, nI ns, KE, VA, VB, VC, LA, ZZ, re, gr, bl, de, sn, tx, pl, vv, gs, so, sd, sa, sq, cn, ry) (nI a) (nI b) (nI c)) := by
  have hv := F.2.2.2.2
  obtain ⟨_, a1, a2, _⟩ := hv a ha
  obtain ⟨_, b1, b2, _⟩ := hv b hb
  obtain ⟨⟨p1, p2, _, _⟩, k1, k2, _⟩ := hv c hcc
  have vc : vp_in (nI c) 24 := vp_in_nI hcc (by decide)
  have cc : (nI c).toNatClampNeg = c := nI_clamp (by omega)
  obtain ⟨v1, c1⟩ := ix_p (x := 4 * nI c) 96 (pk_mul 4 c) (by omega) (by decide)
  obtain ⟨v2, c2⟩ := ix_p (x := 4 * nI c + 1) 96 (ix_a (pk_mul 4 c) 1 rfl) (by omega) (by decide)
  have eA : (cv_w vx vy a b (vx c) (vy c)).toInt = ca_cr (vx a).toInt (vy a).toInt (vx b).toInt (vy b).toInt (vx c).toInt (vy c).toInt := (ca_cross a1 a2 b1 b2 k1 k2).1
  have hX : ∀ post : SX → Prop, ((cv_w vx vy a b (vx c) (vy c) = 0 → post (nI ns, nI sl, nI st, nI (sl + sw), nI (st + sh), KE, CA, CB, CC, FL, WA, WB, WC, co, de, sn, tx, vx, vy, vz, vq, vv, gs, cn, so, sd, sa, sq, rx)) ∧ (¬ cv_w vx vy a b (vx c) (vy c) = 0 → ((cv_w vx vy a b (vx c) (vy c) ≤ 0 → wX_drawTriangle_36 post (nI a) (nI b) (nI c) (cv_w vx vy a b (vx c) (vy c)) 0 (nI ns) (nI sl) (nI st) (nI (sl + sw)) (nI (st + sh)) KE CA CB CC FL WA WB WC co de sn tx vx vy vz vq vv gs cn so sd sa sq rx) ∧ (¬ cv_w vx vy a b (vx c) (vy c) ≤ 0 → wX_drawTriangle_36 post (nI a) (nI b) (nI c) (cv_w vx vy a b (vx c) (vy c)) 1 (nI ns) (nI sl) (nI st) (nI (sl + sw)) (nI (st + sh)) KE CA CB CC FL WA WB WC co de sn tx vx vy vz vq vv gs cn so sd sa sq rx)))) → wpX_drawTriangle post (nI ns, nI sl, nI st, nI (sl + sw), nI (st + sh), KE, CA, CB, CC, FL, WA, WB, WC, co, de, sn, tx, vx, vy, vz, vq, vv, gs, cn, so, sd, sa, sq, rx) (nI a) (nI b) (nI c) := by
    intro post h
    unfold wpX_drawTriangle
    refine ⟨vc, vc, ?_⟩
    refine mx_cross ha hb ?_
    rw [cc]
    exact h
  have hY : ∀ post : SY → Prop, (((cv_w vx vy a b (vx c) (vy c)).toInt64 = 0 → post (nI sl, nI st, nI sw, nI sh, nI ns, KE, VA, VB, VC, LA, ZZ, re, gr, bl, de, sn, tx, pl, vv, gs, so, sd, sa, sq, cn, ry)) ∧ (¬ (cv_w vx vy a b (vx c) (vy c)).toInt64 = 0 → ((0 ≤ (cv_w vx vy a b (vx c) (vy c)).toInt64 → wY_triangle_51 post (nI a) (nI b) (nI c) (cv_w vx vy a b (vx c) (vy c)).toInt64 (nI sl) (nI st) (nI sw) (nI sh) (nI ns) KE VA VB VC LA ZZ re gr bl de sn tx pl vv gs so sd sa sq cn ry) ∧ (¬ 0 ≤ (cv_w vx vy a b (vx c) (vy c)).toInt64 → ((gs 9 = 1 → post (nI sl, nI st, nI sw, nI sh, nI ns, KE, VA, VB, VC, LA, ZZ, re, gr, bl, de, sn, tx, pl, vv, gs, so, sd, sa, sq, cn, ry)) ∧ (¬ gs 9 = 1 → wY_triangle_51 post (nI a) (nI b) (nI c) (cv_w vx vy a b (vx c) (vy c)).toInt64 (nI sl) (nI st) (nI sw) (nI sh) (nI ns) KE VA VB VC LA ZZ re gr bl de sn tx pl vv gs so sd sa sq cn ry)))))) → wpY_triangle post (nI sl, nI st, nI sw, nI sh, nI ns, KE, VA, VB, VC, LA, ZZ, re, gr, bl, de, sn, tx, pl, vv, gs, so, sd, sa, sq, cn, ry) (nI a) (nI b) (nI c) := by
    intro post h
    unfold wpY_triangle
    refine ⟨v1, v2, ?_⟩
    rw [c1, c2, ← p1, ← p2]
    exact my_weight hv ha hb k1 k2 h
  by_cases z0 : cv_w vx vy a b (vx c) (vy c) = 0
  · exact ⟨CA, CB, CC, FL, WA, WB, WC, VA, VB, VC, LA, ZZ, co, de, sn, cn, rx, re, gr, bl, ry, hc, fun post h => hX post (br_t z0 h), fun post h => hY post (br_t (l64_eq.mpr z0) h)⟩
  have z1 : ¬ (cv_w vx vy a b (vx c) (vy c)).toInt64 = 0 := fun z => z0 (l64_eq.mp z)
  by_cases ng : cv_w vx vy a b (vx c) (vy c) ≤ 0
  · have n0 : ¬ 0 ≤ (cv_w vx vy a b (vx c) (vy c)).toInt64 := fun z => z0 (Int32.le_antisymm ng (l64_le.mp z))
    by_cases cu : gs 9 = 1
    · refine ⟨CA, CB, CC, FL, WA, WB, WC, VA, VB, VC, LA, ZZ, co, de, sn, cn, rx, re, gr, bl, ry, hc, fun post h => hX post (br_f z0 (br_t ng ?_)), fun post h => hY post (br_f z1 (br_f n0 (br_t cu h)))⟩
      unfold wX_drawTriangle_36
      exact mx_cull (fun _ => br_f n10 h) (fun n => absurd (Or.inl ⟨cu, rfl⟩) n)
    · have hA : ar_p vx vy a c b := by
        refine ⟨ha, hcc, hb, ?_⟩
        have e := ca_flip (vx a).toInt (vy a).toInt (vx b).toInt (vy b).toInt (vx c).toInt (vy c).toInt
        have l := Int32.le_iff_toInt_le.mp ng
        have q : ¬ (cv_w vx vy a b (vx c) (vy c)).toInt = 0 := fun z => z0 (Int32.toInt_inj.mp (z.trans Int32.toInt_zero.symm))
        rw [Int32.toInt_zero] at l
        omega
      obtain ⟨WA', WB', WC', ZZ', co', de', sn', cn', rx', re', gr', bl', ry', hc', HX, HY⟩ := cl_sim (KE := KE) (tx := tx) (vx := vx) (vy := vy) (vz := vz) (vq := vq) (vv := vv) (gs := gs) (so := so) (sd := sd) (sa := sa) (sq := sq) (pl := pl) F hA hcc hs ht sh st WA WB WC ZZ co de sn (upd cn 5 (cn 5 + 1)) rx re gr bl ry hc rfl
      refine ⟨nI a, nI c, nI b, nI c, WA', WB', WC', nI a, nI c, nI b, nI c, ZZ', co', de', sn', cn', rx', re', gr', bl', ry', hc', fun post h => hX post (br_f z0 (br_t ng ?_)), fun post h => hY post (br_f z1 (br_f n0 (br_f cu ?_)))⟩
      · unfold wX_drawTriangle_36
        exact mx_cull (fun q => absurd q (fun w => w.elim (fun w => cu w.1) (fun w => w.2 rfl))) (fun _ => br_t rfl (nm_e (br_t ng (br_t ng ⟨sh + 1, HX post (sh + 1) (by omega) h⟩))))
      · exact br_t (l64_le'.mpr ng) (nm_e (br_f n0 (br_f n0 ⟨sh + 1, HY post (sh + 1) (by omega) h⟩)))
  · have p0 : 0 ≤ (cv_w vx vy a b (vx c) (vy c)).toInt64 := l64_le.mpr (Int32.le_of_lt (Int32.not_le.mp ng))
    have n1 : ¬ (cv_w vx vy a b (vx c) (vy c)).toInt64 ≤ 0 := fun z => ng (l64_le'.mp z)
    by_cases cu : gs 9 = 2
    · refine ⟨CA, CB, CC, FL, WA, WB, WC, VA, VB, VC, LA, ZZ, co, de, sn, cn, rx, re, gr, bl, ry, hc, fun post h => hX post (br_f z0 (br_f ng ?_)), fun post h => hY post (br_f z1 (br_t p0 (br_f n1 (br_t cu h))))⟩
      unfold wX_drawTriangle_36
      exact mx_cull (fun _ => br_f n10 h) (fun n => absurd (Or.inr ⟨cu, n10⟩) n)
    · have hA : ar_p vx vy a b c := by
        refine ⟨ha, hb, hcc, ?_⟩
        have l := Int32.lt_iff_toInt_lt.mp (Int32.not_le.mp ng)
        rw [Int32.toInt_zero] at l
        omega
      obtain ⟨WA', WB', WC', ZZ', co', de', sn', cn', rx', re', gr', bl', ry', hc', HX, HY⟩ := cl_sim (KE := KE) (tx := tx) (vx := vx) (vy := vy) (vz := vz) (vq := vq) (vv := vv) (gs := gs) (so := so) (sd := sd) (sa := sa) (sq := sq) (pl := pl) F hA hcc hs ht sh st WA WB WC ZZ co de sn (upd cn 5 (cn 5 + 1)) rx re gr bl ry hc rfl
      refine ⟨nI a, nI b, nI c, nI c, WA', WB', WC', nI a, nI b, nI c, nI c, ZZ', co', de', sn', cn', rx', re', gr', bl', ry', hc', fun post h => hX post (br_f z0 (br_f ng ?_)), fun post h => hY post (br_f z1 (br_t p0 (br_f n1 (br_f cu ?_))))⟩
      · unfold wX_drawTriangle_36
        exact mx_cull (fun q => absurd q (fun w => w.elim (fun w => n10 w.2) (fun w => cu w.1))) (fun _ => br_t rfl (nm_e (br_f ng (br_f ng ⟨sh + 1, HX post (sh + 1) (by omega) h⟩))))
      · exact nm_e (br_t p0 (br_t p0 ⟨sh + 1, HY post (sh + 1) (by omega) h⟩))
theorem pt_le {n : Nat} (h : n ≤ 24) {v : Int32} : v ≤ nI n - 1 ↔ v < nI n := by
  have e1 : (1 : Int32).toInt = 1 := by decide
  have e : (nI n - 1).toInt = (n : Int) - 1 := by
    rw [ca_sub (nI n) 1 (by rw [nI_toInt (by omega), e1]; omega), nI_toInt (by omega), e1]
  rw [Int32.le_iff_toInt_le, Int32.lt_iff_toInt_lt, e, nI_toInt (by omega)]
  omega
theorem my_pvl {i : Nat} (hv : ri_ver vx vy vz vq pl) (hi : i < 24) : ∀ (k j : Nat) (ry : Nat → Int32), j + k = 6 → ∃ r' : Nat → Int32, (∀ n, r' n = if j ≤ n ∧ n < 6 then vv (6 * i + n) else ry n)
    ∧ ∀ (post : SY → Prop) (x y : Int32) (n : Nat), k < n → wpY_work (fun u => match u with | (LE, TO, WI, HI, NS, KE, VA, VB, VC, LA, ZZ, re, gr, bl, de, sn, tx, pl, vv, gs, so, sd, sa, sq, cn, ry) => post (LE, TO, WI, HI, NS, KE, VA, VB, VC, LA, ZZ, re, gr, bl, de, sn, tx, pl, vv, gs, so, sd, sa, sq, cn, ry)) (LE, TO, WI, HI, NS, KE, VA, VB, VC, LA, vz i, re, gr, bl, de, sn, tx, pl, vv, gs, so, sd, sa, sq, cn, r') x y → wY_point_82 post (nI i) x y LE TO WI HI NS KE VA VB VC LA ZZ n (nI j) re gr bl de sn tx pl vv gs so sd sa sq cn ry := by
  intro k
  induction k with
  | zero =>
    intro j ry hj
    obtain ⟨⟨_, _, p3, _⟩, _⟩ := hv i hi
    obtain ⟨v1, c1⟩ := ix_p (x := 4 * nI i + 2) 96 (ix_a (pk_mul 4 i) 2 rfl) (by omega) (by decide)
    refine ⟨ry, fun n => (if_neg (by omega)).symm, fun post x y n hn h => ?_⟩
    obtain ⟨n, rfl⟩ : ∃ m, n = m + 1 := ⟨n - 1, by omega⟩
    rw [wY_point_82]
    exact br_t (nI_le (a := 6) (by omega) (by omega)) ⟨v1, nm_r (e' := vz i) (by rw [c1, p3]) h⟩
  | succ k ih =>
    intro j ry hj
    obtain ⟨v1, c1⟩ := ix_p 144 (tv_y6 i j) (by omega) (by decide)
    obtain ⟨v2, c2⟩ := ix_p (x := nI j) 8 rfl (by omega) (by decide)
    obtain ⟨r', hr, H⟩ := ih (j + 1) (upd ry j (vv (6 * i + j))) (by omega)
    refine ⟨r', fun n => ?_, fun post x y n hn h => ?_⟩
    · rw [hr n]
      by_cases e : n = j
      · subst e
        rw [if_neg (by omega), pk_us, if_pos (by omega)]
      · rw [pk_un e]
        by_cases g : j + 1 ≤ n ∧ n < 6
        · rw [if_pos g, if_pos (by omega)]
        · rw [if_neg g, if_neg (by omega)]
    · obtain ⟨n, rfl⟩ : ∃ m, n = m + 1 := ⟨n - 1, by omega⟩
      rw [wY_point_82]
      exact br_f (nI_ge (b := 6) (by omega) (by omega)) ⟨v1, v2, nm_r (e' := upd ry j (vv (6 * i + j))) (by rw [c1, c2]) (nm_r (nI_1 j) (H post x y n (by omega) h))⟩
theorem pt_sim {ns sl st sw sh i : Nat} (F : fz_ok ns tx vx vy vz vq gs so sd sa sq pl) (hs : sl + sw ≤ 24) (ht : st + sh ≤ 16) (hi : i < 24) (hc : ri_col co re gr bl) : ∃ (CA' CB' CC' FL' WA' WB' WC' VA' VB' VC' LA' ZZ' : Int32) (co' de' sn' cn' rx' re' gr' bl' ry' : Nat → Int32), ri_col co' re' gr' bl'
    ∧ (∀ post : SX → Prop, post (nI ns, nI sl, nI st, nI (sl + sw), nI (st + sh), KE, CA', CB', CC', FL', WA', WB', WC', co', de', sn', tx, vx, vy, vz, vq, vv, gs, cn', so, sd, sa, sq, rx') → wpX_drawPoint post (nI ns, nI sl, nI st, nI (sl + sw), nI (st + sh), KE, CA, CB, CC, FL, WA, WB, WC, co, de, sn, tx, vx, vy, vz, vq, vv, gs, cn, so, sd, sa, sq, rx) (nI i))
    ∧ (∀ post : SY → Prop, post (nI sl, nI st, nI sw, nI sh, nI ns, KE, VA', VB', VC', LA', ZZ', re', gr', bl', de', sn', tx, pl, vv, gs, so, sd, sa, sq, cn', ry') → wpY_point post (nI sl, nI st, nI sw, nI sh, nI ns, KE, VA, VB, VC, LA, ZZ, re, gr, bl, de, sn, tx, pl, vv, gs, so, sd, sa, sq, cn, ry) (nI i)) := by
  obtain ⟨hns, hst, htx, hset, hv⟩ := F
  obtain ⟨⟨p1, p2, p3, _⟩, _⟩ := hv i hi
  have vi : vp_in (nI i) 24 := vp_in_nI hi (by decide)
  have ci : (nI i).toNatClampNeg = i := nI_clamp (by omega)
  obtain ⟨v1, c1⟩ := ix_p (x := 4 * nI i) 96 (pk_mul 4 i) (by omega) (by decide)
  obtain ⟨v2, c2⟩ := ix_p (x := 4 * nI i + 1) 96 (ix_a (pk_mul 4 i) 1 rfl) (by omega) (by decide)
  have hX : ∀ post : SX → Prop, ((nI sl ≤ vx i >>> ((3 : Int32) &&& 31) ∧ vx i >>> ((3 : Int32) &&& 31) < nI (sl + sw)) ∧ (nI st ≤ vy i >>> ((3 : Int32) &&& 31) ∧ vy i >>> ((3 : Int32) &&& 31) < nI (st + sh)) → wpX_loadVertexValues (fun u => match u with | (NS, SL, ST, SR, SB, KE, CA, CB, CC, FL, WA, WB, WC, co, de, sn, tx, vx9, vy9, vz, vq, vv, gs, cn, so, sd, sa, sq, rx) => (vp_in (nI i) 24 ∧ wpX_finishPixel (fun u => match u with | (NS, SL, ST, SR, SB, KE, CA, CB, CC, FL, WA, WB, WC, co, de, sn, tx, vx, vy, vz, vq, vv, gs, cn, so, sd, sa, sq, rx) => post (NS, SL, ST, SR, SB, KE, CA, CB, CC, FL, WA, WB, WC, co, de, sn, tx, vx, vy, vz, vq, vv, gs, cn, so, sd, sa, sq, rx)) (NS, SL, ST, SR, SB, KE, CA, CB, CC, FL, WA, WB, WC, co, de, sn, tx, vx9, vy9, vz, vq, vv, gs, cn, so, sd, sa, sq, rx) (vx i >>> ((3 : Int32) &&& 31)) (vy i >>> ((3 : Int32) &&& 31)) (vz (nI i).toNatClampNeg))) (nI ns, nI sl, nI st, nI (sl + sw), nI (st + sh), KE, CA, CB, CC, FL, WA, WB, WC, co, de, sn, tx, vx, vy, vz, vq, vv, gs, upd cn 5 (cn 5 + 1), so, sd, sa, sq, rx) (nI i) 6) → (¬ ((nI sl ≤ vx i >>> ((3 : Int32) &&& 31) ∧ vx i >>> ((3 : Int32) &&& 31) < nI (sl + sw)) ∧ (nI st ≤ vy i >>> ((3 : Int32) &&& 31) ∧ vy i >>> ((3 : Int32) &&& 31) < nI (st + sh))) → post (nI ns, nI sl, nI st, nI (sl + sw), nI (st + sh), KE, CA, CB, CC, FL, WA, WB, WC, co, de, sn, tx, vx, vy, vz, vq, vv, gs, upd cn 5 (cn 5 + 1), so, sd, sa, sq, rx)) → wpX_drawPoint post (nI ns, nI sl, nI st, nI (sl + sw), nI (st + sh), KE, CA, CB, CC, FL, WA, WB, WC, co, de, sn, tx, vx, vy, vz, vq, vv, gs, cn, so, sd, sa, sq, rx) (nI i) := by
    intro post h1 h2
    refine nm_e ⟨vi, nm_r (e' := vx i >>> ((3 : Int32) &&& 31)) (by rw [ci]) ⟨vi, nm_r (e' := vy i >>> ((3 : Int32) &&& 31)) (by rw [ci]) ?_⟩⟩
    exact br_c (fun a => h2 (fun z => absurd a (Int32.not_lt.mpr z.1.1))) (fun a => br_c (fun b => h2 (fun z => absurd z.1.2 (Int32.not_lt.mpr b))) (fun b => br_c (fun c => h2 (fun z => absurd c (Int32.not_lt.mpr z.2.1))) (fun c => br_c (fun d => h1 ⟨⟨Int32.not_lt.mp a, Int32.not_le.mp b⟩, ⟨Int32.not_lt.mp c, d⟩⟩) (fun d => h2 (fun z => d z.2.2)))))
  have hY : ∀ post : SY → Prop, ((nI sl ≤ vx i >>> ((3 : Int32) &&& 31) ∧ vx i >>> ((3 : Int32) &&& 31) < nI (sl + sw)) ∧ (nI st ≤ vy i >>> ((3 : Int32) &&& 31) ∧ vy i >>> ((3 : Int32) &&& 31) < nI (st + sh)) → ∃ n, wY_point_82 post (nI i) (vx i >>> ((3 : Int32) &&& 31)) (vy i >>> ((3 : Int32) &&& 31)) (nI sl) (nI st) (nI sw) (nI sh) (nI ns) KE VA VB VC LA ZZ n 0 re gr bl de sn tx pl vv gs so sd sa sq (upd cn 5 (cn 5 + 1)) ry) → (¬ ((nI sl ≤ vx i >>> ((3 : Int32) &&& 31) ∧ vx i >>> ((3 : Int32) &&& 31) < nI (sl + sw)) ∧ (nI st ≤ vy i >>> ((3 : Int32) &&& 31) ∧ vy i >>> ((3 : Int32) &&& 31) < nI (st + sh))) → post (nI sl, nI st, nI sw, nI sh, nI ns, KE, VA, VB, VC, LA, ZZ, re, gr, bl, de, sn, tx, pl, vv, gs, so, sd, sa, sq, upd cn 5 (cn 5 + 1), ry)) → wpY_point post (nI sl, nI st, nI sw, nI sh, nI ns, KE, VA, VB, VC, LA, ZZ, re, gr, bl, de, sn, tx, pl, vv, gs, so, sd, sa, sq, cn, ry) (nI i) := by
    intro post h1 h2
    refine ⟨v1, nm_r (e' := vx i >>> ((3 : Int32) &&& 31)) (by rw [c1, p1]) ⟨v2, nm_r (e' := vy i >>> ((3 : Int32) &&& 31)) (by rw [c2, p2]) (nm_e ?_)⟩⟩
    rw [nI_add, nI_add]
    refine my_in (fun a => br_f n10 ?_) (fun a => br_t rfl (h2 (fun z => a ⟨z.1.1, (pt_le hs).mpr z.1.2⟩)))
    exact my_in (fun b => br_f n10 (h1 ⟨⟨a.1, (pt_le hs).mp a.2⟩, ⟨b.1, (pt_le (by omega)).mp b.2⟩⟩)) (fun b => br_t rfl (h2 (fun z => b ⟨z.2.1, (pt_le (by omega)).mpr z.2.2⟩)))
  by_cases ins : (nI sl ≤ vx i >>> ((3 : Int32) &&& 31) ∧ vx i >>> ((3 : Int32) &&& 31) < nI (sl + sw)) ∧ (nI st ≤ vy i >>> ((3 : Int32) &&& 31) ∧ vy i >>> ((3 : Int32) &&& 31) < nI (st + sh))
  · have g0 : ∀ n : Nat, n ≤ 24 → (0 : Int32) ≤ nI n := fun n hn => nI_pos' (by omega)
    obtain ⟨x, hx, ex⟩ := nI_of (x := vx i >>> ((3 : Int32) &&& 31)) (Int32.not_lt.mpr (Int32.le_trans (g0 sl (by omega)) ins.1.1))
    obtain ⟨y, hy, ey⟩ := nI_of (x := vy i >>> ((3 : Int32) &&& 31)) (Int32.not_lt.mpr (Int32.le_trans (g0 st (by omega)) ins.2.1))
    have hx2 : x < sl + sw := (nI_ltI hx (by omega)).mp (ex ▸ ins.1.2)
    have hy2 : y < st + sh := (nI_ltI hy (by omega)).mp (ey ▸ ins.2.2)
    obtain ⟨r1, e1, H1⟩ := mx_lvv (NS := nI ns) (SL := nI sl) (ST := nI st) (SR := nI (sl + sw)) (SB := nI (st + sh)) (KE := KE) (CA := CA) (CB := CB) (CC := CC) (FL := FL) (WA := WA) (WB := WB) (WC := WC) (co := co) (de := de) (sn := sn) (tx := tx) (vx := vx) (vy := vy) (vz := vz) (vq := vq) (vv := vv) (gs := gs) (cn := upd cn 5 (cn 5 + 1)) (so := so) (sd := sd) (sa := sa) (sq := sq) (i := i) (m := 6) hi (by decide) rx
    obtain ⟨r2, e2, H2⟩ := my_pvl (LE := nI sl) (TO := nI st) (WI := nI sw) (HI := nI sh) (NS := nI ns) (KE := KE) (VA := VA) (VB := VB) (VC := VC) (LA := LA) (re := re) (gr := gr) (bl := bl) (de := de) (sn := sn) (tx := tx) (pl := pl) (vv := vv) (gs := gs) (so := so) (sd := sd) (sa := sa) (sq := sq) (cn := upd cn 5 (cn 5 + 1)) hv hi 6 0 ry rfl
    obtain ⟨co', de', sn', cn', rx', re', gr', bl', ry', hcol, HX, HY⟩ := fp_sim (SL := nI sl) (ST := nI st) (SR := nI (sl + sw)) (SB := nI (st + sh)) (KE := KE) (CA := CA) (CB := CB) (CC := CC) (FL := FL) (WA := WA) (WB := WB) (WC := WC) (co := co) (de := de) (sn := sn) (tx := tx) (vx := vx) (vy := vy) (vz := vz) (vq := vq) (vv := vv) (gs := gs) (cn := upd cn 5 (cn 5 + 1)) (so := so) (sd := sd) (sa := sa) (sq := sq) (rx := r1) (LE := nI sl) (TO := nI st) (WI := nI sw) (HI := nI sh) (VA := VA) (VB := VB) (VC := VC) (LA := LA) (re := re) (gr := gr) (bl := bl) (pl := pl) (ry := r2) hns hst htx hset hc (x := x) (y := y) (by omega) (by omega) (fun n hn => by rw [e1 n, e2 n, if_pos hn, if_pos ⟨by omega, hn⟩]) (vz i)
    refine ⟨CA, CB, CC, FL, WA, WB, WC, VA, VB, VC, LA, vz i, co', de', sn', cn', rx', re', gr', bl', ry', hcol, fun post h => hX post (fun _ => ?_) (fun z => absurd ins z), fun post h => hY post (fun _ => ?_) (fun z => absurd ins z)⟩
    · refine H1 _ ⟨vi, ?_⟩
      rw [ex, ey, ci]
      exact HX _ h
    · refine ⟨7, ?_⟩
      rw [ex, ey]
      exact H2 post _ _ 7 (by decide) (HY _ h)
  · exact ⟨CA, CB, CC, FL, WA, WB, WC, VA, VB, VC, LA, ZZ, co, de, sn, upd cn 5 (cn 5 + 1), rx, re, gr, bl, ry, hc, fun post h => hX post (fun z => absurd z ins) (fun _ => h), fun post h => hY post (fun z => absurd z ins) (fun _ => h)⟩
end SHP
end
section
/-! the four modes of draw, in lockstep -/
section DRW
variable {NS SL ST SR SB KE CA CB CC FL WA WB WC : Int32} {co de sn tx vx vy vz vq vv gs cn so sd sa sq rx : Nat → Int32}
variable {LE TO WI HI VA VB VC LA ZZ : Int32} {re gr bl pl ry : Nat → Int32}
theorem dp_sim {ns sl st sw sh f cnt : Nat} {x1 : Int32} (F : fz_ok ns tx vx vy vz vq gs so sd sa sq pl) (hs : sl + sw ≤ 24) (ht : st + sh ≤ 16) (hf : f + cnt ≤ 24) : ∀ (m i : Nat) (CA CB CC FL WA WB WC VA VB VC LA ZZ : Int32) (co de sn cn rx re gr bl ry : Nat → Int32), ri_col co re gr bl → i + m = cnt → ∃ (CA' CB' CC' FL' WA' WB' WC' VA' VB' VC' LA' ZZ' : Int32) (co' de' sn' cn' rx' re' gr' bl' ry' : Nat → Int32), ri_col co' re' gr' bl'
    ∧ (∀ (post : SX → Prop) (n : Nat), m < n → post (nI ns, nI sl, nI st, nI (sl + sw), nI (st + sh), KE, CA', CB', CC', FL', WA', WB', WC', co', de', sn', tx, vx, vy, vz, vq, vv, gs, cn', so, sd, sa, sq, rx') → wX_drawPoints_2 post (nI f) (nI cnt) n (nI i) (nI ns) (nI sl) (nI st) (nI (sl + sw)) (nI (st + sh)) KE CA CB CC FL WA WB WC co de sn tx vx vy vz vq vv gs cn so sd sa sq rx)
    ∧ (∀ (post : Int32 → SY → Prop) (n : Nat), m < n → wY_draw_94 post x1 (nI f) (nI cnt) (nI sl) (nI st) (nI sw) (nI sh) (nI ns) KE VA' VB' VC' LA' ZZ' re' gr' bl' de' sn' tx pl vv gs so sd sa sq cn' ry' → wY_draw_74 post x1 (nI f) (nI cnt) n (nI (f + i)) (nI sl) (nI st) (nI sw) (nI sh) (nI ns) KE VA VB VC LA ZZ re gr bl de sn tx pl vv gs so sd sa sq cn ry) := by
  intro m
  induction m with
  | zero =>
    intro i CA CB CC FL WA WB WC VA VB VC LA ZZ co de sn cn rx re gr bl ry hc hi
    refine ⟨CA, CB, CC, FL, WA, WB, WC, VA, VB, VC, LA, ZZ, co, de, sn, cn, rx, re, gr, bl, ry, hc, fun post n hn h => ?_, fun post n hn h => ?_⟩
    · obtain ⟨n, rfl⟩ : ∃ m, n = m + 1 := ⟨n - 1, by omega⟩
      rw [wX_drawPoints_2]
      exact br_t (nI_le (by omega) (by omega)) h
    · obtain ⟨n, rfl⟩ : ∃ m, n = m + 1 := ⟨n - 1, by omega⟩
      rw [wY_draw_74]
      exact br_t (by rw [nI_add]; exact nI_le (by omega) (by omega)) h
  | succ m ih =>
    intro i CA CB CC FL WA WB WC VA VB VC LA ZZ co de sn cn rx re gr bl ry hc hi
    obtain ⟨CA1, CB1, CC1, FL1, WA1, WB1, WC1, VA1, VB1, VC1, LA1, ZZ1, co1, de1, sn1, cn1, rx1, re1, gr1, bl1, ry1, hc1, HX1, HY1⟩ := pt_sim (KE := KE) (CA := CA) (CB := CB) (CC := CC) (FL := FL) (WA := WA) (WB := WB) (WC := WC) (co := co) (de := de) (sn := sn) (tx := tx) (vx := vx) (vy := vy) (vz := vz) (vq := vq) (vv := vv) (gs := gs) (cn := cn) (so := so) (sd := sd) (sa := sa) (sq := sq) (rx := rx) (VA := VA) (VB := VB) (VC := VC) (LA := LA) (ZZ := ZZ) (re := re) (gr := gr) (bl := bl) (pl := pl) (ry := ry) F hs ht (i := f + i) (by omega) hc
    obtain ⟨CA', CB', CC', FL', WA', WB', WC', VA', VB', VC', LA', ZZ', co', de', sn', cn', rx', re', gr', bl', ry', hc', HX, HY⟩ := ih (i + 1) CA1 CB1 CC1 FL1 WA1 WB1 WC1 VA1 VB1 VC1 LA1 ZZ1 co1 de1 sn1 cn1 rx1 re1 gr1 bl1 ry1 hc1 (by omega)
    refine ⟨CA', CB', CC', FL', WA', WB', WC', VA', VB', VC', LA', ZZ', co', de', sn', cn', rx', re', gr', bl', ry', hc', fun post n hn h => ?_, fun post n hn h => ?_⟩
    · obtain ⟨n, rfl⟩ : ∃ m, n = m + 1 := ⟨n - 1, by omega⟩
      rw [wX_drawPoints_2]
      refine br_f (nI_ge (by omega) (by omega)) ?_
      rw [nI_add f i]
      exact HX1 _ (nm_r (nI_1 i) (HX post n (by omega) h))
    · obtain ⟨n, rfl⟩ : ∃ m, n = m + 1 := ⟨n - 1, by omega⟩
      rw [wY_draw_74]
      refine br_f (by rw [nI_add]; exact nI_ge (by omega) (by omega)) ?_
      exact HY1 _ (nm_r (nI_1 (f + i)) (HY post n (by omega) h))
theorem dt_sim {ns sl st sw sh f cnt : Nat} {x1 : Int32} (F : fz_ok ns tx vx vy vz vq gs so sd sa sq pl) (hs : sl + sw ≤ 24) (ht : st + sh ≤ 16) (hf : f + cnt ≤ 24) : ∀ (m i : Nat) (CA CB CC FL WA WB WC VA VB VC LA ZZ : Int32) (co de sn cn rx re gr bl ry : Nat → Int32), ri_col co re gr bl → cnt ≤ i + m → i ≤ 60 → ∃ (CA' CB' CC' FL' WA' WB' WC' VA' VB' VC' LA' ZZ' : Int32) (co' de' sn' cn' rx' re' gr' bl' ry' : Nat → Int32), ri_col co' re' gr' bl'
    ∧ (∀ (post : SX → Prop) (n : Nat), m < n → post (nI ns, nI sl, nI st, nI (sl + sw), nI (st + sh), KE, CA', CB', CC', FL', WA', WB', WC', co', de', sn', tx, vx, vy, vz, vq, vv, gs, cn', so, sd, sa, sq, rx') → wX_drawTriangles_2 post (nI f) (nI cnt) n (nI i) (nI ns) (nI sl) (nI st) (nI (sl + sw)) (nI (st + sh)) KE CA CB CC FL WA WB WC co de sn tx vx vy vz vq vv gs cn so sd sa sq rx)
    ∧ (∀ (post : Int32 → SY → Prop) (n : Nat), m < n → wY_draw_136 post x1 (nI f) (nI cnt) (nI sl) (nI st) (nI sw) (nI sh) (nI ns) KE VA' VB' VC' LA' ZZ' re' gr' bl' de' sn' tx pl vv gs so sd sa sq cn' ry' → wY_draw_102 post x1 (nI f) (nI cnt) n (nI i) (nI sl) (nI st) (nI sw) (nI sh) (nI ns) KE VA VB VC LA ZZ re gr bl de sn tx pl vv gs so sd sa sq cn ry) := by
  intro m
  induction m with
  | zero =>
    intro i CA CB CC FL WA WB WC VA VB VC LA ZZ co de sn cn rx re gr bl ry hc hi h60
    have x2 : nI i + 2 = nI (i + 2) := nI_add i 2
    have y3 : nI i + 3 = nI (i + 3) := nI_add i 3
    refine ⟨CA, CB, CC, FL, WA, WB, WC, VA, VB, VC, LA, ZZ, co, de, sn, cn, rx, re, gr, bl, ry, hc, fun post n hn h => (by obtain ⟨n, rfl⟩ : ∃ m, n = m + 1 := ⟨n - 1, by omega⟩; rw [wX_drawTriangles_2]; exact br_t (by rw [x2]; exact nI_le (by omega) (by omega)) h), fun post n hn h => (by obtain ⟨n, rfl⟩ : ∃ m, n = m + 1 := ⟨n - 1, by omega⟩; rw [wY_draw_102]; exact br_t (by rw [y3]; exact nI_lt (by omega) (by omega)) h)⟩
  | succ m ih =>
    intro i CA CB CC FL WA WB WC VA VB VC LA ZZ co de sn cn rx re gr bl ry hc hi h60
    have x2 : nI i + 2 = nI (i + 2) := nI_add i 2
    have y3 : nI i + 3 = nI (i + 3) := nI_add i 3
    by_cases q : cnt ≤ i + 2
    · refine ⟨CA, CB, CC, FL, WA, WB, WC, VA, VB, VC, LA, ZZ, co, de, sn, cn, rx, re, gr, bl, ry, hc, fun post n hn h => (by obtain ⟨n, rfl⟩ : ∃ m, n = m + 1 := ⟨n - 1, by omega⟩; rw [wX_drawTriangles_2]; exact br_t (by rw [x2]; exact nI_le (by omega) (by omega)) h), fun post n hn h => (by obtain ⟨n, rfl⟩ : ∃ m, n = m + 1 := ⟨n - 1, by omega⟩; rw [wY_draw_102]; exact br_t (by rw [y3]; exact nI_lt (by omega) (by omega)) h)⟩
    obtain ⟨CA1, CB1, CC1, FL1, WA1, WB1, WC1, VA1, VB1, VC1, LA1, ZZ1, co1, de1, sn1, cn1, rx1, re1, gr1, bl1, ry1, hc1, HX1, HY1⟩ := tr_sim (KE := KE) (CA := CA) (CB := CB) (CC := CC) (FL := FL) (WA := WA) (WB := WB) (WC := WC) (co := co) (de := de) (sn := sn) (tx := tx) (vx := vx) (vy := vy) (vz := vz) (vq := vq) (vv := vv) (gs := gs) (cn := cn) (so := so) (sd := sd) (sa := sa) (sq := sq) (rx := rx) (VA := VA) (VB := VB) (VC := VC) (LA := LA) (ZZ := ZZ) (re := re) (gr := gr) (bl := bl) (pl := pl) (ry := ry) F hs ht (a := f + i) (b := f + i + 1) (c := f + i + 2) (by omega) (by omega) (by omega) hc
    obtain ⟨CA', CB', CC', FL', WA', WB', WC', VA', VB', VC', LA', ZZ', co', de', sn', cn', rx', re', gr', bl', ry', hc', HX, HY⟩ := ih (i + 3) CA1 CB1 CC1 FL1 WA1 WB1 WC1 VA1 VB1 VC1 LA1 ZZ1 co1 de1 sn1 cn1 rx1 re1 gr1 bl1 ry1 hc1 (by omega) (by omega)
    have e2 : nI (f + i) + 2 = nI (f + i + 2) := nI_add (f + i) 2
    refine ⟨CA', CB', CC', FL', WA', WB', WC', VA', VB', VC', LA', ZZ', co', de', sn', cn', rx', re', gr', bl', ry', hc', fun post n hn h => ?_, fun post n hn h => ?_⟩
    · obtain ⟨n, rfl⟩ : ∃ m, n = m + 1 := ⟨n - 1, by omega⟩
      rw [wX_drawTriangles_2]
      refine br_f (by rw [x2]; exact nI_ge (by omega) (by omega)) (nm_r (nI_add f i) ?_)
      rw [nI_1 (f + i), e2]
      exact HX1 _ (nm_r y3 (HX post n (by omega) h))
    · obtain ⟨n, rfl⟩ : ∃ m, n = m + 1 := ⟨n - 1, by omega⟩
      rw [wY_draw_102]
      refine br_f (by rw [y3]; exact nI_nlt (by omega) (by omega)) ?_
      rw [nI_add f i, nI_1 (f + i), e2]
      exact HY1 _ (nm_r y3 (HY post n (by omega) h))
theorem ds_sim {ns sl st sw sh f cnt : Nat} {x1 : Int32} (F : fz_ok ns tx vx vy vz vq gs so sd sa sq pl) (hs : sl + sw ≤ 24) (ht : st + sh ≤ 16) (hf : f + cnt ≤ 24) : ∀ (m i : Nat) (CA CB CC FL WA WB WC VA VB VC LA ZZ : Int32) (co de sn cn rx re gr bl ry : Nat → Int32), ri_col co re gr bl → cnt ≤ i + m → i ≤ 60 → ∃ (CA' CB' CC' FL' WA' WB' WC' VA' VB' VC' LA' ZZ' : Int32) (co' de' sn' cn' rx' re' gr' bl' ry' : Nat → Int32), ri_col co' re' gr' bl'
    ∧ (∀ (post : SX → Prop) (n : Nat), m < n → post (nI ns, nI sl, nI st, nI (sl + sw), nI (st + sh), KE, CA', CB', CC', FL', WA', WB', WC', co', de', sn', tx, vx, vy, vz, vq, vv, gs, cn', so, sd, sa, sq, rx') → wX_drawStrip_2 post (nI f) (nI cnt) n (nI i) (nI ns) (nI sl) (nI st) (nI (sl + sw)) (nI (st + sh)) KE CA CB CC FL WA WB WC co de sn tx vx vy vz vq vv gs cn so sd sa sq rx)
    ∧ (∀ (post : Int32 → SY → Prop) (n : Nat), m < n → wY_draw_190 post x1 (nI f) (nI cnt) (nI sl) (nI st) (nI sw) (nI sh) (nI ns) KE VA' VB' VC' LA' ZZ' re' gr' bl' de' sn' tx pl vv gs so sd sa sq cn' ry' → wY_draw_144 post x1 (nI f) (nI cnt) n (nI i) (nI sl) (nI st) (nI sw) (nI sh) (nI ns) KE VA VB VC LA ZZ re gr bl de sn tx pl vv gs so sd sa sq cn ry) := by
  intro m
  induction m with
  | zero =>
    intro i CA CB CC FL WA WB WC VA VB VC LA ZZ co de sn cn rx re gr bl ry hc hi h60
    have x2 : nI i + 2 = nI (i + 2) := nI_add i 2
    have y3 : nI i + 3 = nI (i + 3) := nI_add i 3
    refine ⟨CA, CB, CC, FL, WA, WB, WC, VA, VB, VC, LA, ZZ, co, de, sn, cn, rx, re, gr, bl, ry, hc, fun post n hn h => (by obtain ⟨n, rfl⟩ : ∃ m, n = m + 1 := ⟨n - 1, by omega⟩; rw [wX_drawStrip_2]; exact br_t (by rw [x2]; exact nI_le (by omega) (by omega)) h), fun post n hn h => (by obtain ⟨n, rfl⟩ : ∃ m, n = m + 1 := ⟨n - 1, by omega⟩; rw [wY_draw_144]; exact br_t (by rw [y3]; exact nI_lt (by omega) (by omega)) h)⟩
  | succ m ih =>
    intro i CA CB CC FL WA WB WC VA VB VC LA ZZ co de sn cn rx re gr bl ry hc hi h60
    have x2 : nI i + 2 = nI (i + 2) := nI_add i 2
    have y3 : nI i + 3 = nI (i + 3) := nI_add i 3
    by_cases q : cnt ≤ i + 2
    · refine ⟨CA, CB, CC, FL, WA, WB, WC, VA, VB, VC, LA, ZZ, co, de, sn, cn, rx, re, gr, bl, ry, hc, fun post n hn h => (by obtain ⟨n, rfl⟩ : ∃ m, n = m + 1 := ⟨n - 1, by omega⟩; rw [wX_drawStrip_2]; exact br_t (by rw [x2]; exact nI_le (by omega) (by omega)) h), fun post n hn h => (by obtain ⟨n, rfl⟩ : ∃ m, n = m + 1 := ⟨n - 1, by omega⟩; rw [wY_draw_144]; exact br_t (by rw [y3]; exact nI_lt (by omega) (by omega)) h)⟩
    have e2 : nI (f + i) + 2 = nI (f + i + 2) := nI_add (f + i) 2
    have q3 : nI f + nI i + 2 = nI (f + i + 2) := ix_a (nI_add f i) 2 rfl
    have rm : nI i - nI i / 2 * 2 = nI (i % 2) := pk_rem (d := 2) (by omega) (by decide) (by decide)
    by_cases par : i % 2 = 0
    · obtain ⟨CA1, CB1, CC1, FL1, WA1, WB1, WC1, VA1, VB1, VC1, LA1, ZZ1, co1, de1, sn1, cn1, rx1, re1, gr1, bl1, ry1, hc1, HX1, HY1⟩ := tr_sim (KE := KE) (CA := CA) (CB := CB) (CC := CC) (FL := FL) (WA := WA) (WB := WB) (WC := WC) (co := co) (de := de) (sn := sn) (tx := tx) (vx := vx) (vy := vy) (vz := vz) (vq := vq) (vv := vv) (gs := gs) (cn := cn) (so := so) (sd := sd) (sa := sa) (sq := sq) (rx := rx) (VA := VA) (VB := VB) (VC := VC) (LA := LA) (ZZ := ZZ) (re := re) (gr := gr) (bl := bl) (pl := pl) (ry := ry) F hs ht (a := f + i) (b := f + i + 1) (c := f + i + 2) (by omega) (by omega) (by omega) hc
      obtain ⟨CA', CB', CC', FL', WA', WB', WC', VA', VB', VC', LA', ZZ', co', de', sn', cn', rx', re', gr', bl', ry', hc', HX, HY⟩ := ih (i + 1) CA1 CB1 CC1 FL1 WA1 WB1 WC1 VA1 VB1 VC1 LA1 ZZ1 co1 de1 sn1 cn1 rx1 re1 gr1 bl1 ry1 hc1 (by omega) (by omega)
      have q1 : nI f + nI i + nI 0 = nI (f + i) := ix_a (nI_add f i) 0 rfl
      have q2 : nI f + nI i + 1 - nI 0 = nI (f + i + 1) := by
        rw [nI_add, nI_1, pk_sub (Nat.zero_le _)]
        rfl
      refine ⟨CA', CB', CC', FL', WA', WB', WC', VA', VB', VC', LA', ZZ', co', de', sn', cn', rx', re', gr', bl', ry', hc', fun post n hn h => ?_, fun post n hn h => ?_⟩
      · obtain ⟨n, rfl⟩ : ∃ m, n = m + 1 := ⟨n - 1, by omega⟩
        rw [wX_drawStrip_2]
        refine br_f (by rw [x2]; exact nI_ge (by omega) (by omega)) (nm_r (nI_add f i) ⟨by decide, br_t (by rw [rm, par]; rfl) ?_⟩)
        rw [nI_1 (f + i), e2]
        exact HX1 _ (nm_r (nI_1 i) (HX post n (by omega) h))
      · obtain ⟨n, rfl⟩ : ∃ m, n = m + 1 := ⟨n - 1, by omega⟩
        rw [wY_draw_144]
        refine br_f (by rw [y3]; exact nI_nlt (by omega) (by omega)) ⟨by decide, nm_r (e' := nI 0) (by rw [rm, par]) ?_⟩
        rw [q1, q2, q3]
        exact HY1 _ (nm_r (nI_1 i) (HY post n (by omega) h))
    · have par1 : i % 2 = 1 := by omega
      obtain ⟨CA1, CB1, CC1, FL1, WA1, WB1, WC1, VA1, VB1, VC1, LA1, ZZ1, co1, de1, sn1, cn1, rx1, re1, gr1, bl1, ry1, hc1, HX1, HY1⟩ := tr_sim (KE := KE) (CA := CA) (CB := CB) (CC := CC) (FL := FL) (WA := WA) (WB := WB) (WC := WC) (co := co) (de := de) (sn := sn) (tx := tx) (vx := vx) (vy := vy) (vz := vz) (vq := vq) (vv := vv) (gs := gs) (cn := cn) (so := so) (sd := sd) (sa := sa) (sq := sq) (rx := rx) (VA := VA) (VB := VB) (VC := VC) (LA := LA) (ZZ := ZZ) (re := re) (gr := gr) (bl := bl) (pl := pl) (ry := ry) F hs ht (a := f + i + 1) (b := f + i) (c := f + i + 2) (by omega) (by omega) (by omega) hc
      obtain ⟨CA', CB', CC', FL', WA', WB', WC', VA', VB', VC', LA', ZZ', co', de', sn', cn', rx', re', gr', bl', ry', hc', HX, HY⟩ := ih (i + 1) CA1 CB1 CC1 FL1 WA1 WB1 WC1 VA1 VB1 VC1 LA1 ZZ1 co1 de1 sn1 cn1 rx1 re1 gr1 bl1 ry1 hc1 (by omega) (by omega)
      have q1 : nI f + nI i + nI 1 = nI (f + i + 1) := ix_a (nI_add f i) 1 rfl
      have q2 : nI f + nI i + 1 - nI 1 = nI (f + i) := by
        rw [nI_add, nI_1, pk_sub (by omega)]
        rfl
      refine ⟨CA', CB', CC', FL', WA', WB', WC', VA', VB', VC', LA', ZZ', co', de', sn', cn', rx', re', gr', bl', ry', hc', fun post n hn h => ?_, fun post n hn h => ?_⟩
      · obtain ⟨n, rfl⟩ : ∃ m, n = m + 1 := ⟨n - 1, by omega⟩
        rw [wX_drawStrip_2]
        refine br_f (by rw [x2]; exact nI_ge (by omega) (by omega)) (nm_r (nI_add f i) ⟨by decide, br_f (by rw [rm, par1]; decide) ?_⟩)
        rw [nI_1 (f + i), e2]
        exact HX1 _ (nm_r (nI_1 i) (HX post n (by omega) h))
      · obtain ⟨n, rfl⟩ : ∃ m, n = m + 1 := ⟨n - 1, by omega⟩
        rw [wY_draw_144]
        refine br_f (by rw [y3]; exact nI_nlt (by omega) (by omega)) ⟨by decide, nm_r (e' := nI 1) (by rw [rm, par1]) ?_⟩
        rw [q1, q2, q3]
        exact HY1 _ (nm_r (nI_1 i) (HY post n (by omega) h))
theorem df_sim {ns sl st sw sh f cnt : Nat} (F : fz_ok ns tx vx vy vz vq gs so sd sa sq pl) (hs : sl + sw ≤ 24) (ht : st + sh ≤ 16) (hf : f + cnt ≤ 24) : ∀ (m i : Nat) (CA CB CC FL WA WB WC VA VB VC LA ZZ : Int32) (co de sn cn rx re gr bl ry : Nat → Int32), ri_col co re gr bl → cnt ≤ i + m → i ≤ 60 → ∃ (CA' CB' CC' FL' WA' WB' WC' VA' VB' VC' LA' ZZ' : Int32) (co' de' sn' cn' rx' re' gr' bl' ry' : Nat → Int32), ri_col co' re' gr' bl'
    ∧ (∀ (post : SX → Prop) (n : Nat), m < n → post (nI ns, nI sl, nI st, nI (sl + sw), nI (st + sh), KE, CA', CB', CC', FL', WA', WB', WC', co', de', sn', tx, vx, vy, vz, vq, vv, gs, cn', so, sd, sa, sq, rx') → wX_drawFan_2 post (nI f) (nI cnt) n (nI i) (nI ns) (nI sl) (nI st) (nI (sl + sw)) (nI (st + sh)) KE CA CB CC FL WA WB WC co de sn tx vx vy vz vq vv gs cn so sd sa sq rx)
    ∧ (∀ (post : Int32 → SY → Prop) (n : Nat), m < n → post (cn' 4) (nI sl, nI st, nI sw, nI sh, nI ns, KE, VA', VB', VC', LA', ZZ', re', gr', bl', de', sn', tx, pl, vv, gs, so, sd, sa, sq, cn', ry') → wY_draw_198 post (nI f) (nI cnt) n (nI i) (nI sl) (nI st) (nI sw) (nI sh) (nI ns) KE VA VB VC LA ZZ re gr bl de sn tx pl vv gs so sd sa sq cn ry) := by
  intro m
  induction m with
  | zero =>
    intro i CA CB CC FL WA WB WC VA VB VC LA ZZ co de sn cn rx re gr bl ry hc hi h60
    have x2 : nI i + 2 = nI (i + 2) := nI_add i 2
    refine ⟨CA, CB, CC, FL, WA, WB, WC, VA, VB, VC, LA, ZZ, co, de, sn, cn, rx, re, gr, bl, ry, hc, fun post n hn h => (by obtain ⟨n, rfl⟩ : ∃ m, n = m + 1 := ⟨n - 1, by omega⟩; rw [wX_drawFan_2]; exact br_t (by rw [nI_1 i]; exact nI_le (by omega) (by omega)) h), fun post n hn h => (by obtain ⟨n, rfl⟩ : ∃ m, n = m + 1 := ⟨n - 1, by omega⟩; rw [wY_draw_198]; exact br_t (by rw [x2]; exact nI_lt (by omega) (by omega)) h)⟩
  | succ m ih =>
    intro i CA CB CC FL WA WB WC VA VB VC LA ZZ co de sn cn rx re gr bl ry hc hi h60
    have x2 : nI i + 2 = nI (i + 2) := nI_add i 2
    by_cases q : cnt ≤ i + 1
    · refine ⟨CA, CB, CC, FL, WA, WB, WC, VA, VB, VC, LA, ZZ, co, de, sn, cn, rx, re, gr, bl, ry, hc, fun post n hn h => (by obtain ⟨n, rfl⟩ : ∃ m, n = m + 1 := ⟨n - 1, by omega⟩; rw [wX_drawFan_2]; exact br_t (by rw [nI_1 i]; exact nI_le (by omega) (by omega)) h), fun post n hn h => (by obtain ⟨n, rfl⟩ : ∃ m, n = m + 1 := ⟨n - 1, by omega⟩; rw [wY_draw_198]; exact br_t (by rw [x2]; exact nI_lt (by omega) (by omega)) h)⟩
    obtain ⟨CA1, CB1, CC1, FL1, WA1, WB1, WC1, VA1, VB1, VC1, LA1, ZZ1, co1, de1, sn1, cn1, rx1, re1, gr1, bl1, ry1, hc1, HX1, HY1⟩ := tr_sim (KE := KE) (CA := CA) (CB := CB) (CC := CC) (FL := FL) (WA := WA) (WB := WB) (WC := WC) (co := co) (de := de) (sn := sn) (tx := tx) (vx := vx) (vy := vy) (vz := vz) (vq := vq) (vv := vv) (gs := gs) (cn := cn) (so := so) (sd := sd) (sa := sa) (sq := sq) (rx := rx) (VA := VA) (VB := VB) (VC := VC) (LA := LA) (ZZ := ZZ) (re := re) (gr := gr) (bl := bl) (pl := pl) (ry := ry) F hs ht (a := f) (b := f + i) (c := f + i + 1) (by omega) (by omega) (by omega) hc
    obtain ⟨CA', CB', CC', FL', WA', WB', WC', VA', VB', VC', LA', ZZ', co', de', sn', cn', rx', re', gr', bl', ry', hc', HX, HY⟩ := ih (i + 1) CA1 CB1 CC1 FL1 WA1 WB1 WC1 VA1 VB1 VC1 LA1 ZZ1 co1 de1 sn1 cn1 rx1 re1 gr1 bl1 ry1 hc1 (by omega) (by omega)
    refine ⟨CA', CB', CC', FL', WA', WB', WC', VA', VB', VC', LA', ZZ', co', de', sn', cn', rx', re', gr', bl', ry', hc', fun post n hn h => ?_, fun post n hn h => ?_⟩
    · obtain ⟨n, rfl⟩ : ∃ m, n = m + 1 := ⟨n - 1, by omega⟩
      rw [wX_drawFan_2]
      refine br_f (by rw [nI_1 i]; exact nI_ge (by omega) (by omega)) (nm_r (nI_add f i) ?_)
      rw [nI_1 (f + i)]
      exact HX1 _ (nm_r (nI_1 i) (HX post n (by omega) h))
    · obtain ⟨n, rfl⟩ : ∃ m, n = m + 1 := ⟨n - 1, by omega⟩
      rw [wY_draw_198]
      refine br_f (by rw [x2]; exact nI_nlt (by omega) (by omega)) ?_
      rw [nI_add f i, nI_1 (f + i)]
      exact HY1 _ (nm_r (nI_1 i) (HY post n (by omega) h))
end DRW
end
section
/-! vertex, paint, coords, texel, set, scissor, keep, pixel, at, error, count -/
section CLS
variable {NS SL ST SR SB KE CA CB CC FL WA WB WC : Int32} {co de sn tx vx vy vz vq vv gs cn so sd sa sq rx : Nat → Int32}
variable {LE TO WI HI VA VB VC LA ZZ : Int32} {re gr bl pl ry : Nat → Int32}
theorem rel_mk {k ns sl st sw sh : Nat} (R : ri_all ns sl st sw sh co tx vx vy vz vq gs so sd sa sq re gr bl pl) : i_Rel k (nI ns, nI sl, nI st, nI (sl + sw), nI (st + sh), KE, CA, CB, CC, FL, WA, WB, WC, co, de, sn, tx, vx, vy, vz, vq, vv, gs, cn, so, sd, sa, sq, rx) (nI sl, nI st, nI sw, nI sh, nI ns, KE, VA, VB, VC, LA, ZZ, re, gr, bl, de, sn, tx, pl, vv, gs, so, sd, sa, sq, cn, ry) := ⟨ns, sl, st, sw, sh, KE, CA, CB, CC, FL, WA, WB, WC, VA, VB, VC, LA, ZZ, co, de, sn, tx, vx, vy, vz, vq, vv, gs, cn, so, sd, sa, sq, rx, re, gr, bl, pl, ry, rfl, rfl, R⟩
theorem ic_in {x M : Int32} {n N : Nat} (hM : M.toInt = n) (h : 0 ≤ x ∧ x ≤ M) (hN : n < N) : vp_in x N := by
  have a := Int32.le_iff_toInt_le.mp h.1
  have b := Int32.le_iff_toInt_le.mp h.2
  rw [Int32.toInt_zero] at a
  exact vp_in_iff.mpr (by omega)
theorem mx_vertex {post : Int32 → SX → Prop} {i x y z q : Int32} (T : ((0 : Int32) ≤ i ∧ i ≤ 23) ∧ ((-800 : Int32) ≤ x ∧ x ≤ 800) ∧ ((-800 : Int32) ≤ y ∧ y ≤ 800) ∧ ((0 : Int32) ≤ z ∧ z ≤ 1023) ∧ ((1 : Int32) ≤ q ∧ q ≤ 64) → post 1 (NS, SL, ST, SR, SB, KE, CA, CB, CC, FL, WA, WB, WC, co, de, sn, tx, upd vx i.toNatClampNeg x, upd vy i.toNatClampNeg y, upd vz i.toNatClampNeg z, upd vq i.toNatClampNeg q, vv, gs, cn, so, sd, sa, sq, rx)) (F : ¬ (((0 : Int32) ≤ i ∧ i ≤ 23) ∧ ((-800 : Int32) ≤ x ∧ x ≤ 800) ∧ ((-800 : Int32) ≤ y ∧ y ≤ 800) ∧ ((0 : Int32) ≤ z ∧ z ≤ 1023) ∧ ((1 : Int32) ≤ q ∧ q ≤ 64)) → post 0 (NS, SL, ST, SR, SB, ke_f KE 2, CA, CB, CC, FL, WA, WB, WC, co, de, sn, tx, vx, vy, vz, vq, vv, gs, cn, so, sd, sa, sq, rx)) : wpX_vertex post (NS, SL, ST, SR, SB, KE, CA, CB, CC, FL, WA, WB, WC, co, de, sn, tx, vx, vy, vz, vq, vv, gs, cn, so, sd, sa, sq, rx) i x y z q := by
  have G : ¬ (((0 : Int32) ≤ i ∧ i ≤ 23) ∧ ((-800 : Int32) ≤ x ∧ x ≤ 800) ∧ ((-800 : Int32) ≤ y ∧ y ≤ 800) ∧ ((0 : Int32) ≤ z ∧ z ≤ 1023) ∧ ((1 : Int32) ≤ q ∧ q ≤ 64)) → wX_vertex_56 post NS SL ST SR SB KE CA CB CC FL WA WB WC co de sn tx vx vy vz vq vv gs cn so sd sa sq rx := fun n => by
    unfold wX_vertex_56
    exact mx_refuse ⟨rfl, F n⟩
  unfold wpX_vertex
  refine mx_isV (fun a => br_f n10 ?_) (fun a => br_t rfl (G (fun z => a z.1)))
  refine mx_btw (fun b => br_f n10 ?_) (fun b => br_t rfl (G (fun z => b z.2.1)))
  refine mx_btw (fun c => br_f n10 ?_) (fun c => br_t rfl (G (fun z => c z.2.2.1)))
  refine mx_btw (fun d => br_f n10 ?_) (fun d => br_t rfl (G (fun z => d z.2.2.2.1)))
  refine mx_btw (fun e => br_f n10 ?_) (fun e => br_t rfl (G (fun z => e z.2.2.2.2)))
  have v : vp_in i 24 := ic_in (n := 23) (by decide) a (by decide)
  exact ⟨v, nm_e ⟨v, nm_e ⟨v, nm_e ⟨v, nm_e (T ⟨a, b, c, d, e⟩)⟩⟩⟩⟩
theorem my_vertex {post : Int32 → SY → Prop} {i x y z q : Int32} (T : ((0 : Int32) ≤ i ∧ i ≤ 23) ∧ ((-800 : Int32) ≤ x ∧ x ≤ 800) ∧ ((-800 : Int32) ≤ y ∧ y ≤ 800) ∧ ((0 : Int32) ≤ z ∧ z ≤ 1023) ∧ ((1 : Int32) ≤ q ∧ q ≤ 64) → post 1 (LE, TO, WI, HI, NS, KE, VA, VB, VC, LA, ZZ, re, gr, bl, de, sn, tx, upd (upd (upd (upd pl (4 * i.toNatClampNeg) x) (4 * i.toNatClampNeg + 1) y) (4 * i.toNatClampNeg + 2) z) (4 * i.toNatClampNeg + 3) q, vv, gs, so, sd, sa, sq, cn, ry)) (F : ¬ (((0 : Int32) ≤ i ∧ i ≤ 23) ∧ ((-800 : Int32) ≤ x ∧ x ≤ 800) ∧ ((-800 : Int32) ≤ y ∧ y ≤ 800) ∧ ((0 : Int32) ≤ z ∧ z ≤ 1023) ∧ ((1 : Int32) ≤ q ∧ q ≤ 64)) → post 0 (LE, TO, WI, HI, NS, ke_f KE 2, VA, VB, VC, LA, ZZ, re, gr, bl, de, sn, tx, pl, vv, gs, so, sd, sa, sq, cn, ry)) : wpY_vertex post (LE, TO, WI, HI, NS, KE, VA, VB, VC, LA, ZZ, re, gr, bl, de, sn, tx, pl, vv, gs, so, sd, sa, sq, cn, ry) i x y z q := by
  have G : ¬ (((0 : Int32) ≤ i ∧ i ≤ 23) ∧ ((-800 : Int32) ≤ x ∧ x ≤ 800) ∧ ((-800 : Int32) ≤ y ∧ y ≤ 800) ∧ ((0 : Int32) ≤ z ∧ z ≤ 1023) ∧ ((1 : Int32) ≤ q ∧ q ≤ 64)) → wY_vertex_59 post LE TO WI HI NS KE VA VB VC LA ZZ re gr bl de sn tx pl vv gs so sd sa sq cn ry := fun n => by
    unfold wY_vertex_59
    exact my_fails ⟨rfl, F n⟩
  unfold wpY_vertex
  refine my_in (fun a => br_f n10 ?_) (fun a => br_t rfl (G (fun z => a z.1)))
  refine my_in (fun b => br_f n10 ?_) (fun b => br_t rfl (G (fun z => b z.2.1)))
  refine my_in (fun c => br_f n10 ?_) (fun c => br_t rfl (G (fun z => c z.2.2.1)))
  refine my_in (fun d => br_f n10 ?_) (fun d => br_t rfl (G (fun z => d z.2.2.2.1)))
  refine my_in (fun e => br_f n10 ?_) (fun e => br_t rfl (G (fun z => e z.2.2.2.2)))
  have t := T ⟨a, b, c, d, e⟩
  obtain ⟨I, hI, rfl⟩ := ic_of 23 (by decide) a.1 a.2
  rw [nI_clamp (by omega)] at t
  obtain ⟨v1, c1⟩ := ix_p (x := 4 * nI I) 96 (pk_mul 4 I) (by omega) (by decide)
  obtain ⟨v2, c2⟩ := ix_p (x := 4 * nI I + 1) 96 (ix_a (pk_mul 4 I) 1 rfl) (by omega) (by decide)
  obtain ⟨v3, c3⟩ := ix_p (x := 4 * nI I + 2) 96 (ix_a (pk_mul 4 I) 2 rfl) (by omega) (by decide)
  obtain ⟨v4, c4⟩ := ix_p (x := 4 * nI I + 3) 96 (ix_a (pk_mul 4 I) 3 rfl) (by omega) (by decide)
  refine ⟨v1, nm_r (e' := upd pl (4 * I) x) (by rw [c1]) ⟨v2, nm_r (e' := upd (upd pl (4 * I) x) (4 * I + 1) y) (by rw [c2]) ⟨v3, nm_r (e' := upd (upd (upd pl (4 * I) x) (4 * I + 1) y) (4 * I + 2) z) (by rw [c3]) ⟨v4, ?_⟩⟩⟩⟩
  exact nm_r (by rw [c4]) t
theorem mx_paint {post : Int32 → SX → Prop} {i x y z q : Int32} (T : ((0 : Int32) ≤ i ∧ i ≤ 23) ∧ ((0 : Int32) ≤ x ∧ x ≤ 255) ∧ ((0 : Int32) ≤ y ∧ y ≤ 255) ∧ ((0 : Int32) ≤ z ∧ z ≤ 255) ∧ ((0 : Int32) ≤ q ∧ q ≤ 255) → post 1 (NS, SL, ST, SR, SB, KE, CA, CB, CC, FL, WA, WB, WC, co, de, sn, tx, vx, vy, vz, vq, upd (upd (upd (upd vv (6 * i.toNatClampNeg) x) (6 * i.toNatClampNeg + 1) y) (6 * i.toNatClampNeg + 2) z) (6 * i.toNatClampNeg + 3) q, gs, cn, so, sd, sa, sq, rx)) (F : ¬ (((0 : Int32) ≤ i ∧ i ≤ 23) ∧ ((0 : Int32) ≤ x ∧ x ≤ 255) ∧ ((0 : Int32) ≤ y ∧ y ≤ 255) ∧ ((0 : Int32) ≤ z ∧ z ≤ 255) ∧ ((0 : Int32) ≤ q ∧ q ≤ 255)) → post 0 (NS, SL, ST, SR, SB, ke_f KE 2, CA, CB, CC, FL, WA, WB, WC, co, de, sn, tx, vx, vy, vz, vq, vv, gs, cn, so, sd, sa, sq, rx)) : wpX_paint post (NS, SL, ST, SR, SB, KE, CA, CB, CC, FL, WA, WB, WC, co, de, sn, tx, vx, vy, vz, vq, vv, gs, cn, so, sd, sa, sq, rx) i x y z q := by
  have G : ¬ (((0 : Int32) ≤ i ∧ i ≤ 23) ∧ ((0 : Int32) ≤ x ∧ x ≤ 255) ∧ ((0 : Int32) ≤ y ∧ y ≤ 255) ∧ ((0 : Int32) ≤ z ∧ z ≤ 255) ∧ ((0 : Int32) ≤ q ∧ q ≤ 255)) → wX_paint_53 post NS SL ST SR SB KE CA CB CC FL WA WB WC co de sn tx vx vy vz vq vv gs cn so sd sa sq rx := fun n => by
    unfold wX_paint_53
    exact mx_refuse ⟨rfl, F n⟩
  unfold wpX_paint
  refine mx_isV (fun a => br_f n10 ?_) (fun a => br_t rfl (G (fun z => a z.1)))
  refine mx_btw (fun b => br_f n10 ?_) (fun b => br_t rfl (G (fun z => b z.2.1)))
  refine mx_btw (fun c => br_f n10 ?_) (fun c => br_t rfl (G (fun z => c z.2.2.1)))
  refine mx_btw (fun d => br_f n10 ?_) (fun d => br_t rfl (G (fun z => d z.2.2.2.1)))
  refine mx_btw (fun e => br_f n10 ?_) (fun e => br_t rfl (G (fun z => e z.2.2.2.2)))
  have t := T ⟨a, b, c, d, e⟩
  obtain ⟨I, hI, rfl⟩ := ic_of 23 (by decide) a.1 a.2
  rw [nI_clamp (by omega)] at t
  have e6 : nI I * 6 = nI (6 * I) := (pk_mul I 6).trans (congrArg nI (Nat.mul_comm I 6))
  obtain ⟨v1, c1⟩ := ix_p (x := nI (6 * I)) 144 rfl (by omega) (by decide)
  obtain ⟨v2, c2⟩ := ix_p (x := nI (6 * I) + 1) 144 (nI_add (6 * I) 1) (by omega) (by decide)
  obtain ⟨v3, c3⟩ := ix_p (x := nI (6 * I) + 2) 144 (nI_add (6 * I) 2) (by omega) (by decide)
  obtain ⟨v4, c4⟩ := ix_p (x := nI (6 * I) + 3) 144 (nI_add (6 * I) 3) (by omega) (by decide)
  refine nm_r e6 ⟨v1, nm_r (e' := upd vv (6 * I) x) (by rw [c1]) ⟨v2, nm_r (e' := upd (upd vv (6 * I) x) (6 * I + 1) y) (by rw [c2]) ⟨v3, nm_r (e' := upd (upd (upd vv (6 * I) x) (6 * I + 1) y) (6 * I + 2) z) (by rw [c3]) ⟨v4, ?_⟩⟩⟩⟩
  exact nm_r (by rw [c4]) t
theorem my_paint {post : Int32 → SY → Prop} {i x y z q : Int32} (T : ((0 : Int32) ≤ i ∧ i ≤ 23) ∧ ((0 : Int32) ≤ x ∧ x ≤ 255) ∧ ((0 : Int32) ≤ y ∧ y ≤ 255) ∧ ((0 : Int32) ≤ z ∧ z ≤ 255) ∧ ((0 : Int32) ≤ q ∧ q ≤ 255) → post 1 (LE, TO, WI, HI, NS, KE, VA, VB, VC, LA, ZZ, re, gr, bl, de, sn, tx, pl, upd (upd (upd (upd vv (6 * i.toNatClampNeg) x) (6 * i.toNatClampNeg + 1) y) (6 * i.toNatClampNeg + 2) z) (6 * i.toNatClampNeg + 3) q, gs, so, sd, sa, sq, cn, ry)) (F : ¬ (((0 : Int32) ≤ i ∧ i ≤ 23) ∧ ((0 : Int32) ≤ x ∧ x ≤ 255) ∧ ((0 : Int32) ≤ y ∧ y ≤ 255) ∧ ((0 : Int32) ≤ z ∧ z ≤ 255) ∧ ((0 : Int32) ≤ q ∧ q ≤ 255)) → post 0 (LE, TO, WI, HI, NS, ke_f KE 2, VA, VB, VC, LA, ZZ, re, gr, bl, de, sn, tx, pl, vv, gs, so, sd, sa, sq, cn, ry)) : wpY_paint post (LE, TO, WI, HI, NS, KE, VA, VB, VC, LA, ZZ, re, gr, bl, de, sn, tx, pl, vv, gs, so, sd, sa, sq, cn, ry) i x y z q := by
  have G : ¬ (((0 : Int32) ≤ i ∧ i ≤ 23) ∧ ((0 : Int32) ≤ x ∧ x ≤ 255) ∧ ((0 : Int32) ≤ y ∧ y ≤ 255) ∧ ((0 : Int32) ≤ z ∧ z ≤ 255) ∧ ((0 : Int32) ≤ q ∧ q ≤ 255)) → wY_paint_56 post LE TO WI HI NS KE VA VB VC LA ZZ re gr bl de sn tx pl vv gs so sd sa sq cn ry := fun n => by
    unfold wY_paint_56
    exact my_fails ⟨rfl, F n⟩
  unfold wpY_paint
  refine my_in (fun a => br_f n10 ?_) (fun a => br_t rfl (G (fun z => a z.1)))
  refine my_in (fun b => br_f n10 ?_) (fun b => br_t rfl (G (fun z => b z.2.1)))
  refine my_in (fun c => br_f n10 ?_) (fun c => br_t rfl (G (fun z => c z.2.2.1)))
  refine my_in (fun d => br_f n10 ?_) (fun d => br_t rfl (G (fun z => d z.2.2.2.1)))
  refine my_in (fun e => br_f n10 ?_) (fun e => br_t rfl (G (fun z => e z.2.2.2.2)))
  have t := T ⟨a, b, c, d, e⟩
  obtain ⟨I, hI, rfl⟩ := ic_of 23 (by decide) a.1 a.2
  rw [nI_clamp (by omega)] at t
  obtain ⟨v1, c1⟩ := ix_p (x := 6 * nI I) 144 (pk_mul 6 I) (by omega) (by decide)
  obtain ⟨v2, c2⟩ := ix_p (x := 6 * nI I + 1) 144 (ix_a (pk_mul 6 I) 1 rfl) (by omega) (by decide)
  obtain ⟨v3, c3⟩ := ix_p (x := 6 * nI I + 2) 144 (ix_a (pk_mul 6 I) 2 rfl) (by omega) (by decide)
  obtain ⟨v4, c4⟩ := ix_p (x := 6 * nI I + 3) 144 (ix_a (pk_mul 6 I) 3 rfl) (by omega) (by decide)
  refine ⟨v1, nm_r (e' := upd vv (6 * I) x) (by rw [c1]) ⟨v2, nm_r (e' := upd (upd vv (6 * I) x) (6 * I + 1) y) (by rw [c2]) ⟨v3, nm_r (e' := upd (upd (upd vv (6 * I) x) (6 * I + 1) y) (6 * I + 2) z) (by rw [c3]) ⟨v4, ?_⟩⟩⟩⟩
  exact nm_r (by rw [c4]) t
theorem mx_coords {post : Int32 → SX → Prop} {i x y : Int32} (T : ((0 : Int32) ≤ i ∧ i ≤ 23) ∧ ((-1000 : Int32) ≤ x ∧ x ≤ 1000) ∧ ((-1000 : Int32) ≤ y ∧ y ≤ 1000) → post 1 (NS, SL, ST, SR, SB, KE, CA, CB, CC, FL, WA, WB, WC, co, de, sn, tx, vx, vy, vz, vq, upd (upd vv (6 * i.toNatClampNeg + 4) x) (6 * i.toNatClampNeg + 5) y, gs, cn, so, sd, sa, sq, rx)) (F : ¬ (((0 : Int32) ≤ i ∧ i ≤ 23) ∧ ((-1000 : Int32) ≤ x ∧ x ≤ 1000) ∧ ((-1000 : Int32) ≤ y ∧ y ≤ 1000)) → post 0 (NS, SL, ST, SR, SB, ke_f KE 2, CA, CB, CC, FL, WA, WB, WC, co, de, sn, tx, vx, vy, vz, vq, vv, gs, cn, so, sd, sa, sq, rx)) : wpX_coords post (NS, SL, ST, SR, SB, KE, CA, CB, CC, FL, WA, WB, WC, co, de, sn, tx, vx, vy, vz, vq, vv, gs, cn, so, sd, sa, sq, rx) i x y := by
  have G : ¬ (((0 : Int32) ≤ i ∧ i ≤ 23) ∧ ((-1000 : Int32) ≤ x ∧ x ≤ 1000) ∧ ((-1000 : Int32) ≤ y ∧ y ≤ 1000)) → wX_coords_33 post NS SL ST SR SB KE CA CB CC FL WA WB WC co de sn tx vx vy vz vq vv gs cn so sd sa sq rx := fun n => by
    unfold wX_coords_33
    exact mx_refuse ⟨rfl, F n⟩
  unfold wpX_coords
  refine mx_isV (fun a => br_f n10 ?_) (fun a => br_t rfl (G (fun z => a z.1)))
  refine mx_btw (fun b => br_f n10 ?_) (fun b => br_t rfl (G (fun z => b z.2.1)))
  refine mx_btw (fun c => br_f n10 ?_) (fun c => br_t rfl (G (fun z => c z.2.2)))
  have t := T ⟨a, b, c⟩
  obtain ⟨I, hI, rfl⟩ := ic_of 23 (by decide) a.1 a.2
  rw [nI_clamp (by omega)] at t
  have e6 : nI I * 6 = nI (6 * I) := (pk_mul I 6).trans (congrArg nI (Nat.mul_comm I 6))
  obtain ⟨v2, c2⟩ := ix_p (x := nI (6 * I) + 4) 144 (nI_add (6 * I) 4) (by omega) (by decide)
  obtain ⟨v3, c3⟩ := ix_p (x := nI (6 * I) + 5) 144 (nI_add (6 * I) 5) (by omega) (by decide)
  refine nm_r e6 ⟨v2, nm_r (e' := upd vv (6 * I + 4) x) (by rw [c2]) ⟨v3, ?_⟩⟩
  exact nm_r (by rw [c3]) t
theorem my_coords {post : Int32 → SY → Prop} {i x y : Int32} (T : ((0 : Int32) ≤ i ∧ i ≤ 23) ∧ ((-1000 : Int32) ≤ x ∧ x ≤ 1000) ∧ ((-1000 : Int32) ≤ y ∧ y ≤ 1000) → post 1 (LE, TO, WI, HI, NS, KE, VA, VB, VC, LA, ZZ, re, gr, bl, de, sn, tx, pl, upd (upd vv (6 * i.toNatClampNeg + 4) x) (6 * i.toNatClampNeg + 5) y, gs, so, sd, sa, sq, cn, ry)) (F : ¬ (((0 : Int32) ≤ i ∧ i ≤ 23) ∧ ((-1000 : Int32) ≤ x ∧ x ≤ 1000) ∧ ((-1000 : Int32) ≤ y ∧ y ≤ 1000)) → post 0 (LE, TO, WI, HI, NS, ke_f KE 2, VA, VB, VC, LA, ZZ, re, gr, bl, de, sn, tx, pl, vv, gs, so, sd, sa, sq, cn, ry)) : wpY_coords post (LE, TO, WI, HI, NS, KE, VA, VB, VC, LA, ZZ, re, gr, bl, de, sn, tx, pl, vv, gs, so, sd, sa, sq, cn, ry) i x y := by
  have G : ¬ (((0 : Int32) ≤ i ∧ i ≤ 23) ∧ ((-1000 : Int32) ≤ x ∧ x ≤ 1000) ∧ ((-1000 : Int32) ≤ y ∧ y ≤ 1000)) → wY_coords_36 post LE TO WI HI NS KE VA VB VC LA ZZ re gr bl de sn tx pl vv gs so sd sa sq cn ry := fun n => by
    unfold wY_coords_36
    exact my_fails ⟨rfl, F n⟩
  unfold wpY_coords
  refine my_in (fun a => br_f n10 ?_) (fun a => br_t rfl (G (fun z => a z.1)))
  refine my_in (fun b => br_f n10 ?_) (fun b => br_t rfl (G (fun z => b z.2.1)))
  refine my_in (fun c => br_f n10 ?_) (fun c => br_t rfl (G (fun z => c z.2.2)))
  have t := T ⟨a, b, c⟩
  obtain ⟨I, hI, rfl⟩ := ic_of 23 (by decide) a.1 a.2
  rw [nI_clamp (by omega)] at t
  obtain ⟨v2, c2⟩ := ix_p (x := 6 * nI I + 4) 144 (ix_a (pk_mul 6 I) 4 rfl) (by omega) (by decide)
  obtain ⟨v3, c3⟩ := ix_p (x := 6 * nI I + 5) 144 (ix_a (pk_mul 6 I) 5 rfl) (by omega) (by decide)
  refine ⟨v2, nm_r (e' := upd vv (6 * I + 4) x) (by rw [c2]) ⟨v3, ?_⟩⟩
  exact nm_r (by rw [c3]) t
theorem mx_texel {post : Int32 → SX → Prop} {x y z : Int32} (T : ((0 : Int32) ≤ x ∧ x ≤ 7) ∧ ((0 : Int32) ≤ y ∧ y ≤ 7) ∧ ((0 : Int32) ≤ z ∧ z ≤ 16777215) → post 1 (NS, SL, ST, SR, SB, KE, CA, CB, CC, FL, WA, WB, WC, co, de, sn, upd tx (8 * y.toNatClampNeg + x.toNatClampNeg) z, vx, vy, vz, vq, vv, gs, cn, so, sd, sa, sq, rx)) (F : ¬ (((0 : Int32) ≤ x ∧ x ≤ 7) ∧ ((0 : Int32) ≤ y ∧ y ≤ 7) ∧ ((0 : Int32) ≤ z ∧ z ≤ 16777215)) → post 0 (NS, SL, ST, SR, SB, ke_f KE 2, CA, CB, CC, FL, WA, WB, WC, co, de, sn, tx, vx, vy, vz, vq, vv, gs, cn, so, sd, sa, sq, rx)) : wpX_texel post (NS, SL, ST, SR, SB, KE, CA, CB, CC, FL, WA, WB, WC, co, de, sn, tx, vx, vy, vz, vq, vv, gs, cn, so, sd, sa, sq, rx) x y z := by
  have G : ¬ (((0 : Int32) ≤ x ∧ x ≤ 7) ∧ ((0 : Int32) ≤ y ∧ y ≤ 7) ∧ ((0 : Int32) ≤ z ∧ z ≤ 16777215)) → wX_texel_30 post NS SL ST SR SB KE CA CB CC FL WA WB WC co de sn tx vx vy vz vq vv gs cn so sd sa sq rx := fun n => by
    unfold wX_texel_30
    exact mx_refuse ⟨rfl, F n⟩
  unfold wpX_texel
  refine mx_btw (fun a => br_f n10 ?_) (fun a => br_t rfl (G (fun z => a z.1)))
  refine mx_btw (fun b => br_f n10 ?_) (fun b => br_t rfl (G (fun z => b z.2.1)))
  refine mx_btw (fun c => br_f n10 ?_) (fun c => br_t rfl (G (fun z => c z.2.2)))
  have t := T ⟨a, b, c⟩
  obtain ⟨I, hI, rfl⟩ := ic_of 7 (by decide) a.1 a.2
  obtain ⟨J, hJ, rfl⟩ := ic_of 7 (by decide) b.1 b.2
  rw [nI_clamp (by omega), nI_clamp (by omega)] at t
  obtain ⟨v2, c2⟩ := ix_p (x := nI J * 8 + nI I) (n := 8 * J + I) 64 ((ix_a (pk_mul J 8) I rfl).trans (congrArg nI (by omega))) (by omega) (by decide)
  exact ⟨v2, nm_r (by rw [c2]) t⟩
theorem my_texel {post : Int32 → SY → Prop} {x y z : Int32} (T : ((0 : Int32) ≤ x ∧ x ≤ 7) ∧ ((0 : Int32) ≤ y ∧ y ≤ 7) ∧ ((0 : Int32) ≤ z ∧ z ≤ 16777215) → post 1 (LE, TO, WI, HI, NS, KE, VA, VB, VC, LA, ZZ, re, gr, bl, de, sn, upd tx (8 * y.toNatClampNeg + x.toNatClampNeg) z, pl, vv, gs, so, sd, sa, sq, cn, ry)) (F : ¬ (((0 : Int32) ≤ x ∧ x ≤ 7) ∧ ((0 : Int32) ≤ y ∧ y ≤ 7) ∧ ((0 : Int32) ≤ z ∧ z ≤ 16777215)) → post 0 (LE, TO, WI, HI, NS, ke_f KE 2, VA, VB, VC, LA, ZZ, re, gr, bl, de, sn, tx, pl, vv, gs, so, sd, sa, sq, cn, ry)) : wpY_texel post (LE, TO, WI, HI, NS, KE, VA, VB, VC, LA, ZZ, re, gr, bl, de, sn, tx, pl, vv, gs, so, sd, sa, sq, cn, ry) x y z := by
  have G : ¬ (((0 : Int32) ≤ x ∧ x ≤ 7) ∧ ((0 : Int32) ≤ y ∧ y ≤ 7) ∧ ((0 : Int32) ≤ z ∧ z ≤ 16777215)) → wY_texel_30 post LE TO WI HI NS KE VA VB VC LA ZZ re gr bl de sn tx pl vv gs so sd sa sq cn ry := fun n => by
    unfold wY_texel_30
    exact my_fails ⟨rfl, F n⟩
  unfold wpY_texel
  refine my_in (fun a => br_f n10 ?_) (fun a => br_t rfl (G (fun z => a z.1)))
  refine my_in (fun b => br_f n10 ?_) (fun b => br_t rfl (G (fun z => b z.2.1)))
  refine my_in (fun c => br_f n10 ?_) (fun c => br_t rfl (G (fun z => c z.2.2)))
  have t := T ⟨a, b, c⟩
  obtain ⟨I, hI, rfl⟩ := ic_of 7 (by decide) a.1 a.2
  obtain ⟨J, hJ, rfl⟩ := ic_of 7 (by decide) b.1 b.2
  rw [nI_clamp (by omega), nI_clamp (by omega)] at t
  obtain ⟨v2, c2⟩ := ix_p (x := 8 * nI J + nI I) (n := 8 * J + I) 64 (ix_a (pk_mul 8 J) I rfl) (by omega) (by decide)
  exact ⟨v2, nm_r (by rw [c2]) t⟩
end CLS
theorem i_vc_vertex {k : Nat} {u : SX} {v : SY} (I : i_Rel k u v) (hk : k + 6 ≤ 3072) (v1 : Int32) (v2 : Int32) (v3 : Int32) (v4 : Int32) (v5 : Int32) : wpX_vertex (fun r u' => wpY_vertex (fun r' v' => r' = r ∧ i_Rel (k + 6) u' v') v v1 v2 v3 v4 v5) u v1 v2 v3 v4 v5 := by
  obtain ⟨ns, sl, st, sw, sh, KE, CA, CB, CC, FL, WA, WB, WC, VA, VB, VC, LA, ZZ, co, de, sn, tx, vx, vy, vz, vq, vv, gs, cn, so, sd, sa, sq, rx, re, gr, bl, pl, ry, rfl, rfl, R⟩ := I
  refine mx_vertex (fun C => my_vertex (fun _ => ⟨rfl, rel_mk ?_⟩) (fun n => absurd C n)) (fun n => my_vertex (fun C => absurd C n) (fun _ => ⟨rfl, rel_mk R⟩))
  exact ⟨R.1, R.2.1, R.2.2.1, ri_verU R.2.2.2.1 (ic_abs (by decide) (by decide) C.2.1.1 C.2.1.2) (ic_abs (by decide) (by decide) C.2.2.1.1 C.2.2.1.2) (ic_toInt (by decide) (by decide) C.2.2.2.1.1 C.2.2.2.1.2) (ic_toInt (by decide) (by decide) C.2.2.2.2.1 C.2.2.2.2.2), R.2.2.2.2⟩
theorem i_vc_paint {k : Nat} {u : SX} {v : SY} (I : i_Rel k u v) (hk : k + 6 ≤ 3072) (v1 : Int32) (v2 : Int32) (v3 : Int32) (v4 : Int32) (v5 : Int32) : wpX_paint (fun r u' => wpY_paint (fun r' v' => r' = r ∧ i_Rel (k + 6) u' v') v v1 v2 v3 v4 v5) u v1 v2 v3 v4 v5 := by
  obtain ⟨ns, sl, st, sw, sh, KE, CA, CB, CC, FL, WA, WB, WC, VA, VB, VC, LA, ZZ, co, de, sn, tx, vx, vy, vz, vq, vv, gs, cn, so, sd, sa, sq, rx, re, gr, bl, pl, ry, rfl, rfl, R⟩ := I
  exact mx_paint (fun C => my_paint (fun _ => ⟨rfl, rel_mk R⟩) (fun n => absurd C n)) (fun n => my_paint (fun C => absurd C n) (fun _ => ⟨rfl, rel_mk R⟩))
theorem i_vc_coords {k : Nat} {u : SX} {v : SY} (I : i_Rel k u v) (hk : k + 6 ≤ 3072) (v1 : Int32) (v2 : Int32) (v3 : Int32) : wpX_coords (fun r u' => wpY_coords (fun r' v' => r' = r ∧ i_Rel (k + 6) u' v') v v1 v2 v3) u v1 v2 v3 := by
  obtain ⟨ns, sl, st, sw, sh, KE, CA, CB, CC, FL, WA, WB, WC, VA, VB, VC, LA, ZZ, co, de, sn, tx, vx, vy, vz, vq, vv, gs, cn, so, sd, sa, sq, rx, re, gr, bl, pl, ry, rfl, rfl, R⟩ := I
  exact mx_coords (fun C => my_coords (fun _ => ⟨rfl, rel_mk R⟩) (fun n => absurd C n)) (fun n => my_coords (fun C => absurd C n) (fun _ => ⟨rfl, rel_mk R⟩))
theorem i_vc_texel {k : Nat} {u : SX} {v : SY} (I : i_Rel k u v) (hk : k + 6 ≤ 3072) (v1 : Int32) (v2 : Int32) (v3 : Int32) : wpX_texel (fun r u' => wpY_texel (fun r' v' => r' = r ∧ i_Rel (k + 6) u' v') v v1 v2 v3) u v1 v2 v3 := by
  obtain ⟨ns, sl, st, sw, sh, KE, CA, CB, CC, FL, WA, WB, WC, VA, VB, VC, LA, ZZ, co, de, sn, tx, vx, vy, vz, vq, vv, gs, cn, so, sd, sa, sq, rx, re, gr, bl, pl, ry, rfl, rfl, R⟩ := I
  refine mx_texel (fun C => my_texel (fun _ => ⟨rfl, rel_mk ?_⟩) (fun n => absurd C n)) (fun n => my_texel (fun C => absurd C n) (fun _ => ⟨rfl, rel_mk R⟩))
  obtain ⟨c, hc, e⟩ := ic_of 16777215 (by decide) C.2.2.1 C.2.2.2
  rw [e]
  exact ⟨R.1, R.2.1, ri_texU R.2.2.1 (by omega), R.2.2.2⟩
end
section
/-! set, scissor, keep, step, pixel, at, error, count -/
theorem gm_ok {S : Nat} (hS : S ≤ 11) : ∃ g : Int32, (S = 7 → g = 4) ∧ (4 ≤ S → S ≤ 6 → g = 5) ∧ (∀ post : Int32 → Prop, post g → wpX_greatestOfSetting post (nI S)) ∧ (∀ post : Int32 → Prop, post g → wpY_mostOf post (nI S)) := by
  have c : S = 0 ∨ S = 1 ∨ S = 2 ∨ S = 3 ∨ S = 4 ∨ S = 5 ∨ S = 6 ∨ S = 7 ∨ S = 8 ∨ S = 9 ∨ S = 10 ∨ S = 11 := by omega
  rcases c with rfl | rfl | rfl | rfl | rfl | rfl | rfl | rfl | rfl | rfl | rfl | rfl
  · exact ⟨7, by decide, by decide, fun post h => br_f (by decide) (br_f (by decide) (br_t rfl h)), fun post h => br_f (by decide) (br_f (by decide) (br_t rfl h))⟩
  · exact ⟨1, by decide, by decide, fun post h => br_f (by decide) (br_f (by decide) (br_f (by decide) (br_t rfl h))), fun post h => br_f (by decide) (br_f (by decide) (br_f (by decide) (br_t rfl h)))⟩
  · exact ⟨7, by decide, by decide, fun post h => br_f (by decide) (br_f (by decide) (br_f (by decide) (br_f (by decide) (br_t rfl h)))), fun post h => br_f (by decide) (br_f (by decide) (br_f (by decide) (br_f (by decide) (br_t rfl h))))⟩
  · exact ⟨15, by decide, by decide, fun post h => br_f (by decide) (br_f (by decide) (br_f (by decide) (br_f (by decide) (br_f (by decide) (br_t rfl h))))), fun post h => br_f (by decide) (br_f (by decide) (br_f (by decide) (br_f (by decide) (br_f (by decide) (br_t rfl h)))))⟩
  · exact ⟨5, by decide, by decide, fun post h => br_f (by decide) (br_f (by decide) (br_f (by decide) (br_f (by decide) (br_f (by decide) (br_f (by decide) (br_t rfl h)))))), fun post h => br_f (by decide) (br_f (by decide) (br_f (by decide) (br_f (by decide) (br_f (by decide) (br_f (by decide) (br_t rfl h))))))⟩
  · exact ⟨5, by decide, by decide, fun post h => br_f (by decide) (br_f (by decide) (br_f (by decide) (br_f (by decide) (br_f (by decide) (br_f (by decide) (br_f (by decide) (br_t rfl h))))))), fun post h => br_f (by decide) (br_f (by decide) (br_f (by decide) (br_f (by decide) (br_f (by decide) (br_f (by decide) (br_f (by decide) (br_t rfl h)))))))⟩
  · exact ⟨5, by decide, by decide, fun post h => br_f (by decide) (br_f (by decide) (br_f (by decide) (br_f (by decide) (br_f (by decide) (br_f (by decide) (br_f (by decide) (br_f (by decide) (br_t rfl h)))))))), fun post h => br_f (by decide) (br_f (by decide) (br_f (by decide) (br_f (by decide) (br_f (by decide) (br_f (by decide) (br_f (by decide) (br_f (by decide) (br_t rfl h))))))))⟩
  · exact ⟨4, by decide, by decide, fun post h => br_f (by decide) (br_f (by decide) (br_f (by decide) (br_f (by decide) (br_f (by decide) (br_f (by decide) (br_f (by decide) (br_f (by decide) (br_f (by decide) (br_t rfl h))))))))), fun post h => br_f (by decide) (br_f (by decide) (br_f (by decide) (br_f (by decide) (br_f (by decide) (br_f (by decide) (br_f (by decide) (br_f (by decide) (br_f (by decide) (br_t rfl h)))))))))⟩
  · exact ⟨7, by decide, by decide, fun post h => br_f (by decide) (br_f (by decide) (br_f (by decide) (br_f (by decide) (br_f (by decide) (br_f (by decide) (br_f (by decide) (br_f (by decide) (br_f (by decide) (br_f (by decide) (br_t rfl h)))))))))), fun post h => br_f (by decide) (br_f (by decide) (br_f (by decide) (br_f (by decide) (br_f (by decide) (br_f (by decide) (br_f (by decide) (br_f (by decide) (br_f (by decide) (br_f (by decide) (br_t rfl h))))))))))⟩
  · exact ⟨2, by decide, by decide, fun post h => br_f (by decide) (br_f (by decide) (br_f (by decide) (br_f (by decide) (br_f (by decide) (br_f (by decide) (br_f (by decide) (br_f (by decide) (br_f (by decide) (br_f (by decide) (br_f (by decide) (br_t rfl h))))))))))), fun post h => br_f (by decide) (br_f (by decide) (br_f (by decide) (br_f (by decide) (br_f (by decide) (br_f (by decide) (br_f (by decide) (br_f (by decide) (br_f (by decide) (br_f (by decide) (br_f (by decide) (br_t rfl h)))))))))))⟩
  · exact ⟨2, by decide, by decide, fun post h => br_f (by decide) (br_f (by decide) (br_f (by decide) (br_f (by decide) (br_f (by decide) (br_f (by decide) (br_f (by decide) (br_f (by decide) (br_f (by decide) (br_f (by decide) (br_f (by decide) (br_f (by decide) (br_t rfl h)))))))))))), fun post h => br_f (by decide) (br_f (by decide) (br_f (by decide) (br_f (by decide) (br_f (by decide) (br_f (by decide) (br_f (by decide) (br_f (by decide) (br_f (by decide) (br_f (by decide) (br_f (by decide) (br_f (by decide) (br_t rfl h))))))))))))⟩
  · exact ⟨1, by decide, by decide, fun post h => br_f (by decide) (br_t (by decide) h), fun post h => br_f (by decide) (br_f (by decide) (br_f (by decide) (br_f (by decide) (br_f (by decide) (br_f (by decide) (br_f (by decide) (br_f (by decide) (br_f (by decide) (br_f (by decide) (br_f (by decide) (br_f (by decide) (br_f (by decide) (br_t rfl h)))))))))))))⟩
theorem ri_5 {v : Int32} (h : 0 ≤ v ∧ v ≤ 5) : ri_06 v := by
  obtain ⟨n, hn, rfl⟩ := ic_of 5 (by decide) h.1 h.2
  have c : n = 0 ∨ n = 1 ∨ n = 2 ∨ n = 3 ∨ n = 4 ∨ n = 5 := by omega
  rcases c with rfl | rfl | rfl | rfl | rfl | rfl
  · exact Or.inl rfl
  · exact Or.inr (Or.inl rfl)
  · exact Or.inr (Or.inr (Or.inl rfl))
  · exact Or.inr (Or.inr (Or.inr (Or.inl rfl)))
  · exact Or.inr (Or.inr (Or.inr (Or.inr (Or.inl rfl))))
  · exact Or.inr (Or.inr (Or.inr (Or.inr (Or.inr rfl))))
theorem ri_4 {v : Int32} (h : 0 ≤ v ∧ v ≤ 4) : v = 0 ∨ v = 1 ∨ v = 2 ∨ v = 3 ∨ v = 4 := by
  obtain ⟨n, hn, rfl⟩ := ic_of 4 (by decide) h.1 h.2
  have c : n = 0 ∨ n = 1 ∨ n = 2 ∨ n = 3 ∨ n = 4 := by omega
  rcases c with rfl | rfl | rfl | rfl | rfl
  · exact Or.inl rfl
  · exact Or.inr (Or.inl rfl)
  · exact Or.inr (Or.inr (Or.inl rfl))
  · exact Or.inr (Or.inr (Or.inr (Or.inl rfl)))
  · exact Or.inr (Or.inr (Or.inr (Or.inr rfl)))
theorem ri_setU {gs : Nat → Int32} (h : ri_set gs) {S : Nat} {v g : Int32} (h7 : S = 7 → g = 4) (h5 : 4 ≤ S → S ≤ 6 → g = 5) (hv : 0 ≤ v ∧ v ≤ g) : ri_set (upd gs S v) := by
  obtain ⟨a, b, c, d⟩ := h
  refine ⟨?_, ?_, ?_, ?_⟩
  · by_cases e : 7 = S
    · rw [← e, pk_us]
      exact ri_4 (by rw [← h7 e.symm]; exact hv)
    · rw [pk_un e]
      exact a
  · by_cases e : 4 = S
    · rw [← e, pk_us]
      exact ri_5 (by rw [← h5 (by omega) (by omega)]; exact hv)
    · rw [pk_un e]
      exact b
  · by_cases e : 5 = S
    · rw [← e, pk_us]
      exact ri_5 (by rw [← h5 (by omega) (by omega)]; exact hv)
    · rw [pk_un e]
      exact c
  · by_cases e : 6 = S
    · rw [← e, pk_us]
      exact ri_5 (by rw [← h5 (by omega) (by omega)]; exact hv)
    · rw [pk_un e]
      exact d
theorem i_vc_set {k : Nat} {u : SX} {v : SY} (I : i_Rel k u v) (hk : k + 6 ≤ 3072) (v1 : Int32) (v2 : Int32) : wpX_set (fun r u' => wpY_set (fun r' v' => r' = r ∧ i_Rel (k + 6) u' v') v v1 v2) u v1 v2 := by
  obtain ⟨ns, sl, st, sw, sh, KE, CA, CB, CC, FL, WA, WB, WC, VA, VB, VC, LA, ZZ, co, de, sn, tx, vx, vy, vz, vq, vv, gs, cn, so, sd, sa, sq, rx, re, gr, bl, pl, ry, rfl, rfl, R⟩ := I
  unfold wpX_set
  refine mx_btw (fun a => br_f n10 ?_) (fun a => br_t rfl ?_)
  · obtain ⟨S, hS, rfl⟩ := ic_of 11 (by decide) a.1 a.2
    obtain ⟨g, g7, g5, GX, GY⟩ := gm_ok hS
    have vs : vp_in (nI S) 12 := vp_in_nI (by omega) (by decide)
    have cs : (nI S).toNatClampNeg = S := nI_clamp (by omega)
    refine GX _ ?_
    refine mx_btw (fun b => br_f n10 ⟨vs, nm_r (e' := upd gs S v2) (by rw [cs]) ?_⟩) (fun b => br_t rfl ?_)
    · unfold wpY_set
      refine my_in (fun _ => br_f n10 ?_) (fun n => absurd a n)
      refine GY _ ?_
      refine my_in (fun _ => br_f n10 ⟨vs, nm_r (e' := upd gs S v2) (by rw [cs]) ⟨rfl, rel_mk ?_⟩⟩) (fun n => absurd b n)
      exact ⟨R.1, R.2.1, R.2.2.1, R.2.2.2.1, ri_setU R.2.2.2.2.1 g7 g5 b, R.2.2.2.2.2⟩
    · refine mx_refuse ⟨rfl, ?_⟩
      unfold wpY_set
      refine my_in (fun _ => br_f n10 ?_) (fun n => absurd a n)
      refine GY _ ?_
      exact my_in (fun c => absurd c b) (fun _ => br_t rfl (my_fails ⟨rfl, rfl, rel_mk R⟩))
  · refine mx_refuse ⟨rfl, ?_⟩
    unfold wpY_set
    exact my_in (fun c => absurd c a) (fun _ => br_t rfl (my_fails ⟨rfl, rfl, rel_mk R⟩))
section CL2
variable {NS SL ST SR SB KE CA CB CC FL WA WB WC : Int32} {co de sn tx vx vy vz vq vv gs cn so sd sa sq rx : Nat → Int32}
variable {LE TO WI HI VA VB VC LA ZZ : Int32} {re gr bl pl ry : Nat → Int32}
theorem mx_scissor {post : Int32 → SX → Prop} {x y w h : Int32} (T : ((0 : Int32) ≤ x ∧ x ≤ 24) ∧ ((0 : Int32) ≤ y ∧ y ≤ 16) ∧ ((0 : Int32) ≤ w ∧ w ≤ 24 - x) ∧ ((0 : Int32) ≤ h ∧ h ≤ 16 - y) → post 1 (NS, x, y, x + w, y + h, KE, CA, CB, CC, FL, WA, WB, WC, co, de, sn, tx, vx, vy, vz, vq, vv, gs, cn, so, sd, sa, sq, rx)) (F : ¬ (((0 : Int32) ≤ x ∧ x ≤ 24) ∧ ((0 : Int32) ≤ y ∧ y ≤ 16) ∧ ((0 : Int32) ≤ w ∧ w ≤ 24 - x) ∧ ((0 : Int32) ≤ h ∧ h ≤ 16 - y)) → post 0 (NS, SL, ST, SR, SB, ke_f KE 2, CA, CB, CC, FL, WA, WB, WC, co, de, sn, tx, vx, vy, vz, vq, vv, gs, cn, so, sd, sa, sq, rx)) : wpX_scissor post (NS, SL, ST, SR, SB, KE, CA, CB, CC, FL, WA, WB, WC, co, de, sn, tx, vx, vy, vz, vq, vv, gs, cn, so, sd, sa, sq, rx) x y w h := by
  have G : ¬ (((0 : Int32) ≤ x ∧ x ≤ 24) ∧ ((0 : Int32) ≤ y ∧ y ≤ 16) ∧ ((0 : Int32) ≤ w ∧ w ≤ 24 - x) ∧ ((0 : Int32) ≤ h ∧ h ≤ 16 - y)) → wX_scissor_45 post NS SL ST SR SB KE CA CB CC FL WA WB WC co de sn tx vx vy vz vq vv gs cn so sd sa sq rx := fun n => by
    unfold wX_scissor_45
    exact mx_refuse ⟨rfl, F n⟩
  unfold wpX_scissor
  refine mx_btw (fun a => br_f n10 ?_) (fun a => br_t rfl (G (fun z => a z.1)))
  refine mx_btw (fun b => br_f n10 ?_) (fun b => br_t rfl (G (fun z => b z.2.1)))
  refine mx_btw (fun c => br_f n10 ?_) (fun c => br_t rfl (G (fun z => c z.2.2.1)))
  refine mx_btw (fun d => br_f n10 ?_) (fun d => br_t rfl (G (fun z => d z.2.2.2)))
  exact nm_e (nm_e (T ⟨a, b, c, d⟩))
theorem my_scissor {post : Int32 → SY → Prop} {x y w h : Int32} (T : ((0 : Int32) ≤ x ∧ x ≤ 24) ∧ ((0 : Int32) ≤ y ∧ y ≤ 16) ∧ ((0 : Int32) ≤ w ∧ w ≤ 24 - x) ∧ ((0 : Int32) ≤ h ∧ h ≤ 16 - y) → post 1 (x, y, w, h, NS, KE, VA, VB, VC, LA, ZZ, re, gr, bl, de, sn, tx, pl, vv, gs, so, sd, sa, sq, cn, ry)) (F : ¬ (((0 : Int32) ≤ x ∧ x ≤ 24) ∧ ((0 : Int32) ≤ y ∧ y ≤ 16) ∧ ((0 : Int32) ≤ w ∧ w ≤ 24 - x) ∧ ((0 : Int32) ≤ h ∧ h ≤ 16 - y)) → post 0 (LE, TO, WI, HI, NS, ke_f KE 2, VA, VB, VC, LA, ZZ, re, gr, bl, de, sn, tx, pl, vv, gs, so, sd, sa, sq, cn, ry)) : wpY_scissor post (LE, TO, WI, HI, NS, KE, VA, VB, VC, LA, ZZ, re, gr, bl, de, sn, tx, pl, vv, gs, so, sd, sa, sq, cn, ry) x y w h := by
  have G : ¬ (((0 : Int32) ≤ x ∧ x ≤ 24) ∧ ((0 : Int32) ≤ y ∧ y ≤ 16) ∧ ((0 : Int32) ≤ w ∧ w ≤ 24 - x) ∧ ((0 : Int32) ≤ h ∧ h ≤ 16 - y)) → wY_scissor_45 post LE TO WI HI NS KE VA VB VC LA ZZ re gr bl de sn tx pl vv gs so sd sa sq cn ry := fun n => by
    unfold wY_scissor_45
    exact my_fails ⟨rfl, F n⟩
  unfold wpY_scissor
  refine my_in (fun a => br_f n10 ?_) (fun a => br_t rfl (G (fun z => a z.1)))
  refine my_in (fun b => br_f n10 ?_) (fun b => br_t rfl (G (fun z => b z.2.1)))
  refine my_in (fun c => br_f n10 ?_) (fun c => br_t rfl (G (fun z => c z.2.2.1)))
  refine my_in (fun d => br_f n10 ?_) (fun d => br_t rfl (G (fun z => d z.2.2.2)))
  exact T ⟨a, b, c, d⟩
/-! step -/
theorem mx_uD {post : Int32 → Prop} {o : Int32} (t : ¬ o = 9 → post 1) (f : o = 9 → post 0) : wpX_usesD post o := br_c f t
theorem mx_uA {post : Int32 → Prop} {o : Int32} (t : ¬ o = 8 → post 1) (f : o = 8 → post 0) : wpX_usesA post o := br_c f t
theorem mx_uB {post : Int32 → Prop} {o : Int32} (t : ¬ o = 0 → ¬ o = 8 → ¬ o = 9 → post 1) (f : (o = 0 ∨ o = 8 ∨ o = 9) → post 0) : wpX_usesB post o := br_c (fun a => f (Or.inl a)) (fun a => br_c (fun b => f (Or.inr (Or.inl b))) (fun b => br_c (fun c => f (Or.inr (Or.inr c))) (fun c => t a b c)))
theorem mx_st {post : Int32 → SX → Prop} {ns : Nat} {o d a b : Int32} (hns : ns ≤ 10) (F1 : ¬ ((0 : Int32) ≤ o ∧ o ≤ 9) → post (-1) (nI ns, SL, ST, SR, SB, ke_f KE 1, CA, CB, CC, FL, WA, WB, WC, co, de, sn, tx, vx, vy, vz, vq, vv, gs, cn, so, sd, sa, sq, rx)) (F2 : (0 : Int32) ≤ o ∧ o ≤ 9 → ¬ ((¬ o = 9 → (0 : Int32) ≤ d ∧ d ≤ 7) ∧ (¬ o = 8 → (0 : Int32) ≤ a ∧ a ≤ 7) ∧ (¬ o = 0 → ¬ o = 8 → ¬ o = 9 → (0 : Int32) ≤ b ∧ b ≤ 7)) → post (-1) (nI ns, SL, ST, SR, SB, ke_f KE 2, CA, CB, CC, FL, WA, WB, WC, co, de, sn, tx, vx, vy, vz, vq, vv, gs, cn, so, sd, sa, sq, rx)) (F3 : (0 : Int32) ≤ o ∧ o ≤ 9 → ((¬ o = 9 → (0 : Int32) ≤ d ∧ d ≤ 7) ∧ (¬ o = 8 → (0 : Int32) ≤ a ∧ a ≤ 7) ∧ (¬ o = 0 → ¬ o = 8 → ¬ o = 9 → (0 : Int32) ≤ b ∧ b ≤ 7)) → ns = 10 → post (-1) (nI ns, SL, ST, SR, SB, ke_f KE 3, CA, CB, CC, FL, WA, WB, WC, co, de, sn, tx, vx, vy, vz, vq, vv, gs, cn, so, sd, sa, sq, rx)) (T : (0 : Int32) ≤ o ∧ o ≤ 9 → ((¬ o = 9 → (0 : Int32) ≤ d ∧ d ≤ 7) ∧ (¬ o = 8 → (0 : Int32) ≤ a ∧ a ≤ 7) ∧ (¬ o = 0 → ¬ o = 8 → ¬ o = 9 → (0 : Int32) ≤ b ∧ b ≤ 7)) → ns < 10 → post (nI (ns + 1)) (nI (ns + 1), SL, ST, SR, SB, KE, CA, CB, CC, FL, WA, WB, WC, co, de, sn, tx, vx, vy, vz, vq, vv, gs, cn, upd so ns o, upd sd ns d, upd sa ns a, upd sq ns b, rx)) : wpX_step post (nI ns, SL, ST, SR, SB, KE, CA, CB, CC, FL, WA, WB, WC, co, de, sn, tx, vx, vy, vz, vq, vv, gs, cn, so, sd, sa, sq, rx) o d a b := by
  unfold wpX_step
  refine mx_btw (fun p => br_f n10 ?_) (fun p => br_t rfl ?_)
  · have G : ¬ ((¬ o = 9 → (0 : Int32) ≤ d ∧ d ≤ 7) ∧ (¬ o = 8 → (0 : Int32) ≤ a ∧ a ≤ 7) ∧ (¬ o = 0 → ¬ o = 8 → ¬ o = 9 → (0 : Int32) ≤ b ∧ b ≤ 7)) → wX_step_60 post (nI ns) SL ST SR SB KE CA CB CC FL WA WB WC co de sn tx vx vy vz vq vv gs cn so sd sa sq rx := fun n => by
      unfold wX_step_60
      exact mx_keep (F2 p n)
    have H67 : ((¬ o = 9 → (0 : Int32) ≤ d ∧ d ≤ 7) ∧ (¬ o = 8 → (0 : Int32) ≤ a ∧ a ≤ 7) ∧ (¬ o = 0 → ¬ o = 8 → ¬ o = 9 → (0 : Int32) ≤ b ∧ b ≤ 7)) → wX_step_67 post o d a b (nI ns) SL ST SR SB KE CA CB CC FL WA WB WC co de sn tx vx vy vz vq vv gs cn so sd sa sq rx := fun c => by
      by_cases q : ns < 10
      · have v : vp_in (nI ns) 10 := vp_in_nI q (by decide)
        have cl : (nI ns).toNatClampNeg = ns := nI_clamp (by omega)
        refine br_t (nI_lt (b := 10) q (by decide)) ⟨v, nm_r (e' := upd so ns o) (by rw [cl]) ⟨v, nm_r (e' := upd sd ns d) (by rw [cl]) ⟨v, nm_r (e' := upd sa ns a) (by rw [cl]) ⟨v, nm_r (e' := upd sq ns b) (by rw [cl]) (nm_r (nI_1 ns) ?_)⟩⟩⟩⟩
        exact T p c q
      · refine br_f (nI_nlt (b := 10) (by omega) (by omega)) ?_
        exact mx_keep (F3 p c (by omega))
    have H45 : (¬ o = 9 → (0 : Int32) ≤ d ∧ d ≤ 7) → (¬ o = 8 → (0 : Int32) ≤ a ∧ a ≤ 7) → wX_step_45 post o d a b (nI ns) SL ST SR SB KE CA CB CC FL WA WB WC co de sn tx vx vy vz vq vv gs cn so sd sa sq rx := fun c1 c2 => by
      unfold wX_step_45
      refine mx_uB (fun e1 e2 e3 => br_f n10 ?_) (fun e => br_t rfl (H67 ⟨c1, c2, fun e1 e2 e3 => absurd e (fun z => z.elim e1 (fun z => z.elim e2 e3))⟩))
      exact mx_isR (fun r => br_f n10 (H67 ⟨c1, c2, fun _ _ _ => r⟩)) (fun r => br_t rfl (G (fun z => r (z.2.2 e1 e2 e3))))
    have H31 : (¬ o = 9 → (0 : Int32) ≤ d ∧ d ≤ 7) → wX_step_31 post o d a b (nI ns) SL ST SR SB KE CA CB CC FL WA WB WC co de sn tx vx vy vz vq vv gs cn so sd sa sq rx := fun c1 => by
      unfold wX_step_31
      refine mx_uA (fun e => br_f n10 ?_) (fun e => br_t rfl (H45 c1 (fun z => absurd e z)))
      exact mx_isR (fun r => br_f n10 (H45 c1 (fun _ => r))) (fun r => br_t rfl (G (fun z => r (z.2.1 e))))
    refine mx_uD (fun e => br_f n10 ?_) (fun e => br_t rfl (H31 (fun z => absurd e z)))
    exact mx_isR (fun r => br_f n10 (H31 (fun _ => r))) (fun r => br_t rfl (G (fun z => r (z.1 e))))
  · exact mx_keep (F1 p)
theorem my_st {post : Int32 → SY → Prop} {ns : Nat} {o d a b : Int32} (hns : ns ≤ 10) (F1 : ¬ ((0 : Int32) ≤ o ∧ o ≤ 9) → post (-1) (LE, TO, WI, HI, nI ns, ke_f KE 1, VA, VB, VC, LA, ZZ, re, gr, bl, de, sn, tx, pl, vv, gs, so, sd, sa, sq, cn, ry)) (F2 : (0 : Int32) ≤ o ∧ o ≤ 9 → ¬ ((¬ o = 9 → (0 : Int32) ≤ d ∧ d ≤ 7) ∧ (¬ o = 8 → (0 : Int32) ≤ a ∧ a ≤ 7) ∧ (¬ o = 0 → ¬ o = 8 → ¬ o = 9 → (0 : Int32) ≤ b ∧ b ≤ 7)) → post (-1) (LE, TO, WI, HI, nI ns, ke_f KE 2, VA, VB, VC, LA, ZZ, re, gr, bl, de, sn, tx, pl, vv, gs, so, sd, sa, sq, cn, ry)) (F3 : (0 : Int32) ≤ o ∧ o ≤ 9 → ((¬ o = 9 → (0 : Int32) ≤ d ∧ d ≤ 7) ∧ (¬ o = 8 → (0 : Int32) ≤ a ∧ a ≤ 7) ∧ (¬ o = 0 → ¬ o = 8 → ¬ o = 9 → (0 : Int32) ≤ b ∧ b ≤ 7)) → ns = 10 → post (-1) (LE, TO, WI, HI, nI ns, ke_f KE 3, VA, VB, VC, LA, ZZ, re, gr, bl, de, sn, tx, pl, vv, gs, so, sd, sa, sq, cn, ry)) (T : (0 : Int32) ≤ o ∧ o ≤ 9 → ((¬ o = 9 → (0 : Int32) ≤ d ∧ d ≤ 7) ∧ (¬ o = 8 → (0 : Int32) ≤ a ∧ a ≤ 7) ∧ (¬ o = 0 → ¬ o = 8 → ¬ o = 9 → (0 : Int32) ≤ b ∧ b ≤ 7)) → ns < 10 → post (nI (ns + 1)) (LE, TO, WI, HI, nI (ns + 1), KE, VA, VB, VC, LA, ZZ, re, gr, bl, de, sn, tx, pl, vv, gs, upd so ns o, upd sd ns d, upd sa ns a, upd sq ns b, cn, ry)) : wpY_step post (LE, TO, WI, HI, nI ns, KE, VA, VB, VC, LA, ZZ, re, gr, bl, de, sn, tx, pl, vv, gs, so, sd, sa, sq, cn, ry) o d a b := by
  unfold wpY_step
  refine my_in (fun p => br_f n10 ?_) (fun p => br_t rfl ?_)
  · have G : ¬ ((¬ o = 9 → (0 : Int32) ≤ d ∧ d ≤ 7) ∧ (¬ o = 8 → (0 : Int32) ≤ a ∧ a ≤ 7) ∧ (¬ o = 0 → ¬ o = 8 → ¬ o = 9 → (0 : Int32) ≤ b ∧ b ≤ 7)) → wY_step_69 post LE TO WI HI (nI ns) KE VA VB VC LA ZZ re gr bl de sn tx pl vv gs so sd sa sq cn ry := fun n => by
      unfold wY_step_69
      exact my_none (F2 p n)
    have H75 : ((¬ o = 9 → (0 : Int32) ≤ d ∧ d ≤ 7) ∧ (¬ o = 8 → (0 : Int32) ≤ a ∧ a ≤ 7) ∧ (¬ o = 0 → ¬ o = 8 → ¬ o = 9 → (0 : Int32) ≤ b ∧ b ≤ 7)) → wY_step_75 post o d a b LE TO WI HI (nI ns) KE VA VB VC LA ZZ re gr bl de sn tx pl vv gs so sd sa sq cn ry := fun c => by
      by_cases q : ns < 10
      · have v : vp_in (nI ns) 10 := vp_in_nI q (by decide)
        have cl : (nI ns).toNatClampNeg = ns := nI_clamp (by omega)
        have e10 : ¬ nI ns = 10 := fun z => by
          have := (nI_eq (a := ns) (b := 10) (by omega) (by decide)).mp z
          omega
        refine br_f e10 ⟨v, nm_r (e' := upd so ns o) (by rw [cl]) ⟨v, nm_r (e' := upd sd ns d) (by rw [cl]) ⟨v, nm_r (e' := upd sa ns a) (by rw [cl]) ⟨v, nm_r (e' := upd sq ns b) (by rw [cl]) (nm_r (nI_1 ns) ?_)⟩⟩⟩⟩
        exact T p c q
      · have e : ns = 10 := by omega
        refine br_t (by rw [e]; rfl) ?_
        exact my_none (F3 p c e)
    have H48 : (¬ o = 9 → (0 : Int32) ≤ d ∧ d ≤ 7) → (¬ o = 8 → (0 : Int32) ≤ a ∧ a ≤ 7) → wY_step_48 post o d a b LE TO WI HI (nI ns) KE VA VB VC LA ZZ re gr bl de sn tx pl vv gs so sd sa sq cn ry := fun c1 c2 => by
      refine br_c (fun e => H75 ⟨c1, c2, fun e1 e2 e3 => absurd (Int32.le_antisymm e p.1) e1⟩) (fun e => br_c (fun f => H75 ⟨c1, c2, fun e1 e2 e3 => ?_⟩) (fun f => ?_))
      · obtain ⟨n, hn, rfl⟩ := ic_of 9 (by decide) p.1 p.2
        have f' : 8 ≤ n := (nI_leI (a := 8) (b := n) (by decide) (by omega)).mp f
        have c : n = 8 ∨ n = 9 := by omega
        rcases c with rfl | rfl
        · exact absurd rfl e2
        · exact absurd rfl e3
      · have e1 : ¬ o = 0 := fun z => e (by rw [z]; decide)
        have e2 : ¬ o = 8 := fun z => f (by rw [z]; decide)
        have e3 : ¬ o = 9 := fun z => f (by rw [z]; decide)
        exact my_in (fun r => br_f n10 (H75 ⟨c1, c2, fun _ _ _ => r⟩)) (fun r => br_t rfl (G (fun z => r (z.2.2 e1 e2 e3))))
    have H32 : (¬ o = 9 → (0 : Int32) ≤ d ∧ d ≤ 7) → wY_step_32 post o d a b LE TO WI HI (nI ns) KE VA VB VC LA ZZ re gr bl de sn tx pl vv gs so sd sa sq cn ry := fun c1 => by
      refine br_c (fun e => H48 c1 (fun z => absurd e z)) (fun e => ?_)
      exact my_in (fun r => br_f n10 (H48 c1 (fun _ => r))) (fun r => br_t rfl (G (fun z => r (z.2.1 e))))
    refine br_c (fun e => H32 (fun z => absurd e z)) (fun e => ?_)
    exact my_in (fun r => br_f n10 (H32 (fun _ => r))) (fun r => br_t rfl (G (fun z => r (z.1 e))))
  · exact my_none (F1 p)
theorem st_one {o d a b : Int32} (p : (0 : Int32) ≤ o ∧ o ≤ 9) (c : (¬ o = 9 → (0 : Int32) ≤ d ∧ d ≤ 7) ∧ (¬ o = 8 → (0 : Int32) ≤ a ∧ a ≤ 7) ∧ (¬ o = 0 → ¬ o = 8 → ¬ o = 9 → (0 : Int32) ≤ b ∧ b ≤ 7)) : ri_one o d a b := by
  have w : ∀ x : Int32, (0 : Int32) ≤ x ∧ x ≤ 7 → ∃ n : Nat, n < 8 ∧ x = nI n := fun x h => by
    obtain ⟨n, hn, e⟩ := ic_of 7 (by decide) h.1 h.2
    exact ⟨n, by omega, e⟩
  obtain ⟨n, hn, e⟩ := ic_of 9 (by decide) p.1 p.2
  exact ⟨⟨n, by omega, e⟩, fun z => w _ (c.1 z), fun z => w _ (c.2.1 z), fun z1 z2 z3 => w _ (c.2.2 z1 z2 z3)⟩
end CL2
theorem i_vc_scissor {k : Nat} {u : SX} {v : SY} (I : i_Rel k u v) (hk : k + 6 ≤ 3072) (v1 : Int32) (v2 : Int32) (v3 : Int32) (v4 : Int32) : wpX_scissor (fun r u' => wpY_scissor (fun r' v' => r' = r ∧ i_Rel (k + 6) u' v') v v1 v2 v3 v4) u v1 v2 v3 v4 := by
  obtain ⟨ns, sl, st, sw, sh, KE, CA, CB, CC, FL, WA, WB, WC, VA, VB, VC, LA, ZZ, co, de, sn, tx, vx, vy, vz, vq, vv, gs, cn, so, sd, sa, sq, rx, re, gr, bl, pl, ry, rfl, rfl, R⟩ := I
  refine mx_scissor (fun C => my_scissor (fun _ => ⟨rfl, ?_⟩) (fun n => absurd C n)) (fun n => my_scissor (fun C => absurd C n) (fun _ => ⟨rfl, rel_mk R⟩))
  obtain ⟨X, hX, rfl⟩ := ic_of 24 (by decide) C.1.1 C.1.2
  obtain ⟨Y, hY, rfl⟩ := ic_of 16 (by decide) C.2.1.1 C.2.1.2
  have e1 : (24 : Int32) - nI X = nI (24 - X) := pk_sub (a := 24) hX
  have e2 : (16 : Int32) - nI Y = nI (16 - Y) := pk_sub (a := 16) hY
  obtain ⟨W', hW, rfl⟩ := ic_of (24 - X) (by rw [e1]; exact nI_toInt (by omega)) C.2.2.1.1 C.2.2.1.2
  obtain ⟨H', hH, rfl⟩ := ic_of (16 - Y) (by rw [e2]; exact nI_toInt (by omega)) C.2.2.2.1 C.2.2.2.2
  rw [nI_add, nI_add]
  exact rel_mk ⟨⟨R.1.1, by omega, by omega⟩, R.2⟩
theorem i_vc_step {k : Nat} {u : SX} {v : SY} (I : i_Rel k u v) (hk : k + 6 ≤ 3072) (v1 : Int32) (v2 : Int32) (v3 : Int32) (v4 : Int32) : wpX_step (fun r u' => wpY_step (fun r' v' => r' = r ∧ i_Rel (k + 6) u' v') v v1 v2 v3 v4) u v1 v2 v3 v4 := by
  obtain ⟨ns, sl, st, sw, sh, KE, CA, CB, CC, FL, WA, WB, WC, VA, VB, VC, LA, ZZ, co, de, sn, tx, vx, vy, vz, vq, vv, gs, cn, so, sd, sa, sq, rx, re, gr, bl, pl, ry, rfl, rfl, R⟩ := I
  refine mx_st R.1.1 (fun n => my_st R.1.1 (fun _ => ⟨rfl, rel_mk R⟩) (fun p => absurd p n) (fun p => absurd p n) (fun p => absurd p n)) (fun p n => my_st R.1.1 (fun m => absurd p m) (fun _ _ => ⟨rfl, rel_mk R⟩) (fun _ c => absurd c n) (fun _ c => absurd c n)) (fun p c e => my_st R.1.1 (fun m => absurd p m) (fun _ n => absurd c n) (fun _ _ _ => ⟨rfl, rel_mk R⟩) (fun _ _ l => absurd l (by omega))) (fun p c l => my_st R.1.1 (fun m => absurd p m) (fun _ n => absurd c n) (fun _ _ e => absurd l (by omega)) (fun _ _ _ => ⟨rfl, rel_mk ?_⟩))
  exact ⟨⟨by omega, R.1.2⟩, R.2.1, R.2.2.1, R.2.2.2.1, R.2.2.2.2.1, ri_stpU R.2.2.2.2.2 (st_one p c)⟩
theorem i_vc_keep {k : Nat} {u : SX} {v : SY} (I : i_Rel k u v) (hk : k + 6 ≤ 3072) (v1 : Int32) : wpX_keep (fun r u' => wpY_keep (fun r' v' => r' = r ∧ i_Rel (k + 6) u' v') v v1) u v1 := by
  obtain ⟨ns, sl, st, sw, sh, KE, CA, CB, CC, FL, WA, WB, WC, VA, VB, VC, LA, ZZ, co, de, sn, tx, vx, vy, vz, vq, vv, gs, cn, so, sd, sa, sq, rx, re, gr, bl, pl, ry, rfl, rfl, R⟩ := I
  have h10 := R.1.1
  unfold wpX_keep
  refine mx_btw (fun a => br_f n10 ?_) (fun a => br_t rfl ?_)
  · unfold wpY_keep
    refine my_in (fun _ => br_f n10 ⟨rfl, ?_⟩) (fun n => absurd a n)
    obtain ⟨n, hn, rfl⟩ := ic_of ns (nI_toInt (by omega)) a.1 a.2
    exact rel_mk ⟨⟨by omega, R.1.2⟩, R.2.1, R.2.2.1, R.2.2.2.1, R.2.2.2.2.1, ri_stpK R.2.2.2.2.2 hn⟩
  · refine mx_refuse ⟨rfl, ?_⟩
    unfold wpY_keep
    exact my_in (fun c => absurd c a) (fun _ => br_t rfl (my_fails ⟨rfl, rfl, rel_mk R⟩))
theorem i_vc_pixel {k : Nat} {u : SX} {v : SY} (I : i_Rel k u v) (hk : k + 6 ≤ 3072) (v1 : Int32) (v2 : Int32) : wpX_pixel (fun r => wpY_pixel (fun r' => r' = r ∧ i_Rel (k + 6) u v) v v1 v2) u v1 v2 := by
  obtain ⟨ns, sl, st, sw, sh, KE, CA, CB, CC, FL, WA, WB, WC, VA, VB, VC, LA, ZZ, co, de, sn, tx, vx, vy, vz, vq, vv, gs, cn, so, sd, sa, sq, rx, re, gr, bl, pl, ry, rfl, rfl, R⟩ := I
  unfold wpX_pixel
  refine mx_isS (fun a => br_f n10 ?_) (fun a => br_t rfl ?_)
  · obtain ⟨X, hX, rfl⟩ := ic_of 23 (by decide) a.1.1 a.1.2
    obtain ⟨Y, hY, rfl⟩ := ic_of 15 (by decide) a.2.1 a.2.2
    obtain ⟨vx1, cx1⟩ := ix_p (x := nI Y * 24 + nI X) (n := 24 * Y + X) 384 ((ix_a (pk_mul Y 24) X rfl).trans (congrArg nI (by omega))) (by omega) (by decide)
    have ey : (24 : Int32) * nI Y + nI X = nI (24 * Y + X) := ix_a (pk_mul 24 Y) X rfl
    obtain ⟨vy1, cy1⟩ := ix_p (x := nI (24 * Y + X)) 384 rfl (by omega) (by decide)
    refine ⟨vx1, ?_⟩
    unfold wpY_pixel
    refine my_in (fun _ => br_f n10 ?_) (fun n => absurd a.1 n)
    refine my_in (fun _ => br_f n10 ?_) (fun n => absurd a.2 n)
    obtain ⟨r, g, b, hr, hg, hb, er, eg, eb, ec⟩ := R.2.1 (24 * Y + X) (by omega)
    refine nm_r ey ⟨vy1, vy1, vy1, ?_, rel_mk R⟩
    rw [cx1, cy1, er, eg, eb, ec]
    exact cp_join hr hg hb
  · unfold wpY_pixel
    refine my_in (fun p => br_f n10 ?_) (fun p => br_t rfl ⟨rfl, rel_mk R⟩)
    exact my_in (fun q => absurd ⟨p, q⟩ a) (fun q => br_t rfl ⟨rfl, rel_mk R⟩)
theorem i_vc_at {k : Nat} {u : SX} {v : SY} (I : i_Rel k u v) (hk : k + 6 ≤ 3072) (v1 : Int32) (v2 : Int32) (v3 : Int32) : wpX_at (fun r => wpY_at (fun r' => r' = r ∧ i_Rel (k + 6) u v) v v1 v2 v3) u v1 v2 v3 := by
  obtain ⟨ns, sl, st, sw, sh, KE, CA, CB, CC, FL, WA, WB, WC, VA, VB, VC, LA, ZZ, co, de, sn, tx, vx, vy, vz, vq, vv, gs, cn, so, sd, sa, sq, rx, re, gr, bl, pl, ry, rfl, rfl, R⟩ := I
  unfold wpX_at
  refine mx_isS (fun a => br_f n10 ?_) (fun a => br_t rfl ?_)
  · obtain ⟨X, hX, rfl⟩ := ic_of 23 (by decide) a.1.1 a.1.2
    obtain ⟨Y, hY, rfl⟩ := ic_of 15 (by decide) a.2.1 a.2.2
    have ex : nI Y * 24 + nI X = nI (24 * Y + X) := (ix_a (pk_mul Y 24) X rfl).trans (congrArg nI (by omega))
    have ey : (24 : Int32) * nI Y + nI X = nI (24 * Y + X) := ix_a (pk_mul 24 Y) X rfl
    obtain ⟨vy1, cy1⟩ := ix_p (x := nI (24 * Y + X)) 384 rfl (by omega) (by decide)
    obtain ⟨vz1, cz1⟩ := ix_p (x := 24 * nI Y + nI X) 384 ey (by omega) (by decide)
    refine nm_r ex (br_c (fun e => ⟨vy1, ?_⟩) (fun e => br_c (fun f => ⟨vy1, ?_⟩) (fun f => ?_)))
    · unfold wpY_at
      refine my_in (fun _ => br_f n10 ?_) (fun n => absurd a.1 n)
      refine my_in (fun _ => br_f n10 ?_) (fun n => absurd a.2 n)
      refine my_in (fun _ => br_f n10 ?_) (fun n => absurd (by rw [e]; decide) n)
      exact br_t e ⟨vz1, by rw [cz1, cy1], rel_mk R⟩
    · unfold wpY_at
      refine my_in (fun _ => br_f n10 ?_) (fun n => absurd a.1 n)
      refine my_in (fun _ => br_f n10 ?_) (fun n => absurd a.2 n)
      refine my_in (fun _ => br_f n10 ?_) (fun n => absurd (by rw [f]; decide) n)
      exact br_f e ⟨vz1, by rw [cz1, cy1], rel_mk R⟩
    · unfold wpY_at
      refine my_in (fun _ => br_f n10 ?_) (fun n => absurd a.1 n)
      refine my_in (fun _ => br_f n10 ?_) (fun n => absurd a.2 n)
      refine my_in (fun w => absurd w (fun w => ?_)) (fun n => br_t rfl ⟨rfl, rel_mk R⟩)
      obtain ⟨n, hn, rfl⟩ := ic_of 1 (by decide) w.1 w.2
      have c : n = 0 ∨ n = 1 := by omega
      rcases c with rfl | rfl
      · exact e rfl
      · exact f rfl
  · unfold wpY_at
    refine my_in (fun p => br_f n10 ?_) (fun p => br_t rfl ⟨rfl, rel_mk R⟩)
    exact my_in (fun q => absurd ⟨p, q⟩ a) (fun q => br_t rfl ⟨rfl, rel_mk R⟩)
theorem i_vc_error {k : Nat} {u : SX} {v : SY} (I : i_Rel k u v) (hk : k + 6 ≤ 3072) : wpX_error (fun r u' => wpY_error (fun r' v' => r' = r ∧ i_Rel (k + 6) u' v') v) u := by
  obtain ⟨ns, sl, st, sw, sh, KE, CA, CB, CC, FL, WA, WB, WC, VA, VB, VC, LA, ZZ, co, de, sn, tx, vx, vy, vz, vq, vv, gs, cn, so, sd, sa, sq, rx, re, gr, bl, pl, ry, rfl, rfl, R⟩ := I
  exact ⟨rfl, rel_mk R⟩
theorem i_vc_count {k : Nat} {u : SX} {v : SY} (I : i_Rel k u v) (hk : k + 6 ≤ 3072) (v1 : Int32) : wpX_count (fun r => wpY_count (fun r' => r' = r ∧ i_Rel (k + 6) u v) v v1) u v1 := by
  obtain ⟨ns, sl, st, sw, sh, KE, CA, CB, CC, FL, WA, WB, WC, VA, VB, VC, LA, ZZ, co, de, sn, tx, vx, vy, vz, vq, vv, gs, cn, so, sd, sa, sq, rx, re, gr, bl, pl, ry, rfl, rfl, R⟩ := I
  unfold wpX_count
  refine mx_btw (fun a => br_f n10 ?_) (fun a => br_t rfl ?_)
  · have v : vp_in v1 6 := ic_in (n := 5) (by decide) a (by decide)
    refine ⟨v, ?_⟩
    unfold wpY_count
    exact my_in (fun _ => br_f n10 ⟨v, rfl, rel_mk R⟩) (fun n => absurd a n)
  · unfold wpY_count
    exact my_in (fun c => absurd c a) (fun _ => br_t rfl ⟨rfl, rel_mk R⟩)
end
section
/-! clear -/
section CLR
variable {NS SL ST SR SB KE CA CB CC FL WA WB WC : Int32} {co de sn tx vx vy vz vq vv gs cn so sd sa sq rx : Nat → Int32}
variable {LE TO WI HI VA VB VC LA ZZ : Int32} {re gr bl pl ry : Nat → Int32}
theorem my_k184 {post : Int32 → SY → Prop} {J56 J75 : _} {what v y i : Int32} {x : Nat} (e : what = 0) (h : J75 (nI (x + 1)) re gr bl de sn tx pl vv gs so sd sa sq cn ry) : wY_clear_184 post J56 J75 what v y (nI x) i LE TO WI HI NS KE VA VB VC LA ZZ re gr bl de sn tx pl vv gs so sd sa sq cn ry :=
  br_f (fun z => absurd (e.symm.trans z) (by decide)) (br_f (fun z => absurd (e.symm.trans z) (by decide)) (nm_r (nI_1 x) h))
theorem my_k156 {post : Int32 → SY → Prop} {J56 J75 : _} {what v y i : Int32} {x : Nat} (vi : vp_in i 384) (e : what = 0) (h : J75 (nI (x + 1)) re gr (if wm_s (gs 8) then upd bl i.toNatClampNeg (v &&& 255) else bl) de sn tx pl vv gs so sd sa sq cn ry) : wY_clear_156 post J56 J75 what v y (nI x) i LE TO WI HI NS KE VA VB VC LA ZZ re gr bl de sn tx pl vv gs so sd sa sq cn ry := by
  by_cases a : (gs 8 &&& 4) = 0
  · rw [wm_s0 a, if_neg bz_f] at h
    exact br_t e (br_t a (my_k184 e h))
  · rw [wm_s1 a, if_pos rfl] at h
    exact br_t e (br_f a ⟨vi, nm_e (my_k184 e h)⟩)
theorem my_k125 {post : Int32 → SY → Prop} {J56 J75 : _} {what v y i : Int32} {x : Nat} (vi : vp_in i 384) (e : what = 0) (h : J75 (nI (x + 1)) re (if wm_q (gs 8) then upd gr i.toNatClampNeg ((v >>> ((8 : Int32) &&& 31)) &&& 255) else gr) (if wm_s (gs 8) then upd bl i.toNatClampNeg (v &&& 255) else bl) de sn tx pl vv gs so sd sa sq cn ry) : wY_clear_125 post J56 J75 what v y (nI x) i LE TO WI HI NS KE VA VB VC LA ZZ re gr bl de sn tx pl vv gs so sd sa sq cn ry := by
  by_cases a : (gs 8 &&& 2) = 0
  · rw [wm_q0 a, if_neg bz_f] at h
    exact br_t e (br_t a (my_k156 vi e h))
  · rw [wm_q1 a, if_pos rfl] at h
    exact br_t e (br_f a ⟨vi, nm_e (my_k156 vi e h)⟩)
theorem cq_sim {ns sl st sw sh x y : Nat} {what v : Int32} (hw : (what = 0 ∧ ∃ r g b : Nat, r < 256 ∧ g < 256 ∧ b < 256 ∧ v = cp_pk r g b) ∨ what = 1 ∨ what = 2) (hc : ri_col co re gr bl) (hs : sl + sw ≤ 24) (hx : x < sl + sw) (hy : y < 16) : ∃ (co' de' sn' re' gr' bl' : Nat → Int32), ri_col co' re' gr' bl'
    ∧ (∀ (post : Int32 → SX → Prop) (J : _) (n : Nat), wX_clear_56 post J what v (nI y) n (nI (x + 1)) (nI ns) (nI sl) (nI st) (nI (sl + sw)) (nI (st + sh)) KE CA CB CC FL WA WB WC co' de' sn' tx vx vy vz vq vv gs cn so sd sa sq rx → wX_clear_56 post J what v (nI y) (n + 1) (nI x) (nI ns) (nI sl) (nI st) (nI (sl + sw)) (nI (st + sh)) KE CA CB CC FL WA WB WC co de sn tx vx vy vz vq vv gs cn so sd sa sq rx)
    ∧ (∀ (post : Int32 → SY → Prop) (J : _) (n : Nat), wY_clear_75 post J what v (nI y) (nI sl) (nI st) (nI sw) (nI sh) (nI ns) KE VA VB VC LA ZZ n (nI (x + 1)) re' gr' bl' de' sn' tx pl vv gs so sd sa sq cn ry → wY_clear_75 post J what v (nI y) (nI sl) (nI st) (nI sw) (nI sh) (nI ns) KE VA VB VC LA ZZ (n + 1) (nI x) re gr bl de sn tx pl vv gs so sd sa sq cn ry) := by
  have vi : vp_in (nI (24 * y + x)) 384 := vp_in_nI (by omega) (by decide)
  have ex : nI y * 24 + nI x = nI (24 * y + x) := (ix_a (pk_mul y 24) x rfl).trans (congrArg nI (by omega))
  have ey : (24 : Int32) * nI y + nI x = nI (24 * y + x) := ix_a (pk_mul 24 y) x rfl
  have gx : ¬ nI (sl + sw) ≤ nI x := nI_ge hx (by omega)
  have gy : ¬ nI sl + nI sw ≤ nI x := by rw [nI_add]; exact gx
  rcases hw with ⟨e, r, g, b, hr, hg, hb, rfl⟩ | e | e
  · refine ⟨upd co (nI (24 * y + x)).toNatClampNeg (wm_f (gs 8) (co (nI (24 * y + x)).toNatClampNeg) (cp_pk r g b)), de, sn, (if wm_p (gs 8) then upd re (nI (24 * y + x)).toNatClampNeg (nI r) else re), (if wm_q (gs 8) then upd gr (nI (24 * y + x)).toNatClampNeg (nI g) else gr), (if wm_s (gs 8) then upd bl (nI (24 * y + x)).toNatClampNeg (nI b) else bl), ri_colW hc hr hg hb (gs 8), fun post J n h => ?_, fun post J n h => ?_⟩
    · rw [wX_clear_56]
      refine br_f gx ?_
      rw [ex]
      exact br_t e (mx_wcol vi (nm_r (nI_1 x) h))
    · rw [wY_clear_75]
      refine br_f gy (nm_r ey (br_t e ?_))
      rw [← cp_g hr hg hb, ← cp_b hr hg hb, ← cp_r hr hg hb] at h
      by_cases a : (gs 8 &&& 1) = 0
      · rw [wm_p0 a, if_neg bz_f] at h
        exact br_t a (my_k125 vi e h)
      · rw [wm_p1 a, if_pos rfl] at h
        exact br_f a ⟨vi, nm_e (my_k125 vi e h)⟩
  · have e0 : ¬ what = 0 := fun z => absurd (e.symm.trans z) (by decide)
    have e2 : ¬ what = 2 := fun z => absurd (e.symm.trans z) (by decide)
    refine ⟨co, (if gs 1 = 1 then upd de (nI (24 * y + x)).toNatClampNeg v else de), sn, re, gr, bl, hc, fun post J n h => ?_, fun post J n h => ?_⟩
    · rw [wX_clear_56]
      refine br_f gx ?_
      rw [ex]
      exact br_f e0 (br_t e (mx_wdep vi (nm_r (nI_1 x) h)))
    · rw [wY_clear_75]
      refine br_f gy (nm_r ey (br_f e0 (br_f e0 (br_f e0 (br_t e ?_)))))
      by_cases a : gs 1 = 1
      · rw [if_pos a] at h
        exact br_t a ⟨vi, nm_e (br_f e2 (nm_r (nI_1 x) h))⟩
      · rw [if_neg a] at h
        exact br_f a (br_f e2 (nm_r (nI_1 x) h))
  · have e0 : ¬ what = 0 := fun z => absurd (e.symm.trans z) (by decide)
    have e1 : ¬ what = 1 := fun z => absurd (e.symm.trans z) (by decide)
    refine ⟨co, de, upd sn (nI (24 * y + x)).toNatClampNeg v, re, gr, bl, hc, fun post J n h => ?_, fun post J n h => ?_⟩
    · rw [wX_clear_56]
      refine br_f gx ?_
      rw [ex]
      exact br_f e0 (br_f e1 ⟨vi, nm_e (nm_r (nI_1 x) h)⟩)
    · rw [wY_clear_75]
      exact br_f gy (nm_r ey (br_f e0 (br_f e0 (br_f e0 (br_f e1 (br_t e ⟨vi, nm_e (nm_r (nI_1 x) h)⟩))))))
theorem cr_sim {ns sl st sw sh y : Nat} {what v : Int32} (hw : (what = 0 ∧ ∃ r g b : Nat, r < 256 ∧ g < 256 ∧ b < 256 ∧ v = cp_pk r g b) ∨ what = 1 ∨ what = 2) (hs : sl + sw ≤ 24) (hy : y < 16) : ∀ (m x : Nat) (co de sn re gr bl : Nat → Int32), ri_col co re gr bl → x + m = sl + sw → ∃ (co' de' sn' re' gr' bl' : Nat → Int32), ri_col co' re' gr' bl'
    ∧ (∀ (post : Int32 → SX → Prop) (J : _) (n : Nat), m < n → J (nI (y + 1)) (nI ns) (nI sl) (nI st) (nI (sl + sw)) (nI (st + sh)) KE CA CB CC FL WA WB WC co' de' sn' tx vx vy vz vq vv gs cn so sd sa sq rx → wX_clear_56 post J what v (nI y) n (nI x) (nI ns) (nI sl) (nI st) (nI (sl + sw)) (nI (st + sh)) KE CA CB CC FL WA WB WC co de sn tx vx vy vz vq vv gs cn so sd sa sq rx)
    ∧ (∀ (post : Int32 → SY → Prop) (J : _) (n : Nat), m < n → J (nI (y + 1)) re' gr' bl' de' sn' tx pl vv gs so sd sa sq cn ry → wY_clear_75 post J what v (nI y) (nI sl) (nI st) (nI sw) (nI sh) (nI ns) KE VA VB VC LA ZZ n (nI x) re gr bl de sn tx pl vv gs so sd sa sq cn ry) := by
  intro m
  induction m with
  | zero =>
    intro x co de sn re gr bl hc hx
    refine ⟨co, de, sn, re, gr, bl, hc, fun post J n hn h => ?_, fun post J n hn h => ?_⟩
    · obtain ⟨n, rfl⟩ : ∃ m, n = m + 1 := ⟨n - 1, by omega⟩
      rw [wX_clear_56]
      exact br_t (nI_le (by omega) (by omega)) (nm_r (nI_1 y) h)
    · obtain ⟨n, rfl⟩ : ∃ m, n = m + 1 := ⟨n - 1, by omega⟩
      rw [wY_clear_75]
      exact br_t (by rw [nI_add]; exact nI_le (by omega) (by omega)) (nm_r (nI_1 y) h)
  | succ m ih =>
    intro x co de sn re gr bl hc hx
    obtain ⟨co1, de1, sn1, re1, gr1, bl1, hc1, HX1, HY1⟩ := cq_sim (KE := KE) (CA := CA) (CB := CB) (CC := CC) (FL := FL) (WA := WA) (WB := WB) (WC := WC) (co := co) (de := de) (sn := sn) (tx := tx) (vx := vx) (vy := vy) (vz := vz) (vq := vq) (vv := vv) (gs := gs) (cn := cn) (so := so) (sd := sd) (sa := sa) (sq := sq) (rx := rx) (VA := VA) (VB := VB) (VC := VC) (LA := LA) (ZZ := ZZ) (re := re) (gr := gr) (bl := bl) (pl := pl) (ry := ry) (ns := ns) (sh := sh) (st := st) hw hc hs (x := x) (by omega) hy
    obtain ⟨co', de', sn', re', gr', bl', hc', HX, HY⟩ := ih (x + 1) co1 de1 sn1 re1 gr1 bl1 hc1 (by omega)
    refine ⟨co', de', sn', re', gr', bl', hc', fun post J n hn h => ?_, fun post J n hn h => ?_⟩
    · obtain ⟨n, rfl⟩ : ∃ m, n = m + 1 := ⟨n - 1, by omega⟩
      exact HX1 post J n (HX post J n (by omega) h)
    · obtain ⟨n, rfl⟩ : ∃ m, n = m + 1 := ⟨n - 1, by omega⟩
      exact HY1 post J n (HY post J n (by omega) h)
theorem cc_sim {ns sl st sw sh : Nat} {what v : Int32} (hw : (what = 0 ∧ ∃ r g b : Nat, r < 256 ∧ g < 256 ∧ b < 256 ∧ v = cp_pk r g b) ∨ what = 1 ∨ what = 2) (hs : sl + sw ≤ 24) (ht : st + sh ≤ 16) : ∀ (m y : Nat) (co de sn re gr bl : Nat → Int32), ri_col co re gr bl → y + m = st + sh → ∃ (co' de' sn' re' gr' bl' : Nat → Int32), ri_col co' re' gr' bl'
    ∧ (∀ (post : Int32 → SX → Prop) (n : Nat), m < n → post 1 (nI ns, nI sl, nI st, nI (sl + sw), nI (st + sh), KE, CA, CB, CC, FL, WA, WB, WC, co', de', sn', tx, vx, vy, vz, vq, vv, gs, cn, so, sd, sa, sq, rx) → wX_clear_41 post what v n (nI y) (nI ns) (nI sl) (nI st) (nI (sl + sw)) (nI (st + sh)) KE CA CB CC FL WA WB WC co de sn tx vx vy vz vq vv gs cn so sd sa sq rx)
    ∧ (∀ (post : Int32 → SY → Prop) (n : Nat), m < n → post 1 (nI sl, nI st, nI sw, nI sh, nI ns, KE, VA, VB, VC, LA, ZZ, re', gr', bl', de', sn', tx, pl, vv, gs, so, sd, sa, sq, cn, ry) → wY_clear_56 post what v (nI sl) (nI st) (nI sw) (nI sh) (nI ns) KE VA VB VC LA ZZ n (nI y) re gr bl de sn tx pl vv gs so sd sa sq cn ry) := by
  intro m
  induction m with
  | zero =>
    intro y co de sn re gr bl hc hy
    refine ⟨co, de, sn, re, gr, bl, hc, fun post n hn h => ?_, fun post n hn h => ?_⟩
    · obtain ⟨n, rfl⟩ : ∃ m, n = m + 1 := ⟨n - 1, by omega⟩
      rw [wX_clear_41]
      exact br_t (nI_le (by omega) (by omega)) h
    · obtain ⟨n, rfl⟩ : ∃ m, n = m + 1 := ⟨n - 1, by omega⟩
      rw [wY_clear_56]
      exact br_t (by rw [nI_add]; exact nI_le (by omega) (by omega)) h
  | succ m ih =>
    intro y co de sn re gr bl hc hy
    obtain ⟨co1, de1, sn1, re1, gr1, bl1, hc1, HX1, HY1⟩ := cr_sim (KE := KE) (CA := CA) (CB := CB) (CC := CC) (FL := FL) (WA := WA) (WB := WB) (WC := WC) (tx := tx) (vx := vx) (vy := vy) (vz := vz) (vq := vq) (vv := vv) (gs := gs) (cn := cn) (so := so) (sd := sd) (sa := sa) (sq := sq) (rx := rx) (VA := VA) (VB := VB) (VC := VC) (LA := LA) (ZZ := ZZ) (pl := pl) (ry := ry) (ns := ns) (sh := sh) (st := st) hw hs (y := y) (by omega) sw sl co de sn re gr bl hc rfl
    obtain ⟨co', de', sn', re', gr', bl', hc', HX, HY⟩ := ih (y + 1) co1 de1 sn1 re1 gr1 bl1 hc1 (by omega)
    refine ⟨co', de', sn', re', gr', bl', hc', fun post n hn h => ?_, fun post n hn h => ?_⟩
    · obtain ⟨n, rfl⟩ : ∃ m, n = m + 1 := ⟨n - 1, by omega⟩
      rw [wX_clear_41]
      exact br_f (nI_ge (by omega) (by omega)) ⟨sw + 1, HX1 post _ (sw + 1) (by omega) (HX post n (by omega) h)⟩
    · obtain ⟨n, rfl⟩ : ∃ m, n = m + 1 := ⟨n - 1, by omega⟩
      rw [wY_clear_56]
      exact br_f (by rw [nI_add]; exact nI_ge (by omega) (by omega)) ⟨sw + 1, HY1 post _ (sw + 1) (by omega) (HY post n (by omega) h)⟩
end CLR
theorem i_vc_clear {k : Nat} {u : SX} {v : SY} (I : i_Rel k u v) (hk : k + 6 ≤ 3072) (v1 : Int32) (v2 : Int32) : wpX_clear (fun r u' => wpY_clear (fun r' v' => r' = r ∧ i_Rel (k + 6) u' v') v v1 v2) u v1 v2 := by
  obtain ⟨ns, sl, st, sw, sh, KE, CA, CB, CC, FL, WA, WB, WC, VA, VB, VC, LA, ZZ, co, de, sn, tx, vx, vy, vz, vq, vv, gs, cn, so, sd, sa, sq, rx, re, gr, bl, pl, ry, rfl, rfl, R⟩ := I
  unfold wpX_clear
  refine mx_btw (fun a => br_f n10 ?_) (fun a => br_t rfl ?_)
  · obtain ⟨w, hw2, rfl⟩ := ic_of 2 (by decide) a.1 a.2
    have c : w = 0 ∨ w = 1 ∨ w = 2 := by omega
    rcases c with rfl | rfl | rfl
    · refine br_t rfl (?_)
      refine mx_btw (fun b => br_f n10 ?_) (fun b => br_t rfl ?_)
      · have cw : ∃ r g b : Nat, r < 256 ∧ g < 256 ∧ b < 256 ∧ v2 = cp_pk r g b := by
          obtain ⟨c, hc, e⟩ := ic_of 16777215 (by decide) b.1 b.2
          rw [e]
          exact cp_of (by omega)
        have hw : (nI 0 = 0 ∧ ∃ r g b : Nat, r < 256 ∧ g < 256 ∧ b < 256 ∧ v2 = cp_pk r g b) ∨ nI 0 = 1 ∨ nI 0 = 2 := Or.inl ⟨rfl, cw⟩
        obtain ⟨co', de', sn', re', gr', bl', hc', HX, HY⟩ := cc_sim (KE := KE) (CA := CA) (CB := CB) (CC := CC) (FL := FL) (WA := WA) (WB := WB) (WC := WC) (tx := tx) (vx := vx) (vy := vy) (vz := vz) (vq := vq) (vv := vv) (gs := gs) (cn := cn) (so := so) (sd := sd) (sa := sa) (sq := sq) (rx := rx) (VA := VA) (VB := VB) (VC := VC) (LA := LA) (ZZ := ZZ) (pl := pl) (ry := ry) (ns := ns) (sl := sl) (sw := sw) hw R.1.2.1 R.1.2.2 sh st co de sn re gr bl R.2.1 rfl
        refine ⟨sh + 1, HX _ (sh + 1) (by omega) ?_⟩
        unfold wpY_clear
        refine my_in (fun _ => br_f n10 ?_) (fun n => absurd a n)
        refine br_t rfl (?_)
        exact my_in (fun _ => br_f n10 ⟨sh + 1, HY _ (sh + 1) (by omega) ⟨rfl, rel_mk ⟨R.1, hc', R.2.2⟩⟩⟩) (fun n => absurd b n)
      · refine mx_refuse ⟨rfl, ?_⟩
        unfold wpY_clear
        refine my_in (fun _ => br_f n10 ?_) (fun n => absurd a n)
        refine br_t rfl (?_)
        exact my_in (fun c => absurd c b) (fun _ => br_t rfl (my_fails ⟨rfl, rfl, rel_mk R⟩))
    · refine br_f (by decide) (br_t rfl (?_))
      refine mx_btw (fun b => br_f n10 ?_) (fun b => br_t rfl ?_)
      · have hw : (nI 1 = 0 ∧ ∃ r g b : Nat, r < 256 ∧ g < 256 ∧ b < 256 ∧ v2 = cp_pk r g b) ∨ nI 1 = 1 ∨ nI 1 = 2 := Or.inr (Or.inl rfl)
        obtain ⟨co', de', sn', re', gr', bl', hc', HX, HY⟩ := cc_sim (KE := KE) (CA := CA) (CB := CB) (CC := CC) (FL := FL) (WA := WA) (WB := WB) (WC := WC) (tx := tx) (vx := vx) (vy := vy) (vz := vz) (vq := vq) (vv := vv) (gs := gs) (cn := cn) (so := so) (sd := sd) (sa := sa) (sq := sq) (rx := rx) (VA := VA) (VB := VB) (VC := VC) (LA := LA) (ZZ := ZZ) (pl := pl) (ry := ry) (ns := ns) (sl := sl) (sw := sw) hw R.1.2.1 R.1.2.2 sh st co de sn re gr bl R.2.1 rfl
        refine ⟨sh + 1, HX _ (sh + 1) (by omega) ?_⟩
        unfold wpY_clear
        refine my_in (fun _ => br_f n10 ?_) (fun n => absurd a n)
        refine br_f (by decide) (br_t rfl (?_))
        exact my_in (fun _ => br_f n10 ⟨sh + 1, HY _ (sh + 1) (by omega) ⟨rfl, rel_mk ⟨R.1, hc', R.2.2⟩⟩⟩) (fun n => absurd b n)
      · refine mx_refuse ⟨rfl, ?_⟩
        unfold wpY_clear
        refine my_in (fun _ => br_f n10 ?_) (fun n => absurd a n)
        refine br_f (by decide) (br_t rfl (?_))
        exact my_in (fun c => absurd c b) (fun _ => br_t rfl (my_fails ⟨rfl, rfl, rel_mk R⟩))
    · refine br_f (by decide) (br_f (by decide) (?_))
      refine mx_btw (fun b => br_f n10 ?_) (fun b => br_t rfl ?_)
      · have hw : (nI 2 = 0 ∧ ∃ r g b : Nat, r < 256 ∧ g < 256 ∧ b < 256 ∧ v2 = cp_pk r g b) ∨ nI 2 = 1 ∨ nI 2 = 2 := Or.inr (Or.inr rfl)
        obtain ⟨co', de', sn', re', gr', bl', hc', HX, HY⟩ := cc_sim (KE := KE) (CA := CA) (CB := CB) (CC := CC) (FL := FL) (WA := WA) (WB := WB) (WC := WC) (tx := tx) (vx := vx) (vy := vy) (vz := vz) (vq := vq) (vv := vv) (gs := gs) (cn := cn) (so := so) (sd := sd) (sa := sa) (sq := sq) (rx := rx) (VA := VA) (VB := VB) (VC := VC) (LA := LA) (ZZ := ZZ) (pl := pl) (ry := ry) (ns := ns) (sl := sl) (sw := sw) hw R.1.2.1 R.1.2.2 sh st co de sn re gr bl R.2.1 rfl
        refine ⟨sh + 1, HX _ (sh + 1) (by omega) ?_⟩
        unfold wpY_clear
        refine my_in (fun _ => br_f n10 ?_) (fun n => absurd a n)
        refine br_f (by decide) (br_f (by decide) (?_))
        exact my_in (fun _ => br_f n10 ⟨sh + 1, HY _ (sh + 1) (by omega) ⟨rfl, rel_mk ⟨R.1, hc', R.2.2⟩⟩⟩) (fun n => absurd b n)
      · refine mx_refuse ⟨rfl, ?_⟩
        unfold wpY_clear
        refine my_in (fun _ => br_f n10 ?_) (fun n => absurd a n)
        refine br_f (by decide) (br_f (by decide) (?_))
        exact my_in (fun c => absurd c b) (fun _ => br_t rfl (my_fails ⟨rfl, rfl, rel_mk R⟩))
  · refine mx_refuse ⟨rfl, ?_⟩
    unfold wpY_clear
    exact my_in (fun c => absurd c a) (fun _ => br_t rfl (my_fails ⟨rfl, rfl, rel_mk R⟩))
end
section
/-! draw, the constructors, and the rest of what is owed -/
section ODR
variable {NS SL ST SR SB KE CA CB CC FL WA WB WC : Int32} {co de sn tx vx vy vz vq vv gs cn so sd sa sq rx : Nat → Int32}
variable {LE TO WI HI VA VB VC LA ZZ : Int32} {re gr bl pl ry : Nat → Int32}
theorem mx_z1 {post : Int32 → SX → Prop} {a b c : Int32} {j n : Nat} (hj : j < 6) (h : wX_draw_48 post a b c NS SL ST SR SB KE CA CB CC FL WA WB WC n (nI (j + 1)) co de sn tx vx vy vz vq vv gs (upd cn j 0) so sd sa sq rx) : wX_draw_48 post a b c NS SL ST SR SB KE CA CB CC FL WA WB WC (n + 1) (nI j) co de sn tx vx vy vz vq vv gs cn so sd sa sq rx := by
  obtain ⟨v, cl⟩ := ix_p (x := nI j) 6 rfl hj (by decide)
  rw [wX_draw_48]
  exact br_f (nI_ge (b := 6) hj (by decide)) ⟨v, nm_r (e' := upd cn j 0) (by rw [cl]) (nm_r (nI_1 j) h)⟩
theorem my_z1 {post : Int32 → SY → Prop} {a b c : Int32} {j n : Nat} (hj : j < 6) (h : wY_draw_46 post a b c LE TO WI HI NS KE VA VB VC LA ZZ n (nI (j + 1)) re gr bl de sn tx pl vv gs so sd sa sq (upd cn j 0) ry) : wY_draw_46 post a b c LE TO WI HI NS KE VA VB VC LA ZZ (n + 1) (nI j) re gr bl de sn tx pl vv gs so sd sa sq cn ry := by
  obtain ⟨v, cl⟩ := ix_p (x := nI j) 6 rfl hj (by decide)
  rw [wY_draw_46]
  exact br_f (nI_ge (b := 6) hj (by decide)) ⟨v, nm_r (e' := upd cn j 0) (by rw [cl]) (nm_r (nI_1 j) h)⟩
theorem mx_z {post : Int32 → SX → Prop} {a b c : Int32} (h : wX_draw_48 post a b c NS SL ST SR SB KE CA CB CC FL WA WB WC 1 (nI 6) co de sn tx vx vy vz vq vv gs (upd (upd (upd (upd (upd (upd cn 0 0) 1 0) 2 0) 3 0) 4 0) 5 0) so sd sa sq rx) : ∃ n, wX_draw_48 post a b c NS SL ST SR SB KE CA CB CC FL WA WB WC n 0 co de sn tx vx vy vz vq vv gs cn so sd sa sq rx :=
  ⟨7, mx_z1 (j := 0) (by decide) (mx_z1 (j := 1) (by decide) (mx_z1 (j := 2) (by decide) (mx_z1 (j := 3) (by decide) (mx_z1 (j := 4) (by decide) (mx_z1 (j := 5) (by decide) h)))))⟩
theorem my_z {post : Int32 → SY → Prop} {a b c : Int32} (h : wY_draw_46 post a b c LE TO WI HI NS KE VA VB VC LA ZZ 1 (nI 6) re gr bl de sn tx pl vv gs so sd sa sq (upd (upd (upd (upd (upd (upd cn 0 0) 1 0) 2 0) 3 0) 4 0) 5 0) ry) : ∃ n, wY_draw_46 post a b c LE TO WI HI NS KE VA VB VC LA ZZ n 0 re gr bl de sn tx pl vv gs so sd sa sq cn ry :=
  ⟨7, my_z1 (j := 0) (by decide) (my_z1 (j := 1) (by decide) (my_z1 (j := 2) (by decide) (my_z1 (j := 3) (by decide) (my_z1 (j := 4) (by decide) (my_z1 (j := 5) (by decide) h)))))⟩
theorem in_de : ∀ (k j : Nat) (de : Nat → Int32), j + k = 384 → ∃ de' : Nat → Int32, (∀ (post : SX → Prop) (n : Nat), k < n → (∃ q, wX_init_229 post NS SL ST SR SB KE CA CB CC FL WA WB WC q 0 co de' sn tx vx vy vz vq vv gs cn so sd sa sq rx) → wX_init_205 post NS SL ST SR SB KE CA CB CC FL WA WB WC n (nI j) co de sn tx vx vy vz vq vv gs cn so sd sa sq rx) ∧ (∀ (post : SY → Prop) (n : Nat), k < n → (∃ q, wY_init_168 post LE TO WI HI NS KE VA VB VC LA ZZ q 0 re gr bl de' sn tx pl vv gs so sd sa sq cn ry) → wY_init_144 post LE TO WI HI NS KE VA VB VC LA ZZ n (nI j) re gr bl de sn tx pl vv gs so sd sa sq cn ry) := by
  intro k
  induction k with
  | zero =>
    intro j de hj
    refine ⟨de, fun post n hn h => ?_, fun post n hn h => ?_⟩
    · obtain ⟨n, rfl⟩ : ∃ m, n = m + 1 := ⟨n - 1, by omega⟩
      rw [wX_init_205]
      exact br_t (nI_le (a := 384) (by omega) (by omega)) h
    · obtain ⟨n, rfl⟩ : ∃ m, n = m + 1 := ⟨n - 1, by omega⟩
      rw [wY_init_144]
      exact br_t (nI_le (a := 384) (by omega) (by omega)) h
  | succ k ih =>
    intro j de hj
    obtain ⟨v, cl⟩ := ix_p (x := nI j) 384 rfl (by omega) (by decide)
    obtain ⟨de', HX, HY⟩ := ih (j + 1) (upd de j 1023) (by omega)
    refine ⟨de', fun post n hn h => ?_, fun post n hn h => ?_⟩
    · obtain ⟨n, rfl⟩ : ∃ m, n = m + 1 := ⟨n - 1, by omega⟩
      rw [wX_init_205]
      exact br_f (nI_ge (b := 384) (by omega) (by decide)) ⟨v, nm_r (e' := upd de j 1023) (by rw [cl]) (nm_r (nI_1 j) (HX post n (by omega) h))⟩
    · obtain ⟨n, rfl⟩ : ∃ m, n = m + 1 := ⟨n - 1, by omega⟩
      rw [wY_init_144]
      exact br_f (nI_ge (b := 384) (by omega) (by decide)) ⟨v, nm_r (e' := upd de j 1023) (by rw [cl]) (nm_r (nI_1 j) (HY post n (by omega) h))⟩
theorem in_vq : ∀ (k j : Nat) (vq pl : Nat → Int32), j + k = 24 → (∀ i, i < 24 → (pl (4 * i) = 0 ∧ pl (4 * i + 1) = 0 ∧ pl (4 * i + 2) = 0) ∧ (i < j → vq i = 1 ∧ pl (4 * i + 3) = 1)) → ∃ vq' pl' : Nat → Int32, (∀ i, i < 24 → (pl' (4 * i) = 0 ∧ pl' (4 * i + 1) = 0 ∧ pl' (4 * i + 2) = 0) ∧ (vq' i = 1 ∧ pl' (4 * i + 3) = 1))
    ∧ (∀ (post : SX → Prop) (n : Nat), k < n → post (NS, SL, ST, SR, SB, KE, CA, CB, CC, FL, WA, WB, WC, co, de, sn, tx, vx, vy, vz, vq', vv, upd (upd (upd (upd gs 0 7) 1 1) 2 7) 8 7, cn, so, sd, sa, sq, rx) → wX_init_229 post NS SL ST SR SB KE CA CB CC FL WA WB WC n (nI j) co de sn tx vx vy vz vq vv gs cn so sd sa sq rx) ∧ (∀ (post : SY → Prop) (n : Nat), k < n → post (LE, TO, WI, HI, NS, KE, VA, VB, VC, LA, ZZ, re, gr, bl, de, sn, tx, pl', vv, upd (upd (upd (upd gs 0 7) 1 1) 2 7) 8 7, so, sd, sa, sq, cn, ry) → wY_init_168 post LE TO WI HI NS KE VA VB VC LA ZZ n (nI j) re gr bl de sn tx pl vv gs so sd sa sq cn ry) := by
  intro k
  induction k with
  | zero =>
    intro j vq pl hj hI
    refine ⟨vq, pl, fun i hi => ⟨(hI i hi).1, (hI i hi).2 (by omega)⟩, fun post n hn h => ?_, fun post n hn h => ?_⟩
    · obtain ⟨n, rfl⟩ : ∃ m, n = m + 1 := ⟨n - 1, by omega⟩
      rw [wX_init_229]
      exact br_t (nI_le (a := 24) (by omega) (by omega)) (nm_e (nm_e (nm_e (nm_e h))))
    · obtain ⟨n, rfl⟩ : ∃ m, n = m + 1 := ⟨n - 1, by omega⟩
      rw [wY_init_168]
      exact br_t (nI_le (a := 24) (by omega) (by omega)) (nm_e (nm_e (nm_e (nm_e h))))
  | succ k ih =>
    intro j vq pl hj hI
    obtain ⟨v, cl⟩ := ix_p (x := nI j) 24 rfl (by omega) (by decide)
    obtain ⟨v3, c3⟩ := ix_p (x := 4 * nI j + 3) 96 (ix_a (pk_mul 4 j) 3 rfl) (by omega) (by decide)
    obtain ⟨vq', pl', hI', HX, HY⟩ := ih (j + 1) (upd vq j 1) (upd pl (4 * j + 3) 1) (by omega) (fun i hi => by
      obtain ⟨⟨a, b, c⟩, d⟩ := hI i hi
      rw [pk_un (by omega), pk_un (by omega), pk_un (by omega)]
      refine ⟨⟨a, b, c⟩, fun q => ?_⟩
      by_cases e : i = j
      · subst e
        rw [pk_us, pk_us]
        exact ⟨rfl, rfl⟩
      · rw [pk_un e, pk_un (by omega)]
        exact d (by omega))
    refine ⟨vq', pl', hI', fun post n hn h => ?_, fun post n hn h => ?_⟩
    · obtain ⟨n, rfl⟩ : ∃ m, n = m + 1 := ⟨n - 1, by omega⟩
      rw [wX_init_229]
      exact br_f (nI_ge (b := 24) (by omega) (by decide)) ⟨v, nm_r (e' := upd vq j 1) (by rw [cl]) (nm_r (nI_1 j) (HX post n (by omega) h))⟩
    · obtain ⟨n, rfl⟩ : ∃ m, n = m + 1 := ⟨n - 1, by omega⟩
      rw [wY_init_168]
      exact br_f (nI_ge (b := 24) (by omega) (by decide)) ⟨v3, nm_r (e' := upd pl (4 * j + 3) 1) (by rw [c3]) (nm_r (nI_1 j) (HY post n (by omega) h))⟩
end ODR
theorem i_vc_draw {k : Nat} {u : SX} {v : SY} (I : i_Rel k u v) (hk : k + 6 ≤ 3072) (v1 : Int32) (v2 : Int32) (v3 : Int32) : wpX_draw (fun r u' => wpY_draw (fun r' v' => r' = r ∧ i_Rel (k + 6) u' v') v v1 v2 v3) u v1 v2 v3 := by
  obtain ⟨ns, sl, st, sw, sh, KE, CA, CB, CC, FL, WA, WB, WC, VA, VB, VC, LA, ZZ, co, de, sn, tx, vx, vy, vz, vq, vv, gs, cn, so, sd, sa, sq, rx, re, gr, bl, pl, ry, rfl, rfl, R⟩ := I
  have F : fz_ok ns tx vx vy vz vq gs so sd sa sq pl := ⟨R.1.1, R.2.2.2.2.2, R.2.2.1, R.2.2.2.2.1, R.2.2.2.1⟩
  unfold wpX_draw
  refine mx_btw (fun a => br_f n10 ?_) (fun a => br_t rfl ?_)
  · refine mx_btw (fun b => br_f n10 ?_) (fun b => br_t rfl ?_)
    · refine mx_btw (fun c => br_f n10 ?_) (fun c => br_t rfl ?_)
      · obtain ⟨M, hM, rfl⟩ := ic_of 3 (by decide) a.1 a.2
        obtain ⟨cnt, hcnt, rfl⟩ := ic_of 24 (by decide) b.1 b.2
        have e1 : (24 : Int32) - nI cnt = nI (24 - cnt) := pk_sub (a := 24) hcnt
        obtain ⟨f, hf, rfl⟩ := ic_of (24 - cnt) (by rw [e1]; exact nI_toInt (by omega)) c.1 c.2
        refine mx_z ?_
        rw [wX_draw_48]
        refine br_t (by decide) ?_
        have cM : M = 0 ∨ M = 1 ∨ M = 2 ∨ M = 3 := by omega
        rcases cM with rfl | rfl | rfl | rfl
        · obtain ⟨CA', CB', CC', FL', WA', WB', WC', VA', VB', VC', LA', ZZ', co', de', sn', cn', rx', re', gr', bl', ry', hc', HX, HY⟩ := dp_sim (KE := KE) (tx := tx) (vx := vx) (vy := vy) (vz := vz) (vq := vq) (vv := vv) (gs := gs) (so := so) (sd := sd) (sa := sa) (sq := sq) (pl := pl) (x1 := nI 0) F R.1.2.1 R.1.2.2 (f := f) (cnt := cnt) (by omega) cnt 0 CA CB CC FL WA WB WC VA VB VC LA ZZ co de sn (upd (upd (upd (upd (upd (upd cn 0 0) 1 0) 2 0) 3 0) 4 0) 5 0) rx re gr bl ry R.2.1 (by omega)
          refine br_t rfl ⟨cnt + 1, HX _ (cnt + 1) (by omega) ?_⟩
          unfold wpY_draw
          refine my_in (fun _ => br_f n10 ?_) (fun n => absurd a n)
          refine my_in (fun _ => br_f n10 ?_) (fun n => absurd b n)
          refine my_in (fun _ => br_f n10 ?_) (fun n => absurd c n)
          refine my_z ?_
          rw [wY_draw_46]
          refine br_t (by decide) (br_t rfl ⟨cnt + 1, HY _ (cnt + 1) (by omega) ?_⟩)
          exact br_f (by decide) (br_f (by decide) (br_f (by decide) ⟨rfl, rel_mk ⟨R.1, hc', R.2.2⟩⟩))
        · obtain ⟨CA', CB', CC', FL', WA', WB', WC', VA', VB', VC', LA', ZZ', co', de', sn', cn', rx', re', gr', bl', ry', hc', HX, HY⟩ := dt_sim (KE := KE) (tx := tx) (vx := vx) (vy := vy) (vz := vz) (vq := vq) (vv := vv) (gs := gs) (so := so) (sd := sd) (sa := sa) (sq := sq) (pl := pl) (x1 := nI 1) F R.1.2.1 R.1.2.2 (f := f) (cnt := cnt) (by omega) cnt 0 CA CB CC FL WA WB WC VA VB VC LA ZZ co de sn (upd (upd (upd (upd (upd (upd cn 0 0) 1 0) 2 0) 3 0) 4 0) 5 0) rx re gr bl ry R.2.1 (by omega) (by omega)
          refine br_f (by decide) (br_t rfl ⟨cnt + 1, HX _ (cnt + 1) (by omega) ?_⟩)
          unfold wpY_draw
          refine my_in (fun _ => br_f n10 ?_) (fun n => absurd a n)
          refine my_in (fun _ => br_f n10 ?_) (fun n => absurd b n)
          refine my_in (fun _ => br_f n10 ?_) (fun n => absurd c n)
          refine my_z ?_
          rw [wY_draw_46]
          refine br_t (by decide) (br_f (by decide) (br_t rfl ⟨cnt + 1, HY _ (cnt + 1) (by omega) ?_⟩))
          exact br_f (by decide) (br_f (by decide) ⟨rfl, rel_mk ⟨R.1, hc', R.2.2⟩⟩)
        · obtain ⟨CA', CB', CC', FL', WA', WB', WC', VA', VB', VC', LA', ZZ', co', de', sn', cn', rx', re', gr', bl', ry', hc', HX, HY⟩ := ds_sim (KE := KE) (tx := tx) (vx := vx) (vy := vy) (vz := vz) (vq := vq) (vv := vv) (gs := gs) (so := so) (sd := sd) (sa := sa) (sq := sq) (pl := pl) (x1 := nI 2) F R.1.2.1 R.1.2.2 (f := f) (cnt := cnt) (by omega) cnt 0 CA CB CC FL WA WB WC VA VB VC LA ZZ co de sn (upd (upd (upd (upd (upd (upd cn 0 0) 1 0) 2 0) 3 0) 4 0) 5 0) rx re gr bl ry R.2.1 (by omega) (by omega)
          refine br_f (by decide) (br_f (by decide) (br_t rfl ⟨cnt + 1, HX _ (cnt + 1) (by omega) ?_⟩))
          unfold wpY_draw
          refine my_in (fun _ => br_f n10 ?_) (fun n => absurd a n)
          refine my_in (fun _ => br_f n10 ?_) (fun n => absurd b n)
          refine my_in (fun _ => br_f n10 ?_) (fun n => absurd c n)
          refine my_z ?_
          rw [wY_draw_46]
          refine br_t (by decide) (br_f (by decide) (br_f (by decide) (br_t rfl ⟨cnt + 1, HY _ (cnt + 1) (by omega) ?_⟩)))
          exact br_f (by decide) ⟨rfl, rel_mk ⟨R.1, hc', R.2.2⟩⟩
        · obtain ⟨CA', CB', CC', FL', WA', WB', WC', VA', VB', VC', LA', ZZ', co', de', sn', cn', rx', re', gr', bl', ry', hc', HX, HY⟩ := df_sim (KE := KE) (tx := tx) (vx := vx) (vy := vy) (vz := vz) (vq := vq) (vv := vv) (gs := gs) (so := so) (sd := sd) (sa := sa) (sq := sq) (pl := pl) F R.1.2.1 R.1.2.2 (f := f) (cnt := cnt) (by omega) cnt 1 CA CB CC FL WA WB WC VA VB VC LA ZZ co de sn (upd (upd (upd (upd (upd (upd cn 0 0) 1 0) 2 0) 3 0) 4 0) 5 0) rx re gr bl ry R.2.1 (by omega) (by omega)
          refine br_f (by decide) (br_f (by decide) (br_f (by decide) ⟨cnt + 1, HX _ (cnt + 1) (by omega) ?_⟩))
          unfold wpY_draw
          refine my_in (fun _ => br_f n10 ?_) (fun n => absurd a n)
          refine my_in (fun _ => br_f n10 ?_) (fun n => absurd b n)
          refine my_in (fun _ => br_f n10 ?_) (fun n => absurd c n)
          refine my_z ?_
          rw [wY_draw_46]
          exact br_t (by decide) (br_f (by decide) (br_f (by decide) (br_f (by decide) (br_t rfl ⟨cnt + 1, HY _ (cnt + 1) (by omega) ⟨rfl, rel_mk ⟨R.1, hc', R.2.2⟩⟩⟩))))
      · unfold wX_draw_38
        refine mx_keep ?_
        unfold wpY_draw
        refine my_in (fun _ => br_f n10 ?_) (fun n => absurd a n)
        refine my_in (fun _ => br_f n10 ?_) (fun n => absurd b n)
        refine my_in (fun q => absurd q c) (fun _ => br_t rfl ?_)
        unfold wY_draw_37
        exact my_none ⟨rfl, rel_mk R⟩
    · unfold wX_draw_38
      refine mx_keep ?_
      unfold wpY_draw
      refine my_in (fun _ => br_f n10 ?_) (fun n => absurd a n)
      refine my_in (fun q => absurd q b) (fun _ => br_t rfl ?_)
      unfold wY_draw_37
      exact my_none ⟨rfl, rel_mk R⟩
  · refine mx_keep ?_
    unfold wpY_draw
    exact my_in (fun q => absurd q a) (fun _ => br_t rfl (my_none ⟨rfl, rel_mk R⟩))
theorem i_vc0 : wpX_init (fun u => wpY_init (fun v => i_Rel 0 u v)) := by
  obtain ⟨de', HX, HY⟩ := in_de (NS := 0) (SL := 0) (ST := 0) (SR := 24) (SB := 16) (KE := 0) (CA := 0) (CB := 0) (CC := 0) (FL := 0) (WA := 0) (WB := 0) (WC := 0) (co := fun _ => 0) (sn := fun _ => 0) (tx := fun _ => 0) (vx := fun _ => 0) (vy := fun _ => 0) (vz := fun _ => 0) (vq := fun _ => 0) (vv := fun _ => 0) (gs := fun _ => 0) (cn := fun _ => 0) (so := fun _ => 0) (sd := fun _ => 0) (sa := fun _ => 0) (sq := fun _ => 0) (rx := fun _ => 0) (LE := 0) (TO := 0) (WI := 24) (HI := 16) (VA := 0) (VB := 0) (VC := 0) (LA := 0) (ZZ := 0) (re := fun _ => 0) (gr := fun _ => 0) (bl := fun _ => 0) (pl := fun _ => 0) (ry := fun _ => 0) 384 0 (fun _ => 0) rfl
  obtain ⟨vq', pl', hI, HX2, HY2⟩ := in_vq (NS := 0) (SL := 0) (ST := 0) (SR := 24) (SB := 16) (KE := 0) (CA := 0) (CB := 0) (CC := 0) (FL := 0) (WA := 0) (WB := 0) (WC := 0) (co := fun _ => 0) (de := de') (sn := fun _ => 0) (tx := fun _ => 0) (vx := fun _ => 0) (vy := fun _ => 0) (vz := fun _ => 0) (vv := fun _ => 0) (gs := fun _ => 0) (cn := fun _ => 0) (so := fun _ => 0) (sd := fun _ => 0) (sa := fun _ => 0) (sq := fun _ => 0) (rx := fun _ => 0) (LE := 0) (TO := 0) (WI := 24) (HI := 16) (VA := 0) (VB := 0) (VC := 0) (LA := 0) (ZZ := 0) (re := fun _ => 0) (gr := fun _ => 0) (bl := fun _ => 0) (ry := fun _ => 0) 24 0 (fun _ => 0) (fun _ => 0) rfl (fun i hi => ⟨⟨rfl, rfl, rfl⟩, fun z => absurd z (Nat.not_lt_zero i)⟩)
  refine ⟨385, HX _ 385 (by decide) ⟨25, HX2 _ 25 (by decide) ?_⟩⟩
  refine ⟨385, HY _ 385 (by decide) ⟨25, HY2 _ 25 (by decide) ?_⟩⟩
  refine ⟨0, 0, 0, 24, 16, 0, 0, 0, 0, 0, 0, 0, 0, 0, 0, 0, 0, 0, fun _ => 0, de', fun _ => 0, fun _ => 0, fun _ => 0, fun _ => 0, fun _ => 0, vq', fun _ => 0, upd (upd (upd (upd (fun _ => 0) 0 7) 1 1) 2 7) 8 7, fun _ => 0, fun _ => 0, fun _ => 0, fun _ => 0, fun _ => 0, fun _ => 0, fun _ => 0, fun _ => 0, fun _ => 0, pl', fun _ => 0, rfl, rfl, ?_⟩
  refine ⟨⟨by decide, by decide, by decide⟩, fun k hk => ⟨0, 0, 0, by decide, by decide, by decide, rfl, rfl, rfl, rfl⟩, fun k hk => ⟨0, 0, 0, by decide, by decide, by decide, rfl⟩, fun i hi => ?_, ⟨Or.inl rfl, Or.inl rfl, Or.inl rfl, Or.inl rfl⟩, fun i hi => absurd hi (Nat.not_lt_zero i)⟩
  obtain ⟨⟨p1, p2, p3⟩, q1, q2⟩ := hI i hi
  refine ⟨⟨p1.symm, p2.symm, p3.symm, q1.trans q2.symm⟩, ?_, ?_, ?_, ?_⟩
  · show (0 : Int32).toInt.natAbs ≤ 800
    decide
  · show (0 : Int32).toInt.natAbs ≤ 800
    decide
  · show 0 ≤ (0 : Int32).toInt ∧ (0 : Int32).toInt ≤ 1023
    decide
  · rw [q1]
    decide
end
section
theorem i_up {k : Nat} {u : SX} {v : SY} (h : i_Rel k u v) : i_Rel (k + 6) u v := h
end
