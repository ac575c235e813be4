/-! the relation -/
def ri_col (co re gr bl : Nat → Int32) : Prop := ∀ k, k < 384 → ∃ r g b : Nat, r < 256 ∧ g < 256 ∧ b < 256 ∧ re k = nI r ∧ gr k = nI g ∧ bl k = nI b ∧ co k = cp_pk r g b
def ri_tex (tx : Nat → Int32) : Prop := ∀ k, k < 64 → ∃ r g b : Nat, r < 256 ∧ g < 256 ∧ b < 256 ∧ tx k = cp_pk r g b
def ri_ver (vx vy vz vq pl : Nat → Int32) : Prop := ∀ i, i < 24 → (vx i = pl (4 * i) ∧ vy i = pl (4 * i + 1) ∧ vz i = pl (4 * i + 2) ∧ vq i = pl (4 * i + 3)) ∧ ca_in (vx i) ∧ ca_in (vy i) ∧ (0 ≤ (vz i).toInt ∧ (vz i).toInt ≤ 1023) ∧ (1 ≤ (vq i).toInt ∧ (vq i).toInt ≤ 64)
def ri_06 (x : Int32) : Prop := x = 0 ∨ x = 1 ∨ x = 2 ∨ x = 3 ∨ x = 4 ∨ x = 5
def ri_set (gs : Nat → Int32) : Prop := (gs 7 = 0 ∨ gs 7 = 1 ∨ gs 7 = 2 ∨ gs 7 = 3 ∨ gs 7 = 4) ∧ ri_06 (gs 4) ∧ ri_06 (gs 5) ∧ ri_06 (gs 6)
def ri_one (o d a b : Int32) : Prop := (∃ n : Nat, n < 10 ∧ o = nI n) ∧ (¬ o = 9 → ∃ n : Nat, n < 8 ∧ d = nI n) ∧ (¬ o = 8 → ∃ n : Nat, n < 8 ∧ a = nI n) ∧ (¬ o = 0 → ¬ o = 8 → ¬ o = 9 → ∃ n : Nat, n < 8 ∧ b = nI n)
def ri_stp (ns : Nat) (so sd sa sq : Nat → Int32) : Prop := ∀ i, i < ns → ri_one (so i) (sd i) (sa i) (sq i)
def ri_all (ns sl st sw sh : Nat) (co tx vx vy vz vq gs so sd sa sq re gr bl pl : Nat → Int32) : Prop :=
  (ns ≤ 10 ∧ sl + sw ≤ 24 ∧ st + sh ≤ 16) ∧ ri_col co re gr bl ∧ ri_tex tx ∧ ri_ver vx vy vz vq pl ∧ ri_set gs ∧ ri_stp ns so sd sa sq
def i_Rel (_ : Nat) (u : SX) (v : SY) : Prop := ∃ (ns sl st sw sh : Nat) (KE CA CB CC FL WA WB WC VA VB VC LA ZZ : Int32) (co de sn tx vx vy vz vq vv gs cn so sd sa sq rx re gr bl pl ry : Nat → Int32),
  u = (nI ns, nI sl, nI st, nI (sl + sw), nI (st + sh), KE, CA, CB, CC, FL, WA, WB, WC, co, de, sn, tx, vx, vy, vz, vq, vv, gs, cn, so, sd, sa, sq, rx) ∧ v = (nI sl, nI st, nI sw, nI sh, nI ns, KE, VA, VB, VC, LA, ZZ, re, gr, bl, de, sn, tx, pl, vv, gs, so, sd, sa, sq, cn, ry) ∧ ri_all ns sl st sw sh co tx vx vy vz vq gs so sd sa sq re gr bl pl
/-! one pixel written under a mask -/
def wm_p (m : Int32) : Bool := decide (¬ (m &&& 1) = 0)
def wm_q (m : Int32) : Bool := decide (¬ (m &&& 2) = 0)
def wm_s (m : Int32) : Bool := decide (¬ (m &&& 4) = 0)
def wm_f (m o n : Int32) : Int32 := (o &&& (cp_bits (wm_p m) (wm_q m) (wm_s m) ^^^ (-1))) ||| (n &&& cp_bits (wm_p m) (wm_q m) (wm_s m))
theorem ri_colW {co re gr bl : Nat → Int32} (h : ri_col co re gr bl) {k r' g' b' : Nat} (hr' : r' < 256) (hg' : g' < 256) (hb' : b' < 256) (m : Int32) : ri_col (upd co k (wm_f m (co k) (cp_pk r' g' b'))) (if wm_p m then upd re k (nI r') else re) (if wm_q m then upd gr k (nI g') else gr) (if wm_s m then upd bl k (nI b') else bl) := by
  unfold wm_f
  generalize wm_p m = p
  generalize wm_q m = q
  generalize wm_s m = s
  intro j hj
  obtain ⟨r, g, b, hr, hg, hb, er, eg, eb, ec⟩ := h j hj
  by_cases e : j = k
  · subst e
    refine ⟨if p then r' else r, if q then g' else g, if s then b' else b, by cases p <;> assumption, by cases q <;> assumption, by cases s <;> assumption, ?_, ?_, ?_, ?_⟩
    · cases p
      · exact er
      · exact pk_us
    · cases q
      · exact eg
      · exact pk_us
    · cases s
      · exact eb
      · exact pk_us
    · rw [pk_us, ec, cp_mask hr hg hb hr' hg' hb']
  · refine ⟨r, g, b, hr, hg, hb, ?_, ?_, ?_, ?_⟩
    · cases p
      · exact er
      · exact (pk_un e).trans er
    · cases q
      · exact eg
      · exact (pk_un e).trans eg
    · cases s
      · exact eb
      · exact (pk_un e).trans eb
    · exact (pk_un e).trans ec
theorem ri_verU {vx vy vz vq pl : Nat → Int32} (h : ri_ver vx vy vz vq pl) {I : Nat} {x y z q : Int32} (hx : ca_in x) (hy : ca_in y) (hz : 0 ≤ z.toInt ∧ z.toInt ≤ 1023) (hq : 1 ≤ q.toInt ∧ q.toInt ≤ 64) : ri_ver (upd vx I x) (upd vy I y) (upd vz I z) (upd vq I q) (upd (upd (upd (upd pl (4 * I) x) (4 * I + 1) y) (4 * I + 2) z) (4 * I + 3) q) := by
  intro i hi
  by_cases e : i = I
  · subst e
    rw [pk_us, pk_us, pk_us, pk_us]
    refine ⟨⟨?_, ?_, ?_, ?_⟩, hx, hy, hz, hq⟩
    · rw [pk_un (by omega), pk_un (by omega), pk_un (by omega), pk_us]
    · rw [pk_un (by omega), pk_un (by omega), pk_us]
    · rw [pk_un (by omega), pk_us]
    · rw [pk_us]
  · rw [pk_un e, pk_un e, pk_un e, pk_un e]
    obtain ⟨⟨a, b, c, d⟩, r⟩ := h i hi
    refine ⟨⟨?_, ?_, ?_, ?_⟩, r⟩
    · rw [pk_un (by omega), pk_un (by omega), pk_un (by omega), pk_un (by omega)]
      exact a
    · rw [pk_un (by omega), pk_un (by omega), pk_un (by omega), pk_un (by omega)]
      exact b
    · rw [pk_un (by omega), pk_un (by omega), pk_un (by omega), pk_un (by omega)]
      exact c
    · rw [pk_un (by omega), pk_un (by omega), pk_un (by omega), pk_un (by omega)]
      exact d
theorem ri_texU {tx : Nat → Int32} (h : ri_tex tx) {k v : Nat} (hv : v < 16777216) : ri_tex (upd tx k (nI v)) := by
  intro j hj
  by_cases e : j = k
  · subst e
    obtain ⟨r, g, b, hr, hg, hb, ev⟩ := cp_of hv
    exact ⟨r, g, b, hr, hg, hb, pk_us.trans ev⟩
  · obtain ⟨r, g, b, hr, hg, hb, ev⟩ := h j hj
    exact ⟨r, g, b, hr, hg, hb, (pk_un e).trans ev⟩
theorem ri_stpU {ns : Nat} {so sd sa sq : Nat → Int32} (h : ri_stp ns so sd sa sq) {o d a b : Int32} (h1 : ri_one o d a b) : ri_stp (ns + 1) (upd so ns o) (upd sd ns d) (upd sa ns a) (upd sq ns b) := by
  intro i hi
  by_cases e : i = ns
  · subst e
    rw [pk_us, pk_us, pk_us, pk_us]
    exact h1
  · rw [pk_un e, pk_un e, pk_un e, pk_un e]
    exact h i (by omega)
theorem ri_stpK {ns n : Nat} {so sd sa sq : Nat → Int32} (h : ri_stp ns so sd sa sq) (hn : n ≤ ns) : ri_stp n so sd sa sq := fun i hi => h i (by omega)
/-! the error that is kept -/
def ke_f (k e : Int32) : Int32 := if k = 0 then e else k
/-! what a pixel's tests, blending and program reckon -/
def sc_f (op ref old : Int32) : Int32 := if op = 1 then 0 else if op = 2 then ref else if op = 3 then (if old < 15 then old + 1 else 15) else if op = 4 then (if 0 < old then old - 1 else 0) else if op = 5 then 15 - old else old
def cm_p (how l r : Int32) : Bool := if how = 0 then false else if how = 1 then decide (l < r) else if how = 2 then decide (l = r) else if how = 3 then decide (l ≤ r) else if how = 4 then decide (r < l) else if how = 5 then decide (¬ l = r) else if how = 6 then decide (r ≤ l) else true
def bl_f (m n o a : Int32) : Int32 := if m = 1 then (n * a + o * (255 - a)) / 255 else if m = 2 then (if 255 < n + o then 255 else n + o) else if m = 3 then n * o / 255 else if m = 4 then (if n < o then o - n else 0) else n
theorem bl_r (m : Int32) {n o a : Nat} (hn : n < 256) (ho : o < 256) (ha : a < 256) : ∃ k, k < 256 ∧ bl_f m (nI n) (nI o) (nI a) = nI k := by
  unfold bl_f
  split
  · exact bl_1 hn ho ha
  · split
    · rw [nI_add]
      split
      · exact ⟨255, by decide, rfl⟩
      · next h =>
        have h' : ¬ 255 < n + o := fun z => h (nI_lt (a := 255) z (by omega))
        exact ⟨n + o, by omega, rfl⟩
    · split
      · exact bl_3 hn ho
      · split
        · split
          · next h =>
            have h' : n < o := (nI_ltI (by omega) (by omega)).mp h
            exact ⟨o - n, by omega, pk_sub (by omega)⟩
          · exact ⟨0, by decide, rfl⟩
        · exact ⟨n, hn, rfl⟩
def op_f (o d a b : Int32) : Int32 := if o = 0 then a else if o = 1 then a + b else if o = 2 then a - b else if o = 3 then (a * b) >>> ((8 : Int32) &&& 31) else if o = 4 then (if a < b then a else b) else if o = 5 then (if b < a then a else b) else if o = 6 then (if d < 0 then a else b) else d
def ag_r (n : Nat) (rx ry : Nat → Int32) : Prop := ∀ j, j < n → rx j = ry j
theorem ag_u {n : Nat} {rx ry : Nat → Int32} (h : ag_r n rx ry) (k : Nat) (v : Int32) : ag_r n (upd rx k v) (upd ry k v) := by
  intro j hj
  unfold upd
  split
  · rfl
  · exact h j hj
/-! the cover of a pixel -/
def cv_h (vx vy : Nat → Int32) (f t : Nat) : Prop := vy t - vy f < 0 ∨ (vy t - vy f = 0 ∧ 0 < vx t - vx f)
def cv_1 (vx vy : Nat → Int32) (w : Int32) (f t : Nat) : Prop := 0 ≤ w ∧ (w = 0 → cv_h vx vy f t)
def cv_w (vx vy : Nat → Int32) (a b : Nat) (x y : Int32) : Int32 := (vx b - vx a) * (y - vy a) - (vy b - vy a) * (x - vx a)
def cv_a (vx vy : Nat → Int32) (a b c : Nat) (x y : Int32) : Prop := cv_1 vx vy (cv_w vx vy b c x y) b c ∧ cv_1 vx vy (cv_w vx vy c a x y) c a ∧ cv_1 vx vy (cv_w vx vy a b x y) a b
def fd_f (s d : Int64) : Int32 := if d ≤ 0 then 0 else if s < s / d * d then (s / d - 1).toInt32 else (s / d).toInt32
