/-! draw, the constructors, and the rest of what is owed -/
section ODR
variable {NS SL ST SR SB KE CA CB CC FL WA WB WC : Int32} {co de sn tx vx vy vz vq vv gs cn so sd sa sq rx : Nat → Int32}
variable {LE TO WI HI VA VB VC LA ZZ : Int32} {re gr bl pl ry : Nat → Int32}
theorem mx_z1 {post : Int32 → SX → Prop} {a b c : Int32} {j n : Nat} (hj : j < 6) (h : wX_draw_48 post a b c NS SL ST SR SB KE CA CB CC FL WA WB WC n (nI (j + 1)) co de sn tx vx vy vz vq vv gs (upd cn j 0) so sd sa sq rx) : wX_draw_48 post a b c NS SL ST SR SB KE CA CB CC FL WA WB WC (n + 1) (nI j) co de sn tx vx vy vz vq vv gs cn so sd sa sq rx := by
  obtain ⟨v, cl⟩ := ix_p (x := nI j) 6 rfl hj (by decide)
  rw [wX_draw_48]
  exact br_f (nI_ge (b := 6) hj (by decide)) ⟨v, nm_r (e' := upd cn j 0) (by rw [cl]) (nm_r (nI_1 j) h)⟩
theorem my_z1 {post : Int32 → SY → Prop} {a b c : Int32} {j n : Nat} (hj : j < 6) (h : wY_draw_46 post a b c LE TO WI HI NS KE VA VB VC LA ZZ n (nI (j + 1)) re gr bl de sn tx pl vv gs so sd sa sq (upd cn j 0) ry) : wY_draw_46 post a b c LE TO WI HI NS KE VA VB VC LA ZZ (n + 1) (nI j) re gr bl de sn tx pl vv gs so sd sa sq cn ry := by
  obtain ⟨v, cl⟩ := ix_p (x := nI j) 6 rfl hj (by decide)
  rw [wY_draw_46]
  exact br_f (nI_ge (b := 6) hj (by decide)) ⟨v, nm_r (e' := upd cn j 0) (by rw [cl]) (nm_r (nI_1 j) h)⟩
theorem mx_z {post : Int32 → SX → Prop} {a b c : Int32} (h : wX_draw_48 post a b c NS SL ST SR SB KE CA CB CC FL WA WB WC 1 (nI 6) co de sn tx vx vy vz vq vv gs (upd (upd (upd (upd (upd (upd cn 0 0) 1 0) 2 0) 3 0) 4 0) 5 0) so sd sa sq rx) : ∃ n, wX_draw_48 post a b c NS SL ST SR SB KE CA CB CC FL WA WB WC n 0 co de sn tx vx vy vz vq vv gs cn so sd sa sq rx :=
  ⟨7, mx_z1 (j := 0) (by decide) (mx_z1 (j := 1) (by decide) (mx_z1 (j := 2) (by decide) (mx_z1 (j := 3) (by decide) (mx_z1 (j := 4) (by decide) (mx_z1 (j := 5) (by decide) h)))))⟩
theorem my_z {post : Int32 → SY → Prop} {a b c : Int32} (h : wY_draw_46 post a b c LE TO WI HI NS KE VA VB VC LA ZZ 1 (nI 6) re gr bl de sn tx pl vv gs so sd sa sq (upd (upd (upd (upd (upd (upd cn 0 0) 1 0) 2 0) 3 0) 4 0) 5 0) ry) : ∃ n, wY_draw_46 post a b c LE TO WI HI NS KE VA VB VC LA ZZ n 0 re gr bl de sn tx pl vv gs so sd sa sq cn ry :=
  ⟨7, my_z1 (j := 0) (by decide) (my_z1 (j := 1) (by decide) (my_z1 (j := 2) (by decide) (my_z1 (j := 3) (by decide) (my_z1 (j := 4) (by decide) (my_z1 (j := 5) (by decide) h)))))⟩
theorem in_de : ∀ (k j : Nat) (de : Nat → Int32), j + k = 384 → ∃ de' : Nat → Int32, (∀ (post : SX → Prop) (n : Nat), k < n → (∃ q, wX_init_229 post NS SL ST SR SB KE CA CB CC FL WA WB WC q 0 co de' sn tx vx vy vz vq vv gs cn so sd sa sq rx) → wX_init_205 post NS SL ST SR SB KE CA CB CC FL WA WB WC n (nI j) co de sn tx vx vy vz vq vv gs cn so sd sa sq rx) ∧ (∀ (post : SY → Prop) (n : Nat), k < n → (∃ q, wY_init_168 post LE TO WI HI NS KE VA VB VC LA ZZ q 0 re gr bl de' sn tx pl vv gs so sd sa sq cn ry) → wY_init_144 post LE TO WI HI NS KE VA VB VC LA ZZ n (nI j) re gr bl de sn tx pl vv gs so sd sa sq cn ry) := by
  intro k
  induction k with
  | zero =>
    intro j de hj
    refine ⟨de, fun post n hn h => ?_, fun post n hn h => ?_⟩
    · obtain ⟨n, rfl⟩ : ∃ m, n = m + 1 := ⟨n - 1, by omega⟩
      rw [wX_init_205]
      exact br_t (nI_le (a := 384) (by omega) (by omega)) h
    · obtain ⟨n, rfl⟩ : ∃ m, n = m + 1 := ⟨n - 1, by omega⟩
      rw [wY_init_144]
      exact br_t (nI_le (a := 384) (by omega) (by omega)) h
  | succ k ih =>
    intro j de hj
    obtain ⟨v, cl⟩ := ix_p (x := nI j) 384 rfl (by omega) (by decide)
    obtain ⟨de', HX, HY⟩ := ih (j + 1) (upd de j 1023) (by omega)
    refine ⟨de', fun post n hn h => ?_, fun post n hn h => ?_⟩
    · obtain ⟨n, rfl⟩ : ∃ m, n = m + 1 := ⟨n - 1, by omega⟩
      rw [wX_init_205]
      exact br_f (nI_ge (b := 384) (by omega) (by decide)) ⟨v, nm_r (e' := upd de j 1023) (by rw [cl]) (nm_r (nI_1 j) (HX post n (by omega) h))⟩
    · obtain ⟨n, rfl⟩ : ∃ m, n = m + 1 := ⟨n - 1, by omega⟩
      rw [wY_init_144]
      exact br_f (nI_ge (b := 384) (by omega) (by decide)) ⟨v, nm_r (e' := upd de j 1023) (by rw [cl]) (nm_r (nI_1 j) (HY post n (by omega) h))⟩
theorem in_vq : ∀ (k j : Nat) (vq pl : Nat → Int32), j + k = 24 → (∀ i, i < 24 → (pl (4 * i) = 0 ∧ pl (4 * i + 1) = 0 ∧ pl (4 * i + 2) = 0) ∧ (i < j → vq i = 1 ∧ pl (4 * i + 3) = 1)) → ∃ vq' pl' : Nat → Int32, (∀ i, i < 24 → (pl' (4 * i) = 0 ∧ pl' (4 * i + 1) = 0 ∧ pl' (4 * i + 2) = 0) ∧ (vq' i = 1 ∧ pl' (4 * i + 3) = 1))
    ∧ (∀ (post : SX → Prop) (n : Nat), k < n → post (NS, SL, ST, SR, SB, KE, CA, CB, CC, FL, WA, WB, WC, co, de, sn, tx, vx, vy, vz, vq', vv, upd (upd (upd (upd gs 0 7) 1 1) 2 7) 8 7, cn, so, sd, sa, sq, rx) → wX_init_229 post NS SL ST SR SB KE CA CB CC FL WA WB WC n (nI j) co de sn tx vx vy vz vq vv gs cn so sd sa sq rx) ∧ (∀ (post : SY → Prop) (n : Nat), k < n → post (LE, TO, WI, HI, NS, KE, VA, VB, VC, LA, ZZ, re, gr, bl, de, sn, tx, pl', vv, upd (upd (upd (upd gs 0 7) 1 1) 2 7) 8 7, so, sd, sa, sq, cn, ry) → wY_init_168 post LE TO WI HI NS KE VA VB VC LA ZZ n (nI j) re gr bl de sn tx pl vv gs so sd sa sq cn ry) := by
  intro k
  induction k with
  | zero =>
    intro j vq pl hj hI
    refine ⟨vq, pl, fun i hi => ⟨(hI i hi).1, (hI i hi).2 (by omega)⟩, fun post n hn h => ?_, fun post n hn h => ?_⟩
    · obtain ⟨n, rfl⟩ : ∃ m, n = m + 1 := ⟨n - 1, by omega⟩
      rw [wX_init_229]
      exact br_t (nI_le (a := 24) (by omega) (by omega)) (nm_e (nm_e (nm_e (nm_e h))))
    · obtain ⟨n, rfl⟩ : ∃ m, n = m + 1 := ⟨n - 1, by omega⟩
      rw [wY_init_168]
      exact br_t (nI_le (a := 24) (by omega) (by omega)) (nm_e (nm_e (nm_e (nm_e h))))
  | succ k ih =>
    intro j vq pl hj hI
    obtain ⟨v, cl⟩ := ix_p (x := nI j) 24 rfl (by omega) (by decide)
    obtain ⟨v3, c3⟩ := ix_p (x := 4 * nI j + 3) 96 (ix_a (pk_mul 4 j) 3 rfl) (by omega) (by decide)
    obtain ⟨vq', pl', hI', HX, HY⟩ := ih (j + 1) (upd vq j 1) (upd pl (4 * j + 3) 1) (by omega) (fun i hi => by
      obtain ⟨⟨a, b, c⟩, d⟩ := hI i hi
      rw [pk_un (by omega), pk_un (by omega), pk_un (by omega)]
      refine ⟨⟨a, b, c⟩, fun q => ?_⟩
      by_cases e : i = j
      · subst e
        rw [pk_us, pk_us]
        exact ⟨rfl, rfl⟩
      · rw [pk_un e, pk_un (by omega)]
        exact d (by omega))
    refine ⟨vq', pl', hI', fun post n hn h => ?_, fun post n hn h => ?_⟩
    · obtain ⟨n, rfl⟩ : ∃ m, n = m + 1 := ⟨n - 1, by omega⟩
      rw [wX_init_229]
      exact br_f (nI_ge (b := 24) (by omega) (by decide)) ⟨v, nm_r (e' := upd vq j 1) (by rw [cl]) (nm_r (nI_1 j) (HX post n (by omega) h))⟩
    · obtain ⟨n, rfl⟩ : ∃ m, n = m + 1 := ⟨n - 1, by omega⟩
      rw [wY_init_168]
      exact br_f (nI_ge (b := 24) (by omega) (by decide)) ⟨v3, nm_r (e' := upd pl (4 * j + 3) 1) (by rw [c3]) (nm_r (nI_1 j) (HY post n (by omega) h))⟩
end ODR
theorem i_vc_draw {k : Nat} {u : SX} {v : SY} (I : i_Rel k u v) (hk : k + 6 ≤ 3072) (v1 : Int32) (v2 : Int32) (v3 : Int32) : wpX_draw (fun r u' => wpY_draw (fun r' v' => r' = r ∧ i_Rel (k + 6) u' v') v v1 v2 v3) u v1 v2 v3 := by
  obtain ⟨ns, sl, st, sw, sh, KE, CA, CB, CC, FL, WA, WB, WC, VA, VB, VC, LA, ZZ, co, de, sn, tx, vx, vy, vz, vq, vv, gs, cn, so, sd, sa, sq, rx, re, gr, bl, pl, ry, rfl, rfl, R⟩ := I
  have F : fz_ok ns tx vx vy vz vq gs so sd sa sq pl := ⟨R.1.1, R.2.2.2.2.2, R.2.2.1, R.2.2.2.2.1, R.2.2.2.1⟩
  unfold wpX_draw
  refine mx_btw (fun a => br_f n10 ?_) (fun a => br_t rfl ?_)
  · refine mx_btw (fun b => br_f n10 ?_) (fun b => br_t rfl ?_)
    · refine mx_btw (fun c => br_f n10 ?_) (fun c => br_t rfl ?_)
      · obtain ⟨M, hM, rfl⟩ := ic_of 3 (by decide) a.1 a.2
        obtain ⟨cnt, hcnt, rfl⟩ := ic_of 24 (by decide) b.1 b.2
        have e1 : (24 : Int32) - nI cnt = nI (24 - cnt) := pk_sub (a := 24) hcnt
        obtain ⟨f, hf, rfl⟩ := ic_of (24 - cnt) (by rw [e1]; exact nI_toInt (by omega)) c.1 c.2
        refine mx_z ?_
        rw [wX_draw_48]
        refine br_t (by decide) ?_
        have cM : M = 0 ∨ M = 1 ∨ M = 2 ∨ M = 3 := by omega
        rcases cM with rfl | rfl | rfl | rfl
        · obtain ⟨CA', CB', CC', FL', WA', WB', WC', VA', VB', VC', LA', ZZ', co', de', sn', cn', rx', re', gr', bl', ry', hc', HX, HY⟩ := dp_sim (KE := KE) (tx := tx) (vx := vx) (vy := vy) (vz := vz) (vq := vq) (vv := vv) (gs := gs) (so := so) (sd := sd) (sa := sa) (sq := sq) (pl := pl) (x1 := nI 0) F R.1.2.1 R.1.2.2 (f := f) (cnt := cnt) (by omega) cnt 0 CA CB CC FL WA WB WC VA VB VC LA ZZ co de sn (upd (upd (upd (upd (upd (upd cn 0 0) 1 0) 2 0) 3 0) 4 0) 5 0) rx re gr bl ry R.2.1 (by omega)
          refine br_t rfl ⟨cnt + 1, HX _ (cnt + 1) (by omega) ?_⟩
          unfold wpY_draw
          refine my_in (fun _ => br_f n10 ?_) (fun n => absurd a n)
          refine my_in (fun _ => br_f n10 ?_) (fun n => absurd b n)
          refine my_in (fun _ => br_f n10 ?_) (fun n => absurd c n)
          refine my_z ?_
          rw [wY_draw_46]
          refine br_t (by decide) (br_t rfl ⟨cnt + 1, HY _ (cnt + 1) (by omega) ?_⟩)
          exact br_f (by decide) (br_f (by decide) (br_f (by decide) ⟨rfl, rel_mk ⟨R.1, hc', R.2.2⟩⟩))
        · obtain ⟨CA', CB', CC', FL', WA', WB', WC', VA', VB', VC', LA', ZZ', co', de', sn', cn', rx', re', gr', bl', ry', hc', HX, HY⟩ := dt_sim (KE := KE) (tx := tx) (vx := vx) (vy := vy) (vz := vz) (vq := vq) (vv := vv) (gs := gs) (so := so) (sd := sd) (sa := sa) (sq := sq) (pl := pl) (x1 := nI 1) F R.1.2.1 R.1.2.2 (f := f) (cnt := cnt) (by omega) cnt 0 CA CB CC FL WA WB WC VA VB VC LA ZZ co de sn (upd (upd (upd (upd (upd (upd cn 0 0) 1 0) 2 0) 3 0) 4 0) 5 0) rx re gr bl ry R.2.1 (by omega) (by omega)
          refine br_f (by decide) (br_t rfl ⟨cnt + 1, HX _ (cnt + 1) (by omega) ?_⟩)
          unfold wpY_draw
          refine my_in (fun _ => br_f n10 ?_) (fun n => absurd a n)
          refine my_in (fun _ => br_f n10 ?_) (fun n => absurd b n)
          refine my_in (fun _ => br_f n10 ?_) (fun n => absurd c n)
          refine my_z ?_
          rw [wY_draw_46]
          refine br_t (by decide) (br_f (by decide) (br_t rfl ⟨cnt + 1, HY _ (cnt + 1) (by omega) ?_⟩))
          exact br_f (by decide) (br_f (by decide) ⟨rfl, rel_mk ⟨R.1, hc', R.2.2⟩⟩)
        · obtain ⟨CA', CB', CC', FL', WA', WB', WC', VA', VB', VC', LA', ZZ', co', de', sn', cn', rx', re', gr', bl', ry', hc', HX, HY⟩ := ds_sim (KE := KE) (tx := tx) (vx := vx) (vy := vy) (vz := vz) (vq := vq) (vv := vv) (gs := gs) (so := so) (sd := sd) (sa := sa) (sq := sq) (pl := pl) (x1 := nI 2) F R.1.2.1 R.1.2.2 (f := f) (cnt := cnt) (by omega) cnt 0 CA CB CC FL WA WB WC VA VB VC LA ZZ co de sn (upd (upd (upd (upd (upd (upd cn 0 0) 1 0) 2 0) 3 0) 4 0) 5 0) rx re gr bl ry R.2.1 (by omega) (by omega)
          refine br_f (by decide) (br_f (by decide) (br_t rfl ⟨cnt + 1, HX _ (cnt + 1) (by omega) ?_⟩))
          unfold wpY_draw
          refine my_in (fun _ => br_f n10 ?_) (fun n => absurd a n)
          refine my_in (fun _ => br_f n10 ?_) (fun n => absurd b n)
          refine my_in (fun _ => br_f n10 ?_) (fun n => absurd c n)
          refine my_z ?_
          rw [wY_draw_46]
          refine br_t (by decide) (br_f (by decide) (br_f (by decide) (br_t rfl ⟨cnt + 1, HY _ (cnt + 1) (by omega) ?_⟩)))
          exact br_f (by decide) ⟨rfl, rel_mk ⟨R.1, hc', R.2.2⟩⟩
        · obtain ⟨CA', CB', CC', FL', WA', WB', WC', VA', VB', VC', LA', ZZ', co', de', sn', cn', rx', re', gr', bl', ry', hc', HX, HY⟩ := df_sim (KE := KE) (tx := tx) (vx := vx) (vy := vy) (vz := vz) (vq := vq) (vv := vv) (gs := gs) (so := so) (sd := sd) (sa := sa) (sq := sq) (pl := pl) F R.1.2.1 R.1.2.2 (f := f) (cnt := cnt) (by omega) cnt 1 CA CB CC FL WA WB WC VA VB VC LA ZZ co de sn (upd (upd (upd (upd (upd (upd cn 0 0) 1 0) 2 0) 3 0) 4 0) 5 0) rx re gr bl ry R.2.1 (by omega) (by omega)
          refine br_f (by decide) (br_f (by decide) (br_f (by decide) ⟨cnt + 1, HX _ (cnt + 1) (by omega) ?_⟩))
          unfold wpY_draw
          refine my_in (fun _ => br_f n10 ?_) (fun n => absurd a n)
          refine my_in (fun _ => br_f n10 ?_) (fun n => absurd b n)
          refine my_in (fun _ => br_f n10 ?_) (fun n => absurd c n)
          refine my_z ?_
          rw [wY_draw_46]
          exact br_t (by decide) (br_f (by decide) (br_f (by decide) (br_f (by decide) (br_t rfl ⟨cnt + 1, HY _ (cnt + 1) (by omega) ⟨rfl, rel_mk ⟨R.1, hc', R.2.2⟩⟩⟩))))
      · unfold wX_draw_38
        refine mx_keep ?_
        unfold wpY_draw
        refine my_in (fun _ => br_f n10 ?_) (fun n => absurd a n)
        refine my_in (fun _ => br_f n10 ?_) (fun n => absurd b n)
        refine my_in (fun q => absurd q c) (fun _ => br_t rfl ?_)
        unfold wY_draw_37
        exact my_none ⟨rfl, rel_mk R⟩
    · unfold wX_draw_38
      refine mx_keep ?_
      unfold wpY_draw
      refine my_in (fun _ => br_f n10 ?_) (fun n => absurd a n)
      refine my_in (fun q => absurd q b) (fun _ => br_t rfl ?_)
      unfold wY_draw_37
      exact my_none ⟨rfl, rel_mk R⟩
  · refine mx_keep ?_
    unfold wpY_draw
    exact my_in (fun q => absurd q a) (fun _ => br_t rfl (my_none ⟨rfl, rel_mk R⟩))
theorem i_vc0 : wpX_init (fun u => wpY_init (fun v => i_Rel 0 u v)) := by
  obtain ⟨de', HX, HY⟩ := in_de (NS := 0) (SL := 0) (ST := 0) (SR := 24) (SB := 16) (KE := 0) (CA := 0) (CB := 0) (CC := 0) (FL := 0) (WA := 0) (WB := 0) (WC := 0) (co := fun _ => 0) (sn := fun _ => 0) (tx := fun _ => 0) (vx := fun _ => 0) (vy := fun _ => 0) (vz := fun _ => 0) (vq := fun _ => 0) (vv := fun _ => 0) (gs := fun _ => 0) (cn := fun _ => 0) (so := fun _ => 0) (sd := fun _ => 0) (sa := fun _ => 0) (sq := fun _ => 0) (rx := fun _ => 0) (LE := 0) (TO := 0) (WI := 24) (HI := 16) (VA := 0) (VB := 0) (VC := 0) (LA := 0) (ZZ := 0) (re := fun _ => 0) (gr := fun _ => 0) (bl := fun _ => 0) (pl := fun _ => 0) (ry := fun _ => 0) 384 0 (fun _ => 0) rfl
  obtain ⟨vq', pl', hI, HX2, HY2⟩ := in_vq (NS := 0) (SL := 0) (ST := 0) (SR := 24) (SB := 16) (KE := 0) (CA := 0) (CB := 0) (CC := 0) (FL := 0) (WA := 0) (WB := 0) (WC := 0) (co := fun _ => 0) (de := de') (sn := fun _ => 0) (tx := fun _ => 0) (vx := fun _ => 0) (vy := fun _ => 0) (vz := fun _ => 0) (vv := fun _ => 0) (gs := fun _ => 0) (cn := fun _ => 0) (so := fun _ => 0) (sd := fun _ => 0) (sa := fun _ => 0) (sq := fun _ => 0) (rx := fun _ => 0) (LE := 0) (TO := 0) (WI := 24) (HI := 16) (VA := 0) (VB := 0) (VC := 0) (LA := 0) (ZZ := 0) (re := fun _ => 0) (gr := fun _ => 0) (bl := fun _ => 0) (ry := fun _ => 0) 24 0 (fun _ => 0) (fun _ => 0) rfl (fun i hi => ⟨⟨rfl, rfl, rfl⟩, fun z => absurd z (Nat.not_lt_zero i)⟩)
  refine ⟨385, HX _ 385 (by decide) ⟨25, HX2 _ 25 (by decide) ?_⟩⟩
  refine ⟨385, HY _ 385 (by decide) ⟨25, HY2 _ 25 (by decide) ?_⟩⟩
  refine ⟨0, 0, 0, 24, 16, 0, 0, 0, 0, 0, 0, 0, 0, 0, 0, 0, 0, 0, fun _ => 0, de', fun _ => 0, fun _ => 0, fun _ => 0, fun _ => 0, fun _ => 0, vq', fun _ => 0, upd (upd (upd (upd (fun _ => 0) 0 7) 1 1) 2 7) 8 7, fun _ => 0, fun _ => 0, fun _ => 0, fun _ => 0, fun _ => 0, fun _ => 0, fun _ => 0, fun _ => 0, fun _ => 0, pl', fun _ => 0, rfl, rfl, ?_⟩
  refine ⟨⟨by decide, by decide, by decide⟩, fun k hk => ⟨0, 0, 0, by decide, by decide, by decide, rfl, rfl, rfl, rfl⟩, fun k hk => ⟨0, 0, 0, by decide, by decide, by decide, rfl⟩, fun i hi => ?_, ⟨Or.inl rfl, Or.inl rfl, Or.inl rfl, Or.inl rfl⟩, fun i hi => absurd hi (Nat.not_lt_zero i)⟩
  obtain ⟨⟨p1, p2, p3⟩, q1, q2⟩ := hI i hi
  refine ⟨⟨p1.symm, p2.symm, p3.symm, q1.trans q2.symm⟩, ?_, ?_, ?_, ?_⟩
  · show (0 : Int32).toInt.natAbs ≤ 800
    decide
  · show (0 : Int32).toInt.natAbs ≤ 800
    decide
  · show 0 ≤ (0 : Int32).toInt ∧ (0 : Int32).toInt ≤ 1023
    decide
  · rw [q1]
    decide
