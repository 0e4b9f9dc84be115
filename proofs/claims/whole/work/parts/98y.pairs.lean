/-! ===== the law's pairs: what the class answers, the reference answers ===== -/
def LWI (t1 t2 : ri_T) (bs : List Value) (h : am_H) (G : ri_M) : Prop := ∃ (v : Int32) (h1 h2 : am_H), (INV h2 ∧ am_wf h2) ∧ ri_ev 60 none t1 (0, lv_args 0 (.ref 0 :: bs), [], am_M h G, 0, 0) (some (.int v), am_M h1 G, 0, 0) ∧ ri_ev 60 none t2 (0, lv_args 0 (.ref 571 :: bs), [], am_M h1 G, 0, 0) (some (.int v), am_M h2 G, 0, 0)
def LWJ (t1 t2 : ri_T) (bs : List Value) (h : am_H) (G : ri_M) : Prop := ∃ (v : Int64) (h1 h2 : am_H), (INV h2 ∧ am_wf h2) ∧ ri_ev 60 none t1 (0, lv_args 0 (.ref 0 :: bs), [], am_M h G, 0, 0) (some (.long v), am_M h1 G, 0, 0) ∧ ri_ev 60 none t2 (0, lv_args 0 (.ref 571 :: bs), [], am_M h1 G, 0, 0) (some (.long v), am_M h2 G, 0, 0)
theorem am_okN : am_okS [] := fun v h => by cases h
theorem am_ok0 : am_ok (mR 1 11 0 0) := Or.inr (Or.inr ⟨by omega, rfl⟩)
theorem am_ok571 : am_ok (mR 1 12 0 571) := Or.inr (Or.inr ⟨by omega, by decide +kernel⟩)
theorem lw_pairI {d1 d2 y1 y2 : Nat} {C1 C2 : am_K} {t1 t2 : ri_T} {as : List am_V} {bs : List Value} {h : am_H} {G : ri_M} (o1 : am_CS d1 y1 C1) (o2 : am_CS d2 y2 C2) (e1 : ri_P y1 = some t1) (e2 : ri_P y2 = some t2) (l1 : d1 ≤ 60) (l2 : d2 ≤ 60) (w : am_wf h) (ok : am_okS as) (hb : as.map am_cv = bs) (H : C1 (mR 1 11 0 0 :: as) h (fun v h1 => C2 (mR 1 12 0 571 :: as) h1 (fun u h2 => ∃ x, v = some (mB x) ∧ u = some (mB x) ∧ INV h2))) : LWI t1 t2 bs h G := by
  obtain ⟨t, a1, a2, a3⟩ := o1 _ _ _ H
  rw [e1] at a1
  cases a1
  obtain ⟨v, h1, b1, b2, b3, b4⟩ := a3 G w (am_okc am_ok0 ok)
  obtain ⟨t, a1, c2, c3⟩ := o2 _ _ _ b1
  rw [e2] at a1
  cases a1
  obtain ⟨u, h2, ⟨x, rfl, rfl, f3⟩, g2, g3, g4⟩ := c3 G b2 (am_okc am_ok571 ok)
  subst hb
  exact ⟨Int32.ofInt x, h1, h2, ⟨f3, g2⟩, ri_ev_d b4 l1, ri_ev_d g4 l2⟩
theorem lw_pairJ {d1 d2 y1 y2 : Nat} {C1 C2 : am_K} {t1 t2 : ri_T} {as : List am_V} {bs : List Value} {h : am_H} {G : ri_M} (o1 : am_CS d1 y1 C1) (o2 : am_CS d2 y2 C2) (e1 : ri_P y1 = some t1) (e2 : ri_P y2 = some t2) (l1 : d1 ≤ 60) (l2 : d2 ≤ 60) (w : am_wf h) (ok : am_okS as) (hb : as.map am_cv = bs) (H : C1 (mR 1 11 0 0 :: as) h (fun v h1 => C2 (mR 1 12 0 571 :: as) h1 (fun u h2 => ∃ x, v = some (mK x) ∧ u = some (mK x) ∧ INV h2))) : LWJ t1 t2 bs h G := by
  obtain ⟨t, a1, a2, a3⟩ := o1 _ _ _ H
  rw [e1] at a1
  cases a1
  obtain ⟨v, h1, b1, b2, b3, b4⟩ := a3 G w (am_okc am_ok0 ok)
  obtain ⟨t, a1, c2, c3⟩ := o2 _ _ _ b1
  rw [e2] at a1
  cases a1
  obtain ⟨u, h2, ⟨x, rfl, rfl, f3⟩, g2, g3, g4⟩ := c3 G b2 (am_okc am_ok571 ok)
  subst hb
  exact ⟨Int64.ofInt x, h1, h2, ⟨f3, g2⟩, ri_ev_d b4 l1, ri_ev_d g4 l2⟩
/-- a question to the class -/
def STP (h h1 : am_H) : Prop := INV h1 ∧ h1 572 0 = h 6 0 ∧ nr h1 572 2 = nr h 7 0
theorem STP_of {h h1 : am_H} (I : INV h1) (n : nr h1 7 0 = nr h 7 0 ∧ h1 6 0 = h 6 0) : STP h h1 := ⟨I, by rw [← I.2.2.1.1, n.2], by rw [← I.2.2.1.2, n.1]⟩
theorem STP_SQ {h h1 : am_H} (I : INV h) (q : SQ h h1 5) : STP h h1 := STP_of (INV_SQ I q) (PI_sq I.1.1 q).2.2.1
theorem STP_PQ {h h1 : am_H} (I : INV h) (q : PQ h h1) : STP h h1 := STP_of (INV_PQ I q) q.2.2.1
theorem STP_SQa {A : Int → Prop} {h h1 : am_H} (I : INV h) (q : SQa A h h1) (hA : ∀ x, A x → (79 ≤ x ∧ x ≤ 152) ∨ (333 ≤ x ∧ x ≤ 497)) : STP h h1 := STP_of (INV_SQa I q hA) q.2.2.1
theorem STP_PQa {A : Int → Prop} {h h1 : am_H} (I : INV h) (q : PQa A h h1) (hA : ∀ x, A x → (79 ≤ x ∧ x ≤ 152) ∨ (333 ≤ x ∧ x ≤ 497)) : STP h h1 := STP_of (INV_PQa I q hA) q.2.2.1
theorem STP_CQ {h h1 : am_H} (I : INV h) (q : CQ h h1) : STP h h1 := STP_of (INV_CQ I q) q.2.2.1
theorem STP_SQl {h h1 : am_H} (I : INV h) (q : SQl h h1) : STP h h1 := STP_of (INV_SQl I q) q.2.2.1
/-- the class acted: nothing of the reference is touched -/
theorem ACT_n {h h1 : am_H} (I : INV h) (f : ∀ x i, 571 ≤ x → h1 x i = h x i) : (h1 572 0 = h 6 0 ∧ nr h1 572 2 = nr h 7 0 ∧ h1 571 2 = h 171 1) ∧ RIv h1 ∧ (0 ≤ h1 571 2 ∧ h1 571 2 ≤ 20) := by
  have e : h1 571 2 = h 171 1 := by rw [f _ _ (by omega)]; exact I.2.2.2.2.2.1.2.1.1.symm
  refine ⟨⟨by rw [f _ _ (by omega)]; exact I.2.2.1.1.symm, ?_, e⟩, RIv_fr I.2.1 (fun x i a => f x i (by omega)), ?_⟩
  · rw [nr_fr2 (h := h) (h' := h1) (q := 572) (fun i => f _ _ (by omega))]; exact I.2.2.1.2.symm
  · rw [e]; exact I.2.2.2.2.2.1.1
/-- what the past holds are nets -/
theorem PST_n {h h1 : am_H} (I : INV h) (f : ∀ x i, 571 ≤ x → h1 x i = h x i) : ∀ i9, 0 ≤ i9 → i9 < h1 571 2 → NT (h1 574 (22 * i9)) (nr h1 574 (22 * i9 + 2)) ∧ CN (h1 574 (22 * i9)) (nr h1 574 (22 * i9 + 2)) := by
  intro i a b
  have e : h1 571 2 = h 171 1 := by rw [f _ _ (by omega)]; exact I.2.2.2.2.2.1.2.1.1.symm
  rw [e] at b
  have s := I.2.2.2.2.2.1.2.2.1 i a b
  have z := I.2.2.2.2.2.1.2.2.2 i a b
  rw [show (171 : Int) + 1 = 172 by omega, show (171 : Int) + 3 + i = 174 + i by omega, z.1, z.2.2] at s
  rw [f _ _ (by omega), nr_fr2 (h := h) (h' := h1) (q := 574) (fun i => f _ _ (by omega))]
  exact s
/-! 1 end -/
theorem lw_q1 {h : am_H} {G : ri_M} (I : INV h) (w : am_wf h) (x1 : Int32) : LWI (tb94, 2, 1) (tb191, 2, 1) [.int x1] h G := by
  refine lw_pairI (as := [mB x1.toInt]) C94_ok C191_ok rfl rfl (by decide) (by decide) w (am_okc (am_okB (am_r32 x1)) am_okN) (by simp [am_cv]) ?_
  refine And.intro rfl (fun h1 q1 => And.intro rfl (fun h2 q2 => ⟨_, rfl, ?_, INV_end I q1 q2⟩))
  rw [q1.1 _ _ (by omega), I.2.2.2.2.1.1]
/-! 2 net -/
theorem lw_q2 {h : am_H} {G : ri_M} (I : INV h) (w : am_wf h) : LWI (tb95, 1, 1) (tb206, 2, 1) [] h G := by
  refine lw_pairI (as := []) C95_ok C206_ok rfl rfl (by decide) (by decide) w am_okN (rfl) ?_
  refine And.intro rfl (And.intro ⟨I.1.1, I.2.2.2.2.1.2.1⟩ (fun h1 q1 => ?_))
  have f : ∀ x i, 571 ≤ x → h1 x i = h x i := fun x i a => (Classical.em _).elim (fun c => (q1.2.1 c).1 x i (by omega)) (fun c => q1.2.2 c x i (by omega))
  have er : rtp h1 = ctp h := rtp_eq I (f _ _ (by omega)) (fun i => f _ _ (by omega))
  have T := I.2.2.2.2.1
  refine And.intro rfl (And.intro ⟨(ACT_n I f).2.1, ?_⟩ (fun h2 q2 => ?_))
  · refine ⟨by rw [f _ _ (by omega), ← T.1]; exact T.2.1.1, fun j a b => ?_⟩
    rw [f _ _ (by omega), ← T.1] at b
    rw [f _ _ (by omega), ← T.2.2.1 j a b]
    exact T.2.1.2 j a b
  · rw [er] at q2 ⊢
    exact ⟨_, rfl, rfl, INV_net I q1 q2⟩
/-! 3 fault -/
theorem lw_q3 {h : am_H} {G : ri_M} (I : INV h) (w : am_wf h) (x1 : Int32) : LWI (tb96, 2, 1) (tb207, 2, 1) [.int x1] h G := by
  refine lw_pairI (as := [mB x1.toInt]) C96_ok C207_ok rfl rfl (by decide) (by decide) w (am_okc (am_okB (am_r32 x1)) am_okN) (by simp [am_cv]) ?_
  refine And.intro rfl (And.intro rfl ⟨_, rfl, ?_, I⟩)
  rw [I.2.2.2.2.1.2.2.2.1, I.2.2.2.2.1.2.2.2.2]
/-! 4 count -/
theorem lw_q4 {h : am_H} {G : ri_M} (I : INV h) (w : am_wf h) (x1 : Int32) : LWI (tb97, 2, 1) (tb225, 2, 1) [.int x1] h G := by
  refine lw_pairI (as := [mB x1.toInt]) C97_ok C225_ok rfl rfl (by decide) (by decide) w (am_okc (am_okB (am_r32 x1)) am_okN) (by simp [am_cv]) ?_
  refine And.intro rfl (And.intro I.1.1.1 (fun h1 q1 => ?_))
  have s := STP_SQ I q1
  have f : ∀ x i, 571 ≤ x → h1 x i = h x i := fun x i a => q1.2.1 x i (by omega) (by omega)
  have z := I.2.2.2
  have e1 : h1 572 1 = h 171 0 := (f _ _ (by omega)).trans z.2.2.1.2.1.2.symm
  have e2 : h1 571 2 = h 171 1 := (f _ _ (by omega)).trans z.2.2.1.2.1.1.symm
  have e3 : h1 571 9 = h 1 1 := (f _ _ (by omega)).trans z.2.1.1.symm
  have e4 : h1 571 29 = h 0 15 := (f _ _ (by omega)).trans z.1.2.1.symm
  refine And.intro rfl (And.intro s.1.2.1 (fun h2 q2 => ⟨_, rfl, ?_, INV_RQ s.1 q2⟩))
  simp only [s.2.1, s.2.2, e1, e2, e3, e4]
/-! 5 line -/
theorem lw_q5 {h : am_H} {G : ri_M} (I : INV h) (w : am_wf h) (x1 : Int32) (x2 : Int32) : LWI (tb98, 3, 1) (tb226, 3, 1) [.int x1, .int x2] h G := by
  refine lw_pairI (as := [mB x1.toInt, mB x2.toInt]) C98_ok C226_ok rfl rfl (by decide) (by decide) w (am_okc (am_okB (am_r32 x1)) (am_okc (am_okB (am_r32 x2)) am_okN)) (by simp [am_cv]) ?_
  refine And.intro rfl (And.intro I.1.1.1 (fun h1 q1 => ?_))
  have s := STP_SQ I q1
  refine And.intro rfl (And.intro s.1.2.1 (fun h2 q2 => ⟨_, rfl, ?_, INV_RQ s.1 q2⟩))
  simp only [s.2.1, s.2.2]
/-! 6 between -/
theorem lw_q6 {h : am_H} {G : ri_M} (I : INV h) (w : am_wf h) (x1 : Int32) (x2 : Int32) : LWI (tb99, 3, 1) (tb228, 3, 1) [.int x1, .int x2] h G := by
  refine lw_pairI (as := [mB x1.toInt, mB x2.toInt]) C99_ok C228_ok rfl rfl (by decide) (by decide) w (am_okc (am_okB (am_r32 x1)) (am_okc (am_okB (am_r32 x2)) am_okN)) (by simp [am_cv]) ?_
  refine And.intro rfl (And.intro I.1.1.1 (fun h1 q1 => ?_))
  have s := STP_SQ I q1
  refine And.intro rfl (And.intro s.1.2.1 (fun h2 q2 => ⟨_, rfl, ?_, INV_RQ s.1 q2⟩))
  simp only [s.2.1, s.2.2]
/-! 7 beside -/
theorem lw_q7 {h : am_H} {G : ri_M} (I : INV h) (w : am_wf h) (x1 : Int32) : LWI (tb100, 2, 1) (tb229, 2, 1) [.int x1] h G := by
  refine lw_pairI (as := [mB x1.toInt]) C100_ok C229_ok rfl rfl (by decide) (by decide) w (am_okc (am_okB (am_r32 x1)) am_okN) (by simp [am_cv]) ?_
  refine And.intro rfl (And.intro I.1.1.1 (And.intro rfl (And.intro I.2.1 ⟨_, rfl, ?_, I⟩)))
  rw [I.2.2.1.1, I.2.2.1.2]
/-! 8 far -/
theorem lw_q8 {h : am_H} {G : ri_M} (I : INV h) (w : am_wf h) (x1 : Int32) (x2 : Int32) : LWI (tb101, 3, 1) (tb230, 3, 1) [.int x1, .int x2] h G := by
  refine lw_pairI (as := [mB x1.toInt, mB x2.toInt]) C101_ok C230_ok rfl rfl (by decide) (by decide) w (am_okc (am_okB (am_r32 x1)) (am_okc (am_okB (am_r32 x2)) am_okN)) (by simp [am_cv]) ?_
  refine And.intro rfl (And.intro I.1.1.1 (fun h1 q1 => ?_))
  have s := STP_SQ I q1
  refine And.intro rfl (And.intro s.1.2.1 (fun h2 q2 => ⟨_, rfl, ?_, INV_RQ s.1 q2⟩))
  simp only [s.2.1, s.2.2]
/-! 9 ways -/
theorem lw_q9 {h : am_H} {G : ri_M} (I : INV h) (w : am_wf h) (x1 : Int32) (x2 : Int32) : LWJ (tb102, 5, 2) (tb231, 6, 2) [.int x1, .int x2] h G := by
  refine lw_pairJ (as := [mB x1.toInt, mB x2.toInt]) C102_ok C231_ok rfl rfl (by decide) (by decide) w (am_okc (am_okB (am_r32 x1)) (am_okc (am_okB (am_r32 x2)) am_okN)) (by simp [am_cv]) ?_
  refine And.intro rfl (And.intro I.1.1.1 (fun h1 q1 => ?_))
  have s := STP_SQa I q1 (fun x hx => by omega)
  refine And.intro rfl (And.intro s.1.2.1 (fun h2 q2 => ⟨_, rfl, ?_, INV_RQ s.1 q2⟩))
  simp only [s.2.1, s.2.2]
/-! 10 amid -/
theorem lw_q10 {h : am_H} {G : ri_M} (I : INV h) (w : am_wf h) (x1 : Int32) (x2 : Int32) : LWI (tb103, 3, 1) (tb233, 3, 1) [.int x1, .int x2] h G := by
  refine lw_pairI (as := [mB x1.toInt, mB x2.toInt]) C103_ok C233_ok rfl rfl (by decide) (by decide) w (am_okc (am_okB (am_r32 x1)) (am_okc (am_okB (am_r32 x2)) am_okN)) (by simp [am_cv]) ?_
  refine And.intro rfl (And.intro I.1.1.1 (fun h1 q1 => ?_))
  have s := STP_SQ I q1
  refine And.intro rfl (And.intro s.1.2.1 (fun h2 q2 => ⟨_, rfl, ?_, INV_RQ s.1 q2⟩))
  simp only [s.2.1, s.2.2]
/-! 11 theta -/
theorem lw_q11 {h : am_H} {G : ri_M} (I : INV h) (w : am_wf h) (x1 : Int32) (x2 : Int32) : LWI (tb104, 8, 1) (tb234, 3, 1) [.int x1, .int x2] h G := by
  refine lw_pairI (as := [mB x1.toInt, mB x2.toInt]) C104_ok C234_ok rfl rfl (by decide) (by decide) w (am_okc (am_okB (am_r32 x1)) (am_okc (am_okB (am_r32 x2)) am_okN)) (by simp [am_cv]) ?_
  refine And.intro rfl (And.intro I.1.1.1 (fun h1 q1 => ?_))
  have s := STP_SQ I q1
  refine And.intro rfl (And.intro s.1.2.1 (fun h2 q2 => ⟨_, rfl, ?_, INV_RQ s.1 q2⟩))
  simp only [s.2.1, s.2.2]
/-! 12 tau -/
theorem lw_q12 {h : am_H} {G : ri_M} (I : INV h) (w : am_wf h) (x1 : Int32) (x2 : Int32) : LWI (tb105, 8, 1) (tb235, 3, 1) [.int x1, .int x2] h G := by
  refine lw_pairI (as := [mB x1.toInt, mB x2.toInt]) C105_ok C235_ok rfl rfl (by decide) (by decide) w (am_okc (am_okB (am_r32 x1)) (am_okc (am_okB (am_r32 x2)) am_okN)) (by simp [am_cv]) ?_
  refine And.intro rfl (And.intro I.1.1.1 (fun h1 q1 => ?_))
  have s := STP_SQ I q1
  refine And.intro rfl (And.intro s.1.2.1 (fun h2 q2 => ⟨_, rfl, ?_, INV_RQ s.1 q2⟩))
  simp only [s.2.1, s.2.2]
/-! 13 first -/
theorem lw_q13 {h : am_H} {G : ri_M} (I : INV h) (w : am_wf h) (x1 : Int32) : LWI (tb106, 4, 1) (tb236, 3, 1) [.int x1] h G := by
  refine lw_pairI (as := [mB x1.toInt]) C106_ok C236_ok rfl rfl (by decide) (by decide) w (am_okc (am_okB (am_r32 x1)) am_okN) (by simp [am_cv]) ?_
  refine And.intro rfl (And.intro I.1.1.1 (fun h1 q1 => ?_))
  have s := STP_SQ I q1
  refine And.intro rfl (And.intro s.1.2.1 (fun h2 q2 => ⟨_, rfl, ?_, INV_RQ s.1 q2⟩))
  simp only [s.2.1, s.2.2]
/-! 14 layer -/
theorem lw_q14 {h : am_H} {G : ri_M} (I : INV h) (w : am_wf h) (x1 : Int32) (x2 : Int32) : LWI (tb107, 3, 1) (tb238, 3, 1) [.int x1, .int x2] h G := by
  refine lw_pairI (as := [mB x1.toInt, mB x2.toInt]) C107_ok C238_ok rfl rfl (by decide) (by decide) w (am_okc (am_okB (am_r32 x1)) (am_okc (am_okB (am_r32 x2)) am_okN)) (by simp [am_cv]) ?_
  refine And.intro rfl (And.intro I.1.1 (fun h1 q1 => ?_))
  have s := STP_PQ I q1
  refine And.intro rfl (And.intro s.1.2.1 (fun h2 q2 => ⟨_, rfl, ?_, INV_RQ s.1 q2⟩))
  simp only [s.2.1, s.2.2]
/-! 15 size -/
theorem lw_q15 {h : am_H} {G : ri_M} (I : INV h) (w : am_wf h) (x1 : Int32) : LWI (tb108, 2, 1) (tb239, 2, 1) [.int x1] h G := by
  refine lw_pairI (as := [mB x1.toInt]) C108_ok C239_ok rfl rfl (by decide) (by decide) w (am_okc (am_okB (am_r32 x1)) am_okN) (by simp [am_cv]) ?_
  refine And.intro rfl (And.intro I.1.1 (fun h1 q1 => ?_))
  have s := STP_PQ I q1
  refine And.intro rfl (And.intro s.1.2.1 (fun h2 q2 => ⟨_, rfl, ?_, INV_RQ s.1 q2⟩))
  simp only [s.2.1, s.2.2]
/-! 16 corner -/
theorem lw_q16 {h : am_H} {G : ri_M} (I : INV h) (w : am_wf h) (x1 : Int32) (x2 : Int32) : LWI (tb109, 3, 1) (tb241, 3, 1) [.int x1, .int x2] h G := by
  refine lw_pairI (as := [mB x1.toInt, mB x2.toInt]) C109_ok C241_ok rfl rfl (by decide) (by decide) w (am_okc (am_okB (am_r32 x1)) (am_okc (am_okB (am_r32 x2)) am_okN)) (by simp [am_cv]) ?_
  refine And.intro rfl (And.intro I.1.1 (fun h1 q1 => ?_))
  have s := STP_PQ I q1
  refine And.intro rfl (And.intro s.1.2.1 (fun h2 q2 => ⟨_, rfl, ?_, INV_RQ s.1 q2⟩))
  simp only [s.2.1, s.2.2]
/-! 17 at -/
theorem lw_q17 {h : am_H} {G : ri_M} (I : INV h) (w : am_wf h) (x1 : Int32) (x2 : Int32) : LWI (tb110, 3, 1) (tb243, 3, 1) [.int x1, .int x2] h G := by
  refine lw_pairI (as := [mB x1.toInt, mB x2.toInt]) C110_ok C243_ok rfl rfl (by decide) (by decide) w (am_okc (am_okB (am_r32 x1)) (am_okc (am_okB (am_r32 x2)) am_okN)) (by simp [am_cv]) ?_
  refine And.intro rfl (And.intro I.1.1 (fun h1 q1 => ?_))
  have s := STP_PQ I q1
  refine And.intro rfl (And.intro s.1.2.1 (fun h2 q2 => ⟨_, rfl, ?_, INV_RQ s.1 q2⟩))
  simp only [s.2.1, s.2.2]
/-! 18 moved -/
theorem lw_q18 {h : am_H} {G : ri_M} (I : INV h) (w : am_wf h) (x1 : Int32) (x2 : Int32) (x3 : Int32) : LWI (tb111, 7, 1) (tb245, 4, 1) [.int x1, .int x2, .int x3] h G := by
  refine lw_pairI (as := [mB x1.toInt, mB x2.toInt, mB x3.toInt]) C111_ok C245_ok rfl rfl (by decide) (by decide) w (am_okc (am_okB (am_r32 x1)) (am_okc (am_okB (am_r32 x2)) (am_okc (am_okB (am_r32 x3)) am_okN))) (by simp [am_cv]) ?_
  refine And.intro rfl (And.intro I.1.1 (fun h1 q1 => ?_))
  have s := STP_PQ I q1
  refine And.intro rfl (And.intro s.1.2.1 (fun h2 q2 => ⟨_, rfl, ?_, INV_RQ s.1 q2⟩))
  simp only [s.2.1, s.2.2]
/-! 19 partFar -/
theorem lw_q19 {h : am_H} {G : ri_M} (I : INV h) (w : am_wf h) (x1 : Int32) (x2 : Int32) (x3 : Int32) : LWI (tb112, 4, 1) (tb246, 4, 1) [.int x1, .int x2, .int x3] h G := by
  refine lw_pairI (as := [mB x1.toInt, mB x2.toInt, mB x3.toInt]) C112_ok C246_ok rfl rfl (by decide) (by decide) w (am_okc (am_okB (am_r32 x1)) (am_okc (am_okB (am_r32 x2)) (am_okc (am_okB (am_r32 x3)) am_okN))) (by simp [am_cv]) ?_
  refine And.intro rfl (And.intro I.1.1 (fun h1 q1 => ?_))
  have s := STP_PQ I q1
  refine And.intro rfl (And.intro s.1.2.1 (fun h2 q2 => ⟨_, rfl, ?_, INV_RQ s.1 q2⟩))
  simp only [s.2.1, s.2.2]
/-! 20 alike -/
theorem lw_q20 {h : am_H} {G : ri_M} (I : INV h) (w : am_wf h) (x1 : Int32) (x2 : Int32) : LWI (tb113, 4, 1) (tb267, 5, 1) [.int x1, .int x2] h G := by
  refine lw_pairI (as := [mB x1.toInt, mB x2.toInt]) C113_ok C267_ok rfl rfl (by decide) (by decide) w (am_okc (am_okB (am_r32 x1)) (am_okc (am_okB (am_r32 x2)) am_okN)) (by simp [am_cv]) ?_
  refine And.intro rfl (And.intro I.1.1 (fun h1 q1 => ?_))
  have s := STP_PQ I q1
  refine And.intro rfl (And.intro s.1.2.1 (fun h2 q2 => ⟨_, rfl, ?_, INV_RQ s.1 q2⟩))
  simp only [s.2.2]
  have hn := SV5_N I.1.1.1
  by_cases c : (0 ≤ x1.toInt ∧ x1.toInt < ncl (ptE (nr h 7 0)) (nl (nr h 7 0))) ∧ (0 ≤ x2.toInt ∧ x2.toInt < ncl (ptE (nr h 7 0)) (nl (nr h 7 0)))
  · rw [ifc_t c, ifc_t c, propext (DGE_iff hn.1 hn.2 c.1 c.2)]
  · rw [ifc_f c, ifc_f c]
/-! 21 symmetries -/
theorem lw_q21 {h : am_H} {G : ri_M} (I : INV h) (w : am_wf h) (x1 : Int32) : LWJ (tb118, 2, 2) (tb268, 2, 2) [.int x1] h G := by
  refine lw_pairJ (as := [mB x1.toInt]) C118_ok C268_ok rfl rfl (by decide) (by decide) w (am_okc (am_okB (am_r32 x1)) am_okN) (by simp [am_cv]) ?_
  refine And.intro rfl (And.intro I.1.1 (fun h1 q1 => ?_))
  have s := STP_PQa I q1 (fun x hx => by omega)
  refine And.intro rfl (And.intro s.1.2.1 (fun h2 q2 => ⟨_, rfl, ?_, INV_RQ s.1 q2⟩))
  simp only [s.2.1, s.2.2]
/-! 22 allSymmetries -/
theorem lw_q22 {h : am_H} {G : ri_M} (I : INV h) (w : am_wf h) : LWJ (tb119, 1, 2) (tb270, 1, 2) [] h G := by
  refine lw_pairJ (as := []) C119_ok C270_ok rfl rfl (by decide) (by decide) w am_okN (rfl) ?_
  refine And.intro rfl (And.intro ⟨I.1.1.1, I.1.2.2⟩ (fun h1 q1 => ?_))
  have s := STP_CQ I q1
  refine And.intro rfl (And.intro s.1.2.1 (fun h2 q2 => ⟨_, rfl, ?_, INV_RQ s.1 q2⟩))
  simp only [s.2.1, s.2.2]
/-! 23 orbit -/
theorem lw_q23 {h : am_H} {G : ri_M} (I : INV h) (w : am_wf h) (x1 : Int32) : LWI (tb120, 2, 1) (tb272, 2, 1) [.int x1] h G := by
  refine lw_pairI (as := [mB x1.toInt]) C120_ok C272_ok rfl rfl (by decide) (by decide) w (am_okc (am_okB (am_r32 x1)) am_okN) (by simp [am_cv]) ?_
  refine And.intro rfl (And.intro ⟨I.1.1.1, I.1.2.2⟩ (fun h1 q1 => ?_))
  have s := STP_CQ I q1
  refine And.intro rfl (And.intro s.1.2.1 (fun h2 q2 => ⟨_, rfl, ?_, INV_RQ s.1 q2⟩))
  simp only [s.2.1, s.2.2]
/-! 24 takes -/
theorem lw_q24 {h : am_H} {G : ri_M} (I : INV h) (w : am_wf h) (x1 : Int32) (x2 : Int32) (x3 : Int32) (x4 : Int32) : LWI (tb121, 6, 1) (tb273, 5, 1) [.int x1, .int x2, .int x3, .int x4] h G := by
  refine lw_pairI (as := [mB x1.toInt, mB x2.toInt, mB x3.toInt, mB x4.toInt]) C121_ok C273_ok rfl rfl (by decide) (by decide) w (am_okc (am_okB (am_r32 x1)) (am_okc (am_okB (am_r32 x2)) (am_okc (am_okB (am_r32 x3)) (am_okc (am_okB (am_r32 x4)) am_okN)))) (by simp [am_cv]) ?_
  refine And.intro rfl (And.intro ⟨I.1.1.1, I.1.2.2⟩ (fun h1 q1 => ?_))
  have s := STP_CQ I q1
  refine And.intro rfl (And.intro s.1.2.1 (fun h2 q2 => ⟨_, rfl, ?_, INV_RQ s.1 q2⟩))
  simp only [s.2.1, s.2.2]
/-! 25 kind -/
theorem lw_q25 {h : am_H} {G : ri_M} (I : INV h) (w : am_wf h) (x1 : Int32) : LWI (tb114, 2, 1) (tb249, 2, 1) [.int x1] h G := by
  refine lw_pairI (as := [mB x1.toInt]) C114_ok C249_ok rfl rfl (by decide) (by decide) w (am_okc (am_okB (am_r32 x1)) am_okN) (by simp [am_cv]) ?_
  refine And.intro rfl (And.intro I.1.1 (fun h1 q1 => ?_))
  have s := STP_PQ I q1
  refine And.intro rfl (And.intro s.1.2.1 (fun h2 q2 => ⟨_, rfl, ?_, INV_RQ s.1 q2⟩))
  simp only [s.2.1, s.2.2]
/-! 26 tell -/
theorem lw_q26 {h : am_H} {G : ri_M} (I : INV h) (w : am_wf h) : LWI (tb115, 2, 1) (tb252, 3, 1) [] h G := by
  refine lw_pairI (as := []) C115_ok C252_ok rfl rfl (by decide) (by decide) w am_okN (rfl) ?_
  refine And.intro rfl (And.intro I.1.1 (fun h1 q1 => ?_))
  have f : ∀ x i, 571 ≤ x → h1 x i = h x i := fun x i a => q1.2.1 x i (by omega) (by omega) (by omega) (by omega) (by omega)
  have z := ACT_n I f
  refine And.intro rfl (And.intro z.2.1 (fun h2 q2 => ⟨_, rfl, ?_, INV_tell I q1 q2⟩))
  simp only [z.1.1, z.1.2.1]
/-! 27 octet -/
theorem lw_q27 {h : am_H} {G : ri_M} (I : INV h) (w : am_wf h) (x1 : Int32) : LWI (tb116, 2, 1) (tb253, 2, 1) [.int x1] h G := by
  refine lw_pairI (as := [mB x1.toInt]) C116_ok C253_ok rfl rfl (by decide) (by decide) w (am_okc (am_okB (am_r32 x1)) am_okN) (by simp [am_cv]) ?_
  have z := I.2.2.2.1
  refine And.intro rfl (And.intro z.1 (And.intro rfl (And.intro (by have z1 := z.1; rw [← z.2.1]; omega) ⟨_, rfl, ?_, I⟩)))
  rw [← z.2.1]
  by_cases c : 0 ≤ x1.toInt ∧ x1.toInt < h 0 15
  · rw [ifc_t c, ifc_t c, z.2.2 _ c.1 c.2]
  · rw [ifc_f c, ifc_f c]
/-! 28 route -/
theorem lw_q28 {h : am_H} {G : ri_M} (I : INV h) (w : am_wf h) (x1 : Int32) (x2 : Int32) (x3 : Int32) : LWI (tb117, 8, 1) (tb255, 8, 1) [.int x1, .int x2, .int x3] h G := by
  refine lw_pairI (as := [mB x1.toInt, mB x2.toInt, mB x3.toInt]) C117_ok C255_ok rfl rfl (by decide) (by decide) w (am_okc (am_okB (am_r32 x1)) (am_okc (am_okB (am_r32 x2)) (am_okc (am_okB (am_r32 x3)) am_okN))) (by simp [am_cv]) ?_
  refine And.intro rfl (And.intro I.1.1 (fun h1 q1 => ?_))
  have s := STP_PQ I q1
  refine And.intro rfl (And.intro s.1.2.1 (fun h2 q2 => ⟨_, rfl, ?_, INV_RQ s.1 q2⟩))
  simp only [s.2.1, s.2.2]
/-! 29 moves -/
theorem lw_q29 {h : am_H} {G : ri_M} (I : INV h) (w : am_wf h) (x1 : Int64) (x2 : Int32) : LWI (tb122, 4, 1) (tb275, 10, 1) [.long x1, .int x2] h G := by
  refine lw_pairI (as := [mK x1.toInt, mB x2.toInt]) C122_ok C275_ok rfl rfl (by decide) (by decide) w (am_okc (am_okK (am_r64 x1)) (am_okc (am_okB (am_r32 x2)) am_okN)) (by simp [am_cv]) ?_
  refine And.intro rfl (And.intro ⟨I.1.1.1, I.1.2.2⟩ (fun h1 q1 => ?_))
  have s := STP_CQ I q1
  refine And.intro rfl (And.intro s.1.2.1 (fun h2 q2 => ⟨_, rfl, ?_, INV_RQ s.1 q2⟩))
  simp only [s.2.1, s.2.2]
/-! 30 fixers -/
theorem lw_q30 {h : am_H} {G : ri_M} (I : INV h) (w : am_wf h) (x1 : Int32) : LWJ (tb123, 3, 2) (tb276, 2, 2) [.int x1] h G := by
  refine lw_pairJ (as := [mB x1.toInt]) C123_ok C276_ok rfl rfl (by decide) (by decide) w (am_okc (am_okB (am_r32 x1)) am_okN) (by simp [am_cv]) ?_
  refine And.intro rfl (And.intro ⟨I.1.1.1, I.1.2.2⟩ (fun h1 q1 => ?_))
  have s := STP_CQ I q1
  refine And.intro rfl (And.intro s.1.2.1 (fun h2 q2 => ⟨_, rfl, ?_, INV_RQ s.1 q2⟩))
  simp only [s.2.1, s.2.2]
/-! 31 orbits -/
theorem lw_q31 {h : am_H} {G : ri_M} (I : INV h) (w : am_wf h) : LWI (tb124, 4, 1) (tb277, 3, 1) [] h G := by
  refine lw_pairI (as := []) C124_ok C277_ok rfl rfl (by decide) (by decide) w am_okN (rfl) ?_
  refine And.intro rfl (And.intro ⟨I.1.1.1, I.1.2.2⟩ (fun h1 q1 => ?_))
  have s := STP_CQ I q1
  refine And.intro rfl (And.intro s.1.2.1 (fun h2 q2 => ⟨_, rfl, ?_, INV_RQ s.1 q2⟩))
  simp only [s.2.1, s.2.2]
/-! 32 shell -/
theorem lw_q32 {h : am_H} {G : ri_M} (I : INV h) (w : am_wf h) (x1 : Int32) (x2 : Int32) : LWI (tb125, 3, 1) (tb278, 5, 1) [.int x1, .int x2] h G := by
  refine lw_pairI (as := [mB x1.toInt, mB x2.toInt]) C125_ok C278_ok rfl rfl (by decide) (by decide) w (am_okc (am_okB (am_r32 x1)) (am_okc (am_okB (am_r32 x2)) am_okN)) (by simp [am_cv]) ?_
  refine And.intro rfl (And.intro I.1.1.1 (fun h1 q1 => ?_))
  have s := STP_SQ I q1
  refine And.intro rfl (And.intro s.1.2.1 (fun h2 q2 => ⟨_, rfl, ?_, INV_RQ s.1 q2⟩))
  simp only [s.2.1, s.2.2]
/-! 33 pairs -/
theorem lw_q33 {h : am_H} {G : ri_M} (I : INV h) (w : am_wf h) (x1 : Int32) : LWI (tb126, 4, 1) (tb279, 5, 1) [.int x1] h G := by
  refine lw_pairI (as := [mB x1.toInt]) C126_ok C279_ok rfl rfl (by decide) (by decide) w (am_okc (am_okB (am_r32 x1)) am_okN) (by simp [am_cv]) ?_
  refine And.intro rfl (And.intro I.1.1.1 (fun h1 q1 => ?_))
  have s := STP_SQ I q1
  refine And.intro rfl (And.intro s.1.2.1 (fun h2 q2 => ⟨_, rfl, ?_, INV_RQ s.1 q2⟩))
  simp only [s.2.1, s.2.2]
/-! 34 colours -/
theorem lw_q34 {h : am_H} {G : ri_M} (I : INV h) (w : am_wf h) : LWI (tb127, 1, 1) (tb286, 1, 1) [] h G := by
  refine lw_pairI (as := []) C127_ok C286_ok rfl rfl (by decide) (by decide) w am_okN (rfl) ?_
  refine And.intro rfl (And.intro I.1.1.1 (fun h1 q1 => ?_))
  have s := STP_SQa I q1 (fun x hx => by omega)
  refine And.intro rfl (And.intro s.1.2.1 (fun h2 q2 => ⟨_, rfl, ?_, INV_RQ s.1 q2⟩))
  simp only [s.2.1, s.2.2]
/-! 35 partColours -/
theorem lw_q35 {h : am_H} {G : ri_M} (I : INV h) (w : am_wf h) (x1 : Int32) : LWI (tb128, 2, 1) (tb287, 2, 1) [.int x1] h G := by
  refine lw_pairI (as := [mB x1.toInt]) C128_ok C287_ok rfl rfl (by decide) (by decide) w (am_okc (am_okB (am_r32 x1)) am_okN) (by simp [am_cv]) ?_
  refine And.intro rfl (And.intro I.1.1 (fun h1 q1 => ?_))
  have s := STP_PQa I q1 (fun x hx => by omega)
  refine And.intro rfl (And.intro s.1.2.1 (fun h2 q2 => ⟨_, rfl, ?_, INV_RQ s.1 q2⟩))
  simp only [s.2.1, s.2.2]
/-! 36 trees -/
theorem lw_q36 {h : am_H} {G : ri_M} (I : INV h) (w : am_wf h) : LWI (tb129, 4, 1) (tb290, 12, 1) [] h G := by
  refine lw_pairI (as := []) C129_ok C290_ok rfl rfl (by decide) (by decide) w am_okN (rfl) ?_
  refine And.intro rfl (And.intro I.1.1.1 (fun h1 q1 => ?_))
  have s := STP_SQa I q1 (fun x hx => by omega)
  refine And.intro rfl (And.intro s.1.2.1 (fun h2 q2 => ⟨_, rfl, ?_, INV_RQ s.1 q2⟩))
  simp only [s.2.1, s.2.2]
/-! 37 width -/
theorem lw_q37 {h : am_H} {G : ri_M} (I : INV h) (w : am_wf h) : LWI (tb130, 3, 1) (tb281, 3, 1) [] h G := by
  refine lw_pairI (as := []) C130_ok C281_ok rfl rfl (by decide) (by decide) w am_okN (rfl) ?_
  refine And.intro rfl (And.intro I.1.1.1 (fun h1 q1 => ?_))
  have s := STP_SQ I q1
  refine And.intro rfl (And.intro s.1.2.1 (fun h2 q2 => ⟨_, rfl, ?_, INV_RQ s.1 q2⟩))
  simp only [s.2.1, s.2.2]
/-! 38 wiener -/
theorem lw_q38 {h : am_H} {G : ri_M} (I : INV h) (w : am_wf h) : LWI (tb131, 4, 1) (tb282, 4, 1) [] h G := by
  refine lw_pairI (as := []) C131_ok C282_ok rfl rfl (by decide) (by decide) w am_okN (rfl) ?_
  refine And.intro rfl (And.intro I.1.1.1 (fun h1 q1 => ?_))
  have s := STP_SQ I q1
  refine And.intro rfl (And.intro s.1.2.1 (fun h2 q2 => ⟨_, rfl, ?_, INV_RQ s.1 q2⟩))
  simp only [s.2.1, s.2.2]
/-! 39 centre -/
theorem lw_q39 {h : am_H} {G : ri_M} (I : INV h) (w : am_wf h) : LWI (tb132, 5, 1) (tb283, 5, 1) [] h G := by
  refine lw_pairI (as := []) C132_ok C283_ok rfl rfl (by decide) (by decide) w am_okN (rfl) ?_
  refine And.intro rfl (And.intro I.1.1.1 (fun h1 q1 => ?_))
  have s := STP_SQ I q1
  refine And.intro rfl (And.intro s.1.2.1 (fun h2 q2 => ⟨_, rfl, ?_, INV_RQ s.1 q2⟩))
  simp only [s.2.1, s.2.2]
/-! 40 even -/
theorem lw_q40 {h : am_H} {G : ri_M} (I : INV h) (w : am_wf h) : LWI (tb133, 1, 1) (tb288, 1, 1) [] h G := by
  refine lw_pairI (as := []) C133_ok C288_ok rfl rfl (by decide) (by decide) w am_okN (rfl) ?_
  refine And.intro rfl (And.intro I.1.1.1 (fun h1 q1 => ?_))
  have s := STP_SQ I q1
  refine And.intro rfl (And.intro s.1.2.1 (fun h2 q2 => ⟨_, rfl, ?_, INV_RQ s.1 q2⟩))
  simp only [s.2.1, s.2.2]
/-! 41 nearer -/
theorem lw_q41 {h : am_H} {G : ri_M} (I : INV h) (w : am_wf h) (x1 : Int32) (x2 : Int32) : LWI (tb134, 7, 1) (tb291, 6, 1) [.int x1, .int x2] h G := by
  refine lw_pairI (as := [mB x1.toInt, mB x2.toInt]) C134_ok C291_ok rfl rfl (by decide) (by decide) w (am_okc (am_okB (am_r32 x1)) (am_okc (am_okB (am_r32 x2)) am_okN)) (by simp [am_cv]) ?_
  refine And.intro rfl (And.intro I.1.1.1 (fun h1 q1 => ?_))
  have s := STP_SQ I q1
  refine And.intro rfl (And.intro s.1.2.1 (fun h2 q2 => ⟨_, rfl, ?_, INV_RQ s.1 q2⟩))
  simp only [s.2.1, s.2.2]
/-! 42 quotient -/
theorem lw_q42 {h : am_H} {G : ri_M} (I : INV h) (w : am_wf h) (x1 : Int32) : LWI (tb135, 2, 1) (tb293, 2, 1) [.int x1] h G := by
  refine lw_pairI (as := [mB x1.toInt]) C135_ok C293_ok rfl rfl (by decide) (by decide) w (am_okc (am_okB (am_r32 x1)) am_okN) (by simp [am_cv]) ?_
  refine And.intro rfl (And.intro I.1.1.1 (fun h1 q1 => ?_))
  have s := STP_SQa I q1 (fun x hx => by omega)
  refine And.intro rfl (And.intro s.1.2.1 (fun h2 q2 => ⟨_, rfl, ?_, INV_RQ s.1 q2.1⟩))
  simp only [s.2.1, s.2.2]
/-! 43 place -/
theorem lw_q43 {h : am_H} {G : ri_M} (I : INV h) (w : am_wf h) (x1 : Int32) (x2 : Int32) : LWI (tb136, 3, 1) (tb294, 3, 1) [.int x1, .int x2] h G := by
  refine lw_pairI (as := [mB x1.toInt, mB x2.toInt]) C136_ok C294_ok rfl rfl (by decide) (by decide) w (am_okc (am_okB (am_r32 x1)) (am_okc (am_okB (am_r32 x2)) am_okN)) (by simp [am_cv]) ?_
  refine And.intro rfl (And.intro I.1.1.1 (fun h1 q1 => ?_))
  have s := STP_SQa I q1 (fun x hx => by omega)
  refine And.intro rfl (And.intro s.1.2.1 (fun h2 q2 => ⟨_, rfl, ?_, INV_RQ s.1 q2⟩))
  simp only [s.2.1, s.2.2]
/-! 44 sideFar -/
theorem lw_q44 {h : am_H} {G : ri_M} (I : INV h) (w : am_wf h) (x1 : Int32) (x2 : Int32) (x3 : Int32) : LWI (tb137, 4, 1) (tb295, 8, 1) [.int x1, .int x2, .int x3] h G := by
  refine lw_pairI (as := [mB x1.toInt, mB x2.toInt, mB x3.toInt]) C137_ok C295_ok rfl rfl (by decide) (by decide) w (am_okc (am_okB (am_r32 x1)) (am_okc (am_okB (am_r32 x2)) (am_okc (am_okB (am_r32 x3)) am_okN))) (by simp [am_cv]) ?_
  refine And.intro rfl (And.intro I.1.1.1 (fun h1 q1 => ?_))
  have s := STP_SQa I q1 (fun x hx => by omega)
  refine And.intro rfl (And.intro s.1.2.1 (fun h2 q2 => ⟨_, rfl, ?_, INV_RQ s.1 q2⟩))
  simp only [s.2.1, s.2.2]
/-! 45 cubic -/
theorem lw_q45 {h : am_H} {G : ri_M} (I : INV h) (w : am_wf h) : LWI (tb138, 2, 1) (tb296, 2, 1) [] h G := by
  refine lw_pairI (as := []) C138_ok C296_ok rfl rfl (by decide) (by decide) w am_okN (rfl) ?_
  refine And.intro rfl (And.intro I.1.1.1 (fun h1 q1 => ?_))
  have s := STP_SQa I q1 (fun x hx => by omega)
  refine And.intro rfl (And.intro s.1.2.1 (fun h2 q2 => ⟨_, rfl, ?_, INV_RQ s.1 q2⟩))
  simp only [s.2.1, s.2.2]
/-! 46 hull -/
theorem lw_q46 {h : am_H} {G : ri_M} (I : INV h) (w : am_wf h) (x1 : Int32) : LWI (tb139, 6, 1) (tb297, 6, 1) [.int x1] h G := by
  refine lw_pairI (as := [mB x1.toInt]) C139_ok C297_ok rfl rfl (by decide) (by decide) w (am_okc (am_okB (am_r32 x1)) am_okN) (by simp [am_cv]) ?_
  refine And.intro rfl (And.intro I.1.1.1 (fun h1 q1 => ?_))
  have s := STP_SQ I q1
  refine And.intro rfl (And.intro s.1.2.1 (fun h2 q2 => ⟨_, rfl, ?_, INV_RQ s.1 q2⟩))
  simp only [s.2.1, s.2.2]
/-! 47 median -/
theorem lw_q47 {h : am_H} {G : ri_M} (I : INV h) (w : am_wf h) (x1 : Int32) (x2 : Int32) (x3 : Int32) : LWI (tb140, 4, 1) (tb299, 4, 1) [.int x1, .int x2, .int x3] h G := by
  refine lw_pairI (as := [mB x1.toInt, mB x2.toInt, mB x3.toInt]) C140_ok C299_ok rfl rfl (by decide) (by decide) w (am_okc (am_okB (am_r32 x1)) (am_okc (am_okB (am_r32 x2)) (am_okc (am_okB (am_r32 x3)) am_okN))) (by simp [am_cv]) ?_
  refine And.intro rfl (And.intro I.1.1.1 (fun h1 q1 => ?_))
  have s := STP_SQ I q1
  refine And.intro rfl (And.intro s.1.2.1 (fun h2 q2 => ⟨_, rfl, ?_, INV_RQ s.1 q2⟩))
  simp only [s.2.1, s.2.2]
/-! 48 medians -/
theorem lw_q48 {h : am_H} {G : ri_M} (I : INV h) (w : am_wf h) : LWI (tb141, 4, 1) (tb300, 4, 1) [] h G := by
  refine lw_pairI (as := []) C141_ok C300_ok rfl rfl (by decide) (by decide) w am_okN (rfl) ?_
  refine And.intro rfl (And.intro I.1.1.1 (fun h1 q1 => ?_))
  have s := STP_SQ I q1
  refine And.intro rfl (And.intro s.1.2.1 (fun h2 q2 => ⟨_, rfl, ?_, INV_RQ s.1 q2⟩))
  simp only [s.2.1, s.2.2]
/-! 49 without -/
theorem lw_q49 {h : am_H} {G : ri_M} (I : INV h) (w : am_wf h) (x1 : Int32) : LWI (tb142, 2, 1) (tb303, 2, 1) [.int x1] h G := by
  refine lw_pairI (as := [mB x1.toInt]) C142_ok C303_ok rfl rfl (by decide) (by decide) w (am_okc (am_okB (am_r32 x1)) am_okN) (by simp [am_cv]) ?_
  refine And.intro rfl (And.intro I.1.1.1 (fun h1 q1 => ?_))
  have s := STP_SQa I q1 (fun x hx => by omega)
  refine And.intro rfl (And.intro s.1.2.1 (fun h2 q2 => ⟨_, rfl, ?_, INV_RQ s.1 q2⟩))
  simp only [s.2.1, s.2.2]
/-! 50 with -/
theorem lw_q50 {h : am_H} {G : ri_M} (I : INV h) (w : am_wf h) (x1 : Int32) (x2 : Int32) : LWI (tb143, 3, 1) (tb304, 4, 1) [.int x1, .int x2] h G := by
  refine lw_pairI (as := [mB x1.toInt, mB x2.toInt]) C143_ok C304_ok rfl rfl (by decide) (by decide) w (am_okc (am_okB (am_r32 x1)) (am_okc (am_okB (am_r32 x2)) am_okN)) (by simp [am_cv]) ?_
  refine And.intro rfl (And.intro I.1.1.1 (fun h1 q1 => ?_))
  have s := STP_SQa I q1 (fun x hx => by omega)
  refine And.intro rfl (And.intro s.1.2.1 (fun h2 q2 => ⟨_, rfl, ?_, INV_RQ s.1 q2⟩))
  simp only [s.2.1, s.2.2]
/-! 51 loosest -/
theorem lw_q51 {h : am_H} {G : ri_M} (I : INV h) (w : am_wf h) : LWI (tb144, 1, 1) (tb305, 6, 1) [] h G := by
  refine lw_pairI (as := []) C144_ok C305_ok rfl rfl (by decide) (by decide) w am_okN (rfl) ?_
  refine And.intro rfl (And.intro ⟨I.1.1.1, I.1.2.1⟩ (fun h1 q1 => ?_))
  have s := STP_SQl I q1
  refine And.intro rfl (And.intro s.1.2.1 (fun h2 q2 => ⟨_, rfl, ?_, INV_RQ s.1 q2⟩))
  simp only [s.2.1, s.2.2]
/-! 52 join -/
theorem lw_q52 {h : am_H} {G : ri_M} (I : INV h) (w : am_wf h) (x1 : Int32) (x2 : Int32) : LWI (tb145, 3, 1) (tb309, 3, 1) [.int x1, .int x2] h G := by
  refine lw_pairI (as := [mB x1.toInt, mB x2.toInt]) C145_ok C309_ok rfl rfl (by decide) (by decide) w (am_okc (am_okB (am_r32 x1)) (am_okc (am_okB (am_r32 x2)) am_okN)) (by simp [am_cv]) ?_
  refine And.intro rfl (And.intro ⟨I.1.1, I.2.2.2.2.2.1.1⟩ (fun h1 q1 => ?_))
  have f : ∀ x i, 571 ≤ x → h1 x i = h x i := fun x i a => (Classical.em _).elim (fun c => (q1.1 c).1 x i (Or.inr (Or.inr (Or.inl (by omega))))) (fun c => by rw [q1.2 c])
  have z := ACT_n I f
  refine And.intro rfl (And.intro z.2 (fun h2 q2 => ?_))
  simp only [z.1.1, z.1.2.1, z.1.2.2] at q2 ⊢
  refine ⟨_, rfl, rfl, (Classical.em _).elim (fun c => INV_ACh I (by omega) (q1.1 c) (q2.1 c)) (fun c => ?_)⟩
  have e := q1.2 c
  subst e
  exact INV_RQ I (q2.2 c)
/-! 53 cut -/
theorem lw_q53 {h : am_H} {G : ri_M} (I : INV h) (w : am_wf h) (x1 : Int32) : LWI (tb146, 2, 1) (tb310, 4, 1) [.int x1] h G := by
  refine lw_pairI (as := [mB x1.toInt]) C146_ok C310_ok rfl rfl (by decide) (by decide) w (am_okc (am_okB (am_r32 x1)) am_okN) (by simp [am_cv]) ?_
  refine And.intro rfl (And.intro ⟨I.1.1, I.2.2.2.2.2.1.1⟩ (fun h1 q1 => ?_))
  have f : ∀ x i, 571 ≤ x → h1 x i = h x i := fun x i a => (Classical.em _).elim (fun c => (q1.1 c).1 x i (Or.inr (Or.inr (Or.inl (by omega))))) (fun c => (q1.2 c).2.1 x i (by omega) (by omega) (by omega))
  have z := ACT_n I f
  refine And.intro rfl (And.intro z.2 (fun h2 q2 => ?_))
  simp only [z.1.1, z.1.2.1, z.1.2.2] at q2 ⊢
  exact ⟨_, rfl, rfl, (Classical.em _).elim (fun c => INV_ACh I (by omega) (q1.1 c) (q2.1 c)) (fun c => INV_RQ (INV_SQa I (q1.2 c) (fun x hx => by omega)) (q2.2 c))⟩
/-! 54 times -/
theorem lw_q54 {h : am_H} {G : ri_M} (I : INV h) (w : am_wf h) (x1 : Int32) (x2 : Int32) : LWI (tb147, 3, 1) (tb311, 3, 1) [.int x1, .int x2] h G := by
  refine lw_pairI (as := [mB x1.toInt, mB x2.toInt]) C147_ok C311_ok rfl rfl (by decide) (by decide) w (am_okc (am_okB (am_r32 x1)) (am_okc (am_okB (am_r32 x2)) am_okN)) (by simp [am_cv]) ?_
  refine And.intro rfl (And.intro ⟨I.1.1, I.2.2.2.2.2.1.1⟩ (fun h1 q1 => ?_))
  have f : ∀ x i, 571 ≤ x → h1 x i = h x i := fun x i a => (Classical.em _).elim (fun c => (q1.1 c).1 x i (Or.inr (Or.inr (Or.inl (by omega))))) (fun c => by rw [q1.2 c])
  have z := ACT_n I f
  refine And.intro rfl (And.intro z.2 (fun h2 q2 => ?_))
  simp only [z.1.1, z.1.2.1, z.1.2.2] at q2 ⊢
  refine ⟨_, rfl, rfl, (Classical.em _).elim (fun c => INV_ACh I (by omega) (q1.1 c) (q2.1 c)) (fun c => ?_)⟩
  have e := q1.2 c
  subst e
  exact INV_RQ I (q2.2 c)
/-! 55 keep -/
theorem lw_q55 {h : am_H} {G : ri_M} (I : INV h) (w : am_wf h) (x1 : Int32) : LWI (tb148, 2, 1) (tb312, 6, 1) [.int x1] h G := by
  refine lw_pairI (as := [mB x1.toInt]) C148_ok C312_ok rfl rfl (by decide) (by decide) w (am_okc (am_okB (am_r32 x1)) am_okN) (by simp [am_cv]) ?_
  refine And.intro rfl (And.intro ⟨I.1.1, I.2.2.2.2.2.1.1⟩ (fun h1 q1 => ?_))
  have f : ∀ x i, 571 ≤ x → h1 x i = h x i := fun x i a => (Classical.em _).elim (fun c => (q1.1 c).1 x i (Or.inr (Or.inr (Or.inl (by omega))))) (fun c => (q1.2 c).2.1 x i (by omega) (by omega) (by omega) (by omega))
  have z := ACT_n I f
  refine And.intro rfl (And.intro z.2 (fun h2 q2 => ?_))
  simp only [z.1.1, z.1.2.1, z.1.2.2] at q2 ⊢
  exact ⟨_, rfl, rfl, (Classical.em _).elim (fun c => INV_ACh I (by omega) (q1.1 c) (q2.1 c)) (fun c => INV_RQ (INV_PQ I (q1.2 c)) (q2.2 c))⟩
/-! 56 image -/
theorem lw_q56 {h : am_H} {G : ri_M} (I : INV h) (w : am_wf h) (x1 : Int32) : LWI (tb149, 3, 1) (tb313, 3, 1) [.int x1] h G := by
  refine lw_pairI (as := [mB x1.toInt]) C149_ok C313_ok rfl rfl (by decide) (by decide) w (am_okc (am_okB (am_r32 x1)) am_okN) (by simp [am_cv]) ?_
  refine And.intro rfl (And.intro ⟨I.1.1, I.2.2.2.2.2.1.1⟩ (fun h1 q1 => ?_))
  have f : ∀ x i, 571 ≤ x → h1 x i = h x i := fun x i a => (Classical.em _).elim (fun c => (q1.1 c).1 x i (by have pa : am_pa x1.toInt = 499 + 24 * x1.toInt := rfl; omega)) (fun c => by rw [q1.2 c])
  have z := ACT_n I f
  refine And.intro rfl (And.intro z.2 (fun h2 q2 => ?_))
  simp only [z.1.1, z.1.2.1, z.1.2.2] at q2 ⊢
  refine ⟨_, rfl, rfl, (Classical.em _).elim (fun c => INV_ACi I c.1 (q1.1 c) (q2.1 c)) (fun c => ?_)⟩
  rw [q2.2 c, q1.2 c]
  exact I
/-! 57 back -/
theorem lw_q57 {h : am_H} {G : ri_M} (I : INV h) (w : am_wf h) (x1 : Int32) : LWI (tb150, 3, 1) (tb314, 3, 1) [.int x1] h G := by
  refine lw_pairI (as := [mB x1.toInt]) C150_ok C314_ok rfl rfl (by decide) (by decide) w (am_okc (am_okB (am_r32 x1)) am_okN) (by simp [am_cv]) ?_
  have hi := I.2.2.2.2.2.2
  refine And.intro rfl (And.intro ⟨I.1.1, I.2.2.2.2.2.1.1, fun k a b => ?_⟩ (fun h1 q1 => ?_))
  · rcases hi k a b with c | c
    · rw [c.2]
      exact ⟨by omega, fun i i0 i1 => by omega⟩
    · rw [c.2.2.1.1]
      exact ⟨by have := c.2.1; omega, c.2.2.2.1⟩
  have f : ∀ x i, 571 ≤ x → h1 x i = h x i := fun x i a => (Classical.em _).elim (fun c => (q1.1 c).1 x i (by omega)) (fun c => by rw [q1.2 c])
  have z := ACT_n I f
  refine And.intro rfl (And.intro ⟨z.2.1, z.2.2, fun k a b hk => ?_⟩ (fun h2 q2 => ?_))
  · rw [f _ _ (by omega)] at hk
    rcases hi k a b with c | c
    · exact absurd c.1 hk
    · have s := c.2.2.2.1 (h 576 k) (by have := c.2.1; omega) (by omega)
      rw [c.2.2.2.2.2.1, c.2.2.2.2.2.2] at s
      rw [f _ _ (by omega), f _ _ (by omega), nr_fr2 (h := h) (h' := h1) (q := 575) (fun i => f _ _ (by omega))]
      exact ⟨c.2.1, s⟩
  have e : ∀ k, 0 ≤ k ∧ k < 3 → (h1 578 k = 0 ↔ h (am_pa k) 1 = 0) := fun k hk => by
    rw [f _ _ (by omega)]
    rcases hi k hk.1 hk.2 with c | c
    · exact ⟨fun _ => c.2, fun _ => c.1⟩
    · exact ⟨fun q => by omega, fun q => by have := c.2.1; have := c.2.2.1.1; omega⟩
  by_cases c : 0 ≤ x1.toInt ∧ x1.toInt < 3
  · have e1 := propext (e _ c)
    rw [e1] at q2
    refine ⟨_, rfl, by rw [e1], (Classical.em _).elim (fun c => INV_ACb I c.1 ?_ (q1.1 c) (q2.1 c)) (fun c => ?_)⟩
    · rcases hi _ c.1.1 c.1.2 with d | d
      · exact absurd d.2 c.2
      · exact d.1
    · rw [q2.2 c, q1.2 c]; exact I
  · refine ⟨_, rfl, by rw [ifc_f c, ifc_f c], ?_⟩
    rw [q2.2 (fun d => c d.1), q1.2 (fun d => c d.1)]
    exact I
/-! 58 undo -/
theorem lw_q58 {h : am_H} {G : ri_M} (I : INV h) (w : am_wf h) : LWI (tb151, 1, 1) (tb315, 1, 1) [] h G := by
  refine lw_pairI (as := []) C151_ok C315_ok rfl rfl (by decide) (by decide) w am_okN (rfl) ?_
  have hp := I.2.2.2.2.2.1
  refine And.intro rfl (And.intro ⟨I.1.1, hp.1, hp.2.2.1⟩ (fun h1 q1 => ?_))
  have f : ∀ x i, 571 ≤ x → h1 x i = h x i := fun x i a => (Classical.em _).elim (fun c => (q1.1 c).1 x i (Or.inr (Or.inr (Or.inl (by omega))))) (fun c => by rw [q1.2 c])
  have z := ACT_n I f
  refine And.intro rfl (And.intro ⟨z.2.1, z.2.2, PST_n I f⟩ (fun h2 q2 => ?_))
  simp only [z.1.1, z.1.2.1, z.1.2.2] at q2 ⊢
  refine ⟨_, rfl, rfl, (Classical.em _).elim (fun c => INV_ACu I (by omega) (q1.1 c) (q2.1 c)) (fun c => ?_)⟩
  rw [q2.2 c, q1.2 c]
  exact I
/-! 59 anew -/
theorem lw_q59 {h : am_H} {G : ri_M} (I : INV h) (w : am_wf h) : LWI (tb152, 2, 1) (tb316, 2, 1) [] h G := by
  refine lw_pairI (as := []) C152_ok C316_ok rfl rfl (by decide) (by decide) w am_okN (rfl) ?_
  have hp := I.2.2.2.2.2.1
  refine And.intro rfl (And.intro ⟨I.1.1, hp.1, hp.2.2.1⟩ (fun h1 q1 => ?_))
  have f : ∀ x i, 571 ≤ x → h1 x i = h x i := fun x i a => (Classical.em _).elim (fun c => (q1.1 c).1 x i (Or.inr (Or.inr (Or.inl (by omega))))) (fun c => by rw [q1.2 c])
  have z := ACT_n I f
  refine And.intro rfl (And.intro ⟨z.2.1, z.2.2, PST_n I f⟩ (fun h2 q2 => ?_))
  simp only [z.1.1, z.1.2.1, z.1.2.2] at q2 ⊢
  refine ⟨_, rfl, rfl, (Classical.em _).elim (fun c => INV_ACu I (by omega) (q1.1 c) (q2.1 c)) (fun c => ?_)⟩
  rw [q2.2 c, q1.2 c]
  exact I
