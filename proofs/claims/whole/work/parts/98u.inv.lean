/-! ===== what holds between class and reference ===== -/
def IMG (h : am_H) (k : Int) : Prop := (0 ≤ h 576 k ∧ h 576 k ≤ 20) ∧ (h (am_pa k) 1 = h 576 k + 1 ∧ h (am_pa k) 0 = h 575 (22 * k + 1)) ∧ STG h (am_pa k) (h 576 k + 1) ∧ (∀ i, 0 ≤ i → i < h 576 k → h (am_pa k + 1) i = h 577 (440 * k + 22 * i) ∧ h 577 (440 * k + 22 * i + 1) = h 575 (22 * k + 1) ∧ nr h (am_pa k + 3 + i) 0 = nr h 577 (440 * k + 22 * i + 2)) ∧ h (am_pa k + 1) (h 576 k) = h 575 (22 * k) ∧ nr h (am_pa k + 3 + h 576 k) 0 = nr h 575 (22 * k + 2)
def RSo (h : am_H) : Prop := (0 ≤ h 0 15 ∧ h 0 15 ≤ 64) ∧ h 0 15 = h 571 29 ∧ ∀ i, 0 ≤ i → i < h 0 15 → h 498 i = h 587 i
def RSt (h : am_H) : Prop := h 1 1 = h 571 9 ∧ TPB h 2 (h 1 1) ∧ (∀ i, 0 ≤ i → i < h 1 1 → h 2 i = h 579 i) ∧ h 1 4 = h 571 10 ∧ h 1 5 = h 571 11
def RSp (h : am_H) : Prop := (0 ≤ h 171 1 ∧ h 171 1 ≤ 20) ∧ (h 171 1 = h 571 2 ∧ h 171 0 = h 572 1) ∧ STG h 171 (h 171 1) ∧ ∀ i, 0 ≤ i → i < h 171 1 → h 172 i = h 574 (22 * i) ∧ h 574 (22 * i + 1) = h 572 1 ∧ nr h (174 + i) 0 = nr h 574 (22 * i + 2)
def RSi (h : am_H) : Prop := ∀ k, 0 ≤ k → k < 3 → (h 578 k = 0 ∧ h (am_pa k) 1 = 0) ∨ (h 578 k = 1 ∧ IMG h k)
def RST (h : am_H) : Prop := RSo h ∧ RSt h ∧ RSp h ∧ RSi h
def INV (h : am_H) : Prop := (PI h ∧ LSI h ∧ CHI h) ∧ RIv h ∧ (h 6 0 = h 572 0 ∧ nr h 7 0 = nr h 572 2) ∧ RST h
def RSC (x i : Int) : Prop := x = 1 ∨ x = 2 ∨ (x = 0 ∧ i = 15) ∨ (171 ≤ x ∧ x ≤ 194) ∨ (498 ≤ x ∧ x ≤ 570) ∨ x = 572 ∨ (574 ≤ x ∧ x ≤ 579) ∨ x = 587 ∨ (x = 571 ∧ (i = 2 ∨ i = 9 ∨ i = 10 ∨ i = 11 ∨ i = 29))
theorem STG_fr {h g : am_H} {o m : Int} (S : STG h o m) (hm : m ≤ 21) (e : ∀ x i, o < x → x ≤ o + 23 → g x i = h x i) : STG g o m := fun i a b => by
  rw [nr_fr2 (h := h) (h' := g) (q := o + 3 + i) (fun j => e _ _ (by omega) (by omega)), e _ _ (by omega) (by omega)]
  exact S i a b
theorem IMG_fr {h g : am_H} {k : Int} (H : IMG h k) (hk : 0 ≤ k ∧ k < 3) (e : ∀ x i, ((499 ≤ x ∧ x ≤ 570) ∨ (575 ≤ x ∧ x ≤ 578)) → g x i = h x i) : IMG g k := by
  obtain ⟨a, b, c, d, f, z⟩ := H
  have pa : am_pa k = 499 + 24 * k := rfl
  have e6 : g 576 k = h 576 k := e _ _ (by omega)
  refine ⟨by rw [e6]; exact a, ?_, ?_, fun i i0 i1 => ?_, ?_, ?_⟩
  · rw [e6, e _ _ (by omega), e _ _ (by omega), e _ _ (by omega)]; exact b
  · rw [e6]; exact STG_fr c (by omega) (fun x i u v => e x i (by omega))
  · rw [e6] at i1
    have w := d i i0 i1
    rw [e _ _ (by omega), e _ _ (by omega), e _ _ (by omega), e _ _ (by omega), nr_fr2 (h := h) (h' := g) (q := am_pa k + 3 + i) (fun j => e _ _ (by omega)), nr_fr2 (h := h) (h' := g) (q := 577) (fun j => e _ _ (by omega))]
    exact w
  · rw [e6, e _ _ (by omega), e _ _ (by omega)]; exact f
  · rw [e6, nr_fr2 (h := h) (h' := g) (q := am_pa k + 3 + h 576 k) (fun j => e _ _ (by omega)), nr_fr2 (h := h) (h' := g) (q := 575) (fun j => e _ _ (by omega))]; exact z
theorem RSo_fr {h g : am_H} (H : RSo h) (e : ∀ x i, RSC x i → g x i = h x i) : RSo g := by
  unfold RSC at e
  unfold RSo
  rw [e 0 15 (by omega), e 571 29 (by omega)]
  exact ⟨H.1, H.2.1, fun i a b => by rw [e _ _ (by omega), e _ _ (by omega)]; exact H.2.2 i a b⟩
theorem RSt_fr {h g : am_H} (H : RSt h) (e : ∀ x i, RSC x i → g x i = h x i) : RSt g := by
  unfold RSC at e
  unfold RSt TPB
  rw [e 1 1 (by omega), e 571 9 (by omega), e 1 4 (by omega), e 571 10 (by omega), e 1 5 (by omega), e 571 11 (by omega)]
  exact ⟨H.1, ⟨H.2.1.1, fun j a b => by rw [e _ _ (by omega)]; exact H.2.1.2 j a b⟩, fun i a b => by rw [e _ _ (by omega), e _ _ (by omega)]; exact H.2.2.1 i a b, H.2.2.2⟩
theorem RSp_fr {h g : am_H} (H : RSp h) (e : ∀ x i, RSC x i → g x i = h x i) : RSp g := by
  unfold RSC at e
  have l := H.1
  unfold RSp
  rw [e 171 1 (by omega), e 571 2 (by omega), e 171 0 (by omega), e 572 1 (by omega)]
  refine ⟨H.1, H.2.1, STG_fr H.2.2.1 (by omega) (fun x i u v => e x i (by omega)), fun i a b => ?_⟩
  have w := H.2.2.2 i a b
  rw [e 172 i (by omega), e 574 _ (by omega), e 574 _ (by omega), nr_fr2 (h := h) (h' := g) (q := 174 + i) (fun j => e _ _ (by omega)), nr_fr2 (h := h) (h' := g) (q := 574) (fun j => e _ _ (by omega))]
  exact w
theorem RSi_fr {h g : am_H} (H : RSi h) (e : ∀ x i, RSC x i → g x i = h x i) : RSi g := fun k a b => by
  unfold RSC at e
  have pa : am_pa k = 499 + 24 * k := rfl
  rw [e 578 k (by omega), e (am_pa k) 1 (by omega)]
  exact (H k a b).imp id (fun w => ⟨w.1, IMG_fr w.2 ⟨a, b⟩ (fun x i u => e x i (by omega))⟩)
theorem RST_fr {h g : am_H} (H : RST h) (e : ∀ x i, RSC x i → g x i = h x i) : RST g := ⟨RSo_fr H.1 e, RSt_fr H.2.1 e, RSp_fr H.2.2.1 e, RSi_fr H.2.2.2 e⟩
theorem LSI_fr {h g : am_H} (H : LSI h) (e : g 0 18 = h 0 18) (n : nr g 7 0 = nr h 7 0 ∧ g 6 0 = h 6 0) : LSI g := by
  unfold LSI
  rw [e, n.1, n.2]
  exact H
/-- the class was asked -/
theorem INV_c {h g : am_H} (H : INV h) (P : PI g) (L : LSI g) (C : CHI g) (n : nr g 7 0 = nr h 7 0 ∧ g 6 0 = h 6 0) (f : ∀ x i, (RSC x i ∨ 571 ≤ x) → g x i = h x i) : INV g := by
  refine ⟨⟨P, L, C⟩, RIv_fr H.2.1 (fun x i a => f x i (Or.inr (by omega))), ?_, RST_fr H.2.2.2 (fun x i a => f x i (Or.inl a))⟩
  rw [n.1, n.2, f 572 0 (Or.inr (by omega)), nr_fr2 (h := h) (h' := g) (q := 572) (fun i => f _ _ (Or.inr (by omega)))]
  exact H.2.2.1
theorem INV_PQa {A : Int → Prop} {h g : am_H} (H : INV h) (q : PQa A h g) (hA : ∀ x, A x → (79 ≤ x ∧ x ≤ 152) ∨ (333 ≤ x ∧ x ≤ 497)) : INV g := by
  have f : ∀ x i, ¬ (8 < x ∧ x ≤ 78) → ¬ (x = 5 ∧ 4 ≤ i ∧ i ≤ 6) → ¬ (153 ≤ x ∧ x ≤ 170) → ¬ (x = 0 ∧ i = 16) → ¬ ((79 ≤ x ∧ x ≤ 152) ∨ (333 ≤ x ∧ x ≤ 497)) → g x i = h x i := fun x i a b c d e => q.2.1 x i a b c d (fun z => e (hA x z))
  refine INV_c H q.1 (LSI_fr H.1.2.1 (f _ _ (by omega) (by omega) (by omega) (by omega) (by omega)) q.2.2.1) (CHI_fr H.1.2.2 (f _ _ (by omega) (by omega) (by omega) (by omega) (by omega)) q.1.1 q.2.2.2.1 q.2.2.1.2 q.2.2.1.1 (fun x i a b _ _ _ _ => f x i (by omega) (by omega) (by omega) (by omega) (by omega))) q.2.2.1 (fun x i a => ?_)
  unfold RSC at a
  exact f x i (by omega) (by omega) (by omega) (by omega) (by omega)
theorem INV_PQ {h g : am_H} (H : INV h) (q : PQ h g) : INV g := INV_PQa (A := fun _ => False) H (PQa_of q) (fun _ z => z.elim)
theorem INV_SQ {h g : am_H} (H : INV h) (q : SQ h g 5) : INV g := INV_PQ H (PI_sq H.1.1 q)
theorem INV_SQa {A : Int → Prop} {h g : am_H} (H : INV h) (q : SQa A h g) (hA : ∀ x, A x → (79 ≤ x ∧ x ≤ 152) ∨ (333 ≤ x ∧ x ≤ 497)) : INV g := by
  have f : ∀ x i, ¬ (8 < x ∧ x ≤ 78) → ¬ (x = 5 ∧ 4 ≤ i ∧ i ≤ 6) → ¬ ((79 ≤ x ∧ x ≤ 152) ∨ (333 ≤ x ∧ x ≤ 497)) → g x i = h x i := fun x i a b e => q.2.1 x i a b (fun z => e (hA x z))
  have P : PI g := by
    have hn := SV5_N H.1.1.1
    refine ⟨q.1, fun p a b => by rw [f _ _ (by omega) (by omega) (by omega)]; exact H.1.1.2.1 p a b, fun z => ?_⟩
    rw [q.2.2.1.1, q.2.2.1.2]
    exact PTS_fr (np_4 hn.1 hn.2) (H.1.1.2.2 (by rw [← f _ _ (by omega) (by omega) (by omega)]; exact z)) (fun x i a b => f x i (by omega) (by omega) (by omega))
  refine INV_c H P (LSI_fr H.1.2.1 (f _ _ (by omega) (by omega) (by omega)) q.2.2.1) (CHI_fr H.1.2.2 (f _ _ (by omega) (by omega) (by omega)) q.1 q.2.2.2.1 q.2.2.1.2 q.2.2.1.1 (fun x i a b _ _ _ _ => f x i (by omega) (by omega) (by omega))) q.2.2.1 (fun x i a => ?_)
  unfold RSC at a
  exact f x i (by omega) (by omega) (by omega)
theorem INV_CQ {h g : am_H} (H : INV h) (q : CQ h g) : INV g := by
  have f := q.2.1
  have P : PI g := by
    have hn := SV5_N H.1.1.1
    refine ⟨q.1, fun p a b => by rw [f _ _ (by omega) (by omega) (by omega) (by omega)]; exact H.1.1.2.1 p a b, fun z => ?_⟩
    rw [q.2.2.1.1, q.2.2.1.2]
    exact PTS_fr (np_4 hn.1 hn.2) (H.1.1.2.2 (by rw [← f _ _ (by omega) (by omega) (by omega) (by omega)]; exact z)) (fun x i a b => f x i (by omega) (by omega) (by omega) (by omega))
  refine INV_c H P (LSI_fr H.1.2.1 (f _ _ (by omega) (by omega) (by omega) (by omega)) q.2.2.1) q.2.2.2.2 q.2.2.1 (fun x i a => ?_)
  unfold RSC at a
  exact f x i (by omega) (by omega) (by omega) (by omega)
theorem INV_SQl {h g : am_H} (H : INV h) (q : SQl h g) : INV g := by
  have f := q.2.1
  have P : PI g := by
    have hn := SV5_N H.1.1.1
    refine ⟨q.1, fun p a b => by rw [f _ _ (by omega) (by omega) (by omega) (by omega)]; exact H.1.1.2.1 p a b, fun z => ?_⟩
    rw [q.2.2.1.1, q.2.2.1.2]
    exact PTS_fr (np_4 hn.1 hn.2) (H.1.1.2.2 (by rw [← f _ _ (by omega) (by omega) (by omega) (by omega)]; exact z)) (fun x i a b => f x i (by omega) (by omega) (by omega) (by omega))
  refine INV_c H P q.2.2.2.1 (CHI_fr H.1.2.2 (f _ _ (by omega) (by omega) (by omega) (by omega)) q.1 q.2.2.2.2 q.2.2.1.2 q.2.2.1.1 (fun x i a b _ _ _ _ => f x i (by omega) (by omega) (by omega) (by omega))) q.2.2.1 (fun x i a => ?_)
  unfold RSC at a
  exact f x i (by omega) (by omega) (by omega) (by omega)
/-- the reference was asked -/
theorem INV_RQ {h g : am_H} (H : INV h) (q : RQ h g) : INV g := by
  have lo : ∀ x i, x < 571 → g x i = h x i := fun x i a => q.1 x i (Or.inl a)
  have n := RQ_n q
  have e7 : nr g 7 0 = nr h 7 0 := nr_fr2 (fun i => lo _ _ (by omega))
  have e6 : g 6 0 = h 6 0 := lo _ _ (by omega)
  have SG : SV g 5 := SV_fr5 H.1.1.1 (fun x i a b => lo x i (by omega))
  refine ⟨⟨PI_fr H.1.1 (fun x i a => lo x i (by omega)), LSI_fr H.1.2.1 (lo _ _ (by omega)) ⟨e7, e6⟩, CHI_fr H.1.2.2 (lo _ _ (by omega)) SG (fun z => by rw [lo _ _ (by omega)]; exact z) e6 e7 (fun x i a b _ _ _ _ => lo x i (by omega))⟩, q.2, ?_, RST_fr H.2.2.2 (fun x i a => q.1 x i ?_)⟩
  · rw [e6, e7, n.1, n.2]; exact H.2.2.1
  · unfold RSC at a
    unfold PR
    omega
