/-! ===== image keeps the invariant; the tapes are read alike ===== -/
theorem rtp_eq {h g : am_H} (H : INV h) (e9 : g 571 9 = h 571 9) (e : ∀ i, g 579 i = h 579 i) : rtp g = ctp h := by
  obtain ⟨_, t, _, _⟩ := H.2.2.2
  funext j
  unfold rtp ctp tpn
  rw [e9, ← t.1]
  by_cases c : 0 ≤ j ∧ j < h 1 1
  · rw [if_pos c, if_pos c, e]; exact (t.2.2.1 j c.1 c.2).symm
  · rw [if_neg c, if_neg c]
theorem IMG_f2 {h g : am_H} {k : Int} (H : IMG h k) (hk : 0 ≤ k ∧ k < 3) (e : ∀ x i, am_pa k ≤ x → x ≤ am_pa k + 23 → g x i = h x i) (e5 : ∀ i, 22 * k ≤ i → i < 22 * k + 22 → g 575 i = h 575 i) (e6 : g 576 k = h 576 k) (e7 : ∀ i, 440 * k ≤ i → i < 440 * k + 440 → g 577 i = h 577 i) : IMG g k := by
  obtain ⟨a, b, c, d, f, z⟩ := H
  refine ⟨by rw [e6]; exact a, ?_, ?_, fun i i0 i1 => ?_, ?_, ?_⟩
  · rw [e6, e _ _ (by omega) (by omega), e _ _ (by omega) (by omega), e5 (22 * k + 1) (by omega) (by omega)]; exact b
  · rw [e6]; exact STG_fr c (by omega) (fun x i u v => e x i (by omega) (by omega))
  · rw [e6] at i1
    have w := d i i0 i1
    rw [e (am_pa k + 1) i (by omega) (by omega), e7 (440 * k + 22 * i) (by omega) (by omega), e7 (440 * k + 22 * i + 1) (by omega) (by omega), e5 (22 * k + 1) (by omega) (by omega), nr_fr2 (h := h) (h' := g) (q := am_pa k + 3 + i) (fun j => e _ _ (by omega) (by omega)), nr_cg (h := h) (g := g) (q := 577) (q' := 577) (o := 440 * k + 22 * i + 2) (o' := 440 * k + 22 * i + 2) (fun y u v => e7 _ (by omega) (by omega))]
    exact w
  · rw [e6, e (am_pa k + 1) (h 576 k) (by omega) (by omega), e5 (22 * k) (by omega) (by omega)]; exact f
  · rw [e6, nr_fr2 (h := h) (h' := g) (q := am_pa k + 3 + h 576 k) (fun j => e _ _ (by omega) (by omega)), nr_cg (h := h) (g := g) (q := 575) (q' := 575) (o := 22 * k + 2) (o' := 22 * k + 2) (fun y u v => e5 _ (by omega) (by omega))]; exact z
theorem INV_ACi {h g k : am_H} {j : Int} (H : INV h) (hj : 0 ≤ j ∧ j < 3) (A : ACi h g j) (B : RAi g k j) : INV k := by
  obtain ⟨a1, ⟨a2, a3⟩, a4, a5, a6⟩ := A
  obtain ⟨b1, ⟨b2, b3, b4⟩, b5, ⟨b6, b7⟩, b8⟩ := B
  have pa : am_pa j = 499 + 24 * j := rfl
  obtain ⟨o, t, p, im⟩ := H.2.2.2
  have nn := H.2.2.1
  have hN := SV5_N H.1.1.1
  have p1 := p.1
  have p2 := p.2.1
  have lo : ∀ x i, x < 571 → k x i = g x i := fun x i z => b1 x i (by omega)
  have kh : ∀ x i, ¬ (am_pa j ≤ x ∧ x ≤ am_pa j + 23) → ¬ (575 ≤ x ∧ x ≤ 578) → k x i = h x i := fun x i u v => (b1 x i v).trans (a1 x i u)
  have g2 : g 571 2 = h 171 1 := (a1 _ _ (by omega)).trans p2.1.symm
  rw [g2] at b6 b8
  have k5 : ∀ y, 0 ≤ y → y < 22 → k 575 (22 * j + y) = h 572 y := fun y u v => (b5 y u v).trans (a1 _ _ (by omega))
  have k7 : ∀ y, 0 ≤ y → y < 22 * h 171 1 → k 577 (440 * j + y) = h 574 y := fun y u v => (b8 y u v).trans (a1 _ _ (by omega))
  refine INV_mid H (PI_fr H.1.1 (fun x i a => a1 x i (by omega))) lo (fun x i a => a1 x i (by omega)) (fun z => by rw [a1 5 4 (by omega)]; exact z) ⟨nr_fr2 (fun i => a1 _ _ (by omega)), a1 _ _ (by omega)⟩ (RIv_fr H.2.1 (fun x i a => kh x i (by omega) (by omega))) ⟨kh _ _ (by omega) (by omega), nr_fr2 (fun i => kh _ _ (by omega) (by omega))⟩ ⟨?_, ?_, ?_, fun j' j0 j1 => ?_⟩
  · unfold RSo
    rw [kh 0 15 (by omega) (by omega), kh 571 29 (by omega) (by omega)]
    exact ⟨o.1, o.2.1, fun i u v => by rw [kh 498 i (by omega) (by omega), kh 587 i (by omega) (by omega)]; exact o.2.2 i u v⟩
  · unfold RSt TPB
    rw [kh 1 1 (by omega) (by omega), kh 571 9 (by omega) (by omega), kh 1 4 (by omega) (by omega), kh 1 5 (by omega) (by omega), kh 571 10 (by omega) (by omega), kh 571 11 (by omega) (by omega)]
    exact ⟨t.1, ⟨t.2.1.1, fun j u v => by rw [kh 2 j (by omega) (by omega)]; exact t.2.1.2 j u v⟩, fun i u v => by rw [kh 2 i (by omega) (by omega), kh 579 i (by omega) (by omega)]; exact t.2.2.1 i u v, t.2.2.2⟩
  · unfold RSp
    rw [kh 171 1 (by omega) (by omega), kh 571 2 (by omega) (by omega), kh 171 0 (by omega) (by omega), kh 572 1 (by omega) (by omega)]
    refine ⟨p.1, p.2.1, STG_fr p.2.2.1 (by omega) (fun x i u v => kh x i (by omega) (by omega)), fun i a c => ?_⟩
    have w := p.2.2.2 i a c
    rw [kh 172 i (by omega) (by omega), kh 574 (22 * i) (by omega) (by omega), kh 574 (22 * i + 1) (by omega) (by omega), nr_fr2 (h := h) (h' := k) (q := 174 + i) (fun j => kh _ _ (by omega) (by omega)), nr_fr2 (h := h) (h' := k) (q := 574) (fun j => kh _ _ (by omega) (by omega))]
    exact w
  · have pa' : am_pa j' = 499 + 24 * j' := rfl
    by_cases z : j' = j
    · rw [z]
      refine Or.inr ⟨b7, ⟨by rw [b6]; exact p1, ⟨by rw [b6, lo (am_pa j) 1 (by omega)]; exact a3, by rw [lo (am_pa j) 0 (by omega), a2, k5 1 (by omega) (by omega)]; exact p2.2⟩, fun i i0 i1 => ?_, fun i i0 i1 => ?_, ?_, ?_⟩⟩
      · rw [b6] at i1
        rw [lo (am_pa j + 1) i (by omega), nr_fr2 (h := g) (h' := k) (q := am_pa j + 3 + i) (fun y => lo _ _ (by omega))]
        by_cases y : i = h 171 1
        · rw [y, a5, a6]; exact hN
        · have c := a4 i i0 (by omega)
          have w := p.2.2.1 i i0 (by omega)
          rw [show (171 : Int) + 1 = 172 by omega, show (171 : Int) + 3 + i = 174 + i by omega] at w
          rw [c.1, c.2]
          exact w
      · rw [b6] at i1
        have c := a4 i i0 i1
        have w := p.2.2.2 i i0 i1
        rw [lo (am_pa j + 1) i (by omega), nr_fr2 (h := g) (h' := k) (q := am_pa j + 3 + i) (fun y => lo _ _ (by omega)), c.1, c.2, k7 (22 * i) (by omega) (by omega), k5 1 (by omega) (by omega), show 440 * j + 22 * i + 1 = 440 * j + (22 * i + 1) by omega, k7 (22 * i + 1) (by omega) (by omega)]
        refine ⟨w.1, w.2.1, w.2.2.trans (nr_cg (h := h) (g := k) (fun y y0 y1 => ?_)).symm⟩
        rw [show 440 * j + 22 * i + 2 + y = 440 * j + (22 * i + 2 + y) by omega, k7 (22 * i + 2 + y) (by omega) (by omega)]
      · have e := k5 0 (by omega) (by omega)
        rw [Int.add_zero] at e
        rw [b6, lo (am_pa j + 1) (h 171 1) (by omega), a5, e]
        exact nn.1
      · rw [b6, nr_fr2 (h := g) (h' := k) (q := am_pa j + 3 + h 171 1) (fun y => lo _ _ (by omega)), a6]
        refine nn.2.trans (nr_cg (h := h) (g := k) (fun y y0 y1 => ?_)).symm
        rw [Int.add_assoc, k5 (2 + y) (by omega) (by omega)]
    · have h8 : k 578 j' = h 578 j' := (b3 j' z).2.trans (a1 _ _ (by omega))
      have h1 : k (am_pa j') 1 = h (am_pa j') 1 := kh _ _ (by omega) (by omega)
      rw [h8, h1]
      exact (im j' j0 j1).imp id (fun w => ⟨w.1, IMG_f2 w.2 ⟨j0, j1⟩ (fun x i u v => kh x i (by omega) (by omega)) (fun i u v => (b2 i (by omega)).trans (a1 _ _ (by omega))) ((b3 j' z).1.trans (a1 _ _ (by omega))) (fun i u v => (b4 i (by omega)).trans (a1 _ _ (by omega)))⟩)
