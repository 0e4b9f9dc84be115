/-! ===== acts keep the invariant ===== -/
/-- the front half: all caches forgotten, the reference's side then changed -/
theorem INV_new {g k : am_H} (F : FRS g) (lo : ∀ x i, x < 571 → k x i = g x i) (R : RIv k) (n : g 6 0 = k 572 0 ∧ nr g 7 0 = nr k 572 2) (S : RST k) : INV k := by
  have P := FRS_PI F
  have e7 : nr k 7 0 = nr g 7 0 := nr_fr2 (fun i => lo _ _ (by omega))
  refine ⟨⟨PI_fr P (fun x i a => lo x i (by omega)), Or.inl ?_, fun z => ?_⟩, R, ?_, S⟩
  · rw [lo _ _ (by omega)]; exact F.1.2.2.2
  · rw [lo _ _ (by omega), F.1.2.2.1] at z; omega
  · rw [lo 6 0 (by omega), e7]; exact n
theorem INV_ACh {h g k : am_H} {n' : Int} {r' : Int → Int} (H : INV h) (c : h 171 1 < 20) (A : ACh h g n' r') (B : RAh g k n' r') : INV k := by
  obtain ⟨a1, ⟨a2, a3, a4⟩, ⟨a5, a6⟩, aF⟩ := A
  obtain ⟨b1, ⟨b2, b3, b4, b5⟩, ⟨b6, b7⟩, bR⟩ := B
  unfold CKp at a1
  unfold RKp at b1
  have lo : ∀ x i, x < 571 → k x i = g x i := fun x i z => b1 x i (by omega)
  obtain ⟨⟨P, _, _⟩, R, nn, o, t, p, im⟩ := H
  have hN := SV5_N P.1
  obtain ⟨p1, p2, p3, p4⟩ := p
  have g2 : g 571 2 = h 571 2 := a1 _ _ (by omega)
  have g1 : g 572 1 = h 572 1 := a1 _ _ (by omega)
  have g0 : g 572 0 = h 572 0 := a1 _ _ (by omega)
  have gr : nr g 572 2 = nr h 572 2 := nr_fr2 (fun i => a1 _ _ (by omega))
  have k1 : k 171 1 = h 171 1 + 1 := (lo _ _ (by omega)).trans a2
  refine INV_new aF lo bR ⟨by rw [a5, b6], by rw [a6, b7]⟩ ⟨?_, ?_, ⟨by omega, ⟨by rw [k1, b2, g2, p2.1], by rw [lo 171 0 (by omega), a1 171 0 (by omega), b1 572 1 (by omega), g1]; exact p2.2⟩, fun i i0 i1 => ?_, fun i i0 i1 => ?_⟩, fun j j0 j1 => ?_⟩
  · unfold RSo
    rw [lo 0 15 (by omega), a1 0 15 (by omega), b1 571 29 (by omega), a1 571 29 (by omega)]
    exact ⟨o.1, o.2.1, fun i u v => by rw [lo 498 i (by omega), a1 498 i (by omega), b1 587 i (by omega), a1 587 i (by omega)]; exact o.2.2 i u v⟩
  · unfold RSt TPB
    rw [lo 1 1 (by omega), a1 1 1 (by omega), lo 1 4 (by omega), a1 1 4 (by omega), lo 1 5 (by omega), a1 1 5 (by omega), b1 571 9 (by omega), a1 571 9 (by omega), b1 571 10 (by omega), a1 571 10 (by omega), b1 571 11 (by omega), a1 571 11 (by omega)]
    exact ⟨t.1, ⟨t.2.1.1, fun j u v => by rw [lo 2 j (by omega), a1 2 j (by omega)]; exact t.2.1.2 j u v⟩, fun i u v => by rw [lo 2 i (by omega), a1 2 i (by omega), b1 579 i (by omega), a1 579 i (by omega)]; exact t.2.2.1 i u v, t.2.2.2⟩
  · rw [show (171 : Int) + 1 = 172 by omega, show (171 : Int) + 3 + i = 174 + i by omega, lo 172 i (by omega), nr_fr2 (h := g) (h' := k) (q := 174 + i) (fun j => lo _ _ (by omega))]
    rw [k1] at i1
    by_cases z : i = h 171 1
    · rw [z, a3, a4]; exact hN
    · have w := p3 i i0 (by omega)
      rw [show (171 : Int) + 1 = 172 by omega, show (171 : Int) + 3 + i = 174 + i by omega] at w
      rw [a1 172 i (by omega), nr_fr2 (h := h) (h' := g) (q := 174 + i) (fun j => a1 _ _ (by omega))]
      exact w
  · rw [k1] at i1
    rw [lo 172 i (by omega), nr_fr2 (h := g) (h' := k) (q := 174 + i) (fun j => lo _ _ (by omega)), b1 572 1 (by omega), g1]
    by_cases z : i = h 171 1
    · have e2 : h 171 1 = g 571 2 := by rw [g2]; exact p2.1
      rw [z, a3, a4]
      rw [e2, b3, b4, b5, g0, g1, gr]
      exact ⟨nn.1, rfl, nn.2⟩
    · have w := p4 i i0 (by omega)
      rw [a1 172 i (by omega), nr_fr2 (h := h) (h' := g) (q := 174 + i) (fun j => a1 _ _ (by omega)), b1 574 (22 * i) (by omega), b1 574 (22 * i + 1) (by omega), a1 574 (22 * i) (by omega), a1 574 (22 * i + 1) (by omega)]
      refine ⟨w.1, w.2.1, w.2.2.trans ?_⟩
      refine (nr_cg (h := h) (g := k) (fun y y0 y1 => ?_)).symm
      rw [b1 574 (22 * i + 2 + y) (by omega), a1 574 (22 * i + 2 + y) (by omega)]
  · have pa : am_pa j = 499 + 24 * j := rfl
    rw [b1 578 j (by omega), a1 578 j (by omega), lo (am_pa j) 1 (by omega), a1 (am_pa j) 1 (by omega)]
    exact (im j j0 j1).imp id (fun w => ⟨w.1, IMG_fr w.2 ⟨j0, j1⟩ (fun x i u => (b1 x i (by omega)).trans (a1 x i (by omega)))⟩)

theorem INV_ACu {h g k : am_H} {m : Int} (H : INV h) (hm : 0 ≤ m ∧ m < h 171 1) (A : ACu h g m) (B : RAu g k m) : INV k := by
  obtain ⟨a1, a2, ⟨a5, a6⟩, aF⟩ := A
  obtain ⟨b1, b2, b3, bR⟩ := B
  unfold CKp at a1
  have lo : ∀ x i, x < 571 → k x i = g x i := fun x i z => b1 x i (by omega)
  obtain ⟨⟨P, _, _⟩, R, nn, o, t, p, im⟩ := H
  obtain ⟨p1, p2, p3, p4⟩ := p
  have pm := p4 m hm.1 hm.2
  have k1 : k 171 1 = m := (lo _ _ (by omega)).trans a2
  have k572 : ∀ y, 0 ≤ y → y < 22 → k 572 y = h 574 (22 * m + y) := fun y u v => (b3 y u v).trans (a1 _ _ (by omega))
  have t1 : k 572 1 = h 572 1 := (k572 1 (by omega) (by omega)).trans pm.2.1
  refine INV_new aF lo bR ⟨?_, ?_⟩ ⟨?_, ?_, ⟨by omega, ⟨by rw [k1, b2], by rw [lo 171 0 (by omega), a1 171 0 (by omega), t1]; exact p2.2⟩, fun i i0 i1 => ?_, fun i i0 i1 => ?_⟩, fun j j0 j1 => ?_⟩
  · rw [a5, pm.1, k572 0 (by omega) (by omega), Int.add_zero]
  · rw [a6, pm.2.2]
    refine (nr_cg (h := h) (g := k) (fun y y0 y1 => ?_)).symm
    rw [k572 (2 + y) (by omega) (by omega), Int.add_assoc]
  · unfold RSo
    rw [lo 0 15 (by omega), a1 0 15 (by omega), b1 571 29 (by omega), a1 571 29 (by omega)]
    exact ⟨o.1, o.2.1, fun i u v => by rw [lo 498 i (by omega), a1 498 i (by omega), b1 587 i (by omega), a1 587 i (by omega)]; exact o.2.2 i u v⟩
  · unfold RSt TPB
    rw [lo 1 1 (by omega), a1 1 1 (by omega), lo 1 4 (by omega), a1 1 4 (by omega), lo 1 5 (by omega), a1 1 5 (by omega), b1 571 9 (by omega), a1 571 9 (by omega), b1 571 10 (by omega), a1 571 10 (by omega), b1 571 11 (by omega), a1 571 11 (by omega)]
    exact ⟨t.1, ⟨t.2.1.1, fun j u v => by rw [lo 2 j (by omega), a1 2 j (by omega)]; exact t.2.1.2 j u v⟩, fun i u v => by rw [lo 2 i (by omega), a1 2 i (by omega), b1 579 i (by omega), a1 579 i (by omega)]; exact t.2.2.1 i u v, t.2.2.2⟩
  · rw [k1] at i1
    have w := p3 i i0 (by omega)
    rw [show (171 : Int) + 1 = 172 by omega, show (171 : Int) + 3 + i = 174 + i by omega] at w ⊢
    rw [lo 172 i (by omega), nr_fr2 (h := g) (h' := k) (q := 174 + i) (fun j => lo _ _ (by omega)), a1 172 i (by omega), nr_fr2 (h := h) (h' := g) (q := 174 + i) (fun j => a1 _ _ (by omega))]
    exact w
  · rw [k1] at i1
    have w := p4 i i0 (by omega)
    rw [lo 172 i (by omega), nr_fr2 (h := g) (h' := k) (q := 174 + i) (fun j => lo _ _ (by omega)), a1 172 i (by omega), nr_fr2 (h := h) (h' := g) (q := 174 + i) (fun j => a1 _ _ (by omega)), b1 574 (22 * i) (by omega), b1 574 (22 * i + 1) (by omega), a1 574 (22 * i) (by omega), a1 574 (22 * i + 1) (by omega), t1, nr_fr2 (h := g) (h' := k) (q := 574) (fun j => b1 _ _ (by omega)), nr_fr2 (h := h) (h' := g) (q := 574) (fun j => a1 _ _ (by omega))]
    exact w
  · have pa : am_pa j = 499 + 24 * j := rfl
    rw [b1 578 j (by omega), a1 578 j (by omega), lo (am_pa j) 1 (by omega), a1 (am_pa j) 1 (by omega)]
    exact (im j j0 j1).imp id (fun w => ⟨w.1, IMG_fr w.2 ⟨j0, j1⟩ (fun x i u => (b1 x i (by omega)).trans (a1 x i (by omega)))⟩)
