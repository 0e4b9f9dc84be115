/-! ===== tell, end, back keep the invariant ===== -/
theorem INV_mid {h g k : am_H} (H : INV h) (P : PI g) (lo : ∀ x i, x < 571 → k x i = g x i) (f : ∀ x i, ((196 ≤ x ∧ x ≤ 332) ∨ (x = 0 ∧ (i = 17 ∨ i = 18))) → g x i = h x i) (f4 : h 5 4 = 1 → g 5 4 = 1) (n : nr g 7 0 = nr h 7 0 ∧ g 6 0 = h 6 0) (R : RIv k) (m : k 572 0 = h 572 0 ∧ nr k 572 2 = nr h 572 2) (S : RST k) : INV k := by
  have e7 : nr k 7 0 = nr g 7 0 := nr_fr2 (fun i => lo _ _ (by omega))
  have e6 : k 6 0 = g 6 0 := lo _ _ (by omega)
  have PK : PI k := PI_fr P (fun x i a => lo x i (by omega))
  refine ⟨⟨PK, LSI_fr H.1.2.1 ((lo 0 18 (by omega)).trans (f 0 18 (by omega))) ⟨e7.trans n.1, e6.trans n.2⟩, CHI_fr H.1.2.2 ((lo 0 17 (by omega)).trans (f 0 17 (by omega))) PK.1 (fun z => by rw [lo 5 4 (by omega)]; exact f4 z) (e6.trans n.2) (e7.trans n.1) (fun x i a b _ _ _ _ => (lo x i (by omega)).trans (f x i (by omega)))⟩, R, ?_, S⟩
  rw [e6, e7, n.1, n.2, m.1, m.2]
  exact H.2.2.1
theorem INV_end {h g k : am_H} {n : Int} (H : INV h) (A : (∀ x9 i9, ¬ (x9 = 1 ∧ i9 = 1) → g x9 i9 = h x9 i9) ∧ g 1 1 = ifc (0 ≤ n ∧ n ≤ h 1 1) n (h 1 1)) (B : (∀ x9 i9, ¬ (x9 = 571 ∧ i9 = 9) → k x9 i9 = g x9 i9) ∧ k 571 9 = ifc (0 ≤ n ∧ n ≤ g 571 9) n (g 571 9)) : INV k := by
  have lo : ∀ x i, x < 571 → k x i = g x i := fun x i z => B.1 x i (by omega)
  have kh : ∀ x i, ¬ (x = 1 ∧ i = 1) → ¬ (x = 571 ∧ i = 9) → k x i = h x i := fun x i a b => (B.1 x i b).trans (A.1 x i a)
  have g9 : g 571 9 = h 571 9 := A.1 _ _ (by omega)
  obtain ⟨o, t, p, im⟩ := H.2.2.2
  have k1 : k 1 1 = ifc (0 ≤ n ∧ n ≤ h 1 1) n (h 1 1) := (lo 1 1 (by omega)).trans A.2
  have k9 : k 571 9 = k 1 1 := by rw [B.2, g9, k1, t.1]
  have le : 0 ≤ k 1 1 ∧ k 1 1 ≤ h 1 1 := by
    have b := t.2.1.1
    rw [k1]
    by_cases c : 0 ≤ n ∧ n ≤ h 1 1
    · rw [ifc_t c]; exact c
    · rw [ifc_f c]; omega
  refine INV_mid H (PI_fr H.1.1 (fun x i a => A.1 x i (by omega))) lo (fun x i a => A.1 x i (by omega)) (fun z => by rw [A.1 5 4 (by omega)]; exact z) ⟨nr_fr2 (fun i => A.1 _ _ (by omega)), A.1 _ _ (by omega)⟩ (RIv_fr H.2.1 (fun x i a => kh x i (by omega) (by omega))) ⟨kh _ _ (by omega) (by omega), nr_fr2 (fun i => kh _ _ (by omega) (by omega))⟩ ⟨?_, ?_, ?_, ?_⟩
  · unfold RSo
    rw [kh 0 15 (by omega) (by omega), kh 571 29 (by omega) (by omega)]
    exact ⟨o.1, o.2.1, fun i u v => by rw [kh 498 i (by omega) (by omega), kh 587 i (by omega) (by omega)]; exact o.2.2 i u v⟩
  · have b := t.2.1.1
    unfold RSt TPB
    rw [k9, kh 1 4 (by omega) (by omega), kh 1 5 (by omega) (by omega), kh 571 10 (by omega) (by omega), kh 571 11 (by omega) (by omega)]
    exact ⟨rfl, ⟨by omega, fun j u v => by rw [kh 2 j (by omega) (by omega)]; exact t.2.1.2 j u (by omega)⟩, fun i u v => by rw [kh 2 i (by omega) (by omega), kh 579 i (by omega) (by omega)]; exact t.2.2.1 i u (by omega), t.2.2.2⟩
  · have l := p.1
    unfold RSp
    rw [kh 171 1 (by omega) (by omega), kh 571 2 (by omega) (by omega), kh 171 0 (by omega) (by omega), kh 572 1 (by omega) (by omega)]
    refine ⟨p.1, p.2.1, STG_fr p.2.2.1 (by omega) (fun x i u v => kh x i (by omega) (by omega)), fun i a c => ?_⟩
    have w := p.2.2.2 i a c
    rw [kh 172 i (by omega) (by omega), kh 574 (22 * i) (by omega) (by omega), kh 574 (22 * i + 1) (by omega) (by omega), nr_fr2 (h := h) (h' := k) (q := 174 + i) (fun j => kh _ _ (by omega) (by omega)), nr_fr2 (h := h) (h' := k) (q := 574) (fun j => kh _ _ (by omega) (by omega))]
    exact w
  · intro j a c
    have pa : am_pa j = 499 + 24 * j := rfl
    rw [kh 578 j (by omega) (by omega), kh (am_pa j) 1 (by omega) (by omega)]
    exact (im j a c).imp id (fun w => ⟨w.1, IMG_fr w.2 ⟨a, c⟩ (fun x i u => kh x i (by omega) (by omega))⟩)
theorem INV_ACb {h g k : am_H} {j : Int} (H : INV h) (hj : 0 ≤ j ∧ j < 3) (hi : h 578 j = 1) (A : ACb h g j) (B : RAb g k j) : INV k := by
  obtain ⟨a1, ⟨a2, a3⟩, a4, ⟨a5, a6⟩, aF⟩ := A
  obtain ⟨b1, b2, b3, b4, bR⟩ := B
  have lo : ∀ x i, x < 571 → k x i = g x i := fun x i z => b1 x i (by omega)
  obtain ⟨o, t, p, im⟩ := H.2.2.2
  have pa : am_pa j = 499 + 24 * j := rfl
  obtain ⟨m1, m2, m3, m4, m5, m6⟩ : IMG h j := ((im j hj.1 hj.2).resolve_left (fun z => by have := z.1; omega)).2
  rw [m2.1, show h 576 j + 1 - 1 = h 576 j by omega] at a3 a4 a5 a6
  have g5 : ∀ i, g 575 i = h 575 i := fun i => a1 _ _ (by omega)
  have g7 : ∀ i, g 577 i = h 577 i := fun i => a1 _ _ (by omega)
  have g6 : g 576 j = h 576 j := a1 _ _ (by omega)
  rw [g6] at b3 b4
  have k1 : k 171 1 = h 576 j := (lo _ _ (by omega)).trans a3
  have k572 : ∀ y, 0 ≤ y → y < 22 → k 572 y = h 575 (22 * j + y) := fun y u v => (b2 y u v).trans (g5 _)
  have k574 : ∀ y, 0 ≤ y → y < 22 * h 576 j → k 574 y = h 577 (440 * j + y) := fun y u v => (b4 y u v).trans (g7 _)
  refine INV_new aF lo bR ⟨?_, ?_⟩ ⟨?_, ?_, ⟨by omega, ⟨by rw [k1, b3], by rw [lo 171 0 (by omega), a2, m2.2, k572 1 (by omega) (by omega)]⟩, fun i i0 i1 => ?_, fun i i0 i1 => ?_⟩, fun j' j0 j1 => ?_⟩
  · rw [a5, m5, k572 0 (by omega) (by omega), Int.add_zero]
  · rw [a6, m6]
    refine (nr_cg (h := h) (g := k) (fun y y0 y1 => ?_)).symm
    rw [k572 (2 + y) (by omega) (by omega), Int.add_assoc]
  · unfold RSo
    rw [lo 0 15 (by omega), a1 0 15 (by omega), b1 571 29 (by omega), a1 571 29 (by omega)]
    exact ⟨o.1, o.2.1, fun i u v => by rw [lo 498 i (by omega), a1 498 i (by omega), b1 587 i (by omega), a1 587 i (by omega)]; exact o.2.2 i u v⟩
  · unfold RSt TPB
    rw [lo 1 1 (by omega), a1 1 1 (by omega), lo 1 4 (by omega), a1 1 4 (by omega), lo 1 5 (by omega), a1 1 5 (by omega), b1 571 9 (by omega), a1 571 9 (by omega), b1 571 10 (by omega), a1 571 10 (by omega), b1 571 11 (by omega), a1 571 11 (by omega)]
    exact ⟨t.1, ⟨t.2.1.1, fun j u v => by rw [lo 2 j (by omega), a1 2 j (by omega)]; exact t.2.1.2 j u v⟩, fun i u v => by rw [lo 2 i (by omega), a1 2 i (by omega), b1 579 i (by omega), a1 579 i (by omega)]; exact t.2.2.1 i u v, t.2.2.2⟩
  · rw [k1] at i1
    have w := m3 i i0 (by omega)
    have c := a4 i i0 i1
    rw [show (171 : Int) + 1 = 172 by omega, show (171 : Int) + 3 + i = 174 + i by omega, lo 172 i (by omega), nr_fr2 (h := g) (h' := k) (q := 174 + i) (fun j => lo _ _ (by omega)), c.1, c.2]
    exact w
  · rw [k1] at i1
    have w := m4 i i0 i1
    have c := a4 i i0 i1
    rw [lo 172 i (by omega), nr_fr2 (h := g) (h' := k) (q := 174 + i) (fun j => lo _ _ (by omega)), c.1, c.2, k574 (22 * i) (by omega) (by omega), k574 (22 * i + 1) (by omega) (by omega), k572 1 (by omega) (by omega), ← Int.add_assoc]
    refine ⟨w.1, w.2.1, w.2.2.trans (nr_cg (h := h) (g := k) (fun y y0 y1 => ?_)).symm⟩
    rw [k574 (22 * i + 2 + y) (by omega) (by omega)]
    congr 1
    omega
  · have pa' : am_pa j' = 499 + 24 * j' := rfl
    rw [b1 578 j' (by omega), a1 578 j' (by omega), lo (am_pa j') 1 (by omega), a1 (am_pa j') 1 (by omega)]
    exact (im j' j0 j1).imp id (fun w => ⟨w.1, IMG_fr w.2 ⟨j0, j1⟩ (fun x i u => (b1 x i (by omega)).trans (a1 x i (by omega)))⟩)
theorem ttl_64 {n : Int} {r : Int → Int} (hN : NT n r) (hC : CN n r) : (ttl n r).length ≤ 64 := by
  have h4 := np_4 hN hC
  unfold ttl
  by_cases c : ncl (ptE r) (nl r) = 0
  · rw [if_pos c, strl_len, sl_7]; decide
  · rw [if_neg c]
    have := ttk_len n r (ncl (ptE r) (nl r)).toNat
    omega
theorem INV_tell {h g k : am_H} (H : INV h) (A : TLQ h g) (B : TRQ g k) : INV k := by
  obtain ⟨a1, a2, a3, a4, a5, a6⟩ := A
  obtain ⟨b1, b2, b3, b4⟩ := B
  unfold PR at b2
  have lo : ∀ x i, x < 571 → k x i = g x i := fun x i z => b2 x i (by omega) (by omega) (by omega)
  have gh : ∀ x i, ¬ (8 < x ∧ x ≤ 78) → ¬ (x = 5 ∧ 4 ≤ i ∧ i ≤ 6) → ¬ (153 ≤ x ∧ x ≤ 170) → ¬ (x = 0 ∧ (i = 15 ∨ i = 16)) → x ≠ 498 → g x i = h x i := a2
  have kh : ∀ x i, (x = 1 ∨ x = 2 ∨ (171 ≤ x ∧ x ≤ 194) ∨ (499 ≤ x ∧ x ≤ 570) ∨ x = 572 ∨ (574 ≤ x ∧ x ≤ 579) ∨ (x = 571 ∧ (i = 2 ∨ i = 9 ∨ i = 10 ∨ i = 11))) → k x i = h x i := fun x i z => (b2 x i (by omega) (by omega) (by omega)).trans (gh x i (by omega) (by omega) (by omega) (by omega) (by omega))
  obtain ⟨o, t, p, im⟩ := H.2.2.2
  have nn := H.2.2.1
  have hN := SV5_N H.1.1.1
  have g0 : g 572 0 = h 572 0 := gh _ _ (by omega) (by omega) (by omega) (by omega) (by omega)
  have gr : nr g 572 2 = nr h 572 2 := nr_fr2 (fun i => gh _ _ (by omega) (by omega) (by omega) (by omega) (by omega))
  refine INV_mid H a1 lo (fun x i a => gh x i (by omega) (by omega) (by omega) (by omega) (by omega)) a6 a3 b1 ⟨kh _ _ (by omega), nr_fr2 (fun i => kh _ _ (by omega))⟩ ⟨?_, ?_, ?_, ?_⟩
  · unfold RSo
    by_cases c : 0 < h 6 0
    · have x := a4 c
      have y := b3 (by rw [g0, ← nn.1]; exact c)
      rw [g0, gr, ← nn.1, ← nn.2] at y
      have l := ttl_64 hN.1 hN.2
      rw [lo 0 15 (by omega), x.1, y.1]
      refine ⟨by omega, rfl, fun i u v => ?_⟩
      have e1 := x.2 i.toNat (by omega)
      have e2 := y.2 i.toNat (by omega)
      rw [show ((i.toNat : Nat) : Int) = i by omega] at e1 e2
      rw [lo 498 i (by omega), e1, e2]
    · have x := a5 c
      have y := b4 (by rw [g0, ← nn.1]; exact c)
      have g29 : g 571 29 = h 571 29 := gh _ _ (by omega) (by omega) (by omega) (by omega) (by omega)
      have g87 : ∀ i, g 587 i = h 587 i := fun i => gh _ _ (by omega) (by omega) (by omega) (by omega) (by omega)
      rw [lo 0 15 (by omega), x.1, y.1, g29]
      exact ⟨o.1, o.2.1, fun i u v => by rw [lo 498 i (by omega), x.2 i, y.2 i, g87 i]; exact o.2.2 i u v⟩
  · unfold RSt TPB
    rw [kh 1 1 (by omega), kh 571 9 (by omega), kh 1 4 (by omega), kh 1 5 (by omega), kh 571 10 (by omega), kh 571 11 (by omega)]
    exact ⟨t.1, ⟨t.2.1.1, fun j u v => by rw [kh 2 j (by omega)]; exact t.2.1.2 j u v⟩, fun i u v => by rw [kh 2 i (by omega), kh 579 i (by omega)]; exact t.2.2.1 i u v, t.2.2.2⟩
  · have l := p.1
    unfold RSp
    rw [kh 171 1 (by omega), kh 571 2 (by omega), kh 171 0 (by omega), kh 572 1 (by omega)]
    refine ⟨p.1, p.2.1, STG_fr p.2.2.1 (by omega) (fun x i u v => kh x i (by omega)), fun i a c => ?_⟩
    have w := p.2.2.2 i a c
    rw [kh 172 i (by omega), kh 574 (22 * i) (by omega), kh 574 (22 * i + 1) (by omega), nr_fr2 (h := h) (h' := k) (q := 174 + i) (fun j => kh _ _ (by omega)), nr_fr2 (h := h) (h' := k) (q := 574) (fun j => kh _ _ (by omega))]
    exact w
  · intro j a c
    have pa : am_pa j = 499 + 24 * j := rfl
    rw [kh 578 j (by omega), kh (am_pa j) 1 (by omega)]
    exact (im j a c).imp id (fun w => ⟨w.1, IMG_fr w.2 ⟨a, c⟩ (fun x i u => kh x i (by omega))⟩)
theorem INV_net {h g k : am_H} {Z : Int × Int × Int × Int × (Int → Int)} (H : INV h) (A : NTC h g Z) (B : NTR g k Z) : INV k := by
  obtain ⟨⟨a1, a2, a3⟩, a4, a5⟩ := A
  obtain ⟨⟨b1, b2, b3⟩, b4, b5⟩ := B
  obtain ⟨o, t, p, im⟩ := H.2.2.2
  have tp : ∀ q : am_H, q 1 1 = 0 → q 571 9 = 0 → q 1 4 = Z.1 → q 1 5 = Z.2.1 → q 571 10 = Z.1 → q 571 11 = Z.2.1 → RSt q := fun q c1 c2 c3 c4 c5 c6 => by
    unfold RSt TPB
    rw [c1, c2, c3, c4, c5, c6]
    exact ⟨rfl, ⟨by omega, fun j u v => by omega⟩, fun i u v => by omega, rfl, rfl⟩
  by_cases c : Z.1 = 0 ∧ CN Z.2.2.2.1 Z.2.2.2.2
  · obtain ⟨f, ⟨n1, n2⟩, ⟨p1, p2⟩, F⟩ := a4 c
    obtain ⟨f', ⟨m1, m2, m3⟩, m4, R⟩ := b4 c
    have lo : ∀ x i, x < 571 → k x i = g x i := fun x i z => f' x i (by omega)
    refine INV_new F lo R ⟨by rw [n1, m1], by rw [n2, m2]⟩ ⟨?_, tp k ((lo _ _ (by omega)).trans a1) b1 ((lo _ _ (by omega)).trans a2) ((lo _ _ (by omega)).trans a3) b2 b3, ?_, fun j j0 j1 => ?_⟩
    · unfold RSo
      rw [lo 0 15 (by omega), f 0 15 (by omega), f' 571 29 (by omega), f 571 29 (by omega)]
      exact ⟨o.1, o.2.1, fun i u v => by rw [lo 498 i (by omega), f 498 i (by omega), f' 587 i (by omega), f 587 i (by omega)]; exact o.2.2 i u v⟩
    · have k1 : k 171 1 = 0 := (lo _ _ (by omega)).trans p2
      unfold RSp
      rw [k1, m4, lo 171 0 (by omega), p1, m3]
      exact ⟨by omega, ⟨rfl, rfl⟩, fun i u v => by omega, fun i u v => by omega⟩
    · have pa : am_pa j = 499 + 24 * j := rfl
      rw [f' 578 j (by omega), f 578 j (by omega), lo (am_pa j) 1 (by omega), f (am_pa j) 1 (by omega)]
      exact (im j j0 j1).imp id (fun w => ⟨w.1, IMG_fr w.2 ⟨j0, j1⟩ (fun x i u => (f' x i (by omega)).trans (f x i (by omega)))⟩)
  · have f := a5 c
    obtain ⟨f', R⟩ := b5 c
    have lo : ∀ x i, x < 571 → k x i = g x i := fun x i z => f' x i (by omega)
    have k572 : ∀ i, 0 ≤ i → i < 22 → k 572 i = h 572 i := fun i u v => (f' _ _ (by omega)).trans (f _ _ (by omega))
    have kr : nr k 572 2 = nr h 572 2 := nr_cg (h := h) (g := k) (fun y u v => k572 _ (by omega) (by omega))
    have kh : ∀ x i, (x = 0 ∨ (171 ≤ x ∧ x ≤ 194) ∨ (498 ≤ x ∧ x ≤ 570) ∨ (574 ≤ x ∧ x ≤ 578) ∨ x = 587 ∨ (x = 571 ∧ (i = 2 ∨ i = 29))) → k x i = h x i := fun x i z => (f' x i (by omega)).trans (f x i (by omega))
    refine INV_mid H (PI_fr H.1.1 (fun x i a => f x i (by omega))) lo (fun x i a => f x i (by omega)) (fun z => by rw [f 5 4 (by omega)]; exact z) ⟨nr_fr2 (fun i => f _ _ (by omega)), f _ _ (by omega)⟩ R ⟨k572 0 (by omega) (by omega), kr⟩ ⟨?_, tp k ((lo _ _ (by omega)).trans a1) b1 ((lo _ _ (by omega)).trans a2) ((lo _ _ (by omega)).trans a3) b2 b3, ?_, fun j j0 j1 => ?_⟩
    · unfold RSo
      rw [kh 0 15 (by omega), kh 571 29 (by omega)]
      exact ⟨o.1, o.2.1, fun i u v => by rw [kh 498 i (by omega), kh 587 i (by omega)]; exact o.2.2 i u v⟩
    · have l := p.1
      unfold RSp
      rw [kh 171 1 (by omega), kh 571 2 (by omega), kh 171 0 (by omega), k572 1 (by omega) (by omega)]
      refine ⟨p.1, p.2.1, STG_fr p.2.2.1 (by omega) (fun x i u v => kh x i (by omega)), fun i a c => ?_⟩
      have w := p.2.2.2 i a c
      rw [kh 172 i (by omega), kh 574 (22 * i) (by omega), kh 574 (22 * i + 1) (by omega), nr_fr2 (h := h) (h' := k) (q := 174 + i) (fun j => kh _ _ (by omega)), nr_fr2 (h := h) (h' := k) (q := 574) (fun j => kh _ _ (by omega))]
      exact w
    · have pa : am_pa j = 499 + 24 * j := rfl
      rw [kh 578 j (by omega), kh (am_pa j) 1 (by omega)]
      exact (im j j0 j1).imp id (fun w => ⟨w.1, IMG_fr w.2 ⟨j0, j1⟩ (fun x i u => kh x i (by omega))⟩)
