/-! ===== a line more, a line less ===== -/
noncomputable def rw2 (X : Int → Int → Prop) : Int → Int := fun p => mkb (X p)
noncomputable def npt (r : Int → Int) : Int := ncl (ptE r) (nl r)
noncomputable def wo (r : Int → Int) (a b : Int) : Int → Int := rw2 (fun p q => ad r p q ∧ ¬ (p = a ∧ q = b) ∧ ¬ (p = b ∧ q = a))
noncomputable def wi (r : Int → Int) (a b : Int) : Int → Int := rw2 (fun p q => ad r p q ∨ (p = a ∧ q = b) ∨ (p = b ∧ q = a))
noncomputable def wow (n : Int) (r : Int → Int) (l : Int) : Int := ifc (CN n (wo r (lo r l) (hi r l))) (npt (wo r (lo r l) (hi r l))) (-1)
theorem rw2_is {r : Int → Int} {X : Int → Int → Prop} (h : ∀ p q, ad r p q ↔ X p q) (s : ∀ p, S20 (r p)) : r = rw2 X := by
  funext p
  refine bt_ext (by have := (s p).1; have := (s p).2; unfold R32; omega) (by have := (S20_mk (X p)).1; have := (S20_mk (X p)).2; unfold rw2 R32; omega) (fun k _ _ => ?_)
  unfold rw2
  rw [bt_mk]
  constructor
  · intro w
    exact ⟨S20_in (s p) w, (h p k).mp w⟩
  · intro w
    exact (h p k).mpr w.2
theorem nr_S20 {h : am_H} {q : Int} (H : ∀ y, 0 ≤ y → y < 20 → S20 (h q y)) (p : Int) : S20 (nr h q 0 p) := by
  by_cases e : 0 ≤ p ∧ p < 20
  · rw [nr_in0 e.1 e.2]; exact H p e.1 e.2
  · rw [show nr h q 0 p = 0 from if_neg e]; exact S20_0
theorem S20_hul {h : am_H} {q a b : Int} (ha : 0 ≤ a ∧ a < 20) (hb : 0 ≤ b ∧ b < 20) (H : ∀ y, 0 ≤ y → y < 20 → S20 (h q y)) : ∀ y, 0 ≤ y → y < 20 → S20 (h_ul h q a b q y) := by
  intro y y0 y1
  unfold h_ul
  have k : ∀ y, 0 ≤ y → y < 20 → S20 (am_up h q a (iAnd (h q a) (iXor (iShl 1 b) (-1))) q y) := fun y y0 y1 => by
    by_cases e : y = a
    · rw [e, am_up_eq]; exact S20_and (H a ha.1 ha.2)
    · rw [am_up_n2 (fun z => e z.2)]; exact H y y0 y1
  by_cases e : y = b
  · rw [e, am_up_eq]; exact S20_and (k b hb.1 hb.2)
  · rw [am_up_n2 (fun z => e z.2)]; exact k y y0 y1
/-- the copy that the second survey holds -/
def cpy (h : am_H) : am_H := am_cp (am_up h (80 : Int) 0 (h (6 : Int) 0)) 7 0 81 0 20
def fgt (g : am_H) : am_H := am_up (am_up (am_up g (79 : Int) 4 0) (79 : Int) 5 0) (79 : Int) 6 0
theorem cpy_nr (h : am_H) : nr (cpy h) 81 0 = nr h 7 0 ∧ ∀ y, 0 ≤ y → y < 20 → cpy h 81 y = h 7 y := by
  have k : ∀ y, 0 ≤ y → y < 20 → cpy h 81 y = h 7 y := fun y a b => by
    unfold cpy
    rw [am_cp_in (by omega) (by omega), am_up_ne (by omega)]
    rw [show (0 : Int) + (y - 0) = y by omega]
  refine ⟨?_, k⟩
  funext p
  by_cases e : 0 ≤ p ∧ p < 20
  · rw [nr_in0 e.1 e.2, nr_in0 e.1 e.2]; exact k p e.1 e.2
  · rw [show nr (cpy h) 81 0 p = 0 from if_neg e, show nr h 7 0 p = 0 from if_neg e]
theorem cpy_ne {h : am_H} {x i : Int} (e : x ≠ 81) (e2 : x ≠ 80) : cpy h x i = h x i := by
  unfold cpy
  rw [am_cp_ne e, am_up_ne e2]
theorem cpy_80 (h : am_H) : cpy h 80 0 = h 6 0 := by
  unfold cpy
  rw [am_cp_ne (by omega), am_up_eq]
theorem fgt_ne {g : am_H} {x i : Int} (e : x ≠ 79) : fgt g x i = g x i := XT_fg e
theorem fgt_f (g : am_H) : fgt g 79 4 = 0 ∧ fgt g 79 5 = 0 ∧ fgt g 79 6 = 0 := by
  unfold fgt
  refine ⟨?_, ?_, am_up_eq⟩
  · rw [am_up_n2 (by omega), am_up_n2 (by omega), am_up_eq]
  · rw [am_up_n2 (by omega), am_up_eq]
theorem fgt_nr (g : am_H) : nr (fgt g) 81 0 = nr g 81 0 := nr_fr2 (fun i => fgt_ne (by omega))
theorem fgt_sv {g : am_H} (hN : NT (g 80 0) (nr g 81 0)) (hC : CN (g 80 0) (nr g 81 0)) : SV (fgt g) 79 := by
  have f := fgt_f g
  have e1 : fgt g (79 + 1) 0 = g 80 0 := fgt_ne (by omega)
  have e2 : nr (fgt g) (79 + 2) 0 = nr g 81 0 := fgt_nr g
  unfold SV
  rw [e1, e2]
  exact ⟨⟨hN, hC⟩, by omega, fun z => by omega, fun z => by omega, fun z => by omega⟩
theorem SQa_w {h g h' : am_H} (H : SV h 5) (f : ∀ x i, ¬ (79 ≤ x ∧ x ≤ 152) → g x i = h x i) (q : SQ g h' 79) : SQa (fun x9 => 79 ≤ x9 ∧ x9 ≤ 152) h h' :=
  SQa_fr (h' := h) (SQa_of (SQ_rf H)) (fun x i a => (q.2.1 x i (by omega) (by omega)).trans (f x i a)) (fun x a => by omega)
theorem SQa_w0 {h g : am_H} (H : SV h 5) (f : ∀ x i, ¬ (79 ≤ x ∧ x ≤ 152) → g x i = h x i) : SQa (fun x9 => 79 ≤ x9 ∧ x9 ≤ 152) h g :=
  SQa_fr (h' := h) (SQa_of (SQ_rf H)) (fun x i a => f x i a) (fun x a => by omega)
section WO
variable {n : Int} {r : Int → Int}
theorem ad_rw2 {X : Int → Int → Prop} (hX : ∀ p q, X p q → 0 ≤ q ∧ q < 20) (p q : Int) : ad (rw2 X) p q ↔ X p q := by
  unfold ad rw2
  rw [bt_mk]
  exact ⟨fun w => w.2, fun w => ⟨hX p q w, w⟩⟩
theorem ad_wo (hN : NT n r) (a b p q : Int) : ad (wo r a b) p q ↔ ad r p q ∧ ¬ (p = a ∧ q = b) ∧ ¬ (p = b ∧ q = a) := ad_rw2 (fun p q w => by have := NT_in hN w.1; have := hN.2.1; omega) p q
theorem NT_wo (hN : NT n r) (a b : Int) : NT n (wo r a b) := ⟨hN.1, hN.2.1, fun p q e => by
  have w := (ad_wo hN a b p q).mp e
  have k := hN.2.2 p q w.1
  exact ⟨k.1, k.2.1, k.2.2.1, (ad_wo hN a b q p).mpr ⟨k.2.2.2, fun z => w.2.2 ⟨z.2, z.1⟩, fun z => w.2.1 ⟨z.2, z.1⟩⟩⟩⟩
theorem ad_wi (hN : NT n r) {a b : Int} (ha : 0 ≤ a ∧ a < n) (hb : 0 ≤ b ∧ b < n) (p q : Int) : ad (wi r a b) p q ↔ ad r p q ∨ (p = a ∧ q = b) ∨ (p = b ∧ q = a) := ad_rw2 (fun p q w => by
  have := hN.2.1
  rcases w with w | w | w
  · have := NT_in hN w; omega
  · omega
  · omega) p q
theorem NT_wi (hN : NT n r) {a b : Int} (ha : 0 ≤ a ∧ a < n) (hb : 0 ≤ b ∧ b < n) (hne : a ≠ b) : NT n (wi r a b) := ⟨hN.1, hN.2.1, fun p q e => by
  rcases (ad_wi hN ha hb p q).mp e with w | w | w
  · have k := hN.2.2 p q w
    exact ⟨k.1, k.2.1, k.2.2.1, (ad_wi hN ha hb q p).mpr (Or.inl k.2.2.2)⟩
  · exact ⟨by omega, by omega, by omega, (ad_wi hN ha hb q p).mpr (Or.inr (Or.inr ⟨w.2, w.1⟩))⟩
  · exact ⟨by omega, by omega, by omega, (ad_wi hN ha hb q p).mpr (Or.inr (Or.inl ⟨w.2, w.1⟩))⟩⟩
theorem CN_wi (hN : NT n r) (hC : CN n r) {a b : Int} (ha : 0 ≤ a ∧ a < n) (hb : 0 ≤ b ∧ b < n) : CN n (wi r a b) := fun p p0 p1 => by
  obtain ⟨d, w⟩ := hC p p0 p1
  exact ⟨d, wk_mono (fun x y e => (ad_wi hN ha hb x y).mpr (Or.inl e)) w⟩
end WO
theorem ul_nr {h : am_H} {a b : Int} (ha : 0 ≤ a ∧ a < 20) (hb : 0 ≤ b ∧ b < 20) (s : ∀ y, 0 ≤ y → y < 20 → S20 (h 7 y)) : nr (h_ul (cpy h) 81 a b) 81 0 = wo (nr h 7 0) a b :=
  rw2_is (fun p q => by rw [ad_ul ha hb, (cpy_nr h).1]) (nr_S20 (S20_hul ha hb (fun y a b => by rw [(cpy_nr h).2 y a b]; exact s y a b)))
theorem lk_nr {h : am_H} {a b : Int} (ha : 0 ≤ a ∧ a < 20) (hb : 0 ≤ b ∧ b < 20) (s : ∀ y, 0 ≤ y → y < 20 → S20 (h 7 y)) : nr (h_lk (cpy h) 81 a b) 81 0 = wi (nr h 7 0) a b :=
  rw2_is (fun p q => by rw [ad_lk ha hb, (cpy_nr h).1]) (nr_S20 (S20_hlk ha hb (fun y a b => by rw [(cpy_nr h).2 y a b]; exact s y a b)))
