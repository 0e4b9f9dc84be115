/-! ===== a line more, a line less ===== -/
noncomputable def rw2 (X : Int → Int → Prop) : Int → Int := fun p => mkb (X p)
noncomputable def npt (r : Int → Int) : Int := ncl (ptE r) (nl r)
noncomputable def wo (r : Int → Int) (a b : Int) : Int → Int := rw2 (fun p q => ad r p q ∧ ¬ (p = a ∧ q = b) ∧ ¬ (p = b ∧ q = a))
noncomputable def wi (r : Int → Int) (a b : Int) : Int → Int := rw2 (fun p q => ad r p q ∨ (p = a ∧ q = b) ∨ (p = b ∧ q = a))
noncomputable def wow (n : Int) (r : Int → Int) (l : Int) : Int := ifc (CN n (wo r (lo r l) (hi r l))) (npt (wo r (lo r l) (hi r l))) (-1)
theorem rw2_is {r : Int → Int} {X : Int → Int → Prop} (h : ∀ p q, ad r p q ↔ X p q) (s : ∀ p, S20 (r p)) : r = rw2 X := by
  funext p
  refine bt_ext (by have := (s p).1; have := (s p).2; unfold R32; omega) (by have := (S20_mk (X p)).1; have := (S20_mk (X p)).2; unfold rw2 R32; omega) (fun k _ _ => ?_)
  unfold rw2
  rw [bt_mk]
  constructor
  · intro w
    exact ⟨S20_in (s p) w, (h p k).mp w⟩
  · intro w
    exact (h p k).mpr w.2
theorem nr_S20 {h : am_H} {q : Int} (H : ∀ y, 0 ≤ y → y < 20 → S20 (h q y)) (p : Int) : S20 (nr h q 0 p) := by
  by_cases e : 0 ≤ p ∧ p < 20
  · rw [nr_in0 e.1 e.2]; exact H p e.1 e.2
  · rw [show nr h q 0 p = 0 from if_neg e]; exact S20_0
theorem S20_hul {h : am_H} {q a b : Int} (ha : 0 ≤ a ∧ a < 20) (hb : 0 ≤ b ∧ b < 20) (H : ∀ y, 0 ≤ y → y < 20 → S20 (h q y)) : ∀ y, 0 ≤ y → y < 20 → S20 (h_ul h q a b q y) := by
  intro y y0 y1
  unfold h_ul
  have k : ∀ y, 0 ≤ y → y < 20 → S20 (am_up h q a (iAnd (h q a) (iXor (iShl 1 b) (-1))) q y) := fun y y0 y1 => by
    by_cases e : y = a
    · rw [e, am_up_eq]; exact S20_and (H a ha.1 ha.2)
    · rw [am_up_n2 (fun z => e z.2)]; exact H y y0 y1
  by_cases e : y = b
  · rw [e, am_up_eq]; exact S20_and (k b hb.1 hb.2)
  · rw [am_up_n2 (fun z => e z.2)]; exact k y y0 y1
/-- the copy that the second survey holds -/
def cpy (h : am_H) : am_H := am_cp (am_up h (80 : Int) 0 (h (6 : Int) 0)) 7 0 81 0 20
def fgt (g : am_H) : am_H := am_up (am_up (am_up g (79 : Int) 4 0) (79 : Int) 5 0) (79 : Int) 6 0
theorem cpy_nr (h : am_H) : nr (cpy h) 81 0 = nr h 7 0 ∧ ∀ y, 0 ≤ y → y < 20 → cpy h 81 y = h 7 y := by
  have k : ∀ y, 0 ≤ y → y < 20 → cpy h 81 y = h 7 y := fun y a b => by
    unfold cpy
    rw [am_cp_in (by omega) (by omega), am_up_ne (by omega)]
    rw [show (0 : Int) + (y - 0) = y by omega]
  refine ⟨?_, k⟩
  funext p
  by_cases e : 0 ≤ p ∧ p < 20
  · rw [nr_in0 e.1 e.2, nr_in0 e.1 e.2]; exact k p e.1 e.2
  · rw [show nr (cpy h) 81 0 p = 0 from if_neg e, show nr h 7 0 p = 0 from if_neg e]
theorem cpy_ne {h : am_H} {x i : Int} (e : x ≠ 81) (e2 : x ≠ 80) : cpy h x i = h x i := by
  unfold cpy
  rw [am_cp_ne e, am_up_ne e2]
theorem cpy_80 (h : am_H) : cpy h 80 0 = h 6 0 := by
  unfold cpy
  rw [am_cp_ne (by omega), am_up_eq]
theorem fgt_ne {g : am_H} {x i : Int} (e : x ≠ 79) : fgt g x i = g x i := XT_fg e
theorem fgt_f (g : am_H) : fgt g 79 4 = 0 ∧ fgt g 79 5 = 0 ∧ fgt g 79 6 = 0 := by
  unfold fgt
  refine ⟨?_, ?_, am_up_eq⟩
  · rw [am_up_n2 (by omega), am_up_n2 (by omega), am_up_eq]
  · rw [am_up_n2 (by omega), am_up_eq]
theorem fgt_nr (g : am_H) : nr (fgt g) 81 0 = nr g 81 0 := nr_fr2 (fun i => fgt_ne (by omega))
theorem fgt_sv {g : am_H} (hN : NT (g 80 0) (nr g 81 0)) (hC : CN (g 80 0) (nr g 81 0)) : SV (fgt g) 79 := by
  have f := fgt_f g
  have e1 : fgt g (79 + 1) 0 = g 80 0 := fgt_ne (by omega)
  have e2 : nr (fgt g) (79 + 2) 0 = nr g 81 0 := fgt_nr g
  unfold SV
  rw [e1, e2]
  exact ⟨⟨hN, hC⟩, by omega, fun z => by omega, fun z => by omega, fun z => by omega⟩
theorem SQa_w {h g h' : am_H} (H : SV h 5) (f : ∀ x i, ¬ (79 ≤ x ∧ x ≤ 152) → g x i = h x i) (q : SQ g h' 79) : SQa (fun x9 => 79 ≤ x9 ∧ x9 ≤ 152) h h' :=
  SQa_fr (h' := h) (SQa_of (SQ_rf H)) (fun x i a => (q.2.1 x i (by omega) (by omega)).trans (f x i a)) (fun x a => by omega)
theorem SQa_w0 {h g : am_H} (H : SV h 5) (f : ∀ x i, ¬ (79 ≤ x ∧ x ≤ 152) → g x i = h x i) : SQa (fun x9 => 79 ≤ x9 ∧ x9 ≤ 152) h g :=
  SQa_fr (h' := h) (SQa_of (SQ_rf H)) (fun x i a => f x i a) (fun x a => by omega)
section WO
variable {n : Int} {r : Int → Int}
theorem ad_rw2 {X : Int → Int → Prop} (hX : ∀ p q, X p q → 0 ≤ q ∧ q < 20) (p q : Int) : ad (rw2 X) p q ↔ X p q := by
  unfold ad rw2
  rw [bt_mk]
  exact ⟨fun w => w.2, fun w => ⟨hX p q w, w⟩⟩
theorem ad_wo (hN : NT n r) (a b p q : Int) : ad (wo r a b) p q ↔ ad r p q ∧ ¬ (p = a ∧ q = b) ∧ ¬ (p = b ∧ q = a) := ad_rw2 (fun p q w => by have := NT_in hN w.1; have := hN.2.1; omega) p q
theorem NT_wo (hN : NT n r) (a b : Int) : NT n (wo r a b) := ⟨hN.1, hN.2.1, fun p q e => by
  have w := (ad_wo hN a b p q).mp e
  have k := hN.2.2 p q w.1
  exact ⟨k.1, k.2.1, k.2.2.1, (ad_wo hN a b q p).mpr ⟨k.2.2.2, fun z => w.2.2 ⟨z.2, z.1⟩, fun z => w.2.1 ⟨z.2, z.1⟩⟩⟩⟩
theorem ad_wi (hN : NT n r) {a b : Int} (ha : 0 ≤ a ∧ a < n) (hb : 0 ≤ b ∧ b < n) (p q : Int) : ad (wi r a b) p q ↔ ad r p q ∨ (p = a ∧ q = b) ∨ (p = b ∧ q = a) := ad_rw2 (fun p q w => by
  have := hN.2.1
  rcases w with w | w | w
  · have := NT_in hN w; omega
  · omega
  · omega) p q
theorem NT_wi (hN : NT n r) {a b : Int} (ha : 0 ≤ a ∧ a < n) (hb : 0 ≤ b ∧ b < n) (hne : a ≠ b) : NT n (wi r a b) := ⟨hN.1, hN.2.1, fun p q e => by
  rcases (ad_wi hN ha hb p q).mp e with w | w | w
  · have k := hN.2.2 p q w
    exact ⟨k.1, k.2.1, k.2.2.1, (ad_wi hN ha hb q p).mpr (Or.inl k.2.2.2)⟩
  · exact ⟨by omega, by omega, by omega, (ad_wi hN ha hb q p).mpr (Or.inr (Or.inr ⟨w.2, w.1⟩))⟩
  · exact ⟨by omega, by omega, by omega, (ad_wi hN ha hb q p).mpr (Or.inr (Or.inl ⟨w.2, w.1⟩))⟩⟩
theorem CN_wi (hN : NT n r) (hC : CN n r) {a b : Int} (ha : 0 ≤ a ∧ a < n) (hb : 0 ≤ b ∧ b < n) : CN n (wi r a b) := fun p p0 p1 => by
  obtain ⟨d, w⟩ := hC p p0 p1
  exact ⟨d, wk_mono (fun x y e => (ad_wi hN ha hb x y).mpr (Or.inl e)) w⟩
end WO
theorem ul_nr {h : am_H} {a b : Int} (ha : 0 ≤ a ∧ a < 20) (hb : 0 ≤ b ∧ b < 20) (s : ∀ y, 0 ≤ y → y < 20 → S20 (h 7 y)) : nr (h_ul (cpy h) 81 a b) 81 0 = wo (nr h 7 0) a b :=
  rw2_is (fun p q => by rw [ad_ul ha hb, (cpy_nr h).1]) (nr_S20 (S20_hul ha hb (fun y a b => by rw [(cpy_nr h).2 y a b]; exact s y a b)))
theorem lk_nr {h : am_H} {a b : Int} (ha : 0 ≤ a ∧ a < 20) (hb : 0 ≤ b ∧ b < 20) (s : ∀ y, 0 ≤ y → y < 20 → S20 (h 7 y)) : nr (h_lk (cpy h) 81 a b) 81 0 = wi (nr h 7 0) a b :=
  rw2_is (fun p q => by rw [ad_lk ha hb, (cpy_nr h).1]) (nr_S20 (S20_hlk ha hb (fun y a b => by rw [(cpy_nr h).2 y a b]; exact s y a b)))
theorem wo_h {h : am_H} (hw : am_wf h) (H : SV h 5) (z : h 5 5 = 1) {l : Int} (hl : 0 ≤ l ∧ l < nl (nr h 7 0)) : ((0 ≤ cpy h 52 l ∧ cpy h 52 l < 20) ∧ (0 ≤ cpy h 53 l ∧ cpy h 53 l < 20)) ∧ nr (fgt (h_ul (cpy h) 81 (cpy h 52 l) (cpy h 53 l))) 81 0 = wo (nr h 7 0) (lo (nr h 7 0) l) (hi (nr h 7 0) l) ∧ (fgt (h_ul (cpy h) 81 (cpy h 52 l) (cpy h 53 l))) 80 0 = h 6 0 ∧ (∀ x i, ¬ (79 ≤ x ∧ x ≤ 152) → (fgt (h_ul (cpy h) 81 (cpy h 52 l) (cpy h 53 l))) x i = h x i) ∧ 2 ≤ h 6 0 ∧ (fgt (h_ul (cpy h) 81 (cpy h 52 l) (cpy h 53 l))) 79 6 = 0 ∧ (CN (h 6 0) (wo (nr h 7 0) (lo (nr h 7 0) l) (hi (nr h 7 0) l)) → SV (fgt (h_ul (cpy h) 81 (cpy h 52 l) (cpy h 53 l))) 79) := by
  have hN := (SV5_N H).1
  have L := (SV5_L H z).2.1 l hl.1 hl.2
  have k := lo_ok hl.1 hl.2
  have i := NT_in hN k.2.1
  have e1 : cpy h 52 l = lo (nr h 7 0) l := by rw [cpy_ne (by omega) (by omega)]; exact L.1
  have e2 : cpy h 53 l = hi (nr h 7 0) l := by rw [cpy_ne (by omega) (by omega)]; exact L.2
  have hn := hN.2.1
  rw [e1, e2]
  have eg : nr (h_ul (cpy h) 81 (lo (nr h 7 0) l) (hi (nr h 7 0) l)) 81 0 = wo (nr h 7 0) (lo (nr h 7 0) l) (hi (nr h 7 0) l) := ul_nr (by omega) (by omega) (SV5_R H hw)
  have e80 : h_ul (cpy h) 81 (lo (nr h 7 0) l) (hi (nr h 7 0) l) 80 0 = h 6 0 := by rw [h_ul_ne (by omega), cpy_80]
  refine ⟨by omega, by rw [fgt_nr]; exact eg, by rw [fgt_ne (by omega)]; exact e80, fun x i' a => by rw [fgt_ne (by omega), h_ul_ne (by omega), cpy_ne (by omega) (by omega)], by omega, (fgt_f _).2.2, fun c => fgt_sv ?_ ?_⟩
  · rw [e80, eg]; exact NT_wo hN _ _
  · rw [e80, eg]; exact c
/-! 171 FactorNets.partsWithout -/
def C171 : am_K := fun as h K => am_a2 as (fun v0 v1 => am_oc 11 0 v0 (am_n v1 (fun l => (SV h 5 ∧ h 5 5 = 1 ∧ (0 ≤ l ∧ l < nl (nr h 7 0))) ∧ (∀ (h' : am_H), SQa (fun x9 => 79 ≤ x9 ∧ x9 ≤ 152) h h' → K (some (mB (wow (h 6 0) (nr h 7 0) l))) (h')))))
theorem W171 {d : Nat} (H : ∀ (l : Int) (h : am_H) (K : Option am_V → am_H → Prop), (SV h 5 ∧ h 5 5 = 1 ∧ (0 ≤ l ∧ l < nl (nr h 7 0))) ∧ (∀ (h' : am_H), SQa (fun x9 => 79 ≤ x9 ∧ x9 ≤ 152) h h' → K (some (mB (wow (h 6 0) (nr h 7 0) l))) (h')) → am_AT d 171 0 [some (mR 1 11 0 0), some (mB l)] h K) : am_CS d 171 C171 := by
  refine am_CS_of (T := tb171) (mL := 2) (rk := 1) rfl (fun as h K hC => ?_)
  obtain ⟨v0, v1, rfl, hC0⟩ := am_a2_e hC
  obtain ⟨e0, hC1⟩ := am_oc_e hC0
  subst e0
  obtain ⟨l, rfl, hC2⟩ := am_n_e hC1
  refine ⟨Nat.le_of_ble_eq_true rfl, ?_⟩
  exact H l h K hC2
theorem T171_0 {R : Option am_V → am_H → Prop} {h : am_H} {l : Int} (t : (0 ≤ l ∧ l < 190) ∧ ((0 ≤ l ∧ l < 190) ∧ (((0 ≤ ((am_cp (am_up h (80 : Int) 0 (h (6 : Int) 0)) 7 0 81 0 20) 52 l) ∧ ((am_cp (am_up h (80 : Int) 0 (h (6 : Int) 0)) 7 0 81 0 20) 52 l) < 20) ∧ (0 ≤ ((am_cp (am_up h (80 : Int) 0 (h (6 : Int) 0)) 7 0 81 0 20) 53 l) ∧ ((am_cp (am_up h (80 : Int) 0 (h (6 : Int) 0)) 7 0 81 0 20) 53 l) < 20)) ∧ ((NT ((am_up (am_up (am_up (h_ul (am_cp (am_up h (80 : Int) 0 (h (6 : Int) 0)) 7 0 81 0 20) 81 ((am_cp (am_up h (80 : Int) 0 (h (6 : Int) 0)) 7 0 81 0 20) 52 l) ((am_cp (am_up h (80 : Int) 0 (h (6 : Int) 0)) 7 0 81 0 20) 53 l)) (79 : Int) 4 0) (79 : Int) 5 0) (79 : Int) 6 0) (80 : Int) 0) (nr (am_up (am_up (am_up (h_ul (am_cp (am_up h (80 : Int) 0 (h (6 : Int) 0)) 7 0 81 0 20) 81 ((am_cp (am_up h (80 : Int) 0 (h (6 : Int) 0)) 7 0 81 0 20) 52 l) ((am_cp (am_up h (80 : Int) 0 (h (6 : Int) 0)) 7 0 81 0 20) 53 l)) (79 : Int) 4 0) (79 : Int) 5 0) (79 : Int) 6 0) 81 0)) ∧ (((¬ (0 < (am_up (am_up (am_up (h_ul (am_cp (am_up h (80 : Int) 0 (h (6 : Int) 0)) 7 0 81 0 20) 81 ((am_cp (am_up h (80 : Int) 0 (h (6 : Int) 0)) 7 0 81 0 20) 52 l) ((am_cp (am_up h (80 : Int) 0 (h (6 : Int) 0)) 7 0 81 0 20) 53 l)) (79 : Int) 4 0) (79 : Int) 5 0) (79 : Int) 6 0) (80 : Int) 0 ∧ CN ((am_up (am_up (am_up (h_ul (am_cp (am_up h (80 : Int) 0 (h (6 : Int) 0)) 7 0 81 0 20) 81 ((am_cp (am_up h (80 : Int) 0 (h (6 : Int) 0)) 7 0 81 0 20) 52 l) ((am_cp (am_up h (80 : Int) 0 (h (6 : Int) 0)) 7 0 81 0 20) 53 l)) (79 : Int) 4 0) (79 : Int) 5 0) (79 : Int) 6 0) (80 : Int) 0) (nr (am_up (am_up (am_up (h_ul (am_cp (am_up h (80 : Int) 0 (h (6 : Int) 0)) 7 0 81 0 20) 81 ((am_cp (am_up h (80 : Int) 0 (h (6 : Int) 0)) 7 0 81 0 20) 52 l) ((am_cp (am_up h (80 : Int) 0 (h (6 : Int) 0)) 7 0 81 0 20) 53 l)) (79 : Int) 4 0) (79 : Int) 5 0) (79 : Int) 6 0) 81 0))) → (R (some (mB (-1))) (am_up (am_up (am_up (h_ul (am_cp (am_up h (80 : Int) 0 (h (6 : Int) 0)) 7 0 81 0 20) 81 ((am_cp (am_up h (80 : Int) 0 (h (6 : Int) 0)) 7 0 81 0 20) 52 l) ((am_cp (am_up h (80 : Int) 0 (h (6 : Int) 0)) 7 0 81 0 20) 53 l)) (79 : Int) 4 0) (79 : Int) 5 0) (79 : Int) 6 0))) ∧ ((0 < (am_up (am_up (am_up (h_ul (am_cp (am_up h (80 : Int) 0 (h (6 : Int) 0)) 7 0 81 0 20) 81 ((am_cp (am_up h (80 : Int) 0 (h (6 : Int) 0)) 7 0 81 0 20) 52 l) ((am_cp (am_up h (80 : Int) 0 (h (6 : Int) 0)) 7 0 81 0 20) 53 l)) (79 : Int) 4 0) (79 : Int) 5 0) (79 : Int) 6 0) (80 : Int) 0 ∧ CN ((am_up (am_up (am_up (h_ul (am_cp (am_up h (80 : Int) 0 (h (6 : Int) 0)) 7 0 81 0 20) 81 ((am_cp (am_up h (80 : Int) 0 (h (6 : Int) 0)) 7 0 81 0 20) 52 l) ((am_cp (am_up h (80 : Int) 0 (h (6 : Int) 0)) 7 0 81 0 20) 53 l)) (79 : Int) 4 0) (79 : Int) 5 0) (79 : Int) 6 0) (80 : Int) 0) (nr (am_up (am_up (am_up (h_ul (am_cp (am_up h (80 : Int) 0 (h (6 : Int) 0)) 7 0 81 0 20) 81 ((am_cp (am_up h (80 : Int) 0 (h (6 : Int) 0)) 7 0 81 0 20) 52 l) ((am_cp (am_up h (80 : Int) 0 (h (6 : Int) 0)) 7 0 81 0 20) 53 l)) (79 : Int) 4 0) (79 : Int) 5 0) (79 : Int) 6 0) 81 0)) → ((SV (am_up (am_up (am_up (h_ul (am_cp (am_up h (80 : Int) 0 (h (6 : Int) 0)) 7 0 81 0 20) 81 ((am_cp (am_up h (80 : Int) 0 (h (6 : Int) 0)) 7 0 81 0 20) 52 l) ((am_cp (am_up h (80 : Int) 0 (h (6 : Int) 0)) 7 0 81 0 20) 53 l)) (79 : Int) 4 0) (79 : Int) 5 0) (79 : Int) 6 0) (79 : Int) ∧ 2 ≤ (am_up (am_up (am_up (h_ul (am_cp (am_up h (80 : Int) 0 (h (6 : Int) 0)) 7 0 81 0 20) 81 ((am_cp (am_up h (80 : Int) 0 (h (6 : Int) 0)) 7 0 81 0 20) 52 l) ((am_cp (am_up h (80 : Int) 0 (h (6 : Int) 0)) 7 0 81 0 20) 53 l)) (79 : Int) 4 0) (79 : Int) 5 0) (79 : Int) 6 0) 80 0 ∧ (am_up (am_up (am_up (h_ul (am_cp (am_up h (80 : Int) 0 (h (6 : Int) 0)) 7 0 81 0 20) 81 ((am_cp (am_up h (80 : Int) 0 (h (6 : Int) 0)) 7 0 81 0 20) 52 l) ((am_cp (am_up h (80 : Int) 0 (h (6 : Int) 0)) 7 0 81 0 20) 53 l)) (79 : Int) 4 0) (79 : Int) 5 0) (79 : Int) 6 0) (79 : Int) 6 = 0) ∧ (∀ (h' : am_H), (SQ (am_up (am_up (am_up (h_ul (am_cp (am_up h (80 : Int) 0 (h (6 : Int) 0)) 7 0 81 0 20) 81 ((am_cp (am_up h (80 : Int) 0 (h (6 : Int) 0)) 7 0 81 0 20) 52 l) ((am_cp (am_up h (80 : Int) 0 (h (6 : Int) 0)) 7 0 81 0 20) 53 l)) (79 : Int) 4 0) (79 : Int) 5 0) (79 : Int) 6 0) h' (79 : Int)) → (R (some (mB (ncl (ptE (nr (am_up (am_up (am_up (h_ul (am_cp (am_up h (80 : Int) 0 (h (6 : Int) 0)) 7 0 81 0 20) 81 ((am_cp (am_up h (80 : Int) 0 (h (6 : Int) 0)) 7 0 81 0 20) 52 l) ((am_cp (am_up h (80 : Int) 0 (h (6 : Int) 0)) 7 0 81 0 20) 53 l)) (79 : Int) 4 0) (79 : Int) 5 0) (79 : Int) 6 0) 81 0)) (nl (nr (am_up (am_up (am_up (h_ul (am_cp (am_up h (80 : Int) 0 (h (6 : Int) 0)) 7 0 81 0 20) 81 ((am_cp (am_up h (80 : Int) 0 (h (6 : Int) 0)) 7 0 81 0 20) 52 l) ((am_cp (am_up h (80 : Int) 0 (h (6 : Int) 0)) 7 0 81 0 20) 53 l)) (79 : Int) 4 0) (79 : Int) 5 0) (79 : Int) 6 0) 81 0))))) h'))))))))) : am_AT 6 171 0 [some (mR 1 11 0 0), some (mB l)] h R :=
  am_T (d := 5) (m := 171) (T := tb171) (mL := 2) (rk := 1) (cuts := []) (l := [(20, C20), (25, C25), (27, C27), (87, C87), (91, C91)]) rfl ⟨am_CS_d (by decide) C20_ok, am_CS_d (by decide) C25_ok, am_CS_d (by decide) C27_ok, am_CS_d (by decide) C87_ok, am_CS_d (by decide) C91_ok, trivial⟩ 40 (And.intro (t).1 (And.intro ((t).2).1 (And.intro (((t).2).2).1 (And.intro ((((t).2).2).2).1 (And.intro (fun c1 => (((((t).2).2).2).2).1 c1) (fun c1 => And.intro ((((((t).2).2).2).2).2 c1).1 (fun z1_0 z1_1 => (((((((t).2).2).2).2).2 c1).2) z1_0 z1_1)))))))
theorem C171_ok : am_CS 6 171 C171 := W171 (fun l h K hb => am_AT_ok (fun hw _ => by
  obtain ⟨⟨H, z, hl⟩, hK⟩ := hb
  have W := wo_h hw H z hl
  have hN := (SV5_N H).1
  have nlr := nl_r (nr h 7 0)
  refine T171_0 ⟨by omega, ⟨by omega, ⟨W.1, ⟨by
    show NT ((fgt (h_ul (cpy h) 81 (cpy h 52 l) (cpy h 53 l))) 80 0) (nr (fgt (h_ul (cpy h) 81 (cpy h 52 l) (cpy h 53 l))) 81 0)
    rw [W.2.1, W.2.2.1]
    exact NT_wo hN _ _, ⟨fun c1 => ?_, fun c1 => ⟨by
    have c1' : 0 < (fgt (h_ul (cpy h) 81 (cpy h 52 l) (cpy h 53 l))) 80 0 ∧ CN ((fgt (h_ul (cpy h) 81 (cpy h 52 l) (cpy h 53 l))) 80 0) (nr (fgt (h_ul (cpy h) 81 (cpy h 52 l) (cpy h 53 l))) 81 0) := c1
    show SV (fgt (h_ul (cpy h) 81 (cpy h 52 l) (cpy h 53 l))) 79 ∧ 2 ≤ (fgt (h_ul (cpy h) 81 (cpy h 52 l) (cpy h 53 l))) 80 0 ∧ (fgt (h_ul (cpy h) 81 (cpy h 52 l) (cpy h 53 l))) 79 6 = 0
    rw [W.2.1, W.2.2.1] at c1'
    exact ⟨W.2.2.2.2.2.2 c1'.2, by rw [W.2.2.1]; exact W.2.2.2.2.1, W.2.2.2.2.2.1⟩, fun h' q2 => ?_⟩⟩⟩⟩⟩⟩
  · have c1' : ¬ (0 < (fgt (h_ul (cpy h) 81 (cpy h 52 l) (cpy h 53 l))) 80 0 ∧ CN ((fgt (h_ul (cpy h) 81 (cpy h 52 l) (cpy h 53 l))) 80 0) (nr (fgt (h_ul (cpy h) 81 (cpy h 52 l) (cpy h 53 l))) 81 0)) := c1
    rw [W.2.1, W.2.2.1] at c1'
    show K (some (mB (-1))) (fgt (h_ul (cpy h) 81 (cpy h 52 l) (cpy h 53 l)))
    refine am_rB (hK _ (SQa_w0 H W.2.2.2.1)) ?_
    unfold wow
    rw [ifc_f (fun u => c1' ⟨by have := W.2.2.2.2.1; omega, u⟩)]
  · have c1' : 0 < (fgt (h_ul (cpy h) 81 (cpy h 52 l) (cpy h 53 l))) 80 0 ∧ CN ((fgt (h_ul (cpy h) 81 (cpy h 52 l) (cpy h 53 l))) 80 0) (nr (fgt (h_ul (cpy h) 81 (cpy h 52 l) (cpy h 53 l))) 81 0) := c1
    rw [W.2.1, W.2.2.1] at c1'
    have q2' : SQ (fgt (h_ul (cpy h) 81 (cpy h 52 l) (cpy h 53 l))) h' 79 := q2
    show K (some (mB (npt (nr (fgt (h_ul (cpy h) 81 (cpy h 52 l) (cpy h 53 l))) 81 0)))) h'
    rw [W.2.1]
    refine am_rB (hK h' (SQa_w H W.2.2.2.1 q2')) ?_
    unfold wow
    rw [ifc_t c1'.2]))
/-! 142 FactorNets.without -/
def C142 : am_K := fun as h K => am_a2 as (fun v0 v1 => am_oc 11 0 v0 (am_n v1 (fun l => (SV h 5) ∧ (∀ (h' : am_H), SQa (fun x9 => 79 ≤ x9 ∧ x9 ≤ 152) h h' → K (some (mB (ifc (0 ≤ l ∧ l < nl (nr h 7 0)) (wow (h 6 0) (nr h 7 0) l) (-2)))) (h')))))
theorem W142 {d : Nat} (H : ∀ (l : Int) (h : am_H) (K : Option am_V → am_H → Prop), (SV h 5) ∧ (∀ (h' : am_H), SQa (fun x9 => 79 ≤ x9 ∧ x9 ≤ 152) h h' → K (some (mB (ifc (0 ≤ l ∧ l < nl (nr h 7 0)) (wow (h 6 0) (nr h 7 0) l) (-2)))) (h')) → am_AT d 142 0 [some (mR 1 11 0 0), some (mB l)] h K) : am_CS d 142 C142 := by
  refine am_CS_of (T := tb142) (mL := 2) (rk := 1) rfl (fun as h K hC => ?_)
  obtain ⟨v0, v1, rfl, hC0⟩ := am_a2_e hC
  obtain ⟨e0, hC1⟩ := am_oc_e hC0
  subst e0
  obtain ⟨l, rfl, hC2⟩ := am_n_e hC1
  refine ⟨Nat.le_of_ble_eq_true rfl, ?_⟩
  exact H l h K hC2
theorem T142_0 {R : Option am_V → am_H → Prop} {h : am_H} {l : Int} (t : (SV h 5) ∧ (∀ (h' : am_H), (SQ h h' 5 ∧ (0 ≤ l → h' 5 5 = 1)) → (((¬ (0 ≤ l ∧ l < nl (nr h 7 0))) → (R (some (mB (-2))) h')) ∧ ((0 ≤ l ∧ l < nl (nr h 7 0)) → ((SV h' 5 ∧ h' 5 5 = 1 ∧ (0 ≤ l ∧ l < nl (nr h' 7 0))) ∧ (∀ (h'_1 : am_H), (SQa (fun x9 => 79 ≤ x9 ∧ x9 ≤ 152) h' h'_1) → (R (some (mB (wow (h' 6 0) (nr h' 7 0) l))) h'_1))))))) : am_AT 7 142 0 [some (mR 1 11 0 0), some (mB l)] h R :=
  am_T (d := 6) (m := 142) (T := tb142) (mL := 2) (rk := 1) (cuts := []) (l := [(158, C158), (171, C171)]) rfl ⟨am_CS_d (by decide) C158_ok, am_CS_d (by decide) C171_ok, trivial⟩ 13 (And.intro (rfl) (And.intro (t).1 (fun z2_0 z2_1 => And.intro (fun c2 => (((t).2) z2_0 z2_1).1 c2) (fun c2 => And.intro (rfl) (And.intro ((((t).2) z2_0 z2_1).2 c2).1 (fun z3_0 z3_1 => (((((t).2) z2_0 z2_1).2 c2).2) z3_0 z3_1))))))
theorem C142_ok : am_CS 7 142 C142 := W142 (fun l h K hb => by
  refine T142_0 ⟨hb.1, fun h' q1 => ⟨fun c2 => ?_, fun c2 => ⟨by rw [(SQ5_n q1.1).1]; exact ⟨q1.1.1, q1.2 c2.1, c2⟩, fun h'_1 q3 => ?_⟩⟩⟩
  · exact am_rB (hb.2 h' (SQa_of q1.1)) (ifc_f c2)
  · rw [(SQ5_n q1.1).1, (SQ5_n q1.1).2]
    exact am_rB (hb.2 h'_1 (SQa_tr (SQa_of q1.1) q3)) (ifc_t c2))
theorem wi_h {h : am_H} (hw : am_wf h) (H : SV h 5) {p q : Int} (hp : 0 ≤ p ∧ p < h 6 0) (hq : 0 ≤ q ∧ q < h 6 0) (hne : p ≠ q) : nr (fgt (h_lk (cpy h) 81 p q)) 81 0 = wi (nr h 7 0) p q ∧ (fgt (h_lk (cpy h) 81 p q)) 80 0 = h 6 0 ∧ (∀ x i, ¬ (79 ≤ x ∧ x ≤ 152) → (fgt (h_lk (cpy h) 81 p q)) x i = h x i) ∧ 2 ≤ h 6 0 ∧ (fgt (h_lk (cpy h) 81 p q)) 79 6 = 0 ∧ SV (fgt (h_lk (cpy h) 81 p q)) 79 := by
  have hN := (SV5_N H).1
  have hC := (SV5_N H).2
  have hn := hN.2.1
  have eg : nr (h_lk (cpy h) 81 p q) 81 0 = wi (nr h 7 0) p q := lk_nr (by omega) (by omega) (SV5_R H hw)
  have e80 : h_lk (cpy h) 81 p q 80 0 = h 6 0 := by rw [h_lk_ne (by omega), cpy_80]
  refine ⟨by rw [fgt_nr]; exact eg, by rw [fgt_ne (by omega)]; exact e80, fun x i' a => by rw [fgt_ne (by omega), h_lk_ne (by omega), cpy_ne (by omega) (by omega)], by omega, (fgt_f _).2.2, fgt_sv ?_ ?_⟩
  · rw [e80, eg]; exact NT_wi hN hp hq hne
  · rw [e80, eg]; exact CN_wi hN hC hp hq
/-! 143 FactorNets.with -/
def C143 : am_K := fun as h K => am_a3 as (fun v0 v1 v2 => am_oc 11 0 v0 (am_n v1 (fun p => am_n v2 (fun q => (SV h 5) ∧ (∀ (h' : am_H), SQa (fun x9 => 79 ≤ x9 ∧ x9 ≤ 152) h h' → K (some (mB (ifc ((0 ≤ p ∧ p < (h 6 0)) ∧ (0 ≤ q ∧ q < (h 6 0))) (ifc (p = q ∨ ad (nr h 7 0) p q) (-1) (npt (wi (nr h 7 0) p q))) (-2)))) (h'))))))
theorem W143 {d : Nat} (H : ∀ (p : Int) (q : Int) (h : am_H) (K : Option am_V → am_H → Prop), (SV h 5) ∧ (∀ (h' : am_H), SQa (fun x9 => 79 ≤ x9 ∧ x9 ≤ 152) h h' → K (some (mB (ifc ((0 ≤ p ∧ p < (h 6 0)) ∧ (0 ≤ q ∧ q < (h 6 0))) (ifc (p = q ∨ ad (nr h 7 0) p q) (-1) (npt (wi (nr h 7 0) p q))) (-2)))) (h')) → am_AT d 143 0 [some (mR 1 11 0 0), some (mB p), some (mB q)] h K) : am_CS d 143 C143 := by
  refine am_CS_of (T := tb143) (mL := 3) (rk := 1) rfl (fun as h K hC => ?_)
  obtain ⟨v0, v1, v2, rfl, hC0⟩ := am_a3_e hC
  obtain ⟨e0, hC1⟩ := am_oc_e hC0
  subst e0
  obtain ⟨p, rfl, hC2⟩ := am_n_e hC1
  obtain ⟨q, rfl, hC3⟩ := am_n_e hC2
  refine ⟨Nat.le_of_ble_eq_true rfl, ?_⟩
  exact H p q h K hC3
theorem T143_0 {R : Option am_V → am_H → Prop} {h : am_H} {p : Int} {q : Int} (t : ((((0 ≤ p ∧ p < (h 6 0)) ∧ (0 ≤ q ∧ q < (h 6 0)))) → (((p = q) → (R (some (mB (-1))) h)) ∧ ((¬ p = q) → (((0 ≤ p ∧ p < 20) ∧ (0 ≤ q ∧ q < 32)) ∧ (((¬ (bit (h 7 p) q)) → (((0 ≤ p ∧ p < 20) ∧ (0 ≤ q ∧ q < 20)) ∧ ((SV (am_up (am_up (am_up (h_lk (am_cp (am_up h (80 : Int) 0 (h (6 : Int) 0)) 7 0 81 0 20) 81 p q) (79 : Int) 4 0) (79 : Int) 5 0) (79 : Int) 6 0) (79 : Int) ∧ 2 ≤ (am_up (am_up (am_up (h_lk (am_cp (am_up h (80 : Int) 0 (h (6 : Int) 0)) 7 0 81 0 20) 81 p q) (79 : Int) 4 0) (79 : Int) 5 0) (79 : Int) 6 0) 80 0 ∧ (am_up (am_up (am_up (h_lk (am_cp (am_up h (80 : Int) 0 (h (6 : Int) 0)) 7 0 81 0 20) 81 p q) (79 : Int) 4 0) (79 : Int) 5 0) (79 : Int) 6 0) (79 : Int) 6 = 0) ∧ (∀ (h' : am_H), (SQ (am_up (am_up (am_up (h_lk (am_cp (am_up h (80 : Int) 0 (h (6 : Int) 0)) 7 0 81 0 20) 81 p q) (79 : Int) 4 0) (79 : Int) 5 0) (79 : Int) 6 0) h' (79 : Int)) → (R (some (mB (ncl (ptE (nr (am_up (am_up (am_up (h_lk (am_cp (am_up h (80 : Int) 0 (h (6 : Int) 0)) 7 0 81 0 20) 81 p q) (79 : Int) 4 0) (79 : Int) 5 0) (79 : Int) 6 0) 81 0)) (nl (nr (am_up (am_up (am_up (h_lk (am_cp (am_up h (80 : Int) 0 (h (6 : Int) 0)) 7 0 81 0 20) 81 p q) (79 : Int) 4 0) (79 : Int) 5 0) (79 : Int) 6 0) 81 0))))) h'))))) ∧ ((bit (h 7 p) q) → (R (some (mB (-1))) h))))))) ∧ ((¬ (((0 ≤ p ∧ p < (h 6 0)) ∧ (0 ≤ q ∧ q < (h 6 0))))) → (R (some (mB (-2))) h))) : am_AT 6 143 0 [some (mR 1 11 0 0), some (mB p), some (mB q)] h R :=
  am_T (d := 5) (m := 143) (T := tb143) (mL := 3) (rk := 1) (cuts := []) (l := [(20, C20), (23, C23), (24, C24), (87, C87), (91, C91), (157, C157)]) rfl ⟨am_CS_d (by decide) C20_ok, am_CS_d (by decide) C23_ok, am_CS_d (by decide) C24_ok, am_CS_d (by decide) C87_ok, am_CS_d (by decide) C91_ok, am_CS_d (by decide) C157_ok, trivial⟩ 39 (And.intro (rfl) (And.intro (fun c3 => And.intro (fun c4 => ((t).1 c3).1 c4) (fun c4 => And.intro (((t).1 c3).2 c4).1 (And.intro (fun c5 => And.intro (((((t).1 c3).2 c4).2).1 c5).1 (And.intro ((((((t).1 c3).2 c4).2).1 c5).2).1 (fun z4_0 z4_1 => (((((((t).1 c3).2 c4).2).1 c5).2).2) z4_0 z4_1))) (fun c5 => ((((t).1 c3).2 c4).2).2 c5)))) (fun c3 => (t).2 c3)))
theorem C143_ok : am_CS 6 143 C143 := W143 (fun p q h K hb => am_AT_ok (fun hw _ => by
  have hN := (SV5_N hb.1).1
  have hn := hN.2.1
  have ea : (0 ≤ p ∧ p < h 6 0) → (bit (h 7 p) q ↔ ad (nr h 7 0) p q) := fun a => by unfold ad; rw [nr_in0 a.1 (by omega)]
  refine T143_0 ⟨fun c1 => ⟨fun c2 => ?_, fun c2 => ⟨by omega, ⟨fun c3 => ⟨by omega, ⟨by
    have W := wi_h hw hb.1 c1.1 c1.2 c2
    show SV (fgt (h_lk (cpy h) 81 p q)) 79 ∧ 2 ≤ (fgt (h_lk (cpy h) 81 p q)) 80 0 ∧ (fgt (h_lk (cpy h) 81 p q)) 79 6 = 0
    exact ⟨W.2.2.2.2.2, by rw [W.2.1]; exact W.2.2.2.1, W.2.2.2.2.1⟩, fun h' q4 => ?_⟩⟩, fun c3 => ?_⟩⟩⟩, fun c1 => ?_⟩
  · exact am_rB (hb.2 h (SQa_of (SQ_rf hb.1))) (by rw [ifc_t c1, ifc_t (Or.inl c2)])
  · have W := wi_h hw hb.1 c1.1 c1.2 c2
    have q4' : SQ (fgt (h_lk (cpy h) 81 p q)) h' 79 := q4
    show K (some (mB (npt (nr (fgt (h_lk (cpy h) 81 p q)) 81 0)))) h'
    rw [W.1]
    exact am_rB (hb.2 h' (SQa_w hb.1 W.2.2.1 q4')) (by rw [ifc_t c1, ifc_f (fun u => u.elim c2 (fun u => c3 ((ea c1.1).mpr u)))])
  · exact am_rB (hb.2 h (SQa_of (SQ_rf hb.1))) (by rw [ifc_t c1, ifc_t (Or.inr ((ea c1.1).mp c3))])
  · exact am_rB (hb.2 h (SQa_of (SQ_rf hb.1))) (ifc_f c1)))
