/-! ===== sides ===== -/
def uc (r : Int → Int) (s p q : Int) : Prop := ad r p q ∧ lab (sdE r) (lno r p q) ≠ s
def sc (r : Int → Int) (s p q : Int) : Prop := ad r p q ∧ lab (sdE r) (lno r p q) = s
def qE (r : Int → Int) (s a b : Int) : Prop := a ≠ b ∧ ∃ p q, sc r s p q ∧ lab (uc r s) p = a ∧ lab (uc r s) q = b
section FST
variable {E : Int → Int → Prop}
theorem fst_ok (hs : ∀ x y, E x y → E y x) {p : Int} (p0 : 0 ≤ p) : (0 ≤ fst E p ∧ fst E p ≤ p) ∧ rc E p (fst E p) ∧ ∀ i, 0 ≤ i → i < fst E p → ¬ rc E p i := by
  obtain ⟨j, h1, h2⟩ := least_ex (P := fun j : Nat => rc E p j) ⟨p.toNat, by rw [Int.toNat_of_nonneg p0]; exact rc_refl⟩
  have e : fst E p = j := fst_eq (by omega) h1 (fun i i0 i1 q => h2 i.toNat (by omega) (by rw [Int.toNat_of_nonneg i0]; exact q))
  rw [e]
  refine ⟨⟨by omega, ?_⟩, h1, fun i i0 i1 q => h2 i.toNat (by omega) (by rw [Int.toNat_of_nonneg i0]; exact q)⟩
  refine Classical.byContradiction fun q => h2 p.toNat (by omega) (by rw [Int.toNat_of_nonneg p0]; exact rc_refl)
theorem fst_rc (hs : ∀ x y, E x y → E y x) {p q : Int} (p0 : 0 ≤ p) (q0 : 0 ≤ q) : rc E p q ↔ fst E p = fst E q := by
  obtain ⟨a1, a2, a3⟩ := fst_ok hs p0
  obtain ⟨b1, b2, b3⟩ := fst_ok hs q0
  constructor
  · intro h
    have h1 : rc E p (fst E q) := rc_trans h b2
    have h2 : rc E q (fst E p) := rc_trans (rc_sym hs h) a2
    refine Classical.byContradiction fun z => ?_
    by_cases c : fst E p < fst E q
    · exact b3 _ a1.1 c h2
    · exact a3 _ b1.1 (by omega) h1
  · intro h
    rw [h] at a2
    exact rc_trans a2 (rc_sym hs b2)
theorem fst_fst (hs : ∀ x y, E x y → E y x) {p : Int} (p0 : 0 ≤ p) : fst E (fst E p) = fst E p := by
  obtain ⟨a1, a2, a3⟩ := fst_ok hs p0
  exact ((fst_rc hs p0 a1.1).mp a2).symm
theorem lab_eq (hs : ∀ x y, E x y → E y x) {p q : Int} (p0 : 0 ≤ p) (q0 : 0 ≤ q) : lab E p = lab E q ↔ rc E p q := by
  rw [fst_rc hs p0 q0]
  obtain ⟨a1, a2, a3⟩ := fst_ok hs p0
  obtain ⟨b1, b2, b3⟩ := fst_ok hs q0
  have key : ∀ a b, 0 ≤ a → a < b → fst E a = a → ct (fun j => fst E j = j) a.toNat < ct (fun j => fst E j = j) b.toNat := fun a b a0 ab ha => by
    have e1 := ct_to (P := fun j => fst E j = j) a0
    rw [am_b_t ha] at e1
    have e2 := ct_mn (fun j => fst E j = j) (a + 1).toNat (b.toNat - (a + 1).toNat)
    rw [show (a + 1).toNat + (b.toNat - (a + 1).toNat) = b.toNat by omega] at e2
    omega
  constructor
  · intro h
    unfold lab at h
    refine Classical.byContradiction fun z => ?_
    by_cases c : fst E p < fst E q
    · have := key _ _ a1.1 c (fst_fst hs p0)
      omega
    · have := key _ _ b1.1 (show fst E q < fst E p by omega) (fst_fst hs q0)
      omega
  · intro h
    unfold lab
    rw [h]
theorem lab_r (hs : ∀ x y, E x y → E y x) {p n : Int} (p0 : 0 ≤ p) (p1 : p < n) : 0 ≤ lab E p ∧ lab E p < ncl E n := by
  obtain ⟨a1, a2, a3⟩ := fst_ok hs p0
  have h1 := (ct_le (fun j => fst E j = j) (fst E p).toNat).1
  have e1 := ct_to (P := fun j => fst E j = j) a1.1
  rw [am_b_t (fst_fst hs p0)] at e1
  have e2 := ct_mn (fun j => fst E j = j) (fst E p + 1).toNat (n.toNat - (fst E p + 1).toNat)
  rw [show (fst E p + 1).toNat + (n.toNat - (fst E p + 1).toNat) = n.toNat by omega] at e2
  unfold lab ncl
  omega
theorem ncl_rn {n : Int} (h0 : 0 ≤ n) : 0 ≤ ncl E n ∧ ncl E n ≤ n := by
  have := ct_le (fun j => fst E j = j) n.toNat
  unfold ncl
  omega
end FST
section SD
variable {n : Int} {r : Int → Int} {s : Int}
theorem uc_sym (hN : NT n r) (x y : Int) (h : uc r s x y) : uc r s y x := ⟨NT_sym hN _ _ h.1, by rw [lno_sym hN]; exact h.2⟩
theorem sc_sym (hN : NT n r) (x y : Int) (h : sc r s x y) : sc r s y x := ⟨NT_sym hN _ _ h.1, by rw [lno_sym hN]; exact h.2⟩
theorem qE_sym (hN : NT n r) (x y : Int) (h : qE r s x y) : qE r s y x := by
  obtain ⟨h1, p, q, h2, h3, h4⟩ := h
  exact ⟨Ne.symm h1, q, p, sc_sym hN _ _ h2, h4, h3⟩
theorem qE_r (hN : NT n r) {x y : Int} (h : qE r s x y) : (0 ≤ x ∧ x < ncl (uc r s) n) ∧ (0 ≤ y ∧ y < ncl (uc r s) n) := by
  obtain ⟨h1, p, q, h2, h3, h4⟩ := h
  have h5 := NT_in hN h2.1
  rw [← h3, ← h4]
  exact ⟨lab_r (uc_sym hN) h5.1.1 h5.1.2, lab_r (uc_sym hN) h5.2.1 h5.2.2⟩
/-- one comes from piece to piece -/
theorem q_rc (hN : NT n r) (hC : CN n r) {p q : Int} (hp : 0 ≤ p ∧ p < n) (hq : 0 ≤ q ∧ q < n) : rc (qE r s) (lab (uc r s) p) (lab (uc r s) q) := by
  have h := CN_rc hN hC hp hq
  exact (rc_in (P := fun x => (0 ≤ x ∧ x < n) ∧ rc (qE r s) (lab (uc r s) p) (lab (uc r s) x)) (fun a b ha hab => by
    have hb := NT_in hN hab
    refine ⟨hb.2, ?_⟩
    by_cases c : lab (uc r s) a = lab (uc r s) b
    · rw [← c]; exact ha.2
    · refine rc_step ha.2 ⟨c, a, b, ⟨hab, ?_⟩, rfl, rfl⟩
      refine Classical.byContradiction fun z => c ((lab_eq (uc_sym hN) hb.1.1 hb.2.1).mpr (rc_1 ⟨hab, z⟩))) ⟨hp, rc_refl⟩ h).2
end SD
/-! rows with a line more, a line less -/
theorem ad_lk {h : am_H} {q a b x y : Int} (ha : 0 ≤ a ∧ a < 20) (hb : 0 ≤ b ∧ b < 20) : ad (nr (h_lk h q a b) q 0) x y ↔ ad (nr h q 0) x y ∨ (x = a ∧ y = b) ∨ (x = b ∧ y = a) := by
  rw [ad_nr, ad_nr]
  unfold h_lk
  by_cases c1 : x = b
  · rw [c1, am_up_eq, bt_or, bt_1 ha.1 (by omega)]
    by_cases c2 : b = a
    · rw [c2, am_up_eq, bt_or, bt_1 (by omega) (by omega)]
      constructor
      · rintro ⟨h1, (h2 | h2) | h2⟩
        · exact Or.inl ⟨h1, h2⟩
        · exact Or.inr (Or.inl ⟨rfl, h2⟩)
        · exact Or.inr (Or.inr ⟨rfl, h2⟩)
      · rintro (h1 | h1 | h1)
        · exact ⟨h1.1, Or.inl (Or.inl h1.2)⟩
        · exact ⟨ha, Or.inl (Or.inr h1.2)⟩
        · exact ⟨ha, Or.inr h1.2⟩
    · rw [am_up_ne2 c2]
      constructor
      · rintro ⟨h1, h2 | h2⟩
        · exact Or.inl ⟨h1, h2⟩
        · exact Or.inr (Or.inr ⟨rfl, h2⟩)
      · rintro (h1 | h1 | h1)
        · exact ⟨h1.1, Or.inl h1.2⟩
        · exact absurd h1.1 c2
        · exact ⟨hb, Or.inr h1.2⟩
  · rw [am_up_ne2 c1]
    by_cases c2 : x = a
    · rw [c2, am_up_eq, bt_or, bt_1 hb.1 (by omega)]
      constructor
      · rintro ⟨h1, h2 | h2⟩
        · exact Or.inl ⟨h1, h2⟩
        · exact Or.inr (Or.inl ⟨rfl, h2⟩)
      · rintro (h1 | h1 | h1)
        · exact ⟨h1.1, Or.inl h1.2⟩
        · exact ⟨ha, Or.inr h1.2⟩
        · exact absurd (c2.trans h1.1) c1
    · rw [am_up_ne2 c2]
      constructor
      · exact Or.inl
      · rintro (h1 | h1 | h1)
        · exact h1
        · exact absurd h1.1 c2
        · exact absurd h1.1 c1
theorem ad_ul {h : am_H} {q a b x y : Int} (ha : 0 ≤ a ∧ a < 20) (hb : 0 ≤ b ∧ b < 20) : ad (nr (h_ul h q a b) q 0) x y ↔ ad (nr h q 0) x y ∧ ¬ (x = a ∧ y = b) ∧ ¬ (x = b ∧ y = a) := by
  rw [ad_nr, ad_nr]
  unfold h_ul
  by_cases c1 : x = b
  · rw [c1, am_up_eq, bt_and, bt_not, bt_1 ha.1 (by omega)]
    by_cases c2 : b = a
    · rw [c2, am_up_eq, bt_and, bt_not, bt_1 (by omega) (by omega)]
      constructor
      · rintro ⟨h1, ⟨h2, -, -, h3⟩, -, -, h4⟩
        exact ⟨⟨h1, h2⟩, fun z => h3 z.2, fun z => h4 z.2⟩
      · rintro ⟨h1, h2, h3⟩
        exact ⟨h1.1, ⟨h1.2, h1.2.1, bt_lt h1.2, fun z => h2 ⟨rfl, z⟩⟩, h1.2.1, bt_lt h1.2, fun z => h3 ⟨rfl, z⟩⟩
    · rw [am_up_ne2 c2]
      constructor
      · rintro ⟨h1, h2, -, -, h3⟩
        exact ⟨⟨h1, h2⟩, fun z => c2 z.1, fun z => h3 z.2⟩
      · rintro ⟨h1, h2, h3⟩
        exact ⟨h1.1, h1.2, h1.2.1, bt_lt h1.2, fun z => h3 ⟨rfl, z⟩⟩
  · rw [am_up_ne2 c1]
    by_cases c2 : x = a
    · rw [c2, am_up_eq, bt_and, bt_not, bt_1 hb.1 (by omega)]
      constructor
      · rintro ⟨h1, h2, -, -, h3⟩
        exact ⟨⟨h1, h2⟩, fun z => h3 z.2, fun z => c1 (c2.trans z.1)⟩
      · rintro ⟨h1, h2, h3⟩
        exact ⟨h1.1, h1.2, h1.2.1, bt_lt h1.2, fun z => h2 ⟨rfl, z⟩⟩
    · rw [am_up_ne2 c2]
      exact ⟨fun z => ⟨z, fun w => c2 w.1, fun w => c1 w.1⟩, fun z => z.1⟩
theorem h_lk_ne {h : am_H} {q a b x i : Int} (e : x ≠ q) : h_lk h q a b x i = h x i := by
  unfold h_lk
  rw [am_up_ne e, am_up_ne e]
theorem h_ul_ne {h : am_H} {q a b x i : Int} (e : x ≠ q) : h_ul h q a b x i = h x i := by
  unfold h_ul
  rw [am_up_ne e, am_up_ne e]
theorem am_cp_in {h : am_H} {p s q d n i : Int} (h0 : d ≤ i) (h1 : i < d + n) : am_cp h p s q d n q i = h p (s + (i - d)) := if_pos ⟨rfl, h0, h1⟩
/-! a survey, and cells beside it -/
def SQa (A : Int → Prop) (h h' : am_H) : Prop := SV h' 5 ∧ (∀ x i, ¬ (8 < x ∧ x ≤ 78) → ¬ (x = 5 ∧ 4 ≤ i ∧ i ≤ 6) → ¬ A x → h' x i = h x i) ∧ (nr h' 7 0 = nr h 7 0 ∧ h' 6 0 = h 6 0) ∧ (h 5 4 = 1 → h' 5 4 = 1) ∧ (h 5 5 = 1 → h' 5 5 = 1) ∧ (h 5 6 = 1 → h' 5 6 = 1)
theorem SQa_of {A : Int → Prop} {h h' : am_H} (H : SQ h h' 5) : SQa A h h' := ⟨H.1, fun x i a b _ => SQ5_f H x i a b, SQ5_n H, H.2.2.2.2.1, H.2.2.2.2.2.1, H.2.2.2.2.2.2⟩
theorem SQa_tr {A : Int → Prop} {h h' h'' : am_H} (H : SQa A h h') (H2 : SQa A h' h'') : SQa A h h'' := ⟨H2.1, fun x i a b c => (H2.2.1 x i a b c).trans (H.2.1 x i a b c), ⟨H2.2.2.1.1.trans H.2.2.1.1, H2.2.2.1.2.trans H.2.2.1.2⟩, fun q => H2.2.2.2.1 (H.2.2.2.1 q), fun q => H2.2.2.2.2.1 (H.2.2.2.2.1 q), fun q => H2.2.2.2.2.2 (H.2.2.2.2.2 q)⟩
theorem SV_fr5 {h h' : am_H} (H : SV h 5) (e : ∀ x i, 5 ≤ x → x ≤ 78 → h' x i = h x i) : SV h' 5 := by
  have e1 : nr h' 7 0 = nr h 7 0 := nr_fr2 (fun i => e _ _ (by omega) (by omega))
  have e2 : h' 6 0 = h 6 0 := e _ _ (by omega) (by omega)
  have hn := (SV5_N H).1.2.1
  show (NT (h' 6 0) (nr h' 7 0) ∧ CN (h' 6 0) (nr h' 7 0)) ∧ (0 : Int) ≤ 5 ∧ (h' 5 4 = 1 → MT h' 8 (h' 6 0) (nr h' 7 0)) ∧ (h' 5 5 = 1 → LN h' 51 (h' 6 0) (nr h' 7 0)) ∧ (h' 5 6 = 1 → SO h' 75 (nr h' 7 0) ∧ h' 5 4 = 1 ∧ h' 5 5 = 1)
  rw [e1, e2, e 5 4 (by omega) (by omega), e 5 5 (by omega) (by omega), e 5 6 (by omega) (by omega)]
  refine ⟨H.1, by omega, fun q => MT_fr hn (H.2.2.1 q) (fun x i a b => e _ _ (by omega) (by omega)), fun q => LN_fr hn (H.2.2.2.1 q) (fun x i a b => e _ _ (by omega) (by omega)), fun q => ⟨SO_fr (H.2.2.2.2 q).1 (fun x i a b => e _ _ (by omega) (by omega)), (H.2.2.2.2 q).2⟩⟩
theorem SQa_fr {A : Int → Prop} {h h' h'' : am_H} (H : SQa A h h') (e : ∀ x i, ¬ A x → h'' x i = h' x i) (hA : ∀ x, A x → x < 5 ∨ 78 < x) : SQa A h h'' := by
  have e2 : ∀ x i, 5 ≤ x → x ≤ 78 → h'' x i = h' x i := fun x i a b => e x i (fun q => by have := hA x q; omega)
  refine ⟨SV_fr5 H.1 e2, fun x i a b c => (e x i c).trans (H.2.1 x i a b c), ⟨(nr_fr2 (fun i => e2 _ _ (by omega) (by omega))).trans H.2.2.1.1, (e2 _ _ (by omega) (by omega)).trans H.2.2.1.2⟩, fun q => ?_, fun q => ?_, fun q => ?_⟩
  · rw [e2 _ _ (by omega) (by omega)]; exact H.2.2.2.1 q
  · rw [e2 _ _ (by omega) (by omega)]; exact H.2.2.2.2.1 q
  · rw [e2 _ _ (by omega) (by omega)]; exact H.2.2.2.2.2 q
def PCS (h : am_H) (n : Int) (E : Int → Int → Prop) : Prop := h 472 0 = ncl E n ∧ (∀ p, 0 ≤ p → p < n → h 474 p = lab E p) ∧ (∀ i, 0 ≤ i → i < 20 → h 473 i = 0)
