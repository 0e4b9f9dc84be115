/-! ===== the reference: a line more, a line less ===== -/
def t_lk (h : am_H) (a b : Int) : am_H := am_up (am_up h 572 (2 + a) (iOr (h 572 (2 + a)) (iShl 1 b))) 572 (2 + b) (iOr ((am_up h 572 (2 + a) (iOr (h 572 (2 + a)) (iShl 1 b))) 572 (2 + b)) (iShl 1 a))
def t_ul (h : am_H) (a b : Int) : am_H := am_up (am_up h 572 (2 + a) (iAnd (h 572 (2 + a)) (iXor (iShl 1 b) (-1)))) 572 (2 + b) (iAnd ((am_up h 572 (2 + a) (iAnd (h 572 (2 + a)) (iXor (iShl 1 b) (-1)))) 572 (2 + b)) (iXor (iShl 1 a) (-1)))
section TL
variable {h : am_H} {a b : Int}
theorem t_lk_ne {x i : Int} (e : ¬ (x = 572 ∧ (i = 2 + a ∨ i = 2 + b))) : t_lk h a b x i = h x i := by
  unfold t_lk
  rw [am_up_n2 (fun z => e ⟨z.1, Or.inr z.2⟩), am_up_n2 (fun z => e ⟨z.1, Or.inl z.2⟩)]
theorem t_ul_ne {x i : Int} (e : ¬ (x = 572 ∧ (i = 2 + a ∨ i = 2 + b))) : t_ul h a b x i = h x i := by
  unfold t_ul
  rw [am_up_n2 (fun z => e ⟨z.1, Or.inr z.2⟩), am_up_n2 (fun z => e ⟨z.1, Or.inl z.2⟩)]
theorem t_lk_a (hne : a ≠ b) : t_lk h a b 572 (2 + a) = iOr (h 572 (2 + a)) (iShl 1 b) ∧ t_lk h a b 572 (2 + b) = iOr (h 572 (2 + b)) (iShl 1 a) := by
  unfold t_lk
  refine ⟨by rw [am_up_n2 (by omega), am_up_eq], ?_⟩
  rw [am_up_eq, am_up_n2 (by omega)]
theorem t_ul_a (hne : a ≠ b) : t_ul h a b 572 (2 + a) = iAnd (h 572 (2 + a)) (iXor (iShl 1 b) (-1)) ∧ t_ul h a b 572 (2 + b) = iAnd (h 572 (2 + b)) (iXor (iShl 1 a) (-1)) := by
  unfold t_ul
  refine ⟨by rw [am_up_n2 (by omega), am_up_eq], ?_⟩
  rw [am_up_eq, am_up_n2 (by omega)]
theorem t_lk_bt (hne : a ≠ b) (ha : 0 ≤ a ∧ a < 20) (hb : 0 ≤ b ∧ b < 20) (y x : Int) : bit (t_lk h a b 572 (2 + y)) x ↔ bit (h 572 (2 + y)) x ∨ (y = a ∧ x = b) ∨ (y = b ∧ x = a) := by
  by_cases e1 : y = a
  · rw [e1, (t_lk_a hne).1, bt_or, bt_1 hb.1 (by omega)]
    exact ⟨fun z => z.elim Or.inl (fun z => Or.inr (Or.inl ⟨rfl, z⟩)), fun z => z.elim Or.inl (fun z => z.elim (fun z => Or.inr z.2) (fun z => absurd z.1 hne))⟩
  · by_cases e2 : y = b
    · rw [e2, (t_lk_a hne).2, bt_or, bt_1 ha.1 (by omega)]
      exact ⟨fun z => z.elim Or.inl (fun z => Or.inr (Or.inr ⟨rfl, z⟩)), fun z => z.elim Or.inl (fun z => z.elim (fun z => absurd z.1.symm hne) (fun z => Or.inr z.2))⟩
    · rw [t_lk_ne (by omega)]
      exact ⟨Or.inl, fun z => z.elim id (fun z => z.elim (fun z => absurd z.1 e1) (fun z => absurd z.1 e2))⟩
theorem t_ul_bt (hne : a ≠ b) (ha : 0 ≤ a ∧ a < 20) (hb : 0 ≤ b ∧ b < 20) (y x : Int) : bit (t_ul h a b 572 (2 + y)) x ↔ bit (h 572 (2 + y)) x ∧ ¬ (y = a ∧ x = b) ∧ ¬ (y = b ∧ x = a) := by
  by_cases e1 : y = a
  · rw [e1, (t_ul_a hne).1, bt_less (by omega)]
    exact ⟨fun z => ⟨z.1, fun u => z.2 u.2, fun u => hne u.1⟩, fun z => ⟨z.1, fun u => z.2.1 ⟨rfl, u⟩⟩⟩
  · by_cases e2 : y = b
    · rw [e2, (t_ul_a hne).2, bt_less (by omega)]
      exact ⟨fun z => ⟨z.1, fun u => hne u.1.symm, fun u => z.2 u.2⟩, fun z => ⟨z.1, fun u => z.2.2 ⟨rfl, u⟩⟩⟩
    · rw [t_ul_ne (by omega)]
      exact ⟨fun z => ⟨z, fun u => e1 u.1, fun u => e2 u.1⟩, fun z => z.1⟩
theorem ad_nr2 {g : am_H} {p q : Int} : ad (nr g 572 2) p q ↔ (0 ≤ p ∧ p < 20) ∧ bit (g 572 (2 + p)) q := by
  unfold ad
  by_cases e : 0 ≤ p ∧ p < 20
  · rw [nr_in e.1 e.2]; exact ⟨fun z => ⟨e, z⟩, fun z => z.2⟩
  · rw [nr_out e]; exact ⟨fun z => absurd z bt_zero, fun z => absurd z.1 e⟩
theorem nr2_S20 {g : am_H} (H : ∀ y, 0 ≤ y → y < 20 → S20 (g 572 (2 + y))) (p : Int) : S20 (nr g 572 2 p) := by
  by_cases e : 0 ≤ p ∧ p < 20
  · rw [nr_in e.1 e.2]; exact H p e.1 e.2
  · rw [nr_out e]; exact S20_0
theorem rows_S {n : Int} (hw : am_wf h) (hN : NT n (nr h 572 2)) : ∀ y, 0 ≤ y → y < 20 → S20 (h 572 (2 + y)) := fun y y0 y1 => by
  have r : R32 (h 572 (2 + y)) := wf_i (n := 22) (m := 0) 572 hw (by decide +kernel) (2 + y) (by omega) (by omega)
  exact S20_of r (fun k hk => by
    have := NT_in hN (ad_nr2.mpr ⟨⟨y0, y1⟩, hk⟩)
    have := hN.2.1
    omega)
theorem t_ul_nr (hne : a ≠ b) (ha : 0 ≤ a ∧ a < 20) (hb : 0 ≤ b ∧ b < 20) (s : ∀ y, 0 ≤ y → y < 20 → S20 (h 572 (2 + y))) : nr (t_ul h a b) 572 2 = wo (nr h 572 2) a b := by
  refine rw2_is (fun p q => ?_) (nr2_S20 (fun y y0 y1 => ?_))
  · rw [ad_nr2, ad_nr2, t_ul_bt hne ha hb]
    exact ⟨fun z => ⟨⟨z.1, z.2.1⟩, z.2.2⟩, fun z => ⟨z.1.1, z.1.2, z.2⟩⟩
  · by_cases e1 : y = a
    · rw [e1, (t_ul_a hne).1]; exact S20_and (s a ha.1 ha.2)
    · by_cases e2 : y = b
      · rw [e2, (t_ul_a hne).2]; exact S20_and (s b hb.1 hb.2)
      · rw [t_ul_ne (by omega)]; exact s y y0 y1
theorem t_lk_nr (hne : a ≠ b) (ha : 0 ≤ a ∧ a < 20) (hb : 0 ≤ b ∧ b < 20) (s : ∀ y, 0 ≤ y → y < 20 → S20 (h 572 (2 + y))) : nr (t_lk h a b) 572 2 = wi (nr h 572 2) a b := by
  refine rw2_is (fun p q => ?_) (nr2_S20 (fun y y0 y1 => ?_))
  · rw [ad_nr2, ad_nr2, t_lk_bt hne ha hb]
    constructor
    · intro z
      exact z.2.elim (fun u => Or.inl ⟨z.1, u⟩) Or.inr
    · intro z
      rcases z with z | z | z
      · exact ⟨z.1, Or.inl z.2⟩
      · exact ⟨by omega, Or.inr (Or.inl z)⟩
      · exact ⟨by omega, Or.inr (Or.inr z)⟩
  · by_cases e1 : y = a
    · rw [e1, (t_lk_a hne).1]; exact S20_or (s a ha.1 ha.2) (S20_1 hb.1 hb.2)
    · by_cases e2 : y = b
      · rw [e2, (t_lk_a hne).2]; exact S20_or (s b hb.1 hb.2) (S20_1 ha.1 ha.2)
      · rw [t_lk_ne (by omega)]; exact s y y0 y1
/-- and back again -/
theorem t_back {g : am_H} (hne : a ≠ b) (ha : 0 ≤ a ∧ a < 20) (hb : 0 ≤ b ∧ b < 20) (s : ∀ y, 0 ≤ y → y < 20 → S20 (h 572 (2 + y))) (f : ∀ i, g 572 i = t_ul h a b 572 i) (e1 : bit (h 572 (2 + a)) b) (e2 : bit (h 572 (2 + b)) a) (i : Int) : t_lk g a b 572 i = h 572 i := by
  have key : ∀ y, (y = a ∨ y = b) → t_lk g a b 572 (2 + y) = h 572 (2 + y) := fun y hy => by
    have sy := s y (by omega) (by omega)
    refine bt_ext ?_ (by have := sy.1; have := sy.2; unfold R32; omega) (fun x _ _ => ?_)
    · rcases hy with e | e
      · rw [e, (t_lk_a hne).1]; exact rg_or _ _
      · rw [e, (t_lk_a hne).2]; exact rg_or _ _
    · rw [t_lk_bt hne ha hb, f, t_ul_bt hne ha hb]
      constructor
      · intro z
        rcases z with z | z | z
        · exact z.1
        · rw [z.1, z.2]; exact e1
        · rw [z.1, z.2]; exact e2
      · intro z
        by_cases u1 : y = a ∧ x = b
        · exact Or.inr (Or.inl u1)
        · by_cases u2 : y = b ∧ x = a
          · exact Or.inr (Or.inr u2)
          · exact Or.inl ⟨z, u1, u2⟩
  by_cases u1 : i = 2 + a
  · rw [u1]; exact key a (Or.inl rfl)
  · by_cases u2 : i = 2 + b
    · rw [u2]; exact key b (Or.inr rfl)
    · rw [t_lk_ne (by omega), f, t_ul_ne (by omega)]
theorem t_back2 {g : am_H} (hne : a ≠ b) (ha : 0 ≤ a ∧ a < 20) (hb : 0 ≤ b ∧ b < 20) (s : ∀ y, 0 ≤ y → y < 20 → S20 (h 572 (2 + y))) (f : ∀ i, g 572 i = t_lk h a b 572 i) (e1 : ¬ bit (h 572 (2 + a)) b) (e2 : ¬ bit (h 572 (2 + b)) a) (i : Int) : t_ul g a b 572 i = h 572 i := by
  have key : ∀ y, (y = a ∨ y = b) → t_ul g a b 572 (2 + y) = h 572 (2 + y) := fun y hy => by
    have sy := s y (by omega) (by omega)
    refine bt_ext ?_ (by have := sy.1; have := sy.2; unfold R32; omega) (fun x _ _ => ?_)
    · rcases hy with e | e
      · rw [e, (t_ul_a hne).1]; exact rg_and _ _
      · rw [e, (t_ul_a hne).2]; exact rg_and _ _
    · rw [t_ul_bt hne ha hb, f, t_lk_bt hne ha hb]
      constructor
      · intro z
        rcases z.1 with w | w | w
        · exact w
        · exact absurd w z.2.1
        · exact absurd w z.2.2
      · intro z
        exact ⟨Or.inl z, fun u => e1 (by rw [u.1, u.2] at z; exact z), fun u => e2 (by rw [u.1, u.2] at z; exact z)⟩
  by_cases u1 : i = 2 + a
  · rw [u1]; exact key a (Or.inl rfl)
  · by_cases u2 : i = 2 + b
    · rw [u2]; exact key b (Or.inr rfl)
    · rw [t_ul_ne (by omega), f, t_lk_ne (by omega)]
theorem RQ_back {g : am_H} (H : RIv h) (f : ∀ x i, PR x i → g x i = h x i) (z : g 571 17 = 0) : RQ h g := by
  have e1 : nr g 572 2 = nr h 572 2 := nr_fr2 (fun i => f _ _ (by unfold PR; omega))
  have e2 : g 572 0 = h 572 0 := f _ _ (by unfold PR; omega)
  refine ⟨f, ?_⟩
  unfold RIv
  rw [e1, e2]
  exact ⟨H.1, H.2.1, fun q => by omega⟩
end TL
