/-! ===== the reference: a line more, a line less ===== -/
def t_lk (h : am_H) (a b : Int) : am_H := am_up (am_up h 572 (2 + a) (iOr (h 572 (2 + a)) (iShl 1 b))) 572 (2 + b) (iOr ((am_up h 572 (2 + a) (iOr (h 572 (2 + a)) (iShl 1 b))) 572 (2 + b)) (iShl 1 a))
def t_ul (h : am_H) (a b : Int) : am_H := am_up (am_up h 572 (2 + a) (iAnd (h 572 (2 + a)) (iXor (iShl 1 b) (-1)))) 572 (2 + b) (iAnd ((am_up h 572 (2 + a) (iAnd (h 572 (2 + a)) (iXor (iShl 1 b) (-1)))) 572 (2 + b)) (iXor (iShl 1 a) (-1)))
section TL
variable {h : am_H} {a b : Int}
theorem t_lk_ne {x i : Int} (e : ¬ (x = 572 ∧ (i = 2 + a ∨ i = 2 + b))) : t_lk h a b x i = h x i := by
  unfold t_lk
  rw [am_up_n2 (fun z => e ⟨z.1, Or.inr z.2⟩), am_up_n2 (fun z => e ⟨z.1, Or.inl z.2⟩)]
theorem t_ul_ne {x i : Int} (e : ¬ (x = 572 ∧ (i = 2 + a ∨ i = 2 + b))) : t_ul h a b x i = h x i := by
  unfold t_ul
  rw [am_up_n2 (fun z => e ⟨z.1, Or.inr z.2⟩), am_up_n2 (fun z => e ⟨z.1, Or.inl z.2⟩)]
theorem t_lk_a (hne : a ≠ b) : t_lk h a b 572 (2 + a) = iOr (h 572 (2 + a)) (iShl 1 b) ∧ t_lk h a b 572 (2 + b) = iOr (h 572 (2 + b)) (iShl 1 a) := by
  unfold t_lk
  refine ⟨by rw [am_up_n2 (by omega), am_up_eq], ?_⟩
  rw [am_up_eq, am_up_n2 (by omega)]
theorem t_ul_a (hne : a ≠ b) : t_ul h a b 572 (2 + a) = iAnd (h 572 (2 + a)) (iXor (iShl 1 b) (-1)) ∧ t_ul h a b 572 (2 + b) = iAnd (h 572 (2 + b)) (iXor (iShl 1 a) (-1)) := by
  unfold t_ul
  refine ⟨by rw [am_up_n2 (by omega), am_up_eq], ?_⟩
  rw [am_up_eq, am_up_n2 (by omega)]
theorem t_lk_bt (hne : a ≠ b) (ha : 0 ≤ a ∧ a < 20) (hb : 0 ≤ b ∧ b < 20) (y x : Int) : bit (t_lk h a b 572 (2 + y)) x ↔ bit (h 572 (2 + y)) x ∨ (y = a ∧ x = b) ∨ (y = b ∧ x = a) := by
  by_cases e1 : y = a
  · rw [e1, (t_lk_a hne).1, bt_or, bt_1 hb.1 (by omega)]
    exact ⟨fun z => z.elim Or.inl (fun z => Or.inr (Or.inl ⟨rfl, z⟩)), fun z => z.elim Or.inl (fun z => z.elim (fun z => Or.inr z.2) (fun z => absurd z.1 hne))⟩
  · by_cases e2 : y = b
    · rw [e2, (t_lk_a hne).2, bt_or, bt_1 ha.1 (by omega)]
      exact ⟨fun z => z.elim Or.inl (fun z => Or.inr (Or.inr ⟨rfl, z⟩)), fun z => z.elim Or.inl (fun z => z.elim (fun z => absurd z.1.symm hne) (fun z => Or.inr z.2))⟩
    · rw [t_lk_ne (by omega)]
      exact ⟨Or.inl, fun z => z.elim id (fun z => z.elim (fun z => absurd z.1 e1) (fun z => absurd z.1 e2))⟩
theorem t_ul_bt (hne : a ≠ b) (ha : 0 ≤ a ∧ a < 20) (hb : 0 ≤ b ∧ b < 20) (y x : Int) : bit (t_ul h a b 572 (2 + y)) x ↔ bit (h 572 (2 + y)) x ∧ ¬ (y = a ∧ x = b) ∧ ¬ (y = b ∧ x = a) := by
  by_cases e1 : y = a
  · rw [e1, (t_ul_a hne).1, bt_less (by omega)]
    exact ⟨fun z => ⟨z.1, fun u => z.2 u.2, fun u => hne u.1⟩, fun z => ⟨z.1, fun u => z.2.1 ⟨rfl, u⟩⟩⟩
  · by_cases e2 : y = b
    · rw [e2, (t_ul_a hne).2, bt_less (by omega)]
      exact ⟨fun z => ⟨z.1, fun u => hne u.1.symm, fun u => z.2 u.2⟩, fun z => ⟨z.1, fun u => z.2.2 ⟨rfl, u⟩⟩⟩
    · rw [t_ul_ne (by omega)]
      exact ⟨fun z => ⟨z, fun u => e1 u.1, fun u => e2 u.1⟩, fun z => z.1⟩
theorem ad_nr2 {g : am_H} {p q : Int} : ad (nr g 572 2) p q ↔ (0 ≤ p ∧ p < 20) ∧ bit (g 572 (2 + p)) q := by
  unfold ad
  by_cases e : 0 ≤ p ∧ p < 20
  · rw [nr_in e.1 e.2]; exact ⟨fun z => ⟨e, z⟩, fun z => z.2⟩
  · rw [nr_out e]; exact ⟨fun z => absurd z bt_zero, fun z => absurd z.1 e⟩
theorem nr2_S20 {g : am_H} (H : ∀ y, 0 ≤ y → y < 20 → S20 (g 572 (2 + y))) (p : Int) : S20 (nr g 572 2 p) := by
  by_cases e : 0 ≤ p ∧ p < 20
  · rw [nr_in e.1 e.2]; exact H p e.1 e.2
  · rw [nr_out e]; exact S20_0
theorem rows_S {n : Int} (hw : am_wf h) (hN : NT n (nr h 572 2)) : ∀ y, 0 ≤ y → y < 20 → S20 (h 572 (2 + y)) := fun y y0 y1 => by
  have r : R32 (h 572 (2 + y)) := wf_i (n := 22) (m := 0) 572 hw (by decide +kernel) (2 + y) (by omega) (by omega)
  exact S20_of r (fun k hk => by
    have := NT_in hN (ad_nr2.mpr ⟨⟨y0, y1⟩, hk⟩)
    have := hN.2.1
    omega)
theorem t_ul_nr (hne : a ≠ b) (ha : 0 ≤ a ∧ a < 20) (hb : 0 ≤ b ∧ b < 20) (s : ∀ y, 0 ≤ y → y < 20 → S20 (h 572 (2 + y))) : nr (t_ul h a b) 572 2 = wo (nr h 572 2) a b := by
  refine rw2_is (fun p q => ?_) (nr2_S20 (fun y y0 y1 => ?_))
  · rw [ad_nr2, ad_nr2, t_ul_bt hne ha hb]
    exact ⟨fun z => ⟨⟨z.1, z.2.1⟩, z.2.2⟩, fun z => ⟨z.1.1, z.1.2, z.2⟩⟩
  · by_cases e1 : y = a
    · rw [e1, (t_ul_a hne).1]; exact S20_and (s a ha.1 ha.2)
    · by_cases e2 : y = b
      · rw [e2, (t_ul_a hne).2]; exact S20_and (s b hb.1 hb.2)
      · rw [t_ul_ne (by omega)]; exact s y y0 y1
theorem t_lk_nr (hne : a ≠ b) (ha : 0 ≤ a ∧ a < 20) (hb : 0 ≤ b ∧ b < 20) (s : ∀ y, 0 ≤ y → y < 20 → S20 (h 572 (2 + y))) : nr (t_lk h a b) 572 2 = wi (nr h 572 2) a b := by
  refine rw2_is (fun p q => ?_) (nr2_S20 (fun y y0 y1 => ?_))
  · rw [ad_nr2, ad_nr2, t_lk_bt hne ha hb]
    constructor
    · intro z
      exact z.2.elim (fun u => Or.inl ⟨z.1, u⟩) Or.inr
    · intro z
      rcases z with z | z | z
      · exact ⟨z.1, Or.inl z.2⟩
      · exact ⟨by omega, Or.inr (Or.inl z)⟩
      · exact ⟨by omega, Or.inr (Or.inr z)⟩
  · by_cases e1 : y = a
    · rw [e1, (t_lk_a hne).1]; exact S20_or (s a ha.1 ha.2) (S20_1 hb.1 hb.2)
    · by_cases e2 : y = b
      · rw [e2, (t_lk_a hne).2]; exact S20_or (s b hb.1 hb.2) (S20_1 ha.1 ha.2)
      · rw [t_lk_ne (by omega)]; exact s y y0 y1
/-- and back again -/
theorem t_back {g : am_H} (hne : a ≠ b) (ha : 0 ≤ a ∧ a < 20) (hb : 0 ≤ b ∧ b < 20) (s : ∀ y, 0 ≤ y → y < 20 → S20 (h 572 (2 + y))) (f : ∀ i, g 572 i = t_ul h a b 572 i) (e1 : bit (h 572 (2 + a)) b) (e2 : bit (h 572 (2 + b)) a) (i : Int) : t_lk g a b 572 i = h 572 i := by
  have key : ∀ y, (y = a ∨ y = b) → t_lk g a b 572 (2 + y) = h 572 (2 + y) := fun y hy => by
    have sy := s y (by omega) (by omega)
    refine bt_ext ?_ (by have := sy.1; have := sy.2; unfold R32; omega) (fun x _ _ => ?_)
    · rcases hy with e | e
      · rw [e, (t_lk_a hne).1]; exact rg_or _ _
      · rw [e, (t_lk_a hne).2]; exact rg_or _ _
    · rw [t_lk_bt hne ha hb, f, t_ul_bt hne ha hb]
      constructor
      · intro z
        rcases z with z | z | z
        · exact z.1
        · rw [z.1, z.2]; exact e1
        · rw [z.1, z.2]; exact e2
      · intro z
        by_cases u1 : y = a ∧ x = b
        · exact Or.inr (Or.inl u1)
        · by_cases u2 : y = b ∧ x = a
          · exact Or.inr (Or.inr u2)
          · exact Or.inl ⟨z, u1, u2⟩
  by_cases u1 : i = 2 + a
  · rw [u1]; exact key a (Or.inl rfl)
  · by_cases u2 : i = 2 + b
    · rw [u2]; exact key b (Or.inr rfl)
    · rw [t_lk_ne (by omega), f, t_ul_ne (by omega)]
theorem t_back2 {g : am_H} (hne : a ≠ b) (ha : 0 ≤ a ∧ a < 20) (hb : 0 ≤ b ∧ b < 20) (s : ∀ y, 0 ≤ y → y < 20 → S20 (h 572 (2 + y))) (f : ∀ i, g 572 i = t_lk h a b 572 i) (e1 : ¬ bit (h 572 (2 + a)) b) (e2 : ¬ bit (h 572 (2 + b)) a) (i : Int) : t_ul g a b 572 i = h 572 i := by
  have key : ∀ y, (y = a ∨ y = b) → t_ul g a b 572 (2 + y) = h 572 (2 + y) := fun y hy => by
    have sy := s y (by omega) (by omega)
    refine bt_ext ?_ (by have := sy.1; have := sy.2; unfold R32; omega) (fun x _ _ => ?_)
    · rcases hy with e | e
      · rw [e, (t_ul_a hne).1]; exact rg_and _ _
      · rw [e, (t_ul_a hne).2]; exact rg_and _ _
    · rw [t_ul_bt hne ha hb, f, t_lk_bt hne ha hb]
      constructor
      · intro z
        rcases z.1 with w | w | w
        · exact w
        · exact absurd w z.2.1
        · exact absurd w z.2.2
      · intro z
        exact ⟨Or.inl z, fun u => e1 (by rw [u.1, u.2] at z; exact z), fun u => e2 (by rw [u.1, u.2] at z; exact z)⟩
  by_cases u1 : i = 2 + a
  · rw [u1]; exact key a (Or.inl rfl)
  · by_cases u2 : i = 2 + b
    · rw [u2]; exact key b (Or.inr rfl)
    · rw [t_ul_ne (by omega), f, t_lk_ne (by omega)]
theorem RQ_back {g : am_H} (H : RIv h) (f : ∀ x i, PR x i → g x i = h x i) (z : g 571 17 = 0) : RQ h g := by
  have e1 : nr g 572 2 = nr h 572 2 := nr_fr2 (fun i => f _ _ (by unfold PR; omega))
  have e2 : g 572 0 = h 572 0 := f _ _ (by unfold PR; omega)
  refine ⟨f, ?_⟩
  unfold RIv
  rw [e1, e2]
  exact ⟨H.1, H.2.1, fun q => by omega⟩
end TL
/-! 199 FactorNetsModel.ties -/
def C199 : am_K := fun as h K => am_a3 as (fun v0 v1 v2 => am_oc 12 571 v0 (am_n v1 (fun a => am_n v2 (fun b => ((0 ≤ a ∧ a < 20) ∧ (0 ≤ b ∧ b < 20)) ∧ (K (none) (t_lk h a b))))))
theorem W199 {d : Nat} (H : ∀ (a : Int) (b : Int) (h : am_H) (K : Option am_V → am_H → Prop), ((0 ≤ a ∧ a < 20) ∧ (0 ≤ b ∧ b < 20)) ∧ (K (none) (t_lk h a b)) → am_AT d 199 0 [some (mR 1 12 0 571), some (mB a), some (mB b)] h K) : am_CS d 199 C199 := by
  refine am_CS_of (T := tb199) (mL := 3) (rk := 0) rfl (fun as h K hC => ?_)
  obtain ⟨v0, v1, v2, rfl, hC0⟩ := am_a3_e hC
  obtain ⟨e0, hC1⟩ := am_oc_e hC0
  subst e0
  obtain ⟨a, rfl, hC2⟩ := am_n_e hC1
  obtain ⟨b, rfl, hC3⟩ := am_n_e hC2
  refine ⟨Nat.le_of_ble_eq_true rfl, ?_⟩
  exact H a b h K hC3
theorem T199_0 {R : Option am_V → am_H → Prop} {h : am_H} {a : Int} {b : Int} (t : (0 ≤ 2 + a ∧ 2 + a < 22) ∧ ((0 ≤ 2 + a ∧ 2 + a < 22) ∧ ((0 ≤ 2 + b ∧ 2 + b < 22) ∧ ((0 ≤ 2 + b ∧ 2 + b < 22) ∧ (R none (am_up (am_up h 572 (2 + a) (iOr (h 572 (2 + a)) (iShl 1 b))) 572 (2 + b) (iOr ((am_up h 572 (2 + a) (iOr (h 572 (2 + a)) (iShl 1 b))) 572 (2 + b)) (iShl 1 a)))))))) : am_AT 1 199 0 [some (mR 1 12 0 571), some (mB a), some (mB b)] h R :=
  am_T (d := 0) (m := 199) (T := tb199) (mL := 3) (rk := 0) (cuts := []) (l := []) rfl trivial 29 (And.intro (t).1 (And.intro ((t).2).1 (And.intro (((t).2).2).1 (And.intro ((((t).2).2).2).1 (((((t).2).2).2).2)))))
theorem C199_ok : am_CS 1 199 C199 := W199 (fun a b h K hb => by
  refine T199_0 ⟨by omega, ⟨by omega, ⟨by omega, ⟨by omega, ?_⟩⟩⟩⟩
  · exact hb.2)
/-! 200 FactorNetsModel.unties -/
def C200 : am_K := fun as h K => am_a3 as (fun v0 v1 v2 => am_oc 12 571 v0 (am_n v1 (fun a => am_n v2 (fun b => ((0 ≤ a ∧ a < 20) ∧ (0 ≤ b ∧ b < 20)) ∧ (K (none) (t_ul h a b))))))
theorem W200 {d : Nat} (H : ∀ (a : Int) (b : Int) (h : am_H) (K : Option am_V → am_H → Prop), ((0 ≤ a ∧ a < 20) ∧ (0 ≤ b ∧ b < 20)) ∧ (K (none) (t_ul h a b)) → am_AT d 200 0 [some (mR 1 12 0 571), some (mB a), some (mB b)] h K) : am_CS d 200 C200 := by
  refine am_CS_of (T := tb200) (mL := 3) (rk := 0) rfl (fun as h K hC => ?_)
  obtain ⟨v0, v1, v2, rfl, hC0⟩ := am_a3_e hC
  obtain ⟨e0, hC1⟩ := am_oc_e hC0
  subst e0
  obtain ⟨a, rfl, hC2⟩ := am_n_e hC1
  obtain ⟨b, rfl, hC3⟩ := am_n_e hC2
  refine ⟨Nat.le_of_ble_eq_true rfl, ?_⟩
  exact H a b h K hC3
theorem T200_0 {R : Option am_V → am_H → Prop} {h : am_H} {a : Int} {b : Int} (t : (0 ≤ 2 + a ∧ 2 + a < 22) ∧ ((0 ≤ 2 + a ∧ 2 + a < 22) ∧ ((0 ≤ 2 + b ∧ 2 + b < 22) ∧ ((0 ≤ 2 + b ∧ 2 + b < 22) ∧ (R none (am_up (am_up h 572 (2 + a) (iAnd (h 572 (2 + a)) (iXor (iShl 1 b) (-1)))) 572 (2 + b) (iAnd ((am_up h 572 (2 + a) (iAnd (h 572 (2 + a)) (iXor (iShl 1 b) (-1)))) 572 (2 + b)) (iXor (iShl 1 a) (-1))))))))) : am_AT 1 200 0 [some (mR 1 12 0 571), some (mB a), some (mB b)] h R :=
  am_T (d := 0) (m := 200) (T := tb200) (mL := 3) (rk := 0) (cuts := []) (l := []) rfl trivial 33 (And.intro (t).1 (And.intro ((t).2).1 (And.intro (((t).2).2).1 (And.intro ((((t).2).2).2).1 (((((t).2).2).2).2)))))
theorem C200_ok : am_CS 1 200 C200 := W200 (fun a b h K hb => by
  refine T200_0 ⟨by omega, ⟨by omega, ⟨by omega, ⟨by omega, ?_⟩⟩⟩⟩
  · exact hb.2)
/-! 301 FactorNetsModel.partsNow -/
def C301 : am_K := fun as h K => am_a1 as (fun v0 => am_oc 12 571 v0 ((NT (h 572 0) (nr h 572 2) ∧ CN (h 572 0) (nr h 572 2)) ∧ (∀ (h' : am_H), (∀ x9 i9, ¬ (x9 = 571 ∧ (i9 = 17 ∨ i9 = 21 ∨ i9 = 24 ∨ i9 = 25)) → ¬ (580 ≤ x9 ∧ x9 ≤ 585) → h' x9 i9 = h x9 i9) → K (some (mB (npt (nr h 572 2)))) (h'))))
theorem W301 {d : Nat} (H : ∀  (h : am_H) (K : Option am_V → am_H → Prop), (NT (h 572 0) (nr h 572 2) ∧ CN (h 572 0) (nr h 572 2)) ∧ (∀ (h' : am_H), (∀ x9 i9, ¬ (x9 = 571 ∧ (i9 = 17 ∨ i9 = 21 ∨ i9 = 24 ∨ i9 = 25)) → ¬ (580 ≤ x9 ∧ x9 ≤ 585) → h' x9 i9 = h x9 i9) → K (some (mB (npt (nr h 572 2)))) (h')) → am_AT d 301 0 [some (mR 1 12 0 571)] h K) : am_CS d 301 C301 := by
  refine am_CS_of (T := tb301) (mL := 1) (rk := 1) rfl (fun as h K hC => ?_)
  obtain ⟨v0, rfl, hC0⟩ := am_a1_e hC
  obtain ⟨e0, hC1⟩ := am_oc_e hC0
  subst e0
  refine ⟨Nat.le_of_ble_eq_true rfl, ?_⟩
  exact H  h K hC1
theorem T301_0 {R : Option am_V → am_H → Prop} {h : am_H} (t : (RIv (am_up h 571 17 0)) ∧ (∀ (h' : am_H), (LD (am_up h 571 17 0) h') → (R (some (mB (h' 571 24))) h'))) : am_AT 5 301 0 [some (mR 1 12 0 571)] h R :=
  am_T (d := 4) (m := 301) (T := tb301) (mL := 1) (rk := 1) (cuts := []) (l := [(220, C220)]) rfl ⟨am_CS_d (by decide) C220_ok, trivial⟩ 12 (And.intro (Or.inl rfl) (And.intro (rfl) (And.intro (t).1 (fun z1_0 z1_1 => ((t).2) z1_0 z1_1))))
theorem C301_ok : am_CS 5 301 C301 := W301 (fun h K hb => by
  have e1 : nr (am_up h 571 17 0) 572 2 = nr h 572 2 := nr_fr2 (fun i => am_up_ne (by omega))
  have e2 : am_up h 571 17 0 572 0 = h 572 0 := am_up_ne (by omega)
  refine T301_0 ⟨by
    unfold RIv
    rw [e1, e2]
    exact ⟨hb.1.1, hb.1.2, fun z => by rw [am_up_eq] at z; omega⟩, fun h' q1 => ?_⟩
  · have w := (LD_a q1).2.2.2.2.1
    rw [q1.2.1, e1] at w
    refine am_rB (hb.2 h' (fun x i a b => by rw [q1.1 x i a b, am_up_n2 (by omega)])) ?_
    unfold npt
    rw [w])
/-! 302 FactorNetsModel.withoutOf -/
def C302 : am_K := fun as h K => am_a3 as (fun v0 v1 v2 => am_oc 12 571 v0 (am_n v1 (fun p => am_n v2 (fun q => (RIv h ∧ ad (nr h 572 2) p q) ∧ (∀ (h' : am_H), RQ h h' → K (some (mB (ifc (CN (h 572 0) (wo (nr h 572 2) p q)) (npt (wo (nr h 572 2) p q)) (-1)))) (h'))))))
theorem W302 {d : Nat} (H : ∀ (p : Int) (q : Int) (h : am_H) (K : Option am_V → am_H → Prop), (RIv h ∧ ad (nr h 572 2) p q) ∧ (∀ (h' : am_H), RQ h h' → K (some (mB (ifc (CN (h 572 0) (wo (nr h 572 2) p q)) (npt (wo (nr h 572 2) p q)) (-1)))) (h')) → am_AT d 302 0 [some (mR 1 12 0 571), some (mB p), some (mB q), none] h K) : am_CS d 302 C302 := by
  refine am_CS_of (T := tb302) (mL := 4) (rk := 1) rfl (fun as h K hC => ?_)
  obtain ⟨v0, v1, v2, rfl, hC0⟩ := am_a3_e hC
  obtain ⟨e0, hC1⟩ := am_oc_e hC0
  subst e0
  obtain ⟨p, rfl, hC2⟩ := am_n_e hC1
  obtain ⟨q, rfl, hC3⟩ := am_n_e hC2
  refine ⟨Nat.le_of_ble_eq_true rfl, ?_⟩
  exact H p q h K hC3
theorem T302_0 {R : Option am_V → am_H → Prop} {h : am_H} {p : Int} {q : Int} (t : ((0 ≤ p ∧ p < 20) ∧ (0 ≤ q ∧ q < 20)) ∧ ((NT ((t_ul h p q) 572 0) (nr (t_ul h p q) 572 2)) ∧ (∀ (h' : am_H), ((∀ x i, x ≠ 580 → h' x i = (t_ul h p q) x i) ∧ RF h' ((t_ul h p q) 572 0) (nr (t_ul h p q) 572 2)) → (((¬ (CN ((t_ul h p q) 572 0) (nr (t_ul h p q) 572 2))) → (((0 ≤ p ∧ p < 20) ∧ (0 ≤ q ∧ q < 20)) ∧ (R (some (mB (-1))) (am_up (t_lk h' p q) 571 17 0)))) ∧ ((CN ((t_ul h p q) 572 0) (nr (t_ul h p q) 572 2)) → ((NT (h' 572 0) (nr h' 572 2) ∧ CN (h' 572 0) (nr h' 572 2)) ∧ (∀ (h'_1 : am_H), ((∀ x9 i9, ¬ (x9 = 571 ∧ (i9 = 17 ∨ i9 = 21 ∨ i9 = 24 ∨ i9 = 25)) → ¬ (580 ≤ x9 ∧ x9 ≤ 585) → h'_1 x9 i9 = h' x9 i9)) → (((0 ≤ p ∧ p < 20) ∧ (0 ≤ q ∧ q < 20)) ∧ (R (some (mB (npt (nr h' 572 2)))) (am_up (t_lk h'_1 p q) 571 17 0)))))))))) : am_AT 6 302 0 [some (mR 1 12 0 571), some (mB p), some (mB q), none] h R :=
  am_T (d := 5) (m := 302) (T := tb302) (mL := 4) (rk := 1) (cuts := []) (l := [(199, C199), (200, C200), (213, C213), (301, C301)]) rfl ⟨am_CS_d (by decide) C199_ok, am_CS_d (by decide) C200_ok, am_CS_d (by decide) C213_ok, am_CS_d (by decide) C301_ok, trivial⟩ 24 (And.intro (rfl) (And.intro (t).1 (And.intro (rfl) (And.intro ((t).2).1 (fun z2_0 z2_1 => And.intro (fun c1 => And.intro (rfl) (And.intro (((((t).2).2) z2_0 z2_1).1 c1).1 (And.intro (Or.inl rfl) ((((((t).2).2) z2_0 z2_1).1 c1).2)))) (fun c1 => And.intro (rfl) (And.intro (((((t).2).2) z2_0 z2_1).2 c1).1 (fun z3_0 z3_1 => And.intro (rfl) (And.intro (((((((t).2).2) z2_0 z2_1).2 c1).2) z3_0 z3_1).1 (And.intro (Or.inl rfl) ((((((((t).2).2) z2_0 z2_1).2 c1).2) z3_0 z3_1).2)))))))))))
theorem C302_ok : am_CS 6 302 C302 := W302 (fun p q h K hb => am_AT_ok (fun hw _ => by
  obtain ⟨⟨H, ha⟩, hK⟩ := hb
  have hN := H.1
  have hn := hN.2.1
  have k := hN.2.2 p q ha
  have s := rows_S hw hN
  have b1 : bit (h 572 (2 + p)) q := (ad_nr2.mp ha).2
  have b2 : bit (h 572 (2 + q)) p := (ad_nr2.mp k.2.2.2).2
  have eu : nr (t_ul h p q) 572 2 = wo (nr h 572 2) p q := t_ul_nr k.2.2.1 (by omega) (by omega) s
  have e0 : t_ul h p q 572 0 = h 572 0 := t_ul_ne (by omega)
  have fin : ∀ g : am_H, (∀ x i, PR x i → g x i = t_ul h p q x i) → RQ h (am_up (t_lk g p q) 571 17 0) := fun g f => RQ_back H (fun x i a => by
    rw [am_up_n2 (by unfold PR at a; omega)]
    by_cases e : x = 572
    · rw [e]
      exact t_back k.2.2.1 (by omega) (by omega) s (fun j => f _ _ (by unfold PR; omega)) b1 b2 i
    · rw [t_lk_ne (by omega), f x i a, t_ul_ne (by omega)]) am_up_eq
  refine T302_0 ⟨by omega, ⟨by rw [eu, e0]; exact NT_wo hN p q, fun h' q1 => ⟨fun c2 => ⟨by omega, ?_⟩, fun c2 => ⟨by
    rw [eu, e0] at c2
    have e1 : nr h' 572 2 = wo (nr h 572 2) p q := by rw [← eu]; exact nr_fr2 (fun i => q1.1 _ _ (by omega))
    rw [e1, q1.1 _ _ (by omega), e0]
    exact ⟨NT_wo hN p q, c2⟩, fun h'_1 q3 => ⟨by omega, ?_⟩⟩⟩⟩⟩
  · rw [eu, e0] at c2
    exact am_rB (hK _ (fin h' (fun x i a => q1.1 x i (by unfold PR at a; omega)))) (ifc_f c2)
  · rw [eu, e0] at c2
    have e1 : nr h' 572 2 = wo (nr h 572 2) p q := by rw [← eu]; exact nr_fr2 (fun i => q1.1 _ _ (by omega))
    rw [e1]
    exact am_rB (hK _ (fin h'_1 (fun x i a => by rw [q3 x i (by unfold PR at a; omega) (by unfold PR at a; omega)]; exact q1.1 x i (by unfold PR at a; omega)))) (ifc_t c2)))
/-! 303 FactorNetsModel.without -/
def C303 : am_K := fun as h K => am_a2 as (fun v0 v1 => am_oc 12 571 v0 (am_n v1 (fun l => (RIv h) ∧ (∀ (h' : am_H), RQ h h' → K (some (mB (ifc (0 ≤ l ∧ l < nl (nr h 572 2)) (wow (h 572 0) (nr h 572 2) l) (-2)))) (h')))))
theorem W303 {d : Nat} (H : ∀ (l : Int) (h : am_H) (K : Option am_V → am_H → Prop), (RIv h) ∧ (∀ (h' : am_H), RQ h h' → K (some (mB (ifc (0 ≤ l ∧ l < nl (nr h 572 2)) (wow (h 572 0) (nr h 572 2) l) (-2)))) (h')) → am_AT d 303 0 [some (mR 1 12 0 571), some (mB l)] h K) : am_CS d 303 C303 := by
  refine am_CS_of (T := tb303) (mL := 2) (rk := 1) rfl (fun as h K hC => ?_)
  obtain ⟨v0, v1, rfl, hC0⟩ := am_a2_e hC
  obtain ⟨e0, hC1⟩ := am_oc_e hC0
  subst e0
  obtain ⟨l, rfl, hC2⟩ := am_n_e hC1
  refine ⟨Nat.le_of_ble_eq_true rfl, ?_⟩
  exact H l h K hC2
theorem T303_0 {R : Option am_V → am_H → Prop} {h : am_H} {l : Int} (t : (RIv h) ∧ (∀ (h' : am_H), (LD h h') → (((¬ (0 ≤ l ∧ l < nl (nr h 572 2))) → (R (some (mB (-2))) h')) ∧ ((0 ≤ l ∧ l < nl (nr h 572 2)) → ((0 ≤ l ∧ l < 190) ∧ ((0 ≤ l ∧ l < 190) ∧ ((RIv h' ∧ ad (nr h' 572 2) (h' 581 l) (h' 582 l)) ∧ (∀ (h'_1 : am_H), (RQ h' h'_1) → (R (some (mB (ifc (CN (h' 572 0) (wo (nr h' 572 2) (h' 581 l) (h' 582 l))) (npt (wo (nr h' 572 2) (h' 581 l) (h' 582 l))) (-1)))) h'_1))))))))) : am_AT 7 303 0 [some (mR 1 12 0 571), some (mB l)] h R :=
  am_T (d := 6) (m := 303) (T := tb303) (mL := 2) (rk := 1) (cuts := []) (l := [(221, C221), (302, C302)]) rfl ⟨am_CS_d (by decide) C221_ok, am_CS_d (by decide) C302_ok, trivial⟩ 20 (And.intro (rfl) (And.intro (t).1 (fun z4_0 z4_1 => And.intro (fun c2 => (((t).2) z4_0 z4_1).1 c2) (fun c2 => And.intro ((((t).2) z4_0 z4_1).2 c2).1 (And.intro (((((t).2) z4_0 z4_1).2 c2).2).1 (And.intro (rfl) (And.intro ((((((t).2) z4_0 z4_1).2 c2).2).2).1 (fun z5_0 z5_1 => (((((((t).2) z4_0 z4_1).2 c2).2).2).2) z5_0 z5_1))))))))
theorem C303_ok : am_CS 7 303 C303 := W303 (fun l h K hb => by
  have nlr := nl_r (nr h 572 2)
  refine T303_0 ⟨hb.1, fun h' q1 => ⟨fun c2 => ?_, fun c2 => ⟨by omega, ⟨by omega, ⟨by
    have A := LD_a q1
    have L := A.2.2.2.1.2 l c2.1 (by rw [q1.2.1]; exact c2.2)
    rw [L.1, L.2]
    exact ⟨q1.2.2.2.2.1, (lo_ok c2.1 (by rw [q1.2.1]; exact c2.2)).2.1⟩, fun h'_1 q3 => ?_⟩⟩⟩⟩⟩
  · exact am_rB (hb.2 h' (LD_q q1)) (ifc_f c2)
  · have A := LD_a q1
    have L := A.2.2.2.1.2 l c2.1 (by rw [q1.2.1]; exact c2.2)
    rw [q1.2.1] at L
    rw [L.1, L.2, q1.2.1, q1.2.2.1]
    exact am_rB (hb.2 h'_1 (RQ_tr (LD_q q1) q3)) (ifc_t c2))
/-! 304 FactorNetsModel.with -/
def C304 : am_K := fun as h K => am_a3 as (fun v0 v1 v2 => am_oc 12 571 v0 (am_n v1 (fun p => am_n v2 (fun q => (RIv h) ∧ (∀ (h' : am_H), RQ h h' → K (some (mB (ifc ((0 ≤ p ∧ p < (h 572 0)) ∧ (0 ≤ q ∧ q < (h 572 0))) (ifc (p = q ∨ ad (nr h 572 2) p q) (-1) (npt (wi (nr h 572 2) p q))) (-2)))) (h'))))))
theorem W304 {d : Nat} (H : ∀ (p : Int) (q : Int) (h : am_H) (K : Option am_V → am_H → Prop), (RIv h) ∧ (∀ (h' : am_H), RQ h h' → K (some (mB (ifc ((0 ≤ p ∧ p < (h 572 0)) ∧ (0 ≤ q ∧ q < (h 572 0))) (ifc (p = q ∨ ad (nr h 572 2) p q) (-1) (npt (wi (nr h 572 2) p q))) (-2)))) (h')) → am_AT d 304 0 [some (mR 1 12 0 571), some (mB p), some (mB q), none] h K) : am_CS d 304 C304 := by
  refine am_CS_of (T := tb304) (mL := 4) (rk := 1) rfl (fun as h K hC => ?_)
  obtain ⟨v0, v1, v2, rfl, hC0⟩ := am_a3_e hC
  obtain ⟨e0, hC1⟩ := am_oc_e hC0
  subst e0
  obtain ⟨p, rfl, hC2⟩ := am_n_e hC1
  obtain ⟨q, rfl, hC3⟩ := am_n_e hC2
  refine ⟨Nat.le_of_ble_eq_true rfl, ?_⟩
  exact H p q h K hC3
theorem T304_0 {R : Option am_V → am_H → Prop} {h : am_H} {p : Int} {q : Int} (t : (RIv h) ∧ (∀ (h' : am_H), (LD h h') → ((((0 ≤ p ∧ p < (h 572 0)) ∧ (0 ≤ q ∧ q < (h 572 0))) → (((p = q) → (R (some (mB (-1))) h')) ∧ ((¬ p = q) → (((0 ≤ p ∧ p < 20) ∧ (0 ≤ q ∧ q < 32)) ∧ (((¬ (bit (h' 572 (2 + p)) q)) → (((0 ≤ p ∧ p < 20) ∧ (0 ≤ q ∧ q < 20)) ∧ ((NT ((t_lk h' p q) 572 0) (nr (t_lk h' p q) 572 2) ∧ CN ((t_lk h' p q) 572 0) (nr (t_lk h' p q) 572 2)) ∧ (∀ (h'_1 : am_H), ((∀ x9 i9, ¬ (x9 = 571 ∧ (i9 = 17 ∨ i9 = 21 ∨ i9 = 24 ∨ i9 = 25)) → ¬ (580 ≤ x9 ∧ x9 ≤ 585) → h'_1 x9 i9 = (t_lk h' p q) x9 i9)) → (((0 ≤ p ∧ p < 20) ∧ (0 ≤ q ∧ q < 20)) ∧ (R (some (mB (npt (nr (t_lk h' p q) 572 2)))) (am_up (t_ul h'_1 p q) 571 17 0))))))) ∧ ((bit (h' 572 (2 + p)) q) → (R (some (mB (-1))) h'))))))) ∧ ((¬ ((0 ≤ p ∧ p < (h 572 0)) ∧ (0 ≤ q ∧ q < (h 572 0)))) → (R (some (mB (-2))) h'))))) : am_AT 6 304 0 [some (mR 1 12 0 571), some (mB p), some (mB q), none] h R :=
  am_T (d := 5) (m := 304) (T := tb304) (mL := 4) (rk := 1) (cuts := []) (l := [(198, C198), (199, C199), (200, C200), (224, C224), (301, C301)]) rfl ⟨am_CS_d (by decide) C198_ok, am_CS_d (by decide) C199_ok, am_CS_d (by decide) C200_ok, am_CS_d (by decide) C224_ok, am_CS_d (by decide) C301_ok, trivial⟩ 33 (And.intro (rfl) (And.intro (t).1 (fun z6_0 z6_1 => And.intro (fun c3 => And.intro (fun c4 => ((((t).2) z6_0 z6_1).1 c3).1 c4) (fun c4 => And.intro (rfl) (And.intro (((((t).2) z6_0 z6_1).1 c3).2 c4).1 (And.intro (fun c5 => And.intro (rfl) (And.intro (((((((t).2) z6_0 z6_1).1 c3).2 c4).2).1 c5).1 (And.intro (rfl) (And.intro ((((((((t).2) z6_0 z6_1).1 c3).2 c4).2).1 c5).2).1 (fun z7_0 z7_1 => And.intro (rfl) (And.intro ((((((((((t).2) z6_0 z6_1).1 c3).2 c4).2).1 c5).2).2) z7_0 z7_1).1 (And.intro (Or.inl rfl) (((((((((((t).2) z6_0 z6_1).1 c3).2 c4).2).1 c5).2).2) z7_0 z7_1).2)))))))) (fun c5 => ((((((t).2) z6_0 z6_1).1 c3).2 c4).2).2 c5))))) (fun c3 => (((t).2) z6_0 z6_1).2 c3))))
theorem C304_ok : am_CS 6 304 C304 := W304 (fun p q h K hb => am_AT_ok (fun hw _ => by
  have hN := hb.1.1
  have hC := hb.1.2.1
  have hn := hN.2.1
  have s := rows_S hw hN
  have ea : (0 ≤ p ∧ p < h 572 0) → (bit (h 572 (2 + p)) q ↔ ad (nr h 572 2) p q) := fun a => ⟨fun z => ad_nr2.mpr ⟨by omega, z⟩, fun z => (ad_nr2.mp z).2⟩
  have G : ∀ h', LD h h' → (0 ≤ p ∧ p < h 572 0) → (0 ≤ q ∧ q < h 572 0) → p ≠ q → ¬ bit (h 572 (2 + p)) q → nr (t_lk h' p q) 572 2 = wi (nr h 572 2) p q ∧ t_lk h' p q 572 0 = h 572 0 ∧ ∀ g : am_H, (∀ x i, PR x i → g x i = t_lk h' p q x i) → RQ h (am_up (t_ul g p q) 571 17 0) := fun h' q1 hp hq hne nb => by
    have f5 : ∀ i, h' 572 i = h 572 i := fun i => q1.1 _ _ (by omega) (by omega)
    have s' : ∀ y, 0 ≤ y → y < 20 → S20 (h' 572 (2 + y)) := fun y a b => by rw [f5]; exact s y a b
    have nb2 : ¬ bit (h 572 (2 + q)) p := fun z => nb ((ea hp).mpr (NT_sym hN _ _ (ad_nr2.mpr ⟨by omega, z⟩)))
    refine ⟨by rw [t_lk_nr hne (by omega) (by omega) s', q1.2.1], by rw [t_lk_ne (by omega)]; exact f5 0, fun g f => RQ_back hb.1 (fun x i a => ?_) am_up_eq⟩
    rw [am_up_n2 (by unfold PR at a; omega)]
    by_cases e : x = 572
    · rw [e, t_back2 hne (by omega) (by omega) s' (fun j => f _ _ (by unfold PR; omega)) (by rw [f5]; exact nb) (by rw [f5]; exact nb2) i]
      exact f5 i
    · rw [t_ul_ne (by omega), f x i a, t_lk_ne (by omega)]
      exact (LD_q q1).1 x i a
  refine T304_0 ⟨hb.1, fun h' q1 => ⟨fun c2 => ⟨fun c3 => ?_, fun c3 => ⟨by omega, ⟨fun c4 => ⟨by omega, ⟨by
    rw [q1.1 _ _ (by omega) (by omega)] at c4
    have g := G h' q1 c2.1 c2.2 c3 c4
    rw [g.1, g.2.1]
    exact ⟨NT_wi hN c2.1 c2.2 c3, CN_wi hN hC c2.1 c2.2⟩, fun h'_1 q5 => ⟨by omega, ?_⟩⟩⟩, fun c4 => ?_⟩⟩⟩, fun c2 => ?_⟩⟩
  · exact am_rB (hb.2 h' (LD_q q1)) (by rw [ifc_t c2, ifc_t (Or.inl c3)])
  · rw [q1.1 _ _ (by omega) (by omega)] at c4
    have g := G h' q1 c2.1 c2.2 c3 c4
    rw [g.1]
    exact am_rB (hb.2 _ (g.2.2 h'_1 (fun x i a => q5 x i (by unfold PR at a; omega) (by unfold PR at a; omega)))) (by rw [ifc_t c2, ifc_f (fun u => u.elim c3 (fun u => c4 ((ea c2.1).mpr u)))])
  · rw [q1.1 _ _ (by omega) (by omega)] at c4
    exact am_rB (hb.2 h' (LD_q q1)) (by rw [ifc_t c2, ifc_t (Or.inr ((ea c2.1).mp c4))])
  · exact am_rB (hb.2 h' (LD_q q1)) (ifc_f c2)))
