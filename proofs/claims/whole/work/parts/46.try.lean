def C188 : am_K := fun as h K => am_a2 as (fun v0 v1 => am_n v0 (fun x => am_n v1 (fun k => (0 ≤ k ∧ k < 32) ∧ (K (some (mP (iAnd (iShr x k) 1 = 1))) h))))
theorem W188 {d : Nat} (H : ∀ (x : Int) (k : Int) (h : am_H) (K : Option am_V → am_H → Prop), (0 ≤ k ∧ k < 32) ∧ (K (some (mP (iAnd (iShr x k) 1 = 1))) h) → am_AT d 188 0 [some (mB x), some (mB k)] h K) : am_CS d 188 C188 := by
  refine am_CS_of (T := tb188) (mL := 2) (rk := 4) rfl (fun as h K hC => ?_)
  obtain ⟨v0, v1, rfl, hC⟩ := am_a2_e hC
  obtain ⟨x, rfl, hC⟩ := am_n_e hC
  obtain ⟨k, rfl, hC⟩ := am_n_e hC
  refine ⟨Nat.le_of_ble_eq_true rfl, ?_⟩
  exact H x k h K hC
theorem T188_0 {R : Option am_V → am_H → Prop} {h : am_H} {x : Int} {k : Int} (t : ((¬ iAnd (iShr x k) 1 = 1) → (R (some (mP ((0 : Int) = 1))) h)) ∧ ((iAnd (iShr x k) 1 = 1) → (R (some (mP ((1 : Int) = 1))) h))) : am_AT 1 188 0 [some (mB x), some (mB k)] h R :=
  am_T (d := 0) (m := 188) (T := tb188) (mL := 2) (rk := 4) (cuts := []) (l := []) rfl trivial 14 (And.intro (fun c => And.intro (Or.inl rfl) ((t).1 c)) (fun c => And.intro (Or.inr rfl) ((t).2 c)))
def C26 : am_K := fun as h K => am_a1 as (fun v0 => am_o 3 v0 (fun o => (True) ∧ (K (some (mB (0))) h)))
theorem W26 {d : Nat} (H : ∀ (o : Int) (h : am_H) (K : Option am_V → am_H → Prop), (True) ∧ (K (some (mB (0))) h) → am_AT d 26 0 [some (mR 1 3 0 o), none, none] h K) : am_CS d 26 C26 := by
  refine am_CS_of (T := tb26) (mL := 3) (rk := 1) rfl (fun as h K hC => ?_)
  obtain ⟨v0, rfl, hC⟩ := am_a1_e hC
  obtain ⟨o, rfl, hC⟩ := am_o_e hC
  refine ⟨Nat.le_of_ble_eq_true rfl, ?_⟩
  exact H o h K hC
def C317 : am_K := fun as h K => am_a1 as (fun v0 => am_n v0 (fun x => K (some (mB (iPop x))) h))
theorem C317_ok : am_CS 1 317 C317 := sorry
theorem T26_0 {R : Option am_V → am_H → Prop} {h : am_H} {o : Int} (t : am_AT 2 26 4 [some (mR 1 3 0 o), some (mI 0), some (mI 0)] h R) : am_AT 2 26 0 [some (mR 1 3 0 o), none, none] h R :=
  am_T (d := 1) (m := 26) (T := tb26) (mL := 3) (rk := 1) (cuts := [(4, [1, 2, 2])]) (l := [(317, C317)]) rfl ⟨am_CS_d (by decide) C317_ok, trivial⟩ 8 (t)
theorem T26_4 {R : Option am_V → am_H → Prop} {h : am_H} {o : Int} {x1 : Int} {x2 : Int} (t : (R32 x2) ∧ (((h o 0 ≤ x2) → ((R32 x1) ∧ ((R32 (Int.tdiv x1 2)) ∧ (R (some (mB (Int.tdiv x1 2))) h)))) ∧ ((x2 < h o 0) → ((0 ≤ x2 ∧ x2 < 20) ∧ (am_AT 2 26 4 [some (mR 1 3 0 o), some (mI (x1 + (iPop (h (o + 1) x2)))), some (mI (x2 + 1))] h R))))) : am_AT 2 26 4 [some (mR 1 3 0 o), some (mI x1), some (mI x2)] h R :=
  am_T (d := 1) (m := 26) (T := tb26) (mL := 3) (rk := 1) (cuts := [(4, [1, 2, 2])]) (l := [(317, C317)]) rfl ⟨am_CS_d (by decide) C317_ok, trivial⟩ 18 (And.intro (t).1 (And.intro (fun c => And.intro (((t).2).1 c).1 (And.intro (by decide) (And.intro ((((t).2).1 c).2).1 (((((t).2).1 c).2).2)))) (fun c => And.intro (((t).2).2 c).1 ((((t).2).2 c).2))))
