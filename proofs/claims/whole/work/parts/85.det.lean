/-! ===== the elimination's small steps, in the class ===== -/
def SWP (h g : am_H) (x y i : Int) : Prop := (∀ z k, ¬ (z = x ∧ 0 ≤ k ∧ k < i) → ¬ (z = y ∧ 0 ≤ k ∧ k < i) → g z k = h z k) ∧ ∀ k, 0 ≤ k → k < i → g x k = h y k ∧ g y k = h x k
/-! 183 FactorNets.pivotOf -/
def C183 : am_K := fun as h K => am_a3 as (fun v0 v1 v2 => am_r 7 20 20 v0 (fun A => am_n v1 (fun c => am_n v2 (fun sz => ((0 ≤ c ∧ c ≤ sz) ∧ sz ≤ 20) ∧ (K (some (mB (fnd (fun r9 => c ≤ r9 ∧ ¬ h ((A + 1) + r9) c = 0) sz.toNat))) h)))))
theorem W183 {d : Nat} (H : ∀ (A : Int) (c : Int) (sz : Int) (h : am_H) (K : Option am_V → am_H → Prop), ((0 ≤ c ∧ c ≤ sz) ∧ sz ≤ 20) ∧ (K (some (mB (fnd (fun r9 => c ≤ r9 ∧ ¬ h ((A + 1) + r9) c = 0) sz.toNat))) h) → am_AT d 183 0 [some (mR 7 20 20 A), some (mB c), some (mB sz), none] h K) : am_CS d 183 C183 := by
  refine am_CS_of (T := tb183) (mL := 4) (rk := 1) rfl (fun as h K hC => ?_)
  obtain ⟨v0, v1, v2, rfl, hC0⟩ := am_a3_e hC
  obtain ⟨A, rfl, hC1⟩ := am_r_e hC0
  obtain ⟨c, rfl, hC2⟩ := am_n_e hC1
  obtain ⟨sz, rfl, hC3⟩ := am_n_e hC2
  refine ⟨Nat.le_of_ble_eq_true rfl, ?_⟩
  exact H A c sz h K hC3
theorem T183_0 {R : Option am_V → am_H → Prop} {h : am_H} {A : Int} {c : Int} {sz : Int} (t : am_AT 1 183 2 [some (mR 7 20 20 A), some (mB c), some (mB sz), some (mI c)] h R) : am_AT 1 183 0 [some (mR 7 20 20 A), some (mB c), some (mB sz), none] h R :=
  am_T (d := 0) (m := 183) (T := tb183) (mL := 4) (rk := 1) (cuts := [(2, [1, 1, 1, 2])]) (l := []) rfl trivial 6 (t)
theorem T183_2 {R : Option am_V → am_H → Prop} {h : am_H} {A : Int} {c : Int} {sz : Int} {x3 : Int} (t : (R32 x3) ∧ (((sz ≤ x3) → (R (some (mB (-1))) h)) ∧ ((x3 < sz) → ((0 ≤ x3 ∧ x3 < 20) ∧ ((0 ≤ c ∧ c < 20) ∧ (((h ((A + 1) + x3) c = 0) → (am_AT 1 183 2 [some (mR 7 20 20 A), some (mB c), some (mB sz), some (mI (x3 + 1))] h R)) ∧ ((¬ h ((A + 1) + x3) c = 0) → ((R32 x3) ∧ (R (some (mB x3)) h))))))))) : am_AT 1 183 2 [some (mR 7 20 20 A), some (mB c), some (mB sz), some (mI x3)] h R :=
  am_T (d := 0) (m := 183) (T := tb183) (mL := 4) (rk := 1) (cuts := [(2, [1, 1, 1, 2])]) (l := []) rfl trivial 17 (And.intro (t).1 (And.intro (fun c1 => ((t).2).1 c1) (fun c1 => And.intro (((t).2).2 c1).1 (And.intro ((((t).2).2 c1).2).1 (And.intro (fun c2 => (((((t).2).2 c1).2).2).1 c2) (fun c2 => And.intro ((((((t).2).2 c1).2).2).2 c2).1 (((((((t).2).2 c1).2).2).2 c2).2)))))))
theorem L183 {K : Option am_V → am_H → Prop} {h : am_H} {A c sz : Int} (hc : 0 ≤ c ∧ c ≤ sz) (hs : sz ≤ 20) (hK : K (some (mB (fnd (fun r9 => c ≤ r9 ∧ ¬ h ((A + 1) + r9) c = 0) sz.toNat))) h) : ∀ i, c ≤ i → i ≤ sz → (∀ j, 0 ≤ j → j < i → ¬ (c ≤ j ∧ ¬ h ((A + 1) + j) c = 0)) → am_AT 1 183 2 [some (mR 7 20 20 A), some (mB c), some (mB sz), some (mI i)] h K := by
  refine lp sz (fun i ih i0 i1 hno => ?_)
  refine T183_2 ⟨by omega, ⟨fun c1 => ?_, fun c1 => ⟨by omega, ⟨by omega, ⟨fun c2 => ?_, fun c2 => ⟨by omega, ?_⟩⟩⟩⟩⟩⟩
  · exact am_rB hK (fnd_no _ (fun j a b => hno j a (by omega)))
  · refine ih (by omega) (by omega) (by omega) (fun j a b => ?_)
    by_cases e : j = i
    · rw [e]; exact fun z => z.2 c2
    · exact hno j a (by omega)
  · exact am_rB hK (fnd_is (by omega) ⟨i0, c2⟩ hno _ (by omega))
theorem C183_ok : am_CS 1 183 C183 := W183 (fun A c sz h K hb => T183_0 (L183 hb.1.1 hb.1.2 hb.2 c (by omega) hb.1.1.2 (fun j a b z => by have := z.1; omega)))
/-! 184 FactorNets.swap -/
def C184 : am_K := fun as h K => am_a4 as (fun v0 v1 v2 v3 => am_r 7 20 20 v0 (fun A => am_n v1 (fun r => am_n v2 (fun s => am_n v3 (fun sz => (((0 ≤ r ∧ r < 20) ∧ (0 ≤ s ∧ s < 20) ∧ r ≠ s) ∧ (0 ≤ sz ∧ sz ≤ 20)) ∧ (∀ (h' : am_H), SWP h h' ((A + 1) + r) ((A + 1) + s) sz → K (none) (h')))))))
theorem W184 {d : Nat} (H : ∀ (A : Int) (r : Int) (s : Int) (sz : Int) (h : am_H) (K : Option am_V → am_H → Prop), (((0 ≤ r ∧ r < 20) ∧ (0 ≤ s ∧ s < 20) ∧ r ≠ s) ∧ (0 ≤ sz ∧ sz ≤ 20)) ∧ (∀ (h' : am_H), SWP h h' ((A + 1) + r) ((A + 1) + s) sz → K (none) (h')) → am_AT d 184 0 [some (mR 7 20 20 A), some (mB r), some (mB s), some (mB sz), none, none, none] h K) : am_CS d 184 C184 := by
  refine am_CS_of (T := tb184) (mL := 7) (rk := 0) rfl (fun as h K hC => ?_)
  obtain ⟨v0, v1, v2, v3, rfl, hC0⟩ := am_a4_e hC
  obtain ⟨A, rfl, hC1⟩ := am_r_e hC0
  obtain ⟨r, rfl, hC2⟩ := am_n_e hC1
  obtain ⟨s, rfl, hC3⟩ := am_n_e hC2
  obtain ⟨sz, rfl, hC4⟩ := am_n_e hC3
  refine ⟨Nat.le_of_ble_eq_true rfl, ?_⟩
  exact H A r s sz h K hC4
theorem T184_0 {R : Option am_V → am_H → Prop} {h : am_H} {A : Int} {r : Int} {s : Int} {sz : Int} (t : am_AT 1 184 3 [some (mR 7 20 20 A), some (mB r), some (mB s), some (mB sz), some (mI 0), none, none] h R) : am_AT 1 184 0 [some (mR 7 20 20 A), some (mB r), some (mB s), some (mB sz), none, none, none] h R :=
  am_T (d := 0) (m := 184) (T := tb184) (mL := 7) (rk := 0) (cuts := [(3, [1, 1, 1, 1, 2, 0, 0])]) (l := []) rfl trivial 6 (t)
theorem T184_3 {R : Option am_V → am_H → Prop} {h : am_H} {A : Int} {r : Int} {s : Int} {sz : Int} {x4 : Int} (t : (R32 x4) ∧ (((sz ≤ x4) → (R none h)) ∧ ((x4 < sz) → ((0 ≤ r ∧ r < 20) ∧ ((0 ≤ x4 ∧ x4 < 20) ∧ ((0 ≤ r ∧ r < 20) ∧ ((0 ≤ s ∧ s < 20) ∧ ((0 ≤ x4 ∧ x4 < 20) ∧ ((0 ≤ x4 ∧ x4 < 20) ∧ ((0 ≤ s ∧ s < 20) ∧ ((0 ≤ x4 ∧ x4 < 20) ∧ (am_AT 1 184 3 [some (mR 7 20 20 A), some (mB r), some (mB s), some (mB sz), some (mI (x4 + 1)), none, none] (am_up (am_up h ((A + 1) + r) x4 (h ((A + 1) + s) x4)) ((A + 1) + s) x4 (h ((A + 1) + r) x4)) R)))))))))))) : am_AT 1 184 3 [some (mR 7 20 20 A), some (mB r), some (mB s), some (mB sz), some (mI x4), none, none] h R :=
  am_T (d := 0) (m := 184) (T := tb184) (mL := 7) (rk := 0) (cuts := [(3, [1, 1, 1, 1, 2, 0, 0])]) (l := []) rfl trivial 31 (And.intro (t).1 (And.intro (fun c3 => ((t).2).1 c3) (fun c3 => And.intro (((t).2).2 c3).1 (And.intro ((((t).2).2 c3).2).1 (And.intro (((((t).2).2 c3).2).2).1 (And.intro ((((((t).2).2 c3).2).2).2).1 (And.intro (((((((t).2).2 c3).2).2).2).2).1 (And.intro ((((((((t).2).2 c3).2).2).2).2).2).1 (And.intro (((((((((t).2).2 c3).2).2).2).2).2).2).1 (And.intro ((((((((((t).2).2 c3).2).2).2).2).2).2).2).1 (((((((((((t).2).2 c3).2).2).2).2).2).2).2).2)))))))))))
theorem SWP_s {h g : am_H} {x y i : Int} (hne : x ≠ y) (i0 : 0 ≤ i) (H : SWP h g x y i) : SWP h (am_up (am_up g x i (g y i)) y i (g x i)) x y (i + 1) := by
  have ex : g x i = h x i := H.1 x i (by omega) (by omega)
  have ey : g y i = h y i := H.1 y i (by omega) (by omega)
  refine ⟨fun z k a b => ?_, fun k a b => ?_⟩
  · rw [am_up_n2 (by omega), am_up_n2 (by omega)]
    exact H.1 z k (by omega) (by omega)
  · by_cases e : k = i
    · rw [e, am_up_n2 (by omega), am_up_eq, am_up_eq]
      exact ⟨ey, ex⟩
    · rw [am_up_n2 (by omega), am_up_n2 (by omega), am_up_n2 (by omega), am_up_n2 (by omega)]
      exact H.2 k a (by omega)
theorem L184 {K : Option am_V → am_H → Prop} {h : am_H} {A r s sz : Int} (hr : 0 ≤ r ∧ r < 20) (hs : 0 ≤ s ∧ s < 20) (hne : r ≠ s) (hz : 0 ≤ sz ∧ sz ≤ 20) (hK : ∀ g, SWP h g ((A + 1) + r) ((A + 1) + s) sz → K none g) : ∀ i, ∀ g : am_H, 0 ≤ i → i ≤ sz → SWP h g ((A + 1) + r) ((A + 1) + s) i → am_AT 1 184 3 [some (mR 7 20 20 A), some (mB r), some (mB s), some (mB sz), some (mI i), none, none] g K := by
  refine lp sz (fun i ih g i0 i1 G => ?_)
  refine T184_3 ⟨by omega, ⟨fun c1 => ?_, fun c1 => ⟨by omega, ⟨by omega, ⟨by omega, ⟨by omega, ⟨by omega, ⟨by omega, ⟨by omega, ⟨by omega, ?_⟩⟩⟩⟩⟩⟩⟩⟩⟩⟩
  · rw [show i = sz by omega] at G
    exact hK g G
  · exact ih (by omega) _ (by omega) (by omega) (SWP_s (by omega) i0 G)
theorem C184_ok : am_CS 1 184 C184 := W184 (fun A r s sz h K hb => T184_0 (L184 hb.1.1.1 hb.1.1.2.1 hb.1.1.2.2 hb.1.2 hb.2 0 h (by omega) hb.1.2.1 ⟨fun _ _ _ _ => rfl, fun k a b => by omega⟩))
