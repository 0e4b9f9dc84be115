/-! ===== the past: nets that were, on one another ===== -/
theorem am_cp_n {h : am_H} {p s q d n a i : Int} (e : ¬ (a = q ∧ d ≤ i ∧ i < d + n)) : am_cp h p s q d n a i = h a i := if_neg e
theorem am_cp_0 {h : am_H} {p q i : Int} (h0 : 0 ≤ i) (h1 : i < 20) : am_cp h p 0 q 0 20 q i = h p i := by
  rw [am_cp_in (by omega) (by omega), show (0 : Int) + (i - 0) = i by omega]
def PBE (h g : am_H) (o p : Int) : Prop := (∀ x i, ¬ (o ≤ x ∧ x ≤ o + 23) → g x i = h x i) ∧ g o 0 = h p 0 ∧ g o 1 = h p 1 ∧ ∀ i, 0 ≤ i → i < h p 1 → g (o + 1) i = h (p + 1) i ∧ ∀ y, 0 ≤ y → y < 20 → g (o + 3 + i) y = h (p + 3 + i) y
def PBn (h g : am_H) (o p m : Int) : Prop := (∀ x i, ¬ (o ≤ x ∧ x ≤ o + 23) → g x i = h x i) ∧ g o 0 = h p 0 ∧ g o 1 = h p 1 ∧ ∀ i, 0 ≤ i → i < m → g (o + 1) i = h (p + 1) i ∧ ∀ y, 0 ≤ y → y < 20 → g (o + 3 + i) y = h (p + 3 + i) y
def PPS (h g : am_H) (o n : Int) : Prop := (∀ x i, ¬ (x = o ∧ i = 1) → ¬ (x = o + 1 ∧ i = h o 1) → x ≠ o + 3 + h o 1 → g x i = h x i) ∧ g o 1 = h o 1 + 1 ∧ g (o + 1) (h o 1) = h n 0 ∧ ∀ y, 0 ≤ y → y < 20 → g (o + 3 + h o 1) y = h (n + 1) y
def PPO (h g : am_H) (o n : Int) : Prop := (∀ x i, ¬ (x = o ∧ i = 1) → ¬ (x = n ∧ i = 0) → x ≠ n + 1 → g x i = h x i) ∧ g o 1 = h o 1 - 1 ∧ g n 0 = h (o + 1) (h o 1 - 1) ∧ ∀ y, 0 ≤ y → y < 20 → g (n + 1) y = h (o + 3 + (h o 1 - 1)) y
theorem nr_cg {h g : am_H} {q q' o o' : Int} (e : ∀ y, 0 ≤ y → y < 20 → g q' (o' + y) = h q (o + y)) : nr g q' o' = nr h q o := by
  funext p
  by_cases c : 0 ≤ p ∧ p < 20
  · rw [nr_in c.1 c.2, nr_in c.1 c.2]; exact e p c.1 c.2
  · rw [nr_out c, nr_out c]
theorem nr_cg0 {h g : am_H} {q q' : Int} (e : ∀ y, 0 ≤ y → y < 20 → g q' y = h q y) : nr g q' 0 = nr h q 0 := nr_cg (fun y a b => by rw [Int.zero_add]; exact e y a b)
/-! 47 FactorNets$Past.begin -/
def C47 : am_K := fun as h K => am_a2 as (fun v0 v1 => am_o 6 v0 (fun o => am_n v1 (fun s => K (none) (am_up (am_up h o 0 s) o 1 0))))
theorem W47 {d : Nat} (H : ∀ (o : Int) (s : Int) (h : am_H) (K : Option am_V → am_H → Prop), K (none) (am_up (am_up h o 0 s) o 1 0) → am_AT d 47 0 [some (mR 1 6 0 o), some (mB s)] h K) : am_CS d 47 C47 := by
  refine am_CS_of (T := tb47) (mL := 2) (rk := 0) rfl (fun as h K hC => ?_)
  obtain ⟨v0, v1, rfl, hC0⟩ := am_a2_e hC
  obtain ⟨o, rfl, hC1⟩ := am_o_e hC0
  obtain ⟨s, rfl, hC2⟩ := am_n_e hC1
  refine ⟨Nat.le_of_ble_eq_true rfl, ?_⟩
  exact H o s h K hC2
theorem T47_0 {R : Option am_V → am_H → Prop} {h : am_H} {o : Int} {s : Int} (t : R none (am_up (am_up h o 0 s) o 1 0)) : am_AT 1 47 0 [some (mR 1 6 0 o), some (mB s)] h R :=
  am_T (d := 0) (m := 47) (T := tb47) (mL := 2) (rk := 0) (cuts := []) (l := []) rfl trivial 11 (t)
theorem C47_ok : am_CS 1 47 C47 := W47 (fun o s h K hb => T47_0 hb)
/-! 48 FactorNets$Past.become -/
def C48 : am_K := fun as h K => am_a2 as (fun v0 v1 => am_o 6 v0 (fun o => am_o 6 v1 (fun p => ((0 ≤ h p 1 ∧ h p 1 ≤ 21) ∧ (o + 24 ≤ p ∨ p + 24 ≤ o)) ∧ (∀ (h' : am_H), PBE h h' o p → K (none) (h')))))
theorem W48 {d : Nat} (H : ∀ (o : Int) (p : Int) (h : am_H) (K : Option am_V → am_H → Prop), ((0 ≤ h p 1 ∧ h p 1 ≤ 21) ∧ (o + 24 ≤ p ∨ p + 24 ≤ o)) ∧ (∀ (h' : am_H), PBE h h' o p → K (none) (h')) → am_AT d 48 0 [some (mR 1 6 0 o), some (mR 1 6 0 p), none] h K) : am_CS d 48 C48 := by
  refine am_CS_of (T := tb48) (mL := 3) (rk := 0) rfl (fun as h K hC => ?_)
  obtain ⟨v0, v1, rfl, hC0⟩ := am_a2_e hC
  obtain ⟨o, rfl, hC1⟩ := am_o_e hC0
  obtain ⟨p, rfl, hC2⟩ := am_o_e hC1
  refine ⟨Nat.le_of_ble_eq_true rfl, ?_⟩
  exact H o p h K hC2
theorem T48_0 {R : Option am_V → am_H → Prop} {h : am_H} {o : Int} {p : Int} (t : am_AT 1 48 18 [some (mR 1 6 0 o), some (mR 1 6 0 p), some (mI 0)] (am_up (am_up h o 0 (h p 0)) o 1 ((am_up h o 0 (h p 0)) p 1)) R) : am_AT 1 48 0 [some (mR 1 6 0 o), some (mR 1 6 0 p), none] h R :=
  am_T (d := 0) (m := 48) (T := tb48) (mL := 3) (rk := 0) (cuts := [(18, [1, 1, 2])]) (l := []) rfl trivial 14 (t)
theorem T48_18 {R : Option am_V → am_H → Prop} {h : am_H} {o : Int} {p : Int} {x2 : Int} (t : (R32 x2) ∧ (((h o 1 ≤ x2) → (R none h)) ∧ ((x2 < h o 1) → ((0 ≤ x2 ∧ x2 < 21) ∧ ((0 ≤ x2 ∧ x2 < 21) ∧ ((0 ≤ x2 ∧ x2 < 21) ∧ ((0 ≤ x2 ∧ x2 < 21) ∧ (am_AT 1 48 18 [some (mR 1 6 0 o), some (mR 1 6 0 p), some (mI (x2 + 1))] (am_cp (am_up h (o + 1) x2 (h (p + 1) x2)) (((p + 2) + 1) + x2) 0 (((o + 2) + 1) + x2) 0 20) R)))))))) : am_AT 1 48 18 [some (mR 1 6 0 o), some (mR 1 6 0 p), some (mI x2)] h R :=
  am_T (d := 0) (m := 48) (T := tb48) (mL := 3) (rk := 0) (cuts := [(18, [1, 1, 2])]) (l := []) rfl trivial 30 (And.intro (t).1 (And.intro (fun c1 => ((t).2).1 c1) (fun c1 => And.intro (((t).2).2 c1).1 (And.intro ((((t).2).2 c1).2).1 (And.intro (((((t).2).2 c1).2).2).1 (And.intro ((((((t).2).2 c1).2).2).2).1 (And.intro (⟨by decide, by decide, by decide, by decide, by decide⟩) (((((((t).2).2 c1).2).2).2).2))))))))
theorem L48 {K : Option am_V → am_H → Prop} {h : am_H} {o p : Int} (hc : 0 ≤ h p 1 ∧ h p 1 ≤ 21) (ho : o + 24 ≤ p ∨ p + 24 ≤ o) (hK : ∀ g, PBE h g o p → K none g) : ∀ i, ∀ g : am_H, 0 ≤ i → i ≤ h p 1 → PBn h g o p i → am_AT 1 48 18 [some (mR 1 6 0 o), some (mR 1 6 0 p), some (mI i)] g K := by
  refine lp (h p 1) (fun i ih g i0 i1 G => ?_)
  have e1 := G.2.2.1
  refine T48_18 ⟨by omega, ⟨fun c1 => ?_, fun c1 => ⟨by omega, ⟨by omega, ⟨by omega, ⟨by omega, ?_⟩⟩⟩⟩⟩⟩
  · rw [show i = h p 1 by omega] at G
    exact hK g G
  · have a1 : o + 2 + 1 + i = o + 3 + i := by omega
    have a2 : p + 2 + 1 + i = p + 3 + i := by omega
    rw [a1, a2]
    refine ih (by omega) _ (by omega) (by omega) ⟨fun x j a => ?_, ?_, ?_, fun j j0 j1 => ⟨?_, fun y y0 y1 => ?_⟩⟩
    · rw [am_cp_n (by omega), am_up_n2 (by omega)]; exact G.1 x j a
    · rw [am_cp_n (by omega), am_up_n2 (by omega)]; exact G.2.1
    · rw [am_cp_n (by omega), am_up_n2 (by omega)]; exact e1
    · rw [am_cp_n (by omega)]
      by_cases e : j = i
      · rw [e, am_up_eq]; exact G.1 _ _ (by omega)
      · rw [am_up_n2 (by omega)]; exact (G.2.2.2 j j0 (by omega)).1
    · by_cases e : j = i
      · rw [e, am_cp_0 y0 y1, am_up_n2 (by omega)]; exact G.1 _ _ (by omega)
      · rw [am_cp_n (by omega), am_up_n2 (by omega)]; exact (G.2.2.2 j j0 (by omega)).2 y y0 y1
theorem C48_ok : am_CS 1 48 C48 := W48 (fun o p h K hb => T48_0 (L48 hb.1.1 hb.1.2 hb.2 0 _ (by omega) hb.1.1.1 ⟨fun x i a => by rw [am_up_n2 (by omega), am_up_n2 (by omega)], by rw [am_up_n2 (by omega), am_up_eq], by rw [am_up_eq, am_up_n2 (by omega)], fun i a b => by omega⟩))
/-! 49 FactorNets$Past.push -/
def C49 : am_K := fun as h K => am_a2 as (fun v0 v1 => am_o 6 v0 (fun o => am_o 3 v1 (fun n => ((0 ≤ h o 1 ∧ h o 1 ≤ 20) ∧ (n + 1 < o ∨ o + 23 < n)) ∧ (∀ (h' : am_H), PPS h h' o n → K (none) (h')))))
theorem W49 {d : Nat} (H : ∀ (o : Int) (n : Int) (h : am_H) (K : Option am_V → am_H → Prop), ((0 ≤ h o 1 ∧ h o 1 ≤ 20) ∧ (n + 1 < o ∨ o + 23 < n)) ∧ (∀ (h' : am_H), PPS h h' o n → K (none) (h')) → am_AT d 49 0 [some (mR 1 6 0 o), some (mR 1 3 0 n)] h K) : am_CS d 49 C49 := by
  refine am_CS_of (T := tb49) (mL := 2) (rk := 0) rfl (fun as h K hC => ?_)
  obtain ⟨v0, v1, rfl, hC0⟩ := am_a2_e hC
  obtain ⟨o, rfl, hC1⟩ := am_o_e hC0
  obtain ⟨n, rfl, hC2⟩ := am_o_e hC1
  refine ⟨Nat.le_of_ble_eq_true rfl, ?_⟩
  exact H o n h K hC2
theorem T49_0 {R : Option am_V → am_H → Prop} {h : am_H} {o : Int} {n : Int} (t : ((20 < h o 1) → (R none h)) ∧ ((h o 1 ≤ 20) → ((0 ≤ h o 1 ∧ h o 1 < 21) ∧ ((0 ≤ (am_up h (o + 1) (h o 1) (h n 0)) o 1 ∧ (am_up h (o + 1) (h o 1) (h n 0)) o 1 < 21) ∧ ((R32 (((am_cp (am_up h (o + 1) (h o 1) (h n 0)) (n + 1) 0 (((o + 2) + 1) + ((am_up h (o + 1) (h o 1) (h n 0)) o 1)) 0 20) o 1) + 1)) ∧ (R none (am_up (am_cp (am_up h (o + 1) (h o 1) (h n 0)) (n + 1) 0 (((o + 2) + 1) + ((am_up h (o + 1) (h o 1) (h n 0)) o 1)) 0 20) o 1 (((am_cp (am_up h (o + 1) (h o 1) (h n 0)) (n + 1) 0 (((o + 2) + 1) + ((am_up h (o + 1) (h o 1) (h n 0)) o 1)) 0 20) o 1) + 1)))))))) : am_AT 1 49 0 [some (mR 1 6 0 o), some (mR 1 3 0 n)] h R :=
  am_T (d := 0) (m := 49) (T := tb49) (mL := 2) (rk := 0) (cuts := []) (l := []) rfl trivial 33 (And.intro (fun c2 => (t).1 c2) (fun c2 => And.intro ((t).2 c2).1 (And.intro (((t).2 c2).2).1 (And.intro (⟨by decide, by decide, by decide, by decide, by decide⟩) (And.intro ((((t).2 c2).2).2).1 (((((t).2 c2).2).2).2))))))
theorem C49_ok : am_CS 1 49 C49 := W49 (fun o n h K hb => by
  obtain ⟨⟨hc, ho⟩, hK⟩ := hb
  have e0 : am_up h (o + 1) (h o 1) (h n 0) o 1 = h o 1 := am_up_n2 (by omega)
  have a1 : o + 2 + 1 + h o 1 = o + 3 + h o 1 := by omega
  have e1 : am_cp (am_up h (o + 1) (h o 1) (h n 0)) (n + 1) 0 (o + 3 + h o 1) 0 20 o 1 = h o 1 := by rw [am_cp_n (by omega)]; exact e0
  refine T49_0 ⟨fun c1 => ?_, fun c1 => ⟨by omega, ⟨by rw [e0]; omega, ⟨by rw [e0, a1, e1]; unfold R32; omega, ?_⟩⟩⟩⟩
  · exfalso; omega
  · rw [e0, a1, e1]
    refine hK _ ⟨fun x i a b c => by rw [am_up_n2 a, am_cp_n (by omega), am_up_n2 b], am_up_eq, ?_, fun y y0 y1 => ?_⟩
    · rw [am_up_n2 (by omega), am_cp_n (by omega), am_up_eq]
    · rw [am_up_n2 (by omega), am_cp_0 y0 y1, am_up_n2 (by omega)])
/-! 50 FactorNets$Past.pop -/
def C50 : am_K := fun as h K => am_a2 as (fun v0 v1 => am_o 6 v0 (fun o => am_o 3 v1 (fun n => ((0 < h o 1 ∧ h o 1 ≤ 21) ∧ (n + 1 < o ∨ o + 23 < n)) ∧ (∀ (h' : am_H), PPO h h' o n → K (none) (h')))))
theorem W50 {d : Nat} (H : ∀ (o : Int) (n : Int) (h : am_H) (K : Option am_V → am_H → Prop), ((0 < h o 1 ∧ h o 1 ≤ 21) ∧ (n + 1 < o ∨ o + 23 < n)) ∧ (∀ (h' : am_H), PPO h h' o n → K (none) (h')) → am_AT d 50 0 [some (mR 1 6 0 o), some (mR 1 3 0 n)] h K) : am_CS d 50 C50 := by
  refine am_CS_of (T := tb50) (mL := 2) (rk := 0) rfl (fun as h K hC => ?_)
  obtain ⟨v0, v1, rfl, hC0⟩ := am_a2_e hC
  obtain ⟨o, rfl, hC1⟩ := am_o_e hC0
  obtain ⟨n, rfl, hC2⟩ := am_o_e hC1
  refine ⟨Nat.le_of_ble_eq_true rfl, ?_⟩
  exact H o n h K hC2
theorem T50_0 {R : Option am_V → am_H → Prop} {h : am_H} {o : Int} {n : Int} (t : ((h o 1 ≤ 0) → (R none h)) ∧ ((0 < h o 1) → ((R32 ((h o 1) - 1)) ∧ ((0 ≤ (am_up h o 1 ((h o 1) - 1)) o 1 ∧ (am_up h o 1 ((h o 1) - 1)) o 1 < 21) ∧ ((0 ≤ (am_up (am_up h o 1 ((h o 1) - 1)) n 0 ((am_up h o 1 ((h o 1) - 1)) (o + 1) ((am_up h o 1 ((h o 1) - 1)) o 1))) o 1 ∧ (am_up (am_up h o 1 ((h o 1) - 1)) n 0 ((am_up h o 1 ((h o 1) - 1)) (o + 1) ((am_up h o 1 ((h o 1) - 1)) o 1))) o 1 < 21) ∧ (R none (am_cp (am_up (am_up h o 1 ((h o 1) - 1)) n 0 ((am_up h o 1 ((h o 1) - 1)) (o + 1) ((am_up h o 1 ((h o 1) - 1)) o 1))) (((o + 2) + 1) + ((am_up (am_up h o 1 ((h o 1) - 1)) n 0 ((am_up h o 1 ((h o 1) - 1)) (o + 1) ((am_up h o 1 ((h o 1) - 1)) o 1))) o 1)) 0 (n + 1) 0 20))))))) : am_AT 1 50 0 [some (mR 1 6 0 o), some (mR 1 3 0 n)] h R :=
  am_T (d := 0) (m := 50) (T := tb50) (mL := 2) (rk := 0) (cuts := []) (l := []) rfl trivial 32 (And.intro (fun c3 => (t).1 c3) (fun c3 => And.intro ((t).2 c3).1 (And.intro (((t).2 c3).2).1 (And.intro ((((t).2 c3).2).2).1 (And.intro (⟨by decide, by decide, by decide, by decide, by decide⟩) (((((t).2 c3).2).2).2))))))
theorem C50_ok : am_CS 1 50 C50 := W50 (fun o n h K hb => by
  obtain ⟨⟨hc, ho⟩, hK⟩ := hb
  have e0 : am_up h o 1 (h o 1 - 1) o 1 = h o 1 - 1 := am_up_eq
  have e1 : am_up h o 1 (h o 1 - 1) (o + 1) (h o 1 - 1) = h (o + 1) (h o 1 - 1) := am_up_n2 (by omega)
  have e2 : am_up (am_up h o 1 (h o 1 - 1)) n 0 (h (o + 1) (h o 1 - 1)) o 1 = h o 1 - 1 := by rw [am_up_n2 (by omega)]; exact e0
  have a1 : o + 2 + 1 + (h o 1 - 1) = o + 3 + (h o 1 - 1) := by omega
  refine T50_0 ⟨fun c1 => ?_, fun c1 => ⟨by omega, ⟨by rw [e0]; omega, ⟨by rw [e0, e1, e2]; omega, ?_⟩⟩⟩⟩
  · exfalso; omega
  · rw [e0, e1, e2, a1]
    refine hK _ ⟨fun x i a b c => by rw [am_cp_n (by omega), am_up_n2 b, am_up_n2 a], ?_, ?_, fun y y0 y1 => ?_⟩
    · rw [am_cp_n (by omega), am_up_n2 (by omega), am_up_eq]
    · rw [am_cp_n (by omega), am_up_eq]
    · rw [am_cp_0 y0 y1, am_up_n2 (by omega), am_up_n2 (by omega)])
/-! 153 FactorNets.forget -/
def C153 : am_K := fun as h K => am_a1 as (fun v0 => am_oc 11 0 v0 (K (none) (am_up (am_up (am_up (am_up (am_up (am_up h 5 4 0) 5 5 0) 5 6 0) 0 16 0) 0 17 0) 0 18 (-2))))
theorem W153 {d : Nat} (H : ∀  (h : am_H) (K : Option am_V → am_H → Prop), K (none) (am_up (am_up (am_up (am_up (am_up (am_up h 5 4 0) 5 5 0) 5 6 0) 0 16 0) 0 17 0) 0 18 (-2)) → am_AT d 153 0 [some (mR 1 11 0 0)] h K) : am_CS d 153 C153 := by
  refine am_CS_of (T := tb153) (mL := 1) (rk := 0) rfl (fun as h K hC => ?_)
  obtain ⟨v0, rfl, hC0⟩ := am_a1_e hC
  obtain ⟨e0, hC1⟩ := am_oc_e hC0
  subst e0
  refine ⟨Nat.le_of_ble_eq_true rfl, ?_⟩
  exact H  h K hC1
theorem T153_0 {R : Option am_V → am_H → Prop} {h : am_H} (t : R none (am_up (am_up (am_up (am_up (am_up (am_up h (5 : Int) 4 0) (5 : Int) 5 0) (5 : Int) 6 0) 0 16 0) 0 17 0) 0 18 (-2))) : am_AT 2 153 0 [some (mR 1 11 0 0)] h R :=
  am_T (d := 1) (m := 153) (T := tb153) (mL := 1) (rk := 0) (cuts := []) (l := [(87, C87)]) rfl ⟨am_CS_d (by decide) C87_ok, trivial⟩ 17 (And.intro (Or.inl rfl) (And.intro (Or.inl rfl) (t)))
theorem C153_ok : am_CS 2 153 C153 := W153 (fun h K hb => T153_0 hb)
/-! 161 FactorNets.imageOf -/
def C161 : am_K := fun as h K => am_a2 as (fun v0 v1 => am_oc 11 0 v0 (am_n v1 (fun k => ((0 ≤ k ∧ k < 3) → K (some (mR 1 6 0 (am_pa k))) h) ∧ ((¬ (0 ≤ k ∧ k < 3)) → K (some (mR 0 0 0 (0))) h))))
theorem W161 {d : Nat} (H : ∀ (k : Int) (h : am_H) (K : Option am_V → am_H → Prop), ((0 ≤ k ∧ k < 3) → K (some (mR 1 6 0 (am_pa k))) h) ∧ ((¬ (0 ≤ k ∧ k < 3)) → K (some (mR 0 0 0 (0))) h) → am_AT d 161 0 [some (mR 1 11 0 0), some (mB k)] h K) : am_CS d 161 C161 := by
  refine am_CS_of (T := tb161) (mL := 2) (rk := 3) rfl (fun as h K hC => ?_)
  obtain ⟨v0, v1, rfl, hC0⟩ := am_a2_e hC
  obtain ⟨e0, hC1⟩ := am_oc_e hC0
  subst e0
  obtain ⟨k, rfl, hC2⟩ := am_n_e hC1
  refine ⟨Nat.le_of_ble_eq_true rfl, ?_⟩
  exact H k h K hC2
theorem T161_0 {R : Option am_V → am_H → Prop} {h : am_H} {k : Int} (t : ((k < 0) → (R (some (mR 0 0 0 0)) h)) ∧ ((0 ≤ k) → (((3 ≤ k) → (R (some (mR 0 0 0 0)) h)) ∧ ((k < 3) → ((0 ≤ k ∧ k < 3) ∧ (R (some (mR 1 6 0 (am_pa k))) h)))))) : am_AT 1 161 0 [some (mR 1 11 0 0), some (mB k)] h R :=
  am_T (d := 0) (m := 161) (T := tb161) (mL := 2) (rk := 3) (cuts := []) (l := []) rfl trivial 15 (And.intro (fun c4 => (t).1 c4) (fun c4 => And.intro (fun c5 => ((t).2 c4).1 c5) (fun c5 => And.intro (((t).2 c4).2 c5).1 ((((t).2 c4).2 c5).2))))
theorem C161_ok : am_CS 1 161 C161 := W161 (fun k h K hb => by
  refine T161_0 ⟨fun c1 => ?_, fun c1 => ⟨fun c2 => ?_, fun c2 => ⟨by omega, ?_⟩⟩⟩
  · exact hb.2 (by omega)
  · exact hb.2 (by omega)
  · exact hb.1 ⟨c1, c2⟩)
