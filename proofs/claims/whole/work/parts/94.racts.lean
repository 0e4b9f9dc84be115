/-! ===== acts of the reference ===== -/
def KPS (h g : am_H) : Prop := (∀ x i, ¬ (x = 571 ∧ (i = 2 ∨ i = 17)) → ¬ (x = 574 ∧ 22 * h 571 2 ≤ i ∧ i < 22 * h 571 2 + 22) → g x i = h x i) ∧ (g 571 2 = h 571 2 + 1 ∧ g 571 17 = 0) ∧ ∀ k, 0 ≤ k → k < 22 → g 574 (22 * h 571 2 + k) = h 572 k
def GBK (h g : am_H) (to : Int) : Prop := (∀ x i, ¬ (x = 571 ∧ (i = 2 ∨ i = 17)) → ¬ (x = 572 ∧ 0 ≤ i ∧ i < 22) → g x i = h x i) ∧ (g 571 2 = to ∧ g 571 17 = 0) ∧ ∀ k, 0 ≤ k → k < 22 → g 572 k = h 574 (22 * to + k)
def RKp (h : am_H) (x i : Int) : Prop := x < 571 ∨ (575 ≤ x ∧ x ≤ 579) ∨ x = 587 ∨ (x = 571 ∧ (i = 9 ∨ i = 10 ∨ i = 11 ∨ i = 29)) ∨ (x = 572 ∧ i = 1) ∨ (x = 574 ∧ i < 22 * h 571 2)
def RAh (h g : am_H) (n' : Int) (r' : Int → Int) : Prop := (∀ x i, RKp h x i → g x i = h x i) ∧ (g 571 2 = h 571 2 + 1 ∧ g 574 (22 * h 571 2) = h 572 0 ∧ g 574 (22 * h 571 2 + 1) = h 572 1 ∧ nr g 574 (22 * h 571 2 + 2) = nr h 572 2) ∧ (g 572 0 = n' ∧ nr g 572 2 = r') ∧ RIv g
def RAi (h g : am_H) (k : Int) : Prop := (∀ x i, ¬ (575 ≤ x ∧ x ≤ 578) → g x i = h x i) ∧ ((∀ i, ¬ (22 * k ≤ i ∧ i < 22 * k + 22) → g 575 i = h 575 i) ∧ (∀ i, i ≠ k → g 576 i = h 576 i ∧ g 578 i = h 578 i) ∧ ∀ i, ¬ (440 * k ≤ i ∧ i < 440 * k + 440) → g 577 i = h 577 i) ∧ (∀ y, 0 ≤ y → y < 22 → g 575 (22 * k + y) = h 572 y) ∧ (g 576 k = h 571 2 ∧ g 578 k = 1) ∧ ∀ y, 0 ≤ y → y < 22 * h 571 2 → g 577 (440 * k + y) = h 574 y
def RAb (h g : am_H) (k : Int) : Prop := (∀ x i, (x < 571 ∨ (575 ≤ x ∧ x ≤ 579) ∨ x = 587 ∨ (x = 571 ∧ (i = 9 ∨ i = 10 ∨ i = 11 ∨ i = 29))) → g x i = h x i) ∧ (∀ y, 0 ≤ y → y < 22 → g 572 y = h 575 (22 * k + y)) ∧ g 571 2 = h 576 k ∧ (∀ y, 0 ≤ y → y < 22 * h 576 k → g 574 y = h 577 (440 * k + y)) ∧ RIv g
def RAu (h g : am_H) (m : Int) : Prop := (∀ x i, (x < 571 ∨ 574 ≤ x ∨ (x = 571 ∧ (i = 9 ∨ i = 10 ∨ i = 11 ∨ i = 29))) → g x i = h x i) ∧ g 571 2 = m ∧ (∀ y, 0 ≤ y → y < 22 → g 572 y = h 574 (22 * m + y)) ∧ RIv g
theorem RIv_new {g : am_H} (hN : NT (g 572 0) (nr g 572 2)) (hC : CN (g 572 0) (nr g 572 2)) (z : g 571 17 = 0) : RIv g := ⟨hN, hC, fun w => by omega⟩
theorem RAh_mk {h h1 g g2 gz : am_H} {n' : Int} {r' : Int → Int} (q : RQ h h1) (P : KPS h1 g) (f2 : ∀ x i, ¬ (x = 572 ∧ (i = 0 ∨ (2 ≤ i ∧ i < 22))) → g2 x i = g x i) (e0 : gz 572 0 = n') (e1 : nr gz 572 2 = r') (z : RQ g2 gz) : RAh h gz n' r' := by
  have k1 : h1 571 2 = h 571 2 := q.1 _ _ (by unfold PR; omega)
  obtain ⟨P1, P2, P3⟩ := P
  rw [k1] at P1 P2 P3
  have f3 : ∀ i, gz 574 i = g 574 i := fun i => (z.1 _ _ (by unfold PR; omega)).trans (f2 _ _ (by omega))
  have f4 : ∀ y, 0 ≤ y → y < 22 → gz 574 (22 * h 571 2 + y) = h 572 y := fun y a b => (f3 _).trans ((P3 y a b).trans (q.1 _ _ (by unfold PR; omega)))
  refine ⟨fun x i c => ?_, ⟨?_, ?_, ?_, ?_⟩, ⟨e0, e1⟩, z.2⟩
  · unfold RKp at c
    exact (z.1 x i (by unfold PR; omega)).trans ((f2 x i (by omega)).trans ((P1 x i (by omega) (by omega)).trans (q.1 x i (by unfold PR; omega))))
  · exact (z.1 _ _ (by unfold PR; omega)).trans ((f2 _ _ (by omega)).trans P2.1)
  · have := f4 0 (by omega) (by omega)
    rw [Int.add_zero] at this
    exact this
  · exact f4 1 (by omega) (by omega)
  · refine nr_cg (fun y a b => ?_)
    rw [show 22 * h 571 2 + 2 + y = 22 * h 571 2 + (2 + y) by omega]
    exact f4 (2 + y) (by omega) (by omega)
theorem KPS_n {h1 g : am_H} (P : KPS h1 g) : (∀ i, g 572 i = h1 572 i) ∧ nr g 572 2 = nr h1 572 2 ∧ g 571 17 = 0 := ⟨fun i => P.1 _ _ (by omega) (by omega), nr_fr2 (fun i => P.1 _ _ (by omega) (by omega)), P.2.1.2⟩
/-! 306 FactorNetsModel.isFull -/
def C306 : am_K := fun as h K => am_a1 as (fun v0 => am_oc 12 571 v0 (K (some (mP (h 571 2 = 20))) h))
theorem W306 {d : Nat} (H : ∀  (h : am_H) (K : Option am_V → am_H → Prop), K (some (mP (h 571 2 = 20))) h → am_AT d 306 0 [some (mR 1 12 0 571)] h K) : am_CS d 306 C306 := by
  refine am_CS_of (T := tb306) (mL := 1) (rk := 4) rfl (fun as h K hC => ?_)
  obtain ⟨v0, rfl, hC0⟩ := am_a1_e hC
  obtain ⟨e0, hC1⟩ := am_oc_e hC0
  subst e0
  refine ⟨Nat.le_of_ble_eq_true rfl, ?_⟩
  exact H  h K hC1
theorem T306_0 {R : Option am_V → am_H → Prop} {h : am_H} (t : ((¬ h 571 2 = 20) → (R (some (mP ((0 : Int) = 1))) h)) ∧ ((h 571 2 = 20) → (R (some (mP ((1 : Int) = 1))) h))) : am_AT 1 306 0 [some (mR 1 12 0 571)] h R :=
  am_T (d := 0) (m := 306) (T := tb306) (mL := 1) (rk := 4) (cuts := []) (l := []) rfl trivial 11 (And.intro (fun c1 => And.intro (Or.inl rfl) ((t).1 c1)) (fun c1 => And.intro (Or.inr rfl) ((t).2 c1)))
theorem C306_ok : am_CS 1 306 C306 := W306 (fun h K hb => by
  refine T306_0 ⟨fun c1 => ?_, fun c1 => ?_⟩
  · exact am_rb hb (by omega)
  · exact am_rb1 hb c1)
/-! 307 FactorNetsModel.keeps -/
def C307 : am_K := fun as h K => am_a1 as (fun v0 => am_oc 12 571 v0 ((0 ≤ h 571 2 ∧ h 571 2 < 20) ∧ (∀ (h' : am_H), KPS h h' → K (none) (h'))))
theorem W307 {d : Nat} (H : ∀  (h : am_H) (K : Option am_V → am_H → Prop), (0 ≤ h 571 2 ∧ h 571 2 < 20) ∧ (∀ (h' : am_H), KPS h h' → K (none) (h')) → am_AT d 307 0 [some (mR 1 12 0 571), none] h K) : am_CS d 307 C307 := by
  refine am_CS_of (T := tb307) (mL := 2) (rk := 0) rfl (fun as h K hC => ?_)
  obtain ⟨v0, rfl, hC0⟩ := am_a1_e hC
  obtain ⟨e0, hC1⟩ := am_oc_e hC0
  subst e0
  refine ⟨Nat.le_of_ble_eq_true rfl, ?_⟩
  exact H  h K hC1
theorem T307_0 {R : Option am_V → am_H → Prop} {h : am_H} (t : am_AT 1 307 2 [some (mR 1 12 0 571), some (mI 0)] h R) : am_AT 1 307 0 [some (mR 1 12 0 571), none] h R :=
  am_T (d := 0) (m := 307) (T := tb307) (mL := 2) (rk := 0) (cuts := [(2, [1, 2])]) (l := []) rfl trivial 6 (t)
theorem T307_2 {R : Option am_V → am_H → Prop} {h : am_H} {x1 : Int} (t : (R32 x1) ∧ (((22 ≤ x1) → ((R32 ((h 571 2) + 1)) ∧ (R none (am_up (am_up h 571 2 ((h 571 2) + 1)) 571 17 0)))) ∧ ((x1 < 22) → ((0 ≤ x1 ∧ x1 < 22) ∧ ((0 ≤ (22 * (h 571 2)) + x1 ∧ (22 * (h 571 2)) + x1 < 440) ∧ (am_AT 1 307 2 [some (mR 1 12 0 571), some (mI (x1 + 1))] (am_up h 574 ((22 * (h 571 2)) + x1) (h 572 x1)) R)))))) : am_AT 1 307 2 [some (mR 1 12 0 571), some (mI x1)] h R :=
  am_T (d := 0) (m := 307) (T := tb307) (mL := 2) (rk := 0) (cuts := [(2, [1, 2])]) (l := []) rfl trivial 22 (And.intro (t).1 (And.intro (fun c2 => And.intro (((t).2).1 c2).1 (And.intro (Or.inl rfl) ((((t).2).1 c2).2))) (fun c2 => And.intro (((t).2).2 c2).1 (And.intro ((((t).2).2 c2).2).1 (((((t).2).2 c2).2).2)))))
theorem L307 {K : Option am_V → am_H → Prop} {h : am_H} (ha : 0 ≤ h 571 2 ∧ h 571 2 < 20) (hK : ∀ g, KPS h g → K none g) : ∀ i, ∀ g : am_H, 0 ≤ i → i ≤ 22 → ((∀ x j, ¬ (x = 574 ∧ 22 * h 571 2 ≤ j ∧ j < 22 * h 571 2 + 22) → g x j = h x j) ∧ ∀ k, 0 ≤ k → k < i → g 574 (22 * h 571 2 + k) = h 572 k) → am_AT 1 307 2 [some (mR 1 12 0 571), some (mI i)] g K := by
  refine lp 22 (fun i ih g i0 i1 G => ?_)
  have e1 : g 571 2 = h 571 2 := G.1 _ _ (by omega)
  have e2 : g 572 i = h 572 i := G.1 _ _ (by omega)
  refine T307_2 ⟨by omega, ⟨fun c1 => ⟨by omega, ?_⟩, fun c1 => ⟨by omega, ⟨by omega, ?_⟩⟩⟩⟩
  · rw [e1]
    exact hK _ ⟨fun x j a b => by rw [am_up_n2 (by omega), am_up_n2 (by omega)]; exact G.1 x j b, ⟨by rw [am_up_n2 (by omega), am_up_eq], am_up_eq⟩, fun k a b => by rw [am_up_n2 (by omega), am_up_n2 (by omega)]; exact G.2 k a (by omega)⟩
  · rw [e1, e2]
    refine ih c1 _ (by omega) (by omega) ⟨fun x j a => by rw [am_up_n2 (by omega)]; exact G.1 x j a, fun k a b => ?_⟩
    by_cases e : k = i
    · rw [e, am_up_eq]
    · rw [am_up_n2 (by omega)]; exact G.2 k a (by omega)
theorem C307_ok : am_CS 1 307 C307 := W307 (fun h K hb => T307_0 (L307 hb.1 hb.2 0 h (by omega) (by omega) ⟨fun _ _ _ => rfl, fun k a b => by omega⟩))
/-! 308 FactorNetsModel.goesBack -/
def C308 : am_K := fun as h K => am_a2 as (fun v0 v1 => am_oc 12 571 v0 (am_n v1 (fun to => (0 ≤ to ∧ to < 20) ∧ (∀ (h' : am_H), GBK h h' to → K (none) (h')))))
theorem W308 {d : Nat} (H : ∀ (to : Int) (h : am_H) (K : Option am_V → am_H → Prop), (0 ≤ to ∧ to < 20) ∧ (∀ (h' : am_H), GBK h h' to → K (none) (h')) → am_AT d 308 0 [some (mR 1 12 0 571), some (mB to), none] h K) : am_CS d 308 C308 := by
  refine am_CS_of (T := tb308) (mL := 3) (rk := 0) rfl (fun as h K hC => ?_)
  obtain ⟨v0, v1, rfl, hC0⟩ := am_a2_e hC
  obtain ⟨e0, hC1⟩ := am_oc_e hC0
  subst e0
  obtain ⟨to, rfl, hC2⟩ := am_n_e hC1
  refine ⟨Nat.le_of_ble_eq_true rfl, ?_⟩
  exact H to h K hC2
theorem T308_0 {R : Option am_V → am_H → Prop} {h : am_H} {to : Int} (t : am_AT 1 308 12 [some (mR 1 12 0 571), some (mB to), some (mI 0)] (am_up (am_up h 571 2 to) 571 17 0) R) : am_AT 1 308 0 [some (mR 1 12 0 571), some (mB to), none] h R :=
  am_T (d := 0) (m := 308) (T := tb308) (mL := 3) (rk := 0) (cuts := [(12, [1, 1, 2])]) (l := []) rfl trivial 12 (And.intro (Or.inl rfl) (t))
theorem T308_12 {R : Option am_V → am_H → Prop} {h : am_H} {to : Int} {x2 : Int} (t : (R32 x2) ∧ (((22 ≤ x2) → (R none h)) ∧ ((x2 < 22) → ((0 ≤ (22 * to) + x2 ∧ (22 * to) + x2 < 440) ∧ ((0 ≤ x2 ∧ x2 < 22) ∧ (am_AT 1 308 12 [some (mR 1 12 0 571), some (mB to), some (mI (x2 + 1))] (am_up h 572 x2 (h 574 ((22 * to) + x2))) R)))))) : am_AT 1 308 12 [some (mR 1 12 0 571), some (mB to), some (mI x2)] h R :=
  am_T (d := 0) (m := 308) (T := tb308) (mL := 3) (rk := 0) (cuts := [(12, [1, 1, 2])]) (l := []) rfl trivial 21 (And.intro (t).1 (And.intro (fun c3 => ((t).2).1 c3) (fun c3 => And.intro (((t).2).2 c3).1 (And.intro ((((t).2).2 c3).2).1 (((((t).2).2 c3).2).2)))))
theorem L308 {K : Option am_V → am_H → Prop} {h : am_H} {to : Int} (ht : 0 ≤ to ∧ to < 20) (hK : ∀ g, GBK h g to → K none g) : ∀ i, ∀ g : am_H, 0 ≤ i → i ≤ 22 → ((∀ x i, ¬ (x = 571 ∧ (i = 2 ∨ i = 17)) → ¬ (x = 572 ∧ 0 ≤ i ∧ i < 22) → g x i = h x i) ∧ (g 571 2 = to ∧ g 571 17 = 0) ∧ ∀ k, 0 ≤ k → k < i → g 572 k = h 574 (22 * to + k)) → am_AT 1 308 12 [some (mR 1 12 0 571), some (mB to), some (mI i)] g K := by
  refine lp 22 (fun i ih g i0 i1 G => ?_)
  have e2 : g 574 (22 * to + i) = h 574 (22 * to + i) := G.1 _ _ (by omega) (by omega)
  refine T308_12 ⟨by omega, ⟨fun c1 => ?_, fun c1 => ⟨by omega, ⟨by omega, ?_⟩⟩⟩⟩
  · exact hK g ⟨G.1, G.2.1, fun k a b => G.2.2 k a (by omega)⟩
  · rw [e2]
    refine ih c1 _ (by omega) (by omega) ⟨fun x j a b => by rw [am_up_n2 (by omega)]; exact G.1 x j a b, ⟨by rw [am_up_n2 (by omega)]; exact G.2.1.1, by rw [am_up_n2 (by omega)]; exact G.2.1.2⟩, fun k a b => ?_⟩
    by_cases e : k = i
    · rw [e, am_up_eq]
    · rw [am_up_n2 (by omega)]; exact G.2.2 k a (by omega)
theorem C308_ok : am_CS 1 308 C308 := W308 (fun to h K hb => T308_0 (L308 hb.1 hb.2 0 _ (by omega) (by omega) ⟨fun x i a b => by rw [am_up_n2 (by omega), am_up_n2 (by omega)], ⟨by rw [am_up_n2 (by omega), am_up_eq], am_up_eq⟩, fun k a b => by omega⟩))
/-! 309 FactorNetsModel.join -/
def C309 : am_K := fun as h K => am_a3 as (fun v0 v1 v2 => am_oc 12 571 v0 (am_n v1 (fun u => am_n v2 (fun v => (RIv h ∧ (0 ≤ h 571 2 ∧ h 571 2 ≤ 20)) ∧ (∀ (h' : am_H), ((((0 ≤ u ∧ u < (h 572 0)) ∧ (0 ≤ v ∧ v < (h 572 0))) ∧ ¬ (u = v ∨ ad (nr h 572 2) u v ∨ 20 ≤ h 571 2)) → RAh h h' (h 572 0) (wi (nr h 572 2) u v)) ∧ (¬ (((0 ≤ u ∧ u < (h 572 0)) ∧ (0 ≤ v ∧ v < (h 572 0))) ∧ ¬ (u = v ∨ ad (nr h 572 2) u v ∨ 20 ≤ h 571 2)) → RQ h h') → K (some (mB (ifc ((0 ≤ u ∧ u < (h 572 0)) ∧ (0 ≤ v ∧ v < (h 572 0))) (ifc (u = v ∨ ad (nr h 572 2) u v ∨ 20 ≤ h 571 2) (-5) (nl (wi (nr h 572 2) u v))) (-2)))) (h'))))))
theorem W309 {d : Nat} (H : ∀ (u : Int) (v : Int) (h : am_H) (K : Option am_V → am_H → Prop), (RIv h ∧ (0 ≤ h 571 2 ∧ h 571 2 ≤ 20)) ∧ (∀ (h' : am_H), ((((0 ≤ u ∧ u < (h 572 0)) ∧ (0 ≤ v ∧ v < (h 572 0))) ∧ ¬ (u = v ∨ ad (nr h 572 2) u v ∨ 20 ≤ h 571 2)) → RAh h h' (h 572 0) (wi (nr h 572 2) u v)) ∧ (¬ (((0 ≤ u ∧ u < (h 572 0)) ∧ (0 ≤ v ∧ v < (h 572 0))) ∧ ¬ (u = v ∨ ad (nr h 572 2) u v ∨ 20 ≤ h 571 2)) → RQ h h') → K (some (mB (ifc ((0 ≤ u ∧ u < (h 572 0)) ∧ (0 ≤ v ∧ v < (h 572 0))) (ifc (u = v ∨ ad (nr h 572 2) u v ∨ 20 ≤ h 571 2) (-5) (nl (wi (nr h 572 2) u v))) (-2)))) (h')) → am_AT d 309 0 [some (mR 1 12 0 571), some (mB u), some (mB v)] h K) : am_CS d 309 C309 := by
  refine am_CS_of (T := tb309) (mL := 3) (rk := 1) rfl (fun as h K hC => ?_)
  obtain ⟨v0, v1, v2, rfl, hC0⟩ := am_a3_e hC
  obtain ⟨e0, hC1⟩ := am_oc_e hC0
  subst e0
  obtain ⟨u, rfl, hC2⟩ := am_n_e hC1
  obtain ⟨v, rfl, hC3⟩ := am_n_e hC2
  refine ⟨Nat.le_of_ble_eq_true rfl, ?_⟩
  exact H u v h K hC3
theorem T309_0 {R : Option am_V → am_H → Prop} {h : am_H} {u : Int} {v : Int} (t : (RIv h) ∧ (∀ (h' : am_H), (LD h h') → ((((0 ≤ u ∧ u < (h 572 0)) ∧ (0 ≤ v ∧ v < (h 572 0))) → (((u = v) → (R (some (mB (-5))) h')) ∧ ((¬ u = v) → (((0 ≤ u ∧ u < 20) ∧ (0 ≤ v ∧ v < 32)) ∧ (((bit (h' 572 (2 + u)) v) → (R (some (mB (-5))) h')) ∧ ((¬ (bit (h' 572 (2 + u)) v)) → (((¬ (h' 571 2 = 20)) → ((0 ≤ h' 571 2 ∧ h' 571 2 < 20) ∧ (∀ (h'_1 : am_H), (KPS h' h'_1) → (((0 ≤ u ∧ u < 20) ∧ (0 ≤ v ∧ v < 20)) ∧ ((RIv (t_lk h'_1 u v)) ∧ (∀ (h'_2 : am_H), (LD (t_lk h'_1 u v) h'_2) → (R (some (mB ((h'_2) 571 21))) h'_2))))))) ∧ ((h' 571 2 = 20) → (R (some (mB (-5))) h'))))))))) ∧ ((¬ ((0 ≤ u ∧ u < (h 572 0)) ∧ (0 ≤ v ∧ v < (h 572 0)))) → (R (some (mB (-2))) h'))))) : am_AT 6 309 0 [some (mR 1 12 0 571), some (mB u), some (mB v)] h R :=
  am_T (d := 5) (m := 309) (T := tb309) (mL := 3) (rk := 1) (cuts := []) (l := [(198, C198), (199, C199), (220, C220), (224, C224), (306, C306), (307, C307)]) rfl ⟨am_CS_d (by decide) C198_ok, am_CS_d (by decide) C199_ok, am_CS_d (by decide) C220_ok, am_CS_d (by decide) C224_ok, am_CS_d (by decide) C306_ok, am_CS_d (by decide) C307_ok, trivial⟩ 31 (And.intro (rfl) (And.intro (t).1 (fun z1_0 z1_1 => And.intro (fun c4 => And.intro (fun c5 => ((((t).2) z1_0 z1_1).1 c4).1 c5) (fun c5 => And.intro (rfl) (And.intro (((((t).2) z1_0 z1_1).1 c4).2 c5).1 (And.intro (fun c6 => ((((((t).2) z1_0 z1_1).1 c4).2 c5).2).1 c6) (fun c6 => And.intro (rfl) (And.intro (fun c7 => And.intro (rfl) (And.intro ((((((((t).2) z1_0 z1_1).1 c4).2 c5).2).2 c6).1 c7).1 (fun z2_0 z2_1 => And.intro (rfl) (And.intro ((((((((((t).2) z1_0 z1_1).1 c4).2 c5).2).2 c6).1 c7).2) z2_0 z2_1).1 (And.intro (rfl) (And.intro (((((((((((t).2) z1_0 z1_1).1 c4).2 c5).2).2 c6).1 c7).2) z2_0 z2_1).2).1 (fun z3_0 z3_1 => ((((((((((((t).2) z1_0 z1_1).1 c4).2 c5).2).2 c6).1 c7).2) z2_0 z2_1).2).2) z3_0 z3_1))))))) (fun c7 => (((((((t).2) z1_0 z1_1).1 c4).2 c5).2).2 c6).2 c7))))))) (fun c4 => (((t).2) z1_0 z1_1).2 c4))))
theorem C309_ok : am_CS 6 309 C309 := W309 (fun u v h K hb => am_AT_ok (fun hw _ => by
  obtain ⟨⟨H, ha⟩, hK⟩ := hb
  have hN := H.1
  have hC := H.2.1
  have hn := hN.2.1
  have s := rows_S hw hN
  have ea : (0 ≤ u ∧ u < h 572 0) → (bit (h 572 (2 + u)) v ↔ ad (nr h 572 2) u v) := fun a => ⟨fun z => ad_nr2.mpr ⟨by omega, z⟩, fun z => (ad_nr2.mp z).2⟩
  have e5 : ∀ h', LD h h' → (∀ i, h' 572 i = h 572 i) ∧ h' 571 2 = h 571 2 := fun h' q => ⟨fun i => q.1 _ _ (by omega) (by omega), q.1 _ _ (by omega) (by omega)⟩
  have G : ∀ h' h'_1, LD h h' → KPS h' h'_1 → (0 ≤ u ∧ u < h 572 0) → (0 ≤ v ∧ v < h 572 0) → u ≠ v → nr (t_lk h'_1 u v) 572 2 = wi (nr h 572 2) u v ∧ t_lk h'_1 u v 572 0 = h 572 0 ∧ RIv (t_lk h'_1 u v) := fun h' h'_1 q1 P hp hq hne => by
    have kn := KPS_n P
    have e : ∀ i, h'_1 572 i = h 572 i := fun i => (kn.1 i).trans ((e5 h' q1).1 i)
    have s' : ∀ y, 0 ≤ y → y < 20 → S20 (h'_1 572 (2 + y)) := fun y a b => by rw [e]; exact s y a b
    have w1 : nr (t_lk h'_1 u v) 572 2 = wi (nr h 572 2) u v := by rw [t_lk_nr hne (by omega) (by omega) s', kn.2.1, q1.2.1]
    have w2 : t_lk h'_1 u v 572 0 = h 572 0 := by rw [t_lk_ne (by omega)]; exact e 0
    refine ⟨w1, w2, RIv_new ?_ ?_ (by rw [t_lk_ne (by omega)]; exact kn.2.2)⟩
    · rw [w1, w2]; exact NT_wi hN hp hq hne
    · rw [w1, w2]; exact CN_wi hN hC hp hq
  refine T309_0 ⟨H, fun h' q1 => ⟨fun c2 => ⟨fun c3 => ?_, fun c3 => ⟨by omega, ⟨fun c4 => ?_, fun c4 => ⟨fun c5 => ⟨by have := (e5 h' q1).2; omega, fun h'_1 q6 => ⟨by omega, ⟨(G h' h'_1 q1 q6 c2.1 c2.2 c3).2.2, fun h'_2 q7 => ?_⟩⟩⟩, fun c5 => ?_⟩⟩⟩⟩, fun c2 => ?_⟩⟩
  · exact am_rB (hK h' ⟨fun z => absurd (Or.inl c3) z.2, fun _ => LD_q q1⟩) (by rw [ifc_t c2, ifc_t (Or.inl c3)])
  · rw [(e5 h' q1).1] at c4
    have w : u = v ∨ ad (nr h 572 2) u v ∨ 20 ≤ h 571 2 := Or.inr (Or.inl ((ea c2.1).mp c4))
    exact am_rB (hK h' ⟨fun z => absurd w z.2, fun _ => LD_q q1⟩) (by rw [ifc_t c2, ifc_t w])
  · rw [(e5 h' q1).1] at c4
    rw [(e5 h' q1).2] at c5
    have nc : ¬ (u = v ∨ ad (nr h 572 2) u v ∨ 20 ≤ h 571 2) := fun z => z.elim c3 (fun z => z.elim (fun z => c4 ((ea c2.1).mpr z)) (fun z => by omega))
    have g := G h' h'_1 q1 q6 c2.1 c2.2 c3
    have A := LD_a q7
    have ln : h'_2 571 21 = nl (wi (nr h 572 2) u v) := by rw [A.2.2.2.1.1, q7.2.1, g.1]
    refine am_rB (hK h'_2 ⟨fun _ => RAh_mk (LD_q q1) q6 (fun x i a => t_lk_ne (by omega)) (by rw [q7.2.2.1]; exact g.2.1) (by rw [q7.2.1]; exact g.1) (LD_q q7), fun z => absurd ⟨c2, nc⟩ z⟩) ?_
    rw [ifc_t c2, ifc_f nc, ln]
  · rw [(e5 h' q1).2] at c5
    have w : u = v ∨ ad (nr h 572 2) u v ∨ 20 ≤ h 571 2 := Or.inr (Or.inr (by omega))
    exact am_rB (hK h' ⟨fun z => absurd w z.2, fun _ => LD_q q1⟩) (by rw [ifc_t c2, ifc_t w])
  · exact am_rB (hK h' ⟨fun z => absurd z.1 c2, fun _ => LD_q q1⟩) (ifc_f c2)))
/-! 310 FactorNetsModel.cut -/
def C310 : am_K := fun as h K => am_a2 as (fun v0 v1 => am_oc 12 571 v0 (am_n v1 (fun l => (RIv h ∧ (0 ≤ h 571 2 ∧ h 571 2 ≤ 20)) ∧ (∀ (h' : am_H), (((0 ≤ l ∧ l < nl (nr h 572 2)) ∧ ¬ (20 ≤ h 571 2 ∨ ¬ CN (h 572 0) (wo (nr h 572 2) (lo (nr h 572 2) l) (hi (nr h 572 2) l)))) → RAh h h' (h 572 0) (wo (nr h 572 2) (lo (nr h 572 2) l) (hi (nr h 572 2) l))) ∧ (¬ ((0 ≤ l ∧ l < nl (nr h 572 2)) ∧ ¬ (20 ≤ h 571 2 ∨ ¬ CN (h 572 0) (wo (nr h 572 2) (lo (nr h 572 2) l) (hi (nr h 572 2) l)))) → RQ h h') → K (some (mB (ifc (0 ≤ l ∧ l < nl (nr h 572 2)) (ifc (20 ≤ h 571 2 ∨ ¬ CN (h 572 0) (wo (nr h 572 2) (lo (nr h 572 2) l) (hi (nr h 572 2) l))) (-5) (nl (wo (nr h 572 2) (lo (nr h 572 2) l) (hi (nr h 572 2) l)))) (-2)))) (h')))))
theorem W310 {d : Nat} (H : ∀ (l : Int) (h : am_H) (K : Option am_V → am_H → Prop), (RIv h ∧ (0 ≤ h 571 2 ∧ h 571 2 ≤ 20)) ∧ (∀ (h' : am_H), (((0 ≤ l ∧ l < nl (nr h 572 2)) ∧ ¬ (20 ≤ h 571 2 ∨ ¬ CN (h 572 0) (wo (nr h 572 2) (lo (nr h 572 2) l) (hi (nr h 572 2) l)))) → RAh h h' (h 572 0) (wo (nr h 572 2) (lo (nr h 572 2) l) (hi (nr h 572 2) l))) ∧ (¬ ((0 ≤ l ∧ l < nl (nr h 572 2)) ∧ ¬ (20 ≤ h 571 2 ∨ ¬ CN (h 572 0) (wo (nr h 572 2) (lo (nr h 572 2) l) (hi (nr h 572 2) l)))) → RQ h h') → K (some (mB (ifc (0 ≤ l ∧ l < nl (nr h 572 2)) (ifc (20 ≤ h 571 2 ∨ ¬ CN (h 572 0) (wo (nr h 572 2) (lo (nr h 572 2) l) (hi (nr h 572 2) l))) (-5) (nl (wo (nr h 572 2) (lo (nr h 572 2) l) (hi (nr h 572 2) l)))) (-2)))) (h')) → am_AT d 310 0 [some (mR 1 12 0 571), some (mB l), none, none] h K) : am_CS d 310 C310 := by
  refine am_CS_of (T := tb310) (mL := 4) (rk := 1) rfl (fun as h K hC => ?_)
  obtain ⟨v0, v1, rfl, hC0⟩ := am_a2_e hC
  obtain ⟨e0, hC1⟩ := am_oc_e hC0
  subst e0
  obtain ⟨l, rfl, hC2⟩ := am_n_e hC1
  refine ⟨Nat.le_of_ble_eq_true rfl, ?_⟩
  exact H l h K hC2
theorem T310_0 {R : Option am_V → am_H → Prop} {h : am_H} {l : Int} (t : (RIv h) ∧ (∀ (h' : am_H), (LD h h') → (((0 ≤ l ∧ l < nl (nr h 572 2)) → ((0 ≤ l ∧ l < 190) ∧ ((0 ≤ l ∧ l < 190) ∧ ((RIv h' ∧ ad (nr h' 572 2) (h' 581 l) (h' 582 l)) ∧ (∀ (h'_1 : am_H), (RQ h' h'_1) → (((ifc (CN (h' 572 0) (wo (nr h' 572 2) (h' 581 l) (h' 582 l))) (npt (wo (nr h' 572 2) (h' 581 l) (h' 582 l))) (-1) = (-1)) → (R (some (mB (-5))) h'_1)) ∧ ((¬ ifc (CN (h' 572 0) (wo (nr h' 572 2) (h' 581 l) (h' 582 l))) (npt (wo (nr h' 572 2) (h' 581 l) (h' 582 l))) (-1) = (-1)) → (((¬ (h'_1 571 2 = 20)) → ((RIv h'_1) ∧ (∀ (h'_2 : am_H), (LD h'_1 h'_2) → ((0 ≤ l ∧ l < 190) ∧ ((0 ≤ l ∧ l < 190) ∧ ((0 ≤ h'_2 571 2 ∧ h'_2 571 2 < 20) ∧ (∀ (h'_3 : am_H), (KPS h'_2 h'_3) → (((0 ≤ (h'_2 581 l) ∧ (h'_2 581 l) < 20) ∧ (0 ≤ (h'_2 582 l) ∧ (h'_2 582 l) < 20)) ∧ ((RIv (t_ul h'_3 (h'_2 581 l) (h'_2 582 l))) ∧ (∀ (h'_4 : am_H), (LD (t_ul h'_3 (h'_2 581 l) (h'_2 582 l)) h'_4) → (R (some (mB ((h'_4) 571 21))) h'_4))))))))))) ∧ ((h'_1 571 2 = 20) → (R (some (mB (-5))) h'_1)))))))))) ∧ ((¬ (0 ≤ l ∧ l < nl (nr h 572 2))) → (R (some (mB (-2))) h'))))) : am_AT 7 310 0 [some (mR 1 12 0 571), some (mB l), none, none] h R :=
  am_T (d := 6) (m := 310) (T := tb310) (mL := 4) (rk := 1) (cuts := []) (l := [(200, C200), (220, C220), (221, C221), (302, C302), (306, C306), (307, C307)]) rfl ⟨am_CS_d (by decide) C200_ok, am_CS_d (by decide) C220_ok, am_CS_d (by decide) C221_ok, am_CS_d (by decide) C302_ok, am_CS_d (by decide) C306_ok, am_CS_d (by decide) C307_ok, trivial⟩ 46 (And.intro (rfl) (And.intro (t).1 (fun z4_0 z4_1 => And.intro (fun c8 => And.intro ((((t).2) z4_0 z4_1).1 c8).1 (And.intro (((((t).2) z4_0 z4_1).1 c8).2).1 (And.intro (rfl) (And.intro ((((((t).2) z4_0 z4_1).1 c8).2).2).1 (fun z5_0 z5_1 => And.intro (fun c9 => ((((((((t).2) z4_0 z4_1).1 c8).2).2).2) z5_0 z5_1).1 c9) (fun c9 => And.intro (rfl) (And.intro (fun c10 => And.intro (rfl) (And.intro ((((((((((t).2) z4_0 z4_1).1 c8).2).2).2) z5_0 z5_1).2 c9).1 c10).1 (fun z6_0 z6_1 => And.intro ((((((((((((t).2) z4_0 z4_1).1 c8).2).2).2) z5_0 z5_1).2 c9).1 c10).2) z6_0 z6_1).1 (And.intro (((((((((((((t).2) z4_0 z4_1).1 c8).2).2).2) z5_0 z5_1).2 c9).1 c10).2) z6_0 z6_1).2).1 (And.intro (rfl) (And.intro ((((((((((((((t).2) z4_0 z4_1).1 c8).2).2).2) z5_0 z5_1).2 c9).1 c10).2) z6_0 z6_1).2).2).1 (fun z7_0 z7_1 => And.intro (rfl) (And.intro ((((((((((((((((t).2) z4_0 z4_1).1 c8).2).2).2) z5_0 z5_1).2 c9).1 c10).2) z6_0 z6_1).2).2).2) z7_0 z7_1).1 (And.intro (rfl) (And.intro (((((((((((((((((t).2) z4_0 z4_1).1 c8).2).2).2) z5_0 z5_1).2 c9).1 c10).2) z6_0 z6_1).2).2).2) z7_0 z7_1).2).1 (fun z8_0 z8_1 => ((((((((((((((((((t).2) z4_0 z4_1).1 c8).2).2).2) z5_0 z5_1).2 c9).1 c10).2) z6_0 z6_1).2).2).2) z7_0 z7_1).2).2) z8_0 z8_1))))))))))) (fun c10 => (((((((((t).2) z4_0 z4_1).1 c8).2).2).2) z5_0 z5_1).2 c9).2 c10)))))))) (fun c8 => (((t).2) z4_0 z4_1).2 c8))))
theorem npt_nn (r : Int → Int) : ¬ npt r = -1 := by
  have := ncl_r (ptE r) r
  unfold npt
  omega
theorem C310_ok : am_CS 7 310 C310 := W310 (fun l h K hb => am_AT_ok (fun hw _ => by
  obtain ⟨⟨H, ha⟩, hK⟩ := hb
  have hN := H.1
  have hC := H.2.1
  have hn := hN.2.1
  have s := rows_S hw hN
  have nlr := nl_r (nr h 572 2)
  have L0 : ∀ h', (LD h h') → (0 ≤ l ∧ l < nl (nr h 572 2)) → (h' 581 l = lo (nr h 572 2) l ∧ h' 582 l = hi (nr h 572 2) l) ∧ ad (nr h 572 2) (lo (nr h 572 2) l) (hi (nr h 572 2) l) := fun h' q1 c2 => by
    have A := LD_a q1
    have L := A.2.2.2.1.2 l c2.1 (by rw [q1.2.1]; exact c2.2)
    rw [q1.2.1] at L
    exact ⟨⟨L.1, L.2⟩, (lo_ok c2.1 c2.2).2.1⟩
  have L1 : ∀ h' h'_1 h'_2, (LD h h') → RQ h' h'_1 → LD h'_1 h'_2 → (0 ≤ l ∧ l < nl (nr h 572 2)) → (h'_2 581 l = lo (nr h 572 2) l ∧ h'_2 582 l = hi (nr h 572 2) l) ∧ h'_1 571 2 = h 571 2 ∧ (∀ i, h'_2 572 i = h 572 i) ∧ nr h'_2 572 2 = nr h 572 2 ∧ h'_2 571 2 = h 571 2 := fun h' h'_1 h'_2 q1 q3 q6 c2 => by
    have en : nr h'_1 572 2 = nr h 572 2 := (RQ_n q3).1.trans q1.2.1
    have A := LD_a q6
    have L := A.2.2.2.1.2 l c2.1 (by rw [q6.2.1, en]; exact c2.2)
    rw [q6.2.1, en] at L
    have k1 : h'_1 571 2 = h 571 2 := (q3.1 _ _ (by unfold PR; omega)).trans (q1.1 _ _ (by omega) (by omega))
    exact ⟨⟨L.1, L.2⟩, k1, fun i => (q6.1 _ _ (by omega) (by omega)).trans ((q3.1 _ _ (by unfold PR; omega)).trans (q1.1 _ _ (by omega) (by omega))), q6.2.1.trans en, (q6.1 _ _ (by omega) (by omega)).trans k1⟩
  have G : ∀ h'_2 h'_3, (∀ i, h'_2 572 i = h 572 i) → nr h'_2 572 2 = nr h 572 2 → KPS h'_2 h'_3 → (0 ≤ l ∧ l < nl (nr h 572 2)) → CN (h 572 0) (wo (nr h 572 2) (lo (nr h 572 2) l) (hi (nr h 572 2) l)) → nr (t_ul h'_3 (lo (nr h 572 2) l) (hi (nr h 572 2) l)) 572 2 = (wo (nr h 572 2) (lo (nr h 572 2) l) (hi (nr h 572 2) l)) ∧ t_ul h'_3 (lo (nr h 572 2) l) (hi (nr h 572 2) l) 572 0 = h 572 0 ∧ RIv (t_ul h'_3 (lo (nr h 572 2) l) (hi (nr h 572 2) l)) := fun h'_2 h'_3 e2 en P c2 cn => by
    have kn := KPS_n P
    have k := hN.2.2 _ _ (lo_ok c2.1 c2.2).2.1
    have e : ∀ i, h'_3 572 i = h 572 i := fun i => (kn.1 i).trans (e2 i)
    have s' : ∀ y, 0 ≤ y → y < 20 → S20 (h'_3 572 (2 + y)) := fun y a b => by rw [e]; exact s y a b
    have w1 : nr (t_ul h'_3 (lo (nr h 572 2) l) (hi (nr h 572 2) l)) 572 2 = (wo (nr h 572 2) (lo (nr h 572 2) l) (hi (nr h 572 2) l)) := by rw [t_ul_nr k.2.2.1 (by omega) (by omega) s', kn.2.1, en]
    have w2 : t_ul h'_3 (lo (nr h 572 2) l) (hi (nr h 572 2) l) 572 0 = h 572 0 := by rw [t_ul_ne (by omega)]; exact e 0
    refine ⟨w1, w2, RIv_new ?_ ?_ (by rw [t_ul_ne (by omega)]; exact kn.2.2)⟩
    · rw [w1, w2]; exact NT_wo hN _ _
    · rw [w1, w2]; exact cn
  have CC : ∀ h', LD h h' → (0 ≤ l ∧ l < nl (nr h 572 2)) → (ifc (CN (h' 572 0) (wo (nr h' 572 2) (h' 581 l) (h' 582 l))) (npt (wo (nr h' 572 2) (h' 581 l) (h' 582 l))) (-1) = (-1) ↔ ¬ CN (h 572 0) (wo (nr h 572 2) (lo (nr h 572 2) l) (hi (nr h 572 2) l))) := fun h' q1 c2 => by
    have L := L0 h' q1 c2
    rw [L.1.1, L.1.2, q1.2.1, q1.2.2.1]
    by_cases z : CN (h 572 0) (wo (nr h 572 2) (lo (nr h 572 2) l) (hi (nr h 572 2) l))
    · rw [ifc_t z]; exact ⟨fun w => absurd w (npt_nn _), fun w => absurd z w⟩
    · rw [ifc_f z]; exact ⟨fun _ => z, fun _ => rfl⟩
  refine T310_0 ⟨H, fun h' q1 => ⟨fun c2 => ⟨by omega, ⟨by omega, ⟨by
    have L := L0 h' q1 c2
    rw [L.1.1, L.1.2, q1.2.1]
    exact ⟨q1.2.2.2.2.1, L.2⟩, fun h'_1 q3 => ⟨fun c4 => ?_, fun c4 => ⟨fun c5 => ⟨q3.2, fun h'_2 q6 => ⟨by omega, ⟨by omega, ⟨by
    have Q := L1 h' h'_1 h'_2 q1 q3 q6 c2
    rw [Q.2.1] at c5
    rw [Q.2.2.2.2]
    omega, fun h'_3 q7 => ⟨by
    have Q := L1 h' h'_1 h'_2 q1 q3 q6 c2
    have k := hN.2.2 _ _ (lo_ok c2.1 c2.2).2.1
    rw [Q.1.1, Q.1.2]
    omega, ⟨by
    have Q := L1 h' h'_1 h'_2 q1 q3 q6 c2
    have cn : CN (h 572 0) (wo (nr h 572 2) (lo (nr h 572 2) l) (hi (nr h 572 2) l)) := Classical.byContradiction fun z => c4 ((CC h' q1 c2).mpr z)
    rw [Q.1.1, Q.1.2]
    exact (G h'_2 h'_3 Q.2.2.1 Q.2.2.2.1 q7 c2 cn).2.2, fun h'_4 q8 => ?_⟩⟩⟩⟩⟩⟩, fun c5 => ?_⟩⟩⟩⟩⟩, fun c2 => ?_⟩⟩
  · have w : 20 ≤ h 571 2 ∨ ¬ CN (h 572 0) (wo (nr h 572 2) (lo (nr h 572 2) l) (hi (nr h 572 2) l)) := Or.inr ((CC h' q1 c2).mp c4)
    exact am_rB (hK h'_1 ⟨fun z => absurd w z.2, fun _ => RQ_tr (LD_q q1) q3⟩) (by rw [ifc_t c2, ifc_t w])
  · have Q := L1 h' h'_1 h'_2 q1 q3 q6 c2
    rw [Q.2.1] at c5
    have cn : CN (h 572 0) (wo (nr h 572 2) (lo (nr h 572 2) l) (hi (nr h 572 2) l)) := Classical.byContradiction fun z => c4 ((CC h' q1 c2).mpr z)
    have nc : ¬ (20 ≤ h 571 2 ∨ ¬ CN (h 572 0) (wo (nr h 572 2) (lo (nr h 572 2) l) (hi (nr h 572 2) l))) := fun z => z.elim (fun z => by omega) (fun z => z cn)
    rw [Q.1.1, Q.1.2] at q8
    have g := G h'_2 h'_3 Q.2.2.1 Q.2.2.2.1 q7 c2 cn
    have A := LD_a q8
    have ln : h'_4 571 21 = nl (wo (nr h 572 2) (lo (nr h 572 2) l) (hi (nr h 572 2) l)) := by rw [A.2.2.2.1.1, q8.2.1, g.1]
    have k := hN.2.2 _ _ (lo_ok c2.1 c2.2).2.1
    refine am_rB (hK h'_4 ⟨fun _ => RAh_mk (RQ_tr (LD_q q1) (RQ_tr q3 (LD_q q6))) q7 (fun x i a => t_ul_ne (by omega)) (by rw [q8.2.2.1]; exact g.2.1) (by rw [q8.2.1]; exact g.1) (LD_q q8), fun z => absurd ⟨c2, nc⟩ z⟩) ?_
    rw [ifc_t c2, ifc_f nc, ln]
  · have k1 : h'_1 571 2 = h 571 2 := (q3.1 _ _ (by unfold PR; omega)).trans (q1.1 _ _ (by omega) (by omega))
    rw [k1] at c5
    have w : 20 ≤ h 571 2 ∨ ¬ CN (h 572 0) (wo (nr h 572 2) (lo (nr h 572 2) l) (hi (nr h 572 2) l)) := Or.inl (by omega)
    exact am_rB (hK h'_1 ⟨fun z => absurd w z.2, fun _ => RQ_tr (LD_q q1) q3⟩) (by rw [ifc_t c2, ifc_t w])
  · exact am_rB (hK h' ⟨fun z => absurd z.1 c2, fun _ => LD_q q1⟩) (ifc_f c2)))
/-! 311 FactorNetsModel.times -/
def C311 : am_K := fun as h K => am_a3 as (fun v0 v1 v2 => am_oc 12 571 v0 (am_n v1 (fun k => am_n v2 (fun n => (RIv h ∧ (0 ≤ h 571 2 ∧ h 571 2 ≤ 20)) ∧ (∀ (h' : am_H), (((0 < (h 572 0) ∧ (0 ≤ k ∧ k ≤ 2) ∧ ((if k = 1 then 3 else 2) ≤ n ∧ n ≤ 10)) ∧ ¬ (20 < (h 572 0) * n ∨ 20 ≤ h 571 2)) → RAh h h' ((h 572 0) * n) (mul (h 572 0) (nr h 572 2) k n)) ∧ (¬ ((0 < (h 572 0) ∧ (0 ≤ k ∧ k ≤ 2) ∧ ((if k = 1 then 3 else 2) ≤ n ∧ n ≤ 10)) ∧ ¬ (20 < (h 572 0) * n ∨ 20 ≤ h 571 2)) → RQ h h') → K (some (mB (ifc (0 < (h 572 0) ∧ (0 ≤ k ∧ k ≤ 2) ∧ ((if k = 1 then 3 else 2) ≤ n ∧ n ≤ 10)) (ifc (20 < (h 572 0) * n ∨ 20 ≤ h 571 2) (-5) ((h 572 0) * n)) (-2)))) (h'))))))
theorem W311 {d : Nat} (H : ∀ (k : Int) (n : Int) (h : am_H) (K : Option am_V → am_H → Prop), (RIv h ∧ (0 ≤ h 571 2 ∧ h 571 2 ≤ 20)) ∧ (∀ (h' : am_H), (((0 < (h 572 0) ∧ (0 ≤ k ∧ k ≤ 2) ∧ ((if k = 1 then 3 else 2) ≤ n ∧ n ≤ 10)) ∧ ¬ (20 < (h 572 0) * n ∨ 20 ≤ h 571 2)) → RAh h h' ((h 572 0) * n) (mul (h 572 0) (nr h 572 2) k n)) ∧ (¬ ((0 < (h 572 0) ∧ (0 ≤ k ∧ k ≤ 2) ∧ ((if k = 1 then 3 else 2) ≤ n ∧ n ≤ 10)) ∧ ¬ (20 < (h 572 0) * n ∨ 20 ≤ h 571 2)) → RQ h h') → K (some (mB (ifc (0 < (h 572 0) ∧ (0 ≤ k ∧ k ≤ 2) ∧ ((if k = 1 then 3 else 2) ≤ n ∧ n ≤ 10)) (ifc (20 < (h 572 0) * n ∨ 20 ≤ h 571 2) (-5) ((h 572 0) * n)) (-2)))) (h')) → am_AT d 311 0 [some (mR 1 12 0 571), some (mB k), some (mB n)] h K) : am_CS d 311 C311 := by
  refine am_CS_of (T := tb311) (mL := 3) (rk := 1) rfl (fun as h K hC => ?_)
  obtain ⟨v0, v1, v2, rfl, hC0⟩ := am_a3_e hC
  obtain ⟨e0, hC1⟩ := am_oc_e hC0
  subst e0
  obtain ⟨k, rfl, hC2⟩ := am_n_e hC1
  obtain ⟨n, rfl, hC3⟩ := am_n_e hC2
  refine ⟨Nat.le_of_ble_eq_true rfl, ?_⟩
  exact H k n h K hC3
theorem T311_0 {R : Option am_V → am_H → Prop} {h : am_H} {k : Int} {n : Int} (t : ((¬ (0 < h 572 0)) → (R (some (mB (-2))) h)) ∧ ((0 < h 572 0) → (((¬ ((0 : Int) ≤ k ∧ k ≤ (2 : Int))) → (R (some (mB (-2))) h)) ∧ (((0 : Int) ≤ k ∧ k ≤ (2 : Int)) → (((¬ k = 1) → ((((2 : Int) ≤ n ∧ n ≤ (10 : Int)) → ((R32 ((h 572 0) * n)) ∧ (((20 < (h 572 0) * n) → (R (some (mB (-5))) h)) ∧ (((h 572 0) * n ≤ 20) → (((¬ (h 571 2 = 20)) → ((0 ≤ h 571 2 ∧ h 571 2 < 20) ∧ (∀ (h' : am_H), (KPS h h') → (((2 ≤ n ∧ n ≤ 20) ∧ (0 ≤ k ∧ k ≤ 2) ∧ (1 ≤ h' 572 0 ∧ h' 572 0 * n ≤ 20) ∧ NT (h' 572 0) (nr h' 572 2)) ∧ (∀ (h'_1 : am_H), ((∀ x9 i9, ¬ (x9 = 572 ∧ (i9 = 0 ∨ (2 ≤ i9 ∧ i9 < 22))) → h'_1 x9 i9 = h' x9 i9) ∧ h'_1 572 0 = h' 572 0 * n ∧ nr h'_1 572 2 = mul (h' 572 0) (nr h' 572 2) k n) → (R (some (mB (h'_1 572 0))) h'_1)))))) ∧ ((h 571 2 = 20) → (R (some (mB (-5))) h))))))) ∧ ((¬ ((2 : Int) ≤ n ∧ n ≤ (10 : Int))) → (R (some (mB (-2))) h)))) ∧ ((k = 1) → ((((3 : Int) ≤ n ∧ n ≤ (10 : Int)) → ((R32 ((h 572 0) * n)) ∧ (((20 < (h 572 0) * n) → (R (some (mB (-5))) h)) ∧ (((h 572 0) * n ≤ 20) → (((¬ (h 571 2 = 20)) → ((0 ≤ h 571 2 ∧ h 571 2 < 20) ∧ (∀ (h' : am_H), (KPS h h') → (((2 ≤ n ∧ n ≤ 20) ∧ (0 ≤ k ∧ k ≤ 2) ∧ (1 ≤ h' 572 0 ∧ h' 572 0 * n ≤ 20) ∧ NT (h' 572 0) (nr h' 572 2)) ∧ (∀ (h'_1 : am_H), ((∀ x9 i9, ¬ (x9 = 572 ∧ (i9 = 0 ∨ (2 ≤ i9 ∧ i9 < 22))) → h'_1 x9 i9 = h' x9 i9) ∧ h'_1 572 0 = h' 572 0 * n ∧ nr h'_1 572 2 = mul (h' 572 0) (nr h' 572 2) k n) → (R (some (mB (h'_1 572 0))) h'_1)))))) ∧ ((h 571 2 = 20) → (R (some (mB (-5))) h))))))) ∧ ((¬ ((3 : Int) ≤ n ∧ n ≤ (10 : Int))) → (R (some (mB (-2))) h))))))))) : am_AT 3 311 0 [some (mR 1 12 0 571), some (mB k), some (mB n)] h R :=
  am_T (d := 2) (m := 311) (T := tb311) (mL := 3) (rk := 1) (cuts := []) (l := [(187, C187), (208, C208), (209, C209), (306, C306), (307, C307)]) rfl ⟨am_CS_d (by decide) C187_ok, am_CS_d (by decide) C208_ok, am_CS_d (by decide) C209_ok, am_CS_d (by decide) C306_ok, am_CS_d (by decide) C307_ok, trivial⟩ 45 (And.intro (rfl) (And.intro (fun c11 => (t).1 c11) (fun c11 => And.intro (fun c12 => ((t).2 c11).1 c12) (fun c12 => And.intro (fun c13 => And.intro (fun c14 => And.intro (⟨by decide, by decide⟩) (And.intro (((((t).2 c11).2 c12).1 c13).1 c14).1 (And.intro (fun c15 => ((((((t).2 c11).2 c12).1 c13).1 c14).2).1 c15) (fun c15 => And.intro (rfl) (And.intro (fun c16 => And.intro (rfl) (And.intro ((((((((t).2 c11).2 c12).1 c13).1 c14).2).2 c15).1 c16).1 (fun z9_0 z9_1 => And.intro (rfl) (And.intro ((((((((((t).2 c11).2 c12).1 c13).1 c14).2).2 c15).1 c16).2) z9_0 z9_1).1 (fun z10_0 z10_1 => And.intro (⟨by decide, by decide⟩) ((((((((((((t).2 c11).2 c12).1 c13).1 c14).2).2 c15).1 c16).2) z9_0 z9_1).2) z10_0 z10_1)))))) (fun c16 => (((((((t).2 c11).2 c12).1 c13).1 c14).2).2 c15).2 c16)))))) (fun c14 => ((((t).2 c11).2 c12).1 c13).2 c14)) (fun c13 => And.intro (fun c17 => And.intro (⟨by decide, by decide⟩) (And.intro (((((t).2 c11).2 c12).2 c13).1 c17).1 (And.intro (fun c18 => ((((((t).2 c11).2 c12).2 c13).1 c17).2).1 c18) (fun c18 => And.intro (rfl) (And.intro (fun c19 => And.intro (rfl) (And.intro ((((((((t).2 c11).2 c12).2 c13).1 c17).2).2 c18).1 c19).1 (fun z11_0 z11_1 => And.intro (rfl) (And.intro ((((((((((t).2 c11).2 c12).2 c13).1 c17).2).2 c18).1 c19).2) z11_0 z11_1).1 (fun z12_0 z12_1 => And.intro (⟨by decide, by decide⟩) ((((((((((((t).2 c11).2 c12).2 c13).1 c17).2).2 c18).1 c19).2) z11_0 z11_1).2) z12_0 z12_1)))))) (fun c19 => (((((((t).2 c11).2 c12).2 c13).1 c17).2).2 c18).2 c19)))))) (fun c17 => ((((t).2 c11).2 c12).2 c13).2 c17))))))
theorem C311_ok : am_CS 3 311 C311 := W311 (fun k n h K hb => by
  obtain ⟨⟨H, ha⟩, hK⟩ := hb
  have hN := H.1
  have hC := H.2.1
  have hn0 := hN.1
  have hn := hN.2.1
  refine T311_0 ⟨fun c1 => ?_, fun c1 => ⟨fun c2 => ?_, fun c2 => ⟨fun c3 => ⟨fun c4 => ⟨by
    have w1 := Int.mul_nonneg hn0 (show 0 ≤ n by omega)
    have w2 := Int.mul_le_mul (show h 572 0 ≤ 20 by omega) c4.2 (show 0 ≤ n by omega) (by omega)
    unfold R32
    omega, ⟨fun c5 => ?_, fun c5 => ⟨fun c6 => ⟨by omega, fun h' q7 => ⟨by
    have kn := KPS_n q7
    rw [kn.2.1, kn.1]
    exact ⟨by omega, by omega, by omega, hN⟩, fun h'_1 q8 => ?_⟩⟩, fun c6 => ?_⟩⟩⟩, fun c4 => ?_⟩, fun c3 => ⟨fun c4 => ⟨by
    have w1 := Int.mul_nonneg hn0 (show 0 ≤ n by omega)
    have w2 := Int.mul_le_mul (show h 572 0 ≤ 20 by omega) c4.2 (show 0 ≤ n by omega) (by omega)
    unfold R32
    omega, ⟨fun c5 => ?_, fun c5 => ⟨fun c6 => ⟨by omega, fun h' q7 => ⟨by
    have kn := KPS_n q7
    rw [kn.2.1, kn.1]
    exact ⟨by omega, by omega, by omega, hN⟩, fun h'_1 q8 => ?_⟩⟩, fun c6 => ?_⟩⟩⟩, fun c4 => ?_⟩⟩⟩⟩
  · exact am_rB (hK h ⟨fun z => absurd z (fun w => c1 w.1.1), fun _ => RQ_rf H⟩) (ifc_f (fun w => c1 w.1))
  · exact am_rB (hK h ⟨fun z => absurd z (fun w => c2 w.1.2.1), fun _ => RQ_rf H⟩) (ifc_f (fun w => c2 w.2.1))
  · exact am_rB (hK h ⟨fun z => absurd z (fun w => w.2 (Or.inl c5)), fun _ => RQ_rf H⟩) (by rw [ifc_t ⟨c1, c2, by rw [if_neg c3]; exact c4⟩, ifc_t (Or.inl c5)])
  · have nc : ¬ (20 < h 572 0 * n ∨ 20 ≤ h 571 2) := by omega
    have kn := KPS_n q7
    rw [kn.2.1, kn.1] at q8
    have hN2 : NT (h'_1 572 0) (nr h'_1 572 2) := by rw [q8.2.1, q8.2.2]; exact NT_mul (by omega) (by omega) (by omega) hN
    have hC2 : CN (h'_1 572 0) (nr h'_1 572 2) := by rw [q8.2.1, q8.2.2]; exact CN_mul (by omega) (by omega) (by omega) hN hC
    have R2 : RIv h'_1 := RIv_new hN2 hC2 (by rw [q8.1 _ _ (by omega)]; exact kn.2.2)
    refine am_rB (hK h'_1 ⟨fun _ => RAh_mk (RQ_rf H) q7 (fun x i a => q8.1 x i a) q8.2.1 q8.2.2 (RQ_rf R2), fun z => absurd ⟨⟨c1, c2, by rw [if_neg c3]; exact c4⟩, nc⟩ z⟩) ?_
    rw [ifc_t ⟨c1, c2, by rw [if_neg c3]; exact c4⟩, ifc_f nc, q8.2.1]
  · exact am_rB (hK h ⟨fun z => absurd z (fun w => w.2 (Or.inr (by omega))), fun _ => RQ_rf H⟩) (by rw [ifc_t ⟨c1, c2, by rw [if_neg c3]; exact c4⟩, ifc_t (Or.inr (by omega))])
  · exact am_rB (hK h ⟨fun z => absurd z (fun w => c4 (by have := w.1.2.2; rw [if_neg c3] at this; exact this)), fun _ => RQ_rf H⟩) (ifc_f (fun w => c4 (by have := w.2.2; rw [if_neg c3] at this; exact this)))
  · exact am_rB (hK h ⟨fun z => absurd z (fun w => w.2 (Or.inl c5)), fun _ => RQ_rf H⟩) (by rw [ifc_t ⟨c1, c2, by rw [if_pos c3]; exact c4⟩, ifc_t (Or.inl c5)])
  · have nc : ¬ (20 < h 572 0 * n ∨ 20 ≤ h 571 2) := by omega
    have kn := KPS_n q7
    rw [kn.2.1, kn.1] at q8
    have hN2 : NT (h'_1 572 0) (nr h'_1 572 2) := by rw [q8.2.1, q8.2.2]; exact NT_mul (by omega) (by omega) (by omega) hN
    have hC2 : CN (h'_1 572 0) (nr h'_1 572 2) := by rw [q8.2.1, q8.2.2]; exact CN_mul (by omega) (by omega) (by omega) hN hC
    have R2 : RIv h'_1 := RIv_new hN2 hC2 (by rw [q8.1 _ _ (by omega)]; exact kn.2.2)
    refine am_rB (hK h'_1 ⟨fun _ => RAh_mk (RQ_rf H) q7 (fun x i a => q8.1 x i a) q8.2.1 q8.2.2 (RQ_rf R2), fun z => absurd ⟨⟨c1, c2, by rw [if_pos c3]; exact c4⟩, nc⟩ z⟩) ?_
    rw [ifc_t ⟨c1, c2, by rw [if_pos c3]; exact c4⟩, ifc_f nc, q8.2.1]
  · exact am_rB (hK h ⟨fun z => absurd z (fun w => w.2 (Or.inr (by omega))), fun _ => RQ_rf H⟩) (by rw [ifc_t ⟨c1, c2, by rw [if_pos c3]; exact c4⟩, ifc_t (Or.inr (by omega))])
  · exact am_rB (hK h ⟨fun z => absurd z (fun w => c4 (by have := w.1.2.2; rw [if_pos c3] at this; exact this)), fun _ => RQ_rf H⟩) (ifc_f (fun w => c4 (by have := w.2.2; rw [if_pos c3] at this; exact this))))
/-! 312 FactorNetsModel.keep -/
def C312 : am_K := fun as h K => am_a2 as (fun v0 v1 => am_oc 12 571 v0 (am_n v1 (fun k => (RIv h ∧ (0 ≤ h 571 2 ∧ h 571 2 ≤ 20)) ∧ (∀ (h' : am_H), (((0 ≤ k ∧ k < ncl (ptE (nr h 572 2)) (nl (nr h 572 2))) ∧ ¬ 20 ≤ h 571 2) → RAh h h' (iPop (lay (nr h 572 2) k 0)) (rw2 (xta (nr h 572 2) k))) ∧ (¬ ((0 ≤ k ∧ k < ncl (ptE (nr h 572 2)) (nl (nr h 572 2))) ∧ ¬ 20 ≤ h 571 2) → RQ h h') → K (some (mB (ifc (0 ≤ k ∧ k < ncl (ptE (nr h 572 2)) (nl (nr h 572 2))) (ifc (20 ≤ h 571 2) (-5) (iPop (lay (nr h 572 2) k 0))) (-2)))) (h')))))
theorem W312 {d : Nat} (H : ∀ (k : Int) (h : am_H) (K : Option am_V → am_H → Prop), (RIv h ∧ (0 ≤ h 571 2 ∧ h 571 2 ≤ 20)) ∧ (∀ (h' : am_H), (((0 ≤ k ∧ k < ncl (ptE (nr h 572 2)) (nl (nr h 572 2))) ∧ ¬ 20 ≤ h 571 2) → RAh h h' (iPop (lay (nr h 572 2) k 0)) (rw2 (xta (nr h 572 2) k))) ∧ (¬ ((0 ≤ k ∧ k < ncl (ptE (nr h 572 2)) (nl (nr h 572 2))) ∧ ¬ 20 ≤ h 571 2) → RQ h h') → K (some (mB (ifc (0 ≤ k ∧ k < ncl (ptE (nr h 572 2)) (nl (nr h 572 2))) (ifc (20 ≤ h 571 2) (-5) (iPop (lay (nr h 572 2) k 0))) (-2)))) (h')) → am_AT d 312 0 [some (mR 1 12 0 571), some (mB k), none, none, none, none] h K) : am_CS d 312 C312 := by
  refine am_CS_of (T := tb312) (mL := 6) (rk := 1) rfl (fun as h K hC => ?_)
  obtain ⟨v0, v1, rfl, hC0⟩ := am_a2_e hC
  obtain ⟨e0, hC1⟩ := am_oc_e hC0
  subst e0
  obtain ⟨k, rfl, hC2⟩ := am_n_e hC1
  refine ⟨Nat.le_of_ble_eq_true rfl, ?_⟩
  exact H k h K hC2
theorem T312_0 {R : Option am_V → am_H → Prop} {h : am_H} {k : Int} (t : (RIv h) ∧ (∀ (h' : am_H), (LD h h') → (((0 ≤ k ∧ k < ncl (ptE (nr h 572 2)) (nl (nr h 572 2))) → (((¬ (h' 571 2 = 20)) → (((NT (h' 572 0) (nr h' 572 2) ∧ CN (h' 572 0) (nr h' 572 2) ∧ RLd h' (h' 572 0) (nr h' 572 2)) ∧ (0 ≤ (0 : Int) ∧ (0 : Int) < (h' 572 0))) ∧ ((0 ≤ (mkb (rc (RA (nr h' 572 2) (fun x => ¬ (x = k ↔ ((0 : Int) = 1)))) (0 : Int))) ∧ (mkb (rc (RA (nr h' 572 2) (fun x => ¬ (x = k ↔ ((0 : Int) = 1)))) (0 : Int))) < 2147483648) ∧ (am_AT 6 312 37 [some (mR 1 12 0 571), none, some (mI (mkb (rc (RA (nr h' 572 2) (fun x => ¬ (x = k ↔ ((0 : Int) = 1)))) (0 : Int)))), some (mI (iPop (mkb (rc (RA (nr h' 572 2) (fun x => ¬ (x = k ↔ ((0 : Int) = 1)))) (0 : Int))))), some (mI 0), none] h' R)))) ∧ ((h' 571 2 = 20) → (R (some (mB (-5))) h')))) ∧ ((¬ (0 ≤ k ∧ k < ncl (ptE (nr h 572 2)) (nl (nr h 572 2)))) → (R (some (mB (-2))) h'))))) : am_AT 6 312 0 [some (mR 1 12 0 571), some (mB k), none, none, none, none] h R :=
  am_T (d := 5) (m := 312) (T := tb312) (mL := 6) (rk := 1) (cuts := [(37, [1, 0, 2, 2, 2, 0]), (55, [1, 0, 2, 2, 2, 2]), (130, [1, 0, 0, 2, 2, 0])]) (l := [(198, C198), (222, C222), (237, C237), (240, C240), (306, C306), (307, C307), (317, C317)]) rfl ⟨am_CS_d (by decide) C198_ok, am_CS_d (by decide) C222_ok, am_CS_d (by decide) C237_ok, am_CS_d (by decide) C240_ok, am_CS_d (by decide) C306_ok, am_CS_d (by decide) C307_ok, am_CS_d (by decide) C317_ok, trivial⟩ 22 (And.intro (rfl) (And.intro (t).1 (fun z13_0 z13_1 => And.intro (fun c20 => And.intro (rfl) (And.intro (fun c21 => And.intro (rfl) (And.intro (Or.inl rfl) (And.intro (((((t).2) z13_0 z13_1).1 c20).1 c21).1 (And.intro ((((((t).2) z13_0 z13_1).1 c20).1 c21).2).1 (((((((t).2) z13_0 z13_1).1 c20).1 c21).2).2))))) (fun c21 => ((((t).2) z13_0 z13_1).1 c20).2 c21))) (fun c20 => (((t).2) z13_0 z13_1).2 c20))))
theorem T312_37 {R : Option am_V → am_H → Prop} {h : am_H} {x2 : Int} {x3 : Int} {x4 : Int} (t : (R32 x4) ∧ (((20 ≤ x4) → ((0 ≤ h 571 2 ∧ h 571 2 < 20) ∧ (∀ (h' : am_H), (KPS h h') → ((R32 x3) ∧ (am_AT 6 312 130 [some (mR 1 12 0 571), none, none, some (mI x3), some (mI 0), none] (am_up h' 572 0 x3) R))))) ∧ ((x4 < 20) → ((0 ≤ x4 ∧ x4 < 20) ∧ (am_AT 6 312 55 [some (mR 1 12 0 571), none, some (mI x2), some (mI x3), some (mI x4), some (mI 0)] (am_up h 601 x4 0) R))))) : am_AT 6 312 37 [some (mR 1 12 0 571), none, some (mI x2), some (mI x3), some (mI x4), none] h R :=
  am_T (d := 5) (m := 312) (T := tb312) (mL := 6) (rk := 1) (cuts := [(37, [1, 0, 2, 2, 2, 0]), (55, [1, 0, 2, 2, 2, 2]), (130, [1, 0, 0, 2, 2, 0])]) (l := [(198, C198), (222, C222), (237, C237), (240, C240), (306, C306), (307, C307), (317, C317)]) rfl ⟨am_CS_d (by decide) C198_ok, am_CS_d (by decide) C222_ok, am_CS_d (by decide) C237_ok, am_CS_d (by decide) C240_ok, am_CS_d (by decide) C306_ok, am_CS_d (by decide) C307_ok, am_CS_d (by decide) C317_ok, trivial⟩ 16 (And.intro (t).1 (And.intro (fun c22 => And.intro (rfl) (And.intro (((t).2).1 c22).1 (fun z14_0 z14_1 => And.intro (⟨by decide, by decide⟩) (And.intro (((((t).2).1 c22).2) z14_0 z14_1).1 ((((((t).2).1 c22).2) z14_0 z14_1).2))))) (fun c22 => And.intro (((t).2).2 c22).1 ((((t).2).2 c22).2))))
theorem T312_55 {R : Option am_V → am_H → Prop} {h : am_H} {x2 : Int} {x3 : Int} {x4 : Int} {x5 : Int} (t : (R32 x5) ∧ ((R32 x3) ∧ (((x3 ≤ x5) → (am_AT 6 312 37 [some (mR 1 12 0 571), none, some (mI x2), some (mI x3), some (mI (x4 + 1)), none] h R)) ∧ ((x5 < x3) → ((R32 x4) ∧ ((R32 x3) ∧ (((x3 ≤ x4) → (am_AT 6 312 37 [some (mR 1 12 0 571), none, some (mI x2), some (mI x3), some (mI (x4 + 1)), none] h R)) ∧ ((x4 < x3) → ((0 ≤ x4 ∧ x4 < 20) ∧ ((R32 x2) ∧ ((R32 x4) ∧ ((0 ≤ x4) ∧ ((R32 x2) ∧ ((R32 x5) ∧ ((0 ≤ x5) ∧ (((0 ≤ (nthb x2 x4) ∧ (nthb x2 x4) < 20) ∧ (0 ≤ (nthb x2 x5) ∧ (nthb x2 x5) < 32)) ∧ (((¬ (bit (h 572 (2 + (nthb x2 x4))) (nthb x2 x5))) → ((0 ≤ x4 ∧ x4 < 20) ∧ (am_AT 6 312 55 [some (mR 1 12 0 571), none, some (mI x2), some (mI x3), some (mI x4), some (mI (x5 + 1))] (am_up h 601 x4 (iOr (h 601 x4) 0)) R))) ∧ ((bit (h 572 (2 + (nthb x2 x4))) (nthb x2 x5)) → ((0 ≤ x4 ∧ x4 < 20) ∧ (am_AT 6 312 55 [some (mR 1 12 0 571), none, some (mI x2), some (mI x3), some (mI x4), some (mI (x5 + 1))] (am_up h 601 x4 (iOr (h 601 x4) (iShl 1 x5))) R)))))))))))))))))))) : am_AT 6 312 55 [some (mR 1 12 0 571), none, some (mI x2), some (mI x3), some (mI x4), some (mI x5)] h R :=
  am_T (d := 5) (m := 312) (T := tb312) (mL := 6) (rk := 1) (cuts := [(37, [1, 0, 2, 2, 2, 0]), (55, [1, 0, 2, 2, 2, 2]), (130, [1, 0, 0, 2, 2, 0])]) (l := [(198, C198), (222, C222), (237, C237), (240, C240), (306, C306), (307, C307), (317, C317)]) rfl ⟨am_CS_d (by decide) C198_ok, am_CS_d (by decide) C222_ok, am_CS_d (by decide) C237_ok, am_CS_d (by decide) C240_ok, am_CS_d (by decide) C306_ok, am_CS_d (by decide) C307_ok, am_CS_d (by decide) C317_ok, trivial⟩ 32 (And.intro (t).1 (And.intro ((t).2).1 (And.intro (fun c23 => (((t).2).2).1 c23) (fun c23 => And.intro ((((t).2).2).2 c23).1 (And.intro (((((t).2).2).2 c23).2).1 (And.intro (fun c24 => ((((((t).2).2).2 c23).2).2).1 c24) (fun c24 => And.intro (((((((t).2).2).2 c23).2).2).2 c24).1 (And.intro ((((((((t).2).2).2 c23).2).2).2 c24).2).1 (And.intro (((((((((t).2).2).2 c23).2).2).2 c24).2).2).1 (And.intro ((((((((((t).2).2).2 c23).2).2).2 c24).2).2).2).1 (And.intro (((((((((((t).2).2).2 c23).2).2).2 c24).2).2).2).2).1 (And.intro ((((((((((((t).2).2).2 c23).2).2).2 c24).2).2).2).2).2).1 (And.intro (((((((((((((t).2).2).2 c23).2).2).2 c24).2).2).2).2).2).2).1 (And.intro (rfl) (And.intro ((((((((((((((t).2).2).2 c23).2).2).2 c24).2).2).2).2).2).2).2).1 (And.intro (fun c25 => And.intro ((((((((((((((((t).2).2).2 c23).2).2).2 c24).2).2).2).2).2).2).2).2).1 c25).1 (((((((((((((((((t).2).2).2 c23).2).2).2 c24).2).2).2).2).2).2).2).2).1 c25).2)) (fun c25 => And.intro ((((((((((((((((t).2).2).2 c23).2).2).2 c24).2).2).2).2).2).2).2).2).2 c25).1 (((((((((((((((((t).2).2).2 c23).2).2).2 c24).2).2).2).2).2).2).2).2).2 c25).2))))))))))))))))))
theorem T312_130 {R : Option am_V → am_H → Prop} {h : am_H} {x3 : Int} {x4 : Int} (t : (R32 x4) ∧ (((20 ≤ x4) → ((R32 x3) ∧ (R (some (mB x3)) h))) ∧ ((x4 < 20) → ((0 ≤ x4 ∧ x4 < 20) ∧ ((0 ≤ 2 + x4 ∧ 2 + x4 < 22) ∧ (am_AT 6 312 130 [some (mR 1 12 0 571), none, none, some (mI x3), some (mI (x4 + 1)), none] (am_up h 572 (2 + x4) (h 601 x4)) R)))))) : am_AT 6 312 130 [some (mR 1 12 0 571), none, none, some (mI x3), some (mI x4), none] h R :=
  am_T (d := 5) (m := 312) (T := tb312) (mL := 6) (rk := 1) (cuts := [(37, [1, 0, 2, 2, 2, 0]), (55, [1, 0, 2, 2, 2, 2]), (130, [1, 0, 0, 2, 2, 0])]) (l := [(198, C198), (222, C222), (237, C237), (240, C240), (306, C306), (307, C307), (317, C317)]) rfl ⟨am_CS_d (by decide) C198_ok, am_CS_d (by decide) C222_ok, am_CS_d (by decide) C237_ok, am_CS_d (by decide) C240_ok, am_CS_d (by decide) C306_ok, am_CS_d (by decide) C307_ok, am_CS_d (by decide) C317_ok, trivial⟩ 19 (And.intro (t).1 (And.intro (fun c26 => And.intro (((t).2).1 c26).1 ((((t).2).1 c26).2)) (fun c26 => And.intro (((t).2).2 c26).1 (And.intro ((((t).2).2 c26).2).1 (((((t).2).2 c26).2).2)))))
noncomputable def kpr (r0 : Int → Int) (k i j : Int) : Int := mkb (fun b9 => b9 < j ∧ xta r0 k i b9)
theorem L312b {K : Option am_V → am_H → Prop} {h1 : am_H} {k n0 : Int} {r0 : Int → Int} (hN : NT n0 r0) (hC : CN n0 r0) (e0 : 0 < n0) (er : nr h1 572 2 = r0) {i : Int} (hi : 0 ≤ i ∧ i < 20) (nx : ∀ g : am_H, (∀ x i, x ≠ 601 → g x i = h1 x i) → (∀ y, 0 ≤ y → y < i + 1 → g 601 y = mkb (xta r0 k y)) → am_AT 6 312 37 [some (mR 1 12 0 571), none, some (mI (lay r0 k 0)), some (mI (iPop (lay r0 k 0))), some (mI (i + 1)), none] g K) : ∀ j, ∀ g : am_H, 0 ≤ j → j ≤ iPop (lay r0 k 0) → (∀ x i, x ≠ 601 → g x i = h1 x i) → (∀ y, 0 ≤ y → y < i → g 601 y = mkb (xta r0 k y)) → g 601 i = kpr r0 k i j → am_AT 6 312 55 [some (mR 1 12 0 571), none, some (mI (lay r0 k 0)), some (mI (iPop (lay r0 k 0))), some (mI i), some (mI j)] g K := by
  have sl := S20_lay (r := r0) k 0
  have s1 := sl.1
  have s2 := sl.2
  have p20 := iPop_le20 sl
  refine lp (iPop (lay r0 k 0)) (fun j ih g j0 j1 F G e => ?_)
  have fin : (iPop (lay r0 k 0) ≤ j ∨ iPop (lay r0 k 0) ≤ i) → g 601 i = mkb (xta r0 k i) := fun z => by
    rw [e]
    refine mkb_congr (fun b _ _ => ⟨fun w => w.2, fun w => ⟨?_, w⟩⟩)
    have := w.1
    omega
  have st : (iPop (lay r0 k 0) ≤ j ∨ iPop (lay r0 k 0) ≤ i) → am_AT 6 312 37 [some (mR 1 12 0 571), none, some (mI (lay r0 k 0)), some (mI (iPop (lay r0 k 0))), some (mI (i + 1)), none] g K := fun z => nx g F (fun y a b => by
    by_cases w : y = i
    · rw [w]; exact fin z
    · exact G y a (by omega))
  have ni : i < iPop (lay r0 k 0) → bit (lay r0 k 0) (nthb (lay r0 k 0) i) ∧ (0 ≤ nthb (lay r0 k 0) i ∧ nthb (lay r0 k 0) i < 20) := fun a => nthb_in sl hi.1 a
  have nj : j < iPop (lay r0 k 0) → bit (lay r0 k 0) (nthb (lay r0 k 0) j) ∧ (0 ≤ nthb (lay r0 k 0) j ∧ nthb (lay r0 k 0) j < 20) := fun a => nthb_in sl j0 a
  have eb : i < iPop (lay r0 k 0) → j < iPop (lay r0 k 0) → (bit (g 572 (2 + nthb (lay r0 k 0) i)) (nthb (lay r0 k 0) j) ↔ xta r0 k i j) := fun a b => by
    have x := ni a
    have y := nj b
    have z1 := (bt_lay hN ⟨by omega, e0⟩).mp x.1
    have z2 := (bt_lay hN ⟨by omega, e0⟩).mp y.1
    have er' : nr g 572 2 = r0 := (nr_fr2 (fun q => F _ _ (by omega))).trans er
    have adg : ∀ a b, ad r0 a b ↔ ((0 ≤ a ∧ a < 20) ∧ bit (g 572 (2 + a)) b) := fun a b => by rw [← er']; exact ad_nr2
    constructor
    · intro w
      have w2 := (adg _ _).mpr ⟨x.2, w⟩
      exact ⟨⟨⟨hi.1, a⟩, j0, b⟩, w2, G2a hN hC (rc_trans (rc_sym (RA_sym hN) z1) z2) w2⟩
    · intro w
      exact ((adg _ _).mp w.2.1).2
  have nxt : ∀ v, v = kpr r0 k i (j + 1) → i < iPop (lay r0 k 0) → j < iPop (lay r0 k 0) → am_AT 6 312 55 [some (mR 1 12 0 571), none, some (mI (lay r0 k 0)), some (mI (iPop (lay r0 k 0))), some (mI i), some (mI (j + 1))] (am_up g 601 i v) K := fun v hv a b => ih b _ (by omega) (by omega) (fun x y z => by rw [am_up_ne z]; exact F x y z) (fun y a b => by rw [am_up_n2 (by omega)]; exact G y a b) (by rw [am_up_eq]; exact hv)
  refine T312_55 ⟨by omega, ⟨by omega, ⟨fun c1 => ?_, fun c1 => ⟨by omega, ⟨by omega, ⟨fun c2 => ?_, fun c2 => ⟨by omega, ⟨by omega, ⟨by omega, ⟨by omega, ⟨by omega, ⟨by omega, ⟨by omega, ⟨by have := ni c2; have := nj c1; omega, ⟨fun c3 => ⟨by omega, ?_⟩, fun c3 => ⟨by omega, ?_⟩⟩⟩⟩⟩⟩⟩⟩⟩⟩⟩⟩⟩⟩⟩⟩
  · exact st (Or.inl c1)
  · exact st (Or.inr c2)
  · refine nxt _ ?_ c2 c1
    rw [e]
    have sk : S20 (kpr r0 k i j) := S20_mk _
    rw [bt_or0 sk]
    refine mkb_congr (fun b _ _ => ⟨fun w => ⟨by have := w.1; omega, w.2⟩, fun w => ⟨?_, w.2⟩⟩)
    have w1 := w.1
    have : b ≠ j := fun z => c3 ((eb c2 c1).mpr (z ▸ w.2))
    omega
  · refine nxt _ ?_ c2 c1
    rw [e]
    refine mkb_eq (rg_or _ _) (fun b => ?_)
    unfold kpr
    rw [bt_or, bt_mk, bt_1 j0 (by omega)]
    constructor
    · intro w
      rcases w with w | w
      · exact ⟨w.1, by have := w.2.1; omega, w.2.2⟩
      · rw [w]; exact ⟨by omega, by omega, (eb c2 c1).mp c3⟩
    · intro w
      by_cases z : b = j
      · exact Or.inr z
      · exact Or.inl ⟨w.1, by have := w.2.1; omega, w.2.2⟩
theorem L312c {K : Option am_V → am_H → Prop} {h1 g1 : am_H} {k : Int} {r0 : Int → Int} {n : Int} (hn : R32 n) (hK : ∀ g, ((∀ x i, ¬ (x = 572 ∧ (i = 0 ∨ (2 ≤ i ∧ i < 22))) → g x i = g1 x i) ∧ g 572 0 = n ∧ nr g 572 2 = rw2 (xta r0 k)) → K (some (mB n)) g) (h20 : ∀ a b, xta r0 k a b → 0 ≤ a ∧ a < 20) (e6 : ∀ y, 0 ≤ y → y < 20 → g1 601 y = mkb (xta r0 k y)) : ∀ i, ∀ g : am_H, 0 ≤ i → i ≤ 20 → ((∀ x i, ¬ (x = 572 ∧ (i = 0 ∨ (2 ≤ i ∧ i < 22))) → g x i = g1 x i) ∧ g 572 0 = n ∧ ∀ y, 0 ≤ y → y < i → g 572 (2 + y) = mkb (xta r0 k y)) → am_AT 6 312 130 [some (mR 1 12 0 571), none, none, some (mI n), some (mI i), none] g K := by
  refine lp 20 (fun i ih g i0 i1 G => ?_)
  have e : g 601 i = g1 601 i := G.1 _ _ (by omega)
  refine T312_130 ⟨by omega, ⟨fun c1 => ⟨by omega, ?_⟩, fun c1 => ⟨by omega, ⟨by omega, ?_⟩⟩⟩⟩
  · refine hK g ⟨G.1, G.2.1, ?_⟩
    funext y
    unfold rw2
    by_cases z : 0 ≤ y ∧ y < 20
    · rw [nr_in z.1 z.2]; exact G.2.2 y z.1 (by omega)
    · rw [nr_out z]
      exact mkb_eq (by omega) (fun b => ⟨fun w => absurd w bt_zero, fun w => absurd (h20 y b w.2) z⟩)
  · rw [e, e6 i i0 c1]
    refine ih c1 _ (by omega) (by omega) ⟨fun x j a => by rw [am_up_n2 (by omega)]; exact G.1 x j a, by rw [am_up_n2 (by omega)]; exact G.2.1, fun y a b => ?_⟩
    by_cases w : y = i
    · rw [w, am_up_eq]
    · rw [am_up_n2 (by omega)]; exact G.2.2 y a (by omega)
theorem L312 {K : Option am_V → am_H → Prop} {h1 : am_H} {k n0 : Int} {r0 : Int → Int} (hN : NT n0 r0) (hC : CN n0 r0) (e0 : 0 < n0) (er : nr h1 572 2 = r0) (ha : 0 ≤ h1 571 2 ∧ h1 571 2 < 20) (hK : ∀ g0 g1 g2 : am_H, (∀ x i, x ≠ 601 → g0 x i = h1 x i) → KPS g0 g1 → ((∀ x i, ¬ (x = 572 ∧ (i = 0 ∨ (2 ≤ i ∧ i < 22))) → g2 x i = g1 x i) ∧ g2 572 0 = iPop (lay r0 k 0) ∧ nr g2 572 2 = rw2 (xta r0 k)) → K (some (mB (iPop (lay r0 k 0)))) g2) : ∀ i, ∀ g : am_H, 0 ≤ i → i ≤ 20 → (∀ x i, x ≠ 601 → g x i = h1 x i) → (∀ y, 0 ≤ y → y < i → g 601 y = mkb (xta r0 k y)) → am_AT 6 312 37 [some (mR 1 12 0 571), none, some (mI (lay r0 k 0)), some (mI (iPop (lay r0 k 0))), some (mI i), none] g K := by
  have sl := S20_lay (r := r0) k 0
  have p20 := iPop_le20 sl
  refine lp 20 (fun i ih g i0 i1 F G => ?_)
  have e2 : g 571 2 = h1 571 2 := F _ _ (by omega)
  refine T312_37 ⟨by omega, ⟨fun c1 => ⟨by omega, fun h' q2 => ⟨by unfold R32; omega, ?_⟩⟩, fun c1 => ⟨by omega, ?_⟩⟩⟩
  · have e6 : ∀ y, 0 ≤ y → y < 20 → am_up h' 572 0 (iPop (lay r0 k 0)) 601 y = mkb (xta r0 k y) := fun y a b => by
      rw [am_up_n2 (by omega), q2.1 _ _ (by omega) (by omega)]; exact G y a (by omega)
    refine L312c (h1 := h1) (g1 := am_up h' 572 0 (iPop (lay r0 k 0))) (by unfold R32; omega) (fun g2 G2 => ?_) (fun a b w => by have := w.1.1; omega) e6 0 _ (by omega) (by omega) ⟨fun _ _ _ => rfl, am_up_eq, fun y a b => by omega⟩
    exact hK g h' g2 F q2 ⟨fun x i a => by rw [G2.1 x i a, am_up_n2 (by omega)], G2.2⟩
  · refine L312b hN hC e0 er ⟨i0, c1⟩ (fun g' F' G' => ih c1 g' (by omega) (by omega) F' G') 0 _ (by omega) p20.1 (fun x y z => by rw [am_up_ne z]; exact F x y z) (fun y a b => by rw [am_up_n2 (by omega)]; exact G y a b) ?_
    rw [am_up_eq]
    exact mkb_eq (by omega) (fun b => ⟨fun w => absurd w bt_zero, fun w => by have := w.2.1; omega⟩)
theorem C312_ok : am_CS 6 312 C312 := W312 (fun k h K hb => by
  obtain ⟨⟨H, ha⟩, hK⟩ := hb
  have hN := H.1
  have hC := H.2.1
  refine T312_0 ⟨H, fun h' q1 => ⟨fun c2 => ⟨fun c3 => ⟨⟨LD_a q1, by have e := q1.2.2.1; have := np_0 hN c2.1 c2.2; omega⟩, ⟨by have := mkb_c (rc (RA (nr h' 572 2) (fun x => ¬ (x = k ↔ ((0 : Int) = 1)))) 0); omega, ?_⟩⟩, fun c3 => ?_⟩, fun c2 => ?_⟩⟩
  · have k1 : h' 571 2 = h 571 2 := q1.1 _ _ (by omega) (by omega)
    have h0 := np_0 hN c2.1 c2.2
    rw [RA_0, q1.2.1]
    show am_AT _ 312 37 [some (mR 1 12 0 571), none, some (mI (lay (nr h 572 2) k 0)), some (mI (iPop (lay (nr h 572 2) k 0))), some (mI 0), none] h' K
    rw [k1] at c3
    have nc : ¬ 20 ≤ h 571 2 := by omega
    refine L312 hN hC h0 q1.2.1 (by rw [k1]; omega) (fun g0 g1 g2 F P G => ?_) 0 h' (by omega) (by omega) (fun _ _ _ => rfl) (fun y a b => by omega)
    have p20 := iPop_le20 (S20_lay (r := nr h 572 2) k 0)
    have ax : ∀ a b, ad (rw2 (xta (nr h 572 2) k)) a b ↔ xta (nr h 572 2) k a b := ad_rw2 (fun a b w => by have := w.1.2; omega)
    have hNx : NT (iPop (lay (nr h 572 2) k 0)) (rw2 (xta (nr h 572 2) k)) := XT_nt hN p20 ax
    have q0 : RQ h g0 := RQ_fr (LD_q q1) (fun x i a => F x i (by unfold PR at a; omega))
    have R2 : RIv g2 := by
      refine RIv_new ?_ ?_ ?_
      · rw [G.2.1, G.2.2]; exact hNx
      · rw [G.2.1, G.2.2]; exact CN_xt hN h0
      · rw [G.1 _ _ (by omega)]; exact (KPS_n P).2.2
    refine am_rB (hK g2 ⟨fun _ => RAh_mk q0 P G.1 G.2.1 G.2.2 (RQ_rf R2), fun z => absurd ⟨c2, nc⟩ z⟩) ?_
    rw [ifc_t c2, ifc_f nc]
  · have k1 : h' 571 2 = h 571 2 := q1.1 _ _ (by omega) (by omega)
    rw [k1] at c3
    exact am_rB (hK h' ⟨fun z => absurd (by omega) z.2, fun _ => LD_q q1⟩) (by rw [ifc_t c2, ifc_t (by omega)])
  · exact am_rB (hK h' ⟨fun z => absurd z.1 c2, fun _ => LD_q q1⟩) (ifc_f c2))
/-! 313 FactorNetsModel.image -/
def C313 : am_K := fun as h K => am_a2 as (fun v0 v1 => am_oc 12 571 v0 (am_n v1 (fun k => (RIv h ∧ (0 ≤ h 571 2 ∧ h 571 2 ≤ 20)) ∧ (∀ (h' : am_H), (((0 ≤ k ∧ k < 3) ∧ 0 < (h 572 0)) → RAi h h' k) ∧ (¬ ((0 ≤ k ∧ k < 3) ∧ 0 < (h 572 0)) → h' = h) → K (some (mB (ifc ((0 ≤ k ∧ k < 3) ∧ 0 < (h 572 0)) 0 (-2)))) (h')))))
theorem W313 {d : Nat} (H : ∀ (k : Int) (h : am_H) (K : Option am_V → am_H → Prop), (RIv h ∧ (0 ≤ h 571 2 ∧ h 571 2 ≤ 20)) ∧ (∀ (h' : am_H), (((0 ≤ k ∧ k < 3) ∧ 0 < (h 572 0)) → RAi h h' k) ∧ (¬ ((0 ≤ k ∧ k < 3) ∧ 0 < (h 572 0)) → h' = h) → K (some (mB (ifc ((0 ≤ k ∧ k < 3) ∧ 0 < (h 572 0)) 0 (-2)))) (h')) → am_AT d 313 0 [some (mR 1 12 0 571), some (mB k), none] h K) : am_CS d 313 C313 := by
  refine am_CS_of (T := tb313) (mL := 3) (rk := 1) rfl (fun as h K hC => ?_)
  obtain ⟨v0, v1, rfl, hC0⟩ := am_a2_e hC
  obtain ⟨e0, hC1⟩ := am_oc_e hC0
  subst e0
  obtain ⟨k, rfl, hC2⟩ := am_n_e hC1
  refine ⟨Nat.le_of_ble_eq_true rfl, ?_⟩
  exact H k h K hC2
theorem T313_0 {R : Option am_V → am_H → Prop} {h : am_H} {k : Int} (t : ((¬ (0 < h 572 0)) → (R (some (mB (-2))) h)) ∧ ((0 < h 572 0) → ((((0 : Int) ≤ k ∧ k ≤ (2 : Int)) → (am_AT 2 313 24 [some (mR 1 12 0 571), some (mB k), some (mI 0)] h R)) ∧ ((¬ ((0 : Int) ≤ k ∧ k ≤ (2 : Int))) → (R (some (mB (-2))) h))))) : am_AT 2 313 0 [some (mR 1 12 0 571), some (mB k), none] h R :=
  am_T (d := 1) (m := 313) (T := tb313) (mL := 3) (rk := 1) (cuts := [(24, [1, 1, 2]), (55, [1, 1, 2])]) (l := [(187, C187), (209, C209)]) rfl ⟨am_CS_d (by decide) C187_ok, am_CS_d (by decide) C209_ok, trivial⟩ 15 (And.intro (rfl) (And.intro (fun c27 => (t).1 c27) (fun c27 => And.intro (fun c28 => ((t).2 c27).1 c28) (fun c28 => ((t).2 c27).2 c28))))
theorem T313_24 {R : Option am_V → am_H → Prop} {h : am_H} {k : Int} {x2 : Int} (t : (R32 x2) ∧ (((22 ≤ x2) → (am_AT 2 313 55 [some (mR 1 12 0 571), some (mB k), some (mI 0)] h R)) ∧ ((x2 < 22) → ((0 ≤ x2 ∧ x2 < 22) ∧ ((0 ≤ (22 * k) + x2 ∧ (22 * k) + x2 < 66) ∧ (am_AT 2 313 24 [some (mR 1 12 0 571), some (mB k), some (mI (x2 + 1))] (am_up h 575 ((22 * k) + x2) (h 572 x2)) R)))))) : am_AT 2 313 24 [some (mR 1 12 0 571), some (mB k), some (mI x2)] h R :=
  am_T (d := 1) (m := 313) (T := tb313) (mL := 3) (rk := 1) (cuts := [(24, [1, 1, 2]), (55, [1, 1, 2])]) (l := [(187, C187), (209, C209)]) rfl ⟨am_CS_d (by decide) C187_ok, am_CS_d (by decide) C209_ok, trivial⟩ 21 (And.intro (t).1 (And.intro (fun c29 => ((t).2).1 c29) (fun c29 => And.intro (((t).2).2 c29).1 (And.intro ((((t).2).2 c29).2).1 (((((t).2).2 c29).2).2)))))
theorem T313_55 {R : Option am_V → am_H → Prop} {h : am_H} {k : Int} {x2 : Int} (t : (R32 x2) ∧ ((R32 (22 * (h 571 2))) ∧ (((22 * (h 571 2) ≤ x2) → ((0 ≤ k ∧ k < 3) ∧ ((0 ≤ k ∧ k < 3) ∧ (R (some (mB 0)) (am_up (am_up h 576 k (h 571 2)) 578 k 1))))) ∧ ((x2 < 22 * (h 571 2)) → ((0 ≤ x2 ∧ x2 < 440) ∧ ((0 ≤ (440 * k) + x2 ∧ (440 * k) + x2 < 1320) ∧ (am_AT 2 313 55 [some (mR 1 12 0 571), some (mB k), some (mI (x2 + 1))] (am_up h 577 ((440 * k) + x2) (h 574 x2)) R))))))) : am_AT 2 313 55 [some (mR 1 12 0 571), some (mB k), some (mI x2)] h R :=
  am_T (d := 1) (m := 313) (T := tb313) (mL := 3) (rk := 1) (cuts := [(24, [1, 1, 2]), (55, [1, 1, 2])]) (l := [(187, C187), (209, C209)]) rfl ⟨am_CS_d (by decide) C187_ok, am_CS_d (by decide) C209_ok, trivial⟩ 24 (And.intro (t).1 (And.intro ((t).2).1 (And.intro (fun c30 => And.intro ((((t).2).2).1 c30).1 (And.intro (((((t).2).2).1 c30).2).1 (And.intro (Or.inr rfl) ((((((t).2).2).1 c30).2).2)))) (fun c30 => And.intro ((((t).2).2).2 c30).1 (And.intro (((((t).2).2).2 c30).2).1 ((((((t).2).2).2 c30).2).2))))))
theorem L313b {K : Option am_V → am_H → Prop} {h : am_H} {k : Int} (hk : 0 ≤ k ∧ k < 3) (ha : 0 ≤ h 571 2 ∧ h 571 2 ≤ 20) (hK : ∀ g, RAi h g k → K (some (mB 0)) g) : ∀ i, ∀ g : am_H, 0 ≤ i → i ≤ 22 * h 571 2 → ((∀ x i, ¬ (x = 575 ∨ x = 577) → g x i = h x i) ∧ ((∀ i, ¬ (22 * k ≤ i ∧ i < 22 * k + 22) → g 575 i = h 575 i) ∧ ∀ i, ¬ (440 * k ≤ i ∧ i < 440 * k + 440) → g 577 i = h 577 i) ∧ (∀ y, 0 ≤ y → y < 22 → g 575 (22 * k + y) = h 572 y) ∧ ∀ y, 0 ≤ y → y < i → g 577 (440 * k + y) = h 574 y) → am_AT 2 313 55 [some (mR 1 12 0 571), some (mB k), some (mI i)] g K := by
  refine lp (22 * h 571 2) (fun i ih g i0 i1 G => ?_)
  have e : g 571 2 = h 571 2 := G.1 _ _ (by omega)
  have e4 : g 574 i = h 574 i := G.1 _ _ (by omega)
  refine T313_55 ⟨by omega, ⟨by omega, ⟨fun c1 => ⟨by omega, ⟨by omega, ?_⟩⟩, fun c1 => ⟨by omega, ⟨by omega, ?_⟩⟩⟩⟩⟩
  · rw [e]
    refine hK _ ⟨fun x j a => by rw [am_up_n2 (by omega), am_up_n2 (by omega)]; exact G.1 x j (by omega), ⟨fun j a => by rw [am_up_n2 (by omega), am_up_n2 (by omega)]; exact G.2.1.1 j a, fun j a => ⟨by rw [am_up_n2 (by omega), am_up_n2 (by omega)]; exact G.1 _ _ (by omega), by rw [am_up_n2 (by omega), am_up_n2 (by omega)]; exact G.1 _ _ (by omega)⟩, fun j a => by rw [am_up_n2 (by omega), am_up_n2 (by omega)]; exact G.2.1.2 j a⟩, fun y a b => by rw [am_up_n2 (by omega), am_up_n2 (by omega)]; exact G.2.2.1 y a b, ⟨by rw [am_up_n2 (by omega), am_up_eq], am_up_eq⟩, fun y a b => by rw [am_up_n2 (by omega), am_up_n2 (by omega)]; exact G.2.2.2 y a (by omega)⟩
  · rw [e4]
    refine ih (by omega) _ (by omega) (by omega) ⟨fun x j a => by rw [am_up_n2 (by omega)]; exact G.1 x j a, ⟨fun j a => by rw [am_up_n2 (by omega)]; exact G.2.1.1 j a, fun j a => by rw [am_up_n2 (by omega)]; exact G.2.1.2 j a⟩, fun y a b => by rw [am_up_n2 (by omega)]; exact G.2.2.1 y a b, fun y a b => ?_⟩
    by_cases w : y = i
    · rw [w, am_up_eq]
    · rw [am_up_n2 (by omega)]; exact G.2.2.2 y a (by omega)
theorem L313 {K : Option am_V → am_H → Prop} {h : am_H} {k : Int} (hk : 0 ≤ k ∧ k < 3) (ha : 0 ≤ h 571 2 ∧ h 571 2 ≤ 20) (hK : ∀ g, RAi h g k → K (some (mB 0)) g) : ∀ i, ∀ g : am_H, 0 ≤ i → i ≤ 22 → ((∀ x i, ¬ (x = 575 ∨ x = 577) → g x i = h x i) ∧ ((∀ i, ¬ (22 * k ≤ i ∧ i < 22 * k + 22) → g 575 i = h 575 i) ∧ ∀ i, ¬ (440 * k ≤ i ∧ i < 440 * k + 440) → g 577 i = h 577 i) ∧ ∀ y, 0 ≤ y → y < i → g 575 (22 * k + y) = h 572 y) → am_AT 2 313 24 [some (mR 1 12 0 571), some (mB k), some (mI i)] g K := by
  refine lp 22 (fun i ih g i0 i1 G => ?_)
  have e4 : g 572 i = h 572 i := G.1 _ _ (by omega)
  refine T313_24 ⟨by omega, ⟨fun c1 => ?_, fun c1 => ⟨by omega, ⟨by omega, ?_⟩⟩⟩⟩
  · exact L313b hk ha hK 0 g (by omega) (by omega) ⟨G.1, G.2.1, fun y a b => G.2.2 y a (by omega), fun y a b => by omega⟩
  · rw [e4]
    refine ih c1 _ (by omega) (by omega) ⟨fun x j a => by rw [am_up_n2 (by omega)]; exact G.1 x j a, ⟨fun j a => by rw [am_up_n2 (by omega)]; exact G.2.1.1 j a, fun j a => by rw [am_up_n2 (by omega)]; exact G.2.1.2 j a⟩, fun y a b => ?_⟩
    by_cases w : y = i
    · rw [w, am_up_eq]
    · rw [am_up_n2 (by omega)]; exact G.2.2 y a (by omega)
theorem C313_ok : am_CS 2 313 C313 := W313 (fun k h K hb => by
  obtain ⟨⟨H, ha⟩, hK⟩ := hb
  refine T313_0 ⟨fun c1 => ?_, fun c1 => ⟨fun c2 => ?_, fun c2 => ?_⟩⟩
  · exact am_rB (hK h ⟨fun z => absurd z (fun w => c1 w.2), fun _ => rfl⟩) (ifc_f (fun w => c1 w.2))
  · exact L313 (by omega) ha (fun g G => am_rB (hK g ⟨fun _ => G, fun z => absurd ⟨by omega, c1⟩ z⟩) (ifc_t ⟨by omega, c1⟩)) 0 h (by omega) (by omega) ⟨fun _ _ _ => rfl, ⟨fun _ _ => rfl, fun _ _ => rfl⟩, fun y a b => by omega⟩
  · exact am_rB (hK h ⟨fun z => absurd z (fun w => by have := w.1; omega), fun _ => rfl⟩) (ifc_f (fun w => by have := w.1; omega)))
/-! 314 FactorNetsModel.back -/
def C314 : am_K := fun as h K => am_a2 as (fun v0 v1 => am_oc 12 571 v0 (am_n v1 (fun k => (RIv h ∧ (0 ≤ h 571 2 ∧ h 571 2 ≤ 20) ∧ (∀ k9, 0 ≤ k9 → k9 < 3 → ¬ h 578 k9 = 0 → (0 ≤ h 576 k9 ∧ h 576 k9 ≤ 20) ∧ NT (h 575 (22 * k9)) (nr h 575 (22 * k9 + 2)) ∧ CN (h 575 (22 * k9)) (nr h 575 (22 * k9 + 2)))) ∧ (∀ (h' : am_H), (((0 ≤ k ∧ k < 3) ∧ ¬ h 578 k = 0) → RAb h h' k) ∧ (¬ ((0 ≤ k ∧ k < 3) ∧ ¬ h 578 k = 0) → h' = h) → K (some (mB (ifc (0 ≤ k ∧ k < 3) (ifc (h 578 k = 0) (-6) 0) (-2)))) (h')))))
theorem W314 {d : Nat} (H : ∀ (k : Int) (h : am_H) (K : Option am_V → am_H → Prop), (RIv h ∧ (0 ≤ h 571 2 ∧ h 571 2 ≤ 20) ∧ (∀ k9, 0 ≤ k9 → k9 < 3 → ¬ h 578 k9 = 0 → (0 ≤ h 576 k9 ∧ h 576 k9 ≤ 20) ∧ NT (h 575 (22 * k9)) (nr h 575 (22 * k9 + 2)) ∧ CN (h 575 (22 * k9)) (nr h 575 (22 * k9 + 2)))) ∧ (∀ (h' : am_H), (((0 ≤ k ∧ k < 3) ∧ ¬ h 578 k = 0) → RAb h h' k) ∧ (¬ ((0 ≤ k ∧ k < 3) ∧ ¬ h 578 k = 0) → h' = h) → K (some (mB (ifc (0 ≤ k ∧ k < 3) (ifc (h 578 k = 0) (-6) 0) (-2)))) (h')) → am_AT d 314 0 [some (mR 1 12 0 571), some (mB k), none] h K) : am_CS d 314 C314 := by
  refine am_CS_of (T := tb314) (mL := 3) (rk := 1) rfl (fun as h K hC => ?_)
  obtain ⟨v0, v1, rfl, hC0⟩ := am_a2_e hC
  obtain ⟨e0, hC1⟩ := am_oc_e hC0
  subst e0
  obtain ⟨k, rfl, hC2⟩ := am_n_e hC1
  refine ⟨Nat.le_of_ble_eq_true rfl, ?_⟩
  exact H k h K hC2
theorem T314_0 {R : Option am_V → am_H → Prop} {h : am_H} {k : Int} (t : (((0 : Int) ≤ k ∧ k ≤ (2 : Int)) → ((0 ≤ k ∧ k < 3) ∧ (((¬ h 578 k = 0) → (am_AT 2 314 29 [some (mR 1 12 0 571), some (mB k), some (mI 0)] h R)) ∧ ((h 578 k = 0) → (R (some (mB (-6))) h))))) ∧ ((¬ ((0 : Int) ≤ k ∧ k ≤ (2 : Int))) → (R (some (mB (-2))) h))) : am_AT 2 314 0 [some (mR 1 12 0 571), some (mB k), none] h R :=
  am_T (d := 1) (m := 314) (T := tb314) (mL := 3) (rk := 1) (cuts := [(29, [1, 1, 2]), (70, [1, 1, 2])]) (l := [(187, C187)]) rfl ⟨am_CS_d (by decide) C187_ok, trivial⟩ 17 (And.intro (fun c31 => And.intro ((t).1 c31).1 (And.intro (fun c32 => (((t).1 c31).2).1 c32) (fun c32 => (((t).1 c31).2).2 c32))) (fun c31 => (t).2 c31))
theorem T314_29 {R : Option am_V → am_H → Prop} {h : am_H} {k : Int} {x2 : Int} (t : (R32 x2) ∧ (((22 ≤ x2) → ((0 ≤ k ∧ k < 3) ∧ (am_AT 2 314 70 [some (mR 1 12 0 571), some (mB k), some (mI 0)] (am_up h 571 2 (h 576 k)) R))) ∧ ((x2 < 22) → ((0 ≤ (22 * k) + x2 ∧ (22 * k) + x2 < 66) ∧ ((0 ≤ x2 ∧ x2 < 22) ∧ (am_AT 2 314 29 [some (mR 1 12 0 571), some (mB k), some (mI (x2 + 1))] (am_up h 572 x2 (h 575 ((22 * k) + x2))) R)))))) : am_AT 2 314 29 [some (mR 1 12 0 571), some (mB k), some (mI x2)] h R :=
  am_T (d := 1) (m := 314) (T := tb314) (mL := 3) (rk := 1) (cuts := [(29, [1, 1, 2]), (70, [1, 1, 2])]) (l := [(187, C187)]) rfl ⟨am_CS_d (by decide) C187_ok, trivial⟩ 21 (And.intro (t).1 (And.intro (fun c33 => And.intro (((t).2).1 c33).1 ((((t).2).1 c33).2)) (fun c33 => And.intro (((t).2).2 c33).1 (And.intro ((((t).2).2 c33).2).1 (((((t).2).2 c33).2).2)))))
theorem T314_70 {R : Option am_V → am_H → Prop} {h : am_H} {k : Int} {x2 : Int} (t : (R32 x2) ∧ ((R32 (22 * (h 571 2))) ∧ (((22 * (h 571 2) ≤ x2) → (R (some (mB 0)) (am_up h 571 17 0))) ∧ ((x2 < 22 * (h 571 2)) → ((0 ≤ (440 * k) + x2 ∧ (440 * k) + x2 < 1320) ∧ ((0 ≤ x2 ∧ x2 < 440) ∧ (am_AT 2 314 70 [some (mR 1 12 0 571), some (mB k), some (mI (x2 + 1))] (am_up h 574 x2 (h 577 ((440 * k) + x2))) R))))))) : am_AT 2 314 70 [some (mR 1 12 0 571), some (mB k), some (mI x2)] h R :=
  am_T (d := 1) (m := 314) (T := tb314) (mL := 3) (rk := 1) (cuts := [(29, [1, 1, 2]), (70, [1, 1, 2])]) (l := [(187, C187)]) rfl ⟨am_CS_d (by decide) C187_ok, trivial⟩ 24 (And.intro (t).1 (And.intro ((t).2).1 (And.intro (fun c34 => And.intro (Or.inl rfl) ((((t).2).2).1 c34)) (fun c34 => And.intro ((((t).2).2).2 c34).1 (And.intro (((((t).2).2).2 c34).2).1 ((((((t).2).2).2 c34).2).2))))))
theorem L314b {K : Option am_V → am_H → Prop} {h : am_H} {k : Int} (hk : 0 ≤ k ∧ k < 3) (ha : 0 ≤ h 576 k ∧ h 576 k ≤ 20) (hK : ∀ g, RAb h g k → K (some (mB 0)) g) (hN : NT (h 575 (22 * k)) (nr h 575 (22 * k + 2))) (hC : CN (h 575 (22 * k)) (nr h 575 (22 * k + 2))) : ∀ i, ∀ g : am_H, 0 ≤ i → i ≤ 22 * h 576 k → ((∀ x i, ¬ (x = 572 ∧ 0 ≤ i ∧ i < 22) → ¬ (x = 571 ∧ i = 2) → x ≠ 574 → g x i = h x i) ∧ (∀ y, 0 ≤ y → y < 22 → g 572 y = h 575 (22 * k + y)) ∧ g 571 2 = h 576 k ∧ ∀ y, 0 ≤ y → y < i → g 574 y = h 577 (440 * k + y)) → am_AT 2 314 70 [some (mR 1 12 0 571), some (mB k), some (mI i)] g K := by
  refine lp (22 * h 576 k) (fun i ih g i0 i1 G => ?_)
  have e := G.2.2.1
  have e4 : g 577 (440 * k + i) = h 577 (440 * k + i) := G.1 _ _ (by omega) (by omega) (by omega)
  refine T314_70 ⟨by omega, ⟨by omega, ⟨fun c1 => ?_, fun c1 => ⟨by omega, ⟨by omega, ?_⟩⟩⟩⟩⟩
  · have e0 : am_up g 571 17 0 572 0 = h 575 (22 * k) := by
      rw [am_up_n2 (by omega)]
      have := G.2.1 0 (by omega) (by omega)
      rw [Int.add_zero] at this
      exact this
    have e1 : nr (am_up g 571 17 0) 572 2 = nr h 575 (22 * k + 2) := nr_cg (fun y a b => by
      rw [am_up_n2 (by omega), G.2.1 (2 + y) (by omega) (by omega), show 22 * k + (2 + y) = 22 * k + 2 + y by omega])
    refine hK _ ⟨fun x j a => by rw [am_up_n2 (by omega)]; exact G.1 x j (by omega) (by omega) (by omega), fun y a b => by rw [am_up_n2 (by omega)]; exact G.2.1 y a b, by rw [am_up_n2 (by omega)]; exact e, fun y a b => by rw [am_up_n2 (by omega)]; exact G.2.2.2 y a (by omega), RIv_new ?_ ?_ am_up_eq⟩
    · rw [e0, e1]; exact hN
    · rw [e0, e1]; exact hC
  · rw [e4]
    refine ih (by omega) _ (by omega) (by omega) ⟨fun x j a b c => by rw [am_up_n2 (by omega)]; exact G.1 x j a b c, fun y a b => by rw [am_up_n2 (by omega)]; exact G.2.1 y a b, by rw [am_up_n2 (by omega)]; exact e, fun y a b => ?_⟩
    by_cases w : y = i
    · rw [w, am_up_eq]
    · rw [am_up_n2 (by omega)]; exact G.2.2.2 y a (by omega)
theorem L314 {K : Option am_V → am_H → Prop} {h : am_H} {k : Int} (hk : 0 ≤ k ∧ k < 3) (ha : 0 ≤ h 576 k ∧ h 576 k ≤ 20) (hK : ∀ g, RAb h g k → K (some (mB 0)) g) (hN : NT (h 575 (22 * k)) (nr h 575 (22 * k + 2))) (hC : CN (h 575 (22 * k)) (nr h 575 (22 * k + 2))) : ∀ i, ∀ g : am_H, 0 ≤ i → i ≤ 22 → ((∀ x i, ¬ (x = 572 ∧ 0 ≤ i ∧ i < 22) → g x i = h x i) ∧ (∀ y, 0 ≤ y → y < i → g 572 y = h 575 (22 * k + y))) → am_AT 2 314 29 [some (mR 1 12 0 571), some (mB k), some (mI i)] g K := by
  refine lp 22 (fun i ih g i0 i1 G => ?_)
  have e4 : g 575 (22 * k + i) = h 575 (22 * k + i) := G.1 _ _ (by omega)
  have e5 : g 576 k = h 576 k := G.1 _ _ (by omega)
  refine T314_29 ⟨by omega, ⟨fun c1 => ⟨by omega, ?_⟩, fun c1 => ⟨by omega, ⟨by omega, ?_⟩⟩⟩⟩
  · exact L314b hk ha hK hN hC 0 _ (by omega) (by omega) ⟨fun x j a b c => by rw [am_up_n2 (by omega)]; exact G.1 x j a, fun y a b => by rw [am_up_n2 (by omega)]; exact G.2 y a (by omega), by rw [am_up_eq]; exact e5, fun y a b => by omega⟩
  · rw [e4]
    refine ih c1 _ (by omega) (by omega) ⟨fun x j a => by rw [am_up_n2 (by omega)]; exact G.1 x j a, fun y a b => ?_⟩
    by_cases w : y = i
    · rw [w, am_up_eq]
    · rw [am_up_n2 (by omega)]; exact G.2 y a (by omega)
theorem C314_ok : am_CS 2 314 C314 := W314 (fun k h K hb => by
  obtain ⟨⟨H, ha, hI⟩, hK⟩ := hb
  refine T314_0 ⟨fun c1 => ⟨by omega, ⟨fun c2 => ?_, fun c2 => ?_⟩⟩, fun c1 => ?_⟩
  · have I := hI k c1.1 (by omega) c2
    exact L314 (by omega) I.1 (fun g G => am_rB (hK g ⟨fun _ => G, fun z => absurd ⟨by omega, c2⟩ z⟩) (by rw [ifc_t (by omega), ifc_f c2])) I.2.1 I.2.2 0 h (by omega) (by omega) ⟨fun _ _ _ => rfl, fun y a b => by omega⟩
  · exact am_rB (hK h ⟨fun z => absurd z (fun w => w.2 c2), fun _ => rfl⟩) (by rw [ifc_t (by omega), ifc_t c2])
  · exact am_rB (hK h ⟨fun z => absurd z (fun w => by have := w.1; omega), fun _ => rfl⟩) (ifc_f (fun w => by omega)))
theorem RAu_mk {h g : am_H} {m : Int} (t : NT (h 574 (22 * m)) (nr h 574 (22 * m + 2)) ∧ CN (h 574 (22 * m)) (nr h 574 (22 * m + 2))) (P : GBK h g m) : RAu h g m := by
  have e0 : g 572 0 = h 574 (22 * m) := by
    have := P.2.2 0 (by omega) (by omega)
    rw [Int.add_zero] at this
    exact this
  have e1 : nr g 572 2 = nr h 574 (22 * m + 2) := nr_cg (fun y a b => by
    rw [P.2.2 (2 + y) (by omega) (by omega), show 22 * m + (2 + y) = 22 * m + 2 + y by omega])
  refine ⟨fun x i a => P.1 x i (by omega) (by omega), P.2.1.1, P.2.2, RIv_new ?_ ?_ P.2.1.2⟩
  · rw [e0, e1]; exact t.1
  · rw [e0, e1]; exact t.2
/-! 315 FactorNetsModel.undo -/
def C315 : am_K := fun as h K => am_a1 as (fun v0 => am_oc 12 571 v0 ((RIv h ∧ (0 ≤ h 571 2 ∧ h 571 2 ≤ 20) ∧ (∀ i9, 0 ≤ i9 → i9 < h 571 2 → NT (h 574 (22 * i9)) (nr h 574 (22 * i9 + 2)) ∧ CN (h 574 (22 * i9)) (nr h 574 (22 * i9 + 2)))) ∧ (∀ (h' : am_H), ((0 < (h 572 0) ∧ ¬ h 571 2 = 0) → RAu h h' (h 571 2 - 1)) ∧ (¬ (0 < (h 572 0) ∧ ¬ h 571 2 = 0) → h' = h) → K (some (mB (ifc (0 < (h 572 0)) (ifc (h 571 2 = 0) (-5) (h 571 2 - 1)) (-2)))) (h'))))
theorem W315 {d : Nat} (H : ∀  (h : am_H) (K : Option am_V → am_H → Prop), (RIv h ∧ (0 ≤ h 571 2 ∧ h 571 2 ≤ 20) ∧ (∀ i9, 0 ≤ i9 → i9 < h 571 2 → NT (h 574 (22 * i9)) (nr h 574 (22 * i9 + 2)) ∧ CN (h 574 (22 * i9)) (nr h 574 (22 * i9 + 2)))) ∧ (∀ (h' : am_H), ((0 < (h 572 0) ∧ ¬ h 571 2 = 0) → RAu h h' (h 571 2 - 1)) ∧ (¬ (0 < (h 572 0) ∧ ¬ h 571 2 = 0) → h' = h) → K (some (mB (ifc (0 < (h 572 0)) (ifc (h 571 2 = 0) (-5) (h 571 2 - 1)) (-2)))) (h')) → am_AT d 315 0 [some (mR 1 12 0 571)] h K) : am_CS d 315 C315 := by
  refine am_CS_of (T := tb315) (mL := 1) (rk := 1) rfl (fun as h K hC => ?_)
  obtain ⟨v0, rfl, hC0⟩ := am_a1_e hC
  obtain ⟨e0, hC1⟩ := am_oc_e hC0
  subst e0
  refine ⟨Nat.le_of_ble_eq_true rfl, ?_⟩
  exact H  h K hC1
theorem T315_0 {R : Option am_V → am_H → Prop} {h : am_H} (t : ((0 < h 572 0) → (((¬ h 571 2 = 0) → ((R32 ((h 571 2) - 1)) ∧ ((0 ≤ ((h 571 2) - 1) ∧ ((h 571 2) - 1) < 20) ∧ (∀ (h' : am_H), (GBK h h' ((h 571 2) - 1)) → (R (some (mB (h' 571 2))) h'))))) ∧ ((h 571 2 = 0) → (R (some (mB (-5))) h)))) ∧ ((¬ (0 < h 572 0)) → (R (some (mB (-2))) h))) : am_AT 2 315 0 [some (mR 1 12 0 571)] h R :=
  am_T (d := 1) (m := 315) (T := tb315) (mL := 1) (rk := 1) (cuts := []) (l := [(209, C209), (308, C308)]) rfl ⟨am_CS_d (by decide) C209_ok, am_CS_d (by decide) C308_ok, trivial⟩ 19 (And.intro (rfl) (And.intro (fun c35 => And.intro (fun c36 => And.intro (((t).1 c35).1 c36).1 (And.intro (rfl) (And.intro ((((t).1 c35).1 c36).2).1 (fun z15_0 z15_1 => (((((t).1 c35).1 c36).2).2) z15_0 z15_1)))) (fun c36 => ((t).1 c35).2 c36)) (fun c35 => (t).2 c35)))
theorem C315_ok : am_CS 2 315 C315 := W315 (fun h K hb => by
  obtain ⟨⟨H, ha, hS⟩, hK⟩ := hb
  refine T315_0 ⟨fun c1 => ⟨fun c2 => ⟨by omega, ⟨by omega, fun h' q3 => ?_⟩⟩, fun c2 => ?_⟩, fun c1 => ?_⟩
  · refine am_rB (hK h' ⟨fun _ => RAu_mk (hS _ (by omega) (by omega)) q3, fun z => absurd ⟨c1, c2⟩ z⟩) ?_
    rw [ifc_t c1, ifc_f c2, q3.2.1.1]
  · exact am_rB (hK h ⟨fun z => absurd z (fun w => w.2 c2), fun _ => rfl⟩) (by rw [ifc_t c1, ifc_t c2])
  · exact am_rB (hK h ⟨fun z => absurd z (fun w => c1 w.1), fun _ => rfl⟩) (ifc_f c1))
/-! 316 FactorNetsModel.anew -/
def C316 : am_K := fun as h K => am_a1 as (fun v0 => am_oc 12 571 v0 ((RIv h ∧ (0 ≤ h 571 2 ∧ h 571 2 ≤ 20) ∧ (∀ i9, 0 ≤ i9 → i9 < h 571 2 → NT (h 574 (22 * i9)) (nr h 574 (22 * i9 + 2)) ∧ CN (h 574 (22 * i9)) (nr h 574 (22 * i9 + 2)))) ∧ (∀ (h' : am_H), ((0 < (h 572 0) ∧ ¬ h 571 2 = 0) → RAu h h' 0) ∧ (¬ (0 < (h 572 0) ∧ ¬ h 571 2 = 0) → h' = h) → K (some (mB (ifc (0 < (h 572 0)) (h 571 2) (-2)))) (h'))))
theorem W316 {d : Nat} (H : ∀  (h : am_H) (K : Option am_V → am_H → Prop), (RIv h ∧ (0 ≤ h 571 2 ∧ h 571 2 ≤ 20) ∧ (∀ i9, 0 ≤ i9 → i9 < h 571 2 → NT (h 574 (22 * i9)) (nr h 574 (22 * i9 + 2)) ∧ CN (h 574 (22 * i9)) (nr h 574 (22 * i9 + 2)))) ∧ (∀ (h' : am_H), ((0 < (h 572 0) ∧ ¬ h 571 2 = 0) → RAu h h' 0) ∧ (¬ (0 < (h 572 0) ∧ ¬ h 571 2 = 0) → h' = h) → K (some (mB (ifc (0 < (h 572 0)) (h 571 2) (-2)))) (h')) → am_AT d 316 0 [some (mR 1 12 0 571), none] h K) : am_CS d 316 C316 := by
  refine am_CS_of (T := tb316) (mL := 2) (rk := 1) rfl (fun as h K hC => ?_)
  obtain ⟨v0, rfl, hC0⟩ := am_a1_e hC
  obtain ⟨e0, hC1⟩ := am_oc_e hC0
  subst e0
  refine ⟨Nat.le_of_ble_eq_true rfl, ?_⟩
  exact H  h K hC1
theorem T316_0 {R : Option am_V → am_H → Prop} {h : am_H} (t : ((0 < h 572 0) → (((h 571 2 ≤ 0) → (R (some (mB (h 571 2))) h)) ∧ ((0 < h 571 2) → ((0 ≤ (0 : Int) ∧ (0 : Int) < 20) ∧ (∀ (h' : am_H), (GBK h h' (0 : Int)) → (R (some (mB (h 571 2))) h')))))) ∧ ((¬ (0 < h 572 0)) → (R (some (mB (-2))) h))) : am_AT 2 316 0 [some (mR 1 12 0 571), none] h R :=
  am_T (d := 1) (m := 316) (T := tb316) (mL := 2) (rk := 1) (cuts := []) (l := [(209, C209), (308, C308)]) rfl ⟨am_CS_d (by decide) C209_ok, am_CS_d (by decide) C308_ok, trivial⟩ 17 (And.intro (rfl) (And.intro (fun c37 => And.intro (fun c38 => ((t).1 c37).1 c38) (fun c38 => And.intro (rfl) (And.intro (((t).1 c37).2 c38).1 (fun z16_0 z16_1 => ((((t).1 c37).2 c38).2) z16_0 z16_1)))) (fun c37 => (t).2 c37)))
theorem C316_ok : am_CS 2 316 C316 := W316 (fun h K hb => by
  obtain ⟨⟨H, ha, hS⟩, hK⟩ := hb
  refine T316_0 ⟨fun c1 => ⟨fun c2 => ?_, fun c2 => ⟨by omega, fun h' q3 => ?_⟩⟩, fun c1 => ?_⟩
  · exact am_rB (hK h ⟨fun z => absurd z (fun w => by have := w.2; omega), fun _ => rfl⟩) (ifc_t c1)
  · exact am_rB (hK h' ⟨fun _ => RAu_mk (hS _ (by omega) (by omega)) q3, fun z => absurd ⟨c1, by omega⟩ z⟩) (ifc_t c1)
  · exact am_rB (hK h ⟨fun z => absurd z (fun w => c1 w.1), fun _ => rfl⟩) (ifc_f c1))
