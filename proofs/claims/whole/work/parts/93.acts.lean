/-! ===== acts of the class ===== -/
def fgc (g : am_H) : am_H := am_up (am_up (am_up (am_up (am_up (am_up g 5 4 0) 5 5 0) 5 6 0) 0 16 0) 0 17 0) 0 18 (-2)
theorem fgc_ne {g : am_H} {x i : Int} (a : ¬ (x = 5 ∧ (i = 4 ∨ i = 5 ∨ i = 6))) (b : ¬ (x = 0 ∧ (i = 16 ∨ i = 17 ∨ i = 18))) : fgc g x i = g x i := by
  unfold fgc
  rw [am_up_n2 (by omega), am_up_n2 (by omega), am_up_n2 (by omega), am_up_n2 (by omega), am_up_n2 (by omega), am_up_n2 (by omega)]
theorem fgc_f (g : am_H) : (fgc g 5 4 = 0 ∧ fgc g 5 5 = 0 ∧ fgc g 5 6 = 0) ∧ (fgc g 0 16 = 0 ∧ fgc g 0 17 = 0 ∧ fgc g 0 18 = -2) := by
  unfold fgc
  refine ⟨⟨?_, ?_, ?_⟩, ?_, ?_, am_up_eq⟩
  · rw [am_up_n2 (by omega), am_up_n2 (by omega), am_up_n2 (by omega), am_up_n2 (by omega), am_up_n2 (by omega), am_up_eq]
  · rw [am_up_n2 (by omega), am_up_n2 (by omega), am_up_n2 (by omega), am_up_n2 (by omega), am_up_eq]
  · rw [am_up_n2 (by omega), am_up_n2 (by omega), am_up_n2 (by omega), am_up_eq]
  · rw [am_up_n2 (by omega), am_up_n2 (by omega), am_up_eq]
  · rw [am_up_n2 (by omega), am_up_eq]
def FRS (g : am_H) : Prop := ((g 5 4 = 0 ∧ g 5 5 = 0 ∧ g 5 6 = 0) ∧ (g 0 16 = 0 ∧ g 0 17 = 0 ∧ g 0 18 = -2)) ∧ OT g ∧ NT (g 6 0) (nr g 7 0) ∧ CN (g 6 0) (nr g 7 0)
def CKp (h : am_H) (x i : Int) : Prop := (1 ≤ x ∧ x ≤ 4) ∨ (x = 0 ∧ i = 15) ∨ 498 ≤ x ∨ (x = 171 ∧ i = 0) ∨ (x = 172 ∧ i < h 171 1) ∨ (174 ≤ x ∧ x < 174 + h 171 1)
def ACh (h g : am_H) (n' : Int) (r' : Int → Int) : Prop := (∀ x i, CKp h x i → g x i = h x i) ∧ (g 171 1 = h 171 1 + 1 ∧ g 172 (h 171 1) = h 6 0 ∧ nr g (174 + h 171 1) 0 = nr h 7 0) ∧ (g 6 0 = n' ∧ nr g 7 0 = r') ∧ FRS g
def STG (h : am_H) (o m : Int) : Prop := ∀ i, 0 ≤ i → i < m → NT (h (o + 1) i) (nr h (o + 3 + i) 0) ∧ CN (h (o + 1) i) (nr h (o + 3 + i) 0)
def ACu (h g : am_H) (m : Int) : Prop := (∀ x i, CKp h x i → g x i = h x i) ∧ g 171 1 = m ∧ (g 6 0 = h 172 m ∧ nr g 7 0 = nr h (174 + m) 0) ∧ FRS g
def ACi (h g : am_H) (k : Int) : Prop := (∀ x i, ¬ (am_pa k ≤ x ∧ x ≤ am_pa k + 23) → g x i = h x i) ∧ (g (am_pa k) 0 = h 171 0 ∧ g (am_pa k) 1 = h 171 1 + 1) ∧ (∀ i, 0 ≤ i → i < h 171 1 → g (am_pa k + 1) i = h 172 i ∧ nr g (am_pa k + 3 + i) 0 = nr h (174 + i) 0) ∧ g (am_pa k + 1) (h 171 1) = h 6 0 ∧ nr g (am_pa k + 3 + h 171 1) 0 = nr h 7 0
def ACb (h g : am_H) (k : Int) : Prop := (∀ x i, ((1 ≤ x ∧ x ≤ 4) ∨ (x = 0 ∧ i = 15) ∨ 498 ≤ x) → g x i = h x i) ∧ (g 171 0 = h (am_pa k) 0 ∧ g 171 1 = h (am_pa k) 1 - 1) ∧ (∀ i, 0 ≤ i → i < h (am_pa k) 1 - 1 → g 172 i = h (am_pa k + 1) i ∧ nr g (174 + i) 0 = nr h (am_pa k + 3 + i) 0) ∧ (g 6 0 = h (am_pa k + 1) (h (am_pa k) 1 - 1) ∧ nr g 7 0 = nr h (am_pa k + 3 + (h (am_pa k) 1 - 1)) 0) ∧ FRS g
theorem FRS_of {g : am_H} (ho : OT g) (hN : NT (g 6 0) (nr g 7 0)) (hC : CN (g 6 0) (nr g 7 0)) : FRS (fgc g) := by
  have e1 : nr (fgc g) 7 0 = nr g 7 0 := nr_fr2 (fun i => fgc_ne (by omega) (by omega))
  have e2 : fgc g 6 0 = g 6 0 := fgc_ne (by omega) (by omega)
  refine ⟨fgc_f g, fun p a b => by rw [fgc_ne (by omega) (by omega)]; exact ho p a b, ?_⟩
  rw [e1, e2]
  exact ⟨hN, hC⟩
theorem FRS_PI {g : am_H} (H : FRS g) : PI g := by
  obtain ⟨⟨a, b⟩, c, d, e⟩ := H
  refine ⟨⟨⟨d, e⟩, by omega, fun z => ?_, fun z => ?_, fun z => ?_⟩, c, fun z => ?_⟩
  all_goals omega
theorem ACh_mk {h h1 g g2 : am_H} {n' : Int} {r' : Int → Int} (ho : OT h) (f1 : ∀ x i, ((1 ≤ x ∧ x ≤ 4) ∨ (x = 0 ∧ i = 15) ∨ (x = 6 ∧ i = 0) ∨ x = 7 ∨ (170 ≤ x ∧ x ≤ 194) ∨ 498 ≤ x) → h1 x i = h x i) (P : PPS h1 g 171 6) (f2 : ∀ x i, x ≠ 7 → ¬ (x = 6 ∧ i = 0) → g2 x i = g x i) (e0 : g2 6 0 = n') (e1 : nr g2 7 0 = r') (hN : NT n' r') (hC : CN n' r') (ha : 0 ≤ h 171 1 ∧ h 171 1 ≤ 20) : ACh h (fgc g2) n' r' := by
  have k1 : h1 171 1 = h 171 1 := f1 _ _ (by omega)
  obtain ⟨P1, P2, P3, P4⟩ := P
  rw [k1] at P1 P2 P3 P4
  have ff : ∀ x i, x ≠ 7 → ¬ (x = 6 ∧ i = 0) → ¬ (x = 171 ∧ i = 1) → ¬ (x = 172 ∧ i = h 171 1) → x ≠ 174 + h 171 1 → ((1 ≤ x ∧ x ≤ 4) ∨ (x = 0 ∧ i = 15) ∨ (170 ≤ x ∧ x ≤ 194) ∨ 498 ≤ x) → fgc g2 x i = h x i := fun x i a b c d e f => by
    rw [fgc_ne (by omega) (by omega), f2 x i a b, P1 x i c (by omega) (by omega), f1 x i (by omega)]
  refine ⟨fun x i c => ff x i (by unfold CKp at c; omega) (by unfold CKp at c; omega) (by unfold CKp at c; omega) (by unfold CKp at c; omega) (by unfold CKp at c; omega) (by unfold CKp at c; omega), ⟨?_, ?_, ?_⟩, ⟨?_, ?_⟩, FRS_of (fun p a b => ?_) (by rw [e0, e1]; exact hN) (by rw [e0, e1]; exact hC)⟩
  · rw [fgc_ne (by omega) (by omega), f2 _ _ (by omega) (by omega)]; exact P2
  · rw [fgc_ne (by omega) (by omega), f2 _ _ (by omega) (by omega)]
    exact P3.trans (f1 _ _ (by omega))
  · refine nr_cg0 (fun y a b => ?_)
    rw [fgc_ne (by omega) (by omega), f2 _ _ (by omega) (by omega)]
    have := P4 y a b
    rw [show (171 : Int) + 3 + h 171 1 = 174 + h 171 1 by omega] at this
    exact this.trans (f1 _ _ (by omega))
  · rw [fgc_ne (by omega) (by omega)]; exact e0
  · exact (nr_fr2 (fun i => fgc_ne (by omega) (by omega))).trans e1
  · rw [f2 _ _ (by omega) (by omega), P1 _ _ (by omega) (by omega) (by omega), f1 _ _ (by omega)]
    exact ho p a b
theorem lk7_nr {h : am_H} {q a b : Int} (ha : 0 ≤ a ∧ a < 20) (hb : 0 ≤ b ∧ b < 20) (s : ∀ y, 0 ≤ y → y < 20 → S20 (h q y)) : nr (h_lk h q a b) q 0 = wi (nr h q 0) a b :=
  rw2_is (fun p q => by rw [ad_lk ha hb]) (nr_S20 (S20_hlk ha hb s))
theorem CN_xt {n : Int} {r : Int → Int} {k : Int} (hN : NT n r) (h0 : 0 < n) : CN (iPop (lay r k 0)) (rw2 (xta r k)) := by
  have sl := S20_lay (r := r) k 0
  have p20 := iPop_le20 sl
  have ax : ∀ a b, ad (rw2 (xta r k)) a b ↔ xta r k a b := ad_rw2 (fun a b w => by have := w.1.2; omega)
  have b0 : bit (lay r k 0) 0 := (bt_lay hN ⟨by omega, h0⟩).mpr rc_refl
  intro i i0 i1
  have bi := nthb_in sl i0 i1
  have w := (bt_lay hN ⟨by omega, h0⟩).mp bi.1
  have z := (rc_in (P := fun z => bit (lay r k 0) z ∧ rc (ad (rw2 (xta r k))) 0 (ct (bit (lay r k 0)) z.toNat)) (fun u v hu e => ?_) ⟨b0, ?_⟩ w).2
  · rw [nthb_at sl i0 i1] at z
    exact z
  · have bv : bit (lay r k 0) v := (bt_lay hN ⟨by omega, h0⟩).mpr (rc_step ((bt_lay hN ⟨by omega, h0⟩).mp hu.1) e)
    refine ⟨bv, rc_step hu.2 ((ax _ _).mpr ⟨⟨ct_lt_20 sl hu.1, ct_lt_20 sl bv⟩, ?_⟩)⟩
    rw [nthb_ct (S20_in sl hu.1) hu.1, nthb_ct (S20_in sl bv) bv]
    exact e
  · exact rc_refl
/-! 145 FactorNets.join -/
def C145 : am_K := fun as h K => am_a3 as (fun v0 v1 v2 => am_oc 11 0 v0 (am_n v1 (fun u => am_n v2 (fun v => (PI h ∧ (0 ≤ h 171 1 ∧ h 171 1 ≤ 20)) ∧ (∀ (h' : am_H), ((((0 ≤ u ∧ u < (h 6 0)) ∧ (0 ≤ v ∧ v < (h 6 0))) ∧ ¬ (u = v ∨ ad (nr h 7 0) u v ∨ 20 ≤ h 171 1)) → ACh h h' (h 6 0) (wi (nr h 7 0) u v)) ∧ (¬ (((0 ≤ u ∧ u < (h 6 0)) ∧ (0 ≤ v ∧ v < (h 6 0))) ∧ ¬ (u = v ∨ ad (nr h 7 0) u v ∨ 20 ≤ h 171 1)) → h' = h) → K (some (mB (ifc ((0 ≤ u ∧ u < (h 6 0)) ∧ (0 ≤ v ∧ v < (h 6 0))) (ifc (u = v ∨ ad (nr h 7 0) u v ∨ 20 ≤ h 171 1) (-5) (nl (wi (nr h 7 0) u v))) (-2)))) (h'))))))
theorem W145 {d : Nat} (H : ∀ (u : Int) (v : Int) (h : am_H) (K : Option am_V → am_H → Prop), (PI h ∧ (0 ≤ h 171 1 ∧ h 171 1 ≤ 20)) ∧ (∀ (h' : am_H), ((((0 ≤ u ∧ u < (h 6 0)) ∧ (0 ≤ v ∧ v < (h 6 0))) ∧ ¬ (u = v ∨ ad (nr h 7 0) u v ∨ 20 ≤ h 171 1)) → ACh h h' (h 6 0) (wi (nr h 7 0) u v)) ∧ (¬ (((0 ≤ u ∧ u < (h 6 0)) ∧ (0 ≤ v ∧ v < (h 6 0))) ∧ ¬ (u = v ∨ ad (nr h 7 0) u v ∨ 20 ≤ h 171 1)) → h' = h) → K (some (mB (ifc ((0 ≤ u ∧ u < (h 6 0)) ∧ (0 ≤ v ∧ v < (h 6 0))) (ifc (u = v ∨ ad (nr h 7 0) u v ∨ 20 ≤ h 171 1) (-5) (nl (wi (nr h 7 0) u v))) (-2)))) (h')) → am_AT d 145 0 [some (mR 1 11 0 0), some (mB u), some (mB v)] h K) : am_CS d 145 C145 := by
  refine am_CS_of (T := tb145) (mL := 3) (rk := 1) rfl (fun as h K hC => ?_)
  obtain ⟨v0, v1, v2, rfl, hC0⟩ := am_a3_e hC
  obtain ⟨e0, hC1⟩ := am_oc_e hC0
  subst e0
  obtain ⟨u, rfl, hC2⟩ := am_n_e hC1
  obtain ⟨v, rfl, hC3⟩ := am_n_e hC2
  refine ⟨Nat.le_of_ble_eq_true rfl, ?_⟩
  exact H u v h K hC3
theorem T145_0 {R : Option am_V → am_H → Prop} {h : am_H} {u : Int} {v : Int} (t : ((((0 ≤ u ∧ u < (h 6 0)) ∧ (0 ≤ v ∧ v < (h 6 0)))) → (((u = v) → (R (some (mB (-5))) h)) ∧ ((¬ u = v) → (((0 ≤ u ∧ u < 20) ∧ (0 ≤ v ∧ v < 32)) ∧ (((bit (h 7 u) v) → (R (some (mB (-5))) h)) ∧ ((¬ (bit (h 7 u) v)) → (((h 171 1 < 20) → (((0 ≤ h (171 : Int) 1 ∧ h (171 : Int) 1 ≤ 20) ∧ ((6 : Int) + 1 < (171 : Int) ∨ (171 : Int) + 23 < (6 : Int))) ∧ (∀ (h' : am_H), (PPS h h' (171 : Int) (6 : Int)) → (((0 ≤ u ∧ u < 20) ∧ (0 ≤ v ∧ v < 20)) ∧ (((0 ≤ (am_up (am_up (am_up (am_up (am_up (am_up (h_lk h' 7 u v) 5 4 0) 5 5 0) 5 6 0) 0 16 0) 0 17 0) 0 18 (-2)) (6 : Int) 0 ∧ (am_up (am_up (am_up (am_up (am_up (am_up (h_lk h' 7 u v) 5 4 0) 5 5 0) 5 6 0) 0 16 0) 0 17 0) 0 18 (-2)) (6 : Int) 0 ≤ 20) ∧ (∀ p, 0 ≤ p → p < 20 → S20 ((am_up (am_up (am_up (am_up (am_up (am_up (h_lk h' 7 u v) 5 4 0) 5 5 0) 5 6 0) 0 16 0) 0 17 0) 0 18 (-2)) 7 p))) ∧ (R (some (mB (Int.tdiv (sm (fun p => iPop ((am_up (am_up (am_up (am_up (am_up (am_up (h_lk h' 7 u v) 5 4 0) 5 5 0) 5 6 0) 0 16 0) 0 17 0) 0 18 (-2)) 7 p)) ((am_up (am_up (am_up (am_up (am_up (am_up (h_lk h' 7 u v) 5 4 0) 5 5 0) 5 6 0) 0 16 0) 0 17 0) 0 18 (-2)) (6 : Int) 0).toNat) 2))) (am_up (am_up (am_up (am_up (am_up (am_up (h_lk h' 7 u v) 5 4 0) 5 5 0) 5 6 0) 0 16 0) 0 17 0) 0 18 (-2)))))))) ∧ ((20 ≤ h 171 1) → (R (some (mB (-5))) h))))))))) ∧ ((¬ (((0 ≤ u ∧ u < (h 6 0)) ∧ (0 ≤ v ∧ v < (h 6 0))))) → (R (some (mB (-2))) h))) : am_AT 3 145 0 [some (mR 1 11 0 0), some (mB u), some (mB v)] h R :=
  am_T (d := 2) (m := 145) (T := tb145) (mL := 3) (rk := 1) (cuts := []) (l := [(23, C23), (24, C24), (26, C26), (49, C49), (153, C153), (157, C157)]) rfl ⟨am_CS_d (by decide) C23_ok, am_CS_d (by decide) C24_ok, am_CS_d (by decide) C26_ok, am_CS_d (by decide) C49_ok, am_CS_d (by decide) C153_ok, am_CS_d (by decide) C157_ok, trivial⟩ 43 (And.intro (rfl) (And.intro (fun c1 => And.intro (fun c2 => ((t).1 c1).1 c2) (fun c2 => And.intro (((t).1 c1).2 c2).1 (And.intro (fun c3 => ((((t).1 c1).2 c2).2).1 c3) (fun c3 => And.intro (fun c4 => And.intro ((((((t).1 c1).2 c2).2).2 c3).1 c4).1 (fun z1_0 z1_1 => And.intro ((((((((t).1 c1).2 c2).2).2 c3).1 c4).2) z1_0 z1_1).1 (And.intro (rfl) (And.intro (((((((((t).1 c1).2 c2).2).2 c3).1 c4).2) z1_0 z1_1).2).1 ((((((((((t).1 c1).2 c2).2).2 c3).1 c4).2) z1_0 z1_1).2).2))))) (fun c4 => (((((t).1 c1).2 c2).2).2 c3).2 c4))))) (fun c1 => (t).2 c1)))
theorem C145_ok : am_CS 3 145 C145 := W145 (fun u v h K hb => am_AT_ok (fun hw _ => by
  obtain ⟨⟨H, ha⟩, hK⟩ := hb
  have hN := (SV5_N H.1).1
  have hC := (SV5_N H.1).2
  have hn := hN.2.1
  have s := SV5_R H.1 hw
  have ea : (0 ≤ u ∧ u < h 6 0) → (bit (h 7 u) v ↔ ad (nr h 7 0) u v) := fun a => by unfold ad; rw [nr_in0 a.1 (by omega)]
  have A : ∀ h', PPS h h' 171 6 → (0 ≤ u ∧ u < h 6 0) → (0 ≤ v ∧ v < h 6 0) → u ≠ v → (ACh h (fgc (h_lk h' 7 u v)) (h 6 0) (wi (nr h 7 0) u v)) ∧ (∀ y, 0 ≤ y → y < 20 → S20 (fgc (h_lk h' 7 u v) 7 y)) := fun h' P hp hq hne => by
    have e7 : ∀ i, h' 7 i = h 7 i := fun i => P.1 _ _ (by omega) (by omega) (by omega)
    have s' : ∀ y, 0 ≤ y → y < 20 → S20 (h' 7 y) := fun y a b => by rw [e7]; exact s y a b
    have en : nr h' 7 0 = nr h 7 0 := nr_fr2 e7
    have e6 : h_lk h' 7 u v 6 0 = h 6 0 := by rw [h_lk_ne (by omega)]; exact P.1 _ _ (by omega) (by omega) (by omega)
    refine ⟨ACh_mk H.2.1 (fun _ _ _ => rfl) P (fun x i a b => h_lk_ne a) e6 (by rw [lk7_nr (by omega) (by omega) s', en]) (NT_wi hN hp hq hne) (CN_wi hN hC hp hq) ha, fun y a b => ?_⟩
    rw [fgc_ne (by omega) (by omega)]
    exact S20_hlk (by omega) (by omega) s' y a b
  refine T145_0 ⟨fun c1 => ⟨fun c2 => ?_, fun c2 => ⟨by omega, ⟨fun c3 => ?_, fun c3 => ⟨fun c4 => ⟨⟨ha, by omega⟩, fun h' q5 => ⟨by omega, ⟨by
    have B := A h' q5 c1.1 c1.2 c2
    show (0 ≤ fgc (h_lk h' 7 u v) 6 0 ∧ fgc (h_lk h' 7 u v) 6 0 ≤ 20) ∧ (∀ y, 0 ≤ y → y < 20 → S20 (fgc (h_lk h' 7 u v) 7 y))
    exact ⟨by rw [B.1.2.2.1.1]; omega, B.2⟩, ?_⟩⟩⟩, fun c4 => ?_⟩⟩⟩⟩, fun c1 => ?_⟩
  · exact am_rB (hK h ⟨fun z => absurd z (fun w => w.2 (Or.inl c2)), fun _ => rfl⟩) (by rw [ifc_t c1, ifc_t (Or.inl c2)])
  · exact am_rB (hK h ⟨fun z => absurd z (fun w => w.2 (Or.inr (Or.inl ((ea c1.1).mp c3)))), fun _ => rfl⟩) (by rw [ifc_t c1, ifc_t (Or.inr (Or.inl ((ea c1.1).mp c3)))])
  · have B := A h' q5 c1.1 c1.2 c2
    have W := B.1
    have nc : ¬ (u = v ∨ ad (nr h 7 0) u v ∨ 20 ≤ h 171 1) := fun z => z.elim c2 (fun z => z.elim (fun z => c3 ((ea c1.1).mpr z)) (fun z => by omega))
    show K (some (mB (Int.tdiv (sm (fun y => iPop (fgc (h_lk h' 7 u v) 7 y)) (fgc (h_lk h' 7 u v) 6 0).toNat) 2))) (fgc (h_lk h' 7 u v))
    refine am_rB (hK _ ⟨fun _ => W, fun z => absurd ⟨c1, nc⟩ z⟩) ?_
    rw [ifc_t c1, ifc_f nc, line_cnt W.2.2.2.2.2.1 B.2, W.2.2.1.2]
  · exact am_rB (hK h ⟨fun z => absurd z (fun w => w.2 (Or.inr (Or.inr c4))), fun _ => rfl⟩) (by rw [ifc_t c1, ifc_t (Or.inr (Or.inr c4))])
  · exact am_rB (hK h ⟨fun z => absurd z (fun w => c1 w.1), fun _ => rfl⟩) (ifc_f c1)))
/-! 146 FactorNets.cut -/
def C146 : am_K := fun as h K => am_a2 as (fun v0 v1 => am_oc 11 0 v0 (am_n v1 (fun l => (PI h ∧ (0 ≤ h 171 1 ∧ h 171 1 ≤ 20)) ∧ (∀ (h' : am_H), (((0 ≤ l ∧ l < nl (nr h 7 0)) ∧ ¬ (20 ≤ h 171 1 ∨ ¬ CN (h 6 0) (wo (nr h 7 0) (lo (nr h 7 0) l) (hi (nr h 7 0) l)))) → ACh h h' (h 6 0) (wo (nr h 7 0) (lo (nr h 7 0) l) (hi (nr h 7 0) l))) ∧ (¬ ((0 ≤ l ∧ l < nl (nr h 7 0)) ∧ ¬ (20 ≤ h 171 1 ∨ ¬ CN (h 6 0) (wo (nr h 7 0) (lo (nr h 7 0) l) (hi (nr h 7 0) l)))) → SQa (fun x9 => 79 ≤ x9 ∧ x9 ≤ 152) h h') → K (some (mB (ifc (0 ≤ l ∧ l < nl (nr h 7 0)) (ifc (20 ≤ h 171 1 ∨ ¬ CN (h 6 0) (wo (nr h 7 0) (lo (nr h 7 0) l) (hi (nr h 7 0) l))) (-5) (nl (wo (nr h 7 0) (lo (nr h 7 0) l) (hi (nr h 7 0) l)))) (-2)))) (h')))))
theorem W146 {d : Nat} (H : ∀ (l : Int) (h : am_H) (K : Option am_V → am_H → Prop), (PI h ∧ (0 ≤ h 171 1 ∧ h 171 1 ≤ 20)) ∧ (∀ (h' : am_H), (((0 ≤ l ∧ l < nl (nr h 7 0)) ∧ ¬ (20 ≤ h 171 1 ∨ ¬ CN (h 6 0) (wo (nr h 7 0) (lo (nr h 7 0) l) (hi (nr h 7 0) l)))) → ACh h h' (h 6 0) (wo (nr h 7 0) (lo (nr h 7 0) l) (hi (nr h 7 0) l))) ∧ (¬ ((0 ≤ l ∧ l < nl (nr h 7 0)) ∧ ¬ (20 ≤ h 171 1 ∨ ¬ CN (h 6 0) (wo (nr h 7 0) (lo (nr h 7 0) l) (hi (nr h 7 0) l)))) → SQa (fun x9 => 79 ≤ x9 ∧ x9 ≤ 152) h h') → K (some (mB (ifc (0 ≤ l ∧ l < nl (nr h 7 0)) (ifc (20 ≤ h 171 1 ∨ ¬ CN (h 6 0) (wo (nr h 7 0) (lo (nr h 7 0) l) (hi (nr h 7 0) l))) (-5) (nl (wo (nr h 7 0) (lo (nr h 7 0) l) (hi (nr h 7 0) l)))) (-2)))) (h')) → am_AT d 146 0 [some (mR 1 11 0 0), some (mB l)] h K) : am_CS d 146 C146 := by
  refine am_CS_of (T := tb146) (mL := 2) (rk := 1) rfl (fun as h K hC => ?_)
  obtain ⟨v0, v1, rfl, hC0⟩ := am_a2_e hC
  obtain ⟨e0, hC1⟩ := am_oc_e hC0
  subst e0
  obtain ⟨l, rfl, hC2⟩ := am_n_e hC1
  refine ⟨Nat.le_of_ble_eq_true rfl, ?_⟩
  exact H l h K hC2
theorem T146_0 {R : Option am_V → am_H → Prop} {h : am_H} {l : Int} (t : (SV h 5) ∧ (∀ (h' : am_H), (SQ h h' 5 ∧ (0 ≤ l → h' 5 5 = 1)) → (((0 ≤ l ∧ l < nl (nr h 7 0)) → ((0 ≤ l ∧ l < 190) ∧ ((0 ≤ l ∧ l < 190) ∧ (((0 ≤ ((am_cp (am_up h' (80 : Int) 0 (h' (6 : Int) 0)) 7 0 81 0 20) 52 l) ∧ ((am_cp (am_up h' (80 : Int) 0 (h' (6 : Int) 0)) 7 0 81 0 20) 52 l) < 20) ∧ (0 ≤ ((am_cp (am_up h' (80 : Int) 0 (h' (6 : Int) 0)) 7 0 81 0 20) 53 l) ∧ ((am_cp (am_up h' (80 : Int) 0 (h' (6 : Int) 0)) 7 0 81 0 20) 53 l) < 20)) ∧ (((20 ≤ (h_ul (am_cp (am_up h' (80 : Int) 0 (h' (6 : Int) 0)) 7 0 81 0 20) 81 ((am_cp (am_up h' (80 : Int) 0 (h' (6 : Int) 0)) 7 0 81 0 20) 52 l) ((am_cp (am_up h' (80 : Int) 0 (h' (6 : Int) 0)) 7 0 81 0 20) 53 l)) 171 1) → (R (some (mB (-5))) (am_up (am_up (am_up (h_ul (am_cp (am_up h' (80 : Int) 0 (h' (6 : Int) 0)) 7 0 81 0 20) 81 ((am_cp (am_up h' (80 : Int) 0 (h' (6 : Int) 0)) 7 0 81 0 20) 52 l) ((am_cp (am_up h' (80 : Int) 0 (h' (6 : Int) 0)) 7 0 81 0 20) 53 l)) (79 : Int) 4 0) (79 : Int) 5 0) (79 : Int) 6 0))) ∧ (((h_ul (am_cp (am_up h' (80 : Int) 0 (h' (6 : Int) 0)) 7 0 81 0 20) 81 ((am_cp (am_up h' (80 : Int) 0 (h' (6 : Int) 0)) 7 0 81 0 20) 52 l) ((am_cp (am_up h' (80 : Int) 0 (h' (6 : Int) 0)) 7 0 81 0 20) 53 l)) 171 1 < 20) → ((NT ((am_up (am_up (am_up (h_ul (am_cp (am_up h' (80 : Int) 0 (h' (6 : Int) 0)) 7 0 81 0 20) 81 ((am_cp (am_up h' (80 : Int) 0 (h' (6 : Int) 0)) 7 0 81 0 20) 52 l) ((am_cp (am_up h' (80 : Int) 0 (h' (6 : Int) 0)) 7 0 81 0 20) 53 l)) (79 : Int) 4 0) (79 : Int) 5 0) (79 : Int) 6 0) (80 : Int) 0) (nr (am_up (am_up (am_up (h_ul (am_cp (am_up h' (80 : Int) 0 (h' (6 : Int) 0)) 7 0 81 0 20) 81 ((am_cp (am_up h' (80 : Int) 0 (h' (6 : Int) 0)) 7 0 81 0 20) 52 l) ((am_cp (am_up h' (80 : Int) 0 (h' (6 : Int) 0)) 7 0 81 0 20) 53 l)) (79 : Int) 4 0) (79 : Int) 5 0) (79 : Int) 6 0) 81 0)) ∧ (((0 < (am_up (am_up (am_up (h_ul (am_cp (am_up h' (80 : Int) 0 (h' (6 : Int) 0)) 7 0 81 0 20) 81 ((am_cp (am_up h' (80 : Int) 0 (h' (6 : Int) 0)) 7 0 81 0 20) 52 l) ((am_cp (am_up h' (80 : Int) 0 (h' (6 : Int) 0)) 7 0 81 0 20) 53 l)) (79 : Int) 4 0) (79 : Int) 5 0) (79 : Int) 6 0) (80 : Int) 0 ∧ CN ((am_up (am_up (am_up (h_ul (am_cp (am_up h' (80 : Int) 0 (h' (6 : Int) 0)) 7 0 81 0 20) 81 ((am_cp (am_up h' (80 : Int) 0 (h' (6 : Int) 0)) 7 0 81 0 20) 52 l) ((am_cp (am_up h' (80 : Int) 0 (h' (6 : Int) 0)) 7 0 81 0 20) 53 l)) (79 : Int) 4 0) (79 : Int) 5 0) (79 : Int) 6 0) (80 : Int) 0) (nr (am_up (am_up (am_up (h_ul (am_cp (am_up h' (80 : Int) 0 (h' (6 : Int) 0)) 7 0 81 0 20) 81 ((am_cp (am_up h' (80 : Int) 0 (h' (6 : Int) 0)) 7 0 81 0 20) 52 l) ((am_cp (am_up h' (80 : Int) 0 (h' (6 : Int) 0)) 7 0 81 0 20) 53 l)) (79 : Int) 4 0) (79 : Int) 5 0) (79 : Int) 6 0) 81 0)) → (((0 ≤ (am_up (am_up (am_up (h_ul (am_cp (am_up h' (80 : Int) 0 (h' (6 : Int) 0)) 7 0 81 0 20) 81 ((am_cp (am_up h' (80 : Int) 0 (h' (6 : Int) 0)) 7 0 81 0 20) 52 l) ((am_cp (am_up h' (80 : Int) 0 (h' (6 : Int) 0)) 7 0 81 0 20) 53 l)) (79 : Int) 4 0) (79 : Int) 5 0) (79 : Int) 6 0) (171 : Int) 1 ∧ (am_up (am_up (am_up (h_ul (am_cp (am_up h' (80 : Int) 0 (h' (6 : Int) 0)) 7 0 81 0 20) 81 ((am_cp (am_up h' (80 : Int) 0 (h' (6 : Int) 0)) 7 0 81 0 20) 52 l) ((am_cp (am_up h' (80 : Int) 0 (h' (6 : Int) 0)) 7 0 81 0 20) 53 l)) (79 : Int) 4 0) (79 : Int) 5 0) (79 : Int) 6 0) (171 : Int) 1 ≤ 20) ∧ ((6 : Int) + 1 < (171 : Int) ∨ (171 : Int) + 23 < (6 : Int))) ∧ (∀ (h'_1 : am_H), (PPS (am_up (am_up (am_up (h_ul (am_cp (am_up h' (80 : Int) 0 (h' (6 : Int) 0)) 7 0 81 0 20) 81 ((am_cp (am_up h' (80 : Int) 0 (h' (6 : Int) 0)) 7 0 81 0 20) 52 l) ((am_cp (am_up h' (80 : Int) 0 (h' (6 : Int) 0)) 7 0 81 0 20) 53 l)) (79 : Int) 4 0) (79 : Int) 5 0) (79 : Int) 6 0) h'_1 (171 : Int) (6 : Int)) → (((0 ≤ (am_up (am_up (am_up (am_up (am_up (am_up (am_cp (am_up h'_1 (6 : Int) 0 (h'_1 (80 : Int) 0)) 81 0 7 0 20) 5 4 0) 5 5 0) 5 6 0) 0 16 0) 0 17 0) 0 18 (-2)) (6 : Int) 0 ∧ (am_up (am_up (am_up (am_up (am_up (am_up (am_cp (am_up h'_1 (6 : Int) 0 (h'_1 (80 : Int) 0)) 81 0 7 0 20) 5 4 0) 5 5 0) 5 6 0) 0 16 0) 0 17 0) 0 18 (-2)) (6 : Int) 0 ≤ 20) ∧ (∀ p, 0 ≤ p → p < 20 → S20 ((am_up (am_up (am_up (am_up (am_up (am_up (am_cp (am_up h'_1 (6 : Int) 0 (h'_1 (80 : Int) 0)) 81 0 7 0 20) 5 4 0) 5 5 0) 5 6 0) 0 16 0) 0 17 0) 0 18 (-2)) 7 p))) ∧ (R (some (mB (Int.tdiv (sm (fun p => iPop ((am_up (am_up (am_up (am_up (am_up (am_up (am_cp (am_up h'_1 (6 : Int) 0 (h'_1 (80 : Int) 0)) 81 0 7 0 20) 5 4 0) 5 5 0) 5 6 0) 0 16 0) 0 17 0) 0 18 (-2)) 7 p)) ((am_up (am_up (am_up (am_up (am_up (am_up (am_cp (am_up h'_1 (6 : Int) 0 (h'_1 (80 : Int) 0)) 81 0 7 0 20) 5 4 0) 5 5 0) 5 6 0) 0 16 0) 0 17 0) 0 18 (-2)) (6 : Int) 0).toNat) 2))) (am_up (am_up (am_up (am_up (am_up (am_up (am_cp (am_up h'_1 (6 : Int) 0 (h'_1 (80 : Int) 0)) 81 0 7 0 20) 5 4 0) 5 5 0) 5 6 0) 0 16 0) 0 17 0) 0 18 (-2))))))) ∧ ((¬ (0 < (am_up (am_up (am_up (h_ul (am_cp (am_up h' (80 : Int) 0 (h' (6 : Int) 0)) 7 0 81 0 20) 81 ((am_cp (am_up h' (80 : Int) 0 (h' (6 : Int) 0)) 7 0 81 0 20) 52 l) ((am_cp (am_up h' (80 : Int) 0 (h' (6 : Int) 0)) 7 0 81 0 20) 53 l)) (79 : Int) 4 0) (79 : Int) 5 0) (79 : Int) 6 0) (80 : Int) 0 ∧ CN ((am_up (am_up (am_up (h_ul (am_cp (am_up h' (80 : Int) 0 (h' (6 : Int) 0)) 7 0 81 0 20) 81 ((am_cp (am_up h' (80 : Int) 0 (h' (6 : Int) 0)) 7 0 81 0 20) 52 l) ((am_cp (am_up h' (80 : Int) 0 (h' (6 : Int) 0)) 7 0 81 0 20) 53 l)) (79 : Int) 4 0) (79 : Int) 5 0) (79 : Int) 6 0) (80 : Int) 0) (nr (am_up (am_up (am_up (h_ul (am_cp (am_up h' (80 : Int) 0 (h' (6 : Int) 0)) 7 0 81 0 20) 81 ((am_cp (am_up h' (80 : Int) 0 (h' (6 : Int) 0)) 7 0 81 0 20) 52 l) ((am_cp (am_up h' (80 : Int) 0 (h' (6 : Int) 0)) 7 0 81 0 20) 53 l)) (79 : Int) 4 0) (79 : Int) 5 0) (79 : Int) 6 0) 81 0))) → (R (some (mB (-5))) (am_up (am_up (am_up (h_ul (am_cp (am_up h' (80 : Int) 0 (h' (6 : Int) 0)) 7 0 81 0 20) 81 ((am_cp (am_up h' (80 : Int) 0 (h' (6 : Int) 0)) 7 0 81 0 20) 52 l) ((am_cp (am_up h' (80 : Int) 0 (h' (6 : Int) 0)) 7 0 81 0 20) 53 l)) (79 : Int) 4 0) (79 : Int) 5 0) (79 : Int) 6 0))))))))))) ∧ ((¬ (0 ≤ l ∧ l < nl (nr h 7 0))) → (R (some (mB (-2))) h'))))) : am_AT 5 146 0 [some (mR 1 11 0 0), some (mB l)] h R :=
  am_T (d := 4) (m := 146) (T := tb146) (mL := 2) (rk := 1) (cuts := []) (l := [(20, C20), (25, C25), (26, C26), (27, C27), (49, C49), (87, C87), (153, C153), (158, C158)]) rfl ⟨am_CS_d (by decide) C20_ok, am_CS_d (by decide) C25_ok, am_CS_d (by decide) C26_ok, am_CS_d (by decide) C27_ok, am_CS_d (by decide) C49_ok, am_CS_d (by decide) C87_ok, am_CS_d (by decide) C153_ok, am_CS_d (by decide) C158_ok, trivial⟩ 64 (And.intro (rfl) (And.intro (t).1 (fun z2_0 z2_1 => And.intro (fun c5 => And.intro ((((t).2) z2_0 z2_1).1 c5).1 (And.intro (((((t).2) z2_0 z2_1).1 c5).2).1 (And.intro ((((((t).2) z2_0 z2_1).1 c5).2).2).1 (And.intro (fun c6 => (((((((t).2) z2_0 z2_1).1 c5).2).2).2).1 c6) (fun c6 => And.intro ((((((((t).2) z2_0 z2_1).1 c5).2).2).2).2 c6).1 (And.intro (fun c7 => And.intro ((((((((((t).2) z2_0 z2_1).1 c5).2).2).2).2 c6).2).1 c7).1 (fun z3_0 z3_1 => And.intro (rfl) (And.intro ((((((((((((t).2) z2_0 z2_1).1 c5).2).2).2).2 c6).2).1 c7).2) z3_0 z3_1).1 (((((((((((((t).2) z2_0 z2_1).1 c5).2).2).2).2 c6).2).1 c7).2) z3_0 z3_1).2)))) (fun c7 => (((((((((t).2) z2_0 z2_1).1 c5).2).2).2).2 c6).2).2 c7))))))) (fun c5 => (((t).2) z2_0 z2_1).2 c5))))
theorem cut_h {h : am_H} (s : ∀ y, 0 ≤ y → y < 20 → S20 (h 7 y)) (H : SV h 5) (z : h 5 5 = 1) {l : Int} (hl : 0 ≤ l ∧ l < nl (nr h 7 0)) : ((0 ≤ cpy h 52 l ∧ cpy h 52 l < 20) ∧ (0 ≤ cpy h 53 l ∧ cpy h 53 l < 20)) ∧ nr (fgt (h_ul (cpy h) 81 (cpy h 52 l) (cpy h 53 l))) 81 0 = wo (nr h 7 0) (lo (nr h 7 0) l) (hi (nr h 7 0) l) ∧ (fgt (h_ul (cpy h) 81 (cpy h 52 l) (cpy h 53 l))) 80 0 = h 6 0 ∧ (∀ x i, ¬ (79 ≤ x ∧ x ≤ 152) → (fgt (h_ul (cpy h) 81 (cpy h 52 l) (cpy h 53 l))) x i = h x i) ∧ 2 ≤ h 6 0 ∧ ∀ y, 0 ≤ y → y < 20 → S20 (fgt (h_ul (cpy h) 81 (cpy h 52 l) (cpy h 53 l)) 81 y) := by
  have hN := (SV5_N H).1
  have L := (SV5_L H z).2.1 l hl.1 hl.2
  have k := lo_ok hl.1 hl.2
  have i := NT_in hN k.2.1
  have e1 : cpy h 52 l = lo (nr h 7 0) l := by rw [cpy_ne (by omega) (by omega)]; exact L.1
  have e2 : cpy h 53 l = hi (nr h 7 0) l := by rw [cpy_ne (by omega) (by omega)]; exact L.2
  have hn := hN.2.1
  rw [e1, e2]
  have eg : nr (h_ul (cpy h) 81 (lo (nr h 7 0) l) (hi (nr h 7 0) l)) 81 0 = wo (nr h 7 0) (lo (nr h 7 0) l) (hi (nr h 7 0) l) := ul_nr (by omega) (by omega) s
  have e80 : h_ul (cpy h) 81 (lo (nr h 7 0) l) (hi (nr h 7 0) l) 80 0 = h 6 0 := by rw [h_ul_ne (by omega), cpy_80]
  refine ⟨by omega, by rw [fgt_nr]; exact eg, by rw [fgt_ne (by omega)]; exact e80, fun x i' a => by rw [fgt_ne (by omega), h_ul_ne (by omega), cpy_ne (by omega) (by omega)], by omega, fun y a b => ?_⟩
  rw [fgt_ne (by omega)]
  exact S20_hul (by omega) (by omega) (fun y a b => by rw [(cpy_nr h).2 y a b]; exact s y a b) y a b
theorem C146_ok : am_CS 5 146 C146 := W146 (fun l h K hb => am_AT_ok (fun hw _ => by
  obtain ⟨⟨H, ha⟩, hK⟩ := hb
  have hN := (SV5_N H.1).1
  have hC := (SV5_N H.1).2
  have hn := hN.2.1
  have s := SV5_R H.1 hw
  have nlr := nl_r (nr h 7 0)
  have W0 : ∀ h', (SQ h h' 5 ∧ (0 ≤ l → h' 5 5 = 1)) → (0 ≤ l ∧ l < nl (nr h 7 0)) → ((0 ≤ cpy h' 52 l ∧ cpy h' 52 l < 20) ∧ (0 ≤ cpy h' 53 l ∧ cpy h' 53 l < 20)) ∧ nr (fgt (h_ul (cpy h') 81 (cpy h' 52 l) (cpy h' 53 l))) 81 0 = (wo (nr h 7 0) (lo (nr h 7 0) l) (hi (nr h 7 0) l)) ∧ (fgt (h_ul (cpy h') 81 (cpy h' 52 l) (cpy h' 53 l))) 80 0 = h 6 0 ∧ (∀ x i, ¬ (79 ≤ x ∧ x ≤ 152) → (fgt (h_ul (cpy h') 81 (cpy h' 52 l) (cpy h' 53 l))) x i = h' x i) ∧ 2 ≤ h 6 0 ∧ ∀ y, 0 ≤ y → y < 20 → S20 ((fgt (h_ul (cpy h') 81 (cpy h' 52 l) (cpy h' 53 l))) 81 y) := fun h' q c => by
    have en := SQ5_n q.1
    have e7 : ∀ i, h' 7 i = h 7 i := fun i => SQ5_f q.1 _ _ (by omega) (by omega)
    have w := cut_h (h := h') (fun y a b => by rw [e7]; exact s y a b) q.1.1 (q.2 c.1) (l := l) (by rw [en.1]; exact c)
    rw [en.1, en.2] at w
    exact w
  have e171 : ∀ h', (SQ h h' 5 ∧ (0 ≤ l → h' 5 5 = 1)) → (0 ≤ l ∧ l < nl (nr h 7 0)) → (fgt (h_ul (cpy h') 81 (cpy h' 52 l) (cpy h' 53 l))) 171 1 = h 171 1 := fun h' q c => by
    rw [(W0 h' q c).2.2.2.1 _ _ (by omega)]
    exact SQ5_f q.1 _ _ (by omega) (by omega)
  have SQf : ∀ h', (SQ h h' 5 ∧ (0 ≤ l → h' 5 5 = 1)) → (0 ≤ l ∧ l < nl (nr h 7 0)) → SQa (fun x9 => 79 ≤ x9 ∧ x9 ≤ 152) h (fgt (h_ul (cpy h') 81 (cpy h' 52 l) (cpy h' 53 l))) := fun h' q c => SQa_fr (h' := h') (SQa_of q.1) (fun x i a => (W0 h' q c).2.2.2.1 x i a) (fun x a => by omega)
  have A : ∀ h' h'_1, (SQ h h' 5 ∧ (0 ≤ l → h' 5 5 = 1)) → (0 ≤ l ∧ l < nl (nr h 7 0)) → CN (h 6 0) (wo (nr h 7 0) (lo (nr h 7 0) l) (hi (nr h 7 0) l)) → PPS (fgt (h_ul (cpy h') 81 (cpy h' 52 l) (cpy h' 53 l))) h'_1 171 6 → ACh h (fgc (am_cp (am_up h'_1 6 0 (h'_1 80 0)) 81 0 7 0 20)) (h 6 0) (wo (nr h 7 0) (lo (nr h 7 0) l) (hi (nr h 7 0) l)) ∧ ∀ y, 0 ≤ y → y < 20 → S20 ((fgc (am_cp (am_up h'_1 6 0 (h'_1 80 0)) 81 0 7 0 20)) 7 y) := fun h' h'_1 q c cn P => by
    have w := W0 h' q c
    have f : ∀ x i, ((1 ≤ x ∧ x ≤ 4) ∨ (x = 0 ∧ i = 15) ∨ (x = 6 ∧ i = 0) ∨ x = 7 ∨ (170 ≤ x ∧ x ≤ 194) ∨ 498 ≤ x) → (fgt (h_ul (cpy h') 81 (cpy h' 52 l) (cpy h' 53 l))) x i = h x i := fun x i a => by
      rw [w.2.2.2.1 x i (by omega)]
      exact SQ5_f q.1 _ _ (by omega) (by omega)
    have e : ∀ x i, 79 ≤ x → x ≤ 152 → h'_1 x i = (fgt (h_ul (cpy h') 81 (cpy h' 52 l) (cpy h' 53 l))) x i := fun x i a b => P.1 x i (by omega) (by omega) (by have := e171 h' q c; omega)
    have r7 : ∀ y, 0 ≤ y → y < 20 → am_cp (am_up h'_1 6 0 (h'_1 80 0)) 81 0 7 0 20 7 y = (fgt (h_ul (cpy h') 81 (cpy h' 52 l) (cpy h' 53 l))) 81 y := fun y a b => by
      rw [am_cp_0 a b, am_up_ne (by omega)]; exact e _ _ (by omega) (by omega)
    refine ⟨ACh_mk H.2.1 f P (fun x i a b => by rw [am_cp_ne a, am_up_n2 b]) ?_ ?_ (NT_wo hN _ _) cn ha, fun y a b => ?_⟩
    · rw [am_cp_ne (by omega), am_up_eq, e _ _ (by omega) (by omega)]; exact w.2.2.1
    · rw [nr_cg0 r7]; exact w.2.1
    · rw [fgc_ne (by omega) (by omega), r7 y a b]; exact w.2.2.2.2.2 y a b
  refine T146_0 ⟨H.1, fun h' q1 => ⟨fun c2 => ⟨by omega, ⟨by omega, ⟨(W0 h' q1 c2).1, ⟨fun c3 => ?_, fun c3 => ⟨by
    have w := W0 h' q1 c2
    show NT ((fgt (h_ul (cpy h') 81 (cpy h' 52 l) (cpy h' 53 l))) 80 0) (nr (fgt (h_ul (cpy h') 81 (cpy h' 52 l) (cpy h' 53 l))) 81 0)
    rw [w.2.1, w.2.2.1]
    exact NT_wo hN _ _, ⟨fun c4 => ⟨by
    show (0 ≤ (fgt (h_ul (cpy h') 81 (cpy h' 52 l) (cpy h' 53 l))) 171 1 ∧ (fgt (h_ul (cpy h') 81 (cpy h' 52 l) (cpy h' 53 l))) 171 1 ≤ 20) ∧ _
    rw [e171 h' q1 c2]
    exact ⟨ha, by omega⟩, fun h'_1 q5 => ⟨by
    have w := W0 h' q1 c2
    have c4' : 0 < (fgt (h_ul (cpy h') 81 (cpy h' 52 l) (cpy h' 53 l))) 80 0 ∧ CN ((fgt (h_ul (cpy h') 81 (cpy h' 52 l) (cpy h' 53 l))) 80 0) (nr (fgt (h_ul (cpy h') 81 (cpy h' 52 l) (cpy h' 53 l))) 81 0) := c4
    rw [w.2.1, w.2.2.1] at c4'
    have B := A h' h'_1 q1 c2 c4'.2 q5
    show (0 ≤ (fgc (am_cp (am_up h'_1 6 0 (h'_1 80 0)) 81 0 7 0 20)) 6 0 ∧ (fgc (am_cp (am_up h'_1 6 0 (h'_1 80 0)) 81 0 7 0 20)) 6 0 ≤ 20) ∧ (∀ y, 0 ≤ y → y < 20 → S20 ((fgc (am_cp (am_up h'_1 6 0 (h'_1 80 0)) 81 0 7 0 20)) 7 y))
    exact ⟨by rw [B.1.2.2.1.1]; omega, B.2⟩, ?_⟩⟩, fun c4 => ?_⟩⟩⟩⟩⟩⟩, fun c2 => ?_⟩⟩
  · have c3' : 20 ≤ (fgt (h_ul (cpy h') 81 (cpy h' 52 l) (cpy h' 53 l))) 171 1 := by
      show 20 ≤ fgt _ 171 1
      rw [fgt_ne (by omega)]
      exact c3
    rw [e171 h' q1 c2] at c3'
    show K (some (mB (-5))) (fgt (h_ul (cpy h') 81 (cpy h' 52 l) (cpy h' 53 l)))
    exact am_rB (hK _ ⟨fun z => absurd (Or.inl c3') z.2, fun _ => SQf h' q1 c2⟩) (by rw [ifc_t c2, ifc_t (Or.inl c3')])
  · have w := W0 h' q1 c2
    have c3' : (fgt (h_ul (cpy h') 81 (cpy h' 52 l) (cpy h' 53 l))) 171 1 < 20 := by
      show fgt _ 171 1 < 20
      rw [fgt_ne (by omega)]
      exact c3
    rw [e171 h' q1 c2] at c3'
    have c4' : 0 < (fgt (h_ul (cpy h') 81 (cpy h' 52 l) (cpy h' 53 l))) 80 0 ∧ CN ((fgt (h_ul (cpy h') 81 (cpy h' 52 l) (cpy h' 53 l))) 80 0) (nr (fgt (h_ul (cpy h') 81 (cpy h' 52 l) (cpy h' 53 l))) 81 0) := c4
    rw [w.2.1, w.2.2.1] at c4'
    have B := A h' h'_1 q1 c2 c4'.2 q5
    have nc : ¬ (20 ≤ h 171 1 ∨ ¬ CN (h 6 0) (wo (nr h 7 0) (lo (nr h 7 0) l) (hi (nr h 7 0) l))) := fun z => z.elim (fun z => by omega) (fun z => z c4'.2)
    show K (some (mB (Int.tdiv (sm (fun y => iPop ((fgc (am_cp (am_up h'_1 6 0 (h'_1 80 0)) 81 0 7 0 20)) 7 y)) ((fgc (am_cp (am_up h'_1 6 0 (h'_1 80 0)) 81 0 7 0 20)) 6 0).toNat) 2))) (fgc (am_cp (am_up h'_1 6 0 (h'_1 80 0)) 81 0 7 0 20))
    refine am_rB (hK _ ⟨fun _ => B.1, fun z => absurd ⟨c2, nc⟩ z⟩) ?_
    rw [ifc_t c2, ifc_f nc, line_cnt B.1.2.2.2.2.2.1 B.2, B.1.2.2.1.2]
  · have w := W0 h' q1 c2
    have c4' : ¬ (0 < (fgt (h_ul (cpy h') 81 (cpy h' 52 l) (cpy h' 53 l))) 80 0 ∧ CN ((fgt (h_ul (cpy h') 81 (cpy h' 52 l) (cpy h' 53 l))) 80 0) (nr (fgt (h_ul (cpy h') 81 (cpy h' 52 l) (cpy h' 53 l))) 81 0)) := c4
    rw [w.2.1, w.2.2.1] at c4'
    have nc : 20 ≤ h 171 1 ∨ ¬ CN (h 6 0) (wo (nr h 7 0) (lo (nr h 7 0) l) (hi (nr h 7 0) l)) := Or.inr (fun z => c4' ⟨by omega, z⟩)
    show K (some (mB (-5))) (fgt (h_ul (cpy h') 81 (cpy h' 52 l) (cpy h' 53 l)))
    exact am_rB (hK _ ⟨fun z => absurd nc z.2, fun _ => SQf h' q1 c2⟩) (by rw [ifc_t c2, ifc_t nc])
  · exact am_rB (hK h' ⟨fun z => absurd z.1 c2, fun _ => SQa_of q1.1⟩) (ifc_f c2)))
/-! 147 FactorNets.times -/
def C147 : am_K := fun as h K => am_a3 as (fun v0 v1 v2 => am_oc 11 0 v0 (am_n v1 (fun k => am_n v2 (fun m => (PI h ∧ (0 ≤ h 171 1 ∧ h 171 1 ≤ 20)) ∧ (∀ (h' : am_H), (((0 < (h 6 0) ∧ (0 ≤ k ∧ k ≤ 2) ∧ ((if k = 1 then 3 else 2) ≤ m ∧ m ≤ 10)) ∧ ¬ (20 < (h 6 0) * m ∨ 20 ≤ h 171 1)) → ACh h h' ((h 6 0) * m) (mul (h 6 0) (nr h 7 0) k m)) ∧ (¬ ((0 < (h 6 0) ∧ (0 ≤ k ∧ k ≤ 2) ∧ ((if k = 1 then 3 else 2) ≤ m ∧ m ≤ 10)) ∧ ¬ (20 < (h 6 0) * m ∨ 20 ≤ h 171 1)) → h' = h) → K (some (mB (ifc (0 < (h 6 0) ∧ (0 ≤ k ∧ k ≤ 2) ∧ ((if k = 1 then 3 else 2) ≤ m ∧ m ≤ 10)) (ifc (20 < (h 6 0) * m ∨ 20 ≤ h 171 1) (-5) ((h 6 0) * m)) (-2)))) (h'))))))
theorem W147 {d : Nat} (H : ∀ (k : Int) (m : Int) (h : am_H) (K : Option am_V → am_H → Prop), (PI h ∧ (0 ≤ h 171 1 ∧ h 171 1 ≤ 20)) ∧ (∀ (h' : am_H), (((0 < (h 6 0) ∧ (0 ≤ k ∧ k ≤ 2) ∧ ((if k = 1 then 3 else 2) ≤ m ∧ m ≤ 10)) ∧ ¬ (20 < (h 6 0) * m ∨ 20 ≤ h 171 1)) → ACh h h' ((h 6 0) * m) (mul (h 6 0) (nr h 7 0) k m)) ∧ (¬ ((0 < (h 6 0) ∧ (0 ≤ k ∧ k ≤ 2) ∧ ((if k = 1 then 3 else 2) ≤ m ∧ m ≤ 10)) ∧ ¬ (20 < (h 6 0) * m ∨ 20 ≤ h 171 1)) → h' = h) → K (some (mB (ifc (0 < (h 6 0) ∧ (0 ≤ k ∧ k ≤ 2) ∧ ((if k = 1 then 3 else 2) ≤ m ∧ m ≤ 10)) (ifc (20 < (h 6 0) * m ∨ 20 ≤ h 171 1) (-5) ((h 6 0) * m)) (-2)))) (h')) → am_AT d 147 0 [some (mR 1 11 0 0), some (mB k), some (mB m)] h K) : am_CS d 147 C147 := by
  refine am_CS_of (T := tb147) (mL := 3) (rk := 1) rfl (fun as h K hC => ?_)
  obtain ⟨v0, v1, v2, rfl, hC0⟩ := am_a3_e hC
  obtain ⟨e0, hC1⟩ := am_oc_e hC0
  subst e0
  obtain ⟨k, rfl, hC2⟩ := am_n_e hC1
  obtain ⟨m, rfl, hC3⟩ := am_n_e hC2
  refine ⟨Nat.le_of_ble_eq_true rfl, ?_⟩
  exact H k m h K hC3
theorem T147_0 {R : Option am_V → am_H → Prop} {h : am_H} {k : Int} {m : Int} (t : ((h 6 0 = 0) → (R (some (mB (-2))) h)) ∧ ((¬ h 6 0 = 0) → (((k < 0) → (R (some (mB (-2))) h)) ∧ ((0 ≤ k) → (((2 < k) → (R (some (mB (-2))) h)) ∧ ((k ≤ 2) → (((m < (if k = 1 then 3 else 2)) → (R (some (mB (-2))) h)) ∧ (((if k = 1 then 3 else 2) ≤ m) → (((m ≤ 10) → ((R32 ((h 6 0) * m)) ∧ (((20 < (h 6 0) * m) → (R (some (mB (-5))) h)) ∧ (((h 6 0) * m ≤ 20) → (((h 171 1 < 20) → (((0 ≤ h (171 : Int) 1 ∧ h (171 : Int) 1 ≤ 20) ∧ ((6 : Int) + 1 < (171 : Int) ∨ (171 : Int) + 23 < (6 : Int))) ∧ (∀ (h' : am_H), (PPS h h' (171 : Int) (6 : Int)) → (((2 ≤ m ∧ m ≤ 20) ∧ (0 ≤ k ∧ k ≤ 2) ∧ (1 ≤ h' (6 : Int) 0 ∧ h' (6 : Int) 0 * m ≤ 20) ∧ NT (h' (6 : Int) 0) (nr h' 7 0) ∧ (∀ y9, 0 ≤ y9 → y9 < 20 → S20 (h' 7 y9))) ∧ (∀ (h'_1 : am_H), ((∀ x9 i9, ¬ (x9 = (6 : Int) ∧ i9 = 0) → x9 ≠ 7 → h'_1 x9 i9 = h' x9 i9) ∧ h'_1 (6 : Int) 0 = h' (6 : Int) 0 * m ∧ nr h'_1 7 0 = mul (h' (6 : Int) 0) (nr h' 7 0) k m) → (R (some (mB ((h'_1) 6 0))) (am_up (am_up (am_up (am_up (am_up (am_up h'_1 5 4 0) 5 5 0) 5 6 0) 0 16 0) 0 17 0) 0 18 (-2)))))))) ∧ ((20 ≤ h 171 1) → (R (some (mB (-5))) h))))))) ∧ ((10 < m) → (R (some (mB (-2))) h))))))))))) : am_AT 3 147 0 [some (mR 1 11 0 0), some (mB k), some (mB m)] h R :=
  am_T (d := 2) (m := 147) (T := tb147) (mL := 3) (rk := 1) (cuts := []) (l := [(30, C30), (49, C49), (153, C153), (180, C180)]) rfl ⟨am_CS_d (by decide) C30_ok, am_CS_d (by decide) C49_ok, am_CS_d (by decide) C153_ok, am_CS_d (by decide) C180_ok, trivial⟩ 53 (And.intro (fun c8 => (t).1 c8) (fun c8 => And.intro (fun c9 => ((t).2 c8).1 c9) (fun c9 => And.intro (fun c10 => (((t).2 c8).2 c9).1 c10) (fun c10 => And.intro (fun c11 => ((((t).2 c8).2 c9).2 c10).1 c11) (fun c11 => And.intro (fun c12 => And.intro ((((((t).2 c8).2 c9).2 c10).2 c11).1 c12).1 (And.intro (fun c13 => (((((((t).2 c8).2 c9).2 c10).2 c11).1 c12).2).1 c13) (fun c13 => And.intro (fun c14 => And.intro (((((((((t).2 c8).2 c9).2 c10).2 c11).1 c12).2).2 c13).1 c14).1 (fun z4_0 z4_1 => And.intro (((((((((((t).2 c8).2 c9).2 c10).2 c11).1 c12).2).2 c13).1 c14).2) z4_0 z4_1).1 (fun z5_0 z5_1 => And.intro (rfl) (((((((((((((t).2 c8).2 c9).2 c10).2 c11).1 c12).2).2 c13).1 c14).2) z4_0 z4_1).2) z5_0 z5_1)))) (fun c14 => ((((((((t).2 c8).2 c9).2 c10).2 c11).1 c12).2).2 c13).2 c14)))) (fun c12 => (((((t).2 c8).2 c9).2 c10).2 c11).2 c12))))))
theorem C147_ok : am_CS 3 147 C147 := W147 (fun k m h K hb => am_AT_ok (fun hw _ => by
  obtain ⟨⟨H, ha⟩, hK⟩ := hb
  have hN := (SV5_N H.1).1
  have hC := (SV5_N H.1).2
  have hn0 := hN.1
  have hn := hN.2.1
  have s := SV5_R H.1 hw
  have l2 : 2 ≤ (if k = 1 then (3 : Int) else 2) := by by_cases z : k = 1 <;> simp [z]
  refine T147_0 ⟨fun c1 => ?_, fun c1 => ⟨fun c2 => ?_, fun c2 => ⟨fun c3 => ?_, fun c3 => ⟨fun c4 => ?_, fun c4 => ⟨fun c5 => ⟨by
    have w1 := Int.mul_nonneg hn0 (show 0 ≤ m by omega)
    have w2 := Int.mul_le_mul (show h 6 0 ≤ 20 by omega) c5 (show 0 ≤ m by omega) (by omega)
    unfold R32
    omega, ⟨fun c6 => ?_, fun c6 => ⟨fun c7 => ⟨⟨ha, by omega⟩, fun h' q8 => ⟨by
    have e7 : ∀ i, h' 7 i = h 7 i := fun i => q8.1 _ _ (by omega) (by omega) (by omega)
    have en : nr h' 7 0 = nr h 7 0 := nr_fr2 e7
    have e6 : h' 6 0 = h 6 0 := q8.1 _ _ (by omega) (by omega) (by omega)
    rw [en, e6]
    exact ⟨by omega, by omega, by omega, hN, fun y a b => by rw [e7]; exact s y a b⟩, fun h'_1 q9 => ?_⟩⟩, fun c7 => ?_⟩⟩⟩, fun c5 => ?_⟩⟩⟩⟩⟩
  · exact am_rB (hK h ⟨fun z => absurd z (fun w => by have := w.1.1; omega), fun _ => rfl⟩) (ifc_f (fun w => by have := w.1; omega))
  · exact am_rB (hK h ⟨fun z => absurd z (fun w => by have := w.1.2.1; omega), fun _ => rfl⟩) (ifc_f (fun w => by have := w.2.1; omega))
  · exact am_rB (hK h ⟨fun z => absurd z (fun w => by have := w.1.2.1; omega), fun _ => rfl⟩) (ifc_f (fun w => by have := w.2.1; omega))
  · exact am_rB (hK h ⟨fun z => absurd z (fun w => by have := w.1.2.2.1; omega), fun _ => rfl⟩) (ifc_f (fun w => by have := w.2.2.1; omega))
  · exact am_rB (hK h ⟨fun z => absurd z (fun w => w.2 (Or.inl c6)), fun _ => rfl⟩) (by rw [ifc_t ⟨by omega, ⟨c2, c3⟩, c4, c5⟩, ifc_t (Or.inl c6)])
  · have nc : ¬ (20 < h 6 0 * m ∨ 20 ≤ h 171 1) := by omega
    have e7 : ∀ i, h' 7 i = h 7 i := fun i => q8.1 _ _ (by omega) (by omega) (by omega)
    have en : nr h' 7 0 = nr h 7 0 := nr_fr2 e7
    have e6 : h' 6 0 = h 6 0 := q8.1 _ _ (by omega) (by omega) (by omega)
    rw [en, e6] at q9
    have A := ACh_mk (h1 := h) H.2.1 (fun _ _ _ => rfl) q8 (fun x i a b => q9.1 x i b a) q9.2.1 q9.2.2 (NT_mul (by omega) (by omega) (by omega) hN) (CN_mul (by omega) (by omega) (by omega) hN hC) ha
    show K (some (mB (h'_1 6 0))) (fgc h'_1)
    refine am_rB (hK _ ⟨fun _ => A, fun z => absurd ⟨⟨by omega, ⟨c2, c3⟩, c4, c5⟩, nc⟩ z⟩) ?_
    rw [ifc_t ⟨by omega, ⟨c2, c3⟩, c4, c5⟩, ifc_f nc, q9.2.1]
  · exact am_rB (hK h ⟨fun z => absurd z (fun w => w.2 (Or.inr c7)), fun _ => rfl⟩) (by rw [ifc_t ⟨by omega, ⟨c2, c3⟩, c4, c5⟩, ifc_t (Or.inr c7)])
  · exact am_rB (hK h ⟨fun z => absurd z (fun w => by have := w.1.2.2.2; omega), fun _ => rfl⟩) (ifc_f (fun w => by have := w.2.2.2; omega))))
/-! 148 FactorNets.keep -/
def C148 : am_K := fun as h K => am_a2 as (fun v0 v1 => am_oc 11 0 v0 (am_n v1 (fun k => (PI h ∧ (0 ≤ h 171 1 ∧ h 171 1 ≤ 20)) ∧ (∀ (h' : am_H), (((0 ≤ k ∧ k < (ncl (ptE (nr h 7 0)) (nl (nr h 7 0)))) ∧ ¬ 20 ≤ h 171 1) → ACh h h' (iPop (lay (nr h 7 0) k 0)) (rw2 (xta (nr h 7 0) k))) ∧ (¬ ((0 ≤ k ∧ k < (ncl (ptE (nr h 7 0)) (nl (nr h 7 0)))) ∧ ¬ 20 ≤ h 171 1) → PQ h h') → K (some (mB (ifc (0 ≤ k ∧ k < (ncl (ptE (nr h 7 0)) (nl (nr h 7 0)))) (ifc (20 ≤ h 171 1) (-5) (iPop (lay (nr h 7 0) k 0))) (-2)))) (h')))))
theorem W148 {d : Nat} (H : ∀ (k : Int) (h : am_H) (K : Option am_V → am_H → Prop), (PI h ∧ (0 ≤ h 171 1 ∧ h 171 1 ≤ 20)) ∧ (∀ (h' : am_H), (((0 ≤ k ∧ k < (ncl (ptE (nr h 7 0)) (nl (nr h 7 0)))) ∧ ¬ 20 ≤ h 171 1) → ACh h h' (iPop (lay (nr h 7 0) k 0)) (rw2 (xta (nr h 7 0) k))) ∧ (¬ ((0 ≤ k ∧ k < (ncl (ptE (nr h 7 0)) (nl (nr h 7 0)))) ∧ ¬ 20 ≤ h 171 1) → PQ h h') → K (some (mB (ifc (0 ≤ k ∧ k < (ncl (ptE (nr h 7 0)) (nl (nr h 7 0)))) (ifc (20 ≤ h 171 1) (-5) (iPop (lay (nr h 7 0) k 0))) (-2)))) (h')) → am_AT d 148 0 [some (mR 1 11 0 0), some (mB k)] h K) : am_CS d 148 C148 := by
  refine am_CS_of (T := tb148) (mL := 2) (rk := 1) rfl (fun as h K hC => ?_)
  obtain ⟨v0, v1, rfl, hC0⟩ := am_a2_e hC
  obtain ⟨e0, hC1⟩ := am_oc_e hC0
  subst e0
  obtain ⟨k, rfl, hC2⟩ := am_n_e hC1
  refine ⟨Nat.le_of_ble_eq_true rfl, ?_⟩
  exact H k h K hC2
theorem T148_0 {R : Option am_V → am_H → Prop} {h : am_H} {k : Int} (t : (PI h) ∧ (∀ (h' : am_H), (PQ h h' ∧ h' 0 16 = 1) → (((0 ≤ k ∧ k < (ncl (ptE (nr h 7 0)) (nl (nr h 7 0)))) → (((h' 171 1 < 20) → (((0 ≤ h' (171 : Int) 1 ∧ h' (171 : Int) 1 ≤ 20) ∧ ((6 : Int) + 1 < (171 : Int) ∨ (171 : Int) + 23 < (6 : Int))) ∧ (∀ (h'_1 : am_H), (PPS h' h'_1 (171 : Int) (6 : Int)) → ((PI h'_1 ∧ h'_1 0 16 = 1 ∧ (0 ≤ k ∧ k < (ncl (ptE (nr h'_1 7 0)) (nl (nr h'_1 7 0)))) ∧ ((6 : Int) = 6 ∨ (6 : Int) = 80)) ∧ (∀ (h'_2 : am_H), ((XTR h'_1 h'_2 (6 : Int) ∧ h'_2 (6 : Int) 0 = iPop (lay (nr h'_1 7 0) k 0) ∧ (∀ y9, 0 ≤ y9 → y9 < 20 → S20 (h'_2 7 y9)) ∧ ∀ a9 b9, ad (nr h'_2 7 0) a9 b9 ↔ xta (nr h'_1 7 0) k a9 b9)) → (R (some (mB ((h'_2) 6 0))) (am_up (am_up (am_up (am_up (am_up (am_up h'_2 5 4 0) 5 5 0) 5 6 0) 0 16 0) 0 17 0) 0 18 (-2)))))))) ∧ ((20 ≤ h' 171 1) → (R (some (mB (-5))) h')))) ∧ ((¬ (0 ≤ k ∧ k < (ncl (ptE (nr h 7 0)) (nl (nr h 7 0))))) → (R (some (mB (-2))) h'))))) : am_AT 8 148 0 [some (mR 1 11 0 0), some (mB k)] h R :=
  am_T (d := 7) (m := 148) (T := tb148) (mL := 2) (rk := 1) (cuts := []) (l := [(45, C45), (49, C49), (153, C153), (159, C159)]) rfl ⟨am_CS_d (by decide) C45_ok, am_CS_d (by decide) C49_ok, am_CS_d (by decide) C153_ok, am_CS_d (by decide) C159_ok, trivial⟩ 33 (And.intro (rfl) (And.intro (t).1 (fun z6_0 z6_1 => And.intro (fun c15 => And.intro (fun c16 => And.intro (((((t).2) z6_0 z6_1).1 c15).1 c16).1 (fun z7_0 z7_1 => And.intro (rfl) (And.intro (((((((t).2) z6_0 z6_1).1 c15).1 c16).2) z7_0 z7_1).1 (fun z8_0 z8_1 => And.intro (rfl) (((((((((t).2) z6_0 z6_1).1 c15).1 c16).2) z7_0 z7_1).2) z8_0 z8_1))))) (fun c16 => ((((t).2) z6_0 z6_1).1 c15).2 c16)) (fun c15 => (((t).2) z6_0 z6_1).2 c15))))
theorem C148_ok : am_CS 8 148 C148 := W148 (fun k h K hb => by
  obtain ⟨⟨H, ha⟩, hK⟩ := hb
  have hN := (SV5_N H.1).1
  have hC := (SV5_N H.1).2
  have hn := hN.2.1
  have f0 : ∀ h', PQ h h' → ∀ x i, ((1 ≤ x ∧ x ≤ 4) ∨ (x = 0 ∧ i = 15) ∨ (x = 6 ∧ i = 0) ∨ x = 7 ∨ (171 ≤ x ∧ x ≤ 194) ∨ 498 ≤ x) → h' x i = h x i := fun h' q x i a => q.2.1 x i (by omega) (by omega) (by omega) (by omega)
  have f1 : ∀ h' h'_1, PQ h h' → PPS h' h'_1 171 6 → nr h'_1 7 0 = nr h 7 0 ∧ PI h'_1 ∧ h'_1 0 16 = h' 0 16 ∧ h'_1 6 0 = h 6 0 := fun h' h'_1 q P => by
    have k1 : h' 171 1 = h 171 1 := f0 h' q _ _ (by omega)
    have g : ∀ x i, (x ≤ 170 ∨ 195 ≤ x) → h'_1 x i = h' x i := fun x i a => P.1 x i (by omega) (by omega) (by omega)
    exact ⟨(nr_fr2 (fun i => g _ _ (by omega))).trans q.2.2.1.1, PI_fr q.1 (fun x i a => g x i (by omega)), g _ _ (by omega), (g _ _ (by omega)).trans q.2.2.1.2⟩
  refine T148_0 ⟨H, fun h' q1 => ⟨fun c2 => ⟨fun c3 => ⟨by
    have k1 : h' 171 1 = h 171 1 := f0 h' q1.1 _ _ (by omega)
    omega, fun h'_1 q4 => ⟨by
    have F := f1 h' h'_1 q1.1 q4
    rw [F.1]
    exact ⟨F.2.1, F.2.2.1.trans q1.2, c2, Or.inl rfl⟩, fun h'_2 q5 => ?_⟩⟩, fun c3 => ?_⟩, fun c2 => ?_⟩⟩
  · have k1 : h' 171 1 = h 171 1 := f0 h' q1.1 _ _ (by omega)
    have F := f1 h' h'_1 q1.1 q4
    rw [F.1] at q5
    have h0 := np_0 hN c2.1 c2.2
    have sl := S20_lay (r := nr h 7 0) k 0
    have p20 := iPop_le20 sl
    have er : nr h'_2 7 0 = rw2 (xta (nr h 7 0) k) := rw2_is q5.2.2.2 (nr_S20 q5.2.2.1)
    have hNx : NT (iPop (lay (nr h 7 0) k 0)) (rw2 (xta (nr h 7 0) k)) := by rw [← er]; exact XT_nt hN p20 q5.2.2.2
    have nc : ¬ 20 ≤ h 171 1 := by omega
    have f2 : ∀ x i, ((1 ≤ x ∧ x ≤ 4) ∨ (x = 0 ∧ i = 15) ∨ (x = 6 ∧ i = 0) ∨ x = 7 ∨ (170 ≤ x ∧ x ≤ 194) ∨ 498 ≤ x) → (fun x i => if x = 170 then h 170 i else h' x i) x i = h x i := fun x i a => by
      by_cases e : x = 170
      · subst e; exact if_pos rfl
      · exact (if_neg e).trans (f0 h' q1.1 x i (by omega))
    have A : ACh h (fgc h'_2) (iPop (lay (nr h 7 0) k 0)) (rw2 (xta (nr h 7 0) k)) := by
      obtain ⟨P1, P2, P3, P4⟩ := q4
      rw [k1] at P1 P2 P3 P4
      have g : ∀ x i, x ≠ 7 → ¬ (x = 6 ∧ i = 0) → h'_2 x i = h'_1 x i := fun x i a b => q5.1 x i a b
      refine ⟨fun x i c => ?_, ⟨?_, ?_, ?_⟩, ⟨?_, ?_⟩, FRS_of (fun p a b => ?_) (by rw [er, q5.2.1]; exact hNx) (by rw [er, q5.2.1]; exact CN_xt hN h0)⟩
      · unfold CKp at c
        rw [fgc_ne (by omega) (by omega), g x i (by omega) (by omega), P1 x i (by omega) (by omega) (by omega), f0 h' q1.1 x i (by omega)]
      · rw [fgc_ne (by omega) (by omega), g _ _ (by omega) (by omega)]; exact P2
      · rw [fgc_ne (by omega) (by omega), g _ _ (by omega) (by omega)]; exact P3.trans (f0 h' q1.1 _ _ (by omega))
      · refine nr_cg0 (fun y a b => ?_)
        rw [fgc_ne (by omega) (by omega), g _ _ (by omega) (by omega)]
        have := P4 y a b
        rw [show (171 : Int) + 3 + h 171 1 = 174 + h 171 1 by omega] at this
        exact this.trans (f0 h' q1.1 _ _ (by omega))
      · rw [fgc_ne (by omega) (by omega)]; exact q5.2.1
      · exact (nr_fr2 (fun i => fgc_ne (by omega) (by omega))).trans er
      · rw [g _ _ (by omega) (by omega)]
        exact F.2.1.2.1 p a b
    show K (some (mB (h'_2 6 0))) (fgc h'_2)
    refine am_rB (hK _ ⟨fun _ => A, fun z => absurd ⟨c2, nc⟩ z⟩) ?_
    rw [ifc_t c2, ifc_f nc, q5.2.1]
  · have k1 : h' 171 1 = h 171 1 := f0 h' q1.1 _ _ (by omega)
    exact am_rB (hK h' ⟨fun z => absurd (by omega) z.2, fun _ => q1.1⟩) (by rw [ifc_t c2, ifc_t (by omega)])
  · exact am_rB (hK h' ⟨fun z => absurd z.1 c2, fun _ => q1.1⟩) (ifc_f c2))
/-! 149 FactorNets.image -/
def C149 : am_K := fun as h K => am_a2 as (fun v0 v1 => am_oc 11 0 v0 (am_n v1 (fun k => (PI h ∧ (0 ≤ h 171 1 ∧ h 171 1 ≤ 20)) ∧ (∀ (h' : am_H), (((0 ≤ k ∧ k < 3) ∧ 0 < (h 6 0)) → ACi h h' k) ∧ (¬ ((0 ≤ k ∧ k < 3) ∧ 0 < (h 6 0)) → h' = h) → K (some (mB (ifc ((0 ≤ k ∧ k < 3) ∧ 0 < (h 6 0)) 0 (-2)))) (h')))))
theorem W149 {d : Nat} (H : ∀ (k : Int) (h : am_H) (K : Option am_V → am_H → Prop), (PI h ∧ (0 ≤ h 171 1 ∧ h 171 1 ≤ 20)) ∧ (∀ (h' : am_H), (((0 ≤ k ∧ k < 3) ∧ 0 < (h 6 0)) → ACi h h' k) ∧ (¬ ((0 ≤ k ∧ k < 3) ∧ 0 < (h 6 0)) → h' = h) → K (some (mB (ifc ((0 ≤ k ∧ k < 3) ∧ 0 < (h 6 0)) 0 (-2)))) (h')) → am_AT d 149 0 [some (mR 1 11 0 0), some (mB k), none] h K) : am_CS d 149 C149 := by
  refine am_CS_of (T := tb149) (mL := 3) (rk := 1) rfl (fun as h K hC => ?_)
  obtain ⟨v0, v1, rfl, hC0⟩ := am_a2_e hC
  obtain ⟨e0, hC1⟩ := am_oc_e hC0
  subst e0
  obtain ⟨k, rfl, hC2⟩ := am_n_e hC1
  refine ⟨Nat.le_of_ble_eq_true rfl, ?_⟩
  exact H k h K hC2
theorem T149_0 {R : Option am_V → am_H → Prop} {h : am_H} {k : Int} (t : ((0 ≤ k ∧ k < 3) → (((¬ h 6 0 = 0) → (((0 ≤ h (171 : Int) 1 ∧ h (171 : Int) 1 ≤ 21) ∧ ((am_pa k) + 24 ≤ (171 : Int) ∨ (171 : Int) + 24 ≤ (am_pa k))) ∧ (∀ (h' : am_H), (PBE h h' (am_pa k) (171 : Int)) → (((0 ≤ h' (am_pa k) 1 ∧ h' (am_pa k) 1 ≤ 20) ∧ ((6 : Int) + 1 < (am_pa k) ∨ (am_pa k) + 23 < (6 : Int))) ∧ (∀ (h'_1 : am_H), (PPS h' h'_1 (am_pa k) (6 : Int)) → (R (some (mB 0)) h'_1)))))) ∧ ((h 6 0 = 0) → (R (some (mB (-2))) h)))) ∧ ((¬ (0 ≤ k ∧ k < 3)) → (R (some (mB (-2))) h))) : am_AT 2 149 0 [some (mR 1 11 0 0), some (mB k), none] h R :=
  am_T (d := 1) (m := 149) (T := tb149) (mL := 3) (rk := 1) (cuts := []) (l := [(48, C48), (49, C49), (161, C161)]) rfl ⟨am_CS_d (by decide) C48_ok, am_CS_d (by decide) C49_ok, am_CS_d (by decide) C161_ok, trivial⟩ 26 (And.intro (rfl) (And.intro (fun c17 => And.intro (fun c18 => And.intro (((t).1 c17).1 c18).1 (fun z9_0 z9_1 => And.intro (((((t).1 c17).1 c18).2) z9_0 z9_1).1 (fun z10_0 z10_1 => ((((((t).1 c17).1 c18).2) z9_0 z9_1).2) z10_0 z10_1))) (fun c18 => ((t).1 c17).2 c18)) (fun c17 => (t).2 c17)))
theorem C149_ok : am_CS 2 149 C149 := W149 (fun k h K hb => by
  obtain ⟨⟨H, ha⟩, hK⟩ := hb
  have hn0 := (SV5_N H.1).1.1
  have pk : am_pa k = 499 + 24 * k := rfl
  refine T149_0 ⟨fun c1 => ⟨fun c2 => ⟨by omega, fun h' q3 => ⟨by have := q3.2.2.1; omega, fun h'_1 q4 => ?_⟩⟩, fun c2 => ?_⟩, fun c1 => ?_⟩
  · have k1 := q3.2.2.1
    obtain ⟨P1, P2, P3, P4⟩ := q4
    rw [k1] at P1 P2 P3 P4
    have f : ∀ x i, ¬ (am_pa k ≤ x ∧ x ≤ am_pa k + 23) → h'_1 x i = h' x i := fun x i a => P1 x i (by omega) (by omega) (by omega)
    have A : ACi h h'_1 k := by
      refine ⟨fun x i a => (f x i a).trans (q3.1 x i a), ⟨?_, P2⟩, fun i i0 i1 => ⟨?_, ?_⟩, ?_, ?_⟩
      · exact (P1 _ _ (by omega) (by omega) (by omega)).trans q3.2.1
      · exact (P1 _ _ (by omega) (by omega) (by omega)).trans (q3.2.2.2 i i0 i1).1
      · refine nr_cg0 (fun y a b => ?_)
        rw [P1 _ _ (by omega) (by omega) (by omega)]
        have := (q3.2.2.2 i i0 i1).2 y a b
        rw [show (171 : Int) + 3 + i = 174 + i by omega] at this
        exact this
      · exact P3.trans (q3.1 _ _ (by omega))
      · exact nr_cg0 (fun y a b => (P4 y a b).trans (q3.1 _ _ (by omega)))
    exact am_rB (hK h'_1 ⟨fun _ => A, fun z => absurd ⟨c1, by omega⟩ z⟩) (ifc_t ⟨c1, by omega⟩)
  · exact am_rB (hK h ⟨fun z => absurd z (fun w => by have := w.2; omega), fun _ => rfl⟩) (ifc_f (fun w => by have := w.2; omega))
  · exact am_rB (hK h ⟨fun z => absurd z (fun w => c1 w.1), fun _ => rfl⟩) (ifc_f (fun w => c1 w.1)))
/-! 150 FactorNets.back -/
def C150 : am_K := fun as h K => am_a2 as (fun v0 v1 => am_oc 11 0 v0 (am_n v1 (fun k => (PI h ∧ (0 ≤ h 171 1 ∧ h 171 1 ≤ 20) ∧ (∀ k9, 0 ≤ k9 → k9 < 3 → (0 ≤ h (am_pa k9) 1 ∧ h (am_pa k9) 1 ≤ 21) ∧ STG h (am_pa k9) (h (am_pa k9) 1))) ∧ (∀ (h' : am_H), (((0 ≤ k ∧ k < 3) ∧ ¬ h (am_pa k) 1 = 0) → ACb h h' k) ∧ (¬ ((0 ≤ k ∧ k < 3) ∧ ¬ h (am_pa k) 1 = 0) → h' = h) → K (some (mB (ifc (0 ≤ k ∧ k < 3) (ifc (h (am_pa k) 1 = 0) (-6) 0) (-2)))) (h')))))
theorem W150 {d : Nat} (H : ∀ (k : Int) (h : am_H) (K : Option am_V → am_H → Prop), (PI h ∧ (0 ≤ h 171 1 ∧ h 171 1 ≤ 20) ∧ (∀ k9, 0 ≤ k9 → k9 < 3 → (0 ≤ h (am_pa k9) 1 ∧ h (am_pa k9) 1 ≤ 21) ∧ STG h (am_pa k9) (h (am_pa k9) 1))) ∧ (∀ (h' : am_H), (((0 ≤ k ∧ k < 3) ∧ ¬ h (am_pa k) 1 = 0) → ACb h h' k) ∧ (¬ ((0 ≤ k ∧ k < 3) ∧ ¬ h (am_pa k) 1 = 0) → h' = h) → K (some (mB (ifc (0 ≤ k ∧ k < 3) (ifc (h (am_pa k) 1 = 0) (-6) 0) (-2)))) (h')) → am_AT d 150 0 [some (mR 1 11 0 0), some (mB k), none] h K) : am_CS d 150 C150 := by
  refine am_CS_of (T := tb150) (mL := 3) (rk := 1) rfl (fun as h K hC => ?_)
  obtain ⟨v0, v1, rfl, hC0⟩ := am_a2_e hC
  obtain ⟨e0, hC1⟩ := am_oc_e hC0
  subst e0
  obtain ⟨k, rfl, hC2⟩ := am_n_e hC1
  refine ⟨Nat.le_of_ble_eq_true rfl, ?_⟩
  exact H k h K hC2
theorem T150_0 {R : Option am_V → am_H → Prop} {h : am_H} {k : Int} (t : ((0 ≤ k ∧ k < 3) → (((¬ h (am_pa k) 1 = 0) → (((0 ≤ h (am_pa k) 1 ∧ h (am_pa k) 1 ≤ 21) ∧ ((171 : Int) + 24 ≤ (am_pa k) ∨ (am_pa k) + 24 ≤ (171 : Int))) ∧ (∀ (h' : am_H), (PBE h h' (171 : Int) (am_pa k)) → (((0 < h' (171 : Int) 1 ∧ h' (171 : Int) 1 ≤ 21) ∧ ((6 : Int) + 1 < (171 : Int) ∨ (171 : Int) + 23 < (6 : Int))) ∧ (∀ (h'_1 : am_H), (PPO h' h'_1 (171 : Int) (6 : Int)) → (R (some (mB 0)) (am_up (am_up (am_up (am_up (am_up (am_up h'_1 5 4 0) 5 5 0) 5 6 0) 0 16 0) 0 17 0) 0 18 (-2)))))))) ∧ ((h (am_pa k) 1 = 0) → (R (some (mB (-6))) h)))) ∧ ((¬ (0 ≤ k ∧ k < 3)) → (R (some (mB (-2))) h))) : am_AT 3 150 0 [some (mR 1 11 0 0), some (mB k), none] h R :=
  am_T (d := 2) (m := 150) (T := tb150) (mL := 3) (rk := 1) (cuts := []) (l := [(48, C48), (50, C50), (153, C153), (161, C161)]) rfl ⟨am_CS_d (by decide) C48_ok, am_CS_d (by decide) C50_ok, am_CS_d (by decide) C153_ok, am_CS_d (by decide) C161_ok, trivial⟩ 27 (And.intro (rfl) (And.intro (fun c19 => And.intro (fun c20 => And.intro (((t).1 c19).1 c20).1 (fun z11_0 z11_1 => And.intro (((((t).1 c19).1 c20).2) z11_0 z11_1).1 (fun z12_0 z12_1 => And.intro (rfl) (((((((t).1 c19).1 c20).2) z11_0 z11_1).2) z12_0 z12_1)))) (fun c20 => ((t).1 c19).2 c20)) (fun c19 => (t).2 c19)))
theorem C150_ok : am_CS 3 150 C150 := W150 (fun k h K hb => by
  obtain ⟨⟨H, ha, hI⟩, hK⟩ := hb
  have pk : am_pa k = 499 + 24 * k := rfl
  refine T150_0 ⟨fun c1 => ⟨fun c2 => ⟨by have := (hI k c1.1 c1.2).1; omega, fun h' q3 => ⟨by have := (hI k c1.1 c1.2).1; have := q3.2.2.1; omega, fun h'_1 q4 => ?_⟩⟩, fun c2 => ?_⟩, fun c1 => ?_⟩
  · have I := hI k c1.1 c1.2
    have k1 := q3.2.2.1
    obtain ⟨P1, P2, P3, P4⟩ := q4
    rw [k1] at P2 P3 P4
    have t := I.2 (h (am_pa k) 1 - 1) (by omega) (by omega)
    have r0 : h'_1 6 0 = h (am_pa k + 1) (h (am_pa k) 1 - 1) := P3.trans (q3.2.2.2 _ (by omega) (by omega)).1
    have r1 : nr h'_1 7 0 = nr h (am_pa k + 3 + (h (am_pa k) 1 - 1)) 0 := nr_cg0 (fun y a b => (P4 y a b).trans ((q3.2.2.2 _ (by omega) (by omega)).2 y a b))
    have A : ACb h (fgc h'_1) k := by
      refine ⟨fun x i a => ?_, ⟨?_, ?_⟩, fun i i0 i1 => ⟨?_, ?_⟩, ⟨?_, ?_⟩, FRS_of (fun p a b => ?_) (by rw [r0, r1]; exact t.1) (by rw [r0, r1]; exact t.2)⟩
      · rw [fgc_ne (by omega) (by omega), P1 x i (by omega) (by omega) (by omega)]; exact q3.1 x i (by omega)
      · rw [fgc_ne (by omega) (by omega), P1 _ _ (by omega) (by omega) (by omega)]; exact q3.2.1
      · rw [fgc_ne (by omega) (by omega)]; exact P2
      · rw [fgc_ne (by omega) (by omega), P1 _ _ (by omega) (by omega) (by omega)]; exact (q3.2.2.2 i i0 (by omega)).1
      · refine nr_cg0 (fun y a b => ?_)
        rw [fgc_ne (by omega) (by omega), P1 _ _ (by omega) (by omega) (by omega)]
        have := (q3.2.2.2 i i0 (by omega)).2 y a b
        rw [show (171 : Int) + 3 + i = 174 + i by omega] at this
        exact this
      · rw [fgc_ne (by omega) (by omega)]; exact r0
      · exact (nr_fr2 (fun i => fgc_ne (by omega) (by omega))).trans r1
      · rw [P1 _ _ (by omega) (by omega) (by omega), q3.1 _ _ (by omega)]; exact H.2.1 p a b
    exact am_rB (hK (fgc h'_1) ⟨fun _ => A, fun z => absurd ⟨c1, c2⟩ z⟩) (by rw [ifc_t c1, ifc_f c2])
  · exact am_rB (hK h ⟨fun z => absurd z (fun w => w.2 c2), fun _ => rfl⟩) (by rw [ifc_t c1, ifc_t c2])
  · exact am_rB (hK h ⟨fun z => absurd z (fun w => c1 w.1), fun _ => rfl⟩) (ifc_f c1))
theorem ACu_mk {h h1 g : am_H} {m : Int} (H : PI h) (ha : 0 ≤ h 171 1 ∧ h 171 1 ≤ 20) (hm : 0 ≤ m ∧ m < h 171 1) (hS : STG h 171 (h 171 1)) (f1 : ∀ x i, ¬ (x = 171 ∧ i = 1) → h1 x i = h x i) (e1 : h1 171 1 = m + 1) (P : PPO h1 g 171 6) : ACu h (fgc g) m := by
  obtain ⟨P1, P2, P3, P4⟩ := P
  rw [e1, show m + 1 - 1 = m by omega] at P2 P3 P4
  have t := hS m hm.1 hm.2
  have r0 : g 6 0 = h 172 m := P3.trans (f1 _ _ (by omega))
  have r1 : nr g 7 0 = nr h (174 + m) 0 := nr_cg0 (fun y a b => by
    have := P4 y a b
    rw [show (171 : Int) + 3 + m = 174 + m by omega] at this
    exact this.trans (f1 _ _ (by omega)))
  rw [show (171 : Int) + 3 + m = 174 + m by omega, show (171 : Int) + 1 = 172 from rfl] at t
  refine ⟨fun x i c => ?_, ?_, ⟨?_, ?_⟩, FRS_of (fun p a b => ?_) (by rw [r0, r1]; exact t.1) (by rw [r0, r1]; exact t.2)⟩
  · unfold CKp at c
    rw [fgc_ne (by omega) (by omega), P1 x i (by omega) (by omega) (by omega)]
    exact f1 x i (by omega)
  · rw [fgc_ne (by omega) (by omega)]; exact P2
  · rw [fgc_ne (by omega) (by omega)]; exact r0
  · exact (nr_fr2 (fun i => fgc_ne (by omega) (by omega))).trans r1
  · rw [P1 _ _ (by omega) (by omega) (by omega), f1 _ _ (by omega)]; exact H.2.1 p a b
/-! 151 FactorNets.undo -/
def C151 : am_K := fun as h K => am_a1 as (fun v0 => am_oc 11 0 v0 ((PI h ∧ (0 ≤ h 171 1 ∧ h 171 1 ≤ 20) ∧ STG h 171 (h 171 1)) ∧ (∀ (h' : am_H), ((0 < (h 6 0) ∧ ¬ h 171 1 = 0) → ACu h h' (h 171 1 - 1)) ∧ (¬ (0 < (h 6 0) ∧ ¬ h 171 1 = 0) → h' = h) → K (some (mB (ifc (0 < (h 6 0)) (ifc (h 171 1 = 0) (-5) (h 171 1 - 1)) (-2)))) (h'))))
theorem W151 {d : Nat} (H : ∀  (h : am_H) (K : Option am_V → am_H → Prop), (PI h ∧ (0 ≤ h 171 1 ∧ h 171 1 ≤ 20) ∧ STG h 171 (h 171 1)) ∧ (∀ (h' : am_H), ((0 < (h 6 0) ∧ ¬ h 171 1 = 0) → ACu h h' (h 171 1 - 1)) ∧ (¬ (0 < (h 6 0) ∧ ¬ h 171 1 = 0) → h' = h) → K (some (mB (ifc (0 < (h 6 0)) (ifc (h 171 1 = 0) (-5) (h 171 1 - 1)) (-2)))) (h')) → am_AT d 151 0 [some (mR 1 11 0 0)] h K) : am_CS d 151 C151 := by
  refine am_CS_of (T := tb151) (mL := 1) (rk := 1) rfl (fun as h K hC => ?_)
  obtain ⟨v0, rfl, hC0⟩ := am_a1_e hC
  obtain ⟨e0, hC1⟩ := am_oc_e hC0
  subst e0
  refine ⟨Nat.le_of_ble_eq_true rfl, ?_⟩
  exact H  h K hC1
theorem T151_0 {R : Option am_V → am_H → Prop} {h : am_H} (t : ((¬ h 6 0 = 0) → (((¬ h 171 1 = 0) → (((0 < h (171 : Int) 1 ∧ h (171 : Int) 1 ≤ 21) ∧ ((6 : Int) + 1 < (171 : Int) ∨ (171 : Int) + 23 < (6 : Int))) ∧ (∀ (h' : am_H), (PPO h h' (171 : Int) (6 : Int)) → (R (some (mB (h' 171 1))) (am_up (am_up (am_up (am_up (am_up (am_up h' 5 4 0) 5 5 0) 5 6 0) 0 16 0) 0 17 0) 0 18 (-2)))))) ∧ ((h 171 1 = 0) → (R (some (mB (-5))) h)))) ∧ ((h 6 0 = 0) → (R (some (mB (-2))) h))) : am_AT 3 151 0 [some (mR 1 11 0 0)] h R :=
  am_T (d := 2) (m := 151) (T := tb151) (mL := 1) (rk := 1) (cuts := []) (l := [(50, C50), (153, C153)]) rfl ⟨am_CS_d (by decide) C50_ok, am_CS_d (by decide) C153_ok, trivial⟩ 25 (And.intro (fun c21 => And.intro (fun c22 => And.intro (((t).1 c21).1 c22).1 (fun z13_0 z13_1 => And.intro (rfl) (((((t).1 c21).1 c22).2) z13_0 z13_1))) (fun c22 => ((t).1 c21).2 c22)) (fun c21 => (t).2 c21))
theorem C151_ok : am_CS 3 151 C151 := W151 (fun h K hb => by
  obtain ⟨⟨H, ha, hS⟩, hK⟩ := hb
  have hn0 := (SV5_N H.1).1.1
  refine T151_0 ⟨fun c1 => ⟨fun c2 => ⟨by omega, fun h' q3 => ?_⟩, fun c2 => ?_⟩, fun c1 => ?_⟩
  · have A := ACu_mk (m := h 171 1 - 1) H ha (by omega) hS (fun _ _ _ => rfl) (by omega) q3
    show K (some (mB (h' 171 1))) (fgc h')
    refine am_rB (hK _ ⟨fun _ => A, fun z => absurd ⟨by omega, c2⟩ z⟩) ?_
    rw [ifc_t (by omega), ifc_f c2, q3.2.1]
  · exact am_rB (hK h ⟨fun z => absurd z (fun w => w.2 c2), fun _ => rfl⟩) (by rw [ifc_t (by omega), ifc_t c2])
  · exact am_rB (hK h ⟨fun z => absurd z (fun w => by have := w.1; omega), fun _ => rfl⟩) (ifc_f (by omega)))
/-! 152 FactorNets.anew -/
def C152 : am_K := fun as h K => am_a1 as (fun v0 => am_oc 11 0 v0 ((PI h ∧ (0 ≤ h 171 1 ∧ h 171 1 ≤ 20) ∧ STG h 171 (h 171 1)) ∧ (∀ (h' : am_H), ((0 < (h 6 0) ∧ ¬ h 171 1 = 0) → ACu h h' 0) ∧ (¬ (0 < (h 6 0) ∧ ¬ h 171 1 = 0) → h' = h) → K (some (mB (ifc (0 < (h 6 0)) (h 171 1) (-2)))) (h'))))
theorem W152 {d : Nat} (H : ∀  (h : am_H) (K : Option am_V → am_H → Prop), (PI h ∧ (0 ≤ h 171 1 ∧ h 171 1 ≤ 20) ∧ STG h 171 (h 171 1)) ∧ (∀ (h' : am_H), ((0 < (h 6 0) ∧ ¬ h 171 1 = 0) → ACu h h' 0) ∧ (¬ (0 < (h 6 0) ∧ ¬ h 171 1 = 0) → h' = h) → K (some (mB (ifc (0 < (h 6 0)) (h 171 1) (-2)))) (h')) → am_AT d 152 0 [some (mR 1 11 0 0), none] h K) : am_CS d 152 C152 := by
  refine am_CS_of (T := tb152) (mL := 2) (rk := 1) rfl (fun as h K hC => ?_)
  obtain ⟨v0, rfl, hC0⟩ := am_a1_e hC
  obtain ⟨e0, hC1⟩ := am_oc_e hC0
  subst e0
  refine ⟨Nat.le_of_ble_eq_true rfl, ?_⟩
  exact H  h K hC1
theorem T152_0 {R : Option am_V → am_H → Prop} {h : am_H} (t : ((¬ h 6 0 = 0) → (((h 171 1 ≤ 0) → (R (some (mB (h 171 1))) h)) ∧ ((0 < h 171 1) → (((0 < (am_up h 171 1 1) (171 : Int) 1 ∧ (am_up h 171 1 1) (171 : Int) 1 ≤ 21) ∧ ((6 : Int) + 1 < (171 : Int) ∨ (171 : Int) + 23 < (6 : Int))) ∧ (∀ (h' : am_H), (PPO (am_up h 171 1 1) h' (171 : Int) (6 : Int)) → (R (some (mB (h 171 1))) (am_up (am_up (am_up (am_up (am_up (am_up h' 5 4 0) 5 5 0) 5 6 0) 0 16 0) 0 17 0) 0 18 (-2)))))))) ∧ ((h 6 0 = 0) → (R (some (mB (-2))) h))) : am_AT 3 152 0 [some (mR 1 11 0 0), none] h R :=
  am_T (d := 2) (m := 152) (T := tb152) (mL := 2) (rk := 1) (cuts := []) (l := [(50, C50), (153, C153)]) rfl ⟨am_CS_d (by decide) C50_ok, am_CS_d (by decide) C153_ok, trivial⟩ 29 (And.intro (fun c23 => And.intro (fun c24 => ((t).1 c23).1 c24) (fun c24 => And.intro (((t).1 c23).2 c24).1 (fun z14_0 z14_1 => And.intro (rfl) (((((t).1 c23).2 c24).2) z14_0 z14_1)))) (fun c23 => (t).2 c23))
theorem C152_ok : am_CS 3 152 C152 := W152 (fun h K hb => by
  obtain ⟨⟨H, ha, hS⟩, hK⟩ := hb
  have hn0 := (SV5_N H.1).1.1
  refine T152_0 ⟨fun c1 => ⟨fun c2 => ?_, fun c2 => ⟨by rw [am_up_eq]; omega, fun h' q3 => ?_⟩⟩, fun c1 => ?_⟩
  · exact am_rB (hK h ⟨fun z => absurd z (fun w => by have := w.2; omega), fun _ => rfl⟩) (ifc_t (by omega))
  · have A := ACu_mk (m := 0) H ha (by omega) hS (fun x i a => am_up_n2 a) (by rw [am_up_eq]; omega) q3
    show K (some (mB (h 171 1))) (fgc h')
    exact am_rB (hK _ ⟨fun _ => A, fun z => absurd ⟨by omega, by omega⟩ z⟩) (ifc_t (by omega))
  · exact am_rB (hK h ⟨fun z => absurd z (fun w => by have := w.1; omega), fun _ => rfl⟩) (ifc_f (by omega)))
