/-! ===== the class's search for a symmetry ===== -/
def HO8 (o : Int) : Prop := (o = 307 ∧ am_sv o = 5) ∨ (o = 444 ∧ am_sv o = 79)
def SVM (h : am_H) (v : Int) : Prop := NT (h (v + 1) 0) (nr h (v + 2) 0) ∧ CN (h (v + 1) 0) (nr h (v + 2) 0) ∧ MT h (v + 3) (h (v + 1) 0) (nr h (v + 2) 0)
noncomputable def svD (h : am_H) (v : Int) : Int → Int → Int := ds (ad (nr h (v + 2) 0))
def KIN (h : am_H) (o : Int) : Prop := ∀ y, 0 ≤ y → y < h (am_sv o + 1) 0 → (S20 (h (o + 24) y) ∧ bit (h (o + 24) y) y ∧ ∀ q, bit (h (o + 24) y) q → q < h (am_sv o + 1) 0) ∧ ∀ f, AU (h (am_sv o + 1) 0) (svD h (am_sv o)) f → ∀ q, 0 ≤ q → q < h (am_sv o + 1) 0 → bit (h (o + 24) y) q → bit (h (o + 24) y) (f q)
def KNQ (h g : am_H) (o : Int) : Prop := ∀ x i, x ≠ o + 24 → x ≠ o + 25 → g x i = h x i
def NRW (h g : am_H) (o q q2 p im : Int) : Prop := (∀ x i, x ≠ q2 → g x i = h x i) ∧ (∀ i, ¬ (0 ≤ i ∧ i < h (am_sv o + 1) 0) → g q2 i = h q2 i) ∧ ∀ y, 0 ≤ y → y < h (am_sv o + 1) 0 → g q2 y = iAnd (h q y) (shl (nr h (am_sv o + 2) 0) im (svD h (am_sv o) p y))
theorem SVM_fr {h g : am_H} {v : Int} (H : SVM h v) (e : ∀ x i, v ≤ x → x ≤ v + 45 → g x i = h x i) : SVM g v ∧ g (v + 1) 0 = h (v + 1) 0 ∧ nr g (v + 2) 0 = nr h (v + 2) 0 := by
  have e1 : g (v + 1) 0 = h (v + 1) 0 := e _ _ (by omega) (by omega)
  have e2 : nr g (v + 2) 0 = nr h (v + 2) 0 := nr_fr2 (fun i => e _ _ (by omega) (by omega))
  refine ⟨?_, e1, e2⟩
  unfold SVM
  rw [e1, e2]
  exact ⟨H.1, H.2.1, MT_fr H.1.2.1 H.2.2 (fun x i a b => e x i (by omega) (by omega))⟩
theorem mk_or {P : Int → Prop} {i : Int} (h0 : 0 ≤ i) (h1 : i < 20) (hp : P i) : iOr (mkb (fun y => y < i ∧ P y)) (iShl 1 i) = mkb (fun y => y < i + 1 ∧ P y) := mkb_eq (rg_or _ _) (fun j => by
  rw [bt_or, bt_mk, bt_1 h0 (by omega)]
  constructor
  · intro w
    rcases w with w | w
    · exact ⟨w.1, by have := w.2.1; omega, w.2.2⟩
    · rw [w]; exact ⟨by omega, by omega, hp⟩
  · intro w
    by_cases z : j = i
    · exact Or.inr z
    · exact Or.inl ⟨w.1, by have := w.2.1; omega, w.2.2⟩)
theorem mk_no {P : Int → Prop} {i : Int} (hp : ¬ P i) : mkb (fun y => y < i + 1 ∧ P y) = mkb (fun y => y < i ∧ P y) := mkb_congr (fun j _ _ => ⟨fun w => ⟨by
  have : j ≠ i := fun z => hp (z ▸ w.2)
  have := w.1
  omega, w.2⟩, fun w => ⟨by have := w.1; omega, w.2⟩⟩)
theorem mk_0 {P : Int → Prop} : mkb (fun y => y < 0 ∧ P y) = 0 := (mkb_eq (by omega) (fun j => ⟨fun w => absurd w bt_zero, fun w => by have := w.2.1; omega⟩)).symm
/-! 71 FactorNets$Search.withCount -/
def C71 : am_K := fun as h K => am_a3 as (fun v0 v1 v2 => am_o 8 v0 (fun o => am_o 3 v1 (fun net => am_n v2 (fun w => (0 ≤ h net 0 ∧ h net 0 ≤ 20) ∧ (K (some (mB (mkb (fun y9 => y9 < h net 0 ∧ h (o + 25) y9 = w)))) h)))))
theorem W71 {d : Nat} (H : ∀ (o : Int) (net : Int) (w : Int) (h : am_H) (K : Option am_V → am_H → Prop), (0 ≤ h net 0 ∧ h net 0 ≤ 20) ∧ (K (some (mB (mkb (fun y9 => y9 < h net 0 ∧ h (o + 25) y9 = w)))) h) → am_AT d 71 0 [some (mR 1 8 0 o), some (mR 1 3 0 net), some (mB w), none, none] h K) : am_CS d 71 C71 := by
  refine am_CS_of (T := tb71) (mL := 5) (rk := 1) rfl (fun as h K hC => ?_)
  obtain ⟨v0, v1, v2, rfl, hC0⟩ := am_a3_e hC
  obtain ⟨o, rfl, hC1⟩ := am_o_e hC0
  obtain ⟨net, rfl, hC2⟩ := am_o_e hC1
  obtain ⟨w, rfl, hC3⟩ := am_n_e hC2
  refine ⟨Nat.le_of_ble_eq_true rfl, ?_⟩
  exact H o net w h K hC3
theorem T71_0 {R : Option am_V → am_H → Prop} {h : am_H} {o : Int} {net : Int} {w : Int} (t : am_AT 1 71 5 [some (mR 1 8 0 o), some (mR 1 3 0 net), some (mB w), some (mI 0), some (mI 0)] h R) : am_AT 1 71 0 [some (mR 1 8 0 o), some (mR 1 3 0 net), some (mB w), none, none] h R :=
  am_T (d := 0) (m := 71) (T := tb71) (mL := 5) (rk := 1) (cuts := [(5, [1, 1, 1, 2, 2])]) (l := []) rfl trivial 8 (t)
theorem T71_5 {R : Option am_V → am_H → Prop} {h : am_H} {o : Int} {net : Int} {w : Int} {x3 : Int} {x4 : Int} (t : (R32 x4) ∧ (((h net 0 ≤ x4) → ((R32 x3) ∧ (R (some (mB x3)) h))) ∧ ((x4 < h net 0) → ((0 ≤ x4 ∧ x4 < 20) ∧ (((¬ h (o + 25) x4 = w) → (am_AT 1 71 5 [some (mR 1 8 0 o), some (mR 1 3 0 net), some (mB w), some (mI x3), some (mI (x4 + 1))] h R)) ∧ ((h (o + 25) x4 = w) → (am_AT 1 71 5 [some (mR 1 8 0 o), some (mR 1 3 0 net), some (mB w), some (mI (iOr x3 (iShl 1 x4))), some (mI (x4 + 1))] h R))))))) : am_AT 1 71 5 [some (mR 1 8 0 o), some (mR 1 3 0 net), some (mB w), some (mI x3), some (mI x4)] h R :=
  am_T (d := 0) (m := 71) (T := tb71) (mL := 5) (rk := 1) (cuts := [(5, [1, 1, 1, 2, 2])]) (l := []) rfl trivial 22 (And.intro (t).1 (And.intro (fun c1 => And.intro (((t).2).1 c1).1 ((((t).2).1 c1).2)) (fun c1 => And.intro (((t).2).2 c1).1 (And.intro (fun c2 => ((((t).2).2 c1).2).1 c2) (fun c2 => ((((t).2).2 c1).2).2 c2)))))
theorem L71 {K : Option am_V → am_H → Prop} {h : am_H} {o net w : Int} (hn : 0 ≤ h net 0 ∧ h net 0 ≤ 20) (hK : K (some (mB (mkb (fun y9 => y9 < h net 0 ∧ h (o + 25) y9 = w)))) h) : ∀ i, 0 ≤ i → i ≤ h net 0 → am_AT 1 71 5 [some (mR 1 8 0 o), some (mR 1 3 0 net), some (mB w), some (mI (mkb (fun y9 => y9 < i ∧ h (o + 25) y9 = w))), some (mI i)] h K := by
  refine lp (h net 0) (fun i ih i0 i1 => ?_)
  have mr := mkb_r (fun y9 => y9 < i ∧ h (o + 25) y9 = w)
  refine T71_5 ⟨by omega, ⟨fun c1 => ⟨mr, ?_⟩, fun c1 => ⟨by omega, ⟨fun c2 => ?_, fun c2 => ?_⟩⟩⟩⟩
  · rw [show i = h net 0 by omega]
    exact hK
  · have e := mk_no (P := fun y9 => h (o + 25) y9 = w) (i := i) c2
    have := ih c1 (by omega) (by omega)
    rw [e] at this
    exact this
  · have e := mk_or (P := fun y9 => h (o + 25) y9 = w) (i := i) i0 (by omega) c2
    rw [e]
    exact ih c1 (by omega) (by omega)
theorem C71_ok : am_CS 1 71 C71 := W71 (fun o net w h K hb => T71_0 (by
  have := L71 (o := o) (w := w) hb.1 hb.2 0 (by omega) hb.1.1
  rw [mk_0 (P := fun y9 => h (o + 25) y9 = w)] at this
  exact this))
/-! 70 FactorNets$Search.splitBy -/
def C70 : am_K := fun as h K => am_a3 as (fun v0 v1 v2 => am_o 8 v0 (fun o => am_o 3 v1 (fun net => am_n v2 (fun st => (HO8 o ∧ net = am_sv o + 1 ∧ (NT (h net 0) (nr h (net + 1) 0) ∧ CN (h net 0) (nr h (net + 1) 0)) ∧ S20 st ∧ (∀ f9, AU (h net 0) (svD h (am_sv o)) f9 → ∀ q9, 0 ≤ q9 → q9 < h net 0 → bit st q9 → bit st (f9 q9)) ∧ KIN h o) ∧ (∀ (h' : am_H) (c9 : Prop), KNQ h h' o ∧ KIN h' o → K (some (mP (c9))) (h'))))))
theorem W70 {d : Nat} (H : ∀ (o : Int) (net : Int) (st : Int) (h : am_H) (K : Option am_V → am_H → Prop), (HO8 o ∧ net = am_sv o + 1 ∧ (NT (h net 0) (nr h (net + 1) 0) ∧ CN (h net 0) (nr h (net + 1) 0)) ∧ S20 st ∧ (∀ f9, AU (h net 0) (svD h (am_sv o)) f9 → ∀ q9, 0 ≤ q9 → q9 < h net 0 → bit st q9 → bit st (f9 q9)) ∧ KIN h o) ∧ (∀ (h' : am_H) (c9 : Prop), KNQ h h' o ∧ KIN h' o → K (some (mP (c9))) (h')) → am_AT d 70 0 [some (mR 1 8 0 o), some (mR 1 3 0 net), some (mB st), none, none, none] h K) : am_CS d 70 C70 := by
  refine am_CS_of (T := tb70) (mL := 6) (rk := 4) rfl (fun as h K hC => ?_)
  obtain ⟨v0, v1, v2, rfl, hC0⟩ := am_a3_e hC
  obtain ⟨o, rfl, hC1⟩ := am_o_e hC0
  obtain ⟨net, rfl, hC2⟩ := am_o_e hC1
  obtain ⟨st, rfl, hC3⟩ := am_n_e hC2
  refine ⟨Nat.le_of_ble_eq_true rfl, ?_⟩
  exact H o net st h K hC3
theorem T70_0 {R : Option am_V → am_H → Prop} {h : am_H} {o : Int} {net : Int} {st : Int} (t : am_AT 2 70 2 [some (mR 1 8 0 o), some (mR 1 3 0 net), some (mB st), some (mI 0), none, none] h R) : am_AT 2 70 0 [some (mR 1 8 0 o), some (mR 1 3 0 net), some (mB st), none, none, none] h R :=
  am_T (d := 1) (m := 70) (T := tb70) (mL := 6) (rk := 4) (cuts := [(2, [1, 1, 1, 2, 0, 0]), (38, [1, 1, 0, 2, 2, 0])]) (l := [(71, C71), (317, C317)]) rfl ⟨am_CS_d (by decide) C71_ok, am_CS_d (by decide) C317_ok, trivial⟩ 6 (t)
theorem T70_2 {R : Option am_V → am_H → Prop} {h : am_H} {o : Int} {net : Int} {st : Int} {x3 : Int} (t : (R32 x3) ∧ (((h net 0 ≤ x3) → (am_AT 2 70 38 [some (mR 1 8 0 o), some (mR 1 3 0 net), none, some (mI 0), some (mI 0), none] h R)) ∧ ((x3 < h net 0) → ((0 ≤ x3 ∧ x3 < 20) ∧ ((0 ≤ (iAnd (h (net + 1) x3) st) ∧ (iAnd (h (net + 1) x3) st) < 2147483648) ∧ ((0 ≤ x3 ∧ x3 < 20) ∧ (am_AT 2 70 2 [some (mR 1 8 0 o), some (mR 1 3 0 net), some (mB st), some (mI (x3 + 1)), none, none] (am_up h (o + 25) x3 (iPop (iAnd (h (net + 1) x3) st))) R))))))) : am_AT 2 70 2 [some (mR 1 8 0 o), some (mR 1 3 0 net), some (mB st), some (mI x3), none, none] h R :=
  am_T (d := 1) (m := 70) (T := tb70) (mL := 6) (rk := 4) (cuts := [(2, [1, 1, 1, 2, 0, 0]), (38, [1, 1, 0, 2, 2, 0])]) (l := [(71, C71), (317, C317)]) rfl ⟨am_CS_d (by decide) C71_ok, am_CS_d (by decide) C317_ok, trivial⟩ 21 (And.intro (t).1 (And.intro (fun c3 => ((t).2).1 c3) (fun c3 => And.intro (((t).2).2 c3).1 (And.intro ((((t).2).2 c3).2).1 (And.intro (((((t).2).2 c3).2).2).1 ((((((t).2).2 c3).2).2).2))))))
theorem T70_38 {R : Option am_V → am_H → Prop} {h : am_H} {o : Int} {net : Int} {x3 : Int} {x4 : Int} (t : (R32 x4) ∧ (((h net 0 ≤ x4) → ((x3 = 0 ∨ x3 = 1) ∧ (R (some (mP (x3 = 1))) h))) ∧ ((x4 < h net 0) → ((0 ≤ x4 ∧ x4 < 20) ∧ ((0 ≤ x4 ∧ x4 < 20) ∧ ((0 ≤ h net 0 ∧ h net 0 ≤ 20) ∧ ((0 ≤ x4 ∧ x4 < 20) ∧ (((iAnd (h (o + 24) x4) (mkb (fun y9 => y9 < h net 0 ∧ h (o + 25) y9 = (h (o + 25) x4))) = h (o + 24) x4) → (am_AT 2 70 38 [some (mR 1 8 0 o), some (mR 1 3 0 net), none, some (mI x3), some (mI (x4 + 1)), none] h R)) ∧ ((¬ iAnd (h (o + 24) x4) (mkb (fun y9 => y9 < h net 0 ∧ h (o + 25) y9 = (h (o + 25) x4))) = h (o + 24) x4) → ((0 ≤ x4 ∧ x4 < 20) ∧ (am_AT 2 70 38 [some (mR 1 8 0 o), some (mR 1 3 0 net), none, some (mI 1), some (mI (x4 + 1)), none] (am_up h (o + 24) x4 (iAnd (h (o + 24) x4) (mkb (fun y9 => y9 < h net 0 ∧ h (o + 25) y9 = (h (o + 25) x4))))) R))))))))))) : am_AT 2 70 38 [some (mR 1 8 0 o), some (mR 1 3 0 net), none, some (mI x3), some (mI x4), none] h R :=
  am_T (d := 1) (m := 70) (T := tb70) (mL := 6) (rk := 4) (cuts := [(2, [1, 1, 1, 2, 0, 0]), (38, [1, 1, 0, 2, 2, 0])]) (l := [(71, C71), (317, C317)]) rfl ⟨am_CS_d (by decide) C71_ok, am_CS_d (by decide) C317_ok, trivial⟩ 36 (And.intro (t).1 (And.intro (fun c4 => And.intro (((t).2).1 c4).1 ((((t).2).1 c4).2)) (fun c4 => And.intro (((t).2).2 c4).1 (And.intro ((((t).2).2 c4).2).1 (And.intro (((((t).2).2 c4).2).2).1 (And.intro ((((((t).2).2 c4).2).2).2).1 (And.intro (fun c5 => (((((((t).2).2 c4).2).2).2).2).1 c5) (fun c5 => And.intro ((((((((t).2).2 c4).2).2).2).2).2 c5).1 (((((((((t).2).2 c4).2).2).2).2).2 c5).2)))))))))
theorem KN_n {h g : am_H} {o : Int} (ho : HO8 o) (F : KNQ h g o) : g (am_sv o + 1) 0 = h (am_sv o + 1) 0 ∧ nr g (am_sv o + 2) 0 = nr h (am_sv o + 2) 0 ∧ svD g (am_sv o) = svD h (am_sv o) := by
  unfold HO8 at ho
  have e2 : nr g (am_sv o + 2) 0 = nr h (am_sv o + 2) 0 := nr_fr2 (fun i => F _ _ (by omega) (by omega))
  refine ⟨F _ _ (by omega) (by omega), e2, ?_⟩
  unfold svD
  rw [e2]
theorem L70b {K : Option am_V → am_H → Prop} {h : am_H} {o st : Int} (ho : HO8 o) (hN : NT (h (am_sv o + 1) 0) (nr h (am_sv o + 2) 0)) (hC : CN (h (am_sv o + 1) 0) (nr h (am_sv o + 2) 0)) (sS : S20 st) (hst : ∀ f9, AU (h (am_sv o + 1) 0) (svD h (am_sv o)) f9 → ∀ q9, 0 ≤ q9 → q9 < h (am_sv o + 1) 0 → bit st q9 → bit st (f9 q9)) (hK : ∀ (g : am_H) (c9 : Prop), KNQ h g o ∧ KIN g o → K (some (mP c9)) g) : ∀ i, ∀ (g : am_H) (x : Int), 0 ≤ i → i ≤ h (am_sv o + 1) 0 → (x = 0 ∨ x = 1) → KNQ h g o → KIN g o → (∀ y, 0 ≤ y → y < h (am_sv o + 1) 0 → g (o + 25) y = iPop (iAnd (nr h (am_sv o + 2) 0 y) st)) → am_AT 2 70 38 [some (mR 1 8 0 o), some (mR 1 3 0 (am_sv o + 1)), none, some (mI x), some (mI i), none] g K := by
  have hn := hN.2.1
  have hn0 := hN.1
  have ho' := ho
  unfold HO8 at ho'
  have cnt : ∀ f, AU (h (am_sv o + 1) 0) (svD h (am_sv o)) f → ∀ q, 0 ≤ q → q < h (am_sv o + 1) 0 → iPop (iAnd (nr h (am_sv o + 2) 0 (f q)) st) = iPop (iAnd (nr h (am_sv o + 2) 0 q) st) := fun f F q q0 q1 => by
    have e : ∀ p, iPop (iAnd (nr h (am_sv o + 2) 0 p) st) = ct (fun z => ad (nr h (am_sv o + 2) 0) p z ∧ bit st z) 20 := fun p => by
      have s : S20 (iAnd (nr h (am_sv o + 2) 0 p) st) := S20_of (rg_and _ _) (fun k hk => (S20_in sS (bt_and.mp hk).2).2)
      rw [iPop_20 s]
      exact ct_congr 20 (fun k _ => bt_and)
    rw [e, e]
    exact AU_nb hN hC (fun g G z z0 z1 w => hst g G z z0 z1 w) F ⟨q0, q1⟩
  refine lp (h (am_sv o + 1) 0) (fun i ih g x i0 i1 hx F Kg E => ?_)
  have n := KN_n ho F
  have en : g (am_sv o + 1) 0 = h (am_sv o + 1) 0 := n.1
  refine T70_38 ⟨by omega, ⟨fun c1 => ⟨by omega, ?_⟩, fun c1 => ⟨by omega, ⟨by omega, ⟨by rw [en]; omega, ⟨by omega, ⟨fun c2 => ?_, fun c2 => ⟨by omega, ?_⟩⟩⟩⟩⟩⟩⟩⟩
  · exact hK g _ ⟨F, Kg⟩
  · rw [en] at c1
    exact ih c1 g x (by omega) (by omega) hx F Kg E
  · rw [en] at c1
    rw [en]
    refine ih c1 _ 1 (by omega) (by omega) (Or.inr rfl) (fun a j b d => by rw [am_up_ne b]; exact F a j b d) ?_ (fun y a b => by rw [am_up_n2 (by omega)]; exact E y a b)
    have F2 : KNQ h (am_up g (o + 24) i (iAnd (g (o + 24) i) (mkb (fun y9 => y9 < h (am_sv o + 1) 0 ∧ g (o + 25) y9 = g (o + 25) i)))) o := fun a j b d => by rw [am_up_ne b]; exact F a j b d
    have n2 := KN_n ho F2
    intro y y0 y1
    rw [n2.1] at y1
    rw [n2.1, n2.2.2]
    have ky := Kg y y0 (by rw [en]; exact y1)
    rw [n.1, n.2.2] at ky
    by_cases e : y = i
    · rw [e, am_up_eq]
      rw [e] at ky
      refine ⟨⟨S20_and ky.1.1, bt_and.mpr ⟨ky.1.2.1, bt_mk.mpr ⟨by omega, by omega, rfl⟩⟩, fun q hq => ky.1.2.2 q (bt_and.mp hq).1⟩, fun f FF q q0 q1 w => ?_⟩
      have wb := bt_mk.mp (bt_and.mp w).2
      have fr := FF.1 q q0 q1
      refine bt_and.mpr ⟨ky.2 f FF q q0 q1 (bt_and.mp w).1, bt_mk.mpr ⟨by omega, fr.2, ?_⟩⟩
      have w2 := wb.2.2
      rw [E q q0 q1] at w2
      rw [E (f q) fr.1 fr.2, cnt f FF q q0 q1]
      exact w2
    · rw [am_up_n2 (by omega)]; exact ky
theorem L70 {K : Option am_V → am_H → Prop} {h : am_H} {o st : Int} (ho : HO8 o) (hN : NT (h (am_sv o + 1) 0) (nr h (am_sv o + 2) 0)) (hC : CN (h (am_sv o + 1) 0) (nr h (am_sv o + 2) 0)) (sS : S20 st) (hst : ∀ f9, AU (h (am_sv o + 1) 0) (svD h (am_sv o)) f9 → ∀ q9, 0 ≤ q9 → q9 < h (am_sv o + 1) 0 → bit st q9 → bit st (f9 q9)) (hK : ∀ (g : am_H) (c9 : Prop), KNQ h g o ∧ KIN g o → K (some (mP c9)) g) : ∀ i, ∀ (g : am_H), 0 ≤ i → i ≤ h (am_sv o + 1) 0 → KNQ h g o → KIN g o → (∀ y, 0 ≤ y → y < i → g (o + 25) y = iPop (iAnd (nr h (am_sv o + 2) 0 y) st)) → am_AT 2 70 2 [some (mR 1 8 0 o), some (mR 1 3 0 (am_sv o + 1)), some (mB st), some (mI i), none, none] g K := by
  have hn := hN.2.1
  have hn0 := hN.1
  have ho' := ho
  unfold HO8 at ho'
  refine lp (h (am_sv o + 1) 0) (fun i ih g i0 i1 F Kg E => ?_)
  have n := KN_n ho F
  have en : g (am_sv o + 1) 0 = h (am_sv o + 1) 0 := n.1
  have er : i < 20 → g (am_sv o + 1 + 1) i = nr h (am_sv o + 2) 0 i := fun a => by rw [show am_sv o + 1 + 1 = am_sv o + 2 by omega, ← n.2.1, nr_in0 i0 a]
  have sr : S20 (iAnd (nr h (am_sv o + 2) 0 i) st) := S20_of (rg_and _ _) (fun k hk => (S20_in sS (bt_and.mp hk).2).2)
  have sr1 := sr.1
  have sr2 := sr.2
  refine T70_2 ⟨by omega, ⟨fun c1 => ?_, fun c1 => ⟨by omega, ⟨by rw [er (by omega)]; omega, ⟨by omega, ?_⟩⟩⟩⟩⟩
  · exact L70b ho hN hC sS hst hK 0 g 0 (by omega) (by omega) (Or.inl rfl) F Kg (fun y a b => E y a (by omega))
  · rw [er (by omega)]
    refine ih (by omega) _ (by omega) (by omega) (fun a j b d => by rw [am_up_ne d]; exact F a j b d) ?_ (fun y a b => ?_)
    · have F2 : KNQ h (am_up g (o + 25) i (iPop (iAnd (nr h (am_sv o + 2) 0 i) st))) o := fun a j b d => by rw [am_up_ne d]; exact F a j b d
      have n2 := KN_n ho F2
      intro y y0 y1
      rw [n2.1] at y1
      rw [n2.1, n2.2.2, am_up_ne (by omega)]
      have ky := Kg y y0 (by rw [en]; exact y1)
      rw [n.1, n.2.2] at ky
      exact ky
    · by_cases e : y = i
      · rw [e, am_up_eq]
      · rw [am_up_n2 (by omega)]; exact E y a (by omega)
theorem C70_ok : am_CS 2 70 C70 := W70 (fun o net st h K hb => by
  obtain ⟨⟨ho, e, hNC, sS, hst, Kh⟩, hK⟩ := hb
  subst e
  rw [show am_sv o + 1 + 1 = am_sv o + 2 by omega] at hNC
  exact T70_0 (L70 ho hNC.1 hNC.2 sS hst hK 0 h (by omega) hNC.1.1 (fun _ _ _ _ => rfl) Kh (fun y a b => by omega)))
/-! 72 FactorNets$Search.begin -/
def C72 : am_K := fun as h K => am_a1 as (fun v0 => am_o 8 v0 (fun o => K (none) (am_cp h (o + 24) 0 (o + 3) 0 20)))
theorem W72 {d : Nat} (H : ∀ (o : Int) (h : am_H) (K : Option am_V → am_H → Prop), K (none) (am_cp h (o + 24) 0 (o + 3) 0 20) → am_AT d 72 0 [some (mR 1 8 0 o)] h K) : am_CS d 72 C72 := by
  refine am_CS_of (T := tb72) (mL := 1) (rk := 0) rfl (fun as h K hC => ?_)
  obtain ⟨v0, rfl, hC0⟩ := am_a1_e hC
  obtain ⟨o, rfl, hC1⟩ := am_o_e hC0
  refine ⟨Nat.le_of_ble_eq_true rfl, ?_⟩
  exact H o h K hC1
theorem T72_0 {R : Option am_V → am_H → Prop} {h : am_H} {o : Int} (t : R none (am_cp h (o + 24) 0 (((o + 2) + 1) + 0) 0 20)) : am_AT 1 72 0 [some (mR 1 8 0 o)] h R :=
  am_T (d := 0) (m := 72) (T := tb72) (mL := 1) (rk := 0) (cuts := []) (l := []) rfl trivial 15 (And.intro (⟨by decide, by decide⟩) (And.intro (⟨by decide, by decide, by decide, by decide, by decide⟩) (t)))
theorem C72_ok : am_CS 1 72 C72 := W72 (fun o h K hb => T72_0 (by
  rw [show o + 2 + 1 + 0 = o + 3 by omega]
  exact hb))
/-! 74 FactorNets$Search.narrow -/
def C74 : am_K := fun as h K => am_a5 as (fun v0 v1 v2 v3 v4 => am_o 8 v0 (fun o => am_r 2 20 0 v1 (fun q => am_r 2 20 0 v2 (fun q2 => am_n v3 (fun p => am_n v4 (fun im => (HO8 o ∧ SVM h (am_sv o) ∧ (0 ≤ p ∧ p < (h (am_sv o + 1) 0)) ∧ (0 ≤ im ∧ im < (h (am_sv o + 1) 0)) ∧ (o < q ∧ o < q2)) ∧ (∀ (h' : am_H), NRW h h' o q q2 p im → K (none) (h'))))))))
theorem W74 {d : Nat} (H : ∀ (o : Int) (q : Int) (q2 : Int) (p : Int) (im : Int) (h : am_H) (K : Option am_V → am_H → Prop), (HO8 o ∧ SVM h (am_sv o) ∧ (0 ≤ p ∧ p < (h (am_sv o + 1) 0)) ∧ (0 ≤ im ∧ im < (h (am_sv o + 1) 0)) ∧ (o < q ∧ o < q2)) ∧ (∀ (h' : am_H), NRW h h' o q q2 p im → K (none) (h')) → am_AT d 74 0 [some (mR 1 8 0 o), some (mR 2 20 0 q), some (mR 2 20 0 q2), some (mB p), some (mB im), none, none, none] h K) : am_CS d 74 C74 := by
  refine am_CS_of (T := tb74) (mL := 8) (rk := 0) rfl (fun as h K hC => ?_)
  obtain ⟨v0, v1, v2, v3, v4, rfl, hC0⟩ := am_a5_e hC
  obtain ⟨o, rfl, hC1⟩ := am_o_e hC0
  obtain ⟨q, rfl, hC2⟩ := am_r_e hC1
  obtain ⟨q2, rfl, hC3⟩ := am_r_e hC2
  obtain ⟨p, rfl, hC4⟩ := am_n_e hC3
  obtain ⟨im, rfl, hC5⟩ := am_n_e hC4
  refine ⟨Nat.le_of_ble_eq_true rfl, ?_⟩
  exact H o q q2 p im h K hC5
theorem T74_0 {R : Option am_V → am_H → Prop} {h : am_H} {o : Int} {q : Int} {q2 : Int} {p : Int} {im : Int} (t : (0 ≤ p ∧ p < 20) ∧ ((0 ≤ im ∧ im < 20) ∧ (am_AT 1 74 32 [some (mR 1 8 0 o), some (mR 2 20 0 q), some (mR 2 20 0 q2), none, none, some (mR 2 20 0 (((((am_sv o) + 3) + 1) + 1) + p)), some (mR 2 20 0 (((((am_sv o) + 3) + 22) + 1) + im)), some (mI 0)] h R))) : am_AT 1 74 0 [some (mR 1 8 0 o), some (mR 2 20 0 q), some (mR 2 20 0 q2), some (mB p), some (mB im), none, none, none] h R :=
  am_T (d := 0) (m := 74) (T := tb74) (mL := 8) (rk := 0) (cuts := [(32, [1, 1, 1, 0, 0, 1, 1, 2])]) (l := []) rfl trivial 20 (And.intro (t).1 (And.intro ((t).2).1 (((t).2).2)))
theorem T74_32 {R : Option am_V → am_H → Prop} {h : am_H} {o : Int} {q : Int} {q2 : Int} {a5 : Int} {a6 : Int} {x7 : Int} (t : (R32 x7) ∧ (((h ((am_sv o) + 1) 0 ≤ x7) → (R none h)) ∧ ((x7 < h ((am_sv o) + 1) 0) → ((0 ≤ x7 ∧ x7 < 20) ∧ ((0 ≤ x7 ∧ x7 < 20) ∧ ((0 ≤ h a5 x7 ∧ h a5 x7 < 20) ∧ ((0 ≤ x7 ∧ x7 < 20) ∧ (am_AT 1 74 32 [some (mR 1 8 0 o), some (mR 2 20 0 q), some (mR 2 20 0 q2), none, none, some (mR 2 20 0 a5), some (mR 2 20 0 a6), some (mI (x7 + 1))] (am_up h q2 x7 (iAnd (h q x7) (h a6 (h a5 x7)))) R)))))))) : am_AT 1 74 32 [some (mR 1 8 0 o), some (mR 2 20 0 q), some (mR 2 20 0 q2), none, none, some (mR 2 20 0 a5), some (mR 2 20 0 a6), some (mI x7)] h R :=
  am_T (d := 0) (m := 74) (T := tb74) (mL := 8) (rk := 0) (cuts := [(32, [1, 1, 1, 0, 0, 1, 1, 2])]) (l := []) rfl trivial 24 (And.intro (t).1 (And.intro (fun c6 => ((t).2).1 c6) (fun c6 => And.intro (((t).2).2 c6).1 (And.intro ((((t).2).2 c6).2).1 (And.intro (((((t).2).2 c6).2).2).1 (And.intro ((((((t).2).2 c6).2).2).2).1 (((((((t).2).2 c6).2).2).2).2)))))))
theorem L74 {K : Option am_V → am_H → Prop} {h : am_H} {o q q2 p im : Int} (ho : HO8 o) (S : SVM h (am_sv o)) (hp : 0 ≤ p ∧ p < h (am_sv o + 1) 0) (hi : 0 ≤ im ∧ im < h (am_sv o + 1) 0) (hq : o < q ∧ o < q2) (hK : ∀ g, NRW h g o q q2 p im → K none g) : ∀ i, ∀ g : am_H, 0 ≤ i → i ≤ h (am_sv o + 1) 0 → ((∀ x j, x ≠ q2 → g x j = h x j) ∧ (∀ j, ¬ (0 ≤ j ∧ j < i) → g q2 j = h q2 j) ∧ ∀ y, 0 ≤ y → y < i → g q2 y = iAnd (h q y) (shl (nr h (am_sv o + 2) 0) im (svD h (am_sv o) p y))) → am_AT 1 74 32 [some (mR 1 8 0 o), some (mR 2 20 0 q), some (mR 2 20 0 q2), none, none, some (mR 2 20 0 (am_sv o + 3 + 1 + 1 + p)), some (mR 2 20 0 (am_sv o + 3 + 22 + 1 + im)), some (mI i)] g K := by
  unfold HO8 at ho
  have hn := S.1.2.1
  refine lp (h (am_sv o + 1) 0) (fun i ih g i0 i1 G => ?_)
  have en : g (am_sv o + 1) 0 = h (am_sv o + 1) 0 := G.1 _ _ (by omega)
  have e1 : i < h (am_sv o + 1) 0 → g (am_sv o + 3 + 1 + 1 + p) i = svD h (am_sv o) p i := fun a => by
    rw [G.1 _ _ (by omega)]
    exact (S.2.2 p hp.1 hp.2).1 i i0 a
  have d : i < h (am_sv o + 1) 0 → 0 ≤ svD h (am_sv o) p i ∧ svD h (am_sv o) p i < 20 := fun a => by
    have := ds_r S.1 S.2.1 hp ⟨i0, a⟩
    unfold svD
    omega
  have e2 : i < h (am_sv o + 1) 0 → g (am_sv o + 3 + 22 + 1 + im) (svD h (am_sv o) p i) = shl (nr h (am_sv o + 2) 0) im (svD h (am_sv o) p i) := fun a => by
    rw [G.1 _ _ (by omega)]
    exact (S.2.2 im hi.1 hi.2).2 _ (d a).1 (d a).2
  have e3 : g q i = h q i := by
    by_cases z : q = q2
    · rw [z]; exact G.2.1 i (by omega)
    · exact G.1 _ _ z
  refine T74_32 ⟨by omega, ⟨fun c1 => ?_, fun c1 => ⟨by omega, ⟨by omega, ⟨by rw [en] at c1; rw [e1 c1]; exact d c1, ⟨by omega, ?_⟩⟩⟩⟩⟩⟩
  · rw [show i = h (am_sv o + 1) 0 by omega] at G
    exact hK g G
  · rw [en] at c1
    rw [e1 c1, e2 c1, e3]
    refine ih c1 _ (by omega) (by omega) ⟨fun x j a => by rw [am_up_ne a]; exact G.1 x j a, fun j a => by rw [am_up_n2 (by omega)]; exact G.2.1 j (by omega), fun y a b => ?_⟩
    by_cases e : y = i
    · rw [e, am_up_eq]
    · rw [am_up_n2 (by omega)]; exact G.2.2 y a (by omega)
theorem C74_ok : am_CS 1 74 C74 := W74 (fun o q q2 p im h K hb => by
  obtain ⟨⟨ho, S, hp, hi, hq⟩, hK⟩ := hb
  have hn := S.1.2.1
  refine T74_0 ⟨by omega, ⟨by omega, ?_⟩⟩
  · exact L74 ho S hp hi hq hK 0 h (by omega) S.1.1 ⟨fun _ _ _ => rfl, fun _ _ => rfl, fun y a b => by omega⟩)
/-! 73 FactorNets$Search.pin -/
def C73 : am_K := fun as h K => am_a3 as (fun v0 v1 v2 => am_o 8 v0 (fun o => am_n v1 (fun p => am_n v2 (fun im => (HO8 o ∧ SVM h (am_sv o) ∧ (0 ≤ p ∧ p < (h (am_sv o + 1) 0)) ∧ (0 ≤ im ∧ im < (h (am_sv o + 1) 0))) ∧ (∀ (h' : am_H), NRW h h' o (o + 3) (o + 3) p im → K (none) (h'))))))
theorem W73 {d : Nat} (H : ∀ (o : Int) (p : Int) (im : Int) (h : am_H) (K : Option am_V → am_H → Prop), (HO8 o ∧ SVM h (am_sv o) ∧ (0 ≤ p ∧ p < (h (am_sv o + 1) 0)) ∧ (0 ≤ im ∧ im < (h (am_sv o + 1) 0))) ∧ (∀ (h' : am_H), NRW h h' o (o + 3) (o + 3) p im → K (none) (h')) → am_AT d 73 0 [some (mR 1 8 0 o), some (mB p), some (mB im)] h K) : am_CS d 73 C73 := by
  refine am_CS_of (T := tb73) (mL := 3) (rk := 0) rfl (fun as h K hC => ?_)
  obtain ⟨v0, v1, v2, rfl, hC0⟩ := am_a3_e hC
  obtain ⟨o, rfl, hC1⟩ := am_o_e hC0
  obtain ⟨p, rfl, hC2⟩ := am_n_e hC1
  obtain ⟨im, rfl, hC3⟩ := am_n_e hC2
  refine ⟨Nat.le_of_ble_eq_true rfl, ?_⟩
  exact H o p im h K hC3
theorem T73_0 {R : Option am_V → am_H → Prop} {h : am_H} {o : Int} {p : Int} {im : Int} (t : (HO8 o ∧ SVM h (am_sv o) ∧ (0 ≤ p ∧ p < (h (am_sv o + 1) 0)) ∧ (0 ≤ im ∧ im < (h (am_sv o + 1) 0)) ∧ (o < (((o + 2) + 1) + 0) ∧ o < (((o + 2) + 1) + 0))) ∧ (∀ (h' : am_H), (NRW h h' o (((o + 2) + 1) + 0) (((o + 2) + 1) + 0) p im) → (R none h'))) : am_AT 2 73 0 [some (mR 1 8 0 o), some (mB p), some (mB im)] h R :=
  am_T (d := 1) (m := 73) (T := tb73) (mL := 3) (rk := 0) (cuts := []) (l := [(74, C74)]) rfl ⟨am_CS_d (by decide) C74_ok, trivial⟩ 17 (And.intro (⟨by decide, by decide⟩) (And.intro (⟨by decide, by decide⟩) (And.intro (t).1 (fun z1_0 z1_1 => ((t).2) z1_0 z1_1))))
theorem C73_ok : am_CS 2 73 C73 := W73 (fun o p im h K hb => by
  refine T73_0 ⟨⟨hb.1.1, hb.1.2.1, hb.1.2.2.1, hb.1.2.2.2, by omega, by omega⟩, fun h' q1 => ?_⟩
  · rw [show o + 2 + 1 + 0 = o + 3 by omega] at q1
    exact hb.2 h' q1)
/-! 76 FactorNets$Search.tightest -/
def C76 : am_K := fun as h K => am_a3 as (fun v0 v1 v2 => am_o 8 v0 (fun o => am_n v1 (fun dp => am_n v2 (fun op => (HO8 o ∧ SVM h (am_sv o) ∧ (0 ≤ dp ∧ dp ≤ 20) ∧ (S20 op ∧ ¬ op = 0 ∧ ∀ y9, bit op y9 → y9 < (h (am_sv o + 1) 0)) ∧ (∀ y9, 0 ≤ y9 → y9 < (h (am_sv o + 1) 0) → S20 (h (o + 3 + dp) y9))) ∧ (∀ (w9 : Int), bit op w9 → K (some (mB (w9))) h)))))
theorem W76 {d : Nat} (H : ∀ (o : Int) (dp : Int) (op : Int) (h : am_H) (K : Option am_V → am_H → Prop), (HO8 o ∧ SVM h (am_sv o) ∧ (0 ≤ dp ∧ dp ≤ 20) ∧ (S20 op ∧ ¬ op = 0 ∧ ∀ y9, bit op y9 → y9 < (h (am_sv o + 1) 0)) ∧ (∀ y9, 0 ≤ y9 → y9 < (h (am_sv o + 1) 0) → S20 (h (o + 3 + dp) y9))) ∧ (∀ (w9 : Int), bit op w9 → K (some (mB (w9))) h) → am_AT d 76 0 [some (mR 1 8 0 o), some (mB dp), some (mB op), none, none, none, none] h K) : am_CS d 76 C76 := by
  refine am_CS_of (T := tb76) (mL := 7) (rk := 1) rfl (fun as h K hC => ?_)
  obtain ⟨v0, v1, v2, rfl, hC0⟩ := am_a3_e hC
  obtain ⟨o, rfl, hC1⟩ := am_o_e hC0
  obtain ⟨dp, rfl, hC2⟩ := am_n_e hC1
  obtain ⟨op, rfl, hC3⟩ := am_n_e hC2
  refine ⟨Nat.le_of_ble_eq_true rfl, ?_⟩
  exact H o dp op h K hC3
theorem T76_0 {R : Option am_V → am_H → Prop} {h : am_H} {o : Int} {dp : Int} {op : Int} (t : am_AT 2 76 9 [some (mR 1 8 0 o), some (mB dp), some (mB op), some (mI 0), some (mI 21), some (mI 0), none] h R) : am_AT 2 76 0 [some (mR 1 8 0 o), some (mB dp), some (mB op), none, none, none, none] h R :=
  am_T (d := 1) (m := 76) (T := tb76) (mL := 7) (rk := 1) (cuts := [(9, [1, 1, 1, 2, 2, 2, 0])]) (l := [(317, C317)]) rfl ⟨am_CS_d (by decide) C317_ok, trivial⟩ 10 (t)
theorem T76_9 {R : Option am_V → am_H → Prop} {h : am_H} {o : Int} {dp : Int} {op : Int} {x3 : Int} {x4 : Int} {x5 : Int} (t : (R32 x5) ∧ (((h ((am_sv o) + 1) 0 ≤ x5) → ((R32 x3) ∧ (R (some (mB x3)) h))) ∧ ((x5 < h ((am_sv o) + 1) 0) → ((R32 x4) ∧ (((x4 ≤ 1) → ((R32 x3) ∧ (R (some (mB x3)) h))) ∧ ((1 < x4) → ((0 ≤ dp ∧ dp < 21) ∧ ((0 ≤ x5 ∧ x5 < 20) ∧ ((0 ≤ (h (((o + 2) + 1) + dp) x5) ∧ (h (((o + 2) + 1) + dp) x5) < 2147483648) ∧ (((iAnd (iShr op x5) 1 = 0) → (am_AT 2 76 9 [some (mR 1 8 0 o), some (mB dp), some (mB op), some (mI x3), some (mI x4), some (mI (x5 + 1)), none] h R)) ∧ ((¬ iAnd (iShr op x5) 1 = 0) → ((R32 x4) ∧ (((x4 ≤ iPop (h (((o + 2) + 1) + dp) x5)) → (am_AT 2 76 9 [some (mR 1 8 0 o), some (mB dp), some (mB op), some (mI x3), some (mI x4), some (mI (x5 + 1)), none] h R)) ∧ ((iPop (h (((o + 2) + 1) + dp) x5) < x4) → (am_AT 2 76 9 [some (mR 1 8 0 o), some (mB dp), some (mB op), some (mI x5), some (mI (iPop (h (((o + 2) + 1) + dp) x5))), some (mI (x5 + 1)), none] h R))))))))))))))) : am_AT 2 76 9 [some (mR 1 8 0 o), some (mB dp), some (mB op), some (mI x3), some (mI x4), some (mI x5), none] h R :=
  am_T (d := 1) (m := 76) (T := tb76) (mL := 7) (rk := 1) (cuts := [(9, [1, 1, 1, 2, 2, 2, 0])]) (l := [(317, C317)]) rfl ⟨am_CS_d (by decide) C317_ok, trivial⟩ 36 (And.intro (t).1 (And.intro (fun c7 => And.intro (((t).2).1 c7).1 ((((t).2).1 c7).2)) (fun c7 => And.intro (((t).2).2 c7).1 (And.intro (fun c8 => And.intro (((((t).2).2 c7).2).1 c8).1 ((((((t).2).2 c7).2).1 c8).2)) (fun c8 => And.intro (((((t).2).2 c7).2).2 c8).1 (And.intro ((((((t).2).2 c7).2).2 c8).2).1 (And.intro (((((((t).2).2 c7).2).2 c8).2).2).1 (And.intro (fun c9 => ((((((((t).2).2 c7).2).2 c8).2).2).2).1 c9) (fun c9 => And.intro (((((((((t).2).2 c7).2).2 c8).2).2).2).2 c9).1 (And.intro (fun c10 => ((((((((((t).2).2 c7).2).2 c8).2).2).2).2 c9).2).1 c10) (fun c10 => ((((((((((t).2).2 c7).2).2 c8).2).2).2).2 c9).2).2 c10)))))))))))
theorem L76 {K : Option am_V → am_H → Prop} {h : am_H} {o dp op : Int} (hn : 0 ≤ h (am_sv o + 1) 0 ∧ h (am_sv o + 1) 0 ≤ 20) (hd : 0 ≤ dp ∧ dp ≤ 20) (ho : S20 op) (nz : ¬ op = 0) (hb : ∀ y9, bit op y9 → y9 < h (am_sv o + 1) 0) (hS : ∀ y9, 0 ≤ y9 → y9 < h (am_sv o + 1) 0 → S20 (h (o + 3 + dp) y9)) (hK : ∀ w9, bit op w9 → K (some (mB w9)) h) : ∀ i, ∀ b f : Int, 0 ≤ i → i ≤ h (am_sv o + 1) 0 → (0 ≤ b ∧ b < 20) → ((f = 21 ∧ ∀ y, bit op y → i ≤ y) ∨ (bit op b ∧ 0 ≤ f ∧ f ≤ 20)) → am_AT 2 76 9 [some (mR 1 8 0 o), some (mB dp), some (mB op), some (mI b), some (mI f), some (mI i), none] h K := by
  refine lp (h (am_sv o + 1) 0) (fun i ih b f i0 i1 hb2 G => ?_)
  have ea : o + 2 + 1 + dp = o + 3 + dp := by omega
  have sp : i < h (am_sv o + 1) 0 → S20 (h (o + 3 + dp) i) := fun a => hS i i0 a
  have pr : i < h (am_sv o + 1) 0 → 0 ≤ iPop (h (o + 3 + dp) i) ∧ iPop (h (o + 3 + dp) i) ≤ 20 := fun a => iPop_le20 (sp a)
  refine T76_9 ⟨by omega, ⟨fun c1 => ⟨by omega, ?_⟩, fun c1 => ⟨by rcases G with G | G <;> omega, ⟨fun c2 => ⟨by omega, ?_⟩, fun c2 => ⟨by omega, ⟨by omega, ⟨by rw [ea]; have := sp c1; have := this.1; have := (sp c1).2; omega, ⟨fun c3 => ?_, fun c3 => ⟨by rcases G with G | G <;> omega, ⟨fun c4 => ?_, fun c4 => ?_⟩⟩⟩⟩⟩⟩⟩⟩⟩⟩
  · rcases G with G | G
    · exfalso
      have w := S20_low ho nz
      have := G.2 _ w.1
      have := hb _ w.1
      omega
    · exact hK b G.1
  · rcases G with G | G
    · omega
    · exact hK b G.1
  · rw [bt_has0 i0 (by omega)] at c3
    refine ih c1 b f (by omega) (by omega) hb2 ?_
    rcases G with G | G
    · refine Or.inl ⟨G.1, fun y hy => ?_⟩
      have := G.2 y hy
      have : y ≠ i := fun z => c3 (z ▸ hy)
      omega
    · exact Or.inr G
  · rw [ea] at c4
    refine ih c1 b f (by omega) (by omega) hb2 ?_
    rcases G with G | G
    · have := pr c1
      omega
    · exact Or.inr G
  · rw [bt_has0 i0 (by omega)] at c3
    rw [ea]
    have := pr c1
    exact ih c1 i _ (by omega) (by omega) (by omega) (Or.inr ⟨Classical.not_not.mp c3, this⟩)
theorem C76_ok : am_CS 2 76 C76 := W76 (fun o dp op h K hb => by
  obtain ⟨⟨ho, S, hd, ⟨so, nz, hb2⟩, hS⟩, hK⟩ := hb
  exact T76_0 (L76 ⟨S.1.1, S.1.2.1⟩ hd so nz hb2 hS hK 0 0 21 (by omega) S.1.1 (by omega) (Or.inl ⟨rfl, fun y hy => (S20_in so hy).1⟩)))
