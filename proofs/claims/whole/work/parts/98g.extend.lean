/-! 69 FactorNets$Search.learnKin -/
def C69 : am_K := fun as h K => am_a1 as (fun v0 => am_o 8 v0 (fun o => (HO8 o ∧ (NT (h (am_sv o + 1) 0) (nr h (am_sv o + 2) 0) ∧ CN (h (am_sv o + 1) 0) (nr h (am_sv o + 2) 0))) ∧ (∀ (h' : am_H), KNQ h h' o ∧ KIN h' o → K (none) (h'))))
theorem W69 {d : Nat} (H : ∀ (o : Int) (h : am_H) (K : Option am_V → am_H → Prop), (HO8 o ∧ (NT (h (am_sv o + 1) 0) (nr h (am_sv o + 2) 0) ∧ CN (h (am_sv o + 1) 0) (nr h (am_sv o + 2) 0))) ∧ (∀ (h' : am_H), KNQ h h' o ∧ KIN h' o → K (none) (h')) → am_AT d 69 0 [some (mR 1 8 0 o), none, none, none, none] h K) : am_CS d 69 C69 := by
  refine am_CS_of (T := tb69) (mL := 5) (rk := 0) rfl (fun as h K hC => ?_)
  obtain ⟨v0, rfl, hC0⟩ := am_a1_e hC
  obtain ⟨o, rfl, hC1⟩ := am_o_e hC0
  refine ⟨Nat.le_of_ble_eq_true rfl, ?_⟩
  exact H o h K hC1
theorem T69_0 {R : Option am_V → am_H → Prop} {h : am_H} {o : Int} (t : am_AT 3 69 10 [some (mR 1 8 0 o), some (mR 1 3 0 ((am_sv o) + 1)), some (mI 0), none, none] h R) : am_AT 3 69 0 [some (mR 1 8 0 o), none, none, none, none] h R :=
  am_T (d := 2) (m := 69) (T := tb69) (mL := 5) (rk := 0) (cuts := [(10, [1, 1, 2, 0, 0]), (38, [1, 1, 2, 2, 0]), (53, [1, 1, 2, 2, 2])]) (l := [(22, C22), (70, C70), (177, C177)]) rfl ⟨am_CS_d (by decide) C22_ok, am_CS_d (by decide) C70_ok, am_CS_d (by decide) C177_ok, trivial⟩ 10 (t)
theorem T69_10 {R : Option am_V → am_H → Prop} {h : am_H} {o : Int} {a1 : Int} {x2 : Int} (t : (R32 x2) ∧ (((h a1 0 ≤ x2) → (am_AT 3 69 38 [some (mR 1 8 0 o), some (mR 1 3 0 a1), some (mI 1), some (mI 0), none] h R)) ∧ ((x2 < h a1 0) → ((0 ≤ h a1 0 ∧ h a1 0 ≤ 30) ∧ ((0 ≤ x2 ∧ x2 < 20) ∧ (am_AT 3 69 10 [some (mR 1 8 0 o), some (mR 1 3 0 a1), some (mI (x2 + 1)), none, none] (am_up h (o + 24) x2 (iShl 1 (h a1 0) - 1)) R)))))) : am_AT 3 69 10 [some (mR 1 8 0 o), some (mR 1 3 0 a1), some (mI x2), none, none] h R :=
  am_T (d := 2) (m := 69) (T := tb69) (mL := 5) (rk := 0) (cuts := [(10, [1, 1, 2, 0, 0]), (38, [1, 1, 2, 2, 0]), (53, [1, 1, 2, 2, 2])]) (l := [(22, C22), (70, C70), (177, C177)]) rfl ⟨am_CS_d (by decide) C22_ok, am_CS_d (by decide) C70_ok, am_CS_d (by decide) C177_ok, trivial⟩ 16 (And.intro (t).1 (And.intro (fun c1 => ((t).2).1 c1) (fun c1 => And.intro (((t).2).2 c1).1 (And.intro ((((t).2).2 c1).2).1 (((((t).2).2 c1).2).2)))))
theorem T69_38 {R : Option am_V → am_H → Prop} {h : am_H} {o : Int} {a1 : Int} {x2 : Int} {x3 : Int} (t : (R32 x3) ∧ (((20 ≤ x3) → (R none h)) ∧ ((x3 < 20) → ((R32 x2) ∧ (((x2 = 0) → (R none h)) ∧ ((¬ x2 = 0) → (am_AT 3 69 53 [some (mR 1 8 0 o), some (mR 1 3 0 a1), some (mI 0), some (mI x3), some (mI 0)] h R))))))) : am_AT 3 69 38 [some (mR 1 8 0 o), some (mR 1 3 0 a1), some (mI x2), some (mI x3), none] h R :=
  am_T (d := 2) (m := 69) (T := tb69) (mL := 5) (rk := 0) (cuts := [(10, [1, 1, 2, 0, 0]), (38, [1, 1, 2, 2, 0]), (53, [1, 1, 2, 2, 2])]) (l := [(22, C22), (70, C70), (177, C177)]) rfl ⟨am_CS_d (by decide) C22_ok, am_CS_d (by decide) C70_ok, am_CS_d (by decide) C177_ok, trivial⟩ 13 (And.intro (t).1 (And.intro (fun c2 => ((t).2).1 c2) (fun c2 => And.intro (((t).2).2 c2).1 (And.intro (fun c3 => ((((t).2).2 c2).2).1 c3) (fun c3 => ((((t).2).2 c2).2).2 c3)))))
theorem T69_53 {R : Option am_V → am_H → Prop} {h : am_H} {o : Int} {a1 : Int} {x2 : Int} {x3 : Int} {x4 : Int} (t : (R32 x4) ∧ (((h a1 0 ≤ x4) → (am_AT 3 69 38 [some (mR 1 8 0 o), some (mR 1 3 0 a1), some (mI x2), some (mI (x3 + 1)), none] h R)) ∧ ((x4 < h a1 0) → ((0 ≤ x4 ∧ x4 < 20) ∧ ((0 < (h (o + 24) x4) ∧ (h (o + 24) x4) < 2147483648) ∧ ((R32 x4) ∧ (((¬ iLow (h (o + 24) x4) = x4) → (am_AT 3 69 53 [some (mR 1 8 0 o), some (mR 1 3 0 a1), some (mI x2), some (mI x3), some (mI (x4 + 1))] h R)) ∧ ((iLow (h (o + 24) x4) = x4) → ((0 ≤ x4 ∧ x4 < 20) ∧ ((HO8 o ∧ a1 = am_sv o + 1 ∧ (NT (h a1 0) (nr h (a1 + 1) 0) ∧ CN (h a1 0) (nr h (a1 + 1) 0)) ∧ S20 (h (o + 24) x4) ∧ (∀ f9, AU (h a1 0) (svD h (am_sv o)) f9 → ∀ q9, 0 ≤ q9 → q9 < h a1 0 → bit (h (o + 24) x4) q9 → bit (h (o + 24) x4) (f9 q9)) ∧ KIN h o) ∧ (∀ (h' : am_H) (c9 : Prop), (KNQ h h' o ∧ KIN h' o) → (((¬ (c9)) → (am_AT 3 69 53 [some (mR 1 8 0 o), some (mR 1 3 0 a1), some (mI x2), some (mI x3), some (mI (x4 + 1))] h' R)) ∧ ((c9) → (am_AT 3 69 53 [some (mR 1 8 0 o), some (mR 1 3 0 a1), some (mI 1), some (mI x3), some (mI (x4 + 1))] h' R)))))))))))))) : am_AT 3 69 53 [some (mR 1 8 0 o), some (mR 1 3 0 a1), some (mI x2), some (mI x3), some (mI x4)] h R :=
  am_T (d := 2) (m := 69) (T := tb69) (mL := 5) (rk := 0) (cuts := [(10, [1, 1, 2, 0, 0]), (38, [1, 1, 2, 2, 0]), (53, [1, 1, 2, 2, 2])]) (l := [(22, C22), (70, C70), (177, C177)]) rfl ⟨am_CS_d (by decide) C22_ok, am_CS_d (by decide) C70_ok, am_CS_d (by decide) C177_ok, trivial⟩ 27 (And.intro (t).1 (And.intro (fun c4 => ((t).2).1 c4) (fun c4 => And.intro (((t).2).2 c4).1 (And.intro ((((t).2).2 c4).2).1 (And.intro (((((t).2).2 c4).2).2).1 (And.intro (fun c5 => ((((((t).2).2 c4).2).2).2).1 c5) (fun c5 => And.intro (((((((t).2).2 c4).2).2).2).2 c5).1 (And.intro ((((((((t).2).2 c4).2).2).2).2 c5).2).1 (fun z1_0 z1_1 z1_2 => And.intro (fun c6 => ((((((((((t).2).2 c4).2).2).2).2 c5).2).2) z1_0 z1_1 z1_2).1 c6) (fun c6 => ((((((((((t).2).2 c4).2).2).2).2 c5).2).2) z1_0 z1_1 z1_2).2 c6))))))))))
theorem L69c {K : Option am_V → am_H → Prop} {h : am_H} {o : Int} (ho : HO8 o) (hN : NT (h (am_sv o + 1) 0) (nr h (am_sv o + 2) 0)) (hC : CN (h (am_sv o + 1) 0) (nr h (am_sv o + 2) 0)) (hK : ∀ (g : am_H), KNQ h g o ∧ KIN g o → K none g) {rd : Int} (nx : ∀ (g : am_H) (x : Int), (x = 0 ∨ x = 1) → KNQ h g o → KIN g o → am_AT 3 69 38 [some (mR 1 8 0 o), some (mR 1 3 0 (am_sv o + 1)), some (mI x), some (mI (rd + 1)), none] g K) : ∀ i, ∀ (g : am_H) (x : Int), 0 ≤ i → i ≤ h (am_sv o + 1) 0 → (x = 0 ∨ x = 1) → KNQ h g o → KIN g o → am_AT 3 69 53 [some (mR 1 8 0 o), some (mR 1 3 0 (am_sv o + 1)), some (mI x), some (mI rd), some (mI i)] g K := by
  have hn := hN.2.1
  refine lp (h (am_sv o + 1) 0) (fun i ih g x i0 i1 hx F Kg => ?_)
  have n := KN_n ho F
  have en : g (am_sv o + 1) 0 = h (am_sv o + 1) 0 := n.1
  have ki : i < h (am_sv o + 1) 0 → S20 (g (o + 24) i) ∧ ¬ g (o + 24) i = 0 := fun a => by
    have k := Kg i i0 (by rw [en]; exact a)
    exact ⟨k.1.1, fun z => by have := k.1.2.1; rw [z] at this; exact bt_zero this⟩
  have tr : ∀ h', KNQ g h' o → KNQ h h' o := fun h' G a j b d => (G a j b d).trans (F a j b d)
  refine T69_53 ⟨by omega, ⟨fun c1 => ?_, fun c1 => ⟨by omega, ⟨by rw [en] at c1; have k := ki c1; exact S20_pos k.1 k.2, ⟨by omega, ⟨fun c2 => ?_, fun c2 => ⟨by omega, ⟨by
    rw [show am_sv o + 1 + 1 = am_sv o + 2 by omega, en, n.2.1, n.2.2]
    rw [en] at c1
    have k := Kg i i0 (by rw [en]; exact c1)
    rw [n.1, n.2.2] at k
    exact ⟨ho, rfl, ⟨hN, hC⟩, k.1.1, k.2, Kg⟩, fun h' c9 q3 => ⟨fun c4 => ?_, fun c4 => ?_⟩⟩⟩⟩⟩⟩⟩⟩⟩
  · exact nx g x hx F Kg
  · rw [en] at c1
    exact ih c1 g x (by omega) (by omega) hx F Kg
  · rw [en] at c1
    exact ih c1 h' x (by omega) (by omega) hx (tr h' q3.1) q3.2
  · rw [en] at c1
    exact ih c1 h' 1 (by omega) (by omega) (Or.inr rfl) (tr h' q3.1) q3.2
theorem L69b {K : Option am_V → am_H → Prop} {h : am_H} {o : Int} (ho : HO8 o) (hN : NT (h (am_sv o + 1) 0) (nr h (am_sv o + 2) 0)) (hC : CN (h (am_sv o + 1) 0) (nr h (am_sv o + 2) 0)) (hK : ∀ (g : am_H), KNQ h g o ∧ KIN g o → K none g) : ∀ rd, ∀ (g : am_H) (x : Int), 0 ≤ rd → rd ≤ 20 → (x = 0 ∨ x = 1) → KNQ h g o → KIN g o → am_AT 3 69 38 [some (mR 1 8 0 o), some (mR 1 3 0 (am_sv o + 1)), some (mI x), some (mI rd), none] g K := by
  have hn0 := hN.1
  refine lp 20 (fun rd ih g x r0 r1 hx F Kg => ?_)
  refine T69_38 ⟨by omega, ⟨fun c1 => ?_, fun c1 => ⟨by omega, ⟨fun c2 => ?_, fun c2 => ?_⟩⟩⟩⟩
  · exact hK g ⟨F, Kg⟩
  · exact hK g ⟨F, Kg⟩
  · exact L69c ho hN hC hK (fun g' x' hx' F' K' => ih c1 g' x' (by omega) (by omega) hx' F' K') 0 g 0 (by omega) hn0 (Or.inl rfl) F Kg
theorem L69a {K : Option am_V → am_H → Prop} {h : am_H} {o : Int} (ho : HO8 o) (hN : NT (h (am_sv o + 1) 0) (nr h (am_sv o + 2) 0)) (hC : CN (h (am_sv o + 1) 0) (nr h (am_sv o + 2) 0)) (hK : ∀ (g : am_H), KNQ h g o ∧ KIN g o → K none g) : ∀ i, ∀ (g : am_H), 0 ≤ i → i ≤ h (am_sv o + 1) 0 → KNQ h g o → (∀ y, 0 ≤ y → y < i → g (o + 24) y = iShl 1 (h (am_sv o + 1) 0) - 1) → am_AT 3 69 10 [some (mR 1 8 0 o), some (mR 1 3 0 (am_sv o + 1)), some (mI i), none, none] g K := by
  have hn := hN.2.1
  have hn0 := hN.1
  have ho' := ho
  unfold HO8 at ho'
  refine lp (h (am_sv o + 1) 0) (fun i ih g i0 i1 F G => ?_)
  have n := KN_n ho F
  have en : g (am_sv o + 1) 0 = h (am_sv o + 1) 0 := n.1
  refine T69_10 ⟨by omega, ⟨fun c1 => ?_, fun c1 => ⟨by rw [en]; omega, ⟨by omega, ?_⟩⟩⟩⟩
  · rw [en] at c1
    refine L69b ho hN hC hK 0 g 1 (by omega) (by omega) (Or.inr rfl) F (fun y y0 y1 => ?_)
    rw [en] at y1
    rw [en, n.2.2, G y y0 (by omega)]
    have ba : ∀ p, bit (iShl 1 (h (am_sv o + 1) 0) - 1) p ↔ 0 ≤ p ∧ p < h (am_sv o + 1) 0 := fun p => bt_all (by omega) (by omega)
    exact ⟨⟨S20_all hn0 hn, (ba y).mpr ⟨y0, y1⟩, fun q hq => ((ba q).mp hq).2⟩, fun f FF q q0 q1 w => (ba _).mpr (FF.1 q q0 q1)⟩
  · rw [en] at c1
    rw [en]
    refine ih c1 _ (by omega) (by omega) (fun a j b d => by rw [am_up_ne b]; exact F a j b d) (fun y a b => ?_)
    by_cases e : y = i
    · rw [e, am_up_eq]
    · rw [am_up_n2 (by omega)]; exact G y a (by omega)
theorem C69_ok : am_CS 3 69 C69 := W69 (fun o h K hb => T69_0 (L69a hb.1.1 hb.1.2.1 hb.1.2.2 hb.2 0 h (by omega) hb.1.2.1.1 (fun _ _ _ _ => rfl) (fun y a b => by omega)))
/-! 75 FactorNets$Search.extend -/
def C75 (f : Nat) : am_K := fun as h K => am_a3 as (fun v0 v1 v2 => am_o 8 v0 (fun o => am_n v1 (fun dp => am_n v2 (fun op => (HO8 o ∧ SVM h (am_sv o) ∧ (0 ≤ dp ∧ dp + iPop op ≤ 20) ∧ (S20 op ∧ ∀ y9, bit op y9 → y9 < (h (am_sv o + 1) 0)) ∧ (∀ y9, 0 ≤ y9 → y9 < (h (am_sv o + 1) 0) → S20 (h (o + 3 + dp) y9) ∧ ∀ q9, bit (h (o + 3 + dp) y9) q9 → q9 < (h (am_sv o + 1) 0)) ∧ iPop op < f) ∧ (∀ (h' : am_H), ((∀ x9 i9, x9 ≠ o + 1 → ¬ (o + 3 + dp < x9 ∧ x9 ≤ o + 23) → h' x9 i9 = h x9 i9) ∧ (∀ y9, ¬ bit op y9 → h' (o + 1) y9 = h (o + 1) y9) ∧ (EXs (svD h (am_sv o)) (svD h (am_sv o)) (h (o + 3 + dp)) (bit op) → EXt (svD h (am_sv o)) (svD h (am_sv o)) (h (o + 3 + dp)) (bit op) (h' (o + 1)))) → K (some (mP (EXs (svD h (am_sv o)) (svD h (am_sv o)) (h (o + 3 + dp)) (bit op)))) (h'))))))
theorem W75 {d : Nat} (f : Nat) (H : ∀ (o : Int) (dp : Int) (op : Int) (h : am_H) (K : Option am_V → am_H → Prop), (HO8 o ∧ SVM h (am_sv o) ∧ (0 ≤ dp ∧ dp + iPop op ≤ 20) ∧ (S20 op ∧ ∀ y9, bit op y9 → y9 < (h (am_sv o + 1) 0)) ∧ (∀ y9, 0 ≤ y9 → y9 < (h (am_sv o + 1) 0) → S20 (h (o + 3 + dp) y9) ∧ ∀ q9, bit (h (o + 3 + dp) y9) q9 → q9 < (h (am_sv o + 1) 0)) ∧ iPop op < f) ∧ (∀ (h' : am_H), ((∀ x9 i9, x9 ≠ o + 1 → ¬ (o + 3 + dp < x9 ∧ x9 ≤ o + 23) → h' x9 i9 = h x9 i9) ∧ (∀ y9, ¬ bit op y9 → h' (o + 1) y9 = h (o + 1) y9) ∧ (EXs (svD h (am_sv o)) (svD h (am_sv o)) (h (o + 3 + dp)) (bit op) → EXt (svD h (am_sv o)) (svD h (am_sv o)) (h (o + 3 + dp)) (bit op) (h' (o + 1)))) → K (some (mP (EXs (svD h (am_sv o)) (svD h (am_sv o)) (h (o + 3 + dp)) (bit op)))) (h')) → am_AT d 75 0 [some (mR 1 8 0 o), some (mB dp), some (mB op), none, none, none] h K) : am_CS d 75 (C75 f) := by
  refine am_CS_of (T := tb75) (mL := 6) (rk := 4) rfl (fun as h K hC => ?_)
  obtain ⟨v0, v1, v2, rfl, hC0⟩ := am_a3_e hC
  obtain ⟨o, rfl, hC1⟩ := am_o_e hC0
  obtain ⟨dp, rfl, hC2⟩ := am_n_e hC1
  obtain ⟨op, rfl, hC3⟩ := am_n_e hC2
  refine ⟨Nat.le_of_ble_eq_true rfl, ?_⟩
  exact H o dp op h K hC3
theorem T75_0 {R : Option am_V → am_H → Prop} {h : am_H} {o : Int} {dp : Int} {op : Int} {d f : Nat} (hd : 2 ≤ d) (hr : am_CS d 75 (C75 f)) (t : ((¬ op = 0) → (((dp < 20) → ((HO8 o ∧ SVM h (am_sv o) ∧ (0 ≤ dp ∧ dp ≤ 20) ∧ (S20 op ∧ ¬ op = 0 ∧ ∀ y9, bit op y9 → y9 < (h (am_sv o + 1) 0)) ∧ (∀ y9, 0 ≤ y9 → y9 < (h (am_sv o + 1) 0) → S20 (h (o + 3 + dp) y9))) ∧ (∀ (w9 : Int), (bit op w9) → ((0 ≤ dp ∧ dp < 21) ∧ (am_AT (d + 1) 75 32 [some (mR 1 8 0 o), some (mB dp), some (mB op), some (mI w9), some (mR 2 20 0 (((o + 2) + 1) + dp)), some (mI 0)] h R))))) ∧ ((20 ≤ dp) → (R (some (mP ((0 : Int) = 1))) h)))) ∧ ((op = 0) → (R (some (mP ((1 : Int) = 1))) h))) : am_AT (d + 1) 75 0 [some (mR 1 8 0 o), some (mB dp), some (mB op), none, none, none] h R :=
  am_T (d := d) (m := 75) (T := tb75) (mL := 6) (rk := 4) (cuts := [(32, [1, 1, 1, 2, 1, 2])]) (l := [(74, C74), (75, (C75 f)), (76, C76)]) rfl ⟨am_CS_d (Nat.le_trans (by decide) hd) C74_ok, hr, am_CS_d (Nat.le_trans (by decide) hd) C76_ok, trivial⟩ 21 (And.intro (fun c7 => And.intro (fun c8 => And.intro (((t).1 c7).1 c8).1 (fun z2_0 z2_1 => And.intro (((((t).1 c7).1 c8).2) z2_0 z2_1).1 ((((((t).1 c7).1 c8).2) z2_0 z2_1).2))) (fun c8 => And.intro (Or.inl rfl) (((t).1 c7).2 c8))) (fun c7 => And.intro (Or.inr rfl) ((t).2 c7)))
theorem T75_32 {R : Option am_V → am_H → Prop} {h : am_H} {o : Int} {dp : Int} {op : Int} {x3 : Int} {a4 : Int} {x5 : Int} {d f : Nat} (hd : 2 ≤ d) (hr : am_CS d 75 (C75 f)) (t : (R32 x5) ∧ (((h ((am_sv o) + 1) 0 ≤ x5) → (R (some (mP ((0 : Int) = 1))) h)) ∧ ((x5 < h ((am_sv o) + 1) 0) → ((0 ≤ x3 ∧ x3 < 20) ∧ (((iAnd (iShr (h a4 x3) x5) 1 = 0) → (am_AT (d + 1) 75 32 [some (mR 1 8 0 o), some (mB dp), some (mB op), some (mI x3), some (mR 2 20 0 a4), some (mI (x5 + 1))] h R)) ∧ ((¬ iAnd (iShr (h a4 x3) x5) 1 = 0) → ((0 ≤ x3 ∧ x3 < 20) ∧ ((R32 x5) ∧ ((0 ≤ dp + 1 ∧ dp + 1 < 21) ∧ ((R32 x3) ∧ ((R32 x5) ∧ ((HO8 o ∧ SVM (am_up h (o + 1) x3 x5) (am_sv o) ∧ (0 ≤ x3 ∧ x3 < ((am_up h (o + 1) x3 x5) (am_sv o + 1) 0)) ∧ (0 ≤ x5 ∧ x5 < ((am_up h (o + 1) x3 x5) (am_sv o + 1) 0)) ∧ (o < a4 ∧ o < (((o + 2) + 1) + (dp + 1)))) ∧ (∀ (h' : am_H), (NRW (am_up h (o + 1) x3 x5) h' o a4 (((o + 2) + 1) + (dp + 1)) x3 x5) → ((R32 (dp + 1)) ∧ ((HO8 o ∧ SVM h' (am_sv o) ∧ (0 ≤ (dp + 1) ∧ (dp + 1) + iPop (iAnd op (iXor (iShl 1 x3) (-1))) ≤ 20) ∧ (S20 (iAnd op (iXor (iShl 1 x3) (-1))) ∧ ∀ y9, bit (iAnd op (iXor (iShl 1 x3) (-1))) y9 → y9 < (h' (am_sv o + 1) 0)) ∧ (∀ y9, 0 ≤ y9 → y9 < (h' (am_sv o + 1) 0) → S20 (h' (o + 3 + (dp + 1)) y9) ∧ ∀ q9, bit (h' (o + 3 + (dp + 1)) y9) q9 → q9 < (h' (am_sv o + 1) 0)) ∧ iPop (iAnd op (iXor (iShl 1 x3) (-1))) < f) ∧ (∀ (h'_1 : am_H), (((∀ x9 i9, x9 ≠ o + 1 → ¬ (o + 3 + (dp + 1) < x9 ∧ x9 ≤ o + 23) → h'_1 x9 i9 = h' x9 i9) ∧ (∀ y9, ¬ bit (iAnd op (iXor (iShl 1 x3) (-1))) y9 → h'_1 (o + 1) y9 = h' (o + 1) y9) ∧ (EXs (svD h' (am_sv o)) (svD h' (am_sv o)) (h' (o + 3 + (dp + 1))) (bit (iAnd op (iXor (iShl 1 x3) (-1)))) → EXt (svD h' (am_sv o)) (svD h' (am_sv o)) (h' (o + 3 + (dp + 1))) (bit (iAnd op (iXor (iShl 1 x3) (-1)))) (h'_1 (o + 1))))) → (((¬ (EXs (svD h' (am_sv o)) (svD h' (am_sv o)) (h' (o + 3 + (dp + 1))) (bit (iAnd op (iXor (iShl 1 x3) (-1)))))) → (am_AT (d + 1) 75 32 [some (mR 1 8 0 o), some (mB dp), some (mB op), some (mI x3), some (mR 2 20 0 a4), some (mI (x5 + 1))] h'_1 R)) ∧ ((EXs (svD h' (am_sv o)) (svD h' (am_sv o)) (h' (o + 3 + (dp + 1))) (bit (iAnd op (iXor (iShl 1 x3) (-1))))) → (R (some (mP ((1 : Int) = 1))) h'_1))))))))))))))))))) : am_AT (d + 1) 75 32 [some (mR 1 8 0 o), some (mB dp), some (mB op), some (mI x3), some (mR 2 20 0 a4), some (mI x5)] h R :=
  am_T (d := d) (m := 75) (T := tb75) (mL := 6) (rk := 4) (cuts := [(32, [1, 1, 1, 2, 1, 2])]) (l := [(74, C74), (75, (C75 f)), (76, C76)]) rfl ⟨am_CS_d (Nat.le_trans (by decide) hd) C74_ok, hr, am_CS_d (Nat.le_trans (by decide) hd) C76_ok, trivial⟩ 49 (And.intro (t).1 (And.intro (fun c9 => And.intro (Or.inl rfl) (((t).2).1 c9)) (fun c9 => And.intro (((t).2).2 c9).1 (And.intro (fun c10 => ((((t).2).2 c9).2).1 c10) (fun c10 => And.intro (((((t).2).2 c9).2).2 c10).1 (And.intro ((((((t).2).2 c9).2).2 c10).2).1 (And.intro (((((((t).2).2 c9).2).2 c10).2).2).1 (And.intro ((((((((t).2).2 c9).2).2 c10).2).2).2).1 (And.intro (((((((((t).2).2 c9).2).2 c10).2).2).2).2).1 (And.intro ((((((((((t).2).2 c9).2).2 c10).2).2).2).2).2).1 (fun z3_0 z3_1 => And.intro ((((((((((((t).2).2 c9).2).2 c10).2).2).2).2).2).2) z3_0 z3_1).1 (And.intro (((((((((((((t).2).2 c9).2).2 c10).2).2).2).2).2).2) z3_0 z3_1).2).1 (fun z4_0 z4_1 => And.intro (fun c11 => (((((((((((((((t).2).2 c9).2).2 c10).2).2).2).2).2).2) z3_0 z3_1).2).2) z4_0 z4_1).1 c11) (fun c11 => And.intro (Or.inr rfl) ((((((((((((((((t).2).2 c9).2).2 c10).2).2).2).2).2).2) z3_0 z3_1).2).2) z4_0 z4_1).2 c11)))))))))))))))
theorem L75 {d f : Nat} (hd : 2 ≤ d) (hr : am_CS d 75 (C75 f)) {K : Option am_V → am_H → Prop} {h : am_H} {o dp op w : Int} (ho : HO8 o) (S : SVM h (am_sv o)) (h2 : 0 ≤ dp ∧ dp + iPop op ≤ 20) (so : S20 op) (hb : ∀ y9, bit op y9 → y9 < h (am_sv o + 1) 0) (hM : ∀ y9, 0 ≤ y9 → y9 < h (am_sv o + 1) 0 → S20 (h (o + 3 + dp) y9) ∧ ∀ q9, bit (h (o + 3 + dp) y9) q9 → q9 < h (am_sv o + 1) 0) (hf : iPop op < (f + 1 : Nat)) (hw : bit op w) (hK : ∀ g : am_H, ((∀ x9 i9, x9 ≠ o + 1 → ¬ (o + 3 + dp < x9 ∧ x9 ≤ o + 23) → g x9 i9 = h x9 i9) ∧ (∀ y9, ¬ bit op y9 → g (o + 1) y9 = h (o + 1) y9) ∧ (EXs (svD h (am_sv o)) (svD h (am_sv o)) (h (o + 3 + dp)) (bit op) → EXt (svD h (am_sv o)) (svD h (am_sv o)) (h (o + 3 + dp)) (bit op) (g (o + 1)))) → K (some (mP (EXs (svD h (am_sv o)) (svD h (am_sv o)) (h (o + 3 + dp)) (bit op)))) g) : ∀ i, ∀ g : am_H, 0 ≤ i → i ≤ h (am_sv o + 1) 0 → (∀ x9 i9, x9 ≠ o + 1 → ¬ (o + 3 + dp < x9 ∧ x9 ≤ o + 23) → g x9 i9 = h x9 i9) → (∀ y9, ¬ bit op y9 → g (o + 1) y9 = h (o + 1) y9) → (∀ to, 0 ≤ to → to < i → bit (h (o + 3 + dp) w) to → ¬ EXs (svD h (am_sv o)) (svD h (am_sv o)) (fun k => iAnd (h (o + 3 + dp) k) (shl (nr h (am_sv o + 2) 0) to (svD h (am_sv o) w k))) (fun k => bit op k ∧ k ≠ w)) → am_AT (d + 1) 75 32 [some (mR 1 8 0 o), some (mB dp), some (mB op), some (mI w), some (mR 2 20 0 (o + 2 + 1 + dp)), some (mI i)] g K := by
  have ho' := ho
  unfold HO8 at ho'
  have hn := S.1.2.1
  have DMh : DM (h (am_sv o + 1) 0) (svD h (am_sv o)) := DM_ds S.1 S.2.1
  have w0 := (S20_in so hw)
  have wn := hb w hw
  have ea : o + 2 + 1 + dp = o + 3 + dp := by omega
  have eb : o + 2 + 1 + (dp + 1) = o + 3 + (dp + 1) := by omega
  have opr : ∀ k, bit op k → 0 ≤ k ∧ k < h (am_sv o + 1) 0 := fun k z => ⟨(S20_in so z).1, hb k z⟩
  have opm : ∀ k, bit op k → ∀ x, bit (h (o + 3 + dp) k) x → 0 ≤ x ∧ x < h (am_sv o + 1) 0 := fun k z x y => ⟨y.1, (hM k (opr k z).1 (opr k z).2).2 x y⟩
  have pl := iPop_less so hw
  have bl : ∀ y, bit (iAnd op (iXor (iShl 1 w) (-1))) y ↔ bit op y ∧ y ≠ w := fun y => bt_less (by omega)
  have pnn := (iPop_le20 (S20_and (y := iXor (iShl 1 w) (-1)) so)).1
  refine lp (h (am_sv o + 1) 0) (fun i ih g i0 i1 F1 F2 NX => ?_)
  have en : g (am_sv o + 1) 0 = h (am_sv o + 1) 0 := F1 _ _ (by omega) (by omega)
  have em : ∀ y, g (o + 3 + dp) y = h (o + 3 + dp) y := fun y => F1 _ _ (by omega) (by omega)
  have Sg : SVM (am_up g (o + 1) w i) (am_sv o) ∧ am_up g (o + 1) w i (am_sv o + 1) 0 = h (am_sv o + 1) 0 ∧ nr (am_up g (o + 1) w i) (am_sv o + 2) 0 = nr h (am_sv o + 2) 0 := SVM_fr S (fun x j a b => by rw [am_up_ne (by omega)]; exact F1 x j (by omega) (by omega))
  have Dg : svD (am_up g (o + 1) w i) (am_sv o) = (svD h (am_sv o)) := by unfold svD; rw [Sg.2.2]
  have dd : ∀ y, 0 ≤ y → y < h (am_sv o + 1) 0 → 0 ≤ svD h (am_sv o) w y := fun y a b => (DMh.2 w y (opr w hw) ⟨a, b⟩).2.2.1
  -- what a step leaves
  have st : ∀ h', NRW (am_up g (o + 1) w i) h' o (o + 3 + dp) (o + 3 + (dp + 1)) w i → i < h (am_sv o + 1) 0 → (SVM h' (am_sv o) ∧ h' (am_sv o + 1) 0 = h (am_sv o + 1) 0 ∧ svD h' (am_sv o) = (svD h (am_sv o))) ∧ (∀ y, 0 ≤ y → y < h (am_sv o + 1) 0 → h' (o + 3 + (dp + 1)) y = iAnd (h (o + 3 + dp) y) (shl (nr h (am_sv o + 2) 0) i (svD h (am_sv o) w y))) ∧ (∀ x j, x ≠ o + 1 → x ≠ o + 3 + (dp + 1) → h' x j = g x j) ∧ (∀ j, h' (o + 1) j = am_up g (o + 1) w i (o + 1) j) := fun h' N il => by
    have s1 := SVM_fr Sg.1 (g := h') (fun x j a b => N.1 x j (by omega))
    refine ⟨⟨s1.1, s1.2.1.trans Sg.2.1, ?_⟩, fun y a b => ?_, fun x j a b => by rw [N.1 x j b, am_up_ne a], fun j => N.1 _ _ (by omega)⟩
    · unfold svD; rw [s1.2.2, Sg.2.2]
    · rw [N.2.2 y a (by rw [Sg.2.1]; exact b), Sg.2.2, Dg, am_up_ne (by omega), em]
  have cv : ∀ h', NRW (am_up g (o + 1) w i) h' o (o + 3 + dp) (o + 3 + (dp + 1)) w i → i < h (am_sv o + 1) 0 → ∀ g1 : Int → Int, (EXt (svD h' (am_sv o)) (svD h' (am_sv o)) (h' (o + 3 + (dp + 1))) (bit (iAnd op (iXor (iShl 1 w) (-1)))) g1 ↔ EXt (svD h (am_sv o)) (svD h (am_sv o)) (fun k => iAnd (h (o + 3 + dp) k) (shl (nr h (am_sv o + 2) 0) i (svD h (am_sv o) w k))) (fun k => bit op k ∧ k ≠ w) g1) := fun h' N il g1 => by
    have s := st h' N il
    rw [s.1.2.2]
    exact EXt_cg bl (fun k a x => by rw [s.2.1 k (opr k ((bl k).mp a).1).1 (opr k ((bl k).mp a).1).2]) (fun _ _ => rfl)
  refine T75_32 hd hr ⟨by omega, ⟨fun c1 => ?_, fun c1 => ⟨by omega, ⟨fun c2 => ?_, fun c2 => ⟨by omega, ⟨by omega, ⟨by omega, ⟨by omega, ⟨by omega, ⟨by rw [Sg.2.1]; rw [en] at c1; exact ⟨ho, Sg.1, ⟨w0.1, wn⟩, ⟨i0, c1⟩, by omega, by omega⟩, fun h' q3 => ⟨by omega, ⟨by
    rw [en] at c1
    rw [ea, eb] at q3
    have s := st h' q3 c1
    rw [s.1.2.1]
    exact ⟨ho, s.1.1, by omega, ⟨S20_and so, fun y hy => hb y ((bl y).mp hy).1⟩, fun y a b => by rw [s.2.1 y a b]; exact ⟨S20_and (hM y a b).1, fun q hq => (hM y a b).2 q (bt_and.mp hq).1⟩, by omega⟩, fun h'_1 q4 => ⟨fun c5 => ?_, fun c5 => ?_⟩⟩⟩⟩⟩⟩⟩⟩⟩⟩⟩⟩⟩
  · rw [en] at c1
    refine am_rb (hK g ⟨F1, F2, fun z => ?_⟩) ⟨fun z => ?_, fun z => by omega⟩
    all_goals
      exfalso
      obtain ⟨g1, G⟩ := z
      have b := G.1 w hw
      have r := opm w hw _ b
      refine NX (g1 w) r.1 (by omega) b ⟨g1, EX_dn hw (fun k a kw x y => bt_and.mpr ⟨y.1, (shl_ds S.1 S.2.1 r (dd k (opr k a).1 (opr k a).2)).mpr ⟨opm k a x y.1, y.2⟩⟩) G rfl⟩
  · rw [en] at c1
    rw [ea, em, bt_has0 i0 (by omega)] at c2
    refine ih c1 g (by omega) (by omega) F1 F2 (fun to t0 t1 tb => ?_)
    by_cases e : to = i
    · rw [e] at tb; exact absurd tb c2
    · exact NX to t0 (by omega) tb
  · rw [en] at c1
    rw [ea, eb] at q3
    have s := st h' q3 c1
    refine ih c1 h'_1 (by omega) (by omega) (fun x j a b => ?_) (fun y a => ?_) (fun to t0 t1 tb => ?_)
    · rw [q4.1 x j a (by omega), s.2.2.1 x j a (by omega)]; exact F1 x j a b
    · have yw : y ≠ w := fun z => a (z ▸ hw)
      rw [q4.2.1 y (fun z => a ((bl y).mp z).1), s.2.2.2 y, am_up_n2 (by omega)]; exact F2 y a
    · by_cases e : to = i
      · rw [e]
        exact fun ⟨g1, G⟩ => c5 ⟨g1, (cv h' q3 c1 g1).mpr G⟩
      · exact NX to t0 (by omega) tb
  · rw [en] at c1
    rw [ea, em, bt_has0 i0 (by omega)] at c2
    rw [ea, eb] at q3
    have s := st h' q3 c1
    have G := (cv h' q3 c1 _).mp (q4.2.2 c5)
    have fw : h'_1 (o + 1) w = i := by rw [q4.2.1 w (fun z => ((bl w).mp z).2 rfl), s.2.2.2 w, am_up_eq]
    have R1 : EXt (svD h (am_sv o)) (svD h (am_sv o)) (h (o + 3 + dp)) (bit op) (h'_1 (o + 1)) := EX_up DMh DMh opr opm hw (Classical.not_not.mp c2) (fun k a kw x y => by
      have y1 := bt_and.mp y
      exact ⟨y1.1, ((shl_ds S.1 S.2.1 ⟨i0, c1⟩ (dd k (opr k a).1 (opr k a).2)).mp y1.2).2⟩) G fw (fun _ _ _ => rfl)
    refine am_rb1 (hK h'_1 ⟨fun x j a b => ?_, fun y a => ?_, fun _ => R1⟩) ⟨_, R1⟩
    · rw [q4.1 x j a (by omega), s.2.2.1 x j a (by omega)]; exact F1 x j a b
    · have yw : y ≠ w := fun z => a (z ▸ hw)
      rw [q4.2.1 y (fun z => a ((bl y).mp z).1), s.2.2.2 y, am_up_n2 (by omega)]; exact F2 y a
theorem C75_ok : ∀ f : Nat, am_CS (f + 3) 75 (C75 f)
  | 0 => W75 0 (fun o dp op h K hb => by
    have h1 : 0 ≤ iPop op := (ct_le _ 32).1
    have h2 := hb.1.2.2.2.2.2
    exfalso
    omega)
  | f + 1 => W75 (f + 1) (fun o dp op h K hb => by
    obtain ⟨⟨ho, S, h2, ⟨so, hb2⟩, hM, hf⟩, hK⟩ := hb
    have hr := C75_ok f
    have hd : 2 ≤ f + 3 := by omega
    have pos : ¬ op = 0 → 1 ≤ iPop op := fun z => by
      have := iPop_less so (S20_low so z).1
      have : 0 ≤ iPop (iAnd op (iXor (iShl 1 (iLow op)) (-1))) := (ct_le _ 32).1
      omega
    refine T75_0 hd hr ⟨fun c1 => ⟨fun c2 => ⟨⟨ho, S, by have := pos c1; omega, ⟨so, c1, hb2⟩, fun y a b => (hM y a b).1⟩, fun w9 q3 => ⟨by have := pos c1; omega, ?_⟩⟩, fun c2 => ?_⟩, fun c1 => ?_⟩
    · exact L75 hd hr ho S h2 so hb2 hM hf q3 hK 0 h (by omega) S.1.1 (fun _ _ _ _ => rfl) (fun _ _ => rfl) (fun to a b => by omega)
    · have := pos c1
      exfalso
      omega
    · have R1 : ∀ g : Int → Int, EXt (svD h (am_sv o)) (svD h (am_sv o)) (h (o + 3 + dp)) (bit op) g := fun g => ⟨fun k a => absurd (c1 ▸ a) bt_zero, fun k l a _ => absurd (c1 ▸ a) bt_zero⟩
      exact am_rb1 (hK h ⟨fun _ _ _ _ => rfl, fun _ _ => rfl, fun _ => R1 _⟩) ⟨fun x => x, R1 _⟩)
def C75b : am_K := fun as h K => am_a3 as (fun v0 v1 v2 => am_o 8 v0 (fun o => am_n v1 (fun dp => am_n v2 (fun op => (HO8 o ∧ SVM h (am_sv o) ∧ (0 ≤ dp ∧ dp + iPop op ≤ 20) ∧ (S20 op ∧ ∀ y9, bit op y9 → y9 < (h (am_sv o + 1) 0)) ∧ (∀ y9, 0 ≤ y9 → y9 < (h (am_sv o + 1) 0) → S20 (h (o + 3 + dp) y9) ∧ ∀ q9, bit (h (o + 3 + dp) y9) q9 → q9 < (h (am_sv o + 1) 0)) ∧ iPop op < 21) ∧ (∀ (h' : am_H), ((∀ x9 i9, x9 ≠ o + 1 → ¬ (o + 3 + dp < x9 ∧ x9 ≤ o + 23) → h' x9 i9 = h x9 i9) ∧ (∀ y9, ¬ bit op y9 → h' (o + 1) y9 = h (o + 1) y9) ∧ (EXs (svD h (am_sv o)) (svD h (am_sv o)) (h (o + 3 + dp)) (bit op) → EXt (svD h (am_sv o)) (svD h (am_sv o)) (h (o + 3 + dp)) (bit op) (h' (o + 1)))) → K (some (mP (EXs (svD h (am_sv o)) (svD h (am_sv o)) (h (o + 3 + dp)) (bit op)))) (h'))))))
theorem C75b_ok : am_CS 24 75 C75b := C75_ok 21
