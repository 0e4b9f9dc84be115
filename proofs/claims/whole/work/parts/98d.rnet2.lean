def FZ (h g : am_H) : Prop := ∀ x i, ¬ (x = 571 ∧ 10 ≤ i ∧ i ≤ 16) → x ≠ 572 → g x i = h x i
theorem FZ_t {h g : am_H} (F : FZ h g) : rtp g = rtp h := tpn_fr (fun j => F _ _ (by omega) (by omega)) (F _ _ (by omega) (by omega))
theorem FZ_tr {h g g' : am_H} (F : FZ h g) (G : F06 g g') : FZ h g' := fun x i a b => (G x i a (by omega)).trans (F x i a b)
theorem FZ_tr2 {h g g' : am_H} (F : FZ h g) (G : F25 g g') : FZ h g' := fun x i a b => (G x i (by omega)).trans (F x i a b)
theorem FZ_up {h g : am_H} {i v : Int} (F : FZ h g) : FZ h (am_up g 572 i v) := fun x j a b => by rw [am_up_n2 (by omega)]; exact F x j a b
theorem RBD_f {g : am_H} {j : Int} (G : RG g g j) {S : Res} {n' : Int} {r' : Int → Int} (e : S = (1, tks (rtp g) j, n', r', 0)) : RBD g (flr g 1) S := RFA_S (RG_f G 1) (by omega) e
def NTR (h g : am_H) (Z : Int × Int × Int × Int × (Int → Int)) : Prop := (g 571 9 = 0 ∧ g 571 10 = Z.1 ∧ g 571 11 = Z.2.1) ∧ ((Z.1 = 0 ∧ CN Z.2.2.2.1 Z.2.2.2.2) → (∀ x i, (x < 571 ∨ (574 ≤ x ∧ x ≤ 578) ∨ x = 587 ∨ (x = 571 ∧ i = 29)) → g x i = h x i) ∧ (g 572 0 = Z.2.2.2.1 ∧ nr g 572 2 = Z.2.2.2.2 ∧ g 572 1 = Z.2.2.1) ∧ g 571 2 = 0 ∧ RIv g) ∧ (¬ (Z.1 = 0 ∧ CN Z.2.2.2.1 Z.2.2.2.2) → (∀ x i, (x < 571 ∨ (x = 572 ∧ 0 ≤ i ∧ i < 22) ∨ (574 ≤ x ∧ x ≤ 578) ∨ x = 587 ∨ (x = 571 ∧ (i = 2 ∨ i = 29))) → g x i = h x i) ∧ RIv g)
def W206 (h g : am_H) (k : Int) : Prop := (∀ x i, x ≠ 572 → x ≠ 573 → g x i = h x i) ∧ (∀ y, 0 ≤ y → y < k → g 573 y = h 572 y ∧ g 572 y = 0) ∧ ∀ y, k ≤ y → g 572 y = h 572 y
/-! 205 FactorNetsModel.readsAll -/
def C205 : am_K := fun as h K => am_a1 as (fun v0 => am_oc 12 571 v0 (((TPB h 579 (h 571 9)) ∧ RTK h (h 571 13) ∧ (0 ≤ h 571 13 ∧ h 571 13 ≤ h 571 12 ∧ h 571 12 ≤ h 571 9) ∧ h 571 16 = 0 ∧ WFn (h 572 1) (h 572 0) (nr h 572 2) ∧ (h 571 10 = 0 ∧ h 571 11 = -1) ∧ (h 572 0 = 0 ∧ h 572 1 = 0 ∧ nr h 572 2 = fun _ => 0)) ∧ (∀ (h' : am_H), RZD h h' (rdL (rtp h) 800 (h 571 13) 0 0 (fun _ => 0)) → K (none) (h'))))
theorem W205 {d : Nat} (H : ∀  (h : am_H) (K : Option am_V → am_H → Prop), ((TPB h 579 (h 571 9)) ∧ RTK h (h 571 13) ∧ (0 ≤ h 571 13 ∧ h 571 13 ≤ h 571 12 ∧ h 571 12 ≤ h 571 9) ∧ h 571 16 = 0 ∧ WFn (h 572 1) (h 572 0) (nr h 572 2) ∧ (h 571 10 = 0 ∧ h 571 11 = -1) ∧ (h 572 0 = 0 ∧ h 572 1 = 0 ∧ nr h 572 2 = fun _ => 0)) ∧ (∀ (h' : am_H), RZD h h' (rdL (rtp h) 800 (h 571 13) 0 0 (fun _ => 0)) → K (none) (h')) → am_AT d 205 0 [some (mR 1 12 0 571)] h K) : am_CS d 205 C205 := by
  refine am_CS_of (T := tb205) (mL := 1) (rk := 0) rfl (fun as h K hC => ?_)
  obtain ⟨v0, rfl, hC0⟩ := am_a1_e hC
  obtain ⟨e0, hC1⟩ := am_oc_e hC0
  subst e0
  refine ⟨Nat.le_of_ble_eq_true rfl, ?_⟩
  exact H  h K hC1
theorem T205_0 {R : Option am_V → am_H → Prop} {h : am_H} (t : ((¬ h 571 16 = 0) → (R none h)) ∧ ((h 571 16 = 0) → (((h 571 14 = 0) → (R none h)) ∧ ((¬ h 571 14 = 0) → ((TPB h 579 (h 571 9) ∧ (0 ≤ h 571 13 ∧ h 571 13 ≤ h 571 12 ∧ h 571 12 ≤ h 571 9)) ∧ (((ifc (rwd h 3000011) 0 (ifc (rwd h 3000009) 1 (ifc (rwd h 3000002) 2 (-1))) = (-1)) → (((¬ h 572 1 = 0) → (am_AT 7 205 58 [some (mR 1 12 0 571)] h R)) ∧ ((h 572 1 = 0) → ((TPB h 579 (h 571 9) ∧ (0 ≤ h 571 13 ∧ h 571 13 ≤ h 571 12 ∧ h 571 12 ≤ h 571 9)) ∧ (((¬ (rwd h (3000005 : Int))) → (am_AT 7 205 58 [some (mR 1 12 0 571)] h R)) ∧ ((rwd h (3000005 : Int)) → (((TPB h 579 (h 571 9)) ∧ RTK h (h 571 13) ∧ (0 ≤ h 571 13 ∧ h 571 13 ≤ h 571 12 ∧ h 571 12 ≤ h 571 9) ∧ h 571 16 = 0 ∧ WFn (h 572 1) (h 572 0) (nr h 572 2) ∧ h 572 1 = 0 ∧ h 571 14 = 1) ∧ (∀ (h' : am_H), (RBD h h' (bPo (rtp h) (tke (rtp h) (h 571 13)) (h 572 0) (nr h 572 2))) → (am_AT 7 205 88 [some (mR 1 12 0 571)] h' R))))))))) ∧ ((¬ ifc (rwd h 3000011) 0 (ifc (rwd h 3000009) 1 (ifc (rwd h 3000002) 2 (-1))) = (-1)) → ((TPB h 579 (h 571 9) ∧ (0 ≤ h 571 13 ∧ h 571 13 ≤ h 571 12 ∧ h 571 12 ≤ h 571 9)) ∧ (((TPB h 579 (h 571 9)) ∧ RTK h (h 571 13) ∧ (0 ≤ h 571 13 ∧ h 571 13 ≤ h 571 12 ∧ h 571 12 ≤ h 571 9) ∧ h 571 16 = 0 ∧ WFn (h 572 1) (h 572 0) (nr h 572 2) ∧ (0 ≤ (ifc (rwd h 3000011) 0 (ifc (rwd h 3000009) 1 (ifc (rwd h 3000002) 2 (-1)))) ∧ (ifc (rwd h 3000011) 0 (ifc (rwd h 3000009) 1 (ifc (rwd h 3000002) 2 (-1)))) ≤ 2) ∧ h 571 14 = 1) ∧ (∀ (h' : am_H), (RBD h h' (bPr (rtp h) (ifc (rwd h 3000011) 0 (ifc (rwd h 3000009) 1 (ifc (rwd h 3000002) 2 (-1)))) (tke (rtp h) (h 571 13)) (h 572 1) (h 572 0) (nr h 572 2))) → (am_AT 7 205 88 [some (mR 1 12 0 571)] h' R))))))))))) : am_AT 7 205 0 [some (mR 1 12 0 571)] h R :=
  am_T (d := 6) (m := 205) (T := tb205) (mL := 1) (rk := 0) (cuts := [(0, [1]), (58, [1]), (83, [1]), (88, [1])]) (l := [(194, C194), (195, C195), (196, C196), (201, C201), (202, C202), (203, C203), (204, C204)]) rfl ⟨am_CS_d (by decide) C194_ok, am_CS_d (by decide) C195_ok, am_CS_d (by decide) C196_ok, am_CS_d (by decide) C201_ok, am_CS_d (by decide) C202_ok, am_CS_d (by decide) C203_ok, am_CS_d (by decide) C204_ok, trivial⟩ 26 (And.intro (fun c1 => (t).1 c1) (fun c1 => And.intro (fun c2 => ((t).2 c1).1 c2) (fun c2 => And.intro (rfl) (And.intro (((t).2 c1).2 c2).1 (And.intro (fun c3 => And.intro (⟨by decide, by decide⟩) (And.intro (fun c4 => (((((t).2 c1).2 c2).2).1 c3).1 c4) (fun c4 => And.intro (rfl) (And.intro ((((((t).2 c1).2 c2).2).1 c3).2 c4).1 (And.intro (fun c5 => (((((((t).2 c1).2 c2).2).1 c3).2 c4).2).1 c5) (fun c5 => And.intro (rfl) (And.intro ((((((((t).2 c1).2 c2).2).1 c3).2 c4).2).2 c5).1 (fun z1_0 z1_1 => (((((((((t).2 c1).2 c2).2).1 c3).2 c4).2).2 c5).2) z1_0 z1_1)))))))) (fun c3 => And.intro (rfl) (And.intro (((((t).2 c1).2 c2).2).2 c3).1 (And.intro (rfl) (And.intro ((((((t).2 c1).2 c2).2).2 c3).2).1 (fun z2_0 z2_1 => (((((((t).2 c1).2 c2).2).2 c3).2).2) z2_0 z2_1))))))))))
theorem T205_58 {R : Option am_V → am_H → Prop} {h : am_H} (t : ((h 572 1 ≤ 0) → (am_AT 7 205 83 [some (mR 1 12 0 571)] h R)) ∧ ((0 < h 572 1) → ((TPB h 579 (h 571 9) ∧ (0 ≤ h 571 13 ∧ h 571 13 ≤ h 571 12 ∧ h 571 12 ≤ h 571 9)) ∧ (((¬ (rwd h (3000004 : Int))) → (am_AT 7 205 83 [some (mR 1 12 0 571)] h R)) ∧ ((rwd h (3000004 : Int)) → (((TPB h 579 (h 571 9)) ∧ RTK h (h 571 13) ∧ (0 ≤ h 571 13 ∧ h 571 13 ≤ h 571 12 ∧ h 571 12 ≤ h 571 9) ∧ h 571 16 = 0 ∧ WFn (h 572 1) (h 572 0) (nr h 572 2) ∧ 0 < h 572 1 ∧ h 571 14 = 1) ∧ (∀ (h' : am_H), (RBD h h' (bLi (rtp h) (tke (rtp h) (h 571 13)) (h 572 0) (nr h 572 2))) → (am_AT 7 205 88 [some (mR 1 12 0 571)] h' R)))))))) : am_AT 7 205 58 [some (mR 1 12 0 571)] h R :=
  am_T (d := 6) (m := 205) (T := tb205) (mL := 1) (rk := 0) (cuts := [(0, [1]), (58, [1]), (83, [1]), (88, [1])]) (l := [(194, C194), (195, C195), (196, C196), (201, C201), (202, C202), (203, C203), (204, C204)]) rfl ⟨am_CS_d (by decide) C194_ok, am_CS_d (by decide) C195_ok, am_CS_d (by decide) C196_ok, am_CS_d (by decide) C201_ok, am_CS_d (by decide) C202_ok, am_CS_d (by decide) C203_ok, am_CS_d (by decide) C204_ok, trivial⟩ 16 (And.intro (⟨by decide, by decide⟩) (And.intro (fun c6 => (t).1 c6) (fun c6 => And.intro (rfl) (And.intro ((t).2 c6).1 (And.intro (fun c7 => (((t).2 c6).2).1 c7) (fun c7 => And.intro (rfl) (And.intro ((((t).2 c6).2).2 c7).1 (fun z3_0 z3_1 => (((((t).2 c6).2).2 c7).2) z3_0 z3_1))))))))
theorem T205_83 {R : Option am_V → am_H → Prop} {h : am_H} (t : (h 571 16 = 0 ∨ h 571 16 = 1) ∧ (∀ (h' : am_H), ((h 571 16 = 1 → h' = h) ∧ (h 571 16 = 0 → h' = flr h (1 : Int))) → (am_AT 7 205 88 [some (mR 1 12 0 571)] h' R))) : am_AT 7 205 83 [some (mR 1 12 0 571)] h R :=
  am_T (d := 6) (m := 205) (T := tb205) (mL := 1) (rk := 0) (cuts := [(0, [1]), (58, [1]), (83, [1]), (88, [1])]) (l := [(194, C194), (195, C195), (196, C196), (201, C201), (202, C202), (203, C203), (204, C204)]) rfl ⟨am_CS_d (by decide) C194_ok, am_CS_d (by decide) C195_ok, am_CS_d (by decide) C196_ok, am_CS_d (by decide) C201_ok, am_CS_d (by decide) C202_ok, am_CS_d (by decide) C203_ok, am_CS_d (by decide) C204_ok, trivial⟩ 7 (And.intro (rfl) (And.intro (t).1 (fun z4_0 z4_1 => ((t).2) z4_0 z4_1)))
theorem T205_88 {R : Option am_V → am_H → Prop} {h : am_H} (t : ((¬ h 571 16 = 0) → (((h 571 16 = 0 ∨ h 571 16 = 1) ∧ (h 571 16 = 0 → ((1 : Int) = 1) → TPB h 579 (h 571 9) ∧ (0 ≤ h 571 12 ∧ h 571 12 ≤ h 571 9))) ∧ (∀ (h' : am_H), ((h 571 16 = 1 → h' = h) ∧ (h 571 16 = 0 → (((1 : Int) = 1) → NXT h h') ∧ (¬ ((1 : Int) = 1) → h' = flr h 1))) → ((R32 ((h' 572 1) + 1)) ∧ (am_AT 7 205 0 [some (mR 1 12 0 571)] (am_up h' 572 1 ((h' 572 1) + 1)) R))))) ∧ ((h 571 16 = 0) → (((¬ h 571 14 = 3) → (((h 571 16 = 0 ∨ h 571 16 = 1) ∧ (h 571 16 = 0 → ((0 : Int) = 1) → TPB h 579 (h 571 9) ∧ (0 ≤ h 571 12 ∧ h 571 12 ≤ h 571 9))) ∧ (∀ (h' : am_H), ((h 571 16 = 1 → h' = h) ∧ (h 571 16 = 0 → (((0 : Int) = 1) → NXT h h') ∧ (¬ ((0 : Int) = 1) → h' = flr h 1))) → ((R32 ((h' 572 1) + 1)) ∧ (am_AT 7 205 0 [some (mR 1 12 0 571)] (am_up h' 572 1 ((h' 572 1) + 1)) R))))) ∧ ((h 571 14 = 3) → (((h 571 16 = 0 ∨ h 571 16 = 1) ∧ (h 571 16 = 0 → ((1 : Int) = 1) → TPB h 579 (h 571 9) ∧ (0 ≤ h 571 12 ∧ h 571 12 ≤ h 571 9))) ∧ (∀ (h' : am_H), ((h 571 16 = 1 → h' = h) ∧ (h 571 16 = 0 → (((1 : Int) = 1) → NXT h h') ∧ (¬ ((1 : Int) = 1) → h' = flr h 1))) → ((R32 ((h' 572 1) + 1)) ∧ (am_AT 7 205 0 [some (mR 1 12 0 571)] (am_up h' 572 1 ((h' 572 1) + 1)) R)))))))) : am_AT 7 205 88 [some (mR 1 12 0 571)] h R :=
  am_T (d := 6) (m := 205) (T := tb205) (mL := 1) (rk := 0) (cuts := [(0, [1]), (58, [1]), (83, [1]), (88, [1])]) (l := [(194, C194), (195, C195), (196, C196), (201, C201), (202, C202), (203, C203), (204, C204)]) rfl ⟨am_CS_d (by decide) C194_ok, am_CS_d (by decide) C195_ok, am_CS_d (by decide) C196_ok, am_CS_d (by decide) C201_ok, am_CS_d (by decide) C202_ok, am_CS_d (by decide) C203_ok, am_CS_d (by decide) C204_ok, trivial⟩ 24 (And.intro (fun c8 => And.intro (rfl) (And.intro (Or.inr rfl) (And.intro ((t).1 c8).1 (fun z5_0 z5_1 => And.intro (⟨by decide, by decide⟩) (And.intro (⟨by decide, by decide⟩) (And.intro ((((t).1 c8).2) z5_0 z5_1).1 (((((t).1 c8).2) z5_0 z5_1).2))))))) (fun c8 => And.intro (fun c9 => And.intro (rfl) (And.intro (Or.inl rfl) (And.intro (((t).2 c8).1 c9).1 (fun z6_0 z6_1 => And.intro (⟨by decide, by decide⟩) (And.intro (⟨by decide, by decide⟩) (And.intro (((((t).2 c8).1 c9).2) z6_0 z6_1).1 ((((((t).2 c8).1 c9).2) z6_0 z6_1).2))))))) (fun c9 => And.intro (rfl) (And.intro (Or.inr rfl) (And.intro (((t).2 c8).2 c9).1 (fun z7_0 z7_1 => And.intro (⟨by decide, by decide⟩) (And.intro (⟨by decide, by decide⟩) (And.intro (((((t).2 c8).2 c9).2) z7_0 z7_1).1 ((((((t).2 c8).2 c9).2) z7_0 z7_1).2)))))))))
theorem X205 {K : Option am_V → am_H → Prop} {h g : am_H} {Z : Int × Int × Int × Int × (Int → Int)} (hK : (∀ g, RZD h g Z → K none g)) (F : FZ h g) (e : g 571 16 = 1 ∧ g 571 10 = Z.1 ∧ g 571 11 = Z.2.1) (z : ¬ Z.1 = 0) : am_AT 7 205 0 [some (mR 1 12 0 571)] g K := by
  have e1 := e.1
  refine T205_0 ⟨fun c1 => ?_, fun c1 => ⟨fun c2 => ?_, fun c2 => ⟨by omega, ⟨fun c3 => ⟨fun c4 => ?_, fun c4 => ⟨by omega, ⟨fun c5 => ?_, fun c5 => ⟨by omega, fun h' q6 => ?_⟩⟩⟩⟩, fun c3 => ⟨by omega, ⟨by omega, fun h' q4 => ?_⟩⟩⟩⟩⟩⟩
  · exact hK g ⟨F, Or.inr e.1, ⟨fun w => by omega, fun w => absurd w z⟩, e.2, fun w => absurd w z⟩
  · exfalso; omega
  · exfalso; omega
  · exfalso; omega
  · exfalso; omega
  · exfalso; omega
theorem L205e {K : Option am_V → am_H → Prop} {h : am_H} (T : TPB h 579 (h 571 9)) {Z : Int × Int × Int × Int × (Int → Int)} (hK : (∀ g, RZD h g Z → K none g)) {c i : Int} (hc : 0 ≤ c ∧ c < 800) (hi : c ≤ i ∧ i ≤ h 571 9) {g g0 : am_H} (F : FZ h g0) (f10 : g0 571 10 = 0 ∧ g0 571 11 = -1) (f1 : g0 572 1 = c) (W : WFn c (g0 572 0) (nr g0 572 2)) (nz : ¬ tkk (rtp h) i = 0) (B : RBD g0 g (bSt (rtp h) i c (g0 572 0) (nr g0 572 2))) (e : rdL (rtp h) ((800 - (c + 1)).toNat + 1) i c (g0 572 0) (nr g0 572 2) = Z) (ih : ∀ (g : am_H) (i : Int), c + 1 ≤ i → i ≤ h 571 9 → FZ h g → RTK g i → (0 ≤ g 571 13 ∧ g 571 13 ≤ g 571 12 ∧ g 571 12 ≤ h 571 9) → g 571 16 = 0 → (g 571 10 = 0 ∧ g 571 11 = -1) → g 572 1 = c + 1 → WFn (c + 1) (g 572 0) (nr g 572 2) → rdL (rtp h) (800 - (c + 1)).toNat i (c + 1) (g 572 0) (nr g 572 2) = Z → am_AT 7 205 0 [some (mR 1 12 0 571)] g K) : am_AT 7 205 88 [some (mR 1 12 0 571)] g K := by
  have TW : TPW (rtp h) := TPW_b T
  have FG := FZ_tr F B.1
  have eh := FZ_t FG
  have g1 : g 572 1 = c := (B.1 _ _ (by omega) (by omega)).trans f1
  have t := T.1
  have e9 : g0 571 9 = h 571 9 := F _ _ (by omega) (by omega)
  have e9g : g 571 9 = h 571 9 := FG _ _ (by omega) (by omega)
  have Tg : TPB g 579 (g 571 9) := TPB_fr T (fun j => FG _ _ (by omega) (by omega)) e9g
  have st := B.2.1
  have sf := B.2.2
  refine T205_88 ⟨fun c1 => ⟨by
    have n1 : ¬ (bSt (rtp h) i c (g0 572 0) (nr g0 572 2)).1 = 0 := fun z => c1 (st z).1.1
    exact ⟨Or.inr (sf n1).1, fun z => absurd z c1⟩, fun h' q2 => ⟨by
    have n1 : ¬ (bSt (rtp h) i c (g0 572 0) (nr g0 572 2)).1 = 0 := fun z => c1 (st z).1.1
    rw [q2.1 (sf n1).1, g1]
    unfold R32
    omega, ?_⟩⟩, fun c1 => ⟨fun c2 => ⟨⟨Or.inl c1, fun _ z => by omega⟩, fun h' q3 => ⟨by
    rw [(q3.2 c1).2 (by omega), (flr_f g 1).2.2.2 _ _ (by omega), g1]
    unfold R32
    omega, ?_⟩⟩, fun c2 => ⟨by
    have s1 : (bSt (rtp h) i c (g0 572 0) (nr g0 572 2)).1 = 0 := Classical.byContradiction fun z => by have := (sf z).1; omega
    have Y := (st s1).2.2.2.2
    exact ⟨Or.inl c1, fun _ _ => ⟨Tg, by omega⟩⟩, fun h' q3 => ⟨by
    rw [((q3.2 c1).1 rfl).1 _ _ (by omega), g1]
    unfold R32
    omega, ?_⟩⟩⟩⟩
  · have n1 : ¬ (bSt (rtp h) i c (g0 572 0) (nr g0 572 2)).1 = 0 := fun z => c1 (st z).1.1
    have s := sf n1
    have e1 := q2.1 s.1
    rw [rdL_f nz n1] at e
    subst e
    rw [e1]
    exact X205 hK (FZ_up FG) ⟨by rw [am_up_n2 (by omega)]; exact s.1, by rw [am_up_n2 (by omega)]; exact s.2.1, by rw [am_up_n2 (by omega)]; exact s.2.2⟩ n1
  · have s1 : (bSt (rtp h) i c (g0 572 0) (nr g0 572 2)).1 = 0 := Classical.byContradiction fun z => by have := (sf z).1; omega
    have Y := st s1
    have k3 : ¬ tkk (rtp h) (bSt (rtp h) i c (g0 572 0) (nr g0 572 2)).2.2.2.2 = 3 := fun z => c2 (by have := Y.2.2.1.1.2; rw [eh] at this; exact this.trans z)
    have g6 := Y.2.2.1.1.1
    rw [eh] at g6
    have e1 := (q3.2 c1).2 (by omega)
    rw [rdL_g nz s1 k3] at e
    subst e
    rw [e1]
    have f := flr_f g 1
    exact X205 hK (FZ_up (fun x j a b => by rw [f.2.2.2 x j (by omega)]; exact FG x j a b)) ⟨by rw [am_up_n2 (by omega)]; exact f.1, by rw [am_up_n2 (by omega)]; exact f.2.1, by rw [am_up_n2 (by omega), f.2.2.1]; exact g6⟩ (fun z => by have z' : (1 : Int) = 0 := z; omega)
  · have s1 : (bSt (rtp h) i c (g0 572 0) (nr g0 572 2)).1 = 0 := Classical.byContradiction fun z => by have := (sf z).1; omega
    have Y := st s1
    have w := bSt_w TW (by omega) W s1
    have k3 : tkk (rtp h) (bSt (rtp h) i c (g0 572 0) (nr g0 572 2)).2.2.2.2 = 3 := by
      have := Y.2.2.1.1.2
      rw [eh] at this
      exact this.symm.trans c2
    have tr := tk_r TW (i := (bSt (rtp h) i c (g0 572 0) (nr g0 572 2)).2.2.2.2) (by omega) (by omega)
    have N := (q3.2 c1).1 rfl
    have e12 := Y.2.2.1.2.1
    rw [eh, ifc_f (by omega)] at e12
    have tin := tk_in T (i := (bSt (rtp h) i c (g0 572 0) (nr g0 572 2)).2.2.2.2) (by omega) (by omega)
    have C2 := N.2.1
    rw [e12] at C2
    have nb := N.2.2
    rw [e9g] at nb
    have FN : FZ h h' := FZ_tr2 FG N.1
    rw [rdL_s nz s1 k3] at e
    have n30 : (am_up h' 572 1 (h' 572 1 + 1)) 572 0 = (bSt (rtp h) i c (g0 572 0) (nr g0 572 2)).2.2.1 := by rw [am_up_n2 (by omega), N.1 _ _ (by omega)]; exact Y.2.1.1
    have nr4 : nr (am_up h' 572 1 (h' 572 1 + 1)) 572 2 = (bSt (rtp h) i c (g0 572 0) (nr g0 572 2)).2.2.2.1 := (nr_cg (fun y a b => by rw [am_up_n2 (by omega), N.1 _ _ (by omega)])).trans Y.2.1.2
    have h1 : h' 572 1 = c := (N.1 _ _ (by omega)).trans g1
    refine ih _ (tke (rtp h) (bSt (rtp h) i c (g0 572 0) (nr g0 572 2)).2.2.2.2) (by omega) tin.2 (FZ_up FN) (RTK_fr C2 (fun j => am_up_n2 (by omega)) (fun j => am_up_n2 (by omega))) ?_ ?_ ?_ ?_ ?_ ?_
    · rw [am_up_n2 (by omega), am_up_n2 (by omega)]; exact nb
    · rw [am_up_n2 (by omega), N.1 _ _ (by omega)]; exact c1
    · rw [am_up_n2 (by omega), am_up_n2 (by omega), N.1 _ _ (by omega), N.1 _ _ (by omega)]; exact ⟨Y.1.2.1.trans f10.1, Y.1.2.2.trans f10.2⟩
    · rw [am_up_eq, h1]
    · rw [n30, nr4]; exact w.1
    · rw [n30, nr4]; exact e
theorem L205 {K : Option am_V → am_H → Prop} {h : am_H} (T : TPB h 579 (h 571 9)) {Z : Int × Int × Int × Int × (Int → Int)} (hK : (∀ g, RZD h g Z → K none g)) : ∀ c, ∀ (g : am_H) (i : Int), 0 ≤ c → c ≤ 800 → c ≤ i → i ≤ h 571 9 → FZ h g → RTK g i → (0 ≤ g 571 13 ∧ g 571 13 ≤ g 571 12 ∧ g 571 12 ≤ h 571 9) → g 571 16 = 0 → (g 571 10 = 0 ∧ g 571 11 = -1) → g 572 1 = c → WFn c (g 572 0) (nr g 572 2) → rdL (rtp h) (800 - c).toNat i c (g 572 0) (nr g 572 2) = Z → am_AT 7 205 0 [some (mR 1 12 0 571)] g K := by
  have TW : TPW (rtp h) := TPW_b T
  have t := T.1
  refine lp 800 (fun c ih g i c0 c8 i0 i1 F C bd f16 f10 f1 W e => ?_)
  have ec := FZ_t F
  have e9 : g 571 9 = h 571 9 := F _ _ (by omega) (by omega)
  have Tg : TPB g 579 (g 571 9) := TPB_fr T (fun j => F _ _ (by omega) (by omega)) e9
  have CI : RTK g (g 571 13) := RTK_id (by rw [ec]; exact TW) (by omega) C
  have e13 := C.1.1
  have e14 := C.1.2
  rw [ec] at e13 e14
  have G : RG g g i := ⟨fun _ _ _ => rfl, C, by omega, by omega⟩
  have cnt0 := W.2.2.1
  have stop : tkk (rtp h) i = 0 → K none g := fun z => by
    rw [rdL_0 z] at e
    subst e
    exact hK g ⟨F, Or.inl f16, ⟨fun _ => rfl, fun _ => f16⟩, f10, fun _ => ⟨⟨f1, rfl, rfl⟩, W⟩⟩
  have c9 : ¬ tkk (rtp h) i = 0 → c < 800 := fun z => Classical.byContradiction fun w => z (tkk_end TW (by omega))
  have go : ¬ tkk (rtp h) i = 0 → ∀ g', RBD g g' (bSt (rtp h) i c (g 572 0) (nr g 572 2)) → am_AT 7 205 88 [some (mR 1 12 0 571)] g' K := fun nz g' B => by
    have l := c9 nz
    rw [show (800 - c).toNat = (800 - (c + 1)).toNat + 1 by omega] at e
    exact L205e T hK ⟨c0, l⟩ ⟨i0, i1⟩ F f10 f1 W nz B e (fun g i a b F' C' bd' x1 x2 x3 x4 x5 => ih l g i (by omega) (by omega) a b F' C' bd' x1 x2 x3 x4 x5)
  have kd : ifc (rwd g 3000011) 0 (ifc (rwd g 3000009) 1 (ifc (rwd g 3000002) 2 (-1))) = kdw (rtp h) i := by
    unfold kdw
    rw [propext (rwd_w G 3000011), propext (rwd_w G 3000009), propext (rwd_w G 3000002), ec]
  have tj : tke (rtp g) (g 571 13) = tke (rtp h) i := by rw [ec, e13, tke_id TW (by omega)]
  have pb : TPB g 579 (g 571 9) ∧ (0 ≤ g 571 13 ∧ g 571 13 ≤ g 571 12 ∧ g 571 12 ≤ g 571 9) := ⟨Tg, by omega⟩
  have W' : WFn (g 572 1) (g 572 0) (nr g 572 2) := by rw [f1]; exact W
  have l83 : ¬ tkk (rtp h) i = 0 → kdw (rtp h) i = -1 → ¬ (c = 0 ∧ wdp (rtp h) i 3000005) → ¬ (0 < c ∧ wdp (rtp h) i 3000004) → am_AT 7 205 83 [some (mR 1 12 0 571)] g K := fun nz k1 n1 n2 => by
    refine T205_83 ⟨by omega, fun h' q1 => ?_⟩
    · rw [q1.2 f16]
      refine go nz _ (RBD_f (n' := g 572 0) (r' := nr g 572 2) G ?_)
      unfold bSt
      rw [cif_f (fun z => z k1), cif_f n1, cif_f n2, ec]
  have l58 : ¬ tkk (rtp h) i = 0 → kdw (rtp h) i = -1 → ¬ (c = 0 ∧ wdp (rtp h) i 3000005) → am_AT 7 205 58 [some (mR 1 12 0 571)] g K := fun nz k1 n1 => by
    refine T205_58 ⟨fun c1 => ?_, fun c1 => ⟨pb, ⟨fun c2 => ?_, fun c2 => ⟨⟨Tg, CI, by omega, f16, W', c1, c2.1⟩, fun h' q3 => ?_⟩⟩⟩⟩
    · exact l83 nz k1 n1 (fun z => by omega)
    · exact l83 nz k1 n1 (fun z => c2 ((rwd_w G _).mpr (by rw [ec]; exact z.2)))
    · have w := (rwd_w G _).mp c2
      rw [ec] at w
      rw [tj, ec] at q3
      refine go nz h' ?_
      unfold bSt
      rw [cif_f (fun z => z k1), cif_f n1, cif_t ⟨by omega, w⟩]
      exact q3
  refine T205_0 ⟨fun c1 => ?_, fun c1 => ⟨fun c2 => ?_, fun c2 => ⟨pb, ⟨fun c3 => ⟨fun c4 => ?_, fun c4 => ⟨pb, ⟨fun c5 => ?_, fun c5 => ⟨⟨Tg, CI, by omega, f16, W', c4, c5.1⟩, fun h' q6 => ?_⟩⟩⟩⟩, fun c3 => ⟨pb, ⟨by
    have c3' := c3
    rw [kd] at c3'
    have kr := kdw_r (rtp h) i
    rw [kd]
    exact ⟨Tg, CI, by omega, f16, W', by omega, by rw [e14]; exact kdw_k c3'⟩, fun h' q4 => ?_⟩⟩⟩⟩⟩⟩
  · exact absurd f16 c1
  · exact stop (e14.symm.trans c2)
  · rw [kd] at c3
    exact l58 (fun z => c2 (e14.trans z)) c3 (fun z => by omega)
  · rw [kd] at c3
    exact l58 (fun z => c2 (e14.trans z)) c3 (fun z => c5 ((rwd_w G _).mpr (by rw [ec]; exact z.2)))
  · rw [kd] at c3
    have w := (rwd_w G _).mp c5
    rw [ec] at w
    rw [tj, ec] at q6
    refine go (fun z => c2 (e14.trans z)) h' ?_
    unfold bSt
    rw [cif_f (fun z => z c3), cif_t ⟨by omega, w⟩]
    exact q6
  · rw [kd] at c3 q4
    rw [tj, ec, f1] at q4
    refine go (fun z => c2 (e14.trans z)) h' ?_
    unfold bSt
    rw [cif_t c3]
    exact q4
theorem C205_ok : am_CS 7 205 C205 := W205 (fun h K hb => by
  obtain ⟨⟨T, C, bd, z16, W, f10, e0, e1, e2⟩, hK⟩ := hb
  refine L205 T hK 0 h (h 571 13) (by omega) (by omega) (by omega) (by omega) (fun _ _ _ _ => rfl) C bd z16 f10 e1 ?_ ?_
  · rw [e1] at W; exact W
  · rw [e0, e2]; rfl)
/-! 206 FactorNetsModel.net -/
def C206 : am_K := fun as h K => am_a1 as (fun v0 => am_oc 12 571 v0 ((RIv h ∧ TPB h 579 (h 571 9)) ∧ (∀ (h' : am_H), NTR h h' (rdL (rtp h) 800 0 0 0 (fun _ => 0)) → K (some (mB (ifc ((rdL (rtp h) 800 0 0 0 (fun _ => 0)).1 = 0) (ifc (CN (rdL (rtp h) 800 0 0 0 (fun _ => 0)).2.2.2.1 (rdL (rtp h) 800 0 0 0 (fun _ => 0)).2.2.2.2) (rdL (rtp h) 800 0 0 0 (fun _ => 0)).2.2.2.1 (-5)) (-4)))) (h'))))
theorem W206c {d : Nat} (H : ∀  (h : am_H) (K : Option am_V → am_H → Prop), (RIv h ∧ TPB h 579 (h 571 9)) ∧ (∀ (h' : am_H), NTR h h' (rdL (rtp h) 800 0 0 0 (fun _ => 0)) → K (some (mB (ifc ((rdL (rtp h) 800 0 0 0 (fun _ => 0)).1 = 0) (ifc (CN (rdL (rtp h) 800 0 0 0 (fun _ => 0)).2.2.2.1 (rdL (rtp h) 800 0 0 0 (fun _ => 0)).2.2.2.2) (rdL (rtp h) 800 0 0 0 (fun _ => 0)).2.2.2.1 (-5)) (-4)))) (h')) → am_AT d 206 0 [some (mR 1 12 0 571), none] h K) : am_CS d 206 C206 := by
  refine am_CS_of (T := tb206) (mL := 2) (rk := 1) rfl (fun as h K hC => ?_)
  obtain ⟨v0, rfl, hC0⟩ := am_a1_e hC
  obtain ⟨e0, hC1⟩ := am_oc_e hC0
  subst e0
  refine ⟨Nat.le_of_ble_eq_true rfl, ?_⟩
  exact H  h K hC1
theorem T206_0 {R : Option am_V → am_H → Prop} {h : am_H} (t : am_AT 8 206 2 [some (mR 1 12 0 571), some (mI 0)] h R) : am_AT 8 206 0 [some (mR 1 12 0 571), none] h R :=
  am_T (d := 7) (m := 206) (T := tb206) (mL := 2) (rk := 1) (cuts := [(2, [1, 2]), (87, [1, 2])]) (l := [(193, C193), (205, C205), (213, C213)]) rfl ⟨am_CS_d (by decide) C193_ok, am_CS_d (by decide) C205_ok, am_CS_d (by decide) C213_ok, trivial⟩ 6 (t)
theorem T206_2 {R : Option am_V → am_H → Prop} {h : am_H} {x1 : Int} (t : (R32 x1) ∧ (((22 ≤ x1) → ((TPB (am_up (am_up (am_up (am_up h 571 12 0) 571 16 0) 571 10 0) 571 11 (-1)) 579 ((am_up (am_up (am_up (am_up h 571 12 0) 571 16 0) 571 10 0) 571 11 (-1)) 571 9) ∧ (0 ≤ (am_up (am_up (am_up (am_up h 571 12 0) 571 16 0) 571 10 0) 571 11 (-1)) 571 12 ∧ (am_up (am_up (am_up (am_up h 571 12 0) 571 16 0) 571 10 0) 571 11 (-1)) 571 12 ≤ (am_up (am_up (am_up (am_up h 571 12 0) 571 16 0) 571 10 0) 571 11 (-1)) 571 9)) ∧ (∀ (h' : am_H), (NXT (am_up (am_up (am_up (am_up h 571 12 0) 571 16 0) 571 10 0) 571 11 (-1)) h') → (((TPB h' 579 (h' 571 9)) ∧ RTK h' (h' 571 13) ∧ (0 ≤ h' 571 13 ∧ h' 571 13 ≤ h' 571 12 ∧ h' 571 12 ≤ h' 571 9) ∧ h' 571 16 = 0 ∧ WFn (h' 572 1) (h' 572 0) (nr h' 572 2) ∧ (h' 571 10 = 0 ∧ h' 571 11 = -1) ∧ (h' 572 0 = 0 ∧ h' 572 1 = 0 ∧ nr h' 572 2 = fun _ => 0)) ∧ (∀ (h'_1 : am_H), (RZD h' h'_1 (rdL (rtp h') 800 (h' 571 13) 0 0 (fun _ => 0))) → (((¬ (h'_1) 571 16 = 0) → (am_AT 8 206 87 [some (mR 1 12 0 571), some (mI 0)] (am_up (am_up h'_1 571 9 0) 571 17 0) R)) ∧ (((h'_1) 571 16 = 0) → ((NT ((am_up (am_up h'_1 571 9 0) 571 17 0) 572 0) (nr (am_up (am_up h'_1 571 9 0) 571 17 0) 572 2)) ∧ (∀ (h'_2 : am_H), ((∀ x i, x ≠ 580 → h'_2 x i = (am_up (am_up h'_1 571 9 0) 571 17 0) x i) ∧ RF h'_2 ((am_up (am_up h'_1 571 9 0) 571 17 0) 572 0) (nr (am_up (am_up h'_1 571 9 0) 571 17 0) 572 2)) → (((CN ((am_up (am_up h'_1 571 9 0) 571 17 0) 572 0) (nr (am_up (am_up h'_1 571 9 0) 571 17 0) 572 2)) → (R (some (mB (h'_2 572 0))) (am_up h'_2 571 2 0))) ∧ ((¬ (CN ((am_up (am_up h'_1 571 9 0) 571 17 0) 572 0) (nr (am_up (am_up h'_1 571 9 0) 571 17 0) 572 2))) → (am_AT 8 206 87 [some (mR 1 12 0 571), some (mI 0)] h'_2 R)))))))))))) ∧ ((x1 < 22) → ((0 ≤ x1 ∧ x1 < 22) ∧ ((0 ≤ x1 ∧ x1 < 22) ∧ ((0 ≤ x1 ∧ x1 < 22) ∧ (am_AT 8 206 2 [some (mR 1 12 0 571), some (mI (x1 + 1))] (am_up (am_up h 573 x1 (h 572 x1)) 572 x1 0) R))))))) : am_AT 8 206 2 [some (mR 1 12 0 571), some (mI x1)] h R :=
  am_T (d := 7) (m := 206) (T := tb206) (mL := 2) (rk := 1) (cuts := [(2, [1, 2]), (87, [1, 2])]) (l := [(193, C193), (205, C205), (213, C213)]) rfl ⟨am_CS_d (by decide) C193_ok, am_CS_d (by decide) C205_ok, am_CS_d (by decide) C213_ok, trivial⟩ 43 (And.intro (t).1 (And.intro (fun c10 => And.intro (Or.inl rfl) (And.intro (rfl) (And.intro (((t).2).1 c10).1 (fun z8_0 z8_1 => And.intro (rfl) (And.intro (((((t).2).1 c10).2) z8_0 z8_1).1 (fun z9_0 z9_1 => And.intro (Or.inl rfl) (And.intro (fun c11 => (((((((t).2).1 c10).2) z8_0 z8_1).2) z9_0 z9_1).1 c11) (fun c11 => And.intro (rfl) (And.intro ((((((((t).2).1 c10).2) z8_0 z8_1).2) z9_0 z9_1).2 c11).1 (fun z10_0 z10_1 => And.intro (fun c12 => And.intro (⟨by decide, by decide⟩) (((((((((((t).2).1 c10).2) z8_0 z8_1).2) z9_0 z9_1).2 c11).2) z10_0 z10_1).1 c12)) (fun c12 => ((((((((((t).2).1 c10).2) z8_0 z8_1).2) z9_0 z9_1).2 c11).2) z10_0 z10_1).2 c12))))))))))) (fun c10 => And.intro (((t).2).2 c10).1 (And.intro ((((t).2).2 c10).2).1 (And.intro (((((t).2).2 c10).2).2).1 ((((((t).2).2 c10).2).2).2))))))
theorem T206_87 {R : Option am_V → am_H → Prop} {h : am_H} {x1 : Int} (t : (R32 x1) ∧ (((22 ≤ x1) → (((h 571 16 = 0) → (R (some (mB (-5))) (am_up h 571 17 0))) ∧ ((¬ h 571 16 = 0) → (R (some (mB (-4))) (am_up h 571 17 0))))) ∧ ((x1 < 22) → ((0 ≤ x1 ∧ x1 < 22) ∧ ((0 ≤ x1 ∧ x1 < 22) ∧ (am_AT 8 206 87 [some (mR 1 12 0 571), some (mI (x1 + 1))] (am_up h 572 x1 (h 573 x1)) R)))))) : am_AT 8 206 87 [some (mR 1 12 0 571), some (mI x1)] h R :=
  am_T (d := 7) (m := 206) (T := tb206) (mL := 2) (rk := 1) (cuts := [(2, [1, 2]), (87, [1, 2])]) (l := [(193, C193), (205, C205), (213, C213)]) rfl ⟨am_CS_d (by decide) C193_ok, am_CS_d (by decide) C205_ok, am_CS_d (by decide) C213_ok, trivial⟩ 17 (And.intro (t).1 (And.intro (fun c13 => And.intro (Or.inl rfl) (And.intro (fun c14 => (((t).2).1 c13).1 c14) (fun c14 => (((t).2).1 c13).2 c14))) (fun c13 => And.intro (((t).2).2 c13).1 (And.intro ((((t).2).2 c13).2).1 (((((t).2).2 c13).2).2)))))
theorem L206r {K : Option am_V → am_H → Prop} {h : am_H} (H : RIv h) {Z : Int × Int × Int × Int × (Int → Int)} (hK : ∀ g, NTR h g Z → K (some (mB (ifc (Z.1 = 0) (-5) (-4)))) g) (nz : ¬ (Z.1 = 0 ∧ CN Z.2.2.2.1 Z.2.2.2.2)) : ∀ k, ∀ g : am_H, 0 ≤ k → k ≤ 22 → (∀ x i, (x < 571 ∨ (574 ≤ x ∧ x ≤ 578) ∨ x = 587 ∨ (x = 571 ∧ (i = 2 ∨ i = 29))) → g x i = h x i) → (∀ y, 0 ≤ y → y < 22 → g 573 y = h 572 y) → (g 571 9 = 0 ∧ g 571 10 = Z.1 ∧ g 571 11 = Z.2.1) → (g 571 16 = 0 ↔ Z.1 = 0) → (∀ y, 0 ≤ y → y < k → g 572 y = h 572 y) → am_AT 8 206 87 [some (mR 1 12 0 571), some (mI k)] g K := by
  refine lp 22 (fun k ih g k0 k1 F E f b G => ?_)
  have fin : 22 ≤ k → NTR h (am_up g 571 17 0) Z := fun z => by
    have e0 : am_up g 571 17 0 572 0 = h 572 0 := by rw [am_up_n2 (by omega)]; exact G 0 (by omega) (by omega)
    have e1 : nr (am_up g 571 17 0) 572 2 = nr h 572 2 := nr_cg (fun y a b => by rw [am_up_n2 (by omega)]; exact G _ (by omega) (by omega))
    refine ⟨⟨?_, ?_, ?_⟩, fun w => absurd w nz, fun _ => ⟨fun x i a => ?_, RIv_new ?_ ?_ am_up_eq⟩⟩
    · rw [am_up_n2 (by omega)]; exact f.1
    · rw [am_up_n2 (by omega)]; exact f.2.1
    · rw [am_up_n2 (by omega)]; exact f.2.2
    · rw [am_up_n2 (by omega)]
      by_cases w : x = 572 ∧ 0 ≤ i ∧ i < 22
      · rw [w.1]; exact G i w.2.1 (by omega)
      · exact F x i (by omega)
    · rw [e0, e1]; exact H.1
    · rw [e0, e1]; exact H.2.1
  refine T206_87 ⟨by omega, ⟨fun c1 => ⟨fun c2 => ?_, fun c2 => ?_⟩, fun c1 => ⟨by omega, ⟨by omega, ?_⟩⟩⟩⟩
  · exact am_rB (hK _ (fin c1)) (ifc_t (b.mp c2))
  · exact am_rB (hK _ (fin c1)) (ifc_f (fun z => c2 (b.mpr z)))
  · rw [E k k0 c1]
    refine ih c1 _ (by omega) (by omega) (fun x i a => by rw [am_up_n2 (by omega)]; exact F x i a) (fun y a b => by rw [am_up_n2 (by omega)]; exact E y a b) ⟨by rw [am_up_n2 (by omega)]; exact f.1, by rw [am_up_n2 (by omega)]; exact f.2.1, by rw [am_up_n2 (by omega)]; exact f.2.2⟩ (by rw [am_up_n2 (by omega)]; exact b) (fun y a b => ?_)
    by_cases w : y = k
    · rw [w, am_up_eq]
    · rw [am_up_n2 (by omega)]; exact G y a (by omega)
theorem L206 {K : Option am_V → am_H → Prop} {h : am_H} (H : RIv h) (T : TPB h 579 (h 571 9)) (hK : ∀ g, NTR h g (rdL (rtp h) 800 0 0 0 (fun _ => 0)) → K (some (mB (ifc ((rdL (rtp h) 800 0 0 0 (fun _ => 0)).1 = 0) (ifc (CN (rdL (rtp h) 800 0 0 0 (fun _ => 0)).2.2.2.1 (rdL (rtp h) 800 0 0 0 (fun _ => 0)).2.2.2.2) (rdL (rtp h) 800 0 0 0 (fun _ => 0)).2.2.2.1 (-5)) (-4)))) g) : ∀ k, ∀ g : am_H, 0 ≤ k → k ≤ 22 → W206 h g k → am_AT 8 206 2 [some (mR 1 12 0 571), some (mI k)] g K := by
  have TW : TPW (rtp h) := TPW_b T
  have t := T.1
  refine lp 22 (fun k ih g k0 k1 G => ?_)
  have z0 : 22 ≤ k → g 572 0 = 0 ∧ g 572 1 = 0 ∧ nr g 572 2 = fun _ => 0 := fun z => ⟨(G.2.1 0 (by omega) (by omega)).2, (G.2.1 1 (by omega) (by omega)).2, by
    funext p
    by_cases c : 0 ≤ p ∧ p < 20
    · rw [nr_in c.1 c.2]; exact (G.2.1 _ (by omega) (by omega)).2
    · rw [nr_out c]⟩
  have I0 : ∀ x i, ¬ (x = 571 ∧ (i = 12 ∨ i = 16 ∨ i = 10 ∨ i = 11)) → (am_up (am_up (am_up (am_up g 571 12 0) 571 16 0) 571 10 0) 571 11 (-1)) x i = g x i := fun x i a => by rw [am_up_n2 (by omega), am_up_n2 (by omega), am_up_n2 (by omega), am_up_n2 (by omega)]
  have i9 : (am_up (am_up (am_up (am_up g 571 12 0) 571 16 0) 571 10 0) 571 11 (-1)) 571 9 = h 571 9 := (I0 _ _ (by omega)).trans (G.1 _ _ (by omega) (by omega))
  have i12 : (am_up (am_up (am_up (am_up g 571 12 0) 571 16 0) 571 10 0) 571 11 (-1)) 571 12 = 0 := by rw [am_up_n2 (by omega), am_up_n2 (by omega), am_up_n2 (by omega), am_up_eq]
  have N1 : ∀ h', NXT (am_up (am_up (am_up (am_up g 571 12 0) 571 16 0) 571 10 0) 571 11 (-1)) h' → 22 ≤ k → TPB h' 579 (h' 571 9) ∧ rtp h' = rtp h ∧ RTK h' 0 ∧ (0 ≤ h' 571 13 ∧ h' 571 13 ≤ h' 571 12 ∧ h' 571 12 ≤ h' 571 9) ∧ h' 571 16 = 0 ∧ (h' 571 10 = 0 ∧ h' 571 11 = -1) ∧ (h' 572 0 = 0 ∧ h' 572 1 = 0 ∧ nr h' 572 2 = fun _ => 0) ∧ (∀ x i, x ≠ 571 → x ≠ 572 → x ≠ 573 → h' x i = h x i) ∧ (∀ i, (i = 2 ∨ i = 29) → h' 571 i = h 571 i) ∧ (∀ y, 0 ≤ y → y < 22 → h' 573 y = h 572 y) := fun h' N z => by
    have e9 : h' 571 9 = h 571 9 := (N.1 _ _ (by omega)).trans i9
    have ft : ∀ j, h' 579 j = h 579 j := fun j => (N.1 _ _ (by omega)).trans ((I0 _ _ (by omega)).trans (G.1 _ _ (by omega) (by omega)))
    have C := N.2.1
    rw [i12] at C
    have nb := N.2.2
    rw [i9] at nb
    have zz := z0 z
    refine ⟨TPB_fr T ft e9, tpn_fr ft e9, C, by rw [e9]; exact nb, ?_, ⟨?_, ?_⟩, ⟨?_, ?_, ?_⟩, fun x i a b c => (N.1 _ _ (by omega)).trans ((I0 _ _ (by omega)).trans (G.1 _ _ b c)), fun i a => (N.1 _ _ (by omega)).trans ((I0 _ _ (by omega)).trans (G.1 _ _ (by omega) (by omega))), fun y a b => (N.1 _ _ (by omega)).trans ((I0 _ _ (by omega)).trans (G.2.1 y a (by omega)).1)⟩
    · rw [N.1 _ _ (by omega), am_up_n2 (by omega), am_up_n2 (by omega), am_up_eq]
    · rw [N.1 _ _ (by omega), am_up_n2 (by omega), am_up_eq]
    · rw [N.1 _ _ (by omega), am_up_eq]
    · rw [N.1 _ _ (by omega), I0 _ _ (by omega)]; exact zz.1
    · rw [N.1 _ _ (by omega), I0 _ _ (by omega)]; exact zz.2.1
    · exact (nr_fr2 (fun i => by rw [N.1 _ _ (by omega), I0 _ _ (by omega)])).trans zz.2.2
  have ZE : ∀ h', NXT (am_up (am_up (am_up (am_up g 571 12 0) 571 16 0) 571 10 0) 571 11 (-1)) h' → 22 ≤ k → rdL (rtp h') 800 (h' 571 13) 0 0 (fun _ => 0) = (rdL (rtp h) 800 0 0 0 (fun _ => 0)) := fun h' N z => by
    have n := N1 h' N z
    have e := n.2.2.1.1.1
    rw [n.2.1] at e
    rw [n.2.1, e, rdL_id TW (by omega)]
  have FR : ∀ h' h'_1, NXT (am_up (am_up (am_up (am_up g 571 12 0) 571 16 0) 571 10 0) 571 11 (-1)) h' → 22 ≤ k → RZD h' h'_1 (rdL (rtp h) 800 0 0 0 (fun _ => 0)) → (∀ x i, (x < 571 ∨ (574 ≤ x ∧ x ≤ 578) ∨ x = 587 ∨ (x = 571 ∧ (i = 2 ∨ i = 29))) → h'_1 x i = h x i) ∧ ∀ y, 0 ≤ y → y < 22 → h'_1 573 y = h 572 y := fun h' h'_1 N z Q => by
    have n := N1 h' N z
    refine ⟨fun x i a => ?_, fun y a b => (Q.1 _ _ (by omega) (by omega)).trans (n.2.2.2.2.2.2.2.2.2 y a b)⟩
    rw [Q.1 x i (by omega) (by omega)]
    by_cases w : x = 571
    · rw [w]; exact n.2.2.2.2.2.2.2.2.1 i (by omega)
    · exact n.2.2.2.2.2.2.2.1 x i w (by omega) (by omega)
  have hr : ¬ ((rdL (rtp h) 800 0 0 0 (fun _ => 0)).1 = 0 ∧ CN (rdL (rtp h) 800 0 0 0 (fun _ => 0)).2.2.2.1 (rdL (rtp h) 800 0 0 0 (fun _ => 0)).2.2.2.2) → ∀ g, NTR h g (rdL (rtp h) 800 0 0 0 (fun _ => 0)) → K (some (mB (ifc ((rdL (rtp h) 800 0 0 0 (fun _ => 0)).1 = 0) (-5) (-4)))) g := fun nz g N => by
    refine am_rB (hK g N) ?_
    by_cases w : (rdL (rtp h) 800 0 0 0 (fun _ => 0)).1 = 0
    · rw [ifc_t w, ifc_t w, ifc_f (fun c => nz ⟨w, c⟩)]
    · rw [ifc_f w, ifc_f w]
  refine T206_2 ⟨by omega, ⟨fun c1 => ⟨by
    rw [i9, i12]
    exact ⟨TPB_fr T (fun j => (I0 _ _ (by omega)).trans (G.1 _ _ (by omega) (by omega))) rfl, by omega⟩, fun h' q2 => ⟨by
    have n := N1 h' q2 c1
    have zz := n.2.2.2.2.2.2.1
    exact ⟨n.1, RTK_id (by rw [n.2.1]; exact TW) (by omega) n.2.2.1, n.2.2.2.1, n.2.2.2.2.1, by rw [zz.1, zz.2.1, zz.2.2]; exact WFn_0, n.2.2.2.2.2.1, zz⟩, fun h'_1 q3 => ⟨fun c4 => ?_, fun c4 => ⟨by
    rw [ZE h' q2 c1] at q3
    have s := q3.2.2.2.2 (q3.2.2.1.mp c4)
    have en : nr (am_up (am_up h'_1 571 9 0) 571 17 0) 572 2 = nr h'_1 572 2 := nr_fr2 (fun i => by rw [am_up_n2 (by omega), am_up_n2 (by omega)])
    have e0 : (am_up (am_up h'_1 571 9 0) 571 17 0) 572 0 = h'_1 572 0 := by rw [am_up_n2 (by omega), am_up_n2 (by omega)]
    rw [en, e0, s.1.2.1, s.1.2.2]
    exact s.2.1, fun h'_2 q5 => ⟨fun c6 => ?_, fun c6 => ?_⟩⟩⟩⟩⟩, fun c1 => ⟨by omega, ⟨by omega, ⟨by omega, ?_⟩⟩⟩⟩⟩
  · rw [ZE h' q2 c1] at q3
    have fr := FR h' h'_1 q2 c1 q3
    have z1 : ¬ (rdL (rtp h) 800 0 0 0 (fun _ => 0)).1 = 0 := fun z => c4 (q3.2.2.1.mpr z)
    have nz : ¬ ((rdL (rtp h) 800 0 0 0 (fun _ => 0)).1 = 0 ∧ CN (rdL (rtp h) 800 0 0 0 (fun _ => 0)).2.2.2.1 (rdL (rtp h) 800 0 0 0 (fun _ => 0)).2.2.2.2) := fun z => z1 z.1
    refine L206r H (hr nz) nz 0 _ (by omega) (by omega) (fun x i a => by rw [am_up_n2 (by omega), am_up_n2 (by omega)]; exact fr.1 x i a) (fun y a b => by rw [am_up_n2 (by omega), am_up_n2 (by omega)]; exact fr.2 y a b) ⟨by rw [am_up_n2 (by omega), am_up_eq], by rw [am_up_n2 (by omega), am_up_n2 (by omega)]; exact q3.2.2.2.1.1, by rw [am_up_n2 (by omega), am_up_n2 (by omega)]; exact q3.2.2.2.1.2⟩ (by rw [am_up_n2 (by omega), am_up_n2 (by omega)]; exact q3.2.2.1) (fun y a b => by omega)
  · rw [ZE h' q2 c1] at q3
    have fr := FR h' h'_1 q2 c1 q3
    have z1 : (rdL (rtp h) 800 0 0 0 (fun _ => 0)).1 = 0 := q3.2.2.1.mp c4
    have s := q3.2.2.2.2 z1
    have en : nr (am_up (am_up h'_1 571 9 0) 571 17 0) 572 2 = nr h'_1 572 2 := nr_fr2 (fun i => by rw [am_up_n2 (by omega), am_up_n2 (by omega)])
    have e0 : (am_up (am_up h'_1 571 9 0) 571 17 0) 572 0 = h'_1 572 0 := by rw [am_up_n2 (by omega), am_up_n2 (by omega)]
    rw [en, e0, s.1.2.1, s.1.2.2] at c6
    have f2 : ∀ x i, x ≠ 580 → ¬ (x = 571 ∧ (i = 9 ∨ i = 17)) → h'_2 x i = h'_1 x i := fun x i a b => by rw [q5.1 x i a, am_up_n2 (by omega), am_up_n2 (by omega)]
    have m0 : am_up h'_2 571 2 0 572 0 = (rdL (rtp h) 800 0 0 0 (fun _ => 0)).2.2.2.1 := by rw [am_up_n2 (by omega), f2 _ _ (by omega) (by omega)]; exact s.1.2.1
    have mr : nr (am_up h'_2 571 2 0) 572 2 = (rdL (rtp h) 800 0 0 0 (fun _ => 0)).2.2.2.2 := (nr_fr2 (fun i => by rw [am_up_n2 (by omega), f2 _ _ (by omega) (by omega)])).trans s.1.2.2
    refine am_rB (hK (am_up h'_2 571 2 0) ⟨⟨?_, ?_, ?_⟩, fun _ => ⟨fun x i a => ?_, ⟨m0, mr, ?_⟩, am_up_eq, RIv_new (by rw [m0, mr]; exact s.2.1) (by rw [m0, mr]; exact c6) ?_⟩, fun z => absurd ⟨z1, c6⟩ z⟩) ?_
    · rw [am_up_n2 (by omega), q5.1 _ _ (by omega), am_up_n2 (by omega), am_up_eq]
    · rw [am_up_n2 (by omega), f2 _ _ (by omega) (by omega)]; exact q3.2.2.2.1.1
    · rw [am_up_n2 (by omega), f2 _ _ (by omega) (by omega)]; exact q3.2.2.2.1.2
    · rw [am_up_n2 (by omega), f2 _ _ (by omega) (by omega)]; exact fr.1 x i (by omega)
    · rw [am_up_n2 (by omega), f2 _ _ (by omega) (by omega)]; exact s.1.1
    · rw [am_up_n2 (by omega), q5.1 _ _ (by omega), am_up_eq]
    · rw [ifc_t z1, ifc_t c6, f2 _ _ (by omega) (by omega)]; exact s.1.2.1.symm
  · rw [ZE h' q2 c1] at q3
    have fr := FR h' h'_1 q2 c1 q3
    have z1 : (rdL (rtp h) 800 0 0 0 (fun _ => 0)).1 = 0 := q3.2.2.1.mp c4
    have s := q3.2.2.2.2 z1
    have en : nr (am_up (am_up h'_1 571 9 0) 571 17 0) 572 2 = nr h'_1 572 2 := nr_fr2 (fun i => by rw [am_up_n2 (by omega), am_up_n2 (by omega)])
    have e0 : (am_up (am_up h'_1 571 9 0) 571 17 0) 572 0 = h'_1 572 0 := by rw [am_up_n2 (by omega), am_up_n2 (by omega)]
    rw [en, e0, s.1.2.1, s.1.2.2] at c6
    have nz : ¬ ((rdL (rtp h) 800 0 0 0 (fun _ => 0)).1 = 0 ∧ CN (rdL (rtp h) 800 0 0 0 (fun _ => 0)).2.2.2.1 (rdL (rtp h) 800 0 0 0 (fun _ => 0)).2.2.2.2) := fun z => c6 z.2
    have f2 : ∀ x i, x ≠ 580 → ¬ (x = 571 ∧ (i = 9 ∨ i = 17)) → h'_2 x i = h'_1 x i := fun x i a b => by rw [q5.1 x i a, am_up_n2 (by omega), am_up_n2 (by omega)]
    refine L206r H (hr nz) nz 0 _ (by omega) (by omega) (fun x i a => by rw [f2 _ _ (by omega) (by omega)]; exact fr.1 x i a) (fun y a b => by rw [f2 _ _ (by omega) (by omega)]; exact fr.2 y a b) ⟨by rw [q5.1 _ _ (by omega), am_up_n2 (by omega), am_up_eq], by rw [f2 _ _ (by omega) (by omega)]; exact q3.2.2.2.1.1, by rw [f2 _ _ (by omega) (by omega)]; exact q3.2.2.2.1.2⟩ (by rw [f2 _ _ (by omega) (by omega)]; exact q3.2.2.1) (fun y a b => by omega)
  · have ek : g 572 k = h 572 k := G.2.2 k (by omega)
    rw [ek]
    refine ih c1 _ (by omega) (by omega) ⟨fun x i a b => by rw [am_up_n2 (by omega), am_up_n2 (by omega)]; exact G.1 x i a b, fun y a b => ?_, fun y a => by rw [am_up_n2 (by omega), am_up_n2 (by omega)]; exact G.2.2 y (by omega)⟩
    by_cases w : y = k
    · rw [w, am_up_n2 (by omega), am_up_eq, am_up_eq]; exact ⟨rfl, rfl⟩
    · rw [am_up_n2 (by omega), am_up_n2 (by omega), am_up_n2 (by omega), am_up_n2 (by omega)]; exact G.2.1 y a (by omega)
theorem C206_ok : am_CS 8 206 C206 := W206c (fun h K hb => T206_0 (L206 hb.1.1 hb.1.2 hb.2 0 h (by omega) (by omega) ⟨fun _ _ _ _ => rfl, fun y a b => by omega, fun _ _ => rfl⟩))
/-! 191 FactorNetsModel.end -/
def C191 : am_K := fun as h K => am_a2 as (fun v0 v1 => am_oc 12 571 v0 (am_n v1 (fun n => ∀ (h' : am_H), (∀ x9 i9, ¬ (x9 = 571 ∧ i9 = 9) → h' x9 i9 = h x9 i9) ∧ h' 571 9 = ifc (0 ≤ n ∧ n ≤ h 571 9) n (h 571 9) → K (some (mB (ifc (0 ≤ n ∧ n ≤ h 571 9) n (-1)))) (h'))))
theorem W191 {d : Nat} (H : ∀ (n : Int) (h : am_H) (K : Option am_V → am_H → Prop), (∀ (h' : am_H), (∀ x9 i9, ¬ (x9 = 571 ∧ i9 = 9) → h' x9 i9 = h x9 i9) ∧ h' 571 9 = ifc (0 ≤ n ∧ n ≤ h 571 9) n (h 571 9) → K (some (mB (ifc (0 ≤ n ∧ n ≤ h 571 9) n (-1)))) (h')) → am_AT d 191 0 [some (mR 1 12 0 571), some (mB n)] h K) : am_CS d 191 C191 := by
  refine am_CS_of (T := tb191) (mL := 2) (rk := 1) rfl (fun as h K hC => ?_)
  obtain ⟨v0, v1, rfl, hC0⟩ := am_a2_e hC
  obtain ⟨e0, hC1⟩ := am_oc_e hC0
  subst e0
  obtain ⟨n, rfl, hC2⟩ := am_n_e hC1
  refine ⟨Nat.le_of_ble_eq_true rfl, ?_⟩
  exact H n h K hC2
theorem T191_0 {R : Option am_V → am_H → Prop} {h : am_H} {n : Int} (t : (((0 : Int) ≤ n ∧ n ≤ (h 571 9)) → (R (some (mB n)) (am_up h 571 9 n))) ∧ ((¬ ((0 : Int) ≤ n ∧ n ≤ (h 571 9))) → (R (some (mB (-1))) h))) : am_AT 2 191 0 [some (mR 1 12 0 571), some (mB n)] h R :=
  am_T (d := 1) (m := 191) (T := tb191) (mL := 2) (rk := 1) (cuts := []) (l := [(187, C187)]) rfl ⟨am_CS_d (by decide) C187_ok, trivial⟩ 17 (And.intro (fun c15 => (t).1 c15) (fun c15 => (t).2 c15))
theorem C191_ok : am_CS 2 191 C191 := W191 (fun n h K hb => by
  refine T191_0 ⟨fun c1 => ?_, fun c1 => ?_⟩
  · exact am_rB (hb _ ⟨fun x i a => am_up_n2 a, by rw [am_up_eq, ifc_t c1]⟩) (ifc_t c1)
  · exact am_rB (hb h ⟨fun _ _ _ => rfl, (ifc_f c1).symm⟩) (ifc_f c1))
/-! 207 FactorNetsModel.fault -/
def C207 : am_K := fun as h K => am_a2 as (fun v0 v1 => am_oc 12 571 v0 (am_n v1 (fun w => K (some (mB (if w = 0 then h 571 10 else if w = 1 then h 571 11 else -1))) h)))
theorem W207 {d : Nat} (H : ∀ (w : Int) (h : am_H) (K : Option am_V → am_H → Prop), K (some (mB (if w = 0 then h 571 10 else if w = 1 then h 571 11 else -1))) h → am_AT d 207 0 [some (mR 1 12 0 571), some (mB w)] h K) : am_CS d 207 C207 := by
  refine am_CS_of (T := tb207) (mL := 2) (rk := 1) rfl (fun as h K hC => ?_)
  obtain ⟨v0, v1, rfl, hC0⟩ := am_a2_e hC
  obtain ⟨e0, hC1⟩ := am_oc_e hC0
  subst e0
  obtain ⟨w, rfl, hC2⟩ := am_n_e hC1
  refine ⟨Nat.le_of_ble_eq_true rfl, ?_⟩
  exact H w h K hC2
theorem T207_0 {R : Option am_V → am_H → Prop} {h : am_H} {w : Int} (t : ((¬ w = 0) → (((¬ w = 1) → (R (some (mB (-1))) h)) ∧ ((w = 1) → (R (some (mB (h 571 11))) h)))) ∧ ((w = 0) → (R (some (mB (h 571 10))) h))) : am_AT 1 207 0 [some (mR 1 12 0 571), some (mB w)] h R :=
  am_T (d := 0) (m := 207) (T := tb207) (mL := 2) (rk := 1) (cuts := []) (l := []) rfl trivial 13 (And.intro (fun c16 => And.intro (fun c17 => ((t).1 c16).1 c17) (fun c17 => ((t).1 c16).2 c17)) (fun c16 => (t).2 c16))
theorem C207_ok : am_CS 1 207 C207 := W207 (fun w h K hb => by
  refine T207_0 ⟨fun c1 => ⟨fun c2 => ?_, fun c2 => ?_⟩, fun c1 => ?_⟩
  · exact am_rB hb (by rw [if_neg c1, if_neg c2])
  · exact am_rB hb (by rw [if_neg c1, if_pos c2])
  · exact am_rB hb (by rw [if_pos c1]))
