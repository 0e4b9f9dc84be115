/-! ===== the reference's statements ===== -/
def F06 (h g : am_H) : Prop := ∀ x i, ¬ (x = 571 ∧ 10 ≤ i ∧ i ≤ 16) → ¬ (x = 572 ∧ i ≠ 1) → g x i = h x i
def RG (h g : am_H) (j : Int) : Prop := F25 h g ∧ RTK g j ∧ (0 ≤ j ∧ j ≤ h 571 9) ∧ (0 ≤ g 571 13 ∧ g 571 13 ≤ g 571 12 ∧ g 571 12 ≤ h 571 9)
def RBD (h g : am_H) (S : Res) : Prop := F06 h g ∧ (S.1 = 0 → (g 571 16 = 0 ∧ g 571 10 = h 571 10 ∧ g 571 11 = h 571 11) ∧ (g 572 0 = S.2.2.1 ∧ nr g 572 2 = S.2.2.2.1) ∧ RTK g S.2.2.2.2 ∧ (0 ≤ S.2.2.2.2 ∧ S.2.2.2.2 ≤ h 571 9) ∧ (0 ≤ g 571 13 ∧ g 571 13 ≤ g 571 12 ∧ g 571 12 ≤ h 571 9)) ∧ (¬ S.1 = 0 → g 571 16 = 1 ∧ g 571 10 = S.1 ∧ g 571 11 = S.2.1)
/-- a fault was told -/
def RFA (h g : am_H) (f p : Int) : Prop := F06 h g ∧ g 571 16 = 1 ∧ g 571 10 = f ∧ g 571 11 = p
theorem F25_6 {h g : am_H} (F : F25 h g) : F06 h g := fun x i a b => F x i (by omega)
theorem RFA_S {h g : am_H} {f p : Int} (A : RFA h g f p) (hf : ¬ f = 0) {S : Res} {n' : Int} {r' : Int → Int} (e : S = (f, p, n', r', 0)) : RBD h g S := by
  subst e
  exact ⟨A.1, fun z => absurd z hf, fun _ => A.2⟩
theorem RG_f {h g : am_H} {j : Int} (G : RG h g j) (k : Int) : RFA h (flr g k) k (tks (rtp h) j) := by
  have f := flr_f g k
  have e := G.2.1.1.1
  rw [F25_t G.1] at e
  exact ⟨fun x i a b => by rw [f.2.2.2 x i (by omega)]; exact G.1 x i (by omega), f.1, f.2.1, by rw [f.2.2.1]; exact e⟩
theorem RG_rf {h : am_H} (T : TPB h 579 (h 571 9)) (C : RTK h (h 571 13)) (hb : 0 ≤ h 571 13 ∧ h 571 13 ≤ h 571 12 ∧ h 571 12 ≤ h 571 9) : RG h h (h 571 13) := ⟨fun _ _ _ => rfl, C, by omega, hb⟩
theorem RG_nx {h g g' : am_H} {j : Int} (T : TPB h 579 (h 571 9)) (G : RG h g j) (k : ¬ tkk (rtp h) j = 0) (N : NXT g g') : RG h g' (tke (rtp h) j) := by
  have et := F25_t G.1
  have e12 := G.2.1.2.1
  rw [et, ifc_f k] at e12
  have e9 : g 571 9 = h 571 9 := G.1 _ _ (by omega)
  have t := tk_in T G.2.2.1.1 k
  have tr := tk_r (TPW_b T) G.2.2.1.1 k
  have C := N.2.1
  rw [e12] at C
  have b := N.2.2
  rw [e9] at b
  have tr2 : (j ≤ tks (rtp h) j ∧ tks (rtp h) j < 800) ∧ (tks (rtp h) j < tke (rtp h) j ∧ tke (rtp h) j ≤ 800) := tr
  have j0 := G.2.2.1.1
  exact ⟨fun x i a => (N.1 x i a).trans (G.1 x i a), C, by omega, b⟩
theorem RG_p {h g : am_H} {j : Int} (T : TPB h 579 (h 571 9)) (G : RG h g j) : TPB g 579 (g 571 9) ∧ (0 ≤ g 571 12 ∧ g 571 12 ≤ g 571 9) := by
  have e9 : g 571 9 = h 571 9 := G.1 _ _ (by omega)
  have b := G.2.2.2
  exact ⟨F25_b G.1 T, by omega⟩
theorem RG_16 {h g : am_H} {j : Int} (G : RG h g j) : g 571 16 = h 571 16 := G.1 _ _ (by omega)
theorem RG_14 {h g : am_H} {j : Int} (G : RG h g j) : g 571 14 = tkk (rtp h) j := by
  have := G.2.1.1.2
  rw [F25_t G.1] at this
  exact this
theorem RG_num {h g : am_H} {j a b : Int} (G : RG h g j) (hb : b < 10000) : ifc (g 571 14 = 2) (ifc (a ≤ g 571 15 ∧ g 571 15 ≤ b) 0 2) 1 = rdf (rtp h) j a b ∧ (rdf (rtp h) j a b = 0 → g 571 15 = tkv (rtp h) j ∧ a ≤ tkv (rtp h) j ∧ tkv (rtp h) j ≤ b) ∧ (g 571 14 = 2 → ((a ≤ g 571 15 ∧ g 571 15 ≤ b) ↔ (a ≤ tkv (rtp h) j ∧ tkv (rtp h) j ≤ b)) ∧ (0 ≤ g 571 15 ∧ g 571 15 ≤ 99999) ∧ ((a ≤ tkv (rtp h) j ∧ tkv (rtp h) j ≤ b) → g 571 15 = tkv (rtp h) j)) := by
  have C := G.2.1
  unfold RTK at C
  rw [F25_t G.1] at C
  have key : g 571 14 = 2 → ((a ≤ g 571 15 ∧ g 571 15 ≤ b) ↔ (a ≤ tkv (rtp h) j ∧ tkv (rtp h) j ≤ b)) ∧ (0 ≤ g 571 15 ∧ g 571 15 ≤ 99999) ∧ ((a ≤ tkv (rtp h) j ∧ tkv (rtp h) j ≤ b) → g 571 15 = tkv (rtp h) j) := fun z => by
    have v := C.2.2 (C.1.2.symm.trans z)
    omega
  have e : ifc (g 571 14 = 2) (ifc (a ≤ g 571 15 ∧ g 571 15 ≤ b) 0 2) 1 = rdf (rtp h) j a b := by
    unfold rdf
    by_cases z : g 571 14 = 2
    · have k := key z
      rw [ifc_t z, ifc_t (C.1.2.symm.trans z), propext k.1]
    · rw [ifc_f z, ifc_f (fun w => z (C.1.2.trans w))]
  refine ⟨e, fun z => ?_, key⟩
  have w := rdf_0 z
  have k := key (C.1.2.trans w.1)
  exact ⟨k.2.2 w.2, w.2⟩
theorem rwd_w {h g : am_H} {j : Int} (G : RG h g j) (a : Int) : rwd g a ↔ wdp (rtp h) j a := by
  have C := G.2.1
  unfold RTK at C
  rw [F25_t G.1] at C
  unfold rwd wdp
  rw [F25_t G.1, C.1.2, C.1.1]
  by_cases z : tkk (rtp h) j = 1
  · rw [C.2.1, ifc_f (by omega)]
  · exact ⟨fun w => absurd w.1 z, fun w => absurd w.1 z⟩
theorem oldm {cnt n : Int} {r : Int → Int} (W : WFn cnt n r) : max 1 n = (if cnt = 0 then 1 else n) := by
  by_cases z : cnt = 0
  · rw [if_pos z, W.2.2.2.1 z]; rfl
  · rw [if_neg z]
    have := W.2.2.2.2 (by have := W.2.2.1; omega)
    omega
def RZD (h g : am_H) (Z : Int × Int × Int × Int × (Int → Int)) : Prop := (∀ x i, ¬ (x = 571 ∧ 10 ≤ i ∧ i ≤ 16) → x ≠ 572 → g x i = h x i) ∧ (g 571 16 = 0 ∨ g 571 16 = 1) ∧ (g 571 16 = 0 ↔ Z.1 = 0) ∧ (g 571 10 = Z.1 ∧ g 571 11 = Z.2.1) ∧ (Z.1 = 0 → (g 572 1 = Z.2.2.1 ∧ g 572 0 = Z.2.2.2.1 ∧ nr g 572 2 = Z.2.2.2.2) ∧ WFn Z.2.2.1 Z.2.2.2.1 Z.2.2.2.2)
theorem rdL_id {tp : Int → Int} (H : TPW tp) {i : Int} (h0 : 0 ≤ i) (f : Nat) (cnt n : Int) (r : Int → Int) : rdL tp f (tks tp i) cnt n r = rdL tp f i cnt n r := by
  cases f with
  | zero => rfl
  | succ f =>
    show cif (tkk tp (tks tp i) = 0) _ _ = cif (tkk tp i = 0) _ _
    rw [tkk_id H h0, bSt_id H h0]
theorem RTK_id {h : am_H} {j : Int} (T : TPW (rtp h)) (h0 : 0 ≤ j) (C : RTK h j) : RTK h (h 571 13) := by
  unfold RTK
  rw [C.1.1, tks_id T h0, tkk_id T h0, tke_id T h0, tkv_id T h0]
  exact ⟨⟨rfl, C.1.2⟩, C.2⟩
/-! 204 FactorNetsModel.kindHere -/
def C204 : am_K := fun as h K => am_a1 as (fun v0 => am_oc 12 571 v0 ((TPB h 579 (h 571 9) ∧ (0 ≤ h 571 13 ∧ h 571 13 ≤ h 571 12 ∧ h 571 12 ≤ h 571 9)) ∧ (K (some (mB (ifc (rwd h 3000011) 0 (ifc (rwd h 3000009) 1 (ifc (rwd h 3000002) 2 (-1)))))) h)))
theorem W204 {d : Nat} (H : ∀  (h : am_H) (K : Option am_V → am_H → Prop), (TPB h 579 (h 571 9) ∧ (0 ≤ h 571 13 ∧ h 571 13 ≤ h 571 12 ∧ h 571 12 ≤ h 571 9)) ∧ (K (some (mB (ifc (rwd h 3000011) 0 (ifc (rwd h 3000009) 1 (ifc (rwd h 3000002) 2 (-1)))))) h) → am_AT d 204 0 [some (mR 1 12 0 571)] h K) : am_CS d 204 C204 := by
  refine am_CS_of (T := tb204) (mL := 1) (rk := 1) rfl (fun as h K hC => ?_)
  obtain ⟨v0, rfl, hC0⟩ := am_a1_e hC
  obtain ⟨e0, hC1⟩ := am_oc_e hC0
  subst e0
  refine ⟨Nat.le_of_ble_eq_true rfl, ?_⟩
  exact H  h K hC1
theorem T204_0 {R : Option am_V → am_H → Prop} {h : am_H} (t : (TPB h 579 (h 571 9) ∧ (0 ≤ h 571 13 ∧ h 571 13 ≤ h 571 12 ∧ h 571 12 ≤ h 571 9)) ∧ (((¬ (rwd h (3000011 : Int))) → ((TPB h 579 (h 571 9) ∧ (0 ≤ h 571 13 ∧ h 571 13 ≤ h 571 12 ∧ h 571 12 ≤ h 571 9)) ∧ (((¬ (rwd h (3000009 : Int))) → ((TPB h 579 (h 571 9) ∧ (0 ≤ h 571 13 ∧ h 571 13 ≤ h 571 12 ∧ h 571 12 ≤ h 571 9)) ∧ (((¬ (rwd h (3000002 : Int))) → (R (some (mB (-1))) h)) ∧ ((rwd h (3000002 : Int)) → (R (some (mB 2)) h))))) ∧ ((rwd h (3000009 : Int)) → (R (some (mB 1)) h))))) ∧ ((rwd h (3000011 : Int)) → (R (some (mB 0)) h)))) : am_AT 2 204 0 [some (mR 1 12 0 571)] h R :=
  am_T (d := 1) (m := 204) (T := tb204) (mL := 1) (rk := 1) (cuts := []) (l := [(195, C195)]) rfl ⟨am_CS_d (by decide) C195_ok, trivial⟩ 19 (And.intro (rfl) (And.intro (t).1 (And.intro (fun c1 => And.intro (rfl) (And.intro (((t).2).1 c1).1 (And.intro (fun c2 => And.intro (rfl) (And.intro (((((t).2).1 c1).2).1 c2).1 (And.intro (fun c3 => ((((((t).2).1 c1).2).1 c2).2).1 c3) (fun c3 => ((((((t).2).1 c1).2).1 c2).2).2 c3)))) (fun c2 => ((((t).2).1 c1).2).2 c2)))) (fun c1 => ((t).2).2 c1))))
theorem C204_ok : am_CS 2 204 C204 := W204 (fun h K hb => by
  refine T204_0 ⟨hb.1, ⟨fun c1 => ⟨hb.1, ⟨fun c2 => ⟨hb.1, ⟨fun c3 => ?_, fun c3 => ?_⟩⟩, fun c2 => ?_⟩⟩, fun c1 => ?_⟩⟩
  · exact am_rB hb.2 ((ifc_f c1).trans ((ifc_f c2).trans (ifc_f c3)))
  · exact am_rB hb.2 ((ifc_f c1).trans ((ifc_f c2).trans (ifc_t c3)))
  · exact am_rB hb.2 ((ifc_f c1).trans (ifc_t c2))
  · exact am_rB hb.2 (ifc_t c1))
/-! 203 FactorNetsModel.readsTimes -/
def C203 : am_K := fun as h K => am_a2 as (fun v0 v1 => am_oc 12 571 v0 (am_n v1 (fun k => ((TPB h 579 (h 571 9)) ∧ RTK h (h 571 13) ∧ (0 ≤ h 571 13 ∧ h 571 13 ≤ h 571 12 ∧ h 571 12 ≤ h 571 9) ∧ h 571 16 = 0 ∧ WFn (h 572 1) (h 572 0) (nr h 572 2) ∧ (0 ≤ k ∧ k ≤ 2) ∧ h 571 14 = 1) ∧ (∀ (h' : am_H), RBD h h' (bPr (rtp h) k (tke (rtp h) (h 571 13)) (h 572 1) (h 572 0) (nr h 572 2)) → K (none) (h')))))
theorem W203 {d : Nat} (H : ∀ (k : Int) (h : am_H) (K : Option am_V → am_H → Prop), ((TPB h 579 (h 571 9)) ∧ RTK h (h 571 13) ∧ (0 ≤ h 571 13 ∧ h 571 13 ≤ h 571 12 ∧ h 571 12 ≤ h 571 9) ∧ h 571 16 = 0 ∧ WFn (h 572 1) (h 572 0) (nr h 572 2) ∧ (0 ≤ k ∧ k ≤ 2) ∧ h 571 14 = 1) ∧ (∀ (h' : am_H), RBD h h' (bPr (rtp h) k (tke (rtp h) (h 571 13)) (h 572 1) (h 572 0) (nr h 572 2)) → K (none) (h')) → am_AT d 203 0 [some (mR 1 12 0 571), some (mB k), none] h K) : am_CS d 203 C203 := by
  refine am_CS_of (T := tb203) (mL := 3) (rk := 0) rfl (fun as h K hC => ?_)
  obtain ⟨v0, v1, rfl, hC0⟩ := am_a2_e hC
  obtain ⟨e0, hC1⟩ := am_oc_e hC0
  subst e0
  obtain ⟨k, rfl, hC2⟩ := am_n_e hC1
  refine ⟨Nat.le_of_ble_eq_true rfl, ?_⟩
  exact H k h K hC2
theorem T203_0 {R : Option am_V → am_H → Prop} {h : am_H} {k : Int} (t : ((h 571 16 = 0 ∨ h 571 16 = 1) ∧ (h 571 16 = 0 → ((1 : Int) = 1) → TPB h 579 (h 571 9) ∧ (0 ≤ h 571 12 ∧ h 571 12 ≤ h 571 9))) ∧ (∀ (h' : am_H), ((h 571 16 = 1 → h' = h) ∧ (h 571 16 = 0 → (((1 : Int) = 1) → NXT h h') ∧ (¬ ((1 : Int) = 1) → h' = flr h 1))) → (((¬ h' 571 16 = 0) → (am_AT 6 203 69 [some (mR 1 12 0 571), some (mB k), none] h' R)) ∧ ((h' 571 16 = 0) → (((¬ h' 571 14 = 2) → (am_AT 6 203 69 [some (mR 1 12 0 571), some (mB k), none] h' R)) ∧ ((h' 571 14 = 2) → (((¬ k = 1) → (((¬ ((2 : Int) ≤ (h' 571 15) ∧ (h' 571 15) ≤ (20 : Int))) → (am_AT 6 203 69 [some (mR 1 12 0 571), some (mB k), none] h' R)) ∧ (((2 : Int) ≤ (h' 571 15) ∧ (h' 571 15) ≤ (20 : Int)) → ((R32 ((h' 572 0) * (h' 571 15))) ∧ ((((h' 572 0) * (h' 571 15) ≤ 20) → (am_AT 6 203 69 [some (mR 1 12 0 571), some (mB k), none] h' R)) ∧ ((20 < (h' 572 0) * (h' 571 15)) → ((h' 571 16 = 0 ∨ h' 571 16 = 1) ∧ (∀ (h'_1 : am_H), ((h' 571 16 = 1 → h'_1 = h') ∧ (h' 571 16 = 0 → h'_1 = flr h' (3 : Int))) → (am_AT 6 203 69 [some (mR 1 12 0 571), some (mB k), none] h'_1 R))))))))) ∧ ((k = 1) → (((¬ ((3 : Int) ≤ (h' 571 15) ∧ (h' 571 15) ≤ (20 : Int))) → (am_AT 6 203 69 [some (mR 1 12 0 571), some (mB k), none] h' R)) ∧ (((3 : Int) ≤ (h' 571 15) ∧ (h' 571 15) ≤ (20 : Int)) → ((R32 ((h' 572 0) * (h' 571 15))) ∧ ((((h' 572 0) * (h' 571 15) ≤ 20) → (am_AT 6 203 69 [some (mR 1 12 0 571), some (mB k), none] h' R)) ∧ ((20 < (h' 572 0) * (h' 571 15)) → ((h' 571 16 = 0 ∨ h' 571 16 = 1) ∧ (∀ (h'_1 : am_H), ((h' 571 16 = 1 → h'_1 = h') ∧ (h' 571 16 = 0 → h'_1 = flr h' (3 : Int))) → (am_AT 6 203 69 [some (mR 1 12 0 571), some (mB k), none] h'_1 R)))))))))))))))) : am_AT 6 203 0 [some (mR 1 12 0 571), some (mB k), none] h R :=
  am_T (d := 5) (m := 203) (T := tb203) (mL := 3) (rk := 0) (cuts := [(69, [1, 1, 0]), (86, [1, 1, 2])]) (l := [(187, C187), (194, C194), (196, C196), (197, C197), (208, C208)]) rfl ⟨am_CS_d (by decide) C187_ok, am_CS_d (by decide) C194_ok, am_CS_d (by decide) C196_ok, am_CS_d (by decide) C197_ok, am_CS_d (by decide) C208_ok, trivial⟩ 37 (And.intro (rfl) (And.intro (Or.inr rfl) (And.intro (t).1 (fun z1_0 z1_1 => And.intro (fun c4 => (((t).2) z1_0 z1_1).1 c4) (fun c4 => And.intro (fun c5 => ((((t).2) z1_0 z1_1).2 c4).1 c5) (fun c5 => And.intro (fun c6 => And.intro (fun c7 => ((((((t).2) z1_0 z1_1).2 c4).2 c5).1 c6).1 c7) (fun c7 => And.intro (⟨by decide, by decide⟩) (And.intro (((((((t).2) z1_0 z1_1).2 c4).2 c5).1 c6).2 c7).1 (And.intro (fun c8 => ((((((((t).2) z1_0 z1_1).2 c4).2 c5).1 c6).2 c7).2).1 c8) (fun c8 => And.intro (rfl) (And.intro (((((((((t).2) z1_0 z1_1).2 c4).2 c5).1 c6).2 c7).2).2 c8).1 (fun z2_0 z2_1 => ((((((((((t).2) z1_0 z1_1).2 c4).2 c5).1 c6).2 c7).2).2 c8).2) z2_0 z2_1))))))) (fun c6 => And.intro (fun c9 => ((((((t).2) z1_0 z1_1).2 c4).2 c5).2 c6).1 c9) (fun c9 => And.intro (⟨by decide, by decide⟩) (And.intro (((((((t).2) z1_0 z1_1).2 c4).2 c5).2 c6).2 c9).1 (And.intro (fun c10 => ((((((((t).2) z1_0 z1_1).2 c4).2 c5).2 c6).2 c9).2).1 c10) (fun c10 => And.intro (rfl) (And.intro (((((((((t).2) z1_0 z1_1).2 c4).2 c5).2 c6).2 c9).2).2 c10).1 (fun z3_0 z3_1 => ((((((((((t).2) z1_0 z1_1).2 c4).2 c5).2 c6).2 c9).2).2 c10).2) z3_0 z3_1)))))))))))))
theorem T203_69 {R : Option am_V → am_H → Prop} {h : am_H} {k : Int} (t : ((¬ k = 1) → (((h 571 16 = 0 ∨ h 571 16 = 1) ∧ (h 571 16 = 0 → TPB h 579 (h 571 9) ∧ (0 ≤ h 571 12 ∧ h 571 12 ≤ h 571 9))) ∧ (∀ (h' : am_H), ((h 571 16 = 1 → h' = h) ∧ (h 571 16 = 0 → ((ifc (h 571 14 = 2) (ifc ((2 : Int) ≤ h 571 15 ∧ h 571 15 ≤ (20 : Int)) 0 2) 1) = 0 → NXT h h') ∧ (¬ (ifc (h 571 14 = 2) (ifc ((2 : Int) ≤ h 571 15 ∧ h 571 15 ≤ (20 : Int)) 0 2) 1) = 0 → h' = flr h (ifc (h 571 14 = 2) (ifc ((2 : Int) ≤ h 571 15 ∧ h 571 15 ≤ (20 : Int)) 0 2) 1)))) → (am_AT 6 203 86 [some (mR 1 12 0 571), some (mB k), some (mI (ifc (h 571 16 = 1) (2 : Int) (h 571 15)))] h' R)))) ∧ ((k = 1) → (((h 571 16 = 0 ∨ h 571 16 = 1) ∧ (h 571 16 = 0 → TPB h 579 (h 571 9) ∧ (0 ≤ h 571 12 ∧ h 571 12 ≤ h 571 9))) ∧ (∀ (h' : am_H), ((h 571 16 = 1 → h' = h) ∧ (h 571 16 = 0 → ((ifc (h 571 14 = 2) (ifc ((3 : Int) ≤ h 571 15 ∧ h 571 15 ≤ (20 : Int)) 0 2) 1) = 0 → NXT h h') ∧ (¬ (ifc (h 571 14 = 2) (ifc ((3 : Int) ≤ h 571 15 ∧ h 571 15 ≤ (20 : Int)) 0 2) 1) = 0 → h' = flr h (ifc (h 571 14 = 2) (ifc ((3 : Int) ≤ h 571 15 ∧ h 571 15 ≤ (20 : Int)) 0 2) 1)))) → (am_AT 6 203 86 [some (mR 1 12 0 571), some (mB k), some (mI (ifc (h 571 16 = 1) (3 : Int) (h 571 15)))] h' R))))) : am_AT 6 203 69 [some (mR 1 12 0 571), some (mB k), none] h R :=
  am_T (d := 5) (m := 203) (T := tb203) (mL := 3) (rk := 0) (cuts := [(69, [1, 1, 0]), (86, [1, 1, 2])]) (l := [(187, C187), (194, C194), (196, C196), (197, C197), (208, C208)]) rfl ⟨am_CS_d (by decide) C187_ok, am_CS_d (by decide) C194_ok, am_CS_d (by decide) C196_ok, am_CS_d (by decide) C197_ok, am_CS_d (by decide) C208_ok, trivial⟩ 13 (And.intro (fun c11 => And.intro (rfl) (And.intro ((t).1 c11).1 (fun z4_0 z4_1 => (((t).1 c11).2) z4_0 z4_1))) (fun c11 => And.intro (rfl) (And.intro ((t).2 c11).1 (fun z5_0 z5_1 => (((t).2 c11).2) z5_0 z5_1))))
theorem T203_86 {R : Option am_V → am_H → Prop} {h : am_H} {k : Int} {x2 : Int} (t : ((¬ h 571 16 = 0) → (R none h)) ∧ ((h 571 16 = 0) → ((R32 x2) ∧ (((2 ≤ x2 ∧ x2 ≤ 20) ∧ (0 ≤ k ∧ k ≤ 2) ∧ (1 ≤ (am_up h 572 0 (max 1 (h 572 0))) 572 0 ∧ (am_up h 572 0 (max 1 (h 572 0))) 572 0 * x2 ≤ 20) ∧ NT ((am_up h 572 0 (max 1 (h 572 0))) 572 0) (nr (am_up h 572 0 (max 1 (h 572 0))) 572 2)) ∧ (∀ (h' : am_H), ((∀ x9 i9, ¬ (x9 = 572 ∧ (i9 = 0 ∨ (2 ≤ i9 ∧ i9 < 22))) → h' x9 i9 = (am_up h 572 0 (max 1 (h 572 0))) x9 i9) ∧ h' 572 0 = (am_up h 572 0 (max 1 (h 572 0))) 572 0 * x2 ∧ nr h' 572 2 = mul ((am_up h 572 0 (max 1 (h 572 0))) 572 0) (nr (am_up h 572 0 (max 1 (h 572 0))) 572 2) k x2) → (R none h')))))) : am_AT 6 203 86 [some (mR 1 12 0 571), some (mB k), some (mI x2)] h R :=
  am_T (d := 5) (m := 203) (T := tb203) (mL := 3) (rk := 0) (cuts := [(69, [1, 1, 0]), (86, [1, 1, 2])]) (l := [(187, C187), (194, C194), (196, C196), (197, C197), (208, C208)]) rfl ⟨am_CS_d (by decide) C187_ok, am_CS_d (by decide) C194_ok, am_CS_d (by decide) C196_ok, am_CS_d (by decide) C197_ok, am_CS_d (by decide) C208_ok, trivial⟩ 22 (And.intro (fun c12 => (t).1 c12) (fun c12 => And.intro (⟨by decide, by decide⟩) (And.intro (⟨by decide, by decide⟩) (And.intro ((t).2 c12).1 (And.intro (rfl) (And.intro (((t).2 c12).2).1 (fun z6_0 z6_1 => ((((t).2 c12).2).2) z6_0 z6_1)))))))
theorem L203c {K : Option am_V → am_H → Prop} {h : am_H} {k : Int} (T : TPB h 579 (h 571 9)) (z16 : h 571 16 = 0) (W : WFn (h 572 1) (h 572 0) (nr h 572 2)) (hk : 0 ≤ k ∧ k ≤ 2) (hK : ∀ g, RBD h g (bPr (rtp h) k (tke (rtp h) (h 571 13)) (h 572 1) (h 572 0) (nr h 572 2)) → K none g) {g : am_H} {x : Int} (G : (RG h g (tke (rtp h) (tke (rtp h) (h 571 13))) ∧ x = tkv (rtp h) (tke (rtp h) (h 571 13)) ∧ (bPr (rtp h) k (tke (rtp h) (h 571 13)) (h 572 1) (h 572 0) (nr h 572 2)).1 = 0) ∨ (∃ f p, RFA h g f p ∧ ¬ f = 0 ∧ (bPr (rtp h) k (tke (rtp h) (h 571 13)) (h 572 1) (h 572 0) (nr h 572 2)) = (f, p, h 572 0, nr h 572 2, 0))) : am_AT 6 203 86 [some (mR 1 12 0 571), some (mB k), some (mI x)] g K := by
  refine T203_86 ⟨fun c1 => ?_, fun c1 => ⟨by
    rcases G with G | ⟨f, p, A, hf, e⟩
    · have w := bPr_w hk W G.2.2
      have v := rdf_0 w.1.1
      have l2 : 2 ≤ (if k = 1 then (3 : Int) else 2) := by by_cases z : k = 1 <;> simp [z]
      unfold R32
      omega
    · have := A.2.1
      omega, ⟨by
    rcases G with G | ⟨f, p, A, hf, e⟩
    · have w := bPr_w hk W G.2.2
      have v := rdf_0 w.1.1
      have l2 : 2 ≤ (if k = 1 then (3 : Int) else 2) := by by_cases z : k = 1 <;> simp [z]
      have n0 : g 572 0 = h 572 0 := G.1.1 _ _ (by omega)
      have en : nr (am_up g 572 0 (max 1 (g 572 0))) 572 2 = nr h 572 2 := (nr_cg (fun y a b => am_up_n2 (by omega))).trans (nr_fr2 (fun i => G.1.1 _ _ (by omega)))
      have kk := w.1.2
      rw [am_up_eq, en, n0, oldm W, G.2.1]
      exact ⟨by omega, hk, ⟨w.2.2.2.1, by omega⟩, w.2.2.2.2⟩
    · have := A.2.1
      omega, fun h' q2 => ?_⟩⟩⟩
  · rcases G with G | ⟨f, p, A, hf, e⟩
    · exact absurd ((RG_16 G.1).trans z16) c1
    · exact hK g (RFA_S A hf e)
  · rcases G with G | ⟨f, p, A, hf, e⟩
    · have w := bPr_w hk W G.2.2
      have v := rdf_0 w.1.1
      have n0 : g 572 0 = h 572 0 := G.1.1 _ _ (by omega)
      have en : nr (am_up g 572 0 (max 1 (g 572 0))) 572 2 = nr h 572 2 := (nr_cg (fun y a b => am_up_n2 (by omega))).trans (nr_fr2 (fun i => G.1.1 _ _ (by omega)))
      rw [am_up_eq, en, n0, oldm W, G.2.1] at q2
      have f9 : h' 571 9 = h 571 9 := by rw [q2.1 _ _ (by omega), am_up_n2 (by omega)]; exact G.1.1 _ _ (by omega)
      have F : F25 g h' ∨ True := Or.inr trivial
      have fr : ∀ i, h' 571 i = g 571 i := fun i => by rw [q2.1 _ _ (by omega), am_up_n2 (by omega)]
      have ft : ∀ i, h' 579 i = g 579 i := fun i => by rw [q2.1 _ _ (by omega), am_up_n2 (by omega)]
      have et : rtp h' = rtp g := tpn_fr ft (fr 9)
      refine hK h' ⟨fun x i a b => ?_, fun _ => ?_, fun z => absurd G.2.2 z⟩
      · rw [q2.1 x i (by omega), am_up_n2 (by omega)]; exact G.1.1 x i (by omega)
      · rw [w.2.1]
        refine ⟨⟨?_, ?_, ?_⟩, ⟨q2.2.1, q2.2.2⟩, ?_, G.1.2.2.1, ?_⟩
        · rw [fr]; exact c1
        · rw [fr]; exact G.1.1 _ _ (by omega)
        · rw [fr]; exact G.1.1 _ _ (by omega)
        · have C := G.1.2.1
          unfold RTK at C ⊢
          rw [et, fr, fr, fr, fr]
          exact C
        · rw [fr, fr]; exact G.1.2.2.2
    · have := A.2.1
      omega
theorem L203b {K : Option am_V → am_H → Prop} {h : am_H} {k : Int} (T : TPB h 579 (h 571 9)) (z16 : h 571 16 = 0) (W : WFn (h 572 1) (h 572 0) (nr h 572 2)) (hk : 0 ≤ k ∧ k ≤ 2) (hK : ∀ g, RBD h g (bPr (rtp h) k (tke (rtp h) (h 571 13)) (h 572 1) (h 572 0) (nr h 572 2)) → K none g) {g : am_H} (G : (RG h g (tke (rtp h) (h 571 13)) ∧ (rdf (rtp h) (tke (rtp h) (h 571 13)) (if k = 1 then 3 else 2) 20 = 0 → ¬ 20 < (if h 572 1 = 0 then 1 else h 572 0) * tkv (rtp h) (tke (rtp h) (h 571 13)))) ∨ (∃ f p, RFA h g f p ∧ ¬ f = 0 ∧ (bPr (rtp h) k (tke (rtp h) (h 571 13)) (h 572 1) (h 572 0) (nr h 572 2)) = (f, p, h 572 0, nr h 572 2, 0))) : am_AT 6 203 69 [some (mR 1 12 0 571), some (mB k), none] g K := by
  have nx : ∀ h' (a : Int), a = (if k = 1 then 3 else 2) → ((g 571 16 = 1 → h' = g) ∧ (g 571 16 = 0 → ((ifc (g 571 14 = 2) (ifc (a ≤ g 571 15 ∧ g 571 15 ≤ 20) 0 2) 1) = 0 → NXT g h') ∧ (¬ (ifc (g 571 14 = 2) (ifc (a ≤ g 571 15 ∧ g 571 15 ≤ 20) 0 2) 1) = 0 → h' = flr g (ifc (g 571 14 = 2) (ifc (a ≤ g 571 15 ∧ g 571 15 ≤ 20) 0 2) 1)))) → am_AT 6 203 86 [some (mR 1 12 0 571), some (mB k), some (mI (ifc (g 571 16 = 1) a (g 571 15)))] h' K := fun h' a ea q => by
    rcases G with ⟨G, ng⟩ | ⟨f, p, A, hf, e⟩
    · have e16 := (RG_16 G).trans z16
      have n := RG_num (a := a) (b := 20) G (by omega)
      have q2 := q.2 e16
      rw [n.1, ea] at q2
      rw [ifc_f (by omega)]
      rw [ea] at n
      by_cases r0 : rdf (rtp h) (tke (rtp h) (h 571 13)) (if k = 1 then 3 else 2) 20 = 0
      · have v := rdf_0 r0
        refine L203c T z16 W hk hK (Or.inl ⟨RG_nx T G (by omega) (q2.1 r0), (n.2.1 r0).1, ?_⟩)
        unfold bPr
        rw [cif_t r0, cif_f (ng r0)]
      · refine L203c T z16 W hk hK (Or.inr ⟨_, _, by rw [q2.2 r0]; exact RG_f G _, r0, ?_⟩)
        unfold bPr
        rw [cif_f r0]
    · rw [q.1 A.2.1]
      exact L203c T z16 W hk hK (Or.inr ⟨f, p, A, hf, e⟩)
  have pr : (g 571 16 = 0 ∨ g 571 16 = 1) ∧ (g 571 16 = 0 → TPB g 579 (g 571 9) ∧ (0 ≤ g 571 12 ∧ g 571 12 ≤ g 571 9)) := by
    rcases G with ⟨G, ng⟩ | ⟨f, p, A, hf, e⟩
    · exact ⟨Or.inl ((RG_16 G).trans z16), fun _ => RG_p T G⟩
    · exact ⟨Or.inr A.2.1, fun z => by have := A.2.1; omega⟩
  refine T203_69 ⟨fun c1 => ⟨pr, fun h' q2 => ?_⟩, fun c1 => ⟨pr, fun h' q2 => ?_⟩⟩
  · exact nx h' 2 (if_neg c1).symm q2
  · exact nx h' 3 (if_pos c1).symm q2
theorem C203_ok : am_CS 6 203 C203 := W203 (fun k h K hb => by
  obtain ⟨⟨T, C, bd, z16, W, hk, w14⟩, hK⟩ := hb
  have G0 := RG_rf T C bd
  have k0 : ¬ tkk (rtp h) (h 571 13) = 0 := by rw [← C.1.2]; omega
  have hn := W.1.2.1
  have hn0 := W.1.1
  have S1 : ∀ h', ((h 571 16 = 1 → h' = h) ∧ (h 571 16 = 0 → (((1 : Int) = 1) → NXT h h') ∧ (¬ ((1 : Int) = 1) → h' = flr h 1))) → RG h h' (tke (rtp h) (h 571 13)) ∧ h' 571 16 = 0 ∧ h' 572 0 = h 572 0 := fun h' q => by
    have G := RG_nx T G0 k0 ((q.2 z16).1 rfl)
    exact ⟨G, (RG_16 G).trans z16, G.1 _ _ (by omega)⟩
  have A : ∀ h', RG h h' (tke (rtp h) (h 571 13)) → ((rdf (rtp h) (tke (rtp h) (h 571 13)) (if k = 1 then 3 else 2) 20 = 0 → ¬ 20 < (if h 572 1 = 0 then 1 else h 572 0) * tkv (rtp h) (tke (rtp h) (h 571 13)))) → am_AT 6 203 69 [some (mR 1 12 0 571), some (mB k), none] h' K := fun h' G z => L203b T z16 W hk hK (Or.inl ⟨G, z⟩)
  have pr : ∀ h', RG h h' (tke (rtp h) (h 571 13)) → ∀ a : Int, a = (if k = 1 then 3 else 2) → h' 571 14 = 2 → (a ≤ h' 571 15 ∧ h' 571 15 ≤ 20) → h' 571 15 = tkv (rtp h) (tke (rtp h) (h 571 13)) ∧ rdf (rtp h) (tke (rtp h) (h 571 13)) (if k = 1 then 3 else 2) 20 = 0 := fun h' G a ea z y => by
    have n := RG_num (a := a) (b := 20) G (by omega)
    have e := n.1
    rw [ifc_t z, ifc_t y, ea] at e
    exact ⟨(n.2.1 (by rw [ea]; exact e.symm)).1, e.symm⟩
  have mm : ∀ h' : am_H, h' 572 0 = h 572 0 → ∀ v, h' 571 15 = v → v ≤ 20 → (20 < h' 572 0 * h' 571 15 ↔ 20 < (if h 572 1 = 0 then 1 else h 572 0) * v) := fun h' e v ev l => by
    rw [e, ev]
    by_cases z : h 572 1 = 0
    · rw [if_pos z, W.2.2.2.1 z]; omega
    · rw [if_neg z]
  have B : ∀ h' h'_1, RG h h' (tke (rtp h) (h 571 13)) → ((h' 571 16 = 1 → h'_1 = h') ∧ (h' 571 16 = 0 → h'_1 = flr h' 3)) → h' 571 16 = 0 → rdf (rtp h) (tke (rtp h) (h 571 13)) (if k = 1 then 3 else 2) 20 = 0 → 20 < (if h 572 1 = 0 then 1 else h 572 0) * tkv (rtp h) (tke (rtp h) (h 571 13)) → am_AT 6 203 69 [some (mR 1 12 0 571), some (mB k), none] h'_1 K := fun h' h'_1 G q z r0 l => by
    refine L203b T z16 W hk hK (Or.inr ⟨3, tks (rtp h) (tke (rtp h) (h 571 13)), by rw [q.2 z]; exact RG_f G 3, by omega, ?_⟩)
    unfold bPr
    rw [cif_t r0, cif_t l]
  refine T203_0 ⟨⟨Or.inl z16, fun _ _ => ⟨T, by omega⟩⟩, fun h' q1 => ⟨fun c2 => ?_, fun c2 => ⟨fun c3 => ?_, fun c3 => ⟨fun c4 => ⟨fun c5 => ?_, fun c5 => ⟨by
    have s := (S1 h' q1).2.2
    have w1 := Int.mul_nonneg hn0 (show 0 ≤ h' 571 15 by omega)
    have w2 := Int.mul_le_mul hn c5.2 (show 0 ≤ h' 571 15 by omega) (by omega)
    rw [s]
    unfold R32
    omega, ⟨fun c6 => ?_, fun c6 => ⟨by omega, fun h'_1 q7 => ?_⟩⟩⟩⟩, fun c4 => ⟨fun c5 => ?_, fun c5 => ⟨by
    have s := (S1 h' q1).2.2
    have w1 := Int.mul_nonneg hn0 (show 0 ≤ h' 571 15 by omega)
    have w2 := Int.mul_le_mul hn c5.2 (show 0 ≤ h' 571 15 by omega) (by omega)
    rw [s]
    unfold R32
    omega, ⟨fun c6 => ?_, fun c6 => ⟨by omega, fun h'_1 q7 => ?_⟩⟩⟩⟩⟩⟩⟩⟩
  · exact absurd (S1 h' q1).2.1 c2
  · have s := S1 h' q1
    refine A h' s.1 (fun r0 => ?_)
    have := (rdf_0 r0).1
    exact absurd ((RG_14 s.1).trans this) c3
  · have s := S1 h' q1
    refine A h' s.1 (fun r0 => ?_)
    have n := RG_num (a := 2) (b := 20) s.1 (by omega)
    have e := n.1
    rw [if_neg c4] at r0
    rw [r0, ifc_t c3, ifc_f c5] at e
    omega
  · have s := S1 h' q1
    have p := pr h' s.1 2 (if_neg c4).symm c3 c5
    refine A h' s.1 (fun r0 l => ?_)
    have := (mm h' s.2.2 _ p.1 (by rw [← p.1]; exact c5.2)).mpr l
    omega
  · have s := S1 h' q1
    have p := pr h' s.1 2 (if_neg c4).symm c3 c5
    exact B h' h'_1 s.1 q7 c2 p.2 ((mm h' s.2.2 _ p.1 (by rw [← p.1]; exact c5.2)).mp c6)
  · have s := S1 h' q1
    refine A h' s.1 (fun r0 => ?_)
    have n := RG_num (a := 3) (b := 20) s.1 (by omega)
    have e := n.1
    rw [if_pos c4] at r0
    rw [r0, ifc_t c3, ifc_f c5] at e
    omega
  · have s := S1 h' q1
    have p := pr h' s.1 3 (if_pos c4).symm c3 c5
    refine A h' s.1 (fun r0 l => ?_)
    have := (mm h' s.2.2 _ p.1 (by rw [← p.1]; exact c5.2)).mpr l
    omega
  · have s := S1 h' q1
    have p := pr h' s.1 3 (if_pos c4).symm c3 c5
    exact B h' h'_1 s.1 q7 c2 p.2 ((mm h' s.2.2 _ p.1 (by rw [← p.1]; exact c5.2)).mp c6))
/-! 201 FactorNetsModel.readsNet -/
def C201 : am_K := fun as h K => am_a1 as (fun v0 => am_oc 12 571 v0 (((TPB h 579 (h 571 9)) ∧ RTK h (h 571 13) ∧ (0 ≤ h 571 13 ∧ h 571 13 ≤ h 571 12 ∧ h 571 12 ≤ h 571 9) ∧ h 571 16 = 0 ∧ WFn (h 572 1) (h 572 0) (nr h 572 2) ∧ h 572 1 = 0 ∧ h 571 14 = 1) ∧ (∀ (h' : am_H), RBD h h' (bPo (rtp h) (tke (rtp h) (h 571 13)) (h 572 0) (nr h 572 2)) → K (none) (h'))))
theorem W201 {d : Nat} (H : ∀  (h : am_H) (K : Option am_V → am_H → Prop), ((TPB h 579 (h 571 9)) ∧ RTK h (h 571 13) ∧ (0 ≤ h 571 13 ∧ h 571 13 ≤ h 571 12 ∧ h 571 12 ≤ h 571 9) ∧ h 571 16 = 0 ∧ WFn (h 572 1) (h 572 0) (nr h 572 2) ∧ h 572 1 = 0 ∧ h 571 14 = 1) ∧ (∀ (h' : am_H), RBD h h' (bPo (rtp h) (tke (rtp h) (h 571 13)) (h 572 0) (nr h 572 2)) → K (none) (h')) → am_AT d 201 0 [some (mR 1 12 0 571)] h K) : am_CS d 201 C201 := by
  refine am_CS_of (T := tb201) (mL := 1) (rk := 0) rfl (fun as h K hC => ?_)
  obtain ⟨v0, rfl, hC0⟩ := am_a1_e hC
  obtain ⟨e0, hC1⟩ := am_oc_e hC0
  subst e0
  refine ⟨Nat.le_of_ble_eq_true rfl, ?_⟩
  exact H  h K hC1
theorem T201_0 {R : Option am_V → am_H → Prop} {h : am_H} (t : ((h 571 16 = 0 ∨ h 571 16 = 1) ∧ (h 571 16 = 0 → ((1 : Int) = 1) → TPB h 579 (h 571 9) ∧ (0 ≤ h 571 12 ∧ h 571 12 ≤ h 571 9))) ∧ (∀ (h' : am_H), ((h 571 16 = 1 → h' = h) ∧ (h 571 16 = 0 → (((1 : Int) = 1) → NXT h h') ∧ (¬ ((1 : Int) = 1) → h' = flr h 1))) → (((¬ h' 571 16 = 0) → (((h' 571 16 = 0 ∨ h' 571 16 = 1) ∧ (h' 571 16 = 0 → ((1 : Int) = 1) → TPB h' 579 (h' 571 9) ∧ (0 ≤ h' 571 12 ∧ h' 571 12 ≤ h' 571 9))) ∧ (∀ (h'_1 : am_H), ((h' 571 16 = 1 → h'_1 = h') ∧ (h' 571 16 = 0 → (((1 : Int) = 1) → NXT h' h'_1) ∧ (¬ ((1 : Int) = 1) → h'_1 = flr h' 1))) → (am_AT 6 201 30 [some (mR 1 12 0 571)] h'_1 R)))) ∧ ((h' 571 16 = 0) → ((TPB h' 579 (h' 571 9) ∧ (0 ≤ h' 571 13 ∧ h' 571 13 ≤ h' 571 12 ∧ h' 571 12 ≤ h' 571 9)) ∧ (((¬ (rwd h' (3000008 : Int))) → (((h' 571 16 = 0 ∨ h' 571 16 = 1) ∧ (h' 571 16 = 0 → ((0 : Int) = 1) → TPB h' 579 (h' 571 9) ∧ (0 ≤ h' 571 12 ∧ h' 571 12 ≤ h' 571 9))) ∧ (∀ (h'_1 : am_H), ((h' 571 16 = 1 → h'_1 = h') ∧ (h' 571 16 = 0 → (((0 : Int) = 1) → NXT h' h'_1) ∧ (¬ ((0 : Int) = 1) → h'_1 = flr h' 1))) → (am_AT 6 201 30 [some (mR 1 12 0 571)] h'_1 R)))) ∧ ((rwd h' (3000008 : Int)) → (((h' 571 16 = 0 ∨ h' 571 16 = 1) ∧ (h' 571 16 = 0 → ((1 : Int) = 1) → TPB h' 579 (h' 571 9) ∧ (0 ≤ h' 571 12 ∧ h' 571 12 ≤ h' 571 9))) ∧ (∀ (h'_1 : am_H), ((h' 571 16 = 1 → h'_1 = h') ∧ (h' 571 16 = 0 → (((1 : Int) = 1) → NXT h' h'_1) ∧ (¬ ((1 : Int) = 1) → h'_1 = flr h' 1))) → (am_AT 6 201 30 [some (mR 1 12 0 571)] h'_1 R)))))))))) : am_AT 6 201 0 [some (mR 1 12 0 571)] h R :=
  am_T (d := 5) (m := 201) (T := tb201) (mL := 1) (rk := 0) (cuts := [(30, [1])]) (l := [(195, C195), (196, C196), (197, C197)]) rfl ⟨am_CS_d (by decide) C195_ok, am_CS_d (by decide) C196_ok, am_CS_d (by decide) C197_ok, trivial⟩ 18 (And.intro (rfl) (And.intro (Or.inr rfl) (And.intro (t).1 (fun z7_0 z7_1 => And.intro (fun c13 => And.intro (rfl) (And.intro (Or.inr rfl) (And.intro ((((t).2) z7_0 z7_1).1 c13).1 (fun z8_0 z8_1 => (((((t).2) z7_0 z7_1).1 c13).2) z8_0 z8_1)))) (fun c13 => And.intro (rfl) (And.intro ((((t).2) z7_0 z7_1).2 c13).1 (And.intro (fun c14 => And.intro (rfl) (And.intro (Or.inl rfl) (And.intro ((((((t).2) z7_0 z7_1).2 c13).2).1 c14).1 (fun z9_0 z9_1 => (((((((t).2) z7_0 z7_1).2 c13).2).1 c14).2) z9_0 z9_1)))) (fun c14 => And.intro (rfl) (And.intro (Or.inr rfl) (And.intro ((((((t).2) z7_0 z7_1).2 c13).2).2 c14).1 (fun z10_0 z10_1 => (((((((t).2) z7_0 z7_1).2 c13).2).2 c14).2) z10_0 z10_1)))))))))))
theorem T201_30 {R : Option am_V → am_H → Prop} {h : am_H} (t : ((h 571 16 = 0 ∨ h 571 16 = 1) ∧ (h 571 16 = 0 → TPB h 579 (h 571 9) ∧ (0 ≤ h 571 12 ∧ h 571 12 ≤ h 571 9))) ∧ (∀ (h' : am_H), ((h 571 16 = 1 → h' = h) ∧ (h 571 16 = 0 → ((ifc (h 571 14 = 2) (ifc ((1 : Int) ≤ h 571 15 ∧ h 571 15 ≤ (20 : Int)) 0 2) 1) = 0 → NXT h h') ∧ (¬ (ifc (h 571 14 = 2) (ifc ((1 : Int) ≤ h 571 15 ∧ h 571 15 ≤ (20 : Int)) 0 2) 1) = 0 → h' = flr h (ifc (h 571 14 = 2) (ifc ((1 : Int) ≤ h 571 15 ∧ h 571 15 ≤ (20 : Int)) 0 2) 1)))) → (R none (am_up h' 572 0 (ifc (h 571 16 = 1) (1 : Int) (h 571 15)))))) : am_AT 6 201 30 [some (mR 1 12 0 571)] h R :=
  am_T (d := 5) (m := 201) (T := tb201) (mL := 1) (rk := 0) (cuts := [(30, [1])]) (l := [(195, C195), (196, C196), (197, C197)]) rfl ⟨am_CS_d (by decide) C195_ok, am_CS_d (by decide) C196_ok, am_CS_d (by decide) C197_ok, trivial⟩ 13 (And.intro (rfl) (And.intro (t).1 (fun z11_0 z11_1 => And.intro (⟨by decide, by decide⟩) (((t).2) z11_0 z11_1))))
theorem RTK_fr {g g' : am_H} {j : Int} (C : RTK g j) (f : ∀ i, g' 571 i = g 571 i) (t : ∀ i, g' 579 i = g 579 i) : RTK g' j := by
  have et : rtp g' = rtp g := tpn_fr t (f 9)
  unfold RTK at C ⊢
  rw [et, f, f, f, f]
  exact C
theorem L201 {K : Option am_V → am_H → Prop} {h : am_H} (T : TPB h 579 (h 571 9)) (z16 : h 571 16 = 0) (W : WFn 0 (h 572 0) (nr h 572 2)) (hK : ∀ g, RBD h g (bPo (rtp h) (tke (rtp h) (h 571 13)) (h 572 0) (nr h 572 2)) → K none g) {g : am_H} (G : (RG h g (tke (rtp h) (tke (rtp h) (h 571 13))) ∧ wdp (rtp h) (tke (rtp h) (h 571 13)) 3000008) ∨ (∃ f p, RFA h g f p ∧ ¬ f = 0 ∧ (bPo (rtp h) (tke (rtp h) (h 571 13)) (h 572 0) (nr h 572 2)) = (f, p, h 572 0, nr h 572 2, 0))) : am_AT 6 201 30 [some (mR 1 12 0 571)] g K := by
  refine T201_30 ⟨by
    rcases G with ⟨G, w⟩ | ⟨f, p, A, hf, e⟩
    · exact ⟨Or.inl ((RG_16 G).trans z16), fun _ => RG_p T G⟩
    · exact ⟨Or.inr A.2.1, fun z => by have := A.2.1; omega⟩, fun h' q1 => ?_⟩
  · rcases G with ⟨G, w⟩ | ⟨f, p, A, hf, e⟩
    · have e16 := (RG_16 G).trans z16
      have n := RG_num (a := 1) (b := 20) G (by omega)
      have q2 := q1.2 e16
      rw [n.1] at q2
      rw [ifc_f (by omega)]
      by_cases r0 : rdf (rtp h) (tke (rtp h) (tke (rtp h) (h 571 13))) 1 20 = 0
      · have v := rdf_0 r0
        have G2 := RG_nx T G (by omega) (q2.1 r0)
        have S1 : (bPo (rtp h) (tke (rtp h) (h 571 13)) (h 572 0) (nr h 572 2)) = (0, -1, tkv (rtp h) (tke (rtp h) (tke (rtp h) (h 571 13))), nr h 572 2, tke (rtp h) (tke (rtp h) (tke (rtp h) (h 571 13)))) := by
          unfold bPo
          rw [cif_t w, cif_t r0]
        refine hK _ ?_
        rw [S1]
        refine ⟨fun x i a b => by rw [am_up_n2 (by omega)]; exact G2.1 x i (by omega), fun _ => ⟨⟨?_, ?_, ?_⟩, ⟨?_, ?_⟩, RTK_fr G2.2.1 (fun i => am_up_n2 (by omega)) (fun i => am_up_n2 (by omega)), G2.2.2.1, ?_⟩, fun z => absurd rfl z⟩
        · rw [am_up_n2 (by omega)]; exact (RG_16 G2).trans z16
        · rw [am_up_n2 (by omega)]; exact G2.1 _ _ (by omega)
        · rw [am_up_n2 (by omega)]; exact G2.1 _ _ (by omega)
        · rw [am_up_eq]; exact (n.2.1 r0).1
        · exact (nr_cg (fun y a b => am_up_n2 (by omega))).trans (nr_fr2 (fun i => G2.1 _ _ (by omega)))
        · rw [am_up_n2 (by omega), am_up_n2 (by omega)]; exact G2.2.2.2
      · have A := RG_f G (rdf (rtp h) (tke (rtp h) (tke (rtp h) (h 571 13))) 1 20)
        rw [← q2.2 r0] at A
        refine hK _ (RFA_S (f := rdf (rtp h) (tke (rtp h) (tke (rtp h) (h 571 13))) 1 20) (p := tks (rtp h) (tke (rtp h) (tke (rtp h) (h 571 13)))) (n' := h 572 0) (r' := nr h 572 2) ⟨fun x i a b => by rw [am_up_n2 (by omega)]; exact A.1 x i a b, by rw [am_up_n2 (by omega)]; exact A.2.1, by rw [am_up_n2 (by omega)]; exact A.2.2.1, by rw [am_up_n2 (by omega)]; exact A.2.2.2⟩ r0 ?_)
        unfold bPo
        rw [cif_t w, cif_f r0]
    · have e1 := q1.1 A.2.1
      refine hK _ (RFA_S (f := f) (p := p) ⟨fun x i a b => by rw [am_up_n2 (by omega), e1]; exact A.1 x i a b, by rw [am_up_n2 (by omega), e1]; exact A.2.1, by rw [am_up_n2 (by omega), e1]; exact A.2.2.1, by rw [am_up_n2 (by omega), e1]; exact A.2.2.2⟩ hf e)
theorem C201_ok : am_CS 6 201 C201 := W201 (fun h K hb => by
  obtain ⟨⟨T, C, bd, z16, W, c0, w14⟩, hK⟩ := hb
  rw [c0] at W
  have G0 := RG_rf T C bd
  have k0 : ¬ tkk (rtp h) (h 571 13) = 0 := by rw [← C.1.2]; omega
  have S1 : ∀ h', ((h 571 16 = 1 → h' = h) ∧ (h 571 16 = 0 → (((1 : Int) = 1) → NXT h h') ∧ (¬ ((1 : Int) = 1) → h' = flr h 1))) → RG h h' (tke (rtp h) (h 571 13)) ∧ h' 571 16 = 0 := fun h' q => by
    have G := RG_nx T G0 k0 ((q.2 z16).1 rfl)
    exact ⟨G, (RG_16 G).trans z16⟩
  refine T201_0 ⟨⟨Or.inl z16, fun _ _ => ⟨T, by omega⟩⟩, fun h' q1 => ⟨fun c2 => ⟨⟨Or.inl (S1 h' q1).2, fun z => absurd z c2⟩, fun h'_1 q3 => ?_⟩, fun c2 => ⟨by
    have s := (S1 h' q1).1
    have p := RG_p T s
    have b := s.2.2.2
    exact ⟨p.1, by omega⟩, ⟨fun c3 => ⟨⟨Or.inl c2, fun _ z => by omega⟩, fun h'_1 q4 => ?_⟩, fun c3 => ⟨⟨Or.inl c2, fun _ _ => RG_p T (S1 h' q1).1⟩, fun h'_1 q4 => ?_⟩⟩⟩⟩⟩
  · exact absurd (S1 h' q1).2 c2
  · have s := S1 h' q1
    have w : ¬ wdp (rtp h) (tke (rtp h) (h 571 13)) 3000008 := fun z => c3 ((rwd_w s.1 _).mpr z)
    refine L201 T z16 W hK (Or.inr ⟨1, tks (rtp h) (tke (rtp h) (h 571 13)), by rw [(q4.2 c2).2 (by omega)]; exact RG_f s.1 1, by omega, ?_⟩)
    unfold bPo
    rw [cif_f w]
  · have s := S1 h' q1
    have w := (rwd_w s.1 _).mp c3
    exact L201 T z16 W hK (Or.inl ⟨RG_nx T s.1 (by rw [w.1]; omega) ((q4.2 c2).1 rfl), w⟩))
