/-! ===== the reference's tokens ===== -/
def rtp (g : am_H) : Int → Int := tpn g 579 (g 571 9)
def flr (h : am_H) (k : Int) : am_H := am_up (am_up (am_up h 571 16 1) 571 10 k) 571 11 (h 571 13)
def rwd (h : am_H) (a : Int) : Prop := h 571 14 = 1 ∧ h 571 12 - h 571 13 = am_sl a ∧ ∀ j9, 0 ≤ j9 → j9 < am_sl a → rtp h (h 571 13 + j9) = am_sc a j9
def RTK (g : am_H) (i : Int) : Prop := (g 571 13 = tks (rtp g) i ∧ g 571 14 = tkk (rtp g) i) ∧ g 571 12 = ifc (tkk (rtp g) i = 0) (tks (rtp g) i) (tke (rtp g) i) ∧ (tkk (rtp g) i = 2 → (g 571 15 = tkv (rtp g) i ∨ (10000 ≤ g 571 15 ∧ tkv (rtp g) i = 10000)) ∧ (0 ≤ g 571 15 ∧ g 571 15 ≤ 99999))
def NXT (h g : am_H) : Prop := (∀ x i, ¬ (x = 571 ∧ 12 ≤ i ∧ i ≤ 15) → g x i = h x i) ∧ RTK g (h 571 12) ∧ (0 ≤ g 571 13 ∧ g 571 13 ≤ g 571 12 ∧ g 571 12 ≤ h 571 9)
def F25 (h g : am_H) : Prop := ∀ x i, ¬ (x = 571 ∧ 12 ≤ i ∧ i ≤ 15) → g x i = h x i
theorem F25_t {h g : am_H} (F : F25 h g) : rtp g = rtp h := tpn_fr (fun j => F _ _ (by omega)) (F _ _ (by omega))
theorem F25_b {h g : am_H} (F : F25 h g) (T : TPB h 579 (h 571 9)) : TPB g 579 (g 571 9) := TPB_fr T (fun j => F _ _ (by omega)) (F _ _ (by omega))
theorem rtp_at {h : am_H} (T : TPB h 579 (h 571 9)) {i a b : Int} (h0 : 0 ≤ i) (ha : 0 ≤ a) : (a ≤ rtp h i ∧ rtp h i ≤ b) ↔ i < h 571 9 ∧ a ≤ h 579 i ∧ h 579 i ≤ b := by
  unfold rtp
  by_cases c : i < h 571 9
  · rw [tpn_in h0 c]; exact ⟨fun z => ⟨c, z⟩, fun z => z.2⟩
  · rw [tpn_out (by omega)]; exact ⟨fun z => by omega, fun z => absurd z.1 c⟩
theorem tk_in {h : am_H} (T : TPB h 579 (h 571 9)) {i : Int} (h0 : 0 ≤ i) (hk : ¬ tkk (rtp h) i = 0) : tks (rtp h) i < h 571 9 ∧ tke (rtp h) i ≤ h 571 9 := by
  have W : TPW (rtp h) := TPW_b T
  have tr := tk_r W h0 hk
  have ne : ∀ k, 0 ≤ k → rtp h k ≠ -1 → k < h 571 9 := fun k a z => Classical.byContradiction fun w => z (tpn_out (by omega))
  have n1 : rtp h (tks (rtp h) i) ≠ -1 := fun z => hk (tkk_0 (fun w => by unfold ltr at w; omega) (fun w => by unfold dgt at w; omega) (by omega) z)
  refine ⟨ne _ (by omega) n1, ?_⟩
  by_cases a : ltr (rtp h) (tks (rtp h) i)
  · rw [tke_1 a] at tr ⊢
    have q := (rnn_RN (ltr_l W) (i := tks (rtp h) i) (by omega)).2.1 (rnn (ltr (rtp h)) (tks (rtp h) i) - 1) (by omega) (by omega)
    have := ne _ (by omega) (show rtp h (rnn (ltr (rtp h)) (tks (rtp h) i) - 1) ≠ -1 by have q1 : 97 ≤ rtp h (rnn (ltr (rtp h)) (tks (rtp h) i) - 1) := q.1; omega)
    omega
  · by_cases b : dgt (rtp h) (tks (rtp h) i)
    · rw [tke_2 a b] at tr ⊢
      have q := (rnn_RN (dgt_l W) (i := tks (rtp h) i) (by omega)).2.1 (rnn (dgt (rtp h)) (tks (rtp h) i) - 1) (by omega) (by omega)
      have := ne _ (by omega) (show rtp h (rnn (dgt (rtp h)) (tks (rtp h) i) - 1) ≠ -1 by have q1 : 48 ≤ rtp h (rnn (dgt (rtp h)) (tks (rtp h) i) - 1) := q.1; omega)
      omega
    · rw [tke_3 a b]
      have := ne _ (by omega) n1
      omega
theorem sl_all : ri_Fd.all (fun l => decide (l.length ≤ 100)) = true := by decide +kernel
theorem am_sl_r (a : Int) : am_sl a ≤ 100 := by
  unfold am_sl
  cases q : ri_Fd[(a - 2999987).toNat]? with
  | none => show (([] : List Value).length : Int) ≤ 100; decide
  | some l =>
    have h1 := of_decide_eq_true (List.all_eq_true.mp sl_all l (List.mem_of_getElem? q))
    show ((l.length : Nat) : Int) ≤ 100
    omega
/-! 192 FactorNetsModel.isAt -/
def C192 : am_K := fun as h K => am_a3 as (fun v0 v1 v2 => am_oc 12 571 v0 (am_n v1 (fun a => am_n v2 (fun b => (TPB h 579 (h 571 9) ∧ (0 ≤ h 571 12 ∧ h 571 12 ≤ h 571 9) ∧ 0 ≤ a) ∧ (K (some (mP (a ≤ (rtp h) (h 571 12) ∧ (rtp h) (h 571 12) ≤ b))) h)))))
theorem W192 {d : Nat} (H : ∀ (a : Int) (b : Int) (h : am_H) (K : Option am_V → am_H → Prop), (TPB h 579 (h 571 9) ∧ (0 ≤ h 571 12 ∧ h 571 12 ≤ h 571 9) ∧ 0 ≤ a) ∧ (K (some (mP (a ≤ (rtp h) (h 571 12) ∧ (rtp h) (h 571 12) ≤ b))) h) → am_AT d 192 0 [some (mR 1 12 0 571), some (mB a), some (mB b)] h K) : am_CS d 192 C192 := by
  refine am_CS_of (T := tb192) (mL := 3) (rk := 4) rfl (fun as h K hC => ?_)
  obtain ⟨v0, v1, v2, rfl, hC0⟩ := am_a3_e hC
  obtain ⟨e0, hC1⟩ := am_oc_e hC0
  subst e0
  obtain ⟨a, rfl, hC2⟩ := am_n_e hC1
  obtain ⟨b, rfl, hC3⟩ := am_n_e hC2
  refine ⟨Nat.le_of_ble_eq_true rfl, ?_⟩
  exact H a b h K hC3
theorem T192_0 {R : Option am_V → am_H → Prop} {h : am_H} {a : Int} {b : Int} (t : ((h 571 9 ≤ h 571 12) → (R (some (mP ((0 : Int) = 1))) h)) ∧ ((h 571 12 < h 571 9) → ((0 ≤ h 571 12 ∧ h 571 12 < 800) ∧ (((¬ (a ≤ (h 579 (h 571 12)) ∧ (h 579 (h 571 12)) ≤ b)) → (R (some (mP ((0 : Int) = 1))) h)) ∧ ((a ≤ (h 579 (h 571 12)) ∧ (h 579 (h 571 12)) ≤ b) → (R (some (mP ((1 : Int) = 1))) h)))))) : am_AT 2 192 0 [some (mR 1 12 0 571), some (mB a), some (mB b)] h R :=
  am_T (d := 1) (m := 192) (T := tb192) (mL := 3) (rk := 4) (cuts := []) (l := [(187, C187)]) rfl ⟨am_CS_d (by decide) C187_ok, trivial⟩ 24 (And.intro (fun c1 => And.intro (Or.inl rfl) ((t).1 c1)) (fun c1 => And.intro ((t).2 c1).1 (And.intro (fun c2 => And.intro (Or.inl rfl) ((((t).2 c1).2).1 c2)) (fun c2 => And.intro (Or.inr rfl) ((((t).2 c1).2).2 c2)))))
theorem C192_ok : am_CS 2 192 C192 := W192 (fun a b h K hb => by
  obtain ⟨⟨T, hp, ha⟩, hK⟩ := hb
  have t := T.1
  have w := rtp_at (i := h 571 12) (a := a) (b := b) T hp.1 ha
  refine T192_0 ⟨fun c1 => ?_, fun c1 => ⟨by omega, ⟨fun c2 => ?_, fun c2 => ?_⟩⟩⟩
  · exact am_rb hK ⟨fun z => by have := (w.mp z).1; omega, fun z => by omega⟩
  · exact am_rb hK ⟨fun z => absurd (w.mp z).2 c2, fun z => by omega⟩
  · exact am_rb1 hK (w.mpr ⟨c1, c2⟩))
/-! 193 FactorNetsModel.next -/
def C193 : am_K := fun as h K => am_a1 as (fun v0 => am_oc 12 571 v0 ((TPB h 579 (h 571 9) ∧ (0 ≤ h 571 12 ∧ h 571 12 ≤ h 571 9)) ∧ (∀ (h' : am_H), NXT h h' → K (none) (h'))))
theorem W193 {d : Nat} (H : ∀  (h : am_H) (K : Option am_V → am_H → Prop), (TPB h 579 (h 571 9) ∧ (0 ≤ h 571 12 ∧ h 571 12 ≤ h 571 9)) ∧ (∀ (h' : am_H), NXT h h' → K (none) (h')) → am_AT d 193 0 [some (mR 1 12 0 571)] h K) : am_CS d 193 C193 := by
  refine am_CS_of (T := tb193) (mL := 1) (rk := 0) rfl (fun as h K hC => ?_)
  obtain ⟨v0, rfl, hC0⟩ := am_a1_e hC
  obtain ⟨e0, hC1⟩ := am_oc_e hC0
  subst e0
  refine ⟨Nat.le_of_ble_eq_true rfl, ?_⟩
  exact H  h K hC1
theorem T193_0 {R : Option am_V → am_H → Prop} {h : am_H} (t : (TPB h 579 (h 571 9) ∧ (0 ≤ h 571 12 ∧ h 571 12 ≤ h 571 9) ∧ 0 ≤ (32 : Int)) ∧ ((((32 : Int) ≤ (rtp h) (h 571 12) ∧ (rtp h) (h 571 12) ≤ (32 : Int)) → ((R32 ((h 571 12) + 1)) ∧ (am_AT 3 193 0 [some (mR 1 12 0 571)] (am_up h 571 12 ((h 571 12) + 1)) R))) ∧ ((¬ ((32 : Int) ≤ (rtp h) (h 571 12) ∧ (rtp h) (h 571 12) ≤ (32 : Int))) → ((TPB h 579 (h 571 9) ∧ (0 ≤ h 571 12 ∧ h 571 12 ≤ h 571 9) ∧ 0 ≤ (10 : Int)) ∧ (((¬ ((10 : Int) ≤ (rtp h) (h 571 12) ∧ (rtp h) (h 571 12) ≤ (10 : Int))) → (am_AT 3 193 35 [some (mR 1 12 0 571)] h R)) ∧ (((10 : Int) ≤ (rtp h) (h 571 12) ∧ (rtp h) (h 571 12) ≤ (10 : Int)) → ((R32 ((h 571 12) + 1)) ∧ (am_AT 3 193 0 [some (mR 1 12 0 571)] (am_up h 571 12 ((h 571 12) + 1)) R)))))))) : am_AT 3 193 0 [some (mR 1 12 0 571)] h R :=
  am_T (d := 2) (m := 193) (T := tb193) (mL := 1) (rk := 0) (cuts := [(0, [1]), (35, [1]), (67, [1]), (83, [1]), (123, [1])]) (l := [(192, C192)]) rfl ⟨am_CS_d (by decide) C192_ok, trivial⟩ 21 (And.intro (rfl) (And.intro (t).1 (And.intro (fun c3 => And.intro (((t).2).1 c3).1 ((((t).2).1 c3).2)) (fun c3 => And.intro (rfl) (And.intro (((t).2).2 c3).1 (And.intro (fun c4 => ((((t).2).2 c3).2).1 c4) (fun c4 => And.intro (((((t).2).2 c3).2).2 c4).1 ((((((t).2).2 c3).2).2 c4).2))))))))
theorem T193_35 {R : Option am_V → am_H → Prop} {h : am_H} (t : ((¬ h 571 12 = h 571 9) → (am_AT 3 193 67 [some (mR 1 12 0 571)] (am_up (am_up h 571 13 (h 571 12)) 571 15 0) R)) ∧ ((h 571 12 = h 571 9) → (R none (am_up (am_up (am_up h 571 13 (h 571 12)) 571 15 0) 571 14 0)))) : am_AT 3 193 35 [some (mR 1 12 0 571)] h R :=
  am_T (d := 2) (m := 193) (T := tb193) (mL := 1) (rk := 0) (cuts := [(0, [1]), (35, [1]), (67, [1]), (83, [1]), (123, [1])]) (l := [(192, C192)]) rfl ⟨am_CS_d (by decide) C192_ok, trivial⟩ 21 (And.intro (fun c5 => (t).1 c5) (fun c5 => (t).2 c5))
theorem T193_67 {R : Option am_V → am_H → Prop} {h : am_H} (t : (TPB h 579 (h 571 9) ∧ (0 ≤ h 571 12 ∧ h 571 12 ≤ h 571 9) ∧ 0 ≤ (97 : Int)) ∧ (((¬ ((97 : Int) ≤ (rtp h) (h 571 12) ∧ (rtp h) (h 571 12) ≤ (122 : Int))) → ((TPB h 579 (h 571 9) ∧ (0 ≤ h 571 12 ∧ h 571 12 ≤ h 571 9) ∧ 0 ≤ (48 : Int)) ∧ (((¬ ((48 : Int) ≤ (rtp h) (h 571 12) ∧ (rtp h) (h 571 12) ≤ (57 : Int))) → ((TPB h 579 (h 571 9) ∧ (0 ≤ h 571 12 ∧ h 571 12 ≤ h 571 9) ∧ 0 ≤ (59 : Int)) ∧ (((¬ ((59 : Int) ≤ (rtp h) (h 571 12) ∧ (rtp h) (h 571 12) ≤ (59 : Int))) → ((R32 ((h 571 12) + 1)) ∧ (R none (am_up (am_up h 571 14 4) 571 12 ((h 571 12) + 1))))) ∧ (((59 : Int) ≤ (rtp h) (h 571 12) ∧ (rtp h) (h 571 12) ≤ (59 : Int)) → ((R32 ((h 571 12) + 1)) ∧ (R none (am_up (am_up h 571 14 3) 571 12 ((h 571 12) + 1)))))))) ∧ (((48 : Int) ≤ (rtp h) (h 571 12) ∧ (rtp h) (h 571 12) ≤ (57 : Int)) → (am_AT 3 193 123 [some (mR 1 12 0 571)] (am_up h 571 14 2) R))))) ∧ (((97 : Int) ≤ (rtp h) (h 571 12) ∧ (rtp h) (h 571 12) ≤ (122 : Int)) → (am_AT 3 193 83 [some (mR 1 12 0 571)] (am_up h 571 14 1) R)))) : am_AT 3 193 67 [some (mR 1 12 0 571)] h R :=
  am_T (d := 2) (m := 193) (T := tb193) (mL := 1) (rk := 0) (cuts := [(0, [1]), (35, [1]), (67, [1]), (83, [1]), (123, [1])]) (l := [(192, C192)]) rfl ⟨am_CS_d (by decide) C192_ok, trivial⟩ 30 (And.intro (rfl) (And.intro (t).1 (And.intro (fun c6 => And.intro (rfl) (And.intro (((t).2).1 c6).1 (And.intro (fun c7 => And.intro (rfl) (And.intro (((((t).2).1 c6).2).1 c7).1 (And.intro (fun c8 => And.intro (((((((t).2).1 c6).2).1 c7).2).1 c8).1 ((((((((t).2).1 c6).2).1 c7).2).1 c8).2)) (fun c8 => And.intro (((((((t).2).1 c6).2).1 c7).2).2 c8).1 ((((((((t).2).1 c6).2).1 c7).2).2 c8).2))))) (fun c7 => ((((t).2).1 c6).2).2 c7)))) (fun c6 => ((t).2).2 c6))))
theorem T193_83 {R : Option am_V → am_H → Prop} {h : am_H} (t : (TPB h 579 (h 571 9) ∧ (0 ≤ h 571 12 ∧ h 571 12 ≤ h 571 9) ∧ 0 ≤ (97 : Int)) ∧ (((¬ ((97 : Int) ≤ (rtp h) (h 571 12) ∧ (rtp h) (h 571 12) ≤ (122 : Int))) → (R none h)) ∧ (((97 : Int) ≤ (rtp h) (h 571 12) ∧ (rtp h) (h 571 12) ≤ (122 : Int)) → ((R32 ((h 571 12) + 1)) ∧ (am_AT 3 193 83 [some (mR 1 12 0 571)] (am_up h 571 12 ((h 571 12) + 1)) R))))) : am_AT 3 193 83 [some (mR 1 12 0 571)] h R :=
  am_T (d := 2) (m := 193) (T := tb193) (mL := 1) (rk := 0) (cuts := [(0, [1]), (35, [1]), (67, [1]), (83, [1]), (123, [1])]) (l := [(192, C192)]) rfl ⟨am_CS_d (by decide) C192_ok, trivial⟩ 16 (And.intro (rfl) (And.intro (t).1 (And.intro (fun c9 => ((t).2).1 c9) (fun c9 => And.intro (((t).2).2 c9).1 ((((t).2).2 c9).2)))))
theorem T193_123 {R : Option am_V → am_H → Prop} {h : am_H} (t : (TPB h 579 (h 571 9) ∧ (0 ≤ h 571 12 ∧ h 571 12 ≤ h 571 9) ∧ 0 ≤ (48 : Int)) ∧ (((¬ ((48 : Int) ≤ (rtp h) (h 571 12) ∧ (rtp h) (h 571 12) ≤ (57 : Int))) → (R none h)) ∧ (((48 : Int) ≤ (rtp h) (h 571 12) ∧ (rtp h) (h 571 12) ≤ (57 : Int)) → ((0 ≤ h 571 12 ∧ h 571 12 < 800) ∧ ((R32 (((10 * (h 571 15)) + (h 579 (h 571 12))) - 48)) ∧ ((R32 ((h 571 12) + 1)) ∧ (am_AT 3 193 123 [some (mR 1 12 0 571)] (am_up (am_up h 571 15 (min 99999 (((10 * (h 571 15)) + (h 579 (h 571 12))) - 48))) 571 12 ((h 571 12) + 1)) R))))))) : am_AT 3 193 123 [some (mR 1 12 0 571)] h R :=
  am_T (d := 2) (m := 193) (T := tb193) (mL := 1) (rk := 0) (cuts := [(0, [1]), (35, [1]), (67, [1]), (83, [1]), (123, [1])]) (l := [(192, C192)]) rfl ⟨am_CS_d (by decide) C192_ok, trivial⟩ 32 (And.intro (rfl) (And.intro (t).1 (And.intro (fun c10 => ((t).2).1 c10) (fun c10 => And.intro (((t).2).2 c10).1 (And.intro ((((t).2).2 c10).2).1 (And.intro (((((t).2).2 c10).2).2).1 ((((((t).2).2 c10).2).2).2)))))))
theorem L193w {K : Option am_V → am_H → Prop} {h : am_H} (T : TPB h 579 (h 571 9)) (hp : 0 ≤ h 571 12 ∧ h 571 12 ≤ h 571 9) (hK : ∀ g, NXT h g → K none g) (hl : ltr (rtp h) (tks (rtp h) (h 571 12))) : ∀ j, ∀ g : am_H, 0 ≤ j → j ≤ 800 → F25 h g → g 571 13 = tks (rtp h) (h 571 12) → g 571 14 = 1 → g 571 12 = tks (rtp h) (h 571 12) + j → (∀ k, tks (rtp h) (h 571 12) ≤ k → k < tks (rtp h) (h 571 12) + j → ltr (rtp h) k) → am_AT 3 193 83 [some (mR 1 12 0 571)] g K := by
  have W : TPW (rtp h) := TPW_b T
  have s0 := tks_ge W hp.1
  have t := T.1
  refine lp 800 (fun j ih g j0 j1 F e13 e14 e12 G => ?_)
  have et := F25_t F
  have e9 : g 571 9 = h 571 9 := F _ _ (by omega)
  have inl : tks (rtp h) (h 571 12) + j ≤ h 571 9 := by
    by_cases z : j = 0
    · have := (rtp_at (b := 122) T (i := tks (rtp h) (h 571 12)) (by omega) (show (0 : Int) ≤ 97 by omega)).mp hl
      omega
    · have := (rtp_at (b := 122) T (i := tks (rtp h) (h 571 12) + j - 1) (by omega) (show (0 : Int) ≤ 97 by omega)).mp (G _ (by omega) (by omega))
      omega
  refine T193_83 ⟨⟨F25_b F T, by omega, by omega⟩, ⟨fun c1 => ?_, fun c1 => ⟨by omega, ?_⟩⟩⟩
  · rw [et, e12] at c1
    have q : tks (rtp h) (h 571 12) + j = rnn (ltr (rtp h)) (tks (rtp h) (h 571 12)) := rnn_is (ltr_l W) (by omega) ⟨by omega, G, c1⟩
    refine hK g ⟨F, ?_, by omega⟩
    unfold RTK
    rw [et, tkk_1 hl, ifc_f (by omega), tke_1 hl]
    exact ⟨⟨e13, e14⟩, by rw [e12]; exact q, fun z => by omega⟩
  · rw [et, e12] at c1
    have l8 := ltr_l W _ c1
    refine ih (by omega) _ (by omega) (by omega) (fun x i a => by rw [am_up_n2 (by omega)]; exact F x i a) (by rw [am_up_n2 (by omega)]; exact e13) (by rw [am_up_n2 (by omega)]; exact e14) (by rw [am_up_eq]; omega) (fun k a b => ?_)
    by_cases w : k = tks (rtp h) (h 571 12) + j
    · rw [w]; exact c1
    · exact G k a (by omega)
def VR (tp : Int → Int) (s : Int) (m : Nat) (v : Int) : Prop := (v = vlf tp s m ∨ (10000 ≤ v ∧ vlf tp s m = 10000)) ∧ (0 ≤ v ∧ v ≤ 99999)
theorem VR_s {tp : Int → Int} {s : Int} {m : Nat} {v : Int} (h : VR tp s m v) (hd : 48 ≤ tp (s + m) ∧ tp (s + m) ≤ 57) : VR tp s (m + 1) (min 99999 (10 * v + tp (s + m) - 48)) := by
  have e : vlf tp s (m + 1) = min 10000 (vlf tp s m * 10 + (tp (s + m) - 48)) := rfl
  unfold VR at h ⊢
  rw [e]
  omega
theorem L193n {K : Option am_V → am_H → Prop} {h : am_H} (T : TPB h 579 (h 571 9)) (hp : 0 ≤ h 571 12 ∧ h 571 12 ≤ h 571 9) (hK : ∀ g, NXT h g → K none g) (hl : ¬ ltr (rtp h) (tks (rtp h) (h 571 12))) (hd : dgt (rtp h) (tks (rtp h) (h 571 12))) : ∀ j, ∀ g : am_H, 0 ≤ j → j ≤ 800 → F25 h g → g 571 13 = tks (rtp h) (h 571 12) → g 571 14 = 2 → g 571 12 = tks (rtp h) (h 571 12) + j → VR (rtp h) (tks (rtp h) (h 571 12)) j.toNat (g 571 15) → (∀ k, tks (rtp h) (h 571 12) ≤ k → k < tks (rtp h) (h 571 12) + j → dgt (rtp h) k) → am_AT 3 193 123 [some (mR 1 12 0 571)] g K := by
  have W : TPW (rtp h) := TPW_b T
  have s0 := tks_ge W hp.1
  have t := T.1
  refine lp 800 (fun j ih g j0 j1 F e13 e14 e12 v G => ?_)
  have et := F25_t F
  have e9 : g 571 9 = h 571 9 := F _ _ (by omega)
  have v2 := v.2
  have inl : tks (rtp h) (h 571 12) + j ≤ h 571 9 := by
    by_cases z : j = 0
    · have := (rtp_at (b := 57) T (i := tks (rtp h) (h 571 12)) (by omega) (show (0 : Int) ≤ 48 by omega)).mp hd
      omega
    · have := (rtp_at (b := 57) T (i := tks (rtp h) (h 571 12) + j - 1) (by omega) (show (0 : Int) ≤ 48 by omega)).mp (G _ (by omega) (by omega))
      omega
  refine T193_123 ⟨⟨F25_b F T, by omega, by omega⟩, ⟨fun c1 => ?_, fun c1 => ⟨by
    rw [et, e12] at c1
    have l8 := dgt_l W _ c1
    omega, ⟨by
    rw [et, e12] at c1
    have lt := ((rtp_at (b := 57) T (i := tks (rtp h) (h 571 12) + j) (by omega) (show (0 : Int) ≤ 48 by omega)).mp c1)
    rw [e12, F 579 _ (by omega)]
    omega, ⟨by omega, ?_⟩⟩⟩⟩⟩
  · rw [et, e12] at c1
    have q : tks (rtp h) (h 571 12) + j = rnn (dgt (rtp h)) (tks (rtp h) (h 571 12)) := rnn_is (dgt_l W) (by omega) ⟨by omega, G, c1⟩
    refine hK g ⟨F, ?_, by omega⟩
    unfold RTK tkv
    rw [et, tkk_2 hl hd, ifc_f (by omega), tke_2 hl hd, ← q, show tks (rtp h) (h 571 12) + j - tks (rtp h) (h 571 12) = j by omega]
    exact ⟨⟨e13, e14⟩, e12, fun _ => v⟩
  · rw [et, e12] at c1
    have l8 := dgt_l W _ c1
    have lt := ((rtp_at (b := 57) T (i := tks (rtp h) (h 571 12) + j) (by omega) (show (0 : Int) ≤ 48 by omega)).mp c1).1
    have er : g 579 (tks (rtp h) (h 571 12) + j) = rtp h (tks (rtp h) (h 571 12) + j) := by rw [F _ _ (by omega)]; exact (tpn_in (by omega) lt).symm
    rw [e12, er]
    refine ih (by omega) _ (by omega) (by omega) (fun x i a => by rw [am_up_n2 (by omega), am_up_n2 (by omega)]; exact F x i a) (by rw [am_up_n2 (by omega), am_up_n2 (by omega)]; exact e13) (by rw [am_up_n2 (by omega), am_up_n2 (by omega)]; exact e14) (by rw [am_up_eq]; omega) ?_ (fun k a b => ?_)
    · rw [am_up_n2 (by omega), am_up_eq, show (j + 1).toNat = j.toNat + 1 by omega]
      have w := VR_s v (show 48 ≤ rtp h (tks (rtp h) (h 571 12) + (j.toNat : Nat)) ∧ rtp h (tks (rtp h) (h 571 12) + (j.toNat : Nat)) ≤ 57 by rw [show ((j.toNat : Nat) : Int) = j by omega]; exact c1)
      rw [show ((j.toNat : Nat) : Int) = j by omega] at w
      exact w
    · by_cases w : k = tks (rtp h) (h 571 12) + j
      · rw [w]; exact c1
      · exact G k a (by omega)
theorem L193b {K : Option am_V → am_H → Prop} {h : am_H} (T : TPB h 579 (h 571 9)) (hp : 0 ≤ h 571 12 ∧ h 571 12 ≤ h 571 9) (hK : ∀ g, NXT h g → K none g) {g : am_H} (F : F25 h g) (e13 : g 571 13 = tks (rtp h) (h 571 12)) (e12 : g 571 12 = tks (rtp h) (h 571 12)) (e15 : g 571 15 = 0) (ne : ¬ tks (rtp h) (h 571 12) = h 571 9) (le : tks (rtp h) (h 571 12) ≤ h 571 9) : am_AT 3 193 67 [some (mR 1 12 0 571)] g K := by
  have W : TPW (rtp h) := TPW_b T
  have s0 := tks_ge W hp.1
  have t := T.1
  have et := F25_t F
  have e9 : g 571 9 = h 571 9 := F _ _ (by omega)
  have pb : ∀ a : Int, 0 ≤ a → TPB g 579 (g 571 9) ∧ (0 ≤ g 571 12 ∧ g 571 12 ≤ g 571 9) ∧ 0 ≤ a := fun a z => ⟨F25_b F T, by omega, z⟩
  have tr := tpn_r T (tks (rtp h) (h 571 12))
  have nm : ¬ rtp h (tks (rtp h) (h 571 12)) = -1 := fun z => by have := tr.2.2.mp z; omega
  refine T193_67 ⟨pb _ (by omega), ⟨fun c1 => ⟨pb _ (by omega), ⟨fun c2 => ⟨pb _ (by omega), ⟨fun c3 => ⟨by omega, ?_⟩, fun c3 => ⟨by omega, ?_⟩⟩⟩, fun c2 => ?_⟩⟩, fun c1 => ?_⟩⟩
  · rw [et, e12] at c1 c2 c3
    have k := tkk_4 c1 c2 (fun z => c3 (by omega)) nm
    refine hK _ ⟨fun x i a => by rw [am_up_n2 (by omega), am_up_n2 (by omega)]; exact F x i a, ?_, ?_⟩
    · have F' : F25 h (am_up (am_up g 571 14 4) 571 12 (g 571 12 + 1)) := fun x i a => by rw [am_up_n2 (by omega), am_up_n2 (by omega)]; exact F x i a
      unfold RTK
      rw [F25_t F', k, ifc_f (by omega), tke_3 c1 c2, am_up_eq, am_up_n2 (by omega), am_up_n2 (by omega), am_up_n2 (by omega), am_up_eq]
      exact ⟨⟨e13, rfl⟩, by omega, fun z => by omega⟩
    · rw [am_up_eq, am_up_n2 (by omega), am_up_n2 (by omega)]; omega
  · rw [et, e12] at c1 c2 c3
    have k := tkk_3 c1 c2 (by omega)
    refine hK _ ⟨fun x i a => by rw [am_up_n2 (by omega), am_up_n2 (by omega)]; exact F x i a, ?_, ?_⟩
    · have F' : F25 h (am_up (am_up g 571 14 3) 571 12 (g 571 12 + 1)) := fun x i a => by rw [am_up_n2 (by omega), am_up_n2 (by omega)]; exact F x i a
      unfold RTK
      rw [F25_t F', k, ifc_f (by omega), tke_3 c1 c2, am_up_eq, am_up_n2 (by omega), am_up_n2 (by omega), am_up_n2 (by omega), am_up_eq]
      exact ⟨⟨e13, rfl⟩, by omega, fun z => by omega⟩
    · rw [am_up_eq, am_up_n2 (by omega), am_up_n2 (by omega)]; omega
  · rw [et, e12] at c1 c2
    refine L193n T hp hK c1 c2 0 _ (by omega) (by omega) (fun x i a => by rw [am_up_n2 (by omega)]; exact F x i a) (by rw [am_up_n2 (by omega)]; exact e13) am_up_eq (by rw [am_up_n2 (by omega)]; omega) ?_ (fun k a b => by omega)
    rw [am_up_n2 (by omega), e15]
    exact ⟨Or.inl rfl, by omega⟩
  · rw [et, e12] at c1
    exact L193w T hp hK c1 0 _ (by omega) (by omega) (fun x i a => by rw [am_up_n2 (by omega)]; exact F x i a) (by rw [am_up_n2 (by omega)]; exact e13) am_up_eq (by rw [am_up_n2 (by omega)]; omega) (fun k a b => by omega)
theorem L193a {K : Option am_V → am_H → Prop} {h : am_H} (T : TPB h 579 (h 571 9)) (hp : 0 ≤ h 571 12 ∧ h 571 12 ≤ h 571 9) (hK : ∀ g, NXT h g → K none g) : ∀ j, ∀ g : am_H, 0 ≤ j → j ≤ 800 → F25 h g → g 571 12 = h 571 12 + j → h 571 12 + j ≤ h 571 9 → (∀ k, h 571 12 ≤ k → k < h 571 12 + j → blk (rtp h) k) → am_AT 3 193 0 [some (mR 1 12 0 571)] g K := by
  have W : TPW (rtp h) := TPW_b T
  have t := T.1
  refine lp 800 (fun j ih g j0 j1 F e12 inl G => ?_)
  have et := F25_t F
  have e9 : g 571 9 = h 571 9 := F _ _ (by omega)
  have nx : blk (rtp h) (h 571 12 + j) → am_AT 3 193 0 [some (mR 1 12 0 571)] (am_up g 571 12 (g 571 12 + 1)) K := fun z => by
    have l8 := blk_l W _ z
    have lt : h 571 12 + j < h 571 9 := Classical.byContradiction fun w => by
      have e : rtp h (h 571 12 + j) = -1 := tpn_out (by omega)
      unfold blk at z
      omega
    exact ih (by omega) _ (by omega) (by omega) (fun x i a => by rw [am_up_n2 (by omega)]; exact F x i a) (by rw [am_up_eq]; omega) (by omega) (fun k a b => by
      by_cases w : k = h 571 12 + j
      · rw [w]; exact z
      · exact G k a (by omega))
  have fin : ¬ blk (rtp h) (h 571 12 + j) → am_AT 3 193 35 [some (mR 1 12 0 571)] g K := fun z => by
    have q : h 571 12 + j = tks (rtp h) (h 571 12) := rnn_is (blk_l W) hp.1 ⟨by omega, G, z⟩
    refine T193_35 ⟨fun c1 => ?_, fun c1 => ?_⟩
    · rw [e12, e9] at c1
      exact L193b T hp hK (fun x i a => by rw [am_up_n2 (by omega), am_up_n2 (by omega)]; exact F x i a) (by rw [am_up_n2 (by omega), am_up_eq, e12, q]) (by rw [am_up_n2 (by omega), am_up_n2 (by omega), e12, q]) am_up_eq (by rw [← q]; exact c1) (by omega)
    · rw [e12, e9] at c1
      have e : rtp h (tks (rtp h) (h 571 12)) = -1 := tpn_out (by omega)
      have n1 : ¬ ltr (rtp h) (tks (rtp h) (h 571 12)) := fun w => by unfold ltr at w; omega
      have n2 : ¬ dgt (rtp h) (tks (rtp h) (h 571 12)) := fun w => by unfold dgt at w; omega
      have k := tkk_0 n1 n2 (by omega) e
      have F' : F25 h (am_up (am_up (am_up g 571 13 (g 571 12)) 571 15 0) 571 14 0) := fun x i a => by rw [am_up_n2 (by omega), am_up_n2 (by omega), am_up_n2 (by omega)]; exact F x i a
      refine hK _ ⟨F', ?_, ?_⟩
      · unfold RTK
        rw [F25_t F', k, ifc_t rfl, am_up_eq, am_up_n2 (by omega), am_up_n2 (by omega), am_up_eq, am_up_n2 (by omega), am_up_n2 (by omega), am_up_n2 (by omega)]
        exact ⟨⟨by omega, rfl⟩, by omega, fun z => by omega⟩
      · rw [am_up_n2 (by omega), am_up_n2 (by omega), am_up_eq, am_up_n2 (by omega), am_up_n2 (by omega), am_up_n2 (by omega)]; omega
  have pb : ∀ a : Int, 0 ≤ a → TPB g 579 (g 571 9) ∧ (0 ≤ g 571 12 ∧ g 571 12 ≤ g 571 9) ∧ 0 ≤ a := fun a z => ⟨F25_b F T, by omega, z⟩
  refine T193_0 ⟨pb _ (by omega), ⟨fun c1 => ⟨by omega, ?_⟩, fun c1 => ⟨pb _ (by omega), ⟨fun c2 => ?_, fun c2 => ⟨by omega, ?_⟩⟩⟩⟩⟩
  · rw [et, e12] at c1
    exact nx (Or.inl (by omega))
  · rw [et, e12] at c1 c2
    exact fin (fun z => by unfold blk at z; omega)
  · rw [et, e12] at c2
    exact nx (Or.inr (by omega))
theorem C193_ok : am_CS 3 193 C193 := W193 (fun h K hb => L193a hb.1.1 hb.1.2 hb.2 0 h (by omega) (by omega) (fun _ _ _ => rfl) (by omega) (by have := hb.1.2.2; omega) (fun k a b => by omega))
/-! 194 FactorNetsModel.faults -/
def C194 : am_K := fun as h K => am_a2 as (fun v0 v1 => am_oc 12 571 v0 (am_n v1 (fun k => (h 571 16 = 0 ∨ h 571 16 = 1) ∧ (∀ (h' : am_H), (h 571 16 = 1 → h' = h) ∧ (h 571 16 = 0 → h' = flr h k) → K (none) (h')))))
theorem W194 {d : Nat} (H : ∀ (k : Int) (h : am_H) (K : Option am_V → am_H → Prop), (h 571 16 = 0 ∨ h 571 16 = 1) ∧ (∀ (h' : am_H), (h 571 16 = 1 → h' = h) ∧ (h 571 16 = 0 → h' = flr h k) → K (none) (h')) → am_AT d 194 0 [some (mR 1 12 0 571), some (mB k)] h K) : am_CS d 194 C194 := by
  refine am_CS_of (T := tb194) (mL := 2) (rk := 0) rfl (fun as h K hC => ?_)
  obtain ⟨v0, v1, rfl, hC0⟩ := am_a2_e hC
  obtain ⟨e0, hC1⟩ := am_oc_e hC0
  subst e0
  obtain ⟨k, rfl, hC2⟩ := am_n_e hC1
  refine ⟨Nat.le_of_ble_eq_true rfl, ?_⟩
  exact H k h K hC2
theorem T194_0 {R : Option am_V → am_H → Prop} {h : am_H} {k : Int} (t : ((¬ h 571 16 = 0) → (R none h)) ∧ ((h 571 16 = 0) → (R none (am_up (am_up (am_up h 571 16 1) 571 10 k) 571 11 (h 571 13))))) : am_AT 1 194 0 [some (mR 1 12 0 571), some (mB k)] h R :=
  am_T (d := 0) (m := 194) (T := tb194) (mL := 2) (rk := 0) (cuts := []) (l := []) rfl trivial 18 (And.intro (fun c11 => (t).1 c11) (fun c11 => And.intro (Or.inr rfl) ((t).2 c11)))
theorem C194_ok : am_CS 1 194 C194 := W194 (fun k h K hb => by
  refine T194_0 ⟨fun c1 => ?_, fun c1 => ?_⟩
  · exact hb.2 h ⟨fun _ => rfl, fun z => absurd z c1⟩
  · exact hb.2 _ ⟨fun z => by omega, fun _ => rfl⟩)
/-! 195 FactorNetsModel.isWord -/
def C195 : am_K := fun as h K => am_a2 as (fun v0 v1 => am_oc 12 571 v0 (am_r 9 0 0 v1 (fun tx => (TPB h 579 (h 571 9) ∧ (0 ≤ h 571 13 ∧ h 571 13 ≤ h 571 12 ∧ h 571 12 ≤ h 571 9)) ∧ (K (some (mP (rwd h tx))) h))))
theorem W195 {d : Nat} (H : ∀ (tx : Int) (h : am_H) (K : Option am_V → am_H → Prop), (TPB h 579 (h 571 9) ∧ (0 ≤ h 571 13 ∧ h 571 13 ≤ h 571 12 ∧ h 571 12 ≤ h 571 9)) ∧ (K (some (mP (rwd h tx))) h) → am_AT d 195 0 [some (mR 1 12 0 571), some (mR 9 0 0 tx), none, none] h K) : am_CS d 195 C195 := by
  refine am_CS_of (T := tb195) (mL := 4) (rk := 4) rfl (fun as h K hC => ?_)
  obtain ⟨v0, v1, rfl, hC0⟩ := am_a2_e hC
  obtain ⟨e0, hC1⟩ := am_oc_e hC0
  subst e0
  obtain ⟨tx, rfl, hC2⟩ := am_r_e hC1
  refine ⟨Nat.le_of_ble_eq_true rfl, ?_⟩
  exact H tx h K hC2
theorem T195_0 {R : Option am_V → am_H → Prop} {h : am_H} {tx : Int} (t : ((¬ h 571 14 = 1) → (am_AT 1 195 32 [some (mR 1 12 0 571), some (mR 9 0 0 tx), some (mI 0), some (mI 0)] h R)) ∧ ((h 571 14 = 1) → ((R32 ((h 571 12) - (h 571 13))) ∧ (((¬ (h 571 12) - (h 571 13) = am_sl tx) → (am_AT 1 195 32 [some (mR 1 12 0 571), some (mR 9 0 0 tx), some (mI 0), some (mI 0)] h R)) ∧ (((h 571 12) - (h 571 13) = am_sl tx) → (am_AT 1 195 32 [some (mR 1 12 0 571), some (mR 9 0 0 tx), some (mI 1), some (mI 0)] h R)))))) : am_AT 1 195 0 [some (mR 1 12 0 571), some (mR 9 0 0 tx), none, none] h R :=
  am_T (d := 0) (m := 195) (T := tb195) (mL := 4) (rk := 4) (cuts := [(32, [1, 1, 2, 2])]) (l := []) rfl trivial 21 (And.intro (fun c12 => (t).1 c12) (fun c12 => And.intro ((t).2 c12).1 (And.intro (fun c13 => (((t).2 c12).2).1 c13) (fun c13 => (((t).2 c12).2).2 c13))))
theorem T195_32 {R : Option am_V → am_H → Prop} {h : am_H} {tx : Int} {x2 : Int} {x3 : Int} (t : (R32 x3) ∧ (((am_sl tx ≤ x3) → ((x2 = 0 ∨ x2 = 1) ∧ (R (some (mP (x2 = 1))) h))) ∧ ((x3 < am_sl tx) → ((R32 x2) ∧ (((x2 = 0) → ((x2 = 0 ∨ x2 = 1) ∧ (R (some (mP (x2 = 1))) h))) ∧ ((¬ x2 = 0) → ((0 ≤ (h 571 13) + x3 ∧ (h 571 13) + x3 < 800) ∧ ((0 ≤ x3 ∧ x3 < am_sl tx) ∧ (((¬ h 579 ((h 571 13) + x3) = am_sc tx x3) → (am_AT 1 195 32 [some (mR 1 12 0 571), some (mR 9 0 0 tx), some (mI 0), some (mI (x3 + 1))] h R)) ∧ ((h 579 ((h 571 13) + x3) = am_sc tx x3) → (am_AT 1 195 32 [some (mR 1 12 0 571), some (mR 9 0 0 tx), some (mI 1), some (mI (x3 + 1))] h R))))))))))) : am_AT 1 195 32 [some (mR 1 12 0 571), some (mR 9 0 0 tx), some (mI x2), some (mI x3)] h R :=
  am_T (d := 0) (m := 195) (T := tb195) (mL := 4) (rk := 4) (cuts := [(32, [1, 1, 2, 2])]) (l := []) rfl trivial 26 (And.intro (t).1 (And.intro (fun c14 => And.intro (((t).2).1 c14).1 ((((t).2).1 c14).2)) (fun c14 => And.intro (((t).2).2 c14).1 (And.intro (fun c15 => And.intro (((((t).2).2 c14).2).1 c15).1 ((((((t).2).2 c14).2).1 c15).2)) (fun c15 => And.intro (((((t).2).2 c14).2).2 c15).1 (And.intro ((((((t).2).2 c14).2).2 c15).2).1 (And.intro (fun c16 => (((((((t).2).2 c14).2).2 c15).2).2).1 c16) (fun c16 => (((((((t).2).2 c14).2).2 c15).2).2).2 c16))))))))
theorem L195 {K : Option am_V → am_H → Prop} {h : am_H} {tx : Int} (T : TPB h 579 (h 571 9)) (hp : 0 ≤ h 571 13 ∧ h 571 13 ≤ h 571 12 ∧ h 571 12 ≤ h 571 9) (hK : K (some (mP (rwd h tx))) h) : ∀ j, ∀ x : Int, 0 ≤ j → j ≤ am_sl tx → ((x = 1 ∧ h 571 14 = 1 ∧ h 571 12 - h 571 13 = am_sl tx ∧ ∀ j9, 0 ≤ j9 → j9 < j → rtp h (h 571 13 + j9) = am_sc tx j9) ∨ (x = 0 ∧ ¬ rwd h tx)) → am_AT 1 195 32 [some (mR 1 12 0 571), some (mR 9 0 0 tx), some (mI x), some (mI j)] h K := by
  have t := T.1
  have sr := am_sl_r tx
  refine lp (am_sl tx) (fun j ih x j0 j1 hx => ?_)
  have h01 : x = 0 ∨ x = 1 := hx.elim (fun z => Or.inr z.1) (fun z => Or.inl z.1)
  have er : h 571 12 - h 571 13 = am_sl tx → j < am_sl tx → rtp h (h 571 13 + j) = h 579 (h 571 13 + j) := fun a b => tpn_in (by omega) (by omega)
  have g1 : x ≠ 0 → h 571 12 - h 571 13 = am_sl tx := fun z => hx.elim (fun y => y.2.2.1) (fun y => absurd y.1 z)
  refine T195_32 ⟨by omega, ⟨fun c1 => ⟨by omega, ?_⟩, fun c1 => ⟨by omega, ⟨fun c2 => ⟨by omega, ?_⟩, fun c2 => ⟨by have := g1 c2; omega, ⟨by omega, ⟨fun c3 => ?_, fun c3 => ?_⟩⟩⟩⟩⟩⟩⟩
  · exact am_rb hK ⟨fun z => hx.elim (fun y => y.1) (fun y => absurd z y.2), fun z => hx.elim (fun y => ⟨y.2.1, y.2.2.1, fun j9 a b => y.2.2.2 j9 a (by omega)⟩) (fun y => by omega)⟩
  · exact am_rb hK ⟨fun z => hx.elim (fun y => y.1) (fun y => absurd z y.2), fun z => by omega⟩
  · refine ih c1 0 (by omega) (by omega) (Or.inr ⟨rfl, fun z => ?_⟩)
    exact c3 ((er (g1 c2) c1).symm.trans (z.2.2 j j0 c1))
  · rcases hx with y | y
    · refine ih c1 1 (by omega) (by omega) (Or.inl ⟨rfl, y.2.1, y.2.2.1, fun j9 a b => ?_⟩)
      by_cases w : j9 = j
      · rw [w, er y.2.2.1 c1]; exact c3
      · exact y.2.2.2 j9 a (by omega)
    · omega
theorem C195_ok : am_CS 1 195 C195 := W195 (fun tx h K hb => by
  have ht : 0 ≤ am_sl tx := by unfold am_sl; omega
  have t := hb.1.1.1
  refine T195_0 ⟨fun c1 => ?_, fun c1 => ⟨by have := hb.1.2; omega, ⟨fun c2 => ?_, fun c2 => ?_⟩⟩⟩
  · exact L195 hb.1.1 hb.1.2 hb.2 0 0 (by omega) ht (Or.inr ⟨rfl, fun z => c1 z.1⟩)
  · exact L195 hb.1.1 hb.1.2 hb.2 0 0 (by omega) ht (Or.inr ⟨rfl, fun z => c2 z.2.1⟩)
  · exact L195 hb.1.1 hb.1.2 hb.2 0 1 (by omega) ht (Or.inl ⟨rfl, c1, c2, fun j9 a b => by omega⟩))
/-! 196 FactorNetsModel.passes -/
def C196 : am_K := fun as h K => am_a2 as (fun v0 v1 => am_oc 12 571 v0 (am_bo v1 (fun ok => ((h 571 16 = 0 ∨ h 571 16 = 1) ∧ (h 571 16 = 0 → ok → TPB h 579 (h 571 9) ∧ (0 ≤ h 571 12 ∧ h 571 12 ≤ h 571 9))) ∧ (∀ (h' : am_H), (h 571 16 = 1 → h' = h) ∧ (h 571 16 = 0 → (ok → NXT h h') ∧ (¬ ok → h' = flr h 1)) → K (none) (h')))))
theorem W196 {d : Nat} (H : ∀ (ok : Prop) (h : am_H) (K : Option am_V → am_H → Prop), ((h 571 16 = 0 ∨ h 571 16 = 1) ∧ (h 571 16 = 0 → ok → TPB h 579 (h 571 9) ∧ (0 ≤ h 571 12 ∧ h 571 12 ≤ h 571 9))) ∧ (∀ (h' : am_H), (h 571 16 = 1 → h' = h) ∧ (h 571 16 = 0 → (ok → NXT h h') ∧ (¬ ok → h' = flr h 1)) → K (none) (h')) → am_AT d 196 0 [some (mR 1 12 0 571), some (mP (ok))] h K) : am_CS d 196 C196 := by
  refine am_CS_of (T := tb196) (mL := 2) (rk := 0) rfl (fun as h K hC => ?_)
  obtain ⟨v0, v1, rfl, hC0⟩ := am_a2_e hC
  obtain ⟨e0, hC1⟩ := am_oc_e hC0
  subst e0
  obtain ⟨ok, hb1, hC2⟩ := am_bo_e hC1
  refine ⟨by simp only [am_cats, hb1.2]; exact Nat.le_of_ble_eq_true rfl, ?_⟩
  refine am_AT_sub ?_ (H ok h K hC2)
  exact am_sb_c am_se (am_sb_a hb1 (am_sb_r _))
theorem T196_0 {R : Option am_V → am_H → Prop} {h : am_H} {ok : Prop} (t : ((ok) → (((¬ h 571 16 = 0) → (R none h)) ∧ ((h 571 16 = 0) → ((TPB h 579 (h 571 9) ∧ (0 ≤ h 571 12 ∧ h 571 12 ≤ h 571 9)) ∧ (∀ (h' : am_H), (NXT h h') → (R none h')))))) ∧ ((¬ (ok)) → ((h 571 16 = 0 ∨ h 571 16 = 1) ∧ (∀ (h' : am_H), ((h 571 16 = 1 → h' = h) ∧ (h 571 16 = 0 → h' = flr h (1 : Int))) → (((¬ h' 571 16 = 0) → (R none h')) ∧ ((h' 571 16 = 0) → ((TPB h' 579 (h' 571 9) ∧ (0 ≤ h' 571 12 ∧ h' 571 12 ≤ h' 571 9)) ∧ (∀ (h'_1 : am_H), (NXT h' h'_1) → (R none h'_1))))))))) : am_AT 4 196 0 [some (mR 1 12 0 571), some (mP (ok))] h R :=
  am_T (d := 3) (m := 196) (T := tb196) (mL := 2) (rk := 0) (cuts := []) (l := [(193, C193), (194, C194)]) rfl ⟨am_CS_d (by decide) C193_ok, am_CS_d (by decide) C194_ok, trivial⟩ 15 (And.intro (fun c17 => And.intro (fun c18 => ((t).1 c17).1 c18) (fun c18 => And.intro (rfl) (And.intro (((t).1 c17).2 c18).1 (fun z1_0 z1_1 => ((((t).1 c17).2 c18).2) z1_0 z1_1)))) (fun c17 => And.intro (rfl) (And.intro ((t).2 c17).1 (fun z2_0 z2_1 => And.intro (fun c19 => ((((t).2 c17).2) z2_0 z2_1).1 c19) (fun c19 => And.intro (rfl) (And.intro (((((t).2 c17).2) z2_0 z2_1).2 c19).1 (fun z3_0 z3_1 => ((((((t).2 c17).2) z2_0 z2_1).2 c19).2) z3_0 z3_1)))))))
theorem flr_f (h : am_H) (k : Int) : flr h k 571 16 = 1 ∧ flr h k 571 10 = k ∧ flr h k 571 11 = h 571 13 ∧ ∀ x i, ¬ (x = 571 ∧ (i = 10 ∨ i = 11 ∨ i = 16)) → flr h k x i = h x i := by
  unfold flr
  exact ⟨by rw [am_up_n2 (by omega), am_up_n2 (by omega), am_up_eq], by rw [am_up_n2 (by omega), am_up_eq], am_up_eq, fun x i a => by rw [am_up_n2 (by omega), am_up_n2 (by omega), am_up_n2 (by omega)]⟩
theorem C196_ok : am_CS 4 196 C196 := W196 (fun ok h K hb => by
  refine T196_0 ⟨fun c1 => ⟨fun c2 => ?_, fun c2 => ⟨hb.1.2 c2 c1, fun h' q3 => ?_⟩⟩, fun c1 => ⟨hb.1.1, fun h' q2 => ⟨fun c3 => ?_, fun c3 => ⟨by
    exfalso
    rcases hb.1.1 with z | z
    · have e := q2.2 z
      rw [e, (flr_f h 1).1] at c3
      omega
    · have e := q2.1 z
      rw [e] at c3
      omega, fun h'_1 q4 => ?_⟩⟩⟩⟩
  · exact hb.2 h ⟨fun _ => rfl, fun z => absurd z c2⟩
  · exact hb.2 h' ⟨fun z => by omega, fun _ => ⟨fun _ => q3, fun z => absurd c1 z⟩⟩
  · rcases hb.1.1 with z | z
    · have e := q2.2 z
      exact hb.2 h' ⟨fun w => by omega, fun _ => ⟨fun w => absurd w c1, fun _ => e⟩⟩
    · have e := q2.1 z
      exact hb.2 h' ⟨fun _ => e, fun w => by omega⟩
  · exfalso
    rcases hb.1.1 with z | z
    · have e := q2.2 z
      rw [e, (flr_f h 1).1] at c3
      omega
    · have e := q2.1 z
      rw [e] at c3
      omega)
/-! 197 FactorNetsModel.reads -/
def C197 : am_K := fun as h K => am_a3 as (fun v0 v1 v2 => am_oc 12 571 v0 (am_n v1 (fun a => am_n v2 (fun b => ((h 571 16 = 0 ∨ h 571 16 = 1) ∧ (h 571 16 = 0 → TPB h 579 (h 571 9) ∧ (0 ≤ h 571 12 ∧ h 571 12 ≤ h 571 9))) ∧ (∀ (h' : am_H), (h 571 16 = 1 → h' = h) ∧ (h 571 16 = 0 → ((ifc (h 571 14 = 2) (ifc (a ≤ h 571 15 ∧ h 571 15 ≤ b) 0 2) 1) = 0 → NXT h h') ∧ (¬ (ifc (h 571 14 = 2) (ifc (a ≤ h 571 15 ∧ h 571 15 ≤ b) 0 2) 1) = 0 → h' = flr h (ifc (h 571 14 = 2) (ifc (a ≤ h 571 15 ∧ h 571 15 ≤ b) 0 2) 1))) → K (some (mB (ifc (h 571 16 = 1) a (h 571 15)))) (h'))))))
theorem W197 {d : Nat} (H : ∀ (a : Int) (b : Int) (h : am_H) (K : Option am_V → am_H → Prop), ((h 571 16 = 0 ∨ h 571 16 = 1) ∧ (h 571 16 = 0 → TPB h 579 (h 571 9) ∧ (0 ≤ h 571 12 ∧ h 571 12 ≤ h 571 9))) ∧ (∀ (h' : am_H), (h 571 16 = 1 → h' = h) ∧ (h 571 16 = 0 → ((ifc (h 571 14 = 2) (ifc (a ≤ h 571 15 ∧ h 571 15 ≤ b) 0 2) 1) = 0 → NXT h h') ∧ (¬ (ifc (h 571 14 = 2) (ifc (a ≤ h 571 15 ∧ h 571 15 ≤ b) 0 2) 1) = 0 → h' = flr h (ifc (h 571 14 = 2) (ifc (a ≤ h 571 15 ∧ h 571 15 ≤ b) 0 2) 1))) → K (some (mB (ifc (h 571 16 = 1) a (h 571 15)))) (h')) → am_AT d 197 0 [some (mR 1 12 0 571), some (mB a), some (mB b), none] h K) : am_CS d 197 C197 := by
  refine am_CS_of (T := tb197) (mL := 4) (rk := 1) rfl (fun as h K hC => ?_)
  obtain ⟨v0, v1, v2, rfl, hC0⟩ := am_a3_e hC
  obtain ⟨e0, hC1⟩ := am_oc_e hC0
  subst e0
  obtain ⟨a, rfl, hC2⟩ := am_n_e hC1
  obtain ⟨b, rfl, hC3⟩ := am_n_e hC2
  refine ⟨Nat.le_of_ble_eq_true rfl, ?_⟩
  exact H a b h K hC3
theorem T197_0 {R : Option am_V → am_H → Prop} {h : am_H} {a : Int} {b : Int} (t : ((h 571 16 = 0) → (((h 571 14 = 2) → (((a ≤ (h 571 15) ∧ (h 571 15) ≤ b) → (((h 571 16 = 0 ∨ h 571 16 = 1) ∧ (h 571 16 = 0 → ((1 : Int) = 1) → TPB h 579 (h 571 9) ∧ (0 ≤ h 571 12 ∧ h 571 12 ≤ h 571 9))) ∧ (∀ (h' : am_H), ((h 571 16 = 1 → h' = h) ∧ (h 571 16 = 0 → (((1 : Int) = 1) → NXT h h') ∧ (¬ ((1 : Int) = 1) → h' = flr h 1))) → (R (some (mB (h 571 15))) h')))) ∧ ((¬ (a ≤ (h 571 15) ∧ (h 571 15) ≤ b)) → ((h 571 16 = 0 ∨ h 571 16 = 1) ∧ (∀ (h' : am_H), ((h 571 16 = 1 → h' = h) ∧ (h 571 16 = 0 → h' = flr h (2 : Int))) → (((h' 571 16 = 0 ∨ h' 571 16 = 1) ∧ (h' 571 16 = 0 → ((1 : Int) = 1) → TPB h' 579 (h' 571 9) ∧ (0 ≤ h' 571 12 ∧ h' 571 12 ≤ h' 571 9))) ∧ (∀ (h'_1 : am_H), ((h' 571 16 = 1 → h'_1 = h') ∧ (h' 571 16 = 0 → (((1 : Int) = 1) → NXT h' h'_1) ∧ (¬ ((1 : Int) = 1) → h'_1 = flr h' 1))) → (R (some (mB (h 571 15))) h'_1)))))))) ∧ ((¬ h 571 14 = 2) → ((h 571 16 = 0 ∨ h 571 16 = 1) ∧ (∀ (h' : am_H), ((h 571 16 = 1 → h' = h) ∧ (h 571 16 = 0 → h' = flr h (1 : Int))) → (((h' 571 16 = 0 ∨ h' 571 16 = 1) ∧ (h' 571 16 = 0 → ((1 : Int) = 1) → TPB h' 579 (h' 571 9) ∧ (0 ≤ h' 571 12 ∧ h' 571 12 ≤ h' 571 9))) ∧ (∀ (h'_1 : am_H), ((h' 571 16 = 1 → h'_1 = h') ∧ (h' 571 16 = 0 → (((1 : Int) = 1) → NXT h' h'_1) ∧ (¬ ((1 : Int) = 1) → h'_1 = flr h' 1))) → (R (some (mB (h 571 15))) h'_1)))))))) ∧ ((¬ h 571 16 = 0) → (R (some (mB a)) h))) : am_AT 5 197 0 [some (mR 1 12 0 571), some (mB a), some (mB b), none] h R :=
  am_T (d := 4) (m := 197) (T := tb197) (mL := 4) (rk := 1) (cuts := []) (l := [(187, C187), (194, C194), (196, C196)]) rfl ⟨am_CS_d (by decide) C187_ok, am_CS_d (by decide) C194_ok, am_CS_d (by decide) C196_ok, trivial⟩ 30 (And.intro (fun c20 => And.intro (fun c21 => And.intro (fun c22 => And.intro (rfl) (And.intro (Or.inr rfl) (And.intro ((((t).1 c20).1 c21).1 c22).1 (fun z4_0 z4_1 => (((((t).1 c20).1 c21).1 c22).2) z4_0 z4_1)))) (fun c22 => And.intro (rfl) (And.intro ((((t).1 c20).1 c21).2 c22).1 (fun z5_0 z5_1 => And.intro (rfl) (And.intro (Or.inr rfl) (And.intro ((((((t).1 c20).1 c21).2 c22).2) z5_0 z5_1).1 (fun z6_0 z6_1 => (((((((t).1 c20).1 c21).2 c22).2) z5_0 z5_1).2) z6_0 z6_1))))))) (fun c21 => And.intro (rfl) (And.intro (((t).1 c20).2 c21).1 (fun z7_0 z7_1 => And.intro (rfl) (And.intro (Or.inr rfl) (And.intro (((((t).1 c20).2 c21).2) z7_0 z7_1).1 (fun z8_0 z8_1 => ((((((t).1 c20).2 c21).2) z7_0 z7_1).2) z8_0 z8_1))))))) (fun c20 => (t).2 c20))
theorem C197_ok : am_CS 5 197 C197 := W197 (fun a b h K hb => by
  obtain ⟨⟨h01, hp⟩, hK⟩ := hb
  refine T197_0 ⟨fun c1 => ⟨fun c2 => ⟨fun c3 => ⟨⟨h01, fun z _ => hp z⟩, fun h' q4 => ?_⟩, fun c3 => ⟨by omega, fun h' q4 => ⟨by
    have e1 := q4.2 c1
    have e3 := (flr_f h 2).1
    rw [← e1] at e3
    exact ⟨Or.inr e3, fun z => by omega⟩, fun h'_1 q5 => ?_⟩⟩⟩, fun c2 => ⟨by omega, fun h' q3 => ⟨by
    have e1 := q3.2 c1
    have e3 := (flr_f h 1).1
    rw [← e1] at e3
    exact ⟨Or.inr e3, fun z => by omega⟩, fun h'_1 q4 => ?_⟩⟩⟩, fun c1 => ?_⟩
  · have e : (ifc (h 571 14 = 2) (ifc (a ≤ h 571 15 ∧ h 571 15 ≤ b) 0 2) 1) = 0 := by rw [ifc_t c2, ifc_t c3]
    exact am_rB (hK h' ⟨fun z => by omega, fun _ => ⟨fun _ => (q4.2 c1).1 rfl, fun z => absurd e z⟩⟩) (ifc_f (by omega))
  · have e : (ifc (h 571 14 = 2) (ifc (a ≤ h 571 15 ∧ h 571 15 ≤ b) 0 2) 1) = 2 := by rw [ifc_t c2, ifc_f c3]
    have e1 := q4.2 c1
    have e2 := q5.1 (by rw [e1]; exact (flr_f h 2).1)
    exact am_rB (hK h'_1 ⟨fun z => by omega, fun _ => ⟨fun z => by omega, fun _ => by rw [e, e2, e1]⟩⟩) (ifc_f (by omega))
  · have e : (ifc (h 571 14 = 2) (ifc (a ≤ h 571 15 ∧ h 571 15 ≤ b) 0 2) 1) = 1 := by rw [ifc_f c2]
    have e1 := q3.2 c1
    have e2 := q4.1 (by rw [e1]; exact (flr_f h 1).1)
    exact am_rB (hK h'_1 ⟨fun z => by omega, fun _ => ⟨fun z => by omega, fun _ => by rw [e, e2, e1]⟩⟩) (ifc_f (by omega))
  · exact am_rB (hK h ⟨fun _ => rfl, fun z => absurd z c1⟩) (ifc_t (by omega)))
