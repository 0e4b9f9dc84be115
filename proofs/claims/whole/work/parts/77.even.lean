/-! ===== two colours ===== -/
section EVEN
variable {n : Int} {r : Int → Int}
theorem ev_1 (hN : NT n r) (H : COL (fun y => 0 ≤ y ∧ y < n) (ad r) 2) : ∃ g : Int → Int, (∀ p, (0 ≤ p ∧ p < n) → g p = 0 ∨ g p = 1) ∧ (∀ p q, ad r p q → g p ≠ g q) := by
  obtain ⟨g, -, h2, h3⟩ := H
  refine ⟨g, fun p hp => by have := h2 p hp hp; omega, fun p q e => ?_⟩
  have i := NT_in hN e
  exact h3 p q i.1 i.2 e i.1
theorem ev_2 (hN : NT n r) {g : Int → Int} (h1 : ∀ p, (0 ≤ p ∧ p < n) → g p = 0 ∨ g p = 1) (h2 : ∀ p q, ad r p q → g p ≠ g q) {a : Int} (ha : 0 ≤ a ∧ a < n) : ∀ (d : Nat) (p : Int), wk (ad r) d a p → (g p + g a + d) % 2 = 0
  | 0, p, h => by
    have e : a = p := h
    rw [← e]
    omega
  | d + 1, p, ⟨c, hc, e⟩ => by
    have ih := ev_2 hN h1 h2 ha d c hc
    have i := NT_in hN e
    have k1 := h1 c i.1
    have k2 := h1 p i.2
    have k3 := h2 c p e
    omega
theorem ev_iff (hN : NT n r) (hC : CN n r) (h0 : 0 < n) : COL (fun y => 0 ≤ y ∧ y < n) (ad r) 2 ↔ ∀ p, 0 ≤ p → p < n → iAnd (r p) (shl r 0 (ds (ad r) 0 p)) = 0 := by
  have z0 : (0 : Int) ≤ 0 ∧ (0 : Int) < n := ⟨by omega, h0⟩
  have ze : ∀ p, 0 ≤ p → p < n → (iAnd (r p) (shl r 0 (ds (ad r) 0 p)) = 0 ↔ ∀ q, ad r p q → ds (ad r) 0 q ≠ ds (ad r) 0 p) := fun p a b => by
    have s : S20 (iAnd (r p) (shl r 0 (ds (ad r) 0 p))) := S20_of (rg_and _ _) (fun j hj => (S20_in S20_shl (bt_and.mp hj).2).2)
    rw [S20_z s]
    have dp := ds_r hN hC z0 ⟨a, b⟩
    constructor
    · intro w q e u
      exact w q (bt_and.mpr ⟨e, (shl_d hN hC z0 (NT_in hN e).2 dp.1).mpr u⟩)
    · intro w q e
      rw [bt_and] at e
      have e1 : ad r p q := e.1
      exact w q e1 ((shl_d hN hC z0 (NT_in hN e1).2 dp.1).mp e.2)
  constructor
  · intro H p a b
    rw [ze p a b]
    intro q e u
    obtain ⟨g, h1, h2⟩ := ev_1 hN H
    have i := NT_in hN e
    have k1 := ev_2 hN h1 h2 z0 _ _ (ds_wk2 (CN_rc hN hC z0 i.1))
    have k2 := ev_2 hN h1 h2 z0 _ _ (ds_wk2 (CN_rc hN hC z0 i.2))
    rw [u] at k2
    have k3 := h1 p i.1
    have k4 := h1 q i.2
    have k5 := h2 p q e
    omega
  · intro w
    refine ⟨fun p => ds (ad r) 0 p % 2, fun p s z => absurd s z, fun p s _ => by show 0 ≤ ds (ad r) 0 p % 2 ∧ ds (ad r) 0 p % 2 < 2; omega, fun p q s t e _ => ?_⟩
    show ds (ad r) 0 p % 2 ≠ ds (ad r) 0 q % 2
    have k := (ze p s.1 s.2).mp (w p s.1 s.2) q e
    have k1 := ds_adj hN hC e z0
    have k2 := ds_adj hN hC (NT_sym hN _ _ e) z0
    rw [ds_comm (NT_sym hN) (a := p) (b := 0), ds_comm (NT_sym hN) (a := q) (b := 0)] at k1 k2
    omega
end EVEN
theorem chs_2 {S : Int → Prop} {E : Int → Int → Prop} (hI : ∀ p q, E p q → p ≠ q) (h : ∀ p, S p → 0 ≤ p ∧ p < 20) : chs S E ≤ 2 ↔ COL S E 2 := by
  have ex := fnd_ex (P := fun k => COL S E (k + 1)) 20 ⟨19, by omega, COL_n hI (fun p s => by have := h p s; omega)⟩
  unfold chs
  constructor
  · intro w
    exact COL_mn (by omega) ex.2.1
  · intro w
    have : ¬ 1 < fnd (fun k => COL S E (k + 1)) 20 := fun u => ex.2.2 1 (by omega) u w
    omega
/-! 166 FactorNets.isEven -/
def C166 : am_K := fun as h K => am_a1 as (fun v0 => am_oc 11 0 v0 ((SV h 5 ∧ 0 < (h 6 0)) ∧ (∀ (h' : am_H), SQ h h' 5 ∧ h' 5 4 = 1 → K (some (mP (COL (fun y9 => 0 ≤ y9 ∧ y9 < (h 6 0)) (ad (nr h 7 0)) 2))) (h'))))
theorem W166 {d : Nat} (H : ∀  (h : am_H) (K : Option am_V → am_H → Prop), (SV h 5 ∧ 0 < (h 6 0)) ∧ (∀ (h' : am_H), SQ h h' 5 ∧ h' 5 4 = 1 → K (some (mP (COL (fun y9 => 0 ≤ y9 ∧ y9 < (h 6 0)) (ad (nr h 7 0)) 2))) (h')) → am_AT d 166 0 [some (mR 1 11 0 0), none, none] h K) : am_CS d 166 C166 := by
  refine am_CS_of (T := tb166) (mL := 3) (rk := 4) rfl (fun as h K hC => ?_)
  obtain ⟨v0, rfl, hC0⟩ := am_a1_e hC
  obtain ⟨e0, hC1⟩ := am_oc_e hC0
  subst e0
  refine ⟨Nat.le_of_ble_eq_true rfl, ?_⟩
  exact H  h K hC1
theorem T166_0 {R : Option am_V → am_H → Prop} {h : am_H} (t : (SV h (5 : Int)) ∧ (∀ (h' : am_H), (SQ h h' (5 : Int) ∧ h' (5 : Int) 4 = 1) → (am_AT 5 166 10 [some (mR 1 11 0 0), some (mR 1 2 0 8), some (mI 0)] h' R))) : am_AT 5 166 0 [some (mR 1 11 0 0), none, none] h R :=
  am_T (d := 4) (m := 166) (T := tb166) (mL := 3) (rk := 4) (cuts := [(10, [1, 1, 2])]) (l := [(88, C88b)]) rfl ⟨am_CS_d (by decide) C88b_ok, trivial⟩ 10 (And.intro (t).1 (fun z1_0 z1_1 => ((t).2) z1_0 z1_1))
theorem T166_10 {R : Option am_V → am_H → Prop} {h : am_H} {x2 : Int} (t : (R32 x2) ∧ (((h 6 0 ≤ x2) → (R (some (mP ((1 : Int) = 1))) h)) ∧ ((x2 < h 6 0) → ((0 ≤ x2 ∧ x2 < 20) ∧ ((0 ≤ x2 ∧ x2 < 20) ∧ ((0 ≤ h 10 x2 ∧ h 10 x2 < 20) ∧ (((iAnd (h 7 x2) (h 31 (h 10 x2)) = 0) → (am_AT 5 166 10 [some (mR 1 11 0 0), some (mR 1 2 0 8), some (mI (x2 + 1))] h R)) ∧ ((¬ iAnd (h 7 x2) (h 31 (h 10 x2)) = 0) → (R (some (mP ((0 : Int) = 1))) h))))))))) : am_AT 5 166 10 [some (mR 1 11 0 0), some (mR 1 2 0 8), some (mI x2)] h R :=
  am_T (d := 4) (m := 166) (T := tb166) (mL := 3) (rk := 4) (cuts := [(10, [1, 1, 2])]) (l := [(88, C88b)]) rfl ⟨am_CS_d (by decide) C88b_ok, trivial⟩ 31 (And.intro (t).1 (And.intro (fun c1 => And.intro (Or.inr rfl) (((t).2).1 c1)) (fun c1 => And.intro (((t).2).2 c1).1 (And.intro (⟨by decide, by decide⟩) (And.intro (⟨by decide, by decide⟩) (And.intro ((((t).2).2 c1).2).1 (And.intro (((((t).2).2 c1).2).2).1 (And.intro (fun c2 => ((((((t).2).2 c1).2).2).2).1 c2) (fun c2 => And.intro (Or.inl rfl) (((((((t).2).2 c1).2).2).2).2 c2))))))))))
theorem L166 {K : Option am_V → am_H → Prop} {g : am_H} (H : SV g 5) (h0 : 0 < g 6 0) (z : g 5 4 = 1) (hK : K (some (mP (COL (fun y9 => 0 ≤ y9 ∧ y9 < (g 6 0)) (ad (nr g 7 0)) 2))) g) : ∀ i, 0 ≤ i → i ≤ g 6 0 → (∀ p, 0 ≤ p → p < i → iAnd (nr g 7 0 p) (shl (nr g 7 0) 0 (ds (ad (nr g 7 0)) 0 p)) = 0) → am_AT 5 166 10 [some (mR 1 11 0 0), some (mR 1 2 0 8), some (mI i)] g K := by
  have hN := (SV5_N H).1
  have hC := (SV5_N H).2
  have hn2 := hN.2.1
  have ev := ev_iff hN hC h0
  refine lp (g 6 0) (fun i ih i0 i1 hno => ?_)
  have ed : i < g 6 0 → g 10 i = ds (ad (nr g 7 0)) 0 i ∧ (0 ≤ ds (ad (nr g 7 0)) 0 i ∧ ds (ad (nr g 7 0)) 0 i < g 6 0) ∧ g 31 (ds (ad (nr g 7 0)) 0 i) = shl (nr g 7 0) 0 (ds (ad (nr g 7 0)) 0 i) ∧ g 7 i = nr g 7 0 i := fun a => by
    have e1 := SV5_d H z (a := 0) (p := i) (by omega) (by omega)
    have r := ds_r hN hC (a := 0) (b := i) (by omega) (by omega)
    have e2 := SV5_s H z (a := 0) (d := ds (ad (nr g 7 0)) 0 i) (by omega) (by omega)
    rw [Int.add_zero] at e1 e2
    exact ⟨e1, r, e2, (nr_in0 i0 (by omega)).symm⟩
  refine T166_10 ⟨by omega, ⟨fun c1 => ?_, fun c1 => ⟨by omega, ⟨by omega, ⟨by have := ed (by omega); omega, ⟨fun c2 => ?_, fun c2 => ?_⟩⟩⟩⟩⟩⟩
  · exact am_rb1 hK (ev.mpr (fun p a b => hno p a (by omega)))
  · have e := ed (by omega)
    rw [e.1, e.2.2.1, e.2.2.2] at c2
    refine ih (by omega) (by omega) (by omega) (fun p a b => ?_)
    by_cases w : p = i
    · rw [w]; exact c2
    · exact hno p a (by omega)
  · have e := ed (by omega)
    rw [e.1, e.2.2.1, e.2.2.2] at c2
    exact am_rb0 hK (fun w => c2 (ev.mp w i i0 (by omega)))
theorem C166_ok : am_CS 5 166 C166 := W166 (fun h K hb => by
  refine T166_0 ⟨hb.1.1, fun h' q1 => ?_⟩
  · have e := SQ5_n q1.1
    have k := hb.2 h' q1
    rw [← e.1, ← e.2] at k
    exact L166 q1.1.1 (by rw [e.2]; exact hb.1.2) q1.2 k 0 (by omega) (by have := (SV5_N q1.1.1).1.1; omega) (fun p a b => by omega))
/-! 133 FactorNets.even -/
def C133 : am_K := fun as h K => am_a1 as (fun v0 => am_oc 11 0 v0 ((SV h 5) ∧ (∀ (h' : am_H), SQ h h' 5 → K (some (mB (ifc (0 < (h 6 0)) (ifc (COL (fun y9 => 0 ≤ y9 ∧ y9 < (h 6 0)) (ad (nr h 7 0)) 2) 1 0) (-2)))) (h'))))
theorem W133 {d : Nat} (H : ∀  (h : am_H) (K : Option am_V → am_H → Prop), (SV h 5) ∧ (∀ (h' : am_H), SQ h h' 5 → K (some (mB (ifc (0 < (h 6 0)) (ifc (COL (fun y9 => 0 ≤ y9 ∧ y9 < (h 6 0)) (ad (nr h 7 0)) 2) 1 0) (-2)))) (h')) → am_AT d 133 0 [some (mR 1 11 0 0)] h K) : am_CS d 133 C133 := by
  refine am_CS_of (T := tb133) (mL := 1) (rk := 1) rfl (fun as h K hC => ?_)
  obtain ⟨v0, rfl, hC0⟩ := am_a1_e hC
  obtain ⟨e0, hC1⟩ := am_oc_e hC0
  subst e0
  refine ⟨Nat.le_of_ble_eq_true rfl, ?_⟩
  exact H  h K hC1
theorem T133_0 {R : Option am_V → am_H → Prop} {h : am_H} (t : ((¬ h 6 0 = 0) → ((SV h 5 ∧ 0 < (h 6 0)) ∧ (∀ (h' : am_H), (SQ h h' 5 ∧ h' 5 4 = 1) → (((¬ (COL (fun y9 => 0 ≤ y9 ∧ y9 < (h 6 0)) (ad (nr h 7 0)) 2)) → (R (some (mB 0)) h')) ∧ ((COL (fun y9 => 0 ≤ y9 ∧ y9 < (h 6 0)) (ad (nr h 7 0)) 2) → (R (some (mB 1)) h')))))) ∧ ((h 6 0 = 0) → (R (some (mB (-2))) h))) : am_AT 6 133 0 [some (mR 1 11 0 0)] h R :=
  am_T (d := 5) (m := 133) (T := tb133) (mL := 1) (rk := 1) (cuts := []) (l := [(166, C166)]) rfl ⟨am_CS_d (by decide) C166_ok, trivial⟩ 15 (And.intro (fun c3 => And.intro (rfl) (And.intro ((t).1 c3).1 (fun z2_0 z2_1 => And.intro (fun c4 => ((((t).1 c3).2) z2_0 z2_1).1 c4) (fun c4 => ((((t).1 c3).2) z2_0 z2_1).2 c4)))) (fun c3 => (t).2 c3))
theorem C133_ok : am_CS 6 133 C133 := W133 (fun h K hb => by
  have hn1 := (SV5_N hb.1).1.1
  refine T133_0 ⟨fun c1 => ⟨⟨hb.1, by omega⟩, fun h' q2 => ⟨fun c3 => ?_, fun c3 => ?_⟩⟩, fun c1 => ?_⟩
  · exact am_rB (hb.2 h' q2.1) (by rw [ifc_t (by omega), ifc_f c3])
  · exact am_rB (hb.2 h' q2.1) (by rw [ifc_t (by omega), ifc_t c3])
  · exact am_rB (hb.2 h (SQ_rf hb.1)) (ifc_f (by omega)))
/-! 138 FactorNets.cubic -/
def C138 : am_K := fun as h K => am_a1 as (fun v0 => am_oc 11 0 v0 ((SV h 5) ∧ (∀ (h' : am_H), SQa (fun x9 => 472 ≤ x9 ∧ x9 ≤ 475) h h' → K (some (mB (ifc (0 < (h 6 0)) (ifc ((COL (fun y9 => 0 ≤ y9 ∧ y9 < (h 6 0)) (ad (nr h 7 0)) 2) ∧ ∀ s9, 0 ≤ s9 → s9 < ncl (sdE (nr h 7 0)) (nl (nr h 7 0)) → ncl (uc (nr h 7 0) s9) (h 6 0) = 2) 1 0) (-2)))) (h'))))
theorem W138 {d : Nat} (H : ∀  (h : am_H) (K : Option am_V → am_H → Prop), (SV h 5) ∧ (∀ (h' : am_H), SQa (fun x9 => 472 ≤ x9 ∧ x9 ≤ 475) h h' → K (some (mB (ifc (0 < (h 6 0)) (ifc ((COL (fun y9 => 0 ≤ y9 ∧ y9 < (h 6 0)) (ad (nr h 7 0)) 2) ∧ ∀ s9, 0 ≤ s9 → s9 < ncl (sdE (nr h 7 0)) (nl (nr h 7 0)) → ncl (uc (nr h 7 0) s9) (h 6 0) = 2) 1 0) (-2)))) (h')) → am_AT d 138 0 [some (mR 1 11 0 0), none] h K) : am_CS d 138 C138 := by
  refine am_CS_of (T := tb138) (mL := 2) (rk := 1) rfl (fun as h K hC => ?_)
  obtain ⟨v0, rfl, hC0⟩ := am_a1_e hC
  obtain ⟨e0, hC1⟩ := am_oc_e hC0
  subst e0
  refine ⟨Nat.le_of_ble_eq_true rfl, ?_⟩
  exact H  h K hC1
theorem T138_0 {R : Option am_V → am_H → Prop} {h : am_H} (t : ((¬ h 6 0 = 0) → ((SV h 5 ∧ 0 < (h 6 0)) ∧ (∀ (h' : am_H), (SQ h h' 5 ∧ h' 5 4 = 1) → (((COL (fun y9 => 0 ≤ y9 ∧ y9 < (h 6 0)) (ad (nr h 7 0)) 2) → (am_AT 7 138 27 [some (mR 1 11 0 0), some (mI 0)] h' R)) ∧ ((¬ (COL (fun y9 => 0 ≤ y9 ∧ y9 < (h 6 0)) (ad (nr h 7 0)) 2)) → (R (some (mB 0)) h')))))) ∧ ((h 6 0 = 0) → (R (some (mB (-2))) h))) : am_AT 7 138 0 [some (mR 1 11 0 0), none] h R :=
  am_T (d := 6) (m := 138) (T := tb138) (mL := 2) (rk := 1) (cuts := [(27, [1, 2])]) (l := [(90, C90b), (166, C166), (167, C167)]) rfl ⟨am_CS_d (by decide) C90b_ok, am_CS_d (by decide) C166_ok, am_CS_d (by decide) C167_ok, trivial⟩ 14 (And.intro (fun c5 => And.intro (rfl) (And.intro ((t).1 c5).1 (fun z3_0 z3_1 => And.intro (fun c6 => ((((t).1 c5).2) z3_0 z3_1).1 c6) (fun c6 => ((((t).1 c5).2) z3_0 z3_1).2 c6)))) (fun c5 => (t).2 c5))
theorem T138_27 {R : Option am_V → am_H → Prop} {h : am_H} {x1 : Int} (t : (SV h (5 : Int)) ∧ (∀ (h' : am_H), (SQ h h' (5 : Int) ∧ h' (5 : Int) 6 = 1) → ((R32 x1) ∧ (((h' 75 0 ≤ x1) → (R (some (mB 1)) h')) ∧ ((x1 < h' 75 0) → ((R32 x1) ∧ ((SV h' 5) ∧ (∀ (h'_1 : am_H), (SQa (fun x => 472 ≤ x ∧ x ≤ 475) h' h'_1 ∧ h'_1 5 6 = 1 ∧ PCS h'_1 (h' 6 0) (uc (nr h' 7 0) x1)) → ((((h'_1) 472 0 = 2) → (am_AT 7 138 27 [some (mR 1 11 0 0), some (mI (x1 + 1))] h'_1 R)) ∧ ((¬ (h'_1) 472 0 = 2) → (R (some (mB 0)) h'_1))))))))))) : am_AT 7 138 27 [some (mR 1 11 0 0), some (mI x1)] h R :=
  am_T (d := 6) (m := 138) (T := tb138) (mL := 2) (rk := 1) (cuts := [(27, [1, 2])]) (l := [(90, C90b), (166, C166), (167, C167)]) rfl ⟨am_CS_d (by decide) C90b_ok, am_CS_d (by decide) C166_ok, am_CS_d (by decide) C167_ok, trivial⟩ 20 (And.intro (t).1 (fun z4_0 z4_1 => And.intro (((t).2) z4_0 z4_1).1 (And.intro (fun c7 => ((((t).2) z4_0 z4_1).2).1 c7) (fun c7 => And.intro (((((t).2) z4_0 z4_1).2).2 c7).1 (And.intro (rfl) (And.intro ((((((t).2) z4_0 z4_1).2).2 c7).2).1 (fun z5_0 z5_1 => And.intro (fun c8 => ((((((((t).2) z4_0 z4_1).2).2 c7).2).2) z5_0 z5_1).1 c8) (fun c8 => ((((((((t).2) z4_0 z4_1).2).2 c7).2).2) z5_0 z5_1).2 c8))))))))
theorem L138 {K : Option am_V → am_H → Prop} {h : am_H} (h0 : 0 < h 6 0) (he : COL (fun y9 => 0 ≤ y9 ∧ y9 < (h 6 0)) (ad (nr h 7 0)) 2) (hK : ∀ h', SQa (fun x9 => 472 ≤ x9 ∧ x9 ≤ 475) h h' → K (some (mB (ifc (0 < h 6 0) (ifc ((COL (fun y9 => 0 ≤ y9 ∧ y9 < (h 6 0)) (ad (nr h 7 0)) 2) ∧ ∀ s9, 0 ≤ s9 → s9 < ncl (sdE (nr h 7 0)) (nl (nr h 7 0)) → ncl (uc (nr h 7 0) s9) (h 6 0) = 2) 1 0) (-2)))) h') : ∀ i, ∀ g : am_H, 0 ≤ i → SQa (fun x9 => 472 ≤ x9 ∧ x9 ≤ 475) h g → (∀ s, 0 ≤ s → s < i → ncl (uc (nr h 7 0) s) (h 6 0) = 2) → i ≤ 200 → am_AT 7 138 27 [some (mR 1 11 0 0), some (mI i)] g K := by
  refine lp 200 (fun i ih g i0 G hs i1 => ?_)
  have n1 := nl_r (nr h 7 0)
  have n2 := ncl_r (sdE (nr h 7 0)) (nr h 7 0)
  refine T138_27 ⟨G.1, fun h' q1 => ⟨by omega, ⟨fun c2 => ?_, fun c2 => ⟨by omega, ⟨q1.1.1, fun h'_1 q3 => ⟨fun c4 => ?_, fun c4 => ?_⟩⟩⟩⟩⟩⟩
  · have Q := SQa_tr G (SQa_of q1.1)
    have e := (SV5_S q1.1.1 q1.2).1
    rw [Q.2.2.1.1] at e
    exact am_rB (hK h' Q) (by rw [ifc_t h0, ifc_t ⟨he, fun s a b => hs s a (by omega)⟩])
  · have Q := SQa_tr G (SQa_of q1.1)
    have e := (SV5_S q1.1.1 q1.2).1
    rw [Q.2.2.1.1] at e
    have w := q3.2.2.1
    rw [Q.2.2.1.1, Q.2.2.1.2] at w
    refine ih (by omega) h'_1 (by omega) (SQa_tr Q q3.1) (fun s a b => ?_) (by omega)
    by_cases u : s = i
    · rw [u]; omega
    · exact hs s a (by omega)
  · have Q := SQa_tr G (SQa_of q1.1)
    have e := (SV5_S q1.1.1 q1.2).1
    rw [Q.2.2.1.1] at e
    have w := q3.2.2.1
    rw [Q.2.2.1.1, Q.2.2.1.2] at w
    exact am_rB (hK h'_1 (SQa_tr Q q3.1)) (by rw [ifc_t h0, ifc_f (fun u => c4 (by rw [w]; exact u.2 i i0 (by omega)))])
theorem C138_ok : am_CS 7 138 C138 := W138 (fun h K hb => by
  have hn1 := (SV5_N hb.1).1.1
  refine T138_0 ⟨fun c1 => ⟨⟨hb.1, by omega⟩, fun h' q2 => ⟨fun c3 => ?_, fun c3 => ?_⟩⟩, fun c1 => ?_⟩
  · exact L138 (by omega) c3 hb.2 0 h' (by omega) (SQa_of q2.1) (fun s a b => by omega) (by omega)
  · exact am_rB (hb.2 h' (SQa_of q2.1)) (by rw [ifc_t (by omega), ifc_f (fun u => c3 u.1)])
  · exact am_rB (hb.2 h (SQa_of (SQ_rf hb.1))) (ifc_f (by omega)))
/-! 288 FactorNetsModel.even -/
def C288 : am_K := fun as h K => am_a1 as (fun v0 => am_oc 12 571 v0 ((RIv h) ∧ (∀ (h' : am_H), RQ h h' → K (some (mB (ifc (0 < (h 572 0)) (ifc (COL (fun y9 => 0 ≤ y9 ∧ y9 < (h 572 0)) (ad (nr h 572 2)) 2) 1 0) (-2)))) (h'))))
theorem W288 {d : Nat} (H : ∀  (h : am_H) (K : Option am_V → am_H → Prop), (RIv h) ∧ (∀ (h' : am_H), RQ h h' → K (some (mB (ifc (0 < (h 572 0)) (ifc (COL (fun y9 => 0 ≤ y9 ∧ y9 < (h 572 0)) (ad (nr h 572 2)) 2) 1 0) (-2)))) (h')) → am_AT d 288 0 [some (mR 1 12 0 571)] h K) : am_CS d 288 C288 := by
  refine am_CS_of (T := tb288) (mL := 1) (rk := 1) rfl (fun as h K hC => ?_)
  obtain ⟨v0, rfl, hC0⟩ := am_a1_e hC
  obtain ⟨e0, hC1⟩ := am_oc_e hC0
  subst e0
  refine ⟨Nat.le_of_ble_eq_true rfl, ?_⟩
  exact H  h K hC1
theorem T288_0 {R : Option am_V → am_H → Prop} {h : am_H} (t : ((0 < h 572 0) → ((0 ≤ (h 572 0) ∧ (h 572 0) ≤ 20) ∧ ((NT (h 572 0) (nr h 572 2) ∧ S20 (iShl 1 (h 572 0) - 1)) ∧ (∀ (h' : am_H), ((∀ x9 i9, x9 ≠ 597 → h' x9 i9 = h x9 i9)) → (((2 < chs (bit (iShl 1 (h 572 0) - 1)) (ad (nr h 572 2))) → (R (some (mB 0)) h')) ∧ ((chs (bit (iShl 1 (h 572 0) - 1)) (ad (nr h 572 2)) ≤ 2) → (R (some (mB 1)) h'))))))) ∧ ((¬ (0 < h 572 0)) → (R (some (mB (-2))) h))) : am_AT 26 288 0 [some (mR 1 12 0 571)] h R :=
  am_T (d := 25) (m := 288) (T := tb288) (mL := 1) (rk := 1) (cuts := []) (l := [(209, C209), (266, C266), (285, C285)]) rfl ⟨am_CS_d (by decide) C209_ok, am_CS_d (by decide) C266_ok, am_CS_d (by decide) C285_ok, trivial⟩ 16 (And.intro (rfl) (And.intro (fun c9 => And.intro (rfl) (And.intro ((t).1 c9).1 (And.intro (rfl) (And.intro (((t).1 c9).2).1 (fun z6_0 z6_1 => And.intro (fun c10 => (((((t).1 c9).2).2) z6_0 z6_1).1 c10) (fun c10 => (((((t).1 c9).2).2) z6_0 z6_1).2 c10)))))) (fun c9 => (t).2 c9)))
theorem C288_ok : am_CS 26 288 C288 := W288 (fun h K hb => by
  have hN := hb.1.1
  have hn1 := hN.1
  have hn2 := hN.2.1
  have c2 := chs_2 (S := fun y9 => 0 ≤ y9 ∧ y9 < h 572 0) (E := ad (nr h 572 2)) (fun p q e => (hN.2.2 p q e).2.2.1) (fun p s => by omega)
  refine T288_0 ⟨fun c1 => ⟨by omega, ⟨⟨hN, S20_all hn1 hn2⟩, fun h' q2 => ⟨fun c3 => ?_, fun c3 => ?_⟩⟩⟩, fun c1 => ?_⟩
  · rw [all_fn hn1 hn2] at c3
    exact am_rB (hb.2 h' (RQ_597 hb.1 q2)) (by rw [ifc_t c1, ifc_f (fun u => by have := c2.mpr u; omega)])
  · rw [all_fn hn1 hn2] at c3
    exact am_rB (hb.2 h' (RQ_597 hb.1 q2)) (by rw [ifc_t c1, ifc_t (c2.mp c3)])
  · exact am_rB (hb.2 h (RQ_rf hb.1)) (ifc_f c1))
/-! 296 FactorNetsModel.cubic -/
def C296 : am_K := fun as h K => am_a1 as (fun v0 => am_oc 12 571 v0 ((RIv h) ∧ (∀ (h' : am_H), RQ h h' → K (some (mB (ifc (0 < (h 572 0)) (ifc ((COL (fun y9 => 0 ≤ y9 ∧ y9 < (h 572 0)) (ad (nr h 572 2)) 2) ∧ ∀ s9, 0 ≤ s9 → s9 < ncl (sdE (nr h 572 2)) (nl (nr h 572 2)) → ncl (uc (nr h 572 2) s9) (h 572 0) = 2) 1 0) (-2)))) (h'))))
theorem W296 {d : Nat} (H : ∀  (h : am_H) (K : Option am_V → am_H → Prop), (RIv h) ∧ (∀ (h' : am_H), RQ h h' → K (some (mB (ifc (0 < (h 572 0)) (ifc ((COL (fun y9 => 0 ≤ y9 ∧ y9 < (h 572 0)) (ad (nr h 572 2)) 2) ∧ ∀ s9, 0 ≤ s9 → s9 < ncl (sdE (nr h 572 2)) (nl (nr h 572 2)) → ncl (uc (nr h 572 2) s9) (h 572 0) = 2) 1 0) (-2)))) (h')) → am_AT d 296 0 [some (mR 1 12 0 571), none] h K) : am_CS d 296 C296 := by
  refine am_CS_of (T := tb296) (mL := 2) (rk := 1) rfl (fun as h K hC => ?_)
  obtain ⟨v0, rfl, hC0⟩ := am_a1_e hC
  obtain ⟨e0, hC1⟩ := am_oc_e hC0
  subst e0
  refine ⟨Nat.le_of_ble_eq_true rfl, ?_⟩
  exact H  h K hC1
theorem T296_0 {R : Option am_V → am_H → Prop} {h : am_H} (t : (RIv h) ∧ (∀ (h' : am_H), (RQ h h') → (((ifc (0 < (h 572 0)) (ifc (COL (fun y9 => 0 ≤ y9 ∧ y9 < (h 572 0)) (ad (nr h 572 2)) 2) 1 0) (-2) = 1) → ((RIv h') ∧ (∀ (h'_1 : am_H), (LD h' h'_1) → (am_AT 27 296 19 [some (mR 1 12 0 571), some (mI 0)] h'_1 R)))) ∧ ((¬ ifc (0 < (h 572 0)) (ifc (COL (fun y9 => 0 ≤ y9 ∧ y9 < (h 572 0)) (ad (nr h 572 2)) 2) 1 0) (-2) = 1) → ((RIv h') ∧ (∀ (h'_1 : am_H), (RQ h' h'_1) → (R (some (mB (ifc (0 < (h' 572 0)) (ifc (COL (fun y9 => 0 ≤ y9 ∧ y9 < (h' 572 0)) (ad (nr h' 572 2)) 2) 1 0) (-2)))) h'_1))))))) : am_AT 27 296 0 [some (mR 1 12 0 571), none] h R :=
  am_T (d := 26) (m := 296) (T := tb296) (mL := 2) (rk := 1) (cuts := [(19, [1, 2])]) (l := [(220, C220), (288, C288), (293, C293)]) rfl ⟨am_CS_d (by decide) C220_ok, am_CS_d (by decide) C288_ok, am_CS_d (by decide) C293_ok, trivial⟩ 12 (And.intro (rfl) (And.intro (t).1 (fun z7_0 z7_1 => And.intro (fun c11 => And.intro (rfl) (And.intro ((((t).2) z7_0 z7_1).1 c11).1 (fun z8_0 z8_1 => (((((t).2) z7_0 z7_1).1 c11).2) z8_0 z8_1))) (fun c11 => And.intro (rfl) (And.intro ((((t).2) z7_0 z7_1).2 c11).1 (fun z9_0 z9_1 => (((((t).2) z7_0 z7_1).2 c11).2) z9_0 z9_1))))))
theorem T296_19 {R : Option am_V → am_H → Prop} {h : am_H} {x1 : Int} (t : (R32 x1) ∧ (((h 571 25 ≤ x1) → (R (some (mB 1)) h)) ∧ ((x1 < h 571 25) → ((R32 x1) ∧ ((RIv h) ∧ (∀ (h' : am_H), (RQ h h' ∧ h' 571 17 = 1) → (((ifc (0 ≤ x1 ∧ x1 < ncl (sdE (nr h 572 2)) (nl (nr h 572 2))) (ncl (uc (nr h 572 2) x1) (h 572 0)) (-2) = 2) → (am_AT 27 296 19 [some (mR 1 12 0 571), some (mI (x1 + 1))] h' R)) ∧ ((¬ ifc (0 ≤ x1 ∧ x1 < ncl (sdE (nr h 572 2)) (nl (nr h 572 2))) (ncl (uc (nr h 572 2) x1) (h 572 0)) (-2) = 2) → (R (some (mB 0)) h'))))))))) : am_AT 27 296 19 [some (mR 1 12 0 571), some (mI x1)] h R :=
  am_T (d := 26) (m := 296) (T := tb296) (mL := 2) (rk := 1) (cuts := [(19, [1, 2])]) (l := [(220, C220), (288, C288), (293, C293)]) rfl ⟨am_CS_d (by decide) C220_ok, am_CS_d (by decide) C288_ok, am_CS_d (by decide) C293_ok, trivial⟩ 15 (And.intro (t).1 (And.intro (fun c12 => ((t).2).1 c12) (fun c12 => And.intro (((t).2).2 c12).1 (And.intro (rfl) (And.intro ((((t).2).2 c12).2).1 (fun z10_0 z10_1 => And.intro (fun c13 => ((((((t).2).2 c12).2).2) z10_0 z10_1).1 c13) (fun c13 => ((((((t).2).2 c12).2).2) z10_0 z10_1).2 c13)))))))
theorem RQ_tr {h h' h'' : am_H} (H : RQ h h') (H2 : RQ h' h'') : RQ h h'' := ⟨fun x i a => (H2.1 x i a).trans (H.1 x i a), H2.2⟩
theorem L296 {K : Option am_V → am_H → Prop} {h : am_H} (h0 : 0 < h 572 0) (he : COL (fun y9 => 0 ≤ y9 ∧ y9 < (h 572 0)) (ad (nr h 572 2)) 2) (hK : ∀ h', RQ h h' → K (some (mB (ifc (0 < h 572 0) (ifc ((COL (fun y9 => 0 ≤ y9 ∧ y9 < (h 572 0)) (ad (nr h 572 2)) 2) ∧ ∀ s9, 0 ≤ s9 → s9 < ncl (sdE (nr h 572 2)) (nl (nr h 572 2)) → ncl (uc (nr h 572 2) s9) (h 572 0) = 2) 1 0) (-2)))) h') : ∀ i, ∀ g : am_H, 0 ≤ i → RQ h g → g 571 17 = 1 → (∀ s, 0 ≤ s → s < i → ncl (uc (nr h 572 2) s) (h 572 0) = 2) → i ≤ 200 → am_AT 27 296 19 [some (mR 1 12 0 571), some (mI i)] g K := by
  refine lp 200 (fun i ih g i0 G z hs i1 => ?_)
  have n1 := nl_r (nr h 572 2)
  have n2 := ncl_r (sdE (nr h 572 2)) (nr h 572 2)
  have en := RQ_n G
  have e := (G.2.2.2 z).2.2.2.1
  rw [en.1] at e
  refine T296_19 ⟨by omega, ⟨fun c1 => ?_, fun c1 => ⟨by omega, ⟨G.2, fun h' q2 => ⟨fun c3 => ?_, fun c3 => ?_⟩⟩⟩⟩⟩
  · exact am_rB (hK g G) (by rw [ifc_t h0, ifc_t ⟨he, fun s a b => hs s a (by omega)⟩])
  · rw [en.1, en.2, ifc_t ⟨i0, by omega⟩] at c3
    refine ih (by omega) h' (by omega) (RQ_tr G q2.1) q2.2 (fun s a b => ?_) (by omega)
    by_cases u : s = i
    · rw [u]; exact c3
    · exact hs s a (by omega)
  · rw [en.1, en.2, ifc_t ⟨i0, by omega⟩] at c3
    exact am_rB (hK h' (RQ_tr G q2.1)) (by rw [ifc_t h0, ifc_f (fun u => c3 (u.2 i i0 (by omega)))])
theorem C296_ok : am_CS 27 296 C296 := W296 (fun h K hb => by
  have hn1 := hb.1.1.1
  refine T296_0 ⟨hb.1, fun h' q1 => ⟨fun c2 => ⟨q1.2, fun h'_1 q3 => ?_⟩, fun c2 => ⟨q1.2, fun h'_1 q3 => ?_⟩⟩⟩
  · have a : 0 < h 572 0 := Classical.byContradiction fun u => by rw [ifc_f u] at c2; omega
    rw [ifc_t a] at c2
    have b : COL (fun y9 => 0 ≤ y9 ∧ y9 < (h 572 0)) (ad (nr h 572 2)) 2 := Classical.byContradiction fun u => by rw [ifc_f u] at c2; omega
    exact L296 a b hb.2 0 h'_1 (by omega) (RQ_tr q1 (LD_q q3)) q3.2.2.2.1 (fun s a b => by omega) (by omega)
  · have en := RQ_n q1
    rw [en.1, en.2]
    refine am_rB (hb.2 h'_1 (RQ_tr q1 q3)) ?_
    by_cases a : 0 < h 572 0
    · rw [ifc_t a] at c2
      rw [ifc_t a, ifc_t a]
      by_cases b : COL (fun y9 => 0 ≤ y9 ∧ y9 < (h 572 0)) (ad (nr h 572 2)) 2
      · rw [ifc_t b] at c2
        exact absurd rfl c2
      · rw [ifc_f b, ifc_f (fun u => b u.1)]
    · rw [ifc_f a, ifc_f a])
