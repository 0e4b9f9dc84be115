/-! ===== feed, end, net, fault of the class ===== -/
def fdb (a1 a2 a3 a4 a5 k : Int) : Int := iAnd (iShr (if k < 4 then a1 else if k < 8 then a2 else if k < 12 then a3 else if k < 16 then a4 else a5) (24 - 8 * (k % 4))) 255
def FDn (h g : am_H) (f : Int → Int) (m : Int) : Prop := (∀ x i, ¬ (x = 1 ∧ i = 1) → x ≠ 2 → g x i = h x i) ∧ (∀ i, i < h 1 1 → g 2 i = h 2 i) ∧ g 1 1 = h 1 1 + 4 * m ∧ ∀ k, 0 ≤ k → k < 4 * m → g 2 (h 1 1 + k) = f k
def FDC (h g : am_H) (a1 a2 a3 a4 a5 : Int) : Prop := FDn h g (fdb a1 a2 a3 a4 a5) 5
theorem FD_st {h g g' : am_H} {f : Int → Int} {m v : Int} (hm : 0 ≤ m) (G : FDn h g f m) (A : APP g g' v) (e : ∀ i, 0 ≤ i → i < 4 → f (4 * m + i) = iAnd (iShr v (24 - 8 * i)) 255) : FDn h g' f (m + 1) := by
  have l := G.2.2.1
  refine ⟨fun x i a b => (A.1 x i a (by omega)).trans (G.1 x i a b), fun i a => (A.1 _ _ (by omega) (by omega)).trans (G.2.1 i a), by rw [A.2.1, l]; omega, fun k a b => ?_⟩
  by_cases c : k < 4 * m
  · rw [A.1 _ _ (by omega) (by omega)]; exact G.2.2.2 k a c
  · have w := A.2.2 (k - 4 * m) (by omega) (by omega)
    rw [l, show h 1 1 + 4 * m + (k - 4 * m) = h 1 1 + k by omega] at w
    rw [w, ← e (k - 4 * m) (by omega) (by omega), show 4 * m + (k - 4 * m) = k by omega]
theorem fd_0 {h : am_H} {f : Int → Int} : FDn h h f 0 := ⟨fun _ _ _ _ => rfl, fun _ _ => rfl, by omega, fun k a b => by omega⟩
theorem and255 (x : Int) : 0 ≤ iAnd x 255 ∧ iAnd x 255 < 256 := by
  refine bt_set (n := 8) (rg_and _ _) (by decide) (fun k hk => ?_)
  exact bt_in (n := 8) (x := 255) (by omega) (by decide) (by decide) (bt_and.mp hk).2
theorem FDC_T {h g : am_H} {a1 a2 a3 a4 a5 : Int} (T : TPB h 2 (h 1 1)) (hl : h 1 1 ≤ 780) (G : FDC h g a1 a2 a3 a4 a5) : TPB g 2 (g 1 1) := by
  have l := G.2.2.1
  have t := T.1
  refine ⟨by omega, fun j a b => ?_⟩
  by_cases c : j < h 1 1
  · rw [G.2.1 j c]; exact T.2 j a c
  · have w := G.2.2.2 (j - h 1 1) (by omega) (by omega)
    rw [show h 1 1 + (j - h 1 1) = j by omega] at w
    rw [w]
    exact and255 _
def NTC (h g : am_H) (Z : Int × Int × Int × Int × (Int → Int)) : Prop := (g 1 1 = 0 ∧ g 1 4 = Z.1 ∧ g 1 5 = Z.2.1) ∧ ((Z.1 = 0 ∧ CN Z.2.2.2.1 Z.2.2.2.2) → (∀ x i, ((x = 0 ∧ i = 15) ∨ 498 ≤ x) → g x i = h x i) ∧ (g 6 0 = Z.2.2.2.1 ∧ nr g 7 0 = Z.2.2.2.2) ∧ (g 171 0 = Z.2.2.1 ∧ g 171 1 = 0) ∧ FRS g) ∧ (¬ (Z.1 = 0 ∧ CN Z.2.2.2.1 Z.2.2.2.2) → ∀ x i, ¬ (1 ≤ x ∧ x ≤ 4) → g x i = h x i)
theorem NTC_ok {h h' : am_H} {Z : Int × Int × Int × Int × (Int → Int)} (H : PI h) (q : RDZ h h' Z) (z : Z.1 = 0) (c : CN Z.2.2.2.1 Z.2.2.2.2) {g1 : am_H} (f1 : ∀ x i, ¬ (x = 1 ∧ i = 1) → ¬ (x = 6 ∧ i = 0) → x ≠ 7 → ¬ (x = 171 ∧ (i = 0 ∨ i = 1)) → g1 x i = h' x i) (e1 : g1 1 1 = 0) (e6 : g1 6 0 = h' 3 0) (e7 : ∀ y, 0 ≤ y → y < 20 → g1 7 y = h' 4 y) (e8 : g1 171 0 = h' 1 3 ∧ g1 171 1 = 0) : NTC h (fgc g1) Z := by
  have s := q.2.2 z
  have en : nr g1 7 0 = Z.2.2.2.2 := (nr_cg0 e7).trans s.1.2.2
  have e60 : g1 6 0 = Z.2.2.2.1 := e6.trans s.1.2.1
  have F := q.1
  refine ⟨⟨?_, ?_, ?_⟩, fun _ => ⟨fun x i a => ?_, ⟨?_, ?_⟩, ⟨?_, ?_⟩, FRS_of (fun p a b => ?_) (by rw [e60, en]; exact s.2.1) (by rw [e60, en]; exact c)⟩, fun w => absurd ⟨z, c⟩ w⟩
  · rw [fgc_ne (by omega) (by omega)]; exact e1
  · rw [fgc_ne (by omega) (by omega), f1 _ _ (by omega) (by omega) (by omega) (by omega)]; exact q.2.1.1
  · rw [fgc_ne (by omega) (by omega), f1 _ _ (by omega) (by omega) (by omega) (by omega)]; exact q.2.1.2
  · rw [fgc_ne (by omega) (by omega), f1 _ _ (by omega) (by omega) (by omega) (by omega)]; exact F x i (by omega) (by omega) (by omega)
  · rw [fgc_ne (by omega) (by omega)]; exact e60
  · exact (nr_fr2 (fun i => fgc_ne (by omega) (by omega))).trans en
  · rw [fgc_ne (by omega) (by omega), e8.1]; exact s.1.1
  · rw [fgc_ne (by omega) (by omega)]; exact e8.2
  · rw [f1 _ _ (by omega) (by omega) (by omega) (by omega), F _ _ (by omega) (by omega) (by omega)]; exact H.2.1 p a b
theorem NTC_no {h h' : am_H} {Z : Int × Int × Int × Int × (Int → Int)} (q : RDZ h h' Z) (z : ¬ (Z.1 = 0 ∧ CN Z.2.2.2.1 Z.2.2.2.2)) : NTC h (am_up h' 1 1 0) Z := by
  refine ⟨⟨am_up_eq, ?_, ?_⟩, fun w => absurd w z, fun _ x i a => ?_⟩
  · rw [am_up_n2 (by omega)]; exact q.2.1.1
  · rw [am_up_n2 (by omega)]; exact q.2.1.2
  · rw [am_up_n2 (by omega)]; exact q.1 x i (by omega) (by omega) (by omega)
/-! 93 FactorNets.feed -/
def C93 : am_K := fun as h K => am_a6 as (fun v0 v1 v2 v3 v4 v5 => am_oc 11 0 v0 (am_n v1 (fun a1 => am_n v2 (fun a2 => am_n v3 (fun a3 => am_n v4 (fun a4 => am_n v5 (fun a5 => (TPB h 2 (h 1 1)) ∧ (∀ (h' : am_H), (¬ 780 < h 1 1 → FDC h h' a1 a2 a3 a4 a5) ∧ (780 < h 1 1 → h' = h) → K (some (mB (ifc (780 < h 1 1) (-1) (h 1 1 + 20)))) (h')))))))))
theorem W93 {d : Nat} (H : ∀ (a1 : Int) (a2 : Int) (a3 : Int) (a4 : Int) (a5 : Int) (h : am_H) (K : Option am_V → am_H → Prop), (TPB h 2 (h 1 1)) ∧ (∀ (h' : am_H), (¬ 780 < h 1 1 → FDC h h' a1 a2 a3 a4 a5) ∧ (780 < h 1 1 → h' = h) → K (some (mB (ifc (780 < h 1 1) (-1) (h 1 1 + 20)))) (h')) → am_AT d 93 0 [some (mR 1 11 0 0), some (mB a1), some (mB a2), some (mB a3), some (mB a4), some (mB a5)] h K) : am_CS d 93 C93 := by
  refine am_CS_of (T := tb93) (mL := 6) (rk := 1) rfl (fun as h K hC => ?_)
  obtain ⟨v0, v1, v2, v3, v4, v5, rfl, hC0⟩ := am_a6_e hC
  obtain ⟨e0, hC1⟩ := am_oc_e hC0
  subst e0
  obtain ⟨a1, rfl, hC2⟩ := am_n_e hC1
  obtain ⟨a2, rfl, hC3⟩ := am_n_e hC2
  obtain ⟨a3, rfl, hC4⟩ := am_n_e hC3
  obtain ⟨a4, rfl, hC5⟩ := am_n_e hC4
  obtain ⟨a5, rfl, hC6⟩ := am_n_e hC5
  refine ⟨Nat.le_of_ble_eq_true rfl, ?_⟩
  exact H a1 a2 a3 a4 a5 h K hC6
theorem T93_0 {R : Option am_V → am_H → Prop} {h : am_H} {a1 : Int} {a2 : Int} {a3 : Int} {a4 : Int} {a5 : Int} (t : (R32 ((h 1 1) + 20)) ∧ ((((h 1 1) + 20 ≤ 800) → ((0 ≤ h 1 1 ∧ h 1 1 ≤ 796) ∧ (∀ (h' : am_H), (APP h h' a1) → ((0 ≤ h' 1 1 ∧ h' 1 1 ≤ 796) ∧ (∀ (h'_1 : am_H), (APP h' h'_1 a2) → ((0 ≤ h'_1 1 1 ∧ h'_1 1 1 ≤ 796) ∧ (∀ (h'_2 : am_H), (APP h'_1 h'_2 a3) → ((0 ≤ h'_2 1 1 ∧ h'_2 1 1 ≤ 796) ∧ (∀ (h'_3 : am_H), (APP h'_2 h'_3 a4) → ((0 ≤ h'_3 1 1 ∧ h'_3 1 1 ≤ 796) ∧ (∀ (h'_4 : am_H), (APP h'_3 h'_4 a5) → (R (some (mB ((h'_4) 1 1))) h'_4)))))))))))) ∧ ((800 < (h 1 1) + 20) → (R (some (mB (-1))) h)))) : am_AT 2 93 0 [some (mR 1 11 0 0), some (mB a1), some (mB a2), some (mB a3), some (mB a4), some (mB a5)] h R :=
  am_T (d := 1) (m := 93) (T := tb93) (mL := 6) (rk := 1) (cuts := []) (l := [(52, C52)]) rfl ⟨am_CS_d (by decide) C52_ok, trivial⟩ 35 (And.intro (t).1 (And.intro (fun c1 => And.intro (rfl) (And.intro (((t).2).1 c1).1 (fun z1_0 z1_1 => And.intro (rfl) (And.intro (((((t).2).1 c1).2) z1_0 z1_1).1 (fun z2_0 z2_1 => And.intro (rfl) (And.intro (((((((t).2).1 c1).2) z1_0 z1_1).2) z2_0 z2_1).1 (fun z3_0 z3_1 => And.intro (rfl) (And.intro (((((((((t).2).1 c1).2) z1_0 z1_1).2) z2_0 z2_1).2) z3_0 z3_1).1 (fun z4_0 z4_1 => And.intro (rfl) (And.intro (((((((((((t).2).1 c1).2) z1_0 z1_1).2) z2_0 z2_1).2) z3_0 z3_1).2) z4_0 z4_1).1 (fun z5_0 z5_1 => ((((((((((((t).2).1 c1).2) z1_0 z1_1).2) z2_0 z2_1).2) z3_0 z3_1).2) z4_0 z4_1).2) z5_0 z5_1))))))))))) (fun c1 => ((t).2).2 c1)))
theorem C93_ok : am_CS 2 93 C93 := W93 (fun a1 a2 a3 a4 a5 h K hb => by
  have t := hb.1.1
  refine T93_0 ⟨by omega, ⟨fun c1 => ⟨by omega, fun h' q2 => ⟨by have := q2.2.1; omega, fun h'_1 q3 => ⟨by have := q2.2.1; have := q3.2.1; omega, fun h'_2 q4 => ⟨by have := q2.2.1; have := q3.2.1; have := q4.2.1; omega, fun h'_3 q5 => ⟨by have := q2.2.1; have := q3.2.1; have := q4.2.1; have := q5.2.1; omega, fun h'_4 q6 => ?_⟩⟩⟩⟩⟩, fun c1 => ?_⟩⟩
  · have g1 := FD_st (f := fdb a1 a2 a3 a4 a5) (m := 0) (by omega) fd_0 q2 (fun i i0 i1 => by unfold fdb; rw [if_pos (by omega), show (4 * 0 + i) % 4 = i by omega])
    have g2 := FD_st (m := 0 + 1) (by omega) g1 q3 (fun i i0 i1 => by unfold fdb; rw [if_neg (by omega), if_pos (by omega), show (4 * (0 + 1) + i) % 4 = i by omega])
    have g3 := FD_st (m := 0 + 1 + 1) (by omega) g2 q4 (fun i i0 i1 => by unfold fdb; rw [if_neg (by omega), if_neg (by omega), if_pos (by omega), show (4 * (0 + 1 + 1) + i) % 4 = i by omega])
    have g4 := FD_st (m := 0 + 1 + 1 + 1) (by omega) g3 q5 (fun i i0 i1 => by unfold fdb; rw [if_neg (by omega), if_neg (by omega), if_neg (by omega), if_pos (by omega), show (4 * (0 + 1 + 1 + 1) + i) % 4 = i by omega])
    have g5 := FD_st (m := 0 + 1 + 1 + 1 + 1) (by omega) g4 q6 (fun i i0 i1 => by unfold fdb; rw [if_neg (by omega), if_neg (by omega), if_neg (by omega), if_neg (by omega), show (4 * (0 + 1 + 1 + 1 + 1) + i) % 4 = i by omega])
    have g6 : FDC h h'_4 a1 a2 a3 a4 a5 := g5
    have l := g6.2.2.1
    refine am_rB (hb.2 h'_4 ⟨fun _ => g6, fun z => by omega⟩) ?_
    rw [ifc_f (by omega), l]
    omega
  · exact am_rB (hb.2 h ⟨fun z => by omega, fun _ => rfl⟩) (ifc_t (by omega)))
/-! 94 FactorNets.end -/
def C94 : am_K := fun as h K => am_a2 as (fun v0 v1 => am_oc 11 0 v0 (am_n v1 (fun n => ∀ (h' : am_H), (∀ x9 i9, ¬ (x9 = 1 ∧ i9 = 1) → h' x9 i9 = h x9 i9) ∧ h' 1 1 = ifc (0 ≤ n ∧ n ≤ h 1 1) n (h 1 1) → K (some (mB (ifc (0 ≤ n ∧ n ≤ h 1 1) n (-1)))) (h'))))
theorem W94 {d : Nat} (H : ∀ (n : Int) (h : am_H) (K : Option am_V → am_H → Prop), (∀ (h' : am_H), (∀ x9 i9, ¬ (x9 = 1 ∧ i9 = 1) → h' x9 i9 = h x9 i9) ∧ h' 1 1 = ifc (0 ≤ n ∧ n ≤ h 1 1) n (h 1 1) → K (some (mB (ifc (0 ≤ n ∧ n ≤ h 1 1) n (-1)))) (h')) → am_AT d 94 0 [some (mR 1 11 0 0), some (mB n)] h K) : am_CS d 94 C94 := by
  refine am_CS_of (T := tb94) (mL := 2) (rk := 1) rfl (fun as h K hC => ?_)
  obtain ⟨v0, v1, rfl, hC0⟩ := am_a2_e hC
  obtain ⟨e0, hC1⟩ := am_oc_e hC0
  subst e0
  obtain ⟨n, rfl, hC2⟩ := am_n_e hC1
  refine ⟨Nat.le_of_ble_eq_true rfl, ?_⟩
  exact H n h K hC2
theorem T94_0 {R : Option am_V → am_H → Prop} {h : am_H} {n : Int} (t : ((n < 0) → (R (some (mB (-1))) h)) ∧ ((0 ≤ n) → (((n ≤ h 1 1) → (R (some (mB n)) (am_up h 1 1 n))) ∧ ((h 1 1 < n) → (R (some (mB (-1))) h))))) : am_AT 1 94 0 [some (mR 1 11 0 0), some (mB n)] h R :=
  am_T (d := 0) (m := 94) (T := tb94) (mL := 2) (rk := 1) (cuts := []) (l := []) rfl trivial 17 (And.intro (fun c2 => (t).1 c2) (fun c2 => And.intro (fun c3 => ((t).2 c2).1 c3) (fun c3 => ((t).2 c2).2 c3)))
theorem C94_ok : am_CS 1 94 C94 := W94 (fun n h K hb => by
  refine T94_0 ⟨fun c1 => ?_, fun c1 => ⟨fun c2 => ?_, fun c2 => ?_⟩⟩
  · exact am_rB (hb h ⟨fun _ _ _ => rfl, (ifc_f (by omega)).symm⟩) (ifc_f (by omega))
  · exact am_rB (hb _ ⟨fun x i a => am_up_n2 a, by rw [am_up_eq, ifc_t ⟨c1, c2⟩]⟩) (ifc_t ⟨c1, c2⟩)
  · exact am_rB (hb h ⟨fun _ _ _ => rfl, (ifc_f (by omega)).symm⟩) (ifc_f (by omega)))
/-! 95 FactorNets.net -/
def C95 : am_K := fun as h K => am_a1 as (fun v0 => am_oc 11 0 v0 ((PI h ∧ TPB h 2 (h 1 1)) ∧ (∀ (h' : am_H), NTC h h' (rdL (ctp h) 800 0 0 0 (fun _ => 0)) → K (some (mB (ifc ((rdL (ctp h) 800 0 0 0 (fun _ => 0)).1 = 0) (ifc (CN (rdL (ctp h) 800 0 0 0 (fun _ => 0)).2.2.2.1 (rdL (ctp h) 800 0 0 0 (fun _ => 0)).2.2.2.2) (rdL (ctp h) 800 0 0 0 (fun _ => 0)).2.2.2.1 (-5)) (-4)))) (h'))))
theorem W95 {d : Nat} (H : ∀  (h : am_H) (K : Option am_V → am_H → Prop), (PI h ∧ TPB h 2 (h 1 1)) ∧ (∀ (h' : am_H), NTC h h' (rdL (ctp h) 800 0 0 0 (fun _ => 0)) → K (some (mB (ifc ((rdL (ctp h) 800 0 0 0 (fun _ => 0)).1 = 0) (ifc (CN (rdL (ctp h) 800 0 0 0 (fun _ => 0)).2.2.2.1 (rdL (ctp h) 800 0 0 0 (fun _ => 0)).2.2.2.2) (rdL (ctp h) 800 0 0 0 (fun _ => 0)).2.2.2.1 (-5)) (-4)))) (h')) → am_AT d 95 0 [some (mR 1 11 0 0)] h K) : am_CS d 95 C95 := by
  refine am_CS_of (T := tb95) (mL := 1) (rk := 1) rfl (fun as h K hC => ?_)
  obtain ⟨v0, rfl, hC0⟩ := am_a1_e hC
  obtain ⟨e0, hC1⟩ := am_oc_e hC0
  subst e0
  refine ⟨Nat.le_of_ble_eq_true rfl, ?_⟩
  exact H  h K hC1
theorem T95_0 {R : Option am_V → am_H → Prop} {h : am_H} (t : (TPB h 2 (h 1 1)) ∧ (∀ (h' : am_H), (RDD h h') → (((h' 1 4 = 0) → (((h' 3 0 ≤ 0) → (R (some (mB ((am_cp (am_up (am_up h' 1 1 0) (6 : Int) 0 ((am_up h' 1 1 0) (3 : Int) 0)) 4 0 7 0 20) 6 0))) (am_up (am_up (am_up (am_up (am_up (am_up (am_up (am_up (am_cp (am_up (am_up h' 1 1 0) (6 : Int) 0 ((am_up h' 1 1 0) (3 : Int) 0)) 4 0 7 0 20) (171 : Int) 0 ((am_cp (am_up (am_up h' 1 1 0) (6 : Int) 0 ((am_up h' 1 1 0) (3 : Int) 0)) 4 0 7 0 20) 1 3)) (171 : Int) 1 0) 5 4 0) 5 5 0) 5 6 0) 0 16 0) 0 17 0) 0 18 (-2)))) ∧ ((0 < h' 3 0) → ((NT ((am_up h' 1 1 0) (3 : Int) 0) (nr (am_up h' 1 1 0) 4 0)) ∧ (((0 < (am_up h' 1 1 0) (3 : Int) 0 ∧ CN ((am_up h' 1 1 0) (3 : Int) 0) (nr (am_up h' 1 1 0) 4 0)) → (R (some (mB ((am_cp (am_up (am_up h' 1 1 0) (6 : Int) 0 ((am_up h' 1 1 0) (3 : Int) 0)) 4 0 7 0 20) 6 0))) (am_up (am_up (am_up (am_up (am_up (am_up (am_up (am_up (am_cp (am_up (am_up h' 1 1 0) (6 : Int) 0 ((am_up h' 1 1 0) (3 : Int) 0)) 4 0 7 0 20) (171 : Int) 0 ((am_cp (am_up (am_up h' 1 1 0) (6 : Int) 0 ((am_up h' 1 1 0) (3 : Int) 0)) 4 0 7 0 20) 1 3)) (171 : Int) 1 0) 5 4 0) 5 5 0) 5 6 0) 0 16 0) 0 17 0) 0 18 (-2)))) ∧ ((¬ (0 < (am_up h' 1 1 0) (3 : Int) 0 ∧ CN ((am_up h' 1 1 0) (3 : Int) 0) (nr (am_up h' 1 1 0) 4 0))) → (R (some (mB (-5))) (am_up h' 1 1 0)))))))) ∧ ((¬ h' 1 4 = 0) → (R (some (mB (-4))) (am_up h' 1 1 0)))))) : am_AT 7 95 0 [some (mR 1 11 0 0)] h R :=
  am_T (d := 6) (m := 95) (T := tb95) (mL := 1) (rk := 1) (cuts := []) (l := [(20, C20), (27, C27), (47, C47), (53, C53), (153, C153)]) rfl ⟨am_CS_d (by decide) C20_ok, am_CS_d (by decide) C27_ok, am_CS_d (by decide) C47_ok, am_CS_d (by decide) C53_ok, am_CS_d (by decide) C153_ok, trivial⟩ 45 (And.intro (rfl) (And.intro (t).1 (fun z6_0 z6_1 => And.intro (fun c4 => And.intro (fun c5 => And.intro (rfl) (((((t).2) z6_0 z6_1).1 c4).1 c5)) (fun c5 => And.intro (((((t).2) z6_0 z6_1).1 c4).2 c5).1 (And.intro (fun c6 => And.intro (rfl) (((((((t).2) z6_0 z6_1).1 c4).2 c5).2).1 c6)) (fun c6 => ((((((t).2) z6_0 z6_1).1 c4).2 c5).2).2 c6)))) (fun c4 => (((t).2) z6_0 z6_1).2 c4))))
theorem C95_ok : am_CS 7 95 C95 := W95 (fun h K hb => by
  refine T95_0 ⟨hb.1.2, fun h' q1 => ⟨fun c2 => ⟨fun c3 => ?_, fun c3 => ⟨by
    have z : (rdL (ctp h) 800 0 0 0 (fun _ => 0)).1 = 0 := q1.2.1.1.symm.trans c2
    have s := q1.2.2 z
    have en : nr (am_up h' 1 1 0) 4 0 = nr h' 4 0 := nr_fr2 (fun i => am_up_n2 (by omega))
    rw [am_up_n2 (by omega), en, s.1.2.2, s.1.2.1]
    exact s.2.1, ⟨fun c4 => ?_, fun c4 => ?_⟩⟩⟩, fun c2 => ?_⟩⟩
  · have z : (rdL (ctp h) 800 0 0 0 (fun _ => 0)).1 = 0 := q1.2.1.1.symm.trans c2
    have s := q1.2.2 z
    have cn : CN (rdL (ctp h) 800 0 0 0 (fun _ => 0)).2.2.2.1 (rdL (ctp h) 800 0 0 0 (fun _ => 0)).2.2.2.2 := fun p a b => by rw [← s.1.2.1] at b; omega
    have e13 : (am_cp (am_up (am_up h' 1 1 0) 6 0 (am_up h' 1 1 0 3 0)) 4 0 7 0 20) 1 3 = h' 1 3 := by rw [am_cp_ne (by omega), am_up_n2 (by omega), am_up_n2 (by omega)]
    have N := NTC_ok (g1 := am_up (am_up (am_cp (am_up (am_up h' 1 1 0) 6 0 (am_up h' 1 1 0 3 0)) 4 0 7 0 20) 171 0 ((am_cp (am_up (am_up h' 1 1 0) 6 0 (am_up h' 1 1 0 3 0)) 4 0 7 0 20) 1 3)) 171 1 0) hb.1.1 q1 z cn (fun x i a b d e => by rw [am_up_n2 (by omega), am_up_n2 (by omega), am_cp_ne d, am_up_n2 b, am_up_n2 a]) (by rw [am_up_n2 (by omega), am_up_n2 (by omega), am_cp_ne (by omega), am_up_n2 (by omega), am_up_eq]) (by rw [am_up_n2 (by omega), am_up_n2 (by omega), am_cp_ne (by omega), am_up_eq, am_up_n2 (by omega)]) (fun y a b => by rw [am_up_n2 (by omega), am_up_n2 (by omega), am_cp_0 a b, am_up_n2 (by omega), am_up_n2 (by omega)]) ⟨by rw [am_up_n2 (by omega), am_up_eq, e13], am_up_eq⟩
    have e60 : (am_cp (am_up (am_up h' 1 1 0) 6 0 (am_up h' 1 1 0 3 0)) 4 0 7 0 20) 6 0 = (rdL (ctp h) 800 0 0 0 (fun _ => 0)).2.2.2.1 := by rw [am_cp_ne (by omega), am_up_eq, am_up_n2 (by omega)]; exact s.1.2.1
    show K (some (mB ((am_cp (am_up (am_up h' 1 1 0) 6 0 (am_up h' 1 1 0 3 0)) 4 0 7 0 20) 6 0))) (fgc (am_up (am_up (am_cp (am_up (am_up h' 1 1 0) 6 0 (am_up h' 1 1 0 3 0)) 4 0 7 0 20) 171 0 ((am_cp (am_up (am_up h' 1 1 0) 6 0 (am_up h' 1 1 0 3 0)) 4 0 7 0 20) 1 3)) 171 1 0))
    refine am_rB (hb.2 _ N) ?_
    rw [ifc_t z, ifc_t cn, e60]
  · have z : (rdL (ctp h) 800 0 0 0 (fun _ => 0)).1 = 0 := q1.2.1.1.symm.trans c2
    have s := q1.2.2 z
    have en : nr (am_up h' 1 1 0) 4 0 = nr h' 4 0 := nr_fr2 (fun i => am_up_n2 (by omega))
    rw [am_up_n2 (by omega), en, s.1.2.1, s.1.2.2] at c4
    have cn := c4.2
    have e13 : (am_cp (am_up (am_up h' 1 1 0) 6 0 (am_up h' 1 1 0 3 0)) 4 0 7 0 20) 1 3 = h' 1 3 := by rw [am_cp_ne (by omega), am_up_n2 (by omega), am_up_n2 (by omega)]
    have N := NTC_ok (g1 := am_up (am_up (am_cp (am_up (am_up h' 1 1 0) 6 0 (am_up h' 1 1 0 3 0)) 4 0 7 0 20) 171 0 ((am_cp (am_up (am_up h' 1 1 0) 6 0 (am_up h' 1 1 0 3 0)) 4 0 7 0 20) 1 3)) 171 1 0) hb.1.1 q1 z cn (fun x i a b d e => by rw [am_up_n2 (by omega), am_up_n2 (by omega), am_cp_ne d, am_up_n2 b, am_up_n2 a]) (by rw [am_up_n2 (by omega), am_up_n2 (by omega), am_cp_ne (by omega), am_up_n2 (by omega), am_up_eq]) (by rw [am_up_n2 (by omega), am_up_n2 (by omega), am_cp_ne (by omega), am_up_eq, am_up_n2 (by omega)]) (fun y a b => by rw [am_up_n2 (by omega), am_up_n2 (by omega), am_cp_0 a b, am_up_n2 (by omega), am_up_n2 (by omega)]) ⟨by rw [am_up_n2 (by omega), am_up_eq, e13], am_up_eq⟩
    have e60 : (am_cp (am_up (am_up h' 1 1 0) 6 0 (am_up h' 1 1 0 3 0)) 4 0 7 0 20) 6 0 = (rdL (ctp h) 800 0 0 0 (fun _ => 0)).2.2.2.1 := by rw [am_cp_ne (by omega), am_up_eq, am_up_n2 (by omega)]; exact s.1.2.1
    show K (some (mB ((am_cp (am_up (am_up h' 1 1 0) 6 0 (am_up h' 1 1 0 3 0)) 4 0 7 0 20) 6 0))) (fgc (am_up (am_up (am_cp (am_up (am_up h' 1 1 0) 6 0 (am_up h' 1 1 0 3 0)) 4 0 7 0 20) 171 0 ((am_cp (am_up (am_up h' 1 1 0) 6 0 (am_up h' 1 1 0 3 0)) 4 0 7 0 20) 1 3)) 171 1 0))
    refine am_rB (hb.2 _ N) ?_
    rw [ifc_t z, ifc_t cn, e60]
  · have z : (rdL (ctp h) 800 0 0 0 (fun _ => 0)).1 = 0 := q1.2.1.1.symm.trans c2
    have s := q1.2.2 z
    have en : nr (am_up h' 1 1 0) 4 0 = nr h' 4 0 := nr_fr2 (fun i => am_up_n2 (by omega))
    rw [am_up_n2 (by omega), en, s.1.2.2, s.1.2.1] at c4
    rw [s.1.2.1] at c3
    have nc : ¬ CN (rdL (ctp h) 800 0 0 0 (fun _ => 0)).2.2.2.1 (rdL (ctp h) 800 0 0 0 (fun _ => 0)).2.2.2.2 := fun w => c4 ⟨c3, w⟩
    refine am_rB (hb.2 _ (NTC_no q1 (fun w => nc w.2))) ?_
    rw [ifc_t z, ifc_f nc]
  · have z : ¬ (rdL (ctp h) 800 0 0 0 (fun _ => 0)).1 = 0 := fun w => c2 (q1.2.1.1.trans w)
    exact am_rB (hb.2 _ (NTC_no q1 (fun w => z w.1))) (ifc_f z))
/-! 96 FactorNets.fault -/
def C96 : am_K := fun as h K => am_a2 as (fun v0 v1 => am_oc 11 0 v0 (am_n v1 (fun w => K (some (mB (if w = 0 then h 1 4 else if w = 1 then h 1 5 else -1))) h)))
theorem W96 {d : Nat} (H : ∀ (w : Int) (h : am_H) (K : Option am_V → am_H → Prop), K (some (mB (if w = 0 then h 1 4 else if w = 1 then h 1 5 else -1))) h → am_AT d 96 0 [some (mR 1 11 0 0), some (mB w)] h K) : am_CS d 96 C96 := by
  refine am_CS_of (T := tb96) (mL := 2) (rk := 1) rfl (fun as h K hC => ?_)
  obtain ⟨v0, v1, rfl, hC0⟩ := am_a2_e hC
  obtain ⟨e0, hC1⟩ := am_oc_e hC0
  subst e0
  obtain ⟨w, rfl, hC2⟩ := am_n_e hC1
  refine ⟨Nat.le_of_ble_eq_true rfl, ?_⟩
  exact H w h K hC2
theorem T96_0 {R : Option am_V → am_H → Prop} {h : am_H} {w : Int} (t : ((¬ w = 0) → (((¬ w = 1) → (R (some (mB (-1))) h)) ∧ ((w = 1) → (R (some (mB (h 1 5))) h)))) ∧ ((w = 0) → (R (some (mB (h 1 4))) h))) : am_AT 1 96 0 [some (mR 1 11 0 0), some (mB w)] h R :=
  am_T (d := 0) (m := 96) (T := tb96) (mL := 2) (rk := 1) (cuts := []) (l := []) rfl trivial 14 (And.intro (fun c7 => And.intro (fun c8 => ((t).1 c7).1 c8) (fun c8 => ((t).1 c7).2 c8)) (fun c7 => (t).2 c7))
theorem C96_ok : am_CS 1 96 C96 := W96 (fun w h K hb => by
  refine T96_0 ⟨fun c1 => ⟨fun c2 => ?_, fun c2 => ?_⟩, fun c1 => ?_⟩
  · exact am_rB hb (by rw [if_neg c1, if_neg c2])
  · exact am_rB hb (by rw [if_neg c1, if_pos c2])
  · exact am_rB hb (by rw [if_pos c1]))
