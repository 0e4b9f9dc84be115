/-! 292 FactorNetsModel.laysPieces -/
def C292 : am_K := fun as h K => am_a2 as (fun v0 v1 => am_oc 12 571 v0 (am_n v1 (fun s => ((NT (h 572 0) (nr h 572 2) ∧ CN (h 572 0) (nr h 572 2) ∧ RLd h (h 572 0) (nr h 572 2))) ∧ (∀ (h' : am_H), (∀ x i, x ≠ 599 → ¬ (x = 571 ∧ i = 43) → h' x i = h x i) ∧ h' 571 43 = ncl (uc (nr h 572 2) s) (h 572 0) ∧ (∀ p, 0 ≤ p → p < (h 572 0) → h' 599 p = lab (uc (nr h 572 2) s) p) → K (none) (h')))))
theorem W292 {d : Nat} (H : ∀ (s : Int) (h : am_H) (K : Option am_V → am_H → Prop), ((NT (h 572 0) (nr h 572 2) ∧ CN (h 572 0) (nr h 572 2) ∧ RLd h (h 572 0) (nr h 572 2))) ∧ (∀ (h' : am_H), (∀ x i, x ≠ 599 → ¬ (x = 571 ∧ i = 43) → h' x i = h x i) ∧ h' 571 43 = ncl (uc (nr h 572 2) s) (h 572 0) ∧ (∀ p, 0 ≤ p → p < (h 572 0) → h' 599 p = lab (uc (nr h 572 2) s) p) → K (none) (h')) → am_AT d 292 0 [some (mR 1 12 0 571), some (mB s), none, none, none, none] h K) : am_CS d 292 C292 := by
  refine am_CS_of (T := tb292) (mL := 6) (rk := 0) rfl (fun as h K hC => ?_)
  obtain ⟨v0, v1, rfl, hC0⟩ := am_a2_e hC
  obtain ⟨e0, hC1⟩ := am_oc_e hC0
  subst e0
  obtain ⟨s, rfl, hC2⟩ := am_n_e hC1
  refine ⟨Nat.le_of_ble_eq_true rfl, ?_⟩
  exact H s h K hC2
theorem T292_0 {R : Option am_V → am_H → Prop} {h : am_H} {s : Int} (t : am_AT 1 292 2 [some (mR 1 12 0 571), some (mB s), some (mI 0), none, none, none] h R) : am_AT 1 292 0 [some (mR 1 12 0 571), some (mB s), none, none, none, none] h R :=
  am_T (d := 0) (m := 292) (T := tb292) (mL := 6) (rk := 0) (cuts := [(2, [1, 1, 2, 0, 0, 0]), (28, [1, 1, 2, 0, 0, 0]), (63, [1, 1, 2, 2, 0, 0]), (72, [1, 1, 2, 2, 2, 0])]) (l := []) rfl trivial 6 (t)
theorem T292_2 {R : Option am_V → am_H → Prop} {h : am_H} {s : Int} {x2 : Int} (t : (R32 x2) ∧ (((20 ≤ x2) → (am_AT 1 292 28 [some (mR 1 12 0 571), some (mB s), some (mI 0), none, none, none] (am_up h 571 43 0) R)) ∧ ((x2 < 20) → ((0 ≤ x2 ∧ x2 < 20) ∧ (am_AT 1 292 2 [some (mR 1 12 0 571), some (mB s), some (mI (x2 + 1)), none, none, none] (am_up h 599 x2 (-1)) R))))) : am_AT 1 292 2 [some (mR 1 12 0 571), some (mB s), some (mI x2), none, none, none] h R :=
  am_T (d := 0) (m := 292) (T := tb292) (mL := 6) (rk := 0) (cuts := [(2, [1, 1, 2, 0, 0, 0]), (28, [1, 1, 2, 0, 0, 0]), (63, [1, 1, 2, 2, 0, 0]), (72, [1, 1, 2, 2, 2, 0])]) (l := []) rfl trivial 14 (And.intro (t).1 (And.intro (fun c1 => ((t).2).1 c1) (fun c1 => And.intro (((t).2).2 c1).1 ((((t).2).2 c1).2))))
theorem T292_28 {R : Option am_V → am_H → Prop} {h : am_H} {s : Int} {x2 : Int} (t : (R32 x2) ∧ (((h 572 0 ≤ x2) → (R none h)) ∧ ((x2 < h 572 0) → ((0 ≤ x2 ∧ x2 < 20) ∧ (((h 599 x2 = (-1)) → ((0 ≤ x2 ∧ x2 < 20) ∧ (am_AT 1 292 63 [some (mR 1 12 0 571), some (mB s), some (mI x2), some (mI 1), none, none] (am_up h 599 x2 (h 571 43)) R))) ∧ ((¬ h 599 x2 = (-1)) → (am_AT 1 292 28 [some (mR 1 12 0 571), some (mB s), some (mI (x2 + 1)), none, none, none] h R))))))) : am_AT 1 292 28 [some (mR 1 12 0 571), some (mB s), some (mI x2), none, none, none] h R :=
  am_T (d := 0) (m := 292) (T := tb292) (mL := 6) (rk := 0) (cuts := [(2, [1, 1, 2, 0, 0, 0]), (28, [1, 1, 2, 0, 0, 0]), (63, [1, 1, 2, 2, 0, 0]), (72, [1, 1, 2, 2, 2, 0])]) (l := []) rfl trivial 24 (And.intro (⟨by decide, by decide⟩) (And.intro (t).1 (And.intro (fun c2 => ((t).2).1 c2) (fun c2 => And.intro (((t).2).2 c2).1 (And.intro (fun c3 => And.intro (((((t).2).2 c2).2).1 c3).1 ((((((t).2).2 c2).2).1 c3).2)) (fun c3 => ((((t).2).2 c2).2).2 c3))))))
theorem T292_63 {R : Option am_V → am_H → Prop} {h : am_H} {s : Int} {x2 : Int} {x3 : Int} (t : (R32 x3) ∧ (((x3 = 0) → ((R32 ((h 571 43) + 1)) ∧ (am_AT 1 292 28 [some (mR 1 12 0 571), some (mB s), some (mI (x2 + 1)), none, none, none] (am_up h 571 43 ((h 571 43) + 1)) R))) ∧ ((¬ x3 = 0) → (am_AT 1 292 72 [some (mR 1 12 0 571), some (mB s), some (mI x2), some (mI 0), some (mI 0), none] h R)))) : am_AT 1 292 63 [some (mR 1 12 0 571), some (mB s), some (mI x2), some (mI x3), none, none] h R :=
  am_T (d := 0) (m := 292) (T := tb292) (mL := 6) (rk := 0) (cuts := [(2, [1, 1, 2, 0, 0, 0]), (28, [1, 1, 2, 0, 0, 0]), (63, [1, 1, 2, 2, 0, 0]), (72, [1, 1, 2, 2, 2, 0])]) (l := []) rfl trivial 14 (And.intro (t).1 (And.intro (fun c4 => And.intro (((t).2).1 c4).1 ((((t).2).1 c4).2)) (fun c4 => ((t).2).2 c4)))
theorem T292_72 {R : Option am_V → am_H → Prop} {h : am_H} {s : Int} {x2 : Int} {x3 : Int} {x4 : Int} (t : (R32 x4) ∧ (((h 571 21 ≤ x4) → (am_AT 1 292 63 [some (mR 1 12 0 571), some (mB s), some (mI x2), some (mI x3), none, none] h R)) ∧ ((x4 < h 571 21) → ((0 ≤ x4 ∧ x4 < 190) ∧ (((h 584 x4 = s) → ((0 ≤ x4 ∧ x4 < 190) ∧ ((0 ≤ x4 ∧ x4 < 190) ∧ ((0 ≤ h 581 x4 ∧ h 581 x4 < 20) ∧ ((0 ≤ h 581 x4 ∧ h 581 x4 < 20) ∧ ((0 ≤ x4 ∧ x4 < 190) ∧ ((0 ≤ x4 ∧ x4 < 190) ∧ ((0 ≤ h 582 x4 ∧ h 582 x4 < 20) ∧ ((0 ≤ h 582 x4 ∧ h 582 x4 < 20) ∧ ((R32 x3) ∧ (((¬ x3 = 0) → (am_AT 1 292 72 [some (mR 1 12 0 571), some (mB s), some (mI x2), some (mI 1), some (mI (x4 + 1)), none] (am_up (am_up h 599 (h 581 x4) (h 599 (h 581 x4))) 599 (h 582 x4) ((am_up h 599 (h 581 x4) (h 599 (h 581 x4))) 599 (h 582 x4))) R)) ∧ ((x3 = 0) → (am_AT 1 292 72 [some (mR 1 12 0 571), some (mB s), some (mI x2), some (mI 0), some (mI (x4 + 1)), none] (am_up (am_up h 599 (h 581 x4) (h 599 (h 581 x4))) 599 (h 582 x4) ((am_up h 599 (h 581 x4) (h 599 (h 581 x4))) 599 (h 582 x4))) R))))))))))))) ∧ ((¬ h 584 x4 = s) → ((0 ≤ x4 ∧ x4 < 190) ∧ ((0 ≤ h 581 x4 ∧ h 581 x4 < 20) ∧ (((¬ h 599 (h 581 x4) = h 571 43) → ((0 ≤ x4 ∧ x4 < 190) ∧ ((0 ≤ h 582 x4 ∧ h 582 x4 < 20) ∧ (((¬ h 599 (h 582 x4) = h 571 43) → ((0 ≤ x4 ∧ x4 < 190) ∧ ((0 ≤ x4 ∧ x4 < 190) ∧ ((0 ≤ h 581 x4 ∧ h 581 x4 < 20) ∧ ((0 ≤ h 581 x4 ∧ h 581 x4 < 20) ∧ ((0 ≤ x4 ∧ x4 < 190) ∧ ((0 ≤ x4 ∧ x4 < 190) ∧ ((0 ≤ h 582 x4 ∧ h 582 x4 < 20) ∧ ((0 ≤ h 582 x4 ∧ h 582 x4 < 20) ∧ ((R32 x3) ∧ (((¬ x3 = 0) → (am_AT 1 292 72 [some (mR 1 12 0 571), some (mB s), some (mI x2), some (mI 1), some (mI (x4 + 1)), none] (am_up (am_up h 599 (h 581 x4) (h 599 (h 581 x4))) 599 (h 582 x4) ((am_up h 599 (h 581 x4) (h 599 (h 581 x4))) 599 (h 582 x4))) R)) ∧ ((x3 = 0) → (am_AT 1 292 72 [some (mR 1 12 0 571), some (mB s), some (mI x2), some (mI 0), some (mI (x4 + 1)), none] (am_up (am_up h 599 (h 581 x4) (h 599 (h 581 x4))) 599 (h 582 x4) ((am_up h 599 (h 581 x4) (h 599 (h 581 x4))) 599 (h 582 x4))) R))))))))))))) ∧ ((h 599 (h 582 x4) = h 571 43) → ((0 ≤ x4 ∧ x4 < 190) ∧ ((0 ≤ h 581 x4 ∧ h 581 x4 < 20) ∧ ((0 ≤ x4 ∧ x4 < 190) ∧ ((0 ≤ h 582 x4 ∧ h 582 x4 < 20) ∧ ((R32 x3) ∧ (((¬ x3 = 0) → (am_AT 1 292 72 [some (mR 1 12 0 571), some (mB s), some (mI x2), some (mI 1), some (mI (x4 + 1)), none] (am_up (am_up h 599 (h 581 x4) (h 571 43)) 599 (h 582 x4) (h 571 43)) R)) ∧ ((x3 = 0) → (am_AT 1 292 72 [some (mR 1 12 0 571), some (mB s), some (mI x2), some (mI 1), some (mI (x4 + 1)), none] (am_up (am_up h 599 (h 581 x4) (h 571 43)) 599 (h 582 x4) (h 571 43)) R))))))))))))) ∧ ((h 599 (h 581 x4) = h 571 43) → ((0 ≤ x4 ∧ x4 < 190) ∧ ((0 ≤ h 582 x4 ∧ h 582 x4 < 20) ∧ (((¬ h 599 (h 582 x4) = h 571 43) → ((0 ≤ x4 ∧ x4 < 190) ∧ ((0 ≤ h 581 x4 ∧ h 581 x4 < 20) ∧ ((0 ≤ x4 ∧ x4 < 190) ∧ ((0 ≤ h 582 x4 ∧ h 582 x4 < 20) ∧ ((R32 x3) ∧ (((¬ x3 = 0) → (am_AT 1 292 72 [some (mR 1 12 0 571), some (mB s), some (mI x2), some (mI 1), some (mI (x4 + 1)), none] (am_up (am_up h 599 (h 581 x4) (h 571 43)) 599 (h 582 x4) (h 571 43)) R)) ∧ ((x3 = 0) → (am_AT 1 292 72 [some (mR 1 12 0 571), some (mB s), some (mI x2), some (mI 1), some (mI (x4 + 1)), none] (am_up (am_up h 599 (h 581 x4) (h 571 43)) 599 (h 582 x4) (h 571 43)) R))))))))) ∧ ((h 599 (h 582 x4) = h 571 43) → ((0 ≤ x4 ∧ x4 < 190) ∧ ((0 ≤ x4 ∧ x4 < 190) ∧ ((0 ≤ h 581 x4 ∧ h 581 x4 < 20) ∧ ((0 ≤ h 581 x4 ∧ h 581 x4 < 20) ∧ ((0 ≤ x4 ∧ x4 < 190) ∧ ((0 ≤ x4 ∧ x4 < 190) ∧ ((0 ≤ h 582 x4 ∧ h 582 x4 < 20) ∧ ((0 ≤ h 582 x4 ∧ h 582 x4 < 20) ∧ ((R32 x3) ∧ (((¬ x3 = 0) → (am_AT 1 292 72 [some (mR 1 12 0 571), some (mB s), some (mI x2), some (mI 1), some (mI (x4 + 1)), none] (am_up (am_up h 599 (h 581 x4) (h 599 (h 581 x4))) 599 (h 582 x4) ((am_up h 599 (h 581 x4) (h 599 (h 581 x4))) 599 (h 582 x4))) R)) ∧ ((x3 = 0) → (am_AT 1 292 72 [some (mR 1 12 0 571), some (mB s), some (mI x2), some (mI 0), some (mI (x4 + 1)), none] (am_up (am_up h 599 (h 581 x4) (h 599 (h 581 x4))) 599 (h 582 x4) ((am_up h 599 (h 581 x4) (h 599 (h 581 x4))) 599 (h 582 x4))) R)))))))))))))))))))))))))) : am_AT 1 292 72 [some (mR 1 12 0 571), some (mB s), some (mI x2), some (mI x3), some (mI x4), none] h R :=
  am_T (d := 0) (m := 292) (T := tb292) (mL := 6) (rk := 0) (cuts := [(2, [1, 1, 2, 0, 0, 0]), (28, [1, 1, 2, 0, 0, 0]), (63, [1, 1, 2, 2, 0, 0]), (72, [1, 1, 2, 2, 2, 0])]) (l := []) rfl trivial 81 (And.intro (t).1 (And.intro (fun c5 => ((t).2).1 c5) (fun c5 => And.intro (((t).2).2 c5).1 (And.intro (fun c6 => And.intro (((((t).2).2 c5).2).1 c6).1 (And.intro (fun _ => And.intro ((((((t).2).2 c5).2).1 c6).2).1 (And.intro (((((((t).2).2 c5).2).1 c6).2).2).1 (And.intro ((((((((t).2).2 c5).2).1 c6).2).2).2).1 (And.intro (((((((((t).2).2 c5).2).1 c6).2).2).2).2).1 (And.intro (fun _ => And.intro ((((((((((t).2).2 c5).2).1 c6).2).2).2).2).2).1 (And.intro (((((((((((t).2).2 c5).2).1 c6).2).2).2).2).2).2).1 (And.intro ((((((((((((t).2).2 c5).2).1 c6).2).2).2).2).2).2).2).1 (And.intro (((((((((((((t).2).2 c5).2).1 c6).2).2).2).2).2).2).2).2).1 (And.intro (fun c7 => ((((((((((((((t).2).2 c5).2).1 c6).2).2).2).2).2).2).2).2).2).1 c7) (fun c7 => And.intro (fun _ => ((((((((((((((t).2).2 c5).2).1 c6).2).2).2).2).2).2).2).2).2).2 c7) (fun c => absurd c (by decide)))))))) (fun c => absurd c (by decide))))))) (fun c => absurd c (by decide)))) (fun c6 => And.intro (((((t).2).2 c5).2).2 c6).1 (And.intro ((((((t).2).2 c5).2).2 c6).2).1 (And.intro (fun c8 => And.intro ((((((((t).2).2 c5).2).2 c6).2).2).1 c8).1 (And.intro (((((((((t).2).2 c5).2).2 c6).2).2).1 c8).2).1 (And.intro (fun c9 => And.intro (fun _ => And.intro (((((((((((t).2).2 c5).2).2 c6).2).2).1 c8).2).2).1 c9).1 (And.intro (fun _ => And.intro ((((((((((((t).2).2 c5).2).2 c6).2).2).1 c8).2).2).1 c9).2).1 (And.intro (((((((((((((t).2).2 c5).2).2 c6).2).2).1 c8).2).2).1 c9).2).2).1 (And.intro ((((((((((((((t).2).2 c5).2).2 c6).2).2).1 c8).2).2).1 c9).2).2).2).1 (And.intro (((((((((((((((t).2).2 c5).2).2 c6).2).2).1 c8).2).2).1 c9).2).2).2).2).1 (And.intro (fun _ => And.intro ((((((((((((((((t).2).2 c5).2).2 c6).2).2).1 c8).2).2).1 c9).2).2).2).2).2).1 (And.intro (((((((((((((((((t).2).2 c5).2).2 c6).2).2).1 c8).2).2).1 c9).2).2).2).2).2).2).1 (And.intro ((((((((((((((((((t).2).2 c5).2).2 c6).2).2).1 c8).2).2).1 c9).2).2).2).2).2).2).2).1 (And.intro (((((((((((((((((((t).2).2 c5).2).2 c6).2).2).1 c8).2).2).1 c9).2).2).2).2).2).2).2).2).1 (And.intro (fun c10 => ((((((((((((((((((((t).2).2 c5).2).2 c6).2).2).1 c8).2).2).1 c9).2).2).2).2).2).2).2).2).2).1 c10) (fun c10 => And.intro (fun _ => ((((((((((((((((((((t).2).2 c5).2).2 c6).2).2).1 c8).2).2).1 c9).2).2).2).2).2).2).2).2).2).2 c10) (fun c => absurd c (by decide)))))))) (fun c => absurd c (by decide))))))) (fun c => absurd c (by decide)))) (fun c => absurd c (by decide))) (fun c9 => And.intro (fun c => absurd c (by decide)) (fun _ => And.intro (((((((((((t).2).2 c5).2).2 c6).2).2).1 c8).2).2).2 c9).1 (And.intro (fun c => absurd c (by decide)) (fun _ => And.intro ((((((((((((t).2).2 c5).2).2 c6).2).2).1 c8).2).2).2 c9).2).1 (And.intro (((((((((((((t).2).2 c5).2).2 c6).2).2).1 c8).2).2).2 c9).2).2).1 (And.intro (fun c => absurd c (by decide)) (fun _ => And.intro ((((((((((((((t).2).2 c5).2).2 c6).2).2).1 c8).2).2).2 c9).2).2).2).1 (And.intro (((((((((((((((t).2).2 c5).2).2 c6).2).2).1 c8).2).2).2 c9).2).2).2).2).1 (And.intro (fun c11 => ((((((((((((((((t).2).2 c5).2).2 c6).2).2).1 c8).2).2).2 c9).2).2).2).2).2).1 c11) (fun c11 => And.intro (fun c => absurd c (by decide)) (fun _ => ((((((((((((((((t).2).2 c5).2).2 c6).2).2).1 c8).2).2).2 c9).2).2).2).2).2).2 c11)))))))))))))) (fun c8 => And.intro ((((((((t).2).2 c5).2).2 c6).2).2).2 c8).1 (And.intro (((((((((t).2).2 c5).2).2 c6).2).2).2 c8).2).1 (And.intro (fun c12 => And.intro (fun c => absurd c (by decide)) (fun _ => And.intro (((((((((((t).2).2 c5).2).2 c6).2).2).2 c8).2).2).1 c12).1 (And.intro (fun c => absurd c (by decide)) (fun _ => And.intro ((((((((((((t).2).2 c5).2).2 c6).2).2).2 c8).2).2).1 c12).2).1 (And.intro (((((((((((((t).2).2 c5).2).2 c6).2).2).2 c8).2).2).1 c12).2).2).1 (And.intro (fun c => absurd c (by decide)) (fun _ => And.intro ((((((((((((((t).2).2 c5).2).2 c6).2).2).2 c8).2).2).1 c12).2).2).2).1 (And.intro (((((((((((((((t).2).2 c5).2).2 c6).2).2).2 c8).2).2).1 c12).2).2).2).2).1 (And.intro (fun c13 => ((((((((((((((((t).2).2 c5).2).2 c6).2).2).2 c8).2).2).1 c12).2).2).2).2).2).1 c13) (fun c13 => And.intro (fun c => absurd c (by decide)) (fun _ => ((((((((((((((((t).2).2 c5).2).2 c6).2).2).2 c8).2).2).1 c12).2).2).2).2).2).2 c13))))))))))) (fun c12 => And.intro (fun _ => And.intro (((((((((((t).2).2 c5).2).2 c6).2).2).2 c8).2).2).2 c12).1 (And.intro (fun _ => And.intro ((((((((((((t).2).2 c5).2).2 c6).2).2).2 c8).2).2).2 c12).2).1 (And.intro (((((((((((((t).2).2 c5).2).2 c6).2).2).2 c8).2).2).2 c12).2).2).1 (And.intro ((((((((((((((t).2).2 c5).2).2 c6).2).2).2 c8).2).2).2 c12).2).2).2).1 (And.intro (((((((((((((((t).2).2 c5).2).2 c6).2).2).2 c8).2).2).2 c12).2).2).2).2).1 (And.intro (fun _ => And.intro ((((((((((((((((t).2).2 c5).2).2 c6).2).2).2 c8).2).2).2 c12).2).2).2).2).2).1 (And.intro (((((((((((((((((t).2).2 c5).2).2 c6).2).2).2 c8).2).2).2 c12).2).2).2).2).2).2).1 (And.intro ((((((((((((((((((t).2).2 c5).2).2 c6).2).2).2 c8).2).2).2 c12).2).2).2).2).2).2).2).1 (And.intro (((((((((((((((((((t).2).2 c5).2).2 c6).2).2).2 c8).2).2).2 c12).2).2).2).2).2).2).2).2).1 (And.intro (fun c14 => ((((((((((((((((((((t).2).2 c5).2).2 c6).2).2).2 c8).2).2).2 c12).2).2).2).2).2).2).2).2).2).1 c14) (fun c14 => And.intro (fun _ => ((((((((((((((((((((t).2).2 c5).2).2 c6).2).2).2 c8).2).2).2 c12).2).2).2).2).2).2).2).2).2).2 c14) (fun c => absurd c (by decide)))))))) (fun c => absurd c (by decide))))))) (fun c => absurd c (by decide)))) (fun c => absurd c (by decide)))))))))))))
def GrT (g0 g1 : am_H) (n cc : Int) : Prop := ∃ q, (0 ≤ q ∧ q < n) ∧ g1 599 q = cc ∧ g0 599 q ≠ cc
/-- the pieces so far, the one of p being gathered -/
def PcI (E : Int → Int → Prop) (g g' : am_H) (n p cc : Int) : Prop := (∀ x i, x ≠ 599 → g' x i = g x i) ∧ (∀ q, 0 ≤ q → q < n → (fst E q < p → g' 599 q = lab E q) ∧ (p < fst E q → g' 599 q = -1) ∧ (fst E q = p → g' 599 q = cc ∨ g' 599 q = -1)) ∧ g' 599 p = cc
theorem L292 {K : Option am_V → am_H → Prop} {g : am_H} (H : Lda g) {s : Int} (hK : ∀ h', (∀ x i, x ≠ 599 → ¬ (x = 571 ∧ i = 43) → h' x i = g x i) ∧ h' 571 43 = ncl (uc (nr g 572 2) s) (g 572 0) ∧ (∀ p, 0 ≤ p → p < g 572 0 → h' 599 p = lab (uc (nr g 572 2) s) p) → K none h') : ∀ p (hh : am_H), 0 ≤ p → p ≤ g 572 0 → (∀ x i, x ≠ 599 → ¬ (x = 571 ∧ i = 43) → hh x i = g x i) → hh 571 43 = ct (fun j => fst (uc (nr g 572 2) s) j = j) p.toNat → (∀ q, 0 ≤ q → q < g 572 0 → hh 599 q = if fst (uc (nr g 572 2) s) q < p then lab (uc (nr g 572 2) s) q else -1) → am_AT 1 292 28 [some (mR 1 12 0 571), some (mB s), some (mI p), none, none, none] hh K := by
  obtain ⟨hN, hC, hD⟩ := H
  have hn1 := hN.1
  have hn2 := hN.2.1
  have hnl := nl_r (nr g 572 2)
  have hs := uc_sym (s := s) hN
  obtain ⟨hF, hL, hS⟩ := hD
  generalize hr : nr g 572 2 = r at *
  generalize hE : uc r s = E at *
  refine lp (g 572 0) (fun p ih hh p0 p1 f1 f2 f3 => ?_)
  have en : hh 572 0 = g 572 0 := f1 _ _ (by omega) (by omega)
  have hfp := fst_ok hs p0
  have hct := ct_le (fun j => fst E j = j) p.toNat
  refine T292_28 ⟨by omega, ⟨fun c1 => ?_, fun c1 => ⟨by omega, ⟨fun c2 => ⟨by omega, ?_⟩, fun c2 => ?_⟩⟩⟩⟩
  · refine hK hh ⟨f1, ?_, fun q q0 q1 => ?_⟩
    · rw [f2, show p = g 572 0 by omega]; rfl
    · have := fst_ok hs q0
      rw [f3 q q0 q1, if_pos (by omega)]
  · have hf : fst E p = p := by
      have h1 := f3 p p0 (by omega)
      by_cases c : fst E p < p
      · rw [if_pos c, c2] at h1
        have := (lab_r hs p0 (show p < g 572 0 by omega)).1
        omega
      · omega
    rw [f2]
    have hlt : ∀ q, 0 ≤ q → fst E q < p → lab E q < ct (fun j => fst E j = j) p.toNat := fun q q0 hq => by
      have a1 := fst_ok hs q0
      have e1 := ct_to (P := fun j => fst E j = j) a1.1.1
      rw [am_b_t (fst_fst hs q0)] at e1
      have e2 := ct_mn (fun j => fst E j = j) (fst E q + 1).toNat (p.toNat - (fst E q + 1).toNat)
      rw [show (fst E q + 1).toNat + (p.toNat - (fst E q + 1).toNat) = p.toNat by omega] at e2
      unfold lab
      omega
    generalize hcc : ct (fun j => fst E j = j) p.toNat = cc at *
    have inT : ∀ g' q, PcI E hh g' (g 572 0) p cc → 0 ≤ q → q < g 572 0 → g' 599 q = cc → fst E q = p := fun g' q hI q0 q1 hq => by
      obtain ⟨-, b, -⟩ := hI
      have b1 := b q q0 q1
      by_cases c : fst E q < p
      · have h1 := b1.1 c
        have h2 := hlt q q0 c
        omega
      · by_cases c3 : p < fst E q
        · have h1 := b1.2.1 c3
          omega
        · omega
    have LW : ∀ z : am_H × Int, PcI E hh z.1 (g 572 0) p cc → (z.2 = 0 ∨ z.2 = 1) → (z.2 = 0 → ∀ a b, E a b → z.1 599 a = cc → z.1 599 b = cc) → am_AT 1 292 63 [some (mR 1 12 0 571), some (mB s), some (mI p), some (mI z.2), none, none] z.1 K := by
      refine lpm (fun z : am_H × Int => (2 * (20 - ct (fun q => q < g 572 0 ∧ z.1 599 q = cc) 20)).toNat + z.2.toNat) (fun z ihw hI hm hcl => ?_)
      obtain ⟨g0, mo⟩ := z
      have hm' : mo = 0 ∨ mo = 1 := hm
      have hI : PcI E hh g0 (g 572 0) p cc := hI
      have hcl : mo = 0 → ∀ a b, E a b → g0 599 a = cc → g0 599 b = cc := hcl
      show am_AT 1 292 63 [some (mR 1 12 0 571), some (mB s), some (mI p), some (mI mo), none, none] g0 K
      have e43 : g0 571 43 = cc := by rw [hI.1 _ _ (by omega), f2]
      refine T292_63 ⟨by omega, ⟨fun c1_1 => ⟨by show R32 (g0 571 43 + 1); rw [e43]; omega, ?_⟩, fun c1_1 => ?_⟩⟩
      · have hcl' := hcl c1_1
        refine ih (by omega) _ (by omega) (by omega) (fun x i hx1 hx2 => ?_) ?_ (fun q q0 q1 => ?_)
        · rw [am_up_n2 hx2]
          rw [show g0 x i = hh x i from hI.1 x i hx1]
          exact f1 x i hx1 hx2
        · rw [am_up_eq, ct_to p0, am_b_t hf, hcc]
          show g0 571 43 + 1 = _
          rw [e43]
        · rw [am_up_ne (by omega)]
          have b1 := hI.2.1 q q0 q1
          by_cases c : fst E q < p
          · rw [if_pos (by omega)]
            exact b1.1 c
          · by_cases c3 : fst E q = p
            · rw [if_pos (by omega)]
              have h1 : rc E p q := (fst_rc hs p0 q0).mpr (by rw [hf, c3])
              have h2 : g0 599 q = cc := rc_in (P := fun x => g0 599 x = cc) (fun a b ha hab => hcl' a b hab ha) hI.2.2 h1
              show g0 599 q = lab E q
              rw [h2]
              unfold lab
              rw [c3, hcc]
            · rw [if_neg (by omega)]
              exact b1.2.1 (by omega)
      · have hmo : mo = 1 := by have h0 : ¬ mo = 0 := c1_1; omega
        have LP : ∀ (k m : Int) (g1 : am_H), 0 ≤ k → k ≤ nl r → PcI E hh g1 (g 572 0) p cc → (∀ q, g0 599 q = cc → g1 599 q = cc) → (m = 0 ∨ m = 1) → (m = 0 → (∀ i, g1 599 i = g0 599 i) ∧ ∀ j, 0 ≤ j → j < k → lab (sdE r) j ≠ s → (g0 599 (lo r j) = cc ↔ g0 599 (hi r j) = cc)) → (m = 1 → GrT g0 g1 (g 572 0) cc) → am_AT 1 292 72 [some (mR 1 12 0 571), some (mB s), some (mI p), some (mI m), some (mI k), none] g1 K := by
          refine lp (nl r) (fun k ihk m g1 k0 k1 hJ hg hm2 hz0 hz1 => ?_)
          have e21 : g1 571 21 = nl r := by rw [hJ.1 _ _ (by omega), f1 _ _ (by omega) (by omega)]; exact hL.1
          have e43' : g1 571 43 = cc := by rw [hJ.1 _ _ (by omega), f2]
          have e84 : k < nl r → g1 584 k = lab (sdE r) k := fun hk => by rw [hJ.1 _ _ (by omega), f1 _ _ (by omega) (by omega)]; exact (hS.2.2 k k0 hk).2
          have e81 : k < nl r → (g1 581 k = lo r k ∧ g1 582 k = hi r k) ∧ (0 ≤ lo r k ∧ lo r k < g 572 0) ∧ (0 ≤ hi r k ∧ hi r k < g 572 0) ∧ lo r k < hi r k ∧ ad r (lo r k) (hi r k) := fun hk => by
            rw [hJ.1 _ _ (by omega), hJ.1 _ _ (by omega), f1 _ _ (by omega) (by omega), f1 _ _ (by omega) (by omega)]
            exact ⟨hL.2 k k0 hk, lo_n hN k0 hk⟩
          have stay : k < nl r → (lab (sdE r) k ≠ s → (g1 599 (lo r k) = cc ↔ g1 599 (hi r k) = cc)) → ∀ m', m' = m → am_AT 1 292 72 [some (mR 1 12 0 571), some (mB s), some (mI p), some (mI m'), some (mI (k + 1)), none] g1 K := fun hk hno m' em => by
            rw [em]
            refine ihk hk m g1 (by omega) (by omega) hJ hg hm2 (fun e => ⟨(hz0 e).1, fun j j0 j1 hj => ?_⟩) hz1
            by_cases c : j = k
            · rw [c] at hj ⊢
              rw [← (hz0 e).1, ← (hz0 e).1]
              exact hno hj
            · exact (hz0 e).2 j j0 (by omega) hj
          have grow : k < nl r → lab (sdE r) k ≠ s → ((g1 599 (lo r k) = cc ∧ ¬ g1 599 (hi r k) = cc) ∨ (¬ g1 599 (lo r k) = cc ∧ g1 599 (hi r k) = cc)) → am_AT 1 292 72 [some (mR 1 12 0 571), some (mB s), some (mI p), some (mI 1), some (mI (k + 1)), none] (am_up (am_up g1 599 (lo r k) cc) 599 (hi r k) cc) K := fun hk hne hx => by
            obtain ⟨-, a2, a3, a4, a5⟩ := e81 hk
            have hEd : E (lo r k) (hi r k) := by rw [← hE]; exact ⟨a5, by rw [lno_lo hN k0 hk]; exact hne⟩
            have hfe := (fst_rc hs a2.1 a3.1).mp (rc_1 hEd)
            have hfl : fst E (lo r k) = p := by
              rcases hx with w | w
              · exact inT g1 _ hJ a2.1 a2.2 w.1
              · rw [hfe]; exact inT g1 _ hJ a3.1 a3.2 w.2
            have hval : ∀ q, am_up (am_up g1 599 (lo r k) cc) 599 (hi r k) cc 599 q = if q = lo r k ∨ q = hi r k then cc else g1 599 q := fun q => by
              by_cases c : q = hi r k
              · rw [c, am_up_eq, if_pos (Or.inr rfl)]
              · rw [am_up_ne2 c]
                by_cases c3 : q = lo r k
                · rw [c3, am_up_eq, if_pos (Or.inl rfl)]
                · rw [am_up_ne2 c3, if_neg (fun w => w.elim c3 c)]
            refine ihk hk 1 _ (by omega) (by omega) ⟨fun x i hx1 => by rw [am_up_ne hx1, am_up_ne hx1]; exact hJ.1 x i hx1, fun q q0 q1 => ?_, ?_⟩ (fun q hq => ?_) (Or.inr rfl) (fun e => by omega) (fun _ => ?_)
            · rw [hval]
              by_cases c : q = lo r k ∨ q = hi r k
              · rw [if_pos c]
                have : fst E q = p := by rcases c with e | e <;> rw [e] <;> omega
                exact ⟨fun w => by omega, fun w => by omega, fun _ => Or.inl rfl⟩
              · rw [if_neg c]
                exact hJ.2.1 q q0 q1
            · rw [hval]
              by_cases c : p = lo r k ∨ p = hi r k
              · rw [if_pos c]
              · rw [if_neg c]; exact hJ.2.2
            · rw [hval]
              by_cases c : q = lo r k ∨ q = hi r k
              · rw [if_pos c]
              · rw [if_neg c]; exact hg q hq
            · rcases hx with w | w
              · exact ⟨hi r k, a3, by rw [hval, if_pos (Or.inr rfl)], fun e => w.2 (hg _ e)⟩
              · exact ⟨lo r k, a2, by rw [hval, if_pos (Or.inl rfl)], fun e => w.1 (hg _ e)⟩
          refine T292_72 ⟨by omega, ⟨fun c1_2 => ?_, fun c1_2 => ⟨by omega, ⟨fun c2_2 => ⟨by omega, ⟨by omega, ⟨by have := e81 (by omega); omega, ⟨by have := e81 (by omega); omega, ⟨by omega, ⟨by omega, ⟨by have := e81 (by omega); omega, ⟨by have := e81 (by omega); omega, ⟨by omega, ⟨fun c3 => ?_, fun c3 => ?_⟩⟩⟩⟩⟩⟩⟩⟩⟩⟩, fun c2_2 => ⟨by omega, ⟨by have := e81 (by omega); omega, ⟨fun c3 => ⟨by omega, ⟨by have := e81 (by omega); omega, ⟨fun c4 => ⟨by omega, ⟨by omega, ⟨by have := e81 (by omega); omega, ⟨by have := e81 (by omega); omega, ⟨by omega, ⟨by omega, ⟨by have := e81 (by omega); omega, ⟨by have := e81 (by omega); omega, ⟨by omega, ⟨fun c5 => ?_, fun c5 => ?_⟩⟩⟩⟩⟩⟩⟩⟩⟩⟩, fun c4 => ⟨by omega, ⟨by have := e81 (by omega); omega, ⟨by omega, ⟨by have := e81 (by omega); omega, ⟨by omega, ⟨fun c5 => ?_, fun c5 => ?_⟩⟩⟩⟩⟩⟩⟩⟩⟩, fun c3 => ⟨by omega, ⟨by have := e81 (by omega); omega, ⟨fun c4 => ⟨by omega, ⟨by have := e81 (by omega); omega, ⟨by omega, ⟨by have := e81 (by omega); omega, ⟨by omega, ⟨fun c5 => ?_, fun c5 => ?_⟩⟩⟩⟩⟩⟩, fun c4 => ⟨by omega, ⟨by omega, ⟨by have := e81 (by omega); omega, ⟨by have := e81 (by omega); omega, ⟨by omega, ⟨by omega, ⟨by have := e81 (by omega); omega, ⟨by have := e81 (by omega); omega, ⟨by omega, ⟨fun c5 => ?_, fun c5 => ?_⟩⟩⟩⟩⟩⟩⟩⟩⟩⟩⟩⟩⟩⟩⟩⟩⟩⟩⟩⟩
          · have hk : k = nl r := by omega
            refine ihw (g1, m) ?_ hJ hm2 (fun e a b hab ha => ?_)
            · show (2 * (20 - ct (fun q => q < g 572 0 ∧ g1 599 q = cc) 20)).toNat + m.toNat < (2 * (20 - ct (fun q => q < g 572 0 ∧ g0 599 q = cc) 20)).toNat + mo.toNat
              have w1 := ct_le (fun q => q < g 572 0 ∧ g1 599 q = cc) 20
              have w2 := ct_le (fun q => q < g 572 0 ∧ g0 599 q = cc) 20
              rcases hm2 with e | e
              · rw [ct_congr (P := fun q => q < g 572 0 ∧ g1 599 q = cc) (Q := fun q => q < g 572 0 ∧ g0 599 q = cc) 20 (fun q _ => by rw [(hz0 e).1])]
                omega
              · obtain ⟨q, q0, q1, q2⟩ := hz1 e
                have := ct_ss (P := fun q => q < g 572 0 ∧ g0 599 q = cc) (Q := fun q => q < g 572 0 ∧ g1 599 q = cc) (a := q) 20 q0.1 (by omega) (fun w => q2 w.2) ⟨q0.2, q1⟩ (fun k w => ⟨w.1, hg k w.2⟩)
                omega
            · have e' : m = 0 := e
              have ha' : g1 599 a = cc := ha
              show g1 599 b = cc
              rw [(hz0 e').1] at ha' ⊢
              have hab' := hab
              rw [← hE] at hab'
              have w1 := lno_ok hN hab'.1
              have w2 := (hz0 e').2 _ w1.1.1 (by omega) hab'.2
              rw [w1.2.1, w1.2.2] at w2
              by_cases c : a < b
              · rw [show min a b = a by omega, show max a b = b by omega] at w2
                exact w2.mp ha'
              · rw [show min a b = b by omega, show max a b = a by omega] at w2
                exact w2.mpr ha'
          · rw [am_up_id, am_up_id]
            exact stay (by omega) (fun w => absurd (e84 (by omega)) (fun z => w (by rw [← z]; exact c2_2))) _ (by omega)
          · rw [am_up_id, am_up_id]
            exact stay (by omega) (fun w => absurd (e84 (by omega)) (fun z => w (by rw [← z]; exact c2_2))) _ (by omega)
          · rw [am_up_id, am_up_id]
            have a := (e81 (by omega)).1
            rw [a.1, e43'] at c3
            rw [a.2, e43'] at c4
            exact stay (by omega) (fun _ => ⟨fun z => absurd z c3, fun z => absurd z c4⟩) _ (by omega)
          · rw [am_up_id, am_up_id]
            have a := (e81 (by omega)).1
            rw [a.1, e43'] at c3
            rw [a.2, e43'] at c4
            exact stay (by omega) (fun _ => ⟨fun z => absurd z c3, fun z => absurd z c4⟩) _ (by omega)
          · have a := (e81 (by omega)).1
            rw [a.1, e43'] at c3
            rw [a.2, e43'] at c4
            rw [a.1, a.2, e43']
            exact grow (by omega) (by rw [← e84 (by omega)]; exact c2_2) (Or.inr ⟨c3, c4⟩)
          · have a := (e81 (by omega)).1
            rw [a.1, e43'] at c3
            rw [a.2, e43'] at c4
            rw [a.1, a.2, e43']
            exact grow (by omega) (by rw [← e84 (by omega)]; exact c2_2) (Or.inr ⟨c3, c4⟩)
          · have a := (e81 (by omega)).1
            rw [a.1, e43'] at c3
            rw [a.2, e43'] at c4
            rw [a.1, a.2, e43']
            exact grow (by omega) (by rw [← e84 (by omega)]; exact c2_2) (Or.inl ⟨c3, c4⟩)
          · have a := (e81 (by omega)).1
            rw [a.1, e43'] at c3
            rw [a.2, e43'] at c4
            rw [a.1, a.2, e43']
            exact grow (by omega) (by rw [← e84 (by omega)]; exact c2_2) (Or.inl ⟨c3, c4⟩)
          · rw [am_up_id, am_up_id]
            have a := (e81 (by omega)).1
            rw [a.1, e43'] at c3
            rw [a.2, e43'] at c4
            exact stay (by omega) (fun _ => ⟨fun _ => c4, fun _ => c3⟩) _ (by omega)
          · rw [am_up_id, am_up_id]
            have a := (e81 (by omega)).1
            rw [a.1, e43'] at c3
            rw [a.2, e43'] at c4
            exact stay (by omega) (fun _ => ⟨fun _ => c4, fun _ => c3⟩) _ (by omega)
        refine LP 0 0 g0 (by omega) hnl.1 hI (fun q => id) (Or.inl rfl) (fun _ => ⟨fun i => rfl, fun j j0 j1 => by omega⟩) (fun e => by omega)
    refine LW (_, 1) ⟨fun x i hx => am_up_ne hx, fun q q0 q1 => ?_, am_up_eq⟩ (Or.inr rfl) (fun e => by have e' : (1 : Int) = 0 := e; omega)
    show (fst E q < p → am_up hh 599 p cc 599 q = lab E q) ∧ (p < fst E q → am_up hh 599 p cc 599 q = -1) ∧ (fst E q = p → am_up hh 599 p cc 599 q = cc ∨ am_up hh 599 p cc 599 q = -1)
    by_cases c : q = p
    · rw [c, am_up_eq]
      exact ⟨fun w => by omega, fun w => by omega, fun _ => Or.inl rfl⟩
    · rw [am_up_ne2 c, f3 q q0 q1]
      refine ⟨fun w => by rw [if_pos w], fun w => by rw [if_neg (by omega)], fun w => Or.inr (by rw [if_neg (by omega)])⟩
  · have hf : fst E p < p := Classical.byContradiction fun w => c2 (by rw [f3 p p0 (by omega), if_neg w])
    refine ih (by omega) hh (by omega) (by omega) f1 ?_ (fun q q0 q1 => ?_)
    · rw [f2, ct_to p0, am_b_f (by omega), Int.add_zero]
    · rw [f3 q q0 q1]
      have w2 : fst E q ≠ p := fun e => by
        have := fst_fst hs q0
        rw [e] at this
        omega
      by_cases c : fst E q < p
      · rw [if_pos c, if_pos (by omega)]
      · rw [if_neg c, if_neg (by omega)]
theorem L292a {K : Option am_V → am_H → Prop} {g : am_H} (H : Lda g) {s : Int} (hK : ∀ h', (∀ x i, x ≠ 599 → ¬ (x = 571 ∧ i = 43) → h' x i = g x i) ∧ h' 571 43 = ncl (uc (nr g 572 2) s) (g 572 0) ∧ (∀ p, 0 ≤ p → p < g 572 0 → h' 599 p = lab (uc (nr g 572 2) s) p) → K none h') : ∀ i (hh : am_H), 0 ≤ i → i ≤ 20 → (∀ x j, x ≠ 599 → hh x j = g x j) → (∀ q, 0 ≤ q → q < i → hh 599 q = -1) → am_AT 1 292 2 [some (mR 1 12 0 571), some (mB s), some (mI i), none, none, none] hh K := by
  have hN := H.1
  have hn2 := hN.2.1
  refine lp 20 (fun i ih hh i0 i1 f1 f2 => ?_)
  refine T292_2 ⟨by omega, ⟨fun c1 => ?_, fun c1 => ⟨by omega, ?_⟩⟩⟩
  · refine L292 H hK 0 _ (by omega) H.1.1 (fun x j hx1 hx2 => by rw [am_up_n2 hx2]; exact f1 x j hx1) am_up_eq (fun q q0 q1 => ?_)
    have := fst_ok (uc_sym (s := s) hN) q0
    rw [am_up_ne (by omega), if_neg (by omega)]
    exact f2 q q0 (by omega)
  · refine ih (by omega) _ (by omega) (by omega) (fun x j hx => by rw [am_up_ne hx]; exact f1 x j hx) (fun q q0 q1 => ?_)
    by_cases e : q = i
    · rw [e, am_up_eq]
    · rw [am_up_ne2 e]; exact f2 q q0 (by omega)
theorem C292_ok : am_CS 1 292 C292 := W292 (fun s h K hb => T292_0 (L292a hb.1 hb.2 0 h (by omega) (by omega) (fun x j _ => rfl) (fun q q0 q1 => by omega)))
/-! 293 FactorNetsModel.quotient -/
def C293 : am_K := fun as h K => am_a2 as (fun v0 v1 => am_oc 12 571 v0 (am_n v1 (fun s => (RIv h) ∧ (∀ (h' : am_H), RQ h h' ∧ h' 571 17 = 1 → K (some (mB (ifc (0 ≤ s ∧ s < ncl (sdE (nr h 572 2)) (nl (nr h 572 2))) (ncl (uc (nr h 572 2) s) (h 572 0)) (-2)))) (h')))))
theorem W293 {d : Nat} (H : ∀ (s : Int) (h : am_H) (K : Option am_V → am_H → Prop), (RIv h) ∧ (∀ (h' : am_H), RQ h h' ∧ h' 571 17 = 1 → K (some (mB (ifc (0 ≤ s ∧ s < ncl (sdE (nr h 572 2)) (nl (nr h 572 2))) (ncl (uc (nr h 572 2) s) (h 572 0)) (-2)))) (h')) → am_AT d 293 0 [some (mR 1 12 0 571), some (mB s)] h K) : am_CS d 293 C293 := by
  refine am_CS_of (T := tb293) (mL := 2) (rk := 1) rfl (fun as h K hC => ?_)
  obtain ⟨v0, v1, rfl, hC0⟩ := am_a2_e hC
  obtain ⟨e0, hC1⟩ := am_oc_e hC0
  subst e0
  obtain ⟨s, rfl, hC2⟩ := am_n_e hC1
  refine ⟨Nat.le_of_ble_eq_true rfl, ?_⟩
  exact H s h K hC2
theorem T293_0 {R : Option am_V → am_H → Prop} {h : am_H} {s : Int} (t : (RIv h) ∧ (∀ (h' : am_H), (LD h h') → (((0 ≤ s ∧ s < ncl (sdE (nr h 572 2)) (nl (nr h 572 2))) → (((NT (h' 572 0) (nr h' 572 2) ∧ CN (h' 572 0) (nr h' 572 2) ∧ RLd h' (h' 572 0) (nr h' 572 2))) ∧ (∀ (h'_1 : am_H), ((∀ x i, x ≠ 599 → ¬ (x = 571 ∧ i = 43) → h'_1 x i = h' x i) ∧ h'_1 571 43 = ncl (uc (nr h' 572 2) s) (h' 572 0) ∧ (∀ p, 0 ≤ p → p < (h' 572 0) → h'_1 599 p = lab (uc (nr h' 572 2) s) p)) → (R (some (mB ((h'_1) 571 43))) h'_1)))) ∧ ((¬ (0 ≤ s ∧ s < ncl (sdE (nr h 572 2)) (nl (nr h 572 2)))) → (R (some (mB (-2))) h'))))) : am_AT 6 293 0 [some (mR 1 12 0 571), some (mB s)] h R :=
  am_T (d := 5) (m := 293) (T := tb293) (mL := 2) (rk := 1) (cuts := []) (l := [(223, C223), (292, C292)]) rfl ⟨am_CS_d (by decide) C223_ok, am_CS_d (by decide) C292_ok, trivial⟩ 14 (And.intro (rfl) (And.intro (t).1 (fun z1_0 z1_1 => And.intro (fun c15 => And.intro (rfl) (And.intro ((((t).2) z1_0 z1_1).1 c15).1 (fun z2_0 z2_1 => (((((t).2) z1_0 z1_1).1 c15).2) z2_0 z2_1))) (fun c15 => (((t).2) z1_0 z1_1).2 c15))))
theorem C293_ok : am_CS 6 293 C293 := W293 (fun s h K hb => by
  refine T293_0 ⟨hb.1, fun h' q1 => ⟨fun c2 => ⟨LD_a q1, fun h'_1 q3 => ?_⟩, fun c2 => ?_⟩⟩
  · have e := hb.2 h'_1 ⟨LD_fr q1 (fun x i hx => q3.1 x i (by unfold PR at hx; omega) (by unfold PR at hx; omega)), by rw [q3.1 _ _ (by omega) (by omega)]; exact q1.2.2.2.1⟩
    have w := q3.2.1
    rw [q1.2.1, q1.2.2.1] at w
    exact am_rB e (by rw [ifc_t c2, w])
  · exact am_rB (hb.2 h' ⟨LD_q q1, q1.2.2.2.1⟩) (ifc_f c2))
/-! 294 FactorNetsModel.place -/
def C294 : am_K := fun as h K => am_a3 as (fun v0 v1 v2 => am_oc 12 571 v0 (am_n v1 (fun p => am_n v2 (fun s => (RIv h) ∧ (∀ (h' : am_H), RQ h h' → K (some (mB (ifc ((0 ≤ p ∧ p < (h 572 0)) ∧ (0 ≤ s ∧ s < ncl (sdE (nr h 572 2)) (nl (nr h 572 2)))) (lab (uc (nr h 572 2) s) p) (-2)))) (h'))))))
theorem W294 {d : Nat} (H : ∀ (p : Int) (s : Int) (h : am_H) (K : Option am_V → am_H → Prop), (RIv h) ∧ (∀ (h' : am_H), RQ h h' → K (some (mB (ifc ((0 ≤ p ∧ p < (h 572 0)) ∧ (0 ≤ s ∧ s < ncl (sdE (nr h 572 2)) (nl (nr h 572 2)))) (lab (uc (nr h 572 2) s) p) (-2)))) (h')) → am_AT d 294 0 [some (mR 1 12 0 571), some (mB p), some (mB s)] h K) : am_CS d 294 C294 := by
  refine am_CS_of (T := tb294) (mL := 3) (rk := 1) rfl (fun as h K hC => ?_)
  obtain ⟨v0, v1, v2, rfl, hC0⟩ := am_a3_e hC
  obtain ⟨e0, hC1⟩ := am_oc_e hC0
  subst e0
  obtain ⟨p, rfl, hC2⟩ := am_n_e hC1
  obtain ⟨s, rfl, hC3⟩ := am_n_e hC2
  refine ⟨Nat.le_of_ble_eq_true rfl, ?_⟩
  exact H p s h K hC3
theorem T294_0 {R : Option am_V → am_H → Prop} {h : am_H} {p : Int} {s : Int} (t : (RIv h) ∧ (∀ (h' : am_H), (LD h h') → (((¬ (0 ≤ s ∧ s < ncl (sdE (nr h 572 2)) (nl (nr h 572 2)))) → (R (some (mB (-2))) h')) ∧ ((0 ≤ s ∧ s < ncl (sdE (nr h 572 2)) (nl (nr h 572 2))) → ((h' 572 0 ≤ 20 ∧ 0 ≤ h' 572 0) ∧ (((0 ≤ p ∧ p < h' 572 0) → (((NT (h' 572 0) (nr h' 572 2) ∧ CN (h' 572 0) (nr h' 572 2) ∧ RLd h' (h' 572 0) (nr h' 572 2))) ∧ (∀ (h'_1 : am_H), ((∀ x i, x ≠ 599 → ¬ (x = 571 ∧ i = 43) → h'_1 x i = h' x i) ∧ h'_1 571 43 = ncl (uc (nr h' 572 2) s) (h' 572 0) ∧ (∀ p, 0 ≤ p → p < (h' 572 0) → h'_1 599 p = lab (uc (nr h' 572 2) s) p)) → ((0 ≤ p ∧ p < 20) ∧ (R (some (mB (h'_1 599 p))) h'_1))))) ∧ ((¬ (0 ≤ p ∧ p < h' 572 0)) → (R (some (mB (-2))) h')))))))) : am_AT 6 294 0 [some (mR 1 12 0 571), some (mB p), some (mB s)] h R :=
  am_T (d := 5) (m := 294) (T := tb294) (mL := 3) (rk := 1) (cuts := []) (l := [(210, C210), (223, C223), (292, C292)]) rfl ⟨am_CS_d (by decide) C210_ok, am_CS_d (by decide) C223_ok, am_CS_d (by decide) C292_ok, trivial⟩ 20 (And.intro (rfl) (And.intro (t).1 (fun z3_0 z3_1 => And.intro (fun c16 => (((t).2) z3_0 z3_1).1 c16) (fun c16 => And.intro (rfl) (And.intro ((((t).2) z3_0 z3_1).2 c16).1 (And.intro (fun c17 => And.intro (rfl) (And.intro ((((((t).2) z3_0 z3_1).2 c16).2).1 c17).1 (fun z4_0 z4_1 => And.intro ((((((((t).2) z3_0 z3_1).2 c16).2).1 c17).2) z4_0 z4_1).1 (((((((((t).2) z3_0 z3_1).2 c16).2).1 c17).2) z4_0 z4_1).2)))) (fun c17 => (((((t).2) z3_0 z3_1).2 c16).2).2 c17)))))))
theorem C294_ok : am_CS 6 294 C294 := W294 (fun p s h K hb => by
  have hn1 := hb.1.1.1
  have hn2 := hb.1.1.2.1
  refine T294_0 ⟨hb.1, fun h' q1 => ⟨fun c2 => ?_, fun c2 => ⟨by have en := q1.2.2.1; omega, ⟨fun c3 => ⟨LD_a q1, fun h'_1 q4 => ⟨by have en := q1.2.2.1; omega, ?_⟩⟩, fun c3 => ?_⟩⟩⟩⟩
  · exact am_rB (hb.2 h' (LD_q q1)) (ifc_f (fun z => c2 z.2))
  · have e := hb.2 h'_1 (LD_fr q1 (fun x i hx => q4.1 x i (by unfold PR at hx; omega) (by unfold PR at hx; omega)))
    have en := q1.2.2.1
    have w := q4.2.2 p c3.1 c3.2
    rw [q1.2.1] at w
    exact am_rB e (by rw [ifc_t ⟨by omega, c2⟩, w])
  · have en := q1.2.2.1
    exact am_rB (hb.2 h' (LD_q q1)) (ifc_f (fun z => c3 (by omega))))
/-! 295 FactorNetsModel.sideFar -/
def C295 : am_K := fun as h K => am_a4 as (fun v0 v1 v2 v3 => am_oc 12 571 v0 (am_n v1 (fun s => am_n v2 (fun p => am_n v3 (fun q => (RIv h) ∧ (∀ (h' : am_H), RQ h h' → K (some (mB (ifc ((0 ≤ s ∧ s < ncl (sdE (nr h 572 2)) (nl (nr h 572 2))) ∧ (0 ≤ p ∧ p < (h 572 0)) ∧ (0 ≤ q ∧ q < (h 572 0))) (ds (qE (nr h 572 2) s) (lab (uc (nr h 572 2) s) p) (lab (uc (nr h 572 2) s) q)) (-2)))) (h')))))))
theorem W295 {d : Nat} (H : ∀ (s : Int) (p : Int) (q : Int) (h : am_H) (K : Option am_V → am_H → Prop), (RIv h) ∧ (∀ (h' : am_H), RQ h h' → K (some (mB (ifc ((0 ≤ s ∧ s < ncl (sdE (nr h 572 2)) (nl (nr h 572 2))) ∧ (0 ≤ p ∧ p < (h 572 0)) ∧ (0 ≤ q ∧ q < (h 572 0))) (ds (qE (nr h 572 2) s) (lab (uc (nr h 572 2) s) p) (lab (uc (nr h 572 2) s) q)) (-2)))) (h')) → am_AT d 295 0 [some (mR 1 12 0 571), some (mB s), some (mB p), some (mB q), none, none, none, none] h K) : am_CS d 295 C295 := by
  refine am_CS_of (T := tb295) (mL := 8) (rk := 1) rfl (fun as h K hC => ?_)
  obtain ⟨v0, v1, v2, v3, rfl, hC0⟩ := am_a4_e hC
  obtain ⟨e0, hC1⟩ := am_oc_e hC0
  subst e0
  obtain ⟨s, rfl, hC2⟩ := am_n_e hC1
  obtain ⟨p, rfl, hC3⟩ := am_n_e hC2
  obtain ⟨q, rfl, hC4⟩ := am_n_e hC3
  refine ⟨Nat.le_of_ble_eq_true rfl, ?_⟩
  exact H s p q h K hC4
theorem T295_0 {R : Option am_V → am_H → Prop} {h : am_H} {s : Int} {p : Int} {q : Int} (t : (RIv h) ∧ (∀ (h' : am_H), (LD h h') → (((¬ (0 ≤ s ∧ s < ncl (sdE (nr h 572 2)) (nl (nr h 572 2)))) → (R (some (mB (-2))) h')) ∧ ((0 ≤ s ∧ s < ncl (sdE (nr h 572 2)) (nl (nr h 572 2))) → ((RIv h') ∧ (∀ (h'_1 : am_H), (LD h' h'_1) → ((((0 ≤ p ∧ p < (h' 572 0)) ∧ (0 ≤ q ∧ q < (h' 572 0))) → (((NT (h'_1 572 0) (nr h'_1 572 2) ∧ CN (h'_1 572 0) (nr h'_1 572 2) ∧ RLd h'_1 (h'_1 572 0) (nr h'_1 572 2))) ∧ (∀ (h'_2 : am_H), ((∀ x i, x ≠ 599 → ¬ (x = 571 ∧ i = 43) → h'_2 x i = h'_1 x i) ∧ h'_2 571 43 = ncl (uc (nr h'_1 572 2) s) (h'_1 572 0) ∧ (∀ p, 0 ≤ p → p < (h'_1 572 0) → h'_2 599 p = lab (uc (nr h'_1 572 2) s) p)) → (am_AT 6 295 28 [some (mR 1 12 0 571), some (mB s), some (mB p), some (mB q), some (mI 0), none, none, none] h'_2 R)))) ∧ ((¬ ((0 ≤ p ∧ p < (h' 572 0)) ∧ (0 ≤ q ∧ q < (h' 572 0)))) → (R (some (mB (-2))) h'_1))))))))) : am_AT 6 295 0 [some (mR 1 12 0 571), some (mB s), some (mB p), some (mB q), none, none, none, none] h R :=
  am_T (d := 5) (m := 295) (T := tb295) (mL := 8) (rk := 1) (cuts := [(28, [1, 1, 1, 1, 2, 0, 0, 0]), (71, [1, 1, 0, 1, 2, 0, 0, 0]), (83, [1, 1, 0, 1, 2, 2, 0, 0])]) (l := [(223, C223), (224, C224), (292, C292)]) rfl ⟨am_CS_d (by decide) C223_ok, am_CS_d (by decide) C224_ok, am_CS_d (by decide) C292_ok, trivial⟩ 18 (And.intro (rfl) (And.intro (t).1 (fun z5_0 z5_1 => And.intro (fun c18 => (((t).2) z5_0 z5_1).1 c18) (fun c18 => And.intro (rfl) (And.intro ((((t).2) z5_0 z5_1).2 c18).1 (fun z6_0 z6_1 => And.intro (fun c19 => And.intro (rfl) (And.intro (((((((t).2) z5_0 z5_1).2 c18).2) z6_0 z6_1).1 c19).1 (fun z7_0 z7_1 => ((((((((t).2) z5_0 z5_1).2 c18).2) z6_0 z6_1).1 c19).2) z7_0 z7_1))) (fun c19 => ((((((t).2) z5_0 z5_1).2 c18).2) z6_0 z6_1).2 c19)))))))
theorem T295_28 {R : Option am_V → am_H → Prop} {h : am_H} {s : Int} {p : Int} {q : Int} {x4 : Int} (t : (R32 x4) ∧ (((h 571 43 ≤ x4) → (am_AT 6 295 71 [some (mR 1 12 0 571), some (mB s), none, some (mB q), some (mI 0), none, none, none] h R)) ∧ ((x4 < h 571 43) → ((0 ≤ p ∧ p < 20) ∧ ((R32 x4) ∧ (((¬ x4 = h 599 p) → ((0 ≤ x4 ∧ x4 < 20) ∧ (am_AT 6 295 28 [some (mR 1 12 0 571), some (mB s), some (mB p), some (mB q), some (mI (x4 + 1)), none, none, none] (am_up h 600 x4 1000) R))) ∧ ((x4 = h 599 p) → ((0 ≤ x4 ∧ x4 < 20) ∧ (am_AT 6 295 28 [some (mR 1 12 0 571), some (mB s), some (mB p), some (mB q), some (mI (x4 + 1)), none, none, none] (am_up h 600 x4 0) R))))))))) : am_AT 6 295 28 [some (mR 1 12 0 571), some (mB s), some (mB p), some (mB q), some (mI x4), none, none, none] h R :=
  am_T (d := 5) (m := 295) (T := tb295) (mL := 8) (rk := 1) (cuts := [(28, [1, 1, 1, 1, 2, 0, 0, 0]), (71, [1, 1, 0, 1, 2, 0, 0, 0]), (83, [1, 1, 0, 1, 2, 2, 0, 0])]) (l := [(223, C223), (224, C224), (292, C292)]) rfl ⟨am_CS_d (by decide) C223_ok, am_CS_d (by decide) C224_ok, am_CS_d (by decide) C292_ok, trivial⟩ 22 (And.intro (t).1 (And.intro (fun c20 => ((t).2).1 c20) (fun c20 => And.intro (((t).2).2 c20).1 (And.intro ((((t).2).2 c20).2).1 (And.intro (fun c21 => And.intro ((((((t).2).2 c20).2).2).1 c21).1 (((((((t).2).2 c20).2).2).1 c21).2)) (fun c21 => And.intro ((((((t).2).2 c20).2).2).2 c21).1 (((((((t).2).2 c20).2).2).2 c21).2)))))))
theorem T295_71 {R : Option am_V → am_H → Prop} {h : am_H} {s : Int} {q : Int} {x4 : Int} (t : (R32 x4) ∧ (((h 571 43 ≤ x4) → ((0 ≤ q ∧ q < 20) ∧ ((0 ≤ h 599 q ∧ h 599 q < 20) ∧ (R (some (mB (h 600 (h 599 q)))) h)))) ∧ ((x4 < h 571 43) → (am_AT 6 295 83 [some (mR 1 12 0 571), some (mB s), none, some (mB q), some (mI x4), some (mI 0), none, none] h R)))) : am_AT 6 295 71 [some (mR 1 12 0 571), some (mB s), none, some (mB q), some (mI x4), none, none, none] h R :=
  am_T (d := 5) (m := 295) (T := tb295) (mL := 8) (rk := 1) (cuts := [(28, [1, 1, 1, 1, 2, 0, 0, 0]), (71, [1, 1, 0, 1, 2, 0, 0, 0]), (83, [1, 1, 0, 1, 2, 2, 0, 0])]) (l := [(223, C223), (224, C224), (292, C292)]) rfl ⟨am_CS_d (by decide) C223_ok, am_CS_d (by decide) C224_ok, am_CS_d (by decide) C292_ok, trivial⟩ 16 (And.intro (t).1 (And.intro (fun c22 => And.intro (((t).2).1 c22).1 (And.intro ((((t).2).1 c22).2).1 (((((t).2).1 c22).2).2))) (fun c22 => ((t).2).2 c22)))
theorem T295_83 {R : Option am_V → am_H → Prop} {h : am_H} {s : Int} {q : Int} {x4 : Int} {x5 : Int} (t : (R32 x5) ∧ (((h 571 21 ≤ x5) → (am_AT 6 295 71 [some (mR 1 12 0 571), some (mB s), none, some (mB q), some (mI (x4 + 1)), none, none, none] h R)) ∧ ((x5 < h 571 21) → ((0 ≤ x5 ∧ x5 < 190) ∧ (((h 584 x5 = s) → ((0 ≤ x5 ∧ x5 < 190) ∧ ((0 ≤ h 581 x5 ∧ h 581 x5 < 20) ∧ ((0 ≤ x5 ∧ x5 < 190) ∧ ((0 ≤ h 582 x5 ∧ h 582 x5 < 20) ∧ ((0 ≤ h 599 (h 581 x5) ∧ h 599 (h 581 x5) < 20) ∧ ((0 ≤ h 599 (h 582 x5) ∧ h 599 (h 582 x5) < 20) ∧ ((R32 ((h 600 (h 599 (h 582 x5))) + 1)) ∧ ((0 ≤ h 599 (h 581 x5) ∧ h 599 (h 581 x5) < 20) ∧ ((0 ≤ h 599 (h 582 x5) ∧ h 599 (h 582 x5) < 20) ∧ ((0 ≤ h 599 (h 581 x5) ∧ h 599 (h 581 x5) < 20) ∧ ((R32 (((am_up h 600 (h 599 (h 581 x5)) (min (h 600 (h 599 (h 581 x5))) ((h 600 (h 599 (h 582 x5))) + 1))) 600 (h 599 (h 581 x5))) + 1)) ∧ ((0 ≤ h 599 (h 582 x5) ∧ h 599 (h 582 x5) < 20) ∧ (am_AT 6 295 83 [some (mR 1 12 0 571), some (mB s), none, some (mB q), some (mI x4), some (mI (x5 + 1)), none, none] (am_up (am_up h 600 (h 599 (h 581 x5)) (min (h 600 (h 599 (h 581 x5))) ((h 600 (h 599 (h 582 x5))) + 1))) 600 (h 599 (h 582 x5)) (min ((am_up h 600 (h 599 (h 581 x5)) (min (h 600 (h 599 (h 581 x5))) ((h 600 (h 599 (h 582 x5))) + 1))) 600 (h 599 (h 582 x5))) (((am_up h 600 (h 599 (h 581 x5)) (min (h 600 (h 599 (h 581 x5))) ((h 600 (h 599 (h 582 x5))) + 1))) 600 (h 599 (h 581 x5))) + 1))) R)))))))))))))) ∧ ((¬ h 584 x5 = s) → (am_AT 6 295 83 [some (mR 1 12 0 571), some (mB s), none, some (mB q), some (mI x4), some (mI (x5 + 1)), none, none] h R))))))) : am_AT 6 295 83 [some (mR 1 12 0 571), some (mB s), none, some (mB q), some (mI x4), some (mI x5), none, none] h R :=
  am_T (d := 5) (m := 295) (T := tb295) (mL := 8) (rk := 1) (cuts := [(28, [1, 1, 1, 1, 2, 0, 0, 0]), (71, [1, 1, 0, 1, 2, 0, 0, 0]), (83, [1, 1, 0, 1, 2, 2, 0, 0])]) (l := [(223, C223), (224, C224), (292, C292)]) rfl ⟨am_CS_d (by decide) C223_ok, am_CS_d (by decide) C224_ok, am_CS_d (by decide) C292_ok, trivial⟩ 62 (And.intro (t).1 (And.intro (fun c23 => ((t).2).1 c23) (fun c23 => And.intro (((t).2).2 c23).1 (And.intro (fun c24 => And.intro (((((t).2).2 c23).2).1 c24).1 (And.intro ((((((t).2).2 c23).2).1 c24).2).1 (And.intro (((((((t).2).2 c23).2).1 c24).2).2).1 (And.intro ((((((((t).2).2 c23).2).1 c24).2).2).2).1 (And.intro (((((((((t).2).2 c23).2).1 c24).2).2).2).2).1 (And.intro ((((((((((t).2).2 c23).2).1 c24).2).2).2).2).2).1 (And.intro (((((((((((t).2).2 c23).2).1 c24).2).2).2).2).2).2).1 (And.intro ((((((((((((t).2).2 c23).2).1 c24).2).2).2).2).2).2).2).1 (And.intro (((((((((((((t).2).2 c23).2).1 c24).2).2).2).2).2).2).2).2).1 (And.intro ((((((((((((((t).2).2 c23).2).1 c24).2).2).2).2).2).2).2).2).2).1 (And.intro (((((((((((((((t).2).2 c23).2).1 c24).2).2).2).2).2).2).2).2).2).2).1 (And.intro ((((((((((((((((t).2).2 c23).2).1 c24).2).2).2).2).2).2).2).2).2).2).2).1 (((((((((((((((((t).2).2 c23).2).1 c24).2).2).2).2).2).2).2).2).2).2).2).2))))))))))))) (fun c24 => ((((t).2).2 c23).2).2 c24)))))
theorem lab_sur {E : Int → Int → Prop} {n a : Int} (h0 : 0 ≤ a) (h1 : a < ncl E n) : ∃ q, (0 ≤ q ∧ q < n) ∧ lab E q = a := by
  obtain ⟨b, b1, b2, b3⟩ := ct_find (P := fun j => fst E j = j) n.toNat h0 h1
  refine ⟨b, by omega, ?_⟩
  unfold lab
  rw [b3, Int.toNat_natCast]
  exact b2
theorem L295 {K : Option am_V → am_H → Prop} {g : am_H} (H : Lda g) {s p q : Int} (hp : 0 ≤ p ∧ p < g 572 0) (hq : 0 ≤ q ∧ q < g 572 0) (e43 : g 571 43 = ncl (uc (nr g 572 2) s) (g 572 0)) (e99 : ∀ p, 0 ≤ p → p < g 572 0 → g 599 p = lab (uc (nr g 572 2) s) p) (hK : ∀ h', (∀ x i, x ≠ 600 → h' x i = g x i) → K (some (mB (ds (qE (nr g 572 2) s) (lab (uc (nr g 572 2) s) p) (lab (uc (nr g 572 2) s) q)))) h') : ∀ t (hh : am_H), 0 ≤ t → t ≤ ncl (uc (nr g 572 2) s) (g 572 0) → (∀ x i, x ≠ 600 → hh x i = g x i) → (∀ a, 0 ≤ a → a < ncl (uc (nr g 572 2) s) (g 572 0) → hh 600 a ≤ 1000 ∧ ds (qE (nr g 572 2) s) (lab (uc (nr g 572 2) s) p) a ≤ hh 600 a ∧ (ds (qE (nr g 572 2) s) (lab (uc (nr g 572 2) s) p) a ≤ t → hh 600 a = ds (qE (nr g 572 2) s) (lab (uc (nr g 572 2) s) p) a)) → am_AT 6 295 71 [some (mR 1 12 0 571), some (mB s), none, some (mB q), some (mI t), none, none, none] hh K := by
  obtain ⟨hN, hC, hD⟩ := H
  have hn1 := hN.1
  have hn2 := hN.2.1
  have hnl := nl_r (nr g 572 2)
  have hs := uc_sym (s := s) hN
  have hqs := qE_sym (s := s) hN
  obtain ⟨hF, hL, hS⟩ := hD
  have hcl := ncl_rn (E := uc (nr g 572 2) s) hn1
  have hqr : ∀ a, 0 ≤ a → a < ncl (uc (nr g 572 2) s) (g 572 0) → rc (qE (nr g 572 2) s) (lab (uc (nr g 572 2) s) p) a := fun a a0 a1 => by
    obtain ⟨w, w1, w2⟩ := lab_sur a0 a1
    rw [← w2]
    exact q_rc hN hC hp w1
  have hqn : ∀ a, 0 ≤ a → a < ncl (uc (nr g 572 2) s) (g 572 0) → 0 ≤ ds (qE (nr g 572 2) s) (lab (uc (nr g 572 2) s) p) a ∧ ds (qE (nr g 572 2) s) (lab (uc (nr g 572 2) s) p) a < ncl (uc (nr g 572 2) s) (g 572 0) := fun a a0 a1 => by
    obtain ⟨w, w1, w2⟩ := ds_sh (hqr a a0 a1)
    have := sh_lt (n := (ncl (uc (nr g 572 2) s) (g 572 0)).toNat) (fun x y _ w => by have := qE_r hN w; omega) (by have := lab_r hs hp.1 hp.2; omega) w1
    omega
  have lq := lab_r hs hq.1 hq.2
  generalize hr : nr g 572 2 = r at *
  generalize ha0 : lab (uc r s) p = a0 at *
  generalize hm : ncl (uc r s) (g 572 0) = m at *
  have hDa : ∀ x y, qE r s x y → ds (qE r s) a0 y ≤ ds (qE r s) a0 x + 1 := fun x y hxy => by
    have w := qE_r hN hxy
    rw [hm] at w
    have w2 := ds_tri (hqr x w.1.1 w.1.2) (rc_1 hxy)
    rw [ds_1 hxy hxy.1] at w2
    exact w2
  refine lp m (fun t ih hh t0 t1 f1 f2 => ?_)
  have e43' : hh 571 43 = m := by rw [f1 _ _ (by omega)]; exact e43
  have eq' : hh 599 q = lab (uc r s) q := by rw [f1 _ _ (by omega)]; exact e99 q hq.1 hq.2
  refine T295_71 ⟨by omega, ⟨fun c1 => ⟨by omega, ⟨by rw [eq']; omega, ?_⟩⟩, fun c1 => ?_⟩⟩
  · rw [eq']
    have w := hqn _ lq.1 lq.2
    exact am_rB (hK hh f1) ((f2 _ lq.1 lq.2).2.2 (by omega)).symm
  · have LK : ∀ (k : Int) (g1 : am_H), 0 ≤ k → k ≤ nl r → (∀ x i, x ≠ 600 → g1 x i = g x i) → (∀ a, 0 ≤ a → a < m → g1 600 a ≤ 1000 ∧ ds (qE r s) a0 a ≤ g1 600 a ∧ (ds (qE r s) a0 a ≤ t → g1 600 a = ds (qE r s) a0 a)) → (∀ j, 0 ≤ j → j < k → lab (sdE r) j = s → (ds (qE r s) a0 (lab (uc r s) (lo r j)) ≤ t → g1 600 (lab (uc r s) (hi r j)) ≤ ds (qE r s) a0 (lab (uc r s) (lo r j)) + 1) ∧ (ds (qE r s) a0 (lab (uc r s) (hi r j)) ≤ t → g1 600 (lab (uc r s) (lo r j)) ≤ ds (qE r s) a0 (lab (uc r s) (hi r j)) + 1)) → am_AT 6 295 83 [some (mR 1 12 0 571), some (mB s), none, some (mB q), some (mI t), some (mI k), none, none] g1 K := by
      refine lp (nl r) (fun k ihk g1 k0 k1 h1 h2 h3 => ?_)
      have e21 : g1 571 21 = nl r := by rw [h1 _ _ (by omega)]; exact hL.1
      have e84 : k < nl r → g1 584 k = lab (sdE r) k := fun hk => by rw [h1 _ _ (by omega)]; exact (hS.2.2 k k0 hk).2
      have e81 : k < nl r → (g1 581 k = lo r k ∧ g1 582 k = hi r k) ∧ (0 ≤ lo r k ∧ lo r k < g 572 0) ∧ (0 ≤ hi r k ∧ hi r k < g 572 0) ∧ lo r k < hi r k ∧ ad r (lo r k) (hi r k) := fun hk => by
        rw [h1 _ _ (by omega), h1 _ _ (by omega)]
        exact ⟨hL.2 k k0 hk, lo_n hN k0 hk⟩
      have e99' : k < nl r → (g1 599 (g1 581 k) = lab (uc r s) (lo r k) ∧ g1 599 (g1 582 k) = lab (uc r s) (hi r k)) ∧ (0 ≤ lab (uc r s) (lo r k) ∧ lab (uc r s) (lo r k) < m) ∧ (0 ≤ lab (uc r s) (hi r k) ∧ lab (uc r s) (hi r k) < m) := fun hk => by
        obtain ⟨⟨a1, a2⟩, a3, a4, -⟩ := e81 hk
        rw [a1, a2, h1 _ _ (by omega), h1 _ _ (by omega), e99 _ a3.1 a3.2, e99 _ a4.1 a4.2]
        have w1 := lab_r hs a3.1 a3.2
        have w2 := lab_r hs a4.1 a4.2
        rw [hm] at w1 w2
        exact ⟨⟨rfl, rfl⟩, w1, w2⟩
      have hv : ∀ a, 0 ≤ a → a < m → 0 ≤ g1 600 a ∧ g1 600 a ≤ 1000 := fun a a0' a1 => by
        have w1 := hqn a a0' a1
        have w2 := h2 a a0' a1
        omega
      refine T295_83 ⟨by omega, ⟨fun c1 => ?_, fun c1 => ⟨by omega, ⟨fun c2 => ⟨by omega, ⟨by have := e81 (by omega); omega, ⟨by omega, ⟨by have := e81 (by omega); omega, ⟨by have := e99' (by omega); omega, ⟨by have := e99' (by omega); omega, ⟨by have w := e99' (by omega); have w2 := hv _ w.2.2.1 w.2.2.2; rw [w.1.2]; omega, ⟨by have := e99' (by omega); omega, ⟨by have := e99' (by omega); omega, ⟨by have := e99' (by omega); omega, ⟨by have w := e99' (by omega); have w2 := hv _ w.2.1.1 w.2.1.2; have w3 := hv _ w.2.2.1 w.2.2.2; rw [am_up_eq, w.1.1, w.1.2]; omega, ⟨by have := e99' (by omega); omega, ?_⟩⟩⟩⟩⟩⟩⟩⟩⟩⟩⟩⟩, fun c2 => ?_⟩⟩⟩⟩
      · refine ih (by omega) g1 (by omega) (by omega) h1 (fun a a0' a1 => ?_)
        obtain ⟨w1, w2, w3⟩ := h2 a a0' a1
        refine ⟨w1, w2, fun w4 => ?_⟩
        by_cases c : ds (qE r s) a0 a ≤ t
        · exact w3 c
        · have hne : a0 ≠ a := fun e => by
            rw [e, ds_0] at c
            omega
          obtain ⟨x, x1, x2, x3⟩ := ds_last (hqr a a0' a1) hne
          obtain ⟨-, p', q', x4, x5, x6⟩ := x1
          have y1 := lno_ok hN x4.1
          have y2 := h3 (lno r p' q') y1.1.1 (by omega) x4.2
          rw [y1.2.1, y1.2.2] at y2
          by_cases c3 : p' < q'
          · rw [show min p' q' = p' by omega, show max p' q' = q' by omega, x5, x6] at y2
            have := y2.1 (by omega)
            omega
          · rw [show min p' q' = q' by omega, show max p' q' = p' by omega, x5, x6] at y2
            have := y2.2 (by omega)
            omega
      · obtain ⟨⟨b1, b2⟩, b3, b4⟩ := e99' (by omega)
        obtain ⟨-, -, -, l3, l4⟩ := e81 (by omega)
        have hk : lab (sdE r) k = s := by rw [← e84 (by omega)]; exact c2
        have hadj : lab (uc r s) (lo r k) = lab (uc r s) (hi r k) ∨ (qE r s (lab (uc r s) (lo r k)) (lab (uc r s) (hi r k)) ∧ qE r s (lab (uc r s) (hi r k)) (lab (uc r s) (lo r k))) := by
          by_cases c : lab (uc r s) (lo r k) = lab (uc r s) (hi r k)
          · exact Or.inl c
          · have w : qE r s (lab (uc r s) (lo r k)) (lab (uc r s) (hi r k)) := ⟨c, lo r k, hi r k, ⟨l4, by rw [lno_lo hN k0 (by omega)]; exact hk⟩, rfl, rfl⟩
            exact Or.inr ⟨w, hqs _ _ w⟩
        rw [b1, b2, am_up_eq]
        generalize hX : lab (uc r s) (lo r k) = X at *
        generalize hY : lab (uc r s) (hi r k) = Y at *
        have vX := hv X b3.1 b3.2
        have vY := hv Y b4.1 b4.2
        have dX := h2 X b3.1 b3.2
        have dY := h2 Y b4.1 b4.2
        have hXY : ds (qE r s) a0 Y ≤ ds (qE r s) a0 X + 1 ∧ ds (qE r s) a0 X ≤ ds (qE r s) a0 Y + 1 := by
          rcases hadj with w | w
          · rw [w]; omega
          · exact ⟨hDa _ _ w.1, hDa _ _ w.2⟩
        have yv : am_up g1 600 X (min (g1 600 X) (g1 600 Y + 1)) 600 Y = if Y = X then min (g1 600 X) (g1 600 Y + 1) else g1 600 Y := by
          by_cases c : Y = X
          · rw [if_pos c, c, am_up_eq]
          · rw [if_neg c, am_up_ne2 c]
        rw [yv]
        have hval : ∀ a, am_up (am_up g1 600 X (min (g1 600 X) (g1 600 Y + 1))) 600 Y (min (if Y = X then min (g1 600 X) (g1 600 Y + 1) else g1 600 Y) (min (g1 600 X) (g1 600 Y + 1) + 1)) 600 a = if a = Y then min (g1 600 Y) (g1 600 X + 1) else if a = X then min (g1 600 X) (g1 600 Y + 1) else g1 600 a := fun a => by
          by_cases c : a = Y
          · rw [c, am_up_eq, if_pos rfl]
            by_cases c3 : Y = X
            · rw [if_pos c3, c3]; omega
            · rw [if_neg c3]; omega
          · rw [am_up_ne2 c, if_neg c]
            by_cases c3 : a = X
            · rw [c3, am_up_eq, if_pos rfl]
            · rw [am_up_ne2 c3, if_neg c3]
        have hdec : ∀ a, (if a = Y then min (g1 600 Y) (g1 600 X + 1) else if a = X then min (g1 600 X) (g1 600 Y + 1) else g1 600 a) ≤ g1 600 a := fun a => by
          by_cases c : a = Y
          · rw [if_pos c, c]; omega
          · rw [if_neg c]
            by_cases c3 : a = X
            · rw [if_pos c3, c3]; omega
            · rw [if_neg c3]; omega
        refine ihk (by omega) _ (by omega) (by omega) (fun x i hx => by rw [am_up_ne hx, am_up_ne hx]; exact h1 x i hx) (fun a a0' a1 => ?_) (fun j j0 j1 hj => ?_)
        · rw [hval]
          have w := h2 a a0' a1
          by_cases c : a = Y
          · rw [if_pos c]
            rw [c] at w ⊢
            exact ⟨by omega, by omega, fun w2 => by have := dY.2.2 w2; omega⟩
          · rw [if_neg c]
            by_cases c3 : a = X
            · rw [if_pos c3]
              rw [c3] at w ⊢
              exact ⟨by omega, by omega, fun w2 => by have := dX.2.2 w2; omega⟩
            · rw [if_neg c3]
              exact w
        · rw [hval, hval]
          by_cases c : j = k
          · rw [c, hX, hY]
            refine ⟨fun w => ?_, fun w => ?_⟩
            · have := dX.2.2 w
              rw [if_pos rfl]
              omega
            · have := dY.2.2 w
              by_cases c3 : X = Y
              · rw [if_pos c3]; rw [← c3] at this ⊢; omega
              · rw [if_neg c3, if_pos rfl]; omega
          · have w := h3 j j0 (by omega) hj
            have d1 := hdec (lab (uc r s) (hi r j))
            have d2 := hdec (lab (uc r s) (lo r j))
            exact ⟨fun w2 => by have := w.1 w2; omega, fun w2 => by have := w.2 w2; omega⟩
      · refine ihk (by omega) g1 (by omega) (by omega) h1 h2 (fun j j0 j1 hj => ?_)
        by_cases c : j = k
        · exact absurd (e84 (by omega)) (fun z => c2 (by rw [z, ← c]; exact hj))
        · exact h3 j j0 (by omega) hj
    exact LK 0 hh (by omega) hnl.1 f1 f2 (fun j j0 j1 => by omega)
theorem L295a {K : Option am_V → am_H → Prop} {g : am_H} (H : Lda g) {s p q : Int} (hp : 0 ≤ p ∧ p < g 572 0) (hq : 0 ≤ q ∧ q < g 572 0) (e43 : g 571 43 = ncl (uc (nr g 572 2) s) (g 572 0)) (e99 : ∀ p, 0 ≤ p → p < g 572 0 → g 599 p = lab (uc (nr g 572 2) s) p) (hK : ∀ h', (∀ x i, x ≠ 600 → h' x i = g x i) → K (some (mB (ds (qE (nr g 572 2) s) (lab (uc (nr g 572 2) s) p) (lab (uc (nr g 572 2) s) q)))) h') : ∀ i (hh : am_H), 0 ≤ i → i ≤ ncl (uc (nr g 572 2) s) (g 572 0) → (∀ x j, x ≠ 600 → hh x j = g x j) → (∀ a, 0 ≤ a → a < i → hh 600 a = if a = lab (uc (nr g 572 2) s) p then 0 else 1000) → am_AT 6 295 28 [some (mR 1 12 0 571), some (mB s), some (mB p), some (mB q), some (mI i), none, none, none] hh K := by
  have hN := H.1
  have hC := H.2.1
  have hn1 := hN.1
  have hn2 := hN.2.1
  have hs := uc_sym (s := s) hN
  have hcl := ncl_rn (E := uc (nr g 572 2) s) hn1
  refine lp (ncl (uc (nr g 572 2) s) (g 572 0)) (fun i ih hh i0 i1 f1 f2 => ?_)
  have e43' : hh 571 43 = ncl (uc (nr g 572 2) s) (g 572 0) := by rw [f1 _ _ (by omega)]; exact e43
  have ep : hh 599 p = lab (uc (nr g 572 2) s) p := by rw [f1 _ _ (by omega)]; exact e99 p hp.1 hp.2
  refine T295_28 ⟨by omega, ⟨fun c1 => ?_, fun c1 => ⟨by omega, ⟨by omega, ⟨fun c2 => ⟨by omega, ?_⟩, fun c2 => ⟨by omega, ?_⟩⟩⟩⟩⟩⟩
  · refine L295 H hp hq e43 e99 hK 0 hh (by omega) hcl.1 f1 (fun a a0' a1 => ?_)
    rw [f2 a a0' (by omega)]
    by_cases c : a = lab (uc (nr g 572 2) s) p
    · rw [if_pos c, c, ds_0]
      exact ⟨by omega, by omega, fun _ => rfl⟩
    · rw [if_neg c]
      obtain ⟨w, w1, w2⟩ := lab_sur a0' a1
      have hrq := q_rc (s := s) hN hC hp w1
      rw [w2] at hrq
      obtain ⟨dd, d1, d2⟩ := ds_sh hrq
      have := sh_lt (n := 20) (fun x y _ w => by have := qE_r hN w; omega) (by have := lab_r hs hp.1 hp.2; omega) d1
      refine ⟨by omega, by omega, fun w4 => ?_⟩
      have w5 := ds_nn hrq
      exact absurd (ds_z hrq (by omega)).symm c
  · refine ih (by omega) _ (by omega) (by omega) (fun x j hx => by rw [am_up_ne hx]; exact f1 x j hx) (fun a a0' a1 => ?_)
    by_cases e : a = i
    · rw [e, am_up_eq, if_neg (by rw [← ep]; exact c2)]
    · rw [am_up_ne2 e]; exact f2 a a0' (by omega)
  · refine ih (by omega) _ (by omega) (by omega) (fun x j hx => by rw [am_up_ne hx]; exact f1 x j hx) (fun a a0' a1 => ?_)
    by_cases e : a = i
    · rw [e, am_up_eq, if_pos (by rw [← ep]; exact c2)]
    · rw [am_up_ne2 e]; exact f2 a a0' (by omega)
theorem Lda_fr {g g' : am_H} (H : Lda g) (e : ∀ x i, x ≠ 599 → ¬ (x = 571 ∧ i = 43) → g' x i = g x i) : Lda g' := by
  have e1 : nr g' 572 2 = nr g 572 2 := nr_fr2 (fun i => e _ _ (by omega) (by omega))
  have e2 : g' 572 0 = g 572 0 := e _ _ (by omega) (by omega)
  unfold Lda
  rw [e1, e2]
  refine ⟨H.1, H.2.1, RF_fr H.2.2.1 (fun i => e _ _ (by omega) (by omega)), RLn_fr H.2.2.2.1 (e _ _ (by omega) (by omega)) (fun i => e _ _ (by omega) (by omega)) (fun i => e _ _ (by omega) (by omega)), ?_, ?_, fun k a b => ?_⟩
  · rw [e _ _ (by omega) (by omega)]; exact H.2.2.2.2.1
  · rw [e _ _ (by omega) (by omega)]; exact H.2.2.2.2.2.1
  · rw [e _ _ (by omega) (by omega), e _ _ (by omega) (by omega)]; exact H.2.2.2.2.2.2 k a b
theorem C295_ok : am_CS 6 295 C295 := W295 (fun s p q h K hb => by
  have hn1 := hb.1.1.1
  have hn2 := hb.1.1.2.1
  refine T295_0 ⟨hb.1, fun h' q1 => ⟨fun c2 => ?_, fun c2 => ⟨q1.2.2.2.2.1, fun h'_1 q3 => ⟨fun c4 => ⟨LD_a q3, fun h'_2 q5 => ?_⟩, fun c4 => ?_⟩⟩⟩⟩
  · exact am_rB (hb.2 h' (LD_q q1)) (ifc_f (fun z => c2 z.1))
  · have t := LD_tr q1 q3
    have en := q1.2.2.1
    have en2 := q3.2.2.1
    have e1 : nr h'_2 572 2 = nr h'_1 572 2 := nr_fr2 (fun i => q5.1 _ _ (by omega) (by omega))
    have e2 : h'_2 572 0 = h'_1 572 0 := q5.1 _ _ (by omega) (by omega)
    refine L295a (Lda_fr (LD_a q3) q5.1) (by omega) (by omega) (by rw [e1, e2]; exact q5.2.1) (fun x a b => by rw [e1]; exact q5.2.2 x a (by omega)) (fun h3 f3 => ?_) 0 h'_2 (by omega) (ncl_rn (by omega)).1 (fun x j _ => rfl) (fun a a0 a1 => by omega)
    have e := hb.2 h3 (LD_fr t (fun x i hx => by rw [f3 x i (by unfold PR at hx; omega)]; exact q5.1 x i (by unfold PR at hx; omega) (by unfold PR at hx; omega)))
    rw [ifc_t ⟨c2, by omega, by omega⟩] at e
    rw [e1, t.2.1]
    exact e
  · have en := q1.2.2.1
    exact am_rB (hb.2 h'_1 (LD_q (LD_tr q1 q3))) (ifc_f (fun z => c4 (by omega))))
