/-! ===== trees, in the reference ===== -/
def mx2 (h : am_H) : Int → Int → Int := fun i k => h 598 ((20 * i) + k)
theorem mx2_eq {g : am_H} {i k x : Int} : mx2 (am_up g 598 ((20 * i) + k) x) i k = x := am_up_eq
theorem mx2_ne {g : am_H} {i j r k x : Int} (hj : 0 ≤ j ∧ j < 20) (hk : 0 ≤ k ∧ k < 20) (e : ¬ (r = i ∧ k = j)) : mx2 (am_up g 598 ((20 * i) + j) x) r k = mx2 g r k := am_up_ne2 (by omega)
def EL2 (g : am_H) (M : Int → Int → Int) (c sz i j : Int) : Prop := ∀ r k, 0 ≤ r → r < sz → 0 ≤ k → k < sz → ((r < i ∨ (r = i ∧ k < j)) → mx2 g r k = mxe M c r k) ∧ (¬ (r < i ∨ (r = i ∧ k < j)) → mx2 g r k = M r k)
def SW2 (g : am_H) (M : Int → Int → Int) (c p sz j : Int) : Prop := ∀ r k, 0 ≤ r → r < sz → 0 ≤ k → k < sz → (k < j → mx2 g r k = mxs M c p r k) ∧ (¬ k < j → mx2 g r k = M r k)
def FI2 (g : am_H) (M : Int → Int → Int) (sz i j : Int) : Prop := ∀ r k, 0 ≤ r → r < sz → 0 ≤ k → k < sz → (r < i ∨ (r = i ∧ k < j)) → mx2 g r k = M r k
/-! 290 FactorNetsModel.trees -/
def C290 : am_K := fun as h K => am_a1 as (fun v0 => am_oc 12 571 v0 ((RIv h) ∧ (∀ (h' : am_H), RQ h h' → K (some (mB (ifc (0 < (h 572 0)) (dtm ((h 572 0) - 1) ((h 572 0) - 1).toNat 0 (mxl (nr h 572 2)) 1) (-2)))) (h'))))
theorem W290 {d : Nat} (H : ∀  (h : am_H) (K : Option am_V → am_H → Prop), (RIv h) ∧ (∀ (h' : am_H), RQ h h' → K (some (mB (ifc (0 < (h 572 0)) (dtm ((h 572 0) - 1) ((h 572 0) - 1).toNat 0 (mxl (nr h 572 2)) 1) (-2)))) (h')) → am_AT d 290 0 [some (mR 1 12 0 571), none, none, none, none, none, none, none, none, none, none, none] h K) : am_CS d 290 C290 := by
  refine am_CS_of (T := tb290) (mL := 12) (rk := 1) rfl (fun as h K hC => ?_)
  obtain ⟨v0, rfl, hC0⟩ := am_a1_e hC
  obtain ⟨e0, hC1⟩ := am_oc_e hC0
  subst e0
  refine ⟨Nat.le_of_ble_eq_true rfl, ?_⟩
  exact H  h K hC1
theorem T290_0 {R : Option am_V → am_H → Prop} {h : am_H} (t : ((0 < h 572 0) → (am_AT 3 290 21 [some (mR 1 12 0 571), some (mI ((h 572 0) - 1)), some (mI 0), none, none, none, none, none, none, none, none, none] h R)) ∧ ((¬ (0 < h 572 0)) → (R (some (mB (-2))) h))) : am_AT 3 290 0 [some (mR 1 12 0 571), none, none, none, none, none, none, none, none, none, none, none] h R :=
  am_T (d := 2) (m := 290) (T := tb290) (mL := 12) (rk := 1) (cuts := [(21, [1, 2, 2, 0, 0, 0, 0, 0, 0, 0, 0, 0]), (28, [1, 2, 2, 2, 0, 0, 0, 0, 0, 0, 0, 0]), (97, [1, 2, 2, 0, 2, 0, 0, 0, 0, 0, 0, 0]), (107, [1, 2, 2, 0, 2, 2, 0, 0, 0, 0, 0, 0]), (148, [1, 2, 2, 0, 2, 2, 2, 0, 0, 0, 0, 0]), (285, [1, 2, 2, 0, 2, 0, 2, 0, 2, 0, 0, 0]), (317, [1, 2, 2, 0, 2, 0, 2, 0, 2, 2, 0, 2])]) (l := [(198, C198), (209, C209), (289, C289), (317, C317)]) rfl ⟨am_CS_d (by decide) C198_ok, am_CS_d (by decide) C209_ok, am_CS_d (by decide) C289_ok, am_CS_d (by decide) C317_ok, trivial⟩ 16 (And.intro (rfl) (And.intro (fun c1 => And.intro (⟨by decide, by decide⟩) ((t).1 c1)) (fun c1 => (t).2 c1)))
theorem T290_21 {R : Option am_V → am_H → Prop} {h : am_H} {x1 : Int} {x2 : Int} (t : (R32 x2) ∧ ((R32 x1) ∧ (((x1 ≤ x2) → (am_AT 3 290 97 [some (mR 1 12 0 571), some (mI x1), some (mJ 1), none, some (mI 0), none, none, none, none, none, none, none] h R)) ∧ ((x2 < x1) → (am_AT 3 290 28 [some (mR 1 12 0 571), some (mI x1), some (mI x2), some (mI 0), none, none, none, none, none, none, none, none] h R))))) : am_AT 3 290 21 [some (mR 1 12 0 571), some (mI x1), some (mI x2), none, none, none, none, none, none, none, none, none] h R :=
  am_T (d := 2) (m := 290) (T := tb290) (mL := 12) (rk := 1) (cuts := [(21, [1, 2, 2, 0, 0, 0, 0, 0, 0, 0, 0, 0]), (28, [1, 2, 2, 2, 0, 0, 0, 0, 0, 0, 0, 0]), (97, [1, 2, 2, 0, 2, 0, 0, 0, 0, 0, 0, 0]), (107, [1, 2, 2, 0, 2, 2, 0, 0, 0, 0, 0, 0]), (148, [1, 2, 2, 0, 2, 2, 2, 0, 0, 0, 0, 0]), (285, [1, 2, 2, 0, 2, 0, 2, 0, 2, 0, 0, 0]), (317, [1, 2, 2, 0, 2, 0, 2, 0, 2, 2, 0, 2])]) (l := [(198, C198), (209, C209), (289, C289), (317, C317)]) rfl ⟨am_CS_d (by decide) C198_ok, am_CS_d (by decide) C209_ok, am_CS_d (by decide) C289_ok, am_CS_d (by decide) C317_ok, trivial⟩ 11 (And.intro (t).1 (And.intro ((t).2).1 (And.intro (fun c2 => (((t).2).2).1 c2) (fun c2 => (((t).2).2).2 c2))))
theorem T290_28 {R : Option am_V → am_H → Prop} {h : am_H} {x1 : Int} {x2 : Int} {x3 : Int} (t : (R32 x3) ∧ ((R32 x1) ∧ (((x1 ≤ x3) → (am_AT 3 290 21 [some (mR 1 12 0 571), some (mI x1), some (mI (x2 + 1)), none, none, none, none, none, none, none, none, none] h R)) ∧ ((x3 < x1) → ((R32 x2) ∧ ((R32 x3) ∧ (((¬ x2 = x3) → ((R32 x2) ∧ ((R32 x3) ∧ (((0 ≤ x2 ∧ x2 < 20) ∧ (0 ≤ x3 ∧ x3 < 32)) ∧ (((¬ (bit (h 572 (2 + x2)) x3)) → ((0 ≤ (20 * x2) + x3 ∧ (20 * x2) + x3 < 400) ∧ (am_AT 3 290 28 [some (mR 1 12 0 571), some (mI x1), some (mI x2), some (mI (x3 + 1)), none, none, none, none, none, none, none, none] (am_up h 598 ((20 * x2) + x3) 0) R))) ∧ ((bit (h 572 (2 + x2)) x3) → ((0 ≤ (20 * x2) + x3 ∧ (20 * x2) + x3 < 400) ∧ (am_AT 3 290 28 [some (mR 1 12 0 571), some (mI x1), some (mI x2), some (mI (x3 + 1)), none, none, none, none, none, none, none, none] (am_up h 598 ((20 * x2) + x3) 1000002) R)))))))) ∧ ((x2 = x3) → ((0 ≤ 2 + x2 ∧ 2 + x2 < 22) ∧ ((0 ≤ (h 572 (2 + x2)) ∧ (h 572 (2 + x2)) < 2147483648) ∧ ((0 ≤ (20 * x2) + x3 ∧ (20 * x2) + x3 < 400) ∧ (am_AT 3 290 28 [some (mR 1 12 0 571), some (mI x1), some (mI x2), some (mI (x3 + 1)), none, none, none, none, none, none, none, none] (am_up h 598 ((20 * x2) + x3) (iPop (h 572 (2 + x2)))) R)))))))))))) : am_AT 3 290 28 [some (mR 1 12 0 571), some (mI x1), some (mI x2), some (mI x3), none, none, none, none, none, none, none, none] h R :=
  am_T (d := 2) (m := 290) (T := tb290) (mL := 12) (rk := 1) (cuts := [(21, [1, 2, 2, 0, 0, 0, 0, 0, 0, 0, 0, 0]), (28, [1, 2, 2, 2, 0, 0, 0, 0, 0, 0, 0, 0]), (97, [1, 2, 2, 0, 2, 0, 0, 0, 0, 0, 0, 0]), (107, [1, 2, 2, 0, 2, 2, 0, 0, 0, 0, 0, 0]), (148, [1, 2, 2, 0, 2, 2, 2, 0, 0, 0, 0, 0]), (285, [1, 2, 2, 0, 2, 0, 2, 0, 2, 0, 0, 0]), (317, [1, 2, 2, 0, 2, 0, 2, 0, 2, 2, 0, 2])]) (l := [(198, C198), (209, C209), (289, C289), (317, C317)]) rfl ⟨am_CS_d (by decide) C198_ok, am_CS_d (by decide) C209_ok, am_CS_d (by decide) C289_ok, am_CS_d (by decide) C317_ok, trivial⟩ 29 (And.intro (t).1 (And.intro ((t).2).1 (And.intro (fun c3 => (((t).2).2).1 c3) (fun c3 => And.intro ((((t).2).2).2 c3).1 (And.intro (((((t).2).2).2 c3).2).1 (And.intro (fun c4 => And.intro (((((((t).2).2).2 c3).2).2).1 c4).1 (And.intro ((((((((t).2).2).2 c3).2).2).1 c4).2).1 (And.intro (rfl) (And.intro (((((((((t).2).2).2 c3).2).2).1 c4).2).2).1 (And.intro (fun c5 => And.intro (((((((((((t).2).2).2 c3).2).2).1 c4).2).2).2).1 c5).1 ((((((((((((t).2).2).2 c3).2).2).1 c4).2).2).2).1 c5).2)) (fun c5 => And.intro (((((((((((t).2).2).2 c3).2).2).1 c4).2).2).2).2 c5).1 ((((((((((((t).2).2).2 c3).2).2).1 c4).2).2).2).2 c5).2))))))) (fun c4 => And.intro (((((((t).2).2).2 c3).2).2).2 c4).1 (And.intro ((((((((t).2).2).2 c3).2).2).2 c4).2).1 (And.intro (((((((((t).2).2).2 c3).2).2).2 c4).2).2).1 ((((((((((t).2).2).2 c3).2).2).2 c4).2).2).2))))))))))
theorem T290_97 {R : Option am_V → am_H → Prop} {h : am_H} {x1 : Int} {x2 : Int} {x4 : Int} (t : (R32 x4) ∧ ((R32 x1) ∧ (((x1 ≤ x4) → ((R64 x2) ∧ ((R32 (Int.tmod x2 1000003)) ∧ (R (some (mB (Int.tmod x2 1000003))) h)))) ∧ ((x4 < x1) → (am_AT 3 290 107 [some (mR 1 12 0 571), some (mI x1), some (mJ x2), none, some (mI x4), some (mI x4), none, none, none, none, none, none] h R))))) : am_AT 3 290 97 [some (mR 1 12 0 571), some (mI x1), some (mJ x2), none, some (mI x4), none, none, none, none, none, none, none] h R :=
  am_T (d := 2) (m := 290) (T := tb290) (mL := 12) (rk := 1) (cuts := [(21, [1, 2, 2, 0, 0, 0, 0, 0, 0, 0, 0, 0]), (28, [1, 2, 2, 2, 0, 0, 0, 0, 0, 0, 0, 0]), (97, [1, 2, 2, 0, 2, 0, 0, 0, 0, 0, 0, 0]), (107, [1, 2, 2, 0, 2, 2, 0, 0, 0, 0, 0, 0]), (148, [1, 2, 2, 0, 2, 2, 2, 0, 0, 0, 0, 0]), (285, [1, 2, 2, 0, 2, 0, 2, 0, 2, 0, 0, 0]), (317, [1, 2, 2, 0, 2, 0, 2, 0, 2, 2, 0, 2])]) (l := [(198, C198), (209, C209), (289, C289), (317, C317)]) rfl ⟨am_CS_d (by decide) C198_ok, am_CS_d (by decide) C209_ok, am_CS_d (by decide) C289_ok, am_CS_d (by decide) C317_ok, trivial⟩ 12 (And.intro (t).1 (And.intro ((t).2).1 (And.intro (fun c6 => And.intro ((((t).2).2).1 c6).1 (And.intro (by decide) (And.intro (((((t).2).2).1 c6).2).1 ((((((t).2).2).1 c6).2).2)))) (fun c6 => (((t).2).2).2 c6))))
theorem T290_107 {R : Option am_V → am_H → Prop} {h : am_H} {x1 : Int} {x2 : Int} {x4 : Int} {x5 : Int} (t : (R32 x5) ∧ ((R32 x1) ∧ (((x1 ≤ x5) → ((R32 x5) ∧ ((R32 x1) ∧ (((¬ x5 = x1) → (am_AT 3 290 148 [some (mR 1 12 0 571), some (mI x1), some (mJ x2), none, some (mI x4), some (mI x5), some (mI 0), none, none, none, none, none] h R)) ∧ ((x5 = x1) → (R (some (mB 0)) h)))))) ∧ ((x5 < x1) → ((0 ≤ (20 * x5) + x4 ∧ (20 * x5) + x4 < 400) ∧ (((¬ h 598 ((20 * x5) + x4) = 0) → ((R32 x5) ∧ ((R32 x1) ∧ (((¬ x5 = x1) → (am_AT 3 290 148 [some (mR 1 12 0 571), some (mI x1), some (mJ x2), none, some (mI x4), some (mI x5), some (mI 0), none, none, none, none, none] h R)) ∧ ((x5 = x1) → (R (some (mB 0)) h)))))) ∧ ((h 598 ((20 * x5) + x4) = 0) → (am_AT 3 290 107 [some (mR 1 12 0 571), some (mI x1), some (mJ x2), none, some (mI x4), some (mI (x5 + 1)), none, none, none, none, none, none] h R)))))))) : am_AT 3 290 107 [some (mR 1 12 0 571), some (mI x1), some (mJ x2), none, some (mI x4), some (mI x5), none, none, none, none, none, none] h R :=
  am_T (d := 2) (m := 290) (T := tb290) (mL := 12) (rk := 1) (cuts := [(21, [1, 2, 2, 0, 0, 0, 0, 0, 0, 0, 0, 0]), (28, [1, 2, 2, 2, 0, 0, 0, 0, 0, 0, 0, 0]), (97, [1, 2, 2, 0, 2, 0, 0, 0, 0, 0, 0, 0]), (107, [1, 2, 2, 0, 2, 2, 0, 0, 0, 0, 0, 0]), (148, [1, 2, 2, 0, 2, 2, 2, 0, 0, 0, 0, 0]), (285, [1, 2, 2, 0, 2, 0, 2, 0, 2, 0, 0, 0]), (317, [1, 2, 2, 0, 2, 0, 2, 0, 2, 2, 0, 2])]) (l := [(198, C198), (209, C209), (289, C289), (317, C317)]) rfl ⟨am_CS_d (by decide) C198_ok, am_CS_d (by decide) C209_ok, am_CS_d (by decide) C289_ok, am_CS_d (by decide) C317_ok, trivial⟩ 23 (And.intro (t).1 (And.intro ((t).2).1 (And.intro (fun c7 => And.intro ((((t).2).2).1 c7).1 (And.intro (((((t).2).2).1 c7).2).1 (And.intro (fun c8 => ((((((t).2).2).1 c7).2).2).1 c8) (fun c8 => ((((((t).2).2).1 c7).2).2).2 c8)))) (fun c7 => And.intro ((((t).2).2).2 c7).1 (And.intro (fun c9 => And.intro ((((((t).2).2).2 c7).2).1 c9).1 (And.intro (((((((t).2).2).2 c7).2).1 c9).2).1 (And.intro (fun c10 => ((((((((t).2).2).2 c7).2).1 c9).2).2).1 c10) (fun c10 => ((((((((t).2).2).2 c7).2).1 c9).2).2).2 c10)))) (fun c9 => (((((t).2).2).2 c7).2).2 c9))))))
theorem T290_148 {R : Option am_V → am_H → Prop} {h : am_H} {x1 : Int} {x2 : Int} {x4 : Int} {x5 : Int} {x6 : Int} (t : (R32 x6) ∧ ((R32 x1) ∧ (((x1 ≤ x6) → ((R32 x5) ∧ ((R32 x4) ∧ (((¬ x5 = x4) → ((0 ≤ (20 * x4) + x4 ∧ (20 * x4) + x4 < 400) ∧ ((R64 ((1000003 - x2) * (h 598 ((20 * x4) + x4)))) ∧ ((0 ≤ (20 * x4) + x4 ∧ (20 * x4) + x4 < 400) ∧ (((0 ≤ (h 598 ((20 * x4) + x4)) ∧ (h 598 ((20 * x4) + x4)) < 1000003) ∧ 0 ≤ (1000001 : Int) ∧ (1000001 : Int) < 1048576) ∧ (am_AT 3 290 285 [some (mR 1 12 0 571), some (mI x1), some (mJ (Int.tmod ((1000003 - x2) * (h 598 ((20 * x4) + x4))) 1000003)), none, some (mI x4), none, some (mJ (pwm (h 598 ((20 * x4) + x4)) (1000001 : Int))), none, some (mI (x4 + 1)), none, none, none] h R)))))) ∧ ((x5 = x4) → ((0 ≤ (20 * x4) + x4 ∧ (20 * x4) + x4 < 400) ∧ ((R64 (x2 * (h 598 ((20 * x4) + x4)))) ∧ ((0 ≤ (20 * x4) + x4 ∧ (20 * x4) + x4 < 400) ∧ (((0 ≤ (h 598 ((20 * x4) + x4)) ∧ (h 598 ((20 * x4) + x4)) < 1000003) ∧ 0 ≤ (1000001 : Int) ∧ (1000001 : Int) < 1048576) ∧ (am_AT 3 290 285 [some (mR 1 12 0 571), some (mI x1), some (mJ (Int.tmod (x2 * (h 598 ((20 * x4) + x4))) 1000003)), none, some (mI x4), none, some (mJ (pwm (h 598 ((20 * x4) + x4)) (1000001 : Int))), none, some (mI (x4 + 1)), none, none, none] h R)))))))))) ∧ ((x6 < x1) → ((R32 x5) ∧ ((R32 x4) ∧ (((x5 = x4) → ((R32 x5) ∧ ((R32 x4) ∧ (((¬ x5 = x4) → ((0 ≤ (20 * x4) + x4 ∧ (20 * x4) + x4 < 400) ∧ ((R64 ((1000003 - x2) * (h 598 ((20 * x4) + x4)))) ∧ ((0 ≤ (20 * x4) + x4 ∧ (20 * x4) + x4 < 400) ∧ (((0 ≤ (h 598 ((20 * x4) + x4)) ∧ (h 598 ((20 * x4) + x4)) < 1000003) ∧ 0 ≤ (1000001 : Int) ∧ (1000001 : Int) < 1048576) ∧ (am_AT 3 290 285 [some (mR 1 12 0 571), some (mI x1), some (mJ (Int.tmod ((1000003 - x2) * (h 598 ((20 * x4) + x4))) 1000003)), none, some (mI x4), none, some (mJ (pwm (h 598 ((20 * x4) + x4)) (1000001 : Int))), none, some (mI (x4 + 1)), none, none, none] h R)))))) ∧ ((x5 = x4) → ((0 ≤ (20 * x4) + x4 ∧ (20 * x4) + x4 < 400) ∧ ((R64 (x2 * (h 598 ((20 * x4) + x4)))) ∧ ((0 ≤ (20 * x4) + x4 ∧ (20 * x4) + x4 < 400) ∧ (((0 ≤ (h 598 ((20 * x4) + x4)) ∧ (h 598 ((20 * x4) + x4)) < 1000003) ∧ 0 ≤ (1000001 : Int) ∧ (1000001 : Int) < 1048576) ∧ (am_AT 3 290 285 [some (mR 1 12 0 571), some (mI x1), some (mJ (Int.tmod (x2 * (h 598 ((20 * x4) + x4))) 1000003)), none, some (mI x4), none, some (mJ (pwm (h 598 ((20 * x4) + x4)) (1000001 : Int))), none, some (mI (x4 + 1)), none, none, none] h R)))))))))) ∧ ((¬ x5 = x4) → ((0 ≤ (20 * x5) + x6 ∧ (20 * x5) + x6 < 400) ∧ ((0 ≤ (20 * x4) + x6 ∧ (20 * x4) + x6 < 400) ∧ ((0 ≤ (20 * x5) + x6 ∧ (20 * x5) + x6 < 400) ∧ ((0 ≤ (20 * x4) + x6 ∧ (20 * x4) + x6 < 400) ∧ (am_AT 3 290 148 [some (mR 1 12 0 571), some (mI x1), some (mJ x2), none, some (mI x4), some (mI x5), some (mI (x6 + 1)), none, none, none, none, none] (am_up (am_up h 598 ((20 * x5) + x6) (h 598 ((20 * x4) + x6))) 598 ((20 * x4) + x6) (h 598 ((20 * x5) + x6))) R))))))))))))) : am_AT 3 290 148 [some (mR 1 12 0 571), some (mI x1), some (mJ x2), none, some (mI x4), some (mI x5), some (mI x6), none, none, none, none, none] h R :=
  am_T (d := 2) (m := 290) (T := tb290) (mL := 12) (rk := 1) (cuts := [(21, [1, 2, 2, 0, 0, 0, 0, 0, 0, 0, 0, 0]), (28, [1, 2, 2, 2, 0, 0, 0, 0, 0, 0, 0, 0]), (97, [1, 2, 2, 0, 2, 0, 0, 0, 0, 0, 0, 0]), (107, [1, 2, 2, 0, 2, 2, 0, 0, 0, 0, 0, 0]), (148, [1, 2, 2, 0, 2, 2, 2, 0, 0, 0, 0, 0]), (285, [1, 2, 2, 0, 2, 0, 2, 0, 2, 0, 0, 0]), (317, [1, 2, 2, 0, 2, 0, 2, 0, 2, 2, 0, 2])]) (l := [(198, C198), (209, C209), (289, C289), (317, C317)]) rfl ⟨am_CS_d (by decide) C198_ok, am_CS_d (by decide) C209_ok, am_CS_d (by decide) C289_ok, am_CS_d (by decide) C317_ok, trivial⟩ 46 (And.intro (t).1 (And.intro ((t).2).1 (And.intro (fun c11 => And.intro ((((t).2).2).1 c11).1 (And.intro (((((t).2).2).1 c11).2).1 (And.intro (fun c12 => And.intro (((((((t).2).2).1 c11).2).2).1 c12).1 (And.intro ((((((((t).2).2).1 c11).2).2).1 c12).2).1 (And.intro (by decide) (And.intro (((((((((t).2).2).1 c11).2).2).1 c12).2).2).1 (And.intro ((((((((((t).2).2).1 c11).2).2).1 c12).2).2).2).1 (((((((((((t).2).2).1 c11).2).2).1 c12).2).2).2).2)))))) (fun c12 => And.intro (((((((t).2).2).1 c11).2).2).2 c12).1 (And.intro ((((((((t).2).2).1 c11).2).2).2 c12).2).1 (And.intro (by decide) (And.intro (((((((((t).2).2).1 c11).2).2).2 c12).2).2).1 (And.intro ((((((((((t).2).2).1 c11).2).2).2 c12).2).2).2).1 (((((((((((t).2).2).1 c11).2).2).2 c12).2).2).2).2))))))))) (fun c11 => And.intro ((((t).2).2).2 c11).1 (And.intro (((((t).2).2).2 c11).2).1 (And.intro (fun c13 => And.intro (((((((t).2).2).2 c11).2).2).1 c13).1 (And.intro ((((((((t).2).2).2 c11).2).2).1 c13).2).1 (And.intro (fun c14 => And.intro ((((((((((t).2).2).2 c11).2).2).1 c13).2).2).1 c14).1 (And.intro (((((((((((t).2).2).2 c11).2).2).1 c13).2).2).1 c14).2).1 (And.intro (by decide) (And.intro ((((((((((((t).2).2).2 c11).2).2).1 c13).2).2).1 c14).2).2).1 (And.intro (((((((((((((t).2).2).2 c11).2).2).1 c13).2).2).1 c14).2).2).2).1 ((((((((((((((t).2).2).2 c11).2).2).1 c13).2).2).1 c14).2).2).2).2)))))) (fun c14 => And.intro ((((((((((t).2).2).2 c11).2).2).1 c13).2).2).2 c14).1 (And.intro (((((((((((t).2).2).2 c11).2).2).1 c13).2).2).2 c14).2).1 (And.intro (by decide) (And.intro ((((((((((((t).2).2).2 c11).2).2).1 c13).2).2).2 c14).2).2).1 (And.intro (((((((((((((t).2).2).2 c11).2).2).1 c13).2).2).2 c14).2).2).2).1 ((((((((((((((t).2).2).2 c11).2).2).1 c13).2).2).2 c14).2).2).2).2))))))))) (fun c13 => And.intro (((((((t).2).2).2 c11).2).2).2 c13).1 (And.intro ((((((((t).2).2).2 c11).2).2).2 c13).2).1 (And.intro (((((((((t).2).2).2 c11).2).2).2 c13).2).2).1 (And.intro ((((((((((t).2).2).2 c11).2).2).2 c13).2).2).2).1 (((((((((((t).2).2).2 c11).2).2).2 c13).2).2).2).2)))))))))))
theorem T290_285 {R : Option am_V → am_H → Prop} {h : am_H} {x1 : Int} {x2 : Int} {x4 : Int} {x6 : Int} {x8 : Int} (t : (R32 x8) ∧ ((R32 x1) ∧ (((x1 ≤ x8) → (am_AT 3 290 97 [some (mR 1 12 0 571), some (mI x1), some (mJ x2), none, some (mI (x4 + 1)), none, none, none, none, none, none, none] h R)) ∧ ((x8 < x1) → ((0 ≤ (20 * x8) + x4 ∧ (20 * x8) + x4 < 400) ∧ ((R64 ((h 598 ((20 * x8) + x4)) * x6)) ∧ (am_AT 3 290 317 [some (mR 1 12 0 571), some (mI x1), some (mJ x2), none, some (mI x4), none, some (mJ x6), none, some (mI x8), some (mJ (Int.tmod ((h 598 ((20 * x8) + x4)) * x6) 1000003)), none, some (mI x4)] h R))))))) : am_AT 3 290 285 [some (mR 1 12 0 571), some (mI x1), some (mJ x2), none, some (mI x4), none, some (mJ x6), none, some (mI x8), none, none, none] h R :=
  am_T (d := 2) (m := 290) (T := tb290) (mL := 12) (rk := 1) (cuts := [(21, [1, 2, 2, 0, 0, 0, 0, 0, 0, 0, 0, 0]), (28, [1, 2, 2, 2, 0, 0, 0, 0, 0, 0, 0, 0]), (97, [1, 2, 2, 0, 2, 0, 0, 0, 0, 0, 0, 0]), (107, [1, 2, 2, 0, 2, 2, 0, 0, 0, 0, 0, 0]), (148, [1, 2, 2, 0, 2, 2, 2, 0, 0, 0, 0, 0]), (285, [1, 2, 2, 0, 2, 0, 2, 0, 2, 0, 0, 0]), (317, [1, 2, 2, 0, 2, 0, 2, 0, 2, 2, 0, 2])]) (l := [(198, C198), (209, C209), (289, C289), (317, C317)]) rfl ⟨am_CS_d (by decide) C198_ok, am_CS_d (by decide) C209_ok, am_CS_d (by decide) C289_ok, am_CS_d (by decide) C317_ok, trivial⟩ 22 (And.intro (t).1 (And.intro ((t).2).1 (And.intro (fun c15 => (((t).2).2).1 c15) (fun c15 => And.intro ((((t).2).2).2 c15).1 (And.intro (((((t).2).2).2 c15).2).1 (And.intro (by decide) ((((((t).2).2).2 c15).2).2)))))))
theorem T290_317 {R : Option am_V → am_H → Prop} {h : am_H} {x1 : Int} {x2 : Int} {x4 : Int} {x6 : Int} {x8 : Int} {x9 : Int} {x11 : Int} (t : (R32 x11) ∧ ((R32 x1) ∧ (((x1 ≤ x11) → (am_AT 3 290 285 [some (mR 1 12 0 571), some (mI x1), some (mJ x2), none, some (mI x4), none, some (mJ x6), none, some (mI (x8 + 1)), none, none, none] h R)) ∧ ((x11 < x1) → ((0 ≤ (20 * x8) + x11 ∧ (20 * x8) + x11 < 400) ∧ ((0 ≤ (20 * x4) + x11 ∧ (20 * x4) + x11 < 400) ∧ ((R64 ((h 598 ((20 * x8) + x11)) + ((1000003 - x9) * (h 598 ((20 * x4) + x11))))) ∧ ((0 ≤ (20 * x8) + x11 ∧ (20 * x8) + x11 < 400) ∧ (am_AT 3 290 317 [some (mR 1 12 0 571), some (mI x1), some (mJ x2), none, some (mI x4), none, some (mJ x6), none, some (mI x8), some (mJ x9), none, some (mI (x11 + 1))] (am_up h 598 ((20 * x8) + x11) (Int.tmod ((h 598 ((20 * x8) + x11)) + ((1000003 - x9) * (h 598 ((20 * x4) + x11)))) 1000003)) R))))))))) : am_AT 3 290 317 [some (mR 1 12 0 571), some (mI x1), some (mJ x2), none, some (mI x4), none, some (mJ x6), none, some (mI x8), some (mJ x9), none, some (mI x11)] h R :=
  am_T (d := 2) (m := 290) (T := tb290) (mL := 12) (rk := 1) (cuts := [(21, [1, 2, 2, 0, 0, 0, 0, 0, 0, 0, 0, 0]), (28, [1, 2, 2, 2, 0, 0, 0, 0, 0, 0, 0, 0]), (97, [1, 2, 2, 0, 2, 0, 0, 0, 0, 0, 0, 0]), (107, [1, 2, 2, 0, 2, 2, 0, 0, 0, 0, 0, 0]), (148, [1, 2, 2, 0, 2, 2, 2, 0, 0, 0, 0, 0]), (285, [1, 2, 2, 0, 2, 0, 2, 0, 2, 0, 0, 0]), (317, [1, 2, 2, 0, 2, 0, 2, 0, 2, 2, 0, 2])]) (l := [(198, C198), (209, C209), (289, C289), (317, C317)]) rfl ⟨am_CS_d (by decide) C198_ok, am_CS_d (by decide) C209_ok, am_CS_d (by decide) C289_ok, am_CS_d (by decide) C317_ok, trivial⟩ 40 (And.intro (t).1 (And.intro ((t).2).1 (And.intro (fun c16 => (((t).2).2).1 c16) (fun c16 => And.intro ((((t).2).2).2 c16).1 (And.intro (((((t).2).2).2 c16).2).1 (And.intro ((((((t).2).2).2 c16).2).2).1 (And.intro (by decide) (And.intro (((((((t).2).2).2 c16).2).2).2).1 ((((((((t).2).2).2 c16).2).2).2).2)))))))))
theorem L290d {K : Option am_V → am_H → Prop} {h : am_H} {M : Int → Int → Int} {sz c v i : Int} (hs : sz ≤ 20) (hc : 0 ≤ c ∧ c < sz) (hR : MRg sz M) (hi : c < i ∧ i < sz) (nx : ∀ g : am_H, (∀ x9 i9, x9 ≠ 598 → g x9 i9 = h x9 i9) → EL2 g M c sz (i + 1) 0 → am_AT 3 290 285 [some (mR 1 12 0 571), some (mI sz), some (mJ v), none, some (mI c), none, some (mJ (pwm (M c c) 1000001)), none, some (mI (i + 1)), none, none, none] g K) : ∀ j, ∀ g : am_H, c ≤ j → j ≤ sz → (∀ x9 i9, x9 ≠ 598 → g x9 i9 = h x9 i9) → EL2 g M c sz i j → am_AT 3 290 317 [some (mR 1 12 0 571), some (mI sz), some (mJ v), none, some (mI c), none, some (mJ (pwm (M c c) 1000001)), none, some (mI i), some (mJ (Int.tmod (M i c * pwm (M c c) 1000001) 1000003)), none, some (mI j)] g K := by
  have b1 := md_r (ml_r (hR i c (by omega) hi.2 hc.1 hc.2) (pwm_r (e := 1000001) (hR c c hc.1 hc.2 hc.1 hc.2))).1
  refine lp sz (fun j ih g j0 j1 F G => ?_)
  have e1 : j < sz → g 598 ((20 * i) + j) = M i j := fun a => (G i j (by omega) hi.2 (by omega) a).2 (by omega)
  have e2 : j < sz → g 598 ((20 * c) + j) = M c j := fun a => ((G c j hc.1 hc.2 (by omega) a).1 (Or.inl hi.1)).trans (if_neg (by omega))
  have m : j < sz → 0 ≤ (1000003 - (Int.tmod (M i c * pwm (M c c) 1000001) 1000003)) * M c j ∧ (1000003 - (Int.tmod (M i c * pwm (M c c) 1000001) 1000003)) * M c j ≤ 1000003 * 1000003 := fun a => by
    have r := hR c j hc.1 hc.2 (by omega) a
    exact ⟨Int.mul_nonneg (by omega) r.1, Int.mul_le_mul (by omega) (by omega) r.1 (by omega)⟩
  refine T290_317 ⟨by omega, ⟨by omega, ⟨fun c1 => ?_, fun c1 => ⟨by omega, ⟨by omega, ⟨by
    have r := hR i j (by omega) hi.2 (by omega) (by omega)
    have w := m (by omega)
    rw [e1 (by omega), e2 (by omega)]
    unfold R64
    omega, ⟨by omega, ?_⟩⟩⟩⟩⟩⟩⟩
  · exact nx g F (fun r k a b d e => ⟨fun z => (G r k a b d e).1 (by omega), fun z => (G r k a b d e).2 (by omega)⟩)
  · rw [e1 (by omega), e2 (by omega)]
    refine ih (by omega) _ (by omega) (by omega) (fun x y a => by rw [am_up_ne a]; exact F x y a) (fun r k a b d e => ?_)
    by_cases q : r = i ∧ k = j
    · rw [q.1, q.2]
      exact ⟨fun _ => mx2_eq.trans (if_pos ⟨hi.1, j0⟩).symm, fun z => absurd (Or.inr ⟨rfl, by omega⟩) z⟩
    · rw [mx2_ne (by omega) (by omega) q]
      exact ⟨fun z => (G r k a b d e).1 (by omega), fun z => (G r k a b d e).2 (by omega)⟩
theorem L290e {K : Option am_V → am_H → Prop} {h : am_H} {M : Int → Int → Int} {sz c v : Int} (hs : sz ≤ 20) (hc : 0 ≤ c ∧ c < sz) (hR : MRg sz M) (nx : ∀ g : am_H, (∀ x9 i9, x9 ≠ 598 → g x9 i9 = h x9 i9) → MEQ sz (mx2 g) (mxe M c) → am_AT 3 290 97 [some (mR 1 12 0 571), some (mI sz), some (mJ v), none, some (mI (c + 1)), none, none, none, none, none, none, none] g K) : ∀ i, ∀ g : am_H, c + 1 ≤ i → i ≤ sz → (∀ x9 i9, x9 ≠ 598 → g x9 i9 = h x9 i9) → EL2 g M c sz i 0 → am_AT 3 290 285 [some (mR 1 12 0 571), some (mI sz), some (mJ v), none, some (mI c), none, some (mJ (pwm (M c c) 1000001)), none, some (mI i), none, none, none] g K := by
  refine lp sz (fun i ih g i0 i1 F G => ?_)
  have e1 : i < sz → g 598 ((20 * i) + c) = M i c := fun a => (G i c (by omega) a hc.1 hc.2).2 (by omega)
  refine T290_285 ⟨by omega, ⟨by omega, ⟨fun c1 => ?_, fun c1 => ⟨by omega, ⟨by
    have w := ml_r (hR i c (by omega) (by omega) hc.1 hc.2) (pwm_r (e := 1000001) (hR c c hc.1 hc.2 hc.1 hc.2))
    rw [e1 (by omega)]
    unfold R64
    omega, ?_⟩⟩⟩⟩⟩
  · exact nx g F (fun r k a b d e => (G r k a b d e).1 (by omega))
  · rw [e1 (by omega)]
    refine L290d hs hc hR (by omega) (fun g' F' G' => ih (by omega) g' (by omega) (by omega) F' G') c g (by omega) (by omega) F (fun r k a b d e => ⟨fun z => ?_, fun z => (G r k a b d e).2 (by omega)⟩)
    by_cases q : r < i
    · exact (G r k a b d e).1 (by omega)
    · exact ((G r k a b d e).2 (by omega)).trans (if_neg (by omega)).symm
theorem L290w {K : Option am_V → am_H → Prop} {h : am_H} {M : Int → Int → Int} {sz c v p : Int} (hs : sz ≤ 20) (hc : 0 ≤ c ∧ c < sz) (hR : MRg sz M) (hp : c ≤ p ∧ p < sz) (hv : 0 ≤ v ∧ v < 1000003) (nx : ∀ g : am_H, (∀ x9 i9, x9 ≠ 598 → g x9 i9 = h x9 i9) → MEQ sz (mx2 g) (mxe (mxs M c p) c) → am_AT 3 290 97 [some (mR 1 12 0 571), some (mI sz), some (mJ (Int.tmod ((if p = c then v else 1000003 - v) * mxs M c p c c) 1000003)), none, some (mI (c + 1)), none, none, none, none, none, none, none] g K) : ∀ j, ∀ g : am_H, 0 ≤ j → j ≤ sz → (∀ x9 i9, x9 ≠ 598 → g x9 i9 = h x9 i9) → SW2 g M c p sz j → am_AT 3 290 148 [some (mR 1 12 0 571), some (mI sz), some (mJ v), none, some (mI c), some (mI p), some (mI j), none, none, none, none, none] g K := by
  have hR' : MRg sz (mxs M c p) := MR_s hR hc (by omega)
  have fin : ∀ g : am_H, (∀ x9 i9, x9 ≠ 598 → g x9 i9 = h x9 i9) → MEQ sz (mx2 g) (mxs M c p) → am_AT 3 290 285 [some (mR 1 12 0 571), some (mI sz), some (mJ (Int.tmod ((if p = c then v else 1000003 - v) * mxs M c p c c) 1000003)), none, some (mI c), none, some (mJ (pwm (mxs M c p c c) 1000001)), none, some (mI (c + 1)), none, none, none] g K := fun g F G =>
    L290e hs hc hR' nx (c + 1) g (by omega) (by omega) F (fun r k a b d e => ⟨fun z => (G r k a b d e).trans (if_neg (by omega)).symm, fun _ => G r k a b d e⟩)
  refine lp sz (fun j ih g j0 j1 F G => ?_)
  have q1 : sz ≤ j → MEQ sz (mx2 g) (mxs M c p) := fun z r k a b d e => (G r k a b d e).1 (by omega)
  have q2 : p = c → MEQ sz (mx2 g) (mxs M c p) := fun z r k a b d e => by
    by_cases y : k < j
    · exact (G r k a b d e).1 y
    · rw [z]; exact ((G r k a b d e).2 y).trans (mxs_id r k a b d e).symm
  have z : MEQ sz (mx2 g) (mxs M c p) → g 598 ((20 * c) + c) = mxs M c p c c := fun y => y c c hc.1 hc.2 hc.1 hc.2
  have rr := hR' c c hc.1 hc.2 hc.1 hc.2
  have w1 := Int.mul_nonneg (show 0 ≤ 1000003 - v by omega) rr.1
  have w2 := Int.mul_le_mul (show 1000003 - v ≤ 1000003 by omega) (show mxs M c p c c ≤ 1000003 by omega) rr.1 (by omega)
  have w3 := ml_r hv rr
  refine T290_148 ⟨by omega, ⟨by omega, ⟨fun c1 => ⟨by omega, ⟨by omega, ⟨fun c2 => ⟨by omega, ⟨by rw [z (q1 c1)]; unfold R64; omega, ⟨by omega, ⟨by rw [z (q1 c1)]; omega, ?_⟩⟩⟩⟩, fun c2 => ⟨by omega, ⟨by rw [z (q1 c1)]; unfold R64; omega, ⟨by omega, ⟨by rw [z (q1 c1)]; omega, ?_⟩⟩⟩⟩⟩⟩⟩, fun c1 => ⟨by omega, ⟨by omega, ⟨fun c2 => ⟨by omega, ⟨by omega, ⟨fun c3 => ⟨by omega, ⟨by omega, ⟨by omega, ⟨by omega, ?_⟩⟩⟩⟩, fun c3 => ⟨by omega, ⟨by rw [z (q2 c2)]; unfold R64; omega, ⟨by omega, ⟨by rw [z (q2 c2)]; omega, ?_⟩⟩⟩⟩⟩⟩⟩, fun c2 => ⟨by omega, ⟨by omega, ⟨by omega, ⟨by omega, ?_⟩⟩⟩⟩⟩⟩⟩⟩⟩⟩
  · have y := fin g F (q1 c1)
    rw [if_neg c2] at y
    rw [z (q1 c1)]
    exact y
  · have y := fin g F (q1 c1)
    rw [if_pos c2] at y
    rw [z (q1 c1)]
    exact y
  · exact absurd c2 c3
  · have y := fin g F (q2 c2)
    rw [if_pos c2] at y
    rw [z (q2 c2)]
    exact y
  · refine ih (by omega) _ (by omega) (by omega) (fun x y a => by rw [am_up_ne a, am_up_ne a]; exact F x y a) (fun r k a b d e => ?_)
    have g1 : g 598 ((20 * p) + j) = M p j := (G p j (by omega) hp.2 j0 (by omega)).2 (by omega)
    have g2 : g 598 ((20 * c) + j) = M c j := (G c j hc.1 hc.2 j0 (by omega)).2 (by omega)
    by_cases ek : k = j
    · subst ek
      refine ⟨fun _ => ?_, fun y => by omega⟩
      by_cases er : r = c
      · rw [er]
        refine mx2_eq.trans (g1.trans ?_)
        unfold mxs
        rw [if_neg (by omega), if_pos rfl]
      · rw [mx2_ne (by omega) (by omega) (by omega)]
        by_cases er2 : r = p
        · rw [er2]
          refine mx2_eq.trans (g2.trans ?_)
          unfold mxs
          rw [if_pos rfl]
        · rw [mx2_ne (by omega) (by omega) (by omega)]
          refine ((G r k a b d e).2 (by omega)).trans ?_
          unfold mxs
          rw [if_neg er2, if_neg er]
    · rw [mx2_ne (by omega) (by omega) (by omega), mx2_ne (by omega) (by omega) (by omega)]
      exact ⟨fun y => (G r k a b d e).1 (by omega), fun y => (G r k a b d e).2 (by omega)⟩
theorem L290p {K : Option am_V → am_H → Prop} {h : am_H} {M : Int → Int → Int} {sz c v : Int} (hs : sz ≤ 20) (hc : 0 ≤ c ∧ c < sz) (hR : MRg sz M) (hv : 0 ≤ v ∧ v < 1000003) (n0 : mpv sz M c = -1 → ∀ g : am_H, (∀ x9 i9, x9 ≠ 598 → g x9 i9 = h x9 i9) → K (some (mB 0)) g) (nx : ¬ mpv sz M c = -1 → ∀ g : am_H, (∀ x9 i9, x9 ≠ 598 → g x9 i9 = h x9 i9) → MEQ sz (mx2 g) (mxe (mxs M c (mpv sz M c)) c) → am_AT 3 290 97 [some (mR 1 12 0 571), some (mI sz), some (mJ (Int.tmod ((if mpv sz M c = c then v else 1000003 - v) * mxs M c (mpv sz M c) c c) 1000003)), none, some (mI (c + 1)), none, none, none, none, none, none, none] g K) {g : am_H} (F : (∀ x9 i9, x9 ≠ 598 → g x9 i9 = h x9 i9)) (G : MEQ sz (mx2 g) M) : ∀ j, c ≤ j → j ≤ sz → (∀ i, 0 ≤ i → i < j → ¬ (c ≤ i ∧ ¬ M i c = 0)) → am_AT 3 290 107 [some (mR 1 12 0 571), some (mI sz), some (mJ v), none, some (mI c), some (mI j), none, none, none, none, none, none] g K := by
  refine lp sz (fun j ih j0 j1 hno => ?_)
  have e1 : j < sz → g 598 ((20 * j) + c) = M j c := fun a => G j c (by omega) a hc.1 hc.2
  refine T290_107 ⟨by omega, ⟨by omega, ⟨fun c1 => ⟨by omega, ⟨by omega, ⟨fun c2 => ?_, fun c2 => ?_⟩⟩⟩, fun c1 => ⟨by omega, ⟨fun c2 => ⟨by omega, ⟨by omega, ⟨fun c3 => ?_, fun c3 => ?_⟩⟩⟩, fun c2 => ?_⟩⟩⟩⟩⟩
  · exfalso; omega
  · exact n0 (fnd_no _ (fun i a b => hno i a (by omega))) g F
  · rw [e1 c1] at c2
    have e : mpv sz M c = j := fnd_is (by omega) ⟨j0, c2⟩ hno _ (by omega)
    have y := L290w (p := mpv sz M c) hs hc hR (by omega) hv (nx (by omega)) 0 g (by omega) (by omega) F (fun r k a b d e => ⟨fun z => by omega, fun _ => G r k a b d e⟩)
    rw [e] at y
    exact y
  · exfalso; omega
  · rw [e1 c1] at c2
    refine ih (by omega) (by omega) (by omega) (fun i a b => ?_)
    by_cases e : i = j
    · rw [e]; exact fun z => z.2 c2
    · exact hno i a (by omega)
theorem L290c {K : Option am_V → am_H → Prop} {h : am_H} {sz N : Int} (hs : 0 ≤ sz ∧ sz ≤ 20) (hK : ∀ g : am_H, (∀ x9 i9, x9 ≠ 598 → g x9 i9 = h x9 i9) → K (some (mB N)) g) : ∀ (f : Nat) (c v : Int) (M : Int → Int → Int) (g : am_H), 0 ≤ c → c + f = sz → (0 ≤ v ∧ v < 1000003) → MRg sz M → (∀ x9 i9, x9 ≠ 598 → g x9 i9 = h x9 i9) → MEQ sz (mx2 g) M → dtm sz f c M v = N → am_AT 3 290 97 [some (mR 1 12 0 571), some (mI sz), some (mJ v), none, some (mI c), none, none, none, none, none, none, none] g K := by
  intro f
  induction f with
  | zero =>
    intro c v M g c0 cf hv R F G e
    have e' : v = N := e
    have t : Int.tmod v 1000003 = v := Int.tmod_eq_of_lt hv.1 hv.2
    refine T290_97 ⟨by omega, ⟨by omega, ⟨fun c1 => ⟨by omega, ⟨by rw [t]; unfold R32; omega, ?_⟩⟩, fun c1 => ?_⟩⟩⟩
    · rw [t, e']
      exact hK g F
    · exfalso; omega
  | succ f ih =>
    intro c v M g c0 cf hv R F G e
    have hc : 0 ≤ c ∧ c < sz := by omega
    refine T290_97 ⟨by omega, ⟨by omega, ⟨fun c1 => ⟨by omega, ⟨by omega, ?_⟩⟩, fun c1 => ?_⟩⟩⟩
    · exfalso; omega
    · refine L290p hs.2 hc R hv (fun a g' F' => ?_) (fun a g' F' G' => ?_) F G c (by omega) (by omega) (fun i a b z => by have := z.1; omega)
      · rw [dtm_0 a] at e
        rw [e]
        exact hK g' F'
      · have hp := mpv_r hc a
        have s := MR_s (p := mpv sz M c) R hc (by omega)
        have w : 0 ≤ (if mpv sz M c = c then v else 1000003 - v) := by
          by_cases y : mpv sz M c = c
          · rw [if_pos y]; omega
          · rw [if_neg y]; omega
        rw [dtm_1 a] at e
        exact ih (c + 1) _ _ g' (by omega) (by omega) (md_r (Int.mul_nonneg w (s c c hc.1 hc.2 hc.1 hc.2).1)) (MR_e s hc) F' G' e
theorem L290b {K : Option am_V → am_H → Prop} {h : am_H} {sz i : Int} (hs : sz ≤ 20) (hi : 0 ≤ i ∧ i < sz) (s : ∀ y, 0 ≤ y → y < 20 → S20 (h 572 (2 + y))) (nx : ∀ g : am_H, (∀ x9 i9, x9 ≠ 598 → g x9 i9 = h x9 i9) → FI2 g (mxl (nr h 572 2)) sz (i + 1) 0 → am_AT 3 290 21 [some (mR 1 12 0 571), some (mI sz), some (mI (i + 1)), none, none, none, none, none, none, none, none, none] g K) : ∀ j, ∀ g : am_H, 0 ≤ j → j ≤ sz → (∀ x9 i9, x9 ≠ 598 → g x9 i9 = h x9 i9) → FI2 g (mxl (nr h 572 2)) sz i j → am_AT 3 290 28 [some (mR 1 12 0 571), some (mI sz), some (mI i), some (mI j), none, none, none, none, none, none, none, none] g K := by
  refine lp sz (fun j ih g j0 j1 F G => ?_)
  have e7 : g 572 (2 + i) = h 572 (2 + i) := F _ _ (by omega)
  have si := s i hi.1 (by omega)
  have s1 := si.1
  have s2 := si.2
  have ea : bit (g 572 (2 + i)) j ↔ ad (nr h 572 2) i j := by rw [e7, ad_nr2]; exact ⟨fun z => ⟨by omega, z⟩, fun z => z.2⟩
  have stp : j < sz → ∀ v, v = (mxl (nr h 572 2)) i j → am_AT 3 290 28 [some (mR 1 12 0 571), some (mI sz), some (mI i), some (mI (j + 1)), none, none, none, none, none, none, none, none] (am_up g 598 ((20 * i) + j) v) K := fun a v hv => by
    refine ih a _ (by omega) (by omega) (fun x y z => by rw [am_up_ne z]; exact F x y z) (fun r k a b d e z => ?_)
    by_cases q : r = i ∧ k = j
    · rw [q.1, q.2]; exact mx2_eq.trans hv
    · rw [mx2_ne (by omega) (by omega) q]; exact G r k a b d e (by omega)
  refine T290_28 ⟨by omega, ⟨by omega, ⟨fun c1 => ?_, fun c1 => ⟨by omega, ⟨by omega, ⟨fun c2 => ⟨by omega, ⟨by omega, ⟨by omega, ⟨fun c3 => ⟨by omega, ?_⟩, fun c3 => ⟨by omega, ?_⟩⟩⟩⟩⟩, fun c2 => ⟨by omega, ⟨by rw [e7]; omega, ⟨by omega, ?_⟩⟩⟩⟩⟩⟩⟩⟩⟩
  · exact nx g F (fun r k a b d e z => G r k a b d e (by omega))
  · refine stp (by omega) 0 ?_
    unfold mxl
    rw [ifc_f c2, ifc_f (fun u => c3 (ea.mpr u))]
  · refine stp (by omega) 1000002 ?_
    unfold mxl
    rw [ifc_f c2, ifc_t (ea.mp c3)]
  · refine stp (by omega) _ ?_
    unfold mxl
    rw [ifc_t c2, e7, nr_in hi.1 (by omega)]
theorem L290a {K : Option am_V → am_H → Prop} {h : am_H} {sz : Int} (hs : 0 ≤ sz ∧ sz ≤ 20) (s : ∀ y, 0 ≤ y → y < 20 → S20 (h 572 (2 + y))) (hK : ∀ g : am_H, (∀ x9 i9, x9 ≠ 598 → g x9 i9 = h x9 i9) → K (some (mB (dtm sz sz.toNat 0 (mxl (nr h 572 2)) 1))) g) : ∀ i, ∀ g : am_H, 0 ≤ i → i ≤ sz → (∀ x9 i9, x9 ≠ 598 → g x9 i9 = h x9 i9) → FI2 g (mxl (nr h 572 2)) sz i 0 → am_AT 3 290 21 [some (mR 1 12 0 571), some (mI sz), some (mI i), none, none, none, none, none, none, none, none, none] g K := by
  refine lp sz (fun i ih g i0 i1 F G => ?_)
  have mr : MRg sz (mxl (nr h 572 2)) := fun r k r0 r1 k0 k1 => by
    unfold mxl
    by_cases e : r = k
    · rw [ifc_t e]
      have := iPop_le20 (nr2_S20 s r)
      omega
    · rw [ifc_f e]
      by_cases e2 : ad (nr h 572 2) r k
      · rw [ifc_t e2]; omega
      · rw [ifc_f e2]; omega
  refine T290_21 ⟨by omega, ⟨by omega, ⟨fun c1 => ?_, fun c1 => ?_⟩⟩⟩
  · exact L290c hs hK sz.toNat 0 1 (mxl (nr h 572 2)) g (by omega) (by omega) (by omega) mr F (fun r k a b d e => G r k a b d e (by omega)) rfl
  · exact L290b hs.2 ⟨i0, by omega⟩ s (fun g' F' G' => ih (by omega) g' (by omega) (by omega) F' G') 0 g (by omega) (by omega) F G
theorem C290_ok : am_CS 3 290 C290 := W290 (fun h K hb => am_AT_ok (fun hw _ => by
  have hN := hb.1.1
  have hn1 := hN.1
  have hn2 := hN.2.1
  refine T290_0 ⟨fun c1 => ?_, fun c1 => ?_⟩
  · exact L290a (by omega) (rows_S hw hN) (fun g F => am_rB (hb.2 g (RQ_fr (RQ_rf hb.1) (fun x i a => F x i (by unfold PR at a; omega)))) (ifc_t c1)) 0 h (by omega) (by omega) (fun _ _ _ => rfl) (fun r k a b d e z => by omega)
  · exact am_rB (hb.2 h (RQ_rf hb.1)) (ifc_f c1)))
