/-! ===== alike: what each side answers ===== -/
def DGE (r : Int → Int) (k l : Int) : Prop := ∀ d, 1 ≤ d → d < 20 → ct (fun y9 => dgi r k y9 = d) (iPop (lay r k 0)).toNat = ct (fun y9 => dgi r l y9 = d) (iPop (lay r l 0)).toNat
def ALK (r : Int → Int) (k l : Int) : Prop := iPop (lay r k 0) = iPop (lay r l 0) ∧ ∃ f, ISO (iPop (lay r k 0)) (lyD r k) (lyD r l) f
theorem ISO_dc {s : Int} {A A' B B' : Int → Int → Int} (e1 : ∀ a b, (0 ≤ a ∧ a < s) → (0 ≤ b ∧ b < s) → A a b = A' a b) (e2 : ∀ a b, (0 ≤ a ∧ a < s) → (0 ≤ b ∧ b < s) → B a b = B' a b) {f : Int → Int} (I : ISO s A B f) : ISO s A' B' f := ⟨I.1, fun p q a b => by rw [← e2 _ _ (I.1 p a.1 a.2) (I.1 q b.1 b.2), ← e1 p q a b]; exact I.2 p q a b⟩
/-! 113 FactorNets.alike -/
def C113 : am_K := fun as h K => am_a3 as (fun v0 v1 v2 => am_oc 11 0 v0 (am_n v1 (fun k => am_n v2 (fun l => (PI h) ∧ (∀ (h' : am_H), PQ h h' → K (some (mB (ifc ((0 ≤ k ∧ k < ncl (ptE (nr h 7 0)) (nl (nr h 7 0))) ∧ (0 ≤ l ∧ l < ncl (ptE (nr h 7 0)) (nl (nr h 7 0)))) (am_b (DGE (nr h 7 0) k l)) (-2)))) (h'))))))
theorem W113 {d : Nat} (H : ∀ (k : Int) (l : Int) (h : am_H) (K : Option am_V → am_H → Prop), (PI h) ∧ (∀ (h' : am_H), PQ h h' → K (some (mB (ifc ((0 ≤ k ∧ k < ncl (ptE (nr h 7 0)) (nl (nr h 7 0))) ∧ (0 ≤ l ∧ l < ncl (ptE (nr h 7 0)) (nl (nr h 7 0)))) (am_b (DGE (nr h 7 0) k l)) (-2)))) (h')) → am_AT d 113 0 [some (mR 1 11 0 0), some (mB k), some (mB l), none] h K) : am_CS d 113 C113 := by
  refine am_CS_of (T := tb113) (mL := 4) (rk := 1) rfl (fun as h K hC => ?_)
  obtain ⟨v0, v1, v2, rfl, hC0⟩ := am_a3_e hC
  obtain ⟨e0, hC1⟩ := am_oc_e hC0
  subst e0
  obtain ⟨k, rfl, hC2⟩ := am_n_e hC1
  obtain ⟨l, rfl, hC3⟩ := am_n_e hC2
  refine ⟨Nat.le_of_ble_eq_true rfl, ?_⟩
  exact H k l h K hC3
theorem T113_0 {R : Option am_V → am_H → Prop} {h : am_H} {k : Int} {l : Int} (t : (PI h) ∧ (∀ (h' : am_H), (PQ h h' ∧ h' 0 16 = 1) → (((¬ (0 ≤ k ∧ k < (ncl (ptE (nr h 7 0)) (nl (nr h 7 0))))) → (R (some (mB (-2))) h')) ∧ ((0 ≤ k ∧ k < (ncl (ptE (nr h 7 0)) (nl (nr h 7 0)))) → ((PI h') ∧ (∀ (h'_1 : am_H), (PQ h' h'_1 ∧ h'_1 0 16 = 1) → (((0 ≤ l ∧ l < (ncl (ptE (nr h' 7 0)) (nl (nr h' 7 0)))) → (am_AT 8 113 21 [some (mR 1 11 0 0), some (mB k), some (mB l), some (mI 1)] h'_1 R)) ∧ ((¬ (0 ≤ l ∧ l < (ncl (ptE (nr h' 7 0)) (nl (nr h' 7 0))))) → (R (some (mB (-2))) h'_1))))))))) : am_AT 8 113 0 [some (mR 1 11 0 0), some (mB k), some (mB l), none] h R :=
  am_T (d := 7) (m := 113) (T := tb113) (mL := 4) (rk := 1) (cuts := [(21, [1, 1, 1, 2])]) (l := [(42, C42), (159, C159)]) rfl ⟨am_CS_d (by decide) C42_ok, am_CS_d (by decide) C159_ok, trivial⟩ 14 (And.intro (rfl) (And.intro (t).1 (fun z1_0 z1_1 => And.intro (fun c1 => (((t).2) z1_0 z1_1).1 c1) (fun c1 => And.intro (rfl) (And.intro ((((t).2) z1_0 z1_1).2 c1).1 (fun z2_0 z2_1 => And.intro (fun c2 => ((((((t).2) z1_0 z1_1).2 c1).2) z2_0 z2_1).1 c2) (fun c2 => ((((((t).2) z1_0 z1_1).2 c1).2) z2_0 z2_1).2 c2)))))))
theorem T113_21 {R : Option am_V → am_H → Prop} {h : am_H} {k : Int} {l : Int} {x3 : Int} (t : (R32 x3) ∧ (((20 ≤ x3) → (R (some (mB 1)) h)) ∧ ((x3 < 20) → ((R32 x3) ∧ ((PI h ∧ h 0 16 = 1 ∧ (0 ≤ k ∧ k < (ncl (ptE (nr h 7 0)) (nl (nr h 7 0))))) ∧ ((R32 x3) ∧ ((PI h ∧ h 0 16 = 1 ∧ (0 ≤ l ∧ l < (ncl (ptE (nr h 7 0)) (nl (nr h 7 0))))) ∧ (((ct (fun y9 => dgi (nr h 7 0) k y9 = x3) (iPop (lay (nr h 7 0) k 0)).toNat = ct (fun y9 => dgi (nr h 7 0) l y9 = x3) (iPop (lay (nr h 7 0) l 0)).toNat) → (am_AT 8 113 21 [some (mR 1 11 0 0), some (mB k), some (mB l), some (mI (x3 + 1))] h R)) ∧ ((¬ ct (fun y9 => dgi (nr h 7 0) k y9 = x3) (iPop (lay (nr h 7 0) k 0)).toNat = ct (fun y9 => dgi (nr h 7 0) l y9 = x3) (iPop (lay (nr h 7 0) l 0)).toNat) → (R (some (mB 0)) h)))))))))) : am_AT 8 113 21 [some (mR 1 11 0 0), some (mB k), some (mB l), some (mI x3)] h R :=
  am_T (d := 7) (m := 113) (T := tb113) (mL := 4) (rk := 1) (cuts := [(21, [1, 1, 1, 2])]) (l := [(42, C42), (159, C159)]) rfl ⟨am_CS_d (by decide) C42_ok, am_CS_d (by decide) C159_ok, trivial⟩ 20 (And.intro (t).1 (And.intro (fun c3 => ((t).2).1 c3) (fun c3 => And.intro (((t).2).2 c3).1 (And.intro (rfl) (And.intro ((((t).2).2 c3).2).1 (And.intro (((((t).2).2 c3).2).2).1 (And.intro (rfl) (And.intro ((((((t).2).2 c3).2).2).2).1 (And.intro (fun c4 => (((((((t).2).2 c3).2).2).2).2).1 c4) (fun c4 => (((((((t).2).2 c3).2).2).2).2).2 c4))))))))))
theorem L113 {K : Option am_V → am_H → Prop} {h : am_H} {k l : Int} (H : PI h) (z : h 0 16 = 1) (hk : 0 ≤ k ∧ k < ncl (ptE (nr h 7 0)) (nl (nr h 7 0))) (hl : 0 ≤ l ∧ l < ncl (ptE (nr h 7 0)) (nl (nr h 7 0))) (hK : K (some (mB (am_b (DGE (nr h 7 0) k l)))) h) : ∀ d, 1 ≤ d → (∀ e, 1 ≤ e → e < d → ct (fun y9 => dgi (nr h 7 0) k y9 = e) (iPop (lay (nr h 7 0) k 0)).toNat = ct (fun y9 => dgi (nr h 7 0) l y9 = e) (iPop (lay (nr h 7 0) l 0)).toNat) → d ≤ 20 → am_AT 8 113 21 [some (mR 1 11 0 0), some (mB k), some (mB l), some (mI d)] h K := by
  refine lp 20 (fun d ih d1 E d2 => ?_)
  refine T113_21 ⟨by omega, ⟨fun c1 => ?_, fun c1 => ⟨by omega, ⟨⟨H, z, hk⟩, ⟨by omega, ⟨⟨H, z, hl⟩, ⟨fun c2 => ?_, fun c2 => ?_⟩⟩⟩⟩⟩⟩⟩
  · refine am_rB hK ?_
    rw [am_b_t]
    exact fun e a b => E e a (by omega)
  · refine ih c1 (by omega) (fun e a b => ?_) (by omega)
    by_cases q : e = d
    · rw [q]; exact c2
    · exact E e a (by omega)
  · refine am_rB hK ?_
    rw [am_b_f]
    exact fun w => c2 (w d d1 c1)
theorem C113_ok : am_CS 8 113 C113 := W113 (fun k l h K hb => by
  refine T113_0 ⟨hb.1, fun h' q1 => ⟨fun c2 => ?_, fun c2 => ⟨q1.1.1, fun h'_1 q3 => ⟨fun c4 => ?_, fun c4 => ?_⟩⟩⟩⟩
  · exact am_rB (hb.2 h' q1.1) (ifc_f (fun z => c2 z.1))
  · have Q := PQ_tr q1.1 q3.1
    rw [q1.1.2.2.1.1] at c4
    have er := Q.2.2.1.1
    refine L113 q3.1.1 q3.2 (by rw [er]; exact c2) (by rw [er]; exact c4) ?_ 1 (by omega) (fun e a b => by omega) (by omega)
    refine am_rB (hb.2 h'_1 Q) ?_
    rw [ifc_t ⟨c2, c4⟩, er]
  · rw [q1.1.2.2.1.1] at c4
    exact am_rB (hb.2 h'_1 (PQ_tr q1.1 q3.1)) (ifc_f (fun z => c4 z.2)))
/-! 267 FactorNetsModel.alike -/
def C267 : am_K := fun as h K => am_a3 as (fun v0 v1 v2 => am_oc 12 571 v0 (am_n v1 (fun k => am_n v2 (fun l => (RIv h) ∧ (∀ (h' : am_H), RQ h h' → K (some (mB (ifc ((0 ≤ k ∧ k < ncl (ptE (nr h 572 2)) (nl (nr h 572 2))) ∧ (0 ≤ l ∧ l < ncl (ptE (nr h 572 2)) (nl (nr h 572 2)))) (am_b (ALK (nr h 572 2) k l)) (-2)))) (h'))))))
theorem W267 {d : Nat} (H : ∀ (k : Int) (l : Int) (h : am_H) (K : Option am_V → am_H → Prop), (RIv h) ∧ (∀ (h' : am_H), RQ h h' → K (some (mB (ifc ((0 ≤ k ∧ k < ncl (ptE (nr h 572 2)) (nl (nr h 572 2))) ∧ (0 ≤ l ∧ l < ncl (ptE (nr h 572 2)) (nl (nr h 572 2)))) (am_b (ALK (nr h 572 2) k l)) (-2)))) (h')) → am_AT d 267 0 [some (mR 1 12 0 571), some (mB k), some (mB l), none, none] h K) : am_CS d 267 C267 := by
  refine am_CS_of (T := tb267) (mL := 5) (rk := 1) rfl (fun as h K hC => ?_)
  obtain ⟨v0, v1, v2, rfl, hC0⟩ := am_a3_e hC
  obtain ⟨e0, hC1⟩ := am_oc_e hC0
  subst e0
  obtain ⟨k, rfl, hC2⟩ := am_n_e hC1
  obtain ⟨l, rfl, hC3⟩ := am_n_e hC2
  refine ⟨Nat.le_of_ble_eq_true rfl, ?_⟩
  exact H k l h K hC3
theorem T267_0 {R : Option am_V → am_H → Prop} {h : am_H} {k : Int} {l : Int} (t : (RIv h) ∧ (∀ (h' : am_H), (LD h h') → (((¬ (0 ≤ k ∧ k < ncl (ptE (nr h 572 2)) (nl (nr h 572 2)))) → (R (some (mB (-2))) h')) ∧ ((0 ≤ k ∧ k < ncl (ptE (nr h 572 2)) (nl (nr h 572 2))) → ((RIv h') ∧ (∀ (h'_1 : am_H), (LD h' h'_1) → (((0 ≤ l ∧ l < ncl (ptE (nr h' 572 2)) (nl (nr h' 572 2))) → (((NT (h'_1 572 0) (nr h'_1 572 2) ∧ CN (h'_1 572 0) (nr h'_1 572 2) ∧ RLd h'_1 (h'_1 572 0) (nr h'_1 572 2)) ∧ (0 ≤ (0 : Int) ∧ (0 : Int) < (h'_1 572 0))) ∧ (((NT (h'_1 572 0) (nr h'_1 572 2) ∧ CN (h'_1 572 0) (nr h'_1 572 2) ∧ RLd h'_1 (h'_1 572 0) (nr h'_1 572 2)) ∧ (0 ≤ (0 : Int) ∧ (0 : Int) < (h'_1 572 0))) ∧ ((0 ≤ (mkb (rc (RA (nr h'_1 572 2) (fun x => ¬ (x = k ↔ ((0 : Int) = 1)))) (0 : Int))) ∧ (mkb (rc (RA (nr h'_1 572 2) (fun x => ¬ (x = k ↔ ((0 : Int) = 1)))) (0 : Int))) < 2147483648) ∧ ((0 ≤ (mkb (rc (RA (nr h'_1 572 2) (fun x => ¬ (x = l ↔ ((0 : Int) = 1)))) (0 : Int))) ∧ (mkb (rc (RA (nr h'_1 572 2) (fun x => ¬ (x = l ↔ ((0 : Int) = 1)))) (0 : Int))) < 2147483648) ∧ (((iPop (mkb (rc (RA (nr h'_1 572 2) (fun x => ¬ (x = k ↔ ((0 : Int) = 1)))) (0 : Int))) = iPop (mkb (rc (RA (nr h'_1 572 2) (fun x => ¬ (x = l ↔ ((0 : Int) = 1)))) (0 : Int)))) → (((NT (h'_1 572 0) (nr h'_1 572 2) ∧ CN (h'_1 572 0) (nr h'_1 572 2) ∧ RLd h'_1 (h'_1 572 0) (nr h'_1 572 2)) ∧ ((588 : Int) = 588 ∨ (588 : Int) = 589) ∧ S20 (mkb (rc (RA (nr h'_1 572 2) (fun x => ¬ (x = k ↔ ((0 : Int) = 1)))) (0 : Int))) ∧ (∀ y9, bit (mkb (rc (RA (nr h'_1 572 2) (fun x => ¬ (x = k ↔ ((0 : Int) = 1)))) (0 : Int))) y9 → y9 < (h'_1 572 0))) ∧ (∀ (h'_2 : am_H), (((∀ x9 i9, x9 ≠ (588 : Int) → x9 ≠ 590 → ¬ (x9 = 571 ∧ i9 = 30) → h'_2 x9 i9 = h'_1 x9 i9) ∧ h'_2 571 30 = iPop (mkb (rc (RA (nr h'_1 572 2) (fun x => ¬ (x = k ↔ ((0 : Int) = 1)))) (0 : Int))) ∧ (∀ a9 b9, (0 ≤ a9 ∧ a9 < iPop (mkb (rc (RA (nr h'_1 572 2) (fun x => ¬ (x = k ↔ ((0 : Int) = 1)))) (0 : Int)))) → (0 ≤ b9 ∧ b9 < iPop (mkb (rc (RA (nr h'_1 572 2) (fun x => ¬ (x = k ↔ ((0 : Int) = 1)))) (0 : Int)))) → h'_2 (588 : Int) (20 * a9 + b9) = lyd (nr h'_1 572 2) (mkb (rc (RA (nr h'_1 572 2) (fun x => ¬ (x = k ↔ ((0 : Int) = 1)))) (0 : Int))) a9 b9) ∧ (∀ i9, 0 ≤ i9 → i9 < 20 → h'_2 590 i9 = -1))) → (((NT (h'_2 572 0) (nr h'_2 572 2) ∧ CN (h'_2 572 0) (nr h'_2 572 2) ∧ RLd h'_2 (h'_2 572 0) (nr h'_2 572 2)) ∧ ((589 : Int) = 588 ∨ (589 : Int) = 589) ∧ S20 (mkb (rc (RA (nr h'_1 572 2) (fun x => ¬ (x = l ↔ ((0 : Int) = 1)))) (0 : Int))) ∧ (∀ y9, bit (mkb (rc (RA (nr h'_1 572 2) (fun x => ¬ (x = l ↔ ((0 : Int) = 1)))) (0 : Int))) y9 → y9 < (h'_2 572 0))) ∧ (∀ (h'_3 : am_H), (((∀ x9 i9, x9 ≠ (589 : Int) → x9 ≠ 590 → ¬ (x9 = 571 ∧ i9 = 30) → h'_3 x9 i9 = h'_2 x9 i9) ∧ h'_3 571 30 = iPop (mkb (rc (RA (nr h'_1 572 2) (fun x => ¬ (x = l ↔ ((0 : Int) = 1)))) (0 : Int))) ∧ (∀ a9 b9, (0 ≤ a9 ∧ a9 < iPop (mkb (rc (RA (nr h'_1 572 2) (fun x => ¬ (x = l ↔ ((0 : Int) = 1)))) (0 : Int)))) → (0 ≤ b9 ∧ b9 < iPop (mkb (rc (RA (nr h'_1 572 2) (fun x => ¬ (x = l ↔ ((0 : Int) = 1)))) (0 : Int)))) → h'_3 (589 : Int) (20 * a9 + b9) = lyd (nr h'_2 572 2) (mkb (rc (RA (nr h'_1 572 2) (fun x => ¬ (x = l ↔ ((0 : Int) = 1)))) (0 : Int))) a9 b9) ∧ (∀ i9, 0 ≤ i9 → i9 < 20 → h'_3 590 i9 = -1))) → ((GS h'_3) ∧ (∀ (h'_4 : am_H), (((∀ x9 i9, ¬ (591 ≤ x9 ∧ x9 ≤ 594) → h'_4 x9 i9 = h'_3 x9 i9) ∧ KND h'_4 ∧ SPH h'_4)) → ((GS h'_4 ∧ KND h'_4 ∧ SPH h'_4) ∧ (∀ (h'_5 : am_H), ((∀ x9 i9, x9 ≠ 595 → h'_5 x9 i9 = h'_4 x9 i9)) → (((¬ (isW h'_4)) → (R (some (mB 0)) h'_5)) ∧ ((isW h'_4) → (R (some (mB 1)) h'_5)))))))))))) ∧ ((¬ iPop (mkb (rc (RA (nr h'_1 572 2) (fun x => ¬ (x = k ↔ ((0 : Int) = 1)))) (0 : Int))) = iPop (mkb (rc (RA (nr h'_1 572 2) (fun x => ¬ (x = l ↔ ((0 : Int) = 1)))) (0 : Int)))) → (R (some (mB 0)) h'_1)))))))) ∧ ((¬ (0 ≤ l ∧ l < ncl (ptE (nr h' 572 2)) (nl (nr h' 572 2)))) → (R (some (mB (-2))) h'_1))))))))) : am_AT 26 267 0 [some (mR 1 12 0 571), some (mB k), some (mB l), none, none] h R :=
  am_T (d := 25) (m := 267) (T := tb267) (mL := 5) (rk := 1) (cuts := []) (l := [(222, C222), (237, C237), (256, C256), (260, C260), (261, C261), (317, C317)]) rfl ⟨am_CS_d (by decide) C222_ok, am_CS_d (by decide) C237_ok, am_CS_d (by decide) C256_ok, am_CS_d (by decide) C260_ok, am_CS_d (by decide) C261_ok, am_CS_d (by decide) C317_ok, trivial⟩ 47 (And.intro (rfl) (And.intro (t).1 (fun z3_0 z3_1 => And.intro (fun c5 => (((t).2) z3_0 z3_1).1 c5) (fun c5 => And.intro (rfl) (And.intro ((((t).2) z3_0 z3_1).2 c5).1 (fun z4_0 z4_1 => And.intro (fun c6 => And.intro (rfl) (And.intro (Or.inl rfl) (And.intro (((((((t).2) z3_0 z3_1).2 c5).2) z4_0 z4_1).1 c6).1 (And.intro (rfl) (And.intro (Or.inl rfl) (And.intro ((((((((t).2) z3_0 z3_1).2 c5).2) z4_0 z4_1).1 c6).2).1 (And.intro (((((((((t).2) z3_0 z3_1).2 c5).2) z4_0 z4_1).1 c6).2).2).1 (And.intro ((((((((((t).2) z3_0 z3_1).2 c5).2) z4_0 z4_1).1 c6).2).2).2).1 (And.intro (fun c7 => And.intro (rfl) (And.intro ((((((((((((t).2) z3_0 z3_1).2 c5).2) z4_0 z4_1).1 c6).2).2).2).2).1 c7).1 (fun z5_0 z5_1 => And.intro (rfl) (And.intro ((((((((((((((t).2) z3_0 z3_1).2 c5).2) z4_0 z4_1).1 c6).2).2).2).2).1 c7).2) z5_0 z5_1).1 (fun z6_0 z6_1 => And.intro (rfl) (And.intro ((((((((((((((((t).2) z3_0 z3_1).2 c5).2) z4_0 z4_1).1 c6).2).2).2).2).1 c7).2) z5_0 z5_1).2) z6_0 z6_1).1 (fun z7_0 z7_1 => And.intro (rfl) (And.intro ((((((((((((((((((t).2) z3_0 z3_1).2 c5).2) z4_0 z4_1).1 c6).2).2).2).2).1 c7).2) z5_0 z5_1).2) z6_0 z6_1).2) z7_0 z7_1).1 (fun z8_0 z8_1 => And.intro (fun c8 => ((((((((((((((((((((t).2) z3_0 z3_1).2 c5).2) z4_0 z4_1).1 c6).2).2).2).2).1 c7).2) z5_0 z5_1).2) z6_0 z6_1).2) z7_0 z7_1).2) z8_0 z8_1).1 c8) (fun c8 => ((((((((((((((((((((t).2) z3_0 z3_1).2 c5).2) z4_0 z4_1).1 c6).2).2).2).2).1 c7).2) z5_0 z5_1).2) z6_0 z6_1).2) z7_0 z7_1).2) z8_0 z8_1).2 c8)))))))))) (fun c7 => (((((((((((t).2) z3_0 z3_1).2 c5).2) z4_0 z4_1).1 c6).2).2).2).2).2 c7)))))))))) (fun c6 => ((((((t).2) z3_0 z3_1).2 c5).2) z4_0 z4_1).2 c6)))))))
theorem C267_ok : am_CS 26 267 C267 := W267 (fun k l h K hb => by
  refine T267_0 ⟨hb.1, fun h' q1 => ⟨fun c2 => ?_, fun c2 => ⟨q1.2.2.2.2.1, fun h'_1 q3 => ⟨fun c4 => ⟨by
    have LDD : LD h h'_1 := LD_tr q1 q3
    have er := LDD.2.1
    have L : NT (h'_1 572 0) (nr h'_1 572 2) ∧ CN (h'_1 572 0) (nr h'_1 572 2) ∧ RLd h'_1 (h'_1 572 0) (nr h'_1 572 2) := ⟨LDD.2.2.2.2.1.1, LDD.2.2.2.2.1.2.1, LDD.2.2.2.2.2⟩
    have hp := np_0 L.1 (k := k) c2.1 (by rw [er]; exact c2.2)
    have sb : ∀ j, S20 (lay (nr h'_1 572 2) j 0) ∧ ∀ y, bit (lay (nr h'_1 572 2) j 0) y → y < h'_1 572 0 := fun j => ⟨S20_mk _, fun y z => (RA_rc L.1 ⟨by omega, hp⟩ ((bt_lay L.1 ⟨by omega, hp⟩).mp z)).2⟩
    exact ⟨L, by omega, hp⟩
, ⟨by
    have LDD : LD h h'_1 := LD_tr q1 q3
    have er := LDD.2.1
    have L : NT (h'_1 572 0) (nr h'_1 572 2) ∧ CN (h'_1 572 0) (nr h'_1 572 2) ∧ RLd h'_1 (h'_1 572 0) (nr h'_1 572 2) := ⟨LDD.2.2.2.2.1.1, LDD.2.2.2.2.1.2.1, LDD.2.2.2.2.2⟩
    have hp := np_0 L.1 (k := k) c2.1 (by rw [er]; exact c2.2)
    have sb : ∀ j, S20 (lay (nr h'_1 572 2) j 0) ∧ ∀ y, bit (lay (nr h'_1 572 2) j 0) y → y < h'_1 572 0 := fun j => ⟨S20_mk _, fun y z => (RA_rc L.1 ⟨by omega, hp⟩ ((bt_lay L.1 ⟨by omega, hp⟩).mp z)).2⟩
    exact ⟨L, by omega, hp⟩
, ⟨by have := mkb_c (rc (RA (nr h'_1 572 2) (fun x => ¬ (x = k ↔ ((0 : Int) = 1)))) (0 : Int)); omega, ⟨by have := mkb_c (rc (RA (nr h'_1 572 2) (fun x => ¬ (x = l ↔ ((0 : Int) = 1)))) (0 : Int)); omega, ⟨fun c5 => ⟨by
    have LDD : LD h h'_1 := LD_tr q1 q3
    have er := LDD.2.1
    have L : NT (h'_1 572 0) (nr h'_1 572 2) ∧ CN (h'_1 572 0) (nr h'_1 572 2) ∧ RLd h'_1 (h'_1 572 0) (nr h'_1 572 2) := ⟨LDD.2.2.2.2.1.1, LDD.2.2.2.2.1.2.1, LDD.2.2.2.2.2⟩
    have hp := np_0 L.1 (k := k) c2.1 (by rw [er]; exact c2.2)
    have sb : ∀ j, S20 (lay (nr h'_1 572 2) j 0) ∧ ∀ y, bit (lay (nr h'_1 572 2) j 0) y → y < h'_1 572 0 := fun j => ⟨S20_mk _, fun y z => (RA_rc L.1 ⟨by omega, hp⟩ ((bt_lay L.1 ⟨by omega, hp⟩).mp z)).2⟩
    rw [lay_not]
    exact ⟨L, Or.inl rfl, (sb k).1, (sb k).2⟩
, fun h'_2 q6 => ⟨by
    have LDD : LD h h'_1 := LD_tr q1 q3
    have er := LDD.2.1
    have L : NT (h'_1 572 0) (nr h'_1 572 2) ∧ CN (h'_1 572 0) (nr h'_1 572 2) ∧ RLd h'_1 (h'_1 572 0) (nr h'_1 572 2) := ⟨LDD.2.2.2.2.1.1, LDD.2.2.2.2.1.2.1, LDD.2.2.2.2.2⟩
    have hp := np_0 L.1 (k := k) c2.1 (by rw [er]; exact c2.2)
    have sb : ∀ j, S20 (lay (nr h'_1 572 2) j 0) ∧ ∀ y, bit (lay (nr h'_1 572 2) j 0) y → y < h'_1 572 0 := fun j => ⟨S20_mk _, fun y z => (RA_rc L.1 ⟨by omega, hp⟩ ((bt_lay L.1 ⟨by omega, hp⟩).mp z)).2⟩
    have w := Lda_f2 L (h'' := h'_2) (fun x i a => q6.1 x i (by omega) (by omega) (by omega))
    rw [lay_not]
    exact ⟨w.1, Or.inr rfl, (sb l).1, by rw [w.2.1]; exact (sb l).2⟩
, fun h'_3 q7 => ⟨by
    have LDD : LD h h'_1 := LD_tr q1 q3
    have er := LDD.2.1
    have L : NT (h'_1 572 0) (nr h'_1 572 2) ∧ CN (h'_1 572 0) (nr h'_1 572 2) ∧ RLd h'_1 (h'_1 572 0) (nr h'_1 572 2) := ⟨LDD.2.2.2.2.1.1, LDD.2.2.2.2.1.2.1, LDD.2.2.2.2.2⟩
    have hp := np_0 L.1 (k := k) c2.1 (by rw [er]; exact c2.2)
    have sb : ∀ j, S20 (lay (nr h'_1 572 2) j 0) ∧ ∀ y, bit (lay (nr h'_1 572 2) j 0) y → y < h'_1 572 0 := fun j => ⟨S20_mk _, fun y z => (RA_rc L.1 ⟨by omega, hp⟩ ((bt_lay L.1 ⟨by omega, hp⟩).mp z)).2⟩
    rw [lay_not, lay_not] at c5
    rw [lay_not] at q6 q7
    have e2 : nr h'_2 572 2 = nr h'_1 572 2 := nr_fr2 (fun i => q6.1 _ _ (by omega) (by omega) (by omega))
    have s3 : h'_3 571 30 = iPop (lay (nr h'_1 572 2) k 0) := by rw [q7.2.1, c5]
    have a8 : ∀ a b, (0 ≤ a ∧ a < iPop (lay (nr h'_1 572 2) k 0)) → (0 ≤ b ∧ b < iPop (lay (nr h'_1 572 2) k 0)) → fD h'_3 588 a b = lyD (nr h'_1 572 2) k a b := fun a b u v => (q7.1 _ _ (by omega) (by omega) (by omega)).trans (q6.2.2.1 a b u v)
    have a9 : ∀ a b, (0 ≤ a ∧ a < iPop (lay (nr h'_1 572 2) k 0)) → (0 ≤ b ∧ b < iPop (lay (nr h'_1 572 2) k 0)) → fD h'_3 589 a b = lyD (nr h'_1 572 2) l a b := fun a b u v => by
      rw [c5] at u v
      have w := q7.2.2.1 a b u v
      rw [e2] at w
      exact w
    have G3 : GS h'_3 := by
      unfold GS
      rw [s3]
      have m2 := DM_lyd L.1 L.2.1 (sb l).1 (sb l).2
      rw [← c5] at m2
      exact ⟨DM_cg (DM_lyd L.1 L.2.1 (sb k).1 (sb k).2) a8, DM_cg m2 a9⟩
    exact G3
, fun h'_4 q8 => ⟨by
    have LDD : LD h h'_1 := LD_tr q1 q3
    have er := LDD.2.1
    have L : NT (h'_1 572 0) (nr h'_1 572 2) ∧ CN (h'_1 572 0) (nr h'_1 572 2) ∧ RLd h'_1 (h'_1 572 0) (nr h'_1 572 2) := ⟨LDD.2.2.2.2.1.1, LDD.2.2.2.2.1.2.1, LDD.2.2.2.2.2⟩
    have hp := np_0 L.1 (k := k) c2.1 (by rw [er]; exact c2.2)
    have sb : ∀ j, S20 (lay (nr h'_1 572 2) j 0) ∧ ∀ y, bit (lay (nr h'_1 572 2) j 0) y → y < h'_1 572 0 := fun j => ⟨S20_mk _, fun y z => (RA_rc L.1 ⟨by omega, hp⟩ ((bt_lay L.1 ⟨by omega, hp⟩).mp z)).2⟩
    rw [lay_not, lay_not] at c5
    rw [lay_not] at q6 q7
    have e2 : nr h'_2 572 2 = nr h'_1 572 2 := nr_fr2 (fun i => q6.1 _ _ (by omega) (by omega) (by omega))
    have s3 : h'_3 571 30 = iPop (lay (nr h'_1 572 2) k 0) := by rw [q7.2.1, c5]
    have a8 : ∀ a b, (0 ≤ a ∧ a < iPop (lay (nr h'_1 572 2) k 0)) → (0 ≤ b ∧ b < iPop (lay (nr h'_1 572 2) k 0)) → fD h'_3 588 a b = lyD (nr h'_1 572 2) k a b := fun a b u v => (q7.1 _ _ (by omega) (by omega) (by omega)).trans (q6.2.2.1 a b u v)
    have a9 : ∀ a b, (0 ≤ a ∧ a < iPop (lay (nr h'_1 572 2) k 0)) → (0 ≤ b ∧ b < iPop (lay (nr h'_1 572 2) k 0)) → fD h'_3 589 a b = lyD (nr h'_1 572 2) l a b := fun a b u v => by
      rw [c5] at u v
      have w := q7.2.2.1 a b u v
      rw [e2] at w
      exact w
    have G3 : GS h'_3 := by
      unfold GS
      rw [s3]
      have m2 := DM_lyd L.1 L.2.1 (sb l).1 (sb l).2
      rw [← c5] at m2
      exact ⟨DM_cg (DM_lyd L.1 L.2.1 (sb k).1 (sb k).2) a8, DM_cg m2 a9⟩
    have s4 : h'_4 571 30 = iPop (lay (nr h'_1 572 2) k 0) := (q8.1 _ _ (by omega)).trans s3
    have e8 : fD h'_4 588 = fD h'_3 588 := by funext a b; exact q8.1 _ _ (by omega)
    have e9 : fD h'_4 589 = fD h'_3 589 := by funext a b; exact q8.1 _ _ (by omega)
    refine ⟨?_, q8.2⟩
    unfold GS
    rw [q8.1 571 30 (by omega), e8, e9]
    exact G3
, fun h'_5 q9 => ⟨fun c10 => ?_, fun c10 => ?_⟩⟩⟩⟩⟩, fun c5 => ?_⟩⟩⟩⟩⟩, fun c4 => ?_⟩⟩⟩⟩
  · exact am_rB (hb.2 h' (LD_q q1)) (ifc_f (fun z => c2 z.1))
  · have LDD : LD h h'_1 := LD_tr q1 q3
    have er := LDD.2.1
    have L : NT (h'_1 572 0) (nr h'_1 572 2) ∧ CN (h'_1 572 0) (nr h'_1 572 2) ∧ RLd h'_1 (h'_1 572 0) (nr h'_1 572 2) := ⟨LDD.2.2.2.2.1.1, LDD.2.2.2.2.1.2.1, LDD.2.2.2.2.2⟩
    have hp := np_0 L.1 (k := k) c2.1 (by rw [er]; exact c2.2)
    have sb : ∀ j, S20 (lay (nr h'_1 572 2) j 0) ∧ ∀ y, bit (lay (nr h'_1 572 2) j 0) y → y < h'_1 572 0 := fun j => ⟨S20_mk _, fun y z => (RA_rc L.1 ⟨by omega, hp⟩ ((bt_lay L.1 ⟨by omega, hp⟩).mp z)).2⟩
    rw [lay_not, lay_not] at c5
    rw [lay_not] at q6 q7
    have e2 : nr h'_2 572 2 = nr h'_1 572 2 := nr_fr2 (fun i => q6.1 _ _ (by omega) (by omega) (by omega))
    have s3 : h'_3 571 30 = iPop (lay (nr h'_1 572 2) k 0) := by rw [q7.2.1, c5]
    have a8 : ∀ a b, (0 ≤ a ∧ a < iPop (lay (nr h'_1 572 2) k 0)) → (0 ≤ b ∧ b < iPop (lay (nr h'_1 572 2) k 0)) → fD h'_3 588 a b = lyD (nr h'_1 572 2) k a b := fun a b u v => (q7.1 _ _ (by omega) (by omega) (by omega)).trans (q6.2.2.1 a b u v)
    have a9 : ∀ a b, (0 ≤ a ∧ a < iPop (lay (nr h'_1 572 2) k 0)) → (0 ≤ b ∧ b < iPop (lay (nr h'_1 572 2) k 0)) → fD h'_3 589 a b = lyD (nr h'_1 572 2) l a b := fun a b u v => by
      rw [c5] at u v
      have w := q7.2.2.1 a b u v
      rw [e2] at w
      exact w
    have G3 : GS h'_3 := by
      unfold GS
      rw [s3]
      have m2 := DM_lyd L.1 L.2.1 (sb l).1 (sb l).2
      rw [← c5] at m2
      exact ⟨DM_cg (DM_lyd L.1 L.2.1 (sb k).1 (sb k).2) a8, DM_cg m2 a9⟩
    have s4 : h'_4 571 30 = iPop (lay (nr h'_1 572 2) k 0) := (q8.1 _ _ (by omega)).trans s3
    have e8 : fD h'_4 588 = fD h'_3 588 := by funext a b; exact q8.1 _ _ (by omega)
    have e9 : fD h'_4 589 = fD h'_3 589 := by funext a b; exact q8.1 _ _ (by omega)
    have iw : isW h'_4 ↔ ALK (nr h 572 2) k l := by
      unfold isW ALK
      rw [s4, e8, e9, ← er]
      constructor
      · rintro ⟨f, I, _⟩
        exact ⟨c5, f, ISO_dc a8 a9 I⟩
      · rintro ⟨_, f, I⟩
        exact ⟨f, ISO_dc (fun a b u v => (a8 a b u v).symm) (fun a b u v => (a9 a b u v).symm) I, fun i u v => Or.inl (by
          have := iPop_le20 (sb k).1
          rw [q8.1 _ _ (by omega)]
          exact q7.2.2.2 i u (by omega))⟩
    rw [iw] at c10
    rw [q1.2.1] at c4
    refine am_rB (hb.2 h'_5 (RFr_q LDD (fun x i u v => (q9 x i (by omega)).trans ((q8.1 x i (by omega)).trans ((q7.1 x i (by omega) (by omega) v).trans (q6.1 x i (by omega) (by omega) v)))))) ?_
    rw [ifc_t ⟨c2, c4⟩]
    rw [am_b_f c10]
  · have LDD : LD h h'_1 := LD_tr q1 q3
    have er := LDD.2.1
    have L : NT (h'_1 572 0) (nr h'_1 572 2) ∧ CN (h'_1 572 0) (nr h'_1 572 2) ∧ RLd h'_1 (h'_1 572 0) (nr h'_1 572 2) := ⟨LDD.2.2.2.2.1.1, LDD.2.2.2.2.1.2.1, LDD.2.2.2.2.2⟩
    have hp := np_0 L.1 (k := k) c2.1 (by rw [er]; exact c2.2)
    have sb : ∀ j, S20 (lay (nr h'_1 572 2) j 0) ∧ ∀ y, bit (lay (nr h'_1 572 2) j 0) y → y < h'_1 572 0 := fun j => ⟨S20_mk _, fun y z => (RA_rc L.1 ⟨by omega, hp⟩ ((bt_lay L.1 ⟨by omega, hp⟩).mp z)).2⟩
    rw [lay_not, lay_not] at c5
    rw [lay_not] at q6 q7
    have e2 : nr h'_2 572 2 = nr h'_1 572 2 := nr_fr2 (fun i => q6.1 _ _ (by omega) (by omega) (by omega))
    have s3 : h'_3 571 30 = iPop (lay (nr h'_1 572 2) k 0) := by rw [q7.2.1, c5]
    have a8 : ∀ a b, (0 ≤ a ∧ a < iPop (lay (nr h'_1 572 2) k 0)) → (0 ≤ b ∧ b < iPop (lay (nr h'_1 572 2) k 0)) → fD h'_3 588 a b = lyD (nr h'_1 572 2) k a b := fun a b u v => (q7.1 _ _ (by omega) (by omega) (by omega)).trans (q6.2.2.1 a b u v)
    have a9 : ∀ a b, (0 ≤ a ∧ a < iPop (lay (nr h'_1 572 2) k 0)) → (0 ≤ b ∧ b < iPop (lay (nr h'_1 572 2) k 0)) → fD h'_3 589 a b = lyD (nr h'_1 572 2) l a b := fun a b u v => by
      rw [c5] at u v
      have w := q7.2.2.1 a b u v
      rw [e2] at w
      exact w
    have G3 : GS h'_3 := by
      unfold GS
      rw [s3]
      have m2 := DM_lyd L.1 L.2.1 (sb l).1 (sb l).2
      rw [← c5] at m2
      exact ⟨DM_cg (DM_lyd L.1 L.2.1 (sb k).1 (sb k).2) a8, DM_cg m2 a9⟩
    have s4 : h'_4 571 30 = iPop (lay (nr h'_1 572 2) k 0) := (q8.1 _ _ (by omega)).trans s3
    have e8 : fD h'_4 588 = fD h'_3 588 := by funext a b; exact q8.1 _ _ (by omega)
    have e9 : fD h'_4 589 = fD h'_3 589 := by funext a b; exact q8.1 _ _ (by omega)
    have iw : isW h'_4 ↔ ALK (nr h 572 2) k l := by
      unfold isW ALK
      rw [s4, e8, e9, ← er]
      constructor
      · rintro ⟨f, I, _⟩
        exact ⟨c5, f, ISO_dc a8 a9 I⟩
      · rintro ⟨_, f, I⟩
        exact ⟨f, ISO_dc (fun a b u v => (a8 a b u v).symm) (fun a b u v => (a9 a b u v).symm) I, fun i u v => Or.inl (by
          have := iPop_le20 (sb k).1
          rw [q8.1 _ _ (by omega)]
          exact q7.2.2.2 i u (by omega))⟩
    rw [iw] at c10
    rw [q1.2.1] at c4
    refine am_rB (hb.2 h'_5 (RFr_q LDD (fun x i u v => (q9 x i (by omega)).trans ((q8.1 x i (by omega)).trans ((q7.1 x i (by omega) (by omega) v).trans (q6.1 x i (by omega) (by omega) v)))))) ?_
    rw [ifc_t ⟨c2, c4⟩]
    rw [am_b_t c10]
  · have LDD : LD h h'_1 := LD_tr q1 q3
    have er := LDD.2.1
    have L : NT (h'_1 572 0) (nr h'_1 572 2) ∧ CN (h'_1 572 0) (nr h'_1 572 2) ∧ RLd h'_1 (h'_1 572 0) (nr h'_1 572 2) := ⟨LDD.2.2.2.2.1.1, LDD.2.2.2.2.1.2.1, LDD.2.2.2.2.2⟩
    have hp := np_0 L.1 (k := k) c2.1 (by rw [er]; exact c2.2)
    have sb : ∀ j, S20 (lay (nr h'_1 572 2) j 0) ∧ ∀ y, bit (lay (nr h'_1 572 2) j 0) y → y < h'_1 572 0 := fun j => ⟨S20_mk _, fun y z => (RA_rc L.1 ⟨by omega, hp⟩ ((bt_lay L.1 ⟨by omega, hp⟩).mp z)).2⟩
    rw [lay_not, lay_not, er] at c5
    rw [q1.2.1] at c4
    refine am_rB (hb.2 h'_1 (LD_q LDD)) ?_
    rw [ifc_t ⟨c2, c4⟩, am_b_f (fun w => c5 w.1)]
  · rw [q1.2.1] at c4
    exact am_rB (hb.2 h'_1 (LD_q (LD_tr q1 q3))) (ifc_f (fun z => c4 z.2)))
