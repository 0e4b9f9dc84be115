theorem ct_all {P : Int → Prop} : ∀ n : Nat, (∀ k : Nat, k < n → P k) → ct P n = n
  | 0, _ => rfl
  | n + 1, h => by
    rw [ct_succ, ct_all n (fun k hk => h k (by omega)), am_b_t (h n (by omega))]
    omega
theorem UFS_id {h : am_H} {s m : Int} (hm : 0 ≤ m ∧ m ≤ 190) (h1 : h s 5 = m) (h2 : ∀ l, 0 ≤ l → l < m → h (s + 3) l = l) : UFS h s m := by
  refine ⟨hm, fun l l0 l1 => by rw [h2 l l0 l1]; omega, ?_⟩
  rw [h1, ct_all m.toNat (fun k hk => rt_fix (h2 k (by omega) (by omega)))]
  omega
theorem Co_sd {n : Int} {r f : Int → Int} (hN : NT n r) (h : Co (nl r) (fun k => k) f (thet r)) : ∀ x y, (0 ≤ x ∧ x < nl r) → (0 ≤ y ∧ y < nl r) → (f x = f y ↔ rc (sdE r) x y) :=
  Co_fin h (fun _ _ _ => rfl) (thE_sym hN False) (fun x y q => q.1) (fun x y hx hy q => ⟨⟨hx, hy⟩, Or.inl q⟩) (fun x y q => Or.inl (q.2.elim id (fun z => z.1.elim)))
theorem Co_pt {n : Int} {r f : Int → Int} (hN : NT n r) (h : Co (nl r) (fun k => k) f (fun x y => thet r x y ∨ tau r x y)) : ∀ x y, (0 ≤ x ∧ x < nl r) → (0 ≤ y ∧ y < nl r) → (f x = f y ↔ rc (ptE r) x y) :=
  Co_fin h (fun _ _ _ => rfl) (thE_sym hN True) (fun x y q => q.1) (fun x y hx hy q => ⟨⟨hx, hy⟩, q.imp id (fun z => ⟨trivial, z⟩)⟩) (fun x y q => Or.inl (q.2.imp id (fun z => z.2)))
theorem Co_all {m : Int} {f f' : Int → Int} {A B : Int → Int → Prop} (h : Co m f f' A) (hAB : ∀ x y, (0 ≤ x ∧ x < m) → (0 ≤ y ∧ y < m) → A x y → B x y) (hall : ∀ x y, (0 ≤ x ∧ x < m) → (0 ≤ y ∧ y < m) → f' x = f' y) : Co m f f' B := ⟨h.1, fun x y hx hy _ => hall x y hx hy, fun F hs hF hf => h.2.2 F hs (fun x y hx hy q => hF x y hx hy (hAB x y hx hy q)) hf⟩
/-! 78 FactorNets$Sorts.learn -/
def C78 : am_K := fun as h K => am_a4 as (fun v0 v1 v2 v3 => am_o 9 v0 (fun s => am_o 3 v1 (fun o => am_o 2 v2 (fun mt => am_o 1 v3 (fun n => ((mt = o + 2 ∧ n = o + 45 ∧ s = o + 69 ∧ 0 < o) ∧ (NT (h o 0) (nr h (o + 1) 0) ∧ CN (h o 0) (nr h (o + 1) 0) ∧ MT h mt (h o 0) (nr h (o + 1) 0) ∧ LN h n (h o 0) (nr h (o + 1) 0))) ∧ (∀ (h' : am_H), (∀ x i, ¬ (s ≤ x ∧ x ≤ s + 3) → h' x i = h x i) ∧ SO h' s (nr h (o + 1) 0) → K (none) (h')))))))
theorem W78 {d : Nat} (H : ∀ (s : Int) (o : Int) (mt : Int) (n : Int) (h : am_H) (K : Option am_V → am_H → Prop), ((mt = o + 2 ∧ n = o + 45 ∧ s = o + 69 ∧ 0 < o) ∧ (NT (h o 0) (nr h (o + 1) 0) ∧ CN (h o 0) (nr h (o + 1) 0) ∧ MT h mt (h o 0) (nr h (o + 1) 0) ∧ LN h n (h o 0) (nr h (o + 1) 0))) ∧ (∀ (h' : am_H), (∀ x i, ¬ (s ≤ x ∧ x ≤ s + 3) → h' x i = h x i) ∧ SO h' s (nr h (o + 1) 0) → K (none) (h')) → am_AT d 78 0 [some (mR 1 9 0 s), some (mR 1 3 0 o), some (mR 1 2 0 mt), some (mR 1 1 0 n), none] h K) : am_CS d 78 C78 := by
  refine am_CS_of (T := tb78) (mL := 5) (rk := 0) rfl (fun as h K hC => ?_)
  obtain ⟨v0, v1, v2, v3, rfl, hC0⟩ := am_a4_e hC
  obtain ⟨s, rfl, hC1⟩ := am_o_e hC0
  obtain ⟨o, rfl, hC2⟩ := am_o_e hC1
  obtain ⟨mt, rfl, hC3⟩ := am_o_e hC2
  obtain ⟨n, rfl, hC4⟩ := am_o_e hC3
  refine ⟨Nat.le_of_ble_eq_true rfl, ?_⟩
  exact H s o mt n h K hC4
theorem T78_0 {R : Option am_V → am_H → Prop} {h : am_H} {s : Int} {o : Int} {mt : Int} {n : Int} (t : (0 ≤ (h n 0) ∧ (h n 0) ≤ 190) ∧ (∀ (h' : am_H), ((∀ x i, x ≠ s + 3 → ¬ (x = s ∧ i = 5) → h' x i = h x i) ∧ h' s 5 = (h n 0) ∧ (∀ l, 0 ≤ l → l < (h n 0) → h' (s + 3) l = l)) → (am_AT 4 78 11 [some (mR 1 9 0 s), some (mR 1 3 0 o), some (mR 1 2 0 mt), some (mR 1 1 0 n), some (mI 0)] h' R))) : am_AT 4 78 0 [some (mR 1 9 0 s), some (mR 1 3 0 o), some (mR 1 2 0 mt), some (mR 1 1 0 n), none] h R :=
  am_T (d := 3) (m := 78) (T := tb78) (mL := 5) (rk := 0) (cuts := [(11, [1, 1, 1, 1, 2])]) (l := [(80, C80), (81, C81), (82, C82), (85, C85)]) rfl ⟨am_CS_d (by decide) C80_ok, am_CS_d (by decide) C81_ok, am_CS_d (by decide) C82_ok, am_CS_d (by decide) C85_ok, trivial⟩ 10 (And.intro (t).1 (fun z1_0 z1_1 => ((t).2) z1_0 z1_1))
theorem T78_11 {R : Option am_V → am_H → Prop} {h : am_H} {s : Int} {o : Int} {mt : Int} {n : Int} {x4 : Int} (t : (R32 x4) ∧ (((h n 0 ≤ x4) → ((UFS (am_up h s 0 (h s 5)) s ((am_up h s 0 (h s 5)) n 0) ∧ (s + 1) ≠ s + 3 ∧ (s + 1) ≠ s) ∧ (∀ (h' : am_H), ((∀ x i, x ≠ s + 3 → x ≠ (s + 1) → h' x i = (am_up h s 0 (h s 5)) x i) ∧ UFS h' s ((am_up h s 0 (h s 5)) n 0) ∧ (∀ k, 0 ≤ k → k < ((am_up h s 0 (h s 5)) n 0) → rtf (h' (s + 3)) k = rtf ((am_up h s 0 (h s 5)) (s + 3)) k) ∧ (∀ k, 0 ≤ k → k < ((am_up h s 0 (h s 5)) n 0) → h' (s + 1) k = ct (fun j => rtf ((am_up h s 0 (h s 5)) (s + 3)) j = j) (rtf ((am_up h s 0 (h s 5)) (s + 3)) k).toNat)) → (((n = o + 45 ∧ s = o + 69 ∧ 0 < o) ∧ (NT (h' o 0) (nr h' (o + 1) 0) ∧ LN h' n (h' o 0) (nr h' (o + 1) 0)) ∧ UFS h' s (nl (nr h' (o + 1) 0))) ∧ (∀ (h'_1 : am_H), ((∀ x i, x ≠ s + 3 → ¬ (x = s ∧ i = 5) → h'_1 x i = h' x i) ∧ UFS h'_1 s (nl (nr h' (o + 1) 0)) ∧ Co (nl (nr h' (o + 1) 0)) (rtf (h' (s + 3))) (rtf (h'_1 (s + 3))) (tau (nr h' (o + 1) 0))) → ((UFS (am_up h'_1 s 1 ((h'_1) s 5)) s ((am_up h'_1 s 1 ((h'_1) s 5)) n 0) ∧ (s + 2) ≠ s + 3 ∧ (s + 2) ≠ s) ∧ (∀ (h'_2 : am_H), ((∀ x i, x ≠ s + 3 → x ≠ (s + 2) → h'_2 x i = (am_up h'_1 s 1 ((h'_1) s 5)) x i) ∧ UFS h'_2 s ((am_up h'_1 s 1 ((h'_1) s 5)) n 0) ∧ (∀ k, 0 ≤ k → k < ((am_up h'_1 s 1 ((h'_1) s 5)) n 0) → rtf (h'_2 (s + 3)) k = rtf ((am_up h'_1 s 1 ((h'_1) s 5)) (s + 3)) k) ∧ (∀ k, 0 ≤ k → k < ((am_up h'_1 s 1 ((h'_1) s 5)) n 0) → h'_2 (s + 2) k = ct (fun j => rtf ((am_up h'_1 s 1 ((h'_1) s 5)) (s + 3)) j = j) (rtf ((am_up h'_1 s 1 ((h'_1) s 5)) (s + 3)) k).toNat)) → (R none h'_2)))))))) ∧ ((x4 < h n 0) → (((h s 5 ≤ 1) → ((UFS (am_up h s 0 (h s 5)) s ((am_up h s 0 (h s 5)) n 0) ∧ (s + 1) ≠ s + 3 ∧ (s + 1) ≠ s) ∧ (∀ (h' : am_H), ((∀ x i, x ≠ s + 3 → x ≠ (s + 1) → h' x i = (am_up h s 0 (h s 5)) x i) ∧ UFS h' s ((am_up h s 0 (h s 5)) n 0) ∧ (∀ k, 0 ≤ k → k < ((am_up h s 0 (h s 5)) n 0) → rtf (h' (s + 3)) k = rtf ((am_up h s 0 (h s 5)) (s + 3)) k) ∧ (∀ k, 0 ≤ k → k < ((am_up h s 0 (h s 5)) n 0) → h' (s + 1) k = ct (fun j => rtf ((am_up h s 0 (h s 5)) (s + 3)) j = j) (rtf ((am_up h s 0 (h s 5)) (s + 3)) k).toNat)) → (((n = o + 45 ∧ s = o + 69 ∧ 0 < o) ∧ (NT (h' o 0) (nr h' (o + 1) 0) ∧ LN h' n (h' o 0) (nr h' (o + 1) 0)) ∧ UFS h' s (nl (nr h' (o + 1) 0))) ∧ (∀ (h'_1 : am_H), ((∀ x i, x ≠ s + 3 → ¬ (x = s ∧ i = 5) → h'_1 x i = h' x i) ∧ UFS h'_1 s (nl (nr h' (o + 1) 0)) ∧ Co (nl (nr h' (o + 1) 0)) (rtf (h' (s + 3))) (rtf (h'_1 (s + 3))) (tau (nr h' (o + 1) 0))) → ((UFS (am_up h'_1 s 1 ((h'_1) s 5)) s ((am_up h'_1 s 1 ((h'_1) s 5)) n 0) ∧ (s + 2) ≠ s + 3 ∧ (s + 2) ≠ s) ∧ (∀ (h'_2 : am_H), ((∀ x i, x ≠ s + 3 → x ≠ (s + 2) → h'_2 x i = (am_up h'_1 s 1 ((h'_1) s 5)) x i) ∧ UFS h'_2 s ((am_up h'_1 s 1 ((h'_1) s 5)) n 0) ∧ (∀ k, 0 ≤ k → k < ((am_up h'_1 s 1 ((h'_1) s 5)) n 0) → rtf (h'_2 (s + 3)) k = rtf ((am_up h'_1 s 1 ((h'_1) s 5)) (s + 3)) k) ∧ (∀ k, 0 ≤ k → k < ((am_up h'_1 s 1 ((h'_1) s 5)) n 0) → h'_2 (s + 2) k = ct (fun j => rtf ((am_up h'_1 s 1 ((h'_1) s 5)) (s + 3)) j = j) (rtf ((am_up h'_1 s 1 ((h'_1) s 5)) (s + 3)) k).toNat)) → (R none h'_2)))))))) ∧ ((1 < h s 5) → ((R32 x4) ∧ (((mt = o + 2 ∧ n = o + 45 ∧ s = o + 69 ∧ 0 < o) ∧ (NT (h o 0) (nr h (o + 1) 0) ∧ CN (h o 0) (nr h (o + 1) 0) ∧ MT h mt (h o 0) (nr h (o + 1) 0) ∧ LN h n (h o 0) (nr h (o + 1) 0)) ∧ UFS h s (nl (nr h (o + 1) 0)) ∧ (0 ≤ x4 ∧ x4 < nl (nr h (o + 1) 0))) ∧ (∀ (h' : am_H), ((∀ x i, x ≠ s + 3 → ¬ (x = s ∧ i = 5) → h' x i = h x i) ∧ UFS h' s (nl (nr h (o + 1) 0)) ∧ Co (nl (nr h (o + 1) 0)) (rtf (h (s + 3))) (rtf (h' (s + 3))) (fun x y => x = x4 ∧ thet (nr h (o + 1) 0) x4 y)) → (am_AT 4 78 11 [some (mR 1 9 0 s), some (mR 1 3 0 o), some (mR 1 2 0 mt), some (mR 1 1 0 n), some (mI (x4 + 1))] h' R))))))))) : am_AT 4 78 11 [some (mR 1 9 0 s), some (mR 1 3 0 o), some (mR 1 2 0 mt), some (mR 1 1 0 n), some (mI x4)] h R :=
  am_T (d := 3) (m := 78) (T := tb78) (mL := 5) (rk := 0) (cuts := [(11, [1, 1, 1, 1, 2])]) (l := [(80, C80), (81, C81), (82, C82), (85, C85)]) rfl ⟨am_CS_d (by decide) C80_ok, am_CS_d (by decide) C81_ok, am_CS_d (by decide) C82_ok, am_CS_d (by decide) C85_ok, trivial⟩ 37 (And.intro (t).1 (And.intro (fun c1 => And.intro (((t).2).1 c1).1 (fun z2_0 z2_1 => And.intro (((((t).2).1 c1).2) z2_0 z2_1).1 (fun z3_0 z3_1 => And.intro (((((((t).2).1 c1).2) z2_0 z2_1).2) z3_0 z3_1).1 (fun z4_0 z4_1 => ((((((((t).2).1 c1).2) z2_0 z2_1).2) z3_0 z3_1).2) z4_0 z4_1)))) (fun c1 => And.intro (fun c2 => And.intro ((((t).2).2 c1).1 c2).1 (fun z5_0 z5_1 => And.intro ((((((t).2).2 c1).1 c2).2) z5_0 z5_1).1 (fun z6_0 z6_1 => And.intro ((((((((t).2).2 c1).1 c2).2) z5_0 z5_1).2) z6_0 z6_1).1 (fun z7_0 z7_1 => (((((((((t).2).2 c1).1 c2).2) z5_0 z5_1).2) z6_0 z6_1).2) z7_0 z7_1)))) (fun c2 => And.intro ((((t).2).2 c1).2 c2).1 (And.intro (((((t).2).2 c1).2 c2).2).1 (fun z8_0 z8_1 => ((((((t).2).2 c1).2 c2).2).2) z8_0 z8_1))))))
theorem L78 {K : Option am_V → am_H → Prop} {h : am_H} {o : Int} (ho : 0 < o) (hN : NT (h o 0) (nr h (o + 1) 0)) (hC : CN (h o 0) (nr h (o + 1) 0)) (hM : MT h (o + 2) (h o 0) (nr h (o + 1) 0)) (hL : LN h (o + 45) (h o 0) (nr h (o + 1) 0)) (hK : ∀ h' : am_H, (∀ x i, ¬ (o + 69 ≤ x ∧ x ≤ o + 69 + 3) → h' x i = h x i) ∧ SO h' (o + 69) (nr h (o + 1) 0) → K none h') : ∀ (i : Int) (hh : am_H), 0 ≤ i → i ≤ nl (nr h (o + 1) 0) → (∀ x i, x ≠ o + 69 + 3 → ¬ (x = o + 69 ∧ i = 5) → hh x i = h x i) → UFS hh (o + 69) (nl (nr h (o + 1) 0)) → Co (nl (nr h (o + 1) 0)) (fun k => k) (rtf (hh (o + 69 + 3))) (fun x y => x < i ∧ thet (nr h (o + 1) 0) x y) → am_AT 4 78 11 [some (mR 1 9 0 (o + 69)), some (mR 1 3 0 o), some (mR 1 2 0 (o + 2)), some (mR 1 1 0 (o + 45)), some (mI i)] hh K := by
  have hn1 := hN.1
  have hn2 := hN.2.1
  have hnl := nl_r (nr h (o + 1) 0)
  refine lp (nl (nr h (o + 1) 0)) (fun i ih hh i0 i1 f1 f2 f3 => ?_)
  have en : hh (o + 45) 0 = nl (nr h (o + 1) 0) := by rw [f1 _ _ (by omega) (by omega)]; exact hL.1
  have eM : am_up hh (o + 69) 0 (hh (o + 69) 5) (o + 45) 0 = nl (nr h (o + 1) 0) := by rw [am_up_ne (by omega)]; exact en
  have e0 : hh o 0 = h o 0 := f1 _ _ (by omega) (by omega)
  have eR : nr hh (o + 1) 0 = nr h (o + 1) 0 := nr_fr2 (fun i => f1 _ _ (by omega) (by omega))
  have g2 : UFS (am_up hh (o + 69) 0 (hh (o + 69) 5)) (o + 69) (nl (nr h (o + 1) 0)) := UFS_fr f2 (fun i => am_up_ne (by omega)) (am_up_ne2 (by omega))
  refine T78_11 ⟨by omega, ⟨fun c1 => ⟨⟨by rw [eM]; exact g2, by omega, by omega⟩, fun h' q2 => ⟨⟨⟨rfl, rfl, ho⟩, by rw [show nr h' (o + 1) 0 = nr h (o + 1) 0 from nr_fr2 (fun i => by rw [q2.1 _ _ (by omega) (by omega), am_up_ne (by omega)]; exact f1 _ _ (by omega) (by omega)), show h' o 0 = h o 0 by rw [q2.1 _ _ (by omega) (by omega), am_up_ne (by omega), e0]]; exact ⟨⟨hN, LN_fr hn2 hL (fun x i hx1 hx2 => by rw [q2.1 _ _ (by omega) (by omega), am_up_ne (by omega)]; exact f1 _ _ (by omega) (by omega))⟩, by rw [← eM]; exact q2.2.1⟩⟩, fun h'_1 q3 => ⟨⟨UFS_fr (by rw [show am_up h'_1 (o + 69) 1 (h'_1 (o + 69) 5) (o + 45) 0 = nl (nr h' (o + 1) 0) by rw [am_up_ne (by omega), q3.1 _ _ (by omega) (by omega), q2.1 _ _ (by omega) (by omega), eM, show nr h' (o + 1) 0 = nr h (o + 1) 0 from nr_fr2 (fun i => by rw [q2.1 _ _ (by omega) (by omega), am_up_ne (by omega)]; exact f1 _ _ (by omega) (by omega))]]; exact q3.2.1) (fun i => am_up_ne (by omega)) (am_up_ne2 (by omega)), by omega, by omega⟩, fun h'_2 q4 => ?_⟩⟩⟩, fun c1 => ⟨fun c2 => ⟨⟨by rw [eM]; exact g2, by omega, by omega⟩, fun h' q3 => ⟨⟨⟨rfl, rfl, ho⟩, by rw [show nr h' (o + 1) 0 = nr h (o + 1) 0 from nr_fr2 (fun i => by rw [q3.1 _ _ (by omega) (by omega), am_up_ne (by omega)]; exact f1 _ _ (by omega) (by omega)), show h' o 0 = h o 0 by rw [q3.1 _ _ (by omega) (by omega), am_up_ne (by omega), e0]]; exact ⟨⟨hN, LN_fr hn2 hL (fun x i hx1 hx2 => by rw [q3.1 _ _ (by omega) (by omega), am_up_ne (by omega)]; exact f1 _ _ (by omega) (by omega))⟩, by rw [← eM]; exact q3.2.1⟩⟩, fun h'_1 q4 => ⟨⟨UFS_fr (by rw [show am_up h'_1 (o + 69) 1 (h'_1 (o + 69) 5) (o + 45) 0 = nl (nr h' (o + 1) 0) by rw [am_up_ne (by omega), q4.1 _ _ (by omega) (by omega), q3.1 _ _ (by omega) (by omega), eM, show nr h' (o + 1) 0 = nr h (o + 1) 0 from nr_fr2 (fun i => by rw [q3.1 _ _ (by omega) (by omega), am_up_ne (by omega)]; exact f1 _ _ (by omega) (by omega))]]; exact q4.2.1) (fun i => am_up_ne (by omega)) (am_up_ne2 (by omega)), by omega, by omega⟩, fun h'_2 q5 => ?_⟩⟩⟩, fun c2 => ⟨by omega, ⟨⟨⟨rfl, rfl, rfl, ho⟩, by rw [e0, eR]; exact ⟨⟨hN, hC, MT_fr hn2 hM (fun x i hx1 hx2 => f1 _ _ (by omega) (by omega)), LN_fr hn2 hL (fun x i hx1 hx2 => f1 _ _ (by omega) (by omega))⟩, f2, i0, by omega⟩⟩, fun h' q3 => ?_⟩⟩⟩⟩⟩
  · have hth : Co (nl (nr h (o + 1) 0)) (fun k => k) (rtf (hh (o + 69 + 3))) (thet (nr h (o + 1) 0)) := Co_iff f3 (fun x y hx hy => ⟨fun q => ⟨by omega, q⟩, fun q => q.2⟩)
    have er : nr h' (o + 1) 0 = nr h (o + 1) 0 := nr_fr2 (fun i => by rw [q2.1 _ _ (by omega) (by omega), am_up_ne (by omega)]; exact f1 _ _ (by omega) (by omega))
    rw [er] at q3
    rw [show am_up hh (o + 69) 0 (hh (o + 69) 5) (o + 69 + 3) = hh (o + 69 + 3) from am_up_cell (by omega)] at q2
    have u1 := q3.2.1
    have eM2 : am_up h'_1 (o + 69) 1 (h'_1 (o + 69) 5) (o + 45) 0 = nl (nr h (o + 1) 0) := by rw [am_up_ne (by omega), q3.1 _ _ (by omega) (by omega), q2.1 _ _ (by omega) (by omega), eM]
    have hpt : Co (nl (nr h (o + 1) 0)) (fun k => k) (rtf (h'_1 (o + 69 + 3))) (fun x y => thet (nr h (o + 1) 0) x y ∨ tau (nr h (o + 1) 0) x y) := by
      refine Co_trans (Co_cong hth (fun k k0 k1 => ?_)) q3.2.2 (fun x y _ _ => Iff.rfl)
      exact q2.2.2.1 k k0 (by rw [eM]; exact k1)
    refine hK h'_2 ⟨fun x i hx => ?_, ?_, ?_, fun k k0 k1 => ?_⟩
    · rw [q4.1 x i (by omega) (by omega), am_up_ne (by omega), q3.1 x i (by omega) (by omega), q2.1 x i (by omega) (by omega), am_up_ne (by omega)]
      exact f1 x i (by omega) (by omega)
    · rw [q4.1 _ _ (by omega) (by omega), am_up_ne2 (by omega), q3.1 _ _ (by omega) (by omega), q2.1 _ _ (by omega) (by omega), am_up_eq, f2.2.2]
      exact ncl_of (VF_rt f2.2.1) (Co_sd hN hth)
    · rw [q4.1 _ _ (by omega) (by omega), am_up_eq, u1.2.2]
      exact ncl_of (VF_rt u1.2.1) (Co_pt hN hpt)
    · refine ⟨?_, ?_⟩
      · rw [q4.1 _ _ (by omega) (by omega), am_up_ne (by omega), q3.1 _ _ (by omega) (by omega), q2.2.2.2 k k0 (by omega)]
        exact lab_of (VF_rt f2.2.1) (Co_sd hN hth) k k0 k1
      · rw [q4.2.2.2 k k0 (by rw [eM2]; exact k1), am_up_cell (by omega)]
        exact lab_of (VF_rt u1.2.1) (Co_pt hN hpt) k k0 k1
  · have hth : Co (nl (nr h (o + 1) 0)) (fun k => k) (rtf (hh (o + 69 + 3))) (thet (nr h (o + 1) 0)) := Co_all f3 (fun x y hx hy q => q.2) (VF_one (VF_rt f2.2.1) (by have := f2.2.2; omega))
    have er : nr h' (o + 1) 0 = nr h (o + 1) 0 := nr_fr2 (fun i => by rw [q3.1 _ _ (by omega) (by omega), am_up_ne (by omega)]; exact f1 _ _ (by omega) (by omega))
    rw [er] at q4
    rw [show am_up hh (o + 69) 0 (hh (o + 69) 5) (o + 69 + 3) = hh (o + 69 + 3) from am_up_cell (by omega)] at q3
    have u1 := q4.2.1
    have eM2 : am_up h'_1 (o + 69) 1 (h'_1 (o + 69) 5) (o + 45) 0 = nl (nr h (o + 1) 0) := by rw [am_up_ne (by omega), q4.1 _ _ (by omega) (by omega), q3.1 _ _ (by omega) (by omega), eM]
    have hpt : Co (nl (nr h (o + 1) 0)) (fun k => k) (rtf (h'_1 (o + 69 + 3))) (fun x y => thet (nr h (o + 1) 0) x y ∨ tau (nr h (o + 1) 0) x y) := by
      refine Co_trans (Co_cong hth (fun k k0 k1 => ?_)) q4.2.2 (fun x y _ _ => Iff.rfl)
      exact q3.2.2.1 k k0 (by rw [eM]; exact k1)
    refine hK h'_2 ⟨fun x i hx => ?_, ?_, ?_, fun k k0 k1 => ?_⟩
    · rw [q5.1 x i (by omega) (by omega), am_up_ne (by omega), q4.1 x i (by omega) (by omega), q3.1 x i (by omega) (by omega), am_up_ne (by omega)]
      exact f1 x i (by omega) (by omega)
    · rw [q5.1 _ _ (by omega) (by omega), am_up_ne2 (by omega), q4.1 _ _ (by omega) (by omega), q3.1 _ _ (by omega) (by omega), am_up_eq, f2.2.2]
      exact ncl_of (VF_rt f2.2.1) (Co_sd hN hth)
    · rw [q5.1 _ _ (by omega) (by omega), am_up_eq, u1.2.2]
      exact ncl_of (VF_rt u1.2.1) (Co_pt hN hpt)
    · refine ⟨?_, ?_⟩
      · rw [q5.1 _ _ (by omega) (by omega), am_up_ne (by omega), q4.1 _ _ (by omega) (by omega), q3.2.2.2 k k0 (by omega)]
        exact lab_of (VF_rt f2.2.1) (Co_sd hN hth) k k0 k1
      · rw [q5.2.2.2 k k0 (by rw [eM2]; exact k1), am_up_cell (by omega)]
        exact lab_of (VF_rt u1.2.1) (Co_pt hN hpt) k k0 k1
  · rw [eR] at q3
    refine ih (by omega) h' (by omega) (by omega) (fun x j hx1 hx2 => by rw [q3.1 x j hx1 hx2]; exact f1 x j hx1 hx2) q3.2.1 (Co_trans f3 q3.2.2 (fun x y hx hy => ?_))
    constructor
    · rintro ⟨q1, q2⟩
      by_cases e : x = i
      · subst e
        exact Or.inr ⟨rfl, q2⟩
      · exact Or.inl ⟨by omega, q2⟩
    · rintro (⟨q1, q2⟩ | ⟨rfl, q2⟩)
      · exact ⟨by omega, q2⟩
      · exact ⟨by omega, q2⟩
theorem C78_ok : am_CS 4 78 C78 := W78 (fun s o mt n h K hb => by
  obtain ⟨⟨⟨rfl, rfl, rfl, ho⟩, hN, hC, hM, hL⟩, hK⟩ := hb
  have hnl := nl_r (nr h (o + 1) 0)
  have e1 := hL.1
  refine T78_0 ⟨by omega, fun h' q1 => ?_⟩
  · rw [e1] at q1
    refine L78 ho hN hC hM hL hK 0 h' (by omega) hnl.1 q1.1 (UFS_id hnl q1.2.1 q1.2.2) (Co_same (fun k k0 k1 => rt_fix (q1.2.2 k k0 k1)) (fun x y hx _ q => by omega)))
/-! 79 FactorNets$Sorts.countParts -/
def C79 : am_K := fun as h K => am_a4 as (fun v0 v1 v2 v3 => am_o 9 v0 (fun s => am_o 3 v1 (fun o => am_o 2 v2 (fun mt => am_o 1 v3 (fun n => ((mt = o + 2 ∧ n = o + 45 ∧ s = o + 69 ∧ 0 < o) ∧ (NT (h o 0) (nr h (o + 1) 0) ∧ CN (h o 0) (nr h (o + 1) 0) ∧ MT h mt (h o 0) (nr h (o + 1) 0) ∧ LN h n (h o 0) (nr h (o + 1) 0))) ∧ (∀ (h' : am_H), (∀ x i, ¬ (s ≤ x ∧ x ≤ s + 3) → h' x i = h x i) → K (some (mB (ncl (ptE (nr h (o + 1) 0)) (nl (nr h (o + 1) 0))))) (h')))))))
theorem W79 {d : Nat} (H : ∀ (s : Int) (o : Int) (mt : Int) (n : Int) (h : am_H) (K : Option am_V → am_H → Prop), ((mt = o + 2 ∧ n = o + 45 ∧ s = o + 69 ∧ 0 < o) ∧ (NT (h o 0) (nr h (o + 1) 0) ∧ CN (h o 0) (nr h (o + 1) 0) ∧ MT h mt (h o 0) (nr h (o + 1) 0) ∧ LN h n (h o 0) (nr h (o + 1) 0))) ∧ (∀ (h' : am_H), (∀ x i, ¬ (s ≤ x ∧ x ≤ s + 3) → h' x i = h x i) → K (some (mB (ncl (ptE (nr h (o + 1) 0)) (nl (nr h (o + 1) 0))))) (h')) → am_AT d 79 0 [some (mR 1 9 0 s), some (mR 1 3 0 o), some (mR 1 2 0 mt), some (mR 1 1 0 n), none] h K) : am_CS d 79 C79 := by
  refine am_CS_of (T := tb79) (mL := 5) (rk := 1) rfl (fun as h K hC => ?_)
  obtain ⟨v0, v1, v2, v3, rfl, hC0⟩ := am_a4_e hC
  obtain ⟨s, rfl, hC1⟩ := am_o_e hC0
  obtain ⟨o, rfl, hC2⟩ := am_o_e hC1
  obtain ⟨mt, rfl, hC3⟩ := am_o_e hC2
  obtain ⟨n, rfl, hC4⟩ := am_o_e hC3
  refine ⟨Nat.le_of_ble_eq_true rfl, ?_⟩
  exact H s o mt n h K hC4
theorem T79_0 {R : Option am_V → am_H → Prop} {h : am_H} {s : Int} {o : Int} {mt : Int} {n : Int} (t : (0 ≤ (h n 0) ∧ (h n 0) ≤ 190) ∧ (∀ (h' : am_H), ((∀ x i, x ≠ s + 3 → ¬ (x = s ∧ i = 5) → h' x i = h x i) ∧ h' s 5 = (h n 0) ∧ (∀ l, 0 ≤ l → l < (h n 0) → h' (s + 3) l = l)) → (((n = o + 45 ∧ s = o + 69 ∧ 0 < o) ∧ (NT (h' o 0) (nr h' (o + 1) 0) ∧ LN h' n (h' o 0) (nr h' (o + 1) 0)) ∧ UFS h' s (nl (nr h' (o + 1) 0))) ∧ (∀ (h'_1 : am_H), ((∀ x i, x ≠ s + 3 → ¬ (x = s ∧ i = 5) → h'_1 x i = h' x i) ∧ UFS h'_1 s (nl (nr h' (o + 1) 0)) ∧ Co (nl (nr h' (o + 1) 0)) (rtf (h' (s + 3))) (rtf (h'_1 (s + 3))) (tau (nr h' (o + 1) 0))) → (am_AT 4 79 17 [some (mR 1 9 0 s), some (mR 1 3 0 o), some (mR 1 2 0 mt), some (mR 1 1 0 n), some (mI 0)] h'_1 R))))) : am_AT 4 79 0 [some (mR 1 9 0 s), some (mR 1 3 0 o), some (mR 1 2 0 mt), some (mR 1 1 0 n), none] h R :=
  am_T (d := 3) (m := 79) (T := tb79) (mL := 5) (rk := 1) (cuts := [(17, [1, 1, 1, 1, 2])]) (l := [(80, C80), (81, C81), (82, C82)]) rfl ⟨am_CS_d (by decide) C80_ok, am_CS_d (by decide) C81_ok, am_CS_d (by decide) C82_ok, trivial⟩ 14 (And.intro (t).1 (fun z9_0 z9_1 => And.intro (((t).2) z9_0 z9_1).1 (fun z10_0 z10_1 => ((((t).2) z9_0 z9_1).2) z10_0 z10_1)))
theorem T79_17 {R : Option am_V → am_H → Prop} {h : am_H} {s : Int} {o : Int} {mt : Int} {n : Int} {x4 : Int} (t : (R32 x4) ∧ (((h n 0 ≤ x4) → (R (some (mB (h s 5))) h)) ∧ ((x4 < h n 0) → (((h s 5 ≤ 1) → (R (some (mB (h s 5))) h)) ∧ ((1 < h s 5) → ((R32 x4) ∧ (((mt = o + 2 ∧ n = o + 45 ∧ s = o + 69 ∧ 0 < o) ∧ (NT (h o 0) (nr h (o + 1) 0) ∧ CN (h o 0) (nr h (o + 1) 0) ∧ MT h mt (h o 0) (nr h (o + 1) 0) ∧ LN h n (h o 0) (nr h (o + 1) 0)) ∧ UFS h s (nl (nr h (o + 1) 0)) ∧ (0 ≤ x4 ∧ x4 < nl (nr h (o + 1) 0))) ∧ (∀ (h' : am_H), ((∀ x i, x ≠ s + 3 → ¬ (x = s ∧ i = 5) → h' x i = h x i) ∧ UFS h' s (nl (nr h (o + 1) 0)) ∧ Co (nl (nr h (o + 1) 0)) (rtf (h (s + 3))) (rtf (h' (s + 3))) (fun x y => x = x4 ∧ thet (nr h (o + 1) 0) x4 y)) → (am_AT 4 79 17 [some (mR 1 9 0 s), some (mR 1 3 0 o), some (mR 1 2 0 mt), some (mR 1 1 0 n), some (mI (x4 + 1))] h' R))))))))) : am_AT 4 79 17 [some (mR 1 9 0 s), some (mR 1 3 0 o), some (mR 1 2 0 mt), some (mR 1 1 0 n), some (mI x4)] h R :=
  am_T (d := 3) (m := 79) (T := tb79) (mL := 5) (rk := 1) (cuts := [(17, [1, 1, 1, 1, 2])]) (l := [(80, C80), (81, C81), (82, C82)]) rfl ⟨am_CS_d (by decide) C80_ok, am_CS_d (by decide) C81_ok, am_CS_d (by decide) C82_ok, trivial⟩ 20 (And.intro (t).1 (And.intro (fun c3 => ((t).2).1 c3) (fun c3 => And.intro (fun c4 => (((t).2).2 c3).1 c4) (fun c4 => And.intro ((((t).2).2 c3).2 c4).1 (And.intro (((((t).2).2 c3).2 c4).2).1 (fun z11_0 z11_1 => ((((((t).2).2 c3).2 c4).2).2) z11_0 z11_1))))))
theorem L79 {K : Option am_V → am_H → Prop} {h : am_H} {o : Int} (ho : 0 < o) (hN : NT (h o 0) (nr h (o + 1) 0)) (hC : CN (h o 0) (nr h (o + 1) 0)) (hM : MT h (o + 2) (h o 0) (nr h (o + 1) 0)) (hL : LN h (o + 45) (h o 0) (nr h (o + 1) 0)) (hK : ∀ h' : am_H, (∀ x i, ¬ (o + 69 ≤ x ∧ x ≤ o + 69 + 3) → h' x i = h x i) → K (some (mB (ncl (ptE (nr h (o + 1) 0)) (nl (nr h (o + 1) 0))))) h') : ∀ (i : Int) (hh : am_H), 0 ≤ i → i ≤ nl (nr h (o + 1) 0) → (∀ x i, x ≠ o + 69 + 3 → ¬ (x = o + 69 ∧ i = 5) → hh x i = h x i) → UFS hh (o + 69) (nl (nr h (o + 1) 0)) → Co (nl (nr h (o + 1) 0)) (fun k => k) (rtf (hh (o + 69 + 3))) (fun x y => (x < i ∧ thet (nr h (o + 1) 0) x y) ∨ tau (nr h (o + 1) 0) x y) → am_AT 4 79 17 [some (mR 1 9 0 (o + 69)), some (mR 1 3 0 o), some (mR 1 2 0 (o + 2)), some (mR 1 1 0 (o + 45)), some (mI i)] hh K := by
  have hn1 := hN.1
  have hn2 := hN.2.1
  have hnl := nl_r (nr h (o + 1) 0)
  refine lp (nl (nr h (o + 1) 0)) (fun i ih hh i0 i1 f1 f2 f3 => ?_)
  have en : hh (o + 45) 0 = nl (nr h (o + 1) 0) := by rw [f1 _ _ (by omega) (by omega)]; exact hL.1
  have e0 : hh o 0 = h o 0 := f1 _ _ (by omega) (by omega)
  have eR : nr hh (o + 1) 0 = nr h (o + 1) 0 := nr_fr2 (fun i => f1 _ _ (by omega) (by omega))
  refine T79_17 ⟨by omega, ⟨fun c1 => ?_, fun c1 => ⟨fun c2 => ?_, fun c2 => ⟨by omega, ⟨⟨⟨rfl, rfl, rfl, ho⟩, by rw [e0, eR]; exact ⟨⟨hN, hC, MT_fr hn2 hM (fun x i hx1 hx2 => f1 _ _ (by omega) (by omega)), LN_fr hn2 hL (fun x i hx1 hx2 => f1 _ _ (by omega) (by omega))⟩, f2, i0, by omega⟩⟩, fun h' q3 => ?_⟩⟩⟩⟩⟩
  · refine am_rB (hK hh (fun x j hx => f1 x j (by omega) (by omega))) ?_
    rw [f2.2.2]
    exact (ncl_of (VF_rt f2.2.1) (Co_pt hN (Co_iff f3 (fun x y hx hy => ⟨fun q => q.imp (fun q => ⟨by omega, q⟩) id, fun q => q.imp (fun q => q.2) id⟩)))).symm
  · refine am_rB (hK hh (fun x j hx => f1 x j (by omega) (by omega))) ?_
    rw [f2.2.2]
    exact (ncl_of (VF_rt f2.2.1) (Co_pt hN (Co_all f3 (fun x y hx hy q => q.imp (fun q => q.2) id) (VF_one (VF_rt f2.2.1) (by have := f2.2.2; omega))))).symm
  · rw [eR] at q3
    refine ih (by omega) h' (by omega) (by omega) (fun x j hx1 hx2 => by rw [q3.1 x j hx1 hx2]; exact f1 x j hx1 hx2) q3.2.1 (Co_trans f3 q3.2.2 (fun x y hx hy => ?_))
    constructor
    · rintro (⟨q1, q2⟩ | q2)
      · by_cases e : x = i
        · subst e
          exact Or.inr ⟨rfl, q2⟩
        · exact Or.inl (Or.inl ⟨by omega, q2⟩)
      · exact Or.inl (Or.inr q2)
    · rintro ((⟨q1, q2⟩ | q2) | ⟨rfl, q2⟩)
      · exact Or.inl ⟨by omega, q2⟩
      · exact Or.inr q2
      · exact Or.inl ⟨by omega, q2⟩
theorem C79_ok : am_CS 4 79 C79 := W79 (fun s o mt n h K hb => by
  obtain ⟨⟨⟨rfl, rfl, rfl, ho⟩, hN, hC, hM, hL⟩, hK⟩ := hb
  have hnl := nl_r (nr h (o + 1) 0)
  have hn2 := hN.2.1
  have e1 := hL.1
  refine T79_0 ⟨by omega, fun h' q1 => ⟨⟨⟨rfl, rfl, ho⟩, by rw [show nr h' (o + 1) 0 = nr h (o + 1) 0 from nr_fr2 (fun i => q1.1 _ _ (by omega) (by omega)), show h' o 0 = h o 0 from q1.1 _ _ (by omega) (by omega)]; exact ⟨⟨hN, LN_fr hn2 hL (fun x i hx1 hx2 => q1.1 _ _ (by omega) (by omega))⟩, by rw [e1] at q1; exact UFS_id hnl q1.2.1 q1.2.2⟩⟩, fun h'_1 q2 => ?_⟩⟩
  · rw [e1] at q1
    have er : nr h' (o + 1) 0 = nr h (o + 1) 0 := nr_fr2 (fun i => q1.1 _ _ (by omega) (by omega))
    rw [er] at q2
    refine L79 ho hN hC hM hL hK 0 h'_1 (by omega) hnl.1 (fun x i hx1 hx2 => by rw [q2.1 x i hx1 hx2]; exact q1.1 x i hx1 hx2) q2.2.1 (Co_trans (A := fun _ _ => False) (Co_same (fun k k0 k1 => rt_fix (q1.2.2 k k0 k1)) (fun x y hx _ q => False.elim q)) q2.2.2 (fun x y hx hy => ?_))
    exact ⟨fun q => q.elim (fun q => by omega) Or.inr, fun q => q.elim False.elim Or.inr⟩)
/-! 90 FactorNets$Survey.sorted -/
def C90 : am_K := fun as h K => am_a1 as (fun v0 => am_o 10 v0 (fun o => ((NT (h (o + 1) 0) (nr h (o + 2) 0) ∧ CN (h (o + 1) 0) (nr h (o + 2) 0)) ∧ 0 ≤ o ∧ (h o 4 = 1 → MT h (o + 3) (h (o + 1) 0) (nr h (o + 2) 0)) ∧ (h o 5 = 1 → LN h (o + 46) (h (o + 1) 0) (nr h (o + 2) 0)) ∧ (h o 6 = 1 → SO h (o + 70) (nr h (o + 2) 0) ∧ h o 4 = 1 ∧ h o 5 = 1)) ∧ (∀ (h' : am_H), (∀ x i, ¬ (o + 3 < x ∧ x ≤ o + 73) → ¬ (x = o ∧ 4 ≤ i ∧ i ≤ 6) → h' x i = h x i) ∧ (h' o 4 = 1 ∧ h' o 5 = 1 ∧ h' o 6 = 1) ∧ MT h' (o + 3) (h (o + 1) 0) (nr h (o + 2) 0) ∧ LN h' (o + 46) (h (o + 1) 0) (nr h (o + 2) 0) ∧ SO h' (o + 70) (nr h (o + 2) 0) → K (some (mR 1 9 0 ((o + 70)))) (h'))))
theorem W90 {d : Nat} (H : ∀ (o : Int) (h : am_H) (K : Option am_V → am_H → Prop), ((NT (h (o + 1) 0) (nr h (o + 2) 0) ∧ CN (h (o + 1) 0) (nr h (o + 2) 0)) ∧ 0 ≤ o ∧ (h o 4 = 1 → MT h (o + 3) (h (o + 1) 0) (nr h (o + 2) 0)) ∧ (h o 5 = 1 → LN h (o + 46) (h (o + 1) 0) (nr h (o + 2) 0)) ∧ (h o 6 = 1 → SO h (o + 70) (nr h (o + 2) 0) ∧ h o 4 = 1 ∧ h o 5 = 1)) ∧ (∀ (h' : am_H), (∀ x i, ¬ (o + 3 < x ∧ x ≤ o + 73) → ¬ (x = o ∧ 4 ≤ i ∧ i ≤ 6) → h' x i = h x i) ∧ (h' o 4 = 1 ∧ h' o 5 = 1 ∧ h' o 6 = 1) ∧ MT h' (o + 3) (h (o + 1) 0) (nr h (o + 2) 0) ∧ LN h' (o + 46) (h (o + 1) 0) (nr h (o + 2) 0) ∧ SO h' (o + 70) (nr h (o + 2) 0) → K (some (mR 1 9 0 ((o + 70)))) (h')) → am_AT d 90 0 [some (mR 1 10 0 o)] h K) : am_CS d 90 C90 := by
  refine am_CS_of (T := tb90) (mL := 1) (rk := 3) rfl (fun as h K hC => ?_)
  obtain ⟨v0, rfl, hC0⟩ := am_a1_e hC
  obtain ⟨o, rfl, hC1⟩ := am_o_e hC0
  refine ⟨Nat.le_of_ble_eq_true rfl, ?_⟩
  exact H o h K hC1
theorem T90_0 {R : Option am_V → am_H → Prop} {h : am_H} {o : Int} (t : ((¬ h o 6 = 0) → (R (some (mR 1 9 0 (o + 70))) h)) ∧ ((h o 6 = 0) → (((NT (h (o + 1) 0) (nr h (o + 2) 0) ∧ CN (h (o + 1) 0) (nr h (o + 2) 0)) ∧ 0 ≤ o ∧ (h o 4 = 1 → MT h (o + 3) (h (o + 1) 0) (nr h (o + 2) 0))) ∧ (∀ (h' : am_H), ((∀ x i, ¬ (o + 3 < x ∧ x ≤ o + 45) → ¬ (x = o ∧ i = 4) → h' x i = h x i) ∧ h' o 4 = 1 ∧ MT h' (o + 3) (h (o + 1) 0) (nr h (o + 2) 0)) → ((NT (h' (o + 1) 0) (nr h' (o + 2) 0) ∧ 0 ≤ o ∧ (h' o 5 = 1 → LN h' (o + 46) (h' (o + 1) 0) (nr h' (o + 2) 0))) ∧ (∀ (h'_1 : am_H), ((∀ x i, ¬ (o + 46 ≤ x ∧ x ≤ o + 69) → ¬ (x = o ∧ i = 5) → h'_1 x i = h' x i) ∧ h'_1 o 5 = 1 ∧ LN h'_1 (o + 46) (h' (o + 1) 0) (nr h' (o + 2) 0)) → ((((o + 3) = (o + 1) + 2 ∧ (o + 46) = (o + 1) + 45 ∧ (o + 70) = (o + 1) + 69 ∧ 0 < (o + 1)) ∧ (NT (h'_1 (o + 1) 0) (nr h'_1 ((o + 1) + 1) 0) ∧ CN (h'_1 (o + 1) 0) (nr h'_1 ((o + 1) + 1) 0) ∧ MT h'_1 (o + 3) (h'_1 (o + 1) 0) (nr h'_1 ((o + 1) + 1) 0) ∧ LN h'_1 (o + 46) (h'_1 (o + 1) 0) (nr h'_1 ((o + 1) + 1) 0))) ∧ (∀ (h'_2 : am_H), ((∀ x i, ¬ ((o + 70) ≤ x ∧ x ≤ (o + 70) + 3) → h'_2 x i = h'_1 x i) ∧ SO h'_2 (o + 70) (nr h'_1 ((o + 1) + 1) 0)) → (R (some (mR 1 9 0 (o + 70))) (am_up h'_2 o 6 1)))))))))) : am_AT 5 90 0 [some (mR 1 10 0 o)] h R :=
  am_T (d := 4) (m := 90) (T := tb90) (mL := 1) (rk := 3) (cuts := []) (l := [(78, C78), (88, C88), (89, C89)]) rfl ⟨am_CS_d (by decide) C78_ok, am_CS_d (by decide) C88_ok, am_CS_d (by decide) C89_ok, trivial⟩ 22 (And.intro (fun c5 => (t).1 c5) (fun c5 => And.intro ((t).2 c5).1 (fun z12_0 z12_1 => And.intro ((((t).2 c5).2) z12_0 z12_1).1 (fun z13_0 z13_1 => And.intro ((((((t).2 c5).2) z12_0 z12_1).2) z13_0 z13_1).1 (fun z14_0 z14_1 => And.intro (Or.inr rfl) ((((((((t).2 c5).2) z12_0 z12_1).2) z13_0 z13_1).2) z14_0 z14_1))))))
theorem C90_ok : am_CS 5 90 C90 := W90 (fun o h K hb => am_AT_ok (fun hw hl => by
  obtain ⟨⟨⟨hN, hC⟩, h0, hM, hL, hS⟩, hK⟩ := hb
  have hn2 := hN.2.1
  have e2 : ∀ g : am_H, nr g (o + 1 + 1) 0 = nr g (o + 2) 0 := fun g => nr_fr (by omega) (fun i => rfl)
  refine T90_0 ⟨fun c1 => ?_, fun c1 => ⟨⟨⟨hN, hC⟩, h0, hM⟩, fun h' q2 => ⟨by rw [show nr h' (o + 2) 0 = nr h (o + 2) 0 from nr_fr2 (fun i => q2.1 _ _ (by omega) (by omega)), show h' (o + 1) 0 = h (o + 1) 0 from q2.1 _ _ (by omega) (by omega)]; exact ⟨hN, h0, fun e5 => LN_fr hn2 (hL (by rw [← e5]; exact (q2.1 _ _ (by omega) (by omega)).symm)) (fun x i hx1 hx2 => q2.1 _ _ (by omega) (by omega))⟩, fun h'_1 q3 => ⟨⟨by omega, by rw [e2, show nr h'_1 (o + 2) 0 = nr h (o + 2) 0 from (nr_fr2 (fun i => q3.1 _ _ (by omega) (by omega))).trans (nr_fr2 (fun i => q2.1 _ _ (by omega) (by omega))), show h'_1 (o + 1) 0 = h (o + 1) 0 from (q3.1 _ _ (by omega) (by omega)).trans (q2.1 _ _ (by omega) (by omega))]; exact ⟨hN, hC, MT_fr hn2 q2.2.2 (fun x i hx1 hx2 => q3.1 _ _ (by omega) (by omega)), by have := q3.2.2; rw [show nr h' (o + 2) 0 = nr h (o + 2) 0 from nr_fr2 (fun i => q2.1 _ _ (by omega) (by omega)), show h' (o + 1) 0 = h (o + 1) 0 from q2.1 _ _ (by omega) (by omega)] at this; exact this⟩⟩, fun h'_2 q4 => ?_⟩⟩⟩⟩
  · have e4 : h o 6 = 1 := by
      have : h o 6 = 0 ∨ h o 6 = 1 := wf_b 10 6 hw (hl 0 _ rfl) rfl rfl
      omega
    obtain ⟨s1, s2, s3⟩ := hS e4
    exact hK h ⟨fun x i _ _ => rfl, ⟨s2, s3, e4⟩, hM s2, hL s3, s1⟩
  · have r1 : nr h' (o + 2) 0 = nr h (o + 2) 0 := nr_fr2 (fun i => q2.1 _ _ (by omega) (by omega))
    have r2 : nr h'_1 (o + 2) 0 = nr h (o + 2) 0 := by rw [← r1]; exact nr_fr2 (fun i => q3.1 _ _ (by omega) (by omega))
    have n1 : h' (o + 1) 0 = h (o + 1) 0 := q2.1 _ _ (by omega) (by omega)
    rw [r1, n1] at q3
    rw [e2, r2] at q4
    refine hK _ ⟨fun x i hx1 hx2 => ?_, ⟨?_, ?_, am_up_eq⟩, MT_fr hn2 q2.2.2 (fun x i hx1 hx2 => ?_), LN_fr hn2 q3.2.2 (fun x i hx1 hx2 => ?_), SO_fr q4.2 (fun x i hx1 hx2 => am_up_ne (by omega))⟩
    · rw [am_up_n2 (by omega), q4.1 x i (by omega), q3.1 x i (by omega) (by omega), q2.1 x i (by omega) (by omega)]
    · rw [am_up_ne2 (by omega), q4.1 _ _ (by omega), q3.1 _ _ (by omega) (by omega)]
      exact q2.2.1
    · rw [am_up_ne2 (by omega), q4.1 _ _ (by omega)]
      exact q3.2.1
    · rw [am_up_ne (by omega), q4.1 _ _ (by omega), q3.1 _ _ (by omega) (by omega)]
    · rw [am_up_ne (by omega), q4.1 _ _ (by omega)]))
