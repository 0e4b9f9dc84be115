/-! 81 FactorNets$Sorts.uniteAcross -/
def C81 : am_K := fun as h K => am_a5 as (fun v0 v1 v2 v3 v4 => am_o 9 v0 (fun s => am_o 3 v1 (fun o => am_o 2 v2 (fun mt => am_o 1 v3 (fun n => am_n v4 (fun l => ((mt = o + 2 ∧ n = o + 45 ∧ s = o + 69 ∧ 0 < o) ∧ (NT (h o 0) (nr h (o + 1) 0) ∧ CN (h o 0) (nr h (o + 1) 0) ∧ MT h mt (h o 0) (nr h (o + 1) 0) ∧ LN h n (h o 0) (nr h (o + 1) 0)) ∧ UFS h s (nl (nr h (o + 1) 0)) ∧ (0 ≤ l ∧ l < nl (nr h (o + 1) 0))) ∧ (∀ (h' : am_H), (∀ x i, x ≠ s + 3 → ¬ (x = s ∧ i = 5) → h' x i = h x i) ∧ UFS h' s (nl (nr h (o + 1) 0)) ∧ Co (nl (nr h (o + 1) 0)) (rtf (h (s + 3))) (rtf (h' (s + 3))) (fun x y => x = l ∧ thet (nr h (o + 1) 0) l y) → K (none) (h'))))))))
theorem W81 {d : Nat} (H : ∀ (s : Int) (o : Int) (mt : Int) (n : Int) (l : Int) (h : am_H) (K : Option am_V → am_H → Prop), ((mt = o + 2 ∧ n = o + 45 ∧ s = o + 69 ∧ 0 < o) ∧ (NT (h o 0) (nr h (o + 1) 0) ∧ CN (h o 0) (nr h (o + 1) 0) ∧ MT h mt (h o 0) (nr h (o + 1) 0) ∧ LN h n (h o 0) (nr h (o + 1) 0)) ∧ UFS h s (nl (nr h (o + 1) 0)) ∧ (0 ≤ l ∧ l < nl (nr h (o + 1) 0))) ∧ (∀ (h' : am_H), (∀ x i, x ≠ s + 3 → ¬ (x = s ∧ i = 5) → h' x i = h x i) ∧ UFS h' s (nl (nr h (o + 1) 0)) ∧ Co (nl (nr h (o + 1) 0)) (rtf (h (s + 3))) (rtf (h' (s + 3))) (fun x y => x = l ∧ thet (nr h (o + 1) 0) l y) → K (none) (h')) → am_AT d 81 0 [some (mR 1 9 0 s), some (mR 1 3 0 o), some (mR 1 2 0 mt), some (mR 1 1 0 n), some (mB l), none, none, none, none, none, none, none] h K) : am_CS d 81 C81 := by
  refine am_CS_of (T := tb81) (mL := 12) (rk := 0) rfl (fun as h K hC => ?_)
  obtain ⟨v0, v1, v2, v3, v4, rfl, hC0⟩ := am_a5_e hC
  obtain ⟨s, rfl, hC1⟩ := am_o_e hC0
  obtain ⟨o, rfl, hC2⟩ := am_o_e hC1
  obtain ⟨mt, rfl, hC3⟩ := am_o_e hC2
  obtain ⟨n, rfl, hC4⟩ := am_o_e hC3
  obtain ⟨l, rfl, hC5⟩ := am_n_e hC4
  refine ⟨Nat.le_of_ble_eq_true rfl, ?_⟩
  exact H s o mt n l h K hC5
theorem T81_0 {R : Option am_V → am_H → Prop} {h : am_H} {s : Int} {o : Int} {mt : Int} {n : Int} {l : Int} (t : (0 ≤ l ∧ l < 190) ∧ ((0 ≤ l ∧ l < 190) ∧ (((NT (h (mt - 2) 0) (nr h (mt - 1) 0) ∧ CN (h (mt - 2) 0) (nr h (mt - 1) 0) ∧ MT h mt (h (mt - 2) 0) (nr h (mt - 1) 0)) ∧ ad (nr h (mt - 1) 0) (h (n + 1) l) (h (n + 2) l)) ∧ ((0 ≤ l ∧ l < 190) ∧ ((0 ≤ l ∧ l < 190) ∧ (((NT (h (mt - 2) 0) (nr h (mt - 1) 0) ∧ CN (h (mt - 2) 0) (nr h (mt - 1) 0) ∧ MT h mt (h (mt - 2) 0) (nr h (mt - 1) 0)) ∧ ad (nr h (mt - 1) 0) (h (n + 2) l) (h (n + 1) l)) ∧ ((0 ≤ h o 0 ∧ h o 0 ≤ 30) ∧ (am_AT 3 81 57 [some (mR 1 9 0 s), some (mR 1 3 0 o), none, some (mR 1 1 0 n), some (mB l), some (mI (clo (h (mt - 2) 0) (nr h (mt - 1) 0) (h (n + 1) l) (h (n + 2) l))), some (mI (clo (h (mt - 2) 0) (nr h (mt - 1) 0) (h (n + 2) l) (h (n + 1) l))), some (mI (iAnd (iShl 1 (h o 0) - 1) (iXor (iOr (clo (h (mt - 2) 0) (nr h (mt - 1) 0) (h (n + 1) l) (h (n + 2) l)) (clo (h (mt - 2) 0) (nr h (mt - 1) 0) (h (n + 2) l) (h (n + 1) l))) (-1)))), some (mI 0), none, none, none] h R)))))))) : am_AT 3 81 0 [some (mR 1 9 0 s), some (mR 1 3 0 o), some (mR 1 2 0 mt), some (mR 1 1 0 n), some (mB l), none, none, none, none, none, none, none] h R :=
  am_T (d := 2) (m := 81) (T := tb81) (mL := 12) (rk := 0) (cuts := [(57, [1, 1, 0, 1, 1, 2, 2, 2, 2, 0, 0, 0]), (123, [1, 1, 0, 1, 1, 2, 2, 2, 2, 0, 2, 2])]) (l := [(17, C17), (22, C22), (83, C83), (177, C177)]) rfl ⟨am_CS_d (by decide) C17_ok, am_CS_d (by decide) C22_ok, am_CS_d (by decide) C83_ok, am_CS_d (by decide) C177_ok, trivial⟩ 37 (And.intro (t).1 (And.intro ((t).2).1 (And.intro (((t).2).2).1 (And.intro ((((t).2).2).2).1 (And.intro (((((t).2).2).2).2).1 (And.intro ((((((t).2).2).2).2).2).1 (And.intro (((((((t).2).2).2).2).2).2).1 ((((((((t).2).2).2).2).2).2).2))))))))
theorem T81_57 {R : Option am_V → am_H → Prop} {h : am_H} {s : Int} {o : Int} {n : Int} {l : Int} {x5 : Int} {x6 : Int} {x7 : Int} {x8 : Int} (t : (R32 x8) ∧ (((h o 0 ≤ x8) → (R none h)) ∧ ((x8 < h o 0) → (((iAnd (iShr x5 x8) 1 = 0) → (((iAnd (iShr x6 x8) 1 = 0) → ((0 ≤ x8 ∧ x8 < 20) ∧ (am_AT 3 81 123 [some (mR 1 9 0 s), some (mR 1 3 0 o), none, some (mR 1 1 0 n), some (mB l), some (mI x5), some (mI x6), some (mI x7), some (mI x8), none, some (mI (iAnd (iAnd (h (o + 1) x8) (iXor x7 (-1))) (iShl (-2) x8))), some (mI 0)] h R))) ∧ ((¬ iAnd (iShr x6 x8) 1 = 0) → ((0 ≤ x8 ∧ x8 < 20) ∧ (am_AT 3 81 123 [some (mR 1 9 0 s), some (mR 1 3 0 o), none, some (mR 1 1 0 n), some (mB l), some (mI x5), some (mI x6), some (mI x7), some (mI x8), none, some (mI (iAnd (iAnd (h (o + 1) x8) (iXor x6 (-1))) (iShl (-2) x8))), some (mI 0)] h R))))) ∧ ((¬ iAnd (iShr x5 x8) 1 = 0) → ((0 ≤ x8 ∧ x8 < 20) ∧ (am_AT 3 81 123 [some (mR 1 9 0 s), some (mR 1 3 0 o), none, some (mR 1 1 0 n), some (mB l), some (mI x5), some (mI x6), some (mI x7), some (mI x8), none, some (mI (iAnd (iAnd (h (o + 1) x8) (iXor x5 (-1))) (iShl (-2) x8))), some (mI 0)] h R))))))) : am_AT 3 81 57 [some (mR 1 9 0 s), some (mR 1 3 0 o), none, some (mR 1 1 0 n), some (mB l), some (mI x5), some (mI x6), some (mI x7), some (mI x8), none, none, none] h R :=
  am_T (d := 2) (m := 81) (T := tb81) (mL := 12) (rk := 0) (cuts := [(57, [1, 1, 0, 1, 1, 2, 2, 2, 2, 0, 0, 0]), (123, [1, 1, 0, 1, 1, 2, 2, 2, 2, 0, 2, 2])]) (l := [(17, C17), (22, C22), (83, C83), (177, C177)]) rfl ⟨am_CS_d (by decide) C17_ok, am_CS_d (by decide) C22_ok, am_CS_d (by decide) C83_ok, am_CS_d (by decide) C177_ok, trivial⟩ 38 (And.intro (t).1 (And.intro (fun c1 => ((t).2).1 c1) (fun c1 => And.intro (fun c2 => And.intro (fun c3 => And.intro (((((t).2).2 c1).1 c2).1 c3).1 ((((((t).2).2 c1).1 c2).1 c3).2)) (fun c3 => And.intro (((((t).2).2 c1).1 c2).2 c3).1 ((((((t).2).2 c1).1 c2).2 c3).2))) (fun c2 => And.intro ((((t).2).2 c1).2 c2).1 (((((t).2).2 c1).2 c2).2)))))
theorem T81_123 {R : Option am_V → am_H → Prop} {h : am_H} {s : Int} {o : Int} {n : Int} {l : Int} {x5 : Int} {x6 : Int} {x7 : Int} {x8 : Int} {x10 : Int} {x11 : Int} (t : (R32 x11) ∧ (((20 ≤ x11) → (am_AT 3 81 57 [some (mR 1 9 0 s), some (mR 1 3 0 o), none, some (mR 1 1 0 n), some (mB l), some (mI x5), some (mI x6), some (mI x7), some (mI (x8 + 1)), none, none, none] h R)) ∧ ((x11 < 20) → ((R32 x10) ∧ (((x10 = 0) → (am_AT 3 81 57 [some (mR 1 9 0 s), some (mR 1 3 0 o), none, some (mR 1 1 0 n), some (mB l), some (mI x5), some (mI x6), some (mI x7), some (mI (x8 + 1)), none, none, none] h R)) ∧ ((¬ x10 = 0) → ((0 ≤ x8 ∧ x8 < 20) ∧ ((R32 x10) ∧ ((0 < x10 ∧ x10 < 2147483648) ∧ ((0 ≤ iLow x10 ∧ iLow x10 < 20) ∧ ((∃ m, UFS h s m ∧ (0 ≤ l ∧ l < m) ∧ (0 ≤ (h (((n + 3) + 1) + x8) (iLow x10)) ∧ (h (((n + 3) + 1) + x8) (iLow x10)) < m)) ∧ (∀ (h' : am_H), ((∀ x i, x ≠ s + 3 → ¬ (x = s ∧ i = 5) → h' x i = h x i) ∧ (∀ m, UFS h s m → (0 ≤ l ∧ l < m) → (0 ≤ (h (((n + 3) + 1) + x8) (iLow x10)) ∧ (h (((n + 3) + 1) + x8) (iLow x10)) < m) → UFS h' s m ∧ ∀ k, 0 ≤ k → k < m → rtf (h' (s + 3)) k = mrg (rtf (h (s + 3))) l (h (((n + 3) + 1) + x8) (iLow x10)) k)) → (am_AT 3 81 123 [some (mR 1 9 0 s), some (mR 1 3 0 o), none, some (mR 1 1 0 n), some (mB l), some (mI x5), some (mI x6), some (mI x7), some (mI x8), none, some (mI (iAnd x10 (x10 - 1))), some (mI (x11 + 1))] h' R))))))))))))) : am_AT 3 81 123 [some (mR 1 9 0 s), some (mR 1 3 0 o), none, some (mR 1 1 0 n), some (mB l), some (mI x5), some (mI x6), some (mI x7), some (mI x8), none, some (mI x10), some (mI x11)] h R :=
  am_T (d := 2) (m := 81) (T := tb81) (mL := 12) (rk := 0) (cuts := [(57, [1, 1, 0, 1, 1, 2, 2, 2, 2, 0, 0, 0]), (123, [1, 1, 0, 1, 1, 2, 2, 2, 2, 0, 2, 2])]) (l := [(17, C17), (22, C22), (83, C83), (177, C177)]) rfl ⟨am_CS_d (by decide) C17_ok, am_CS_d (by decide) C22_ok, am_CS_d (by decide) C83_ok, am_CS_d (by decide) C177_ok, trivial⟩ 27 (And.intro (t).1 (And.intro (fun c4 => ((t).2).1 c4) (fun c4 => And.intro (((t).2).2 c4).1 (And.intro (fun c5 => ((((t).2).2 c4).2).1 c5) (fun c5 => And.intro (((((t).2).2 c4).2).2 c5).1 (And.intro ((((((t).2).2 c4).2).2 c5).2).1 (And.intro (((((((t).2).2 c4).2).2 c5).2).2).1 (And.intro ((((((((t).2).2 c4).2).2 c5).2).2).2).1 (And.intro (((((((((t).2).2 c4).2).2 c5).2).2).2).2).1 (fun z1_0 z1_1 => ((((((((((t).2).2 c4).2).2 c5).2).2).2).2).2) z1_0 z1_1))))))))))
theorem bt_m2 {k : Int} : bit (-2) k ↔ 1 ≤ k ∧ k < 32 := by
  have h := bt_not (x := 1) (k := k)
  rw [show iXor 1 (-1) = -2 by decide, bt_one] at h
  rw [h]
  omega
/-- nearer to one end, to the other, as far from both -/
theorem own_ok {n : Int} {r : Int → Int} (hN : NT n r) (hC : CN n r) {a b p q : Int} (hab : ad r a b) (hp : 0 ≤ p ∧ p < n) (hq : 0 ≤ q ∧ q < n) : (bit (clo n r a b) p → (bit (clo n r a b) q ↔ ds (ad r) a p - ds (ad r) b p = ds (ad r) a q - ds (ad r) b q)) ∧ (bit (clo n r b a) p → (bit (clo n r b a) q ↔ ds (ad r) a p - ds (ad r) b p = ds (ad r) a q - ds (ad r) b q)) ∧ (¬ bit (clo n r a b) p → ¬ bit (clo n r b a) p → (bit (iAnd (iShl 1 n - 1) (iXor (iOr (clo n r a b) (clo n r b a)) (-1))) q ↔ ds (ad r) a p - ds (ad r) b p = ds (ad r) a q - ds (ad r) b q)) := by
  have hn := hN.2.1
  have t1 := ds_adj hN hC hab hp
  have t2 := ds_adj hN hC (NT_sym hN _ _ hab) hp
  have t3 := ds_adj hN hC hab hq
  have t4 := ds_adj hN hC (NT_sym hN _ _ hab) hq
  have e1 : ∀ x y z : Int, 0 ≤ z ∧ z < n → (bit (clo n r x y) z ↔ ds (ad r) x z < ds (ad r) y z) := fun x y z hz => by
    unfold clo
    rw [bt_mk]
    exact ⟨fun w => w.2.2, fun w => ⟨by omega, hz.2, w⟩⟩
  rw [bt_and, bt_not, bt_or, bt_all (by omega) (by omega), e1 a b p hp, e1 b a p hp, e1 a b q hq, e1 b a q hq]
  refine ⟨fun h => ⟨fun _ => by omega, fun _ => by omega⟩, fun h => ⟨fun _ => by omega, fun _ => by omega⟩, fun h1 h2 => ⟨fun w => ?_, fun w => ⟨hq, hq.1, by omega, fun z => by omega⟩⟩⟩
  have w1 : ¬ ds (ad r) a q < ds (ad r) b q := fun z => w.2.2.2 (Or.inl z)
  have w2 : ¬ ds (ad r) b q < ds (ad r) a q := fun z => w.2.2.2 (Or.inr z)
  omega
def Acr (r : Int → Int) (l p y : Int) : Prop := ∃ a b, a < p ∧ a < b ∧ ad r a b ∧ y = lno r a b ∧ ds (ad r) (lo r l) a - ds (ad r) (hi r l) a ≠ ds (ad r) (lo r l) b - ds (ad r) (hi r l) b
theorem L81 {K : Option am_V → am_H → Prop} {h : am_H} {o l : Int} (ho : 0 < o) (hN : NT (h o 0) (nr h (o + 1) 0)) (hC : CN (h o 0) (nr h (o + 1) 0)) (hR : ∀ p, 0 ≤ p → p < 20 → S20 (h (o + 1) p)) (hLN : LN h (o + 45) (h o 0) (nr h (o + 1) 0)) (hl : 0 ≤ l ∧ l < nl (nr h (o + 1) 0)) (hK : ∀ h' : am_H, (∀ x i, x ≠ o + 69 + 3 → ¬ (x = o + 69 ∧ i = 5) → h' x i = h x i) ∧ UFS h' (o + 69) (nl (nr h (o + 1) 0)) ∧ Co (nl (nr h (o + 1) 0)) (rtf (h (o + 69 + 3))) (rtf (h' (o + 69 + 3))) (fun x y => x = l ∧ thet (nr h (o + 1) 0) l y) → K none h') : ∀ (p : Int) (hh : am_H), 0 ≤ p → p ≤ h o 0 → (∀ x i, x ≠ o + 69 + 3 → ¬ (x = o + 69 ∧ i = 5) → hh x i = h x i) → UFS hh (o + 69) (nl (nr h (o + 1) 0)) → Co (nl (nr h (o + 1) 0)) (rtf (h (o + 69 + 3))) (rtf (hh (o + 69 + 3))) (fun x y => x = l ∧ Acr (nr h (o + 1) 0) l p y) → am_AT 3 81 57 [some (mR 1 9 0 (o + 69)), some (mR 1 3 0 o), none, some (mR 1 1 0 (o + 45)), some (mB l), some (mI (clo (h o 0) (nr h (o + 1) 0) (lo (nr h (o + 1) 0) l) (hi (nr h (o + 1) 0) l))), some (mI (clo (h o 0) (nr h (o + 1) 0) (hi (nr h (o + 1) 0) l) (lo (nr h (o + 1) 0) l))), some (mI (iAnd (iShl 1 (h o 0) - 1) (iXor (iOr (clo (h o 0) (nr h (o + 1) 0) (lo (nr h (o + 1) 0) l) (hi (nr h (o + 1) 0) l)) (clo (h o 0) (nr h (o + 1) 0) (hi (nr h (o + 1) 0) l) (lo (nr h (o + 1) 0) l))) (-1)))), some (mI p), none, none, none] hh K := by
  have hn1 := hN.1
  have hn2 := hN.2.1
  have hadr : ∀ p k, 0 ≤ p → p < 20 → (ad (nr h (o + 1) 0) p k ↔ bit (h (o + 1) p) k) := fun p k p0 p1 => by unfold ad; rw [nr_in0 p0 p1]
  obtain ⟨b1, b2, b3, b4⟩ := lo_n hN hl.1 hl.2
  generalize nr h (o + 1) 0 = r at *
  refine lp (h o 0) (fun p ih hh p0 p1 f1 f2 f3 => ?_)
  have e0 : hh o 0 = h o 0 := f1 _ _ (by omega) (by omega)
  have er : hh (o + 1) p = h (o + 1) p := f1 _ _ (by omega) (by omega)
  have L2 : ∀ (X : Int), p < h o 0 → S20 X → (∀ q, bit X q ↔ p < q ∧ ad r p q ∧ ds (ad r) (lo r l) p - ds (ad r) (hi r l) p ≠ ds (ad r) (lo r l) q - ds (ad r) (hi r l) q) → ∀ (i x : Int) (g : am_H), 0 ≤ i → S20 x → (∀ q, bit x q → bit X q) → i ≤ ct (fun q => bit X q ∧ ¬ bit x q) 20 → (∀ x i, x ≠ o + 69 + 3 → ¬ (x = o + 69 ∧ i = 5) → g x i = h x i) → UFS g (o + 69) (nl r) → Co (nl r) (rtf (h (o + 69 + 3))) (rtf (g (o + 69 + 3))) (fun a y => a = l ∧ (Acr r l p y ∨ ∃ q, (bit X q ∧ ¬ bit x q) ∧ y = lno r p q)) → am_AT 3 81 123 [some (mR 1 9 0 (o + 69)), some (mR 1 3 0 o), none, some (mR 1 1 0 (o + 45)), some (mB l), some (mI (clo (h o 0) r (lo r l) (hi r l))), some (mI (clo (h o 0) r (hi r l) (lo r l))), some (mI (iAnd (iShl 1 (h o 0) - 1) (iXor (iOr (clo (h o 0) r (lo r l) (hi r l)) (clo (h o 0) r (hi r l) (lo r l))) (-1)))), some (mI p), none, some (mI x), some (mI i)] g K := by
    intro X hpn hX hbX
    refine lp 20 (fun i ih2 x g i0 hx hxX hct g1 g2 g3 => ?_)
    have hx1 := hx.1
    have hx2 := hx.2
    have hcl2 := ct_le (fun q => bit X q ∧ ¬ bit x q) 20
    have ex : (∀ q, ¬ bit x q) → am_AT 3 81 57 [some (mR 1 9 0 (o + 69)), some (mR 1 3 0 o), none, some (mR 1 1 0 (o + 45)), some (mB l), some (mI (clo (h o 0) r (lo r l) (hi r l))), some (mI (clo (h o 0) r (hi r l) (lo r l))), some (mI (iAnd (iShl 1 (h o 0) - 1) (iXor (iOr (clo (h o 0) r (lo r l) (hi r l)) (clo (h o 0) r (hi r l) (lo r l))) (-1)))), some (mI (p + 1)), none, none, none] g K := fun hno => by
      refine ih hpn g (by omega) (by omega) g1 g2 (Co_iff g3 (fun a y ha hy => ?_))
      constructor
      · rintro ⟨q1, a', b', h1, h2, h3, h4, h5⟩
        refine ⟨q1, ?_⟩
        by_cases e : a' = p
        · subst e
          exact Or.inr ⟨b', ⟨(hbX b').mpr ⟨h2, h3, h5⟩, hno b'⟩, h4⟩
        · exact Or.inl ⟨a', b', by omega, h2, h3, h4, h5⟩
      · rintro ⟨q1, ⟨a', b', h1, h2⟩ | ⟨q, h1, h2⟩⟩
        · exact ⟨q1, a', b', by omega, h2⟩
        · have h3 := (hbX q).mp h1.1
          exact ⟨q1, p, q, by omega, h3.1, h3.2.1, h2, h3.2.2⟩
    refine T81_123 ⟨by omega, ⟨fun c1 => ?_, fun c1 => ⟨by omega, ⟨fun c2 => ?_, fun c2 => ⟨by omega, ⟨by omega, ⟨by omega, ⟨(S20_low hx c2).2.2, ⟨⟨nl r, g2, hl, by
  obtain ⟨l1, l2, l3, l4⟩ := S20_low hx c2
  have l5 := (hbX _).mp (hxX _ l1)
  rw [g1 _ _ (by omega) (by omega), hLN.2.2 p _ p0 hpn l3 (NT_in hN l5.2.1).2.2]
  exact (lno_ok hN l5.2.1).1⟩, fun h' q3 => ?_⟩⟩⟩⟩⟩⟩⟩⟩⟩
    · exact ex (fun p hp => (ct_full (P := fun q => bit X q ∧ ¬ bit x q) 20 (by omega) p (S20_in hx hp).1 (S20_in hx hp).2).2 hp)
    · exact ex (fun p hp => by rw [c2] at hp; exact bt_zero hp)
    · obtain ⟨l1, l2, l3, l4⟩ := S20_low hx c2
      have l5 := (hbX _).mp (hxX _ l1)
      have en : g (o + 45 + 3 + 1 + p) (iLow x) = lno r p (iLow x) := by
        rw [g1 _ _ (by omega) (by omega)]
        exact hLN.2.2 p _ p0 hpn l3 (NT_in hN l5.2.1).2.2
      rw [en] at q3
      have l6 := lno_ok hN l5.2.1
      obtain ⟨u1, u2⟩ := q3.2 _ g2 hl l6.1
      have by' : ∀ k, bit (iAnd x (x - 1)) k ↔ bit x k ∧ k ≠ iLow x := fun k => bt_clr (S20_pos hx c2).1 (S20_pos hx c2).2
      refine ih2 c1 _ h' (by omega) (S20_and hx) (fun q hq => hxX q ((by' q).mp hq).1) ?_ (fun x i hx1 hx2 => by rw [q3.1 x i hx1 hx2]; exact g1 x i hx1 hx2) u1 (Co_trans g3 (Co_mrg hl l6.1 u2) (fun a y ha hy => ?_))
      · have e := ct_add (P := fun q => bit X q ∧ ¬ bit x q) (Q := fun q => bit X q ∧ ¬ bit (iAnd x (x - 1)) q) (a := iLow x) 20 l3 l4 (fun q => q.2 l1) (fun k => by
          rw [by']
          constructor
          · rintro ⟨a1, a2⟩
            by_cases e : k = iLow x
            · exact Or.inr e
            · exact Or.inl ⟨a1, fun q => a2 ⟨q, e⟩⟩
          · rintro (⟨a1, a2⟩ | rfl)
            · exact ⟨a1, fun q => a2 q.1⟩
            · exact ⟨hxX _ l1, fun q => q.2 rfl⟩)
        omega
      · constructor
        · rintro ⟨q1, q2 | ⟨q, ⟨q4, q5⟩, q6⟩⟩
          · exact Or.inl ⟨q1, Or.inl q2⟩
          · by_cases e : q = iLow x
            · subst e
              exact Or.inr ⟨q1, q6⟩
            · exact Or.inl ⟨q1, Or.inr ⟨q, ⟨q4, fun z => q5 ((by' q).mpr ⟨z, e⟩)⟩, q6⟩⟩
        · rintro (⟨q1, q2 | ⟨q, ⟨q4, q5⟩, q6⟩⟩ | ⟨q1, q6⟩)
          · exact ⟨q1, Or.inl q2⟩
          · exact ⟨q1, Or.inr ⟨q, ⟨q4, fun z => q5 ((by' q).mp z).1⟩, q6⟩⟩
          · exact ⟨q1, Or.inr ⟨iLow x, ⟨hxX _ l1, fun z => ((by' _).mp z).2 rfl⟩, q6⟩⟩
  have go : ∀ w : Int, p < h o 0 → (∀ q, 0 ≤ q → q < h o 0 → (bit w q ↔ ds (ad r) (lo r l) p - ds (ad r) (hi r l) p = ds (ad r) (lo r l) q - ds (ad r) (hi r l) q)) → am_AT 3 81 123 [some (mR 1 9 0 (o + 69)), some (mR 1 3 0 o), none, some (mR 1 1 0 (o + 45)), some (mB l), some (mI (clo (h o 0) r (lo r l) (hi r l))), some (mI (clo (h o 0) r (hi r l) (lo r l))), some (mI (iAnd (iShl 1 (h o 0) - 1) (iXor (iOr (clo (h o 0) r (lo r l) (hi r l)) (clo (h o 0) r (hi r l) (lo r l))) (-1)))), some (mI p), none, some (mI (iAnd (iAnd (hh (o + 1) p) (iXor w (-1))) (iShl (-2) p))), some (mI 0)] hh K := fun w hpn hw => by
    rw [er]
    have hSX : S20 (iAnd (iAnd (h (o + 1) p) (iXor w (-1))) (iShl (-2) p)) := S20_and (S20_and (hR p p0 (by omega)))
    refine L2 _ hpn hSX (fun q => ?_) 0 _ hh (by omega) hSX (fun q => id) (ct_le _ 20).1 f1 f2 (Co_iff f3 (fun a y ha hy => ⟨fun q => ⟨q.1, q.2.elim id (fun ⟨q2, q3, q4⟩ => absurd q3.1 q3.2)⟩, fun q => ⟨q.1, Or.inl q.2⟩⟩))
    rw [bt_and, bt_and, bt_not, bt_shl p0 (by omega), bt_m2, ← hadr p q p0 (by omega)]
    constructor
    · rintro ⟨⟨h1, h2, h3, h4⟩, h5, h6, h7⟩
      have h8 := (NT_in hN h1).2
      exact ⟨by omega, h1, fun z => h4 ((hw q h8.1 h8.2).mpr z)⟩
    · rintro ⟨h1, h2, h3⟩
      have h8 := (NT_in hN h2).2
      exact ⟨⟨h2, by omega, by omega, fun z => h3 ((hw q h8.1 h8.2).mp z)⟩, by omega, by omega, by omega, by omega⟩
  refine T81_57 ⟨by omega, ⟨fun c1 => ?_, fun c1 => ⟨fun c2 => ⟨fun c3 => ⟨by omega, ?_⟩, fun c3 => ⟨by omega, ?_⟩⟩, fun c2 => ⟨by omega, ?_⟩⟩⟩⟩
  · refine hK hh ⟨f1, f2, Co_iff f3 (fun a y ha hy => ?_)⟩
    constructor
    · rintro ⟨q1, q2⟩
      refine ⟨q1, ?_⟩
      have e1 := lo_n hN hy.1 hy.2
      have e2 := lno_lo hN hy.1 hy.2
      have e3 := q2
      rw [← e2, thet_lno hN e1.2.2.2] at e3
      exact ⟨lo r y, hi r y, by omega, e1.2.2.1, e1.2.2.2, e2.symm, e3⟩
    · rintro ⟨q1, a', b', h1, h2, h3, h4, h5⟩
      refine ⟨q1, ?_⟩
      rw [h4, thet_lno hN h3]
      exact h5
  · have n1 : ¬ bit (clo (h o 0) r (lo r l) (hi r l)) p := (bt_has0 p0 (by omega)).mp c2
    have n2 : ¬ bit (clo (h o 0) r (hi r l) (lo r l)) p := (bt_has0 p0 (by omega)).mp c3
    exact go _ (by omega) (fun q q0 q1 => (own_ok hN hC b4 ⟨p0, by omega⟩ ⟨q0, q1⟩).2.2 n1 n2)
  · have n2 : bit (clo (h o 0) r (hi r l) (lo r l)) p := Classical.byContradiction fun z => c3 ((bt_has0 p0 (by omega)).mpr z)
    exact go _ (by omega) (fun q q0 q1 => (own_ok hN hC b4 ⟨p0, by omega⟩ ⟨q0, q1⟩).2.1 n2)
  · have n1 : bit (clo (h o 0) r (lo r l) (hi r l)) p := Classical.byContradiction fun z => c2 ((bt_has0 p0 (by omega)).mpr z)
    exact go _ (by omega) (fun q q0 q1 => (own_ok hN hC b4 ⟨p0, by omega⟩ ⟨q0, q1⟩).1 n1)
theorem C81_ok : am_CS 3 81 C81 := W81 (fun s o mt n l h K hb => am_AT_ok (fun hw hl => by
  obtain ⟨⟨⟨rfl, rfl, rfl, ho⟩, ⟨hN, hC, hM, hLN⟩, hU, hl2⟩, hK⟩ := hb
  have hn := nl_r (nr h (o + 1) 0)
  have hn1 := hN.1
  have hn2 := hN.2.1
  have e1 : o + 2 - 2 = o := by omega
  have e2 : o + 2 - 1 = o + 1 := by omega
  obtain ⟨a1, a2⟩ := hLN.2.1 l hl2.1 hl2.2
  obtain ⟨b1, b2, b3, b4⟩ := lo_n hN hl2.1 hl2.2
  refine T81_0 ⟨by omega, ⟨by omega, ⟨⟨by rw [e1, e2]; exact ⟨hN, hC, hM⟩, by rw [e2, a1, a2]; exact b4⟩, ⟨by omega, ⟨by omega, ⟨⟨by rw [e1, e2]; exact ⟨hN, hC, hM⟩, by rw [e2, a1, a2]; exact NT_sym hN _ _ b4⟩, ⟨by omega, ?_⟩⟩⟩⟩⟩⟩⟩
  · rw [e1, e2, a1, a2]
    refine L81 ho hN hC (NT_S20 hN (wf_rows hw (hl 1 _ rfl))) hLN hl2 hK 0 h (by omega) hn1 (fun x i _ _ => rfl) hU (Co_same (fun _ _ _ => rfl) (fun x y _ _ q => ?_))
    obtain ⟨-, a, b, q1, q2, q3, -⟩ := q
    have := (NT_in hN q3).1
    omega))
/-! 82 FactorNets$Sorts.uniteForks -/
def C82 : am_K := fun as h K => am_a3 as (fun v0 v1 v2 => am_o 9 v0 (fun s => am_o 3 v1 (fun o => am_o 1 v2 (fun n => ((n = o + 45 ∧ s = o + 69 ∧ 0 < o) ∧ (NT (h o 0) (nr h (o + 1) 0) ∧ LN h n (h o 0) (nr h (o + 1) 0)) ∧ UFS h s (nl (nr h (o + 1) 0))) ∧ (∀ (h' : am_H), (∀ x i, x ≠ s + 3 → ¬ (x = s ∧ i = 5) → h' x i = h x i) ∧ UFS h' s (nl (nr h (o + 1) 0)) ∧ Co (nl (nr h (o + 1) 0)) (rtf (h (s + 3))) (rtf (h' (s + 3))) (tau (nr h (o + 1) 0)) → K (none) (h'))))))
theorem W82 {d : Nat} (H : ∀ (s : Int) (o : Int) (n : Int) (h : am_H) (K : Option am_V → am_H → Prop), ((n = o + 45 ∧ s = o + 69 ∧ 0 < o) ∧ (NT (h o 0) (nr h (o + 1) 0) ∧ LN h n (h o 0) (nr h (o + 1) 0)) ∧ UFS h s (nl (nr h (o + 1) 0))) ∧ (∀ (h' : am_H), (∀ x i, x ≠ s + 3 → ¬ (x = s ∧ i = 5) → h' x i = h x i) ∧ UFS h' s (nl (nr h (o + 1) 0)) ∧ Co (nl (nr h (o + 1) 0)) (rtf (h (s + 3))) (rtf (h' (s + 3))) (tau (nr h (o + 1) 0)) → K (none) (h')) → am_AT d 82 0 [some (mR 1 9 0 s), some (mR 1 3 0 o), some (mR 1 1 0 n), none, none, none, none] h K) : am_CS d 82 C82 := by
  refine am_CS_of (T := tb82) (mL := 7) (rk := 0) rfl (fun as h K hC => ?_)
  obtain ⟨v0, v1, v2, rfl, hC0⟩ := am_a3_e hC
  obtain ⟨s, rfl, hC1⟩ := am_o_e hC0
  obtain ⟨o, rfl, hC2⟩ := am_o_e hC1
  obtain ⟨n, rfl, hC3⟩ := am_o_e hC2
  refine ⟨Nat.le_of_ble_eq_true rfl, ?_⟩
  exact H s o n h K hC3
theorem T82_0 {R : Option am_V → am_H → Prop} {h : am_H} {s : Int} {o : Int} {n : Int} (t : am_AT 3 82 2 [some (mR 1 9 0 s), some (mR 1 3 0 o), some (mR 1 1 0 n), some (mI 0), none, none, none] h R) : am_AT 3 82 0 [some (mR 1 9 0 s), some (mR 1 3 0 o), some (mR 1 1 0 n), none, none, none, none] h R :=
  am_T (d := 2) (m := 82) (T := tb82) (mL := 7) (rk := 0) (cuts := [(2, [1, 1, 1, 2, 0, 0, 0]), (23, [1, 1, 1, 2, 2, 0, 0])]) (l := [(83, C83), (177, C177), (317, C317)]) rfl ⟨am_CS_d (by decide) C83_ok, am_CS_d (by decide) C177_ok, am_CS_d (by decide) C317_ok, trivial⟩ 6 (t)
theorem T82_2 {R : Option am_V → am_H → Prop} {h : am_H} {s : Int} {o : Int} {n : Int} {x3 : Int} (t : (R32 x3) ∧ (((h o 0 ≤ x3) → (R none h)) ∧ ((x3 < h o 0) → (((h s 5 ≤ 1) → (R none h)) ∧ ((1 < h s 5) → (am_AT 3 82 23 [some (mR 1 9 0 s), some (mR 1 3 0 o), some (mR 1 1 0 n), some (mI x3), some (mI (x3 + 1)), none, none] h R)))))) : am_AT 3 82 2 [some (mR 1 9 0 s), some (mR 1 3 0 o), some (mR 1 1 0 n), some (mI x3), none, none, none] h R :=
  am_T (d := 2) (m := 82) (T := tb82) (mL := 7) (rk := 0) (cuts := [(2, [1, 1, 1, 2, 0, 0, 0]), (23, [1, 1, 1, 2, 2, 0, 0])]) (l := [(83, C83), (177, C177), (317, C317)]) rfl ⟨am_CS_d (by decide) C83_ok, am_CS_d (by decide) C177_ok, am_CS_d (by decide) C317_ok, trivial⟩ 16 (And.intro (t).1 (And.intro (fun c6 => ((t).2).1 c6) (fun c6 => And.intro (fun c7 => (((t).2).2 c6).1 c7) (fun c7 => (((t).2).2 c6).2 c7))))
theorem T82_23 {R : Option am_V → am_H → Prop} {h : am_H} {s : Int} {o : Int} {n : Int} {x3 : Int} {x4 : Int} (t : (R32 x4) ∧ (((h o 0 ≤ x4) → (am_AT 3 82 2 [some (mR 1 9 0 s), some (mR 1 3 0 o), some (mR 1 1 0 n), some (mI (x3 + 1)), none, none, none] h R)) ∧ ((x4 < h o 0) → ((0 ≤ x3 ∧ x3 < 20) ∧ ((0 ≤ x4 ∧ x4 < 20) ∧ ((0 ≤ (iAnd (h (o + 1) x3) (h (o + 1) x4)) ∧ (iAnd (h (o + 1) x3) (h (o + 1) x4)) < 2147483648) ∧ (((¬ iPop (iAnd (h (o + 1) x3) (h (o + 1) x4)) = 1) → (am_AT 3 82 23 [some (mR 1 9 0 s), some (mR 1 3 0 o), some (mR 1 1 0 n), some (mI x3), some (mI (x4 + 1)), none, none] h R)) ∧ ((iPop (iAnd (h (o + 1) x3) (h (o + 1) x4)) = 1) → ((0 < (iAnd (h (o + 1) x3) (h (o + 1) x4)) ∧ (iAnd (h (o + 1) x3) (h (o + 1) x4)) < 2147483648) ∧ ((0 ≤ iLow (iAnd (h (o + 1) x3) (h (o + 1) x4)) ∧ iLow (iAnd (h (o + 1) x3) (h (o + 1) x4)) < 20) ∧ ((0 ≤ x3 ∧ x3 < 20) ∧ ((0 ≤ iLow (iAnd (h (o + 1) x3) (h (o + 1) x4)) ∧ iLow (iAnd (h (o + 1) x3) (h (o + 1) x4)) < 20) ∧ ((0 ≤ x4 ∧ x4 < 20) ∧ ((∃ m, UFS h s m ∧ (0 ≤ (h (((n + 3) + 1) + (iLow (iAnd (h (o + 1) x3) (h (o + 1) x4)))) x3) ∧ (h (((n + 3) + 1) + (iLow (iAnd (h (o + 1) x3) (h (o + 1) x4)))) x3) < m) ∧ (0 ≤ (h (((n + 3) + 1) + (iLow (iAnd (h (o + 1) x3) (h (o + 1) x4)))) x4) ∧ (h (((n + 3) + 1) + (iLow (iAnd (h (o + 1) x3) (h (o + 1) x4)))) x4) < m)) ∧ (∀ (h' : am_H), ((∀ x i, x ≠ s + 3 → ¬ (x = s ∧ i = 5) → h' x i = h x i) ∧ (∀ m, UFS h s m → (0 ≤ (h (((n + 3) + 1) + (iLow (iAnd (h (o + 1) x3) (h (o + 1) x4)))) x3) ∧ (h (((n + 3) + 1) + (iLow (iAnd (h (o + 1) x3) (h (o + 1) x4)))) x3) < m) → (0 ≤ (h (((n + 3) + 1) + (iLow (iAnd (h (o + 1) x3) (h (o + 1) x4)))) x4) ∧ (h (((n + 3) + 1) + (iLow (iAnd (h (o + 1) x3) (h (o + 1) x4)))) x4) < m) → UFS h' s m ∧ ∀ k, 0 ≤ k → k < m → rtf (h' (s + 3)) k = mrg (rtf (h (s + 3))) (h (((n + 3) + 1) + (iLow (iAnd (h (o + 1) x3) (h (o + 1) x4)))) x3) (h (((n + 3) + 1) + (iLow (iAnd (h (o + 1) x3) (h (o + 1) x4)))) x4) k)) → (am_AT 3 82 23 [some (mR 1 9 0 s), some (mR 1 3 0 o), some (mR 1 1 0 n), some (mI x3), some (mI (x4 + 1)), none, none] h' R)))))))))))))))) : am_AT 3 82 23 [some (mR 1 9 0 s), some (mR 1 3 0 o), some (mR 1 1 0 n), some (mI x3), some (mI x4), none, none] h R :=
  am_T (d := 2) (m := 82) (T := tb82) (mL := 7) (rk := 0) (cuts := [(2, [1, 1, 1, 2, 0, 0, 0]), (23, [1, 1, 1, 2, 2, 0, 0])]) (l := [(83, C83), (177, C177), (317, C317)]) rfl ⟨am_CS_d (by decide) C83_ok, am_CS_d (by decide) C177_ok, am_CS_d (by decide) C317_ok, trivial⟩ 41 (And.intro (t).1 (And.intro (fun c8 => ((t).2).1 c8) (fun c8 => And.intro (((t).2).2 c8).1 (And.intro ((((t).2).2 c8).2).1 (And.intro (((((t).2).2 c8).2).2).1 (And.intro (fun c9 => ((((((t).2).2 c8).2).2).2).1 c9) (fun c9 => And.intro (((((((t).2).2 c8).2).2).2).2 c9).1 (And.intro ((((((((t).2).2 c8).2).2).2).2 c9).2).1 (And.intro (((((((((t).2).2 c8).2).2).2).2 c9).2).2).1 (And.intro ((((((((((t).2).2 c8).2).2).2).2 c9).2).2).2).1 (And.intro (((((((((((t).2).2 c8).2).2).2).2 c9).2).2).2).2).1 (And.intro ((((((((((((t).2).2 c8).2).2).2).2 c9).2).2).2).2).2).1 (fun z2_0 z2_1 => (((((((((((((t).2).2 c8).2).2).2).2 c9).2).2).2).2).2).2) z2_0 z2_1)))))))))))))
def Frk (r : Int → Int) (a b x y : Int) : Prop := ∃ p u v, (u < a ∨ (u = a ∧ v < b)) ∧ u < v ∧ ad r p u ∧ ad r p v ∧ lno r p u = x ∧ lno r p v = y ∧ ∀ z, (ad r u z ∧ ad r v z) ↔ z = p
theorem pop_one {x : Int} (hx : S20 x) : iPop x = 1 ↔ ∃ p, ∀ z, bit x z ↔ z = p := by
  constructor
  · intro h
    have hne : x ≠ 0 := fun e => by
      rw [e] at h
      have : iPop 0 = 0 := ct_none 32 (fun k _ => bt_zero)
      omega
    obtain ⟨l1, l2, l3, l4⟩ := S20_low hx hne
    refine ⟨iLow x, fun z => ⟨fun hz => ?_, fun e => by rw [e]; exact l1⟩⟩
    refine Classical.byContradiction fun q => ?_
    have := ct_two (P := bit x) (n := 32) (a := z) (b := iLow x) (by have := S20_in hx hz; omega) (by omega) q hz l1
    have h' : ct (bit x) 32 = 1 := h
    omega
  · rintro ⟨p, hp⟩
    have hpb := (hp p).mpr rfl
    have hp2 := S20_in hx hpb
    have e := ct_add (P := fun _ => False) (Q := bit x) (a := p) 32 hp2.1 (by omega) id (fun k => ⟨fun q => Or.inr ((hp k).mp q), fun q => q.elim False.elim (fun q => (hp k).mpr q)⟩)
    rw [ct_none 32 (P := fun _ => False) (fun _ _ => id)] at e
    exact e
theorem L82 {K : Option am_V → am_H → Prop} {h : am_H} {o : Int} (ho : 0 < o) (hN : NT (h o 0) (nr h (o + 1) 0)) (hR : ∀ p, 0 ≤ p → p < 20 → S20 (h (o + 1) p)) (hLN : LN h (o + 45) (h o 0) (nr h (o + 1) 0)) (hK : ∀ h' : am_H, (∀ x i, x ≠ o + 69 + 3 → ¬ (x = o + 69 ∧ i = 5) → h' x i = h x i) ∧ UFS h' (o + 69) (nl (nr h (o + 1) 0)) ∧ Co (nl (nr h (o + 1) 0)) (rtf (h (o + 69 + 3))) (rtf (h' (o + 69 + 3))) (tau (nr h (o + 1) 0)) → K none h') : ∀ (a : Int) (hh : am_H), 0 ≤ a → a ≤ h o 0 → (∀ x i, x ≠ o + 69 + 3 → ¬ (x = o + 69 ∧ i = 5) → hh x i = h x i) → UFS hh (o + 69) (nl (nr h (o + 1) 0)) → Co (nl (nr h (o + 1) 0)) (rtf (h (o + 69 + 3))) (rtf (hh (o + 69 + 3))) (Frk (nr h (o + 1) 0) a 0) → am_AT 3 82 2 [some (mR 1 9 0 (o + 69)), some (mR 1 3 0 o), some (mR 1 1 0 (o + 45)), some (mI a), none, none, none] hh K := by
  have hn1 := hN.1
  have hn2 := hN.2.1
  have hadr : ∀ p k, 0 ≤ p → p < 20 → (ad (nr h (o + 1) 0) p k ↔ bit (h (o + 1) p) k) := fun p k p0 p1 => by unfold ad; rw [nr_in0 p0 p1]
  generalize nr h (o + 1) 0 = r at *
  -- the pairs in both orders
  have both : ∀ (f : Int → Int) (a : Int), h o 0 ≤ a → Co (nl r) (rtf (h (o + 69 + 3))) f (Frk r a 0) → Co (nl r) (rtf (h (o + 69 + 3))) f (tau r) := fun f a ha hc => by
    have key : ∀ x y, (0 ≤ x ∧ x < nl r) → (0 ≤ y ∧ y < nl r) → tau r x y → Frk r a 0 x y ∨ Frk r a 0 y x := fun x y hx hy q => by
      obtain ⟨p, u, v, h1, h2, h3, h4, h5, h6⟩ := (tau_iff hN hx hy).mp q
      have hu := (NT_in hN h2).2
      have hv := (NT_in hN h3).2
      by_cases c : u < v
      · exact Or.inl ⟨p, u, v, Or.inl (by omega), c, h2, h3, h4, h5, h6⟩
      · exact Or.inr ⟨p, v, u, Or.inl (by omega), by omega, h3, h2, h5, h4, fun z => by rw [And.comm]; exact h6 z⟩
    refine ⟨hc.1, fun x y hx hy q => ?_, fun F hs hF hf => hc.2.2 F hs (fun x y hx hy q => ?_) hf⟩
    · rcases key x y hx hy q with q | q
      · exact hc.2.1 x y hx hy q
      · exact (hc.2.1 y x hy hx q).symm
    · obtain ⟨p, u, v, -, h1, h2, h3, h4, h5, h6⟩ := q
      exact hF x y hx hy ((tau_iff hN hx hy).mpr ⟨p, u, v, by omega, h2, h3, h4, h5, h6⟩)
  refine lp (h o 0) (fun a ih hh a0 a1 f1 f2 f3 => ?_)
  have e0 : hh o 0 = h o 0 := f1 _ _ (by omega) (by omega)
  refine T82_2 ⟨by omega, ⟨fun c1 => ?_, fun c1 => ⟨fun c2 => ?_, fun c2 => ?_⟩⟩⟩
  · exact hK hh ⟨f1, f2, both _ a (by omega) f3⟩
  · have hall := VF_one (VF_rt f2.2.1) (by have := f2.2.2; omega)
    refine hK hh ⟨f1, f2, f3.1, fun x y hx hy _ => hall x y hx hy, fun F hs hF hf => f3.2.2 F hs (fun x y hx hy q => ?_) hf⟩
    obtain ⟨p, u, v, -, h1, h2, h3, h4, h5, h6⟩ := q
    exact hF x y hx hy ((tau_iff hN hx hy).mpr ⟨p, u, v, by omega, h2, h3, h4, h5, h6⟩)
  · have L2 : ∀ (b : Int) (g : am_H), a + 1 ≤ b → b ≤ h o 0 → (∀ x i, x ≠ o + 69 + 3 → ¬ (x = o + 69 ∧ i = 5) → g x i = h x i) → UFS g (o + 69) (nl r) → Co (nl r) (rtf (h (o + 69 + 3))) (rtf (g (o + 69 + 3))) (Frk r a b) → am_AT 3 82 23 [some (mR 1 9 0 (o + 69)), some (mR 1 3 0 o), some (mR 1 1 0 (o + 45)), some (mI a), some (mI b), none, none] g K := by
      refine lp (h o 0) (fun b ih2 g b0 b1 g1 g2 g3 => ?_)
      have e1 : g o 0 = h o 0 := g1 _ _ (by omega) (by omega)
      have ea : g (o + 1) a = h (o + 1) a := g1 _ _ (by omega) (by omega)
      have eb : g (o + 1) b = h (o + 1) b := g1 _ _ (by omega) (by omega)
      have hX : S20 (iAnd (g (o + 1) a) (g (o + 1) b)) := by rw [ea]; exact S20_and (hR a a0 (by omega))
      have hX1 := hX.1
      have hX2 := hX.2
      have bX : ∀ z, b < h o 0 → (bit (iAnd (g (o + 1) a) (g (o + 1) b)) z ↔ ad r a z ∧ ad r b z) := fun z hb => by rw [ea, eb, bt_and, hadr a z a0 (by omega), hadr b z (by omega) (by omega)]
      have hlow : b < h o 0 → iPop (iAnd (g (o + 1) a) (g (o + 1) b)) = 1 → (∀ z, (ad r a z ∧ ad r b z) ↔ z = iLow (iAnd (g (o + 1) a) (g (o + 1) b))) ∧ (0 < iAnd (g (o + 1) a) (g (o + 1) b)) := fun hb hp => by
        obtain ⟨p, hp2⟩ := (pop_one hX).mp hp
        have hne : iAnd (g (o + 1) a) (g (o + 1) b) ≠ 0 := fun e => by
          have := (hp2 p).mpr rfl
          rw [e] at this
          exact bt_zero this
        have l1 := (hp2 _).mp (S20_low hX hne).1
        exact ⟨fun z => by rw [← bX z hb, hp2, l1], by omega⟩
      have hnum : b < h o 0 → iPop (iAnd (g (o + 1) a) (g (o + 1) b)) = 1 → ∀ u, (u = a ∨ u = b) → ad r (iLow (iAnd (g (o + 1) a) (g (o + 1) b))) u ∧ g (o + 45 + 3 + 1 + iLow (iAnd (g (o + 1) a) (g (o + 1) b))) u = lno r (iLow (iAnd (g (o + 1) a) (g (o + 1) b))) u := fun hb hp u hu => by
        have l1 := ((hlow hb hp).1 _).mpr rfl
        have l2 : ad r (iLow (iAnd (g (o + 1) a) (g (o + 1) b))) u := by
          rcases hu with e | e
          · rw [e]; exact NT_sym hN _ _ l1.1
          · rw [e]; exact NT_sym hN _ _ l1.2
        have l3 := NT_in hN l2
        exact ⟨l2, by rw [g1 _ _ (by omega) (by omega)]; exact hLN.2.2 _ _ l3.1.1 l3.1.2 l3.2.1 l3.2.2⟩
      refine T82_23 ⟨by omega, ⟨fun c1 => ?_, fun c1 => ⟨by omega, ⟨by omega, ⟨by omega, ⟨fun c2_1 => ?_, fun c2_1 => ⟨⟨(hlow (by omega) c2_1).2, by omega⟩, ⟨by have := (NT_in hN (hnum (by omega) c2_1 a (Or.inl rfl)).1).1; omega, ⟨by omega, ⟨by have := (NT_in hN (hnum (by omega) c2_1 a (Or.inl rfl)).1).1; omega, ⟨by omega, ⟨⟨nl r, g2, by rw [(hnum (by omega) c2_1 a (Or.inl rfl)).2]; exact (lno_ok hN (hnum (by omega) c2_1 a (Or.inl rfl)).1).1, by rw [(hnum (by omega) c2_1 b (Or.inr rfl)).2]; exact (lno_ok hN (hnum (by omega) c2_1 b (Or.inr rfl)).1).1⟩, fun h' q3 => ?_⟩⟩⟩⟩⟩⟩⟩⟩⟩⟩⟩⟩
      · refine ih (by omega) g (by omega) (by omega) g1 g2 (Co_iff g3 (fun x y hx hy => ?_))
        constructor
        · rintro ⟨p, u, v, h1, h2, h3, h4, h5⟩
          have := (NT_in hN h4).2
          exact ⟨p, u, v, by omega, h2, h3, h4, h5⟩
        · rintro ⟨p, u, v, h1, h2, h3, h4, h5⟩
          exact ⟨p, u, v, by omega, h2, h3, h4, h5⟩
      · refine ih2 (by omega) g (by omega) (by omega) g1 g2 (Co_iff g3 (fun x y hx hy => ?_))
        constructor
        · rintro ⟨p, u, v, h1, h2, h3, h4, h5, h6, h7⟩
          refine ⟨p, u, v, ?_, h2, h3, h4, h5, h6, h7⟩
          by_cases q : u = a ∧ v = b
          · exfalso
            rw [q.1, q.2] at h7
            exact c2_1 ((pop_one hX).mpr ⟨p, fun z => by rw [bX z (by omega)]; exact h7 z⟩)
          · omega
        · rintro ⟨p, u, v, h1, h2⟩
          exact ⟨p, u, v, by omega, h2⟩
      · obtain ⟨k1, k2⟩ := hnum (by omega) c2_1 a (Or.inl rfl)
        obtain ⟨k3, k4⟩ := hnum (by omega) c2_1 b (Or.inr rfl)
        have k5 := (hlow (by omega) c2_1).1
        rw [k2, k4] at q3
        have m1 := (lno_ok hN k1).1
        have m2 := (lno_ok hN k3).1
        obtain ⟨u1, u2⟩ := q3.2 _ g2 m1 m2
        refine ih2 (by omega) h' (by omega) (by omega) (fun x i hx1 hx2 => by rw [q3.1 x i hx1 hx2]; exact g1 x i hx1 hx2) u1 (Co_trans g3 (Co_mrg m1 m2 u2) (fun x y hx hy => ?_))
        constructor
        · rintro ⟨p, u, v, h1, h2, h3, h4, h5, h6, h7⟩
          by_cases q : u = a ∧ v = b
          · rw [q.1, q.2] at h7
            have e : p = iLow (iAnd (g (o + 1) a) (g (o + 1) b)) := (k5 p).mp ((h7 p).mpr rfl)
            rw [q.1, e] at h5
            rw [q.2, e] at h6
            exact Or.inr ⟨h5.symm, h6.symm⟩
          · exact Or.inl ⟨p, u, v, by omega, h2, h3, h4, h5, h6, h7⟩
        · rintro (⟨p, u, v, h1, h2⟩ | ⟨q1, q2⟩)
          · exact ⟨p, u, v, by omega, h2⟩
          · exact ⟨_, a, b, Or.inr ⟨rfl, by omega⟩, by omega, k1, k3, q1.symm, q2.symm, k5⟩
    refine L2 (a + 1) hh (by omega) (by omega) f1 f2 (Co_iff f3 (fun x y hx hy => ?_))
    constructor
    · rintro ⟨p, u, v, h1, h2⟩
      exact ⟨p, u, v, by omega, h2⟩
    · rintro ⟨p, u, v, h1, h2, h3⟩
      have := (NT_in hN h3.1).2
      exact ⟨p, u, v, by omega, h2, h3⟩
theorem C82_ok : am_CS 3 82 C82 := W82 (fun s o n h K hb => am_AT_ok (fun hw hl => T82_0 (by
  obtain ⟨⟨⟨rfl, rfl, ho⟩, ⟨hN, hLN⟩, hU⟩, hK⟩ := hb
  refine L82 ho hN (NT_S20 hN (wf_rows hw (hl 1 _ rfl))) hLN hK 0 h (by omega) hN.1 (fun x i _ _ => rfl) hU (Co_same (fun _ _ _ => rfl) (fun x y _ _ q => ?_))
  obtain ⟨p, u, v, h1, h2, h3, -⟩ := q
  have := (NT_in hN h3).2
  omega)))
