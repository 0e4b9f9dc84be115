/-! ===== small methods ===== -/
def h_lk (h : am_H) (q a b : Int) : am_H := am_up (am_up h q a (iOr (h q a) (iShl 1 b))) q b (iOr (am_up h q a (iOr (h q a) (iShl 1 b)) q b) (iShl 1 a))
def h_ul (h : am_H) (q a b : Int) : am_H := am_up (am_up h q a (iAnd (h q a) (iXor (iShl 1 b) (-1)))) q b (iAnd (am_up h q a (iAnd (h q a) (iXor (iShl 1 b) (-1))) q b) (iXor (iShl 1 a) (-1)))
/-- the first n places of a cell become x -/
def h_fl (h : am_H) (q n x : Int) : am_H := fun a i => if a = q ∧ 0 ≤ i ∧ i < n then x else h a i
theorem h_fl0 (h : am_H) (q x : Int) : h_fl h q 0 x = h := by
  funext a i
  exact if_neg (by omega)
theorem h_fl1 (h : am_H) (q n x : Int) (hn : 0 ≤ n) : am_up (h_fl h q n x) q n x = h_fl h q (n + 1) x := by
  funext a i
  unfold am_up h_fl
  by_cases e : a = q
  · by_cases e2 : i = n
    · rw [if_pos ⟨e, e2⟩, if_pos ⟨e, by omega, by omega⟩]
    · rw [if_neg (fun z => e2 z.2)]
      by_cases e3 : 0 ≤ i ∧ i < n
      · rw [if_pos ⟨e, e3⟩, if_pos ⟨e, by omega, by omega⟩]
      · rw [if_neg (fun z => e3 z.2), if_neg (fun z => e3 ⟨z.2.1, by omega⟩)]
  · rw [if_neg (fun z => e z.1), if_neg (fun z => e z.1), if_neg (fun z => e z.1)]
theorem h_fl_in {h : am_H} {q n x i : Int} (h0 : 0 ≤ i) (h1 : i < n) : h_fl h q n x q i = x := if_pos ⟨rfl, h0, h1⟩
theorem h_fl_ne {h : am_H} {q n x a i : Int} (e : a ≠ q) : h_fl h q n x a i = h a i := if_neg (fun z => e z.1)
/-! 187 FactorNetsModel.in -/
def C187 : am_K := fun as h K => am_a3 as (fun v0 v1 v2 => am_j v0 (fun v => am_j v1 (fun low => am_j v2 (fun high => K (some (mP (low ≤ v ∧ v ≤ high))) h))))
theorem W187 {d : Nat} (H : ∀ (v : Int) (low : Int) (high : Int) (h : am_H) (K : Option am_V → am_H → Prop), K (some (mP (low ≤ v ∧ v ≤ high))) h → am_AT d 187 0 [some (mK v), none, some (mK low), none, some (mK high), none] h K) : am_CS d 187 C187 := by
  refine am_CS_of (T := tb187) (mL := 6) (rk := 4) rfl (fun as h K hC => ?_)
  obtain ⟨v0, v1, v2, rfl, hC0⟩ := am_a3_e hC
  obtain ⟨v, rfl, hC1⟩ := am_j_e hC0
  obtain ⟨low, rfl, hC2⟩ := am_j_e hC1
  obtain ⟨high, rfl, hC3⟩ := am_j_e hC2
  refine ⟨Nat.le_of_ble_eq_true rfl, ?_⟩
  exact H v low high h K hC3
theorem T187_0 {R : Option am_V → am_H → Prop} {h : am_H} {v : Int} {low : Int} {high : Int} (t : ((v < low) → (R (some (mP ((0 : Int) = 1))) h)) ∧ ((low ≤ v) → (((high < v) → (R (some (mP ((0 : Int) = 1))) h)) ∧ ((v ≤ high) → (R (some (mP ((1 : Int) = 1))) h))))) : am_AT 1 187 0 [some (mK v), none, some (mK low), none, some (mK high), none] h R :=
  am_T (d := 0) (m := 187) (T := tb187) (mL := 6) (rk := 4) (cuts := []) (l := []) rfl trivial 15 (And.intro (fun c1 => And.intro (Or.inl rfl) ((t).1 c1)) (fun c1 => And.intro (fun c2 => And.intro (Or.inl rfl) (((t).2 c1).1 c2)) (fun c2 => And.intro (Or.inr rfl) (((t).2 c1).2 c2))))
theorem C187_ok : am_CS 1 187 C187 := W187 (fun v low high h K hb => T187_0 ⟨fun c => am_rb0 hb (by omega), fun c => ⟨fun c2 => am_rb0 hb (by omega), fun c2 => am_rb1 hb (by omega)⟩⟩)
/-! 188 FactorNetsModel.has -/
def C188 : am_K := fun as h K => am_a2 as (fun v0 v1 => am_n v0 (fun x => am_n v1 (fun k => (0 ≤ k ∧ k < 32) ∧ (K (some (mP (bit x k))) h))))
theorem W188 {d : Nat} (H : ∀ (x : Int) (k : Int) (h : am_H) (K : Option am_V → am_H → Prop), (0 ≤ k ∧ k < 32) ∧ (K (some (mP (bit x k))) h) → am_AT d 188 0 [some (mB x), some (mB k)] h K) : am_CS d 188 C188 := by
  refine am_CS_of (T := tb188) (mL := 2) (rk := 4) rfl (fun as h K hC => ?_)
  obtain ⟨v0, v1, rfl, hC0⟩ := am_a2_e hC
  obtain ⟨x, rfl, hC1⟩ := am_n_e hC0
  obtain ⟨k, rfl, hC2⟩ := am_n_e hC1
  refine ⟨Nat.le_of_ble_eq_true rfl, ?_⟩
  exact H x k h K hC2
theorem T188_0 {R : Option am_V → am_H → Prop} {h : am_H} {x : Int} {k : Int} (t : ((¬ iAnd (iShr x k) 1 = 1) → (R (some (mP ((0 : Int) = 1))) h)) ∧ ((iAnd (iShr x k) 1 = 1) → (R (some (mP ((1 : Int) = 1))) h))) : am_AT 1 188 0 [some (mB x), some (mB k)] h R :=
  am_T (d := 0) (m := 188) (T := tb188) (mL := 2) (rk := 4) (cuts := []) (l := []) rfl trivial 14 (And.intro (fun c3 => And.intro (Or.inl rfl) ((t).1 c3)) (fun c3 => And.intro (Or.inr rfl) ((t).2 c3)))
theorem C188_ok : am_CS 1 188 C188 := W188 (fun x k h K hb => T188_0 ⟨fun c => am_rb0 hb.2 (fun q => c ((bt_has1 hb.1.1 hb.1.2).mpr q)), fun c => am_rb1 hb.2 ((bt_has1 hb.1.1 hb.1.2).mp c)⟩)
/-! 317 java/lang/Integer.bitCount -/
def C317 : am_K := fun as h K => am_a1 as (fun v0 => am_n v0 (fun x => (0 ≤ x ∧ x < 2147483648) ∧ (K (some (mB (iPop x))) h)))
theorem W317 {d : Nat} (H : ∀ (x : Int) (h : am_H) (K : Option am_V → am_H → Prop), (0 ≤ x ∧ x < 2147483648) ∧ (K (some (mB (iPop x))) h) → am_AT d 317 0 [some (mB x)] h K) : am_CS d 317 C317 := by
  refine am_CS_of (T := tb317) (mL := 1) (rk := 1) rfl (fun as h K hC => ?_)
  obtain ⟨v0, rfl, hC0⟩ := am_a1_e hC
  obtain ⟨x, rfl, hC1⟩ := am_n_e hC0
  refine ⟨Nat.le_of_ble_eq_true rfl, ?_⟩
  exact H x h K hC1
theorem T317_0 {R : Option am_V → am_H → Prop} {h : am_H} {x : Int} (t : R (some (mB (iAnd (((iAnd (((iAnd (x - (iAnd (iUsh x 1) 1431655765)) 858993459) + (iAnd (iUsh (x - (iAnd (iUsh x 1) 1431655765)) 2) 858993459)) + (iUsh ((iAnd (x - (iAnd (iUsh x 1) 1431655765)) 858993459) + (iAnd (iUsh (x - (iAnd (iUsh x 1) 1431655765)) 2) 858993459)) 4)) 252645135) + (iUsh (iAnd (((iAnd (x - (iAnd (iUsh x 1) 1431655765)) 858993459) + (iAnd (iUsh (x - (iAnd (iUsh x 1) 1431655765)) 2) 858993459)) + (iUsh ((iAnd (x - (iAnd (iUsh x 1) 1431655765)) 858993459) + (iAnd (iUsh (x - (iAnd (iUsh x 1) 1431655765)) 2) 858993459)) 4)) 252645135) 8)) + (iUsh ((iAnd (((iAnd (x - (iAnd (iUsh x 1) 1431655765)) 858993459) + (iAnd (iUsh (x - (iAnd (iUsh x 1) 1431655765)) 2) 858993459)) + (iUsh ((iAnd (x - (iAnd (iUsh x 1) 1431655765)) 858993459) + (iAnd (iUsh (x - (iAnd (iUsh x 1) 1431655765)) 2) 858993459)) 4)) 252645135) + (iUsh (iAnd (((iAnd (x - (iAnd (iUsh x 1) 1431655765)) 858993459) + (iAnd (iUsh (x - (iAnd (iUsh x 1) 1431655765)) 2) 858993459)) + (iUsh ((iAnd (x - (iAnd (iUsh x 1) 1431655765)) 858993459) + (iAnd (iUsh (x - (iAnd (iUsh x 1) 1431655765)) 2) 858993459)) 4)) 252645135) 8)) 16)) 63))) h) : am_AT 1 317 0 [some (mB x)] h R :=
  am_T (d := 0) (m := 317) (T := tb317) (mL := 1) (rk := 1) (cuts := []) (l := []) rfl trivial 46 (t)
theorem C317_ok : am_CS 1 317 C317 := W317 (fun x h K hb => T317_0 (am_rB hb.2 (nt_pc hb.1.1 hb.1.2).symm))
/-! 177 FactorNets.lowest -/
def C177 : am_K := fun as h K => am_a1 as (fun v0 => am_n v0 (fun x => (0 < x ∧ x < 2147483648) ∧ (K (some (mB (iLow x))) h)))
theorem W177 {d : Nat} (H : ∀ (x : Int) (h : am_H) (K : Option am_V → am_H → Prop), (0 < x ∧ x < 2147483648) ∧ (K (some (mB (iLow x))) h) → am_AT d 177 0 [some (mB x)] h K) : am_CS d 177 C177 := by
  refine am_CS_of (T := tb177) (mL := 1) (rk := 1) rfl (fun as h K hC => ?_)
  obtain ⟨v0, rfl, hC0⟩ := am_a1_e hC
  obtain ⟨x, rfl, hC1⟩ := am_n_e hC0
  refine ⟨Nat.le_of_ble_eq_true rfl, ?_⟩
  exact H x h K hC1
theorem T177_0 {R : Option am_V → am_H → Prop} {h : am_H} {x : Int} (t : (R32 ((iAnd x (-x)) - 1)) ∧ ((0 ≤ ((iAnd x (-x)) - 1) ∧ ((iAnd x (-x)) - 1) < 2147483648) ∧ (R (some (mB (iPop ((iAnd x (-x)) - 1)))) h))) : am_AT 2 177 0 [some (mB x)] h R :=
  am_T (d := 1) (m := 177) (T := tb177) (mL := 1) (rk := 1) (cuts := []) (l := [(317, C317)]) rfl ⟨am_CS_d (by decide) C317_ok, trivial⟩ 12 (And.intro (t).1 (And.intro ((t).2).1 (((t).2).2)))
theorem C177_ok : am_CS 2 177 C177 := W177 (fun x h K hb => T177_0 (by
  have h1 := rg_and x (-x)
  have h2 : ¬ iAnd x (-x) < 0 := fun q => by
    have := (bt_msb (x := x) (by omega)).mp (bt_and.mp ((bt_msb h1).mpr q)).1
    omega
  have h3 : iAnd x (-x) ≠ 0 := iLow_nz hb.1.1 hb.1.2
  exact ⟨by omega, ⟨by omega, by omega⟩, hb.2⟩))
/-! 180 FactorNets.least -/
def C180 : am_K := fun as h K => am_a1 as (fun v0 => am_n v0 (fun k => K (some (mB (if k = 1 then 3 else 2))) h))
theorem W180 {d : Nat} (H : ∀ (k : Int) (h : am_H) (K : Option am_V → am_H → Prop), K (some (mB (if k = 1 then 3 else 2))) h → am_AT d 180 0 [some (mB k)] h K) : am_CS d 180 C180 := by
  refine am_CS_of (T := tb180) (mL := 1) (rk := 1) rfl (fun as h K hC => ?_)
  obtain ⟨v0, rfl, hC0⟩ := am_a1_e hC
  obtain ⟨k, rfl, hC1⟩ := am_n_e hC0
  refine ⟨Nat.le_of_ble_eq_true rfl, ?_⟩
  exact H k h K hC1
theorem T180_0 {R : Option am_V → am_H → Prop} {h : am_H} {k : Int} (t : ((¬ k = 1) → (R (some (mB 2)) h)) ∧ ((k = 1) → (R (some (mB 3)) h))) : am_AT 1 180 0 [some (mB k)] h R :=
  am_T (d := 0) (m := 180) (T := tb180) (mL := 1) (rk := 1) (cuts := []) (l := []) rfl trivial 10 (And.intro (fun c4 => (t).1 c4) (fun c4 => (t).2 c4))
theorem C180_ok : am_CS 1 180 C180 := W180 (fun k h K hb => T180_0 ⟨fun c => am_rB hb (if_neg c), fun c => am_rB hb (if_pos c)⟩)
/-! 66 FactorNets$Reader.isLetter -/
def C66 : am_K := fun as h K => am_a1 as (fun v0 => am_n v0 (fun s => K (some (mP (97 ≤ s ∧ s ≤ 122))) h))
theorem W66 {d : Nat} (H : ∀ (s : Int) (h : am_H) (K : Option am_V → am_H → Prop), K (some (mP (97 ≤ s ∧ s ≤ 122))) h → am_AT d 66 0 [some (mB s)] h K) : am_CS d 66 C66 := by
  refine am_CS_of (T := tb66) (mL := 1) (rk := 4) rfl (fun as h K hC => ?_)
  obtain ⟨v0, rfl, hC0⟩ := am_a1_e hC
  obtain ⟨s, rfl, hC1⟩ := am_n_e hC0
  refine ⟨Nat.le_of_ble_eq_true rfl, ?_⟩
  exact H s h K hC1
theorem T66_0 {R : Option am_V → am_H → Prop} {h : am_H} {s : Int} (t : ((s < 97) → (R (some (mP ((0 : Int) = 1))) h)) ∧ ((97 ≤ s) → (((122 < s) → (R (some (mP ((0 : Int) = 1))) h)) ∧ ((s ≤ 122) → (R (some (mP ((1 : Int) = 1))) h))))) : am_AT 1 66 0 [some (mB s)] h R :=
  am_T (d := 0) (m := 66) (T := tb66) (mL := 1) (rk := 4) (cuts := []) (l := []) rfl trivial 13 (And.intro (fun c5 => And.intro (Or.inl rfl) ((t).1 c5)) (fun c5 => And.intro (fun c6 => And.intro (Or.inl rfl) (((t).2 c5).1 c6)) (fun c6 => And.intro (Or.inr rfl) (((t).2 c5).2 c6))))
theorem C66_ok : am_CS 1 66 C66 := W66 (fun s h K hb => T66_0 ⟨fun c => am_rb0 hb (by omega), fun c => ⟨fun c2 => am_rb0 hb (by omega), fun c2 => am_rb1 hb (by omega)⟩⟩)
/-! 67 FactorNets$Reader.isDigit -/
def C67 : am_K := fun as h K => am_a1 as (fun v0 => am_n v0 (fun s => K (some (mP (48 ≤ s ∧ s ≤ 57))) h))
theorem W67 {d : Nat} (H : ∀ (s : Int) (h : am_H) (K : Option am_V → am_H → Prop), K (some (mP (48 ≤ s ∧ s ≤ 57))) h → am_AT d 67 0 [some (mB s)] h K) : am_CS d 67 C67 := by
  refine am_CS_of (T := tb67) (mL := 1) (rk := 4) rfl (fun as h K hC => ?_)
  obtain ⟨v0, rfl, hC0⟩ := am_a1_e hC
  obtain ⟨s, rfl, hC1⟩ := am_n_e hC0
  refine ⟨Nat.le_of_ble_eq_true rfl, ?_⟩
  exact H s h K hC1
theorem T67_0 {R : Option am_V → am_H → Prop} {h : am_H} {s : Int} (t : ((s < 48) → (R (some (mP ((0 : Int) = 1))) h)) ∧ ((48 ≤ s) → (((57 < s) → (R (some (mP ((0 : Int) = 1))) h)) ∧ ((s ≤ 57) → (R (some (mP ((1 : Int) = 1))) h))))) : am_AT 1 67 0 [some (mB s)] h R :=
  am_T (d := 0) (m := 67) (T := tb67) (mL := 1) (rk := 4) (cuts := []) (l := []) rfl trivial 13 (And.intro (fun c7 => And.intro (Or.inl rfl) ((t).1 c7)) (fun c7 => And.intro (fun c8 => And.intro (Or.inl rfl) (((t).2 c7).1 c8)) (fun c8 => And.intro (Or.inr rfl) (((t).2 c7).2 c8))))
theorem C67_ok : am_CS 1 67 C67 := W67 (fun s h K hb => T67_0 ⟨fun c => am_rb0 hb (by omega), fun c => ⟨fun c2 => am_rb0 hb (by omega), fun c2 => am_rb1 hb (by omega)⟩⟩)
/-! 21 FactorNets$Net.holds -/
def C21 : am_K := fun as h K => am_a2 as (fun v0 v1 => am_o 3 v0 (fun o => am_n v1 (fun p => K (some (mP (0 ≤ p ∧ p < h o 0))) h)))
theorem W21 {d : Nat} (H : ∀ (o : Int) (p : Int) (h : am_H) (K : Option am_V → am_H → Prop), K (some (mP (0 ≤ p ∧ p < h o 0))) h → am_AT d 21 0 [some (mR 1 3 0 o), some (mB p)] h K) : am_CS d 21 C21 := by
  refine am_CS_of (T := tb21) (mL := 2) (rk := 4) rfl (fun as h K hC => ?_)
  obtain ⟨v0, v1, rfl, hC0⟩ := am_a2_e hC
  obtain ⟨o, rfl, hC1⟩ := am_o_e hC0
  obtain ⟨p, rfl, hC2⟩ := am_n_e hC1
  refine ⟨Nat.le_of_ble_eq_true rfl, ?_⟩
  exact H o p h K hC2
theorem T21_0 {R : Option am_V → am_H → Prop} {h : am_H} {o : Int} {p : Int} (t : ((p < 0) → (R (some (mP ((0 : Int) = 1))) h)) ∧ ((0 ≤ p) → (((h o 0 ≤ p) → (R (some (mP ((0 : Int) = 1))) h)) ∧ ((p < h o 0) → (R (some (mP ((1 : Int) = 1))) h))))) : am_AT 1 21 0 [some (mR 1 3 0 o), some (mB p)] h R :=
  am_T (d := 0) (m := 21) (T := tb21) (mL := 2) (rk := 4) (cuts := []) (l := []) rfl trivial 13 (And.intro (fun c9 => And.intro (Or.inl rfl) ((t).1 c9)) (fun c9 => And.intro (fun c10 => And.intro (Or.inl rfl) (((t).2 c9).1 c10)) (fun c10 => And.intro (Or.inr rfl) (((t).2 c9).2 c10))))
theorem C21_ok : am_CS 1 21 C21 := W21 (fun o p h K hb => T21_0 ⟨fun c => am_rb0 hb (by omega), fun c => ⟨fun c2 => am_rb0 hb (by omega), fun c2 => am_rb1 hb (by omega)⟩⟩)
/-! 22 FactorNets$Net.everyone -/
def C22 : am_K := fun as h K => am_a1 as (fun v0 => am_o 3 v0 (fun o => (0 ≤ h o 0 ∧ h o 0 ≤ 30) ∧ (K (some (mB (iShl 1 (h o 0) - 1))) h)))
theorem W22 {d : Nat} (H : ∀ (o : Int) (h : am_H) (K : Option am_V → am_H → Prop), (0 ≤ h o 0 ∧ h o 0 ≤ 30) ∧ (K (some (mB (iShl 1 (h o 0) - 1))) h) → am_AT d 22 0 [some (mR 1 3 0 o)] h K) : am_CS d 22 C22 := by
  refine am_CS_of (T := tb22) (mL := 1) (rk := 1) rfl (fun as h K hC => ?_)
  obtain ⟨v0, rfl, hC0⟩ := am_a1_e hC
  obtain ⟨o, rfl, hC1⟩ := am_o_e hC0
  refine ⟨Nat.le_of_ble_eq_true rfl, ?_⟩
  exact H o h K hC1
theorem T22_0 {R : Option am_V → am_H → Prop} {h : am_H} {o : Int} (t : (R32 ((iShl 1 (h o 0)) - 1)) ∧ (R (some (mB ((iShl 1 (h o 0)) - 1))) h)) : am_AT 1 22 0 [some (mR 1 3 0 o)] h R :=
  am_T (d := 0) (m := 22) (T := tb22) (mL := 1) (rk := 1) (cuts := []) (l := []) rfl trivial 11 (And.intro (t).1 ((t).2))
theorem C22_ok : am_CS 1 22 C22 := W22 (fun o h K hb => T22_0 ⟨by have := bt_all_r hb.1.1 hb.1.2; omega, hb.2⟩)
/-! 23 FactorNets$Net.linked -/
def C23 : am_K := fun as h K => am_a3 as (fun v0 v1 v2 => am_o 3 v0 (fun o => am_n v1 (fun a => am_n v2 (fun b => ((0 ≤ a ∧ a < 20) ∧ (0 ≤ b ∧ b < 32)) ∧ (K (some (mP (bit (h (o + 1) a) b))) h)))))
theorem W23 {d : Nat} (H : ∀ (o : Int) (a : Int) (b : Int) (h : am_H) (K : Option am_V → am_H → Prop), ((0 ≤ a ∧ a < 20) ∧ (0 ≤ b ∧ b < 32)) ∧ (K (some (mP (bit (h (o + 1) a) b))) h) → am_AT d 23 0 [some (mR 1 3 0 o), some (mB a), some (mB b)] h K) : am_CS d 23 C23 := by
  refine am_CS_of (T := tb23) (mL := 3) (rk := 4) rfl (fun as h K hC => ?_)
  obtain ⟨v0, v1, v2, rfl, hC0⟩ := am_a3_e hC
  obtain ⟨o, rfl, hC1⟩ := am_o_e hC0
  obtain ⟨a, rfl, hC2⟩ := am_n_e hC1
  obtain ⟨b, rfl, hC3⟩ := am_n_e hC2
  refine ⟨Nat.le_of_ble_eq_true rfl, ?_⟩
  exact H o a b h K hC3
theorem T23_0 {R : Option am_V → am_H → Prop} {h : am_H} {o : Int} {a : Int} {b : Int} (t : (0 ≤ a ∧ a < 20) ∧ (((iAnd (iShr (h (o + 1) a) b) 1 = 0) → (R (some (mP ((0 : Int) = 1))) h)) ∧ ((¬ iAnd (iShr (h (o + 1) a) b) 1 = 0) → (R (some (mP ((1 : Int) = 1))) h)))) : am_AT 1 23 0 [some (mR 1 3 0 o), some (mB a), some (mB b)] h R :=
  am_T (d := 0) (m := 23) (T := tb23) (mL := 3) (rk := 4) (cuts := []) (l := []) rfl trivial 16 (And.intro (t).1 (And.intro (fun c11 => And.intro (Or.inl rfl) (((t).2).1 c11)) (fun c11 => And.intro (Or.inr rfl) (((t).2).2 c11))))
theorem C23_ok : am_CS 1 23 C23 := W23 (fun o a b h K hb => T23_0 ⟨hb.1.1, fun c => am_rb0 hb.2 ((bt_has0 hb.1.2.1 hb.1.2.2).mp c), fun c => am_rb1 hb.2 (Classical.byContradiction fun q => c ((bt_has0 hb.1.2.1 hb.1.2.2).mpr q))⟩)
/-! 24 FactorNets$Net.link -/
def C24 : am_K := fun as h K => am_a3 as (fun v0 v1 v2 => am_o 3 v0 (fun o => am_n v1 (fun a => am_n v2 (fun b => ((0 ≤ a ∧ a < 20) ∧ (0 ≤ b ∧ b < 20)) ∧ (K (none) (h_lk h (o + 1) a b))))))
theorem W24 {d : Nat} (H : ∀ (o : Int) (a : Int) (b : Int) (h : am_H) (K : Option am_V → am_H → Prop), ((0 ≤ a ∧ a < 20) ∧ (0 ≤ b ∧ b < 20)) ∧ (K (none) (h_lk h (o + 1) a b)) → am_AT d 24 0 [some (mR 1 3 0 o), some (mB a), some (mB b)] h K) : am_CS d 24 C24 := by
  refine am_CS_of (T := tb24) (mL := 3) (rk := 0) rfl (fun as h K hC => ?_)
  obtain ⟨v0, v1, v2, rfl, hC0⟩ := am_a3_e hC
  obtain ⟨o, rfl, hC1⟩ := am_o_e hC0
  obtain ⟨a, rfl, hC2⟩ := am_n_e hC1
  obtain ⟨b, rfl, hC3⟩ := am_n_e hC2
  refine ⟨Nat.le_of_ble_eq_true rfl, ?_⟩
  exact H o a b h K hC3
theorem T24_0 {R : Option am_V → am_H → Prop} {h : am_H} {o : Int} {a : Int} {b : Int} (t : (0 ≤ a ∧ a < 20) ∧ ((0 ≤ a ∧ a < 20) ∧ ((0 ≤ b ∧ b < 20) ∧ ((0 ≤ b ∧ b < 20) ∧ (R none (am_up (am_up h (o + 1) a (iOr (h (o + 1) a) (iShl 1 b))) (o + 1) b (iOr ((am_up h (o + 1) a (iOr (h (o + 1) a) (iShl 1 b))) (o + 1) b) (iShl 1 a)))))))) : am_AT 1 24 0 [some (mR 1 3 0 o), some (mB a), some (mB b)] h R :=
  am_T (d := 0) (m := 24) (T := tb24) (mL := 3) (rk := 0) (cuts := []) (l := []) rfl trivial 25 (And.intro (t).1 (And.intro ((t).2).1 (And.intro (((t).2).2).1 (And.intro ((((t).2).2).2).1 (((((t).2).2).2).2)))))
theorem C24_ok : am_CS 1 24 C24 := W24 (fun o a b h K hb => T24_0 ⟨hb.1.1, hb.1.1, hb.1.2, hb.1.2, hb.2⟩)
/-! 25 FactorNets$Net.unlink -/
def C25 : am_K := fun as h K => am_a3 as (fun v0 v1 v2 => am_o 3 v0 (fun o => am_n v1 (fun a => am_n v2 (fun b => ((0 ≤ a ∧ a < 20) ∧ (0 ≤ b ∧ b < 20)) ∧ (K (none) (h_ul h (o + 1) a b))))))
theorem W25 {d : Nat} (H : ∀ (o : Int) (a : Int) (b : Int) (h : am_H) (K : Option am_V → am_H → Prop), ((0 ≤ a ∧ a < 20) ∧ (0 ≤ b ∧ b < 20)) ∧ (K (none) (h_ul h (o + 1) a b)) → am_AT d 25 0 [some (mR 1 3 0 o), some (mB a), some (mB b)] h K) : am_CS d 25 C25 := by
  refine am_CS_of (T := tb25) (mL := 3) (rk := 0) rfl (fun as h K hC => ?_)
  obtain ⟨v0, v1, v2, rfl, hC0⟩ := am_a3_e hC
  obtain ⟨o, rfl, hC1⟩ := am_o_e hC0
  obtain ⟨a, rfl, hC2⟩ := am_n_e hC1
  obtain ⟨b, rfl, hC3⟩ := am_n_e hC2
  refine ⟨Nat.le_of_ble_eq_true rfl, ?_⟩
  exact H o a b h K hC3
theorem T25_0 {R : Option am_V → am_H → Prop} {h : am_H} {o : Int} {a : Int} {b : Int} (t : (0 ≤ a ∧ a < 20) ∧ ((0 ≤ a ∧ a < 20) ∧ ((0 ≤ b ∧ b < 20) ∧ ((0 ≤ b ∧ b < 20) ∧ (R none (am_up (am_up h (o + 1) a (iAnd (h (o + 1) a) (iXor (iShl 1 b) (-1)))) (o + 1) b (iAnd ((am_up h (o + 1) a (iAnd (h (o + 1) a) (iXor (iShl 1 b) (-1)))) (o + 1) b) (iXor (iShl 1 a) (-1))))))))) : am_AT 1 25 0 [some (mR 1 3 0 o), some (mB a), some (mB b)] h R :=
  am_T (d := 0) (m := 25) (T := tb25) (mL := 3) (rk := 0) (cuts := []) (l := []) rfl trivial 29 (And.intro (t).1 (And.intro ((t).2).1 (And.intro (((t).2).2).1 (And.intro ((((t).2).2).2).1 (((((t).2).2).2).2)))))
theorem C25_ok : am_CS 1 25 C25 := W25 (fun o a b h K hb => T25_0 ⟨hb.1.1, hb.1.1, hb.1.2, hb.1.2, hb.2⟩)
/-! 319 java/util/Arrays.fill -/
def C319 : am_K := fun as h K => am_a2 as (fun v0 v1 => am_r 2 20 0 v0 (fun q => am_n v1 (fun x => K (none) (h_fl h q 20 x))))
theorem W319 {d : Nat} (H : ∀ (q : Int) (x : Int) (h : am_H) (K : Option am_V → am_H → Prop), K (none) (h_fl h q 20 x) → am_AT d 319 0 [some (mR 2 20 0 q), some (mB x), none, none] h K) : am_CS d 319 C319 := by
  refine am_CS_of (T := tb319) (mL := 4) (rk := 0) rfl (fun as h K hC => ?_)
  obtain ⟨v0, v1, rfl, hC0⟩ := am_a2_e hC
  obtain ⟨q, rfl, hC1⟩ := am_r_e hC0
  obtain ⟨x, rfl, hC2⟩ := am_n_e hC1
  refine ⟨Nat.le_of_ble_eq_true rfl, ?_⟩
  exact H q x h K hC2
theorem T319_0 {R : Option am_V → am_H → Prop} {h : am_H} {q : Int} {x : Int} (t : am_AT 1 319 5 [some (mR 2 20 0 q), some (mB x), some (mI 0), some (mI 20)] h R) : am_AT 1 319 0 [some (mR 2 20 0 q), some (mB x), none, none] h R :=
  am_T (d := 0) (m := 319) (T := tb319) (mL := 4) (rk := 0) (cuts := [(5, [1, 1, 2, 2])]) (l := []) rfl trivial 9 (t)
theorem T319_5 {R : Option am_V → am_H → Prop} {h : am_H} {q : Int} {x : Int} {x2 : Int} {x3 : Int} (t : (R32 x2) ∧ ((R32 x3) ∧ (((x3 ≤ x2) → (R none h)) ∧ ((x2 < x3) → ((0 ≤ x2 ∧ x2 < 20) ∧ (am_AT 1 319 5 [some (mR 2 20 0 q), some (mB x), some (mI (x2 + 1)), some (mI x3)] (am_up h q x2 x) R)))))) : am_AT 1 319 5 [some (mR 2 20 0 q), some (mB x), some (mI x2), some (mI x3)] h R :=
  am_T (d := 0) (m := 319) (T := tb319) (mL := 4) (rk := 0) (cuts := [(5, [1, 1, 2, 2])]) (l := []) rfl trivial 13 (And.intro (t).1 (And.intro ((t).2).1 (And.intro (fun c12 => (((t).2).2).1 c12) (fun c12 => And.intro ((((t).2).2).2 c12).1 (((((t).2).2).2 c12).2)))))
theorem L319 {K : Option am_V → am_H → Prop} {h : am_H} {q x : Int} (hK : K none (h_fl h q 20 x)) : ∀ (j : Nat) (i : Int), i + j = 20 → 0 ≤ i → am_AT 1 319 5 [some (mR 2 20 0 q), some (mB x), some (mI i), some (mI 20)] (h_fl h q i x) K := by
  intro j
  induction j with
  | zero =>
    intro i hi h0
    have e : i = 20 := by omega
    subst e
    exact T319_5 ⟨by omega, by omega, fun _ => hK, fun c => by omega⟩
  | succ j ih =>
    intro i hi h0
    exact T319_5 ⟨by omega, by omega, fun c => by omega, fun c => ⟨by omega, by rw [h_fl1 _ _ _ _ h0]; exact ih (i + 1) (by omega) (by omega)⟩⟩
theorem C319_ok : am_CS 1 319 C319 := W319 (fun q x h K hb => T319_0 (by have := L319 hb 20 0 (by omega) (by omega); rw [h_fl0] at this; exact this))
/-! 318 java/util/Arrays.fill -/
def C318 : am_K := fun as h K => am_a2 as (fun v0 v1 => am_r 3 20 0 v0 (fun q => am_j v1 (fun x => K (none) (h_fl h q 20 x))))
theorem W318 {d : Nat} (H : ∀ (q : Int) (x : Int) (h : am_H) (K : Option am_V → am_H → Prop), K (none) (h_fl h q 20 x) → am_AT d 318 0 [some (mR 3 20 0 q), some (mK x), none, none, none] h K) : am_CS d 318 C318 := by
  refine am_CS_of (T := tb318) (mL := 5) (rk := 0) rfl (fun as h K hC => ?_)
  obtain ⟨v0, v1, rfl, hC0⟩ := am_a2_e hC
  obtain ⟨q, rfl, hC1⟩ := am_r_e hC0
  obtain ⟨x, rfl, hC2⟩ := am_j_e hC1
  refine ⟨Nat.le_of_ble_eq_true rfl, ?_⟩
  exact H q x h K hC2
theorem T318_0 {R : Option am_V → am_H → Prop} {h : am_H} {q : Int} {x : Int} (t : am_AT 1 318 6 [some (mR 3 20 0 q), some (mK x), none, some (mI 0), some (mI 20)] h R) : am_AT 1 318 0 [some (mR 3 20 0 q), some (mK x), none, none, none] h R :=
  am_T (d := 0) (m := 318) (T := tb318) (mL := 5) (rk := 0) (cuts := [(6, [1, 1, 0, 2, 2])]) (l := []) rfl trivial 9 (t)
theorem T318_6 {R : Option am_V → am_H → Prop} {h : am_H} {q : Int} {x : Int} {x3 : Int} {x4 : Int} (t : (R32 x3) ∧ ((R32 x4) ∧ (((x4 ≤ x3) → (R none h)) ∧ ((x3 < x4) → ((0 ≤ x3 ∧ x3 < 20) ∧ (am_AT 1 318 6 [some (mR 3 20 0 q), some (mK x), none, some (mI (x3 + 1)), some (mI x4)] (am_up h q x3 x) R)))))) : am_AT 1 318 6 [some (mR 3 20 0 q), some (mK x), none, some (mI x3), some (mI x4)] h R :=
  am_T (d := 0) (m := 318) (T := tb318) (mL := 5) (rk := 0) (cuts := [(6, [1, 1, 0, 2, 2])]) (l := []) rfl trivial 13 (And.intro (t).1 (And.intro ((t).2).1 (And.intro (fun c13 => (((t).2).2).1 c13) (fun c13 => And.intro ((((t).2).2).2 c13).1 (((((t).2).2).2 c13).2)))))
theorem L318 {K : Option am_V → am_H → Prop} {h : am_H} {q x : Int} (hK : K none (h_fl h q 20 x)) : ∀ (j : Nat) (i : Int), i + j = 20 → 0 ≤ i → am_AT 1 318 6 [some (mR 3 20 0 q), some (mK x), none, some (mI i), some (mI 20)] (h_fl h q i x) K := by
  intro j
  induction j with
  | zero =>
    intro i hi h0
    have e : i = 20 := by omega
    subst e
    exact T318_6 ⟨by omega, by omega, fun _ => hK, fun c => by omega⟩
  | succ j ih =>
    intro i hi h0
    exact T318_6 ⟨by omega, by omega, fun c => by omega, fun c => ⟨by omega, by rw [h_fl1 _ _ _ _ h0]; exact ih (i + 1) (by omega) (by omega)⟩⟩
theorem C318_ok : am_CS 1 318 C318 := W318 (fun q x h K hb => T318_0 (by have := L318 hb 20 0 (by omega) (by omega); rw [h_fl0] at this; exact this))
/-! 19 FactorNets$Net.reset -/
def C19 : am_K := fun as h K => am_a2 as (fun v0 v1 => am_o 3 v0 (fun o => am_n v1 (fun n => K (none) (h_fl (am_up h o 0 n) (o + 1) 20 0))))
theorem W19 {d : Nat} (H : ∀ (o : Int) (n : Int) (h : am_H) (K : Option am_V → am_H → Prop), K (none) (h_fl (am_up h o 0 n) (o + 1) 20 0) → am_AT d 19 0 [some (mR 1 3 0 o), some (mB n)] h K) : am_CS d 19 C19 := by
  refine am_CS_of (T := tb19) (mL := 2) (rk := 0) rfl (fun as h K hC => ?_)
  obtain ⟨v0, v1, rfl, hC0⟩ := am_a2_e hC
  obtain ⟨o, rfl, hC1⟩ := am_o_e hC0
  obtain ⟨n, rfl, hC2⟩ := am_n_e hC1
  refine ⟨Nat.le_of_ble_eq_true rfl, ?_⟩
  exact H o n h K hC2
theorem T19_0 {R : Option am_V → am_H → Prop} {h : am_H} {o : Int} {n : Int} (t : R none (h_fl (am_up h o 0 n) (o + 1) 20 (0 : Int))) : am_AT 2 19 0 [some (mR 1 3 0 o), some (mB n)] h R :=
  am_T (d := 1) (m := 19) (T := tb19) (mL := 2) (rk := 0) (cuts := []) (l := [(319, C319)]) rfl ⟨am_CS_d (by decide) C319_ok, trivial⟩ 12 (t)
theorem C19_ok : am_CS 2 19 C19 := W19 (fun o n h K hb => T19_0 hb)
/-! 20 FactorNets$Net.become -/
def C20 : am_K := fun as h K => am_a2 as (fun v0 v1 => am_o 3 v0 (fun o => am_o 3 v1 (fun p => K (none) (am_cp (am_up h o 0 (h p 0)) (p + 1) 0 (o + 1) 0 20))))
theorem W20 {d : Nat} (H : ∀ (o : Int) (p : Int) (h : am_H) (K : Option am_V → am_H → Prop), K (none) (am_cp (am_up h o 0 (h p 0)) (p + 1) 0 (o + 1) 0 20) → am_AT d 20 0 [some (mR 1 3 0 o), some (mR 1 3 0 p)] h K) : am_CS d 20 C20 := by
  refine am_CS_of (T := tb20) (mL := 2) (rk := 0) rfl (fun as h K hC => ?_)
  obtain ⟨v0, v1, rfl, hC0⟩ := am_a2_e hC
  obtain ⟨o, rfl, hC1⟩ := am_o_e hC0
  obtain ⟨p, rfl, hC2⟩ := am_o_e hC1
  refine ⟨Nat.le_of_ble_eq_true rfl, ?_⟩
  exact H o p h K hC2
theorem T20_0 {R : Option am_V → am_H → Prop} {h : am_H} {o : Int} {p : Int} (t : R none (am_cp (am_up h o 0 (h p 0)) (p + 1) 0 (o + 1) 0 20)) : am_AT 1 20 0 [some (mR 1 3 0 o), some (mR 1 3 0 p)] h R :=
  am_T (d := 0) (m := 20) (T := tb20) (mL := 2) (rk := 0) (cuts := []) (l := []) rfl trivial 17 (And.intro (⟨by decide, by decide, by decide, by decide, by decide⟩) (t))
theorem C20_ok : am_CS 1 20 C20 := W20 (fun o p h K hb => T20_0 hb)
