/-! ===== places of a point, and how each is come to ===== -/
def LNK (h : am_H) (o p to : Int) : Prop := (0 ≤ h (o + 68 + p) to ∧ h (o + 68 + p) to < h o 4) ∧ bit (h (o + 66) p) (h (o + 89 + p) to) ∧ h (o + 2 + h (o + 68 + p) to) (h (o + 89 + p) to) = to ∧ ∀ j, 0 ≤ j → j < p → h (o + 2 + h (o + 68 + p) to) j = j
def trc (h : am_H) (o p : Int) : Nat → Int → Prop
  | 0, to => to = p
  | m + 1, to => to = p ∨ (LNK h o p to ∧ trc h o p m (h (o + 89 + p) to))
theorem trc_s {h : am_H} {o p : Int} : ∀ (m : Nat) (to : Int), trc h o p m to → trc h o p (m + 1) to
  | 0, _, w => Or.inl w
  | m + 1, to, w => w.elim Or.inl (fun z => Or.inr ⟨z.1, trc_s m _ z.2⟩)
theorem trc_le {h : am_H} {o p : Int} (m : Nat) : ∀ (k : Nat) (to : Int), trc h o p m to → trc h o p (m + k) to
  | 0, _, w => w
  | k + 1, to, w => trc_s _ _ (trc_le m k to w)
theorem trc_fr {h g : am_H} {o p : Int} (e1 : ∀ x, bit (h (o + 66) p) x → g (o + 68 + p) x = h (o + 68 + p) x ∧ g (o + 89 + p) x = h (o + 89 + p) x) (e2 : ∀ x, bit (h (o + 66) p) x → bit (g (o + 66) p) x) (e3 : ∀ i, 0 ≤ i → i < h o 4 → ∀ x, g (o + 2 + i) x = h (o + 2 + i) x) (e4 : h o 4 ≤ g o 4) : ∀ (m : Nat) (to : Int), bit (h (o + 66) p) to → trc h o p m to → trc g o p m to
  | 0, _, _, w => w
  | m + 1, to, b, w => w.elim Or.inl (fun z => by
    have k := e1 to b
    refine Or.inr ⟨?_, ?_⟩
    · unfold LNK
      rw [k.1, k.2, e3 _ z.1.1.1 z.1.1.2]
      exact ⟨⟨z.1.1.1, by have := z.1.1.2; omega⟩, e2 _ z.1.2.1, z.1.2.2.1, fun j a c => by rw [e3 _ z.1.1.1 z.1.1.2]; exact z.1.2.2.2 j a c⟩
    · rw [k.2]
      exact trc_fr e1 e2 e3 e4 m _ z.1.2.1 z.2)
def PLI (h : am_H) (o p : Int) : Prop := S20 (h (o + 66) p) ∧ bit (h (o + 66) p) p ∧ ∀ to, bit (h (o + 66) p) to → to < h (am_sv o + 1) 0 ∧ rc (GE h o) p to ∧ trc h o p (iPop (h (o + 66) p) - 1).toNat to
def PLQ (h g : am_H) (o p : Int) : Prop := ∀ x i, ¬ (x = o + 66 ∧ i = p) → x ≠ o + 68 + p → x ≠ o + 89 + p → g x i = h x i
theorem GE_fr {h g : am_H} {o : Int} (e : ∀ i, 0 ≤ i → i < h o 4 → ∀ x, g (o + 2 + i) x = h (o + 2 + i) x) (e4 : g o 4 = h o 4) : GE g o = GE h o := by
  funext x y
  refine propext ⟨fun ⟨i, a, b⟩ => ?_, fun ⟨i, a, b⟩ => ?_⟩
  · rw [e4] at a
    exact ⟨i, a, by rw [← e i a.1 a.2]; exact b⟩
  · exact ⟨i, by rw [e4]; exact a, by rw [e i a.1 a.2]; exact b⟩
theorem PLQ_f {h g : am_H} {o p : Int} (ho : HO0 o) (hp : 0 ≤ p ∧ p < 20) (l : h o 4 ≤ 64) (F : PLQ h g o p) : (∀ i, 0 ≤ i → i < h o 4 → ∀ x, g (o + 2 + i) x = h (o + 2 + i) x) ∧ g o 4 = h o 4 ∧ g (am_sv o + 1) 0 = h (am_sv o + 1) 0 ∧ GE g o = GE h o := by
  unfold HO0 at ho
  have e1 : ∀ i, 0 ≤ i → i < h o 4 → ∀ x, g (o + 2 + i) x = h (o + 2 + i) x := fun i a b x => F _ _ (by omega) (by omega) (by omega)
  have e2 : g o 4 = h o 4 := F _ _ (by omega) (by omega) (by omega)
  exact ⟨e1, e2, F _ _ (by omega) (by omega) (by omega), GE_fr e1 e2⟩
/-- a point that goes somewhere as all distances want it -/
theorem FT_au {n p to : Int} {D : Int → Int → Int} {M kin : Int → Int} {g : Int → Int} (H : DM n D) (hp : 0 ≤ p ∧ p < n) (ht : 0 ≤ to ∧ to < n) (hM : ∀ y, 0 ≤ y → y < n → ∀ x, bit (M y) x → (0 ≤ x ∧ x < n) ∧ (∀ j, 0 ≤ j → j < p → D j x = D j y) ∧ D to x = D p y) (G : EXt D D M (fun y => 0 ≤ y ∧ y < n) g) : AU n D g ∧ (∀ j, 0 ≤ j → j < p → g j = j) ∧ g p = to := by
  have m := fun y (hy : 0 ≤ y ∧ y < n) => hM y hy.1 hy.2 _ (G.1 y hy)
  refine ⟨⟨fun y a b => (m y ⟨a, b⟩).1, fun y z a b => G.2 y z a b⟩, fun j a b => ?_, ?_⟩
  · have w := m j ⟨a, by omega⟩
    have e := w.2.1 j a b
    rw [(H.2 j j ⟨a, by omega⟩ ⟨a, by omega⟩).1.mpr rfl] at e
    exact ((H.2 j (g j) ⟨a, by omega⟩ w.1).1.mp e).symm
  · have w := m p hp
    have e := w.2.2
    rw [(H.2 p p hp hp).1.mpr rfl] at e
    exact ((H.2 to (g p) ht w.1).1.mp e).symm
theorem FT_ex {n p to : Int} {D : Int → Int → Int} {M : Int → Int} (hp : 0 ≤ p ∧ p < n) (hM : ∀ f, AU n D f → ∀ y, 0 ≤ y → y < n → (∀ j, 0 ≤ j → j < p → D j (f y) = D j y) → D to (f y) = D p y → bit (M y) (f y)) (h : orbS n D p to) : EXs D D M (fun y => 0 ≤ y ∧ y < n) := by
  obtain ⟨f, F, fx, e⟩ := h
  refine ⟨f, fun y a => hM f F y a.1 a.2 (fun j b c => ?_) ?_, fun y z a b => F.2 y z a b⟩
  · have w := F.2 j y ⟨b, by omega⟩ a
    rw [fx j b c] at w
    exact w
  · have w := F.2 p y hp a
    rw [e] at w
    exact w
/-! 5 FactorNets$Chain.growPlaces -/
def C5 : am_K := fun as h K => am_a2 as (fun v0 v1 => am_o 0 v0 (fun o => am_n v1 (fun p => (HO0 o ∧ SVM h (am_sv o) ∧ GOK h o p ∧ (0 ≤ p ∧ p < (h (am_sv o + 1) 0)) ∧ PLI h o p) ∧ (∀ (h' : am_H), PLQ h h' o p ∧ PLI h' o p ∧ h' (o + 66) p = mkb (rc (GE h o) p) → K (none) (h')))))
theorem W5 {d : Nat} (H : ∀ (o : Int) (p : Int) (h : am_H) (K : Option am_V → am_H → Prop), (HO0 o ∧ SVM h (am_sv o) ∧ GOK h o p ∧ (0 ≤ p ∧ p < (h (am_sv o + 1) 0)) ∧ PLI h o p) ∧ (∀ (h' : am_H), PLQ h h' o p ∧ PLI h' o p ∧ h' (o + 66) p = mkb (rc (GE h o) p) → K (none) (h')) → am_AT d 5 0 [some (mR 1 0 0 o), some (mB p), none, none, none, none, none] h K) : am_CS d 5 C5 := by
  refine am_CS_of (T := tb5) (mL := 7) (rk := 0) rfl (fun as h K hC => ?_)
  obtain ⟨v0, v1, rfl, hC0⟩ := am_a2_e hC
  obtain ⟨o, rfl, hC1⟩ := am_o_e hC0
  obtain ⟨p, rfl, hC2⟩ := am_n_e hC1
  refine ⟨Nat.le_of_ble_eq_true rfl, ?_⟩
  exact H o p h K hC2
theorem T5_0 {R : Option am_V → am_H → Prop} {h : am_H} {o : Int} {p : Int} (t : (0 ≤ p ∧ p < 20) ∧ (am_AT 3 5 9 [some (mR 1 0 0 o), some (mB p), some (mI (h (o + 66) p)), some (mI 0), none, none, none] h R)) : am_AT 3 5 0 [some (mR 1 0 0 o), some (mB p), none, none, none, none, none] h R :=
  am_T (d := 2) (m := 5) (T := tb5) (mL := 7) (rk := 0) (cuts := [(9, [1, 1, 2, 2, 0, 0, 0]), (34, [1, 1, 2, 2, 2, 2, 0])]) (l := [(177, C177)]) rfl ⟨am_CS_d (by decide) C177_ok, trivial⟩ 11 (And.intro (t).1 ((t).2))
theorem T5_9 {R : Option am_V → am_H → Prop} {h : am_H} {o : Int} {p : Int} {x2 : Int} {x3 : Int} (t : (R32 x3) ∧ (((20 ≤ x3) → (R none h)) ∧ ((x3 < 20) → ((R32 x2) ∧ (((x2 = 0) → (R none h)) ∧ ((¬ x2 = 0) → ((R32 x2) ∧ ((0 < x2 ∧ x2 < 2147483648) ∧ (am_AT 3 5 34 [some (mR 1 0 0 o), some (mB p), some (mI (iAnd x2 (x2 - 1))), some (mI x3), some (mI (iLow x2)), some (mI 0), none] h R))))))))) : am_AT 3 5 9 [some (mR 1 0 0 o), some (mB p), some (mI x2), some (mI x3), none, none, none] h R :=
  am_T (d := 2) (m := 5) (T := tb5) (mL := 7) (rk := 0) (cuts := [(9, [1, 1, 2, 2, 0, 0, 0]), (34, [1, 1, 2, 2, 2, 2, 0])]) (l := [(177, C177)]) rfl ⟨am_CS_d (by decide) C177_ok, trivial⟩ 20 (And.intro (t).1 (And.intro (fun c1 => ((t).2).1 c1) (fun c1 => And.intro (((t).2).2 c1).1 (And.intro (fun c2 => ((((t).2).2 c1).2).1 c2) (fun c2 => And.intro (((((t).2).2 c1).2).2 c2).1 (And.intro ((((((t).2).2 c1).2).2 c2).2).1 (((((((t).2).2 c1).2).2 c2).2).2)))))))
theorem T5_34 {R : Option am_V → am_H → Prop} {h : am_H} {o : Int} {p : Int} {x2 : Int} {x3 : Int} {x4 : Int} {x5 : Int} (t : (R32 x5) ∧ (((h o 4 ≤ x5) → (am_AT 3 5 9 [some (mR 1 0 0 o), some (mB p), some (mI x2), some (mI (x3 + 1)), none, none, none] h R)) ∧ ((x5 < h o 4) → ((0 ≤ x5 ∧ x5 < 64) ∧ ((0 ≤ x4 ∧ x4 < 20) ∧ ((0 ≤ p ∧ p < 20) ∧ (((¬ iAnd (iShr (h (o + 66) p) (h (((o + 1) + 1) + x5) x4)) 1 = 0) → (am_AT 3 5 34 [some (mR 1 0 0 o), some (mB p), some (mI x2), some (mI x3), some (mI x4), some (mI (x5 + 1)), none] h R)) ∧ ((iAnd (iShr (h (o + 66) p) (h (((o + 1) + 1) + x5) x4)) 1 = 0) → ((0 ≤ p ∧ p < 20) ∧ ((0 ≤ h (((o + 1) + 1) + x5) x4 ∧ h (((o + 1) + 1) + x5) x4 < 20) ∧ ((R32 x5) ∧ ((0 ≤ p ∧ p < 20) ∧ ((0 ≤ h (((o + 1) + 1) + x5) x4 ∧ h (((o + 1) + 1) + x5) x4 < 20) ∧ ((R32 x4) ∧ ((0 ≤ p ∧ p < 20) ∧ ((0 ≤ p ∧ p < 20) ∧ (am_AT 3 5 34 [some (mR 1 0 0 o), some (mB p), some (mI (iOr x2 (iShl 1 (h (((o + 1) + 1) + x5) x4)))), some (mI x3), some (mI x4), some (mI (x5 + 1)), none] (am_up (am_up (am_up h (((o + 67) + 1) + p) (h (((o + 1) + 1) + x5) x4) x5) (((o + 88) + 1) + p) (h (((o + 1) + 1) + x5) x4) x4) (o + 66) p (iOr ((am_up (am_up h (((o + 67) + 1) + p) (h (((o + 1) + 1) + x5) x4) x5) (((o + 88) + 1) + p) (h (((o + 1) + 1) + x5) x4) x4) (o + 66) p) (iShl 1 (h (((o + 1) + 1) + x5) x4)))) R))))))))))))))))) : am_AT 3 5 34 [some (mR 1 0 0 o), some (mB p), some (mI x2), some (mI x3), some (mI x4), some (mI x5), none] h R :=
  am_T (d := 2) (m := 5) (T := tb5) (mL := 7) (rk := 0) (cuts := [(9, [1, 1, 2, 2, 0, 0, 0]), (34, [1, 1, 2, 2, 2, 2, 0])]) (l := [(177, C177)]) rfl ⟨am_CS_d (by decide) C177_ok, trivial⟩ 56 (And.intro (t).1 (And.intro (fun c3 => ((t).2).1 c3) (fun c3 => And.intro (((t).2).2 c3).1 (And.intro ((((t).2).2 c3).2).1 (And.intro (((((t).2).2 c3).2).2).1 (And.intro (fun c4 => ((((((t).2).2 c3).2).2).2).1 c4) (fun c4 => And.intro (((((((t).2).2 c3).2).2).2).2 c4).1 (And.intro ((((((((t).2).2 c3).2).2).2).2 c4).2).1 (And.intro (((((((((t).2).2 c3).2).2).2).2 c4).2).2).1 (And.intro ((((((((((t).2).2 c3).2).2).2).2 c4).2).2).2).1 (And.intro (((((((((((t).2).2 c3).2).2).2).2 c4).2).2).2).2).1 (And.intro ((((((((((((t).2).2 c3).2).2).2).2 c4).2).2).2).2).2).1 (And.intro (((((((((((((t).2).2 c3).2).2).2).2 c4).2).2).2).2).2).2).1 (And.intro ((((((((((((((t).2).2 c3).2).2).2).2 c4).2).2).2).2).2).2).2).1 (((((((((((((((t).2).2 c3).2).2).2).2 c4).2).2).2).2).2).2).2).2)))))))))))))))
theorem L5b {K : Option am_V → am_H → Prop} {h : am_H} {o p : Int} (ho : HO0 o) (G : GOK h o p) (hn : h (am_sv o + 1) 0 ≤ 20) (hp : 0 ≤ p ∧ p < h (am_sv o + 1) 0) (hK : ∀ g, PLQ h g o p ∧ PLI g o p ∧ g (o + 66) p = mkb (rc (GE h o) p) → K none g) {i f : Int} (nx : ∀ (g : am_H) op, PLQ h g o p → PLI g o p → BFi (GE h o) (fun x9 => x9 = p) (g (o + 66) p) op (i + 1) → am_AT 3 5 9 [some (mR 1 0 0 o), some (mB p), some (mI op), some (mI (i + 1)), none, none, none] g K) (hf : 0 ≤ f ∧ f < h (am_sv o + 1) 0) : ∀ k, ∀ (g : am_H) op, 0 ≤ k → k ≤ h o 4 → PLQ h g o p → PLI g o p → BFj (GE h o) (fun x9 => x9 = p) (g (o + 66) p) op i f (fun y9 => ∃ i9, (0 ≤ i9 ∧ i9 < k) ∧ h (o + 2 + i9) f = y9) → am_AT 3 5 34 [some (mR 1 0 0 o), some (mB p), some (mI op), some (mI i), some (mI f), some (mI k), none] g K := by
  have g64 := G.1
  have ho' := ho
  unfold HO0 at ho'
  refine lp (h o 4) (fun k ih g op k0 k1 F I B => ?_)
  have ff := PLQ_f ho (by omega) g64.2 F
  have ea : o + 1 + 1 + k = o + 2 + k := by omega
  have et : k < h o 4 → g (o + 2 + k) f = h (o + 2 + k) f := fun z => ff.1 k k0 z f
  have tr : k < h o 4 → 0 ≤ h (o + 2 + k) f ∧ h (o + 2 + k) f < h (am_sv o + 1) 0 := fun z => (G.2 k k0 z).1.1 f hf.1 hf.2
  have sp : ∀ y, (fun y9 => ∃ i9, (0 ≤ i9 ∧ i9 < (k + 1)) ∧ h (o + 2 + i9) f = y9) y → (fun y9 => ∃ i9, (0 ≤ i9 ∧ i9 < k) ∧ h (o + 2 + i9) f = y9) y ∨ y = h (o + 2 + k) f := fun y w => by
    obtain ⟨i9, hi, e⟩ := w
    by_cases z : i9 = k
    · right; rw [← e, z]
    · left; exact ⟨i9, by omega, e⟩
  refine T5_34 ⟨by omega, ⟨fun c1 => ?_, fun c1 => ⟨by omega, ⟨by omega, ⟨by omega, ⟨fun c2 => ?_, fun c2 => ⟨by omega, ⟨by rw [ff.2.1] at c1; have t := tr c1; rw [ea, et c1]; omega, ⟨by omega, ⟨by omega, ⟨by rw [ff.2.1] at c1; have t := tr c1; rw [ea, et c1]; omega, ⟨by omega, ⟨by omega, ⟨by omega, ?_⟩⟩⟩⟩⟩⟩⟩⟩⟩⟩⟩⟩⟩⟩
  · exact nx g op F I (BF_next B (fun y w => by
      obtain ⟨i9, hi, e⟩ := w
      exact ⟨i9, by omega, e⟩))
  · rw [ff.2.1] at c1
    have t := tr c1
    rw [ea, et c1, bt_has0 t.1 (by omega)] at c2
    exact ih c1 g op (by omega) (by omega) F I (BF_have B (fun y w => (sp y w).imp id (fun z => by rw [z]; exact Classical.not_not.mp c2)))
  · rw [ff.2.1] at c1
    have t := tr c1
    rw [ea, et c1, bt_has0 t.1 (by omega)] at c2
    rw [ea, et c1, show o + 67 + 1 + p = o + 68 + p by omega, show o + 88 + 1 + p = o + 89 + p by omega]
    rw [show (am_up (am_up g (o + 68 + p) (h (o + 2 + k) f) k) (o + 89 + p) (h (o + 2 + k) f) f) (o + 66) p = g (o + 66) p by rw [am_up_ne (by omega), am_up_ne (by omega)]]
    have B2 := BF_add B ⟨t.1, by omega⟩ c2 ⟨k, ⟨k0, c1⟩, rfl⟩ sp
    have F2 : PLQ h (am_up (am_up (am_up g (o + 68 + p) (h (o + 2 + k) f) k) (o + 89 + p) (h (o + 2 + k) f) f) (o + 66) p (iOr (g (o + 66) p) (iShl 1 (h (o + 2 + k) f)))) o p := fun x j a b c => by rw [am_up_n2 a, am_up_ne c, am_up_ne b]; exact F x j a b c
    have ff2 := PLQ_f ho (by omega) g64.2 F2
    have b1 : ∀ x, bit (iOr (g (o + 66) p) (iShl 1 (h (o + 2 + k) f))) x ↔ bit (g (o + 66) p) x ∨ x = h (o + 2 + k) f := fun x => by rw [bt_or, bt_1 t.1 (by omega)]
    have pp := iPop_or1 I.1 ⟨t.1, by omega⟩ c2
    have pos : 1 ≤ iPop (g (o + 66) p) := by have := iPop_less I.1 I.2.1; have : 0 ≤ iPop (iAnd (g (o + 66) p) (iXor (iShl 1 p) (-1))) := (ct_le _ 32).1; omega
    have ne : ∀ x, bit (g (o + 66) p) x → x ≠ h (o + 2 + k) f := fun x a z => c2 (z ▸ a)
    have TR : ∀ (m : Nat) (to : Int), bit (g (o + 66) p) to → trc g o p m to → trc (am_up (am_up (am_up g (o + 68 + p) (h (o + 2 + k) f) k) (o + 89 + p) (h (o + 2 + k) f) f) (o + 66) p (iOr (g (o + 66) p) (iShl 1 (h (o + 2 + k) f)))) o p m to := trc_fr (fun x a => ⟨by rw [am_up_n2 (by omega), am_up_n2 (by omega), am_up_n2 (fun z => ne x a z.2)], by rw [am_up_n2 (by omega), am_up_n2 (fun z => ne x a z.2), am_up_n2 (by omega)]⟩) (fun x a => by rw [am_up_eq]; exact (b1 x).mpr (Or.inl a)) (fun j a b x => by rw [am_up_n2 (by omega), am_up_n2 (by omega), am_up_n2 (by omega)]) (by rw [am_up_n2 (by omega), am_up_n2 (by omega), am_up_n2 (by omega)]; omega)
    refine ih c1 _ _ (by omega) (by omega) F2 ?_ (by rw [am_up_eq]; exact B2)
    unfold PLI
    rw [am_up_eq, ff2.2.2.1, ff2.2.2.2]
    refine ⟨B2.1.1, (b1 p).mpr (Or.inl I.2.1), fun to a => ?_⟩
    rw [pp]
    rcases (b1 to).mp a with a | a
    · have w := I.2.2 to a
      rw [ff.2.2.1, ff.2.2.2] at w
      refine ⟨w.1, w.2.1, ?_⟩
      rw [show (iPop (g (o + 66) p) + 1 - 1).toNat = (iPop (g (o + 66) p) - 1).toNat + 1 by omega]
      exact trc_s _ _ (TR _ _ a w.2.2)
    · have wf := I.2.2 f B.2.2.2.2.2.2.1.1
      rw [ff.2.2.1, ff.2.2.2] at wf
      rw [a]
      refine ⟨t.2, rc_step wf.2.1 ⟨k, ⟨k0, c1⟩, rfl⟩, ?_⟩
      rw [show (iPop (g (o + 66) p) + 1 - 1).toNat = (iPop (g (o + 66) p) - 1).toNat + 1 by omega]
      have x1 : (am_up (am_up (am_up g (o + 68 + p) (h (o + 2 + k) f) k) (o + 89 + p) (h (o + 2 + k) f) f) (o + 66) p (iOr (g (o + 66) p) (iShl 1 (h (o + 2 + k) f)))) (o + 68 + p) (h (o + 2 + k) f) = k := by rw [am_up_n2 (by omega), am_up_n2 (by omega), am_up_eq]
      have x2 : (am_up (am_up (am_up g (o + 68 + p) (h (o + 2 + k) f) k) (o + 89 + p) (h (o + 2 + k) f) f) (o + 66) p (iOr (g (o + 66) p) (iShl 1 (h (o + 2 + k) f)))) (o + 89 + p) (h (o + 2 + k) f) = f := by rw [am_up_n2 (by omega), am_up_eq]
      refine Or.inr ⟨?_, ?_⟩
      · unfold LNK
        rw [x1, x2, am_up_eq, ff2.2.1, ff2.1 k k0 c1]
        exact ⟨⟨k0, c1⟩, (b1 f).mpr (Or.inl B.2.2.2.2.2.2.1.1), rfl, fun j a b => by rw [ff2.1 k k0 c1]; exact (G.2 k k0 c1).2 j a b⟩
      · rw [x2]
        exact TR _ _ B.2.2.2.2.2.2.1.1 wf.2.2
theorem L5 {K : Option am_V → am_H → Prop} {h : am_H} {o p : Int} (ho : HO0 o) (G : GOK h o p) (hn : h (am_sv o + 1) 0 ≤ 20) (hp : 0 ≤ p ∧ p < h (am_sv o + 1) 0) (hK : ∀ g, PLQ h g o p ∧ PLI g o p ∧ g (o + 66) p = mkb (rc (GE h o) p) → K none g) : ∀ i, ∀ (g : am_H) op, 0 ≤ i → i ≤ 20 → PLQ h g o p → PLI g o p → BFi (GE h o) (fun x9 => x9 = p) (g (o + 66) p) op i → am_AT 3 5 9 [some (mR 1 0 0 o), some (mB p), some (mI op), some (mI i), none, none, none] g K := by
  have ec : (fun y => ∃ x, x = p ∧ rc (GE h o) x y) = rc (GE h o) p := by
    funext y
    exact propext ⟨fun ⟨x, a, b⟩ => a ▸ b, fun a => ⟨p, rfl, a⟩⟩
  refine lp 20 (fun i ih g op i0 i1 F I B => ?_)
  have so := B.1.2.1
  have so2 := B.1.2.2
  refine T5_9 ⟨by omega, ⟨fun c1 => ?_, fun c1 => ⟨by omega, ⟨fun c2 => ?_, fun c2 => ⟨by omega, ⟨S20_pos B.1.2 c2, ?_⟩⟩⟩⟩⟩⟩
  · exact hK g ⟨F, I, (BF_end B (Or.inl c1)).trans (by rw [ec])⟩
  · exact hK g ⟨F, I, (BF_end B (Or.inr c2)).trans (by rw [ec])⟩
  · have lw := S20_low B.1.2 c2
    have ll := I.2.2 _ (B.2.2.1 _ lw.1)
    have ff := PLQ_f ho (by omega) G.1.2 F
    rw [ff.2.2.1] at ll
    exact L5b ho G hn hp hK (fun g' op' F' I' B' => ih c1 g' op' (by omega) (by omega) F' I' B') ⟨lw.2.2.1, ll.1⟩ 0 g _ (by omega) G.1.1 F I (BF_have (BF_pop B c2) (fun y w => by
      obtain ⟨i9, hi, e⟩ := w
      omega))
theorem C5_ok : am_CS 3 5 C5 := W5 (fun o p h K hb => by
  obtain ⟨⟨ho, SS, G, hp, I⟩, hK⟩ := hb
  have hn := SS.1.2.1
  refine T5_0 ⟨by omega, ?_⟩
  · exact L5 ho G hn hp hK 0 h _ (by omega) (by omega) (fun _ _ _ _ _ => rfl) I ⟨⟨I.1, I.1⟩, fun x z => by rw [z]; exact I.2.1, fun _ w => w, fun y w => ⟨p, rfl, (I.2.2 y w).2.1⟩, fun x a b => absurd a b, by omega⟩)
/-! 3 FactorNets$Chain.findTaker -/
def C3 : am_K := fun as h K => am_a3 as (fun v0 v1 v2 => am_o 0 v0 (fun o => am_n v1 (fun p => am_n v2 (fun to => (HO0 o ∧ SVM h (am_sv o) ∧ KIN h (o + 111) ∧ (0 ≤ p ∧ p < (h (am_sv o + 1) 0)) ∧ (0 ≤ to ∧ to < (h (am_sv o + 1) 0))) ∧ (∀ (h' : am_H), ((∀ x9 i9, x9 ≠ o + 112 → ¬ (o + 114 ≤ x9 ∧ x9 ≤ o + 134) → h' x9 i9 = h x9 i9) ∧ (orbS (h (am_sv o + 1) 0) (svD h (am_sv o)) p to → AU (h (am_sv o + 1) 0) (svD h (am_sv o)) (h' (o + 112)) ∧ (∀ j9, 0 ≤ j9 → j9 < p → h' (o + 112) j9 = j9) ∧ h' (o + 112) p = to)) → K (some (mP (orbS (h (am_sv o + 1) 0) (svD h (am_sv o)) p to))) (h'))))))
theorem W3 {d : Nat} (H : ∀ (o : Int) (p : Int) (to : Int) (h : am_H) (K : Option am_V → am_H → Prop), (HO0 o ∧ SVM h (am_sv o) ∧ KIN h (o + 111) ∧ (0 ≤ p ∧ p < (h (am_sv o + 1) 0)) ∧ (0 ≤ to ∧ to < (h (am_sv o + 1) 0))) ∧ (∀ (h' : am_H), ((∀ x9 i9, x9 ≠ o + 112 → ¬ (o + 114 ≤ x9 ∧ x9 ≤ o + 134) → h' x9 i9 = h x9 i9) ∧ (orbS (h (am_sv o + 1) 0) (svD h (am_sv o)) p to → AU (h (am_sv o + 1) 0) (svD h (am_sv o)) (h' (o + 112)) ∧ (∀ j9, 0 ≤ j9 → j9 < p → h' (o + 112) j9 = j9) ∧ h' (o + 112) p = to)) → K (some (mP (orbS (h (am_sv o + 1) 0) (svD h (am_sv o)) p to))) (h')) → am_AT d 3 0 [some (mR 1 0 0 o), some (mB p), some (mB to), none] h K) : am_CS d 3 C3 := by
  refine am_CS_of (T := tb3) (mL := 4) (rk := 4) rfl (fun as h K hC => ?_)
  obtain ⟨v0, v1, v2, rfl, hC0⟩ := am_a3_e hC
  obtain ⟨o, rfl, hC1⟩ := am_o_e hC0
  obtain ⟨p, rfl, hC2⟩ := am_n_e hC1
  obtain ⟨to, rfl, hC3⟩ := am_n_e hC2
  refine ⟨Nat.le_of_ble_eq_true rfl, ?_⟩
  exact H o p to h K hC3
theorem T3_0 {R : Option am_V → am_H → Prop} {h : am_H} {o : Int} {p : Int} {to : Int} (t : am_AT 25 3 9 [some (mR 1 0 0 o), some (mB p), some (mB to), some (mI 0)] (am_cp h ((o + 111) + 24) 0 ((o + 111) + 3) 0 20) R) : am_AT 25 3 0 [some (mR 1 0 0 o), some (mB p), some (mB to), none] h R :=
  am_T (d := 24) (m := 3) (T := tb3) (mL := 4) (rk := 4) (cuts := [(9, [1, 1, 1, 2])]) (l := [(22, C22), (72, C72), (73, C73), (75, C75b)]) rfl ⟨am_CS_d (by decide) C22_ok, am_CS_d (by decide) C72_ok, am_CS_d (by decide) C73_ok, am_CS_d (by decide) C75b_ok, trivial⟩ 9 (t)
theorem T3_9 {R : Option am_V → am_H → Prop} {h : am_H} {o : Int} {p : Int} {to : Int} {x3 : Int} (t : (R32 x3) ∧ (((p ≤ x3) → ((HO8 (o + 111) ∧ SVM h (am_sv (o + 111)) ∧ (0 ≤ p ∧ p < (h (am_sv (o + 111) + 1) 0)) ∧ (0 ≤ to ∧ to < (h (am_sv (o + 111) + 1) 0))) ∧ (∀ (h' : am_H), (NRW h h' (o + 111) ((o + 111) + 3) ((o + 111) + 3) p to) → ((0 ≤ h' ((am_sv o) + 1) 0 ∧ h' ((am_sv o) + 1) 0 ≤ 30) ∧ ((HO8 (o + 111) ∧ SVM h' (am_sv (o + 111)) ∧ (0 ≤ (0 : Int) ∧ (0 : Int) + iPop (iShl 1 (h' ((am_sv o) + 1) 0) - 1) ≤ 20) ∧ (S20 (iShl 1 (h' ((am_sv o) + 1) 0) - 1) ∧ ∀ y9, bit (iShl 1 (h' ((am_sv o) + 1) 0) - 1) y9 → y9 < (h' (am_sv (o + 111) + 1) 0)) ∧ (∀ y9, 0 ≤ y9 → y9 < (h' (am_sv (o + 111) + 1) 0) → S20 (h' ((o + 111) + 3 + (0 : Int)) y9) ∧ ∀ q9, bit (h' ((o + 111) + 3 + (0 : Int)) y9) q9 → q9 < (h' (am_sv (o + 111) + 1) 0)) ∧ iPop (iShl 1 (h' ((am_sv o) + 1) 0) - 1) < 21) ∧ (∀ (h'_1 : am_H), (((∀ x9 i9, x9 ≠ (o + 111) + 1 → ¬ ((o + 111) + 3 + (0 : Int) < x9 ∧ x9 ≤ (o + 111) + 23) → h'_1 x9 i9 = h' x9 i9) ∧ (∀ y9, ¬ bit (iShl 1 (h' ((am_sv o) + 1) 0) - 1) y9 → h'_1 ((o + 111) + 1) y9 = h' ((o + 111) + 1) y9) ∧ (EXs (svD h' (am_sv (o + 111))) (svD h' (am_sv (o + 111))) (h' ((o + 111) + 3 + (0 : Int))) (bit (iShl 1 (h' ((am_sv o) + 1) 0) - 1)) → EXt (svD h' (am_sv (o + 111))) (svD h' (am_sv (o + 111))) (h' ((o + 111) + 3 + (0 : Int))) (bit (iShl 1 (h' ((am_sv o) + 1) 0) - 1)) (h'_1 ((o + 111) + 1))))) → (R (some (mP (EXs (svD h' (am_sv (o + 111))) (svD h' (am_sv (o + 111))) (h' ((o + 111) + 3 + (0 : Int))) (bit (iShl 1 (h' ((am_sv o) + 1) 0) - 1))))) h'_1))))))) ∧ ((x3 < p) → ((R32 x3) ∧ ((R32 x3) ∧ ((HO8 (o + 111) ∧ SVM h (am_sv (o + 111)) ∧ (0 ≤ x3 ∧ x3 < (h (am_sv (o + 111) + 1) 0)) ∧ (0 ≤ x3 ∧ x3 < (h (am_sv (o + 111) + 1) 0))) ∧ (∀ (h' : am_H), (NRW h h' (o + 111) ((o + 111) + 3) ((o + 111) + 3) x3 x3) → (am_AT 25 3 9 [some (mR 1 0 0 o), some (mB p), some (mB to), some (mI (x3 + 1))] h' R)))))))) : am_AT 25 3 9 [some (mR 1 0 0 o), some (mB p), some (mB to), some (mI x3)] h R :=
  am_T (d := 24) (m := 3) (T := tb3) (mL := 4) (rk := 4) (cuts := [(9, [1, 1, 1, 2])]) (l := [(22, C22), (72, C72), (73, C73), (75, C75b)]) rfl ⟨am_CS_d (by decide) C22_ok, am_CS_d (by decide) C72_ok, am_CS_d (by decide) C73_ok, am_CS_d (by decide) C75b_ok, trivial⟩ 21 (And.intro (t).1 (And.intro (fun c5 => And.intro (((t).2).1 c5).1 (fun z1_0 z1_1 => And.intro (((((t).2).1 c5).2) z1_0 z1_1).1 (And.intro ((((((t).2).1 c5).2) z1_0 z1_1).2).1 (fun z2_0 z2_1 => (((((((t).2).1 c5).2) z1_0 z1_1).2).2) z2_0 z2_1)))) (fun c5 => And.intro (((t).2).2 c5).1 (And.intro ((((t).2).2 c5).2).1 (And.intro (((((t).2).2 c5).2).2).1 (fun z3_0 z3_1 => ((((((t).2).2 c5).2).2).2) z3_0 z3_1))))))
theorem L3 {K : Option am_V → am_H → Prop} {h : am_H} {o p to : Int} (ho : HO0 o) (S : SVM h (am_sv o)) (kn : KIN h (o + 111)) (hp : 0 ≤ p ∧ p < h (am_sv o + 1) 0) (ht : 0 ≤ to ∧ to < h (am_sv o + 1) 0) (hK : ∀ h', ((∀ x9 i9, x9 ≠ o + 112 → ¬ (o + 114 ≤ x9 ∧ x9 ≤ o + 134) → h' x9 i9 = h x9 i9) ∧ (orbS (h (am_sv o + 1) 0) (svD h (am_sv o)) p to → AU (h (am_sv o + 1) 0) (svD h (am_sv o)) (h' (o + 112)) ∧ (∀ j9, 0 ≤ j9 → j9 < p → h' (o + 112) j9 = j9) ∧ h' (o + 112) p = to)) → K (some (mP (orbS (h (am_sv o + 1) 0) (svD h (am_sv o)) p to))) h') : ∀ i, ∀ g : am_H, 0 ≤ i → i ≤ p → (∀ x i, x ≠ o + 114 → g x i = h x i) → (∀ y, 0 ≤ y → y < h (am_sv o + 1) 0 → S20 (g (o + 114) y) ∧ ∀ x, bit (g (o + 114) y) x ↔ bit (h (o + 135) y) x ∧ ∀ j, 0 ≤ j → j < i → svD h (am_sv o) j x = svD h (am_sv o) j y) → am_AT 25 3 9 [some (mR 1 0 0 o), some (mB p), some (mB to), some (mI i)] g K := by
  have o8 := HO0_8 ho
  have ho' := ho
  unfold HO0 at ho'
  have hn := S.1.2.1
  have hn0 := S.1.1
  have DMh : DM (h (am_sv o + 1) 0) (svD h (am_sv o)) := DM_ds S.1 S.2.1
  have e14 : o + 111 + 3 = o + 114 := by omega
  have dn : ∀ a b, (0 ≤ a ∧ a < h (am_sv o + 1) 0) → (0 ≤ b ∧ b < h (am_sv o + 1) 0) → 0 ≤ svD h (am_sv o) a b := fun a b x y => (DMh.2 a b x y).2.2.1
  refine lp p (fun i ih g i0 i1 F B => ?_)
  have Sg := SVM_fr S (g := g) (fun x j a b => F x j (by omega))
  have Dg : svD g (am_sv o) = svD h (am_sv o) := by unfold svD; rw [Sg.2.2]
  have kr : ∀ y, 0 ≤ y → y < h (am_sv o + 1) 0 → ∀ x, bit (h (o + 135) y) x → 0 ≤ x ∧ x < h (am_sv o + 1) 0 := fun y a b x w => by
    have k := (kn y a (by rw [o8.2]; exact b)).1.2.2
    rw [o8.2, show o + 111 + 24 = o + 135 by omega] at k
    exact ⟨w.1, k x w⟩
  have nw : ∀ h' pt im, (0 ≤ pt ∧ pt < h (am_sv o + 1) 0) → (0 ≤ im ∧ im < h (am_sv o + 1) 0) → NRW g h' (o + 111) (o + 114) (o + 114) pt im → (∀ x j, x ≠ o + 114 → h' x j = h x j) ∧ ∀ y, 0 ≤ y → y < h (am_sv o + 1) 0 → S20 (h' (o + 114) y) ∧ ∀ x, bit (h' (o + 114) y) x ↔ bit (g (o + 114) y) x ∧ svD h (am_sv o) im x = svD h (am_sv o) pt y := fun h' pt im hpt him N => by
    refine ⟨fun x j a => (N.1 x j a).trans (F x j a), fun y a b => ?_⟩
    have e := N.2.2 y a (by rw [o8.2, Sg.2.1]; exact b)
    rw [o8.2, Sg.2.2, Dg] at e
    rw [e]
    refine ⟨S20_and (B y a b).1, fun x => ?_⟩
    rw [bt_and]
    constructor
    · intro w
      exact ⟨w.1, ((shl_ds S.1 S.2.1 him (dn _ _ hpt ⟨a, b⟩)).mp w.2).2⟩
    · intro w
      exact ⟨w.1, (shl_ds S.1 S.2.1 him (dn _ _ hpt ⟨a, b⟩)).mpr ⟨kr y a b x (((B y a b).2 x).mp w.1).1, w.2⟩⟩
  -- the end: all pins stand
  have fin : ∀ h', NRW g h' (o + 111) (o + 114) (o + 114) p to → p ≤ i → (∀ x j, x ≠ o + 114 → h' x j = h x j) ∧ (∀ y, 0 ≤ y → y < h (am_sv o + 1) 0 → S20 (h' (o + 114) y) ∧ ∀ x, bit (h' (o + 114) y) x ↔ bit (h (o + 135) y) x ∧ (∀ j, 0 ≤ j → j < p → svD h (am_sv o) j x = svD h (am_sv o) j y) ∧ svD h (am_sv o) to x = svD h (am_sv o) p y) ∧ h' (am_sv o + 1) 0 = h (am_sv o + 1) 0 ∧ svD h' (am_sv o) = svD h (am_sv o) ∧ SVM h' (am_sv o) := fun h' N z => by
    have w := nw h' p to hp ht N
    have s1 := SVM_fr S (g := h') (fun x j a b => w.1 x j (by omega))
    refine ⟨w.1, fun y a b => ⟨(w.2 y a b).1, fun x => ?_⟩, s1.2.1, by unfold svD; rw [s1.2.2], s1.1⟩
    rw [(w.2 y a b).2 x, (B y a b).2 x, show i = p by omega]
    exact ⟨fun v => ⟨v.1.1, v.1.2, v.2⟩, fun v => ⟨⟨v.1, v.2.1⟩, v.2.2⟩⟩
  have ba : ∀ y, bit (iShl 1 (h (am_sv o + 1) 0) - 1) y ↔ 0 ≤ y ∧ y < h (am_sv o + 1) 0 := fun y => bt_all (by omega) (by omega)
  refine T3_9 ⟨by omega, ⟨fun c1 => ⟨by rw [o8.2, Sg.2.1]; exact ⟨o8.1, Sg.1, hp, ht⟩, fun h' q2 => ⟨by
    rw [e14] at q2
    have w := fin h' q2 c1
    rw [w.2.2.1]
    omega, ⟨by
    rw [e14] at q2
    have w := fin h' q2 c1
    have sa := S20_all (n := h (am_sv o + 1) 0) hn0 hn
    have pa := iPop_le20 sa
    rw [o8.2, w.2.2.1, show o + 111 + 3 + (0 : Int) = o + 114 by omega]
    exact ⟨o8.1, w.2.2.2.2, by omega, ⟨sa, fun y z => ((ba y).mp z).2⟩, fun y a b => ⟨(w.2.1 y a b).1, fun q z => (kr y a b q (((w.2.1 y a b).2 q).mp z).1).2⟩, by omega⟩, fun h'_1 q3 => ?_⟩⟩⟩, fun c1 => ⟨by omega, ⟨by omega, ⟨by rw [o8.2, Sg.2.1]; exact ⟨o8.1, Sg.1, by omega, by omega⟩, fun h' q2 => ?_⟩⟩⟩⟩⟩
  · rw [e14] at q2
    have w := fin h' q2 c1
    have eq1 : bit (iShl 1 (h (am_sv o + 1) 0) - 1) = fun y => 0 ≤ y ∧ y < h (am_sv o + 1) 0 := funext fun y => propext (ba y)
    rw [o8.2, show o + 111 + 3 + (0 : Int) = o + 114 by omega, show o + 111 + 1 = o + 112 by omega, w.2.2.1, w.2.2.2.1, eq1] at q3
    rw [o8.2, show o + 111 + 3 + (0 : Int) = o + 114 by omega, w.2.2.1, w.2.2.2.1, eq1]
    have iff : EXs (svD h (am_sv o)) (svD h (am_sv o)) (h' (o + 114)) (fun y => 0 ≤ y ∧ y < h (am_sv o + 1) 0) ↔ orbS (h (am_sv o + 1) 0) (svD h (am_sv o)) p to := by
      constructor
      · rintro ⟨g1, G1⟩
        have a := FT_au (kin := h (o + 135)) DMh hp ht (fun y a b x z => by
          have v := ((w.2.1 y a b).2 x).mp z
          exact ⟨kr y a b x v.1, v.2⟩) G1
        exact ⟨g1, a⟩
      · intro z
        refine FT_ex hp (fun f Ff y a b u v => ((w.2.1 y a b).2 _).mpr ⟨?_, u, v⟩) z
        have k := kn y a (by rw [o8.2]; exact b)
        rw [o8.2, show o + 111 + 24 = o + 135 by omega] at k
        exact k.2 f Ff y a b k.1.2.1
    refine am_rb (hK h'_1 ⟨fun x j a b => ?_, fun z => ?_⟩) iff.symm
    · rw [q3.1 x j a (by omega)]; exact w.1 x j (by omega)
    · exact FT_au (kin := h (o + 135)) DMh hp ht (fun y a b x z => by
        have v := ((w.2.1 y a b).2 x).mp z
        exact ⟨kr y a b x v.1, v.2⟩) (q3.2.2 (iff.mpr z))
  · rw [e14] at q2
    have w := nw h' i i ⟨i0, by omega⟩ ⟨i0, by omega⟩ q2
    refine ih c1 h' (by omega) (by omega) w.1 (fun y a b => ⟨(w.2 y a b).1, fun x => ?_⟩)
    rw [(w.2 y a b).2 x, (B y a b).2 x]
    constructor
    · intro v
      refine ⟨v.1.1, fun j c d => ?_⟩
      by_cases e : j = i
      · rw [e]; exact v.2
      · exact v.1.2 j c (by omega)
    · intro v
      exact ⟨⟨v.1, fun j c d => v.2 j c (by omega)⟩, v.2 i i0 (by omega)⟩
theorem C3_ok : am_CS 25 3 C3 := W3 (fun o p to h K hb => by
  obtain ⟨⟨ho, S, kn, hp, ht⟩, hK⟩ := hb
  have o8 := HO0_8 ho
  have ho' := ho
  unfold HO0 at ho'
  refine T3_0 (L3 ho S kn hp ht hK 0 _ (by omega) hp.1 (fun x i a => am_cp_ne (by omega)) (fun y a b => ?_))
  have hn := S.1.2.1
  have e : am_cp h (o + 111 + 24) 0 (o + 111 + 3) 0 20 (o + 114) y = h (o + 135) y := by
    rw [show o + 111 + 3 = o + 114 by omega, am_cp_0 a (by omega), show o + 111 + 24 = o + 135 by omega]
  rw [e]
  have k := kn y a (by rw [o8.2]; exact b)
  rw [show o + 111 + 24 = o + 135 by omega] at k
  exact ⟨k.1.1, fun x => ⟨fun w => ⟨w, fun j c d => by omega⟩, fun w => w.1⟩⟩)
