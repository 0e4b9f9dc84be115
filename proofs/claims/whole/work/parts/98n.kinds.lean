/-! ===== the reference: what one sees ===== -/
noncomputable def lyd (r : Int → Int) (st a b : Int) : Int := ds (ad r) (nthb st a) (nthb st b)
theorem lyD_lyd (r : Int → Int) (k : Int) : lyD r k = lyd r (lay r k 0) := rfl
def lkb (x : Int) : Int := if x < 20 then 0 else 20
def lkq (x : Int) : Int := if x < 20 then 588 else 589
theorem lkb_0 {x : Int} (h : x < 20) : lkb x = 0 := if_pos h
theorem lkb_1 {x : Int} (h : 20 ≤ x) : lkb x = 20 := if_neg (by omega)
theorem lkq_0 {x : Int} (h : x < 20) : lkq x = 588 := if_pos h
theorem lkq_1 {x : Int} (h : 20 ≤ x) : lkq x = 589 := if_neg (by omega)
theorem lkb_q (x : Int) : (x < 20 ∧ lkb x = 0 ∧ lkq x = 588) ∨ (20 ≤ x ∧ lkb x = 20 ∧ lkq x = 589) := by
  by_cases c : x < 20
  · exact Or.inl ⟨c, lkb_0 c, lkq_0 c⟩
  · exact Or.inr ⟨by omega, lkb_1 (by omega), lkq_1 (by omega)⟩
def its (h : am_H) (x k : Int) : Int := 64 * h (lkq x) (20 * (x - lkb x) + k) + h 591 (lkb x + k)
def LKR (h : am_H) (x : Int) : Prop := ∀ k, 0 ≤ k → k < h 571 30 → R32 (its h x k)
def SRTD (a : Int → Int) (s : Int) : Prop := ∀ k, 0 ≤ k → k + 1 < s → a k ≤ a (k + 1)
def LKS (h g : am_H) (x : Int) : Prop := SRTD (fun k => g 593 (20 * x + k)) (h 571 30) ∧ ∀ v, ct (fun k => g 593 (20 * x + k) ≤ v) (h 571 30).toNat = ct (fun k => its h x k ≤ v) (h 571 30).toNat
def ATH (h : am_H) (x : Int) : Prop := x - lkb x < h 571 30
def SEE (h : am_H) (x y : Int) : Prop := h 591 x = h 591 y ∧ ∀ k, 0 ≤ k → k < h 571 30 → h 593 (20 * x + k) = h 593 (20 * y + k)
theorem SRTD_le {a : Int → Int} {s : Int} (S : SRTD a s) {j : Int} (h0 : 0 ≤ j) : ∀ m : Nat, j + m < s → a j ≤ a (j + m)
  | 0, _ => by rw [show j + ((0 : Nat) : Int) = j by omega]; omega
  | m + 1, h => by
    have i := SRTD_le S h0 m (by omega)
    have t := S (j + m) (by omega) (by omega)
    rw [show j + ((m + 1 : Nat) : Int) = j + m + 1 by omega]
    omega
theorem SRTD_ct {a : Int → Int} {s : Int} (S : SRTD a s) {k v : Int} (h0 : 0 ≤ k) (h1 : k < s) : a k ≤ v ↔ k < ct (fun j => a j ≤ v) s.toNat := by
  have up : ∀ j, k ≤ j → j < s → a k ≤ a j := fun j u w => by
    have := SRTD_le S h0 (j - k).toNat (by omega)
    rw [show k + ((j - k).toNat : Int) = j by omega] at this
    exact this
  have dn : ∀ j, 0 ≤ j → j ≤ k → a j ≤ a k := fun j u w => by
    have := SRTD_le S u (k - j).toNat (by omega)
    rw [show j + ((k - j).toNat : Int) = k by omega] at this
    exact this
  constructor
  · intro c
    have m := ct_mono (P := fun j => j < k + 1) (Q := fun j => a j ≤ v) s.toNat (fun j _ w => by have := dn j (by omega) (by omega); show a j ≤ v; omega)
    rw [ct_lt (by omega), if_pos (by omega)] at m
    omega
  · intro c
    refine Classical.byContradiction fun n => ?_
    have m := ct_mono (P := fun j => a j ≤ v) (Q := fun j => j < k) s.toNat (fun j hj w => Classical.byContradiction fun z => by have := up j (by omega) (by omega); have w' : a j ≤ v := w; omega)
    rw [ct_lt (by omega), if_pos (by omega)] at m
    omega
/-- in order, and as many each: the same -/
theorem SRTD_eq {a b : Int → Int} {s : Int} (A : SRTD a s) (B : SRTD b s) (h : ∀ v, ct (fun j => a j ≤ v) s.toNat = ct (fun j => b j ≤ v) s.toNat) {k : Int} (h0 : 0 ≤ k) (h1 : k < s) : a k = b k := by
  have x := (SRTD_ct A h0 h1 (v := b k)).mpr (by rw [h]; exact (SRTD_ct B h0 h1).mp (by omega))
  have y := (SRTD_ct B h0 h1 (v := a k)).mpr (by rw [← h]; exact (SRTD_ct A h0 h1).mp (by omega))
  omega
/-- one is put in its place: t is free -/
def INS (a f : Int → Int) (t k v : Int) : Prop := (∀ j, 0 ≤ j → j + 1 < t → a j ≤ a (j + 1)) ∧ (∀ j, t < j → j + 1 ≤ k → a j ≤ a (j + 1)) ∧ (∀ j, t < j → j ≤ k → v < a j) ∧ (0 < t → t < k → a (t - 1) ≤ a (t + 1)) ∧ ∀ w, ct (fun j => j ≠ t ∧ a j ≤ w) (k + 1).toNat = ct (fun j => f j ≤ w) k.toNat
theorem INS_0 {a f : Int → Int} {k v : Int} (h0 : 0 ≤ k) (S : SRTD a k) (C : ∀ w, ct (fun j => a j ≤ w) k.toNat = ct (fun j => f j ≤ w) k.toNat) : INS a f k k v := by
  refine ⟨fun j u w => S j u w, fun j u w => by omega, fun j u w => by omega, fun u w => by omega, fun w => ?_⟩
  rw [ct_to h0, am_b_f (fun z => z.1 rfl), ← C w, Int.add_zero]
  exact ct_congr _ (fun j hj => ⟨fun z => z.2, fun z => ⟨by omega, z⟩⟩)
theorem INS_s {a f : Int → Int} {t k v : Int} (I : INS a f t k v) (h0 : 0 < t) (h1 : t ≤ k) (c : v < a (t - 1)) : INS (up1 a t (a (t - 1))) f (t - 1) k v := by
  obtain ⟨i1, i2, i3, i4, i5⟩ := I
  refine ⟨fun j u w => ?_, fun j u w => ?_, fun j u w => ?_, fun u w => ?_, fun w => ?_⟩
  · rw [up1_ne (by omega), up1_ne (by omega)]; exact i1 j u (by omega)
  · by_cases z : j = t
    · rw [z, up1_eq, up1_ne (by omega)]; exact i4 h0 (by omega)
    · rw [up1_ne z, up1_ne (by omega)]; exact i2 j (by omega) w
  · by_cases z : j = t
    · rw [z, up1_eq]; exact c
    · rw [up1_ne z]; exact i3 j (by omega) w
  · rw [show t - 1 + 1 = t by omega, up1_eq, up1_ne (by omega)]
    have := i1 (t - 1 - 1) (by omega) (by omega)
    rw [show t - 1 - 1 + 1 = t - 1 by omega] at this
    exact this
  · rw [← i5 w]
    by_cases z : a (t - 1) ≤ w
    · rw [ct_add2 (P := fun j => (j ≠ t ∧ j ≠ t - 1) ∧ a j ≤ w) (Q := fun j => j ≠ t - 1 ∧ up1 a t (a (t - 1)) j ≤ w) (a := t) _ (by omega) (by omega) (fun q => q.1.1 rfl) (fun j _ _ => ?_), ct_add2 (P := fun j => (j ≠ t ∧ j ≠ t - 1) ∧ a j ≤ w) (Q := fun j => j ≠ t ∧ a j ≤ w) (a := t - 1) _ (by omega) (by omega) (fun q => q.1.2 rfl) (fun j _ _ => ?_)]
      · constructor
        · rintro ⟨x, y⟩
          by_cases e : j = t - 1
          · exact Or.inr e
          · exact Or.inl ⟨⟨x, e⟩, y⟩
        · rintro (q | q)
          · exact ⟨q.1.1, q.2⟩
          · rw [q]; exact ⟨by omega, z⟩
      · constructor
        · rintro ⟨x, y⟩
          by_cases e : j = t
          · exact Or.inr e
          · rw [up1_ne e] at y; exact Or.inl ⟨⟨e, x⟩, y⟩
        · rintro (q | q)
          · exact ⟨q.1.2, by rw [up1_ne q.1.1]; exact q.2⟩
          · rw [q, up1_eq]; exact ⟨by omega, z⟩
    · refine ct_congr _ (fun j _ => ?_)
      constructor
      · rintro ⟨x, y⟩
        by_cases e : (j : Int) = t
        · rw [e, up1_eq] at y; exact absurd y z
        · rw [up1_ne e] at y; exact ⟨e, y⟩
      · rintro ⟨x, y⟩
        refine ⟨fun e => z (e ▸ y), by rw [up1_ne x]; exact y⟩
theorem INS_e {a f : Int → Int} {t k : Int} (I : INS a f t k (f k)) (h0 : 0 ≤ t) (h1 : t ≤ k) (c : t ≤ 0 ∨ a (t - 1) ≤ f k) : SRTD (up1 a t (f k)) (k + 1) ∧ ∀ w, ct (fun j => up1 a t (f k) j ≤ w) (k + 1).toNat = ct (fun j => f j ≤ w) (k + 1).toNat := by
  obtain ⟨i1, i2, i3, i4, i5⟩ := I
  refine ⟨fun j u w => ?_, fun w => ?_⟩
  · by_cases z : j = t
    · rw [z, up1_eq, up1_ne (by omega)]
      have := i3 (t + 1) (by omega) (by omega)
      omega
    · by_cases z2 : j + 1 = t
      · rw [z2, up1_eq, up1_ne z, show j = t - 1 by omega]
        omega
      · rw [up1_ne z, up1_ne z2]
        by_cases y : j < t
        · exact i1 j u (by omega)
        · exact i2 j (by omega) (by omega)
  · rw [ct_to (P := fun j => f j ≤ w) (by omega), ← i5 w]
    by_cases z : f k ≤ w
    · rw [am_b_t z]
      refine ct_add2 (a := t) _ h0 (by omega) (fun q => q.1 rfl) (fun j _ _ => ?_)
      constructor
      · intro y
        by_cases e : j = t
        · exact Or.inr e
        · rw [up1_ne e] at y; exact Or.inl ⟨e, y⟩
      · rintro (q | q)
        · rw [up1_ne q.1]; exact q.2
        · rw [q, up1_eq]; exact z
    · rw [am_b_f z, Int.add_zero]
      refine ct_congr _ (fun j _ => ?_)
      constructor
      · intro y
        by_cases e : (j : Int) = t
        · rw [e, up1_eq] at y; exact absurd y z
        · rw [up1_ne e] at y; exact ⟨e, y⟩
      · rintro ⟨x, y⟩
        rw [up1_ne x]; exact y
/-! 256 FactorNetsModel.laysHere -/
def C256 : am_K := fun as h K => am_a3 as (fun v0 v1 v2 => am_oc 12 571 v0 (am_n v1 (fun st => am_r 2 400 0 v2 (fun q => ((NT (h 572 0) (nr h 572 2) ∧ CN (h 572 0) (nr h 572 2) ∧ RLd h (h 572 0) (nr h 572 2)) ∧ (q = 588 ∨ q = 589) ∧ S20 st ∧ (∀ y9, bit st y9 → y9 < (h 572 0))) ∧ (∀ (h' : am_H), ((∀ x9 i9, x9 ≠ q → x9 ≠ 590 → ¬ (x9 = 571 ∧ i9 = 30) → h' x9 i9 = h x9 i9) ∧ h' 571 30 = iPop st ∧ (∀ a9 b9, (0 ≤ a9 ∧ a9 < iPop st) → (0 ≤ b9 ∧ b9 < iPop st) → h' q (20 * a9 + b9) = lyd (nr h 572 2) st a9 b9) ∧ (∀ i9, 0 ≤ i9 → i9 < 20 → h' 590 i9 = -1)) → K (none) (h'))))))
theorem W256 {d : Nat} (H : ∀ (st : Int) (q : Int) (h : am_H) (K : Option am_V → am_H → Prop), ((NT (h 572 0) (nr h 572 2) ∧ CN (h 572 0) (nr h 572 2) ∧ RLd h (h 572 0) (nr h 572 2)) ∧ (q = 588 ∨ q = 589) ∧ S20 st ∧ (∀ y9, bit st y9 → y9 < (h 572 0))) ∧ (∀ (h' : am_H), ((∀ x9 i9, x9 ≠ q → x9 ≠ 590 → ¬ (x9 = 571 ∧ i9 = 30) → h' x9 i9 = h x9 i9) ∧ h' 571 30 = iPop st ∧ (∀ a9 b9, (0 ≤ a9 ∧ a9 < iPop st) → (0 ≤ b9 ∧ b9 < iPop st) → h' q (20 * a9 + b9) = lyd (nr h 572 2) st a9 b9) ∧ (∀ i9, 0 ≤ i9 → i9 < 20 → h' 590 i9 = -1)) → K (none) (h')) → am_AT d 256 0 [some (mR 1 12 0 571), some (mB st), some (mR 2 400 0 q), none, none] h K) : am_CS d 256 C256 := by
  refine am_CS_of (T := tb256) (mL := 5) (rk := 0) rfl (fun as h K hC => ?_)
  obtain ⟨v0, v1, v2, rfl, hC0⟩ := am_a3_e hC
  obtain ⟨e0, hC1⟩ := am_oc_e hC0
  subst e0
  obtain ⟨st, rfl, hC2⟩ := am_n_e hC1
  obtain ⟨q, rfl, hC3⟩ := am_r_e hC2
  refine ⟨Nat.le_of_ble_eq_true rfl, ?_⟩
  exact H st q h K hC3
theorem T256_0 {R : Option am_V → am_H → Prop} {h : am_H} {st : Int} {q : Int} (t : (0 ≤ st ∧ st < 2147483648) ∧ (am_AT 3 256 10 [some (mR 1 12 0 571), some (mB st), some (mR 2 400 0 q), some (mI 0), none] (am_up h 571 30 (iPop st)) R)) : am_AT 3 256 0 [some (mR 1 12 0 571), some (mB st), some (mR 2 400 0 q), none, none] h R :=
  am_T (d := 2) (m := 256) (T := tb256) (mL := 5) (rk := 0) (cuts := [(10, [1, 1, 1, 2, 0]), (21, [1, 1, 1, 2, 2]), (68, [1, 0, 0, 2, 0])]) (l := [(212, C212), (240, C240), (317, C317)]) rfl ⟨am_CS_d (by decide) C212_ok, am_CS_d (by decide) C240_ok, am_CS_d (by decide) C317_ok, trivial⟩ 10 (And.intro (t).1 ((t).2))
theorem T256_10 {R : Option am_V → am_H → Prop} {h : am_H} {st : Int} {q : Int} {x3 : Int} (t : (R32 x3) ∧ (((h 571 30 ≤ x3) → (am_AT 3 256 68 [some (mR 1 12 0 571), none, none, some (mI 0), none] h R)) ∧ ((x3 < h 571 30) → (am_AT 3 256 21 [some (mR 1 12 0 571), some (mB st), some (mR 2 400 0 q), some (mI x3), some (mI 0)] h R)))) : am_AT 3 256 10 [some (mR 1 12 0 571), some (mB st), some (mR 2 400 0 q), some (mI x3), none] h R :=
  am_T (d := 2) (m := 256) (T := tb256) (mL := 5) (rk := 0) (cuts := [(10, [1, 1, 1, 2, 0]), (21, [1, 1, 1, 2, 2]), (68, [1, 0, 0, 2, 0])]) (l := [(212, C212), (240, C240), (317, C317)]) rfl ⟨am_CS_d (by decide) C212_ok, am_CS_d (by decide) C240_ok, am_CS_d (by decide) C317_ok, trivial⟩ 10 (And.intro (t).1 (And.intro (fun c1 => ((t).2).1 c1) (fun c1 => ((t).2).2 c1)))
theorem T256_21 {R : Option am_V → am_H → Prop} {h : am_H} {st : Int} {q : Int} {x3 : Int} {x4 : Int} (t : (R32 x4) ∧ (((h 571 30 ≤ x4) → (am_AT 3 256 10 [some (mR 1 12 0 571), some (mB st), some (mR 2 400 0 q), some (mI (x3 + 1)), none] h R)) ∧ ((x4 < h 571 30) → ((R32 x3) ∧ ((0 ≤ x3) ∧ ((R32 x4) ∧ ((0 ≤ x4) ∧ (((0 ≤ (nthb st x3) ∧ (nthb st x3) < 20) ∧ (0 ≤ (nthb st x4) ∧ (nthb st x4) < 20)) ∧ ((0 ≤ (20 * x3) + x4 ∧ (20 * x3) + x4 < 400) ∧ (am_AT 3 256 21 [some (mR 1 12 0 571), some (mB st), some (mR 2 400 0 q), some (mI x3), some (mI (x4 + 1))] (am_up h q ((20 * x3) + x4) (h 580 (20 * (nthb st x3) + (nthb st x4)))) R)))))))))) : am_AT 3 256 21 [some (mR 1 12 0 571), some (mB st), some (mR 2 400 0 q), some (mI x3), some (mI x4)] h R :=
  am_T (d := 2) (m := 256) (T := tb256) (mL := 5) (rk := 0) (cuts := [(10, [1, 1, 1, 2, 0]), (21, [1, 1, 1, 2, 2]), (68, [1, 0, 0, 2, 0])]) (l := [(212, C212), (240, C240), (317, C317)]) rfl ⟨am_CS_d (by decide) C212_ok, am_CS_d (by decide) C240_ok, am_CS_d (by decide) C317_ok, trivial⟩ 25 (And.intro (t).1 (And.intro (fun c2 => ((t).2).1 c2) (fun c2 => And.intro (((t).2).2 c2).1 (And.intro ((((t).2).2 c2).2).1 (And.intro (((((t).2).2 c2).2).2).1 (And.intro ((((((t).2).2 c2).2).2).2).1 (And.intro (rfl) (And.intro (((((((t).2).2 c2).2).2).2).2).1 (And.intro ((((((((t).2).2 c2).2).2).2).2).2).1 (((((((((t).2).2 c2).2).2).2).2).2).2))))))))))
theorem T256_68 {R : Option am_V → am_H → Prop} {h : am_H} {x3 : Int} (t : (R32 x3) ∧ (((20 ≤ x3) → (R none h)) ∧ ((x3 < 20) → ((0 ≤ x3 ∧ x3 < 20) ∧ (am_AT 3 256 68 [some (mR 1 12 0 571), none, none, some (mI (x3 + 1)), none] (am_up h 590 x3 (-1)) R))))) : am_AT 3 256 68 [some (mR 1 12 0 571), none, none, some (mI x3), none] h R :=
  am_T (d := 2) (m := 256) (T := tb256) (mL := 5) (rk := 0) (cuts := [(10, [1, 1, 1, 2, 0]), (21, [1, 1, 1, 2, 2]), (68, [1, 0, 0, 2, 0])]) (l := [(212, C212), (240, C240), (317, C317)]) rfl ⟨am_CS_d (by decide) C212_ok, am_CS_d (by decide) C240_ok, am_CS_d (by decide) C317_ok, trivial⟩ 14 (And.intro (t).1 (And.intro (fun c3 => ((t).2).1 c3) (fun c3 => And.intro (((t).2).2 c3).1 ((((t).2).2 c3).2))))
theorem L256c {K : Option am_V → am_H → Prop} {h : am_H} {st q : Int} (RFh : RF h (h 572 0) (nr h 572 2)) (hn : h 572 0 ≤ 20) (hq : q = 588 ∨ q = 589) (hs : S20 st) (hb : ∀ y9, bit st y9 → y9 < h 572 0) (hK : ∀ h', ((∀ x9 i9, x9 ≠ q → x9 ≠ 590 → ¬ (x9 = 571 ∧ i9 = 30) → h' x9 i9 = h x9 i9) ∧ h' 571 30 = iPop st ∧ (∀ a9 b9, (0 ≤ a9 ∧ a9 < iPop st) → (0 ≤ b9 ∧ b9 < iPop st) → h' q (20 * a9 + b9) = lyd (nr h 572 2) st a9 b9) ∧ (∀ i9, 0 ≤ i9 → i9 < 20 → h' 590 i9 = -1)) → K none h') : ∀ i, ∀ g : am_H, 0 ≤ i → i ≤ 20 → (∀ x i, x ≠ q → x ≠ 590 → ¬ (x = 571 ∧ i = 30) → g x i = h x i) → g 571 30 = iPop st → (∀ a9 b9, (0 ≤ a9 ∧ a9 < iPop st) → (0 ≤ b9 ∧ b9 < iPop st) → g q (20 * a9 + b9) = lyd (nr h 572 2) st a9 b9) → (∀ j, 0 ≤ j → j < i → g 590 j = -1) → am_AT 3 256 68 [some (mR 1 12 0 571), none, none, some (mI i), none] g K := by
  refine lp 20 (fun i ih g i0 i1 F S A W => ?_)
  refine T256_68 ⟨by omega, ⟨fun c1 => ?_, fun c1 => ⟨by omega, ?_⟩⟩⟩
  · exact hK g ⟨F, S, A, fun j a b => W j a (by omega)⟩
  · refine ih c1 _ (by omega) (by omega) (fun x j a b c => by rw [am_up_ne b]; exact F x j a b c) (by rw [am_up_ne (by omega)]; exact S) (fun a b u v => by rw [am_up_ne (by omega)]; exact A a b u v) (fun j a b => ?_)
    by_cases z : j = i
    · rw [z, am_up_eq]
    · rw [am_up_ne2 z]; exact W j a (by omega)
theorem L256b {K : Option am_V → am_H → Prop} {h : am_H} {st q : Int} (RFh : RF h (h 572 0) (nr h 572 2)) (hn : h 572 0 ≤ 20) (hq : q = 588 ∨ q = 589) (hs : S20 st) (hb : ∀ y9, bit st y9 → y9 < h 572 0) (hK : ∀ h', ((∀ x9 i9, x9 ≠ q → x9 ≠ 590 → ¬ (x9 = 571 ∧ i9 = 30) → h' x9 i9 = h x9 i9) ∧ h' 571 30 = iPop st ∧ (∀ a9 b9, (0 ≤ a9 ∧ a9 < iPop st) → (0 ≤ b9 ∧ b9 < iPop st) → h' q (20 * a9 + b9) = lyd (nr h 572 2) st a9 b9) ∧ (∀ i9, 0 ≤ i9 → i9 < 20 → h' 590 i9 = -1)) → K none h') {i : Int} (hi : 0 ≤ i ∧ i < iPop st) (nx : ∀ g : am_H, (∀ x i, x ≠ q → x ≠ 590 → ¬ (x = 571 ∧ i = 30) → g x i = h x i) → g 571 30 = iPop st → (∀ a9 b9, (0 ≤ a9 ∧ a9 < i + 1) → (0 ≤ b9 ∧ b9 < iPop st) → g q (20 * a9 + b9) = lyd (nr h 572 2) st a9 b9) → am_AT 3 256 10 [some (mR 1 12 0 571), some (mB st), some (mR 2 400 0 q), some (mI (i + 1)), none] g K) : ∀ k, ∀ g : am_H, 0 ≤ k → k ≤ iPop st → (∀ x i, x ≠ q → x ≠ 590 → ¬ (x = 571 ∧ i = 30) → g x i = h x i) → g 571 30 = iPop st → (∀ a9 b9, (0 ≤ a9 ∧ a9 ≤ i) → (0 ≤ b9 ∧ b9 < iPop st) → (a9 < i ∨ b9 < k) → g q (20 * a9 + b9) = lyd (nr h 572 2) st a9 b9) → am_AT 3 256 21 [some (mR 1 12 0 571), some (mB st), some (mR 2 400 0 q), some (mI i), some (mI k)] g K := by
  have l20 := iPop_le20 hs
  refine lp (iPop st) (fun k ih g k0 k1 F S A => ?_)
  have ni := nthb_in hs hi.1 hi.2
  have nk : k < iPop st → bit st (nthb st k) ∧ (0 ≤ nthb st k ∧ nthb st k < 20) := fun z => nthb_in hs k0 z
  refine T256_21 ⟨by omega, ⟨fun c1 => ?_, fun c1 => ⟨by omega, ⟨by omega, ⟨by omega, ⟨by omega, ⟨by rw [S] at c1; have nn := nk c1; omega, ⟨by omega, ?_⟩⟩⟩⟩⟩⟩⟩⟩
  · rw [S] at c1
    exact nx g F S (fun a b u v => A a b (by omega) v (by omega))
  · rw [S] at c1
    have e5 : g 580 (20 * nthb st i + nthb st k) = lyd (nr h 572 2) st i k := by
      have nn := nk c1
      rw [F _ _ (by omega) (by omega) (by omega)]
      exact RFh _ _ ni.2.1 (by omega) nn.2.1 (by omega)
    refine ih c1 _ (by omega) (by omega) (fun x j a b c => by rw [am_up_ne a]; exact F x j a b c) (by rw [am_up_ne (by omega)]; exact S) (fun a b u v w => ?_)
    by_cases z : a = i ∧ b = k
    · rw [z.1, z.2, am_up_eq]; exact e5
    · rw [am_up_ne2 (by omega)]; exact A a b u v (by omega)
theorem L256 {K : Option am_V → am_H → Prop} {h : am_H} {st q : Int} (RFh : RF h (h 572 0) (nr h 572 2)) (hn : h 572 0 ≤ 20) (hq : q = 588 ∨ q = 589) (hs : S20 st) (hb : ∀ y9, bit st y9 → y9 < h 572 0) (hK : ∀ h', ((∀ x9 i9, x9 ≠ q → x9 ≠ 590 → ¬ (x9 = 571 ∧ i9 = 30) → h' x9 i9 = h x9 i9) ∧ h' 571 30 = iPop st ∧ (∀ a9 b9, (0 ≤ a9 ∧ a9 < iPop st) → (0 ≤ b9 ∧ b9 < iPop st) → h' q (20 * a9 + b9) = lyd (nr h 572 2) st a9 b9) ∧ (∀ i9, 0 ≤ i9 → i9 < 20 → h' 590 i9 = -1)) → K none h') : ∀ i, ∀ g : am_H, 0 ≤ i → i ≤ iPop st → (∀ x i, x ≠ q → x ≠ 590 → ¬ (x = 571 ∧ i = 30) → g x i = h x i) → g 571 30 = iPop st → (∀ a9 b9, (0 ≤ a9 ∧ a9 < i) → (0 ≤ b9 ∧ b9 < iPop st) → g q (20 * a9 + b9) = lyd (nr h 572 2) st a9 b9) → am_AT 3 256 10 [some (mR 1 12 0 571), some (mB st), some (mR 2 400 0 q), some (mI i), none] g K := by
  have l20 := iPop_le20 hs
  refine lp (iPop st) (fun i ih g i0 i1 F S A => ?_)
  refine T256_10 ⟨by omega, ⟨fun c1 => ?_, fun c1 => ?_⟩⟩
  · rw [S] at c1
    exact L256c RFh hn hq hs hb hK 0 g (by omega) (by omega) F S (fun a b u v => A a b (by omega) v) (fun j a b => by omega)
  · rw [S] at c1
    exact L256b RFh hn hq hs hb hK ⟨i0, c1⟩ (fun g' F' S' A' => ih c1 g' (by omega) (by omega) F' S' A') 0 g (by omega) (by omega) F S (fun a b u v w => A a b (by omega) v)
theorem C256_ok : am_CS 3 256 C256 := W256 (fun st q h K hb => by
  obtain ⟨⟨L, hq, hs, hb⟩, hK⟩ := hb
  have l20 := iPop_le20 hs
  have hn := L.1.2.1
  refine T256_0 ⟨by have := hs.1; have := hs.2; omega, ?_⟩
  · exact L256 L.2.2.1 hn hq hs hb hK 0 _ (by omega) l20.1 (fun x i a b c => am_up_n2 c) am_up_eq (fun a b u v => by omega))
/-! 257 FactorNetsModel.looks -/
def C257 : am_K := fun as h K => am_a2 as (fun v0 v1 => am_oc 12 571 v0 (am_n v1 (fun x => ((0 ≤ (h 571 30) ∧ (h 571 30) ≤ 20) ∧ (0 ≤ x ∧ x < 40) ∧ x - (lkb x) < (h 571 30) ∧ LKR h x) ∧ (∀ (h' : am_H), ((∀ x9 i9, ¬ (x9 = 593 ∧ 20 * x ≤ i9 ∧ i9 < 20 * x + 20) → h' x9 i9 = h x9 i9) ∧ LKS h h' x) → K (none) (h')))))
theorem W257 {d : Nat} (H : ∀ (x : Int) (h : am_H) (K : Option am_V → am_H → Prop), ((0 ≤ (h 571 30) ∧ (h 571 30) ≤ 20) ∧ (0 ≤ x ∧ x < 40) ∧ x - (lkb x) < (h 571 30) ∧ LKR h x) ∧ (∀ (h' : am_H), ((∀ x9 i9, ¬ (x9 = 593 ∧ 20 * x ≤ i9 ∧ i9 < 20 * x + 20) → h' x9 i9 = h x9 i9) ∧ LKS h h' x) → K (none) (h')) → am_AT d 257 0 [some (mR 1 12 0 571), some (mB x), none, none, none, none, none] h K) : am_CS d 257 C257 := by
  refine am_CS_of (T := tb257) (mL := 7) (rk := 0) rfl (fun as h K hC => ?_)
  obtain ⟨v0, v1, rfl, hC0⟩ := am_a2_e hC
  obtain ⟨e0, hC1⟩ := am_oc_e hC0
  subst e0
  obtain ⟨x, rfl, hC2⟩ := am_n_e hC1
  refine ⟨Nat.le_of_ble_eq_true rfl, ?_⟩
  exact H x h K hC2
theorem T257_0 {R : Option am_V → am_H → Prop} {h : am_H} {x : Int} (t : ((20 ≤ x) → (((20 ≤ x) → (am_AT 1 257 34 [some (mR 1 12 0 571), some (mB x), some (mR 2 400 0 589), some (mI 20), some (mI 0), none, none] h R)) ∧ ((x < 20) → (am_AT 1 257 34 [some (mR 1 12 0 571), some (mB x), some (mR 2 400 0 589), some (mI 0), some (mI 0), none, none] h R)))) ∧ ((x < 20) → (((20 ≤ x) → (am_AT 1 257 34 [some (mR 1 12 0 571), some (mB x), some (mR 2 400 0 588), some (mI 20), some (mI 0), none, none] h R)) ∧ ((x < 20) → (am_AT 1 257 34 [some (mR 1 12 0 571), some (mB x), some (mR 2 400 0 588), some (mI 0), some (mI 0), none, none] h R))))) : am_AT 1 257 0 [some (mR 1 12 0 571), some (mB x), none, none, none, none, none] h R :=
  am_T (d := 0) (m := 257) (T := tb257) (mL := 7) (rk := 0) (cuts := [(34, [1, 1, 1, 2, 2, 0, 0]), (73, [1, 1, 1, 2, 2, 2, 2])]) (l := []) rfl trivial 19 (And.intro (fun c4 => And.intro (fun c5 => ((t).1 c4).1 c5) (fun c5 => ((t).1 c4).2 c5)) (fun c4 => And.intro (fun c6 => ((t).2 c4).1 c6) (fun c6 => ((t).2 c4).2 c6)))
theorem T257_34 {R : Option am_V → am_H → Prop} {h : am_H} {x : Int} {a2 : Int} {x3 : Int} {x4 : Int} (t : (R32 x4) ∧ (((h 571 30 ≤ x4) → (R none h)) ∧ ((x4 < h 571 30) → ((0 ≤ (20 * (x - x3)) + x4 ∧ (20 * (x - x3)) + x4 < 400) ∧ ((0 ≤ x3 + x4 ∧ x3 + x4 < 40) ∧ (am_AT 1 257 73 [some (mR 1 12 0 571), some (mB x), some (mR 2 400 0 a2), some (mI x3), some (mI x4), some (mI ((64 * (h a2 ((20 * (x - x3)) + x4))) + (h 591 (x3 + x4)))), some (mI x4)] h R)))))) : am_AT 1 257 34 [some (mR 1 12 0 571), some (mB x), some (mR 2 400 0 a2), some (mI x3), some (mI x4), none, none] h R :=
  am_T (d := 0) (m := 257) (T := tb257) (mL := 7) (rk := 0) (cuts := [(34, [1, 1, 1, 2, 2, 0, 0]), (73, [1, 1, 1, 2, 2, 2, 2])]) (l := []) rfl trivial 29 (And.intro (t).1 (And.intro (fun c7 => ((t).2).1 c7) (fun c7 => And.intro (((t).2).2 c7).1 (And.intro ((((t).2).2 c7).2).1 (((((t).2).2 c7).2).2)))))
theorem T257_73 {R : Option am_V → am_H → Prop} {h : am_H} {x : Int} {a2 : Int} {x3 : Int} {x4 : Int} {x5 : Int} {x6 : Int} (t : (R32 x6) ∧ (((x6 ≤ 0) → ((0 ≤ (20 * x) + x6 ∧ (20 * x) + x6 < 800) ∧ ((R32 x5) ∧ (am_AT 1 257 34 [some (mR 1 12 0 571), some (mB x), some (mR 2 400 0 a2), some (mI x3), some (mI (x4 + 1)), none, none] (am_up h 593 ((20 * x) + x6) x5) R)))) ∧ ((0 < x6) → ((0 ≤ ((20 * x) + x6) - 1 ∧ ((20 * x) + x6) - 1 < 800) ∧ ((R32 x5) ∧ (((h 593 (((20 * x) + x6) - 1) ≤ x5) → ((0 ≤ (20 * x) + x6 ∧ (20 * x) + x6 < 800) ∧ ((R32 x5) ∧ (am_AT 1 257 34 [some (mR 1 12 0 571), some (mB x), some (mR 2 400 0 a2), some (mI x3), some (mI (x4 + 1)), none, none] (am_up h 593 ((20 * x) + x6) x5) R)))) ∧ ((x5 < h 593 (((20 * x) + x6) - 1)) → ((0 ≤ ((20 * x) + x6) - 1 ∧ ((20 * x) + x6) - 1 < 800) ∧ ((0 ≤ (20 * x) + x6 ∧ (20 * x) + x6 < 800) ∧ (am_AT 1 257 73 [some (mR 1 12 0 571), some (mB x), some (mR 2 400 0 a2), some (mI x3), some (mI x4), some (mI x5), some (mI (x6 + (-1)))] (am_up h 593 ((20 * x) + x6) (h 593 (((20 * x) + x6) - 1))) R)))))))))) : am_AT 1 257 73 [some (mR 1 12 0 571), some (mB x), some (mR 2 400 0 a2), some (mI x3), some (mI x4), some (mI x5), some (mI x6)] h R :=
  am_T (d := 0) (m := 257) (T := tb257) (mL := 7) (rk := 0) (cuts := [(34, [1, 1, 1, 2, 2, 0, 0]), (73, [1, 1, 1, 2, 2, 2, 2])]) (l := []) rfl trivial 38 (And.intro (t).1 (And.intro (fun c8 => And.intro (((t).2).1 c8).1 (And.intro ((((t).2).1 c8).2).1 (((((t).2).1 c8).2).2))) (fun c8 => And.intro (((t).2).2 c8).1 (And.intro ((((t).2).2 c8).2).1 (And.intro (fun c9 => And.intro ((((((t).2).2 c8).2).2).1 c9).1 (And.intro (((((((t).2).2 c8).2).2).1 c9).2).1 ((((((((t).2).2 c8).2).2).1 c9).2).2))) (fun c9 => And.intro ((((((t).2).2 c8).2).2).2 c9).1 (And.intro (((((((t).2).2 c8).2).2).2 c9).2).1 ((((((((t).2).2 c8).2).2).2 c9).2).2))))))))
theorem L257b {K : Option am_V → am_H → Prop} {h : am_H} {x : Int} (hs : 0 ≤ h 571 30 ∧ h 571 30 ≤ 20) (hx : 0 ≤ x ∧ x < 40) (ha : x - lkb x < h 571 30) (hr : LKR h x) (hK : ∀ h', ((∀ x9 i9, ¬ (x9 = 593 ∧ 20 * x ≤ i9 ∧ i9 < 20 * x + 20) → h' x9 i9 = h x9 i9) ∧ LKS h h' x) → K none h') {k : Int} (hk : 0 ≤ k ∧ k < h 571 30) (nx : ∀ g : am_H, (∀ y i, ¬ (y = 593 ∧ 20 * x ≤ i ∧ i < 20 * x + 20) → g y i = h y i) → SRTD (fun j => g 593 (20 * x + j)) (k + 1) → (∀ w, ct (fun j => g 593 (20 * x + j) ≤ w) (k + 1).toNat = ct (fun j => its h x j ≤ w) (k + 1).toNat) → am_AT 1 257 34 [some (mR 1 12 0 571), some (mB x), some (mR 2 400 0 (lkq x)), some (mI (lkb x)), some (mI (k + 1)), none, none] g K) : ∀ t, ∀ g : am_H, 0 ≤ t → t ≤ k → (∀ y i, ¬ (y = 593 ∧ 20 * x ≤ i ∧ i < 20 * x + 20) → g y i = h y i) → INS (fun j => g 593 (20 * x + j)) (its h x) t k (its h x k) → am_AT 1 257 73 [some (mR 1 12 0 571), some (mB x), some (mR 2 400 0 (lkq x)), some (mI (lkb x)), some (mI k), some (mI (its h x k)), some (mI t)] g K := by
  have hr2 := hr k hk.1 hk.2
  refine lpd 1 (fun t ih g t0 t1 F I => ?_)
  have up : ∀ v, (fun j => am_up g 593 (20 * x + t) v 593 (20 * x + j)) = up1 (fun j => g 593 (20 * x + j)) t v := fun v => by
    funext j
    by_cases z : j = t
    · rw [z, am_up_eq, up1_eq]
    · rw [am_up_ne2 (by omega), up1_ne z]
  have fr : ∀ v y i, ¬ (y = 593 ∧ 20 * x ≤ i ∧ i < 20 * x + 20) → am_up g 593 (20 * x + t) v y i = h y i := fun v y i z => by rw [am_up_n2 (by omega)]; exact F y i z
  have fin : (t ≤ 0 ∨ g 593 (20 * x + t - 1) ≤ its h x k) → am_AT 1 257 34 [some (mR 1 12 0 571), some (mB x), some (mR 2 400 0 (lkq x)), some (mI (lkb x)), some (mI (k + 1)), none, none] (am_up g 593 (20 * x + t) (its h x k)) K := fun c => by
    have e := INS_e I t0 t1 (by rw [show 20 * x + (t - 1) = 20 * x + t - 1 by omega]; exact c)
    exact nx _ (fr _) (by rw [up]; exact e.1) (fun w => (e.2 w ▸ ct_congr _ (fun j _ => by rw [← up])))
  refine T257_73 ⟨by omega, ⟨fun c1 => ⟨by omega, ⟨hr2, ?_⟩⟩, fun c1 => ⟨by omega, ⟨hr2, ⟨fun c2 => ⟨by omega, ⟨hr2, ?_⟩⟩, fun c2 => ⟨by omega, ⟨by omega, ?_⟩⟩⟩⟩⟩⟩⟩
  · exact fin (Or.inl c1)
  · exact fin (Or.inr c2)
  · refine ih (by omega) _ (by omega) (by omega) (fr _) ?_
    rw [up]
    have w := INS_s I c1 t1 (by show its h x k < g 593 (20 * x + (t - 1)); rw [show 20 * x + (t - 1) = 20 * x + t - 1 by omega]; exact c2)
    rw [show g 593 (20 * x + t - 1) = g 593 (20 * x + (t - 1)) by rw [show 20 * x + (t - 1) = 20 * x + t - 1 by omega]]
    exact w
theorem L257 {K : Option am_V → am_H → Prop} {h : am_H} {x : Int} (hs : 0 ≤ h 571 30 ∧ h 571 30 ≤ 20) (hx : 0 ≤ x ∧ x < 40) (ha : x - lkb x < h 571 30) (hr : LKR h x) (hK : ∀ h', ((∀ x9 i9, ¬ (x9 = 593 ∧ 20 * x ≤ i9 ∧ i9 < 20 * x + 20) → h' x9 i9 = h x9 i9) ∧ LKS h h' x) → K none h') : ∀ k, ∀ g : am_H, 0 ≤ k → k ≤ h 571 30 → (∀ y i, ¬ (y = 593 ∧ 20 * x ≤ i ∧ i < 20 * x + 20) → g y i = h y i) → SRTD (fun j => g 593 (20 * x + j)) k → (∀ w, ct (fun j => g 593 (20 * x + j) ≤ w) k.toNat = ct (fun j => its h x j ≤ w) k.toNat) → am_AT 1 257 34 [some (mR 1 12 0 571), some (mB x), some (mR 2 400 0 (lkq x)), some (mI (lkb x)), some (mI k), none, none] g K := by
  have lq := lkb_q x
  refine lp (h 571 30) (fun k ih g k0 k1 F S C => ?_)
  have es : g 571 30 = h 571 30 := F _ _ (by omega)
  have ei : 64 * g (lkq x) (20 * (x - lkb x) + k) + g 591 (lkb x + k) = its h x k := by
    unfold its
    rw [F _ _ (by omega), F _ _ (by omega)]
  refine T257_34 ⟨by omega, ⟨fun c1 => ?_, fun c1 => ⟨by rw [es] at c1; omega, ⟨by rw [es] at c1; omega, ?_⟩⟩⟩⟩
  · rw [es] at c1
    rw [show k = h 571 30 by omega] at S C
    exact hK g ⟨F, S, C⟩
  · rw [es] at c1
    rw [ei]
    exact L257b hs hx ha hr hK ⟨k0, c1⟩ (fun g' F' S' C' => ih c1 g' (by omega) (by omega) F' S' C') k g k0 (by omega) F (INS_0 k0 S C)
theorem C257_ok : am_CS 1 257 C257 := W257 (fun x h K hb => by
  obtain ⟨⟨hs, hx, ha, hr⟩, hK⟩ := hb
  have go := L257 hs hx ha hr hK 0 h (by omega) hs.1 (fun _ _ _ => rfl) (fun k a b => by omega) (fun w => rfl)
  refine T257_0 ⟨fun c1 => ⟨fun c2 => ?_, fun c2 => ?_⟩, fun c1 => ⟨fun c2 => ?_, fun c2 => ?_⟩⟩
  · rw [lkb_1 c1, lkq_1 c1] at go
    exact go
  · omega
  · omega
  · rw [lkb_0 c1, lkq_0 c1] at go
    exact go)
/-! 258 FactorNetsModel.seesAlike -/
def C258 : am_K := fun as h K => am_a3 as (fun v0 v1 v2 => am_oc 12 571 v0 (am_n v1 (fun x => am_n v2 (fun y => ((0 ≤ (h 571 30) ∧ (h 571 30) ≤ 20) ∧ (0 ≤ x ∧ x < 40) ∧ (0 ≤ y ∧ y < 40)) ∧ (K (some (mP (SEE h x y))) h)))))
theorem W258 {d : Nat} (H : ∀ (x : Int) (y : Int) (h : am_H) (K : Option am_V → am_H → Prop), ((0 ≤ (h 571 30) ∧ (h 571 30) ≤ 20) ∧ (0 ≤ x ∧ x < 40) ∧ (0 ≤ y ∧ y < 40)) ∧ (K (some (mP (SEE h x y))) h) → am_AT d 258 0 [some (mR 1 12 0 571), some (mB x), some (mB y), none, none] h K) : am_CS d 258 C258 := by
  refine am_CS_of (T := tb258) (mL := 5) (rk := 4) rfl (fun as h K hC => ?_)
  obtain ⟨v0, v1, v2, rfl, hC0⟩ := am_a3_e hC
  obtain ⟨e0, hC1⟩ := am_oc_e hC0
  subst e0
  obtain ⟨x, rfl, hC2⟩ := am_n_e hC1
  obtain ⟨y, rfl, hC3⟩ := am_n_e hC2
  refine ⟨Nat.le_of_ble_eq_true rfl, ?_⟩
  exact H x y h K hC3
theorem T258_0 {R : Option am_V → am_H → Prop} {h : am_H} {x : Int} {y : Int} (t : (0 ≤ x ∧ x < 40) ∧ ((0 ≤ y ∧ y < 40) ∧ (((¬ h 591 x = h 591 y) → (am_AT 1 258 24 [some (mR 1 12 0 571), some (mB x), some (mB y), some (mI 0), some (mI 0)] h R)) ∧ ((h 591 x = h 591 y) → (am_AT 1 258 24 [some (mR 1 12 0 571), some (mB x), some (mB y), some (mI 1), some (mI 0)] h R))))) : am_AT 1 258 0 [some (mR 1 12 0 571), some (mB x), some (mB y), none, none] h R :=
  am_T (d := 0) (m := 258) (T := tb258) (mL := 5) (rk := 4) (cuts := [(24, [1, 1, 1, 2, 2])]) (l := []) rfl trivial 18 (And.intro (t).1 (And.intro ((t).2).1 (And.intro (fun c10 => (((t).2).2).1 c10) (fun c10 => (((t).2).2).2 c10))))
theorem T258_24 {R : Option am_V → am_H → Prop} {h : am_H} {x : Int} {y : Int} {x3 : Int} {x4 : Int} (t : (R32 x4) ∧ (((h 571 30 ≤ x4) → ((x3 = 0 ∨ x3 = 1) ∧ (R (some (mP (x3 = 1))) h))) ∧ ((x4 < h 571 30) → ((R32 x3) ∧ (((x3 = 0) → ((x3 = 0 ∨ x3 = 1) ∧ (R (some (mP (x3 = 1))) h))) ∧ ((¬ x3 = 0) → ((0 ≤ (20 * x) + x4 ∧ (20 * x) + x4 < 800) ∧ ((0 ≤ (20 * y) + x4 ∧ (20 * y) + x4 < 800) ∧ (((¬ h 593 ((20 * x) + x4) = h 593 ((20 * y) + x4)) → (am_AT 1 258 24 [some (mR 1 12 0 571), some (mB x), some (mB y), some (mI 0), some (mI (x4 + 1))] h R)) ∧ ((h 593 ((20 * x) + x4) = h 593 ((20 * y) + x4)) → (am_AT 1 258 24 [some (mR 1 12 0 571), some (mB x), some (mB y), some (mI 1), some (mI (x4 + 1))] h R))))))))))) : am_AT 1 258 24 [some (mR 1 12 0 571), some (mB x), some (mB y), some (mI x3), some (mI x4)] h R :=
  am_T (d := 0) (m := 258) (T := tb258) (mL := 5) (rk := 4) (cuts := [(24, [1, 1, 1, 2, 2])]) (l := []) rfl trivial 32 (And.intro (t).1 (And.intro (fun c11 => And.intro (((t).2).1 c11).1 ((((t).2).1 c11).2)) (fun c11 => And.intro (((t).2).2 c11).1 (And.intro (fun c12 => And.intro (((((t).2).2 c11).2).1 c12).1 ((((((t).2).2 c11).2).1 c12).2)) (fun c12 => And.intro (((((t).2).2 c11).2).2 c12).1 (And.intro ((((((t).2).2 c11).2).2 c12).2).1 (And.intro (fun c13 => (((((((t).2).2 c11).2).2 c12).2).2).1 c13) (fun c13 => (((((((t).2).2 c11).2).2 c12).2).2).2 c13))))))))
theorem L258 {K : Option am_V → am_H → Prop} {h : am_H} {x y : Int} (hs : 0 ≤ h 571 30 ∧ h 571 30 ≤ 20) (hx : 0 ≤ x ∧ x < 40) (hy : 0 ≤ y ∧ y < 40) (hK : K (some (mP (SEE h x y))) h) : ∀ k, ∀ b : Int, 0 ≤ k → k ≤ h 571 30 → (b = 0 ∨ b = 1) → (b = 1 ↔ h 591 x = h 591 y ∧ ∀ j, 0 ≤ j → j < k → h 593 (20 * x + j) = h 593 (20 * y + j)) → am_AT 1 258 24 [some (mR 1 12 0 571), some (mB x), some (mB y), some (mI b), some (mI k)] h K := by
  refine lp (h 571 30) (fun k ih b k0 k1 hb B => ?_)
  have nb : b = 0 → ¬ SEE h x y := fun z w => by
    have := B.mpr ⟨w.1, fun j u v => w.2 j u (by omega)⟩
    omega
  refine T258_24 ⟨by omega, ⟨fun c1 => ⟨by omega, ?_⟩, fun c1 => ⟨by unfold R32; omega, ⟨fun c2 => ⟨by omega, ?_⟩, fun c2 => ⟨by omega, ⟨by omega, ⟨fun c3 => ?_, fun c3 => ?_⟩⟩⟩⟩⟩⟩⟩
  · rw [show k = h 571 30 by omega] at B
    exact am_rb hK B.symm
  · exact am_rb hK ⟨fun w => absurd w (nb c2), fun w => by omega⟩
  · refine ih c1 0 (by omega) (by omega) (Or.inl rfl) ⟨fun w => by omega, fun w => absurd (w.2 k k0 (by omega)) c3⟩
  · refine ih c1 1 (by omega) (by omega) (Or.inr rfl) ⟨fun _ => ?_, fun _ => rfl⟩
    have w := B.mp (by omega)
    refine ⟨w.1, fun j u v => ?_⟩
    by_cases z : j = k
    · rw [z]; exact c3
    · exact w.2 j u (by omega)
theorem C258_ok : am_CS 1 258 C258 := W258 (fun x y h K hb => by
  obtain ⟨⟨hs, hx, hy⟩, hK⟩ := hb
  refine T258_0 ⟨by omega, ⟨by omega, ⟨fun c1 => ?_, fun c1 => ?_⟩⟩⟩
  · exact L258 hs hx hy hK 0 0 (by omega) hs.1 (Or.inl rfl) ⟨fun w => by omega, fun w => absurd w.1 c1⟩
  · exact L258 hs hx hy hK 0 1 (by omega) hs.1 (Or.inr rfl) ⟨fun _ => ⟨c1, fun j u v => by omega⟩, fun _ => rfl⟩)
/-! 259 FactorNetsModel.isAtHand -/
def C259 : am_K := fun as h K => am_a2 as (fun v0 v1 => am_oc 12 571 v0 (am_n v1 (fun x => (0 ≤ x ∧ x < 40) ∧ (K (some (mP (ATH h x))) h))))
theorem W259 {d : Nat} (H : ∀ (x : Int) (h : am_H) (K : Option am_V → am_H → Prop), (0 ≤ x ∧ x < 40) ∧ (K (some (mP (ATH h x))) h) → am_AT d 259 0 [some (mR 1 12 0 571), some (mB x)] h K) : am_CS d 259 C259 := by
  refine am_CS_of (T := tb259) (mL := 2) (rk := 4) rfl (fun as h K hC => ?_)
  obtain ⟨v0, v1, rfl, hC0⟩ := am_a2_e hC
  obtain ⟨e0, hC1⟩ := am_oc_e hC0
  subst e0
  obtain ⟨x, rfl, hC2⟩ := am_n_e hC1
  refine ⟨Nat.le_of_ble_eq_true rfl, ?_⟩
  exact H x h K hC2
theorem T259_0 {R : Option am_V → am_H → Prop} {h : am_H} {x : Int} (t : ((h 571 30 ≤ Int.tmod x 20) → (R (some (mP ((0 : Int) = 1))) h)) ∧ ((Int.tmod x 20 < h 571 30) → (R (some (mP ((1 : Int) = 1))) h))) : am_AT 1 259 0 [some (mR 1 12 0 571), some (mB x)] h R :=
  am_T (d := 0) (m := 259) (T := tb259) (mL := 2) (rk := 4) (cuts := []) (l := []) rfl trivial 13 (And.intro (by decide) (And.intro (fun c14 => And.intro (Or.inl rfl) ((t).1 c14)) (fun c14 => And.intro (Or.inr rfl) ((t).2 c14))))
theorem C259_ok : am_CS 1 259 C259 := W259 (fun x h K hb => by
  have lq := lkb_q x
  have e : Int.tmod x 20 = x - lkb x := by
    rw [Int.tmod_eq_emod_of_nonneg hb.1.1]
    have := hb.1
    omega
  refine T259_0 ⟨fun c1 => ?_, fun c1 => ?_⟩
  · rw [e] at c1
    exact am_rb hb.2 ⟨fun w => by unfold ATH at w; omega, fun w => by omega⟩
  · rw [e] at c1
    exact am_rb hb.2 ⟨fun _ => rfl, fun _ => c1⟩)
