/-! ===== lines by number ===== -/
theorem ct_to {P : Int → Prop} {i : Int} (h0 : 0 ≤ i) : ct P (i + 1).toNat = ct P i.toNat + am_b (P i) := by
  rw [show (i + 1).toNat = i.toNat + 1 by omega, ct_succ, Int.toNat_of_nonneg h0]
theorem ct_ext {P : Int → Prop} (m : Nat) : ∀ j : Nat, (∀ k : Int, (m : Int) ≤ k → ¬ P k) → ct P (m + j) = ct P m
  | 0, _ => rfl
  | j + 1, h => by
    rw [show m + (j + 1) = (m + j) + 1 by omega, ct_succ, ct_ext m j h, am_b_f (h _ (by omega))]
    omega
theorem ct_mn (P : Int → Prop) (m : Nat) : ∀ j : Nat, ct P m ≤ ct P (m + j)
  | 0 => Int.le_refl _
  | j + 1 => by
    have := ct_mn P m j
    rw [show m + (j + 1) = (m + j) + 1 by omega, ct_succ]
    rcases am_b_01 (P ((m + j : Nat) : Int)) with e | e <;> rw [e] <;> omega
theorem ct_not (P : Int → Prop) : ∀ n : Nat, ct (fun k => ¬ P k) n = n - ct P n
  | 0 => rfl
  | n + 1 => by
    rw [ct_succ, ct_succ, ct_not P n]
    by_cases h : P (n : Int)
    · rw [am_b_t h, am_b_f (fun q => q h)]; omega
    · rw [am_b_f h, am_b_t h]; omega
theorem sm_mn {f : Int → Int} (hf : ∀ k, 0 ≤ f k) (m : Nat) : ∀ j : Nat, sm f m ≤ sm f (m + j)
  | 0 => Int.le_refl _
  | j + 1 => by
    have := sm_mn hf m j
    have h2 := hf ((m + j : Nat) : Int)
    rw [show m + (j + 1) = (m + j) + 1 by omega, sm_succ]
    omega
theorem sm_mono {f g : Int → Int} : ∀ n : Nat, (∀ k : Int, 0 ≤ k → k < n → f k ≤ g k) → sm f n ≤ sm g n
  | 0, _ => Int.le_refl _
  | n + 1, h => by
    have h1 := sm_mono n (fun k a b => h k a (by omega))
    have h2 := h n (by omega) (by omega)
    rw [sm_succ, sm_succ]
    omega
theorem sm_congr {f g : Int → Int} : ∀ n : Nat, (∀ k : Int, 0 ≤ k → k < n → f k = g k) → sm f n = sm g n
  | 0, _ => rfl
  | n + 1, h => by
    rw [sm_succ, sm_succ, sm_congr n (fun k a b => h k a (by omega)), h n (by omega) (by omega)]
noncomputable def up (r : Int → Int) (a : Int) : Int := ct (fun b => a < b ∧ ad r a b) 20
noncomputable def lix (r : Int → Int) (a b : Int) : Int := sm (up r) a.toNat + ct (fun x => a < x ∧ ad r a x) b.toNat
noncomputable def nl (r : Int → Int) : Int := sm (up r) 20
theorem up_nn (r : Int → Int) (a : Int) : 0 ≤ up r a := (ct_le _ 20).1
theorem up_r {r : Int → Int} {a : Int} (h0 : 0 ≤ a) (h1 : a < 20) : up r a ≤ 19 - a := by
  have h2 := ct_mono (P := fun b => a < b ∧ ad r a b) (Q := fun b => ¬ b < a + 1) 20 (fun k hk h => by have := h.1; omega)
  rw [ct_not (fun b => b < a + 1) 20, ct_lt (by omega) 20, if_pos (by omega)] at h2
  show ct _ 20 ≤ _
  omega
theorem nl_r (r : Int → Int) : 0 ≤ nl r ∧ nl r ≤ 190 := by
  constructor
  · exact sm_mn (f := up r) (up_nn r) 0 20
  · have h1 := sm_mono (f := up r) (g := fun a => 19 - a) 20 (fun k a b => up_r a b)
    have h2 : sm (fun a => 19 - a) 20 = 190 := rfl
    show sm (up r) 20 ≤ 190
    omega
theorem lix_s {r : Int → Int} {a b : Int} (h0 : 0 ≤ b) : lix r a (b + 1) = lix r a b + am_b (a < b ∧ ad r a b) := by
  unfold lix
  rw [ct_to h0]
  omega
theorem lix_beg {r : Int → Int} {a b : Int} (h0 : 0 ≤ a) (h1 : b ≤ a + 1) : lix r a b = sm (up r) a.toNat := by
  unfold lix
  rw [ct_none b.toNat (fun k hk h => by have := h.1; omega)]
  omega
theorem lix_end {n : Int} {r : Int → Int} (hN : NT n r) {a b : Int} (h0 : 0 ≤ a) (h1 : n ≤ b) (h2 : b ≤ 20) : lix r a b = sm (up r) (a + 1).toNat := by
  have hn := hN.1
  unfold lix
  rw [sm_to h0]
  congr 1
  unfold up
  rw [show (20 : Nat) = b.toNat + (20 - b.toNat) by omega, ct_ext b.toNat _ (fun k hk h => by have := (NT_in hN h.2).2; omega)]
theorem lix_nn (r : Int → Int) (a b : Int) : 0 ≤ lix r a b := by
  have h1 := sm_mn (f := up r) (up_nn r) 0 a.toNat
  rw [Nat.zero_add] at h1
  have h2 := (ct_le (fun x => a < x ∧ ad r a x) b.toNat).1
  have h3 : sm (up r) 0 = 0 := rfl
  unfold lix
  omega
theorem lix_le {r : Int → Int} {a b : Int} (h0 : 0 ≤ a) (h1 : b ≤ 20) : lix r a b ≤ sm (up r) (a + 1).toNat := by
  unfold lix
  rw [sm_to h0]
  have := ct_mn (fun x => a < x ∧ ad r a x) b.toNat (20 - b.toNat)
  rw [show b.toNat + (20 - b.toNat) = 20 by omega] at this
  unfold up
  omega
theorem sm_up_le {r : Int → Int} {a a' : Int} (h0 : 0 ≤ a) (h1 : a ≤ a') : sm (up r) a.toNat ≤ sm (up r) a'.toNat := by
  have := sm_mn (f := up r) (up_nn r) a.toNat (a'.toNat - a.toNat)
  rw [show a.toNat + (a'.toNat - a.toNat) = a'.toNat by omega] at this
  exact this
/-- earlier pairs have lesser numbers -/
theorem lix_mn {r : Int → Int} {a b a' b' : Int} (h0 : 0 ≤ a) (h1 : a < b) (h2 : b < 20) (h3 : ad r a b) (h4 : a < a' ∨ (a = a' ∧ b < b')) (h5 : b' ≤ 20) : lix r a b < lix r a' b' := by
  have e := lix_s (r := r) (a := a) (b := b) (by omega)
  rw [am_b_t ⟨h1, h3⟩] at e
  rcases h4 with h4 | ⟨rfl, h4⟩
  · have e2 := lix_le (r := r) (a := a) (b := b + 1) h0 (by omega)
    have e3 := sm_up_le (r := r) (a := a + 1) (a' := a') (by omega) (by omega)
    have e4 : sm (up r) a'.toNat ≤ lix r a' b' := by
      unfold lix
      have := (ct_le (fun x => a' < x ∧ ad r a' x) b'.toNat).1
      omega
    omega
  · have e2 : lix r a (b + 1) ≤ lix r a b' := by
      unfold lix
      have := ct_mn (fun x => a < x ∧ ad r a x) (b + 1).toNat (b'.toNat - (b + 1).toNat)
      rw [show (b + 1).toNat + (b'.toNat - (b + 1).toNat) = b'.toNat by omega] at this
      omega
    omega
theorem lix_lt {r : Int → Int} {a b : Int} (h0 : 0 ≤ a) (h1 : a < b) (h2 : b < 20) (h3 : ad r a b) : lix r a b < nl r := by
  have e1 := lix_mn (b' := 20) h0 h1 h2 h3 (Or.inr ⟨rfl, h2⟩) (by omega)
  have e2 := lix_le (r := r) (a := a) (b := 20) h0 (by omega)
  have e3 := sm_up_le (r := r) (a := a + 1) (a' := 20) (by omega) (by omega)
  have e4 : sm (up r) (20 : Int).toNat = nl r := rfl
  omega
theorem lix_inj {r : Int → Int} {a b a' b' : Int} (h0 : 0 ≤ a) (h1 : a < b) (h2 : b < 20) (h3 : ad r a b) (g0 : 0 ≤ a') (g1 : a' < b') (g2 : b' < 20) (g3 : ad r a' b') (e : lix r a b = lix r a' b') : a = a' ∧ b = b' := by
  refine Classical.byContradiction fun q => ?_
  by_cases c : a < a' ∨ (a = a' ∧ b < b')
  · have := lix_mn h0 h1 h2 h3 c (by omega)
    omega
  · have := lix_mn (a' := a) (b' := b) g0 g1 g2 g3 (by omega) (by omega)
    omega
theorem sm_find {f : Int → Int} {k : Int} : ∀ n : Nat, 0 ≤ k → k < sm f n → ∃ a : Nat, a < n ∧ sm f a ≤ k ∧ k < sm f a + f a
  | 0, h0, h1 => by
    have : sm f 0 = 0 := rfl
    omega
  | n + 1, h0, h1 => by
    by_cases c : k < sm f n
    · obtain ⟨a, q1, q2⟩ := sm_find n h0 c
      exact ⟨a, by omega, q2⟩
    · rw [sm_succ] at h1
      exact ⟨n, by omega, by omega, h1⟩
theorem ct_find {P : Int → Prop} {k : Int} : ∀ n : Nat, 0 ≤ k → k < ct P n → ∃ b : Nat, b < n ∧ ct P b = k ∧ P b
  | 0, h0, h1 => by
    have : ct P 0 = 0 := rfl
    omega
  | n + 1, h0, h1 => by
    by_cases c : k < ct P n
    · obtain ⟨a, q1, q2⟩ := ct_find n h0 c
      exact ⟨a, by omega, q2⟩
    · rw [ct_succ] at h1
      have hp : P (n : Int) := by
        refine Classical.byContradiction fun q => ?_
        rw [am_b_f q] at h1
        omega
      rw [am_b_t hp] at h1
      exact ⟨n, by omega, by omega, hp⟩
theorem lix_sur {r : Int → Int} {k : Int} (h0 : 0 ≤ k) (h1 : k < nl r) : ∃ a b, (0 ≤ a ∧ a < b ∧ b < 20) ∧ ad r a b ∧ lix r a b = k := by
  obtain ⟨a, q1, q2, q3⟩ := sm_find 20 h0 h1
  obtain ⟨b, p1, p2, p3⟩ := ct_find (P := fun x => (a : Int) < x ∧ ad r a x) (k := k - sm (up r) a) 20 (by omega) (by unfold up at q3 ⊢; omega)
  refine ⟨a, b, ⟨by omega, p3.1, by omega⟩, p3.2, ?_⟩
  unfold lix
  rw [Int.toNat_natCast, Int.toNat_natCast, p2]
  omega
noncomputable def lpt (r : Int → Int) (k : Int) : Int × Int := @dite (Int × Int) (∃ q : Int × Int, (0 ≤ q.1 ∧ q.1 < q.2 ∧ q.2 < 20) ∧ ad r q.1 q.2 ∧ lix r q.1 q.2 = k) (Classical.propDecidable _) (fun h => Classical.choose h) (fun _ => (0, 0))
noncomputable def lo (r : Int → Int) (k : Int) : Int := (lpt r k).1
noncomputable def hi (r : Int → Int) (k : Int) : Int := (lpt r k).2
theorem lo_ok {r : Int → Int} {k : Int} (h0 : 0 ≤ k) (h1 : k < nl r) : (0 ≤ lo r k ∧ lo r k < hi r k ∧ hi r k < 20) ∧ ad r (lo r k) (hi r k) ∧ lix r (lo r k) (hi r k) = k := by
  obtain ⟨a, b, q⟩ := lix_sur h0 h1
  have hx : ∃ q : Int × Int, (0 ≤ q.1 ∧ q.1 < q.2 ∧ q.2 < 20) ∧ ad r q.1 q.2 ∧ lix r q.1 q.2 = k := ⟨(a, b), q⟩
  unfold lo hi lpt
  rw [dif_pos hx]
  exact Classical.choose_spec hx
theorem lo_lix {r : Int → Int} {a b : Int} (h0 : 0 ≤ a) (h1 : a < b) (h2 : b < 20) (h3 : ad r a b) : lo r (lix r a b) = a ∧ hi r (lix r a b) = b := by
  obtain ⟨⟨q1, q2, q3⟩, q4, q5⟩ := lo_ok (lix_nn r a b) (lix_lt h0 h1 h2 h3)
  exact lix_inj q1 q2 q3 q4 h0 h1 h2 h3 q5
theorem lo_n {n : Int} {r : Int → Int} (hN : NT n r) {k : Int} (h0 : 0 ≤ k) (h1 : k < nl r) : (0 ≤ lo r k ∧ lo r k < n) ∧ (0 ≤ hi r k ∧ hi r k < n) ∧ lo r k < hi r k ∧ ad r (lo r k) (hi r k) := by
  obtain ⟨q1, q4, -⟩ := lo_ok h0 h1
  have := NT_in hN q4
  exact ⟨this.1, this.2, q1.2.1, q4⟩
/-- the number of the line between two points -/
noncomputable def lno (r : Int → Int) (a b : Int) : Int := @ite Int (ad r a b) (Classical.propDecidable _) (lix r (min a b) (max a b)) (-1)
theorem lno_t {r : Int → Int} {a b : Int} (h : ad r a b) : lno r a b = lix r (min a b) (max a b) := if_pos h
theorem lno_f {r : Int → Int} {a b : Int} (h : ¬ ad r a b) : lno r a b = -1 := if_neg h
theorem lno_sym {n : Int} {r : Int → Int} (hN : NT n r) (a b : Int) : lno r a b = lno r b a := by
  by_cases h : ad r a b
  · rw [lno_t h, lno_t (NT_sym hN _ _ h), Int.min_comm, Int.max_comm]
  · rw [lno_f h, lno_f (fun q => h (NT_sym hN _ _ q))]
theorem lno_ok {n : Int} {r : Int → Int} (hN : NT n r) {a b : Int} (h : ad r a b) : (0 ≤ lno r a b ∧ lno r a b < nl r) ∧ lo r (lno r a b) = min a b ∧ hi r (lno r a b) = max a b := by
  have h1 := NT_in hN h
  have h2 := (hN.2.2 _ _ h).2.2.1
  have h3 := hN.2.1
  have h4 : ad r (min a b) (max a b) := by
    by_cases c : a < b
    · rw [show min a b = a by omega, show max a b = b by omega]; exact h
    · rw [show min a b = b by omega, show max a b = a by omega]; exact NT_sym hN _ _ h
  rw [lno_t h]
  exact ⟨⟨lix_nn _ _ _, lix_lt (by omega) (by omega) (by omega) h4⟩, lo_lix (by omega) (by omega) (by omega) h4⟩
theorem lno_lo {n : Int} {r : Int → Int} (hN : NT n r) {k : Int} (h0 : 0 ≤ k) (h1 : k < nl r) : lno r (lo r k) (hi r k) = k := by
  obtain ⟨q1, q4, q5⟩ := lo_ok h0 h1
  rw [lno_t q4, show min (lo r k) (hi r k) = lo r k by omega, show max (lo r k) (hi r k) = hi r k by omega, q5]
def LN (h : am_H) (l n : Int) (r : Int → Int) : Prop := h l 0 = nl r ∧ (∀ k, 0 ≤ k → k < nl r → h (l + 1) k = lo r k ∧ h (l + 2) k = hi r k) ∧ (∀ a b, 0 ≤ a → a < n → 0 ≤ b → b < n → h (l + 3 + 1 + a) b = lno r a b)
def RLn (h : am_H) (r : Int → Int) : Prop := h 571 21 = nl r ∧ ∀ k, 0 ≤ k → k < nl r → h 581 k = lo r k ∧ h 582 k = hi r k
theorem LN_fr {h h' : am_H} {l n : Int} {r : Int → Int} (hn : n ≤ 20) (H : LN h l n r) (e : ∀ x i, l ≤ x → x ≤ l + 23 → h' x i = h x i) : LN h' l n r := by
  refine ⟨?_, fun k h0 h1 => ?_, fun a b a0 a1 b0 b1 => ?_⟩
  · rw [e _ _ (by omega) (by omega)]; exact H.1
  · rw [e _ _ (by omega) (by omega), e _ _ (by omega) (by omega)]; exact H.2.1 k h0 h1
  · rw [e _ _ (by omega) (by omega)]; exact H.2.2 a b a0 a1 b0 b1
theorem RLn_fr {h h' : am_H} {r : Int → Int} (H : RLn h r) (e0 : h' 571 21 = h 571 21) (e1 : ∀ i, h' 581 i = h 581 i) (e2 : ∀ i, h' 582 i = h 582 i) : RLn h' r := ⟨by rw [e0]; exact H.1, fun k a b => by rw [e1, e2]; exact H.2 k a b⟩
theorem nr_fr2 {h h' : am_H} {q o : Int} (e : ∀ i, h' q i = h q i) : nr h' q o = nr h q o := nr_fr rfl e
/-! 12 FactorNets$Lines.learn -/
def C12 : am_K := fun as h K => am_a2 as (fun v0 v1 => am_o 1 v0 (fun l => am_o 3 v1 (fun o => ((0 < o ∧ o < l - 1) ∧ NT (h o 0) (nr h (o + 1) 0)) ∧ (∀ (h' : am_H), (∀ x i, ¬ (l ≤ x ∧ x ≤ l + 23) → h' x i = h x i) ∧ LN h' l (h o 0) (nr h (o + 1) 0) → K (none) (h')))))
theorem W12 {d : Nat} (H : ∀ (l : Int) (o : Int) (h : am_H) (K : Option am_V → am_H → Prop), ((0 < o ∧ o < l - 1) ∧ NT (h o 0) (nr h (o + 1) 0)) ∧ (∀ (h' : am_H), (∀ x i, ¬ (l ≤ x ∧ x ≤ l + 23) → h' x i = h x i) ∧ LN h' l (h o 0) (nr h (o + 1) 0) → K (none) (h')) → am_AT d 12 0 [some (mR 1 1 0 l), some (mR 1 3 0 o), none, none, none] h K) : am_CS d 12 C12 := by
  refine am_CS_of (T := tb12) (mL := 5) (rk := 0) rfl (fun as h K hC => ?_)
  obtain ⟨v0, v1, rfl, hC0⟩ := am_a2_e hC
  obtain ⟨l, rfl, hC1⟩ := am_o_e hC0
  obtain ⟨o, rfl, hC2⟩ := am_o_e hC1
  refine ⟨Nat.le_of_ble_eq_true rfl, ?_⟩
  exact H l o h K hC2
theorem T12_0 {R : Option am_V → am_H → Prop} {h : am_H} {l : Int} {o : Int} (t : am_AT 2 12 7 [some (mR 1 1 0 l), some (mR 1 3 0 o), some (mI 0), none, none] (am_up h l 0 0) R) : am_AT 2 12 0 [some (mR 1 1 0 l), some (mR 1 3 0 o), none, none, none] h R :=
  am_T (d := 1) (m := 12) (T := tb12) (mL := 5) (rk := 0) (cuts := [(7, [1, 1, 2, 0, 0]), (28, [1, 1, 2, 2, 0])]) (l := [(23, C23)]) rfl ⟨am_CS_d (by decide) C23_ok, trivial⟩ 9 (t)
theorem T12_7 {R : Option am_V → am_H → Prop} {h : am_H} {l : Int} {o : Int} {x2 : Int} (t : (R32 x2) ∧ (((h o 0 ≤ x2) → (R none h)) ∧ ((x2 < h o 0) → ((0 ≤ x2 ∧ x2 < 20) ∧ ((0 ≤ x2 ∧ x2 < 20) ∧ (am_AT 2 12 28 [some (mR 1 1 0 l), some (mR 1 3 0 o), some (mI x2), some (mI (x2 + 1)), none] (am_up h (((l + 3) + 1) + x2) x2 (-1)) R)))))) : am_AT 2 12 7 [some (mR 1 1 0 l), some (mR 1 3 0 o), some (mI x2), none, none] h R :=
  am_T (d := 1) (m := 12) (T := tb12) (mL := 5) (rk := 0) (cuts := [(7, [1, 1, 2, 0, 0]), (28, [1, 1, 2, 2, 0])]) (l := [(23, C23)]) rfl ⟨am_CS_d (by decide) C23_ok, trivial⟩ 19 (And.intro (t).1 (And.intro (fun c1 => ((t).2).1 c1) (fun c1 => And.intro (((t).2).2 c1).1 (And.intro ((((t).2).2 c1).2).1 (((((t).2).2 c1).2).2)))))
theorem T12_28 {R : Option am_V → am_H → Prop} {h : am_H} {l : Int} {o : Int} {x2 : Int} {x3 : Int} (t : (R32 x3) ∧ (((h o 0 ≤ x3) → (am_AT 2 12 7 [some (mR 1 1 0 l), some (mR 1 3 0 o), some (mI (x2 + 1)), none, none] h R)) ∧ ((x3 < h o 0) → ((R32 x2) ∧ ((R32 x3) ∧ (((0 ≤ x2 ∧ x2 < 20) ∧ (0 ≤ x3 ∧ x3 < 32)) ∧ (((¬ (bit (h (o + 1) x2) x3)) → ((0 ≤ x2 ∧ x2 < 20) ∧ ((0 ≤ x3 ∧ x3 < 20) ∧ ((0 ≤ x3 ∧ x3 < 20) ∧ ((0 ≤ x2 ∧ x2 < 20) ∧ (am_AT 2 12 28 [some (mR 1 1 0 l), some (mR 1 3 0 o), some (mI x2), some (mI (x3 + 1)), none] (am_up (am_up h (((l + 3) + 1) + x2) x3 (-1)) (((l + 3) + 1) + x3) x2 (-1)) R)))))) ∧ ((bit (h (o + 1) x2) x3) → (((190 ≤ h l 0) → ((0 ≤ x2 ∧ x2 < 20) ∧ ((0 ≤ x3 ∧ x3 < 20) ∧ ((0 ≤ x3 ∧ x3 < 20) ∧ ((0 ≤ x2 ∧ x2 < 20) ∧ (am_AT 2 12 28 [some (mR 1 1 0 l), some (mR 1 3 0 o), some (mI x2), some (mI (x3 + 1)), none] (am_up (am_up h (((l + 3) + 1) + x2) x3 (-1)) (((l + 3) + 1) + x3) x2 (-1)) R)))))) ∧ ((h l 0 < 190) → ((0 ≤ h l 0 ∧ h l 0 < 190) ∧ ((R32 x2) ∧ ((0 ≤ (am_up h (l + 1) (h l 0) x2) l 0 ∧ (am_up h (l + 1) (h l 0) x2) l 0 < 190) ∧ ((R32 x3) ∧ ((R32 (((am_up (am_up h (l + 1) (h l 0) x2) (l + 2) ((am_up h (l + 1) (h l 0) x2) l 0) x3) l 0) + 1)) ∧ ((0 ≤ x2 ∧ x2 < 20) ∧ ((0 ≤ x3 ∧ x3 < 20) ∧ ((0 ≤ x3 ∧ x3 < 20) ∧ ((0 ≤ x2 ∧ x2 < 20) ∧ (am_AT 2 12 28 [some (mR 1 1 0 l), some (mR 1 3 0 o), some (mI x2), some (mI (x3 + 1)), none] (am_up (am_up (am_up (am_up (am_up h (l + 1) (h l 0) x2) (l + 2) ((am_up h (l + 1) (h l 0) x2) l 0) x3) l 0 (((am_up (am_up h (l + 1) (h l 0) x2) (l + 2) ((am_up h (l + 1) (h l 0) x2) l 0) x3) l 0) + 1)) (((l + 3) + 1) + x2) x3 ((am_up (am_up h (l + 1) (h l 0) x2) (l + 2) ((am_up h (l + 1) (h l 0) x2) l 0) x3) l 0)) (((l + 3) + 1) + x3) x2 ((am_up (am_up h (l + 1) (h l 0) x2) (l + 2) ((am_up h (l + 1) (h l 0) x2) l 0) x3) l 0)) R)))))))))))))))))))) : am_AT 2 12 28 [some (mR 1 1 0 l), some (mR 1 3 0 o), some (mI x2), some (mI x3), none] h R :=
  am_T (d := 1) (m := 12) (T := tb12) (mL := 5) (rk := 0) (cuts := [(7, [1, 1, 2, 0, 0]), (28, [1, 1, 2, 2, 0])]) (l := [(23, C23)]) rfl ⟨am_CS_d (by decide) C23_ok, trivial⟩ 56 (And.intro (t).1 (And.intro (fun c2 => ((t).2).1 c2) (fun c2 => And.intro (((t).2).2 c2).1 (And.intro ((((t).2).2 c2).2).1 (And.intro (((((t).2).2 c2).2).2).1 (And.intro (fun c3 => And.intro (((((((t).2).2 c2).2).2).2).1 c3).1 (And.intro ((((((((t).2).2 c2).2).2).2).1 c3).2).1 (And.intro (((((((((t).2).2 c2).2).2).2).1 c3).2).2).1 (And.intro ((((((((((t).2).2 c2).2).2).2).1 c3).2).2).2).1 (((((((((((t).2).2 c2).2).2).2).1 c3).2).2).2).2))))) (fun c3 => And.intro (fun c4 => And.intro ((((((((t).2).2 c2).2).2).2).2 c3).1 c4).1 (And.intro (((((((((t).2).2 c2).2).2).2).2 c3).1 c4).2).1 (And.intro ((((((((((t).2).2 c2).2).2).2).2 c3).1 c4).2).2).1 (And.intro (((((((((((t).2).2 c2).2).2).2).2 c3).1 c4).2).2).2).1 ((((((((((((t).2).2 c2).2).2).2).2 c3).1 c4).2).2).2).2))))) (fun c4 => And.intro ((((((((t).2).2 c2).2).2).2).2 c3).2 c4).1 (And.intro (((((((((t).2).2 c2).2).2).2).2 c3).2 c4).2).1 (And.intro ((((((((((t).2).2 c2).2).2).2).2 c3).2 c4).2).2).1 (And.intro (((((((((((t).2).2 c2).2).2).2).2 c3).2 c4).2).2).2).1 (And.intro ((((((((((((t).2).2 c2).2).2).2).2 c3).2 c4).2).2).2).2).1 (And.intro (((((((((((((t).2).2 c2).2).2).2).2 c3).2 c4).2).2).2).2).2).1 (And.intro ((((((((((((((t).2).2 c2).2).2).2).2 c3).2 c4).2).2).2).2).2).2).1 (And.intro (((((((((((((((t).2).2 c2).2).2).2).2 c3).2 c4).2).2).2).2).2).2).2).1 (And.intro ((((((((((((((((t).2).2 c2).2).2).2).2 c3).2 c4).2).2).2).2).2).2).2).2).1 (((((((((((((((((t).2).2 c2).2).2).2).2 c3).2 c4).2).2).2).2).2).2).2).2).2)))))))))))))))))
theorem L12 {K : Option am_V → am_H → Prop} {h : am_H} {l o : Int} (ho : 0 < o ∧ o < l - 1) (hN : NT (h o 0) (nr h (o + 1) 0)) (hK : ∀ h' : am_H, (∀ x i, ¬ (l ≤ x ∧ x ≤ l + 23) → h' x i = h x i) ∧ LN h' l (h o 0) (nr h (o + 1) 0) → K none h') : ∀ (a : Int) (hh : am_H), 0 ≤ a → a ≤ h o 0 → (∀ x i, ¬ (l ≤ x ∧ x ≤ l + 23) → hh x i = h x i) → hh l 0 = lix (nr h (o + 1) 0) a a → (∀ k, 0 ≤ k → k < lix (nr h (o + 1) 0) a a → hh (l + 1) k = lo (nr h (o + 1) 0) k ∧ hh (l + 2) k = hi (nr h (o + 1) 0) k) → (∀ x y, 0 ≤ x → x < h o 0 → 0 ≤ y → y < h o 0 → min x y < a → hh (l + 3 + 1 + x) y = lno (nr h (o + 1) 0) x y) → am_AT 2 12 7 [some (mR 1 1 0 l), some (mR 1 3 0 o), some (mI a), none, none] hh K := by
  have hn1 := hN.1
  have hn2 := hN.2.1
  generalize hr : nr h (o + 1) 0 = r at *
  refine lp (h o 0) (fun a ih hh a0 a1 f1 f2 f3 f4 => ?_)
  have e1 : hh o 0 = h o 0 := f1 _ _ (by omega)
  refine T12_7 ⟨by omega, ⟨fun c1 => ?_, fun c1 => ⟨by omega, ⟨by omega, ?_⟩⟩⟩⟩
  · have ea : lix r a a = nl r := by
      rw [lix_beg a0 (by omega), show a = h o 0 by omega]
      have h1 := sm_up_le (r := r) (a := h o 0) (a' := 20) hn1 hn2
      unfold nl
      rw [show (20 : Nat) = (h o 0).toNat + (20 - (h o 0).toNat) by omega]
      have z : ∀ j : Nat, sm (up r) ((h o 0).toNat + j) = sm (up r) (h o 0).toNat := by
        intro j
        induction j with
        | zero => rfl
        | succ j ihj =>
          rw [show (h o 0).toNat + (j + 1) = ((h o 0).toNat + j) + 1 by omega, sm_succ, ihj]
          have : up r (((h o 0).toNat + j : Nat) : Int) = 0 := ct_none 20 (fun k hk q => by have := (NT_in hN q.2).1; omega)
          omega
      exact (z _).symm
    rw [ea] at f2 f3
    exact hK hh ⟨f1, f2, f3, fun x y x0 x1 y0 y1 => f4 x y x0 x1 y0 y1 (by omega)⟩
  · have c1' : a < h o 0 := by omega
    have L : ∀ (b : Int) (g : am_H), a + 1 ≤ b → b ≤ h o 0 → (∀ x i, ¬ (l ≤ x ∧ x ≤ l + 23) → g x i = h x i) → g l 0 = lix r a b → (∀ k, 0 ≤ k → k < lix r a b → g (l + 1) k = lo r k ∧ g (l + 2) k = hi r k) → (∀ x y, 0 ≤ x → x < h o 0 → 0 ≤ y → y < h o 0 → (min x y < a ∨ (min x y = a ∧ max x y < b)) → g (l + 3 + 1 + x) y = lno r x y) → am_AT 2 12 28 [some (mR 1 1 0 l), some (mR 1 3 0 o), some (mI a), some (mI b), none] g K := by
      refine lp (h o 0) (fun b ih2 g b0 b1 g1 g2 g3 g4 => ?_)
      have e2 : g o 0 = h o 0 := g1 _ _ (by omega)
      have e3 : g (o + 1) a = r a := by
        rw [← hr, nr_in0 a0 (by omega)]
        exact g1 _ _ (by omega)
      have hlx := lix_nn r a b
      refine T12_28 ⟨by omega, ⟨fun c1 => ?_, fun c1 => ⟨by omega, ⟨by omega, ⟨by omega, ⟨fun c2 => ⟨by omega, ⟨by omega, ⟨by omega, ⟨by omega, ?_⟩⟩⟩⟩, fun c2 => ⟨fun c3 => ⟨by omega, ⟨by omega, ⟨by omega, ⟨by omega, ?_⟩⟩⟩⟩, fun c3 => ⟨by omega, ⟨by omega, ⟨by simp (disch := omega) only [am_up_ne]; omega, ⟨by omega, ⟨by simp (disch := omega) only [am_up_ne]; omega, ⟨by omega, ⟨by omega, ⟨by omega, ⟨by omega, ?_⟩⟩⟩⟩⟩⟩⟩⟩⟩⟩⟩⟩⟩⟩⟩⟩
      · have eb : lix r a b = lix r (a + 1) (a + 1) := by rw [lix_end hN a0 (by omega) (by omega), lix_beg (by omega) (by omega)]
        rw [eb] at g2 g3
        exact ih (by omega) g (by omega) (by omega) g1 g2 g3 (fun x y x0 x1 y0 y1 hm => g4 x y x0 x1 y0 y1 (by omega))
      · have hna : ¬ ad r a b := fun q => c2 (by rw [e3]; exact q)
        have eb : lix r a (b + 1) = lix r a b := by rw [lix_s (by omega), am_b_f (fun q => hna q.2)]; omega
        refine ih2 (by omega) _ (by omega) (by omega) (fun x i hx => ?_) ?_ (fun k k0 k1 => ?_) (fun x y x0 x1 y0 y1 hm => ?_)
        · rw [am_up_ne (by omega), am_up_ne (by omega)]
          exact g1 x i hx
        · rw [am_up_ne (by omega), am_up_ne (by omega), eb]
          exact g2
        · rw [am_up_ne (by omega), am_up_ne (by omega), am_up_ne (by omega), am_up_ne (by omega)]
          exact g3 k k0 (by omega)
        · by_cases q1 : x = b ∧ y = a
          · rw [q1.1, q1.2, am_up_eq, lno_f (fun q => hna (NT_sym hN _ _ q))]
          · rw [am_up_n2 (by omega)]
            by_cases q2 : x = a ∧ y = b
            · rw [q2.1, q2.2, am_up_eq, lno_f hna]
            · rw [am_up_n2 (by omega)]
              exact g4 x y x0 x1 y0 y1 (by omega)
      · exfalso
        have hab : ad r a b := by unfold ad; rw [← e3]; exact c2
        have := lix_lt a0 (by omega) (by omega) hab
        have := nl_r r
        omega
      · have hab : ad r a b := by unfold ad; rw [← e3]; exact c2
        have eb : lix r a (b + 1) = lix r a b + 1 := by rw [lix_s (by omega), am_b_t ⟨by omega, hab⟩]
        have ell := lo_lix a0 (by omega) (by omega) hab
        have eab : lno r a b = lix r a b := by rw [lno_t hab, show min a b = a by omega, show max a b = b by omega]
        simp (disch := omega) only [am_up_ne]
        rw [g2]
        refine ih2 (by omega) _ (by omega) (by omega) (fun x i hx => ?_) ?_ (fun k k0 k1 => ?_) (fun x y x0 x1 y0 y1 hm => ?_)
        · simp (disch := omega) only [am_up_ne]
          exact g1 x i hx
        · simp (disch := omega) only [am_up_ne, am_up_eq]
          exact eb.symm
        · simp (disch := omega) only [am_up_ne]
          by_cases q : k = lix r a b
          · rw [q, am_up_eq, am_up_eq]
            exact ⟨ell.1.symm, ell.2.symm⟩
          · simp (disch := omega) only [am_up_ne, am_up_ne2]
            exact g3 k k0 (by omega)
        · by_cases q1 : x = b ∧ y = a
          · rw [q1.1, q1.2, am_up_eq, lno_sym hN, eab]
          · rw [am_up_n2 (by omega)]
            by_cases q2 : x = a ∧ y = b
            · rw [q2.1, q2.2, am_up_eq, eab]
            · rw [am_up_n2 (by omega)]
              simp (disch := omega) only [am_up_ne]
              exact g4 x y x0 x1 y0 y1 (by omega)
    have eb : lix r a (a + 1) = lix r a a := by rw [lix_beg a0 (by omega), lix_beg a0 (by omega)]
    refine L (a + 1) _ (by omega) (by omega) (fun x i hx => ?_) ?_ (fun k k0 k1 => ?_) (fun x y x0 x1 y0 y1 hm => ?_)
    · rw [am_up_ne (by omega)]
      exact f1 x i hx
    · rw [am_up_ne (by omega), eb]
      exact f2
    · rw [am_up_ne (by omega), am_up_ne (by omega)]
      exact f3 k k0 (by omega)
    · by_cases q : x = a ∧ y = a
      · rw [q.1, q.2, am_up_eq, lno_f (fun z => (hN.2.2 _ _ z).2.2.1 rfl)]
      · rw [am_up_n2 (by omega)]
        exact f4 x y x0 x1 y0 y1 (by omega)
theorem C12_ok : am_CS 2 12 C12 := W12 (fun l o h K hb => T12_0 (by
  obtain ⟨⟨ho, hN⟩, hK⟩ := hb
  have e0 : lix (nr h (o + 1) 0) 0 0 = 0 := lix_beg (by omega) (by omega)
  refine L12 ho hN hK 0 _ (by omega) hN.1 (fun x i hx => am_up_ne (by omega)) (by rw [am_up_eq, e0]) (fun k k0 k1 => by omega) (fun x y x0 x1 y0 y1 hm => by omega)))
/-! 89 FactorNets$Survey.numbered -/
def C89 : am_K := fun as h K => am_a1 as (fun v0 => am_o 10 v0 (fun o => (NT (h (o + 1) 0) (nr h (o + 2) 0) ∧ 0 ≤ o ∧ (h o 5 = 1 → LN h (o + 46) (h (o + 1) 0) (nr h (o + 2) 0))) ∧ (∀ (h' : am_H), (∀ x i, ¬ (o + 46 ≤ x ∧ x ≤ o + 69) → ¬ (x = o ∧ i = 5) → h' x i = h x i) ∧ h' o 5 = 1 ∧ LN h' (o + 46) (h (o + 1) 0) (nr h (o + 2) 0) → K (some (mR 1 1 0 ((o + 46)))) (h'))))
theorem W89 {d : Nat} (H : ∀ (o : Int) (h : am_H) (K : Option am_V → am_H → Prop), (NT (h (o + 1) 0) (nr h (o + 2) 0) ∧ 0 ≤ o ∧ (h o 5 = 1 → LN h (o + 46) (h (o + 1) 0) (nr h (o + 2) 0))) ∧ (∀ (h' : am_H), (∀ x i, ¬ (o + 46 ≤ x ∧ x ≤ o + 69) → ¬ (x = o ∧ i = 5) → h' x i = h x i) ∧ h' o 5 = 1 ∧ LN h' (o + 46) (h (o + 1) 0) (nr h (o + 2) 0) → K (some (mR 1 1 0 ((o + 46)))) (h')) → am_AT d 89 0 [some (mR 1 10 0 o)] h K) : am_CS d 89 C89 := by
  refine am_CS_of (T := tb89) (mL := 1) (rk := 3) rfl (fun as h K hC => ?_)
  obtain ⟨v0, rfl, hC0⟩ := am_a1_e hC
  obtain ⟨o, rfl, hC1⟩ := am_o_e hC0
  refine ⟨Nat.le_of_ble_eq_true rfl, ?_⟩
  exact H o h K hC1
theorem T89_0 {R : Option am_V → am_H → Prop} {h : am_H} {o : Int} (t : ((¬ h o 5 = 0) → (R (some (mR 1 1 0 (o + 46))) h)) ∧ ((h o 5 = 0) → (((0 < (o + 1) ∧ (o + 1) < (o + 46) - 1) ∧ NT (h (o + 1) 0) (nr h ((o + 1) + 1) 0)) ∧ (∀ (h' : am_H), ((∀ x i, ¬ ((o + 46) ≤ x ∧ x ≤ (o + 46) + 23) → h' x i = h x i) ∧ LN h' (o + 46) (h (o + 1) 0) (nr h ((o + 1) + 1) 0)) → (R (some (mR 1 1 0 (o + 46))) (am_up h' o 5 1)))))) : am_AT 3 89 0 [some (mR 1 10 0 o)] h R :=
  am_T (d := 2) (m := 89) (T := tb89) (mL := 1) (rk := 3) (cuts := []) (l := [(12, C12)]) rfl ⟨am_CS_d (by decide) C12_ok, trivial⟩ 18 (And.intro (fun c5 => (t).1 c5) (fun c5 => And.intro ((t).2 c5).1 (fun z1_0 z1_1 => And.intro (Or.inr rfl) ((((t).2 c5).2) z1_0 z1_1))))
theorem C89_ok : am_CS 3 89 C89 := W89 (fun o h K hb => am_AT_ok (fun hw hl => by
  obtain ⟨⟨hN, h0, hL⟩, hK⟩ := hb
  have hn2 := hN.2.1
  have e2 : nr h (o + 1 + 1) 0 = nr h (o + 2) 0 := nr_fr (by omega) (fun i => rfl)
  refine T89_0 ⟨fun c1 => ?_, fun c1 => ⟨⟨by omega, by rw [e2]; exact hN⟩, fun h' q2 => ?_⟩⟩
  · have e4 : h o 5 = 1 := by
      have : h o 5 = 0 ∨ h o 5 = 1 := wf_b 10 5 hw (hl 0 _ rfl) rfl rfl
      omega
    exact hK h ⟨fun x i _ _ => rfl, e4, hL e4⟩
  · rw [e2] at q2
    refine hK _ ⟨fun x i hx1 hx2 => ?_, am_up_eq, LN_fr hn2 q2.2 (fun x i hx1 hx2 => am_up_ne (by omega))⟩
    rw [am_up_n2 hx2]
    exact q2.1 x i (by omega)))
/-! 198 FactorNetsModel.isBeside -/
def C198 : am_K := fun as h K => am_a3 as (fun v0 v1 v2 => am_oc 12 571 v0 (am_n v1 (fun a => am_n v2 (fun b => ((0 ≤ a ∧ a < 20) ∧ (0 ≤ b ∧ b < 32)) ∧ (K (some (mP (bit (h 572 (2 + a)) b))) h)))))
theorem W198 {d : Nat} (H : ∀ (a : Int) (b : Int) (h : am_H) (K : Option am_V → am_H → Prop), ((0 ≤ a ∧ a < 20) ∧ (0 ≤ b ∧ b < 32)) ∧ (K (some (mP (bit (h 572 (2 + a)) b))) h) → am_AT d 198 0 [some (mR 1 12 0 571), some (mB a), some (mB b)] h K) : am_CS d 198 C198 := by
  refine am_CS_of (T := tb198) (mL := 3) (rk := 4) rfl (fun as h K hC => ?_)
  obtain ⟨v0, v1, v2, rfl, hC0⟩ := am_a3_e hC
  obtain ⟨e0, hC1⟩ := am_oc_e hC0
  subst e0
  obtain ⟨a, rfl, hC2⟩ := am_n_e hC1
  obtain ⟨b, rfl, hC3⟩ := am_n_e hC2
  refine ⟨Nat.le_of_ble_eq_true rfl, ?_⟩
  exact H a b h K hC3
theorem T198_0 {R : Option am_V → am_H → Prop} {h : am_H} {a : Int} {b : Int} (t : (0 ≤ 2 + a ∧ 2 + a < 22) ∧ ((0 ≤ b ∧ b < 32) ∧ (R (some (mP (bit (h 572 (2 + a)) b))) h))) : am_AT 2 198 0 [some (mR 1 12 0 571), some (mB a), some (mB b)] h R :=
  am_T (d := 1) (m := 198) (T := tb198) (mL := 3) (rk := 4) (cuts := []) (l := [(188, C188)]) rfl ⟨am_CS_d (by decide) C188_ok, trivial⟩ 13 (And.intro (t).1 (And.intro ((t).2).1 (((t).2).2)))
theorem C198_ok : am_CS 2 198 C198 := W198 (fun a b h K hb => T198_0 ⟨by omega, hb.1.2, hb.2⟩)
/-! 219 FactorNetsModel.laysLines -/
def C219 : am_K := fun as h K => am_a1 as (fun v0 => am_oc 12 571 v0 ((NT (h 572 0) (nr h 572 2)) ∧ (∀ (h' : am_H), (∀ x i, ¬ (x = 571 ∧ i = 21) → x ≠ 581 → x ≠ 582 → h' x i = h x i) ∧ RLn h' (nr h 572 2) → K (none) (h'))))
theorem W219 {d : Nat} (H : ∀  (h : am_H) (K : Option am_V → am_H → Prop), (NT (h 572 0) (nr h 572 2)) ∧ (∀ (h' : am_H), (∀ x i, ¬ (x = 571 ∧ i = 21) → x ≠ 581 → x ≠ 582 → h' x i = h x i) ∧ RLn h' (nr h 572 2) → K (none) (h')) → am_AT d 219 0 [some (mR 1 12 0 571), none, none] h K) : am_CS d 219 C219 := by
  refine am_CS_of (T := tb219) (mL := 3) (rk := 0) rfl (fun as h K hC => ?_)
  obtain ⟨v0, rfl, hC0⟩ := am_a1_e hC
  obtain ⟨e0, hC1⟩ := am_oc_e hC0
  subst e0
  refine ⟨Nat.le_of_ble_eq_true rfl, ?_⟩
  exact H  h K hC1
theorem T219_0 {R : Option am_V → am_H → Prop} {h : am_H} (t : am_AT 3 219 7 [some (mR 1 12 0 571), some (mI 0), none] (am_up h 571 21 0) R) : am_AT 3 219 0 [some (mR 1 12 0 571), none, none] h R :=
  am_T (d := 2) (m := 219) (T := tb219) (mL := 3) (rk := 0) (cuts := [(7, [1, 2, 0]), (21, [1, 2, 2])]) (l := [(198, C198)]) rfl ⟨am_CS_d (by decide) C198_ok, trivial⟩ 9 (t)
theorem T219_7 {R : Option am_V → am_H → Prop} {h : am_H} {x1 : Int} (t : (R32 x1) ∧ (((h 572 0 ≤ x1) → (R none h)) ∧ ((x1 < h 572 0) → (am_AT 3 219 21 [some (mR 1 12 0 571), some (mI x1), some (mI (x1 + 1))] h R)))) : am_AT 3 219 7 [some (mR 1 12 0 571), some (mI x1), none] h R :=
  am_T (d := 2) (m := 219) (T := tb219) (mL := 3) (rk := 0) (cuts := [(7, [1, 2, 0]), (21, [1, 2, 2])]) (l := [(198, C198)]) rfl ⟨am_CS_d (by decide) C198_ok, trivial⟩ 14 (And.intro (⟨by decide, by decide⟩) (And.intro (t).1 (And.intro (fun c6 => ((t).2).1 c6) (fun c6 => ((t).2).2 c6))))
theorem T219_21 {R : Option am_V → am_H → Prop} {h : am_H} {x1 : Int} {x2 : Int} (t : (R32 x2) ∧ (((h 572 0 ≤ x2) → (am_AT 3 219 7 [some (mR 1 12 0 571), some (mI (x1 + 1)), none] h R)) ∧ ((x2 < h 572 0) → ((R32 x1) ∧ ((R32 x2) ∧ (((0 ≤ x1 ∧ x1 < 20) ∧ (0 ≤ x2 ∧ x2 < 32)) ∧ (((¬ (bit (h 572 (2 + x1)) x2)) → (am_AT 3 219 21 [some (mR 1 12 0 571), some (mI x1), some (mI (x2 + 1))] h R)) ∧ ((bit (h 572 (2 + x1)) x2) → ((0 ≤ h 571 21 ∧ h 571 21 < 190) ∧ ((R32 x1) ∧ ((0 ≤ (am_up h 581 (h 571 21) x1) 571 21 ∧ (am_up h 581 (h 571 21) x1) 571 21 < 190) ∧ ((R32 x2) ∧ ((R32 (((am_up (am_up h 581 (h 571 21) x1) 582 ((am_up h 581 (h 571 21) x1) 571 21) x2) 571 21) + 1)) ∧ (am_AT 3 219 21 [some (mR 1 12 0 571), some (mI x1), some (mI (x2 + 1))] (am_up (am_up (am_up h 581 (h 571 21) x1) 582 ((am_up h 581 (h 571 21) x1) 571 21) x2) 571 21 (((am_up (am_up h 581 (h 571 21) x1) 582 ((am_up h 581 (h 571 21) x1) 571 21) x2) 571 21) + 1)) R)))))))))))))) : am_AT 3 219 21 [some (mR 1 12 0 571), some (mI x1), some (mI x2)] h R :=
  am_T (d := 2) (m := 219) (T := tb219) (mL := 3) (rk := 0) (cuts := [(7, [1, 2, 0]), (21, [1, 2, 2])]) (l := [(198, C198)]) rfl ⟨am_CS_d (by decide) C198_ok, trivial⟩ 35 (And.intro (⟨by decide, by decide⟩) (And.intro (t).1 (And.intro (fun c7 => ((t).2).1 c7) (fun c7 => And.intro (((t).2).2 c7).1 (And.intro ((((t).2).2 c7).2).1 (And.intro (rfl) (And.intro (((((t).2).2 c7).2).2).1 (And.intro (fun c8 => ((((((t).2).2 c7).2).2).2).1 c8) (fun c8 => And.intro (((((((t).2).2 c7).2).2).2).2 c8).1 (And.intro ((((((((t).2).2 c7).2).2).2).2 c8).2).1 (And.intro (((((((((t).2).2 c7).2).2).2).2 c8).2).2).1 (And.intro ((((((((((t).2).2 c7).2).2).2).2 c8).2).2).2).1 (And.intro (((((((((((t).2).2 c7).2).2).2).2 c8).2).2).2).2).1 ((((((((((((t).2).2 c7).2).2).2).2 c8).2).2).2).2).2))))))))))))))
theorem L219 {K : Option am_V → am_H → Prop} {h : am_H} (hN : NT (h 572 0) (nr h 572 2)) (hK : ∀ h' : am_H, (∀ x i, ¬ (x = 571 ∧ i = 21) → x ≠ 581 → x ≠ 582 → h' x i = h x i) ∧ RLn h' (nr h 572 2) → K none h') : ∀ (a : Int) (hh : am_H), 0 ≤ a → a ≤ h 572 0 → (∀ x i, ¬ (x = 571 ∧ i = 21) → x ≠ 581 → x ≠ 582 → hh x i = h x i) → hh 571 21 = lix (nr h 572 2) a a → (∀ k, 0 ≤ k → k < lix (nr h 572 2) a a → hh 581 k = lo (nr h 572 2) k ∧ hh 582 k = hi (nr h 572 2) k) → am_AT 3 219 7 [some (mR 1 12 0 571), some (mI a), none] hh K := by
  have hn1 := hN.1
  have hn2 := hN.2.1
  generalize hr : nr h 572 2 = r at *
  refine lp (h 572 0) (fun a ih hh a0 a1 f1 f2 f3 => ?_)
  have e1 : hh 572 0 = h 572 0 := f1 _ _ (by omega) (by omega) (by omega)
  refine T219_7 ⟨by omega, ⟨fun c1 => ?_, fun c1 => ?_⟩⟩
  · have ea : lix r a a = nl r := by
      rw [lix_beg a0 (by omega), show a = h 572 0 by omega]
      unfold nl
      rw [show (20 : Nat) = (h 572 0).toNat + (20 - (h 572 0).toNat) by omega]
      have z : ∀ j : Nat, sm (up r) ((h 572 0).toNat + j) = sm (up r) (h 572 0).toNat := by
        intro j
        induction j with
        | zero => rfl
        | succ j ihj =>
          rw [show (h 572 0).toNat + (j + 1) = ((h 572 0).toNat + j) + 1 by omega, sm_succ, ihj]
          have : up r (((h 572 0).toNat + j : Nat) : Int) = 0 := ct_none 20 (fun k hk q => by have := (NT_in hN q.2).1; omega)
          omega
      exact (z _).symm
    rw [ea] at f2 f3
    exact hK hh ⟨f1, f2, f3⟩
  · have L : ∀ (b : Int) (g : am_H), a + 1 ≤ b → b ≤ h 572 0 → (∀ x i, ¬ (x = 571 ∧ i = 21) → x ≠ 581 → x ≠ 582 → g x i = h x i) → g 571 21 = lix r a b → (∀ k, 0 ≤ k → k < lix r a b → g 581 k = lo r k ∧ g 582 k = hi r k) → am_AT 3 219 21 [some (mR 1 12 0 571), some (mI a), some (mI b)] g K := by
      refine lp (h 572 0) (fun b ih2 g b0 b1 g1 g2 g3 => ?_)
      have e2 : g 572 0 = h 572 0 := g1 _ _ (by omega) (by omega) (by omega)
      have e3 : g 572 (2 + a) = r a := by
        rw [← hr, nr_in a0 (by omega)]
        exact g1 _ _ (by omega) (by omega) (by omega)
      have hlx := lix_nn r a b
      have hl2 : bit (g 572 (2 + a)) b → lix r a b < 190 := fun q => by
        rw [e3] at q
        have := (NT_in hN (show ad r a b from q)).2
        have := lix_lt a0 (by omega) (by omega) (show ad r a b from q)
        have := nl_r r
        omega
      refine T219_21 ⟨by omega, ⟨fun c1 => ?_, fun c1 => ⟨by omega, ⟨by omega, ⟨by omega, ⟨fun c2 => ?_, fun c2 => ⟨by have := hl2 c2; omega, ⟨by omega, ⟨by simp (disch := omega) only [am_up_ne]; have := hl2 c2; omega, ⟨by omega, ⟨by simp (disch := omega) only [am_up_ne]; have := hl2 c2; omega, ?_⟩⟩⟩⟩⟩⟩⟩⟩⟩⟩⟩
      · have eb : lix r a b = lix r (a + 1) (a + 1) := by rw [lix_end hN a0 (by omega) (by omega), lix_beg (by omega) (by omega)]
        rw [eb] at g2 g3
        exact ih (by omega) g (by omega) (by omega) g1 g2 g3
      · have hna : ¬ ad r a b := fun q => c2 (by rw [e3]; exact q)
        have eb : lix r a (b + 1) = lix r a b := by rw [lix_s (by omega), am_b_f (fun q => hna q.2)]; omega
        exact ih2 (by omega) g (by omega) (by omega) g1 (by rw [eb]; exact g2) (fun k k0 k1 => g3 k k0 (by omega))
      · have hab : ad r a b := by unfold ad; rw [← e3]; exact c2
        have eb : lix r a (b + 1) = lix r a b + 1 := by rw [lix_s (by omega), am_b_t ⟨by omega, hab⟩]
        have ell := lo_lix a0 (by omega) (by omega) hab
        simp (disch := omega) only [am_up_ne]
        rw [g2]
        refine ih2 (by omega) _ (by omega) (by omega) (fun x i hx1 hx2 hx3 => ?_) ?_ (fun k k0 k1 => ?_)
        · rw [am_up_n2 hx1, am_up_ne hx3, am_up_ne hx2]
          exact g1 x i hx1 hx2 hx3
        · rw [am_up_eq]
          exact eb.symm
        · simp (disch := omega) only [am_up_ne]
          by_cases q : k = lix r a b
          · rw [q, am_up_eq, am_up_eq]
            exact ⟨ell.1.symm, ell.2.symm⟩
          · simp (disch := omega) only [am_up_ne, am_up_ne2]
            exact g3 k k0 (by omega)
    have eb : lix r a (a + 1) = lix r a a := by rw [lix_beg a0 (by omega), lix_beg a0 (by omega)]
    exact L (a + 1) hh (by omega) (by omega) f1 (by rw [eb]; exact f2) (fun k k0 k1 => f3 k k0 (by omega))
theorem C219_ok : am_CS 3 219 C219 := W219 (fun h K hb => T219_0 (by
  obtain ⟨hN, hK⟩ := hb
  have e0 : lix (nr h 572 2) 0 0 = 0 := lix_beg (by omega) (by omega)
  exact L219 hN hK 0 _ (by omega) hN.1 (fun x i hx _ _ => am_up_n2 hx) (by rw [am_up_eq, e0]) (fun k k0 k1 => by omega)))
/-! 227 FactorNetsModel.lineOf -/
def C227 : am_K := fun as h K => am_a3 as (fun v0 v1 v2 => am_oc 12 571 v0 (am_n v1 (fun p => am_n v2 (fun q => (NT (h 572 0) (nr h 572 2) ∧ RLn h (nr h 572 2) ∧ (0 ≤ p ∧ p < h 572 0) ∧ (0 ≤ q ∧ q < h 572 0)) ∧ (K (some (mB (lno (nr h 572 2) p q))) h)))))
theorem W227 {d : Nat} (H : ∀ (p : Int) (q : Int) (h : am_H) (K : Option am_V → am_H → Prop), (NT (h 572 0) (nr h 572 2) ∧ RLn h (nr h 572 2) ∧ (0 ≤ p ∧ p < h 572 0) ∧ (0 ≤ q ∧ q < h 572 0)) ∧ (K (some (mB (lno (nr h 572 2) p q))) h) → am_AT d 227 0 [some (mR 1 12 0 571), some (mB p), some (mB q), none] h K) : am_CS d 227 C227 := by
  refine am_CS_of (T := tb227) (mL := 4) (rk := 1) rfl (fun as h K hC => ?_)
  obtain ⟨v0, v1, v2, rfl, hC0⟩ := am_a3_e hC
  obtain ⟨e0, hC1⟩ := am_oc_e hC0
  subst e0
  obtain ⟨p, rfl, hC2⟩ := am_n_e hC1
  obtain ⟨q, rfl, hC3⟩ := am_n_e hC2
  refine ⟨Nat.le_of_ble_eq_true rfl, ?_⟩
  exact H p q h K hC3
theorem T227_0 {R : Option am_V → am_H → Prop} {h : am_H} {p : Int} {q : Int} (t : am_AT 1 227 2 [some (mR 1 12 0 571), some (mB p), some (mB q), some (mI 0)] h R) : am_AT 1 227 0 [some (mR 1 12 0 571), some (mB p), some (mB q), none] h R :=
  am_T (d := 0) (m := 227) (T := tb227) (mL := 4) (rk := 1) (cuts := [(2, [1, 1, 1, 2])]) (l := []) rfl trivial 6 (t)
theorem T227_2 {R : Option am_V → am_H → Prop} {h : am_H} {p : Int} {q : Int} {x3 : Int} (t : (R32 x3) ∧ (((h 571 21 ≤ x3) → (R (some (mB (-1))) h)) ∧ ((x3 < h 571 21) → ((0 ≤ x3 ∧ x3 < 190) ∧ (((¬ h 581 x3 = min p q) → (am_AT 1 227 2 [some (mR 1 12 0 571), some (mB p), some (mB q), some (mI (x3 + 1))] h R)) ∧ ((h 581 x3 = min p q) → ((0 ≤ x3 ∧ x3 < 190) ∧ (((¬ h 582 x3 = max p q) → (am_AT 1 227 2 [some (mR 1 12 0 571), some (mB p), some (mB q), some (mI (x3 + 1))] h R)) ∧ ((h 582 x3 = max p q) → ((R32 x3) ∧ (R (some (mB x3)) h))))))))))) : am_AT 1 227 2 [some (mR 1 12 0 571), some (mB p), some (mB q), some (mI x3)] h R :=
  am_T (d := 0) (m := 227) (T := tb227) (mL := 4) (rk := 1) (cuts := [(2, [1, 1, 1, 2])]) (l := []) rfl trivial 26 (And.intro (t).1 (And.intro (fun c9 => ((t).2).1 c9) (fun c9 => And.intro (((t).2).2 c9).1 (And.intro (fun c10 => ((((t).2).2 c9).2).1 c10) (fun c10 => And.intro (((((t).2).2 c9).2).2 c10).1 (And.intro (fun c11 => ((((((t).2).2 c9).2).2 c10).2).1 c11) (fun c11 => And.intro (((((((t).2).2 c9).2).2 c10).2).2 c11).1 ((((((((t).2).2 c9).2).2 c10).2).2 c11).2))))))))
theorem L227 {K : Option am_V → am_H → Prop} {h : am_H} {n p q : Int} {r : Int → Int} (hN : NT n r) (hL : RLn h r) (hp : 0 ≤ p ∧ p < n) (hq : 0 ≤ q ∧ q < n) (hK : K (some (mB (lno r p q))) h) : ∀ k, 0 ≤ k → k ≤ nl r → (∀ j, 0 ≤ j → j < k → ¬ (lo r j = min p q ∧ hi r j = max p q)) → am_AT 1 227 2 [some (mR 1 12 0 571), some (mB p), some (mB q), some (mI k)] h K := by
  have hn := nl_r r
  refine lp (nl r) (fun k ih k0 k1 hno => ?_)
  have e1 := hL.1
  refine T227_2 ⟨by omega, ⟨fun c1 => ?_, fun c1 => ⟨by omega, ⟨fun c2 => ?_, fun c2 => ⟨by omega, ⟨fun c3 => ?_, fun c3 => ⟨by omega, ?_⟩⟩⟩⟩⟩⟩⟩
  · refine am_rB hK (lno_f (fun e => ?_))
    have := lno_ok hN e
    exact hno _ this.1.1 (by omega) this.2
  · have e2 := (hL.2 k k0 (by omega)).1
    refine ih (by omega) (by omega) (by omega) (fun j j0 j1 q => ?_)
    by_cases e : j = k
    · rw [e, ← e2] at q
      exact c2 q.1
    · exact hno j j0 (by omega) q
  · have e2 := (hL.2 k k0 (by omega)).2
    refine ih (by omega) (by omega) (by omega) (fun j j0 j1 q => ?_)
    by_cases e : j = k
    · rw [e, ← e2] at q
      exact c3 q.2
    · exact hno j j0 (by omega) q
  · have e2 := hL.2 k k0 (by omega)
    refine am_rB hK ?_
    obtain ⟨a1, a2, a3⟩ := lo_ok k0 (show k < nl r by omega)
    rw [e2.1] at c2
    rw [e2.2] at c3
    have hadj : ad r p q := by
      by_cases c : p < q
      · rw [show min p q = p by omega] at c2
        rw [show max p q = q by omega] at c3
        rw [← c2, ← c3]
        exact a2
      · rw [show min p q = q by omega] at c2
        rw [show max p q = p by omega] at c3
        rw [← c2, ← c3]
        exact NT_sym hN _ _ a2
    rw [lno_t hadj, ← c2, ← c3]
    exact a3
theorem C227_ok : am_CS 1 227 C227 := W227 (fun p q h K hb => T227_0 (by
  obtain ⟨⟨hN, hL, hp, hq⟩, hK⟩ := hb
  exact L227 hN hL hp hq hK 0 (by omega) (nl_r _).1 (fun j j0 j1 => by omega)))
