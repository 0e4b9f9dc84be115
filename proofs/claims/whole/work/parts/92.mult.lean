/-! ===== products ===== -/
def cpb (k m q o : Int) : Prop := (0 ≤ o ∧ o < m) ∧ q ≠ o ∧ (k = 2 ∨ o = q + 1 ∨ q = o + 1 ∨ (k = 1 ∧ (o = q + (m - 1) ∨ q = o + (m - 1))))
def MX0 (n : Int) (r : Int → Int) (m a b : Int) : Prop := (0 ≤ a ∧ a < n * m) ∧ a / n = b / n ∧ ad r (a % n) (b % n)
def MX (n : Int) (r : Int → Int) (k m a b : Int) : Prop := ((0 ≤ a ∧ a < n * m) ∧ (0 ≤ b ∧ b < n * m)) ∧ ((a / n = b / n ∧ ad r (a % n) (b % n)) ∨ (a % n = b % n ∧ cpb k m (a / n) (b / n)))
noncomputable def mul (n : Int) (r : Int → Int) (k m : Int) : Int → Int := rw2 (MX n r k m)
theorem cpb_sym {k m q o : Int} (hq : 0 ≤ q ∧ q < m) (h : cpb k m q o) : cpb k m o q := by unfold cpb at *; omega
theorem dv {n a p q : Int} (hp : 0 ≤ p ∧ p < n) (e : a = p + n * q) : a / n = q ∧ a % n = p := by
  subst e
  constructor
  · rw [Int.add_mul_ediv_left _ _ (by omega), Int.ediv_eq_zero_of_lt hp.1 hp.2, Int.zero_add]
  · rw [Int.add_mul_emod_self_left, Int.emod_eq_of_lt hp.1 hp.2]
theorem dvx {n a : Int} (hn : 1 ≤ n) : a = a % n + n * (a / n) ∧ 0 ≤ a % n ∧ a % n < n := ⟨(Int.emod_add_mul_ediv a n).symm, Int.emod_nonneg a (by omega), Int.emod_lt_of_pos a (by omega)⟩
theorem dvq {n m a : Int} (hn : 1 ≤ n) (h : 0 ≤ a ∧ a < n * m) : 0 ≤ a / n ∧ a / n < m := ⟨Int.ediv_nonneg h.1 (by omega), Int.ediv_lt_of_lt_mul (by omega) (by rw [Int.mul_comm]; exact h.2)⟩
theorem dvl {n m p q : Int} (hp : 0 ≤ p ∧ p < n) (hq : 0 ≤ q ∧ q < m) : 0 ≤ n * q ∧ n * q + n ≤ n * m ∧ (0 ≤ p + n * q ∧ p + n * q < n * m) := by
  have h1 := Int.mul_le_mul_of_nonneg_left (show q + 1 ≤ m by omega) (show 0 ≤ n by omega)
  rw [Int.mul_add, Int.mul_one] at h1
  have h2 := Int.mul_nonneg (show 0 ≤ n by omega) hq.1
  omega
section MU
variable {n : Int} {r : Int → Int} {k m : Int}
theorem MX0_b (hn : 1 ≤ n) (hN : NT n r) {p q b : Int} (hp : 0 ≤ p ∧ p < n) (hq : 0 ≤ q ∧ q < m) : MX0 n r m (p + n * q) b ↔ n * q ≤ b ∧ bit (r p) (b - n * q) := by
  have d := dv (n := n) (a := p + n * q) hp rfl
  have l := dvl hp hq
  constructor
  · intro w
    have x := dvx (n := n) (a := b) hn
    have w1 := w.2.1
    have w2 := w.2.2
    rw [d.1] at w1
    rw [d.2] at w2
    rw [← w1] at x
    exact ⟨by omega, by rw [show b - n * q = b % n by omega]; exact w2⟩
  · intro w
    have i := NT_in hN (show ad r p (b - n * q) from w.2)
    have e := dv (n := n) (a := b) (p := b - n * q) (q := q) i.2 (by omega)
    exact ⟨l.2.2, by rw [d.1, e.1], by rw [d.2, e.2]; exact w.2⟩
theorem mul_row (hn : 1 ≤ n) (hm : 2 ≤ m ∧ m ≤ 20) (hnm : n * m ≤ 20) (hN : NT n r) {p q : Int} (hp : 0 ≤ p ∧ p < n) (hq : 0 ≤ q ∧ q < m) : iOr (iShl (r p) (n * q)) (mkb (fun b9 => ∃ q9, (0 ≤ q9 ∧ q9 < m) ∧ bit (mkb (cpb k m q)) q9 ∧ b9 = p + n * q9)) = mkb (MX n r k m (p + n * q)) := by
  have d := dv (n := n) (a := p + n * q) hp rfl
  have l := dvl hp hq
  refine mkb_eq (rg_or _ _) (fun j => ?_)
  rw [bt_or, bt_shl (by omega) (by omega), bt_mk]
  constructor
  · intro w
    rcases w with ⟨a, b, c⟩ | ⟨a, q9, b, c, e⟩
    · have i := NT_in hN (show ad r p (j - n * q) from c)
      have ej := dv (n := n) (a := j) (p := j - n * q) (q := q) i.2 (by omega)
      exact ⟨by omega, ⟨l.2.2, by omega⟩, Or.inl ⟨by rw [d.1, ej.1], by rw [d.2, ej.2]; exact c⟩⟩
    · have ej := dv (n := n) (a := j) (p := p) (q := q9) hp e
      have l9 := dvl (n := n) (m := m) hp b
      have cc := (bt_mk.mp c).2
      exact ⟨a, ⟨l.2.2, by omega⟩, Or.inr ⟨by rw [d.2, ej.2], by rw [d.1, ej.1]; exact cc⟩⟩
  · intro w
    obtain ⟨a, ⟨ra, rb⟩, w⟩ := w
    have x := dvx (n := n) (a := j) hn
    have y := dvq hn rb
    rcases w with ⟨e, c⟩ | ⟨e, c⟩
    · rw [d.1] at e
      rw [d.2] at c
      rw [← e] at x
      exact Or.inl ⟨by omega, by omega, by rw [show j - n * q = j % n by omega]; exact c⟩
    · rw [d.2] at e
      rw [d.1] at c
      refine Or.inr ⟨a, j / n, y, bt_mk.mpr ⟨by omega, c⟩, ?_⟩
      rw [← e] at x
      exact x.1
theorem ad_mul (hnm : n * m ≤ 20) (a b : Int) : ad (mul n r k m) a b ↔ MX n r k m a b := ad_rw2 (fun p q w => by have := w.1.2; omega) a b
theorem MX_sym (hn : 1 ≤ n) (hN : NT n r) {a b : Int} (w : MX n r k m a b) : MX n r k m b a := ⟨⟨w.1.2, w.1.1⟩, w.2.elim (fun z => Or.inl ⟨z.1.symm, NT_sym hN _ _ z.2⟩) (fun z => Or.inr ⟨z.1.symm, cpb_sym (dvq hn w.1.1) z.2⟩)⟩
theorem NT_mul (hn : 1 ≤ n) (hm : 2 ≤ m) (hnm : n * m ≤ 20) (hN : NT n r) : NT (n * m) (mul n r k m) := by
  have := Int.mul_nonneg (show 0 ≤ n by omega) (show 0 ≤ m by omega)
  refine ⟨this, hnm, fun a b e => ?_⟩
  have w := (ad_mul hnm a b).mp e
  refine ⟨w.1.1, w.1.2, fun z => ?_, (ad_mul hnm b a).mpr (MX_sym hn hN w)⟩
  rw [z] at w
  rcases w.2 with ⟨_, c⟩ | ⟨_, c⟩
  · exact (hN.2.2 _ _ c).2.2.1 rfl
  · exact c.2.1 rfl
theorem rc_cp (hnm : n * m ≤ 20) {p : Int} (hp : 0 ≤ p ∧ p < n) : ∀ q : Nat, (q : Int) < m → rc (ad (mul n r k m)) p (p + n * q)
  | 0, _ => by rw [show p + n * ((0 : Nat) : Int) = p by omega]; exact rc_refl
  | q + 1, h => by
    have w := rc_cp hnm hp q (by omega)
    refine rc_step w ((ad_mul hnm _ _).mpr ?_)
    have d1 := dv (n := n) (a := p + n * (q : Int)) hp rfl
    have d2 := dv (n := n) (a := p + n * ((q + 1 : Nat) : Int)) hp rfl
    have l1 := dvl (n := n) (m := m) (q := (q : Int)) hp (by omega)
    have l2 := dvl (n := n) (m := m) (q := ((q + 1 : Nat) : Int)) hp (by omega)
    refine ⟨⟨l1.2.2, l2.2.2⟩, Or.inr ⟨by rw [d1.2, d2.2], ?_⟩⟩
    rw [d1.1, d2.1]
    unfold cpb
    omega
theorem CN_mul (hn : 1 ≤ n) (hm : 2 ≤ m) (hnm : n * m ≤ 20) (hN : NT n r) (hC : CN n r) : CN (n * m) (mul n r k m) := fun a a0 a1 => by
  have x := dvx (n := n) (a := a) hn
  have y := dvq hn ⟨a0, a1⟩
  have h1 : rc (ad (mul n r k m)) 0 (a % n) := by
    refine (rc_in (P := fun z => (0 ≤ z ∧ z < n) ∧ rc (ad (mul n r k m)) 0 z) (fun u v hu e => ?_) ⟨⟨by omega, by omega⟩, rc_refl⟩ (hC (a % n) x.2.1 x.2.2)).2
    have i := NT_in hN e
    refine ⟨i.2, rc_step hu.2 ((ad_mul hnm _ _).mpr ⟨⟨?_, ?_⟩, Or.inl ⟨?_, ?_⟩⟩)⟩
    · have := dvl (n := n) (m := m) (q := 0) i.1 (by omega); omega
    · have := dvl (n := n) (m := m) (q := 0) i.2 (by omega); omega
    · rw [Int.ediv_eq_zero_of_lt i.1.1 i.1.2, Int.ediv_eq_zero_of_lt i.2.1 i.2.2]
    · rw [Int.emod_eq_of_lt i.1.1 i.1.2, Int.emod_eq_of_lt i.2.1 i.2.2]; exact e
  have h2 := rc_cp (r := r) (k := k) hnm ⟨x.2.1, x.2.2⟩ (a / n).toNat (by omega)
  rw [show (((a / n).toNat : Nat) : Int) = a / n by omega, ← x.1] at h2
  exact rc_trans h1 h2
end MU
def LX (q o p q' o' p' : Int) : Prop := q' < q ∨ (q' = q ∧ (o' < o ∨ (o' = o ∧ p' < p)))
def TD (n k m q o p a b : Int) : Prop := ((0 ≤ a ∧ a < n * m) ∧ (0 ≤ b ∧ b < n * m)) ∧ a % n = b % n ∧ cpb k m (a / n) (b / n) ∧ ((b / n < a / n ∧ LX q o p (a / n) (b / n) (a % n)) ∨ (a / n < b / n ∧ LX q o p (b / n) (a / n) (a % n)))
theorem TD_st {n k m q o p a b : Int} (hp : 0 ≤ p ∧ p < n) (ho : 0 ≤ o ∧ o < q) (hq : q < m) (hc : cpb k m q o) : TD n k m q o (p + 1) a b ↔ TD n k m q o p a b ∨ (a = p + n * q ∧ b = p + n * o) ∨ (a = p + n * o ∧ b = p + n * q) := by
  have dq := dv (n := n) (a := p + n * q) hp rfl
  have do' := dv (n := n) (a := p + n * o) hp rfl
  have lq := dvl (n := n) (m := m) (q := q) hp (by omega)
  have lo' := dvl (n := n) (m := m) (q := o) hp (by omega)
  have xa := dvx (n := n) (a := a) (by omega)
  have xb := dvx (n := n) (a := b) (by omega)
  constructor
  · intro w
    obtain ⟨rg, e, cc, w⟩ := w
    unfold LX at w
    by_cases z : a % n = p
    · rcases w with ⟨w1, w2⟩ | ⟨w1, w2⟩
      · by_cases y : a / n = q ∧ b / n = o
        · right; left
          rw [y.1, z] at xa
          rw [y.2, ← e, z] at xb
          exact ⟨xa.1, xb.1⟩
        · left; exact ⟨rg, e, cc, Or.inl ⟨w1, by unfold LX; omega⟩⟩
      · by_cases y : b / n = q ∧ a / n = o
        · right; right
          rw [y.2, z] at xa
          rw [y.1, ← e, z] at xb
          exact ⟨xa.1, xb.1⟩
        · left; exact ⟨rg, e, cc, Or.inr ⟨w1, by unfold LX; omega⟩⟩
    · left; exact ⟨rg, e, cc, by unfold LX; omega⟩
  · intro w
    rcases w with w | w | w
    · obtain ⟨rg, e, cc, w⟩ := w
      unfold LX at w
      exact ⟨rg, e, cc, by unfold LX; omega⟩
    · obtain ⟨rfl, rfl⟩ := w
      refine ⟨⟨lq.2.2, lo'.2.2⟩, by rw [dq.2, do'.2], ?_⟩
      rw [dq.1, do'.1, dq.2]
      exact ⟨hc, Or.inl ⟨ho.2, by unfold LX; omega⟩⟩
    · obtain ⟨rfl, rfl⟩ := w
      refine ⟨⟨lo'.2.2, lq.2.2⟩, by rw [dq.2, do'.2], ?_⟩
      rw [dq.1, do'.1, do'.2]
      exact ⟨cpb_sym (by omega) hc, Or.inr ⟨ho.2, by unfold LX; omega⟩⟩
theorem TD_no {n k m q o p a b : Int} (hn : 1 ≤ n) (hq : 0 ≤ q ∧ q < m) (ho : 0 ≤ o ∧ o < m) (hc : ¬ cpb k m q o) : TD n k m q (o + 1) 0 a b ↔ TD n k m q o p a b := by
  constructor
  · intro w
    obtain ⟨rg, e, cc, w⟩ := w
    refine ⟨rg, e, cc, ?_⟩
    have h1 : ¬ (a / n = q ∧ b / n = o) := fun z => hc (by rw [z.1, z.2] at cc; exact cc)
    have h2 : ¬ (a / n = o ∧ b / n = q) := fun z => hc (by rw [z.1, z.2] at cc; exact cpb_sym ho cc)
    have xa := dvx (n := n) (a := a) hn
    unfold LX at *
    omega
  · intro w
    obtain ⟨rg, e, cc, w⟩ := w
    refine ⟨rg, e, cc, ?_⟩
    unfold LX at *
    omega
theorem TD_nx {n k m q o a b : Int} (hn : 1 ≤ n) : TD n k m q (o + 1) 0 a b ↔ TD n k m q o n a b := by
  have xa := dvx (n := n) (a := a) hn
  constructor
  · intro w
    obtain ⟨rg, e, cc, w⟩ := w
    refine ⟨rg, e, cc, ?_⟩
    unfold LX at *
    omega
  · intro w
    obtain ⟨rg, e, cc, w⟩ := w
    refine ⟨rg, e, cc, ?_⟩
    unfold LX at *
    omega
theorem TD_nq {n k m q a b : Int} (hn : 1 ≤ n) : TD n k m (q + 1) 0 0 a b ↔ TD n k m q q 0 a b := by
  have xa := dvx (n := n) (a := a) hn
  constructor
  · intro w
    obtain ⟨rg, e, cc, w⟩ := w
    refine ⟨rg, e, cc, ?_⟩
    have := dvq hn rg.1
    have := dvq hn rg.2
    unfold LX at *
    omega
  · intro w
    obtain ⟨rg, e, cc, w⟩ := w
    refine ⟨rg, e, cc, ?_⟩
    unfold LX at *
    omega
theorem TD_end {n k m a b : Int} {r : Int → Int} (hn : 1 ≤ n) (hN : NT n r) : (MX0 n r m a b ∨ TD n k m m 0 0 a b) ↔ MX n r k m a b := by
  constructor
  · intro w
    rcases w with w | w
    · have xa := dvx (n := n) (a := a) hn
      have xb := dvx (n := n) (a := b) hn
      have y := dvq hn w.1
      rw [← w.2.1] at xb
      have l := dvl (n := n) (m := m) (q := a / n) xb.2 y
      exact ⟨⟨w.1, by omega⟩, Or.inl w.2⟩
    · exact ⟨w.1, Or.inr ⟨w.2.1, w.2.2.1⟩⟩
  · intro w
    rcases w.2 with z | z
    · exact Or.inl ⟨w.1.1, z⟩
    · refine Or.inr ⟨w.1, z.1, z.2, ?_⟩
      have y1 := dvq hn w.1.1
      have y2 := dvq hn w.1.2
      have ne := z.2.2.1
      unfold LX
      omega
theorem TD_0 {n k m a b : Int} (hn : 1 ≤ n) : ¬ TD n k m 0 0 0 a b := fun w => by
  obtain ⟨rg, e, cc, w⟩ := w
  have := dvq hn rg.1
  have := dvq hn rg.2
  have xa := dvx (n := n) (a := a) hn
  unfold LX at w
  omega
theorem bt_two {q n j : Int} (hq : 0 ≤ q ∧ q < n) (hn : n ≤ 20) : bit (iAnd (iOr (iShl (iShl 1 q) 1) (iShr (iShl 1 q) 1)) ((iShl 1 n) - 1)) j ↔ (0 ≤ j ∧ j < n) ∧ (j = q + 1 ∨ q = j + 1) := by
  rw [bt_and, bt_all (by omega) (by omega)]
  constructor
  · intro w
    refine ⟨w.2, ?_⟩
    have a := bt_or.mp w.1
    rw [bt_shl (by omega) (by omega), bt_1 hq.1 (by omega), bt_shr (by omega) w.2.1 (by omega), bt_1 hq.1 (by omega)] at a
    omega
  · intro w
    refine ⟨bt_or.mpr ?_, w.1⟩
    rw [bt_shl (by omega) (by omega), bt_1 hq.1 (by omega), bt_shr (by omega) w.1.1 (by omega), bt_1 hq.1 (by omega)]
    omega
/-! 31 FactorNets$Net.copiesBeside -/
def C31 : am_K := fun as h K => am_a3 as (fun v0 v1 v2 => am_n v0 (fun k => am_n v1 (fun n => am_n v2 (fun q => ((2 ≤ n ∧ n ≤ 20) ∧ (0 ≤ k ∧ k ≤ 2) ∧ (0 ≤ q ∧ q < n)) ∧ (K (some (mB (mkb (cpb k n q)))) h)))))
theorem W31 {d : Nat} (H : ∀ (k : Int) (n : Int) (q : Int) (h : am_H) (K : Option am_V → am_H → Prop), ((2 ≤ n ∧ n ≤ 20) ∧ (0 ≤ k ∧ k ≤ 2) ∧ (0 ≤ q ∧ q < n)) ∧ (K (some (mB (mkb (cpb k n q)))) h) → am_AT d 31 0 [some (mB k), some (mB n), some (mB q), none, none] h K) : am_CS d 31 C31 := by
  refine am_CS_of (T := tb31) (mL := 5) (rk := 1) rfl (fun as h K hC => ?_)
  obtain ⟨v0, v1, v2, rfl, hC0⟩ := am_a3_e hC
  obtain ⟨k, rfl, hC1⟩ := am_n_e hC0
  obtain ⟨n, rfl, hC2⟩ := am_n_e hC1
  obtain ⟨q, rfl, hC3⟩ := am_n_e hC2
  refine ⟨Nat.le_of_ble_eq_true rfl, ?_⟩
  exact H k n q h K hC3
theorem T31_0 {R : Option am_V → am_H → Prop} {h : am_H} {k : Int} {n : Int} {q : Int} (t : ((¬ k = 2) → (((¬ k = 1) → (((¬ k = 1) → (R (some (mB (iAnd (iOr (iShl (iShl 1 q) 1) (iShr (iShl 1 q) 1)) ((iShl 1 n) - 1)))) h)) ∧ ((k = 1) → ((R32 (n - 1)) ∧ (((¬ q = n - 1) → (R (some (mB (iAnd (iOr (iShl (iShl 1 q) 1) (iShr (iShl 1 q) 1)) ((iShl 1 n) - 1)))) h)) ∧ ((q = n - 1) → (R (some (mB (iOr (iAnd (iOr (iShl (iShl 1 q) 1) (iShr (iShl 1 q) 1)) ((iShl 1 n) - 1)) 1))) h))))))) ∧ ((k = 1) → (((¬ q = 0) → (((¬ k = 1) → (R (some (mB (iAnd (iOr (iShl (iShl 1 q) 1) (iShr (iShl 1 q) 1)) ((iShl 1 n) - 1)))) h)) ∧ ((k = 1) → ((R32 (n - 1)) ∧ (((¬ q = n - 1) → (R (some (mB (iAnd (iOr (iShl (iShl 1 q) 1) (iShr (iShl 1 q) 1)) ((iShl 1 n) - 1)))) h)) ∧ ((q = n - 1) → (R (some (mB (iOr (iAnd (iOr (iShl (iShl 1 q) 1) (iShr (iShl 1 q) 1)) ((iShl 1 n) - 1)) 1))) h))))))) ∧ ((q = 0) → (((¬ k = 1) → (R (some (mB (iOr (iAnd (iOr (iShl (iShl 1 q) 1) (iShr (iShl 1 q) 1)) ((iShl 1 n) - 1)) (iShl 1 (n - 1))))) h)) ∧ ((k = 1) → ((R32 (n - 1)) ∧ (((¬ q = n - 1) → (R (some (mB (iOr (iAnd (iOr (iShl (iShl 1 q) 1) (iShr (iShl 1 q) 1)) ((iShl 1 n) - 1)) (iShl 1 (n - 1))))) h)) ∧ ((q = n - 1) → (R (some (mB (iOr (iOr (iAnd (iOr (iShl (iShl 1 q) 1) (iShr (iShl 1 q) 1)) ((iShl 1 n) - 1)) (iShl 1 (n - 1))) 1))) h))))))))))) ∧ ((k = 2) → (R (some (mB (iAnd ((iShl 1 n) - 1) (iXor (iShl 1 q) (-1))))) h))) : am_AT 1 31 0 [some (mB k), some (mB n), some (mB q), none, none] h R :=
  am_T (d := 0) (m := 31) (T := tb31) (mL := 5) (rk := 1) (cuts := []) (l := []) rfl trivial 54 (And.intro (fun c1 => And.intro (fun c2 => And.intro (fun c3 => (((t).1 c1).1 c2).1 c3) (fun c3 => And.intro ((((t).1 c1).1 c2).2 c3).1 (And.intro (fun c4 => (((((t).1 c1).1 c2).2 c3).2).1 c4) (fun c4 => (((((t).1 c1).1 c2).2 c3).2).2 c4)))) (fun c2 => And.intro (fun c5 => And.intro (fun c6 => ((((t).1 c1).2 c2).1 c5).1 c6) (fun c6 => And.intro (((((t).1 c1).2 c2).1 c5).2 c6).1 (And.intro (fun c7 => ((((((t).1 c1).2 c2).1 c5).2 c6).2).1 c7) (fun c7 => ((((((t).1 c1).2 c2).1 c5).2 c6).2).2 c7)))) (fun c5 => And.intro (fun c8 => ((((t).1 c1).2 c2).2 c5).1 c8) (fun c8 => And.intro (((((t).1 c1).2 c2).2 c5).2 c8).1 (And.intro (fun c9 => ((((((t).1 c1).2 c2).2 c5).2 c8).2).1 c9) (fun c9 => ((((((t).1 c1).2 c2).2 c5).2 c8).2).2 c9)))))) (fun c1 => (t).2 c1))
theorem C31_ok : am_CS 1 31 C31 := W31 (fun k n q h K hb => by
  have hn := hb.1.1
  have hk := hb.1.2.1
  have hq := hb.1.2.2
  refine T31_0 ⟨fun c1 => ⟨fun c2 => ⟨fun c3 => ?_, fun c3 => ⟨by omega, ⟨fun c4 => ?_, fun c4 => ?_⟩⟩⟩, fun c2 => ⟨fun c3 => ⟨fun c4 => ?_, fun c4 => ⟨by omega, ⟨fun c5 => ?_, fun c5 => ?_⟩⟩⟩, fun c3 => ⟨fun c4 => ?_, fun c4 => ⟨by omega, ⟨fun c5 => ?_, fun c5 => ?_⟩⟩⟩⟩⟩, fun c1 => ?_⟩
  · refine am_rB hb.2 (mkb_eq (rg_and _ _) (fun j => ?_)).symm
    rw [bt_two hb.1.2.2 (by omega)]
    unfold cpb
    omega
  · exfalso; omega
  · exfalso; omega
  · exfalso; omega
  · refine am_rB hb.2 (mkb_eq (rg_and _ _) (fun j => ?_)).symm
    rw [bt_two hb.1.2.2 (by omega)]
    unfold cpb
    omega
  · refine am_rB hb.2 (mkb_eq (rg_or _ _) (fun j => ?_)).symm
    rw [bt_or, bt_one, bt_two hb.1.2.2 (by omega)]
    unfold cpb
    omega
  · exfalso; omega
  · refine am_rB hb.2 (mkb_eq (rg_or _ _) (fun j => ?_)).symm
    rw [bt_or, bt_1 (by omega) (by omega), bt_two hb.1.2.2 (by omega)]
    unfold cpb
    omega
  · exfalso; omega
  · refine am_rB hb.2 (mkb_eq (rg_and _ _) (fun j => ?_)).symm
    rw [bt_less (by omega), bt_all (by omega) (by omega)]
    unfold cpb
    omega)
/-! 32 FactorNets$Net.spread -/
def C32 : am_K := fun as h K => am_a4 as (fun v0 v1 v2 v3 => am_n v0 (fun cs => am_n v1 (fun p => am_n v2 (fun st => am_n v3 (fun n => ((0 ≤ n ∧ n ≤ 20) ∧ (0 ≤ p ∧ 0 ≤ st ∧ ∀ q9, 0 ≤ q9 → q9 < n → p + st * q9 < 20)) ∧ (K (some (mB (mkb (fun b9 => ∃ q9, (0 ≤ q9 ∧ q9 < n) ∧ bit cs q9 ∧ b9 = p + st * q9)))) h))))))
theorem W32 {d : Nat} (H : ∀ (cs : Int) (p : Int) (st : Int) (n : Int) (h : am_H) (K : Option am_V → am_H → Prop), ((0 ≤ n ∧ n ≤ 20) ∧ (0 ≤ p ∧ 0 ≤ st ∧ ∀ q9, 0 ≤ q9 → q9 < n → p + st * q9 < 20)) ∧ (K (some (mB (mkb (fun b9 => ∃ q9, (0 ≤ q9 ∧ q9 < n) ∧ bit cs q9 ∧ b9 = p + st * q9)))) h) → am_AT d 32 0 [some (mB cs), some (mB p), some (mB st), some (mB n), none, none] h K) : am_CS d 32 C32 := by
  refine am_CS_of (T := tb32) (mL := 6) (rk := 1) rfl (fun as h K hC => ?_)
  obtain ⟨v0, v1, v2, v3, rfl, hC0⟩ := am_a4_e hC
  obtain ⟨cs, rfl, hC1⟩ := am_n_e hC0
  obtain ⟨p, rfl, hC2⟩ := am_n_e hC1
  obtain ⟨st, rfl, hC3⟩ := am_n_e hC2
  obtain ⟨n, rfl, hC4⟩ := am_n_e hC3
  refine ⟨Nat.le_of_ble_eq_true rfl, ?_⟩
  exact H cs p st n h K hC4
theorem T32_0 {R : Option am_V → am_H → Prop} {h : am_H} {cs : Int} {p : Int} {st : Int} {n : Int} (t : am_AT 1 32 6 [some (mB cs), some (mB p), some (mB st), some (mB n), some (mI 0), some (mI 0)] h R) : am_AT 1 32 0 [some (mB cs), some (mB p), some (mB st), some (mB n), none, none] h R :=
  am_T (d := 0) (m := 32) (T := tb32) (mL := 6) (rk := 1) (cuts := [(6, [1, 1, 1, 1, 2, 2])]) (l := []) rfl trivial 8 (t)
theorem T32_6 {R : Option am_V → am_H → Prop} {h : am_H} {cs : Int} {p : Int} {st : Int} {n : Int} {x4 : Int} {x5 : Int} (t : (R32 x5) ∧ (((n ≤ x5) → ((R32 x4) ∧ (R (some (mB x4)) h))) ∧ ((x5 < n) → (((iAnd (iShr cs x5) 1 = 0) → (am_AT 1 32 6 [some (mB cs), some (mB p), some (mB st), some (mB n), some (mI x4), some (mI (x5 + 1))] h R)) ∧ ((¬ iAnd (iShr cs x5) 1 = 0) → (am_AT 1 32 6 [some (mB cs), some (mB p), some (mB st), some (mB n), some (mI (iOr x4 (iShl 1 (p + (st * x5))))), some (mI (x5 + 1))] h R)))))) : am_AT 1 32 6 [some (mB cs), some (mB p), some (mB st), some (mB n), some (mI x4), some (mI x5)] h R :=
  am_T (d := 0) (m := 32) (T := tb32) (mL := 6) (rk := 1) (cuts := [(6, [1, 1, 1, 1, 2, 2])]) (l := []) rfl trivial 25 (And.intro (t).1 (And.intro (fun c10 => And.intro (((t).2).1 c10).1 ((((t).2).1 c10).2)) (fun c10 => And.intro (fun c11 => (((t).2).2 c10).1 c11) (fun c11 => (((t).2).2 c10).2 c11))))
noncomputable def spr (cs p st i : Int) : Int := mkb (fun b9 => ∃ q9, (0 ≤ q9 ∧ q9 < i) ∧ bit cs q9 ∧ b9 = p + st * q9)
theorem L32 {K : Option am_V → am_H → Prop} {h : am_H} {cs p st n : Int} (hn : 0 ≤ n ∧ n ≤ 20) (hp : 0 ≤ p ∧ 0 ≤ st ∧ ∀ q9, 0 ≤ q9 → q9 < n → p + st * q9 < 20) (hK : K (some (mB (spr cs p st n))) h) : ∀ i, 0 ≤ i → i ≤ n → am_AT 1 32 6 [some (mB cs), some (mB p), some (mB st), some (mB n), some (mI (spr cs p st i)), some (mI i)] h K := by
  refine lp n (fun i ih i0 i1 => ?_)
  have rs := mkb_r (fun b9 => ∃ q9, (0 ≤ q9 ∧ q9 < i) ∧ bit cs q9 ∧ b9 = p + st * q9)
  refine T32_6 ⟨by omega, ⟨fun c1 => ⟨rs, ?_⟩, fun c1 => ⟨fun c2 => ?_, fun c2 => ?_⟩⟩⟩
  · rw [show i = n by omega]
    exact hK
  · rw [bt_has0 (by omega) (by omega)] at c2
    have e : spr cs p st (i + 1) = spr cs p st i := mkb_congr (fun b _ _ => ⟨fun w => by
      obtain ⟨q9, a, d, f⟩ := w
      exact ⟨q9, ⟨a.1, by
        have : q9 ≠ i := fun z => c2 (z ▸ d)
        omega⟩, d, f⟩, fun w => by
      obtain ⟨q9, a, d, f⟩ := w
      exact ⟨q9, by omega, d, f⟩⟩)
    have := ih c1 (by omega) (by omega)
    rw [e] at this
    exact this
  · rw [bt_has0 (by omega) (by omega)] at c2
    have c2' : bit cs i := Classical.not_not.mp c2
    have m := hp.2.2 i i0 c1
    have m0 := Int.mul_nonneg hp.2.1 i0
    have e : iOr (spr cs p st i) (iShl 1 (p + st * i)) = spr cs p st (i + 1) := mkb_eq (rg_or _ _) (fun b => by
      unfold spr
      rw [bt_or, bt_mk, bt_1 (by omega) (by omega)]
      constructor
      · intro w
        rcases w with ⟨a, q9, d, e, f⟩ | w
        · exact ⟨a, q9, by omega, e, f⟩
        · exact ⟨by omega, i, by omega, c2', w⟩
      · intro w
        obtain ⟨a, q9, d, e, f⟩ := w
        by_cases z : q9 = i
        · rw [z] at f; exact Or.inr f
        · exact Or.inl ⟨a, q9, by omega, e, f⟩)
    rw [e]
    exact ih c1 (by omega) (by omega)
theorem C32_ok : am_CS 1 32 C32 := W32 (fun cs p st n h K hb => T32_0 (by
  have e : spr cs p st 0 = 0 := (mkb_eq (by omega) (fun j => ⟨fun w => absurd w bt_zero, fun w => by
    obtain ⟨a, q9, d, e⟩ := w
    omega⟩)).symm
  have := L32 hb.1.1 hb.1.2 hb.2 0 (by omega) hb.1.1.1
  rw [e] at this
  exact this))
/-! 30 FactorNets$Net.multiply -/
def C30 : am_K := fun as h K => am_a3 as (fun v0 v1 v2 => am_o 3 v0 (fun o => am_n v1 (fun k => am_n v2 (fun n => ((2 ≤ n ∧ n ≤ 20) ∧ (0 ≤ k ∧ k ≤ 2) ∧ (1 ≤ h o 0 ∧ h o 0 * n ≤ 20) ∧ NT (h o 0) (nr h (o + 1) 0) ∧ (∀ y9, 0 ≤ y9 → y9 < 20 → S20 (h (o + 1) y9))) ∧ (∀ (h' : am_H), (∀ x9 i9, ¬ (x9 = o ∧ i9 = 0) → x9 ≠ (o + 1) → h' x9 i9 = h x9 i9) ∧ h' o 0 = h o 0 * n ∧ nr h' (o + 1) 0 = mul (h o 0) (nr h (o + 1) 0) k n → K (none) (h'))))))
theorem W30 {d : Nat} (H : ∀ (o : Int) (k : Int) (n : Int) (h : am_H) (K : Option am_V → am_H → Prop), ((2 ≤ n ∧ n ≤ 20) ∧ (0 ≤ k ∧ k ≤ 2) ∧ (1 ≤ h o 0 ∧ h o 0 * n ≤ 20) ∧ NT (h o 0) (nr h (o + 1) 0) ∧ (∀ y9, 0 ≤ y9 → y9 < 20 → S20 (h (o + 1) y9))) ∧ (∀ (h' : am_H), (∀ x9 i9, ¬ (x9 = o ∧ i9 = 0) → x9 ≠ (o + 1) → h' x9 i9 = h x9 i9) ∧ h' o 0 = h o 0 * n ∧ nr h' (o + 1) 0 = mul (h o 0) (nr h (o + 1) 0) k n → K (none) (h')) → am_AT d 30 0 [some (mR 1 3 0 o), some (mB k), some (mB n), none, none, none, none] h K) : am_CS d 30 C30 := by
  refine am_CS_of (T := tb30) (mL := 7) (rk := 0) rfl (fun as h K hC => ?_)
  obtain ⟨v0, v1, v2, rfl, hC0⟩ := am_a3_e hC
  obtain ⟨o, rfl, hC1⟩ := am_o_e hC0
  obtain ⟨k, rfl, hC2⟩ := am_n_e hC1
  obtain ⟨n, rfl, hC3⟩ := am_n_e hC2
  refine ⟨Nat.le_of_ble_eq_true rfl, ?_⟩
  exact H o k n h K hC3
theorem T30_0 {R : Option am_V → am_H → Prop} {h : am_H} {o : Int} {k : Int} {n : Int} (t : am_AT 2 30 10 [some (mR 1 3 0 o), some (mB k), some (mB n), some (mI (h o 0)), some (mI (n - 1)), none, none] h R) : am_AT 2 30 0 [some (mR 1 3 0 o), some (mB k), some (mB n), none, none, none, none] h R :=
  am_T (d := 1) (m := 30) (T := tb30) (mL := 7) (rk := 0) (cuts := [(10, [1, 1, 1, 2, 2, 0, 0]), (27, [1, 1, 1, 2, 2, 2, 2])]) (l := [(31, C31), (32, C32)]) rfl ⟨am_CS_d (by decide) C31_ok, am_CS_d (by decide) C32_ok, trivial⟩ 11 (t)
theorem T30_10 {R : Option am_V → am_H → Prop} {h : am_H} {o : Int} {k : Int} {n : Int} {x3 : Int} {x4 : Int} (t : (R32 x4) ∧ (((x4 < 0) → ((R32 (x3 * n)) ∧ (R none (am_up h o 0 (x3 * n))))) ∧ ((0 ≤ x4) → ((R32 x4) ∧ (((2 ≤ n ∧ n ≤ 20) ∧ (0 ≤ k ∧ k ≤ 2) ∧ (0 ≤ x4 ∧ x4 < n)) ∧ (am_AT 2 30 27 [some (mR 1 3 0 o), some (mB k), some (mB n), some (mI x3), some (mI x4), some (mI (mkb (cpb k n x4))), some (mI 0)] h R)))))) : am_AT 2 30 10 [some (mR 1 3 0 o), some (mB k), some (mB n), some (mI x3), some (mI x4), none, none] h R :=
  am_T (d := 1) (m := 30) (T := tb30) (mL := 7) (rk := 0) (cuts := [(10, [1, 1, 1, 2, 2, 0, 0]), (27, [1, 1, 1, 2, 2, 2, 2])]) (l := [(31, C31), (32, C32)]) rfl ⟨am_CS_d (by decide) C31_ok, am_CS_d (by decide) C32_ok, trivial⟩ 13 (And.intro (t).1 (And.intro (fun c12 => And.intro (((t).2).1 c12).1 ((((t).2).1 c12).2)) (fun c12 => And.intro (((t).2).2 c12).1 (And.intro ((((t).2).2 c12).2).1 (((((t).2).2 c12).2).2)))))
theorem T30_27 {R : Option am_V → am_H → Prop} {h : am_H} {o : Int} {k : Int} {n : Int} {x3 : Int} {x4 : Int} {x5 : Int} {x6 : Int} (t : (R32 x6) ∧ ((R32 x3) ∧ (((x3 ≤ x6) → (am_AT 2 30 10 [some (mR 1 3 0 o), some (mB k), some (mB n), some (mI x3), some (mI (x4 + (-1))), none, none] h R)) ∧ ((x6 < x3) → ((0 ≤ x6 ∧ x6 < 20) ∧ ((R32 x5) ∧ ((R32 x6) ∧ ((R32 x3) ∧ (((0 ≤ n ∧ n ≤ 20) ∧ (0 ≤ x6 ∧ 0 ≤ x3 ∧ ∀ q9, 0 ≤ q9 → q9 < n → x6 + x3 * q9 < 20)) ∧ ((0 ≤ x6 + (x3 * x4) ∧ x6 + (x3 * x4) < 20) ∧ (am_AT 2 30 27 [some (mR 1 3 0 o), some (mB k), some (mB n), some (mI x3), some (mI x4), some (mI x5), some (mI (x6 + 1))] (am_up h (o + 1) (x6 + (x3 * x4)) (iOr (iShl (h (o + 1) x6) (x3 * x4)) (mkb (fun b9 => ∃ q9, (0 ≤ q9 ∧ q9 < n) ∧ bit x5 q9 ∧ b9 = x6 + x3 * q9)))) R))))))))))) : am_AT 2 30 27 [some (mR 1 3 0 o), some (mB k), some (mB n), some (mI x3), some (mI x4), some (mI x5), some (mI x6)] h R :=
  am_T (d := 1) (m := 30) (T := tb30) (mL := 7) (rk := 0) (cuts := [(10, [1, 1, 1, 2, 2, 0, 0]), (27, [1, 1, 1, 2, 2, 2, 2])]) (l := [(31, C31), (32, C32)]) rfl ⟨am_CS_d (by decide) C31_ok, am_CS_d (by decide) C32_ok, trivial⟩ 31 (And.intro (t).1 (And.intro ((t).2).1 (And.intro (fun c13 => (((t).2).2).1 c13) (fun c13 => And.intro ((((t).2).2).2 c13).1 (And.intro (((((t).2).2).2 c13).2).1 (And.intro ((((((t).2).2).2 c13).2).2).1 (And.intro (((((((t).2).2).2 c13).2).2).2).1 (And.intro ((((((((t).2).2).2 c13).2).2).2).2).1 (And.intro (((((((((t).2).2).2 c13).2).2).2).2).2).1 ((((((((((t).2).2).2 c13).2).2).2).2).2).2))))))))))
def M30 (h g : am_H) (o k m q p : Int) : Prop := (∀ x i, x ≠ o + 1 → g x i = h x i) ∧ ∀ y, 0 ≤ y → y < 20 → (((h o 0 * q + h o 0 ≤ y ∧ y < h o 0 * m) ∨ (h o 0 * q ≤ y ∧ y < h o 0 * q + p)) → g (o + 1) y = mkb (MX (h o 0) (nr h (o + 1) 0) k m y)) ∧ (¬ ((h o 0 * q + h o 0 ≤ y ∧ y < h o 0 * m) ∨ (h o 0 * q ≤ y ∧ y < h o 0 * q + p)) → g (o + 1) y = h (o + 1) y)
theorem L30b {K : Option am_V → am_H → Prop} {h : am_H} {o k m q : Int} (hm : 2 ≤ m ∧ m ≤ 20) (hn : 1 ≤ h o 0) (hnm : h o 0 * m ≤ 20) (hN : NT (h o 0) (nr h (o + 1) 0)) (hq : 0 ≤ q ∧ q < m) (nx : ∀ g, M30 h g o k m (q - 1) 0 → am_AT 2 30 10 [some (mR 1 3 0 o), some (mB k), some (mB m), some (mI (h o 0)), some (mI (q - 1)), none, none] g K) : ∀ p, ∀ g : am_H, 0 ≤ p → p ≤ h o 0 → M30 h g o k m q p → am_AT 2 30 27 [some (mR 1 3 0 o), some (mB k), some (mB m), some (mI (h o 0)), some (mI q), some (mI (mkb (cpb k m q))), some (mI p)] g K := by
  have n20 := hN.2.1
  have e1 : h o 0 * (q - 1) = h o 0 * q - h o 0 := by rw [Int.mul_sub, Int.mul_one]
  have rc9 := mkb_r (cpb k m q)
  refine lp (h o 0) (fun p ih g p0 p1 G => ?_)
  refine T30_27 ⟨by omega, ⟨by omega, ⟨fun c1 => ?_, fun c1 => ⟨by omega, ⟨rc9, ⟨by omega, ⟨by omega, ⟨⟨by omega, p0, by omega, fun q9 a b => by have := dvl (n := h o 0) (m := m) (q := q9) ⟨p0, c1⟩ ⟨a, b⟩; omega⟩, ⟨by have := dvl (n := h o 0) (m := m) (q := q) ⟨p0, c1⟩ hq; omega, ?_⟩⟩⟩⟩⟩⟩⟩⟩⟩
  · rw [show q + (-1) = q - 1 by omega]
    have l := dvl (n := h o 0) (m := m) (p := 0) (q := q) ⟨by omega, by omega⟩ hq
    refine nx g ⟨G.1, fun y y0 y1 => ⟨fun z => ?_, fun z => ?_⟩⟩
    · exact (G.2 y y0 y1).1 (by omega)
    · exact (G.2 y y0 y1).2 (by omega)
  · have l := dvl (n := h o 0) (m := m) (q := q) ⟨p0, c1⟩ hq
    have lq : p < h o 0 * q ∨ h o 0 * q = 0 := by
      by_cases z : q = 0
      · right; rw [z, Int.mul_zero]
      · left
        have := Int.mul_le_mul_of_nonneg_left (show 1 ≤ q by omega) (show 0 ≤ h o 0 by omega)
        rw [Int.mul_one] at this
        omega
    have er : g (o + 1) p = nr h (o + 1) 0 p := by rw [nr_in0 p0 (by omega)]; exact (G.2 p p0 (by omega)).2 (by omega)
    rw [er, mul_row hn hm hnm hN ⟨p0, c1⟩ hq]
    refine ih c1 _ (by omega) (by omega) ⟨fun x i a => by rw [am_up_ne a]; exact G.1 x i a, fun y y0 y1 => ?_⟩
    by_cases e : y = p + h o 0 * q
    · rw [e]
      exact ⟨fun _ => am_up_eq, fun z => absurd (Or.inr ⟨by omega, by omega⟩) z⟩
    · rw [am_up_n2 (by omega)]
      exact ⟨fun z => (G.2 y y0 y1).1 (by omega), fun z => (G.2 y y0 y1).2 (by omega)⟩
theorem L30 {K : Option am_V → am_H → Prop} {h : am_H} {o k m : Int} (hm : 2 ≤ m ∧ m ≤ 20) (hk : 0 ≤ k ∧ k ≤ 2) (hn : 1 ≤ h o 0) (hnm : h o 0 * m ≤ 20) (hN : NT (h o 0) (nr h (o + 1) 0)) (hS : ∀ y9, 0 ≤ y9 → y9 < 20 → S20 (h (o + 1) y9)) (hK : ∀ g, (∀ x9 i9, ¬ (x9 = o ∧ i9 = 0) → x9 ≠ o + 1 → g x9 i9 = h x9 i9) ∧ g o 0 = h o 0 * m ∧ nr g (o + 1) 0 = mul (h o 0) (nr h (o + 1) 0) k m → K none g) : ∀ q, ∀ g : am_H, -1 ≤ q → q < m → M30 h g o k m q 0 → am_AT 2 30 10 [some (mR 1 3 0 o), some (mB k), some (mB m), some (mI (h o 0)), some (mI q), none, none] g K := by
  have n20 := hN.2.1
  have hnm0 := Int.mul_nonneg (show 0 ≤ h o 0 by omega) (show 0 ≤ m by omega)
  refine lpd 0 (fun q ih g q0 q1 G => ?_)
  refine T30_10 ⟨by omega, ⟨fun c1 => ⟨by omega, ?_⟩, fun c1 => ⟨by omega, ⟨⟨hm, hk, c1, q1⟩, ?_⟩⟩⟩⟩
  · have eq : q = -1 := by omega
    rw [eq] at G
    have u : h o 0 * (-1) = - h o 0 := by omega
    have row : ∀ y, 0 ≤ y → y < 20 → ((y < h o 0 * m → g (o + 1) y = mkb (MX (h o 0) (nr h (o + 1) 0) k m y)) ∧ (¬ y < h o 0 * m → g (o + 1) y = h (o + 1) y)) := fun y a b => ⟨fun z => (G.2 y a b).1 (by omega), fun z => (G.2 y a b).2 (by omega)⟩
    have en : nr (am_up g o 0 (h o 0 * m)) (o + 1) 0 = nr g (o + 1) 0 := nr_fr2 (fun i => am_up_ne (by omega))
    refine hK _ ⟨fun x i a b => by rw [am_up_n2 a]; exact G.1 x i b, am_up_eq, ?_⟩
    rw [en]
    refine rw2_is (fun a b => ?_) (nr_S20 (fun y a b => ?_))
    · by_cases z : 0 ≤ a ∧ a < 20
      · unfold ad
        rw [nr_in0 z.1 z.2]
        by_cases w : a < h o 0 * m
        · rw [(row a z.1 z.2).1 w, bt_mk]
          exact ⟨fun v => v.2, fun v => ⟨by have := v.1.2; omega, v⟩⟩
        · rw [(row a z.1 z.2).2 w]
          refine ⟨fun v => ?_, fun v => absurd v.1.1.2 w⟩
          have i := NT_in hN (show ad (nr h (o + 1) 0) a b by unfold ad; rw [nr_in0 z.1 z.2]; exact v)
          have := dvl (n := h o 0) (m := m) (q := 0) i.1 (by omega)
          omega
      · unfold ad
        rw [nr_out z]
        exact ⟨fun v => absurd v bt_zero, fun v => absurd (show 0 ≤ a ∧ a < 20 by have := v.1.1; omega) z⟩
    · by_cases w : y < h o 0 * m
      · rw [(row y a b).1 w]; exact S20_mk _
      · rw [(row y a b).2 w]; exact hS y a b
  · refine L30b hm hn hnm hN ⟨c1, q1⟩ (fun g' G' => ih c1 g' (by omega) (by omega) G') 0 g (by omega) (by omega) G
theorem C30_ok : am_CS 2 30 C30 := W30 (fun o k n h K hb => by
  obtain ⟨⟨hm, hk, hn, hN, hS⟩, hK⟩ := hb
  have u : h o 0 * (n - 1) = h o 0 * n - h o 0 := by rw [Int.mul_sub, Int.mul_one]
  exact T30_0 (L30 hm hk hn.1 hn.2 hN hS hK (n - 1) h (by omega) (by omega) ⟨fun _ _ _ => rfl, fun y y0 y1 => ⟨fun z => by omega, fun _ => rfl⟩⟩))
/-! 208 FactorNetsModel.multiplies -/
def C208 : am_K := fun as h K => am_a3 as (fun v0 v1 v2 => am_oc 12 571 v0 (am_n v1 (fun k => am_n v2 (fun n => ((2 ≤ n ∧ n ≤ 20) ∧ (0 ≤ k ∧ k ≤ 2) ∧ (1 ≤ h 572 0 ∧ h 572 0 * n ≤ 20) ∧ NT (h 572 0) (nr h 572 2)) ∧ (∀ (h' : am_H), (∀ x9 i9, ¬ (x9 = 572 ∧ (i9 = 0 ∨ (2 ≤ i9 ∧ i9 < 22))) → h' x9 i9 = h x9 i9) ∧ h' 572 0 = h 572 0 * n ∧ nr h' 572 2 = mul (h 572 0) (nr h 572 2) k n → K (none) (h'))))))
theorem W208 {d : Nat} (H : ∀ (k : Int) (n : Int) (h : am_H) (K : Option am_V → am_H → Prop), ((2 ≤ n ∧ n ≤ 20) ∧ (0 ≤ k ∧ k ≤ 2) ∧ (1 ≤ h 572 0 ∧ h 572 0 * n ≤ 20) ∧ NT (h 572 0) (nr h 572 2)) ∧ (∀ (h' : am_H), (∀ x9 i9, ¬ (x9 = 572 ∧ (i9 = 0 ∨ (2 ≤ i9 ∧ i9 < 22))) → h' x9 i9 = h x9 i9) ∧ h' 572 0 = h 572 0 * n ∧ nr h' 572 2 = mul (h 572 0) (nr h 572 2) k n → K (none) (h')) → am_AT d 208 0 [some (mR 1 12 0 571), some (mB k), some (mB n), none, none, none, none, none] h K) : am_CS d 208 C208 := by
  refine am_CS_of (T := tb208) (mL := 8) (rk := 0) rfl (fun as h K hC => ?_)
  obtain ⟨v0, v1, v2, rfl, hC0⟩ := am_a3_e hC
  obtain ⟨e0, hC1⟩ := am_oc_e hC0
  subst e0
  obtain ⟨k, rfl, hC2⟩ := am_n_e hC1
  obtain ⟨n, rfl, hC3⟩ := am_n_e hC2
  refine ⟨Nat.le_of_ble_eq_true rfl, ?_⟩
  exact H k n h K hC3
theorem T208_0 {R : Option am_V → am_H → Prop} {h : am_H} {k : Int} {n : Int} (t : am_AT 2 208 10 [some (mR 1 12 0 571), some (mB k), some (mB n), some (mI (h 572 0)), some (mI 1), none, none, none] h R) : am_AT 2 208 0 [some (mR 1 12 0 571), some (mB k), some (mB n), none, none, none, none, none] h R :=
  am_T (d := 1) (m := 208) (T := tb208) (mL := 8) (rk := 0) (cuts := [(10, [1, 1, 1, 2, 2, 0, 0, 0]), (19, [1, 1, 1, 2, 2, 2, 0, 0]), (68, [1, 1, 1, 2, 2, 0, 0, 0]), (77, [1, 1, 1, 2, 2, 2, 0, 0]), (124, [1, 1, 1, 2, 2, 2, 2, 2])]) (l := [(199, C199)]) rfl ⟨am_CS_d (by decide) C199_ok, trivial⟩ 11 (And.intro (⟨by decide, by decide⟩) (t))
theorem T208_10 {R : Option am_V → am_H → Prop} {h : am_H} {k : Int} {n : Int} {x3 : Int} {x4 : Int} (t : (R32 x4) ∧ (((n ≤ x4) → (am_AT 2 208 68 [some (mR 1 12 0 571), some (mB k), some (mB n), some (mI x3), some (mI 0), none, none, none] h R)) ∧ ((x4 < n) → (am_AT 2 208 19 [some (mR 1 12 0 571), some (mB k), some (mB n), some (mI x3), some (mI x4), some (mI 0), none, none] h R)))) : am_AT 2 208 10 [some (mR 1 12 0 571), some (mB k), some (mB n), some (mI x3), some (mI x4), none, none, none] h R :=
  am_T (d := 1) (m := 208) (T := tb208) (mL := 8) (rk := 0) (cuts := [(10, [1, 1, 1, 2, 2, 0, 0, 0]), (19, [1, 1, 1, 2, 2, 2, 0, 0]), (68, [1, 1, 1, 2, 2, 0, 0, 0]), (77, [1, 1, 1, 2, 2, 2, 0, 0]), (124, [1, 1, 1, 2, 2, 2, 2, 2])]) (l := [(199, C199)]) rfl ⟨am_CS_d (by decide) C199_ok, trivial⟩ 9 (And.intro (t).1 (And.intro (fun c14 => ((t).2).1 c14) (fun c14 => ((t).2).2 c14)))
theorem T208_19 {R : Option am_V → am_H → Prop} {h : am_H} {k : Int} {n : Int} {x3 : Int} {x4 : Int} {x5 : Int} (t : (R32 x5) ∧ ((R32 x3) ∧ (((x3 ≤ x5) → (am_AT 2 208 10 [some (mR 1 12 0 571), some (mB k), some (mB n), some (mI x3), some (mI (x4 + 1)), none, none, none] h R)) ∧ ((x5 < x3) → ((0 ≤ 2 + x5 ∧ 2 + x5 < 22) ∧ ((0 ≤ (2 + x5) + (x3 * x4) ∧ (2 + x5) + (x3 * x4) < 22) ∧ (am_AT 2 208 19 [some (mR 1 12 0 571), some (mB k), some (mB n), some (mI x3), some (mI x4), some (mI (x5 + 1)), none, none] (am_up h 572 ((2 + x5) + (x3 * x4)) (iShl (h 572 (2 + x5)) (x3 * x4))) R))))))) : am_AT 2 208 19 [some (mR 1 12 0 571), some (mB k), some (mB n), some (mI x3), some (mI x4), some (mI x5), none, none] h R :=
  am_T (d := 1) (m := 208) (T := tb208) (mL := 8) (rk := 0) (cuts := [(10, [1, 1, 1, 2, 2, 0, 0, 0]), (19, [1, 1, 1, 2, 2, 2, 0, 0]), (68, [1, 1, 1, 2, 2, 0, 0, 0]), (77, [1, 1, 1, 2, 2, 2, 0, 0]), (124, [1, 1, 1, 2, 2, 2, 2, 2])]) (l := [(199, C199)]) rfl ⟨am_CS_d (by decide) C199_ok, trivial⟩ 29 (And.intro (t).1 (And.intro ((t).2).1 (And.intro (fun c15 => (((t).2).2).1 c15) (fun c15 => And.intro ((((t).2).2).2 c15).1 (And.intro (((((t).2).2).2 c15).2).1 ((((((t).2).2).2 c15).2).2))))))
theorem T208_68 {R : Option am_V → am_H → Prop} {h : am_H} {k : Int} {n : Int} {x3 : Int} {x4 : Int} (t : (R32 x4) ∧ (((n ≤ x4) → ((R32 (x3 * n)) ∧ (R none (am_up h 572 0 (x3 * n))))) ∧ ((x4 < n) → (am_AT 2 208 77 [some (mR 1 12 0 571), some (mB k), some (mB n), some (mI x3), some (mI x4), some (mI 0), none, none] h R)))) : am_AT 2 208 68 [some (mR 1 12 0 571), some (mB k), some (mB n), some (mI x3), some (mI x4), none, none, none] h R :=
  am_T (d := 1) (m := 208) (T := tb208) (mL := 8) (rk := 0) (cuts := [(10, [1, 1, 1, 2, 2, 0, 0, 0]), (19, [1, 1, 1, 2, 2, 2, 0, 0]), (68, [1, 1, 1, 2, 2, 0, 0, 0]), (77, [1, 1, 1, 2, 2, 2, 0, 0]), (124, [1, 1, 1, 2, 2, 2, 2, 2])]) (l := [(199, C199)]) rfl ⟨am_CS_d (by decide) C199_ok, trivial⟩ 15 (And.intro (t).1 (And.intro (fun c16 => And.intro (⟨by decide, by decide⟩) (And.intro (((t).2).1 c16).1 ((((t).2).1 c16).2))) (fun c16 => ((t).2).2 c16)))
theorem T208_77 {R : Option am_V → am_H → Prop} {h : am_H} {k : Int} {n : Int} {x3 : Int} {x4 : Int} {x5 : Int} (t : (R32 x5) ∧ ((R32 x4) ∧ (((x4 ≤ x5) → (am_AT 2 208 68 [some (mR 1 12 0 571), some (mB k), some (mB n), some (mI x3), some (mI (x4 + 1)), none, none, none] h R)) ∧ ((x5 < x4) → (((k = 2) → (am_AT 2 208 124 [some (mR 1 12 0 571), some (mB k), some (mB n), some (mI x3), some (mI x4), some (mI x5), some (mI 1), some (mI 0)] h R)) ∧ ((¬ k = 2) → ((R32 (x4 - x5)) ∧ (((x4 - x5 = 1) → (am_AT 2 208 124 [some (mR 1 12 0 571), some (mB k), some (mB n), some (mI x3), some (mI x4), some (mI x5), some (mI 1), some (mI 0)] h R)) ∧ ((¬ x4 - x5 = 1) → (((¬ k = 1) → (am_AT 2 208 124 [some (mR 1 12 0 571), some (mB k), some (mB n), some (mI x3), some (mI x4), some (mI x5), some (mI 0), some (mI 0)] h R)) ∧ ((k = 1) → ((R32 (x4 - x5)) ∧ ((R32 (n - 1)) ∧ (((¬ x4 - x5 = n - 1) → (am_AT 2 208 124 [some (mR 1 12 0 571), some (mB k), some (mB n), some (mI x3), some (mI x4), some (mI x5), some (mI 0), some (mI 0)] h R)) ∧ ((x4 - x5 = n - 1) → (am_AT 2 208 124 [some (mR 1 12 0 571), some (mB k), some (mB n), some (mI x3), some (mI x4), some (mI x5), some (mI 1), some (mI 0)] h R)))))))))))))))) : am_AT 2 208 77 [some (mR 1 12 0 571), some (mB k), some (mB n), some (mI x3), some (mI x4), some (mI x5), none, none] h R :=
  am_T (d := 1) (m := 208) (T := tb208) (mL := 8) (rk := 0) (cuts := [(10, [1, 1, 1, 2, 2, 0, 0, 0]), (19, [1, 1, 1, 2, 2, 2, 0, 0]), (68, [1, 1, 1, 2, 2, 0, 0, 0]), (77, [1, 1, 1, 2, 2, 2, 0, 0]), (124, [1, 1, 1, 2, 2, 2, 2, 2])]) (l := [(199, C199)]) rfl ⟨am_CS_d (by decide) C199_ok, trivial⟩ 30 (And.intro (t).1 (And.intro ((t).2).1 (And.intro (fun c17 => (((t).2).2).1 c17) (fun c17 => And.intro (fun c18 => ((((t).2).2).2 c17).1 c18) (fun c18 => And.intro (((((t).2).2).2 c17).2 c18).1 (And.intro (fun c19 => ((((((t).2).2).2 c17).2 c18).2).1 c19) (fun c19 => And.intro (fun c20 => (((((((t).2).2).2 c17).2 c18).2).2 c19).1 c20) (fun c20 => And.intro ((((((((t).2).2).2 c17).2 c18).2).2 c19).2 c20).1 (And.intro (((((((((t).2).2).2 c17).2 c18).2).2 c19).2 c20).2).1 (And.intro (fun c21 => ((((((((((t).2).2).2 c17).2 c18).2).2 c19).2 c20).2).2).1 c21) (fun c21 => ((((((((((t).2).2).2 c17).2 c18).2).2 c19).2 c20).2).2).2 c21)))))))))))
theorem T208_124 {R : Option am_V → am_H → Prop} {h : am_H} {k : Int} {n : Int} {x3 : Int} {x4 : Int} {x5 : Int} {x6 : Int} {x7 : Int} (t : (R32 x7) ∧ ((R32 x3) ∧ (((x3 ≤ x7) → (am_AT 2 208 77 [some (mR 1 12 0 571), some (mB k), some (mB n), some (mI x3), some (mI x4), some (mI (x5 + 1)), none, none] h R)) ∧ ((x7 < x3) → ((R32 x6) ∧ (((x6 = 0) → (am_AT 2 208 77 [some (mR 1 12 0 571), some (mB k), some (mB n), some (mI x3), some (mI x4), some (mI (x5 + 1)), none, none] h R)) ∧ ((¬ x6 = 0) → ((R32 (x7 + (x3 * x4))) ∧ ((R32 (x7 + (x3 * x5))) ∧ (((0 ≤ (x7 + (x3 * x4)) ∧ (x7 + (x3 * x4)) < 20) ∧ (0 ≤ (x7 + (x3 * x5)) ∧ (x7 + (x3 * x5)) < 20)) ∧ (am_AT 2 208 124 [some (mR 1 12 0 571), some (mB k), some (mB n), some (mI x3), some (mI x4), some (mI x5), some (mI x6), some (mI (x7 + 1))] (t_lk h (x7 + (x3 * x4)) (x7 + (x3 * x5))) R))))))))))) : am_AT 2 208 124 [some (mR 1 12 0 571), some (mB k), some (mB n), some (mI x3), some (mI x4), some (mI x5), some (mI x6), some (mI x7)] h R :=
  am_T (d := 1) (m := 208) (T := tb208) (mL := 8) (rk := 0) (cuts := [(10, [1, 1, 1, 2, 2, 0, 0, 0]), (19, [1, 1, 1, 2, 2, 2, 0, 0]), (68, [1, 1, 1, 2, 2, 0, 0, 0]), (77, [1, 1, 1, 2, 2, 2, 0, 0]), (124, [1, 1, 1, 2, 2, 2, 2, 2])]) (l := [(199, C199)]) rfl ⟨am_CS_d (by decide) C199_ok, trivial⟩ 23 (And.intro (t).1 (And.intro ((t).2).1 (And.intro (fun c22 => (((t).2).2).1 c22) (fun c22 => And.intro ((((t).2).2).2 c22).1 (And.intro (fun c23 => (((((t).2).2).2 c22).2).1 c23) (fun c23 => And.intro ((((((t).2).2).2 c22).2).2 c23).1 (And.intro (((((((t).2).2).2 c22).2).2 c23).2).1 (And.intro (rfl) (And.intro ((((((((t).2).2).2 c22).2).2 c23).2).2).1 (((((((((t).2).2).2 c22).2).2 c23).2).2).2))))))))))
def M208 (h g : am_H) (m q p : Int) : Prop := (∀ x i, ¬ (x = 572 ∧ 2 ≤ i ∧ i < 22) → g x i = h x i) ∧ ∀ y, 0 ≤ y → y < 20 → ((y < h 572 0 * q + p) → ∀ b, bit (g 572 (2 + y)) b ↔ MX0 (h 572 0) (nr h 572 2) m y b) ∧ ((y < h 572 0 ∨ h 572 0 * q + p ≤ y) → g 572 (2 + y) = h 572 (2 + y))
def M20t (h g : am_H) (k m q o p : Int) : Prop := (∀ x i, ¬ (x = 572 ∧ 2 ≤ i ∧ i < 22) → g x i = h x i) ∧ ∀ y, 0 ≤ y → y < 20 → ∀ b, bit (g 572 (2 + y)) b ↔ (MX0 (h 572 0) (nr h 572 2) m y b ∨ TD (h 572 0) k m q o p y b)
theorem L208b {K : Option am_V → am_H → Prop} {h : am_H} {k m q : Int} (hm : 2 ≤ m ∧ m ≤ 20) (hk : 0 ≤ k ∧ k ≤ 2) (hn : 1 ≤ h 572 0) (hnm : h 572 0 * m ≤ 20) (hN : NT (h 572 0) (nr h 572 2)) (hq : 1 ≤ q ∧ q < m) (nx : ∀ g, M208 h g m (q + 1) 0 → am_AT 2 208 10 [some (mR 1 12 0 571), some (mB k), some (mB m), some (mI (h 572 0)), some (mI (q + 1)), none, none, none] g K) : ∀ p, ∀ g : am_H, 0 ≤ p → p ≤ h 572 0 → M208 h g m q p → am_AT 2 208 19 [some (mR 1 12 0 571), some (mB k), some (mB m), some (mI (h 572 0)), some (mI q), some (mI p), none, none] g K := by
  have n20 := hN.2.1
  have e1 : h 572 0 * (q + 1) = h 572 0 * q + h 572 0 := by rw [Int.mul_add, Int.mul_one]
  have e2 := Int.mul_le_mul_of_nonneg_left (show 1 ≤ q by omega) (show 0 ≤ h 572 0 by omega)
  rw [Int.mul_one] at e2
  refine lp (h 572 0) (fun p ih g p0 p1 G => ?_)
  refine T208_19 ⟨by omega, ⟨by omega, ⟨fun c1 => ?_, fun c1 => ⟨by omega, ⟨by have := dvl (n := h 572 0) (m := m) (q := q) ⟨p0, c1⟩ (by omega); omega, ?_⟩⟩⟩⟩⟩
  · exact nx g ⟨G.1, fun y y0 y1 => ⟨fun z => (G.2 y y0 y1).1 (by omega), fun z => (G.2 y y0 y1).2 (by omega)⟩⟩
  · have l := dvl (n := h 572 0) (m := m) (q := q) ⟨p0, c1⟩ (by omega)
    have er : g 572 (2 + p) = nr h 572 2 p := by rw [nr_in p0 (by omega)]; exact (G.2 p p0 (by omega)).2 (Or.inl c1)
    rw [er]
    refine ih c1 _ (by omega) (by omega) ⟨fun x i a => by rw [am_up_n2 (by omega)]; exact G.1 x i a, fun y y0 y1 => ?_⟩
    by_cases e : y = p + h 572 0 * q
    · rw [e, show 2 + (p + h 572 0 * q) = 2 + p + h 572 0 * q by omega, am_up_eq]
      refine ⟨fun _ b => ?_, fun z => by omega⟩
      rw [bt_shl (by omega) (by omega), MX0_b hn hN ⟨p0, c1⟩ (by omega)]
      exact ⟨fun w => ⟨w.1, w.2.2⟩, fun w => ⟨w.1, by have := NT_in hN (show ad (nr h 572 2) p (b - h 572 0 * q) from w.2); omega, w.2⟩⟩
    · rw [am_up_n2 (by omega)]
      exact ⟨fun z => (G.2 y y0 y1).1 (by omega), fun z => (G.2 y y0 y1).2 (by omega)⟩
theorem L208a {K : Option am_V → am_H → Prop} {h : am_H} {k m : Int} (hm : 2 ≤ m ∧ m ≤ 20) (hk : 0 ≤ k ∧ k ≤ 2) (hn : 1 ≤ h 572 0) (hnm : h 572 0 * m ≤ 20) (hN : NT (h 572 0) (nr h 572 2)) (nx : ∀ g, M208 h g m m 0 → am_AT 2 208 68 [some (mR 1 12 0 571), some (mB k), some (mB m), some (mI (h 572 0)), some (mI 0), none, none, none] g K) : ∀ q, ∀ g : am_H, 1 ≤ q → q ≤ m → M208 h g m q 0 → am_AT 2 208 10 [some (mR 1 12 0 571), some (mB k), some (mB m), some (mI (h 572 0)), some (mI q), none, none, none] g K := by
  refine lp m (fun q ih g q0 q1 G => ?_)
  refine T208_10 ⟨by omega, ⟨fun c1 => ?_, fun c1 => ?_⟩⟩
  · rw [show q = m by omega] at G
    exact nx g G
  · exact L208b hm hk hn hnm hN ⟨q0, c1⟩ (fun g' G' => ih c1 g' (by omega) (by omega) G') 0 g (by omega) (by omega) G
theorem L208e {K : Option am_V → am_H → Prop} {h : am_H} {k m q o : Int} (hm : 2 ≤ m ∧ m ≤ 20) (hk : 0 ≤ k ∧ k ≤ 2) (hn : 1 ≤ h 572 0) (hnm : h 572 0 * m ≤ 20) (hN : NT (h 572 0) (nr h 572 2)) (hq : 0 ≤ q ∧ q < m) (ho : 0 ≤ o ∧ o < q) {x : Int} (hx : (x = 1 ∧ cpb k m q o) ∨ (x = 0 ∧ ¬ cpb k m q o)) (nx : ∀ g, M20t h g k m q (o + 1) 0 → am_AT 2 208 77 [some (mR 1 12 0 571), some (mB k), some (mB m), some (mI (h 572 0)), some (mI q), some (mI (o + 1)), none, none] g K) : ∀ p, ∀ g : am_H, 0 ≤ p → p ≤ h 572 0 → M20t h g k m q o p → am_AT 2 208 124 [some (mR 1 12 0 571), some (mB k), some (mB m), some (mI (h 572 0)), some (mI q), some (mI o), some (mI x), some (mI p)] g K := by
  have n20 := hN.2.1
  refine lp (h 572 0) (fun p ih g p0 p1 G => ?_)
  refine T208_124 ⟨by omega, ⟨by omega, ⟨fun c1 => ?_, fun c1 => ⟨by rcases hx with z | z <;> omega, ⟨fun c2 => ?_, fun c2 => ⟨by have := dvl (n := h 572 0) (m := m) (q := q) ⟨p0, c1⟩ hq; omega, ⟨by have := dvl (n := h 572 0) (m := m) (q := o) ⟨p0, c1⟩ (by omega); omega, ⟨by
    have := dvl (n := h 572 0) (m := m) (q := q) ⟨p0, c1⟩ hq
    have := dvl (n := h 572 0) (m := m) (q := o) ⟨p0, c1⟩ (by omega)
    omega, ?_⟩⟩⟩⟩⟩⟩⟩⟩
  · refine nx g ⟨G.1, fun y y0 y1 b => ?_⟩
    rw [TD_nx hn, G.2 y y0 y1 b, show p = h 572 0 by omega]
  · refine nx g ⟨G.1, fun y y0 y1 b => ?_⟩
    rw [TD_no (p := p) hn hq (by omega) (hx.elim (fun z => by omega) (fun z => z.2)), G.2 y y0 y1 b]
  · have cc : cpb k m q o := hx.elim (fun z => z.2) (fun z => absurd z.1 c2)
    have lq := dvl (n := h 572 0) (m := m) (q := q) ⟨p0, c1⟩ hq
    have lo' := dvl (n := h 572 0) (m := m) (q := o) ⟨p0, c1⟩ (by omega)
    have dq := dv (n := h 572 0) (a := p + h 572 0 * q) ⟨p0, c1⟩ rfl
    have do' := dv (n := h 572 0) (a := p + h 572 0 * o) ⟨p0, c1⟩ rfl
    have hne : p + h 572 0 * q ≠ p + h 572 0 * o := fun z => by
      rw [z] at dq
      omega
    refine ih c1 _ (by omega) (by omega) ⟨fun x i a => by rw [t_lk_ne (by omega)]; exact G.1 x i a, fun y y0 y1 b => ?_⟩
    rw [t_lk_bt hne (by omega) (by omega), G.2 y y0 y1 b, TD_st ⟨p0, c1⟩ ho hq.2 cc, or_assoc]
theorem L208d {K : Option am_V → am_H → Prop} {h : am_H} {k m q : Int} (hm : 2 ≤ m ∧ m ≤ 20) (hk : 0 ≤ k ∧ k ≤ 2) (hn : 1 ≤ h 572 0) (hnm : h 572 0 * m ≤ 20) (hN : NT (h 572 0) (nr h 572 2)) (hq : 0 ≤ q ∧ q < m) (nx : ∀ g, M20t h g k m (q + 1) 0 0 → am_AT 2 208 68 [some (mR 1 12 0 571), some (mB k), some (mB m), some (mI (h 572 0)), some (mI (q + 1)), none, none, none] g K) : ∀ o, ∀ g : am_H, 0 ≤ o → o ≤ q → M20t h g k m q o 0 → am_AT 2 208 77 [some (mR 1 12 0 571), some (mB k), some (mB m), some (mI (h 572 0)), some (mI q), some (mI o), none, none] g K := by
  refine lp q (fun o ih g o0 o1 G => ?_)
  have go : ∀ x, o < q → ((x = 1 ∧ cpb k m q o) ∨ (x = 0 ∧ ¬ cpb k m q o)) → am_AT 2 208 124 [some (mR 1 12 0 571), some (mB k), some (mB m), some (mI (h 572 0)), some (mI q), some (mI o), some (mI x), some (mI 0)] g K := fun x z hx => L208e hm hk hn hnm hN hq ⟨o0, z⟩ hx (fun g' G' => ih z g' (by omega) (by omega) G') 0 g (by omega) (by omega) G
  refine T208_77 ⟨by omega, ⟨by omega, ⟨fun c1 => ?_, fun c1 => ⟨fun c2 => ?_, fun c2 => ⟨by omega, ⟨fun c3 => ?_, fun c3 => ⟨fun c4 => ?_, fun c4 => ⟨by omega, ⟨by omega, ⟨fun c5 => ?_, fun c5 => ?_⟩⟩⟩⟩⟩⟩⟩⟩⟩⟩
  · refine nx g ⟨G.1, fun y y0 y1 b => ?_⟩
    rw [TD_nq hn, G.2 y y0 y1 b, show o = q by omega]
  · exact go 1 c1 (Or.inl ⟨rfl, by unfold cpb; omega⟩)
  · exact go 1 c1 (Or.inl ⟨rfl, by unfold cpb; omega⟩)
  · exact go 0 c1 (Or.inr ⟨rfl, by unfold cpb; omega⟩)
  · exact go 0 c1 (Or.inr ⟨rfl, by unfold cpb; omega⟩)
  · exact go 1 c1 (Or.inl ⟨rfl, by unfold cpb; omega⟩)
theorem L208c {K : Option am_V → am_H → Prop} {h : am_H} {k m : Int} (hm : 2 ≤ m ∧ m ≤ 20) (hk : 0 ≤ k ∧ k ≤ 2) (hn : 1 ≤ h 572 0) (hnm : h 572 0 * m ≤ 20) (hN : NT (h 572 0) (nr h 572 2)) (hK : ∀ g, (∀ x9 i9, ¬ (x9 = 572 ∧ (i9 = 0 ∨ (2 ≤ i9 ∧ i9 < 22))) → g x9 i9 = h x9 i9) ∧ g 572 0 = h 572 0 * m ∧ nr g 572 2 = mul (h 572 0) (nr h 572 2) k m → K none g) : ∀ q, ∀ g : am_H, 0 ≤ q → q ≤ m → M20t h g k m q 0 0 → am_AT 2 208 68 [some (mR 1 12 0 571), some (mB k), some (mB m), some (mI (h 572 0)), some (mI q), none, none, none] g K := by
  have hnm0 := Int.mul_nonneg (show 0 ≤ h 572 0 by omega) (show 0 ≤ m by omega)
  refine lp m (fun q ih g q0 q1 G => am_AT_ok (fun hw _ => ?_))
  refine T208_68 ⟨by omega, ⟨fun c1 => ⟨by omega, ?_⟩, fun c1 => ?_⟩⟩
  · rw [show q = m by omega] at G
    have en : nr (am_up g 572 0 (h 572 0 * m)) 572 2 = nr g 572 2 := nr_cg (fun y a b => am_up_n2 (by omega))
    have ea : ∀ a b, ad (nr g 572 2) a b ↔ MX (h 572 0) (nr h 572 2) k m a b := fun a b => by
      rw [ad_nr2]
      by_cases z : 0 ≤ a ∧ a < 20
      · rw [G.2 a z.1 z.2 b, TD_end hn hN]
        exact ⟨fun v => v.2, fun v => ⟨z, v⟩⟩
      · exact ⟨fun v => absurd v.1 z, fun v => absurd (show 0 ≤ a ∧ a < 20 by have := v.1.1; omega) z⟩
    refine hK _ ⟨fun x i a => by rw [am_up_n2 (by omega)]; exact G.1 x i (by omega), am_up_eq, ?_⟩
    rw [en]
    refine rw2_is ea (nr2_S20 (fun y a b => ?_))
    have rr : R32 (g 572 (2 + y)) := wf_i (n := 22) (m := 0) 572 hw (by decide +kernel) (2 + y) (by omega) (by omega)
    exact S20_of rr (fun j hj => by
      have := ((ea y j).mp (ad_nr2.mpr ⟨⟨a, b⟩, hj⟩)).1.2
      omega)
  · exact L208d hm hk hn hnm hN ⟨q0, c1⟩ (fun g' G' => ih c1 g' (by omega) (by omega) G') 0 g (by omega) (by omega) G
theorem C208_ok : am_CS 2 208 C208 := W208 (fun k n h K hb => by
  obtain ⟨⟨hm, hk, hn, hN⟩, hK⟩ := hb
  have n20 := hN.2.1
  have u : h 572 0 * 1 = h 572 0 := Int.mul_one _
  have hl := dvl (n := h 572 0) (m := n) (p := 0) (q := 0) (by omega) (by omega)
  refine T208_0 (L208a hm hk hn.1 hn.2 hN (fun g G => L208c hm hk hn.1 hn.2 hN hK 0 g (by omega) (by omega) ⟨G.1, fun y y0 y1 b => ?_⟩) 1 h (by omega) (by omega) ⟨fun _ _ _ => rfl, fun y y0 y1 => ⟨fun z b => ?_, fun _ => rfl⟩⟩)
  · have nt := TD_0 (n := h 572 0) (k := k) (m := n) (a := y) (b := b) hn.1
    by_cases z : y < h 572 0 * n
    · rw [(G.2 y y0 y1).1 (by omega) b]
      exact ⟨Or.inl, fun w => w.elim id (fun w => absurd w nt)⟩
    · rw [(G.2 y y0 y1).2 (by omega)]
      constructor
      · intro w
        have i := NT_in hN (ad_nr2.mpr ⟨⟨y0, y1⟩, w⟩)
        omega
      · intro w
        rcases w with w | w
        · have := w.1; omega
        · exact absurd w nt
  · have a := MX0_b (m := n) (q := 0) (b := b) hn.1 hN ⟨y0, by omega⟩ (by omega)
    rw [show y + h 572 0 * 0 = y by omega, show b - h 572 0 * 0 = b by omega, show h 572 0 * 0 = 0 by omega, nr_in y0 y1] at a
    rw [a]
    exact ⟨fun w => ⟨w.1, w⟩, fun w => w.2⟩)
