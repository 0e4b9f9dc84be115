/-! ===== loops ===== -/
theorem lp {P : Int → Prop} (b : Int) (H : ∀ i, (i < b → P (i + 1)) → P i) : ∀ i, P i := by
  have G : ∀ (k : Nat) (i : Int), (b - i).toNat ≤ k → P i := by
    intro k
    induction k with
    | zero => intro i hk; exact H i (fun c => absurd c (by omega))
    | succ k ih => intro i hk; exact H i (fun c => ih (i + 1) (by omega))
  exact fun i => G _ i (Nat.le_refl _)
theorem lpd {P : Int → Prop} (b : Int) (H : ∀ i, (b ≤ i → P (i - 1)) → P i) : ∀ i, P i := by
  have G : ∀ (k : Nat) (i : Int), (i + 1 - b).toNat ≤ k → P i := by
    intro k
    induction k with
    | zero => intro i hk; exact H i (fun c => absurd c (by omega))
    | succ k ih => intro i hk; exact H i (fun c => ih (i - 1) (by omega))
  exact fun i => G _ i (Nat.le_refl _)
theorem lpm {α : Type} {P : α → Prop} (f : α → Nat) (H : ∀ a, (∀ b, f b < f a → P b) → P a) : ∀ a, P a := by
  have G : ∀ (k : Nat) (a : α), f a < k → P a := by
    intro k
    induction k with
    | zero => intro a hk; omega
    | succ k ih => intro a hk; exact H a (fun b hb => ih b (by omega))
  exact fun a => G _ a (Nat.lt_succ_self _)
theorem least_ex {P : Nat → Prop} (h : ∃ n, P n) : ∃ n, P n ∧ ∀ m, m < n → ¬ P m := by
  obtain ⟨n, hn⟩ := h
  induction n using Nat.strongRecOn with
  | _ n ih =>
    by_cases c : ∃ m, m < n ∧ P m
    · obtain ⟨m, h1, h2⟩ := c
      exact ih m h1 h2
    · exact ⟨n, hn, fun m hm hp => c ⟨m, hm, hp⟩⟩
/-! ===== counting ===== -/
theorem ct_none {P : Int → Prop} : ∀ n : Nat, (∀ k : Nat, k < n → ¬ P k) → ct P n = 0
  | 0, _ => rfl
  | n + 1, h => by
    rw [ct_succ, ct_none n (fun k hk => h k (by omega)), am_b_f (h n (by omega))]
    rfl
theorem ct_add {P Q : Int → Prop} {a : Int} : ∀ n : Nat, 0 ≤ a → a < n → ¬ P a → (∀ k, Q k ↔ P k ∨ k = a) → ct Q n = ct P n + 1
  | 0, h0, h1, _, _ => by omega
  | n + 1, h0, h1, hn, h => by
    rw [ct_succ, ct_succ]
    by_cases e : a = (n : Int)
    · subst e
      rw [ct_congr (P := Q) (Q := P) n (fun k hk => by rw [h]; exact ⟨fun q => q.elim id (fun q => by omega), Or.inl⟩), am_b_f hn, am_b_t ((h _).mpr (Or.inr rfl))]
      omega
    · rw [ct_add n h0 (by omega) hn h]
      have e2 : am_b (Q (n : Int)) = am_b (P (n : Int)) := by
        rw [propext (h (n : Int))]
        by_cases hp : P (n : Int)
        · rw [am_b_t hp, am_b_t (Or.inl hp)]
        · rw [am_b_f hp, am_b_f (fun q => q.elim hp (fun q => e q.symm))]
      rw [e2]
      omega
theorem ct_mono {P Q : Int → Prop} : ∀ n : Nat, (∀ k : Nat, k < n → P k → Q k) → ct P n ≤ ct Q n
  | 0, _ => Int.le_refl _
  | n + 1, h => by
    have ih := ct_mono (P := P) (Q := Q) n (fun k hk => h k (by omega))
    rw [ct_succ, ct_succ]
    by_cases hp : P (n : Int)
    · rw [am_b_t hp, am_b_t (h n (by omega) hp)]; omega
    · rw [am_b_f hp]
      rcases am_b_01 (Q (n : Int)) with e | e <;> rw [e] <;> omega
theorem ct_full {P : Int → Prop} : ∀ n : Nat, (n : Int) ≤ ct P n → ∀ k : Int, 0 ≤ k → k < n → P k
  | 0, _, k, h0, h1 => by omega
  | n + 1, h, k, h0, h1 => by
    rw [ct_succ] at h
    have h2 := ct_le P n
    have h3 : am_b (P (n : Int)) = 1 := by
      rcases am_b_01 (P (n : Int)) with e | e
      · rw [e] at h; omega
      · exact e
    rw [h3] at h
    by_cases e : k = (n : Int)
    · subst e
      refine Classical.byContradiction fun q => ?_
      rw [am_b_f q] at h3
      omega
    · exact ct_full n (by omega) k h0 (by omega)
theorem ct_lt {m : Int} (h0 : 0 ≤ m) : ∀ n : Nat, ct (fun k => k < m) n = if m ≤ n then m else (n : Int)
  | 0 => by
    show (0 : Int) = _
    by_cases h : m ≤ ((0 : Nat) : Int)
    · rw [if_pos h]; omega
    · rw [if_neg h]; rfl
  | n + 1 => by
    rw [ct_succ, ct_lt h0 n]
    by_cases h : (n : Int) < m
    · rw [am_b_t h]
      by_cases h2 : m ≤ n
      · omega
      · rw [if_neg h2]
        by_cases h3 : m ≤ ((n + 1 : Nat) : Int)
        · rw [if_pos h3]; omega
        · rw [if_neg h3]; omega
    · rw [am_b_f h, if_pos (by omega), if_pos (by omega)]; omega
theorem ct_pos {P : Int → Prop} {n : Nat} {k : Int} (h0 : 0 ≤ k) (h1 : k < n) (hp : P k) : 0 < ct P n := by
  refine Classical.byContradiction fun q => ?_
  have h2 := ct_le P n
  have e : ct (fun j => j = k) n = ct (fun _ => False) n + 1 := ct_add n h0 h1 id (fun j => ⟨Or.inr, fun z => z.elim False.elim id⟩)
  rw [ct_none n (P := fun _ => False) (fun _ _ => id)] at e
  have := ct_mono (P := fun j => j = k) (Q := P) n (fun j _ hj => by rw [show (j : Int) = k from hj]; exact hp)
  omega
/-! ===== the least point of a set ===== -/
theorem bt_neg {x k : Int} : bit (-x) k ↔ 0 ≤ k ∧ k < 32 ∧ ¬ (bit x k ↔ ∃ j, j < k ∧ bit x j) := by
  by_cases hk : 0 ≤ k ∧ k < 32
  · have e : (∃ j, j < k ∧ bit x j) ↔ (∃ j, j < k.toNat ∧ (BitVec.ofInt 32 x).getLsbD j = true) := by
      constructor
      · rintro ⟨j, h1, h2, h3⟩
        exact ⟨j.toNat, by omega, h3⟩
      · rintro ⟨j, h1, h2⟩
        exact ⟨(j : Int), by omega, by omega, by rw [Int.toNat_natCast]; exact h2⟩
    rw [e]
    unfold bit
    rw [BitVec.ofInt_neg, BitVec.getLsbD_neg]
    have e1 : decide (k.toNat < 32) = true := by rw [decide_eq_true_eq]; omega
    rw [e1]
    have key : ∀ (u : Bool) (p : Prop) (inst : Decidable p), ((u ^^ (true && decide p)) = true) ↔ ¬ (u = true ↔ p) := by
      intro u p inst
      cases u <;> by_cases hp : p <;> simp [hp]
    rw [key]
    constructor
    · rintro ⟨a, b⟩
      exact ⟨hk.1, hk.2, fun q => b ⟨fun z => q.mp ⟨a, z⟩, fun z => (q.mpr z).2⟩⟩
    · rintro ⟨a, -, b⟩
      exact ⟨a, fun q => b ⟨fun z => q.mp z.2, fun z => ⟨a, q.mpr z⟩⟩⟩
  · constructor
    · intro h
      exact absurd ⟨h.1, bt_lt h⟩ hk
    · intro h
      exact absurd ⟨h.1, h.2.1⟩ hk
theorem bt_sub1 {x k : Int} : bit (x - 1) k ↔ 0 ≤ k ∧ k < 32 ∧ ¬ bit (-x) k := by
  unfold bit
  rw [show BitVec.ofInt 32 (x - 1) = ~~~(-(BitVec.ofInt 32 x)) by
    rw [BitVec.not_neg, Int.sub_eq_add_neg, BitVec.ofInt_add, BitVec.ofInt_neg, BitVec.sub_eq_add_neg]
    rfl]
  rw [BitVec.getLsbD_not, BitVec.ofInt_neg]
  by_cases hk : 0 ≤ k
  · by_cases h2 : k < 32
    · have e1 : decide (k.toNat < 32) = true := by rw [decide_eq_true_eq]; omega
      rw [e1]
      simp [hk, h2]
    · have e1 : decide (k.toNat < 32) = false := by rw [decide_eq_false_iff_not]; omega
      rw [e1]
      simp [h2]
  · simp [hk]
theorem bt_some {x : Int} (hx : R32 x) (h : x ≠ 0) : ∃ k, bit x k := by
  refine Classical.byContradiction fun q => h (bt_ext hx (by omega) (fun k _ _ => ⟨fun z => absurd ⟨k, z⟩ q, fun z => absurd z bt_zero⟩))
theorem bt_least {x : Int} (hx : R32 x) (h : x ≠ 0) : ∃ m, bit x m ∧ ∀ j, bit x j → m ≤ j := by
  obtain ⟨k, hk⟩ := bt_some hx h
  obtain ⟨m, h1, h2⟩ := least_ex (P := fun n : Nat => bit x n) ⟨k.toNat, by rw [Int.toNat_of_nonneg hk.1]; exact hk⟩
  refine ⟨m, h1, fun j hj => ?_⟩
  refine Classical.byContradiction fun q => h2 j.toNat (by have := hj.1; omega) (by rw [Int.toNat_of_nonneg hj.1]; exact hj)
noncomputable def iLow (x : Int) : Int := iPop (iAnd x (-x) - 1)
theorem bt_lowbit {x m : Int} (h1 : bit x m) (h2 : ∀ j, bit x j → m ≤ j) : iAnd x (-x) = iShl 1 m := by
  have hm := bt_lt h1
  have hm0 := h1.1
  refine bt_ext (rg_and _ _) (rg_shl _ _) (fun k h0 h3 => ?_)
  rw [bt_and, bt_neg, bt_1 hm0 hm]
  constructor
  · rintro ⟨a, -, -, b⟩
    have := h2 k a
    refine Classical.byContradiction fun q => b ⟨fun _ => ⟨m, by omega, h1⟩, fun _ => a⟩
  · rintro rfl
    refine ⟨h1, h0, h3, fun q => ?_⟩
    obtain ⟨j, a, b⟩ := q.mp h1
    have := h2 j b
    omega
theorem iLow_nz {x : Int} (h0 : 0 < x) (h1 : x < 2147483648) : iAnd x (-x) ≠ 0 := by
  obtain ⟨m, a, b⟩ := bt_least (x := x) (by omega) (by omega)
  rw [bt_lowbit a b]
  intro e
  have := (bt_1 (k := m) a.1 (bt_lt a)).mpr rfl
  rw [e] at this
  exact bt_zero this
theorem bt_31 {x k : Int} (h0 : 0 ≤ x) (h1 : x < 2147483648) (h : bit x k) : k < 31 := by
  have := bt_lt h
  refine Classical.byContradiction fun q => ?_
  have e : k = 31 := by omega
  subst e
  have := (bt_msb (x := x) (by omega)).mp h
  omega
theorem iLow_ok {x : Int} (h0 : 0 < x) (h1 : x < 2147483648) : bit x (iLow x) ∧ ∀ j, bit x j → iLow x ≤ j := by
  obtain ⟨m, a, b⟩ := bt_least (x := x) (by omega) (by omega)
  have hm : m < 31 := bt_31 (by omega) h1 a
  have e : iLow x = m := by
    unfold iLow iPop
    rw [bt_lowbit a b, ct_congr (Q := fun k => k < m) 32 (fun k hk => by rw [bt_all a.1 (by omega)]; exact ⟨fun q => q.2, fun q => ⟨by omega, q⟩⟩), ct_lt a.1, if_pos (by omega)]
  rw [e]
  exact ⟨a, b⟩
theorem bt_clr {x k : Int} (h0 : 0 < x) (h1 : x < 2147483648) : bit (iAnd x (x - 1)) k ↔ bit x k ∧ k ≠ iLow x := by
  obtain ⟨a, b⟩ := iLow_ok h0 h1
  rw [bt_and, bt_sub1, bt_neg]
  constructor
  · rintro ⟨c, c0, c1, d⟩
    refine ⟨c, fun e => d ⟨c0, c1, fun q => ?_⟩⟩
    obtain ⟨j, g1, g2⟩ := q.mp c
    have := b j g2
    omega
  · rintro ⟨c, d⟩
    refine ⟨c, c.1, bt_lt c, fun q => q.2.2 ⟨fun _ => ⟨iLow x, by have := b k c; omega, a⟩, fun _ => c⟩⟩
/-! ===== sets of points by a property ===== -/
theorem mk_ex (P : Int → Prop) : ∀ k : Nat, k ≤ 32 → ∃ x, R32 x ∧ ∀ j, bit x j ↔ (0 ≤ j ∧ j < k) ∧ P j
  | 0, _ => ⟨0, by omega, fun j => ⟨fun h => absurd h bt_zero, fun h => by omega⟩⟩
  | k + 1, hk => by
    obtain ⟨x, h1, h2⟩ := mk_ex P k (by omega)
    by_cases hp : P (k : Int)
    · refine ⟨iOr x (iShl 1 k), rg_or _ _, fun j => ?_⟩
      rw [bt_or, h2, bt_1 (by omega) (by omega)]
      constructor
      · rintro (⟨a, b⟩ | rfl)
        · exact ⟨by omega, b⟩
        · exact ⟨by omega, hp⟩
      · rintro ⟨a, b⟩
        by_cases e : j = (k : Int)
        · exact Or.inr e
        · exact Or.inl ⟨by omega, b⟩
    · refine ⟨x, h1, fun j => ?_⟩
      rw [h2]
      constructor
      · rintro ⟨a, b⟩
        exact ⟨by omega, b⟩
      · rintro ⟨a, b⟩
        refine ⟨⟨a.1, ?_⟩, b⟩
        refine Classical.byContradiction fun q => ?_
        have e : j = (k : Int) := by omega
        exact hp (e ▸ b)
noncomputable def mkb (P : Int → Prop) : Int := Classical.choose (mk_ex P 20 (by decide))
theorem mkb_r (P : Int → Prop) : R32 (mkb P) := (Classical.choose_spec (mk_ex P 20 (by decide))).1
theorem bt_mk {P : Int → Prop} {j : Int} : bit (mkb P) j ↔ (0 ≤ j ∧ j < 20) ∧ P j := (Classical.choose_spec (mk_ex P 20 (by decide))).2 j
theorem mkb_c (P : Int → Prop) : 0 ≤ mkb P ∧ mkb P < 1048576 := bt_set (n := 20) (mkb_r P) (by decide) (fun k h => (bt_mk.mp h).1.2)
theorem mkb_eq {x : Int} {P : Int → Prop} (hx : R32 x) (h : ∀ j, bit x j ↔ (0 ≤ j ∧ j < 20) ∧ P j) : x = mkb P := bt_ext hx (mkb_r P) (fun k _ _ => by rw [h, bt_mk])
theorem mkb_congr {P Q : Int → Prop} (h : ∀ j, 0 ≤ j → j < 20 → (P j ↔ Q j)) : mkb P = mkb Q := mkb_eq (mkb_r P) (fun j => by
  rw [bt_mk]
  exact ⟨fun q => ⟨q.1, (h j q.1.1 q.1.2).mp q.2⟩, fun q => ⟨q.1, (h j q.1.1 q.1.2).mpr q.2⟩⟩)
/-- a set of points: bits below 20 -/
def S20 (x : Int) : Prop := 0 ≤ x ∧ x < 1048576
theorem S20_mk (P : Int → Prop) : S20 (mkb P) := mkb_c P
theorem S20_in {x k : Int} (h : S20 x) (hb : bit x k) : 0 ≤ k ∧ k < 20 := ⟨hb.1, bt_in (n := 20) h.1 h.2 (by decide) hb⟩
theorem S20_of {x : Int} (hx : R32 x) (h : ∀ k, bit x k → k < 20) : S20 x := bt_set (n := 20) hx (by decide) (fun k hk => h k hk)
theorem S20_and {x y : Int} (h : S20 x) : S20 (iAnd x y) := S20_of (rg_and _ _) (fun k hk => (S20_in h (bt_and.mp hk).1).2)
theorem S20_or {x y : Int} (h : S20 x) (h2 : S20 y) : S20 (iOr x y) := S20_of (rg_or _ _) (fun k hk => (bt_or.mp hk).elim (fun q => (S20_in h q).2) (fun q => (S20_in h2 q).2))
theorem S20_1 {p : Int} (h0 : 0 ≤ p) (h1 : p < 20) : S20 (iShl 1 p) := S20_of (rg_shl _ _) (fun k hk => by rw [bt_1 h0 (by omega)] at hk; omega)
theorem S20_0 : S20 0 := ⟨by omega, by omega⟩
theorem S20_pos {x : Int} (h : S20 x) (h2 : x ≠ 0) : 0 < x ∧ x < 2147483648 := by
  have := h.1
  have := h.2
  omega
theorem S20_low {x : Int} (h : S20 x) (h2 : x ≠ 0) : bit x (iLow x) ∧ (∀ j, bit x j → iLow x ≤ j) ∧ 0 ≤ iLow x ∧ iLow x < 20 := by
  obtain ⟨a, b⟩ := iLow_ok (S20_pos h h2).1 (S20_pos h h2).2
  exact ⟨a, b, S20_in h a⟩
theorem S20_z {x : Int} (h : S20 x) : x = 0 ↔ ∀ k, ¬ bit x k := by
  constructor
  · rintro rfl k
    exact bt_zero
  · intro q
    refine Classical.byContradiction fun e => ?_
    obtain ⟨k, hk⟩ := bt_some (x := x) (by have := h.1; have := h.2; omega) e
    exact q k hk
theorem iPop_mk (P : Int → Prop) : iPop (mkb P) = ct P 20 := by
  have H : ∀ m : Nat, ct (bit (mkb P)) (20 + m) = ct P 20 := by
    intro m
    induction m with
    | zero => exact ct_congr 20 (fun k hk => by rw [bt_mk]; exact ⟨fun q => q.2, fun q => ⟨by omega, q⟩⟩)
    | succ m ih =>
      rw [show 20 + (m + 1) = (20 + m) + 1 by omega, ct_succ, ih, am_b_f (fun q => by have := (bt_mk.mp q).1; omega)]
      omega
  exact H 12
/-! ===== an object that stands at one place ===== -/
def am_oc (c : Nat) (a : Int) (v : am_V) (F : Prop) : Prop := am_o c v (fun x => x = a ∧ F)
theorem am_oc_e {c : Nat} {a : Int} {v : am_V} {F : Prop} (h : am_oc c a v F) : v = mR 1 c 0 a ∧ F := by
  obtain ⟨x, rfl, e, f⟩ := am_o_e h
  subst e
  exact ⟨rfl, f⟩
theorem am_sb_a {w v : am_V} {l' : am_L} {n : Nat} {vs : List am_V} (h : am_sm w v ∧ am_cat v = 1) (H : am_sb l' (am_args (n - 1) vs)) : am_sb (some w :: l') (am_args n (v :: vs)) := by
  match v, h with
  | .inl q, h => exact am_sb_c h.1 H
  | .inr (.inl q), h => exact absurd h.2 (by show ¬ (2 : Nat) = 1; decide)
  | .inr (.inr q), h => exact am_sb_c h.1 H
