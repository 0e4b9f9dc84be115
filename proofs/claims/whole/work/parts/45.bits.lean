/-! ===== sets as bits ===== -/
def bit (x k : Int) : Prop := 0 ≤ k ∧ (BitVec.ofInt 32 x).getLsbD k.toNat = true
theorem bt_tb (z : Int32) : BitVec.ofInt 32 z.toInt = z.toBitVec := BitVec.ofInt_toInt
theorem bt_lt {x k : Int} (h : bit x k) : k < 32 := by
  have h1 := h.1
  have h2 : k.toNat < 32 := BitVec.lt_of_getLsbD h.2
  omega
theorem bt_ge {x k : Int} (h : bit x k) : 0 ≤ k := h.1
theorem bt_and {x y k : Int} : bit (iAnd x y) k ↔ bit x k ∧ bit y k := by
  unfold bit iAnd
  rw [bt_tb, Int32.toBitVec_and, BitVec.getLsbD_and, Bool.and_eq_true, Int32.toBitVec_ofInt, Int32.toBitVec_ofInt]
  exact ⟨fun h => ⟨⟨h.1, h.2.1⟩, ⟨h.1, h.2.2⟩⟩, fun h => ⟨h.1.1, h.1.2, h.2.2⟩⟩
theorem bt_or {x y k : Int} : bit (iOr x y) k ↔ bit x k ∨ bit y k := by
  unfold bit iOr
  rw [bt_tb, Int32.toBitVec_or, BitVec.getLsbD_or, Bool.or_eq_true, Int32.toBitVec_ofInt, Int32.toBitVec_ofInt]
  exact ⟨fun h => h.2.elim (fun q => Or.inl ⟨h.1, q⟩) (fun q => Or.inr ⟨h.1, q⟩), fun h => h.elim (fun q => ⟨q.1, Or.inl q.2⟩) (fun q => ⟨q.1, Or.inr q.2⟩)⟩
theorem bt_m1 {k : Int} : bit (-1) k ↔ 0 ≤ k ∧ k < 32 := by
  unfold bit
  rw [show BitVec.ofInt 32 (-1) = BitVec.allOnes 32 by decide, BitVec.getLsbD_allOnes, decide_eq_true_eq]
  omega
theorem bt_xor {x y k : Int} : bit (iXor x y) k ↔ ¬ (bit x k ↔ bit y k) := by
  unfold bit iXor
  rw [bt_tb, Int32.toBitVec_xor, BitVec.getLsbD_xor, Int32.toBitVec_ofInt, Int32.toBitVec_ofInt]
  by_cases hk : 0 ≤ k
  · cases (BitVec.ofInt 32 x).getLsbD k.toNat <;> cases (BitVec.ofInt 32 y).getLsbD k.toNat <;> simp [hk]
  · simp [hk]
/-- the others -/
theorem bt_not {x k : Int} : bit (iXor x (-1)) k ↔ 0 ≤ k ∧ k < 32 ∧ ¬ bit x k := by
  rw [bt_xor, bt_m1]
  constructor
  · intro h
    by_cases hb : bit x k
    · exact absurd ⟨fun _ => ⟨hb.1, bt_lt hb⟩, fun _ => hb⟩ h
    · by_cases hk : 0 ≤ k ∧ k < 32
      · exact ⟨hk.1, hk.2, hb⟩
      · exact absurd ⟨fun q => absurd q hb, fun q => absurd q hk⟩ h
  · intro h e
    exact h.2.2 (e.mpr ⟨h.1, h.2.1⟩)
theorem bt_sh {p : Int} (h0 : 0 ≤ p) (h1 : p < 32) : ((Int32.ofInt p &&& 31).toBitVec.smod 32).toNat = p.toNat := by
  have H : ∀ n : Nat, n < 32 → ((Int32.ofInt (n : Int) &&& 31).toBitVec.smod 32).toNat = n := by decide
  have := H p.toNat (by omega)
  rw [show ((p.toNat : Nat) : Int) = p by omega] at this
  exact this
theorem bt_shl {x p k : Int} (h0 : 0 ≤ p) (h1 : p < 32) : bit (iShl x p) k ↔ p ≤ k ∧ k < 32 ∧ bit x (k - p) := by
  unfold bit iShl
  rw [bt_tb]
  show (0 ≤ k ∧ ((BitVec.ofInt 32 x) <<< ((Int32.ofInt p &&& 31).toBitVec.smod 32)).getLsbD k.toNat = true) ↔ _
  rw [BitVec.shiftLeft_eq', bt_sh h0 h1, BitVec.getLsbD_shiftLeft, Bool.and_eq_true, Bool.and_eq_true, Bool.not_eq_true', decide_eq_true_eq, decide_eq_false_iff_not]
  constructor
  · rintro ⟨a, ⟨b, c⟩, d⟩
    exact ⟨by omega, by omega, by omega, by rw [show (k - p).toNat = k.toNat - p.toNat by omega]; exact d⟩
  · rintro ⟨a, b, c, d⟩
    exact ⟨by omega, ⟨by omega, by omega⟩, by rw [show (k - p).toNat = k.toNat - p.toNat by omega] at d; exact d⟩
theorem bt_one {k : Int} : bit 1 k ↔ k = 0 := by
  unfold bit
  rw [show BitVec.ofInt 32 1 = 1#32 by decide, BitVec.getLsbD_one]
  simp only [Bool.and_eq_true, decide_eq_true_eq]
  omega
theorem bt_zero {k : Int} : ¬ bit 0 k := by
  intro h
  have h2 := h.2
  rw [show BitVec.ofInt 32 0 = 0#32 by decide, BitVec.getLsbD_zero] at h2
  cases h2
/-- one point -/
theorem bt_1 {p k : Int} (h0 : 0 ≤ p) (h1 : p < 32) : bit (iShl 1 p) k ↔ k = p := by
  rw [bt_shl h0 h1, bt_one]
  omega
theorem bt_shr {x p k : Int} (h0 : 0 ≤ p) (h1 : 0 ≤ k) (h2 : k + p < 32) : bit (iShr x p) k ↔ bit x (k + p) := by
  unfold bit iShr
  rw [bt_tb]
  show (0 ≤ k ∧ (BitVec.sshiftRight' (BitVec.ofInt 32 x) ((Int32.ofInt p &&& 31).toBitVec.smod 32)).getLsbD k.toNat = true) ↔ _
  rw [BitVec.sshiftRight_eq', bt_sh h0 (by omega), BitVec.getLsbD_sshiftRight]
  simp only [Bool.and_eq_true, Bool.not_eq_true', decide_eq_false_iff_not]
  rw [if_pos (by omega), show p.toNat + k.toNat = (k + p).toNat by omega]
  constructor
  · rintro ⟨-, -, d⟩; exact ⟨by omega, d⟩
  · rintro ⟨-, d⟩; exact ⟨h1, by omega, d⟩
theorem bt_ext {x y : Int} (hx : R32 x) (hy : R32 y) (h : ∀ k, 0 ≤ k → k < 32 → (bit x k ↔ bit y k)) : x = y := by
  have e : BitVec.ofInt 32 x = BitVec.ofInt 32 y := by
    apply BitVec.eq_of_getLsbD_eq
    intro i hi
    have := h i (by omega) (by omega)
    unfold bit at this
    rw [show ((i : Int)).toNat = i by omega] at this
    have h2 : (BitVec.ofInt 32 x).getLsbD i = true ↔ (BitVec.ofInt 32 y).getLsbD i = true := ⟨fun q => (this.mp ⟨by omega, q⟩).2, fun q => (this.mpr ⟨by omega, q⟩).2⟩
    exact Bool.eq_iff_iff.mpr h2
  have e2 : Int32.ofInt x = Int32.ofInt y := by
    apply Int32.toBitVec.inj
    rw [Int32.toBitVec_ofInt, Int32.toBitVec_ofInt, e]
  exact (am_eq hx hy).mp e2
theorem rg_and (x y : Int) : R32 (iAnd x y) := am_r32 _
theorem rg_or (x y : Int) : R32 (iOr x y) := am_r32 _
theorem rg_xor (x y : Int) : R32 (iXor x y) := am_r32 _
theorem rg_shl (x y : Int) : R32 (iShl x y) := am_r32 _
theorem rg_shr (x y : Int) : R32 (iShr x y) := am_r32 _
/-- has -/
theorem bt_has {x k : Int} (h0 : 0 ≤ k) (h1 : k < 32) : (iAnd (iShr x k) 1 = 1 ↔ bit x k) ∧ (iAnd (iShr x k) 1 = 0 ↔ ¬ bit x k) := by
  have e : ∀ j, bit (iAnd (iShr x k) 1) j ↔ j = 0 ∧ bit x k := by
    intro j
    rw [bt_and, bt_one]
    constructor
    · rintro ⟨a, rfl⟩
      rw [bt_shr h0 (by omega) (by omega)] at a
      exact ⟨rfl, by rw [Int.zero_add] at a; exact a⟩
    · rintro ⟨rfl, a⟩
      exact ⟨(bt_shr h0 (by omega) (by omega)).mpr (by rw [Int.zero_add]; exact a), rfl⟩
  by_cases hb : bit x k
  · have e1 : iAnd (iShr x k) 1 = 1 := bt_ext (rg_and _ _) (by omega) (fun j _ _ => by rw [e, bt_one]; exact ⟨fun q => q.1, fun q => ⟨q, hb⟩⟩)
    rw [e1]
    exact ⟨⟨fun _ => hb, fun _ => rfl⟩, ⟨fun q => by omega, fun q => absurd hb q⟩⟩
  · have e1 : iAnd (iShr x k) 1 = 0 := bt_ext (rg_and _ _) (by omega) (fun j _ _ => by rw [e]; exact ⟨fun q => absurd q.2 hb, fun q => absurd q bt_zero⟩)
    rw [e1]
    exact ⟨⟨fun q => by omega, fun q => absurd q hb⟩, ⟨fun _ => hb, fun _ => rfl⟩⟩
theorem bt_has1 {x k : Int} (h0 : 0 ≤ k) (h1 : k < 32) : iAnd (iShr x k) 1 = 1 ↔ bit x k := (bt_has h0 h1).1
theorem bt_has0 {x k : Int} (h0 : 0 ≤ k) (h1 : k < 32) : iAnd (iShr x k) 1 = 0 ↔ ¬ bit x k := (bt_has h0 h1).2
/-- as natural numbers -/
theorem bt_nat {x k : Int} (h0 : 0 ≤ x) (h1 : x < 4294967296) (hk : 0 ≤ k) : bit x k ↔ x.toNat.testBit k.toNat = true := by
  unfold bit
  rw [BitVec.getLsbD, BitVec.toNat_ofInt]
  rw [show (x % ((2 ^ 32 : Nat) : Int)).toNat = x.toNat by rw [Int.emod_eq_of_lt h0 (by omega)]]
  exact ⟨fun h => h.2, fun h => ⟨hk, h⟩⟩
theorem bt_msb {x : Int} (hx : R32 x) : bit x 31 ↔ x < 0 := by
  constructor
  · intro h
    refine Classical.byContradiction fun q => ?_
    have h2 := (bt_nat (by omega) (by omega) (by omega)).mp h
    have h3 := Nat.testBit_lt_two_pow (x := x.toNat) (i := 31) (by omega)
    rw [show (31 : Int).toNat = 31 by decide, h3] at h2
    cases h2
  · intro h
    unfold bit
    refine ⟨by omega, ?_⟩
    rw [BitVec.getLsbD, BitVec.toNat_ofInt, show (31 : Int).toNat = 31 by decide]
    have e : (x % ((2 ^ 32 : Nat) : Int)).toNat = 2 ^ 31 + (x + 2147483648).toNat := by
      have : x % ((2 ^ 32 : Nat) : Int) = x + 4294967296 := by
        rw [show ((2 ^ 32 : Nat) : Int) = 4294967296 by decide]
        omega
      rw [this]
      omega
    rw [e, Nat.testBit_two_pow_add_eq, Nat.testBit_lt_two_pow (by omega)]
    rfl
/-- a set of numbers below n -/
theorem bt_set {x : Int} {n : Nat} (hx : R32 x) (hn : n ≤ 31) (h : ∀ k, bit x k → k < (n : Int)) : 0 ≤ x ∧ x < 2 ^ n := by
  have h0 : 0 ≤ x := by
    refine Classical.byContradiction fun q => ?_
    have := h 31 ((bt_msb hx).mpr (by omega))
    omega
  refine ⟨h0, ?_⟩
  have h1 : x.toNat < 2 ^ n := by
    apply Nat.lt_pow_two_of_testBit
    intro i hi
    refine Classical.byContradiction fun q => ?_
    have q2 : x.toNat.testBit i = true := by simpa using q
    have := h i ((bt_nat h0 (by omega) (by omega)).mpr (by rw [show ((i : Int)).toNat = i by omega]; exact q2))
    omega
  have : (x.toNat : Int) < ((2 ^ n : Nat) : Int) := by exact_mod_cast h1
  rw [Int.toNat_of_nonneg h0] at this
  simpa using this
theorem bt_in {x k : Int} {n : Nat} (h0 : 0 ≤ x) (h1 : x < 2 ^ n) (hn : n ≤ 31) (h : bit x k) : k < (n : Int) := by
  have hp : (2 : Nat) ^ n ≤ 2 ^ 31 := Nat.pow_le_pow_right (by omega) hn
  have hlt : x.toNat < 2 ^ n := by
    have : (x.toNat : Int) < ((2 ^ n : Nat) : Int) := by rw [Int.toNat_of_nonneg h0]; simpa using h1
    exact_mod_cast this
  have h2 := (bt_nat h0 (by omega) h.1).mp h
  refine Classical.byContradiction fun q => ?_
  have hge : n ≤ k.toNat := by omega
  have h3 := Nat.testBit_lt_two_pow (x := x.toNat) (i := k.toNat) (Nat.lt_of_lt_of_le hlt (Nat.pow_le_pow_right (by omega) hge))
  rw [h3] at h2
  cases h2
theorem bt_pow {p : Int} (h0 : 0 ≤ p) (h1 : p ≤ 30) : iShl 1 p = 2 ^ p.toNat := by
  have H : ∀ n : Nat, n < 31 → iShl 1 (n : Int) = 2 ^ n := by decide
  have := H p.toNat (by omega)
  rw [show ((p.toNat : Nat) : Int) = p by omega] at this
  exact this
/-- all points -/
theorem bt_all {n k : Int} (h0 : 0 ≤ n) (h1 : n ≤ 30) : bit (iShl 1 n - 1) k ↔ 0 ≤ k ∧ k < n := by
  rw [bt_pow h0 h1]
  have hp : (2 : Nat) ^ n.toNat ≤ 2 ^ 30 := Nat.pow_le_pow_right (by omega) (by omega)
  have hq : 0 < (2 : Nat) ^ n.toNat := Nat.pow_pos (by omega)
  have e : ((2 : Int) ^ n.toNat - 1) = (((2 ^ n.toNat - 1 : Nat)) : Int) := by
    rw [Int.natCast_sub hq]
    simp
  rw [e]
  by_cases hk : 0 ≤ k
  · rw [bt_nat (by omega) (by omega) hk, Int.toNat_natCast, Nat.testBit_two_pow_sub_one, decide_eq_true_eq]
    omega
  · exact ⟨fun q => absurd q.1 hk, fun q => absurd q.1 hk⟩
theorem bt_all_r {n : Int} (h0 : 0 ≤ n) (h1 : n ≤ 30) : 0 ≤ iShl 1 n - 1 ∧ iShl 1 n - 1 < 1073741824 := by
  rw [bt_pow h0 h1]
  have hp : (2 : Nat) ^ n.toNat ≤ 2 ^ 30 := Nat.pow_le_pow_right (by omega) (by omega)
  have hq : 0 < (2 : Nat) ^ n.toNat := Nat.pow_pos (by omega)
  have e : ((2 : Int) ^ n.toNat - 1) = (((2 ^ n.toNat - 1 : Nat)) : Int) := by
    rw [Int.natCast_sub hq]
    simp
  rw [e]
  omega
/-- how many of the first n have a property -/
noncomputable def ct (P : Int → Prop) : Nat → Int
  | 0 => 0
  | n + 1 => ct P n + am_b (P (n : Int))
theorem ct_succ (P : Int → Prop) (n : Nat) : ct P (n + 1) = ct P n + am_b (P (n : Int)) := rfl
theorem ct_congr {P Q : Int → Prop} : ∀ n : Nat, (∀ k : Nat, k < n → (P k ↔ Q k)) → ct P n = ct Q n
  | 0, _ => rfl
  | n + 1, h => by
    rw [ct_succ, ct_succ, ct_congr n (fun k hk => h k (by omega)), propext (h n (by omega))]
theorem ct_le (P : Int → Prop) : ∀ n : Nat, 0 ≤ ct P n ∧ ct P n ≤ n
  | 0 => ⟨Int.le_refl _, Int.le_refl _⟩
  | n + 1 => by
    have h := ct_le P n
    rw [ct_succ]
    rcases am_b_01 (P (n : Int)) with e | e <;> rw [e] <;> omega
/-- how many points a set has -/
noncomputable def iPop (x : Int) : Int := ct (bit x) 32
