/-! ===== Integer.bitCount counts bits ===== -/
theorem bt_ush {x p k : Int} (h0 : 0 ≤ p) (h1 : p < 32) (hk : 0 ≤ k) : bit (iUsh x p) k ↔ bit x (k + p) := by
  unfold bit iUsh
  rw [bt_tb]
  have H : ∀ n : Nat, n < 32 → (((Int32.ofInt (n : Int)).toUInt32 &&& Int32.toUInt32 31).toBitVec % 32).toNat = n := by decide
  have hp := H p.toNat (by omega)
  rw [show ((p.toNat : Nat) : Int) = p by omega] at hp
  show (0 ≤ k ∧ ((BitVec.ofInt 32 x) >>> (((Int32.ofInt p).toUInt32 &&& Int32.toUInt32 31).toBitVec % 32)).getLsbD k.toNat = true) ↔ _
  rw [BitVec.ushiftRight_eq', hp, BitVec.getLsbD_ushiftRight, show p.toNat + k.toNat = (k + p).toNat by omega]
  exact ⟨fun h => ⟨by omega, h.2⟩, fun h => ⟨hk, h.2⟩⟩
theorem nt_and {X Y : Nat} (hx : X < 2147483648) (hy : Y < 2147483648) : iAnd (X : Int) (Y : Int) = ((X &&& Y : Nat) : Int) := by
  have hz : X &&& Y < 2147483648 := Nat.lt_of_le_of_lt Nat.and_le_left hx
  refine bt_ext (rg_and _ _) (by omega) (fun k h0 h1 => ?_)
  rw [bt_and, bt_nat (by omega) (by omega) h0, bt_nat (by omega) (by omega) h0, bt_nat (by omega) (by omega) h0]
  simp only [Int.toNat_natCast, Nat.testBit_and, Bool.and_eq_true]
theorem nt_ush {X n : Nat} (hx : X < 2147483648) (hn : n < 32) : iUsh (X : Int) (n : Int) = ((X / 2 ^ n : Nat) : Int) := by
  have hz : X / 2 ^ n ≤ X := Nat.div_le_self _ _
  have hz2 : 0 ≤ ((X / 2 ^ n : Nat) : Int) := Int.natCast_nonneg _
  have hz3 : ((X / 2 ^ n : Nat) : Int) ≤ (X : Int) := Int.ofNat_le.mpr hz
  refine bt_ext (am_r32 _) (by omega) (fun k h0 h1 => ?_)
  rw [bt_ush (by omega) (by omega) h0, bt_nat (by omega) (by omega) (by omega), bt_nat (by omega) (by omega) h0]
  simp only [Int.toNat_natCast]
  rw [show (k + (n : Int)).toNat = n + k.toNat by omega, ← Nat.testBit_shiftRight, Nat.shiftRight_eq_div_pow]
theorem nt_l {Y B M m : Nat} (hB : B < 256) (hm : m < 256) : (256 * Y + B) &&& (256 * M + m) = 256 * (Y &&& M) + (B &&& m) := by
  have hz : B &&& m < 256 := Nat.lt_of_le_of_lt Nat.and_le_left hB
  apply Nat.eq_of_testBit_eq
  intro j
  rw [Nat.testBit_and]
  have e1 := Nat.testBit_two_pow_mul_add Y (b := B) (i := 8) hB j
  have e2 := Nat.testBit_two_pow_mul_add M (b := m) (i := 8) hm j
  have e3 := Nat.testBit_two_pow_mul_add (Y &&& M) (b := B &&& m) (i := 8) hz j
  rw [show 2 ^ 8 = 256 by decide] at e1 e2 e3
  rw [e1, e2, e3]
  split
  · rw [Nat.testBit_and]
  · rw [Nat.testBit_and]
theorem nt_1 : ∀ B : Nat, B < 256 → ∀ r : Nat, r < 2 → (128 * r + B / 2) &&& 85 = (B / 2) &&& 85 := by decide +kernel
theorem nt_2 : ∀ B : Nat, B < 256 → ∀ r : Nat, r < 4 → (64 * r + B / 4) &&& 51 = (B / 4) &&& 51 := by decide +kernel
theorem nt_3 : ∀ B : Nat, B < 80 → ∀ r : Nat, r < 5 → (B + B / 16 + 16 * r) &&& 15 = (B + B / 16) &&& 15 := by decide +kernel
/-- how many bits a byte has -/
def pc8 (B : Nat) : Nat := (B.testBit 0).toNat + (B.testBit 1).toNat + (B.testBit 2).toNat + (B.testBit 3).toNat + (B.testBit 4).toNat + (B.testBit 5).toNat + (B.testBit 6).toNat + (B.testBit 7).toNat
def pf1 (B : Nat) : Nat := B - (B / 2 &&& 85)
def pf2 (B : Nat) : Nat := (B &&& 51) + (B / 4 &&& 51)
theorem nt_b : ∀ B : Nat, B < 256 → (B / 2 &&& 85) ≤ B ∧ pf1 B < 256 ∧ pf2 (pf1 B) < 80 ∧ pf2 (pf1 B) % 16 < 5 ∧ (pf2 (pf1 B) + pf2 (pf1 B) / 16) &&& 15 = pc8 B ∧ pc8 B ≤ 8 := by decide +kernel
theorem nt_s1 {Y B M : Nat} (hB : B < 256) : ((256 * Y + B) / 2) &&& (256 * M + 85) = 256 * ((Y / 2) &&& M) + ((B / 2) &&& 85) := by
  rw [show (256 * Y + B) / 2 = 256 * (Y / 2) + (128 * (Y % 2) + B / 2) by omega, nt_l (by omega) (by omega), nt_1 B hB (Y % 2) (by omega)]
theorem nt_s2 {Y B M : Nat} (hB : B < 256) : ((256 * Y + B) / 4) &&& (256 * M + 51) = 256 * ((Y / 4) &&& M) + ((B / 4) &&& 51) := by
  rw [show (256 * Y + B) / 4 = 256 * (Y / 4) + (64 * (Y % 4) + B / 4) by omega, nt_l (by omega) (by omega), nt_2 B hB (Y % 4) (by omega)]
theorem nt_s3 {Y B M : Nat} (hB : B < 80) (hY : Y % 16 < 5) : ((256 * Y + B) + (256 * Y + B) / 16) &&& (256 * M + 15) = 256 * ((Y + Y / 16) &&& M) + ((B + B / 16) &&& 15) := by
  rw [show (256 * Y + B) + (256 * Y + B) / 16 = 256 * (Y + Y / 16) + (B + B / 16 + 16 * (Y % 16)) by omega, nt_l (by omega) (by omega), nt_3 B hB (Y % 16) hY]
/-- four bytes -/
def by4 (a b c d : Nat) : Nat := 256 * (256 * (256 * d + c) + b) + a
theorem nt_m5 : (1431655765 : Nat) = 256 * (256 * (256 * (256 * 0 + 85) + 85) + 85) + 85 := by decide
theorem nt_m3 : (858993459 : Nat) = 256 * (256 * (256 * (256 * 0 + 51) + 51) + 51) + 51 := by decide
theorem nt_mf : (252645135 : Nat) = 256 * (256 * (256 * (256 * 0 + 15) + 15) + 15) + 15 := by decide
theorem nt_f1 {a b c d : Nat} (ha : a < 256) (hb : b < 256) (hc : c < 256) (hd : d < 256) : by4 a b c d - (by4 a b c d / 2 &&& 1431655765) = by4 (pf1 a) (pf1 b) (pf1 c) (pf1 d) := by
  have h1 := (nt_b a ha).1
  have h2 := (nt_b b hb).1
  have h3 := (nt_b c hc).1
  have h4 := (nt_b d hd).1
  unfold by4 pf1
  rw [nt_m5, nt_s1 ha, nt_s1 hb, nt_s1 hc, show d / 2 &&& (256 * 0 + 85) = d / 2 &&& 85 by rw [Nat.mul_zero, Nat.zero_add]]
  omega
theorem nt_f2 {a b c d : Nat} (ha : a < 256) (hb : b < 256) (hc : c < 256) (hd : d < 256) : (by4 a b c d &&& 858993459) + (by4 a b c d / 4 &&& 858993459) = by4 (pf2 a) (pf2 b) (pf2 c) (pf2 d) := by
  unfold by4 pf2
  rw [nt_m3, nt_s2 ha, nt_s2 hb, nt_s2 hc, nt_l ha (by omega), nt_l hb (by omega), nt_l hc (by omega), show d / 4 &&& (256 * 0 + 51) = d / 4 &&& 51 by rw [Nat.mul_zero, Nat.zero_add], show d &&& (256 * 0 + 51) = d &&& 51 by rw [Nat.mul_zero, Nat.zero_add]]
  omega
theorem nt_f3 {a b c d : Nat} (ha : a < 80) (hb : b < 80) (hc : c < 80) (hd : d < 80) (gb : b % 16 < 5) (gc : c % 16 < 5) (gd : d % 16 < 5) : (by4 a b c d + by4 a b c d / 16) &&& 252645135 = by4 ((a + a / 16) &&& 15) ((b + b / 16) &&& 15) ((c + c / 16) &&& 15) ((d + d / 16) &&& 15) := by
  unfold by4
  rw [nt_mf, nt_s3 ha (by omega), nt_s3 hb (by omega), nt_s3 hc (by omega), show (d + d / 16) &&& (256 * 0 + 15) = (d + d / 16) &&& 15 by rw [Nat.mul_zero, Nat.zero_add]]
theorem nt_f4 {a b c d : Nat} (ha : a ≤ 8) (hb : b ≤ 8) (hc : c ≤ 8) (hd : d ≤ 8) : (by4 a b c d + by4 a b c d / 256 + (by4 a b c d + by4 a b c d / 256) / 65536) &&& 63 = a + b + c + d := by
  rw [show (63 : Nat) = 2 ^ 6 - 1 by decide, Nat.and_two_pow_sub_one_eq_mod]
  unfold by4
  have e1 : (256 * (256 * (256 * d + c) + b) + a) / 256 = 256 * (256 * d + c) + b := by omega
  rw [e1]
  have e2 : (256 * (256 * (256 * d + c) + b) + a + (256 * (256 * d + c) + b)) / 65536 = c + d + 256 * d := by omega
  rw [e2]
  omega
theorem nt_tb {a b c d : Nat} (ha : a < 256) (hb : b < 256) (hc : c < 256) (hd : d < 256) : ∀ j : Nat, j < 8 → (by4 a b c d).testBit j = a.testBit j ∧ (by4 a b c d).testBit (8 + j) = b.testBit j ∧ (by4 a b c d).testBit (16 + j) = c.testBit j ∧ (by4 a b c d).testBit (24 + j) = d.testBit j := by
  intro j hj
  have e : ∀ Y B : Nat, B < 256 → ∀ i, (256 * Y + B).testBit i = if i < 8 then B.testBit i else Y.testBit (i - 8) := fun Y B hB i => by
    have := Nat.testBit_two_pow_mul_add Y (b := B) (i := 8) hB i
    rw [show 2 ^ 8 = 256 by decide] at this
    exact this
  unfold by4
  refine ⟨?_, ?_, ?_, ?_⟩
  · rw [e _ _ ha, if_pos hj]
  · rw [e _ _ ha, if_neg (by omega), e _ _ hb, if_pos (by omega), show 8 + j - 8 = j by omega]
  · rw [e _ _ ha, if_neg (by omega), e _ _ hb, if_neg (by omega), e _ _ hc, if_pos (by omega), show 16 + j - 8 - 8 = j by omega]
  · rw [e _ _ ha, if_neg (by omega), e _ _ hb, if_neg (by omega), e _ _ hc, if_neg (by omega), show 24 + j - 8 - 8 - 8 = j by omega]
theorem nt_ct {X : Nat} (hx : X < 2147483648) : ∀ k : Nat, am_b (bit (X : Int) (k : Int)) = ((X.testBit k).toNat : Int) := by
  intro k
  have h := bt_nat (x := (X : Int)) (k := (k : Int)) (by omega) (by omega) (by omega)
  simp only [Int.toNat_natCast] at h
  cases hb : X.testBit k with
  | true => rw [am_b_t (h.mpr hb)]; rfl
  | false => rw [am_b_f (fun q => by have := h.mp q; rw [hb] at this; cases this)]; rfl
theorem nt_pop {a b c d : Nat} (ha : a < 256) (hb : b < 256) (hc : c < 256) (hd : d < 128) : iPop ((by4 a b c d : Nat) : Int) = ((pc8 a + pc8 b + pc8 c + pc8 d : Nat) : Int) := by
  have hx : by4 a b c d < 2147483648 := by unfold by4; omega
  have T := nt_tb ha hb hc (show d < 256 by omega)
  unfold iPop
  simp only [ct, nt_ct hx]
  unfold pc8
  rw [(T 0 (by omega)).1, (T 1 (by omega)).1, (T 2 (by omega)).1, (T 3 (by omega)).1, (T 4 (by omega)).1, (T 5 (by omega)).1, (T 6 (by omega)).1, (T 7 (by omega)).1]
  have t0 := T 0 (by omega)
  have t1 := T 1 (by omega)
  have t2 := T 2 (by omega)
  have t3 := T 3 (by omega)
  have t4 := T 4 (by omega)
  have t5 := T 5 (by omega)
  have t6 := T 6 (by omega)
  have t7 := T 7 (by omega)
  simp only [Nat.reduceAdd] at t0 t1 t2 t3 t4 t5 t6 t7
  rw [t0.2.1, t1.2.1, t2.2.1, t3.2.1, t4.2.1, t5.2.1, t6.2.1, t7.2.1, t0.2.2.1, t1.2.2.1, t2.2.2.1, t3.2.2.1, t4.2.2.1, t5.2.2.1, t6.2.2.1, t7.2.2.1, t0.2.2.2, t1.2.2.2, t2.2.2.2, t3.2.2.2, t4.2.2.2, t5.2.2.2, t6.2.2.2, t7.2.2.2]
  omega
/-- what bitCount's code computes -/
def iPc (x : Int) : Int :=
  let a := x - iAnd (iUsh x 1) 1431655765
  let b := iAnd a 858993459 + iAnd (iUsh a 2) 858993459
  let c := iAnd (b + iUsh b 4) 252645135
  let d := c + iUsh c 8
  iAnd (d + iUsh d 16) 63
theorem nt_pc {x : Int} (h0 : 0 ≤ x) (h1 : x < 2147483648) : iPc x = iPop x := by
  obtain ⟨X, rfl⟩ := Int.eq_ofNat_of_zero_le h0
  have hX : X < 2147483648 := by omega
  have hx : X = by4 (X % 256) (X / 256 % 256) (X / 65536 % 256) (X / 16777216) := by unfold by4; omega
  generalize ea : X % 256 = a at hx
  generalize eb : X / 256 % 256 = b at hx
  generalize ec : X / 65536 % 256 = c at hx
  generalize ed : X / 16777216 = d at hx
  have ha : a < 256 := by omega
  have hb : b < 256 := by omega
  have hc : c < 256 := by omega
  have hd : d < 128 := by omega
  obtain ⟨a1, a2, a3, a4, a5, a6⟩ := nt_b a ha
  obtain ⟨b1, b2, b3, b4, b5, b6⟩ := nt_b b hb
  obtain ⟨c1, c2, c3, c4, c5, c6⟩ := nt_b c hc
  obtain ⟨d1, d2, d3, d4, d5, d6⟩ := nt_b d (by omega)
  have hd2 : pf1 d < 128 := by unfold pf1; omega
  clear ea eb ec ed
  subst hx
  rw [nt_pop ha hb hc hd]
  unfold iPc
  have k1 : (by4 a b c d : Int) - iAnd (iUsh (by4 a b c d : Nat) 1) 1431655765 = ((by4 (pf1 a) (pf1 b) (pf1 c) (pf1 d) : Nat) : Int) := by
    have e1 := nt_ush (n := 1) hX (by omega)
    rw [show ((1 : Nat) : Int) = 1 by decide] at e1
    have e2 := nt_and (X := by4 a b c d / 2 ^ 1) (Y := 1431655765) (by omega) (by omega)
    rw [show ((1431655765 : Nat) : Int) = 1431655765 by decide] at e2
    have e3 := nt_f1 ha hb hc (show d < 256 by omega)
    have e4 : by4 a b c d / 2 &&& 1431655765 ≤ by4 a b c d / 2 := Nat.and_le_left
    rw [e1, e2, ← e3, show (2 : Nat) ^ 1 = 2 by decide]
    omega
  have r1 : by4 (pf1 a) (pf1 b) (pf1 c) (pf1 d) < 2147483648 := by unfold by4; omega
  have k2 : iAnd (by4 (pf1 a) (pf1 b) (pf1 c) (pf1 d) : Nat) 858993459 + iAnd (iUsh (by4 (pf1 a) (pf1 b) (pf1 c) (pf1 d) : Nat) 2) 858993459 = ((by4 (pf2 (pf1 a)) (pf2 (pf1 b)) (pf2 (pf1 c)) (pf2 (pf1 d)) : Nat) : Int) := by
    have e1 := nt_ush (n := 2) r1 (by omega)
    rw [show ((2 : Nat) : Int) = 2 by decide] at e1
    have e2 := nt_and (X := by4 (pf1 a) (pf1 b) (pf1 c) (pf1 d) / 2 ^ 2) (Y := 858993459) (by omega) (by omega)
    have e3 := nt_and (Y := 858993459) r1 (by omega)
    rw [show ((858993459 : Nat) : Int) = 858993459 by decide] at e2 e3
    have e4 := nt_f2 a2 b2 c2 d2
    rw [e1, e2, e3, ← e4, show (2 : Nat) ^ 2 = 4 by decide]
    omega
  have r2 : by4 (pf2 (pf1 a)) (pf2 (pf1 b)) (pf2 (pf1 c)) (pf2 (pf1 d)) < 1342177280 := by unfold by4; omega
  have k3 : iAnd ((by4 (pf2 (pf1 a)) (pf2 (pf1 b)) (pf2 (pf1 c)) (pf2 (pf1 d)) : Nat) + iUsh (by4 (pf2 (pf1 a)) (pf2 (pf1 b)) (pf2 (pf1 c)) (pf2 (pf1 d)) : Nat) 4) 252645135 = ((by4 (pc8 a) (pc8 b) (pc8 c) (pc8 d) : Nat) : Int) := by
    have e1 := nt_ush (X := by4 (pf2 (pf1 a)) (pf2 (pf1 b)) (pf2 (pf1 c)) (pf2 (pf1 d))) (n := 4) (by omega) (by omega)
    rw [show ((4 : Nat) : Int) = 4 by decide] at e1
    have e4 := nt_f3 a3 b3 c3 d3 b4 c4 d4
    rw [a5, b5, c5, d5] at e4
    have e2 := nt_and (X := by4 (pf2 (pf1 a)) (pf2 (pf1 b)) (pf2 (pf1 c)) (pf2 (pf1 d)) + by4 (pf2 (pf1 a)) (pf2 (pf1 b)) (pf2 (pf1 c)) (pf2 (pf1 d)) / 16) (Y := 252645135) (by omega) (by omega)
    rw [show ((252645135 : Nat) : Int) = 252645135 by decide, e4] at e2
    rw [e1, show (2 : Nat) ^ 4 = 16 by decide, ← e2]
    congr 1
  have r3 : by4 (pc8 a) (pc8 b) (pc8 c) (pc8 d) < 200000000 := by unfold by4; omega
  have k4 : iAnd (((by4 (pc8 a) (pc8 b) (pc8 c) (pc8 d) : Nat) + iUsh (by4 (pc8 a) (pc8 b) (pc8 c) (pc8 d) : Nat) 8) + iUsh ((by4 (pc8 a) (pc8 b) (pc8 c) (pc8 d) : Nat) + iUsh (by4 (pc8 a) (pc8 b) (pc8 c) (pc8 d) : Nat) 8) 16) 63 = ((pc8 a + pc8 b + pc8 c + pc8 d : Nat) : Int) := by
    generalize hZ : by4 (pc8 a) (pc8 b) (pc8 c) (pc8 d) = Z
    have e5 := nt_f4 a6 b6 c6 d6
    rw [hZ] at e5 r3
    have e1 := nt_ush (X := Z) (n := 8) (by omega) (by omega)
    rw [show ((8 : Nat) : Int) = 8 by decide, show (2 : Nat) ^ 8 = 256 by decide] at e1
    have e2 := nt_ush (X := Z + Z / 256) (n := 16) (by omega) (by omega)
    rw [show ((16 : Nat) : Int) = 16 by decide, show (2 : Nat) ^ 16 = 65536 by decide] at e2
    have e3 := nt_and (X := Z + Z / 256 + (Z + Z / 256) / 65536) (Y := 63) (by omega) (by omega)
    rw [show ((63 : Nat) : Int) = 63 by decide, e5] at e3
    rw [e1, show (Z : Int) + ((Z / 256 : Nat) : Int) = ((Z + Z / 256 : Nat) : Int) by omega, e2, show ((Z + Z / 256 : Nat) : Int) + (((Z + Z / 256) / 65536 : Nat) : Int) = ((Z + Z / 256 + (Z + Z / 256) / 65536 : Nat) : Int) by omega]
    exact e3
  simp only []
  rw [k1, k2, k3, k4]
