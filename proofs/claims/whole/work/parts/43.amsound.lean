/-! ===== the abstract machine is sound ===== -/
/-- from there on the method ends, and R holds of its answer and of the memory then -/
def am_G (dp : Nat) (t : ri_T) (pc : Nat) (lvc : ri_L) (stc : List Value) (h : am_H) (G : ri_M) (R : Option am_V → am_H → Prop) : Prop :=
  ∃ (v : Option am_V) (h' : am_H), R v h' ∧ am_wf h' ∧ (∀ w, v = some w → am_ok w) ∧ ri_ev dp none t (pc, lvc, stc, am_M h G, 0, 0) (v.map am_cv, am_M h' G, 0, 0)
/-- a call ends so -/
def am_CA (d y : Nat) (as : List am_V) (h : am_H) (K : Option am_V → am_H → Prop) : Prop :=
  ∃ t : ri_T, ri_P y = some t ∧ am_cats as ≤ t.2.1 ∧ ∀ G, am_wf h → am_okS as → am_G d t 0 (lv_args 0 (as.map am_cv)) [] h G K
/-- a method m, at pc, with these locals: it ends so -/
def am_AT (dp m pc : Nat) (lv : am_L) (h : am_H) (R : Option am_V → am_H → Prop) : Prop :=
  ∀ (t : ri_T) (lvc : ri_L) (G : ri_M), ri_P m = some t → am_wf h → am_okL lv → am_rel lv lvc → am_G dp t pc lvc [] h G R
section AMS
variable {d dp : Nat} {t : ri_T} {pc pc' : Nat} {lvc lvc' : ri_L} {stc s0 s1 s2 : List Value} {h h' : am_H} {G : ri_M} {R : Option am_V → am_H → Prop} {i : ri_I}
theorem am_on (ht : t.1[pc]? = some (some i)) (hs : ri_step none ri_Fd t.2.2 i (pc, lvc, stc, am_M h G, 0, 0) = some (.inl (pc', lvc', s2, am_M h' G, 0, 0))) (g : am_G dp t pc' lvc' s2 h' G R) : am_G dp t pc lvc stc h G R := by
  obtain ⟨v, h2, a, b, c, e⟩ := g
  exact ⟨v, h2, a, b, c, ri_nx ht hs e⟩
theorem am_on2 (ht : t.1[pc]? = some (some i)) (e0 : stc = s0) (hs : ri_step none ri_Fd t.2.2 i (pc, lvc, s0, am_M h G, 0, 0) = some (.inl (pc', lvc', s1, am_M h' G, 0, 0))) (e1 : s1 = s2) (g : am_G dp t pc' lvc' s2 h' G R) : am_G dp t pc lvc stc h G R := by
  subst e0
  subst e1
  exact am_on ht hs g
theorem am_okc {v : am_V} {r : List am_V} (h1 : am_ok v) (h2 : am_okS r) : am_okS (v :: r) := fun w hw => by
  rcases List.mem_cons.mp hw with rfl | q
  · exact h1
  · exact h2 w q
theorem am_okt {v : am_V} {r : List am_V} (h1 : am_okS (v :: r)) : am_okS r := fun w hw => h1 w (List.mem_cons_of_mem _ hw)
theorem am_okh {v : am_V} {r : List am_V} (h1 : am_okS (v :: r)) : am_ok v := h1 v List.mem_cons_self
theorem am_okI (x : Int) : am_ok (mI x) := fun e => by cases e
theorem am_okJ (x : Int) : am_ok (mJ x) := fun e => by cases e
theorem am_okB {x : Int} (h : R32 x) : am_ok (mB x) := fun _ => h
theorem am_okK {x : Int} (h : R64 x) : am_ok (mK x) := fun _ => h
theorem am_int_e {v : am_V} {K : Int → Bool → Prop} (hv : am_ok v) (H : am_int v K) : ∃ x f, am_cv v = .int (Int32.ofInt x) ∧ (f = true → R32 x) ∧ K x f := by
  match v, hv, H with
  | .inl (x, f), hv, H => exact ⟨x, f, rfl, hv, H⟩
  | .inr (.inl _), _, H => exact False.elim H
  | .inr (.inr (.inl _)), _, H => exact False.elim H
  | .inr (.inr (.inr (.inl p))), _, H => exact ⟨am_b p, true, rfl, fun _ => am_b_r p, H⟩
  | .inr (.inr (.inr (.inr _))), _, H => exact False.elim H
theorem am_lng_e {v : am_V} {K : Int → Bool → Prop} (hv : am_ok v) (H : am_lng v K) : ∃ x f, am_cv v = .long (Int64.ofInt x) ∧ (f = true → R64 x) ∧ K x f := by
  match v, hv, H with
  | .inl _, hv, H => exact False.elim H
  | .inr (.inl (x, f)), hv, H => exact ⟨x, f, rfl, hv, H⟩
  | .inr (.inr _), _, H => exact False.elim H
theorem am_i1_e {st : List am_V} {K : Int → Bool → List am_V → Prop} (hs : am_okS st) (H : am_i1 st K) : ∃ x f r, st.map am_cv = .int (Int32.ofInt x) :: r.map am_cv ∧ (f = true → R32 x) ∧ am_okS r ∧ K x f r := by
  match st, hs, H with
  | [], _, H => exact False.elim H
  | v :: r, hs, H =>
    obtain ⟨x, f, e, a, b⟩ := am_int_e (am_okh hs) H
    exact ⟨x, f, r, by rw [List.map_cons, e], a, am_okt hs, b⟩
theorem am_i2_e {st : List am_V} {K : Int → Bool → Int → Bool → List am_V → Prop} (hs : am_okS st) (H : am_i2 st K) : ∃ x f y g r, st.map am_cv = .int (Int32.ofInt y) :: .int (Int32.ofInt x) :: r.map am_cv ∧ (f = true → R32 x) ∧ (g = true → R32 y) ∧ am_okS r ∧ K x f y g r := by
  match st, hs, H with
  | [], _, H => exact False.elim H
  | [_], _, H => exact False.elim H
  | w :: v :: r, hs, H =>
    obtain ⟨x, f, e, a, b⟩ := am_int_e (am_okh (am_okt hs)) H
    obtain ⟨y, g, e2, a2, b2⟩ := am_int_e (am_okh hs) b
    exact ⟨x, f, y, g, r, by rw [List.map_cons, List.map_cons, e, e2], a, a2, am_okt (am_okt hs), b2⟩
theorem am_l1_e {st : List am_V} {K : Int → Bool → List am_V → Prop} (hs : am_okS st) (H : am_l1 st K) : ∃ x f r, st.map am_cv = .long (Int64.ofInt x) :: r.map am_cv ∧ (f = true → R64 x) ∧ am_okS r ∧ K x f r := by
  match st, hs, H with
  | [], _, H => exact False.elim H
  | v :: r, hs, H =>
    obtain ⟨x, f, e, a, b⟩ := am_lng_e (am_okh hs) H
    exact ⟨x, f, r, by rw [List.map_cons, e], a, am_okt hs, b⟩
theorem am_l2_e {st : List am_V} {K : Int → Bool → Int → Bool → List am_V → Prop} (hs : am_okS st) (H : am_l2 st K) : ∃ x f y g r, st.map am_cv = .long (Int64.ofInt y) :: .long (Int64.ofInt x) :: r.map am_cv ∧ (f = true → R64 x) ∧ (g = true → R64 y) ∧ am_okS r ∧ K x f y g r := by
  match st, hs, H with
  | [], _, H => exact False.elim H
  | [_], _, H => exact False.elim H
  | w :: v :: r, hs, H =>
    obtain ⟨x, f, e, a, b⟩ := am_lng_e (am_okh (am_okt hs)) H
    obtain ⟨y, g, e2, a2, b2⟩ := am_lng_e (am_okh hs) b
    exact ⟨x, f, y, g, r, by rw [List.map_cons, List.map_cons, e, e2], a, a2, am_okt (am_okt hs), b2⟩
theorem am_ob_e {f : Bool} {p K : Prop} (H : am_ob f p K) (hf : f = true → p) : p ∧ K := by
  cases f with
  | true => exact ⟨hf rfl, H⟩
  | false => exact H
theorem am_blt {a b : Nat} (h : Nat.blt a b = true) : a < b := Nat.le_of_ble_eq_true h
theorem am_bltf {a b : Nat} (h : Nat.blt a b = false) : ¬ a < b := fun q => by
  have := Nat.ble_eq_true_of_le q
  unfold Nat.blt at h
  rw [h] at this
  cases this
theorem am_chk_r {v : Int} {n : Nat} (H : am_chk v n = true) : -(n : Int) ≤ v ∧ v < n := by
  unfold am_chk at H
  split at H
  · rename_i k
    have := am_blt H
    show -(n : Int) ≤ (k : Int) ∧ (k : Int) < n
    omega
  · rename_i k
    have := am_blt H
    omega
theorem am_cst_e {a : Nat} (H : Nat.blt a 4294967296 = true) : Int32.ofInt (am_cst a) = Int32.ofNat a ∧ R32 (am_cst a) := by
  have h0 : a < 4294967296 := am_blt H
  unfold am_cst
  split
  · rename_i hb
    have hb : a < 2147483648 := am_blt hb
    refine ⟨Int32.ofInt_eq_ofNat, ?_⟩
    show R32 (a : Int)
    omega
  · rename_i hb
    have hb : ¬ a < 2147483648 := am_bltf hb
    refine ⟨?_, ?_⟩
    · rw [Int32.ofInt_sub, show Int32.ofInt 4294967296 = 0 by decide, Int32.sub_zero]
      exact Int32.ofInt_eq_ofNat
    · show R32 ((a : Int) - 4294967296)
      omega
theorem am_csl_e {a : Nat} (H : Nat.blt a 18446744073709551616 = true) : Int64.ofInt (am_csl a) = Int64.ofNat a ∧ R64 (am_csl a) := by
  have h0 : a < 18446744073709551616 := am_blt H
  unfold am_csl
  split
  · rename_i hb
    have hb : a < 9223372036854775808 := am_blt hb
    refine ⟨Int64.ofInt_eq_ofNat, ?_⟩
    show R64 (a : Int)
    omega
  · rename_i hb
    have hb : ¬ a < 9223372036854775808 := am_bltf hb
    refine ⟨?_, ?_⟩
    · rw [Int64.ofInt_sub, show Int64.ofInt 18446744073709551616 = 0 by decide, Int64.sub_zero]
      exact Int64.ofInt_eq_ofNat
    · show R64 ((a : Int) - 18446744073709551616)
      omega
theorem am_i8 {v : Int} (h1 : -128 ≤ v) (h2 : v < 128) : (Int8.ofInt v).toInt32 = Int32.ofInt v := by
  rw [← Int32.ofInt_int8ToInt, Int8.toInt_ofInt_of_le (by omega) (by omega)]
theorem am_i16 {v : Int} (h1 : -32768 ≤ v) (h2 : v < 32768) : (Int16.ofInt v).toInt32 = Int32.ofInt v := by
  rw [← Int32.ofInt_int16ToInt, Int16.toInt_ofInt_of_le (by omega) (by omega)]
theorem am_il {x : Int} (h : R32 x) : (Int32.ofInt x).toInt64 = Int64.ofInt x := by
  rw [← Int64.ofInt_int32ToInt, am_ti h]
theorem am_dv {x y : Int} (h1 : R32 x) (h2 : R32 y) : Int32.ofInt (Int.tdiv x y) = Int32.ofInt x / Int32.ofInt y := by
  have e1 : Int32.minValue.toInt = -2147483648 := by decide
  have e2 : Int32.maxValue.toInt = 2147483647 := by decide
  exact Int32.ofInt_tdiv (by omega) (by omega) (by omega) (by omega)
theorem am_dvj {x y : Int} (h1 : R64 x) (h2 : R64 y) : Int64.ofInt (Int.tdiv x y) = Int64.ofInt x / Int64.ofInt y := by
  have e1 : Int64.minValue.toInt = -9223372036854775808 := by decide
  have e2 : Int64.maxValue.toInt = 9223372036854775807 := by decide
  exact Int64.ofInt_tdiv (by omega) (by omega) (by omega) (by omega)
theorem am_rm {x y : Int} (h1 : R32 x) (h2 : R32 y) : Int32.ofInt (Int.tmod x y) = Int32.ofInt x - Int32.ofInt x / Int32.ofInt y * Int32.ofInt y ∧ R32 (Int.tmod x y) := by
  constructor
  · rw [Int.tmod_def, Int32.ofInt_sub, Int32.ofInt_mul, am_dv h1 h2, Int32.mul_comm]
  · have e : (Int32.ofInt x % Int32.ofInt y).toInt = Int.tmod x y := by rw [Int32.toInt_mod, am_ti h1, am_ti h2]
    rw [← e]
    exact am_r32 _
theorem am_rmj {x y : Int} (h1 : R64 x) (h2 : R64 y) : Int64.ofInt (Int.tmod x y) = Int64.ofInt x - Int64.ofInt x / Int64.ofInt y * Int64.ofInt y ∧ R64 (Int.tmod x y) := by
  constructor
  · rw [Int.tmod_def, Int64.ofInt_sub, Int64.ofInt_mul, am_dvj h1 h2, Int64.mul_comm]
  · have e : (Int64.ofInt x % Int64.ofInt y).toInt = Int.tmod x y := by rw [Int64.toInt_mod, am_tj h1, am_tj h2]
    rw [← e]
    exact am_r64 _
theorem am_nz {y : Int} (h : R32 y) (h0 : ¬ y = 0) : ¬ Int32.ofInt y = 0 := by rw [← am_z, am_eq h am_r0]; exact h0
theorem am_nzj {y : Int} (h : R64 y) (h0 : ¬ y = 0) : ¬ Int64.ofInt y = 0 := by
  rw [show (0 : Int64) = Int64.ofInt 0 by decide, am_eqj h (by omega)]
  exact h0
theorem am_u16 {x : Int} (h0 : 0 ≤ x) (h1 : x < 65536) : ((Int32.ofInt x).toUInt32 % 65536).toInt32 = Int32.ofInt x := by
  obtain ⟨n, rfl⟩ := Int.eq_ofNat_of_zero_le h0
  have hn : n < 65536 := by omega
  have e : (Int32.ofInt (n : Int)).toUInt32 = UInt32.ofNat n := by rw [Int32.ofInt_eq_ofNat]; rfl
  have e2 : (Int32.ofInt (n : Int)).toUInt32 % 65536 = (Int32.ofInt (n : Int)).toUInt32 := by
    apply UInt32.toNat_inj.mp
    rw [e, UInt32.toNat_mod, UInt32.toNat_ofNat']
    show n % 2 ^ 32 % 65536 = n % 2 ^ 32
    omega
  rw [e2]
  rfl
theorem am_vd_e {k n m : Nat} {a : Int} (h : am_vd k n m a) (h0 : k ≠ 0) (h9 : k ≠ 9) : am_LY[a.toNat]? = some (k, n, m) ∧ ((a.toNat : Nat) : Int) = a ∧ a.toNat < 1000000 := by
  rcases h with q | ⟨q, -⟩ | ⟨q1, q2⟩
  · exact absurd q h0
  · exact absurd q h9
  · exact ⟨q2, by omega, by have := am_LY_lt q2; omega⟩
theorem am_cvr {k n m : Nat} {a : Int} (h0 : k ≠ 0) : am_cv (mR k n m a) = .ref a.toNat := if_neg h0
theorem am_LY_n : ∀ x ∈ am_LY, (x.1 = 1 ∨ (2 ≤ x.1 ∧ x.1 ≤ 8)) ∧ (x.1 = 2 ∨ x.1 = 3 ∨ x.1 = 4 ∨ x.1 = 5 → x.2.1 ≤ 5000) ∧ (x.1 = 6 ∨ x.1 = 7 ∨ x.1 = 8 → x.2.1 ≤ 100) := by decide +kernel
theorem am_LY_e {q k n m : Nat} (h : am_LY[q]? = some (k, n, m)) : (k = 1 ∨ (2 ≤ k ∧ k ≤ 8)) ∧ (k = 2 ∨ k = 3 ∨ k = 4 ∨ k = 5 → n ≤ 5000) ∧ (k = 6 ∨ k = 7 ∨ k = 8 → n ≤ 100) := am_LY_n (k, n, m) (List.mem_of_getElem? h)
/-- rows of rows, and the rows -/
theorem am_LY_r : ∀ q : Nat, q < 602 → ∀ n m, (am_LY[q]? = some (6, n, m) → ∀ i, i < n → am_LY[q + 1 + i]? = some (2, m, 0)) ∧ (am_LY[q]? = some (7, n, m) → ∀ i, i < n → am_LY[q + 1 + i]? = some (3, m, 0)) := by
  have H : ∀ q : Nat, q < 602 → (match am_LY[q]? with
      | some (6, n, m) => (List.range n).all (fun i => decide (am_LY[q + 1 + i]? = some (2, m, 0)))
      | some (7, n, m) => (List.range n).all (fun i => decide (am_LY[q + 1 + i]? = some (3, m, 0)))
      | _ => true) = true := by decide +kernel
  intro q hq n m
  have h := H q hq
  constructor
  · intro e i hi
    rw [e] at h
    exact of_decide_eq_true (List.all_eq_true.mp h i (List.mem_range.mpr hi))
  · intro e i hi
    rw [e] at h
    exact of_decide_eq_true (List.all_eq_true.mp h i (List.mem_range.mpr hi))
theorem am_LY_p : ∀ q : Nat, q < 602 → ∀ n, am_LY[q]? = some (8, n, 0) → ∀ i : Nat, i < n → am_vd 1 6 0 (am_pa i) := by
  have H : ∀ q : Nat, q < 602 → (match am_LY[q]? with
      | some (8, n, 0) => (List.range n).all (fun i => decide (0 ≤ am_pa i ∧ am_LY[(am_pa i).toNat]? = some (1, 6, 0)))
      | _ => true) = true := by decide +kernel
  intro q hq n e i hi
  have h := H q hq
  rw [e] at h
  have h2 := of_decide_eq_true (List.all_eq_true.mp h i (List.mem_range.mpr hi))
  exact Or.inr (Or.inr h2)
/-- fields that are references -/
theorem am_LY_f : ∀ q : Nat, q < 602 → ∀ c, am_LY[q]? = some (1, c, 0) → ∀ b f, am_fld c b = some f → (f.1 = 3 → am_vd f.2.1 f.2.2.1 f.2.2.2.1 ((q : Int) + f.2.2.2.2) ∧ f.2.1 ≠ 0) ∧ (f.1 = 4 → am_vd f.2.1 f.2.2.1 f.2.2.2.1 (am_sv q) ∧ f.2.1 ≠ 0) ∧ (¬ f.1 < 5 → am_vd f.2.1 f.2.2.1 f.2.2.2.1 f.2.2.2.2 ∧ f.2.1 ≠ 0) := by
  have H : ∀ q : Nat, q < 602 → (match am_LY[q]? with
      | some (1, c, 0) => (am_FT.getD c []).all (fun f => decide (((f.1 = 3 → 0 ≤ (q : Int) + f.2.2.2.2 ∧ am_LY[((q : Int) + f.2.2.2.2).toNat]? = some (f.2.1, f.2.2.1, f.2.2.2.1) ∧ f.2.1 ≠ 0) ∧ (f.1 = 4 → 0 ≤ am_sv q ∧ am_LY[(am_sv q).toNat]? = some (f.2.1, f.2.2.1, f.2.2.2.1) ∧ f.2.1 ≠ 0) ∧ (¬ f.1 < 5 → 0 ≤ f.2.2.2.2 ∧ am_LY[(f.2.2.2.2).toNat]? = some (f.2.1, f.2.2.1, f.2.2.2.1) ∧ f.2.1 ≠ 0))))
      | _ => true) = true := by decide +kernel
  intro q hq c e b f hf
  have h := H q hq
  rw [e] at h
  have h2 := of_decide_eq_true (List.all_eq_true.mp h f (List.mem_of_getElem? (am_fld_e hf)))
  exact ⟨fun e => ⟨Or.inr (Or.inr ⟨(h2.1 e).1, (h2.1 e).2.1⟩), (h2.1 e).2.2⟩, fun e => ⟨Or.inr (Or.inr ⟨(h2.2.1 e).1, (h2.2.1 e).2.1⟩), (h2.2.1 e).2.2⟩, fun e => ⟨Or.inr (Or.inr ⟨(h2.2.2 e).1, (h2.2.2 e).2.1⟩), (h2.2.2 e).2.2⟩⟩
/-- a number goes into a cell: the numbers stay in range -/
theorem am_wf_up {q k n m : Nat} {i : Nat} {x : Int} (hw : am_wf h) (e : am_LY[q]? = some (k, n, m)) (hx : am_wfc (am_up h q i x) q k n) : am_wf (am_up h q i x) := by
  intro q' k' n' m' e'
  by_cases hq : q' = q
  · subst hq
    rw [e] at e'
    cases e'
    exact hx
  · have h2 := hw q' k' n' m' e'
    have e2 : ∀ j, am_up h q i x (q' : Int) j = h (q' : Int) j := fun j => am_up_ne (by omega)
    unfold am_wfc at h2 ⊢
    simp only [e2]
    exact h2
theorem am_br_e {cd : ClassFile.Cond} {x y : Int} {T F : Prop} (H : am_br cd x y T F) : ((match cd with | .eq => x = y | .ne => ¬ x = y | .lt => x < y | .ge => y ≤ x | .gt => y < x | .le => x ≤ y) ∧ T) ∨ (¬ (match cd with | .eq => x = y | .ne => ¬ x = y | .lt => x < y | .ge => y ≤ x | .gt => y < x | .le => x ≤ y) ∧ F) := by
  cases cd with
  | eq => exact (Classical.em (x = y)).elim (fun c => Or.inl ⟨c, H.1 c⟩) (fun c => Or.inr ⟨c, H.2 c⟩)
  | ne => exact (Classical.em (x = y)).elim (fun c => Or.inr ⟨fun q => q c, H.2 c⟩) (fun c => Or.inl ⟨c, H.1 c⟩)
  | lt => exact (Classical.em (x < y)).elim (fun c => Or.inl ⟨c, H.1 c⟩) (fun c => Or.inr ⟨c, H.2 (Int.not_lt.mp c)⟩)
  | ge => exact (Classical.em (y ≤ x)).elim (fun c => Or.inl ⟨c, H.1 c⟩) (fun c => Or.inr ⟨c, H.2 (Int.not_le.mp c)⟩)
  | gt => exact (Classical.em (y < x)).elim (fun c => Or.inl ⟨c, H.1 c⟩) (fun c => Or.inr ⟨c, H.2 (Int.not_lt.mp c)⟩)
  | le => exact (Classical.em (x ≤ y)).elim (fun c => Or.inl ⟨c, H.1 c⟩) (fun c => Or.inr ⟨c, H.2 (Int.not_le.mp c)⟩)
theorem am_sw_e {x : Int} {K : Int → Prop} : ∀ (os : List Int) (lo : Int), am_sw x K lo os → lo ≤ x → ∀ off, os[(x - lo).toNat]? = some off → K off
  | [], lo, _, _, off, h => by simp at h
  | w :: os, lo, H, hl, off, h => by
    by_cases e : x = lo
    · subst e
      have e2 : w = off := by simpa using h
      subst e2
      exact H.1 rfl
    · refine am_sw_e os (lo + 1) H.2 (by omega) off ?_
      rw [show (x - lo).toNat = (x - (lo + 1)).toNat + 1 by omega] at h
      simpa using h
theorem am_obs_e : ∀ (vs : List am_V) (F : List am_V → Prop), am_obs vs F → am_okS vs → ∃ ws, F ws ∧ am_okS ws ∧ ws.map am_cv = vs.map am_cv
  | [], F, H, hs => ⟨[], H, hs, rfl⟩
  | .inl (x, f) :: vs, F, H, hs => by
    obtain ⟨hx, H2⟩ := am_ob_e H (am_okh hs)
    obtain ⟨ws, a, b, c⟩ := am_obs_e vs _ H2 (am_okt hs)
    exact ⟨mB x :: ws, a, am_okc (am_okB hx) b, by rw [List.map_cons, List.map_cons, c]; rfl⟩
  | .inr (.inl (x, f)) :: vs, F, H, hs => by
    obtain ⟨hx, H2⟩ := am_ob_e H (am_okh hs)
    obtain ⟨ws, a, b, c⟩ := am_obs_e vs _ H2 (am_okt hs)
    exact ⟨mK x :: ws, a, am_okc (am_okK hx) b, by rw [List.map_cons, List.map_cons, c]; rfl⟩
  | .inr (.inr v) :: vs, F, H, hs => by
    obtain ⟨ws, a, b, c⟩ := am_obs_e vs _ H (am_okt hs)
    exact ⟨.inr (.inr v) :: ws, a, am_okc (am_okh hs) b, by rw [List.map_cons, List.map_cons, c]⟩
theorem am_cats_app : ∀ (u v : List am_V), am_cats (u ++ v) = am_cats u + am_cats v
  | [], v => by simp [am_cats]
  | x :: u, v => by
    show am_cat x + am_cats (u ++ v) = am_cat x + am_cats u + am_cats v
    rw [am_cats_app u v]
    omega
theorem am_dup2 {rk a b c d pc : Nat} {lv : ri_L} {v u : Value} {r : List Value} {M : ri_M} (hv : v.category = 1) (hu : u.category = 1) : ri_step none ri_Fd rk (.dup2, a, b, c, d) (pc, lv, v :: u :: r, M, 0, 0) = some (.inl (pc + 1, lv, v :: u :: v :: u :: r, M, 0, 0)) := by
  cases v with
  | long x => cases hv
  | double x => cases hv
  | _ => exact if_pos ⟨hv, hu⟩
theorem am_x_gf {rk a b c d pc idx q : Nat} {lv : ri_L} {v : Value} {fs r : List Value} {M : ri_M} (hM : M[q]? = some (.inr (a, fs))) (hq : q < 1000000) (hv : fs[b]? = some v) : ri_step none ri_Fd rk (.getfield idx, a, b, c, d) (pc, lv, .ref q :: r, M, 0, 0) = some (.inl (pc + 3, lv, v :: r, M, 0, 0)) := by
  simp only [ri_step, hM, hq, hv, and_self, if_true]
theorem am_x_pf {rk a b c d pc idx q : Nat} {lv : ri_L} {v : Value} {fs r : List Value} {M : ri_M} (hM : M[q]? = some (.inr (a, fs))) (hq : q < 1000000) (hb : b < fs.length) (hf : ri_fit d v = true) : ri_step none ri_Fd rk (.putfield idx, a, b, c, d) (pc, lv, v :: .ref q :: r, M, 0, 0) = some (.inl (pc + 3, lv, r, M.set q (.inr (a, fs.set b v)), 0, 0)) := by
  simp only [ri_step, hM, hq, hb, hf, and_self, if_true]
theorem am_x_iaload {rk a b c d pc q : Nat} {lv : ri_L} {i v : Int32} {xs : List Int32} {r : List Value} {M : ri_M} (hM : M[q]? = some (.inl (0, .inl xs))) (hq : q < 1000000) (hi : ¬ i < 0) (hv : xs[i.toNatClampNeg]? = some v) : ri_step none ri_Fd rk (.iaload, a, b, c, d) (pc, lv, .int i :: .ref q :: r, M, 0, 0) = some (.inl (pc + 1, lv, .int v :: r, M, 0, 0)) := by
  simp only [ri_step, hM, hq, hi, hv, not_false_eq_true, and_self, if_true]
theorem am_x_caload {rk a b c d pc q : Nat} {lv : ri_L} {i v : Int32} {xs : List Int32} {r : List Value} {M : ri_M} (hM : M[q]? = some (.inl (2, .inl xs))) (hq : q < 1000000) (hi : ¬ i < 0) (hv : xs[i.toNatClampNeg]? = some v) : ri_step none ri_Fd rk (.caload, a, b, c, d) (pc, lv, .int i :: .ref q :: r, M, 0, 0) = some (.inl (pc + 1, lv, .int v :: r, M, 0, 0)) := by
  simp only [ri_step, hM, hq, hi, hv, not_false_eq_true, and_self, if_true]
theorem am_x_baload {rk a b c d pc q : Nat} {lv : ri_L} {i v : Int32} {xs : List Int32} {r : List Value} {M : ri_M} (hM : M[q]? = some (.inl (3, .inl xs))) (hq : q < 1000000) (hi : ¬ i < 0) (hv : xs[i.toNatClampNeg]? = some v) : ri_step none ri_Fd rk (.baload, a, b, c, d) (pc, lv, .int i :: .ref q :: r, M, 0, 0) = some (.inl (pc + 1, lv, .int v :: r, M, 0, 0)) := by
  simp only [ri_step, hM, hq, hi, hv, not_false_eq_true, and_self, if_true]
theorem am_x_laload {rk a b c d pc q : Nat} {lv : ri_L} {i : Int32} {v : Int64} {xs : List Int64} {r : List Value} {M : ri_M} (hM : M[q]? = some (.inl (1, .inr (.inl xs)))) (hq : q < 1000000) (hi : ¬ i < 0) (hv : xs[i.toNatClampNeg]? = some v) : ri_step none ri_Fd rk (.laload, a, b, c, d) (pc, lv, .int i :: .ref q :: r, M, 0, 0) = some (.inl (pc + 1, lv, .long v :: r, M, 0, 0)) := by
  simp only [ri_step, hM, hq, hi, hv, not_false_eq_true, and_self, if_true]
theorem am_x_aaload {rk a b c d pc q t v : Nat} {lv : ri_L} {i : Int32} {xs : List (Option Nat)} {r : List Value} {M : ri_M} (hM : M[q]? = some (.inl (t, .inr (.inr xs)))) (ht : 4 ≤ t ∧ t < 7) (hq : q < 1000000) (hi : ¬ i < 0) (hv : xs[i.toNatClampNeg]? = some (some v)) : ri_step none ri_Fd rk (.aaload, a, b, c, d) (pc, lv, .int i :: .ref q :: r, M, 0, 0) = some (.inl (pc + 1, lv, .ref v :: r, M, 0, 0)) := by
  simp only [ri_step, hM, hq, hi, hv, ht.1, ht.2, not_false_eq_true, and_self, if_true, ri_rv]
theorem am_x_iastore {rk a b c d pc q : Nat} {lv : ri_L} {i x : Int32} {xs : List Int32} {r : List Value} {M : ri_M} (hM : M[q]? = some (.inl (0, .inl xs))) (hq : q < 1000000) (hi : ¬ i < 0) (hv : i.toNatClampNeg < xs.length) : ri_step none ri_Fd rk (.iastore, a, b, c, d) (pc, lv, .int x :: .int i :: .ref q :: r, M, 0, 0) = some (.inl (pc + 1, lv, r, M.set q (.inl (0, .inl (xs.set i.toNatClampNeg x))), 0, 0)) := by
  simp only [ri_step, hM, hq, hi, hv, not_false_eq_true, and_self, if_true]
theorem am_x_castore {rk a b c d pc q : Nat} {lv : ri_L} {i x : Int32} {xs : List Int32} {r : List Value} {M : ri_M} (hM : M[q]? = some (.inl (2, .inl xs))) (hq : q < 1000000) (hi : ¬ i < 0) (hv : i.toNatClampNeg < xs.length) : ri_step none ri_Fd rk (.castore, a, b, c, d) (pc, lv, .int x :: .int i :: .ref q :: r, M, 0, 0) = some (.inl (pc + 1, lv, r, M.set q (.inl (2, .inl (xs.set i.toNatClampNeg (vp_nar .char x)))), 0, 0)) := by
  simp only [ri_step, hM, hq, hi, hv, not_false_eq_true, and_self, if_true]
theorem am_x_bastore {rk a b c d pc q : Nat} {lv : ri_L} {i x : Int32} {xs : List Int32} {r : List Value} {M : ri_M} (hM : M[q]? = some (.inl (3, .inl xs))) (hq : q < 1000000) (hi : ¬ i < 0) (hv : i.toNatClampNeg < xs.length) : ri_step none ri_Fd rk (.bastore, a, b, c, d) (pc, lv, .int x :: .int i :: .ref q :: r, M, 0, 0) = some (.inl (pc + 1, lv, r, M.set q (.inl (3, .inl (xs.set i.toNatClampNeg (vp_nar .boolean x)))), 0, 0)) := by
  simp only [ri_step, hM, hq, hi, hv, not_false_eq_true, and_self, if_true]
theorem am_x_lastore {rk a b c d pc q : Nat} {lv : ri_L} {i : Int32} {x : Int64} {xs : List Int64} {r : List Value} {M : ri_M} (hM : M[q]? = some (.inl (1, .inr (.inl xs)))) (hq : q < 1000000) (hi : ¬ i < 0) (hv : i.toNatClampNeg < xs.length) : ri_step none ri_Fd rk (.lastore, a, b, c, d) (pc, lv, .long x :: .int i :: .ref q :: r, M, 0, 0) = some (.inl (pc + 1, lv, r, M.set q (.inl (1, .inr (.inl (xs.set i.toNatClampNeg x)))), 0, 0)) := by
  simp only [ri_step, hM, hq, hi, hv, not_false_eq_true, and_self, if_true]
theorem am_x_len2 {rk a b c d pc q : Nat} {lv : ri_L} {xs : List Int32} {r : List Value} {M : ri_M} (hM : M[q]? = some (.inl (0, .inl xs))) (hq : q < 1000000) : ri_step none ri_Fd rk (.arraylength, a, b, c, d) (pc, lv, .ref q :: r, M, 0, 0) = some (.inl (pc + 1, lv, .int (Int32.ofNat xs.length) :: r, M, 0, 0)) := by
  simp only [ri_step, hM, hq, if_neg (show ¬ q = 2000000 by omega), show (0 : Nat) < 4 by decide, and_self, if_true]
theorem am_x_len3 {rk a b c d pc q : Nat} {lv : ri_L} {xs : List Int64} {r : List Value} {M : ri_M} (hM : M[q]? = some (.inl (1, .inr (.inl xs)))) (hq : q < 1000000) : ri_step none ri_Fd rk (.arraylength, a, b, c, d) (pc, lv, .ref q :: r, M, 0, 0) = some (.inl (pc + 1, lv, .int (Int32.ofNat xs.length) :: r, M, 0, 0)) := by
  simp only [ri_step, hM, hq, if_neg (show ¬ q = 2000000 by omega), show (1 : Nat) < 4 by decide, and_self, if_true]
theorem am_x_sl {rk a d pc idx q : Nat} {lv : ri_L} {s r : List Value} {M : ri_M} (hq : 3000000 ≤ q ∧ q < 3000013) (h8 : (r.map (fun v => v.category)).sum ≤ 8) (hs : ri_Fd[13 + q % 1000000]? = some s) : ri_step none ri_Fd rk (.invokevirtual idx, a, 0, 9, d) (pc, lv, .ref q :: r, M, 0, 0) = some (.inl (pc + 3, lv, .int (Int32.ofNat s.length) :: r, M, 0, 0)) := by
  show ri_sx ri_Fd 0 pc lv (.ref q :: r) M 0 0 = _
  simp only [ri_sx, hq.1, hq.2, h8, hs, and_self, if_true]
theorem am_x_sc {rk a d pc idx q : Nat} {lv : ri_L} {i v : Int32} {s r : List Value} {M : ri_M} (hq : 3000000 ≤ q ∧ q < 3000013) (hi : ¬ i < 0) (h8 : (r.map (fun v => v.category)).sum ≤ 8) (hs : ri_Fd[13 + q % 1000000]? = some s) (hv : s[i.toNatClampNeg]? = some (.int v)) : ri_step none ri_Fd rk (.invokevirtual idx, a, 1, 9, d) (pc, lv, .int i :: .ref q :: r, M, 0, 0) = some (.inl (pc + 3, lv, .int v :: r, M, 0, 0)) := by
  show ri_sx ri_Fd 1 pc lv (.int i :: .ref q :: r) M 0 0 = _
  simp only [ri_sx, hq.1, hq.2, hi, h8, hs, hv, not_false_eq_true, and_self, if_true]
theorem am_x_cp {rk a b d pc idx q0 q1 : Nat} {lv : ri_L} {z dp sp : Int32} {xs ys : List Int32} {M : ri_M} (h0 : M[q0]? = some (.inl (0, .inl xs))) (h1 : M[q1]? = some (.inl (0, .inl ys))) (hq0 : q0 < 1000000) (hq1 : q1 < 1000000) (hs : ¬ sp < 0) (hd : ¬ dp < 0) (hz : ¬ z < 0) (hx : sp.toNatClampNeg + z.toNatClampNeg ≤ xs.length) (hy : dp.toNatClampNeg + z.toNatClampNeg ≤ ys.length) : ri_step none ri_Fd rk (.invokestatic idx, a, b, 4, d) (pc, lv, [.int z, .int dp, .ref q1, .int sp, .ref q0], M, 0, 0) = some (.inl (pc + 3, lv, [], M.set q1 (.inl (0, .inl (ri_cpy xs ys sp.toNatClampNeg dp.toNatClampNeg z.toNatClampNeg))), 0, 0)) := by
  simp only [ri_step, h0, h1, hq0, hq1, hs, hd, hz, hx, hy, not_false_eq_true, and_self, if_true]
theorem am_cl0 {y n0 pc dd : Nat} {lv : ri_L} {vs r : List Value} {M : ri_M} (hn : vs.length = n0) (h8 : (r.map (fun v => v.category)).sum ≤ 8) : ri_cl y n0 pc lv (vs.reverse ++ r) M 0 0 0 dd = some (.inr (.inl (y, vs, (pc, lv, r, M, 0, 0)))) := by
  subst hn
  have e1 : (vs.reverse ++ r).drop vs.length = r := List.drop_left' (List.length_reverse ..)
  have e2 : (vs.reverse ++ r).take vs.length = vs.reverse := List.take_left' (List.length_reverse ..)
  unfold ri_cl
  simp only [if_true, e1, e2]
  rw [if_neg (by rw [List.length_append, List.length_reverse]; omega), List.reverse_reverse]
theorem am_cl2 {y n0 pc dd q : Nat} {lv : ri_L} {vs r fs : List Value} {M : ri_M} (hn : vs.length = n0) (hM : M[q]? = some (.inr (dd, fs))) (hq : q < 1000000) (h8 : (r.map (fun v => v.category)).sum ≤ 8) : ri_cl y n0 pc lv (vs.reverse ++ .ref q :: r) M 0 0 2 dd = some (.inr (.inl (y, .ref q :: vs, (pc, lv, r, M, 0, 0)))) := by
  subst hn
  have e1 : (vs.reverse ++ .ref q :: r).drop (vs.length + 1) = r := by
    rw [show vs.reverse ++ Value.ref q :: r = (vs.reverse ++ [Value.ref q]) ++ r by simp]
    exact List.drop_left' (by simp)
  have e2 : (vs.reverse ++ .ref q :: r).take vs.length = vs.reverse := List.take_left' (List.length_reverse ..)
  have e3 : (vs.reverse ++ Value.ref q :: r)[vs.length]? = some (.ref q) := by rw [List.getElem?_append_right (by simp)]; simp
  unfold ri_cl
  simp only [if_neg (show ¬ (2 = 0) by decide), e1, e2, e3, hM]
  rw [if_neg (by rw [List.length_append, List.length_reverse]; omega), if_pos ⟨trivial, hq⟩, List.reverse_reverse]
theorem am_call_s {E : am_E} {y n0 dd : Nat} {st : List am_V} {K : List am_V → am_H → Prop} (hs : am_okS st) (H : am_call E y n0 0 dd st h K) : ∃ (ws vs r : List am_V), st = vs.reverse ++ r ∧ ws.map am_cv = vs.map am_cv ∧ (am_okS ws ∧ am_okS r) ∧ ((vs.map am_cv).length = n0 ∧ am_cats r ≤ 8) ∧ E y ws h (fun v h' => K (am_push v r) h') := by
  unfold am_call at H
  split at H
  · exact False.elim H
  · rename_i hn
    have hn : n0 ≤ st.length := by simpa using hn
    simp only at H
    split at H
    · rename_i h8
      have h8 : am_cats (st.drop n0) ≤ 8 := by simpa using h8
      obtain ⟨ws, a, b, c⟩ := am_obs_e _ _ H (fun v hv => hs v (List.mem_of_mem_take (List.mem_reverse.mp hv)))
      exact ⟨ws, (st.take n0).reverse, st.drop n0, by rw [List.reverse_reverse, List.take_append_drop], c, ⟨b, fun v hv => hs v (List.mem_of_mem_drop hv)⟩, ⟨by rw [List.length_map, List.length_reverse, List.length_take]; omega, h8⟩, a⟩
    · exact False.elim H
theorem am_call_v {E : am_E} {y n0 dd : Nat} {st : List am_V} {K : List am_V → am_H → Prop} (hs : am_okS st) (H : am_call E y n0 2 dd st h K) : ∃ (ws vs r : List am_V) (ci : Nat) (o : Int), st = vs.reverse ++ mR 1 ci 0 o :: r ∧ ws.map am_cv = vs.map am_cv ∧ (am_okS (mR 1 ci 0 o :: r) ∧ am_okS ws ∧ am_okS r) ∧ ((vs.map am_cv).length = n0 ∧ am_cats r ≤ 8) ∧ ci = dd ∧ E y (mR 1 dd 0 o :: ws) h (fun v h' => K (am_push v r) h') := by
  unfold am_call at H
  split at H
  · exact False.elim H
  · rename_i hn
    have hn : n0 ≤ st.length := by simpa using hn
    simp only at H
    split at H
    · rename_i ci o r hd
      split at H
      · rename_i hb h8
        have hci : ci = dd := by simpa using hb
        subst hci
        have h8 : am_cats r ≤ 8 := by simpa using h8
        obtain ⟨ws, a, b, c⟩ := am_obs_e _ _ H (fun v hv => hs v (List.mem_of_mem_take (List.mem_reverse.mp hv)))
        have ho : am_okS (mR 1 ci 0 o :: r) := fun v hv => hs v (List.mem_of_mem_drop (by rw [hd]; exact hv))
        exact ⟨ws, (st.take n0).reverse, r, ci, o, by rw [List.reverse_reverse, ← hd, List.take_append_drop], c, ⟨ho, b, am_okt ho⟩, ⟨by rw [List.length_map, List.length_reverse, List.length_take]; omega, h8⟩, rfl, a⟩
      · exact False.elim H
    · exact False.elim H
theorem am_gf_ok {f : Nat × Nat × Nat × Nat × Int} {b : Nat} {o : Int} (h1 : (f.1 = 0 → R32 (h o b)) ∧ (f.1 = 1 → R64 (h o b)) ∧ (f.1 = 2 → h o b = 0 ∨ h o b = 1)) (h2 : (f.1 = 3 → am_vd f.2.1 f.2.2.1 f.2.2.2.1 (o + f.2.2.2.2) ∧ f.2.1 ≠ 0) ∧ (f.1 = 4 → am_vd f.2.1 f.2.2.1 f.2.2.2.1 (am_sv o) ∧ f.2.1 ≠ 0) ∧ (¬ f.1 < 5 → am_vd f.2.1 f.2.2.1 f.2.2.2.1 f.2.2.2.2 ∧ f.2.1 ≠ 0)) : am_cv (am_gf f b o h) = am_fv f h o b ∧ am_ok (am_gf f b o h) := by
  obtain ⟨fk, k, n, m, dd⟩ := f
  match fk, h1, h2 with
  | 0, h1, h2 => exact ⟨rfl, am_okB (h1.1 rfl)⟩
  | 1, h1, h2 => exact ⟨rfl, am_okK (h1.2.1 rfl)⟩
  | 2, h1, h2 => exact ⟨rfl, am_okB (by have := h1.2.2 rfl; show R32 (h o b); omega)⟩
  | 3, h1, h2 => exact ⟨if_neg (h2.1 rfl).2, (h2.1 rfl).1⟩
  | 4, h1, h2 => exact ⟨if_neg (h2.2.1 rfl).2, (h2.2.1 rfl).1⟩
  | fk + 5, h1, h2 => exact ⟨if_neg (h2.2.2 (by show ¬ fk + 5 < 5; omega)).2, (h2.2.2 (by show ¬ fk + 5 < 5; omega)).1⟩
theorem am_pf_e {fk b : Nat} {o : Int} {v : am_V} {K : am_H → Prop} (hv : am_ok v) (H : am_pf fk b o v h K) : ∃ x, (∀ n : Nat × Nat × Nat × Int, am_cv v = am_fv (fk, n) (am_up h o b x) o b) ∧ ri_fit fk (am_cv v) = true ∧ ((fk = 0 → R32 x) ∧ (fk = 1 → R64 x) ∧ (fk = 2 → x = 0 ∨ x = 1) ∧ fk < 3) ∧ K (am_up h o b x) := by
  match fk, H with
  | 0, H =>
    obtain ⟨x, f, e, hf, hk⟩ := am_int_e hv H
    obtain ⟨hx, hk⟩ := am_ob_e hk hf
    refine ⟨x, fun n => ?_, by rw [e]; rfl, ⟨fun _ => hx, fun e => by omega, fun e => by omega, by omega⟩, hk⟩
    rw [e]
    show _ = Value.int (Int32.ofInt (am_up h o b x o b))
    rw [am_up_eq]
  | 1, H =>
    obtain ⟨x, f, e, hf, hk⟩ := am_lng_e hv H
    obtain ⟨hx, hk⟩ := am_ob_e hk hf
    refine ⟨x, fun n => ?_, by rw [e]; rfl, ⟨fun e => by omega, fun _ => hx, fun e => by omega, by omega⟩, hk⟩
    rw [e]
    show _ = Value.long (Int64.ofInt (am_up h o b x o b))
    rw [am_up_eq]
  | 2, H =>
    match v, H with
    | .inl (x, f), H =>
      refine ⟨x, fun n => ?_, ?_, ⟨fun e => by omega, fun e => by omega, fun _ => H.1, by omega⟩, H.2⟩
      · show Value.int (Int32.ofInt x) = Value.int (Int32.ofInt (am_up h o b x o b))
        rw [am_up_eq]
      · rcases H.1 with rfl | rfl
        · show ri_fit 2 (.int (Int32.ofInt 0)) = true
          decide
        · show ri_fit 2 (.int (Int32.ofInt 1)) = true
          decide
    | .inr (.inl _), H => exact False.elim H
    | .inr (.inr (.inl _)), H => exact False.elim H
    | .inr (.inr (.inr (.inl p))), H =>
      refine ⟨am_b p, fun n => ?_, ?_, ⟨fun e => by omega, fun e => by omega, fun _ => am_b_01 p, by omega⟩, H⟩
      · show Value.int (Int32.ofInt (am_b p)) = Value.int (Int32.ofInt (am_up h o b (am_b p) o b))
        rw [am_up_eq]
      · show ri_fit 2 (.int (Int32.ofInt (am_b p))) = true
        rcases am_b_01 p with e | e <;> rw [e] <;> decide
    | .inr (.inr (.inr (.inr _))), H => exact False.elim H
  | fk + 3, H => exact False.elim H
theorem am_wfc_pf {q c b : Nat} {o x : Int} {f : Nat × Nat × Nat × Nat × Int} (hw : am_wfc h q 1 c) (g2 : ((q : Nat) : Int) = o) (hf : am_fld c b = some f) (hx : (f.1 = 0 → R32 x) ∧ (f.1 = 1 → R64 x) ∧ (f.1 = 2 → x = 0 ∨ x = 1) ∧ f.1 < 3) : am_wfc (am_up h o b x) q 1 c := by
  refine ⟨fun e => by omega, fun e => by omega, fun e => by omega, fun e => by omega, fun _ b' f' hf' => ?_⟩
  have h2 := hw.2.2.2.2 rfl b' f' hf'
  rw [g2] at h2 ⊢
  by_cases e : b' = b
  · subst e
    rw [hf] at hf'
    cases hf'
    rw [am_up_eq]
    exact ⟨hx.1, hx.2.1, hx.2.2.1⟩
  · rw [am_up_ne2 (by omega)]
    exact h2
theorem am_wfc_row2 {q n : Nat} {o i x : Int} (hw : am_wfc h q 2 n) (g2 : ((q : Nat) : Int) = o) (hx : R32 x) : am_wfc (am_up h o i x) q 2 n := by
  refine ⟨fun _ j hj => ?_, fun e => by omega, fun e => by omega, fun e => by omega, fun e => by omega⟩
  have h2 := hw.1 rfl j hj
  rw [g2] at h2 ⊢
  by_cases e : (j : Int) = i
  · rw [e, am_up_eq]; exact hx
  · rw [am_up_ne2 e]; exact h2
theorem am_wfc_row3 {q n : Nat} {o i x : Int} (hw : am_wfc h q 3 n) (g2 : ((q : Nat) : Int) = o) (hx : R64 x) : am_wfc (am_up h o i x) q 3 n := by
  refine ⟨fun e => by omega, fun _ j hj => ?_, fun e => by omega, fun e => by omega, fun e => by omega⟩
  have h2 := hw.2.1 rfl j hj
  rw [g2] at h2 ⊢
  by_cases e : (j : Int) = i
  · rw [e, am_up_eq]; exact hx
  · rw [am_up_ne2 e]; exact h2
theorem am_wfc_row4 {q n : Nat} {o i x : Int} (hw : am_wfc h q 4 n) (g2 : ((q : Nat) : Int) = o) (hx : 0 ≤ x ∧ x < 65536) : am_wfc (am_up h o i x) q 4 n := by
  refine ⟨fun e => by omega, fun e => by omega, fun _ j hj => ?_, fun e => by omega, fun e => by omega⟩
  have h2 := hw.2.2.1 rfl j hj
  rw [g2] at h2 ⊢
  by_cases e : (j : Int) = i
  · rw [e, am_up_eq]; exact hx
  · rw [am_up_ne2 e]; exact h2
theorem am_wfc_row5 {q n : Nat} {o i x : Int} (hw : am_wfc h q 5 n) (g2 : ((q : Nat) : Int) = o) (hx : x = 0 ∨ x = 1) : am_wfc (am_up h o i x) q 5 n := by
  refine ⟨fun e => by omega, fun e => by omega, fun e => by omega, fun _ j hj => ?_, fun e => by omega⟩
  have h2 := hw.2.2.2.1 rfl j hj
  rw [g2] at h2 ⊢
  by_cases e : (j : Int) = i
  · rw [e, am_up_eq]; exact hx
  · rw [am_up_ne2 e]; exact h2
theorem am_cp_ne {p s q d n a i : Int} (e : a ≠ q) : am_cp h p s q d n a i = h a i := if_neg (fun z => e z.1)
theorem am_cp_row {h : am_H} {q0 q1 s d z : Int} {n0 n1 : Nat} (hz : 0 ≤ z) (hs : 0 ≤ s) (hs2 : s + z ≤ (n0 : Int)) (hd : 0 ≤ d) (hd2 : d + z ≤ (n1 : Int)) : ri_cpy ((List.range n0).map (fun (j : Nat) => Int32.ofInt (h q0 j))) ((List.range n1).map (fun (j : Nat) => Int32.ofInt (h q1 j))) s.toNat d.toNat z.toNat = (List.range n1).map (fun (j : Nat) => Int32.ofInt (am_cp h q0 s q1 d z q1 j)) := by
  apply List.ext_getElem?
  intro j
  unfold ri_cpy
  by_cases hj : j < n1
  · rw [am_rg n1 _ hj]
    by_cases h1 : j < d.toNat
    · rw [List.getElem?_append_left (by rw [List.length_take, List.length_map, List.length_range]; omega), List.getElem?_take_of_lt h1, am_rg n1 _ hj]
      rw [show am_cp h q0 s q1 d z q1 j = h q1 j from if_neg (by omega)]
    · rw [List.getElem?_append_right (by rw [List.length_take, List.length_map, List.length_range]; omega), List.length_take, List.length_map, List.length_range, Nat.min_eq_left (by omega)]
      by_cases h2 : j < d.toNat + z.toNat
      · rw [List.getElem?_append_left (by rw [List.length_take, List.length_drop, List.length_map, List.length_range]; omega), List.getElem?_take_of_lt (by omega), List.getElem?_drop, am_rg n0 _ (by omega)]
        rw [show am_cp h q0 s q1 d z q1 j = h q0 (s + (j - d)) from if_pos ⟨rfl, by omega, by omega⟩]
        rw [show ((s.toNat + (j - d.toNat) : Nat) : Int) = s + (j - d) by omega]
      · rw [List.getElem?_append_right (by rw [List.length_take, List.length_drop, List.length_map, List.length_range]; omega), List.length_take, List.length_drop, List.length_map, List.length_range, List.getElem?_drop, am_rg n1 _ (by omega)]
        rw [show am_cp h q0 s q1 d z q1 j = h q1 j from if_neg (by omega)]
        rw [show d.toNat + z.toNat + (j - d.toNat - min z.toNat (n0 - s.toNat)) = j by omega]
  · rw [List.getElem?_eq_none (by rw [List.length_append, List.length_append, List.length_take, List.length_take, List.length_drop, List.length_drop, List.length_map, List.length_map, List.length_range, List.length_range]; omega), List.getElem?_eq_none (by rw [List.length_map, List.length_range]; omega)]
theorem am_wf_cp {a0 b0 n0 n1 : Nat} {q0 q1 s d z : Int} (hw : am_wf h) (a1 : am_LY[a0]? = some (2, n1, 0)) (a2 : ((a0 : Nat) : Int) = q1) (b1 : am_LY[b0]? = some (2, n0, 0)) (b2 : ((b0 : Nat) : Int) = q0) (hb : 0 ≤ z ∧ 0 ≤ s ∧ s + z ≤ Int.ofNat n0 ∧ 0 ≤ d ∧ d + z ≤ Int.ofNat n1) : am_wf (am_cp h q0 s q1 d z) := by
  intro q k n m e
  by_cases hq : (q : Int) = q1
  · have hqa : q = a0 := by omega
    subst hqa
    rw [a1] at e
    cases e
    refine ⟨fun _ j hj => ?_, fun e => by omega, fun e => by omega, fun e => by omega, fun e => by omega⟩
    have h2 := (hw _ _ _ _ a1).1 rfl j hj
    rw [a2] at h2 ⊢
    unfold am_cp
    split
    · rename_i hc
      have hb3 : s + z ≤ (n0 : Int) := hb.2.2.1
      have h3 := (hw _ _ _ _ b1).1 rfl (s + (j - d)).toNat (by omega)
      rw [b2, show (((s + (j - d)).toNat : Nat) : Int) = s + (j - d) by omega] at h3
      exact h3
    · exact h2
  · have h2 := hw q k n m e
    have e2 : ∀ j, am_cp h q0 s q1 d z (q : Int) j = h (q : Int) j := fun j => am_cp_ne hq
    unfold am_wfc at h2 ⊢
    simp only [e2]
    exact h2
theorem am_nar_c {x : Int} (h0 : 0 ≤ x) (h1 : x < 65536) : vp_nar .char (Int32.ofInt x) = Int32.ofInt x := am_u16 h0 h1
theorem am_nar_b {x : Int} (h0 : x = 0 ∨ x = 1) : vp_nar .boolean (Int32.ofInt x) = Int32.ofInt x := by
  rcases h0 with rfl | rfl <;> decide
theorem am_max {x y : Int} (h1 : R32 x) (h2 : R32 y) : Int32.ofInt (max x y) = if Int32.ofInt x < Int32.ofInt y then Int32.ofInt y else Int32.ofInt x := by
  by_cases e : x < y
  · rw [if_pos ((am_lt h1 h2).mpr e), show max x y = y by omega]
  · rw [if_neg (fun q => e ((am_lt h1 h2).mp q)), show max x y = x by omega]
theorem am_min {x y : Int} (h1 : R32 x) (h2 : R32 y) : Int32.ofInt (min x y) = if Int32.ofInt y < Int32.ofInt x then Int32.ofInt y else Int32.ofInt x := by
  by_cases e : y < x
  · rw [if_pos ((am_lt h2 h1).mpr e), show min x y = y by omega]
  · rw [if_neg (fun q => e ((am_lt h2 h1).mp q)), show min x y = x by omega]
theorem am_maxj {x y : Int} (h1 : R64 x) (h2 : R64 y) : Int64.ofInt (max x y) = if Int64.ofInt y < Int64.ofInt x then Int64.ofInt x else Int64.ofInt y := by
  by_cases e : y < x
  · rw [if_pos ((am_ltj h2 h1).mpr e), show max x y = x by omega]
  · rw [if_neg (fun q => e ((am_ltj h2 h1).mp q)), show max x y = y by omega]
theorem am_strs : ∀ j : Nat, j < 13 → ∃ s, ri_Fd[13 + j]? = some s ∧ s.length ≤ 10 ∧ ∀ i, i < s.length → ∃ u : Int32, s[i]? = some (.int u) := by
  have H : ∀ j : Nat, j < 13 → (match ri_Fd[13 + j]? with | some s => Nat.ble s.length 10 && s.all (fun v => match v with | .int _ => true | _ => false) | none => false) = true := by decide +kernel
  intro j hj
  have h := H j hj
  cases hs : ri_Fd[13 + j]? with
  | none => rw [hs] at h; cases h
  | some s =>
    rw [hs] at h
    have h := Bool.and_eq_true_iff.mp h
    refine ⟨s, rfl, by simpa using h.1, fun i hi => ?_⟩
    have h2 := List.all_eq_true.mp h.2 s[i] (List.getElem_mem hi)
    rw [List.getElem?_eq_getElem hi]
    cases hv : s[i] with
    | int u => exact ⟨u, rfl⟩
    | _ => rw [hv] at h2; cases h2
theorem am_str_e {q : Int} (hv : am_ok (mR 9 0 0 q)) : ∃ s : List Value, ((3000000 ≤ q.toNat ∧ q.toNat < 3000013) ∧ ri_Fd[13 + q.toNat % 1000000]? = some s) ∧ (am_sl q = (s.length : Int) ∧ s.length ≤ 10) ∧ ∀ i, i < s.length → ∃ u : Int32, s[i]? = some (.int u) ∧ ∀ j : Int, j.toNat = i → am_sc q j = u.toInt := by
  have hq : 3000000 ≤ q ∧ q < 3000013 := by
    rcases hv with e | ⟨-, a, b⟩ | ⟨a, b⟩
    · cases e
    · exact ⟨a, b⟩
    · exact absurd (am_LY_e b).1 (by omega)
  obtain ⟨s, h1, h2, h3⟩ := am_strs (q.toNat - 3000000) (by omega)
  rw [show 13 + (q.toNat - 3000000) = 13 + q.toNat % 1000000 by omega] at h1
  have e1 : (q - 2999987).toNat = 13 + q.toNat % 1000000 := by omega
  refine ⟨s, ⟨⟨by omega, by omega⟩, h1⟩, ⟨?_, h2⟩, fun i hi => ?_⟩
  · unfold am_sl
    rw [e1, h1]
    rfl
  · obtain ⟨u, hu⟩ := h3 i hi
    refine ⟨u, hu, fun j hj => ?_⟩
    unfold am_sc
    rw [e1, h1, hj]
    show (match s[i]? with | some (.int v) => v.toInt | _ => 0) = _
    rw [hu]
/-- a call, once the step is known -/
theorem am_go {y : Nat} {E : am_E} {K : Nat → am_L → List am_V → am_H → Prop} {lv : am_L} {r ws : List am_V} {st' : List Value} (ht : t.1[pc]? = some (some i)) (hE : ∀ y as h K, E y as h K → am_CA d y as h K)
    (hK : ∀ pc lv lvc st h, K pc lv st h → am_wf h → am_okL lv → am_okS st → am_rel lv lvc → am_G (d + 1) t pc lvc (st.map am_cv) h G R) (hw : am_wf h) (hl : am_okL lv) (hr : am_rel lv lvc)
    (hs : ri_step none ri_Fd t.2.2 i (pc, lvc, st', am_M h G, 0, 0) = some (.inr (.inl (y, ws.map am_cv, (pc + 3, lvc, r.map am_cv, am_M h G, 0, 0))))) (hok : am_okS ws) (hrr : am_okS r)
    (H : E y ws h (fun v h' => K (pc + 3) lv (am_push v r) h')) : am_G (d + 1) t pc lvc st' h G R := by
  obtain ⟨t', hy, hc, hcall⟩ := hE _ _ _ _ H
  obtain ⟨v, h1, hk, hw1, hv1, e1⟩ := hcall G hw hok
  have hpush : am_okS (am_push v r) := by
    cases v with
    | none => exact hrr
    | some w => exact am_okc (hv1 w rfl) hrr
  obtain ⟨v2, h2, a2, b2, c2, e2⟩ := hK _ _ lvc _ _ hk hw1 hl hpush hr
  refine ⟨v2, h2, a2, b2, c2, ri_cll ht hs hy (by rw [am_cats_e]; exact hc) e1 ?_⟩
  have e3 : (am_push v r).map am_cv = (v.map am_cv).toList ++ r.map am_cv := by cases v <;> rfl
  rw [e3] at e2
  exact e2
set_option maxHeartbeats 8000000 in
theorem am_step_ok {E : am_E} {K : Nat → am_L → List am_V → am_H → Prop} {lv : am_L} {st : List am_V} (ht : t.1[pc]? = some (some i)) (hE : ∀ y as h K, E y as h K → am_CA d y as h K)
    (hK : ∀ pc lv lvc st h, K pc lv st h → am_wf h → am_okL lv → am_okS st → am_rel lv lvc → am_G (d + 1) t pc lvc (st.map am_cv) h G R) (hw : am_wf h) (hl : am_okL lv) (hs : am_okS st) (hr : am_rel lv lvc) (H : am_step t.2.2 E R i pc lv st h K) : am_G (d + 1) t pc lvc (st.map am_cv) h G R := by
  obtain ⟨ins, a, b, c, dd⟩ := i
  cases ins with
  | iconst v =>
    have H2 : (match am_chk v 2147483648 with | true => K (pc + 1) lv (mB v :: st) h | false => False) := H
    split at H2
    · rename_i hc
      have hr0 := am_chk_r hc
      have hr1 : R32 v := by omega
      exact am_on ht rfl (hK _ _ _ _ _ H2 hw hl (am_okc (am_okB hr1) hs) hr)
    · exact False.elim H2
  | bipush v =>
    have H2 : (match am_chk v 128 with | true => K (pc + 2) lv (mB v :: st) h | false => False) := H
    split at H2
    · rename_i hc
      have hr0 := am_chk_r hc
      have hr1 : R32 v := by omega
      exact am_on2 ht rfl rfl (by rw [am_i8 (by omega) (by omega)]; rfl) (hK _ _ _ _ _ H2 hw hl (am_okc (am_okB hr1) hs) hr)
    · exact False.elim H2
  | sipush v =>
    have H2 : (match am_chk v 32768 with | true => K (pc + 3) lv (mB v :: st) h | false => False) := H
    split at H2
    · rename_i hc
      have hr0 := am_chk_r hc
      have hr1 : R32 v := by omega
      exact am_on2 ht rfl rfl (by rw [am_i16 (by omega) (by omega)]; rfl) (hK _ _ _ _ _ H2 hw hl (am_okc (am_okB hr1) hs) hr)
    · exact False.elim H2
  | lconst v =>
    have hv : R64 (Int.ofNat v.val) := by show R64 ((v.val : Nat) : Int); have := v.isLt; omega
    exact am_on2 ht rfl rfl (by show _ = Value.long (Int64.ofInt ((v.val : Nat) : Int)) :: _; rw [Int64.ofInt_eq_ofNat]) (hK _ _ _ _ _ H hw hl (am_okc (am_okK hv) hs) hr)
  | aconst_null =>
    exact am_on ht rfl (hK _ _ _ _ _ H hw hl (am_okc (v := mR 0 0 0 0) (Or.inl rfl) hs) hr)
  | ldc idx =>
    match c, H with
    | 0, H =>
      have H2 : (match Nat.blt a 4294967296 with | true => K (pc + 2) lv (mB (am_cst a) :: st) h | false => False) := H
      split at H2
      · rename_i hc
        exact am_on2 ht rfl rfl (by show _ = Value.int (Int32.ofInt (am_cst a)) :: _; rw [(am_cst_e hc).1]) (hK _ _ _ _ _ H2 hw hl (am_okc (am_okB (am_cst_e hc).2) hs) hr)
      · exact False.elim H2
    | 1, H =>
      have H2 : (match Nat.blt a 13 with | true => K (pc + 2) lv (mR 9 0 0 (Int.ofNat (3000000 + a)) :: st) h | false => False) := H
      split at H2
      · rename_i hc
        have hc2 : a < 13 := am_blt hc
        exact am_on ht rfl (hK _ _ _ _ _ H2 hw hl (am_okc (v := mR 9 0 0 (Int.ofNat (3000000 + a))) (Or.inr (Or.inl ⟨rfl, by show (3000000 : Int) ≤ ((3000000 + a : Nat) : Int); omega, by show ((3000000 + a : Nat) : Int) < 3000013; omega⟩)) hs) hr)
      · exact False.elim H2
    | _ + 2, H => exact False.elim H
  | ldc_w idx =>
    match c, H with
    | 0, H =>
      have H2 : (match Nat.blt a 4294967296 with | true => K (pc + 3) lv (mB (am_cst a) :: st) h | false => False) := H
      split at H2
      · rename_i hc
        exact am_on2 ht rfl rfl (by show _ = Value.int (Int32.ofInt (am_cst a)) :: _; rw [(am_cst_e hc).1]) (hK _ _ _ _ _ H2 hw hl (am_okc (am_okB (am_cst_e hc).2) hs) hr)
      · exact False.elim H2
    | 1, H =>
      have H2 : (match Nat.blt a 13 with | true => K (pc + 3) lv (mR 9 0 0 (Int.ofNat (3000000 + a)) :: st) h | false => False) := H
      split at H2
      · rename_i hc
        have hc2 : a < 13 := am_blt hc
        exact am_on ht rfl (hK _ _ _ _ _ H2 hw hl (am_okc (v := mR 9 0 0 (Int.ofNat (3000000 + a))) (Or.inr (Or.inl ⟨rfl, by show (3000000 : Int) ≤ ((3000000 + a : Nat) : Int); omega, by show ((3000000 + a : Nat) : Int) < 3000013; omega⟩)) hs) hr)
      · exact False.elim H2
    | _ + 2, H => exact False.elim H
  | ldc2_w idx =>
    have H2 : (match Nat.blt a 18446744073709551616 with | true => K (pc + 3) lv (mK (am_csl a) :: st) h | false => False) := H
    split at H2
    · rename_i hc
      exact am_on2 ht rfl rfl (by show _ = Value.long (Int64.ofInt (am_csl a)) :: _; rw [(am_csl_e hc).1]) (hK _ _ _ _ _ H2 hw hl (am_okc (am_okK (am_csl_e hc).2) hs) hr)
    · exact False.elim H2
  | iload_n j =>
    have H2 : (match am_ld lv j.val with | some (.inl q) => K (pc + 1) lv (.inl q :: st) h | some (.inr (.inr (.inr (.inl q)))) => K (pc + 1) lv (mP q :: st) h | _ => False) := H
    split at H2
    · rename_i q hq
      have hg := am_ld_e hq
      refine am_on (s2 := am_cv (.inl q) :: st.map am_cv) ht ?_ (hK _ _ _ _ _ H2 hw hl (am_okc (hl _ _ hg) hs) hr)
      obtain ⟨x, f⟩ := q
      show (match ri_ld lvc j.val with | some (.int x) => some (Sum.inl (pc + 1, lvc, .int x :: st.map am_cv, am_M h G, 0, 0)) | _ => none : Option ri_X) = _
      rw [hr _ _ hg]
      rfl
    · rename_i q hq
      have hg := am_ld_e hq
      refine am_on (s2 := am_cv (mP q) :: st.map am_cv) ht ?_ (hK _ _ _ _ _ H2 hw hl (am_okc (hl _ _ hg) hs) hr)
      show (match ri_ld lvc j.val with | some (.int x) => some (Sum.inl (pc + 1, lvc, .int x :: st.map am_cv, am_M h G, 0, 0)) | _ => none : Option ri_X) = _
      rw [hr _ _ hg]
      rfl
    · exact False.elim H2
  | iload j =>
    have H2 : (match am_ld lv j with | some (.inl q) => K (pc + 2) lv (.inl q :: st) h | some (.inr (.inr (.inr (.inl q)))) => K (pc + 2) lv (mP q :: st) h | _ => False) := H
    split at H2
    · rename_i q hq
      have hg := am_ld_e hq
      refine am_on (s2 := am_cv (.inl q) :: st.map am_cv) ht ?_ (hK _ _ _ _ _ H2 hw hl (am_okc (hl _ _ hg) hs) hr)
      obtain ⟨x, f⟩ := q
      show (match ri_ld lvc j with | some (.int x) => some (Sum.inl (pc + 2, lvc, .int x :: st.map am_cv, am_M h G, 0, 0)) | _ => none : Option ri_X) = _
      rw [hr _ _ hg]
      rfl
    · rename_i q hq
      have hg := am_ld_e hq
      refine am_on (s2 := am_cv (mP q) :: st.map am_cv) ht ?_ (hK _ _ _ _ _ H2 hw hl (am_okc (hl _ _ hg) hs) hr)
      show (match ri_ld lvc j with | some (.int x) => some (Sum.inl (pc + 2, lvc, .int x :: st.map am_cv, am_M h G, 0, 0)) | _ => none : Option ri_X) = _
      rw [hr _ _ hg]
      rfl
    · exact False.elim H2
  | lload_n j =>
    have H2 : (match am_ld lv j.val with | some (.inr (.inl q)) => K (pc + 1) lv (.inr (.inl q) :: st) h | _ => False) := H
    split at H2
    · rename_i q hq
      have hg := am_ld_e hq
      refine am_on (s2 := am_cv (.inr (.inl q)) :: st.map am_cv) ht ?_ (hK _ _ _ _ _ H2 hw hl (am_okc (hl _ _ hg) hs) hr)
      obtain ⟨x, f⟩ := q
      show (match ri_ld lvc j.val with | some (.long x) => some (Sum.inl (pc + 1, lvc, .long x :: st.map am_cv, am_M h G, 0, 0)) | _ => none : Option ri_X) = _
      rw [hr _ _ hg]
      rfl
    · exact False.elim H2
  | lload j =>
    have H2 : (match am_ld lv j with | some (.inr (.inl q)) => K (pc + 2) lv (.inr (.inl q) :: st) h | _ => False) := H
    split at H2
    · rename_i q hq
      have hg := am_ld_e hq
      refine am_on (s2 := am_cv (.inr (.inl q)) :: st.map am_cv) ht ?_ (hK _ _ _ _ _ H2 hw hl (am_okc (hl _ _ hg) hs) hr)
      obtain ⟨x, f⟩ := q
      show (match ri_ld lvc j with | some (.long x) => some (Sum.inl (pc + 2, lvc, .long x :: st.map am_cv, am_M h G, 0, 0)) | _ => none : Option ri_X) = _
      rw [hr _ _ hg]
      rfl
    · exact False.elim H2
  | aload_n j =>
    have H2 : (match am_ld lv j.val with | some (.inr (.inr (.inl q))) => K (pc + 1) lv (.inr (.inr (.inl q)) :: st) h | _ => False) := H
    split at H2
    · rename_i q hq
      have hg := am_ld_e hq
      refine am_on (s2 := am_cv (.inr (.inr (.inl q))) :: st.map am_cv) ht ?_ (hK _ _ _ _ _ H2 hw hl (am_okc (hl _ _ hg) hs) hr)
      obtain ⟨x, n0, m0, a0⟩ := q
      show (match ri_ld lvc j.val with | some (.ref x) => some (Sum.inl (pc + 1, lvc, .ref x :: st.map am_cv, am_M h G, 0, 0)) | some .null => some (Sum.inl (pc + 1, lvc, .null :: st.map am_cv, am_M h G, 0, 0)) | _ => none : Option ri_X) = _
      rw [hr _ _ hg]
      show (match some (if x = 0 then Value.null else Value.ref a0.toNat) with | some (.ref x) => some (Sum.inl (pc + 1, lvc, .ref x :: st.map am_cv, am_M h G, 0, 0)) | some .null => some (Sum.inl (pc + 1, lvc, .null :: st.map am_cv, am_M h G, 0, 0)) | _ => none : Option ri_X) = some (Sum.inl (pc + 1, lvc, (if x = 0 then Value.null else Value.ref a0.toNat) :: st.map am_cv, am_M h G, 0, 0))
      by_cases e : x = 0
      · rw [if_pos e]
      · rw [if_neg e]
    · exact False.elim H2
  | aload j =>
    have H2 : (match am_ld lv j with | some (.inr (.inr (.inl q))) => K (pc + 2) lv (.inr (.inr (.inl q)) :: st) h | _ => False) := H
    split at H2
    · rename_i q hq
      have hg := am_ld_e hq
      refine am_on (s2 := am_cv (.inr (.inr (.inl q))) :: st.map am_cv) ht ?_ (hK _ _ _ _ _ H2 hw hl (am_okc (hl _ _ hg) hs) hr)
      obtain ⟨x, n0, m0, a0⟩ := q
      show (match ri_ld lvc j with | some (.ref x) => some (Sum.inl (pc + 2, lvc, .ref x :: st.map am_cv, am_M h G, 0, 0)) | some .null => some (Sum.inl (pc + 2, lvc, .null :: st.map am_cv, am_M h G, 0, 0)) | _ => none : Option ri_X) = _
      rw [hr _ _ hg]
      show (match some (if x = 0 then Value.null else Value.ref a0.toNat) with | some (.ref x) => some (Sum.inl (pc + 2, lvc, .ref x :: st.map am_cv, am_M h G, 0, 0)) | some .null => some (Sum.inl (pc + 2, lvc, .null :: st.map am_cv, am_M h G, 0, 0)) | _ => none : Option ri_X) = some (Sum.inl (pc + 2, lvc, (if x = 0 then Value.null else Value.ref a0.toNat) :: st.map am_cv, am_M h G, 0, 0))
      by_cases e : x = 0
      · rw [if_pos e]
      · rw [if_neg e]
    · exact False.elim H2
  | istore_n j =>
    match st, hs, H with
    | [], hs, H => exact False.elim H
    | .inl q :: r, hs, H => exact am_on ht rfl (hK _ _ (ri_st1 lvc _ (am_cv (.inl q))) _ _ H hw (am_s1_ok hl (am_okh hs)) (am_okt hs) (am_s1_rel hr))
    | .inr (.inl _) :: r, hs, H => exact False.elim H
    | .inr (.inr (.inl _)) :: r, hs, H => exact False.elim H
    | .inr (.inr (.inr (.inl q))) :: r, hs, H => exact am_on ht rfl (hK _ _ (ri_st1 lvc _ (am_cv (mP q))) _ _ H hw (am_s1_ok hl (am_okh hs)) (am_okt hs) (am_s1_rel hr))
    | .inr (.inr (.inr (.inr _))) :: r, hs, H => exact False.elim H
  | istore j =>
    match st, hs, H with
    | [], hs, H => exact False.elim H
    | .inl q :: r, hs, H => exact am_on ht rfl (hK _ _ (ri_st1 lvc _ (am_cv (.inl q))) _ _ H hw (am_s1_ok hl (am_okh hs)) (am_okt hs) (am_s1_rel hr))
    | .inr (.inl _) :: r, hs, H => exact False.elim H
    | .inr (.inr (.inl _)) :: r, hs, H => exact False.elim H
    | .inr (.inr (.inr (.inl q))) :: r, hs, H => exact am_on ht rfl (hK _ _ (ri_st1 lvc _ (am_cv (mP q))) _ _ H hw (am_s1_ok hl (am_okh hs)) (am_okt hs) (am_s1_rel hr))
    | .inr (.inr (.inr (.inr _))) :: r, hs, H => exact False.elim H
  | lstore_n j =>
    match st, hs, H with
    | [], hs, H => exact False.elim H
    | .inl q :: r, hs, H => exact False.elim H
    | .inr (.inl q) :: r, hs, H => exact am_on ht rfl (hK _ _ (ri_st2 lvc _ (am_cv (.inr (.inl q)))) _ _ H hw (am_s2_ok hl (am_okh hs)) (am_okt hs) (am_s2_rel hr))
    | .inr (.inr _) :: r, hs, H => exact False.elim H
  | lstore j =>
    match st, hs, H with
    | [], hs, H => exact False.elim H
    | .inl q :: r, hs, H => exact False.elim H
    | .inr (.inl q) :: r, hs, H => exact am_on ht rfl (hK _ _ (ri_st2 lvc _ (am_cv (.inr (.inl q)))) _ _ H hw (am_s2_ok hl (am_okh hs)) (am_okt hs) (am_s2_rel hr))
    | .inr (.inr _) :: r, hs, H => exact False.elim H
  | astore_n j =>
    match st, hs, H with
    | [], hs, H => exact False.elim H
    | .inl q :: r, hs, H => exact False.elim H
    | .inr (.inl _) :: r, hs, H => exact False.elim H
    | .inr (.inr (.inl (k0, n0, m0, a0))) :: r, hs, H =>
      refine am_on ht ?_ (hK _ _ (ri_st1 lvc _ (am_cv (.inr (.inr (.inl (k0, n0, m0, a0)))))) _ _ H hw (am_s1_ok hl (am_okh hs)) (am_okt hs) (am_s1_rel hr))
      show (match (if k0 = 0 then Value.null else Value.ref a0.toNat) :: r.map am_cv with | .ref x :: r => some (Sum.inl (pc + 1, ri_st1 lvc j.val (.ref x), r, am_M h G, 0, 0)) | .null :: r => some (Sum.inl (pc + 1, ri_st1 lvc j.val .null, r, am_M h G, 0, 0)) | _ => none : Option ri_X) = some (Sum.inl (pc + 1, ri_st1 lvc j.val (if k0 = 0 then Value.null else Value.ref a0.toNat), r.map am_cv, am_M h G, 0, 0))
      by_cases e : k0 = 0
      · rw [if_pos e]
      · rw [if_neg e]
    | .inr (.inr (.inr _)) :: r, hs, H => exact False.elim H
  | astore j =>
    match st, hs, H with
    | [], hs, H => exact False.elim H
    | .inl q :: r, hs, H => exact False.elim H
    | .inr (.inl _) :: r, hs, H => exact False.elim H
    | .inr (.inr (.inl (k0, n0, m0, a0))) :: r, hs, H =>
      refine am_on ht ?_ (hK _ _ (ri_st1 lvc _ (am_cv (.inr (.inr (.inl (k0, n0, m0, a0)))))) _ _ H hw (am_s1_ok hl (am_okh hs)) (am_okt hs) (am_s1_rel hr))
      show (match (if k0 = 0 then Value.null else Value.ref a0.toNat) :: r.map am_cv with | .ref x :: r => some (Sum.inl (pc + 2, ri_st1 lvc j (.ref x), r, am_M h G, 0, 0)) | .null :: r => some (Sum.inl (pc + 2, ri_st1 lvc j .null, r, am_M h G, 0, 0)) | _ => none : Option ri_X) = some (Sum.inl (pc + 2, ri_st1 lvc j (if k0 = 0 then Value.null else Value.ref a0.toNat), r.map am_cv, am_M h G, 0, 0))
      by_cases e : k0 = 0
      · rw [if_pos e]
      · rw [if_neg e]
    | .inr (.inr (.inr _)) :: r, hs, H => exact False.elim H
  | iinc j v =>
    have H2 : (match am_ld lv j with | some (.inl (x, _)) => K (pc + 3) (am_s1 lv j (mI (x + v))) st h | _ => False) := H
    split at H2
    · rename_i x f hq
      have hg := am_ld_e hq
      refine am_on ht ?_ (hK _ _ (ri_st1 lvc j (am_cv (mI (x + v)))) _ _ H2 hw (am_s1_ok hl (am_okI _)) hs (am_s1_rel hr))
      show (match ri_ld lvc j with | some (.int x) => some (Sum.inl (pc + 3, ri_st1 lvc j (.int (x + Int32.ofInt v)), st.map am_cv, am_M h G, 0, 0)) | _ => none : Option ri_X) = _
      rw [hr _ _ hg]
      show some (Sum.inl (pc + 3, ri_st1 lvc j (.int (Int32.ofInt x + Int32.ofInt v)), st.map am_cv, am_M h G, 0, 0)) = some (Sum.inl (pc + 3, ri_st1 lvc j (.int (Int32.ofInt (x + v))), st.map am_cv, am_M h G, 0, 0))
      rw [Int32.ofInt_add]
    · exact False.elim H2
  | iadd =>
    obtain ⟨x, f, y, g, r, e, -, -, hrr, hk⟩ := am_i2_e hs H
    exact am_on2 ht e rfl (by show _ = Value.int (Int32.ofInt (x + y)) :: _; rw [Int32.ofInt_add]) (hK _ _ _ _ _ hk hw hl (am_okc (am_okI _) hrr) hr)
  | isub =>
    obtain ⟨x, f, y, g, r, e, -, -, hrr, hk⟩ := am_i2_e hs H
    exact am_on2 ht e rfl (by show _ = Value.int (Int32.ofInt (x - y)) :: _; rw [Int32.ofInt_sub]) (hK _ _ _ _ _ hk hw hl (am_okc (am_okI _) hrr) hr)
  | imul =>
    obtain ⟨x, f, y, g, r, e, -, -, hrr, hk⟩ := am_i2_e hs H
    exact am_on2 ht e rfl (by show _ = Value.int (Int32.ofInt (x * y)) :: _; rw [Int32.ofInt_mul]) (hK _ _ _ _ _ hk hw hl (am_okc (am_okI _) hrr) hr)
  | iand =>
    obtain ⟨x, f, y, g, r, e, -, -, hrr, hk⟩ := am_i2_e hs H
    exact am_on2 ht e rfl (by show _ = Value.int (Int32.ofInt (iAnd x y)) :: _; unfold iAnd; rw [Int32.ofInt_toInt]) (hK _ _ _ _ _ hk hw hl (am_okc (am_okB (am_r32 _)) hrr) hr)
  | ior =>
    obtain ⟨x, f, y, g, r, e, -, -, hrr, hk⟩ := am_i2_e hs H
    exact am_on2 ht e rfl (by show _ = Value.int (Int32.ofInt (iOr x y)) :: _; unfold iOr; rw [Int32.ofInt_toInt]) (hK _ _ _ _ _ hk hw hl (am_okc (am_okB (am_r32 _)) hrr) hr)
  | ixor =>
    obtain ⟨x, f, y, g, r, e, -, -, hrr, hk⟩ := am_i2_e hs H
    exact am_on2 ht e rfl (by show _ = Value.int (Int32.ofInt (iXor x y)) :: _; unfold iXor; rw [Int32.ofInt_toInt]) (hK _ _ _ _ _ hk hw hl (am_okc (am_okB (am_r32 _)) hrr) hr)
  | ishl =>
    obtain ⟨x, f, y, g, r, e, -, -, hrr, hk⟩ := am_i2_e hs H
    exact am_on2 ht e rfl (by show _ = Value.int (Int32.ofInt (iShl x y)) :: _; unfold iShl; rw [Int32.ofInt_toInt]) (hK _ _ _ _ _ hk hw hl (am_okc (am_okB (am_r32 _)) hrr) hr)
  | ishr =>
    obtain ⟨x, f, y, g, r, e, -, -, hrr, hk⟩ := am_i2_e hs H
    exact am_on2 ht e rfl (by show _ = Value.int (Int32.ofInt (iShr x y)) :: _; unfold iShr; rw [Int32.ofInt_toInt]) (hK _ _ _ _ _ hk hw hl (am_okc (am_okB (am_r32 _)) hrr) hr)
  | iushr =>
    obtain ⟨x, f, y, g, r, e, -, -, hrr, hk⟩ := am_i2_e hs H
    exact am_on2 ht e rfl (by show _ = Value.int (Int32.ofInt (iUsh x y)) :: _; unfold iUsh; rw [Int32.ofInt_toInt]) (hK _ _ _ _ _ hk hw hl (am_okc (am_okB (am_r32 _)) hrr) hr)
  | ineg =>
    obtain ⟨x, f, r, e, -, hrr, hk⟩ := am_i1_e hs H
    exact am_on2 ht e rfl (by show _ = Value.int (Int32.ofInt (-x)) :: _; rw [Int32.ofInt_neg]) (hK _ _ _ _ _ hk hw hl (am_okc (am_okI _) hrr) hr)
  | idiv =>
    obtain ⟨x, f, y, g, r, e, hf, hg, hrr, hk⟩ := am_i2_e hs H
    obtain ⟨hx, hk⟩ := am_ob_e hk hf
    obtain ⟨hy, hy0, hk⟩ := am_ob_e hk hg
    exact am_on2 ht e (if_neg (am_nz hy hy0)) (by show _ = Value.int (Int32.ofInt (Int.tdiv x y)) :: _; rw [am_dv hx hy]) (hK _ _ _ _ _ hk hw hl (am_okc (am_okI _) hrr) hr)
  | ldiv =>
    obtain ⟨x, f, y, g, r, e, hf, hg, hrr, hk⟩ := am_l2_e hs H
    obtain ⟨hx, hk⟩ := am_ob_e hk hf
    obtain ⟨hy, hy0, hk⟩ := am_ob_e hk hg
    exact am_on2 ht e (if_neg (am_nzj hy hy0)) (by show _ = Value.long (Int64.ofInt (Int.tdiv x y)) :: _; rw [am_dvj hx hy]) (hK _ _ _ _ _ hk hw hl (am_okc (am_okJ _) hrr) hr)
  | irem =>
    obtain ⟨x, f, y, g, r, e, hf, hg, hrr, hk⟩ := am_i2_e hs H
    obtain ⟨hx, hk⟩ := am_ob_e hk hf
    obtain ⟨hy, hy0, hk⟩ := am_ob_e hk hg
    exact am_on2 ht e (if_neg (am_nz hy hy0)) (by show _ = Value.int (Int32.ofInt (Int.tmod x y)) :: _; rw [(am_rm hx hy).1]) (hK _ _ _ _ _ hk hw hl (am_okc (am_okB (am_rm hx hy).2) hrr) hr)
  | lrem =>
    obtain ⟨x, f, y, g, r, e, hf, hg, hrr, hk⟩ := am_l2_e hs H
    obtain ⟨hx, hk⟩ := am_ob_e hk hf
    obtain ⟨hy, hy0, hk⟩ := am_ob_e hk hg
    exact am_on2 ht e (if_neg (am_nzj hy hy0)) (by show _ = Value.long (Int64.ofInt (Int.tmod x y)) :: _; rw [(am_rmj hx hy).1]) (hK _ _ _ _ _ hk hw hl (am_okc (am_okK (am_rmj hx hy).2) hrr) hr)
  | ladd =>
    obtain ⟨x, f, y, g, r, e, -, -, hrr, hk⟩ := am_l2_e hs H
    exact am_on2 ht e rfl (by show _ = Value.long (Int64.ofInt (x + y)) :: _; rw [Int64.ofInt_add]) (hK _ _ _ _ _ hk hw hl (am_okc (am_okJ _) hrr) hr)
  | lsub =>
    obtain ⟨x, f, y, g, r, e, -, -, hrr, hk⟩ := am_l2_e hs H
    exact am_on2 ht e rfl (by show _ = Value.long (Int64.ofInt (x - y)) :: _; rw [Int64.ofInt_sub]) (hK _ _ _ _ _ hk hw hl (am_okc (am_okJ _) hrr) hr)
  | lmul =>
    obtain ⟨x, f, y, g, r, e, -, -, hrr, hk⟩ := am_l2_e hs H
    exact am_on2 ht e rfl (by show _ = Value.long (Int64.ofInt (x * y)) :: _; rw [Int64.ofInt_mul]) (hK _ _ _ _ _ hk hw hl (am_okc (am_okJ _) hrr) hr)
  | land =>
    obtain ⟨x, f, y, g, r, e, -, -, hrr, hk⟩ := am_l2_e hs H
    exact am_on2 ht e rfl (by show _ = Value.long (Int64.ofInt (jAnd x y)) :: _; unfold jAnd; rw [Int64.ofInt_toInt]) (hK _ _ _ _ _ hk hw hl (am_okc (am_okK (am_r64 _)) hrr) hr)
  | lor =>
    obtain ⟨x, f, y, g, r, e, -, -, hrr, hk⟩ := am_l2_e hs H
    exact am_on2 ht e rfl (by show _ = Value.long (Int64.ofInt (jOr x y)) :: _; unfold jOr; rw [Int64.ofInt_toInt]) (hK _ _ _ _ _ hk hw hl (am_okc (am_okK (am_r64 _)) hrr) hr)
  | lshl =>
    obtain ⟨y, g, r, e, -, hrr, hk⟩ := am_i1_e hs H
    obtain ⟨x, f, r, e2, -, hrr, hk⟩ := am_l1_e hrr hk
    exact am_on2 ht (e.trans (by rw [e2])) rfl (by show _ = Value.long (Int64.ofInt (jShl x y)) :: _; unfold jShl; rw [Int64.ofInt_toInt]) (hK _ _ _ _ _ hk hw hl (am_okc (am_okK (am_r64 _)) hrr) hr)
  | lshr =>
    obtain ⟨y, g, r, e, -, hrr, hk⟩ := am_i1_e hs H
    obtain ⟨x, f, r, e2, -, hrr, hk⟩ := am_l1_e hrr hk
    exact am_on2 ht (e.trans (by rw [e2])) rfl (by show _ = Value.long (Int64.ofInt (jShr x y)) :: _; unfold jShr; rw [Int64.ofInt_toInt]) (hK _ _ _ _ _ hk hw hl (am_okc (am_okK (am_r64 _)) hrr) hr)
  | lcmp =>
    obtain ⟨x, f, y, g, r, e, hf, hg, hrr, hk⟩ := am_l2_e hs H
    obtain ⟨hx, hk⟩ := am_ob_e hk hf
    obtain ⟨hy, hk⟩ := am_ob_e hk hg
    exact am_on2 ht e rfl rfl (hK _ _ _ _ _ hk hw hl (am_okc (v := mC x y) ⟨hx, hy⟩ hrr) hr)
  | i2l =>
    obtain ⟨x, f, r, e, hf, hrr, hk⟩ := am_i1_e hs H
    obtain ⟨hx, hk⟩ := am_ob_e hk hf
    exact am_on2 ht e rfl (by show _ = Value.long (Int64.ofInt x) :: _; rw [am_il hx]) (hK _ _ _ _ _ hk hw hl (am_okc (am_okK (by omega)) hrr) hr)
  | l2i =>
    obtain ⟨x, f, r, e, -, hrr, hk⟩ := am_l1_e hs H
    exact am_on2 ht e rfl (by show _ = Value.int (Int32.ofInt x) :: _; rw [Int64.toInt32_ofInt]) (hK _ _ _ _ _ hk hw hl (am_okc (am_okI _) hrr) hr)
  | i2c =>
    obtain ⟨x, f, r, e, -, hrr, hx, hk⟩ := am_i1_e hs H
    exact am_on2 ht e rfl (by show _ = Value.int (Int32.ofInt x) :: _; rw [am_u16 hx.1 hx.2]) (hK _ _ _ _ _ hk hw hl (am_okc (am_okB (by omega)) hrr) hr)
  | dup =>
    match st, hs, H with
    | [], hs, H => exact False.elim H
    | .inl q :: r, hs, H => exact am_on ht rfl (hK _ _ _ _ _ H hw hl (am_okc (am_okh hs) hs) hr)
    | .inr (.inl _) :: r, hs, H => exact False.elim H
    | .inr (.inr q) :: r, hs, H =>
      refine am_on ht ?_ (hK _ _ _ _ _ H hw hl (am_okc (am_okh hs) hs) hr)
      show (if (am_cv (.inr (.inr q))).category = 1 then some (Sum.inl (pc + 1, lvc, am_cv (.inr (.inr q)) :: am_cv (.inr (.inr q)) :: r.map am_cv, am_M h G, 0, 0)) else none : Option ri_X) = _
      rw [if_pos (show (am_cv (.inr (.inr q))).category = 1 from am_cv_cat _)]
      rfl
  | pop =>
    match st, hs, H with
    | [], hs, H => exact False.elim H
    | .inl q :: r, hs, H => exact am_on ht rfl (hK _ _ _ _ _ H hw hl (am_okt hs) hr)
    | .inr (.inl _) :: r, hs, H => exact False.elim H
    | .inr (.inr q) :: r, hs, H =>
      refine am_on ht ?_ (hK _ _ _ _ _ H hw hl (am_okt hs) hr)
      show (if (am_cv (.inr (.inr q))).category = 1 then some (Sum.inl (pc + 1, lvc, r.map am_cv, am_M h G, 0, 0)) else none : Option ri_X) = _
      rw [if_pos (show (am_cv (.inr (.inr q))).category = 1 from am_cv_cat _)]
  | dup2 =>
    match st, hs, H with
    | [], hs, H => exact False.elim H
    | .inr (.inl q) :: r, hs, H => exact am_on ht rfl (hK _ _ _ _ _ H hw hl (am_okc (am_okh hs) hs) hr)
    | [.inl q], hs, H => exact False.elim H
    | .inl q :: .inr (.inl _) :: r, hs, H => exact False.elim H
    | .inl q :: .inl u :: r, hs, H =>
      refine am_on ht ?_ (hK _ _ _ _ _ H hw hl (am_okc (am_okh hs) (am_okc (am_okh (am_okt hs)) hs)) hr)
      exact am_dup2 (am_cv_cat _) (am_cv_cat _)
    | .inl q :: .inr (.inr u) :: r, hs, H =>
      refine am_on ht ?_ (hK _ _ _ _ _ H hw hl (am_okc (am_okh hs) (am_okc (am_okh (am_okt hs)) hs)) hr)
      exact am_dup2 (am_cv_cat _) (am_cv_cat _)
    | [.inr (.inr q)], hs, H => exact False.elim H
    | .inr (.inr q) :: .inr (.inl _) :: r, hs, H => exact False.elim H
    | .inr (.inr q) :: .inl u :: r, hs, H =>
      refine am_on ht ?_ (hK _ _ _ _ _ H hw hl (am_okc (am_okh hs) (am_okc (am_okh (am_okt hs)) hs)) hr)
      exact am_dup2 (am_cv_cat _) (am_cv_cat _)
    | .inr (.inr q) :: .inr (.inr u) :: r, hs, H =>
      refine am_on ht ?_ (hK _ _ _ _ _ H hw hl (am_okc (am_okh hs) (am_okc (am_okh (am_okt hs)) hs)) hr)
      exact am_dup2 (am_cv_cat _) (am_cv_cat _)
  | ifCond cd off =>
    match st, hs, H with
    | [], hs, H => exact False.elim H
    | .inl (x, f) :: r, hs, H =>
      obtain ⟨hx, hb⟩ := am_ob_e H (am_okh hs)
      rcases am_br_e hb with ⟨hc, hk⟩ | ⟨hc, hk⟩
      · refine am_on (pc' := a) ht ?_ (hK _ _ _ _ _ hk hw hl (am_okt hs) hr)
        cases cd
        · exact if_pos (by rw [← am_z]; exact (am_eq hx am_r0).mpr hc)
        · exact if_pos (by rw [← am_z]; exact fun q => hc ((am_eq hx am_r0).mp q))
        · exact if_pos (by rw [← am_z]; exact (am_lt hx am_r0).mpr hc)
        · exact if_pos (by rw [← am_z]; exact (am_le am_r0 hx).mpr hc)
        · exact if_pos (by rw [← am_z]; exact (am_lt am_r0 hx).mpr hc)
        · exact if_pos (by rw [← am_z]; exact (am_le hx am_r0).mpr hc)
      · refine am_on (pc' := pc + 3) ht ?_ (hK _ _ _ _ _ hk hw hl (am_okt hs) hr)
        cases cd
        · exact if_neg (by rw [← am_z]; exact fun q => hc ((am_eq hx am_r0).mp q))
        · exact if_neg (by rw [← am_z]; exact fun q => hc (fun e => q ((am_eq hx am_r0).mpr e)))
        · exact if_neg (by rw [← am_z]; exact fun q => hc ((am_lt hx am_r0).mp q))
        · exact if_neg (by rw [← am_z]; exact fun q => hc ((am_le am_r0 hx).mp q))
        · exact if_neg (by rw [← am_z]; exact fun q => hc ((am_lt am_r0 hx).mp q))
        · exact if_neg (by rw [← am_z]; exact fun q => hc ((am_le hx am_r0).mp q))
    | .inr (.inl _) :: r, hs, H => exact False.elim H
    | .inr (.inr (.inl _)) :: r, hs, H => exact False.elim H
    | .inr (.inr (.inr (.inl p))) :: r, hs, H =>
      have z1 : ¬ Int32.ofInt 1 = 0 := by decide
      by_cases hp : p
      · have e1 : Int32.ofInt (am_b p) = Int32.ofInt 1 := by rw [am_b_t hp]
        cases cd with
        | eq => exact am_on (pc' := pc + 3) ht (if_neg (by rw [e1]; exact z1)) (hK _ _ _ _ _ (H.2 hp) hw hl (am_okt hs) hr)
        | ne => exact am_on (pc' := a) ht (if_pos (by rw [e1]; exact z1)) (hK _ _ _ _ _ (H.1 hp) hw hl (am_okt hs) hr)
        | _ => exact False.elim H
      · have e1 : Int32.ofInt (am_b p) = 0 := by rw [am_b_f hp]; exact am_z
        cases cd with
        | eq => exact am_on (pc' := a) ht (if_pos e1) (hK _ _ _ _ _ (H.1 hp) hw hl (am_okt hs) hr)
        | ne => exact am_on (pc' := pc + 3) ht (if_neg (fun q => q e1)) (hK _ _ _ _ _ (H.2 hp) hw hl (am_okt hs) hr)
        | _ => exact False.elim H
    | .inr (.inr (.inr (.inr (x, y)))) :: r, hs, H =>
      have hxy : R64 x ∧ R64 y := am_okh hs
      rcases am_br_e (show am_br cd x y _ _ from H) with ⟨hc, hk⟩ | ⟨hc, hk⟩
      · refine am_on (pc' := a) ht ?_ (hK _ _ _ _ _ hk hw hl (am_okt hs) hr)
        cases cd
        · exact if_pos ((lg_cmp_eq _ _).mpr ((am_eqj hxy.1 hxy.2).mpr hc))
        · exact if_pos (fun q => hc ((am_eqj hxy.1 hxy.2).mp ((lg_cmp_eq _ _).mp q)))
        · exact if_pos ((lg_cmp_lt _ _).mpr ((am_ltj hxy.1 hxy.2).mpr hc))
        · exact if_pos ((lg_cmp_ge _ _).mpr ((am_lej hxy.2 hxy.1).mpr hc))
        · exact if_pos ((lg_cmp_gt _ _).mpr ((am_ltj hxy.2 hxy.1).mpr hc))
        · exact if_pos ((lg_cmp_le _ _).mpr ((am_lej hxy.1 hxy.2).mpr hc))
      · refine am_on (pc' := pc + 3) ht ?_ (hK _ _ _ _ _ hk hw hl (am_okt hs) hr)
        cases cd
        · exact if_neg (fun q => hc ((am_eqj hxy.1 hxy.2).mp ((lg_cmp_eq _ _).mp q)))
        · exact if_neg (fun q => hc (fun e => q ((lg_cmp_eq _ _).mpr ((am_eqj hxy.1 hxy.2).mpr e))))
        · exact if_neg (fun q => hc ((am_ltj hxy.1 hxy.2).mp ((lg_cmp_lt _ _).mp q)))
        · exact if_neg (fun q => hc ((am_lej hxy.2 hxy.1).mp ((lg_cmp_ge _ _).mp q)))
        · exact if_neg (fun q => hc ((am_ltj hxy.2 hxy.1).mp ((lg_cmp_gt _ _).mp q)))
        · exact if_neg (fun q => hc ((am_lej hxy.1 hxy.2).mp ((lg_cmp_le _ _).mp q)))
  | if_icmp cd off =>
    obtain ⟨x, f, y, g, r, e, hf, hg, hrr, hk⟩ := am_i2_e hs H
    obtain ⟨hx, hk⟩ := am_ob_e hk hf
    obtain ⟨hy, hb⟩ := am_ob_e hk hg
    rcases am_br_e hb with ⟨hc, hk⟩ | ⟨hc, hk⟩
    · refine am_on2 (pc' := a) ht e ?_ rfl (hK _ _ _ _ _ hk hw hl hrr hr)
      cases cd
      · exact if_pos ((am_eq hx hy).mpr hc)
      · exact if_pos (fun q => hc ((am_eq hx hy).mp q))
      · exact if_pos ((am_lt hx hy).mpr hc)
      · exact if_pos ((am_le hy hx).mpr hc)
      · exact if_pos ((am_lt hy hx).mpr hc)
      · exact if_pos ((am_le hx hy).mpr hc)
    · refine am_on2 (pc' := pc + 3) ht e ?_ rfl (hK _ _ _ _ _ hk hw hl hrr hr)
      cases cd
      · exact if_neg (fun q => hc ((am_eq hx hy).mp q))
      · exact if_neg (fun q => hc (fun e => q ((am_eq hx hy).mpr e)))
      · exact if_neg (fun q => hc ((am_lt hx hy).mp q))
      · exact if_neg (fun q => hc ((am_le hy hx).mp q))
      · exact if_neg (fun q => hc ((am_lt hy hx).mp q))
      · exact if_neg (fun q => hc ((am_le hx hy).mp q))
  | goto off =>
    exact am_on ht rfl (hK _ _ _ _ _ H hw hl hs hr)
  | ifnull off =>
    match st, hs, H with
    | [], hs, H => exact False.elim H
    | .inl _ :: r, hs, H => exact False.elim H
    | .inr (.inl _) :: r, hs, H => exact False.elim H
    | .inr (.inr (.inl (0, n0, m0, a0))) :: r, hs, H => exact am_on (pc' := a) ht rfl (hK _ _ _ _ _ H hw hl (am_okt hs) hr)
    | .inr (.inr (.inl (k0 + 1, n0, m0, a0))) :: r, hs, H => exact am_on (pc' := pc + 3) ht rfl (hK _ _ _ _ _ H hw hl (am_okt hs) hr)
    | .inr (.inr (.inr _)) :: r, hs, H => exact False.elim H
  | ifnonnull off =>
    match st, hs, H with
    | [], hs, H => exact False.elim H
    | .inl _ :: r, hs, H => exact False.elim H
    | .inr (.inl _) :: r, hs, H => exact False.elim H
    | .inr (.inr (.inl (0, n0, m0, a0))) :: r, hs, H => exact am_on (pc' := pc + 3) ht rfl (hK _ _ _ _ _ H hw hl (am_okt hs) hr)
    | .inr (.inr (.inl (k0 + 1, n0, m0, a0))) :: r, hs, H => exact am_on (pc' := a) ht rfl (hK _ _ _ _ _ H hw hl (am_okt hs) hr)
    | .inr (.inr (.inr _)) :: r, hs, H => exact False.elim H
  | tableswitch dflt lo hi offs =>
    obtain ⟨x, f, r, e, hf, hrr, hk⟩ := am_i1_e hs H
    split at hk
    · exact False.elim hk
    · rename_i hsz
      have hsz2 : offs.size = (hi - lo + 1).toNat := by simpa using hsz
      obtain ⟨hx, hk1, hk2⟩ := am_ob_e hk hf
      by_cases hc : x < lo ∨ hi < x
      · refine am_on2 (pc' := a) ht e ?_ rfl (hK _ _ _ _ _ (hk1 hc) hw hl hrr hr)
        exact if_pos (by rw [am_ti hx]; exact hc)
      · have hin : (x - lo).toNat < offs.size := by omega
        have hget : offs[(x - lo).toNat]? = some (offs[(x - lo).toNat]) := Array.getElem?_eq_getElem hin
        have hk3 := am_sw_e offs.toList lo hk2 (by omega) _ (by rw [Array.getElem?_toList]; exact hget)
        refine am_on2 (pc' := ((pc : Int) + offs[(x - lo).toNat]).toNat) ht e ?_ rfl (hK _ _ _ _ _ hk3 hw hl hrr hr)
        refine (if_neg (by rw [am_ti hx]; exact hc)).trans ?_
        rw [am_ti hx, hget]
  | getfield idx =>
    have H2 : (match (generalizing := false) st with | .inr (.inr (.inl (1, ci, 0, o))) :: r => (match Nat.beq ci a, am_fld a b with | true, some f => K (pc + 3) lv (am_gf f b o h :: r) h | _, _ => False) | _ => False) := H
    split at H2
    · rename_i ci o r
      split at H2
      · rename_i f hb hf
        have hca : ci = a := by simpa using hb
        subst hca
        obtain ⟨g1, g2, g3⟩ := am_vd_e (am_okh hs) (by decide) (by decide)
        have hwc := (hw _ _ _ _ g1).2.2.2.2 rfl b f hf
        rw [g2] at hwc
        have hfv := am_LY_f _ (am_LY_lt g1) _ g1 b f hf
        rw [g2] at hfv
        have hv : am_cv (am_gf f b o h) = am_fv f h o b ∧ am_ok (am_gf f b o h) := am_gf_ok hwc hfv
        refine am_on ht ?_ (hK _ _ _ _ _ H2 hw hl (am_okc hv.2 (am_okt hs)) hr)
        refine am_x_gf (am_M_get g1) g3 ?_
        rw [g2, am_fs_get _ _ _ _ (am_fld_e hf), Int.zero_add, hv.1]
      · exact False.elim H2
    · exact False.elim H2
  | putfield idx =>
    have H2 : (match (generalizing := false) st with | v :: .inr (.inr (.inl (1, ci, 0, o))) :: r => (match Nat.beq ci a, am_fld a b with | true, some f => (match Nat.beq f.1 dd with | true => am_pf f.1 b o v h (fun h' => K (pc + 3) lv r h') | false => False) | _, _ => False) | _ => False) := H
    split at H2
    · rename_i v ci o r
      split at H2
      · rename_i f hb hf
        split at H2
        · rename_i hd
          have hca : ci = a := by simpa using hb
          subst hca
          have hdd : f.1 = dd := by simpa using hd
          obtain ⟨g1, g2, g3⟩ := am_vd_e (am_okh (am_okt hs)) (by decide) (by decide)
          obtain ⟨x, e1, e2, e3, hk⟩ := am_pf_e (am_okh hs) H2
          have hlen : b < (am_FT.getD ci []).length := (List.getElem?_eq_some_iff.mp (am_fld_e hf)).1
          refine am_on (h' := am_up h o b x) ht ?_ (hK _ _ _ _ _ hk ?_ hl (am_okt (am_okt hs)) hr)
          · refine (am_x_pf (fs := am_fs h o 0 (am_FT.getD ci [])) (by rw [am_M_get g1]; show some (Sum.inr (ci, am_fs h ((o.toNat : Nat) : Int) 0 (am_FT.getD ci []))) = _; rw [g2]) g3 (by rw [am_fs_len]; exact hlen) (by rw [← hdd]; exact e2)).trans ?_
            rw [am_M_set (h' := am_up h o b x) g1 (?_ : _ = am_cell (am_up h o b x) o.toNat (1, ci, 0)) (fun q' j hq => am_up_ne (by omega))]
            show Sum.inr (ci, (am_fs h o 0 (am_FT.getD ci [])).set b (am_cv v)) = Sum.inr (ci, am_fs (am_up h o b x) ((o.toNat : Nat) : Int) 0 (am_FT.getD ci []))
            have hz := am_fs_set (h := h) (o := o) (x := x) _ 0 b f (am_fld_e hf)
            rw [Int.zero_add] at hz
            rw [g2, ← hz, e1]
          · have hwu := am_wf_up (i := b) (x := x) hw g1 (by rw [g2]; exact am_wfc_pf (hw _ _ _ _ g1) g2 hf e3)
            rw [g2] at hwu
            exact hwu
        · exact False.elim H2
      · exact False.elim H2
    · exact False.elim H2
  | iaload =>
    have H2 : (match (generalizing := false) st with | v :: .inr (.inr (.inl (2, n, 0, q))) :: r => am_int v (fun i _ => (0 ≤ i ∧ i < Int.ofNat n) ∧ K (pc + 1) lv (mB (h q i) :: r) h) | _ => False) := H
    split at H2
    · rename_i v n q r
      obtain ⟨i, f, e, -, hi, hk⟩ := am_int_e (am_okh hs) H2
      obtain ⟨g1, g2, g3⟩ := am_vd_e (am_okh (am_okt hs)) (by decide) (by decide)
      have hi2 : i < (n : Int) := hi.2
      have hn := (am_LY_e g1).2.1 (by omega)
      obtain ⟨hx1, hx2⟩ := am_ix hi.1 hi2 (by omega)
      have hwc := (hw _ _ _ _ g1).1 rfl i.toNat (by omega)
      rw [g2, show ((i.toNat : Nat) : Int) = i by omega] at hwc
      have hrow := am_rg n (fun (j : Nat) => Int32.ofInt (h q j)) (i := i.toNat) (by omega)
      rw [show ((i.toNat : Nat) : Int) = i by omega] at hrow
      refine am_on2 (s0 := .int (Int32.ofInt i) :: .ref q.toNat :: r.map am_cv) ht (by rw [List.map_cons, List.map_cons, e]; rfl) ?_ rfl (hK _ _ _ _ _ hk hw hl (am_okc (am_okB hwc) (am_okt (am_okt hs))) hr)
      exact am_x_iaload (xs := (List.range n).map (fun (j : Nat) => Int32.ofInt (h q j))) (by rw [am_M_get g1]; show some (am_cell h q.toNat (2, n, 0)) = _; unfold am_cell; simp only [g2]) g3 hx1 (by rw [hx2]; exact hrow)
    · exact False.elim H2
  | caload =>
    have H2 : (match (generalizing := false) st with | v :: .inr (.inr (.inl (4, n, 0, q))) :: r => am_int v (fun i _ => (0 ≤ i ∧ i < Int.ofNat n) ∧ K (pc + 1) lv (mB (h q i) :: r) h) | _ => False) := H
    split at H2
    · rename_i v n q r
      obtain ⟨i, f, e, -, hi, hk⟩ := am_int_e (am_okh hs) H2
      obtain ⟨g1, g2, g3⟩ := am_vd_e (am_okh (am_okt hs)) (by decide) (by decide)
      have hi2 : i < (n : Int) := hi.2
      have hn := (am_LY_e g1).2.1 (by omega)
      obtain ⟨hx1, hx2⟩ := am_ix hi.1 hi2 (by omega)
      have hwc := (hw _ _ _ _ g1).2.2.1 rfl i.toNat (by omega)
      rw [g2, show ((i.toNat : Nat) : Int) = i by omega] at hwc
      have hrow := am_rg n (fun (j : Nat) => Int32.ofInt (h q j)) (i := i.toNat) (by omega)
      rw [show ((i.toNat : Nat) : Int) = i by omega] at hrow
      refine am_on2 (s0 := .int (Int32.ofInt i) :: .ref q.toNat :: r.map am_cv) ht (by rw [List.map_cons, List.map_cons, e]; rfl) ?_ rfl (hK _ _ _ _ _ hk hw hl (am_okc (am_okB (by omega)) (am_okt (am_okt hs))) hr)
      exact am_x_caload (xs := (List.range n).map (fun (j : Nat) => Int32.ofInt (h q j))) (by rw [am_M_get g1]; show some (am_cell h q.toNat (4, n, 0)) = _; unfold am_cell; simp only [g2]) g3 hx1 (by rw [hx2]; exact hrow)
    · exact False.elim H2
  | baload =>
    have H2 : (match (generalizing := false) st with | v :: .inr (.inr (.inl (5, n, 0, q))) :: r => am_int v (fun i _ => (0 ≤ i ∧ i < Int.ofNat n) ∧ K (pc + 1) lv (mB (h q i) :: r) h) | _ => False) := H
    split at H2
    · rename_i v n q r
      obtain ⟨i, f, e, -, hi, hk⟩ := am_int_e (am_okh hs) H2
      obtain ⟨g1, g2, g3⟩ := am_vd_e (am_okh (am_okt hs)) (by decide) (by decide)
      have hi2 : i < (n : Int) := hi.2
      have hn := (am_LY_e g1).2.1 (by omega)
      obtain ⟨hx1, hx2⟩ := am_ix hi.1 hi2 (by omega)
      have hwc := (hw _ _ _ _ g1).2.2.2.1 rfl i.toNat (by omega)
      rw [g2, show ((i.toNat : Nat) : Int) = i by omega] at hwc
      have hrow := am_rg n (fun (j : Nat) => Int32.ofInt (h q j)) (i := i.toNat) (by omega)
      rw [show ((i.toNat : Nat) : Int) = i by omega] at hrow
      refine am_on2 (s0 := .int (Int32.ofInt i) :: .ref q.toNat :: r.map am_cv) ht (by rw [List.map_cons, List.map_cons, e]; rfl) ?_ rfl (hK _ _ _ _ _ hk hw hl (am_okc (am_okB (by omega)) (am_okt (am_okt hs))) hr)
      exact am_x_baload (xs := (List.range n).map (fun (j : Nat) => Int32.ofInt (h q j))) (by rw [am_M_get g1]; show some (am_cell h q.toNat (5, n, 0)) = _; unfold am_cell; simp only [g2]) g3 hx1 (by rw [hx2]; exact hrow)
    · exact False.elim H2
  | laload =>
    have H2 : (match (generalizing := false) st with | v :: .inr (.inr (.inl (3, n, 0, q))) :: r => am_int v (fun i _ => (0 ≤ i ∧ i < Int.ofNat n) ∧ K (pc + 1) lv (mK (h q i) :: r) h) | _ => False) := H
    split at H2
    · rename_i v n q r
      obtain ⟨i, f, e, -, hi, hk⟩ := am_int_e (am_okh hs) H2
      obtain ⟨g1, g2, g3⟩ := am_vd_e (am_okh (am_okt hs)) (by decide) (by decide)
      have hi2 : i < (n : Int) := hi.2
      have hn := (am_LY_e g1).2.1 (by omega)
      obtain ⟨hx1, hx2⟩ := am_ix hi.1 hi2 (by omega)
      have hwc := (hw _ _ _ _ g1).2.1 rfl i.toNat (by omega)
      rw [g2, show ((i.toNat : Nat) : Int) = i by omega] at hwc
      have hrow := am_rg n (fun (j : Nat) => Int64.ofInt (h q j)) (i := i.toNat) (by omega)
      rw [show ((i.toNat : Nat) : Int) = i by omega] at hrow
      refine am_on2 (s0 := .int (Int32.ofInt i) :: .ref q.toNat :: r.map am_cv) ht (by rw [List.map_cons, List.map_cons, e]; rfl) ?_ rfl (hK _ _ _ _ _ hk hw hl (am_okc (am_okK hwc) (am_okt (am_okt hs))) hr)
      exact am_x_laload (xs := (List.range n).map (fun (j : Nat) => Int64.ofInt (h q j))) (by rw [am_M_get g1]; show some (am_cell h q.toNat (3, n, 0)) = _; unfold am_cell; simp only [g2]) g3 hx1 (by rw [hx2]; exact hrow)
    · exact False.elim H2
  | aaload =>
    have H2 : (match (generalizing := false) st with
      | v :: .inr (.inr (.inl (6, n, m, q))) :: r => am_int v (fun i _ => (0 ≤ i ∧ i < Int.ofNat n) ∧ K (pc + 1) lv (mR 2 m 0 (q + 1 + i) :: r) h)
      | v :: .inr (.inr (.inl (7, n, m, q))) :: r => am_int v (fun i _ => (0 ≤ i ∧ i < Int.ofNat n) ∧ K (pc + 1) lv (mR 3 m 0 (q + 1 + i) :: r) h)
      | v :: .inr (.inr (.inl (8, n, 0, q))) :: r => am_int v (fun i _ => (0 ≤ i ∧ i < Int.ofNat n) ∧ K (pc + 1) lv (mR 1 6 0 (am_pa i) :: r) h)
      | _ => False) := H
    split at H2
    · rename_i v n m q r
      obtain ⟨i, f, e, -, hi, hk⟩ := am_int_e (am_okh hs) H2
      obtain ⟨g1, g2, g3⟩ := am_vd_e (am_okh (am_okt hs)) (by decide) (by decide)
      have hi2 : i < (n : Int) := hi.2
      have hn := (am_LY_e g1).2.2 (by omega)
      obtain ⟨hx1, hx2⟩ := am_ix hi.1 hi2 (by omega)
      have hrow := am_rg n (fun (j : Nat) => some (q.toNat + 1 + j)) (i := i.toNat) (by omega)
      have hvd : am_vd 2 m 0 (q + 1 + i) := Or.inr (Or.inr ⟨by omega, by rw [show (q + 1 + i).toNat = q.toNat + 1 + i.toNat by omega]; exact (am_LY_r _ (am_LY_lt g1) n m).1 g1 i.toNat (by omega)⟩)
      refine am_on2 (s0 := .int (Int32.ofInt i) :: .ref q.toNat :: r.map am_cv) (s1 := .ref (q.toNat + 1 + i.toNat) :: r.map am_cv) ht (by rw [List.map_cons, List.map_cons, e]; rfl) ?_ (by show _ = Value.ref (q + 1 + i).toNat :: _; rw [show (q + 1 + i).toNat = q.toNat + 1 + i.toNat by omega]) (hK _ _ _ _ _ hk hw hl (am_okc (v := mR 2 m 0 (q + 1 + i)) hvd (am_okt (am_okt hs))) hr)
      exact am_x_aaload (t := 4) (by rw [am_M_get g1]; rfl) (by omega) g3 hx1 (by rw [hx2]; exact hrow)
    · rename_i v n m q r
      obtain ⟨i, f, e, -, hi, hk⟩ := am_int_e (am_okh hs) H2
      obtain ⟨g1, g2, g3⟩ := am_vd_e (am_okh (am_okt hs)) (by decide) (by decide)
      have hi2 : i < (n : Int) := hi.2
      have hn := (am_LY_e g1).2.2 (by omega)
      obtain ⟨hx1, hx2⟩ := am_ix hi.1 hi2 (by omega)
      have hrow := am_rg n (fun (j : Nat) => some (q.toNat + 1 + j)) (i := i.toNat) (by omega)
      have hvd : am_vd 3 m 0 (q + 1 + i) := Or.inr (Or.inr ⟨by omega, by rw [show (q + 1 + i).toNat = q.toNat + 1 + i.toNat by omega]; exact (am_LY_r _ (am_LY_lt g1) n m).2 g1 i.toNat (by omega)⟩)
      refine am_on2 (s0 := .int (Int32.ofInt i) :: .ref q.toNat :: r.map am_cv) (s1 := .ref (q.toNat + 1 + i.toNat) :: r.map am_cv) ht (by rw [List.map_cons, List.map_cons, e]; rfl) ?_ (by show _ = Value.ref (q + 1 + i).toNat :: _; rw [show (q + 1 + i).toNat = q.toNat + 1 + i.toNat by omega]) (hK _ _ _ _ _ hk hw hl (am_okc (v := mR 3 m 0 (q + 1 + i)) hvd (am_okt (am_okt hs))) hr)
      exact am_x_aaload (t := 5) (by rw [am_M_get g1]; rfl) (by omega) g3 hx1 (by rw [hx2]; exact hrow)
    · rename_i v n q r
      obtain ⟨i, f, e, -, hi, hk⟩ := am_int_e (am_okh hs) H2
      obtain ⟨g1, g2, g3⟩ := am_vd_e (am_okh (am_okt hs)) (by decide) (by decide)
      have hi2 : i < (n : Int) := hi.2
      have hn := (am_LY_e g1).2.2 (by omega)
      obtain ⟨hx1, hx2⟩ := am_ix hi.1 hi2 (by omega)
      have hrow := am_rg n (fun (j : Nat) => some (am_pa j).toNat) (i := i.toNat) (by omega)
      have hvd := am_LY_p _ (am_LY_lt g1) n g1 i.toNat (by omega)
      rw [show ((i.toNat : Nat) : Int) = i by omega] at hrow hvd
      refine am_on2 (s0 := .int (Int32.ofInt i) :: .ref q.toNat :: r.map am_cv) (s1 := .ref (am_pa i).toNat :: r.map am_cv) ht (by rw [List.map_cons, List.map_cons, e]; rfl) ?_ rfl (hK _ _ _ _ _ hk hw hl (am_okc (v := mR 1 6 0 (am_pa i)) hvd (am_okt (am_okt hs))) hr)
      exact am_x_aaload (t := 6) (by rw [am_M_get g1]; rfl) (by omega) g3 hx1 (by rw [hx2]; exact hrow)
    · exact False.elim H2
  | iastore =>
    have H2 : (match (generalizing := false) st with | w :: v :: .inr (.inr (.inl (2, n, 0, q))) :: r => am_int w (fun x f => am_int v (fun i _ => (0 ≤ i ∧ i < Int.ofNat n) ∧ am_ob f (R32 x) (K (pc + 1) lv r (am_up h q i x)))) | _ => False) := H
    split at H2
    · rename_i w v n q r
      obtain ⟨x, f, e0, hf, H3⟩ := am_int_e (am_okh hs) H2
      obtain ⟨i, g, e, -, hi, hk⟩ := am_int_e (am_okh (am_okt hs)) H3
      obtain ⟨hx, hk⟩ := am_ob_e hk hf
      obtain ⟨g1, g2, g3⟩ := am_vd_e (am_okh (am_okt (am_okt hs))) (by decide) (by decide)
      have hi2 : i < (n : Int) := hi.2
      have hn := (am_LY_e g1).2.1 (by omega)
      obtain ⟨hx1, hx2⟩ := am_ix hi.1 hi2 (by omega)
      have hrow := am_row_set Int32.ofInt h q n (x := x) hi.1 hi2
      refine am_on2 (h' := am_up h q i x) (s0 := .int (Int32.ofInt x) :: .int (Int32.ofInt i) :: .ref q.toNat :: r.map am_cv) ht (by rw [List.map_cons, List.map_cons, List.map_cons, e, e0]; rfl) ?_ rfl (hK _ _ _ _ _ hk ?_ hl (am_okt (am_okt (am_okt hs))) hr)
      · refine (am_x_iastore (xs := (List.range n).map (fun (j : Nat) => Int32.ofInt (h q j))) (by rw [am_M_get g1]; show some (am_cell h q.toNat (2, n, 0)) = _; unfold am_cell; simp only [g2]) g3 hx1 (by rw [hx2, List.length_map, List.length_range]; omega)).trans ?_
        rw [hx2, hrow, am_M_set (h' := am_up h q i x) g1 (?_ : _ = am_cell (am_up h q i x) q.toNat (2, n, 0)) (fun q' j hq => am_up_ne (by omega))]
        unfold am_cell
        simp only [g2]
      · have hwu := am_wf_up (i := i.toNat) (x := x) hw g1 (by rw [g2, show ((i.toNat : Nat) : Int) = i by omega]; exact am_wfc_row2 (hw _ _ _ _ g1) g2 hx)
        rw [g2, show ((i.toNat : Nat) : Int) = i by omega] at hwu
        exact hwu
    · exact False.elim H2
  | castore =>
    have H2 : (match (generalizing := false) st with | w :: v :: .inr (.inr (.inl (4, n, 0, q))) :: r => am_int w (fun x _ => am_int v (fun i _ => (0 ≤ i ∧ i < Int.ofNat n) ∧ (0 ≤ x ∧ x < 65536) ∧ K (pc + 1) lv r (am_up h q i x))) | _ => False) := H
    split at H2
    · rename_i w v n q r
      obtain ⟨x, f, e0, hf, H3⟩ := am_int_e (am_okh hs) H2
      obtain ⟨i, g, e, -, hi, hk⟩ := am_int_e (am_okh (am_okt hs)) H3
      obtain ⟨hx, hk⟩ := hk
      obtain ⟨g1, g2, g3⟩ := am_vd_e (am_okh (am_okt (am_okt hs))) (by decide) (by decide)
      have hi2 : i < (n : Int) := hi.2
      have hn := (am_LY_e g1).2.1 (by omega)
      obtain ⟨hx1, hx2⟩ := am_ix hi.1 hi2 (by omega)
      have hrow := am_row_set Int32.ofInt h q n (x := x) hi.1 hi2
      refine am_on2 (h' := am_up h q i x) (s0 := .int (Int32.ofInt x) :: .int (Int32.ofInt i) :: .ref q.toNat :: r.map am_cv) ht (by rw [List.map_cons, List.map_cons, List.map_cons, e, e0]; rfl) ?_ rfl (hK _ _ _ _ _ hk ?_ hl (am_okt (am_okt (am_okt hs))) hr)
      · refine (am_x_castore (xs := (List.range n).map (fun (j : Nat) => Int32.ofInt (h q j))) (by rw [am_M_get g1]; show some (am_cell h q.toNat (4, n, 0)) = _; unfold am_cell; simp only [g2]) g3 hx1 (by rw [hx2, List.length_map, List.length_range]; omega)).trans ?_
        rw [hx2, am_nar_c hx.1 hx.2, hrow, am_M_set (h' := am_up h q i x) g1 (?_ : _ = am_cell (am_up h q i x) q.toNat (4, n, 0)) (fun q' j hq => am_up_ne (by omega))]
        unfold am_cell
        simp only [g2]
      · have hwu := am_wf_up (i := i.toNat) (x := x) hw g1 (by rw [g2, show ((i.toNat : Nat) : Int) = i by omega]; exact am_wfc_row4 (hw _ _ _ _ g1) g2 hx)
        rw [g2, show ((i.toNat : Nat) : Int) = i by omega] at hwu
        exact hwu
    · exact False.elim H2
  | bastore =>
    have H2 : (match (generalizing := false) st with | w :: v :: .inr (.inr (.inl (5, n, 0, q))) :: r => am_int w (fun x _ => am_int v (fun i _ => (0 ≤ i ∧ i < Int.ofNat n) ∧ (x = 0 ∨ x = 1) ∧ K (pc + 1) lv r (am_up h q i x))) | _ => False) := H
    split at H2
    · rename_i w v n q r
      obtain ⟨x, f, e0, hf, H3⟩ := am_int_e (am_okh hs) H2
      obtain ⟨i, g, e, -, hi, hk⟩ := am_int_e (am_okh (am_okt hs)) H3
      obtain ⟨hx, hk⟩ := hk
      obtain ⟨g1, g2, g3⟩ := am_vd_e (am_okh (am_okt (am_okt hs))) (by decide) (by decide)
      have hi2 : i < (n : Int) := hi.2
      have hn := (am_LY_e g1).2.1 (by omega)
      obtain ⟨hx1, hx2⟩ := am_ix hi.1 hi2 (by omega)
      have hrow := am_row_set Int32.ofInt h q n (x := x) hi.1 hi2
      refine am_on2 (h' := am_up h q i x) (s0 := .int (Int32.ofInt x) :: .int (Int32.ofInt i) :: .ref q.toNat :: r.map am_cv) ht (by rw [List.map_cons, List.map_cons, List.map_cons, e, e0]; rfl) ?_ rfl (hK _ _ _ _ _ hk ?_ hl (am_okt (am_okt (am_okt hs))) hr)
      · refine (am_x_bastore (xs := (List.range n).map (fun (j : Nat) => Int32.ofInt (h q j))) (by rw [am_M_get g1]; show some (am_cell h q.toNat (5, n, 0)) = _; unfold am_cell; simp only [g2]) g3 hx1 (by rw [hx2, List.length_map, List.length_range]; omega)).trans ?_
        rw [hx2, am_nar_b hx, hrow, am_M_set (h' := am_up h q i x) g1 (?_ : _ = am_cell (am_up h q i x) q.toNat (5, n, 0)) (fun q' j hq => am_up_ne (by omega))]
        unfold am_cell
        simp only [g2]
      · have hwu := am_wf_up (i := i.toNat) (x := x) hw g1 (by rw [g2, show ((i.toNat : Nat) : Int) = i by omega]; exact am_wfc_row5 (hw _ _ _ _ g1) g2 hx)
        rw [g2, show ((i.toNat : Nat) : Int) = i by omega] at hwu
        exact hwu
    · exact False.elim H2
  | lastore =>
    have H2 : (match (generalizing := false) st with | w :: v :: .inr (.inr (.inl (3, n, 0, q))) :: r => am_lng w (fun x f => am_int v (fun i _ => (0 ≤ i ∧ i < Int.ofNat n) ∧ am_ob f (R64 x) (K (pc + 1) lv r (am_up h q i x)))) | _ => False) := H
    split at H2
    · rename_i w v n q r
      obtain ⟨x, f, e0, hf, H3⟩ := am_lng_e (am_okh hs) H2
      obtain ⟨i, g, e, -, hi, hk⟩ := am_int_e (am_okh (am_okt hs)) H3
      obtain ⟨hx, hk⟩ := am_ob_e hk hf
      obtain ⟨g1, g2, g3⟩ := am_vd_e (am_okh (am_okt (am_okt hs))) (by decide) (by decide)
      have hi2 : i < (n : Int) := hi.2
      have hn := (am_LY_e g1).2.1 (by omega)
      obtain ⟨hx1, hx2⟩ := am_ix hi.1 hi2 (by omega)
      have hrow := am_row_set Int64.ofInt h q n (x := x) hi.1 hi2
      refine am_on2 (h' := am_up h q i x) (s0 := .long (Int64.ofInt x) :: .int (Int32.ofInt i) :: .ref q.toNat :: r.map am_cv) ht (by rw [List.map_cons, List.map_cons, List.map_cons, e, e0]; rfl) ?_ rfl (hK _ _ _ _ _ hk ?_ hl (am_okt (am_okt (am_okt hs))) hr)
      · refine (am_x_lastore (xs := (List.range n).map (fun (j : Nat) => Int64.ofInt (h q j))) (by rw [am_M_get g1]; show some (am_cell h q.toNat (3, n, 0)) = _; unfold am_cell; simp only [g2]) g3 hx1 (by rw [hx2, List.length_map, List.length_range]; omega)).trans ?_
        rw [hx2, hrow, am_M_set (h' := am_up h q i x) g1 (?_ : _ = am_cell (am_up h q i x) q.toNat (3, n, 0)) (fun q' j hq => am_up_ne (by omega))]
        unfold am_cell
        simp only [g2]
      · have hwu := am_wf_up (i := i.toNat) (x := x) hw g1 (by rw [g2, show ((i.toNat : Nat) : Int) = i by omega]; exact am_wfc_row3 (hw _ _ _ _ g1) g2 hx)
        rw [g2, show ((i.toNat : Nat) : Int) = i by omega] at hwu
        exact hwu
    · exact False.elim H2
  | arraylength =>
    have H2 : (match (generalizing := false) st with | .inr (.inr (.inl (2, n, 0, _))) :: r => K (pc + 1) lv (mB (Int.ofNat n) :: r) h | .inr (.inr (.inl (3, n, 0, _))) :: r => K (pc + 1) lv (mB (Int.ofNat n) :: r) h | _ => False) := H
    split at H2
    · rename_i n q r
      obtain ⟨g1, g2, g3⟩ := am_vd_e (am_okh hs) (by decide) (by decide)
      have hn := (am_LY_e g1).2.1 (by omega)
      refine am_on2 (s0 := .ref q.toNat :: r.map am_cv) (s1 := .int (Int32.ofNat n) :: r.map am_cv) ht rfl ?_ (by show _ = Value.int (Int32.ofInt (n : Int)) :: _; rw [Int32.ofInt_eq_ofNat]) (hK _ _ _ _ _ H2 hw hl (am_okc (am_okB (by show R32 (n : Int); omega)) (am_okt hs)) hr)
      refine (am_x_len2 (by rw [am_M_get g1]; rfl) g3).trans ?_
      rw [List.length_map, List.length_range]
    · rename_i n q r
      obtain ⟨g1, g2, g3⟩ := am_vd_e (am_okh hs) (by decide) (by decide)
      have hn := (am_LY_e g1).2.1 (by omega)
      refine am_on2 (s0 := .ref q.toNat :: r.map am_cv) (s1 := .int (Int32.ofNat n) :: r.map am_cv) ht rfl ?_ (by show _ = Value.int (Int32.ofInt (n : Int)) :: _; rw [Int32.ofInt_eq_ofNat]) (hK _ _ _ _ _ H2 hw hl (am_okc (am_okB (by show R32 (n : Int); omega)) (am_okt hs)) hr)
      refine (am_x_len3 (by rw [am_M_get g1]; rfl) g3).trans ?_
      rw [List.length_map, List.length_range]
    · exact False.elim H2
  | invokevirtual idx =>
    have H2 : (match (generalizing := false) Nat.beq c 9 with | true => (match (generalizing := false) b, st with | 0, .inr (.inr (.inl (9, 0, 0, q))) :: r => (match Nat.ble (am_cats r) 8 with | true => K (pc + 3) lv (mB (am_sl q) :: r) h | false => False) | 1, v :: .inr (.inr (.inl (9, 0, 0, q))) :: r => (match Nat.ble (am_cats r) 8 with | true => am_int v (fun i _ => (0 ≤ i ∧ i < am_sl q) ∧ K (pc + 3) lv (mB (am_sc q i) :: r) h) | false => False) | _, _ => False) | false => am_call E a b 2 dd st h (fun st' h' => K (pc + 3) lv st' h')) := H
    split at H2
    · rename_i hc9
      have hc : c = 9 := by simpa using hc9
      subst hc
      split at H2
      · rename_i q r
        split at H2
        · rename_i h8
          have h8 : am_cats r ≤ 8 := by simpa using h8
          obtain ⟨s, hs1, hs2, hs3⟩ := am_str_e (am_okh hs)
          refine am_on2 (s0 := .ref q.toNat :: r.map am_cv) (s1 := .int (Int32.ofNat s.length) :: r.map am_cv) ht rfl ?_ (by show _ = Value.int (Int32.ofInt (am_sl q)) :: _; rw [hs2.1, Int32.ofInt_eq_ofNat]) (hK _ _ _ _ _ H2 hw hl (am_okc (am_okB (by rw [hs2.1]; omega)) (am_okt hs)) hr)
          exact am_x_sl hs1.1 (by rw [am_cats_e]; exact h8) hs1.2
        · exact False.elim H2
      · rename_i v q r
        split at H2
        · rename_i h8
          have h8 : am_cats r ≤ 8 := by simpa using h8
          obtain ⟨i, f, e, -, hi, hk⟩ := am_int_e (am_okh hs) H2
          obtain ⟨s, hs1, hs2, hs3⟩ := am_str_e (am_okh (am_okt hs))
          rw [hs2.1] at hi
          obtain ⟨hx1, hx2⟩ := am_ix hi.1 hi.2 (by omega)
          obtain ⟨u, hu1, hu2⟩ := hs3 i.toNat (by omega)
          have hsc : am_sc q i = u.toInt := hu2 i (by omega)
          refine am_on2 (s0 := .int (Int32.ofInt i) :: .ref q.toNat :: r.map am_cv) (s1 := .int u :: r.map am_cv) ht (by rw [List.map_cons, List.map_cons, e]; rfl) ?_ (by show _ = Value.int (Int32.ofInt (am_sc q i)) :: _; rw [hsc, Int32.ofInt_toInt]) (hK _ _ _ _ _ hk hw hl (am_okc (am_okB (by rw [hsc]; exact am_r32 _)) (am_okt (am_okt hs))) hr)
          exact am_x_sc hs1.1 hx1 (by rw [am_cats_e]; exact h8) hs1.2 (by rw [hx2]; exact hu1)
        · exact False.elim H2
      · exact False.elim H2
    · rename_i hc9
      have hc : ¬ c = 9 := Nat.ne_of_beq_eq_false hc9
      obtain ⟨ws, vs, r, ci, o, e1, e2, e3, e4, e5, hE2⟩ := am_call_v hs H2
      subst e5
      obtain ⟨g1, g2, g3⟩ := am_vd_e (am_okh e3.1) (by decide) (by decide)
      refine am_go (ws := mR 1 ci 0 o :: ws) (r := r) ht hE hK hw hl hr ?_ (am_okc (am_okh e3.1) e3.2.1) e3.2.2 hE2
      show (if c = 9 then _ else ri_cl a b (pc + 3) lvc (st.map am_cv) (am_M h G) 0 0 2 ci) = _
      rw [if_neg hc, e1, List.map_append, List.map_cons, List.map_reverse, am_cvr (by decide), am_cl2 (e4.1) (am_M_get g1) g3 (by rw [am_cats_e]; exact e4.2)]
      rw [List.map_cons, e2, am_cvr (by decide)]
  | invokestatic idx =>
    match c, H with
    | 0, H =>
      obtain ⟨ws, vs, r, e1, e2, e3, e4, hE2⟩ := am_call_s hs (show am_call E a b 0 dd st h (fun st' h' => K (pc + 3) lv st' h') from H)
      refine am_go (ws := ws) (r := r) ht hE hK hw hl hr ?_ e3.1 e3.2 hE2
      show ri_cl a b (pc + 3) lvc (st.map am_cv) (am_M h G) 0 0 0 dd = _
      rw [e1, List.map_append, List.map_reverse, am_cl0 e4.1 (by rw [am_cats_e]; exact e4.2), e2]
    | 1, H => exact False.elim H
    | 2, H => exact False.elim H
    | 3, H => exact False.elim H
    | 5, H => exact False.elim H
    | 4, H =>
      have H2 : (match (generalizing := false) st with | [z, dp, .inr (.inr (.inl (2, n1, 0, q1))), sp, .inr (.inr (.inl (2, n0, 0, q0)))] => am_int z (fun z _ => am_int dp (fun dp _ => am_int sp (fun sp _ => (0 ≤ z ∧ 0 ≤ sp ∧ sp + z ≤ Int.ofNat n0 ∧ 0 ≤ dp ∧ dp + z ≤ Int.ofNat n1) ∧ K (pc + 3) lv [] (am_cp h q0 sp q1 dp z)))) | _ => False) := H
      split at H2
      · rename_i z dp n1 q1 sp n0 q0 _
        obtain ⟨z', -, ez, -, H3⟩ := am_int_e (am_okh hs) H2
        obtain ⟨d', -, ed, -, H4⟩ := am_int_e (am_okh (am_okt hs)) H3
        obtain ⟨s', -, es, -, hb, hk⟩ := am_int_e (am_okh (am_okt (am_okt (am_okt hs)))) H4
        obtain ⟨a1, a2, a3⟩ := am_vd_e (am_okh (am_okt (am_okt hs))) (by decide) (by decide)
        obtain ⟨b1, b2, b3⟩ := am_vd_e (am_okh (am_okt (am_okt (am_okt (am_okt hs))))) (by decide) (by decide)
        have hb3 : s' + z' ≤ (n0 : Int) := hb.2.2.1
        have hb5 : d' + z' ≤ (n1 : Int) := hb.2.2.2.2
        have hn1 := (am_LY_e a1).2.1 (by omega)
        have hn0 := (am_LY_e b1).2.1 (by omega)
        obtain ⟨z1, z2⟩ := am_ix (n := 100000) hb.1 (by omega) (by omega)
        obtain ⟨s1, s2⟩ := am_ix (n := 100000) hb.2.1 (by omega) (by omega)
        obtain ⟨d1, d2⟩ := am_ix (n := 100000) hb.2.2.2.1 (by omega) (by omega)
        refine am_on2 (h' := am_cp h q0 s' q1 d' z') (s0 := [.int (Int32.ofInt z'), .int (Int32.ofInt d'), .ref q1.toNat, .int (Int32.ofInt s'), .ref q0.toNat]) ht (by simp only [List.map_cons, List.map_nil, ez, ed, es]; rfl) ?_ rfl (hK _ _ _ [] _ hk (am_wf_cp hw a1 a2 b1 b2 hb) hl (fun w hw => by cases hw) hr)
        refine (am_x_cp (xs := (List.range n0).map (fun (j : Nat) => Int32.ofInt (h q0 j))) (ys := (List.range n1).map (fun (j : Nat) => Int32.ofInt (h q1 j))) (by rw [am_M_get b1]; show some (am_cell h q0.toNat (2, n0, 0)) = _; unfold am_cell; simp only [b2]) (by rw [am_M_get a1]; show some (am_cell h q1.toNat (2, n1, 0)) = _; unfold am_cell; simp only [a2]) b3 a3 s1 d1 z1 (by rw [s2, z2, List.length_map, List.length_range]; omega) (by rw [d2, z2, List.length_map, List.length_range]; omega)).trans ?_
        rw [s2, d2, z2, am_cp_row hb.1 hb.2.1 hb3 hb.2.2.2.1 hb5, am_M_set (h' := am_cp h q0 s' q1 d' z') a1 (?_ : _ = am_cell (am_cp h q0 s' q1 d' z') q1.toNat (2, n1, 0)) (fun q' j hq => am_cp_ne (by omega))]
        · rfl
        · unfold am_cell
          simp only [a2]
      · exact False.elim H2
    | 6, H =>
      obtain ⟨x, f, y, g, r, e, hf, hg, hrr, hk⟩ := am_i2_e hs H
      split at hk
      · rename_i h8
        have h8 : am_cats r ≤ 8 := by simpa using h8
        obtain ⟨hx, hk⟩ := am_ob_e hk hf
        obtain ⟨hy, hk⟩ := am_ob_e hk hg
        refine am_on2 (s1 := .int (Int32.ofInt (max x y)) :: r.map am_cv) ht e ?_ rfl (hK _ _ _ _ _ hk hw hl (am_okc (am_okB (by omega)) hrr) hr)
        refine (if_pos (by rw [am_cats_e]; exact h8)).trans ?_
        rw [am_max hx hy]
      · exact False.elim hk
    | 7, H =>
      obtain ⟨x, f, y, g, r, e, hf, hg, hrr, hk⟩ := am_i2_e hs H
      split at hk
      · rename_i h8
        have h8 : am_cats r ≤ 8 := by simpa using h8
        obtain ⟨hx, hk⟩ := am_ob_e hk hf
        obtain ⟨hy, hk⟩ := am_ob_e hk hg
        refine am_on2 (s1 := .int (Int32.ofInt (min x y)) :: r.map am_cv) ht e ?_ rfl (hK _ _ _ _ _ hk hw hl (am_okc (am_okB (by omega)) hrr) hr)
        refine (if_pos (by rw [am_cats_e]; exact h8)).trans ?_
        rw [am_min hx hy]
      · exact False.elim hk
    | 8, H =>
      obtain ⟨x, f, y, g, r, e, hf, hg, hrr, hk⟩ := am_l2_e hs H
      split at hk
      · rename_i h8
        have h8 : am_cats r ≤ 8 := by simpa using h8
        obtain ⟨hx, hk⟩ := am_ob_e hk hf
        obtain ⟨hy, hk⟩ := am_ob_e hk hg
        refine am_on2 (s1 := .long (Int64.ofInt (max x y)) :: r.map am_cv) ht e ?_ rfl (hK _ _ _ _ _ hk hw hl (am_okc (am_okK (by omega)) hrr) hr)
        refine (if_pos (by rw [am_cats_e]; exact h8)).trans ?_
        rw [am_maxj hx hy]
      · exact False.elim hk
    | _ + 9, H => exact False.elim H
  | ireturn =>
    match st, hs, H with
    | [], hs, H => exact False.elim H
    | [.inl (x, f)], hs, H =>
      have H2 : (match (generalizing := false) t.2.2 with | 1 => am_ob f (R32 x) (R (some (mB x)) h) | 4 => (x = 0 ∨ x = 1) ∧ R (some (mP (x = 1))) h | _ => False) := H
      split at H2
      · rename_i hrk
        obtain ⟨hx, hk⟩ := am_ob_e H2 (am_okh hs)
        refine ⟨some (mB x), h, hk, hw, fun w e => by cases e; exact am_okB hx, ri_rt ht ?_⟩
        show (if t.2.2 = 1 then _ else _) = _
        rw [if_pos hrk]
        rfl
      · rename_i hrk
        refine ⟨some (mP (x = 1)), h, H2.2, hw, fun w e => by cases e; exact trivial, ri_rt ht ?_⟩
        have e1 : x = am_b (x = 1) := by rcases H2.1 with rfl | rfl; exact (am_b_f (by decide)).symm; exact (am_b_t rfl).symm
        have e2 : Int32.ofInt x = 0 ∨ Int32.ofInt x = 1 := by rcases H2.1 with rfl | rfl; exact Or.inl (by decide); exact Or.inr (by decide)
        show (if t.2.2 = 1 then some (Sum.inr (Sum.inr (some (Value.int (Int32.ofInt x))))) else if t.2.2 = 4 ∧ (Int32.ofInt x = 0 ∨ Int32.ofInt x = 1) then some (Sum.inr (Sum.inr (some (Value.int (Int32.ofInt x))))) else none : Option ri_X) = some (Sum.inr (Sum.inr (some (Value.int (Int32.ofInt (am_b (x = 1)))))))
        rw [if_neg (by rw [hrk]; decide), if_pos ⟨hrk, e2⟩, ← e1]
      · exact False.elim H2
    | [.inr (.inl _)], hs, H => exact False.elim H
    | [.inr (.inr (.inl _))], hs, H => exact False.elim H
    | [.inr (.inr (.inr (.inl p)))], hs, H =>
      have H2 : (match (generalizing := false) t.2.2 with | 4 => R (some (mP p)) h | _ => False) := H
      split at H2
      · rename_i hrk
        refine ⟨some (mP p), h, H2, hw, fun w e => by cases e; exact trivial, ri_rt ht ?_⟩
        have e2 : Int32.ofInt (am_b p) = 0 ∨ Int32.ofInt (am_b p) = 1 := by rcases am_b_01 p with e | e <;> rw [e]; exact Or.inl (by decide); exact Or.inr (by decide)
        show (if t.2.2 = 1 then some (Sum.inr (Sum.inr (some (Value.int (Int32.ofInt (am_b p)))))) else if t.2.2 = 4 ∧ (Int32.ofInt (am_b p) = 0 ∨ Int32.ofInt (am_b p) = 1) then some (Sum.inr (Sum.inr (some (Value.int (Int32.ofInt (am_b p)))))) else none : Option ri_X) = some (Sum.inr (Sum.inr (some (Value.int (Int32.ofInt (am_b p))))))
        rw [if_neg (by rw [hrk]; decide), if_pos ⟨hrk, e2⟩]
      · exact False.elim H2
    | [.inr (.inr (.inr (.inr _)))], hs, H => exact False.elim H
    | .inl _ :: _ :: _, hs, H => exact False.elim H
    | .inr (.inl _) :: _ :: _, hs, H => exact False.elim H
    | .inr (.inr (.inl _)) :: _ :: _, hs, H => exact False.elim H
    | .inr (.inr (.inr (.inl _))) :: _ :: _, hs, H => exact False.elim H
    | .inr (.inr (.inr (.inr _))) :: _ :: _, hs, H => exact False.elim H
  | lreturn =>
    have H2 : (match (generalizing := false) st with | [.inr (.inl (x, f))] => (match t.2.2 with | 2 => am_ob f (R64 x) (R (some (mK x)) h) | _ => False) | _ => False) := H
    split at H2
    · rename_i x f
      split at H2
      · rename_i hrk
        obtain ⟨hx, hk⟩ := am_ob_e H2 (am_okh hs)
        refine ⟨some (mK x), h, hk, hw, fun w e => by cases e; exact am_okK hx, ri_rt ht ?_⟩
        show (if t.2.2 = 2 then _ else _) = _
        rw [if_pos hrk]
        rfl
      · exact False.elim H2
    · exact False.elim H2
  | areturn =>
    have H2 : (match (generalizing := false) st with | [.inr (.inr (.inl q))] => (match t.2.2 with | 3 => R (some (.inr (.inr (.inl q)))) h | _ => False) | _ => False) := H
    split at H2
    · rename_i q
      split at H2
      · rename_i hrk
        refine ⟨some (.inr (.inr (.inl q))), h, H2, hw, fun w e => by cases e; exact am_okh hs, ri_rt ht ?_⟩
        obtain ⟨k0, n0, m0, a0⟩ := q
        show (match [(if k0 = 0 then Value.null else Value.ref a0.toNat)] with | [.ref x] => if t.2.2 = 3 then some (Sum.inr (Sum.inr (some (.ref x)))) else none | [.null] => if t.2.2 = 3 then some (Sum.inr (Sum.inr (some .null))) else none | _ => none : Option ri_X) = some (Sum.inr (Sum.inr (some (if k0 = 0 then Value.null else Value.ref a0.toNat))))
        by_cases e : k0 = 0
        · simp only [if_pos e, hrk, if_true]
        · simp only [if_neg e, hrk, if_true]
      · exact False.elim H2
    · exact False.elim H2
  | return_ =>
    have H2 : (match (generalizing := false) st with | [] => (match t.2.2 with | 0 => R none h | _ => False) | _ => False) := H
    split at H2
    · split at H2
      · rename_i hrk
        refine ⟨none, h, H2, hw, (fun w e => by cases e), ri_rt ht ?_⟩
        show (if t.2.2 = 0 then _ else _) = _
        rw [if_pos hrk]
        rfl
      · exact False.elim H2
    · exact False.elim H2
  | _ =>
    exact False.elim H
/-- WALKS: what the abstract machine says of a walk is so -/
theorem am_wp_ok {E : am_E} {cuts : List (Nat × List Nat)} {m : Nat} (hP : ri_P m = some t) (hE : ∀ y as h K, E y as h K → am_CA d y as h K) : ∀ (f pc : Nat) (lv : am_L) (lvc : ri_L) (st : List am_V) (h : am_H), am_wp t.1 t.2.2 cuts E (fun pc lv h => am_AT (d + 1) m pc lv h R) R f pc lv st h → am_wf h → am_okL lv → am_okS st → am_rel lv lvc → am_G (d + 1) t pc lvc (st.map am_cv) h G R := by
  intro f
  induction f with
  | zero => intro pc lv lvc st h H; exact False.elim H
  | succ f ih =>
    intro pc lv lvc st h H hw hl hs hr
    unfold am_wp at H
    split at H
    · rename_i i hi
      refine am_step_ok hi hE ?_ hw hl hs hr H
      intro pc' lv' lvc' st' h' H' hw' hl' hs' hr'
      unfold am_nx at H'
      split at H'
      · rename_i ks hks
        split at H'
        · refine H' t lvc' G hP hw' ?_ ?_
          · intro j w e
            obtain ⟨v, q1, q2, q3⟩ := am_prj_get ks lv' j w e
            exact q3 (hl' j v q1)
          · intro j w e
            obtain ⟨v, q1, q2, q3⟩ := am_prj_get ks lv' j w e
            rw [q2]
            exact hr' j v q1
        · exact False.elim H'
      · exact ih pc' lv' lvc' st' h' H' hw' hl' hs' hr'
    · exact False.elim H
end AMS
/-- a contract holds of a method -/
def am_CS (d m : Nat) (C : am_K) : Prop := ∀ as h K, C as h K → am_CA d m as h K
def am_en : List (Nat × am_K) → am_E
  | [], _ => fun _ _ _ => False
  | (m, C) :: l, y => match Nat.beq m y with
    | true => C
    | false => am_en l y
def am_ens (d : Nat) : List (Nat × am_K) → Prop
  | [] => True
  | (m, C) :: l => am_CS d m C ∧ am_ens d l
theorem am_en_ok {d : Nat} : ∀ (l : List (Nat × am_K)), am_ens d l → ∀ y as h K, am_en l y as h K → am_CA d y as h K
  | [], _, y, as, h, K, H => False.elim H
  | (m, C) :: l, hl, y, as, h, K, H => by
    have H2 : (match Nat.beq m y with | true => C | false => am_en l y) as h K := H
    cases hb : Nat.beq m y with
    | true =>
      rw [hb] at H2
      have e : m = y := by simpa using hb
      subst e
      exact hl.1 as h K H2
    | false =>
      rw [hb] at H2
      exact am_en_ok l hl.2 y as h K H2
/-- A WALK from pc to its rests: w is what is left to show -/
theorem am_T {d m : Nat} {T : List (Option ri_I)} {mL rk : Nat} {cuts : List (Nat × List Nat)} {l : List (Nat × am_K)} {R : Option am_V → am_H → Prop} {pc : Nat} {lv : am_L} {h : am_H} (hP : ri_P m = some (T, mL, rk)) (hl : am_ens d l) (f : Nat) (w : am_wp T rk cuts (am_en l) (fun pc lv h => am_AT (d + 1) m pc lv h R) R f pc lv [] h) : am_AT (d + 1) m pc lv h R := by
  intro t lvc G ht hw hL hr
  rw [hP] at ht
  cases ht
  exact am_wp_ok hP (am_en_ok l hl) f pc lv lvc [] h w hw hL (fun v e => by cases e) hr
theorem am_AT_d {dp dp' m pc : Nat} {lv : am_L} {h : am_H} {R : Option am_V → am_H → Prop} (hd : dp ≤ dp') (H : am_AT dp m pc lv h R) : am_AT dp' m pc lv h R := by
  intro t lvc G ht hw hl hr
  obtain ⟨v, h', a, b, c, e⟩ := H t lvc G ht hw hl hr
  exact ⟨v, h', a, b, c, ri_ev_d e hd⟩
theorem am_CS_d {dp dp' m : Nat} {C : am_K} (hd : dp ≤ dp') (H : am_CS dp m C) : am_CS dp' m C := by
  intro as h K hC
  obtain ⟨t, a, b, c⟩ := H as h K hC
  refine ⟨t, a, b, fun G hw hs => ?_⟩
  obtain ⟨v, h', a, b, c, e⟩ := c G hw hs
  exact ⟨v, h', a, b, c, ri_ev_d e hd⟩
def am_args : Nat → List am_V → am_L
  | n, [] => List.replicate n none
  | n, .inr (.inl q) :: vs => some (.inr (.inl q)) :: none :: am_args (n - 2) vs
  | n, v :: vs => some v :: am_args (n - 1) vs
theorem am_args_get : ∀ (vs : List am_V) (n j i : Nat) (v : am_V), (am_args n vs)[i]? = some (some v) → v ∈ vs ∧ ri_ld (lv_args j (vs.map am_cv)) (j + i) = some (am_cv v)
  | [], n, j, i, v, h => by
    have h2 : (List.replicate n (none : Option am_V))[i]? = some (some v) := h
    rw [List.getElem?_replicate] at h2
    split at h2 <;> cases h2
  | .inl q :: vs, n, j, 0, v, h => by
    cases h
    exact ⟨List.mem_cons_self, am_ld_hd⟩
  | .inl q :: vs, n, j, i + 1, v, h => by
    obtain ⟨a, b⟩ := am_args_get vs (n - 1) (j + 1) i v h
    refine ⟨List.mem_cons_of_mem _ a, ?_⟩
    show ri_ld ((j, am_cv (.inl q)) :: lv_args (if (am_cv (.inl q)).category = 2 then j + 2 else j + 1) (vs.map am_cv)) (j + (i + 1)) = _
    rw [am_ld_tl (by omega), if_neg (by rw [am_cv_cat]; exact (by decide : ¬ (1 : Nat) = 2)), show j + (i + 1) = j + 1 + i by omega]
    exact b
  | .inr (.inr q) :: vs, n, j, 0, v, h => by
    cases h
    exact ⟨List.mem_cons_self, am_ld_hd⟩
  | .inr (.inr q) :: vs, n, j, i + 1, v, h => by
    obtain ⟨a, b⟩ := am_args_get vs (n - 1) (j + 1) i v h
    refine ⟨List.mem_cons_of_mem _ a, ?_⟩
    show ri_ld ((j, am_cv (.inr (.inr q))) :: lv_args (if (am_cv (.inr (.inr q))).category = 2 then j + 2 else j + 1) (vs.map am_cv)) (j + (i + 1)) = _
    rw [am_ld_tl (by omega), if_neg (by rw [am_cv_cat]; exact (by decide : ¬ (1 : Nat) = 2)), show j + (i + 1) = j + 1 + i by omega]
    exact b
  | .inr (.inl q) :: vs, n, j, 0, v, h => by
    cases h
    exact ⟨List.mem_cons_self, am_ld_hd⟩
  | .inr (.inl q) :: vs, n, j, 1, v, h => by
    cases h
  | .inr (.inl q) :: vs, n, j, i + 2, v, h => by
    obtain ⟨a, b⟩ := am_args_get vs (n - 2) (j + 2) i v h
    refine ⟨List.mem_cons_of_mem _ a, ?_⟩
    show ri_ld ((j, am_cv (.inr (.inl q))) :: lv_args (if (am_cv (.inr (.inl q))).category = 2 then j + 2 else j + 1) (vs.map am_cv)) (j + (i + 2)) = _
    rw [am_ld_tl (by omega), if_pos (by rw [am_cv_cat]; exact (rfl : (2 : Nat) = 2)), show j + (i + 2) = j + 2 + i by omega]
    exact b
/-- a contract out of a walk from the method's first instruction -/
theorem am_CS_of {d m : Nat} {T : List (Option ri_I)} {mL rk : Nat} {C : am_K} (hP : ri_P m = some (T, mL, rk)) (H : ∀ as h K, C as h K → am_cats as ≤ mL ∧ am_AT d m 0 (am_args mL as) h K) : am_CS d m C := by
  intro as h K hC
  obtain ⟨h1, h2⟩ := H as h K hC
  refine ⟨_, hP, h1, fun G hw hs => h2 _ _ G hP hw (fun i v e => hs v (am_args_get as mL 0 i v e).1) (fun i v e => ?_)⟩
  have := (am_args_get as mL 0 i v e).2
  rw [Nat.zero_add] at this
  exact this
