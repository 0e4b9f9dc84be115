/-- the class and the reference answer alike, on fresh objects -/
def p1_agreeI (tx tm : ri_T) (as : List Value) : Prop := ∃ (v : Int32) (M1 M2 : ri_M) (fs : List Value), ri_ev 9 none tx (0, lv_args 0 (.ref 0 :: as), [], p1_M, 0, 0) (some (.int v), M1, 0, 0) ∧ ri_ev 9 none tm (0, lv_args 0 (.ref 571 :: as), [], M1, 0, 0) (some (.int v), M2, 0, 0) ∧ M1[571]? = some (.inr (12, fs)) ∧ M1[2000000]? = none
def p1_agreeJ (tx tm : ri_T) (as : List Value) : Prop := ∃ (v : Int64) (M1 M2 : ri_M) (fs : List Value), ri_ev 9 none tx (0, lv_args 0 (.ref 0 :: as), [], p1_M, 0, 0) (some (.long v), M1, 0, 0) ∧ ri_ev 9 none tm (0, lv_args 0 (.ref 571 :: as), [], M1, 0, 0) (some (.long v), M2, 0, 0) ∧ M1[571]? = some (.inr (12, fs)) ∧ M1[2000000]? = none
theorem p1_in0 {M : ri_M} (v : Int64) : ri_ev 0 none (tb187, 6, 4) (0, lv_args 0 [.long v, .long 0, .long (-1)], [], M, 0, 0) (some (.int 0), M, 0, 0) := by
  refine ri_nx rfl rfl ?_
  refine ri_nx rfl rfl ?_
  refine ri_nx rfl rfl ?_
  by_cases h : lg_cmp v 0 < 0
  · refine ri_nx rfl (if_pos h) ?_
    refine ri_nx rfl rfl ?_
    exact ri_rt rfl rfl
  · have h1 : ¬ v < 0 := fun q => h ((lg_cmp_lt v 0).mpr q)
    have h2 : (-1 : Int64) < v := by
      rw [Int64.lt_iff_toInt_lt] at h1 ⊢
      have e0 : (0 : Int64).toInt = 0 := by decide
      have e1 : (-1 : Int64).toInt = -1 := by decide
      omega
    have h3 : 0 < lg_cmp v (-1) := (lg_cmp_gt v (-1)).mpr h2
    refine ri_nx rfl (if_neg h) ?_
    refine ri_nx rfl rfl ?_
    refine ri_nx rfl rfl ?_
    refine ri_nx rfl rfl ?_
    refine ri_nx rfl (if_pos h3) ?_
    refine ri_nx rfl rfl ?_
    exact ri_rt rfl rfl
theorem ri_andm1 (p : Int32) : p &&& ((0 : Int32) ^^^ (-1 : Int32)) = p := by
  rw [show ((0 : Int32) ^^^ (-1 : Int32)) = -1 by decide]
  exact Int32.and_neg_one
theorem p1_inF {M : ri_M} {v lo hi : Int64} (h : v < lo ∨ hi < v) : ri_ev 0 none (tb187, 6, 4) (0, lv_args 0 [.long v, .long lo, .long hi], [], M, 0, 0) (some (.int 0), M, 0, 0) := by
  refine ri_nx rfl rfl ?_
  refine ri_nx rfl rfl ?_
  refine ri_nx rfl rfl ?_
  by_cases h0 : lg_cmp v lo < 0
  · refine ri_nx rfl (if_pos h0) ?_
    refine ri_nx rfl rfl ?_
    exact ri_rt rfl rfl
  · have h3 : 0 < lg_cmp v hi := (lg_cmp_gt v hi).mpr (h.elim (fun q => absurd ((lg_cmp_lt v lo).mpr q) h0) id)
    refine ri_nx rfl (if_neg h0) ?_
    refine ri_nx rfl rfl ?_
    refine ri_nx rfl rfl ?_
    refine ri_nx rfl rfl ?_
    refine ri_nx rfl (if_pos h3) ?_
    refine ri_nx rfl rfl ?_
    exact ri_rt rfl rfl
theorem p1_z32 : (0 : Int32).toInt = 0 ∧ (1 : Int32).toInt = 1 ∧ (2 : Int32).toInt = 2 ∧ (3 : Int32).toInt = 3 ∧ (4 : Int32).toInt = 4 ∧ (5 : Int32).toInt = 5 ∧ (6 : Int32).toInt = 6 ∧ (7 : Int32).toInt = 7 := by decide
theorem p1_z64 : (0 : Int64).toInt = 0 ∧ (2 : Int64).toInt = 2 := by decide
theorem p1_lt64 {p : Int32} (h : p < (0 : Int32)) : p.toInt64 < 0 := by
  rw [Int32.lt_iff_toInt_lt] at h
  rw [Int64.lt_iff_toInt_lt, Int32.toInt_toInt64]
  have := p1_z32
  have := p1_z64
  omega
theorem p1_gt64a {p : Int32} (h : (3 : Int32) ≤ p) : (2 : Int64) < p.toInt64 := by
  rw [Int32.le_iff_toInt_le] at h
  rw [Int64.lt_iff_toInt_lt, Int32.toInt_toInt64]
  have := p1_z32
  have := p1_z64
  omega
theorem p1_gt64b {p : Int32} (h : ¬ p ≤ (0 : Int32)) : (0 : Int64) < p.toInt64 := by
  rw [Int32.le_iff_toInt_le] at h
  rw [Int64.lt_iff_toInt_lt, Int32.toInt_toInt64]
  have := p1_z32
  have := p1_z64
  omega
theorem p1_ne {p c : Int32} (h : ¬ p = c) : p.toInt ≠ c.toInt := fun q => h (Int32.toInt_inj.mp q)
theorem p1_pos {p : Int32} (h : ¬ p < 0) (h0 : ¬ p = 0) : ¬ p ≤ (0 : Int32) := by
  rw [Int32.lt_iff_toInt_lt] at h
  rw [Int32.le_iff_toInt_le]
  have := p1_ne h0
  have := p1_z32
  omega
theorem p1_ge3 {p : Int32} (h : ¬ p < 0) (h0 : ¬ p = 0) (h1 : ¬ p = 1) (h2 : ¬ p = 2) : (3 : Int32) ≤ p := by
  rw [Int32.lt_iff_toInt_lt] at h
  rw [Int32.le_iff_toInt_le]
  have := p1_ne h0
  have := p1_ne h1
  have := p1_ne h2
  have := p1_z32
  omega
theorem p1_out7 {p : Int32} (h0 : ¬ p = 0) (h1 : ¬ p = 1) (h2 : ¬ p = 2) (h3 : ¬ p = 3) (h4 : ¬ p = 4) (h5 : ¬ p = 5) (h6 : ¬ p = 6) (h7 : ¬ p = 7) : p.toInt < 0 ∨ 7 < p.toInt := by
  have := p1_ne h0
  have := p1_ne h1
  have := p1_ne h2
  have := p1_ne h3
  have := p1_ne h4
  have := p1_ne h5
  have := p1_ne h6
  have := p1_ne h7
  have := p1_z32
  omega
theorem ri_o_ge {p : Int32} (h : ¬ p < (0 : Int32)) : (0 : Int32) ≤ p := Int32.not_lt.mp h
set_option maxRecDepth 20000 in
theorem w192_0_0   : ri_ev 0 none (tb192, 3, 4) (0, lv_args 0 [.ref 571, .int 32, .int 32], [], cr2_M, 0, 0) (some (.int 0), cr2_M, 0, 0) := by
  refine ri_nx rfl rfl ?_
  refine ri_gf rfl cl_cr2_M_571 (by decide) rfl ?_
  refine ri_nx rfl rfl ?_
  refine ri_gf rfl cl_cr2_M_571 (by decide) rfl ?_
  refine ri_nx rfl rfl ?_
  refine ri_nx rfl rfl ?_
  exact ri_rt rfl rfl
set_option maxRecDepth 20000 in
theorem w192_1_0   : ri_ev 0 none (tb192, 3, 4) (0, lv_args 0 [.ref 571, .int 10, .int 10], [], cr2_M, 0, 0) (some (.int 0), cr2_M, 0, 0) := by
  refine ri_nx rfl rfl ?_
  refine ri_gf rfl cl_cr2_M_571 (by decide) rfl ?_
  refine ri_nx rfl rfl ?_
  refine ri_gf rfl cl_cr2_M_571 (by decide) rfl ?_
  refine ri_nx rfl rfl ?_
  refine ri_nx rfl rfl ?_
  exact ri_rt rfl rfl
set_option maxRecDepth 20000 in
theorem w193_0_0   : ri_ev 1 none (tb193, 1, 0) (0, lv_args 0 [.ref 571], [], cr2_M, 0, 0) (none, cr2_M, 0, 0) := by
  refine ri_nx rfl rfl ?_
  refine ri_nx rfl rfl ?_
  refine ri_nx rfl rfl ?_
  refine ri_vc rfl rfl cl_cr2_M_571 rfl (by decide) rfl (Nat.le_of_ble_eq_true rfl) (ri_ev_d (w192_0_0 ) (by decide)) ?_
  refine ri_nx rfl rfl ?_
  refine ri_nx rfl rfl ?_
  refine ri_nx rfl rfl ?_
  refine ri_nx rfl rfl ?_
  refine ri_vc rfl rfl cl_cr2_M_571 rfl (by decide) rfl (Nat.le_of_ble_eq_true rfl) (ri_ev_d (w192_1_0 ) (by decide)) ?_
  refine ri_nx rfl rfl ?_
  refine ri_nx rfl rfl ?_
  refine ri_nx rfl rfl ?_
  refine ri_gf rfl cl_cr2_M_571 (by decide) rfl ?_
  refine ri_pfs rfl cl_cr2_M_571 (by decide) rfl rfl ?_
  refine ri_nx rfl rfl ?_
  refine ri_nx rfl rfl ?_
  refine ri_pfs rfl cl_cr2_M_571 (by decide) rfl rfl ?_
  refine ri_nx rfl rfl ?_
  refine ri_gf rfl cl_cr2_M_571 (by decide) rfl ?_
  refine ri_nx rfl rfl ?_
  refine ri_gf rfl cl_cr2_M_571 (by decide) rfl ?_
  refine ri_nx rfl rfl ?_
  refine ri_nx rfl rfl ?_
  refine ri_nx rfl rfl ?_
  refine ri_pfs rfl cl_cr2_M_571 (by decide) rfl rfl ?_
  refine ri_nx rfl rfl ?_
  exact ri_rt rfl rfl
set_option maxRecDepth 20000 in
theorem w205_3_0   : ri_ev 0 none (tb205, 1, 0) (0, lv_args 0 [.ref 571], [], cr2_M, 0, 0) (none, cr2_M, 0, 0) := by
  refine ri_nx rfl rfl ?_
  refine ri_gf rfl cl_cr2_M_571 (by decide) rfl ?_
  refine ri_nx rfl rfl ?_
  refine ri_nx rfl rfl ?_
  refine ri_gf rfl cl_cr2_M_571 (by decide) rfl ?_
  refine ri_nx rfl rfl ?_
  exact ri_rt rfl rfl
set_option maxRecDepth 20000 in
theorem w213_4_0   : ri_ev 1 none (tb213, 2, 4) (0, lv_args 0 [.ref 571], [], cr2_M, 0, 0) (some (.int 1), fr3_M, 0, 0) := by
  refine ri_nx rfl rfl ?_
  refine ri_vc rfl rfl cl_cr2_M_571 rfl (by decide) rfl (Nat.le_of_ble_eq_true rfl) (ri_ev_d (fr3_ev 0) (by decide)) ?_
  refine ri_nx rfl rfl ?_
  refine ri_nx rfl rfl ?_
  refine ri_nx rfl rfl ?_
  refine ri_nx rfl rfl ?_
  refine ri_gf rfl cl_fr3_M_571 (by decide) rfl ?_
  refine ri_nx rfl rfl ?_
  refine ri_ia rfl cl_fr3_M_572 (by decide) (by decide) rfl ?_
  refine ri_nx rfl rfl ?_
  refine ri_nx rfl rfl ?_
  exact ri_rt rfl rfl
set_option maxRecDepth 20000 in
theorem w206_0_0   : ri_ev 2 none (tb206, 2, 1) (0, lv_args 0 [.ref 571], [], cr2_M, 0, 0) (some (.int 0), fr3_M, 0, 0) := by
  refine ri_nx rfl rfl ?_
  refine ri_nx rfl rfl ?_
  refine ri_nx rfl rfl ?_
  refine ri_nx rfl rfl ?_
  refine ri_nx rfl rfl ?_
  refine ri_nx rfl rfl ?_
  refine ri_gf rfl cl_cr2_M_571 (by decide) rfl ?_
  refine ri_nx rfl rfl ?_
  refine ri_nx rfl rfl ?_
  refine ri_gf rfl cl_cr2_M_571 (by decide) rfl ?_
  refine ri_nx rfl rfl ?_
  refine ri_ia rfl cl_cr2_M_572 (by decide) (by decide) rfl ?_
  refine ri_iss rfl cl_cr2_M_573 (by decide) (by decide) rfl ?_
  refine ri_nx rfl rfl ?_
  refine ri_gf rfl cl_cr2_M_571 (by decide) rfl ?_
  refine ri_nx rfl rfl ?_
  refine ri_nx rfl rfl ?_
  refine ri_iss rfl cl_cr2_M_572 (by decide) (by decide) rfl ?_
  refine ri_nx rfl rfl ?_
  refine ri_nx rfl rfl ?_
  refine ri_nx rfl rfl ?_
  refine ri_nx rfl rfl ?_
  refine ri_nx rfl rfl ?_
  refine ri_nx rfl rfl ?_
  refine ri_gf rfl cl_cr2_M_571 (by decide) rfl ?_
  refine ri_nx rfl rfl ?_
  refine ri_nx rfl rfl ?_
  refine ri_gf rfl cl_cr2_M_571 (by decide) rfl ?_
  refine ri_nx rfl rfl ?_
  refine ri_ia rfl cl_cr2_M_572 (by decide) (by decide) rfl ?_
  refine ri_iss rfl cl_cr2_M_573 (by decide) (by decide) rfl ?_
  refine ri_nx rfl rfl ?_
  refine ri_gf rfl cl_cr2_M_571 (by decide) rfl ?_
  refine ri_nx rfl rfl ?_
  refine ri_nx rfl rfl ?_
  refine ri_iss rfl cl_cr2_M_572 (by decide) (by decide) rfl ?_
  refine ri_nx rfl rfl ?_
  refine ri_nx rfl rfl ?_
  refine ri_nx rfl rfl ?_
  refine ri_nx rfl rfl ?_
  refine ri_nx rfl rfl ?_
  refine ri_nx rfl rfl ?_
  refine ri_gf rfl cl_cr2_M_571 (by decide) rfl ?_
  refine ri_nx rfl rfl ?_
  refine ri_nx rfl rfl ?_
  refine ri_gf rfl cl_cr2_M_571 (by decide) rfl ?_
  refine ri_nx rfl rfl ?_
  refine ri_ia rfl cl_cr2_M_572 (by decide) (by decide) rfl ?_
  refine ri_iss rfl cl_cr2_M_573 (by decide) (by decide) rfl ?_
  refine ri_nx rfl rfl ?_
  refine ri_gf rfl cl_cr2_M_571 (by decide) rfl ?_
  refine ri_nx rfl rfl ?_
  refine ri_nx rfl rfl ?_
  refine ri_iss rfl cl_cr2_M_572 (by decide) (by decide) rfl ?_
  refine ri_nx rfl rfl ?_
  refine ri_nx rfl rfl ?_
  refine ri_nx rfl rfl ?_
  refine ri_nx rfl rfl ?_
  refine ri_nx rfl rfl ?_
  refine ri_nx rfl rfl ?_
  refine ri_gf rfl cl_cr2_M_571 (by decide) rfl ?_
  refine ri_nx rfl rfl ?_
  refine ri_nx rfl rfl ?_
  refine ri_gf rfl cl_cr2_M_571 (by decide) rfl ?_
  refine ri_nx rfl rfl ?_
  refine ri_ia rfl cl_cr2_M_572 (by decide) (by decide) rfl ?_
  refine ri_iss rfl cl_cr2_M_573 (by decide) (by decide) rfl ?_
  refine ri_nx rfl rfl ?_
  refine ri_gf rfl cl_cr2_M_571 (by decide) rfl ?_
  refine ri_nx rfl rfl ?_
  refine ri_nx rfl rfl ?_
  refine ri_iss rfl cl_cr2_M_572 (by decide) (by decide) rfl ?_
  refine ri_nx rfl rfl ?_
  refine ri_nx rfl rfl ?_
  refine ri_nx rfl rfl ?_
  refine ri_nx rfl rfl ?_
  refine ri_nx rfl rfl ?_
  refine ri_nx rfl rfl ?_
  refine ri_gf rfl cl_cr2_M_571 (by decide) rfl ?_
  refine ri_nx rfl rfl ?_
  refine ri_nx rfl rfl ?_
  refine ri_gf rfl cl_cr2_M_571 (by decide) rfl ?_
  refine ri_nx rfl rfl ?_
  refine ri_ia rfl cl_cr2_M_572 (by decide) (by decide) rfl ?_
  refine ri_iss rfl cl_cr2_M_573 (by decide) (by decide) rfl ?_
  refine ri_nx rfl rfl ?_
  refine ri_gf rfl cl_cr2_M_571 (by decide) rfl ?_
  refine ri_nx rfl rfl ?_
  refine ri_nx rfl rfl ?_
  refine ri_iss rfl cl_cr2_M_572 (by decide) (by decide) rfl ?_
  refine ri_nx rfl rfl ?_
  refine ri_nx rfl rfl ?_
  refine ri_nx rfl rfl ?_
  refine ri_nx rfl rfl ?_
  refine ri_nx rfl rfl ?_
  refine ri_nx rfl rfl ?_
  refine ri_gf rfl cl_cr2_M_571 (by decide) rfl ?_
  refine ri_nx rfl rfl ?_
  refine ri_nx rfl rfl ?_
  refine ri_gf rfl cl_cr2_M_571 (by decide) rfl ?_
  refine ri_nx rfl rfl ?_
  refine ri_ia rfl cl_cr2_M_572 (by decide) (by decide) rfl ?_
  refine ri_iss rfl cl_cr2_M_573 (by decide) (by decide) rfl ?_
  refine ri_nx rfl rfl ?_
  refine ri_gf rfl cl_cr2_M_571 (by decide) rfl ?_
  refine ri_nx rfl rfl ?_
  refine ri_nx rfl rfl ?_
  refine ri_iss rfl cl_cr2_M_572 (by decide) (by decide) rfl ?_
  refine ri_nx rfl rfl ?_
  refine ri_nx rfl rfl ?_
  refine ri_nx rfl rfl ?_
  refine ri_nx rfl rfl ?_
  refine ri_nx rfl rfl ?_
  refine ri_nx rfl rfl ?_
  refine ri_gf rfl cl_cr2_M_571 (by decide) rfl ?_
  refine ri_nx rfl rfl ?_
  refine ri_nx rfl rfl ?_
  refine ri_gf rfl cl_cr2_M_571 (by decide) rfl ?_
  refine ri_nx rfl rfl ?_
  refine ri_ia rfl cl_cr2_M_572 (by decide) (by decide) rfl ?_
  refine ri_iss rfl cl_cr2_M_573 (by decide) (by decide) rfl ?_
  refine ri_nx rfl rfl ?_
  refine ri_gf rfl cl_cr2_M_571 (by decide) rfl ?_
  refine ri_nx rfl rfl ?_
  refine ri_nx rfl rfl ?_
  refine ri_iss rfl cl_cr2_M_572 (by decide) (by decide) rfl ?_
  refine ri_nx rfl rfl ?_
  refine ri_nx rfl rfl ?_
  refine ri_nx rfl rfl ?_
  refine ri_nx rfl rfl ?_
  refine ri_nx rfl rfl ?_
  refine ri_nx rfl rfl ?_
  refine ri_gf rfl cl_cr2_M_571 (by decide) rfl ?_
  refine ri_nx rfl rfl ?_
  refine ri_nx rfl rfl ?_
  refine ri_gf rfl cl_cr2_M_571 (by decide) rfl ?_
  refine ri_nx rfl rfl ?_
  refine ri_ia rfl cl_cr2_M_572 (by decide) (by decide) rfl ?_
  refine ri_iss rfl cl_cr2_M_573 (by decide) (by decide) rfl ?_
  refine ri_nx rfl rfl ?_
  refine ri_gf rfl cl_cr2_M_571 (by decide) rfl ?_
  refine ri_nx rfl rfl ?_
  refine ri_nx rfl rfl ?_
  refine ri_iss rfl cl_cr2_M_572 (by decide) (by decide) rfl ?_
  refine ri_nx rfl rfl ?_
  refine ri_nx rfl rfl ?_
  refine ri_nx rfl rfl ?_
  refine ri_nx rfl rfl ?_
  refine ri_nx rfl rfl ?_
  refine ri_nx rfl rfl ?_
  refine ri_gf rfl cl_cr2_M_571 (by decide) rfl ?_
  refine ri_nx rfl rfl ?_
  refine ri_nx rfl rfl ?_
  refine ri_gf rfl cl_cr2_M_571 (by decide) rfl ?_
  refine ri_nx rfl rfl ?_
  refine ri_ia rfl cl_cr2_M_572 (by decide) (by decide) rfl ?_
  refine ri_iss rfl cl_cr2_M_573 (by decide) (by decide) rfl ?_
  refine ri_nx rfl rfl ?_
  refine ri_gf rfl cl_cr2_M_571 (by decide) rfl ?_
  refine ri_nx rfl rfl ?_
  refine ri_nx rfl rfl ?_
  refine ri_iss rfl cl_cr2_M_572 (by decide) (by decide) rfl ?_
  refine ri_nx rfl rfl ?_
  refine ri_nx rfl rfl ?_
  refine ri_nx rfl rfl ?_
  refine ri_nx rfl rfl ?_
  refine ri_nx rfl rfl ?_
  refine ri_nx rfl rfl ?_
  refine ri_gf rfl cl_cr2_M_571 (by decide) rfl ?_
  refine ri_nx rfl rfl ?_
  refine ri_nx rfl rfl ?_
  refine ri_gf rfl cl_cr2_M_571 (by decide) rfl ?_
  refine ri_nx rfl rfl ?_
  refine ri_ia rfl cl_cr2_M_572 (by decide) (by decide) rfl ?_
  refine ri_iss rfl cl_cr2_M_573 (by decide) (by decide) rfl ?_
  refine ri_nx rfl rfl ?_
  refine ri_gf rfl cl_cr2_M_571 (by decide) rfl ?_
  refine ri_nx rfl rfl ?_
  refine ri_nx rfl rfl ?_
  refine ri_iss rfl cl_cr2_M_572 (by decide) (by decide) rfl ?_
  refine ri_nx rfl rfl ?_
  refine ri_nx rfl rfl ?_
  refine ri_nx rfl rfl ?_
  refine ri_nx rfl rfl ?_
  refine ri_nx rfl rfl ?_
  refine ri_nx rfl rfl ?_
  refine ri_gf rfl cl_cr2_M_571 (by decide) rfl ?_
  refine ri_nx rfl rfl ?_
  refine ri_nx rfl rfl ?_
  refine ri_gf rfl cl_cr2_M_571 (by decide) rfl ?_
  refine ri_nx rfl rfl ?_
  refine ri_ia rfl cl_cr2_M_572 (by decide) (by decide) rfl ?_
  refine ri_iss rfl cl_cr2_M_573 (by decide) (by decide) rfl ?_
  refine ri_nx rfl rfl ?_
  refine ri_gf rfl cl_cr2_M_571 (by decide) rfl ?_
  refine ri_nx rfl rfl ?_
  refine ri_nx rfl rfl ?_
  refine ri_iss rfl cl_cr2_M_572 (by decide) (by decide) rfl ?_
  refine ri_nx rfl rfl ?_
  refine ri_nx rfl rfl ?_
  refine ri_nx rfl rfl ?_
  refine ri_nx rfl rfl ?_
  refine ri_nx rfl rfl ?_
  refine ri_nx rfl rfl ?_
  refine ri_gf rfl cl_cr2_M_571 (by decide) rfl ?_
  refine ri_nx rfl rfl ?_
  refine ri_nx rfl rfl ?_
  refine ri_gf rfl cl_cr2_M_571 (by decide) rfl ?_
  refine ri_nx rfl rfl ?_
  refine ri_ia rfl cl_cr2_M_572 (by decide) (by decide) rfl ?_
  refine ri_iss rfl cl_cr2_M_573 (by decide) (by decide) rfl ?_
  refine ri_nx rfl rfl ?_
  refine ri_gf rfl cl_cr2_M_571 (by decide) rfl ?_
  refine ri_nx rfl rfl ?_
  refine ri_nx rfl rfl ?_
  refine ri_iss rfl cl_cr2_M_572 (by decide) (by decide) rfl ?_
  refine ri_nx rfl rfl ?_
  refine ri_nx rfl rfl ?_
  refine ri_nx rfl rfl ?_
  refine ri_nx rfl rfl ?_
  refine ri_nx rfl rfl ?_
  refine ri_nx rfl rfl ?_
  refine ri_gf rfl cl_cr2_M_571 (by decide) rfl ?_
  refine ri_nx rfl rfl ?_
  refine ri_nx rfl rfl ?_
  refine ri_gf rfl cl_cr2_M_571 (by decide) rfl ?_
  refine ri_nx rfl rfl ?_
  refine ri_ia rfl cl_cr2_M_572 (by decide) (by decide) rfl ?_
  refine ri_iss rfl cl_cr2_M_573 (by decide) (by decide) rfl ?_
  refine ri_nx rfl rfl ?_
  refine ri_gf rfl cl_cr2_M_571 (by decide) rfl ?_
  refine ri_nx rfl rfl ?_
  refine ri_nx rfl rfl ?_
  refine ri_iss rfl cl_cr2_M_572 (by decide) (by decide) rfl ?_
  refine ri_nx rfl rfl ?_
  refine ri_nx rfl rfl ?_
  refine ri_nx rfl rfl ?_
  refine ri_nx rfl rfl ?_
  refine ri_nx rfl rfl ?_
  refine ri_nx rfl rfl ?_
  refine ri_gf rfl cl_cr2_M_571 (by decide) rfl ?_
  refine ri_nx rfl rfl ?_
  refine ri_nx rfl rfl ?_
  refine ri_gf rfl cl_cr2_M_571 (by decide) rfl ?_
  refine ri_nx rfl rfl ?_
  refine ri_ia rfl cl_cr2_M_572 (by decide) (by decide) rfl ?_
  refine ri_iss rfl cl_cr2_M_573 (by decide) (by decide) rfl ?_
  refine ri_nx rfl rfl ?_
  refine ri_gf rfl cl_cr2_M_571 (by decide) rfl ?_
  refine ri_nx rfl rfl ?_
  refine ri_nx rfl rfl ?_
  refine ri_iss rfl cl_cr2_M_572 (by decide) (by decide) rfl ?_
  refine ri_nx rfl rfl ?_
  refine ri_nx rfl rfl ?_
  refine ri_nx rfl rfl ?_
  refine ri_nx rfl rfl ?_
  refine ri_nx rfl rfl ?_
  refine ri_nx rfl rfl ?_
  refine ri_gf rfl cl_cr2_M_571 (by decide) rfl ?_
  refine ri_nx rfl rfl ?_
  refine ri_nx rfl rfl ?_
  refine ri_gf rfl cl_cr2_M_571 (by decide) rfl ?_
  refine ri_nx rfl rfl ?_
  refine ri_ia rfl cl_cr2_M_572 (by decide) (by decide) rfl ?_
  refine ri_iss rfl cl_cr2_M_573 (by decide) (by decide) rfl ?_
  refine ri_nx rfl rfl ?_
  refine ri_gf rfl cl_cr2_M_571 (by decide) rfl ?_
  refine ri_nx rfl rfl ?_
  refine ri_nx rfl rfl ?_
  refine ri_iss rfl cl_cr2_M_572 (by decide) (by decide) rfl ?_
  refine ri_nx rfl rfl ?_
  refine ri_nx rfl rfl ?_
  refine ri_nx rfl rfl ?_
  refine ri_nx rfl rfl ?_
  refine ri_nx rfl rfl ?_
  refine ri_nx rfl rfl ?_
  refine ri_gf rfl cl_cr2_M_571 (by decide) rfl ?_
  refine ri_nx rfl rfl ?_
  refine ri_nx rfl rfl ?_
  refine ri_gf rfl cl_cr2_M_571 (by decide) rfl ?_
  refine ri_nx rfl rfl ?_
  refine ri_ia rfl cl_cr2_M_572 (by decide) (by decide) rfl ?_
  refine ri_iss rfl cl_cr2_M_573 (by decide) (by decide) rfl ?_
  refine ri_nx rfl rfl ?_
  refine ri_gf rfl cl_cr2_M_571 (by decide) rfl ?_
  refine ri_nx rfl rfl ?_
  refine ri_nx rfl rfl ?_
  refine ri_iss rfl cl_cr2_M_572 (by decide) (by decide) rfl ?_
  refine ri_nx rfl rfl ?_
  refine ri_nx rfl rfl ?_
  refine ri_nx rfl rfl ?_
  refine ri_nx rfl rfl ?_
  refine ri_nx rfl rfl ?_
  refine ri_nx rfl rfl ?_
  refine ri_gf rfl cl_cr2_M_571 (by decide) rfl ?_
  refine ri_nx rfl rfl ?_
  refine ri_nx rfl rfl ?_
  refine ri_gf rfl cl_cr2_M_571 (by decide) rfl ?_
  refine ri_nx rfl rfl ?_
  refine ri_ia rfl cl_cr2_M_572 (by decide) (by decide) rfl ?_
  refine ri_iss rfl cl_cr2_M_573 (by decide) (by decide) rfl ?_
  refine ri_nx rfl rfl ?_
  refine ri_gf rfl cl_cr2_M_571 (by decide) rfl ?_
  refine ri_nx rfl rfl ?_
  refine ri_nx rfl rfl ?_
  refine ri_iss rfl cl_cr2_M_572 (by decide) (by decide) rfl ?_
  refine ri_nx rfl rfl ?_
  refine ri_nx rfl rfl ?_
  refine ri_nx rfl rfl ?_
  refine ri_nx rfl rfl ?_
  refine ri_nx rfl rfl ?_
  refine ri_nx rfl rfl ?_
  refine ri_gf rfl cl_cr2_M_571 (by decide) rfl ?_
  refine ri_nx rfl rfl ?_
  refine ri_nx rfl rfl ?_
  refine ri_gf rfl cl_cr2_M_571 (by decide) rfl ?_
  refine ri_nx rfl rfl ?_
  refine ri_ia rfl cl_cr2_M_572 (by decide) (by decide) rfl ?_
  refine ri_iss rfl cl_cr2_M_573 (by decide) (by decide) rfl ?_
  refine ri_nx rfl rfl ?_
  refine ri_gf rfl cl_cr2_M_571 (by decide) rfl ?_
  refine ri_nx rfl rfl ?_
  refine ri_nx rfl rfl ?_
  refine ri_iss rfl cl_cr2_M_572 (by decide) (by decide) rfl ?_
  refine ri_nx rfl rfl ?_
  refine ri_nx rfl rfl ?_
  refine ri_nx rfl rfl ?_
  refine ri_nx rfl rfl ?_
  refine ri_nx rfl rfl ?_
  refine ri_nx rfl rfl ?_
  refine ri_gf rfl cl_cr2_M_571 (by decide) rfl ?_
  refine ri_nx rfl rfl ?_
  refine ri_nx rfl rfl ?_
  refine ri_gf rfl cl_cr2_M_571 (by decide) rfl ?_
  refine ri_nx rfl rfl ?_
  refine ri_ia rfl cl_cr2_M_572 (by decide) (by decide) rfl ?_
  refine ri_iss rfl cl_cr2_M_573 (by decide) (by decide) rfl ?_
  refine ri_nx rfl rfl ?_
  refine ri_gf rfl cl_cr2_M_571 (by decide) rfl ?_
  refine ri_nx rfl rfl ?_
  refine ri_nx rfl rfl ?_
  refine ri_iss rfl cl_cr2_M_572 (by decide) (by decide) rfl ?_
  refine ri_nx rfl rfl ?_
  refine ri_nx rfl rfl ?_
  refine ri_nx rfl rfl ?_
  refine ri_nx rfl rfl ?_
  refine ri_nx rfl rfl ?_
  refine ri_nx rfl rfl ?_
  refine ri_gf rfl cl_cr2_M_571 (by decide) rfl ?_
  refine ri_nx rfl rfl ?_
  refine ri_nx rfl rfl ?_
  refine ri_gf rfl cl_cr2_M_571 (by decide) rfl ?_
  refine ri_nx rfl rfl ?_
  refine ri_ia rfl cl_cr2_M_572 (by decide) (by decide) rfl ?_
  refine ri_iss rfl cl_cr2_M_573 (by decide) (by decide) rfl ?_
  refine ri_nx rfl rfl ?_
  refine ri_gf rfl cl_cr2_M_571 (by decide) rfl ?_
  refine ri_nx rfl rfl ?_
  refine ri_nx rfl rfl ?_
  refine ri_iss rfl cl_cr2_M_572 (by decide) (by decide) rfl ?_
  refine ri_nx rfl rfl ?_
  refine ri_nx rfl rfl ?_
  refine ri_nx rfl rfl ?_
  refine ri_nx rfl rfl ?_
  refine ri_nx rfl rfl ?_
  refine ri_nx rfl rfl ?_
  refine ri_gf rfl cl_cr2_M_571 (by decide) rfl ?_
  refine ri_nx rfl rfl ?_
  refine ri_nx rfl rfl ?_
  refine ri_gf rfl cl_cr2_M_571 (by decide) rfl ?_
  refine ri_nx rfl rfl ?_
  refine ri_ia rfl cl_cr2_M_572 (by decide) (by decide) rfl ?_
  refine ri_iss rfl cl_cr2_M_573 (by decide) (by decide) rfl ?_
  refine ri_nx rfl rfl ?_
  refine ri_gf rfl cl_cr2_M_571 (by decide) rfl ?_
  refine ri_nx rfl rfl ?_
  refine ri_nx rfl rfl ?_
  refine ri_iss rfl cl_cr2_M_572 (by decide) (by decide) rfl ?_
  refine ri_nx rfl rfl ?_
  refine ri_nx rfl rfl ?_
  refine ri_nx rfl rfl ?_
  refine ri_nx rfl rfl ?_
  refine ri_nx rfl rfl ?_
  refine ri_nx rfl rfl ?_
  refine ri_gf rfl cl_cr2_M_571 (by decide) rfl ?_
  refine ri_nx rfl rfl ?_
  refine ri_nx rfl rfl ?_
  refine ri_gf rfl cl_cr2_M_571 (by decide) rfl ?_
  refine ri_nx rfl rfl ?_
  refine ri_ia rfl cl_cr2_M_572 (by decide) (by decide) rfl ?_
  refine ri_iss rfl cl_cr2_M_573 (by decide) (by decide) rfl ?_
  refine ri_nx rfl rfl ?_
  refine ri_gf rfl cl_cr2_M_571 (by decide) rfl ?_
  refine ri_nx rfl rfl ?_
  refine ri_nx rfl rfl ?_
  refine ri_iss rfl cl_cr2_M_572 (by decide) (by decide) rfl ?_
  refine ri_nx rfl rfl ?_
  refine ri_nx rfl rfl ?_
  refine ri_nx rfl rfl ?_
  refine ri_nx rfl rfl ?_
  refine ri_nx rfl rfl ?_
  refine ri_nx rfl rfl ?_
  refine ri_nx rfl rfl ?_
  refine ri_pfs rfl cl_cr2_M_571 (by decide) rfl rfl ?_
  refine ri_nx rfl rfl ?_
  refine ri_nx rfl rfl ?_
  refine ri_pfs rfl cl_cr2_M_571 (by decide) rfl rfl ?_
  refine ri_nx rfl rfl ?_
  refine ri_nx rfl rfl ?_
  refine ri_pfs rfl cl_cr2_M_571 (by decide) rfl rfl ?_
  refine ri_nx rfl rfl ?_
  refine ri_nx rfl rfl ?_
  refine ri_pfs rfl cl_cr2_M_571 (by decide) rfl rfl ?_
  refine ri_nx rfl rfl ?_
  refine ri_vc rfl rfl cl_cr2_M_571 rfl (by decide) rfl (Nat.le_of_ble_eq_true rfl) (ri_ev_d (w193_0_0 ) (by decide)) ?_
  refine ri_nx rfl rfl ?_
  refine ri_vc rfl rfl cl_cr2_M_571 rfl (by decide) rfl (Nat.le_of_ble_eq_true rfl) (ri_ev_d (w205_3_0 ) (by decide)) ?_
  refine ri_nx rfl rfl ?_
  refine ri_nx rfl rfl ?_
  refine ri_pfs rfl cl_cr2_M_571 (by decide) rfl rfl ?_
  refine ri_nx rfl rfl ?_
  refine ri_nx rfl rfl ?_
  refine ri_pfs rfl cl_cr2_M_571 (by decide) rfl rfl ?_
  refine ri_nx rfl rfl ?_
  refine ri_gf rfl cl_cr2_M_571 (by decide) rfl ?_
  refine ri_nx rfl rfl ?_
  refine ri_nx rfl rfl ?_
  refine ri_vc rfl rfl cl_cr2_M_571 rfl (by decide) rfl (Nat.le_of_ble_eq_true rfl) (ri_ev_d (w213_4_0 ) (by decide)) ?_
  refine ri_nx rfl rfl ?_
  refine ri_nx rfl rfl ?_
  refine ri_nx rfl rfl ?_
  refine ri_pfs rfl cl_fr3_M_571 (by decide) rfl rfl ?_
  refine ri_nx rfl rfl ?_
  refine ri_gf rfl cl_fr3_M_571 (by decide) rfl ?_
  refine ri_nx rfl rfl ?_
  refine ri_ia rfl cl_fr3_M_572 (by decide) (by decide) rfl ?_
  exact ri_rt rfl rfl
set_option maxRecDepth 20000 in
theorem w158_6_0 (p0 : Int32) (h0 : p0 < (0 : Int32)) : ri_ev 7 none (tb158, 2, 4) (0, lv_args 0 [.ref 0, .int p0], [], p1_M, 0, 0) (some (.int 0), p1_M, 0, 0) := by
  refine ri_nx rfl rfl ?_
  refine ri_nx rfl (if_pos h0) ?_
  refine ri_nx rfl rfl ?_
  exact ri_rt rfl rfl
set_option maxRecDepth 20000 in
theorem w158_6_1 (p0 : Int32) (h0 : ¬ p0 < (0 : Int32)) : ri_ev 7 none (tb158, 2, 4) (0, lv_args 0 [.ref 0, .int p0], [], p1_M, 0, 0) (some (.int 0), cr4_M, 0, 0) := by
  refine ri_nx rfl rfl ?_
  refine ri_nx rfl (if_neg h0) ?_
  refine ri_nx rfl rfl ?_
  refine ri_nx rfl rfl ?_
  refine ri_gf rfl cl_p1_M_0 (by decide) rfl ?_
  refine ri_vc rfl rfl cl_p1_M_5 rfl (by decide) rfl (Nat.le_of_ble_eq_true rfl) (ri_ev_d (cr4_ev) (by decide)) ?_
  refine ri_gf rfl cl_cr4_M_51 (by decide) rfl ?_
  have g1 : (0 : Int32) ≤ p0 := by first | exact ri_o_ge (by assumption)
  refine ri_nx rfl (if_pos g1) ?_
  refine ri_nx rfl rfl ?_
  exact ri_rt rfl rfl
set_option maxRecDepth 20000 in
theorem w98_6_0 (p0 : Int32) (p1 : Int32) (h2 : p0 < (0 : Int32)) : ri_ev 8 none (tb98, 3, 1) (0, lv_args 0 [.ref 0, .int p0, .int p1], [], p1_M, 0, 0) (some (.int (-2)), p1_M, 0, 0) := by
  refine ri_nx rfl rfl ?_
  refine ri_nx rfl rfl ?_
  refine ri_vc rfl rfl cl_p1_M_0 rfl (by decide) rfl (Nat.le_of_ble_eq_true rfl) (ri_ev_d (w158_6_0 p0 h2) (by decide)) ?_
  refine ri_nx rfl rfl ?_
  refine ri_nx rfl rfl ?_
  exact ri_rt rfl rfl
set_option maxRecDepth 20000 in
theorem w98_6_1 (p0 : Int32) (p1 : Int32) (h2 : ¬ p0 < (0 : Int32)) : ri_ev 8 none (tb98, 3, 1) (0, lv_args 0 [.ref 0, .int p0, .int p1], [], p1_M, 0, 0) (some (.int (-2)), cr4_M, 0, 0) := by
  refine ri_nx rfl rfl ?_
  refine ri_nx rfl rfl ?_
  refine ri_vc rfl rfl cl_p1_M_0 rfl (by decide) rfl (Nat.le_of_ble_eq_true rfl) (ri_ev_d (w158_6_1 p0 h2) (by decide)) ?_
  refine ri_nx rfl rfl ?_
  refine ri_nx rfl rfl ?_
  exact ri_rt rfl rfl
set_option maxRecDepth 20000 in
theorem w219_8_0   : ri_ev 0 none (tb219, 3, 0) (0, lv_args 0 [.ref 571], [], fr5_M, 0, 0) (none, fr5_M, 0, 0) := by
  refine ri_nx rfl rfl ?_
  refine ri_nx rfl rfl ?_
  refine ri_pfs rfl cl_fr5_M_571 (by decide) rfl rfl ?_
  refine ri_nx rfl rfl ?_
  refine ri_nx rfl rfl ?_
  refine ri_nx rfl rfl ?_
  refine ri_nx rfl rfl ?_
  refine ri_gf rfl cl_fr5_M_571 (by decide) rfl ?_
  refine ri_nx rfl rfl ?_
  refine ri_ia rfl cl_fr5_M_572 (by decide) (by decide) rfl ?_
  refine ri_nx rfl rfl ?_
  exact ri_rt rfl rfl
set_option maxRecDepth 20000 in
theorem w217_9_0   : ri_ev 0 none (tb217, 5, 1) (0, lv_args 0 [.ref 571, .ref 583, .int 1], [], fr5_M, 0, 0) (some (.int 0), fr5_M, 0, 0) := by
  refine ri_nx rfl rfl ?_
  refine ri_nx rfl rfl ?_
  refine ri_nx rfl rfl ?_
  refine ri_nx rfl rfl ?_
  refine ri_gf rfl cl_fr5_M_571 (by decide) rfl ?_
  refine ri_nx rfl rfl ?_
  refine ri_nx rfl rfl ?_
  refine ri_nx rfl rfl ?_
  refine ri_nx rfl rfl ?_
  refine ri_nx rfl rfl ?_
  refine ri_gf rfl cl_fr5_M_571 (by decide) rfl ?_
  refine ri_nx rfl rfl ?_
  refine ri_nx rfl rfl ?_
  refine ri_nx rfl rfl ?_
  refine ri_nx rfl rfl ?_
  refine ri_nx rfl rfl ?_
  refine ri_nx rfl rfl ?_
  refine ri_nx rfl rfl ?_
  refine ri_gf rfl cl_fr5_M_571 (by decide) rfl ?_
  refine ri_nx rfl rfl ?_
  refine ri_nx rfl rfl ?_
  refine ri_nx rfl rfl ?_
  refine ri_nx rfl rfl ?_
  refine ri_nx rfl rfl ?_
  refine ri_gf rfl cl_fr5_M_571 (by decide) rfl ?_
  refine ri_nx rfl rfl ?_
  refine ri_nx rfl rfl ?_
  exact ri_rt rfl rfl
set_option maxRecDepth 20000 in
theorem w217_10_0   : ri_ev 0 none (tb217, 5, 1) (0, lv_args 0 [.ref 571, .ref 584, .int 0], [], fr5_M, 0, 0) (some (.int 0), fr5_M, 0, 0) := by
  refine ri_nx rfl rfl ?_
  refine ri_nx rfl rfl ?_
  refine ri_nx rfl rfl ?_
  refine ri_nx rfl rfl ?_
  refine ri_gf rfl cl_fr5_M_571 (by decide) rfl ?_
  refine ri_nx rfl rfl ?_
  refine ri_nx rfl rfl ?_
  refine ri_nx rfl rfl ?_
  refine ri_nx rfl rfl ?_
  refine ri_nx rfl rfl ?_
  refine ri_gf rfl cl_fr5_M_571 (by decide) rfl ?_
  refine ri_nx rfl rfl ?_
  refine ri_nx rfl rfl ?_
  refine ri_nx rfl rfl ?_
  refine ri_nx rfl rfl ?_
  refine ri_nx rfl rfl ?_
  refine ri_nx rfl rfl ?_
  refine ri_nx rfl rfl ?_
  refine ri_gf rfl cl_fr5_M_571 (by decide) rfl ?_
  refine ri_nx rfl rfl ?_
  refine ri_nx rfl rfl ?_
  refine ri_nx rfl rfl ?_
  refine ri_nx rfl rfl ?_
  refine ri_nx rfl rfl ?_
  refine ri_gf rfl cl_fr5_M_571 (by decide) rfl ?_
  refine ri_nx rfl rfl ?_
  refine ri_nx rfl rfl ?_
  exact ri_rt rfl rfl
set_option maxRecDepth 20000 in
theorem w220_8_0   : ri_ev 1 none (tb220, 1, 0) (0, lv_args 0 [.ref 571], [], p1_M, 0, 0) (none, st6_M, 0, 0) := by
  refine ri_nx rfl rfl ?_
  refine ri_gf rfl cl_p1_M_571 (by decide) rfl ?_
  refine ri_nx rfl rfl ?_
  refine ri_nx rfl rfl ?_
  refine ri_vc rfl rfl cl_p1_M_571 rfl (by decide) rfl (Nat.le_of_ble_eq_true rfl) (ri_ev_d (fr5_ev 0) (by decide)) ?_
  refine ri_nx rfl rfl ?_
  refine ri_vc rfl rfl cl_fr5_M_571 rfl (by decide) rfl (Nat.le_of_ble_eq_true rfl) (ri_ev_d (w219_8_0 ) (by decide)) ?_
  refine ri_nx rfl rfl ?_
  refine ri_nx rfl rfl ?_
  refine ri_nx rfl rfl ?_
  refine ri_gf rfl cl_fr5_M_571 (by decide) rfl ?_
  refine ri_nx rfl rfl ?_
  refine ri_vc rfl rfl cl_fr5_M_571 rfl (by decide) rfl (Nat.le_of_ble_eq_true rfl) (ri_ev_d (w217_9_0 ) (by decide)) ?_
  refine ri_pfs rfl cl_fr5_M_571 (by decide) rfl rfl ?_
  refine ri_nx rfl rfl ?_
  refine ri_nx rfl rfl ?_
  refine ri_nx rfl rfl ?_
  refine ri_gf rfl cl_fr5_M_571 (by decide) rfl ?_
  refine ri_nx rfl rfl ?_
  refine ri_vc rfl rfl cl_fr5_M_571 rfl (by decide) rfl (Nat.le_of_ble_eq_true rfl) (ri_ev_d (w217_10_0 ) (by decide)) ?_
  refine ri_pfs rfl cl_fr5_M_571 (by decide) rfl rfl ?_
  refine ri_nx rfl rfl ?_
  refine ri_nx rfl rfl ?_
  refine ri_pf rfl cl_fr5_M_571 (by decide) (by decide) rfl ?_
  refine st6_is ?_
  exact ri_rt rfl rfl
set_option maxRecDepth 20000 in
theorem w221_8_0 (p0 : Int32)  : ri_ev 2 none (tb221, 2, 4) (0, lv_args 0 [.ref 571, .int p0], [], p1_M, 0, 0) (some (.int 0), st6_M, 0, 0) := by
  refine ri_nx rfl rfl ?_
  refine ri_vc rfl rfl cl_p1_M_571 rfl (by decide) rfl (Nat.le_of_ble_eq_true rfl) (ri_ev_d (w220_8_0 ) (by decide)) ?_
  refine ri_nx rfl rfl ?_
  refine ri_nx rfl rfl ?_
  refine ri_nx rfl rfl ?_
  refine ri_nx rfl rfl ?_
  refine ri_gf rfl cl_st6_M_571 (by decide) rfl ?_
  refine ri_nx rfl rfl ?_
  refine ri_nx rfl rfl ?_
  refine ri_nx rfl rfl ?_
  refine ri_cll rfl rfl rfl (Nat.le_of_ble_eq_true rfl) (ri_ev_d (p1_in0 p0.toInt64) (by decide)) ?_
  exact ri_rt rfl rfl
set_option maxRecDepth 20000 in
theorem w226_8_0 (p0 : Int32) (p1 : Int32)  : ri_ev 3 none (tb226, 3, 1) (0, lv_args 0 [.ref 571, .int p0, .int p1], [], p1_M, 0, 0) (some (.int (-2)), st6_M, 0, 0) := by
  refine ri_nx rfl rfl ?_
  refine ri_nx rfl rfl ?_
  refine ri_vc rfl rfl cl_p1_M_571 rfl (by decide) rfl (Nat.le_of_ble_eq_true rfl) (ri_ev_d (w221_8_0 p0) (by decide)) ?_
  refine ri_nx rfl rfl ?_
  refine ri_nx rfl rfl ?_
  exact ri_rt rfl rfl
set_option maxRecDepth 20000 in
theorem w219_14_0   : ri_ev 0 none (tb219, 3, 0) (0, lv_args 0 [.ref 571], [], fr7_M, 0, 0) (none, fr7_M, 0, 0) := by
  refine ri_nx rfl rfl ?_
  refine ri_nx rfl rfl ?_
  refine ri_pfs rfl cl_fr7_M_571 (by decide) rfl rfl ?_
  refine ri_nx rfl rfl ?_
  refine ri_nx rfl rfl ?_
  refine ri_nx rfl rfl ?_
  refine ri_nx rfl rfl ?_
  refine ri_gf rfl cl_fr7_M_571 (by decide) rfl ?_
  refine ri_nx rfl rfl ?_
  refine ri_ia rfl cl_fr7_M_572 (by decide) (by decide) rfl ?_
  refine ri_nx rfl rfl ?_
  exact ri_rt rfl rfl
set_option maxRecDepth 20000 in
theorem w217_15_0   : ri_ev 0 none (tb217, 5, 1) (0, lv_args 0 [.ref 571, .ref 583, .int 1], [], fr7_M, 0, 0) (some (.int 0), fr7_M, 0, 0) := by
  refine ri_nx rfl rfl ?_
  refine ri_nx rfl rfl ?_
  refine ri_nx rfl rfl ?_
  refine ri_nx rfl rfl ?_
  refine ri_gf rfl cl_fr7_M_571 (by decide) rfl ?_
  refine ri_nx rfl rfl ?_
  refine ri_nx rfl rfl ?_
  refine ri_nx rfl rfl ?_
  refine ri_nx rfl rfl ?_
  refine ri_nx rfl rfl ?_
  refine ri_gf rfl cl_fr7_M_571 (by decide) rfl ?_
  refine ri_nx rfl rfl ?_
  refine ri_nx rfl rfl ?_
  refine ri_nx rfl rfl ?_
  refine ri_nx rfl rfl ?_
  refine ri_nx rfl rfl ?_
  refine ri_nx rfl rfl ?_
  refine ri_nx rfl rfl ?_
  refine ri_gf rfl cl_fr7_M_571 (by decide) rfl ?_
  refine ri_nx rfl rfl ?_
  refine ri_nx rfl rfl ?_
  refine ri_nx rfl rfl ?_
  refine ri_nx rfl rfl ?_
  refine ri_nx rfl rfl ?_
  refine ri_gf rfl cl_fr7_M_571 (by decide) rfl ?_
  refine ri_nx rfl rfl ?_
  refine ri_nx rfl rfl ?_
  exact ri_rt rfl rfl
set_option maxRecDepth 20000 in
theorem w217_16_0   : ri_ev 0 none (tb217, 5, 1) (0, lv_args 0 [.ref 571, .ref 584, .int 0], [], fr7_M, 0, 0) (some (.int 0), fr7_M, 0, 0) := by
  refine ri_nx rfl rfl ?_
  refine ri_nx rfl rfl ?_
  refine ri_nx rfl rfl ?_
  refine ri_nx rfl rfl ?_
  refine ri_gf rfl cl_fr7_M_571 (by decide) rfl ?_
  refine ri_nx rfl rfl ?_
  refine ri_nx rfl rfl ?_
  refine ri_nx rfl rfl ?_
  refine ri_nx rfl rfl ?_
  refine ri_nx rfl rfl ?_
  refine ri_gf rfl cl_fr7_M_571 (by decide) rfl ?_
  refine ri_nx rfl rfl ?_
  refine ri_nx rfl rfl ?_
  refine ri_nx rfl rfl ?_
  refine ri_nx rfl rfl ?_
  refine ri_nx rfl rfl ?_
  refine ri_nx rfl rfl ?_
  refine ri_nx rfl rfl ?_
  refine ri_gf rfl cl_fr7_M_571 (by decide) rfl ?_
  refine ri_nx rfl rfl ?_
  refine ri_nx rfl rfl ?_
  refine ri_nx rfl rfl ?_
  refine ri_nx rfl rfl ?_
  refine ri_nx rfl rfl ?_
  refine ri_gf rfl cl_fr7_M_571 (by decide) rfl ?_
  refine ri_nx rfl rfl ?_
  refine ri_nx rfl rfl ?_
  exact ri_rt rfl rfl
set_option maxRecDepth 20000 in
theorem w220_14_0   : ri_ev 1 none (tb220, 1, 0) (0, lv_args 0 [.ref 571], [], cr4_M, 0, 0) (none, st8_M, 0, 0) := by
  refine ri_nx rfl rfl ?_
  refine ri_gf rfl cl_cr4_M_571 (by decide) rfl ?_
  refine ri_nx rfl rfl ?_
  refine ri_nx rfl rfl ?_
  refine ri_vc rfl rfl cl_cr4_M_571 rfl (by decide) rfl (Nat.le_of_ble_eq_true rfl) (ri_ev_d (fr7_ev 0) (by decide)) ?_
  refine ri_nx rfl rfl ?_
  refine ri_vc rfl rfl cl_fr7_M_571 rfl (by decide) rfl (Nat.le_of_ble_eq_true rfl) (ri_ev_d (w219_14_0 ) (by decide)) ?_
  refine ri_nx rfl rfl ?_
  refine ri_nx rfl rfl ?_
  refine ri_nx rfl rfl ?_
  refine ri_gf rfl cl_fr7_M_571 (by decide) rfl ?_
  refine ri_nx rfl rfl ?_
  refine ri_vc rfl rfl cl_fr7_M_571 rfl (by decide) rfl (Nat.le_of_ble_eq_true rfl) (ri_ev_d (w217_15_0 ) (by decide)) ?_
  refine ri_pfs rfl cl_fr7_M_571 (by decide) rfl rfl ?_
  refine ri_nx rfl rfl ?_
  refine ri_nx rfl rfl ?_
  refine ri_nx rfl rfl ?_
  refine ri_gf rfl cl_fr7_M_571 (by decide) rfl ?_
  refine ri_nx rfl rfl ?_
  refine ri_vc rfl rfl cl_fr7_M_571 rfl (by decide) rfl (Nat.le_of_ble_eq_true rfl) (ri_ev_d (w217_16_0 ) (by decide)) ?_
  refine ri_pfs rfl cl_fr7_M_571 (by decide) rfl rfl ?_
  refine ri_nx rfl rfl ?_
  refine ri_nx rfl rfl ?_
  refine ri_pf rfl cl_fr7_M_571 (by decide) (by decide) rfl ?_
  refine st8_is ?_
  exact ri_rt rfl rfl
set_option maxRecDepth 20000 in
theorem w221_14_0 (p0 : Int32)  : ri_ev 2 none (tb221, 2, 4) (0, lv_args 0 [.ref 571, .int p0], [], cr4_M, 0, 0) (some (.int 0), st8_M, 0, 0) := by
  refine ri_nx rfl rfl ?_
  refine ri_vc rfl rfl cl_cr4_M_571 rfl (by decide) rfl (Nat.le_of_ble_eq_true rfl) (ri_ev_d (w220_14_0 ) (by decide)) ?_
  refine ri_nx rfl rfl ?_
  refine ri_nx rfl rfl ?_
  refine ri_nx rfl rfl ?_
  refine ri_nx rfl rfl ?_
  refine ri_gf rfl cl_st8_M_571 (by decide) rfl ?_
  refine ri_nx rfl rfl ?_
  refine ri_nx rfl rfl ?_
  refine ri_nx rfl rfl ?_
  refine ri_cll rfl rfl rfl (Nat.le_of_ble_eq_true rfl) (ri_ev_d (p1_in0 p0.toInt64) (by decide)) ?_
  exact ri_rt rfl rfl
set_option maxRecDepth 20000 in
theorem w226_14_0 (p0 : Int32) (p1 : Int32)  : ri_ev 3 none (tb226, 3, 1) (0, lv_args 0 [.ref 571, .int p0, .int p1], [], cr4_M, 0, 0) (some (.int (-2)), st8_M, 0, 0) := by
  refine ri_nx rfl rfl ?_
  refine ri_nx rfl rfl ?_
  refine ri_vc rfl rfl cl_cr4_M_571 rfl (by decide) rfl (Nat.le_of_ble_eq_true rfl) (ri_ev_d (w221_14_0 p0) (by decide)) ?_
  refine ri_nx rfl rfl ?_
  refine ri_nx rfl rfl ?_
  exact ri_rt rfl rfl
set_option maxRecDepth 20000 in
theorem w21_20 (p0 : Int32) : ri_ev 0 none (tb21, 2, 4) (0, lv_args 0 [.ref 6, .int p0], [], p1_M, 0, 0) (some (.int 0), p1_M, 0, 0) := by
  refine ri_nx rfl rfl ?_
  by_cases h3 : p0 < (0 : Int32)
  · refine ri_nx rfl (if_pos h3) ?_
    refine ri_nx rfl rfl ?_
    exact ri_rt rfl rfl
  · refine ri_nx rfl (if_neg h3) ?_
    refine ri_nx rfl rfl ?_
    refine ri_nx rfl rfl ?_
    refine ri_gf rfl cl_p1_M_6 (by decide) rfl ?_
    have g4 : (0 : Int32) ≤ p0 := by first | exact ri_o_ge (by assumption)
    refine ri_nx rfl (if_pos g4) ?_
    refine ri_nx rfl rfl ?_
    exact ri_rt rfl rfl
set_option maxRecDepth 20000 in
theorem w157_20_0 (p0 : Int32) (p1 : Int32)  : ri_ev 1 none (tb157, 3, 4) (0, lv_args 0 [.ref 0, .int p0, .int p1], [], p1_M, 0, 0) (some (.int 0), p1_M, 0, 0) := by
  refine ri_nx rfl rfl ?_
  refine ri_gf rfl cl_p1_M_0 (by decide) rfl ?_
  refine ri_gf rfl cl_p1_M_5 (by decide) rfl ?_
  refine ri_nx rfl rfl ?_
  refine ri_vc rfl rfl cl_p1_M_6 rfl (by decide) rfl (Nat.le_of_ble_eq_true rfl) (ri_ev_d (w21_20 p0) (by decide)) ?_
  refine ri_nx rfl rfl ?_
  refine ri_nx rfl rfl ?_
  exact ri_rt rfl rfl
set_option maxRecDepth 20000 in
theorem w99_20_0 (p0 : Int32) (p1 : Int32)  : ri_ev 2 none (tb99, 3, 1) (0, lv_args 0 [.ref 0, .int p0, .int p1], [], p1_M, 0, 0) (some (.int (-2)), p1_M, 0, 0) := by
  refine ri_nx rfl rfl ?_
  refine ri_nx rfl rfl ?_
  refine ri_nx rfl rfl ?_
  refine ri_vc rfl rfl cl_p1_M_0 rfl (by decide) rfl (Nat.le_of_ble_eq_true rfl) (ri_ev_d (w157_20_0 p0 p1) (by decide)) ?_
  refine ri_nx rfl rfl ?_
  refine ri_nx rfl rfl ?_
  exact ri_rt rfl rfl
set_option maxRecDepth 20000 in
theorem w210_23_0 (p0 : Int32)  : ri_ev 1 none (tb210, 2, 4) (0, lv_args 0 [.ref 571, .int p0], [], st6_M, 0, 0) (some (.int 0), st6_M, 0, 0) := by
  refine ri_nx rfl rfl ?_
  refine ri_nx rfl rfl ?_
  refine ri_nx rfl rfl ?_
  refine ri_nx rfl rfl ?_
  refine ri_gf rfl cl_st6_M_571 (by decide) rfl ?_
  refine ri_nx rfl rfl ?_
  refine ri_ia rfl cl_st6_M_572 (by decide) (by decide) rfl ?_
  refine ri_nx rfl rfl ?_
  refine ri_nx rfl rfl ?_
  refine ri_nx rfl rfl ?_
  refine ri_cll rfl rfl rfl (Nat.le_of_ble_eq_true rfl) (ri_ev_d (p1_in0 p0.toInt64) (by decide)) ?_
  exact ri_rt rfl rfl
set_option maxRecDepth 20000 in
theorem w224_23_0 (p0 : Int32) (p1 : Int32)  : ri_ev 2 none (tb224, 3, 4) (0, lv_args 0 [.ref 571, .int p0, .int p1], [], p1_M, 0, 0) (some (.int 0), st6_M, 0, 0) := by
  refine ri_nx rfl rfl ?_
  refine ri_vc rfl rfl cl_p1_M_571 rfl (by decide) rfl (Nat.le_of_ble_eq_true rfl) (ri_ev_d (w220_8_0 ) (by decide)) ?_
  refine ri_nx rfl rfl ?_
  refine ri_nx rfl rfl ?_
  refine ri_vc rfl rfl cl_st6_M_571 rfl (by decide) rfl (Nat.le_of_ble_eq_true rfl) (ri_ev_d (w210_23_0 p0) (by decide)) ?_
  refine ri_nx rfl rfl ?_
  refine ri_nx rfl rfl ?_
  exact ri_rt rfl rfl
set_option maxRecDepth 20000 in
theorem w228_23_0 (p0 : Int32) (p1 : Int32)  : ri_ev 3 none (tb228, 3, 1) (0, lv_args 0 [.ref 571, .int p0, .int p1], [], p1_M, 0, 0) (some (.int (-2)), st6_M, 0, 0) := by
  refine ri_nx rfl rfl ?_
  refine ri_nx rfl rfl ?_
  refine ri_nx rfl rfl ?_
  refine ri_vc rfl rfl cl_p1_M_571 rfl (by decide) rfl (Nat.le_of_ble_eq_true rfl) (ri_ev_d (w224_23_0 p0 p1) (by decide)) ?_
  refine ri_nx rfl rfl ?_
  refine ri_nx rfl rfl ?_
  exact ri_rt rfl rfl
set_option maxRecDepth 20000 in
theorem w156_26_0 (p0 : Int32)  : ri_ev 1 none (tb156, 2, 4) (0, lv_args 0 [.ref 0, .int p0], [], p1_M, 0, 0) (some (.int 0), p1_M, 0, 0) := by
  refine ri_nx rfl rfl ?_
  refine ri_gf rfl cl_p1_M_0 (by decide) rfl ?_
  refine ri_gf rfl cl_p1_M_5 (by decide) rfl ?_
  refine ri_nx rfl rfl ?_
  refine ri_vc rfl rfl cl_p1_M_6 rfl (by decide) rfl (Nat.le_of_ble_eq_true rfl) (ri_ev_d (w21_20 p0) (by decide)) ?_
  exact ri_rt rfl rfl
set_option maxRecDepth 20000 in
theorem w100_26_0 (p0 : Int32)  : ri_ev 2 none (tb100, 2, 1) (0, lv_args 0 [.ref 0, .int p0], [], p1_M, 0, 0) (some (.int (-2)), p1_M, 0, 0) := by
  refine ri_nx rfl rfl ?_
  refine ri_nx rfl rfl ?_
  refine ri_vc rfl rfl cl_p1_M_0 rfl (by decide) rfl (Nat.le_of_ble_eq_true rfl) (ri_ev_d (w156_26_0 p0) (by decide)) ?_
  refine ri_nx rfl rfl ?_
  refine ri_nx rfl rfl ?_
  exact ri_rt rfl rfl
set_option maxRecDepth 20000 in
theorem w210_28_0 (p0 : Int32)  : ri_ev 1 none (tb210, 2, 4) (0, lv_args 0 [.ref 571, .int p0], [], p1_M, 0, 0) (some (.int 0), p1_M, 0, 0) := by
  refine ri_nx rfl rfl ?_
  refine ri_nx rfl rfl ?_
  refine ri_nx rfl rfl ?_
  refine ri_nx rfl rfl ?_
  refine ri_gf rfl cl_p1_M_571 (by decide) rfl ?_
  refine ri_nx rfl rfl ?_
  refine ri_ia rfl cl_p1_M_572 (by decide) (by decide) rfl ?_
  refine ri_nx rfl rfl ?_
  refine ri_nx rfl rfl ?_
  refine ri_nx rfl rfl ?_
  refine ri_cll rfl rfl rfl (Nat.le_of_ble_eq_true rfl) (ri_ev_d (p1_in0 p0.toInt64) (by decide)) ?_
  exact ri_rt rfl rfl
set_option maxRecDepth 20000 in
theorem w229_28_0 (p0 : Int32)  : ri_ev 2 none (tb229, 2, 1) (0, lv_args 0 [.ref 571, .int p0], [], p1_M, 0, 0) (some (.int (-2)), p1_M, 0, 0) := by
  refine ri_nx rfl rfl ?_
  refine ri_nx rfl rfl ?_
  refine ri_vc rfl rfl cl_p1_M_571 rfl (by decide) rfl (Nat.le_of_ble_eq_true rfl) (ri_ev_d (w210_28_0 p0) (by decide)) ?_
  refine ri_nx rfl rfl ?_
  refine ri_nx rfl rfl ?_
  exact ri_rt rfl rfl
set_option maxRecDepth 20000 in
theorem w101_30_0 (p0 : Int32) (p1 : Int32)  : ri_ev 2 none (tb101, 3, 1) (0, lv_args 0 [.ref 0, .int p0, .int p1], [], p1_M, 0, 0) (some (.int (-2)), p1_M, 0, 0) := by
  refine ri_nx rfl rfl ?_
  refine ri_nx rfl rfl ?_
  refine ri_nx rfl rfl ?_
  refine ri_vc rfl rfl cl_p1_M_0 rfl (by decide) rfl (Nat.le_of_ble_eq_true rfl) (ri_ev_d (w157_20_0 p0 p1) (by decide)) ?_
  refine ri_nx rfl rfl ?_
  refine ri_nx rfl rfl ?_
  exact ri_rt rfl rfl
set_option maxRecDepth 20000 in
theorem w230_31_0 (p0 : Int32) (p1 : Int32)  : ri_ev 3 none (tb230, 3, 1) (0, lv_args 0 [.ref 571, .int p0, .int p1], [], p1_M, 0, 0) (some (.int (-2)), st6_M, 0, 0) := by
  refine ri_nx rfl rfl ?_
  refine ri_nx rfl rfl ?_
  refine ri_nx rfl rfl ?_
  refine ri_vc rfl rfl cl_p1_M_571 rfl (by decide) rfl (Nat.le_of_ble_eq_true rfl) (ri_ev_d (w224_23_0 p0 p1) (by decide)) ?_
  refine ri_nx rfl rfl ?_
  refine ri_nx rfl rfl ?_
  exact ri_rt rfl rfl
set_option maxRecDepth 20000 in
theorem w102_32_0 (p0 : Int32) (p1 : Int32)  : ri_ev 2 none (tb102, 5, 2) (0, lv_args 0 [.ref 0, .int p0, .int p1], [], p1_M, 0, 0) (some (.long (-2)), p1_M, 0, 0) := by
  refine ri_nx rfl rfl ?_
  refine ri_nx rfl rfl ?_
  refine ri_nx rfl rfl ?_
  refine ri_vc rfl rfl cl_p1_M_0 rfl (by decide) rfl (Nat.le_of_ble_eq_true rfl) (ri_ev_d (w157_20_0 p0 p1) (by decide)) ?_
  refine ri_nx rfl rfl ?_
  refine ri_nx rfl rfl ?_
  exact ri_rt rfl rfl
set_option maxRecDepth 20000 in
theorem w231_33_0 (p0 : Int32) (p1 : Int32)  : ri_ev 3 none (tb231, 6, 2) (0, lv_args 0 [.ref 571, .int p0, .int p1], [], p1_M, 0, 0) (some (.long (-2)), st6_M, 0, 0) := by
  refine ri_nx rfl rfl ?_
  refine ri_nx rfl rfl ?_
  refine ri_nx rfl rfl ?_
  refine ri_vc rfl rfl cl_p1_M_571 rfl (by decide) rfl (Nat.le_of_ble_eq_true rfl) (ri_ev_d (w224_23_0 p0 p1) (by decide)) ?_
  refine ri_nx rfl rfl ?_
  refine ri_nx rfl rfl ?_
  exact ri_rt rfl rfl
set_option maxRecDepth 20000 in
theorem w103_34_0 (p0 : Int32) (p1 : Int32)  : ri_ev 2 none (tb103, 3, 1) (0, lv_args 0 [.ref 0, .int p0, .int p1], [], p1_M, 0, 0) (some (.int (-2)), p1_M, 0, 0) := by
  refine ri_nx rfl rfl ?_
  refine ri_nx rfl rfl ?_
  refine ri_nx rfl rfl ?_
  refine ri_vc rfl rfl cl_p1_M_0 rfl (by decide) rfl (Nat.le_of_ble_eq_true rfl) (ri_ev_d (w157_20_0 p0 p1) (by decide)) ?_
  refine ri_nx rfl rfl ?_
  refine ri_nx rfl rfl ?_
  exact ri_rt rfl rfl
set_option maxRecDepth 20000 in
theorem w233_35_0 (p0 : Int32) (p1 : Int32)  : ri_ev 3 none (tb233, 3, 1) (0, lv_args 0 [.ref 571, .int p0, .int p1], [], p1_M, 0, 0) (some (.int (-2)), st6_M, 0, 0) := by
  refine ri_nx rfl rfl ?_
  refine ri_nx rfl rfl ?_
  refine ri_nx rfl rfl ?_
  refine ri_vc rfl rfl cl_p1_M_571 rfl (by decide) rfl (Nat.le_of_ble_eq_true rfl) (ri_ev_d (w224_23_0 p0 p1) (by decide)) ?_
  refine ri_nx rfl rfl ?_
  refine ri_nx rfl rfl ?_
  exact ri_rt rfl rfl
set_option maxRecDepth 20000 in
theorem w104_36_0 (p0 : Int32) (p1 : Int32) (h5 : p0 < (0 : Int32)) : ri_ev 8 none (tb104, 8, 1) (0, lv_args 0 [.ref 0, .int p0, .int p1], [], p1_M, 0, 0) (some (.int (-2)), p1_M, 0, 0) := by
  refine ri_nx rfl rfl ?_
  refine ri_nx rfl rfl ?_
  refine ri_vc rfl rfl cl_p1_M_0 rfl (by decide) rfl (Nat.le_of_ble_eq_true rfl) (ri_ev_d (w158_6_0 p0 h5) (by decide)) ?_
  refine ri_nx rfl rfl ?_
  refine ri_nx rfl rfl ?_
  exact ri_rt rfl rfl
set_option maxRecDepth 20000 in
theorem w104_36_1 (p0 : Int32) (p1 : Int32) (h5 : ¬ p0 < (0 : Int32)) : ri_ev 8 none (tb104, 8, 1) (0, lv_args 0 [.ref 0, .int p0, .int p1], [], p1_M, 0, 0) (some (.int (-2)), cr4_M, 0, 0) := by
  refine ri_nx rfl rfl ?_
  refine ri_nx rfl rfl ?_
  refine ri_vc rfl rfl cl_p1_M_0 rfl (by decide) rfl (Nat.le_of_ble_eq_true rfl) (ri_ev_d (w158_6_1 p0 h5) (by decide)) ?_
  refine ri_nx rfl rfl ?_
  refine ri_nx rfl rfl ?_
  exact ri_rt rfl rfl
set_option maxRecDepth 20000 in
theorem w234_37_0 (p0 : Int32) (p1 : Int32)  : ri_ev 3 none (tb234, 3, 1) (0, lv_args 0 [.ref 571, .int p0, .int p1], [], p1_M, 0, 0) (some (.int (-2)), st6_M, 0, 0) := by
  refine ri_nx rfl rfl ?_
  refine ri_nx rfl rfl ?_
  refine ri_vc rfl rfl cl_p1_M_571 rfl (by decide) rfl (Nat.le_of_ble_eq_true rfl) (ri_ev_d (w221_8_0 p0) (by decide)) ?_
  refine ri_nx rfl rfl ?_
  refine ri_nx rfl rfl ?_
  refine ri_nx rfl rfl ?_
  exact ri_rt rfl rfl
set_option maxRecDepth 20000 in
theorem w234_38_0 (p0 : Int32) (p1 : Int32)  : ri_ev 3 none (tb234, 3, 1) (0, lv_args 0 [.ref 571, .int p0, .int p1], [], cr4_M, 0, 0) (some (.int (-2)), st8_M, 0, 0) := by
  refine ri_nx rfl rfl ?_
  refine ri_nx rfl rfl ?_
  refine ri_vc rfl rfl cl_cr4_M_571 rfl (by decide) rfl (Nat.le_of_ble_eq_true rfl) (ri_ev_d (w221_14_0 p0) (by decide)) ?_
  refine ri_nx rfl rfl ?_
  refine ri_nx rfl rfl ?_
  refine ri_nx rfl rfl ?_
  exact ri_rt rfl rfl
set_option maxRecDepth 20000 in
theorem w105_39_0 (p0 : Int32) (p1 : Int32) (h6 : p0 < (0 : Int32)) : ri_ev 8 none (tb105, 8, 1) (0, lv_args 0 [.ref 0, .int p0, .int p1], [], p1_M, 0, 0) (some (.int (-2)), p1_M, 0, 0) := by
  refine ri_nx rfl rfl ?_
  refine ri_nx rfl rfl ?_
  refine ri_vc rfl rfl cl_p1_M_0 rfl (by decide) rfl (Nat.le_of_ble_eq_true rfl) (ri_ev_d (w158_6_0 p0 h6) (by decide)) ?_
  refine ri_nx rfl rfl ?_
  refine ri_nx rfl rfl ?_
  exact ri_rt rfl rfl
set_option maxRecDepth 20000 in
theorem w105_39_1 (p0 : Int32) (p1 : Int32) (h6 : ¬ p0 < (0 : Int32)) : ri_ev 8 none (tb105, 8, 1) (0, lv_args 0 [.ref 0, .int p0, .int p1], [], p1_M, 0, 0) (some (.int (-2)), cr4_M, 0, 0) := by
  refine ri_nx rfl rfl ?_
  refine ri_nx rfl rfl ?_
  refine ri_vc rfl rfl cl_p1_M_0 rfl (by decide) rfl (Nat.le_of_ble_eq_true rfl) (ri_ev_d (w158_6_1 p0 h6) (by decide)) ?_
  refine ri_nx rfl rfl ?_
  refine ri_nx rfl rfl ?_
  exact ri_rt rfl rfl
set_option maxRecDepth 20000 in
theorem w235_40_0 (p0 : Int32) (p1 : Int32)  : ri_ev 3 none (tb235, 3, 1) (0, lv_args 0 [.ref 571, .int p0, .int p1], [], p1_M, 0, 0) (some (.int (-2)), st6_M, 0, 0) := by
  refine ri_nx rfl rfl ?_
  refine ri_nx rfl rfl ?_
  refine ri_vc rfl rfl cl_p1_M_571 rfl (by decide) rfl (Nat.le_of_ble_eq_true rfl) (ri_ev_d (w221_8_0 p0) (by decide)) ?_
  refine ri_nx rfl rfl ?_
  refine ri_nx rfl rfl ?_
  refine ri_nx rfl rfl ?_
  exact ri_rt rfl rfl
set_option maxRecDepth 20000 in
theorem w235_41_0 (p0 : Int32) (p1 : Int32)  : ri_ev 3 none (tb235, 3, 1) (0, lv_args 0 [.ref 571, .int p0, .int p1], [], cr4_M, 0, 0) (some (.int (-2)), st8_M, 0, 0) := by
  refine ri_nx rfl rfl ?_
  refine ri_nx rfl rfl ?_
  refine ri_vc rfl rfl cl_cr4_M_571 rfl (by decide) rfl (Nat.le_of_ble_eq_true rfl) (ri_ev_d (w221_14_0 p0) (by decide)) ?_
  refine ri_nx rfl rfl ?_
  refine ri_nx rfl rfl ?_
  refine ri_nx rfl rfl ?_
  exact ri_rt rfl rfl
set_option maxRecDepth 20000 in
theorem w106_42_0 (p0 : Int32)  : ri_ev 0 none (tb106, 4, 1) (0, lv_args 0 [.ref 0, .int p0], [], p1_M, 0, 0) (some (.int (-2)), p1_M, 0, 0) := by
  refine ri_nx rfl rfl ?_
  refine ri_gf rfl cl_p1_M_0 (by decide) rfl ?_
  refine ri_gf rfl cl_p1_M_5 (by decide) rfl ?_
  refine ri_gf rfl cl_p1_M_6 (by decide) rfl ?_
  refine ri_nx rfl rfl ?_
  refine ri_nx rfl rfl ?_
  exact ri_rt rfl rfl
set_option maxRecDepth 20000 in
theorem w209_43_0   : ri_ev 0 none (tb209, 1, 4) (0, lv_args 0 [.ref 571], [], p1_M, 0, 0) (some (.int 0), p1_M, 0, 0) := by
  refine ri_nx rfl rfl ?_
  refine ri_gf rfl cl_p1_M_571 (by decide) rfl ?_
  refine ri_nx rfl rfl ?_
  refine ri_ia rfl cl_p1_M_572 (by decide) (by decide) rfl ?_
  refine ri_nx rfl rfl ?_
  refine ri_nx rfl rfl ?_
  exact ri_rt rfl rfl
set_option maxRecDepth 20000 in
theorem w236_43_0 (p0 : Int32)  : ri_ev 1 none (tb236, 3, 1) (0, lv_args 0 [.ref 571, .int p0], [], p1_M, 0, 0) (some (.int (-2)), p1_M, 0, 0) := by
  refine ri_nx rfl rfl ?_
  refine ri_vc rfl rfl cl_p1_M_571 rfl (by decide) rfl (Nat.le_of_ble_eq_true rfl) (ri_ev_d (w209_43_0 ) (by decide)) ?_
  refine ri_nx rfl rfl ?_
  refine ri_nx rfl rfl ?_
  exact ri_rt rfl rfl
set_option maxRecDepth 20000 in
theorem w107_45_0 (p0 : Int32) (p1 : Int32)  : ri_ev 2 none (tb107, 3, 1) (0, lv_args 0 [.ref 0, .int p0, .int p1], [], p1_M, 0, 0) (some (.int (-2)), p1_M, 0, 0) := by
  refine ri_nx rfl rfl ?_
  refine ri_nx rfl rfl ?_
  refine ri_vc rfl rfl cl_p1_M_0 rfl (by decide) rfl (Nat.le_of_ble_eq_true rfl) (ri_ev_d (w156_26_0 p0) (by decide)) ?_
  refine ri_nx rfl rfl ?_
  refine ri_nx rfl rfl ?_
  exact ri_rt rfl rfl
set_option maxRecDepth 20000 in
theorem w222_46_0 (p0 : Int32)  : ri_ev 2 none (tb222, 2, 4) (0, lv_args 0 [.ref 571, .int p0], [], p1_M, 0, 0) (some (.int 0), st6_M, 0, 0) := by
  refine ri_nx rfl rfl ?_
  refine ri_vc rfl rfl cl_p1_M_571 rfl (by decide) rfl (Nat.le_of_ble_eq_true rfl) (ri_ev_d (w220_8_0 ) (by decide)) ?_
  refine ri_nx rfl rfl ?_
  refine ri_nx rfl rfl ?_
  refine ri_nx rfl rfl ?_
  refine ri_nx rfl rfl ?_
  refine ri_gf rfl cl_st6_M_571 (by decide) rfl ?_
  refine ri_nx rfl rfl ?_
  refine ri_nx rfl rfl ?_
  refine ri_nx rfl rfl ?_
  refine ri_cll rfl rfl rfl (Nat.le_of_ble_eq_true rfl) (ri_ev_d (p1_in0 p0.toInt64) (by decide)) ?_
  exact ri_rt rfl rfl
set_option maxRecDepth 20000 in
theorem w238_46_0 (p0 : Int32) (p1 : Int32)  : ri_ev 3 none (tb238, 3, 1) (0, lv_args 0 [.ref 571, .int p0, .int p1], [], p1_M, 0, 0) (some (.int (-2)), st6_M, 0, 0) := by
  refine ri_nx rfl rfl ?_
  refine ri_nx rfl rfl ?_
  refine ri_vc rfl rfl cl_p1_M_571 rfl (by decide) rfl (Nat.le_of_ble_eq_true rfl) (ri_ev_d (w222_46_0 p1) (by decide)) ?_
  refine ri_nx rfl rfl ?_
  refine ri_nx rfl rfl ?_
  exact ri_rt rfl rfl
set_option maxRecDepth 20000 in
theorem w159_48 (p0 : Int32) : ri_ev 7 none (tb159, 2, 4) (0, lv_args 0 [.ref 0, .int p0], [], p1_M, 0, 0) (some (.int 0), cr9_M, 0, 0) := by
  refine ri_nx rfl rfl ?_
  refine ri_vc rfl rfl cl_p1_M_0 rfl (by decide) rfl (Nat.le_of_ble_eq_true rfl) (ri_ev_d (cr9_ev) (by decide)) ?_
  refine ri_nx rfl rfl ?_
  by_cases h7 : p0 < (0 : Int32)
  · refine ri_nx rfl (if_pos h7) ?_
    refine ri_nx rfl rfl ?_
    exact ri_rt rfl rfl
  · refine ri_nx rfl (if_neg h7) ?_
    refine ri_nx rfl rfl ?_
    refine ri_nx rfl rfl ?_
    refine ri_gf rfl cl_cr9_M_0 (by decide) rfl ?_
    refine ri_gf rfl cl_cr9_M_153 (by decide) rfl ?_
    have g8 : (0 : Int32) ≤ p0 := by first | exact ri_o_ge (by assumption)
    refine ri_nx rfl (if_pos g8) ?_
    refine ri_nx rfl rfl ?_
    exact ri_rt rfl rfl
set_option maxRecDepth 20000 in
theorem w108_48_0 (p0 : Int32)  : ri_ev 8 none (tb108, 2, 1) (0, lv_args 0 [.ref 0, .int p0], [], p1_M, 0, 0) (some (.int (-2)), cr9_M, 0, 0) := by
  refine ri_nx rfl rfl ?_
  refine ri_nx rfl rfl ?_
  refine ri_vc rfl rfl cl_p1_M_0 rfl (by decide) rfl (Nat.le_of_ble_eq_true rfl) (ri_ev_d (w159_48 p0) (by decide)) ?_
  refine ri_nx rfl rfl ?_
  refine ri_nx rfl rfl ?_
  exact ri_rt rfl rfl
set_option maxRecDepth 20000 in
theorem w219_50_0   : ri_ev 0 none (tb219, 3, 0) (0, lv_args 0 [.ref 571], [], fr10_M, 0, 0) (none, fr10_M, 0, 0) := by
  refine ri_nx rfl rfl ?_
  refine ri_nx rfl rfl ?_
  refine ri_pfs rfl cl_fr10_M_571 (by decide) rfl rfl ?_
  refine ri_nx rfl rfl ?_
  refine ri_nx rfl rfl ?_
  refine ri_nx rfl rfl ?_
  refine ri_nx rfl rfl ?_
  refine ri_gf rfl cl_fr10_M_571 (by decide) rfl ?_
  refine ri_nx rfl rfl ?_
  refine ri_ia rfl cl_fr10_M_572 (by decide) (by decide) rfl ?_
  refine ri_nx rfl rfl ?_
  exact ri_rt rfl rfl
set_option maxRecDepth 20000 in
theorem w217_51_0   : ri_ev 0 none (tb217, 5, 1) (0, lv_args 0 [.ref 571, .ref 583, .int 1], [], fr10_M, 0, 0) (some (.int 0), fr10_M, 0, 0) := by
  refine ri_nx rfl rfl ?_
  refine ri_nx rfl rfl ?_
  refine ri_nx rfl rfl ?_
  refine ri_nx rfl rfl ?_
  refine ri_gf rfl cl_fr10_M_571 (by decide) rfl ?_
  refine ri_nx rfl rfl ?_
  refine ri_nx rfl rfl ?_
  refine ri_nx rfl rfl ?_
  refine ri_nx rfl rfl ?_
  refine ri_nx rfl rfl ?_
  refine ri_gf rfl cl_fr10_M_571 (by decide) rfl ?_
  refine ri_nx rfl rfl ?_
  refine ri_nx rfl rfl ?_
  refine ri_nx rfl rfl ?_
  refine ri_nx rfl rfl ?_
  refine ri_nx rfl rfl ?_
  refine ri_nx rfl rfl ?_
  refine ri_nx rfl rfl ?_
  refine ri_gf rfl cl_fr10_M_571 (by decide) rfl ?_
  refine ri_nx rfl rfl ?_
  refine ri_nx rfl rfl ?_
  refine ri_nx rfl rfl ?_
  refine ri_nx rfl rfl ?_
  refine ri_nx rfl rfl ?_
  refine ri_gf rfl cl_fr10_M_571 (by decide) rfl ?_
  refine ri_nx rfl rfl ?_
  refine ri_nx rfl rfl ?_
  exact ri_rt rfl rfl
set_option maxRecDepth 20000 in
theorem w217_52_0   : ri_ev 0 none (tb217, 5, 1) (0, lv_args 0 [.ref 571, .ref 584, .int 0], [], fr10_M, 0, 0) (some (.int 0), fr10_M, 0, 0) := by
  refine ri_nx rfl rfl ?_
  refine ri_nx rfl rfl ?_
  refine ri_nx rfl rfl ?_
  refine ri_nx rfl rfl ?_
  refine ri_gf rfl cl_fr10_M_571 (by decide) rfl ?_
  refine ri_nx rfl rfl ?_
  refine ri_nx rfl rfl ?_
  refine ri_nx rfl rfl ?_
  refine ri_nx rfl rfl ?_
  refine ri_nx rfl rfl ?_
  refine ri_gf rfl cl_fr10_M_571 (by decide) rfl ?_
  refine ri_nx rfl rfl ?_
  refine ri_nx rfl rfl ?_
  refine ri_nx rfl rfl ?_
  refine ri_nx rfl rfl ?_
  refine ri_nx rfl rfl ?_
  refine ri_nx rfl rfl ?_
  refine ri_nx rfl rfl ?_
  refine ri_gf rfl cl_fr10_M_571 (by decide) rfl ?_
  refine ri_nx rfl rfl ?_
  refine ri_nx rfl rfl ?_
  refine ri_nx rfl rfl ?_
  refine ri_nx rfl rfl ?_
  refine ri_nx rfl rfl ?_
  refine ri_gf rfl cl_fr10_M_571 (by decide) rfl ?_
  refine ri_nx rfl rfl ?_
  refine ri_nx rfl rfl ?_
  exact ri_rt rfl rfl
set_option maxRecDepth 20000 in
theorem w220_50_0   : ri_ev 1 none (tb220, 1, 0) (0, lv_args 0 [.ref 571], [], cr9_M, 0, 0) (none, st11_M, 0, 0) := by
  refine ri_nx rfl rfl ?_
  refine ri_gf rfl cl_cr9_M_571 (by decide) rfl ?_
  refine ri_nx rfl rfl ?_
  refine ri_nx rfl rfl ?_
  refine ri_vc rfl rfl cl_cr9_M_571 rfl (by decide) rfl (Nat.le_of_ble_eq_true rfl) (ri_ev_d (fr10_ev 0) (by decide)) ?_
  refine ri_nx rfl rfl ?_
  refine ri_vc rfl rfl cl_fr10_M_571 rfl (by decide) rfl (Nat.le_of_ble_eq_true rfl) (ri_ev_d (w219_50_0 ) (by decide)) ?_
  refine ri_nx rfl rfl ?_
  refine ri_nx rfl rfl ?_
  refine ri_nx rfl rfl ?_
  refine ri_gf rfl cl_fr10_M_571 (by decide) rfl ?_
  refine ri_nx rfl rfl ?_
  refine ri_vc rfl rfl cl_fr10_M_571 rfl (by decide) rfl (Nat.le_of_ble_eq_true rfl) (ri_ev_d (w217_51_0 ) (by decide)) ?_
  refine ri_pfs rfl cl_fr10_M_571 (by decide) rfl rfl ?_
  refine ri_nx rfl rfl ?_
  refine ri_nx rfl rfl ?_
  refine ri_nx rfl rfl ?_
  refine ri_gf rfl cl_fr10_M_571 (by decide) rfl ?_
  refine ri_nx rfl rfl ?_
  refine ri_vc rfl rfl cl_fr10_M_571 rfl (by decide) rfl (Nat.le_of_ble_eq_true rfl) (ri_ev_d (w217_52_0 ) (by decide)) ?_
  refine ri_pfs rfl cl_fr10_M_571 (by decide) rfl rfl ?_
  refine ri_nx rfl rfl ?_
  refine ri_nx rfl rfl ?_
  refine ri_pf rfl cl_fr10_M_571 (by decide) (by decide) rfl ?_
  refine st11_is ?_
  exact ri_rt rfl rfl
set_option maxRecDepth 20000 in
theorem w222_50_0 (p0 : Int32)  : ri_ev 2 none (tb222, 2, 4) (0, lv_args 0 [.ref 571, .int p0], [], cr9_M, 0, 0) (some (.int 0), st11_M, 0, 0) := by
  refine ri_nx rfl rfl ?_
  refine ri_vc rfl rfl cl_cr9_M_571 rfl (by decide) rfl (Nat.le_of_ble_eq_true rfl) (ri_ev_d (w220_50_0 ) (by decide)) ?_
  refine ri_nx rfl rfl ?_
  refine ri_nx rfl rfl ?_
  refine ri_nx rfl rfl ?_
  refine ri_nx rfl rfl ?_
  refine ri_gf rfl cl_st11_M_571 (by decide) rfl ?_
  refine ri_nx rfl rfl ?_
  refine ri_nx rfl rfl ?_
  refine ri_nx rfl rfl ?_
  refine ri_cll rfl rfl rfl (Nat.le_of_ble_eq_true rfl) (ri_ev_d (p1_in0 p0.toInt64) (by decide)) ?_
  exact ri_rt rfl rfl
set_option maxRecDepth 20000 in
theorem w239_50_0 (p0 : Int32)  : ri_ev 3 none (tb239, 2, 1) (0, lv_args 0 [.ref 571, .int p0], [], cr9_M, 0, 0) (some (.int (-2)), st11_M, 0, 0) := by
  refine ri_nx rfl rfl ?_
  refine ri_nx rfl rfl ?_
  refine ri_vc rfl rfl cl_cr9_M_571 rfl (by decide) rfl (Nat.le_of_ble_eq_true rfl) (ri_ev_d (w222_50_0 p0) (by decide)) ?_
  refine ri_nx rfl rfl ?_
  refine ri_nx rfl rfl ?_
  exact ri_rt rfl rfl
set_option maxRecDepth 20000 in
theorem w109_56_0 (p0 : Int32) (p1 : Int32)  : ri_ev 8 none (tb109, 3, 1) (0, lv_args 0 [.ref 0, .int p0, .int p1], [], p1_M, 0, 0) (some (.int (-2)), cr9_M, 0, 0) := by
  refine ri_nx rfl rfl ?_
  refine ri_nx rfl rfl ?_
  refine ri_vc rfl rfl cl_p1_M_0 rfl (by decide) rfl (Nat.le_of_ble_eq_true rfl) (ri_ev_d (w159_48 p0) (by decide)) ?_
  refine ri_nx rfl rfl ?_
  refine ri_nx rfl rfl ?_
  exact ri_rt rfl rfl
set_option maxRecDepth 20000 in
theorem w241_57_0 (p0 : Int32) (p1 : Int32)  : ri_ev 3 none (tb241, 3, 1) (0, lv_args 0 [.ref 571, .int p0, .int p1], [], cr9_M, 0, 0) (some (.int (-2)), st11_M, 0, 0) := by
  refine ri_nx rfl rfl ?_
  refine ri_nx rfl rfl ?_
  refine ri_vc rfl rfl cl_cr9_M_571 rfl (by decide) rfl (Nat.le_of_ble_eq_true rfl) (ri_ev_d (w222_50_0 p0) (by decide)) ?_
  refine ri_nx rfl rfl ?_
  refine ri_nx rfl rfl ?_
  exact ri_rt rfl rfl
set_option maxRecDepth 20000 in
theorem w110_58_0 (p0 : Int32) (p1 : Int32)  : ri_ev 2 none (tb110, 3, 1) (0, lv_args 0 [.ref 0, .int p0, .int p1], [], p1_M, 0, 0) (some (.int (-2)), p1_M, 0, 0) := by
  refine ri_nx rfl rfl ?_
  refine ri_nx rfl rfl ?_
  refine ri_vc rfl rfl cl_p1_M_0 rfl (by decide) rfl (Nat.le_of_ble_eq_true rfl) (ri_ev_d (w156_26_0 p0) (by decide)) ?_
  refine ri_nx rfl rfl ?_
  refine ri_nx rfl rfl ?_
  exact ri_rt rfl rfl
set_option maxRecDepth 20000 in
theorem w243_59_0 (p0 : Int32) (p1 : Int32)  : ri_ev 3 none (tb243, 3, 1) (0, lv_args 0 [.ref 571, .int p0, .int p1], [], p1_M, 0, 0) (some (.int (-2)), st6_M, 0, 0) := by
  refine ri_nx rfl rfl ?_
  refine ri_nx rfl rfl ?_
  refine ri_vc rfl rfl cl_p1_M_571 rfl (by decide) rfl (Nat.le_of_ble_eq_true rfl) (ri_ev_d (w222_46_0 p1) (by decide)) ?_
  refine ri_nx rfl rfl ?_
  refine ri_nx rfl rfl ?_
  exact ri_rt rfl rfl
set_option maxRecDepth 20000 in
theorem w111_60_0 (p0 : Int32) (p1 : Int32) (p2 : Int32)  : ri_ev 2 none (tb111, 7, 1) (0, lv_args 0 [.ref 0, .int p0, .int p1, .int p2], [], p1_M, 0, 0) (some (.int (-2)), p1_M, 0, 0) := by
  refine ri_nx rfl rfl ?_
  refine ri_nx rfl rfl ?_
  refine ri_nx rfl rfl ?_
  refine ri_vc rfl rfl cl_p1_M_0 rfl (by decide) rfl (Nat.le_of_ble_eq_true rfl) (ri_ev_d (w157_20_0 p0 p2) (by decide)) ?_
  refine ri_nx rfl rfl ?_
  refine ri_nx rfl rfl ?_
  exact ri_rt rfl rfl
set_option maxRecDepth 20000 in
theorem w245_61_0 (p0 : Int32) (p1 : Int32) (p2 : Int32)  : ri_ev 3 none (tb245, 4, 1) (0, lv_args 0 [.ref 571, .int p0, .int p1, .int p2], [], p1_M, 0, 0) (some (.int (-2)), st6_M, 0, 0) := by
  refine ri_nx rfl rfl ?_
  refine ri_nx rfl rfl ?_
  refine ri_vc rfl rfl cl_p1_M_571 rfl (by decide) rfl (Nat.le_of_ble_eq_true rfl) (ri_ev_d (w222_46_0 p1) (by decide)) ?_
  refine ri_nx rfl rfl ?_
  refine ri_nx rfl rfl ?_
  exact ri_rt rfl rfl
set_option maxRecDepth 20000 in
theorem w112_62_0 (p0 : Int32) (p1 : Int32) (p2 : Int32)  : ri_ev 8 none (tb112, 4, 1) (0, lv_args 0 [.ref 0, .int p0, .int p1, .int p2], [], p1_M, 0, 0) (some (.int (-2)), cr9_M, 0, 0) := by
  refine ri_nx rfl rfl ?_
  refine ri_nx rfl rfl ?_
  refine ri_vc rfl rfl cl_p1_M_0 rfl (by decide) rfl (Nat.le_of_ble_eq_true rfl) (ri_ev_d (w159_48 p0) (by decide)) ?_
  refine ri_nx rfl rfl ?_
  refine ri_nx rfl rfl ?_
  exact ri_rt rfl rfl
set_option maxRecDepth 20000 in
theorem w246_63_0 (p0 : Int32) (p1 : Int32) (p2 : Int32)  : ri_ev 3 none (tb246, 4, 1) (0, lv_args 0 [.ref 571, .int p0, .int p1, .int p2], [], cr9_M, 0, 0) (some (.int (-2)), st11_M, 0, 0) := by
  refine ri_nx rfl rfl ?_
  refine ri_nx rfl rfl ?_
  refine ri_vc rfl rfl cl_cr9_M_571 rfl (by decide) rfl (Nat.le_of_ble_eq_true rfl) (ri_ev_d (w222_50_0 p0) (by decide)) ?_
  refine ri_nx rfl rfl ?_
  refine ri_nx rfl rfl ?_
  exact ri_rt rfl rfl
set_option maxRecDepth 20000 in
theorem w113_64_0 (p0 : Int32) (p1 : Int32)  : ri_ev 8 none (tb113, 4, 1) (0, lv_args 0 [.ref 0, .int p0, .int p1], [], p1_M, 0, 0) (some (.int (-2)), cr9_M, 0, 0) := by
  refine ri_nx rfl rfl ?_
  refine ri_nx rfl rfl ?_
  refine ri_vc rfl rfl cl_p1_M_0 rfl (by decide) rfl (Nat.le_of_ble_eq_true rfl) (ri_ev_d (w159_48 p0) (by decide)) ?_
  refine ri_nx rfl rfl ?_
  refine ri_nx rfl rfl ?_
  exact ri_rt rfl rfl
set_option maxRecDepth 20000 in
theorem w267_65_0 (p0 : Int32) (p1 : Int32)  : ri_ev 3 none (tb267, 5, 1) (0, lv_args 0 [.ref 571, .int p0, .int p1], [], cr9_M, 0, 0) (some (.int (-2)), st11_M, 0, 0) := by
  refine ri_nx rfl rfl ?_
  refine ri_nx rfl rfl ?_
  refine ri_vc rfl rfl cl_cr9_M_571 rfl (by decide) rfl (Nat.le_of_ble_eq_true rfl) (ri_ev_d (w222_50_0 p0) (by decide)) ?_
  refine ri_nx rfl rfl ?_
  refine ri_nx rfl rfl ?_
  exact ri_rt rfl rfl
set_option maxRecDepth 20000 in
theorem w118_66_0 (p0 : Int32)  : ri_ev 8 none (tb118, 2, 2) (0, lv_args 0 [.ref 0, .int p0], [], p1_M, 0, 0) (some (.long (-2)), cr9_M, 0, 0) := by
  refine ri_nx rfl rfl ?_
  refine ri_nx rfl rfl ?_
  refine ri_vc rfl rfl cl_p1_M_0 rfl (by decide) rfl (Nat.le_of_ble_eq_true rfl) (ri_ev_d (w159_48 p0) (by decide)) ?_
  refine ri_nx rfl rfl ?_
  refine ri_nx rfl rfl ?_
  exact ri_rt rfl rfl
set_option maxRecDepth 20000 in
theorem w268_67_0 (p0 : Int32)  : ri_ev 3 none (tb268, 2, 2) (0, lv_args 0 [.ref 571, .int p0], [], cr9_M, 0, 0) (some (.long (-2)), st11_M, 0, 0) := by
  refine ri_nx rfl rfl ?_
  refine ri_nx rfl rfl ?_
  refine ri_vc rfl rfl cl_cr9_M_571 rfl (by decide) rfl (Nat.le_of_ble_eq_true rfl) (ri_ev_d (w222_50_0 p0) (by decide)) ?_
  refine ri_nx rfl rfl ?_
  refine ri_nx rfl rfl ?_
  exact ri_rt rfl rfl
set_option maxRecDepth 20000 in
theorem w119_68_0   : ri_ev 0 none (tb119, 1, 2) (0, lv_args 0 [.ref 0], [], p1_M, 0, 0) (some (.long (-2)), p1_M, 0, 0) := by
  refine ri_nx rfl rfl ?_
  refine ri_gf rfl cl_p1_M_0 (by decide) rfl ?_
  refine ri_gf rfl cl_p1_M_5 (by decide) rfl ?_
  refine ri_gf rfl cl_p1_M_6 (by decide) rfl ?_
  refine ri_nx rfl rfl ?_
  refine ri_nx rfl rfl ?_
  exact ri_rt rfl rfl
set_option maxRecDepth 20000 in
theorem w270_69_0   : ri_ev 1 none (tb270, 1, 2) (0, lv_args 0 [.ref 571], [], p1_M, 0, 0) (some (.long (-2)), p1_M, 0, 0) := by
  refine ri_nx rfl rfl ?_
  refine ri_vc rfl rfl cl_p1_M_571 rfl (by decide) rfl (Nat.le_of_ble_eq_true rfl) (ri_ev_d (w209_43_0 ) (by decide)) ?_
  refine ri_nx rfl rfl ?_
  refine ri_nx rfl rfl ?_
  exact ri_rt rfl rfl
set_option maxRecDepth 20000 in
theorem w120_70_0 (p0 : Int32)  : ri_ev 2 none (tb120, 2, 1) (0, lv_args 0 [.ref 0, .int p0], [], p1_M, 0, 0) (some (.int (-2)), p1_M, 0, 0) := by
  refine ri_nx rfl rfl ?_
  refine ri_nx rfl rfl ?_
  refine ri_vc rfl rfl cl_p1_M_0 rfl (by decide) rfl (Nat.le_of_ble_eq_true rfl) (ri_ev_d (w156_26_0 p0) (by decide)) ?_
  refine ri_nx rfl rfl ?_
  refine ri_nx rfl rfl ?_
  exact ri_rt rfl rfl
set_option maxRecDepth 20000 in
theorem w272_71_0 (p0 : Int32)  : ri_ev 2 none (tb272, 2, 1) (0, lv_args 0 [.ref 571, .int p0], [], p1_M, 0, 0) (some (.int (-2)), st6_M, 0, 0) := by
  refine ri_nx rfl rfl ?_
  refine ri_vc rfl rfl cl_p1_M_571 rfl (by decide) rfl (Nat.le_of_ble_eq_true rfl) (ri_ev_d (w220_8_0 ) (by decide)) ?_
  refine ri_nx rfl rfl ?_
  refine ri_nx rfl rfl ?_
  refine ri_vc rfl rfl cl_st6_M_571 rfl (by decide) rfl (Nat.le_of_ble_eq_true rfl) (ri_ev_d (w210_23_0 p0) (by decide)) ?_
  refine ri_nx rfl rfl ?_
  refine ri_nx rfl rfl ?_
  exact ri_rt rfl rfl
set_option maxRecDepth 20000 in
theorem w121_72_0 (p0 : Int32) (p1 : Int32) (p2 : Int32) (p3 : Int32)  : ri_ev 2 none (tb121, 6, 1) (0, lv_args 0 [.ref 0, .int p0, .int p1, .int p2, .int p3], [], p1_M, 0, 0) (some (.int (-2)), p1_M, 0, 0) := by
  refine ri_nx rfl rfl ?_
  refine ri_nx rfl rfl ?_
  refine ri_nx rfl rfl ?_
  refine ri_vc rfl rfl cl_p1_M_0 rfl (by decide) rfl (Nat.le_of_ble_eq_true rfl) (ri_ev_d (w157_20_0 p0 p1) (by decide)) ?_
  refine ri_nx rfl rfl ?_
  refine ri_nx rfl rfl ?_
  exact ri_rt rfl rfl
set_option maxRecDepth 20000 in
theorem w273_73_0 (p0 : Int32) (p1 : Int32) (p2 : Int32) (p3 : Int32)  : ri_ev 3 none (tb273, 5, 1) (0, lv_args 0 [.ref 571, .int p0, .int p1, .int p2, .int p3], [], p1_M, 0, 0) (some (.int (-2)), st6_M, 0, 0) := by
  refine ri_nx rfl rfl ?_
  refine ri_nx rfl rfl ?_
  refine ri_nx rfl rfl ?_
  refine ri_vc rfl rfl cl_p1_M_571 rfl (by decide) rfl (Nat.le_of_ble_eq_true rfl) (ri_ev_d (w224_23_0 p0 p1) (by decide)) ?_
  refine ri_nx rfl rfl ?_
  refine ri_nx rfl rfl ?_
  exact ri_rt rfl rfl
set_option maxRecDepth 20000 in
theorem w114_74_0 (p0 : Int32)  : ri_ev 8 none (tb114, 2, 1) (0, lv_args 0 [.ref 0, .int p0], [], p1_M, 0, 0) (some (.int (-2)), cr9_M, 0, 0) := by
  refine ri_nx rfl rfl ?_
  refine ri_nx rfl rfl ?_
  refine ri_vc rfl rfl cl_p1_M_0 rfl (by decide) rfl (Nat.le_of_ble_eq_true rfl) (ri_ev_d (w159_48 p0) (by decide)) ?_
  refine ri_nx rfl rfl ?_
  refine ri_nx rfl rfl ?_
  exact ri_rt rfl rfl
set_option maxRecDepth 20000 in
theorem w249_75_0 (p0 : Int32)  : ri_ev 3 none (tb249, 2, 1) (0, lv_args 0 [.ref 571, .int p0], [], cr9_M, 0, 0) (some (.int (-2)), st11_M, 0, 0) := by
  refine ri_nx rfl rfl ?_
  refine ri_nx rfl rfl ?_
  refine ri_vc rfl rfl cl_cr9_M_571 rfl (by decide) rfl (Nat.le_of_ble_eq_true rfl) (ri_ev_d (w222_50_0 p0) (by decide)) ?_
  refine ri_nx rfl rfl ?_
  refine ri_nx rfl rfl ?_
  exact ri_rt rfl rfl
set_option maxRecDepth 20000 in
theorem w115_76_0   : ri_ev 0 none (tb115, 2, 1) (0, lv_args 0 [.ref 0], [], p1_M, 0, 0) (some (.int (-2)), p1_M, 0, 0) := by
  refine ri_nx rfl rfl ?_
  refine ri_gf rfl cl_p1_M_0 (by decide) rfl ?_
  refine ri_gf rfl cl_p1_M_5 (by decide) rfl ?_
  refine ri_gf rfl cl_p1_M_6 (by decide) rfl ?_
  refine ri_nx rfl rfl ?_
  refine ri_nx rfl rfl ?_
  exact ri_rt rfl rfl
set_option maxRecDepth 20000 in
theorem w252_77_0   : ri_ev 1 none (tb252, 3, 1) (0, lv_args 0 [.ref 571], [], p1_M, 0, 0) (some (.int (-2)), p1_M, 0, 0) := by
  refine ri_nx rfl rfl ?_
  refine ri_vc rfl rfl cl_p1_M_571 rfl (by decide) rfl (Nat.le_of_ble_eq_true rfl) (ri_ev_d (w209_43_0 ) (by decide)) ?_
  refine ri_nx rfl rfl ?_
  refine ri_nx rfl rfl ?_
  exact ri_rt rfl rfl
set_option maxRecDepth 20000 in
theorem w116_78 (p0 : Int32) : ri_ev 0 none (tb116, 2, 1) (0, lv_args 0 [.ref 0, .int p0], [], p1_M, 0, 0) (some (.int (-1)), p1_M, 0, 0) := by
  refine ri_nx rfl rfl ?_
  by_cases h9 : p0 < (0 : Int32)
  · refine ri_nx rfl (if_pos h9) ?_
    refine ri_nx rfl rfl ?_
    exact ri_rt rfl rfl
  · refine ri_nx rfl (if_neg h9) ?_
    refine ri_nx rfl rfl ?_
    refine ri_nx rfl rfl ?_
    refine ri_gf rfl cl_p1_M_0 (by decide) rfl ?_
    have g10 : (0 : Int32) ≤ p0 := by first | exact ri_o_ge (by assumption)
    refine ri_nx rfl (if_pos g10) ?_
    refine ri_nx rfl rfl ?_
    exact ri_rt rfl rfl
set_option maxRecDepth 20000 in
theorem w253_79_0 (p0 : Int32)  : ri_ev 1 none (tb253, 2, 1) (0, lv_args 0 [.ref 571, .int p0], [], p1_M, 0, 0) (some (.int (-1)), p1_M, 0, 0) := by
  refine ri_nx rfl rfl ?_
  refine ri_nx rfl rfl ?_
  refine ri_nx rfl rfl ?_
  refine ri_nx rfl rfl ?_
  refine ri_gf rfl cl_p1_M_571 (by decide) rfl ?_
  refine ri_nx rfl rfl ?_
  refine ri_nx rfl rfl ?_
  refine ri_nx rfl rfl ?_
  refine ri_cll rfl rfl rfl (Nat.le_of_ble_eq_true rfl) (ri_ev_d (p1_in0 p0.toInt64) (by decide)) ?_
  refine ri_nx rfl rfl ?_
  refine ri_nx rfl rfl ?_
  exact ri_rt rfl rfl
set_option maxRecDepth 20000 in
theorem w117_80_0 (p0 : Int32) (p1 : Int32) (p2 : Int32)  : ri_ev 2 none (tb117, 8, 1) (0, lv_args 0 [.ref 0, .int p0, .int p1, .int p2], [], p1_M, 0, 0) (some (.int (-2)), p1_M, 0, 0) := by
  refine ri_nx rfl rfl ?_
  refine ri_nx rfl rfl ?_
  refine ri_nx rfl rfl ?_
  refine ri_vc rfl rfl cl_p1_M_0 rfl (by decide) rfl (Nat.le_of_ble_eq_true rfl) (ri_ev_d (w157_20_0 p0 p1) (by decide)) ?_
  refine ri_nx rfl rfl ?_
  refine ri_nx rfl rfl ?_
  exact ri_rt rfl rfl
set_option maxRecDepth 20000 in
theorem w255_81_0 (p0 : Int32) (p1 : Int32) (p2 : Int32)  : ri_ev 3 none (tb255, 8, 1) (0, lv_args 0 [.ref 571, .int p0, .int p1, .int p2], [], p1_M, 0, 0) (some (.int (-2)), st6_M, 0, 0) := by
  refine ri_nx rfl rfl ?_
  refine ri_nx rfl rfl ?_
  refine ri_nx rfl rfl ?_
  refine ri_vc rfl rfl cl_p1_M_571 rfl (by decide) rfl (Nat.le_of_ble_eq_true rfl) (ri_ev_d (w224_23_0 p0 p1) (by decide)) ?_
  refine ri_nx rfl rfl ?_
  refine ri_nx rfl rfl ?_
  exact ri_rt rfl rfl
set_option maxRecDepth 20000 in
theorem w122_82_0 (p0 : Int64) (p1 : Int32)  : ri_ev 2 none (tb122, 4, 1) (0, lv_args 0 [.ref 0, .long p0, .int p1], [], p1_M, 0, 0) (some (.int (-2)), p1_M, 0, 0) := by
  refine ri_nx rfl rfl ?_
  refine ri_nx rfl rfl ?_
  refine ri_vc rfl rfl cl_p1_M_0 rfl (by decide) rfl (Nat.le_of_ble_eq_true rfl) (ri_ev_d (w156_26_0 p1) (by decide)) ?_
  refine ri_nx rfl rfl ?_
  refine ri_nx rfl rfl ?_
  exact ri_rt rfl rfl
set_option maxRecDepth 20000 in
theorem w275_83_0 (p0 : Int64) (p1 : Int32)  : ri_ev 2 none (tb275, 10, 1) (0, lv_args 0 [.ref 571, .long p0, .int p1], [], p1_M, 0, 0) (some (.int (-2)), st6_M, 0, 0) := by
  refine ri_nx rfl rfl ?_
  refine ri_vc rfl rfl cl_p1_M_571 rfl (by decide) rfl (Nat.le_of_ble_eq_true rfl) (ri_ev_d (w220_8_0 ) (by decide)) ?_
  refine ri_nx rfl rfl ?_
  refine ri_nx rfl rfl ?_
  refine ri_vc rfl rfl cl_st6_M_571 rfl (by decide) rfl (Nat.le_of_ble_eq_true rfl) (ri_ev_d (w210_23_0 p1) (by decide)) ?_
  refine ri_nx rfl rfl ?_
  refine ri_nx rfl rfl ?_
  exact ri_rt rfl rfl
set_option maxRecDepth 20000 in
theorem w123_84_0 (p0 : Int32)  : ri_ev 2 none (tb123, 3, 2) (0, lv_args 0 [.ref 0, .int p0], [], p1_M, 0, 0) (some (.long (-2)), p1_M, 0, 0) := by
  refine ri_nx rfl rfl ?_
  refine ri_nx rfl rfl ?_
  refine ri_vc rfl rfl cl_p1_M_0 rfl (by decide) rfl (Nat.le_of_ble_eq_true rfl) (ri_ev_d (w156_26_0 p0) (by decide)) ?_
  refine ri_nx rfl rfl ?_
  refine ri_nx rfl rfl ?_
  exact ri_rt rfl rfl
set_option maxRecDepth 20000 in
theorem w276_85_0 (p0 : Int32)  : ri_ev 2 none (tb276, 2, 2) (0, lv_args 0 [.ref 571, .int p0], [], p1_M, 0, 0) (some (.long (-2)), st6_M, 0, 0) := by
  refine ri_nx rfl rfl ?_
  refine ri_vc rfl rfl cl_p1_M_571 rfl (by decide) rfl (Nat.le_of_ble_eq_true rfl) (ri_ev_d (w220_8_0 ) (by decide)) ?_
  refine ri_nx rfl rfl ?_
  refine ri_nx rfl rfl ?_
  refine ri_vc rfl rfl cl_st6_M_571 rfl (by decide) rfl (Nat.le_of_ble_eq_true rfl) (ri_ev_d (w210_23_0 p0) (by decide)) ?_
  refine ri_nx rfl rfl ?_
  refine ri_nx rfl rfl ?_
  exact ri_rt rfl rfl
set_option maxRecDepth 20000 in
theorem w124_86_0   : ri_ev 0 none (tb124, 4, 1) (0, lv_args 0 [.ref 0], [], p1_M, 0, 0) (some (.int (-2)), p1_M, 0, 0) := by
  refine ri_nx rfl rfl ?_
  refine ri_gf rfl cl_p1_M_0 (by decide) rfl ?_
  refine ri_gf rfl cl_p1_M_5 (by decide) rfl ?_
  refine ri_gf rfl cl_p1_M_6 (by decide) rfl ?_
  refine ri_nx rfl rfl ?_
  refine ri_nx rfl rfl ?_
  exact ri_rt rfl rfl
set_option maxRecDepth 20000 in
theorem w277_87_0   : ri_ev 1 none (tb277, 3, 1) (0, lv_args 0 [.ref 571], [], p1_M, 0, 0) (some (.int (-2)), p1_M, 0, 0) := by
  refine ri_nx rfl rfl ?_
  refine ri_vc rfl rfl cl_p1_M_571 rfl (by decide) rfl (Nat.le_of_ble_eq_true rfl) (ri_ev_d (w209_43_0 ) (by decide)) ?_
  refine ri_nx rfl rfl ?_
  refine ri_nx rfl rfl ?_
  exact ri_rt rfl rfl
set_option maxRecDepth 20000 in
theorem w125_88_0 (p0 : Int32) (p1 : Int32)  : ri_ev 2 none (tb125, 3, 1) (0, lv_args 0 [.ref 0, .int p0, .int p1], [], p1_M, 0, 0) (some (.int (-2)), p1_M, 0, 0) := by
  refine ri_nx rfl rfl ?_
  refine ri_nx rfl rfl ?_
  refine ri_vc rfl rfl cl_p1_M_0 rfl (by decide) rfl (Nat.le_of_ble_eq_true rfl) (ri_ev_d (w156_26_0 p0) (by decide)) ?_
  refine ri_nx rfl rfl ?_
  refine ri_nx rfl rfl ?_
  exact ri_rt rfl rfl
set_option maxRecDepth 20000 in
theorem w278_89_0 (p0 : Int32) (p1 : Int32)  : ri_ev 2 none (tb278, 5, 1) (0, lv_args 0 [.ref 571, .int p0, .int p1], [], p1_M, 0, 0) (some (.int (-2)), st6_M, 0, 0) := by
  refine ri_nx rfl rfl ?_
  refine ri_vc rfl rfl cl_p1_M_571 rfl (by decide) rfl (Nat.le_of_ble_eq_true rfl) (ri_ev_d (w220_8_0 ) (by decide)) ?_
  refine ri_nx rfl rfl ?_
  refine ri_nx rfl rfl ?_
  refine ri_vc rfl rfl cl_st6_M_571 rfl (by decide) rfl (Nat.le_of_ble_eq_true rfl) (ri_ev_d (w210_23_0 p0) (by decide)) ?_
  refine ri_nx rfl rfl ?_
  refine ri_nx rfl rfl ?_
  exact ri_rt rfl rfl
set_option maxRecDepth 20000 in
theorem w126_90_0 (p0 : Int32)  : ri_ev 0 none (tb126, 4, 1) (0, lv_args 0 [.ref 0, .int p0], [], p1_M, 0, 0) (some (.int (-2)), p1_M, 0, 0) := by
  refine ri_nx rfl rfl ?_
  refine ri_gf rfl cl_p1_M_0 (by decide) rfl ?_
  refine ri_gf rfl cl_p1_M_5 (by decide) rfl ?_
  refine ri_gf rfl cl_p1_M_6 (by decide) rfl ?_
  refine ri_nx rfl rfl ?_
  refine ri_nx rfl rfl ?_
  exact ri_rt rfl rfl
set_option maxRecDepth 20000 in
theorem w279_91_0 (p0 : Int32)  : ri_ev 1 none (tb279, 5, 1) (0, lv_args 0 [.ref 571, .int p0], [], p1_M, 0, 0) (some (.int (-2)), p1_M, 0, 0) := by
  refine ri_nx rfl rfl ?_
  refine ri_vc rfl rfl cl_p1_M_571 rfl (by decide) rfl (Nat.le_of_ble_eq_true rfl) (ri_ev_d (w209_43_0 ) (by decide)) ?_
  refine ri_nx rfl rfl ?_
  refine ri_nx rfl rfl ?_
  exact ri_rt rfl rfl
set_option maxRecDepth 20000 in
theorem w127_92_0   : ri_ev 0 none (tb127, 1, 1) (0, lv_args 0 [.ref 0], [], p1_M, 0, 0) (some (.int (-2)), p1_M, 0, 0) := by
  refine ri_nx rfl rfl ?_
  refine ri_gf rfl cl_p1_M_0 (by decide) rfl ?_
  refine ri_gf rfl cl_p1_M_5 (by decide) rfl ?_
  refine ri_gf rfl cl_p1_M_6 (by decide) rfl ?_
  refine ri_nx rfl rfl ?_
  refine ri_nx rfl rfl ?_
  exact ri_rt rfl rfl
set_option maxRecDepth 20000 in
theorem w286_93_0   : ri_ev 1 none (tb286, 1, 1) (0, lv_args 0 [.ref 571], [], p1_M, 0, 0) (some (.int (-2)), p1_M, 0, 0) := by
  refine ri_nx rfl rfl ?_
  refine ri_vc rfl rfl cl_p1_M_571 rfl (by decide) rfl (Nat.le_of_ble_eq_true rfl) (ri_ev_d (w209_43_0 ) (by decide)) ?_
  refine ri_nx rfl rfl ?_
  refine ri_nx rfl rfl ?_
  exact ri_rt rfl rfl
set_option maxRecDepth 20000 in
theorem w128_94_0 (p0 : Int32)  : ri_ev 8 none (tb128, 2, 1) (0, lv_args 0 [.ref 0, .int p0], [], p1_M, 0, 0) (some (.int (-2)), cr9_M, 0, 0) := by
  refine ri_nx rfl rfl ?_
  refine ri_nx rfl rfl ?_
  refine ri_vc rfl rfl cl_p1_M_0 rfl (by decide) rfl (Nat.le_of_ble_eq_true rfl) (ri_ev_d (w159_48 p0) (by decide)) ?_
  refine ri_nx rfl rfl ?_
  refine ri_nx rfl rfl ?_
  exact ri_rt rfl rfl
set_option maxRecDepth 20000 in
theorem w287_95_0 (p0 : Int32)  : ri_ev 3 none (tb287, 2, 1) (0, lv_args 0 [.ref 571, .int p0], [], cr9_M, 0, 0) (some (.int (-2)), st11_M, 0, 0) := by
  refine ri_nx rfl rfl ?_
  refine ri_nx rfl rfl ?_
  refine ri_vc rfl rfl cl_cr9_M_571 rfl (by decide) rfl (Nat.le_of_ble_eq_true rfl) (ri_ev_d (w222_50_0 p0) (by decide)) ?_
  refine ri_nx rfl rfl ?_
  refine ri_nx rfl rfl ?_
  exact ri_rt rfl rfl
set_option maxRecDepth 20000 in
theorem w129_96_0   : ri_ev 0 none (tb129, 4, 1) (0, lv_args 0 [.ref 0], [], p1_M, 0, 0) (some (.int (-2)), p1_M, 0, 0) := by
  refine ri_nx rfl rfl ?_
  refine ri_gf rfl cl_p1_M_0 (by decide) rfl ?_
  refine ri_gf rfl cl_p1_M_5 (by decide) rfl ?_
  refine ri_gf rfl cl_p1_M_6 (by decide) rfl ?_
  refine ri_nx rfl rfl ?_
  refine ri_nx rfl rfl ?_
  exact ri_rt rfl rfl
set_option maxRecDepth 20000 in
theorem w290_97_0   : ri_ev 1 none (tb290, 12, 1) (0, lv_args 0 [.ref 571], [], p1_M, 0, 0) (some (.int (-2)), p1_M, 0, 0) := by
  refine ri_nx rfl rfl ?_
  refine ri_vc rfl rfl cl_p1_M_571 rfl (by decide) rfl (Nat.le_of_ble_eq_true rfl) (ri_ev_d (w209_43_0 ) (by decide)) ?_
  refine ri_nx rfl rfl ?_
  refine ri_nx rfl rfl ?_
  exact ri_rt rfl rfl
set_option maxRecDepth 20000 in
theorem w130_98_0   : ri_ev 0 none (tb130, 3, 1) (0, lv_args 0 [.ref 0], [], p1_M, 0, 0) (some (.int (-2)), p1_M, 0, 0) := by
  refine ri_nx rfl rfl ?_
  refine ri_gf rfl cl_p1_M_0 (by decide) rfl ?_
  refine ri_gf rfl cl_p1_M_5 (by decide) rfl ?_
  refine ri_gf rfl cl_p1_M_6 (by decide) rfl ?_
  refine ri_nx rfl rfl ?_
  refine ri_nx rfl rfl ?_
  exact ri_rt rfl rfl
set_option maxRecDepth 20000 in
theorem w281_99_0   : ri_ev 1 none (tb281, 3, 1) (0, lv_args 0 [.ref 571], [], p1_M, 0, 0) (some (.int (-2)), p1_M, 0, 0) := by
  refine ri_nx rfl rfl ?_
  refine ri_vc rfl rfl cl_p1_M_571 rfl (by decide) rfl (Nat.le_of_ble_eq_true rfl) (ri_ev_d (w209_43_0 ) (by decide)) ?_
  refine ri_nx rfl rfl ?_
  refine ri_nx rfl rfl ?_
  exact ri_rt rfl rfl
set_option maxRecDepth 20000 in
theorem w131_100_0   : ri_ev 0 none (tb131, 4, 1) (0, lv_args 0 [.ref 0], [], p1_M, 0, 0) (some (.int (-2)), p1_M, 0, 0) := by
  refine ri_nx rfl rfl ?_
  refine ri_gf rfl cl_p1_M_0 (by decide) rfl ?_
  refine ri_gf rfl cl_p1_M_5 (by decide) rfl ?_
  refine ri_gf rfl cl_p1_M_6 (by decide) rfl ?_
  refine ri_nx rfl rfl ?_
  refine ri_nx rfl rfl ?_
  exact ri_rt rfl rfl
set_option maxRecDepth 20000 in
theorem w282_101_0   : ri_ev 1 none (tb282, 4, 1) (0, lv_args 0 [.ref 571], [], p1_M, 0, 0) (some (.int (-2)), p1_M, 0, 0) := by
  refine ri_nx rfl rfl ?_
  refine ri_vc rfl rfl cl_p1_M_571 rfl (by decide) rfl (Nat.le_of_ble_eq_true rfl) (ri_ev_d (w209_43_0 ) (by decide)) ?_
  refine ri_nx rfl rfl ?_
  refine ri_nx rfl rfl ?_
  exact ri_rt rfl rfl
set_option maxRecDepth 20000 in
theorem w132_102_0   : ri_ev 0 none (tb132, 5, 1) (0, lv_args 0 [.ref 0], [], p1_M, 0, 0) (some (.int (-2)), p1_M, 0, 0) := by
  refine ri_nx rfl rfl ?_
  refine ri_gf rfl cl_p1_M_0 (by decide) rfl ?_
  refine ri_gf rfl cl_p1_M_5 (by decide) rfl ?_
  refine ri_gf rfl cl_p1_M_6 (by decide) rfl ?_
  refine ri_nx rfl rfl ?_
  refine ri_nx rfl rfl ?_
  exact ri_rt rfl rfl
set_option maxRecDepth 20000 in
theorem w283_103_0   : ri_ev 1 none (tb283, 5, 1) (0, lv_args 0 [.ref 571], [], p1_M, 0, 0) (some (.int (-2)), p1_M, 0, 0) := by
  refine ri_nx rfl rfl ?_
  refine ri_vc rfl rfl cl_p1_M_571 rfl (by decide) rfl (Nat.le_of_ble_eq_true rfl) (ri_ev_d (w209_43_0 ) (by decide)) ?_
  refine ri_nx rfl rfl ?_
  refine ri_nx rfl rfl ?_
  exact ri_rt rfl rfl
set_option maxRecDepth 20000 in
theorem w133_104_0   : ri_ev 0 none (tb133, 1, 1) (0, lv_args 0 [.ref 0], [], p1_M, 0, 0) (some (.int (-2)), p1_M, 0, 0) := by
  refine ri_nx rfl rfl ?_
  refine ri_gf rfl cl_p1_M_0 (by decide) rfl ?_
  refine ri_gf rfl cl_p1_M_5 (by decide) rfl ?_
  refine ri_gf rfl cl_p1_M_6 (by decide) rfl ?_
  refine ri_nx rfl rfl ?_
  refine ri_nx rfl rfl ?_
  exact ri_rt rfl rfl
set_option maxRecDepth 20000 in
theorem w288_105_0   : ri_ev 1 none (tb288, 1, 1) (0, lv_args 0 [.ref 571], [], p1_M, 0, 0) (some (.int (-2)), p1_M, 0, 0) := by
  refine ri_nx rfl rfl ?_
  refine ri_vc rfl rfl cl_p1_M_571 rfl (by decide) rfl (Nat.le_of_ble_eq_true rfl) (ri_ev_d (w209_43_0 ) (by decide)) ?_
  refine ri_nx rfl rfl ?_
  refine ri_nx rfl rfl ?_
  refine ri_nx rfl rfl ?_
  exact ri_rt rfl rfl
set_option maxRecDepth 20000 in
theorem w134_106_0 (p0 : Int32) (p1 : Int32) (h11 : p0 < (0 : Int32)) : ri_ev 8 none (tb134, 7, 1) (0, lv_args 0 [.ref 0, .int p0, .int p1], [], p1_M, 0, 0) (some (.int (-2)), p1_M, 0, 0) := by
  refine ri_nx rfl rfl ?_
  refine ri_nx rfl rfl ?_
  refine ri_vc rfl rfl cl_p1_M_0 rfl (by decide) rfl (Nat.le_of_ble_eq_true rfl) (ri_ev_d (w158_6_0 p0 h11) (by decide)) ?_
  refine ri_nx rfl rfl ?_
  refine ri_nx rfl rfl ?_
  exact ri_rt rfl rfl
set_option maxRecDepth 20000 in
theorem w134_106_1 (p0 : Int32) (p1 : Int32) (h11 : ¬ p0 < (0 : Int32)) : ri_ev 8 none (tb134, 7, 1) (0, lv_args 0 [.ref 0, .int p0, .int p1], [], p1_M, 0, 0) (some (.int (-2)), cr4_M, 0, 0) := by
  refine ri_nx rfl rfl ?_
  refine ri_nx rfl rfl ?_
  refine ri_vc rfl rfl cl_p1_M_0 rfl (by decide) rfl (Nat.le_of_ble_eq_true rfl) (ri_ev_d (w158_6_1 p0 h11) (by decide)) ?_
  refine ri_nx rfl rfl ?_
  refine ri_nx rfl rfl ?_
  exact ri_rt rfl rfl
set_option maxRecDepth 20000 in
theorem w291_107_0 (p0 : Int32) (p1 : Int32)  : ri_ev 3 none (tb291, 6, 1) (0, lv_args 0 [.ref 571, .int p0, .int p1], [], p1_M, 0, 0) (some (.int (-2)), st6_M, 0, 0) := by
  refine ri_nx rfl rfl ?_
  refine ri_nx rfl rfl ?_
  refine ri_vc rfl rfl cl_p1_M_571 rfl (by decide) rfl (Nat.le_of_ble_eq_true rfl) (ri_ev_d (w221_8_0 p0) (by decide)) ?_
  refine ri_nx rfl rfl ?_
  refine ri_nx rfl rfl ?_
  exact ri_rt rfl rfl
set_option maxRecDepth 20000 in
theorem w291_108_0 (p0 : Int32) (p1 : Int32)  : ri_ev 3 none (tb291, 6, 1) (0, lv_args 0 [.ref 571, .int p0, .int p1], [], cr4_M, 0, 0) (some (.int (-2)), st8_M, 0, 0) := by
  refine ri_nx rfl rfl ?_
  refine ri_nx rfl rfl ?_
  refine ri_vc rfl rfl cl_cr4_M_571 rfl (by decide) rfl (Nat.le_of_ble_eq_true rfl) (ri_ev_d (w221_14_0 p0) (by decide)) ?_
  refine ri_nx rfl rfl ?_
  refine ri_nx rfl rfl ?_
  exact ri_rt rfl rfl
set_option maxRecDepth 20000 in
theorem w160_109_0 (p0 : Int32) (h12 : p0 < (0 : Int32)) : ri_ev 7 none (tb160, 2, 4) (0, lv_args 0 [.ref 0, .int p0], [], p1_M, 0, 0) (some (.int 0), p1_M, 0, 0) := by
  refine ri_nx rfl rfl ?_
  refine ri_nx rfl (if_pos h12) ?_
  refine ri_nx rfl rfl ?_
  exact ri_rt rfl rfl
set_option maxRecDepth 20000 in
theorem w160_109_1 (p0 : Int32) (h12 : ¬ p0 < (0 : Int32)) : ri_ev 7 none (tb160, 2, 4) (0, lv_args 0 [.ref 0, .int p0], [], p1_M, 0, 0) (some (.int 0), cr12_M, 0, 0) := by
  refine ri_nx rfl rfl ?_
  refine ri_nx rfl (if_neg h12) ?_
  refine ri_nx rfl rfl ?_
  refine ri_nx rfl rfl ?_
  refine ri_gf rfl cl_p1_M_0 (by decide) rfl ?_
  refine ri_vc rfl rfl cl_p1_M_5 rfl (by decide) rfl (Nat.le_of_ble_eq_true rfl) (ri_ev_d (cr12_ev) (by decide)) ?_
  refine ri_gf rfl cl_cr12_M_75 (by decide) rfl ?_
  have g13 : (0 : Int32) ≤ p0 := by first | exact ri_o_ge (by assumption)
  refine ri_nx rfl (if_pos g13) ?_
  refine ri_nx rfl rfl ?_
  exact ri_rt rfl rfl
set_option maxRecDepth 20000 in
theorem w135_109_0 (p0 : Int32) (h14 : p0 < (0 : Int32)) : ri_ev 8 none (tb135, 2, 1) (0, lv_args 0 [.ref 0, .int p0], [], p1_M, 0, 0) (some (.int (-2)), p1_M, 0, 0) := by
  refine ri_nx rfl rfl ?_
  refine ri_nx rfl rfl ?_
  refine ri_vc rfl rfl cl_p1_M_0 rfl (by decide) rfl (Nat.le_of_ble_eq_true rfl) (ri_ev_d (w160_109_0 p0 h14) (by decide)) ?_
  refine ri_nx rfl rfl ?_
  refine ri_nx rfl rfl ?_
  exact ri_rt rfl rfl
set_option maxRecDepth 20000 in
theorem w135_109_1 (p0 : Int32) (h14 : ¬ p0 < (0 : Int32)) : ri_ev 8 none (tb135, 2, 1) (0, lv_args 0 [.ref 0, .int p0], [], p1_M, 0, 0) (some (.int (-2)), cr12_M, 0, 0) := by
  refine ri_nx rfl rfl ?_
  refine ri_nx rfl rfl ?_
  refine ri_vc rfl rfl cl_p1_M_0 rfl (by decide) rfl (Nat.le_of_ble_eq_true rfl) (ri_ev_d (w160_109_1 p0 h14) (by decide)) ?_
  refine ri_nx rfl rfl ?_
  refine ri_nx rfl rfl ?_
  exact ri_rt rfl rfl
set_option maxRecDepth 20000 in
theorem w223_111_0 (p0 : Int32)  : ri_ev 2 none (tb223, 2, 4) (0, lv_args 0 [.ref 571, .int p0], [], p1_M, 0, 0) (some (.int 0), st6_M, 0, 0) := by
  refine ri_nx rfl rfl ?_
  refine ri_vc rfl rfl cl_p1_M_571 rfl (by decide) rfl (Nat.le_of_ble_eq_true rfl) (ri_ev_d (w220_8_0 ) (by decide)) ?_
  refine ri_nx rfl rfl ?_
  refine ri_nx rfl rfl ?_
  refine ri_nx rfl rfl ?_
  refine ri_nx rfl rfl ?_
  refine ri_gf rfl cl_st6_M_571 (by decide) rfl ?_
  refine ri_nx rfl rfl ?_
  refine ri_nx rfl rfl ?_
  refine ri_nx rfl rfl ?_
  refine ri_cll rfl rfl rfl (Nat.le_of_ble_eq_true rfl) (ri_ev_d (p1_in0 p0.toInt64) (by decide)) ?_
  exact ri_rt rfl rfl
set_option maxRecDepth 20000 in
theorem w293_111_0 (p0 : Int32)  : ri_ev 3 none (tb293, 2, 1) (0, lv_args 0 [.ref 571, .int p0], [], p1_M, 0, 0) (some (.int (-2)), st6_M, 0, 0) := by
  refine ri_nx rfl rfl ?_
  refine ri_nx rfl rfl ?_
  refine ri_vc rfl rfl cl_p1_M_571 rfl (by decide) rfl (Nat.le_of_ble_eq_true rfl) (ri_ev_d (w223_111_0 p0) (by decide)) ?_
  refine ri_nx rfl rfl ?_
  refine ri_nx rfl rfl ?_
  exact ri_rt rfl rfl
set_option maxRecDepth 20000 in
theorem w219_113_0   : ri_ev 0 none (tb219, 3, 0) (0, lv_args 0 [.ref 571], [], fr13_M, 0, 0) (none, fr13_M, 0, 0) := by
  refine ri_nx rfl rfl ?_
  refine ri_nx rfl rfl ?_
  refine ri_pfs rfl cl_fr13_M_571 (by decide) rfl rfl ?_
  refine ri_nx rfl rfl ?_
  refine ri_nx rfl rfl ?_
  refine ri_nx rfl rfl ?_
  refine ri_nx rfl rfl ?_
  refine ri_gf rfl cl_fr13_M_571 (by decide) rfl ?_
  refine ri_nx rfl rfl ?_
  refine ri_ia rfl cl_fr13_M_572 (by decide) (by decide) rfl ?_
  refine ri_nx rfl rfl ?_
  exact ri_rt rfl rfl
set_option maxRecDepth 20000 in
theorem w217_114_0   : ri_ev 0 none (tb217, 5, 1) (0, lv_args 0 [.ref 571, .ref 583, .int 1], [], fr13_M, 0, 0) (some (.int 0), fr13_M, 0, 0) := by
  refine ri_nx rfl rfl ?_
  refine ri_nx rfl rfl ?_
  refine ri_nx rfl rfl ?_
  refine ri_nx rfl rfl ?_
  refine ri_gf rfl cl_fr13_M_571 (by decide) rfl ?_
  refine ri_nx rfl rfl ?_
  refine ri_nx rfl rfl ?_
  refine ri_nx rfl rfl ?_
  refine ri_nx rfl rfl ?_
  refine ri_nx rfl rfl ?_
  refine ri_gf rfl cl_fr13_M_571 (by decide) rfl ?_
  refine ri_nx rfl rfl ?_
  refine ri_nx rfl rfl ?_
  refine ri_nx rfl rfl ?_
  refine ri_nx rfl rfl ?_
  refine ri_nx rfl rfl ?_
  refine ri_nx rfl rfl ?_
  refine ri_nx rfl rfl ?_
  refine ri_gf rfl cl_fr13_M_571 (by decide) rfl ?_
  refine ri_nx rfl rfl ?_
  refine ri_nx rfl rfl ?_
  refine ri_nx rfl rfl ?_
  refine ri_nx rfl rfl ?_
  refine ri_nx rfl rfl ?_
  refine ri_gf rfl cl_fr13_M_571 (by decide) rfl ?_
  refine ri_nx rfl rfl ?_
  refine ri_nx rfl rfl ?_
  exact ri_rt rfl rfl
set_option maxRecDepth 20000 in
theorem w217_115_0   : ri_ev 0 none (tb217, 5, 1) (0, lv_args 0 [.ref 571, .ref 584, .int 0], [], fr13_M, 0, 0) (some (.int 0), fr13_M, 0, 0) := by
  refine ri_nx rfl rfl ?_
  refine ri_nx rfl rfl ?_
  refine ri_nx rfl rfl ?_
  refine ri_nx rfl rfl ?_
  refine ri_gf rfl cl_fr13_M_571 (by decide) rfl ?_
  refine ri_nx rfl rfl ?_
  refine ri_nx rfl rfl ?_
  refine ri_nx rfl rfl ?_
  refine ri_nx rfl rfl ?_
  refine ri_nx rfl rfl ?_
  refine ri_gf rfl cl_fr13_M_571 (by decide) rfl ?_
  refine ri_nx rfl rfl ?_
  refine ri_nx rfl rfl ?_
  refine ri_nx rfl rfl ?_
  refine ri_nx rfl rfl ?_
  refine ri_nx rfl rfl ?_
  refine ri_nx rfl rfl ?_
  refine ri_nx rfl rfl ?_
  refine ri_gf rfl cl_fr13_M_571 (by decide) rfl ?_
  refine ri_nx rfl rfl ?_
  refine ri_nx rfl rfl ?_
  refine ri_nx rfl rfl ?_
  refine ri_nx rfl rfl ?_
  refine ri_nx rfl rfl ?_
  refine ri_gf rfl cl_fr13_M_571 (by decide) rfl ?_
  refine ri_nx rfl rfl ?_
  refine ri_nx rfl rfl ?_
  exact ri_rt rfl rfl
set_option maxRecDepth 20000 in
theorem w220_113_0   : ri_ev 1 none (tb220, 1, 0) (0, lv_args 0 [.ref 571], [], cr12_M, 0, 0) (none, st14_M, 0, 0) := by
  refine ri_nx rfl rfl ?_
  refine ri_gf rfl cl_cr12_M_571 (by decide) rfl ?_
  refine ri_nx rfl rfl ?_
  refine ri_nx rfl rfl ?_
  refine ri_vc rfl rfl cl_cr12_M_571 rfl (by decide) rfl (Nat.le_of_ble_eq_true rfl) (ri_ev_d (fr13_ev 0) (by decide)) ?_
  refine ri_nx rfl rfl ?_
  refine ri_vc rfl rfl cl_fr13_M_571 rfl (by decide) rfl (Nat.le_of_ble_eq_true rfl) (ri_ev_d (w219_113_0 ) (by decide)) ?_
  refine ri_nx rfl rfl ?_
  refine ri_nx rfl rfl ?_
  refine ri_nx rfl rfl ?_
  refine ri_gf rfl cl_fr13_M_571 (by decide) rfl ?_
  refine ri_nx rfl rfl ?_
  refine ri_vc rfl rfl cl_fr13_M_571 rfl (by decide) rfl (Nat.le_of_ble_eq_true rfl) (ri_ev_d (w217_114_0 ) (by decide)) ?_
  refine ri_pfs rfl cl_fr13_M_571 (by decide) rfl rfl ?_
  refine ri_nx rfl rfl ?_
  refine ri_nx rfl rfl ?_
  refine ri_nx rfl rfl ?_
  refine ri_gf rfl cl_fr13_M_571 (by decide) rfl ?_
  refine ri_nx rfl rfl ?_
  refine ri_vc rfl rfl cl_fr13_M_571 rfl (by decide) rfl (Nat.le_of_ble_eq_true rfl) (ri_ev_d (w217_115_0 ) (by decide)) ?_
  refine ri_pfs rfl cl_fr13_M_571 (by decide) rfl rfl ?_
  refine ri_nx rfl rfl ?_
  refine ri_nx rfl rfl ?_
  refine ri_pf rfl cl_fr13_M_571 (by decide) (by decide) rfl ?_
  refine st14_is ?_
  exact ri_rt rfl rfl
set_option maxRecDepth 20000 in
theorem w223_113_0 (p0 : Int32)  : ri_ev 2 none (tb223, 2, 4) (0, lv_args 0 [.ref 571, .int p0], [], cr12_M, 0, 0) (some (.int 0), st14_M, 0, 0) := by
  refine ri_nx rfl rfl ?_
  refine ri_vc rfl rfl cl_cr12_M_571 rfl (by decide) rfl (Nat.le_of_ble_eq_true rfl) (ri_ev_d (w220_113_0 ) (by decide)) ?_
  refine ri_nx rfl rfl ?_
  refine ri_nx rfl rfl ?_
  refine ri_nx rfl rfl ?_
  refine ri_nx rfl rfl ?_
  refine ri_gf rfl cl_st14_M_571 (by decide) rfl ?_
  refine ri_nx rfl rfl ?_
  refine ri_nx rfl rfl ?_
  refine ri_nx rfl rfl ?_
  refine ri_cll rfl rfl rfl (Nat.le_of_ble_eq_true rfl) (ri_ev_d (p1_in0 p0.toInt64) (by decide)) ?_
  exact ri_rt rfl rfl
set_option maxRecDepth 20000 in
theorem w293_113_0 (p0 : Int32)  : ri_ev 3 none (tb293, 2, 1) (0, lv_args 0 [.ref 571, .int p0], [], cr12_M, 0, 0) (some (.int (-2)), st14_M, 0, 0) := by
  refine ri_nx rfl rfl ?_
  refine ri_nx rfl rfl ?_
  refine ri_vc rfl rfl cl_cr12_M_571 rfl (by decide) rfl (Nat.le_of_ble_eq_true rfl) (ri_ev_d (w223_113_0 p0) (by decide)) ?_
  refine ri_nx rfl rfl ?_
  refine ri_nx rfl rfl ?_
  exact ri_rt rfl rfl
set_option maxRecDepth 20000 in
theorem w136_119_0 (p0 : Int32) (p1 : Int32)  : ri_ev 2 none (tb136, 3, 1) (0, lv_args 0 [.ref 0, .int p0, .int p1], [], p1_M, 0, 0) (some (.int (-2)), p1_M, 0, 0) := by
  refine ri_nx rfl rfl ?_
  refine ri_nx rfl rfl ?_
  refine ri_vc rfl rfl cl_p1_M_0 rfl (by decide) rfl (Nat.le_of_ble_eq_true rfl) (ri_ev_d (w156_26_0 p0) (by decide)) ?_
  refine ri_nx rfl rfl ?_
  refine ri_nx rfl rfl ?_
  exact ri_rt rfl rfl
set_option maxRecDepth 20000 in
theorem w294_120_0 (p0 : Int32) (p1 : Int32)  : ri_ev 3 none (tb294, 3, 1) (0, lv_args 0 [.ref 571, .int p0, .int p1], [], p1_M, 0, 0) (some (.int (-2)), st6_M, 0, 0) := by
  refine ri_nx rfl rfl ?_
  refine ri_nx rfl rfl ?_
  refine ri_vc rfl rfl cl_p1_M_571 rfl (by decide) rfl (Nat.le_of_ble_eq_true rfl) (ri_ev_d (w223_111_0 p1) (by decide)) ?_
  refine ri_nx rfl rfl ?_
  refine ri_nx rfl rfl ?_
  exact ri_rt rfl rfl
set_option maxRecDepth 20000 in
theorem w137_121_0 (p0 : Int32) (p1 : Int32) (p2 : Int32) (h15 : p0 < (0 : Int32)) : ri_ev 8 none (tb137, 4, 1) (0, lv_args 0 [.ref 0, .int p0, .int p1, .int p2], [], p1_M, 0, 0) (some (.int (-2)), p1_M, 0, 0) := by
  refine ri_nx rfl rfl ?_
  refine ri_nx rfl rfl ?_
  refine ri_vc rfl rfl cl_p1_M_0 rfl (by decide) rfl (Nat.le_of_ble_eq_true rfl) (ri_ev_d (w160_109_0 p0 h15) (by decide)) ?_
  refine ri_nx rfl rfl ?_
  refine ri_nx rfl rfl ?_
  exact ri_rt rfl rfl
set_option maxRecDepth 20000 in
theorem w137_121_1 (p0 : Int32) (p1 : Int32) (p2 : Int32) (h15 : ¬ p0 < (0 : Int32)) : ri_ev 8 none (tb137, 4, 1) (0, lv_args 0 [.ref 0, .int p0, .int p1, .int p2], [], p1_M, 0, 0) (some (.int (-2)), cr12_M, 0, 0) := by
  refine ri_nx rfl rfl ?_
  refine ri_nx rfl rfl ?_
  refine ri_vc rfl rfl cl_p1_M_0 rfl (by decide) rfl (Nat.le_of_ble_eq_true rfl) (ri_ev_d (w160_109_1 p0 h15) (by decide)) ?_
  refine ri_nx rfl rfl ?_
  refine ri_nx rfl rfl ?_
  exact ri_rt rfl rfl
set_option maxRecDepth 20000 in
theorem w295_122_0 (p0 : Int32) (p1 : Int32) (p2 : Int32)  : ri_ev 3 none (tb295, 8, 1) (0, lv_args 0 [.ref 571, .int p0, .int p1, .int p2], [], p1_M, 0, 0) (some (.int (-2)), st6_M, 0, 0) := by
  refine ri_nx rfl rfl ?_
  refine ri_nx rfl rfl ?_
  refine ri_vc rfl rfl cl_p1_M_571 rfl (by decide) rfl (Nat.le_of_ble_eq_true rfl) (ri_ev_d (w223_111_0 p0) (by decide)) ?_
  refine ri_nx rfl rfl ?_
  refine ri_nx rfl rfl ?_
  exact ri_rt rfl rfl
set_option maxRecDepth 20000 in
theorem w295_123_0 (p0 : Int32) (p1 : Int32) (p2 : Int32)  : ri_ev 3 none (tb295, 8, 1) (0, lv_args 0 [.ref 571, .int p0, .int p1, .int p2], [], cr12_M, 0, 0) (some (.int (-2)), st14_M, 0, 0) := by
  refine ri_nx rfl rfl ?_
  refine ri_nx rfl rfl ?_
  refine ri_vc rfl rfl cl_cr12_M_571 rfl (by decide) rfl (Nat.le_of_ble_eq_true rfl) (ri_ev_d (w223_113_0 p0) (by decide)) ?_
  refine ri_nx rfl rfl ?_
  refine ri_nx rfl rfl ?_
  exact ri_rt rfl rfl
set_option maxRecDepth 20000 in
theorem w138_124_0   : ri_ev 0 none (tb138, 2, 1) (0, lv_args 0 [.ref 0], [], p1_M, 0, 0) (some (.int (-2)), p1_M, 0, 0) := by
  refine ri_nx rfl rfl ?_
  refine ri_gf rfl cl_p1_M_0 (by decide) rfl ?_
  refine ri_gf rfl cl_p1_M_5 (by decide) rfl ?_
  refine ri_gf rfl cl_p1_M_6 (by decide) rfl ?_
  refine ri_nx rfl rfl ?_
  refine ri_nx rfl rfl ?_
  exact ri_rt rfl rfl
set_option maxRecDepth 20000 in
theorem w296_125_0   : ri_ev 2 none (tb296, 2, 1) (0, lv_args 0 [.ref 571], [], p1_M, 0, 0) (some (.int (-2)), p1_M, 0, 0) := by
  refine ri_nx rfl rfl ?_
  refine ri_vc rfl rfl cl_p1_M_571 rfl (by decide) rfl (Nat.le_of_ble_eq_true rfl) (ri_ev_d (w288_105_0 ) (by decide)) ?_
  refine ri_nx rfl rfl ?_
  refine ri_nx rfl rfl ?_
  refine ri_nx rfl rfl ?_
  refine ri_vc rfl rfl cl_p1_M_571 rfl (by decide) rfl (Nat.le_of_ble_eq_true rfl) (ri_ev_d (w288_105_0 ) (by decide)) ?_
  exact ri_rt rfl rfl
set_option maxRecDepth 20000 in
theorem w22_126_0   : ri_ev 0 none (tb22, 1, 1) (0, lv_args 0 [.ref 6], [], p1_M, 0, 0) (some (.int 0), p1_M, 0, 0) := by
  refine ri_nx rfl rfl ?_
  refine ri_nx rfl rfl ?_
  refine ri_gf rfl cl_p1_M_6 (by decide) rfl ?_
  refine ri_nx rfl rfl ?_
  refine ri_nx rfl rfl ?_
  refine ri_nx rfl rfl ?_
  exact ri_rt rfl rfl
set_option maxRecDepth 20000 in
theorem w139_126 (p0 : Int32) : ri_ev 1 none (tb139, 6, 1) (0, lv_args 0 [.ref 0, .int p0], [], p1_M, 0, 0) (some (.int (-2)), p1_M, 0, 0) := by
  refine ri_nx rfl rfl ?_
  by_cases h16 : p0 = (0 : Int32)
  · refine ri_nx rfl (if_pos h16) ?_
    refine ri_nx rfl rfl ?_
    exact ri_rt rfl rfl
  · refine ri_nx rfl (if_neg h16) ?_
    refine ri_nx rfl rfl ?_
    refine ri_nx rfl rfl ?_
    refine ri_gf rfl cl_p1_M_0 (by decide) rfl ?_
    refine ri_gf rfl cl_p1_M_5 (by decide) rfl ?_
    refine ri_vc rfl rfl cl_p1_M_6 rfl (by decide) rfl (Nat.le_of_ble_eq_true rfl) (ri_ev_d (w22_126_0 ) (by decide)) ?_
    refine ri_nx rfl rfl ?_
    refine ri_nx rfl rfl ?_
    refine ri_nx rfl rfl ?_
    have g17 : ¬ (p0 &&& ((0 : Int32) ^^^ (-1 : Int32))) = (0 : Int32) := by rw [ri_andm1]; exact h16
    refine ri_nx rfl (if_neg g17) ?_
    refine ri_nx rfl rfl ?_
    exact ri_rt rfl rfl
set_option maxRecDepth 20000 in
theorem w209_128_0   : ri_ev 0 none (tb209, 1, 4) (0, lv_args 0 [.ref 571], [], st6_M, 0, 0) (some (.int 0), st6_M, 0, 0) := by
  refine ri_nx rfl rfl ?_
  refine ri_gf rfl cl_st6_M_571 (by decide) rfl ?_
  refine ri_nx rfl rfl ?_
  refine ri_ia rfl cl_st6_M_572 (by decide) (by decide) rfl ?_
  refine ri_nx rfl rfl ?_
  refine ri_nx rfl rfl ?_
  exact ri_rt rfl rfl
set_option maxRecDepth 20000 in
theorem w297_128_0 (p0 : Int32)  : ri_ev 2 none (tb297, 6, 1) (0, lv_args 0 [.ref 571, .int p0], [], p1_M, 0, 0) (some (.int (-2)), st6_M, 0, 0) := by
  refine ri_nx rfl rfl ?_
  refine ri_vc rfl rfl cl_p1_M_571 rfl (by decide) rfl (Nat.le_of_ble_eq_true rfl) (ri_ev_d (w220_8_0 ) (by decide)) ?_
  refine ri_nx rfl rfl ?_
  refine ri_vc rfl rfl cl_st6_M_571 rfl (by decide) rfl (Nat.le_of_ble_eq_true rfl) (ri_ev_d (w209_128_0 ) (by decide)) ?_
  refine ri_nx rfl rfl ?_
  refine ri_nx rfl rfl ?_
  exact ri_rt rfl rfl
set_option maxRecDepth 20000 in
theorem w140_130_0 (p0 : Int32) (p1 : Int32) (p2 : Int32)  : ri_ev 2 none (tb140, 4, 1) (0, lv_args 0 [.ref 0, .int p0, .int p1, .int p2], [], p1_M, 0, 0) (some (.int (-2)), p1_M, 0, 0) := by
  refine ri_nx rfl rfl ?_
  refine ri_nx rfl rfl ?_
  refine ri_nx rfl rfl ?_
  refine ri_vc rfl rfl cl_p1_M_0 rfl (by decide) rfl (Nat.le_of_ble_eq_true rfl) (ri_ev_d (w157_20_0 p0 p1) (by decide)) ?_
  refine ri_nx rfl rfl ?_
  refine ri_nx rfl rfl ?_
  exact ri_rt rfl rfl
set_option maxRecDepth 20000 in
theorem w299_131_0 (p0 : Int32) (p1 : Int32) (p2 : Int32)  : ri_ev 3 none (tb299, 4, 1) (0, lv_args 0 [.ref 571, .int p0, .int p1, .int p2], [], p1_M, 0, 0) (some (.int (-2)), st6_M, 0, 0) := by
  refine ri_nx rfl rfl ?_
  refine ri_nx rfl rfl ?_
  refine ri_nx rfl rfl ?_
  refine ri_vc rfl rfl cl_p1_M_571 rfl (by decide) rfl (Nat.le_of_ble_eq_true rfl) (ri_ev_d (w224_23_0 p0 p1) (by decide)) ?_
  refine ri_nx rfl rfl ?_
  refine ri_nx rfl rfl ?_
  exact ri_rt rfl rfl
set_option maxRecDepth 20000 in
theorem w141_132_0   : ri_ev 0 none (tb141, 4, 1) (0, lv_args 0 [.ref 0], [], p1_M, 0, 0) (some (.int (-2)), p1_M, 0, 0) := by
  refine ri_nx rfl rfl ?_
  refine ri_gf rfl cl_p1_M_0 (by decide) rfl ?_
  refine ri_gf rfl cl_p1_M_5 (by decide) rfl ?_
  refine ri_gf rfl cl_p1_M_6 (by decide) rfl ?_
  refine ri_nx rfl rfl ?_
  refine ri_nx rfl rfl ?_
  exact ri_rt rfl rfl
set_option maxRecDepth 20000 in
theorem w300_133_0   : ri_ev 1 none (tb300, 4, 1) (0, lv_args 0 [.ref 571], [], p1_M, 0, 0) (some (.int (-2)), p1_M, 0, 0) := by
  refine ri_nx rfl rfl ?_
  refine ri_vc rfl rfl cl_p1_M_571 rfl (by decide) rfl (Nat.le_of_ble_eq_true rfl) (ri_ev_d (w209_43_0 ) (by decide)) ?_
  refine ri_nx rfl rfl ?_
  refine ri_nx rfl rfl ?_
  exact ri_rt rfl rfl
set_option maxRecDepth 20000 in
theorem w142_134_0 (p0 : Int32) (h18 : p0 < (0 : Int32)) : ri_ev 8 none (tb142, 2, 1) (0, lv_args 0 [.ref 0, .int p0], [], p1_M, 0, 0) (some (.int (-2)), p1_M, 0, 0) := by
  refine ri_nx rfl rfl ?_
  refine ri_nx rfl rfl ?_
  refine ri_vc rfl rfl cl_p1_M_0 rfl (by decide) rfl (Nat.le_of_ble_eq_true rfl) (ri_ev_d (w158_6_0 p0 h18) (by decide)) ?_
  refine ri_nx rfl rfl ?_
  refine ri_nx rfl rfl ?_
  exact ri_rt rfl rfl
set_option maxRecDepth 20000 in
theorem w142_134_1 (p0 : Int32) (h18 : ¬ p0 < (0 : Int32)) : ri_ev 8 none (tb142, 2, 1) (0, lv_args 0 [.ref 0, .int p0], [], p1_M, 0, 0) (some (.int (-2)), cr4_M, 0, 0) := by
  refine ri_nx rfl rfl ?_
  refine ri_nx rfl rfl ?_
  refine ri_vc rfl rfl cl_p1_M_0 rfl (by decide) rfl (Nat.le_of_ble_eq_true rfl) (ri_ev_d (w158_6_1 p0 h18) (by decide)) ?_
  refine ri_nx rfl rfl ?_
  refine ri_nx rfl rfl ?_
  exact ri_rt rfl rfl
set_option maxRecDepth 20000 in
theorem w303_135_0 (p0 : Int32)  : ri_ev 3 none (tb303, 2, 1) (0, lv_args 0 [.ref 571, .int p0], [], p1_M, 0, 0) (some (.int (-2)), st6_M, 0, 0) := by
  refine ri_nx rfl rfl ?_
  refine ri_nx rfl rfl ?_
  refine ri_vc rfl rfl cl_p1_M_571 rfl (by decide) rfl (Nat.le_of_ble_eq_true rfl) (ri_ev_d (w221_8_0 p0) (by decide)) ?_
  refine ri_nx rfl rfl ?_
  refine ri_nx rfl rfl ?_
  exact ri_rt rfl rfl
set_option maxRecDepth 20000 in
theorem w303_136_0 (p0 : Int32)  : ri_ev 3 none (tb303, 2, 1) (0, lv_args 0 [.ref 571, .int p0], [], cr4_M, 0, 0) (some (.int (-2)), st8_M, 0, 0) := by
  refine ri_nx rfl rfl ?_
  refine ri_nx rfl rfl ?_
  refine ri_vc rfl rfl cl_cr4_M_571 rfl (by decide) rfl (Nat.le_of_ble_eq_true rfl) (ri_ev_d (w221_14_0 p0) (by decide)) ?_
  refine ri_nx rfl rfl ?_
  refine ri_nx rfl rfl ?_
  exact ri_rt rfl rfl
set_option maxRecDepth 20000 in
theorem w143_137_0 (p0 : Int32) (p1 : Int32)  : ri_ev 2 none (tb143, 3, 1) (0, lv_args 0 [.ref 0, .int p0, .int p1], [], p1_M, 0, 0) (some (.int (-2)), p1_M, 0, 0) := by
  refine ri_nx rfl rfl ?_
  refine ri_nx rfl rfl ?_
  refine ri_nx rfl rfl ?_
  refine ri_vc rfl rfl cl_p1_M_0 rfl (by decide) rfl (Nat.le_of_ble_eq_true rfl) (ri_ev_d (w157_20_0 p0 p1) (by decide)) ?_
  refine ri_nx rfl rfl ?_
  refine ri_nx rfl rfl ?_
  exact ri_rt rfl rfl
set_option maxRecDepth 20000 in
theorem w304_138_0 (p0 : Int32) (p1 : Int32)  : ri_ev 3 none (tb304, 4, 1) (0, lv_args 0 [.ref 571, .int p0, .int p1], [], p1_M, 0, 0) (some (.int (-2)), st6_M, 0, 0) := by
  refine ri_nx rfl rfl ?_
  refine ri_nx rfl rfl ?_
  refine ri_nx rfl rfl ?_
  refine ri_vc rfl rfl cl_p1_M_571 rfl (by decide) rfl (Nat.le_of_ble_eq_true rfl) (ri_ev_d (w224_23_0 p0 p1) (by decide)) ?_
  refine ri_nx rfl rfl ?_
  refine ri_nx rfl rfl ?_
  exact ri_rt rfl rfl
set_option maxRecDepth 20000 in
theorem w144_139_0   : ri_ev 0 none (tb144, 1, 1) (0, lv_args 0 [.ref 0], [], p1_M, 0, 0) (some (.int (-2)), p1_M, 0, 0) := by
  refine ri_nx rfl rfl ?_
  refine ri_gf rfl cl_p1_M_0 (by decide) rfl ?_
  refine ri_gf rfl cl_p1_M_5 (by decide) rfl ?_
  refine ri_gf rfl cl_p1_M_6 (by decide) rfl ?_
  refine ri_nx rfl rfl ?_
  refine ri_nx rfl rfl ?_
  exact ri_rt rfl rfl
set_option maxRecDepth 20000 in
theorem w305_140_0   : ri_ev 1 none (tb305, 6, 1) (0, lv_args 0 [.ref 571], [], p1_M, 0, 0) (some (.int (-2)), p1_M, 0, 0) := by
  refine ri_nx rfl rfl ?_
  refine ri_vc rfl rfl cl_p1_M_571 rfl (by decide) rfl (Nat.le_of_ble_eq_true rfl) (ri_ev_d (w209_43_0 ) (by decide)) ?_
  refine ri_nx rfl rfl ?_
  refine ri_nx rfl rfl ?_
  exact ri_rt rfl rfl
set_option maxRecDepth 20000 in
theorem w145_141_0 (p0 : Int32) (p1 : Int32)  : ri_ev 2 none (tb145, 3, 1) (0, lv_args 0 [.ref 0, .int p0, .int p1], [], p1_M, 0, 0) (some (.int (-2)), p1_M, 0, 0) := by
  refine ri_nx rfl rfl ?_
  refine ri_nx rfl rfl ?_
  refine ri_nx rfl rfl ?_
  refine ri_vc rfl rfl cl_p1_M_0 rfl (by decide) rfl (Nat.le_of_ble_eq_true rfl) (ri_ev_d (w157_20_0 p0 p1) (by decide)) ?_
  refine ri_nx rfl rfl ?_
  refine ri_nx rfl rfl ?_
  exact ri_rt rfl rfl
set_option maxRecDepth 20000 in
theorem w309_142_0 (p0 : Int32) (p1 : Int32)  : ri_ev 3 none (tb309, 3, 1) (0, lv_args 0 [.ref 571, .int p0, .int p1], [], p1_M, 0, 0) (some (.int (-2)), st6_M, 0, 0) := by
  refine ri_nx rfl rfl ?_
  refine ri_nx rfl rfl ?_
  refine ri_nx rfl rfl ?_
  refine ri_vc rfl rfl cl_p1_M_571 rfl (by decide) rfl (Nat.le_of_ble_eq_true rfl) (ri_ev_d (w224_23_0 p0 p1) (by decide)) ?_
  refine ri_nx rfl rfl ?_
  refine ri_nx rfl rfl ?_
  exact ri_rt rfl rfl
set_option maxRecDepth 20000 in
theorem w146_143_0 (p0 : Int32) (h19 : p0 < (0 : Int32)) : ri_ev 8 none (tb146, 2, 1) (0, lv_args 0 [.ref 0, .int p0], [], p1_M, 0, 0) (some (.int (-2)), p1_M, 0, 0) := by
  refine ri_nx rfl rfl ?_
  refine ri_nx rfl rfl ?_
  refine ri_vc rfl rfl cl_p1_M_0 rfl (by decide) rfl (Nat.le_of_ble_eq_true rfl) (ri_ev_d (w158_6_0 p0 h19) (by decide)) ?_
  refine ri_nx rfl rfl ?_
  refine ri_nx rfl rfl ?_
  exact ri_rt rfl rfl
set_option maxRecDepth 20000 in
theorem w146_143_1 (p0 : Int32) (h19 : ¬ p0 < (0 : Int32)) : ri_ev 8 none (tb146, 2, 1) (0, lv_args 0 [.ref 0, .int p0], [], p1_M, 0, 0) (some (.int (-2)), cr4_M, 0, 0) := by
  refine ri_nx rfl rfl ?_
  refine ri_nx rfl rfl ?_
  refine ri_vc rfl rfl cl_p1_M_0 rfl (by decide) rfl (Nat.le_of_ble_eq_true rfl) (ri_ev_d (w158_6_1 p0 h19) (by decide)) ?_
  refine ri_nx rfl rfl ?_
  refine ri_nx rfl rfl ?_
  exact ri_rt rfl rfl
set_option maxRecDepth 20000 in
theorem w310_144_0 (p0 : Int32)  : ri_ev 3 none (tb310, 4, 1) (0, lv_args 0 [.ref 571, .int p0], [], p1_M, 0, 0) (some (.int (-2)), st6_M, 0, 0) := by
  refine ri_nx rfl rfl ?_
  refine ri_nx rfl rfl ?_
  refine ri_vc rfl rfl cl_p1_M_571 rfl (by decide) rfl (Nat.le_of_ble_eq_true rfl) (ri_ev_d (w221_8_0 p0) (by decide)) ?_
  refine ri_nx rfl rfl ?_
  refine ri_nx rfl rfl ?_
  exact ri_rt rfl rfl
set_option maxRecDepth 20000 in
theorem w310_145_0 (p0 : Int32)  : ri_ev 3 none (tb310, 4, 1) (0, lv_args 0 [.ref 571, .int p0], [], cr4_M, 0, 0) (some (.int (-2)), st8_M, 0, 0) := by
  refine ri_nx rfl rfl ?_
  refine ri_nx rfl rfl ?_
  refine ri_vc rfl rfl cl_cr4_M_571 rfl (by decide) rfl (Nat.le_of_ble_eq_true rfl) (ri_ev_d (w221_14_0 p0) (by decide)) ?_
  refine ri_nx rfl rfl ?_
  refine ri_nx rfl rfl ?_
  exact ri_rt rfl rfl
set_option maxRecDepth 20000 in
theorem w147_146_0 (p0 : Int32) (p1 : Int32)  : ri_ev 0 none (tb147, 3, 1) (0, lv_args 0 [.ref 0, .int p0, .int p1], [], p1_M, 0, 0) (some (.int (-2)), p1_M, 0, 0) := by
  refine ri_nx rfl rfl ?_
  refine ri_gf rfl cl_p1_M_0 (by decide) rfl ?_
  refine ri_gf rfl cl_p1_M_5 (by decide) rfl ?_
  refine ri_gf rfl cl_p1_M_6 (by decide) rfl ?_
  refine ri_nx rfl rfl ?_
  refine ri_nx rfl rfl ?_
  exact ri_rt rfl rfl
set_option maxRecDepth 20000 in
theorem w311_147_0 (p0 : Int32) (p1 : Int32)  : ri_ev 1 none (tb311, 3, 1) (0, lv_args 0 [.ref 571, .int p0, .int p1], [], p1_M, 0, 0) (some (.int (-2)), p1_M, 0, 0) := by
  refine ri_nx rfl rfl ?_
  refine ri_vc rfl rfl cl_p1_M_571 rfl (by decide) rfl (Nat.le_of_ble_eq_true rfl) (ri_ev_d (w209_43_0 ) (by decide)) ?_
  refine ri_nx rfl rfl ?_
  refine ri_nx rfl rfl ?_
  exact ri_rt rfl rfl
set_option maxRecDepth 20000 in
theorem w148_148_0 (p0 : Int32)  : ri_ev 8 none (tb148, 2, 1) (0, lv_args 0 [.ref 0, .int p0], [], p1_M, 0, 0) (some (.int (-2)), cr9_M, 0, 0) := by
  refine ri_nx rfl rfl ?_
  refine ri_nx rfl rfl ?_
  refine ri_vc rfl rfl cl_p1_M_0 rfl (by decide) rfl (Nat.le_of_ble_eq_true rfl) (ri_ev_d (w159_48 p0) (by decide)) ?_
  refine ri_nx rfl rfl ?_
  refine ri_nx rfl rfl ?_
  exact ri_rt rfl rfl
set_option maxRecDepth 20000 in
theorem w312_149_0 (p0 : Int32)  : ri_ev 3 none (tb312, 6, 1) (0, lv_args 0 [.ref 571, .int p0], [], cr9_M, 0, 0) (some (.int (-2)), st11_M, 0, 0) := by
  refine ri_nx rfl rfl ?_
  refine ri_nx rfl rfl ?_
  refine ri_vc rfl rfl cl_cr9_M_571 rfl (by decide) rfl (Nat.le_of_ble_eq_true rfl) (ri_ev_d (w222_50_0 p0) (by decide)) ?_
  refine ri_nx rfl rfl ?_
  refine ri_nx rfl rfl ?_
  exact ri_rt rfl rfl
set_option maxRecDepth 20000 in
theorem w151_150_0   : ri_ev 0 none (tb151, 1, 1) (0, lv_args 0 [.ref 0], [], p1_M, 0, 0) (some (.int (-2)), p1_M, 0, 0) := by
  refine ri_nx rfl rfl ?_
  refine ri_gf rfl cl_p1_M_0 (by decide) rfl ?_
  refine ri_gf rfl cl_p1_M_5 (by decide) rfl ?_
  refine ri_gf rfl cl_p1_M_6 (by decide) rfl ?_
  refine ri_nx rfl rfl ?_
  refine ri_nx rfl rfl ?_
  exact ri_rt rfl rfl
set_option maxRecDepth 20000 in
theorem w315_151_0   : ri_ev 1 none (tb315, 1, 1) (0, lv_args 0 [.ref 571], [], p1_M, 0, 0) (some (.int (-2)), p1_M, 0, 0) := by
  refine ri_nx rfl rfl ?_
  refine ri_vc rfl rfl cl_p1_M_571 rfl (by decide) rfl (Nat.le_of_ble_eq_true rfl) (ri_ev_d (w209_43_0 ) (by decide)) ?_
  refine ri_nx rfl rfl ?_
  refine ri_nx rfl rfl ?_
  exact ri_rt rfl rfl
set_option maxRecDepth 20000 in
theorem w152_152_0   : ri_ev 0 none (tb152, 2, 1) (0, lv_args 0 [.ref 0], [], p1_M, 0, 0) (some (.int (-2)), p1_M, 0, 0) := by
  refine ri_nx rfl rfl ?_
  refine ri_gf rfl cl_p1_M_0 (by decide) rfl ?_
  refine ri_gf rfl cl_p1_M_5 (by decide) rfl ?_
  refine ri_gf rfl cl_p1_M_6 (by decide) rfl ?_
  refine ri_nx rfl rfl ?_
  refine ri_nx rfl rfl ?_
  exact ri_rt rfl rfl
set_option maxRecDepth 20000 in
theorem w316_153_0   : ri_ev 1 none (tb316, 2, 1) (0, lv_args 0 [.ref 571], [], p1_M, 0, 0) (some (.int (-2)), p1_M, 0, 0) := by
  refine ri_nx rfl rfl ?_
  refine ri_vc rfl rfl cl_p1_M_571 rfl (by decide) rfl (Nat.le_of_ble_eq_true rfl) (ri_ev_d (w209_43_0 ) (by decide)) ?_
  refine ri_nx rfl rfl ?_
  refine ri_nx rfl rfl ?_
  exact ri_rt rfl rfl
set_option maxRecDepth 20000 in
theorem w94_154_0 (p0 : Int32) (f0 : p0 < (0 : Int32))  : ri_ev 0 none (tb94, 2, 1) (0, lv_args 0 [.ref 0, .int p0], [], p1_M, 0, 0) (some (.int (-1)), p1_M, 0, 0) := by
  refine ri_nx rfl rfl ?_
  refine ri_nx rfl (if_pos f0) ?_
  refine ri_nx rfl rfl ?_
  exact ri_rt rfl rfl
set_option maxRecDepth 20000 in
theorem w191_155_0 (p0 : Int32) (f0 : p0 < (0 : Int32))  : ri_ev 1 none (tb191, 2, 1) (0, lv_args 0 [.ref 571, .int p0], [], p1_M, 0, 0) (some (.int (-1)), p1_M, 0, 0) := by
  refine ri_nx rfl rfl ?_
  refine ri_nx rfl rfl ?_
  refine ri_nx rfl rfl ?_
  refine ri_nx rfl rfl ?_
  refine ri_gf rfl cl_p1_M_571 (by decide) rfl ?_
  refine ri_nx rfl rfl ?_
  refine ri_cll rfl rfl rfl (Nat.le_of_ble_eq_true rfl) (ri_ev_d (p1_inF (Or.inl (p1_lt64 f0))) (by decide)) ?_
  refine ri_nx rfl rfl ?_
  refine ri_nx rfl rfl ?_
  exact ri_rt rfl rfl
set_option maxRecDepth 20000 in
theorem w94_156_0 (p0 : Int32) (f0 : ¬ p0 < (0 : Int32)) (f1 : ¬ p0 ≤ (0 : Int32))  : ri_ev 0 none (tb94, 2, 1) (0, lv_args 0 [.ref 0, .int p0], [], p1_M, 0, 0) (some (.int (-1)), p1_M, 0, 0) := by
  refine ri_nx rfl rfl ?_
  refine ri_nx rfl (if_neg f0) ?_
  refine ri_nx rfl rfl ?_
  refine ri_nx rfl rfl ?_
  refine ri_gf rfl cl_p1_M_0 (by decide) rfl ?_
  refine ri_gf rfl cl_p1_M_1 (by decide) rfl ?_
  refine ri_nx rfl (if_neg f1) ?_
  refine ri_nx rfl rfl ?_
  exact ri_rt rfl rfl
set_option maxRecDepth 20000 in
theorem w191_157_0 (p0 : Int32) (f0 : ¬ p0 < (0 : Int32)) (f1 : ¬ p0 ≤ (0 : Int32))  : ri_ev 1 none (tb191, 2, 1) (0, lv_args 0 [.ref 571, .int p0], [], p1_M, 0, 0) (some (.int (-1)), p1_M, 0, 0) := by
  refine ri_nx rfl rfl ?_
  refine ri_nx rfl rfl ?_
  refine ri_nx rfl rfl ?_
  refine ri_nx rfl rfl ?_
  refine ri_gf rfl cl_p1_M_571 (by decide) rfl ?_
  refine ri_nx rfl rfl ?_
  refine ri_cll rfl rfl rfl (Nat.le_of_ble_eq_true rfl) (ri_ev_d (p1_inF (Or.inr (p1_gt64b f1))) (by decide)) ?_
  refine ri_nx rfl rfl ?_
  refine ri_nx rfl rfl ?_
  exact ri_rt rfl rfl
set_option maxRecDepth 20000 in
theorem w96_158_0   : ri_ev 0 none (tb96, 2, 1) (0, lv_args 0 [.ref 0, .int 0], [], p1_M, 0, 0) (some (.int 0), p1_M, 0, 0) := by
  refine ri_nx rfl rfl ?_
  refine ri_nx rfl rfl ?_
  refine ri_nx rfl rfl ?_
  refine ri_gf rfl cl_p1_M_0 (by decide) rfl ?_
  refine ri_gf rfl cl_p1_M_1 (by decide) rfl ?_
  exact ri_rt rfl rfl
set_option maxRecDepth 20000 in
theorem w207_159_0   : ri_ev 0 none (tb207, 2, 1) (0, lv_args 0 [.ref 571, .int 0], [], p1_M, 0, 0) (some (.int 0), p1_M, 0, 0) := by
  refine ri_nx rfl rfl ?_
  refine ri_nx rfl rfl ?_
  refine ri_nx rfl rfl ?_
  refine ri_gf rfl cl_p1_M_571 (by decide) rfl ?_
  refine ri_nx rfl rfl ?_
  exact ri_rt rfl rfl
set_option maxRecDepth 20000 in
theorem w96_160_0   : ri_ev 0 none (tb96, 2, 1) (0, lv_args 0 [.ref 0, .int 1], [], p1_M, 0, 0) (some (.int (-1)), p1_M, 0, 0) := by
  refine ri_nx rfl rfl ?_
  refine ri_nx rfl rfl ?_
  refine ri_nx rfl rfl ?_
  refine ri_nx rfl rfl ?_
  refine ri_nx rfl rfl ?_
  refine ri_nx rfl rfl ?_
  refine ri_gf rfl cl_p1_M_0 (by decide) rfl ?_
  refine ri_gf rfl cl_p1_M_1 (by decide) rfl ?_
  refine ri_nx rfl rfl ?_
  exact ri_rt rfl rfl
set_option maxRecDepth 20000 in
theorem w207_161_0   : ri_ev 0 none (tb207, 2, 1) (0, lv_args 0 [.ref 571, .int 1], [], p1_M, 0, 0) (some (.int (-1)), p1_M, 0, 0) := by
  refine ri_nx rfl rfl ?_
  refine ri_nx rfl rfl ?_
  refine ri_nx rfl rfl ?_
  refine ri_nx rfl rfl ?_
  refine ri_nx rfl rfl ?_
  refine ri_nx rfl rfl ?_
  refine ri_gf rfl cl_p1_M_571 (by decide) rfl ?_
  refine ri_nx rfl rfl ?_
  exact ri_rt rfl rfl
set_option maxRecDepth 20000 in
theorem w96_162_0 (p0 : Int32) (f0 : ¬ p0 = (0 : Int32)) (f1 : ¬ p0 = (1 : Int32))  : ri_ev 0 none (tb96, 2, 1) (0, lv_args 0 [.ref 0, .int p0], [], p1_M, 0, 0) (some (.int (-1)), p1_M, 0, 0) := by
  refine ri_nx rfl rfl ?_
  refine ri_nx rfl (if_pos f0) ?_
  refine ri_nx rfl rfl ?_
  refine ri_nx rfl rfl ?_
  refine ri_nx rfl (if_pos f1) ?_
  refine ri_nx rfl rfl ?_
  exact ri_rt rfl rfl
set_option maxRecDepth 20000 in
theorem w207_163_0 (p0 : Int32) (f0 : ¬ p0 = (0 : Int32)) (f1 : ¬ p0 = (1 : Int32))  : ri_ev 0 none (tb207, 2, 1) (0, lv_args 0 [.ref 571, .int p0], [], p1_M, 0, 0) (some (.int (-1)), p1_M, 0, 0) := by
  refine ri_nx rfl rfl ?_
  refine ri_nx rfl (if_pos f0) ?_
  refine ri_nx rfl rfl ?_
  refine ri_nx rfl rfl ?_
  refine ri_nx rfl (if_pos f1) ?_
  refine ri_nx rfl rfl ?_
  exact ri_rt rfl rfl
set_option maxRecDepth 20000 in
theorem w97_164_0   : ri_ev 0 none (tb97, 2, 1) (0, lv_args 0 [.ref 0, .int 0], [], p1_M, 0, 0) (some (.int 0), p1_M, 0, 0) := by
  refine ri_nx rfl rfl ?_
  refine ri_nx rfl rfl ?_
  refine ri_nx rfl rfl ?_
  refine ri_gf rfl cl_p1_M_0 (by decide) rfl ?_
  refine ri_gf rfl cl_p1_M_5 (by decide) rfl ?_
  refine ri_gf rfl cl_p1_M_6 (by decide) rfl ?_
  exact ri_rt rfl rfl
set_option maxRecDepth 20000 in
theorem w225_165_0   : ri_ev 2 none (tb225, 2, 1) (0, lv_args 0 [.ref 571, .int 0], [], p1_M, 0, 0) (some (.int 0), st6_M, 0, 0) := by
  refine ri_nx rfl rfl ?_
  refine ri_vc rfl rfl cl_p1_M_571 rfl (by decide) rfl (Nat.le_of_ble_eq_true rfl) (ri_ev_d (w220_8_0 ) (by decide)) ?_
  refine ri_nx rfl rfl ?_
  refine ri_nx rfl rfl ?_
  refine ri_nx rfl rfl ?_
  refine ri_gf rfl cl_st6_M_571 (by decide) rfl ?_
  refine ri_nx rfl rfl ?_
  refine ri_ia rfl cl_st6_M_572 (by decide) (by decide) rfl ?_
  exact ri_rt rfl rfl
set_option maxRecDepth 20000 in
theorem w26_166_0   : ri_ev 0 none (tb26, 3, 1) (0, lv_args 0 [.ref 6], [], p1_M, 0, 0) (some (.int 0), p1_M, 0, 0) := by
  refine ri_nx rfl rfl ?_
  refine ri_nx rfl rfl ?_
  refine ri_nx rfl rfl ?_
  refine ri_nx rfl rfl ?_
  refine ri_nx rfl rfl ?_
  refine ri_nx rfl rfl ?_
  refine ri_gf rfl cl_p1_M_6 (by decide) rfl ?_
  refine ri_nx rfl rfl ?_
  refine ri_nx rfl rfl ?_
  refine ri_nx rfl rfl ?_
  refine ri_nx rfl rfl ?_
  exact ri_rt rfl rfl
set_option maxRecDepth 20000 in
theorem w97_166_0   : ri_ev 1 none (tb97, 2, 1) (0, lv_args 0 [.ref 0, .int 1], [], p1_M, 0, 0) (some (.int 0), p1_M, 0, 0) := by
  refine ri_nx rfl rfl ?_
  refine ri_nx rfl rfl ?_
  refine ri_nx rfl rfl ?_
  refine ri_gf rfl cl_p1_M_0 (by decide) rfl ?_
  refine ri_gf rfl cl_p1_M_5 (by decide) rfl ?_
  refine ri_vc rfl rfl cl_p1_M_6 rfl (by decide) rfl (Nat.le_of_ble_eq_true rfl) (ri_ev_d (w26_166_0 ) (by decide)) ?_
  exact ri_rt rfl rfl
set_option maxRecDepth 20000 in
theorem w225_168_0   : ri_ev 2 none (tb225, 2, 1) (0, lv_args 0 [.ref 571, .int 1], [], p1_M, 0, 0) (some (.int 0), st6_M, 0, 0) := by
  refine ri_nx rfl rfl ?_
  refine ri_vc rfl rfl cl_p1_M_571 rfl (by decide) rfl (Nat.le_of_ble_eq_true rfl) (ri_ev_d (w220_8_0 ) (by decide)) ?_
  refine ri_nx rfl rfl ?_
  refine ri_nx rfl rfl ?_
  refine ri_nx rfl rfl ?_
  refine ri_gf rfl cl_st6_M_571 (by decide) rfl ?_
  exact ri_rt rfl rfl
set_option maxRecDepth 20000 in
theorem w97_169_0   : ri_ev 0 none (tb97, 2, 1) (0, lv_args 0 [.ref 0, .int 2], [], p1_M, 0, 0) (some (.int 0), p1_M, 0, 0) := by
  refine ri_nx rfl rfl ?_
  refine ri_nx rfl rfl ?_
  refine ri_nx rfl rfl ?_
  refine ri_gf rfl cl_p1_M_0 (by decide) rfl ?_
  refine ri_gf rfl cl_p1_M_171 (by decide) rfl ?_
  exact ri_rt rfl rfl
set_option maxRecDepth 20000 in
theorem w225_170_0   : ri_ev 2 none (tb225, 2, 1) (0, lv_args 0 [.ref 571, .int 2], [], p1_M, 0, 0) (some (.int 0), st6_M, 0, 0) := by
  refine ri_nx rfl rfl ?_
  refine ri_vc rfl rfl cl_p1_M_571 rfl (by decide) rfl (Nat.le_of_ble_eq_true rfl) (ri_ev_d (w220_8_0 ) (by decide)) ?_
  refine ri_nx rfl rfl ?_
  refine ri_nx rfl rfl ?_
  refine ri_nx rfl rfl ?_
  refine ri_gf rfl cl_st6_M_571 (by decide) rfl ?_
  refine ri_nx rfl rfl ?_
  refine ri_ia rfl cl_st6_M_572 (by decide) (by decide) rfl ?_
  exact ri_rt rfl rfl
set_option maxRecDepth 20000 in
theorem w97_171_0   : ri_ev 7 none (tb97, 2, 1) (0, lv_args 0 [.ref 0, .int 3], [], p1_M, 0, 0) (some (.int 0), cr12_M, 0, 0) := by
  refine ri_nx rfl rfl ?_
  refine ri_nx rfl rfl ?_
  refine ri_nx rfl rfl ?_
  refine ri_gf rfl cl_p1_M_0 (by decide) rfl ?_
  refine ri_vc rfl rfl cl_p1_M_5 rfl (by decide) rfl (Nat.le_of_ble_eq_true rfl) (ri_ev_d (cr12_ev) (by decide)) ?_
  refine ri_gf rfl cl_cr12_M_75 (by decide) rfl ?_
  exact ri_rt rfl rfl
set_option maxRecDepth 20000 in
theorem w225_172_0   : ri_ev 2 none (tb225, 2, 1) (0, lv_args 0 [.ref 571, .int 3], [], cr12_M, 0, 0) (some (.int 0), st14_M, 0, 0) := by
  refine ri_nx rfl rfl ?_
  refine ri_vc rfl rfl cl_cr12_M_571 rfl (by decide) rfl (Nat.le_of_ble_eq_true rfl) (ri_ev_d (w220_113_0 ) (by decide)) ?_
  refine ri_nx rfl rfl ?_
  refine ri_nx rfl rfl ?_
  refine ri_nx rfl rfl ?_
  refine ri_gf rfl cl_st14_M_571 (by decide) rfl ?_
  exact ri_rt rfl rfl
set_option maxRecDepth 20000 in
theorem w97_173_0   : ri_ev 7 none (tb97, 2, 1) (0, lv_args 0 [.ref 0, .int 4], [], p1_M, 0, 0) (some (.int 0), cr12_M, 0, 0) := by
  refine ri_nx rfl rfl ?_
  refine ri_nx rfl rfl ?_
  refine ri_nx rfl rfl ?_
  refine ri_gf rfl cl_p1_M_0 (by decide) rfl ?_
  refine ri_vc rfl rfl cl_p1_M_5 rfl (by decide) rfl (Nat.le_of_ble_eq_true rfl) (ri_ev_d (cr12_ev) (by decide)) ?_
  refine ri_gf rfl cl_cr12_M_75 (by decide) rfl ?_
  exact ri_rt rfl rfl
set_option maxRecDepth 20000 in
theorem w225_174_0   : ri_ev 2 none (tb225, 2, 1) (0, lv_args 0 [.ref 571, .int 4], [], cr12_M, 0, 0) (some (.int 0), st14_M, 0, 0) := by
  refine ri_nx rfl rfl ?_
  refine ri_vc rfl rfl cl_cr12_M_571 rfl (by decide) rfl (Nat.le_of_ble_eq_true rfl) (ri_ev_d (w220_113_0 ) (by decide)) ?_
  refine ri_nx rfl rfl ?_
  refine ri_nx rfl rfl ?_
  refine ri_nx rfl rfl ?_
  refine ri_gf rfl cl_st14_M_571 (by decide) rfl ?_
  exact ri_rt rfl rfl
set_option maxRecDepth 20000 in
theorem w97_175_0   : ri_ev 0 none (tb97, 2, 1) (0, lv_args 0 [.ref 0, .int 5], [], p1_M, 0, 0) (some (.int 0), p1_M, 0, 0) := by
  refine ri_nx rfl rfl ?_
  refine ri_nx rfl rfl ?_
  refine ri_nx rfl rfl ?_
  refine ri_gf rfl cl_p1_M_0 (by decide) rfl ?_
  refine ri_gf rfl cl_p1_M_171 (by decide) rfl ?_
  exact ri_rt rfl rfl
set_option maxRecDepth 20000 in
theorem w225_176_0   : ri_ev 2 none (tb225, 2, 1) (0, lv_args 0 [.ref 571, .int 5], [], p1_M, 0, 0) (some (.int 0), st6_M, 0, 0) := by
  refine ri_nx rfl rfl ?_
  refine ri_vc rfl rfl cl_p1_M_571 rfl (by decide) rfl (Nat.le_of_ble_eq_true rfl) (ri_ev_d (w220_8_0 ) (by decide)) ?_
  refine ri_nx rfl rfl ?_
  refine ri_nx rfl rfl ?_
  refine ri_nx rfl rfl ?_
  refine ri_gf rfl cl_st6_M_571 (by decide) rfl ?_
  exact ri_rt rfl rfl
set_option maxRecDepth 20000 in
theorem w97_177_0   : ri_ev 0 none (tb97, 2, 1) (0, lv_args 0 [.ref 0, .int 6], [], p1_M, 0, 0) (some (.int 0), p1_M, 0, 0) := by
  refine ri_nx rfl rfl ?_
  refine ri_nx rfl rfl ?_
  refine ri_nx rfl rfl ?_
  refine ri_gf rfl cl_p1_M_0 (by decide) rfl ?_
  refine ri_gf rfl cl_p1_M_1 (by decide) rfl ?_
  exact ri_rt rfl rfl
set_option maxRecDepth 20000 in
theorem w225_178_0   : ri_ev 2 none (tb225, 2, 1) (0, lv_args 0 [.ref 571, .int 6], [], p1_M, 0, 0) (some (.int 0), st6_M, 0, 0) := by
  refine ri_nx rfl rfl ?_
  refine ri_vc rfl rfl cl_p1_M_571 rfl (by decide) rfl (Nat.le_of_ble_eq_true rfl) (ri_ev_d (w220_8_0 ) (by decide)) ?_
  refine ri_nx rfl rfl ?_
  refine ri_nx rfl rfl ?_
  refine ri_nx rfl rfl ?_
  refine ri_gf rfl cl_st6_M_571 (by decide) rfl ?_
  exact ri_rt rfl rfl
set_option maxRecDepth 20000 in
theorem w97_179_0   : ri_ev 0 none (tb97, 2, 1) (0, lv_args 0 [.ref 0, .int 7], [], p1_M, 0, 0) (some (.int 0), p1_M, 0, 0) := by
  refine ri_nx rfl rfl ?_
  refine ri_nx rfl rfl ?_
  refine ri_nx rfl rfl ?_
  refine ri_gf rfl cl_p1_M_0 (by decide) rfl ?_
  exact ri_rt rfl rfl
set_option maxRecDepth 20000 in
theorem w225_180_0   : ri_ev 2 none (tb225, 2, 1) (0, lv_args 0 [.ref 571, .int 7], [], p1_M, 0, 0) (some (.int 0), st6_M, 0, 0) := by
  refine ri_nx rfl rfl ?_
  refine ri_vc rfl rfl cl_p1_M_571 rfl (by decide) rfl (Nat.le_of_ble_eq_true rfl) (ri_ev_d (w220_8_0 ) (by decide)) ?_
  refine ri_nx rfl rfl ?_
  refine ri_nx rfl rfl ?_
  refine ri_nx rfl rfl ?_
  refine ri_gf rfl cl_st6_M_571 (by decide) rfl ?_
  exact ri_rt rfl rfl
set_option maxRecDepth 20000 in
theorem w97_181_0 (p0 : Int32) (f0 : p0.toInt < 0 ∨ 7 < p0.toInt)  : ri_ev 0 none (tb97, 2, 1) (0, lv_args 0 [.ref 0, .int p0], [], p1_M, 0, 0) (some (.int (-1)), p1_M, 0, 0) := by
  refine ri_nx rfl rfl ?_
  refine ri_nx rfl (if_pos f0) ?_
  refine ri_nx rfl rfl ?_
  exact ri_rt rfl rfl
set_option maxRecDepth 20000 in
theorem w225_182_0 (p0 : Int32) (f0 : p0.toInt < 0 ∨ 7 < p0.toInt)  : ri_ev 2 none (tb225, 2, 1) (0, lv_args 0 [.ref 571, .int p0], [], p1_M, 0, 0) (some (.int (-1)), st6_M, 0, 0) := by
  refine ri_nx rfl rfl ?_
  refine ri_vc rfl rfl cl_p1_M_571 rfl (by decide) rfl (Nat.le_of_ble_eq_true rfl) (ri_ev_d (w220_8_0 ) (by decide)) ?_
  refine ri_nx rfl rfl ?_
  refine ri_nx rfl (if_pos f0) ?_
  refine ri_nx rfl rfl ?_
  exact ri_rt rfl rfl
set_option maxRecDepth 20000 in
theorem w161_183_0 (p0 : Int32) (f0 : p0 < (0 : Int32))  : ri_ev 0 none (tb161, 2, 3) (0, lv_args 0 [.ref 0, .int p0], [], p1_M, 0, 0) (some (.null), p1_M, 0, 0) := by
  refine ri_nx rfl rfl ?_
  refine ri_nx rfl (if_pos f0) ?_
  refine ri_nx rfl rfl ?_
  exact ri_rt rfl rfl
set_option maxRecDepth 20000 in
theorem w149_183_0 (p0 : Int32) (f0 : p0 < (0 : Int32))  : ri_ev 1 none (tb149, 3, 1) (0, lv_args 0 [.ref 0, .int p0], [], p1_M, 0, 0) (some (.int (-2)), p1_M, 0, 0) := by
  refine ri_nx rfl rfl ?_
  refine ri_nx rfl rfl ?_
  refine ri_vc rfl rfl cl_p1_M_0 rfl (by decide) rfl (Nat.le_of_ble_eq_true rfl) (ri_ev_d (w161_183_0 p0 f0) (by decide)) ?_
  refine ri_nx rfl rfl ?_
  refine ri_nx rfl rfl ?_
  refine ri_nx rfl rfl ?_
  refine ri_nx rfl rfl ?_
  exact ri_rt rfl rfl
set_option maxRecDepth 20000 in
theorem w313_185_0 (p0 : Int32) (f0 : p0 < (0 : Int32))  : ri_ev 1 none (tb313, 3, 1) (0, lv_args 0 [.ref 571, .int p0], [], p1_M, 0, 0) (some (.int (-2)), p1_M, 0, 0) := by
  refine ri_nx rfl rfl ?_
  refine ri_vc rfl rfl cl_p1_M_571 rfl (by decide) rfl (Nat.le_of_ble_eq_true rfl) (ri_ev_d (w209_43_0 ) (by decide)) ?_
  refine ri_nx rfl rfl ?_
  refine ri_nx rfl rfl ?_
  exact ri_rt rfl rfl
set_option maxRecDepth 20000 in
theorem w161_186_0 (p0 : Int32) (f0 : ¬ p0 < (0 : Int32)) (f1 : (3 : Int32) ≤ p0)  : ri_ev 0 none (tb161, 2, 3) (0, lv_args 0 [.ref 0, .int p0], [], p1_M, 0, 0) (some (.null), p1_M, 0, 0) := by
  refine ri_nx rfl rfl ?_
  refine ri_nx rfl (if_neg f0) ?_
  refine ri_nx rfl rfl ?_
  refine ri_nx rfl rfl ?_
  refine ri_nx rfl (if_pos f1) ?_
  refine ri_nx rfl rfl ?_
  exact ri_rt rfl rfl
set_option maxRecDepth 20000 in
theorem w149_186_0 (p0 : Int32) (f0 : ¬ p0 < (0 : Int32)) (f1 : (3 : Int32) ≤ p0)  : ri_ev 1 none (tb149, 3, 1) (0, lv_args 0 [.ref 0, .int p0], [], p1_M, 0, 0) (some (.int (-2)), p1_M, 0, 0) := by
  refine ri_nx rfl rfl ?_
  refine ri_nx rfl rfl ?_
  refine ri_vc rfl rfl cl_p1_M_0 rfl (by decide) rfl (Nat.le_of_ble_eq_true rfl) (ri_ev_d (w161_186_0 p0 f0 f1) (by decide)) ?_
  refine ri_nx rfl rfl ?_
  refine ri_nx rfl rfl ?_
  refine ri_nx rfl rfl ?_
  refine ri_nx rfl rfl ?_
  exact ri_rt rfl rfl
set_option maxRecDepth 20000 in
theorem w313_188_0 (p0 : Int32) (f0 : ¬ p0 < (0 : Int32)) (f1 : (3 : Int32) ≤ p0)  : ri_ev 1 none (tb313, 3, 1) (0, lv_args 0 [.ref 571, .int p0], [], p1_M, 0, 0) (some (.int (-2)), p1_M, 0, 0) := by
  refine ri_nx rfl rfl ?_
  refine ri_vc rfl rfl cl_p1_M_571 rfl (by decide) rfl (Nat.le_of_ble_eq_true rfl) (ri_ev_d (w209_43_0 ) (by decide)) ?_
  refine ri_nx rfl rfl ?_
  refine ri_nx rfl rfl ?_
  exact ri_rt rfl rfl
set_option maxRecDepth 20000 in
theorem w150_189_0 (p0 : Int32) (f0 : p0 < (0 : Int32))  : ri_ev 1 none (tb150, 3, 1) (0, lv_args 0 [.ref 0, .int p0], [], p1_M, 0, 0) (some (.int (-2)), p1_M, 0, 0) := by
  refine ri_nx rfl rfl ?_
  refine ri_nx rfl rfl ?_
  refine ri_vc rfl rfl cl_p1_M_0 rfl (by decide) rfl (Nat.le_of_ble_eq_true rfl) (ri_ev_d (w161_183_0 p0 f0) (by decide)) ?_
  refine ri_nx rfl rfl ?_
  refine ri_nx rfl rfl ?_
  refine ri_nx rfl rfl ?_
  refine ri_nx rfl rfl ?_
  exact ri_rt rfl rfl
set_option maxRecDepth 20000 in
theorem w314_190_0 (p0 : Int32) (f0 : p0 < (0 : Int32))  : ri_ev 1 none (tb314, 3, 1) (0, lv_args 0 [.ref 571, .int p0], [], p1_M, 0, 0) (some (.int (-2)), p1_M, 0, 0) := by
  refine ri_nx rfl rfl ?_
  refine ri_nx rfl rfl ?_
  refine ri_nx rfl rfl ?_
  refine ri_nx rfl rfl ?_
  refine ri_cll rfl rfl rfl (Nat.le_of_ble_eq_true rfl) (ri_ev_d (p1_inF (Or.inl (p1_lt64 f0))) (by decide)) ?_
  refine ri_nx rfl rfl ?_
  refine ri_nx rfl rfl ?_
  exact ri_rt rfl rfl
set_option maxRecDepth 20000 in
theorem w150_191_0 (p0 : Int32) (f0 : ¬ p0 < (0 : Int32)) (f1 : (3 : Int32) ≤ p0)  : ri_ev 1 none (tb150, 3, 1) (0, lv_args 0 [.ref 0, .int p0], [], p1_M, 0, 0) (some (.int (-2)), p1_M, 0, 0) := by
  refine ri_nx rfl rfl ?_
  refine ri_nx rfl rfl ?_
  refine ri_vc rfl rfl cl_p1_M_0 rfl (by decide) rfl (Nat.le_of_ble_eq_true rfl) (ri_ev_d (w161_186_0 p0 f0 f1) (by decide)) ?_
  refine ri_nx rfl rfl ?_
  refine ri_nx rfl rfl ?_
  refine ri_nx rfl rfl ?_
  refine ri_nx rfl rfl ?_
  exact ri_rt rfl rfl
set_option maxRecDepth 20000 in
theorem w314_192_0 (p0 : Int32) (f0 : ¬ p0 < (0 : Int32)) (f1 : (3 : Int32) ≤ p0)  : ri_ev 1 none (tb314, 3, 1) (0, lv_args 0 [.ref 571, .int p0], [], p1_M, 0, 0) (some (.int (-2)), p1_M, 0, 0) := by
  refine ri_nx rfl rfl ?_
  refine ri_nx rfl rfl ?_
  refine ri_nx rfl rfl ?_
  refine ri_nx rfl rfl ?_
  refine ri_cll rfl rfl rfl (Nat.le_of_ble_eq_true rfl) (ri_ev_d (p1_inF (Or.inr (p1_gt64a f1))) (by decide)) ?_
  refine ri_nx rfl rfl ?_
  refine ri_nx rfl rfl ?_
  exact ri_rt rfl rfl
set_option maxRecDepth 20000 in
theorem ag2  : p1_agreeI (tb95, 1, 1) (tb206, 2, 1) [] := ⟨_, cr2_M, fr3_M, _, ri_ev_d cr2_ev (by decide), ri_ev_d w206_0_0 (by decide), cl_cr2_M_571, no_cr2_M⟩
set_option maxRecDepth 20000 in
theorem ag5 (q0 : Int32) (q1 : Int32) : p1_agreeI (tb98, 3, 1) (tb226, 3, 1) [.int q0, .int q1] := by
  by_cases e0 : q0 < (0 : Int32)
  · exact ⟨_, p1_M, st6_M, _, ri_ev_d (w98_6_0 q0 q1 e0) (by decide), ri_ev_d (w226_8_0 q0 q1 ) (by decide), cl_p1_M_571, no_p1_M⟩
  · exact ⟨_, cr4_M, st8_M, _, ri_ev_d (w98_6_1 q0 q1 e0) (by decide), ri_ev_d (w226_14_0 q0 q1 ) (by decide), cl_cr4_M_571, no_cr4_M⟩
set_option maxRecDepth 20000 in
theorem ag6 (q0 : Int32) (q1 : Int32) : p1_agreeI (tb99, 3, 1) (tb228, 3, 1) [.int q0, .int q1] := by
  exact ⟨_, p1_M, st6_M, _, ri_ev_d (w99_20_0 q0 q1 ) (by decide), ri_ev_d (w228_23_0 q0 q1 ) (by decide), cl_p1_M_571, no_p1_M⟩
set_option maxRecDepth 20000 in
theorem ag7 (q0 : Int32) : p1_agreeI (tb100, 2, 1) (tb229, 2, 1) [.int q0] := by
  exact ⟨_, p1_M, p1_M, _, ri_ev_d (w100_26_0 q0 ) (by decide), ri_ev_d (w229_28_0 q0 ) (by decide), cl_p1_M_571, no_p1_M⟩
set_option maxRecDepth 20000 in
theorem ag8 (q0 : Int32) (q1 : Int32) : p1_agreeI (tb101, 3, 1) (tb230, 3, 1) [.int q0, .int q1] := by
  exact ⟨_, p1_M, st6_M, _, ri_ev_d (w101_30_0 q0 q1 ) (by decide), ri_ev_d (w230_31_0 q0 q1 ) (by decide), cl_p1_M_571, no_p1_M⟩
set_option maxRecDepth 20000 in
theorem ag9 (q0 : Int32) (q1 : Int32) : p1_agreeJ (tb102, 5, 2) (tb231, 6, 2) [.int q0, .int q1] := by
  exact ⟨_, p1_M, st6_M, _, ri_ev_d (w102_32_0 q0 q1 ) (by decide), ri_ev_d (w231_33_0 q0 q1 ) (by decide), cl_p1_M_571, no_p1_M⟩
set_option maxRecDepth 20000 in
theorem ag10 (q0 : Int32) (q1 : Int32) : p1_agreeI (tb103, 3, 1) (tb233, 3, 1) [.int q0, .int q1] := by
  exact ⟨_, p1_M, st6_M, _, ri_ev_d (w103_34_0 q0 q1 ) (by decide), ri_ev_d (w233_35_0 q0 q1 ) (by decide), cl_p1_M_571, no_p1_M⟩
set_option maxRecDepth 20000 in
theorem ag11 (q0 : Int32) (q1 : Int32) : p1_agreeI (tb104, 8, 1) (tb234, 3, 1) [.int q0, .int q1] := by
  by_cases e0 : q0 < (0 : Int32)
  · exact ⟨_, p1_M, st6_M, _, ri_ev_d (w104_36_0 q0 q1 e0) (by decide), ri_ev_d (w234_37_0 q0 q1 ) (by decide), cl_p1_M_571, no_p1_M⟩
  · exact ⟨_, cr4_M, st8_M, _, ri_ev_d (w104_36_1 q0 q1 e0) (by decide), ri_ev_d (w234_38_0 q0 q1 ) (by decide), cl_cr4_M_571, no_cr4_M⟩
set_option maxRecDepth 20000 in
theorem ag12 (q0 : Int32) (q1 : Int32) : p1_agreeI (tb105, 8, 1) (tb235, 3, 1) [.int q0, .int q1] := by
  by_cases e0 : q0 < (0 : Int32)
  · exact ⟨_, p1_M, st6_M, _, ri_ev_d (w105_39_0 q0 q1 e0) (by decide), ri_ev_d (w235_40_0 q0 q1 ) (by decide), cl_p1_M_571, no_p1_M⟩
  · exact ⟨_, cr4_M, st8_M, _, ri_ev_d (w105_39_1 q0 q1 e0) (by decide), ri_ev_d (w235_41_0 q0 q1 ) (by decide), cl_cr4_M_571, no_cr4_M⟩
set_option maxRecDepth 20000 in
theorem ag13 (q0 : Int32) : p1_agreeI (tb106, 4, 1) (tb236, 3, 1) [.int q0] := by
  exact ⟨_, p1_M, p1_M, _, ri_ev_d (w106_42_0 q0 ) (by decide), ri_ev_d (w236_43_0 q0 ) (by decide), cl_p1_M_571, no_p1_M⟩
set_option maxRecDepth 20000 in
theorem ag14 (q0 : Int32) (q1 : Int32) : p1_agreeI (tb107, 3, 1) (tb238, 3, 1) [.int q0, .int q1] := by
  exact ⟨_, p1_M, st6_M, _, ri_ev_d (w107_45_0 q0 q1 ) (by decide), ri_ev_d (w238_46_0 q0 q1 ) (by decide), cl_p1_M_571, no_p1_M⟩
set_option maxRecDepth 20000 in
theorem ag15 (q0 : Int32) : p1_agreeI (tb108, 2, 1) (tb239, 2, 1) [.int q0] := by
  exact ⟨_, cr9_M, st11_M, _, ri_ev_d (w108_48_0 q0 ) (by decide), ri_ev_d (w239_50_0 q0 ) (by decide), cl_cr9_M_571, no_cr9_M⟩
set_option maxRecDepth 20000 in
theorem ag16 (q0 : Int32) (q1 : Int32) : p1_agreeI (tb109, 3, 1) (tb241, 3, 1) [.int q0, .int q1] := by
  exact ⟨_, cr9_M, st11_M, _, ri_ev_d (w109_56_0 q0 q1 ) (by decide), ri_ev_d (w241_57_0 q0 q1 ) (by decide), cl_cr9_M_571, no_cr9_M⟩
set_option maxRecDepth 20000 in
theorem ag17 (q0 : Int32) (q1 : Int32) : p1_agreeI (tb110, 3, 1) (tb243, 3, 1) [.int q0, .int q1] := by
  exact ⟨_, p1_M, st6_M, _, ri_ev_d (w110_58_0 q0 q1 ) (by decide), ri_ev_d (w243_59_0 q0 q1 ) (by decide), cl_p1_M_571, no_p1_M⟩
set_option maxRecDepth 20000 in
theorem ag18 (q0 : Int32) (q1 : Int32) (q2 : Int32) : p1_agreeI (tb111, 7, 1) (tb245, 4, 1) [.int q0, .int q1, .int q2] := by
  exact ⟨_, p1_M, st6_M, _, ri_ev_d (w111_60_0 q0 q1 q2 ) (by decide), ri_ev_d (w245_61_0 q0 q1 q2 ) (by decide), cl_p1_M_571, no_p1_M⟩
set_option maxRecDepth 20000 in
theorem ag19 (q0 : Int32) (q1 : Int32) (q2 : Int32) : p1_agreeI (tb112, 4, 1) (tb246, 4, 1) [.int q0, .int q1, .int q2] := by
  exact ⟨_, cr9_M, st11_M, _, ri_ev_d (w112_62_0 q0 q1 q2 ) (by decide), ri_ev_d (w246_63_0 q0 q1 q2 ) (by decide), cl_cr9_M_571, no_cr9_M⟩
set_option maxRecDepth 20000 in
theorem ag20 (q0 : Int32) (q1 : Int32) : p1_agreeI (tb113, 4, 1) (tb267, 5, 1) [.int q0, .int q1] := by
  exact ⟨_, cr9_M, st11_M, _, ri_ev_d (w113_64_0 q0 q1 ) (by decide), ri_ev_d (w267_65_0 q0 q1 ) (by decide), cl_cr9_M_571, no_cr9_M⟩
set_option maxRecDepth 20000 in
theorem ag21 (q0 : Int32) : p1_agreeJ (tb118, 2, 2) (tb268, 2, 2) [.int q0] := by
  exact ⟨_, cr9_M, st11_M, _, ri_ev_d (w118_66_0 q0 ) (by decide), ri_ev_d (w268_67_0 q0 ) (by decide), cl_cr9_M_571, no_cr9_M⟩
set_option maxRecDepth 20000 in
theorem ag22  : p1_agreeJ (tb119, 1, 2) (tb270, 1, 2) [] := by
  exact ⟨_, p1_M, p1_M, _, ri_ev_d (w119_68_0  ) (by decide), ri_ev_d (w270_69_0  ) (by decide), cl_p1_M_571, no_p1_M⟩
set_option maxRecDepth 20000 in
theorem ag23 (q0 : Int32) : p1_agreeI (tb120, 2, 1) (tb272, 2, 1) [.int q0] := by
  exact ⟨_, p1_M, st6_M, _, ri_ev_d (w120_70_0 q0 ) (by decide), ri_ev_d (w272_71_0 q0 ) (by decide), cl_p1_M_571, no_p1_M⟩
set_option maxRecDepth 20000 in
theorem ag24 (q0 : Int32) (q1 : Int32) (q2 : Int32) (q3 : Int32) : p1_agreeI (tb121, 6, 1) (tb273, 5, 1) [.int q0, .int q1, .int q2, .int q3] := by
  exact ⟨_, p1_M, st6_M, _, ri_ev_d (w121_72_0 q0 q1 q2 q3 ) (by decide), ri_ev_d (w273_73_0 q0 q1 q2 q3 ) (by decide), cl_p1_M_571, no_p1_M⟩
set_option maxRecDepth 20000 in
theorem ag25 (q0 : Int32) : p1_agreeI (tb114, 2, 1) (tb249, 2, 1) [.int q0] := by
  exact ⟨_, cr9_M, st11_M, _, ri_ev_d (w114_74_0 q0 ) (by decide), ri_ev_d (w249_75_0 q0 ) (by decide), cl_cr9_M_571, no_cr9_M⟩
set_option maxRecDepth 20000 in
theorem ag26  : p1_agreeI (tb115, 2, 1) (tb252, 3, 1) [] := by
  exact ⟨_, p1_M, p1_M, _, ri_ev_d (w115_76_0  ) (by decide), ri_ev_d (w252_77_0  ) (by decide), cl_p1_M_571, no_p1_M⟩
set_option maxRecDepth 20000 in
theorem ag27 (q0 : Int32) : p1_agreeI (tb116, 2, 1) (tb253, 2, 1) [.int q0] := by
  exact ⟨_, p1_M, p1_M, _, ri_ev_d (w116_78 q0 ) (by decide), ri_ev_d (w253_79_0 q0 ) (by decide), cl_p1_M_571, no_p1_M⟩
set_option maxRecDepth 20000 in
theorem ag28 (q0 : Int32) (q1 : Int32) (q2 : Int32) : p1_agreeI (tb117, 8, 1) (tb255, 8, 1) [.int q0, .int q1, .int q2] := by
  exact ⟨_, p1_M, st6_M, _, ri_ev_d (w117_80_0 q0 q1 q2 ) (by decide), ri_ev_d (w255_81_0 q0 q1 q2 ) (by decide), cl_p1_M_571, no_p1_M⟩
set_option maxRecDepth 20000 in
theorem ag29 (q0 : Int64) (q1 : Int32) : p1_agreeI (tb122, 4, 1) (tb275, 10, 1) [.long q0, .int q1] := by
  exact ⟨_, p1_M, st6_M, _, ri_ev_d (w122_82_0 q0 q1 ) (by decide), ri_ev_d (w275_83_0 q0 q1 ) (by decide), cl_p1_M_571, no_p1_M⟩
set_option maxRecDepth 20000 in
theorem ag30 (q0 : Int32) : p1_agreeJ (tb123, 3, 2) (tb276, 2, 2) [.int q0] := by
  exact ⟨_, p1_M, st6_M, _, ri_ev_d (w123_84_0 q0 ) (by decide), ri_ev_d (w276_85_0 q0 ) (by decide), cl_p1_M_571, no_p1_M⟩
set_option maxRecDepth 20000 in
theorem ag31  : p1_agreeI (tb124, 4, 1) (tb277, 3, 1) [] := by
  exact ⟨_, p1_M, p1_M, _, ri_ev_d (w124_86_0  ) (by decide), ri_ev_d (w277_87_0  ) (by decide), cl_p1_M_571, no_p1_M⟩
set_option maxRecDepth 20000 in
theorem ag32 (q0 : Int32) (q1 : Int32) : p1_agreeI (tb125, 3, 1) (tb278, 5, 1) [.int q0, .int q1] := by
  exact ⟨_, p1_M, st6_M, _, ri_ev_d (w125_88_0 q0 q1 ) (by decide), ri_ev_d (w278_89_0 q0 q1 ) (by decide), cl_p1_M_571, no_p1_M⟩
set_option maxRecDepth 20000 in
theorem ag33 (q0 : Int32) : p1_agreeI (tb126, 4, 1) (tb279, 5, 1) [.int q0] := by
  exact ⟨_, p1_M, p1_M, _, ri_ev_d (w126_90_0 q0 ) (by decide), ri_ev_d (w279_91_0 q0 ) (by decide), cl_p1_M_571, no_p1_M⟩
set_option maxRecDepth 20000 in
theorem ag34  : p1_agreeI (tb127, 1, 1) (tb286, 1, 1) [] := by
  exact ⟨_, p1_M, p1_M, _, ri_ev_d (w127_92_0  ) (by decide), ri_ev_d (w286_93_0  ) (by decide), cl_p1_M_571, no_p1_M⟩
set_option maxRecDepth 20000 in
theorem ag35 (q0 : Int32) : p1_agreeI (tb128, 2, 1) (tb287, 2, 1) [.int q0] := by
  exact ⟨_, cr9_M, st11_M, _, ri_ev_d (w128_94_0 q0 ) (by decide), ri_ev_d (w287_95_0 q0 ) (by decide), cl_cr9_M_571, no_cr9_M⟩
set_option maxRecDepth 20000 in
theorem ag36  : p1_agreeI (tb129, 4, 1) (tb290, 12, 1) [] := by
  exact ⟨_, p1_M, p1_M, _, ri_ev_d (w129_96_0  ) (by decide), ri_ev_d (w290_97_0  ) (by decide), cl_p1_M_571, no_p1_M⟩
set_option maxRecDepth 20000 in
theorem ag37  : p1_agreeI (tb130, 3, 1) (tb281, 3, 1) [] := by
  exact ⟨_, p1_M, p1_M, _, ri_ev_d (w130_98_0  ) (by decide), ri_ev_d (w281_99_0  ) (by decide), cl_p1_M_571, no_p1_M⟩
set_option maxRecDepth 20000 in
theorem ag38  : p1_agreeI (tb131, 4, 1) (tb282, 4, 1) [] := by
  exact ⟨_, p1_M, p1_M, _, ri_ev_d (w131_100_0  ) (by decide), ri_ev_d (w282_101_0  ) (by decide), cl_p1_M_571, no_p1_M⟩
set_option maxRecDepth 20000 in
theorem ag39  : p1_agreeI (tb132, 5, 1) (tb283, 5, 1) [] := by
  exact ⟨_, p1_M, p1_M, _, ri_ev_d (w132_102_0  ) (by decide), ri_ev_d (w283_103_0  ) (by decide), cl_p1_M_571, no_p1_M⟩
set_option maxRecDepth 20000 in
theorem ag40  : p1_agreeI (tb133, 1, 1) (tb288, 1, 1) [] := by
  exact ⟨_, p1_M, p1_M, _, ri_ev_d (w133_104_0  ) (by decide), ri_ev_d (w288_105_0  ) (by decide), cl_p1_M_571, no_p1_M⟩
set_option maxRecDepth 20000 in
theorem ag41 (q0 : Int32) (q1 : Int32) : p1_agreeI (tb134, 7, 1) (tb291, 6, 1) [.int q0, .int q1] := by
  by_cases e0 : q0 < (0 : Int32)
  · exact ⟨_, p1_M, st6_M, _, ri_ev_d (w134_106_0 q0 q1 e0) (by decide), ri_ev_d (w291_107_0 q0 q1 ) (by decide), cl_p1_M_571, no_p1_M⟩
  · exact ⟨_, cr4_M, st8_M, _, ri_ev_d (w134_106_1 q0 q1 e0) (by decide), ri_ev_d (w291_108_0 q0 q1 ) (by decide), cl_cr4_M_571, no_cr4_M⟩
set_option maxRecDepth 20000 in
theorem ag42 (q0 : Int32) : p1_agreeI (tb135, 2, 1) (tb293, 2, 1) [.int q0] := by
  by_cases e0 : q0 < (0 : Int32)
  · exact ⟨_, p1_M, st6_M, _, ri_ev_d (w135_109_0 q0 e0) (by decide), ri_ev_d (w293_111_0 q0 ) (by decide), cl_p1_M_571, no_p1_M⟩
  · exact ⟨_, cr12_M, st14_M, _, ri_ev_d (w135_109_1 q0 e0) (by decide), ri_ev_d (w293_113_0 q0 ) (by decide), cl_cr12_M_571, no_cr12_M⟩
set_option maxRecDepth 20000 in
theorem ag43 (q0 : Int32) (q1 : Int32) : p1_agreeI (tb136, 3, 1) (tb294, 3, 1) [.int q0, .int q1] := by
  exact ⟨_, p1_M, st6_M, _, ri_ev_d (w136_119_0 q0 q1 ) (by decide), ri_ev_d (w294_120_0 q0 q1 ) (by decide), cl_p1_M_571, no_p1_M⟩
set_option maxRecDepth 20000 in
theorem ag44 (q0 : Int32) (q1 : Int32) (q2 : Int32) : p1_agreeI (tb137, 4, 1) (tb295, 8, 1) [.int q0, .int q1, .int q2] := by
  by_cases e0 : q0 < (0 : Int32)
  · exact ⟨_, p1_M, st6_M, _, ri_ev_d (w137_121_0 q0 q1 q2 e0) (by decide), ri_ev_d (w295_122_0 q0 q1 q2 ) (by decide), cl_p1_M_571, no_p1_M⟩
  · exact ⟨_, cr12_M, st14_M, _, ri_ev_d (w137_121_1 q0 q1 q2 e0) (by decide), ri_ev_d (w295_123_0 q0 q1 q2 ) (by decide), cl_cr12_M_571, no_cr12_M⟩
set_option maxRecDepth 20000 in
theorem ag45  : p1_agreeI (tb138, 2, 1) (tb296, 2, 1) [] := by
  exact ⟨_, p1_M, p1_M, _, ri_ev_d (w138_124_0  ) (by decide), ri_ev_d (w296_125_0  ) (by decide), cl_p1_M_571, no_p1_M⟩
set_option maxRecDepth 20000 in
theorem ag46 (q0 : Int32) : p1_agreeI (tb139, 6, 1) (tb297, 6, 1) [.int q0] := by
  exact ⟨_, p1_M, st6_M, _, ri_ev_d (w139_126 q0 ) (by decide), ri_ev_d (w297_128_0 q0 ) (by decide), cl_p1_M_571, no_p1_M⟩
set_option maxRecDepth 20000 in
theorem ag47 (q0 : Int32) (q1 : Int32) (q2 : Int32) : p1_agreeI (tb140, 4, 1) (tb299, 4, 1) [.int q0, .int q1, .int q2] := by
  exact ⟨_, p1_M, st6_M, _, ri_ev_d (w140_130_0 q0 q1 q2 ) (by decide), ri_ev_d (w299_131_0 q0 q1 q2 ) (by decide), cl_p1_M_571, no_p1_M⟩
set_option maxRecDepth 20000 in
theorem ag48  : p1_agreeI (tb141, 4, 1) (tb300, 4, 1) [] := by
  exact ⟨_, p1_M, p1_M, _, ri_ev_d (w141_132_0  ) (by decide), ri_ev_d (w300_133_0  ) (by decide), cl_p1_M_571, no_p1_M⟩
set_option maxRecDepth 20000 in
theorem ag49 (q0 : Int32) : p1_agreeI (tb142, 2, 1) (tb303, 2, 1) [.int q0] := by
  by_cases e0 : q0 < (0 : Int32)
  · exact ⟨_, p1_M, st6_M, _, ri_ev_d (w142_134_0 q0 e0) (by decide), ri_ev_d (w303_135_0 q0 ) (by decide), cl_p1_M_571, no_p1_M⟩
  · exact ⟨_, cr4_M, st8_M, _, ri_ev_d (w142_134_1 q0 e0) (by decide), ri_ev_d (w303_136_0 q0 ) (by decide), cl_cr4_M_571, no_cr4_M⟩
set_option maxRecDepth 20000 in
theorem ag50 (q0 : Int32) (q1 : Int32) : p1_agreeI (tb143, 3, 1) (tb304, 4, 1) [.int q0, .int q1] := by
  exact ⟨_, p1_M, st6_M, _, ri_ev_d (w143_137_0 q0 q1 ) (by decide), ri_ev_d (w304_138_0 q0 q1 ) (by decide), cl_p1_M_571, no_p1_M⟩
set_option maxRecDepth 20000 in
theorem ag51  : p1_agreeI (tb144, 1, 1) (tb305, 6, 1) [] := by
  exact ⟨_, p1_M, p1_M, _, ri_ev_d (w144_139_0  ) (by decide), ri_ev_d (w305_140_0  ) (by decide), cl_p1_M_571, no_p1_M⟩
set_option maxRecDepth 20000 in
theorem ag52 (q0 : Int32) (q1 : Int32) : p1_agreeI (tb145, 3, 1) (tb309, 3, 1) [.int q0, .int q1] := by
  exact ⟨_, p1_M, st6_M, _, ri_ev_d (w145_141_0 q0 q1 ) (by decide), ri_ev_d (w309_142_0 q0 q1 ) (by decide), cl_p1_M_571, no_p1_M⟩
set_option maxRecDepth 20000 in
theorem ag53 (q0 : Int32) : p1_agreeI (tb146, 2, 1) (tb310, 4, 1) [.int q0] := by
  by_cases e0 : q0 < (0 : Int32)
  · exact ⟨_, p1_M, st6_M, _, ri_ev_d (w146_143_0 q0 e0) (by decide), ri_ev_d (w310_144_0 q0 ) (by decide), cl_p1_M_571, no_p1_M⟩
  · exact ⟨_, cr4_M, st8_M, _, ri_ev_d (w146_143_1 q0 e0) (by decide), ri_ev_d (w310_145_0 q0 ) (by decide), cl_cr4_M_571, no_cr4_M⟩
set_option maxRecDepth 20000 in
theorem ag54 (q0 : Int32) (q1 : Int32) : p1_agreeI (tb147, 3, 1) (tb311, 3, 1) [.int q0, .int q1] := by
  exact ⟨_, p1_M, p1_M, _, ri_ev_d (w147_146_0 q0 q1 ) (by decide), ri_ev_d (w311_147_0 q0 q1 ) (by decide), cl_p1_M_571, no_p1_M⟩
set_option maxRecDepth 20000 in
theorem ag55 (q0 : Int32) : p1_agreeI (tb148, 2, 1) (tb312, 6, 1) [.int q0] := by
  exact ⟨_, cr9_M, st11_M, _, ri_ev_d (w148_148_0 q0 ) (by decide), ri_ev_d (w312_149_0 q0 ) (by decide), cl_cr9_M_571, no_cr9_M⟩
set_option maxRecDepth 20000 in
theorem ag58  : p1_agreeI (tb151, 1, 1) (tb315, 1, 1) [] := by
  exact ⟨_, p1_M, p1_M, _, ri_ev_d (w151_150_0  ) (by decide), ri_ev_d (w315_151_0  ) (by decide), cl_p1_M_571, no_p1_M⟩
set_option maxRecDepth 20000 in
theorem ag59  : p1_agreeI (tb152, 2, 1) (tb316, 2, 1) [] := by
  exact ⟨_, p1_M, p1_M, _, ri_ev_d (w152_152_0  ) (by decide), ri_ev_d (w316_153_0  ) (by decide), cl_p1_M_571, no_p1_M⟩
set_option maxRecDepth 20000 in
theorem ag1 (q0 : Int32) : p1_agreeI (tb94, 2, 1) (tb191, 2, 1) [.int q0] := by
  by_cases e0 : q0 = 0
  · subst e0
    exact ⟨_, cr15_M, cr16_M, _, ri_ev_d cr15_ev (by decide), ri_ev_d cr16_ev (by decide), cl_cr15_M_571, no_cr15_M⟩
  by_cases f0 : q0 < 0
  · exact ⟨_, p1_M, p1_M, _, ri_ev_d (w94_154_0 q0 f0) (by decide), ri_ev_d (w191_155_0 q0 f0) (by decide), cl_p1_M_571, no_p1_M⟩
  · have f1 : ¬ q0 ≤ (0 : Int32) := p1_pos f0 e0
    exact ⟨_, p1_M, p1_M, _, ri_ev_d (w94_156_0 q0 f0 f1) (by decide), ri_ev_d (w191_157_0 q0 f0 f1) (by decide), cl_p1_M_571, no_p1_M⟩
set_option maxRecDepth 20000 in
theorem ag3 (q0 : Int32) : p1_agreeI (tb96, 2, 1) (tb207, 2, 1) [.int q0] := by
  by_cases e0 : q0 = 0
  · subst e0
    exact ⟨_, p1_M, p1_M, _, ri_ev_d w96_158_0 (by decide), ri_ev_d w207_159_0 (by decide), cl_p1_M_571, no_p1_M⟩
  by_cases e1 : q0 = 1
  · subst e1
    exact ⟨_, p1_M, p1_M, _, ri_ev_d w96_160_0 (by decide), ri_ev_d w207_161_0 (by decide), cl_p1_M_571, no_p1_M⟩
  exact ⟨_, p1_M, p1_M, _, ri_ev_d (w96_162_0 q0 e0 e1) (by decide), ri_ev_d (w207_163_0 q0 e0 e1) (by decide), cl_p1_M_571, no_p1_M⟩
set_option maxRecDepth 20000 in
theorem ag4 (q0 : Int32) : p1_agreeI (tb97, 2, 1) (tb225, 2, 1) [.int q0] := by
  by_cases e0 : q0 = 0
  · subst e0
    exact ⟨_, p1_M, st6_M, _, ri_ev_d w97_164_0 (by decide), ri_ev_d w225_165_0 (by decide), cl_p1_M_571, no_p1_M⟩
  by_cases e1 : q0 = 1
  · subst e1
    exact ⟨_, p1_M, st6_M, _, ri_ev_d w97_166_0 (by decide), ri_ev_d w225_168_0 (by decide), cl_p1_M_571, no_p1_M⟩
  by_cases e2 : q0 = 2
  · subst e2
    exact ⟨_, p1_M, st6_M, _, ri_ev_d w97_169_0 (by decide), ri_ev_d w225_170_0 (by decide), cl_p1_M_571, no_p1_M⟩
  by_cases e3 : q0 = 3
  · subst e3
    exact ⟨_, cr12_M, st14_M, _, ri_ev_d w97_171_0 (by decide), ri_ev_d w225_172_0 (by decide), cl_cr12_M_571, no_cr12_M⟩
  by_cases e4 : q0 = 4
  · subst e4
    exact ⟨_, cr12_M, st14_M, _, ri_ev_d w97_173_0 (by decide), ri_ev_d w225_174_0 (by decide), cl_cr12_M_571, no_cr12_M⟩
  by_cases e5 : q0 = 5
  · subst e5
    exact ⟨_, p1_M, st6_M, _, ri_ev_d w97_175_0 (by decide), ri_ev_d w225_176_0 (by decide), cl_p1_M_571, no_p1_M⟩
  by_cases e6 : q0 = 6
  · subst e6
    exact ⟨_, p1_M, st6_M, _, ri_ev_d w97_177_0 (by decide), ri_ev_d w225_178_0 (by decide), cl_p1_M_571, no_p1_M⟩
  by_cases e7 : q0 = 7
  · subst e7
    exact ⟨_, p1_M, st6_M, _, ri_ev_d w97_179_0 (by decide), ri_ev_d w225_180_0 (by decide), cl_p1_M_571, no_p1_M⟩
  have f0 : q0.toInt < 0 ∨ 7 < q0.toInt := p1_out7 e0 e1 e2 e3 e4 e5 e6 e7
  exact ⟨_, p1_M, st6_M, _, ri_ev_d (w97_181_0 q0 f0) (by decide), ri_ev_d (w225_182_0 q0 f0) (by decide), cl_p1_M_571, no_p1_M⟩
set_option maxRecDepth 20000 in
theorem ag56 (q0 : Int32) : p1_agreeI (tb149, 3, 1) (tb313, 3, 1) [.int q0] := by
  by_cases e0 : q0 = 0
  · subst e0
    exact ⟨_, cr17_M, cr18_M, _, ri_ev_d cr17_ev (by decide), ri_ev_d cr18_ev (by decide), cl_cr17_M_571, no_cr17_M⟩
  by_cases e1 : q0 = 1
  · subst e1
    exact ⟨_, cr19_M, cr20_M, _, ri_ev_d cr19_ev (by decide), ri_ev_d cr20_ev (by decide), cl_cr19_M_571, no_cr19_M⟩
  by_cases e2 : q0 = 2
  · subst e2
    exact ⟨_, cr21_M, cr22_M, _, ri_ev_d cr21_ev (by decide), ri_ev_d cr22_ev (by decide), cl_cr21_M_571, no_cr21_M⟩
  by_cases f0 : q0 < 0
  · exact ⟨_, p1_M, p1_M, _, ri_ev_d (w149_183_0 q0 f0) (by decide), ri_ev_d (w313_185_0 q0 f0) (by decide), cl_p1_M_571, no_p1_M⟩
  · have f1 : (3 : Int32) ≤ q0 := p1_ge3 f0 e0 e1 e2
    exact ⟨_, p1_M, p1_M, _, ri_ev_d (w149_186_0 q0 f0 f1) (by decide), ri_ev_d (w313_188_0 q0 f0 f1) (by decide), cl_p1_M_571, no_p1_M⟩
set_option maxRecDepth 20000 in
theorem ag57 (q0 : Int32) : p1_agreeI (tb150, 3, 1) (tb314, 3, 1) [.int q0] := by
  by_cases e0 : q0 = 0
  · subst e0
    exact ⟨_, cr23_M, cr24_M, _, ri_ev_d cr23_ev (by decide), ri_ev_d cr24_ev (by decide), cl_cr23_M_571, no_cr23_M⟩
  by_cases e1 : q0 = 1
  · subst e1
    exact ⟨_, cr25_M, cr26_M, _, ri_ev_d cr25_ev (by decide), ri_ev_d cr26_ev (by decide), cl_cr25_M_571, no_cr25_M⟩
  by_cases e2 : q0 = 2
  · subst e2
    exact ⟨_, cr27_M, cr28_M, _, ri_ev_d cr27_ev (by decide), ri_ev_d cr28_ev (by decide), cl_cr27_M_571, no_cr27_M⟩
  by_cases f0 : q0 < 0
  · exact ⟨_, p1_M, p1_M, _, ri_ev_d (w150_189_0 q0 f0) (by decide), ri_ev_d (w314_190_0 q0 f0) (by decide), cl_p1_M_571, no_p1_M⟩
  · have f1 : (3 : Int32) ≤ q0 := p1_ge3 f0 e0 e1 e2
    exact ⟨_, p1_M, p1_M, _, ri_ev_d (w150_191_0 q0 f0 f1) (by decide), ri_ev_d (w314_192_0 q0 f0 f1) (by decide), cl_p1_M_571, no_p1_M⟩
