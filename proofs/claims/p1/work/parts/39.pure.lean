theorem p1_ofInt {y : Int32} (h : ¬ (y.toInt < 0 ∨ 59 < y.toInt)) : ∃ i : Nat, i < 60 ∧ y = Int32.ofNat i := by
  refine ⟨y.toInt.toNat, by omega, ?_⟩
  apply Int32.toInt_inj.mp
  have h1 : (y.toInt.toNat : Int) = y.toInt := Int.toNat_of_nonneg (by omega)
  have h2 : (Int32.ofNat y.toInt.toNat).toInt = (y.toInt.toNat : Int) := by
    rw [Int32.toInt_ofNat_of_lt (by omega)]
  rw [h2, h1]
set_option maxRecDepth 20000 in
set_option maxHeartbeats 4000000 in
theorem p1_loop (x0 x1 x2 x3 x4 x5 : Int32) : ∃ (M' : ri_M) (k n : Nat), k ≤ 600000 ∧ n ≤ 7302250 ∧ ri_ev 10 (some [x0, x1, x2, x3, x4, x5]) (tbL, 4, 4) (33, [(3, .int 0), (2, .ref 571), (1, .ref 0), (0, .ref 2000000)], [.int (x0 &&& (Int8.ofInt 63).toInt32)], p1_M, 602, 21123) (some (.int 1), M', k, n) := by
  generalize hy : x0 &&& (Int8.ofInt 63).toInt32 = y
  by_cases h : y.toInt < 0 ∨ 59 < y.toInt
  · refine ⟨p1_M, 602, 21123, Nat.le_of_ble_eq_true rfl, Nat.le_of_ble_eq_true rfl, ri_nx rfl (if_pos h) ?_⟩
    exact p1_tail x0 x1 x2 x3 x4 x5 _ _ _
  · obtain ⟨i, hi, rfl⟩ := p1_ofInt h
    match i, hi with
    | 0, _ =>
      obtain ⟨M2, k, n, hk, hn, hc⟩ := p1_case0 x0 x1 x2 x3 x4 x5
      exact ⟨M2, k, n, hk, hn, ri_nx rfl rfl hc⟩
    | 1, _ =>
      obtain ⟨M2, k, n, hk, hn, hc⟩ := p1_case1 x0 x1 x2 x3 x4 x5
      exact ⟨M2, k, n, hk, hn, ri_nx rfl rfl hc⟩
    | 2, _ =>
      obtain ⟨M2, k, n, hk, hn, hc⟩ := p1_case2 x0 x1 x2 x3 x4 x5
      exact ⟨M2, k, n, hk, hn, ri_nx rfl rfl hc⟩
    | 3, _ =>
      obtain ⟨M2, k, n, hk, hn, hc⟩ := p1_case3 x0 x1 x2 x3 x4 x5
      exact ⟨M2, k, n, hk, hn, ri_nx rfl rfl hc⟩
    | 4, _ =>
      obtain ⟨M2, k, n, hk, hn, hc⟩ := p1_case4 x0 x1 x2 x3 x4 x5
      exact ⟨M2, k, n, hk, hn, ri_nx rfl rfl hc⟩
    | 5, _ =>
      obtain ⟨M2, k, n, hk, hn, hc⟩ := p1_case5 x0 x1 x2 x3 x4 x5
      exact ⟨M2, k, n, hk, hn, ri_nx rfl rfl hc⟩
    | 6, _ =>
      obtain ⟨M2, k, n, hk, hn, hc⟩ := p1_case6 x0 x1 x2 x3 x4 x5
      exact ⟨M2, k, n, hk, hn, ri_nx rfl rfl hc⟩
    | 7, _ =>
      obtain ⟨M2, k, n, hk, hn, hc⟩ := p1_case7 x0 x1 x2 x3 x4 x5
      exact ⟨M2, k, n, hk, hn, ri_nx rfl rfl hc⟩
    | 8, _ =>
      obtain ⟨M2, k, n, hk, hn, hc⟩ := p1_case8 x0 x1 x2 x3 x4 x5
      exact ⟨M2, k, n, hk, hn, ri_nx rfl rfl hc⟩
    | 9, _ =>
      obtain ⟨M2, k, n, hk, hn, hc⟩ := p1_case9 x0 x1 x2 x3 x4 x5
      exact ⟨M2, k, n, hk, hn, ri_nx rfl rfl hc⟩
    | 10, _ =>
      obtain ⟨M2, k, n, hk, hn, hc⟩ := p1_case10 x0 x1 x2 x3 x4 x5
      exact ⟨M2, k, n, hk, hn, ri_nx rfl rfl hc⟩
    | 11, _ =>
      obtain ⟨M2, k, n, hk, hn, hc⟩ := p1_case11 x0 x1 x2 x3 x4 x5
      exact ⟨M2, k, n, hk, hn, ri_nx rfl rfl hc⟩
    | 12, _ =>
      obtain ⟨M2, k, n, hk, hn, hc⟩ := p1_case12 x0 x1 x2 x3 x4 x5
      exact ⟨M2, k, n, hk, hn, ri_nx rfl rfl hc⟩
    | 13, _ =>
      obtain ⟨M2, k, n, hk, hn, hc⟩ := p1_case13 x0 x1 x2 x3 x4 x5
      exact ⟨M2, k, n, hk, hn, ri_nx rfl rfl hc⟩
    | 14, _ =>
      obtain ⟨M2, k, n, hk, hn, hc⟩ := p1_case14 x0 x1 x2 x3 x4 x5
      exact ⟨M2, k, n, hk, hn, ri_nx rfl rfl hc⟩
    | 15, _ =>
      obtain ⟨M2, k, n, hk, hn, hc⟩ := p1_case15 x0 x1 x2 x3 x4 x5
      exact ⟨M2, k, n, hk, hn, ri_nx rfl rfl hc⟩
    | 16, _ =>
      obtain ⟨M2, k, n, hk, hn, hc⟩ := p1_case16 x0 x1 x2 x3 x4 x5
      exact ⟨M2, k, n, hk, hn, ri_nx rfl rfl hc⟩
    | 17, _ =>
      obtain ⟨M2, k, n, hk, hn, hc⟩ := p1_case17 x0 x1 x2 x3 x4 x5
      exact ⟨M2, k, n, hk, hn, ri_nx rfl rfl hc⟩
    | 18, _ =>
      obtain ⟨M2, k, n, hk, hn, hc⟩ := p1_case18 x0 x1 x2 x3 x4 x5
      exact ⟨M2, k, n, hk, hn, ri_nx rfl rfl hc⟩
    | 19, _ =>
      obtain ⟨M2, k, n, hk, hn, hc⟩ := p1_case19 x0 x1 x2 x3 x4 x5
      exact ⟨M2, k, n, hk, hn, ri_nx rfl rfl hc⟩
    | 20, _ =>
      obtain ⟨M2, k, n, hk, hn, hc⟩ := p1_case20 x0 x1 x2 x3 x4 x5
      exact ⟨M2, k, n, hk, hn, ri_nx rfl rfl hc⟩
    | 21, _ =>
      obtain ⟨M2, k, n, hk, hn, hc⟩ := p1_case21 x0 x1 x2 x3 x4 x5
      exact ⟨M2, k, n, hk, hn, ri_nx rfl rfl hc⟩
    | 22, _ =>
      obtain ⟨M2, k, n, hk, hn, hc⟩ := p1_case22 x0 x1 x2 x3 x4 x5
      exact ⟨M2, k, n, hk, hn, ri_nx rfl rfl hc⟩
    | 23, _ =>
      obtain ⟨M2, k, n, hk, hn, hc⟩ := p1_case23 x0 x1 x2 x3 x4 x5
      exact ⟨M2, k, n, hk, hn, ri_nx rfl rfl hc⟩
    | 24, _ =>
      obtain ⟨M2, k, n, hk, hn, hc⟩ := p1_case24 x0 x1 x2 x3 x4 x5
      exact ⟨M2, k, n, hk, hn, ri_nx rfl rfl hc⟩
    | 25, _ =>
      obtain ⟨M2, k, n, hk, hn, hc⟩ := p1_case25 x0 x1 x2 x3 x4 x5
      exact ⟨M2, k, n, hk, hn, ri_nx rfl rfl hc⟩
    | 26, _ =>
      obtain ⟨M2, k, n, hk, hn, hc⟩ := p1_case26 x0 x1 x2 x3 x4 x5
      exact ⟨M2, k, n, hk, hn, ri_nx rfl rfl hc⟩
    | 27, _ =>
      obtain ⟨M2, k, n, hk, hn, hc⟩ := p1_case27 x0 x1 x2 x3 x4 x5
      exact ⟨M2, k, n, hk, hn, ri_nx rfl rfl hc⟩
    | 28, _ =>
      obtain ⟨M2, k, n, hk, hn, hc⟩ := p1_case28 x0 x1 x2 x3 x4 x5
      exact ⟨M2, k, n, hk, hn, ri_nx rfl rfl hc⟩
    | 29, _ =>
      obtain ⟨M2, k, n, hk, hn, hc⟩ := p1_case29 x0 x1 x2 x3 x4 x5
      exact ⟨M2, k, n, hk, hn, ri_nx rfl rfl hc⟩
    | 30, _ =>
      obtain ⟨M2, k, n, hk, hn, hc⟩ := p1_case30 x0 x1 x2 x3 x4 x5
      exact ⟨M2, k, n, hk, hn, ri_nx rfl rfl hc⟩
    | 31, _ =>
      obtain ⟨M2, k, n, hk, hn, hc⟩ := p1_case31 x0 x1 x2 x3 x4 x5
      exact ⟨M2, k, n, hk, hn, ri_nx rfl rfl hc⟩
    | 32, _ =>
      obtain ⟨M2, k, n, hk, hn, hc⟩ := p1_case32 x0 x1 x2 x3 x4 x5
      exact ⟨M2, k, n, hk, hn, ri_nx rfl rfl hc⟩
    | 33, _ =>
      obtain ⟨M2, k, n, hk, hn, hc⟩ := p1_case33 x0 x1 x2 x3 x4 x5
      exact ⟨M2, k, n, hk, hn, ri_nx rfl rfl hc⟩
    | 34, _ =>
      obtain ⟨M2, k, n, hk, hn, hc⟩ := p1_case34 x0 x1 x2 x3 x4 x5
      exact ⟨M2, k, n, hk, hn, ri_nx rfl rfl hc⟩
    | 35, _ =>
      obtain ⟨M2, k, n, hk, hn, hc⟩ := p1_case35 x0 x1 x2 x3 x4 x5
      exact ⟨M2, k, n, hk, hn, ri_nx rfl rfl hc⟩
    | 36, _ =>
      obtain ⟨M2, k, n, hk, hn, hc⟩ := p1_case36 x0 x1 x2 x3 x4 x5
      exact ⟨M2, k, n, hk, hn, ri_nx rfl rfl hc⟩
    | 37, _ =>
      obtain ⟨M2, k, n, hk, hn, hc⟩ := p1_case37 x0 x1 x2 x3 x4 x5
      exact ⟨M2, k, n, hk, hn, ri_nx rfl rfl hc⟩
    | 38, _ =>
      obtain ⟨M2, k, n, hk, hn, hc⟩ := p1_case38 x0 x1 x2 x3 x4 x5
      exact ⟨M2, k, n, hk, hn, ri_nx rfl rfl hc⟩
    | 39, _ =>
      obtain ⟨M2, k, n, hk, hn, hc⟩ := p1_case39 x0 x1 x2 x3 x4 x5
      exact ⟨M2, k, n, hk, hn, ri_nx rfl rfl hc⟩
    | 40, _ =>
      obtain ⟨M2, k, n, hk, hn, hc⟩ := p1_case40 x0 x1 x2 x3 x4 x5
      exact ⟨M2, k, n, hk, hn, ri_nx rfl rfl hc⟩
    | 41, _ =>
      obtain ⟨M2, k, n, hk, hn, hc⟩ := p1_case41 x0 x1 x2 x3 x4 x5
      exact ⟨M2, k, n, hk, hn, ri_nx rfl rfl hc⟩
    | 42, _ =>
      obtain ⟨M2, k, n, hk, hn, hc⟩ := p1_case42 x0 x1 x2 x3 x4 x5
      exact ⟨M2, k, n, hk, hn, ri_nx rfl rfl hc⟩
    | 43, _ =>
      obtain ⟨M2, k, n, hk, hn, hc⟩ := p1_case43 x0 x1 x2 x3 x4 x5
      exact ⟨M2, k, n, hk, hn, ri_nx rfl rfl hc⟩
    | 44, _ =>
      obtain ⟨M2, k, n, hk, hn, hc⟩ := p1_case44 x0 x1 x2 x3 x4 x5
      exact ⟨M2, k, n, hk, hn, ri_nx rfl rfl hc⟩
    | 45, _ =>
      obtain ⟨M2, k, n, hk, hn, hc⟩ := p1_case45 x0 x1 x2 x3 x4 x5
      exact ⟨M2, k, n, hk, hn, ri_nx rfl rfl hc⟩
    | 46, _ =>
      obtain ⟨M2, k, n, hk, hn, hc⟩ := p1_case46 x0 x1 x2 x3 x4 x5
      exact ⟨M2, k, n, hk, hn, ri_nx rfl rfl hc⟩
    | 47, _ =>
      obtain ⟨M2, k, n, hk, hn, hc⟩ := p1_case47 x0 x1 x2 x3 x4 x5
      exact ⟨M2, k, n, hk, hn, ri_nx rfl rfl hc⟩
    | 48, _ =>
      obtain ⟨M2, k, n, hk, hn, hc⟩ := p1_case48 x0 x1 x2 x3 x4 x5
      exact ⟨M2, k, n, hk, hn, ri_nx rfl rfl hc⟩
    | 49, _ =>
      obtain ⟨M2, k, n, hk, hn, hc⟩ := p1_case49 x0 x1 x2 x3 x4 x5
      exact ⟨M2, k, n, hk, hn, ri_nx rfl rfl hc⟩
    | 50, _ =>
      obtain ⟨M2, k, n, hk, hn, hc⟩ := p1_case50 x0 x1 x2 x3 x4 x5
      exact ⟨M2, k, n, hk, hn, ri_nx rfl rfl hc⟩
    | 51, _ =>
      obtain ⟨M2, k, n, hk, hn, hc⟩ := p1_case51 x0 x1 x2 x3 x4 x5
      exact ⟨M2, k, n, hk, hn, ri_nx rfl rfl hc⟩
    | 52, _ =>
      obtain ⟨M2, k, n, hk, hn, hc⟩ := p1_case52 x0 x1 x2 x3 x4 x5
      exact ⟨M2, k, n, hk, hn, ri_nx rfl rfl hc⟩
    | 53, _ =>
      obtain ⟨M2, k, n, hk, hn, hc⟩ := p1_case53 x0 x1 x2 x3 x4 x5
      exact ⟨M2, k, n, hk, hn, ri_nx rfl rfl hc⟩
    | 54, _ =>
      obtain ⟨M2, k, n, hk, hn, hc⟩ := p1_case54 x0 x1 x2 x3 x4 x5
      exact ⟨M2, k, n, hk, hn, ri_nx rfl rfl hc⟩
    | 55, _ =>
      obtain ⟨M2, k, n, hk, hn, hc⟩ := p1_case55 x0 x1 x2 x3 x4 x5
      exact ⟨M2, k, n, hk, hn, ri_nx rfl rfl hc⟩
    | 56, _ =>
      obtain ⟨M2, k, n, hk, hn, hc⟩ := p1_case56 x0 x1 x2 x3 x4 x5
      exact ⟨M2, k, n, hk, hn, ri_nx rfl rfl hc⟩
    | 57, _ =>
      obtain ⟨M2, k, n, hk, hn, hc⟩ := p1_case57 x0 x1 x2 x3 x4 x5
      exact ⟨M2, k, n, hk, hn, ri_nx rfl rfl hc⟩
    | 58, _ =>
      obtain ⟨M2, k, n, hk, hn, hc⟩ := p1_case58 x0 x1 x2 x3 x4 x5
      exact ⟨M2, k, n, hk, hn, ri_nx rfl rfl hc⟩
    | 59, _ =>
      obtain ⟨M2, k, n, hk, hn, hc⟩ := p1_case59 x0 x1 x2 x3 x4 x5
      exact ⟨M2, k, n, hk, hn, ri_nx rfl rfl hc⟩
    | i + 60, hi => omega
theorem p1_m1_at : p1_m1[571]? = some (.inr (12, [.null, .null, .int 0, .null, .null, .null, .null, .null, .null, .int 0, .int 0, .int 0, .int 0, .int 0, .int 0, .int 0, .int 0, .int 0, .null, .null, .null, .int 0, .null, .null, .int 0, .int 0, .null, .null, .null, .int 0, .int 0, .null, .null, .null, .null, .null, .null, .null, .null, .null, .null, .null, .null, .int 0, .null, .null])) := by
  unfold p1_m1
  rw [List.getElem?_append_right (by rw [p1_len.1]; exact Nat.le_refl _), p1_len.1]
  rfl
set_option maxRecDepth 20000 in
set_option maxHeartbeats 4000000 in
theorem p1_pure : ∀ xs : List Int32, xs.length ≤ 6 → ∃ (f d : Nat) (M' : ri_M) (k n : Nat), d ≤ 500 ∧ k ≤ 600000 ∧ n ≤ 7302250 ∧ ri_run ri_P ri_Fd f d (some xs) (tbL, 4, 4) (0, [(0, .ref 2000000)], [], [], 0, 0) = some (some (.int 1), M', k, n) := by
  intro xs hxs
  suffices hh : ∃ (M' : ri_M) (k n : Nat), k ≤ 600000 ∧ n ≤ 7302250 ∧ ri_ev 10 (some xs) (tbL, 4, 4) (18, [(3, .int 0), (2, .ref 571), (1, .ref 0), (0, .ref 2000000)], [], p1_M, 602, 21123) (some (.int 1), M', k, n) by
    obtain ⟨M1, k, n, hk, hn, h⟩ := hh
    have h0 : ri_ev 10 (some xs) (tbL, 4, 4) (0, [(0, .ref 2000000)], [], [], 0, 0) (some (.int 1), M1, k, n) := by
      refine ri_nx rfl rfl ?_
      refine ri_nx rfl rfl ?_
      refine ri_cll rfl rfl rfl (Nat.le_of_ble_eq_true rfl) (ri_ev_d p1_x_ev (by decide)) ?_
      refine ri_nx rfl rfl ?_
      refine ri_new rfl rfl p1_len.1 (by decide) ?_
      refine ri_nx rfl rfl ?_
      refine ri_ic rfl rfl p1_m1_at rfl (by decide) rfl (Nat.le_of_ble_eq_true rfl) (ri_ev_d p1_y_ev (by decide)) ?_
      refine ri_nx rfl rfl ?_
      refine ri_nx rfl rfl ?_
      refine ri_nx rfl rfl ?_
      exact h
    obtain ⟨f, h1⟩ := h0
    exact ⟨f, 10, M1, k, n, by decide, hk, hn, h1⟩
  by_cases hl : xs.length = 6
  · match xs, hl with
    | [x0, x1, x2, x3, x4, x5], _ =>
      obtain ⟨M2, k, n, hk, hn, hc⟩ := p1_loop x0 x1 x2 x3 x4 x5
      refine ⟨M2, k, n, hk, hn, ?_⟩
      refine ri_nx rfl rfl ?_
      refine ri_nx rfl rfl ?_
      refine ri_nx rfl rfl ?_
      refine ri_nx rfl rfl ?_
      refine ri_nx rfl rfl ?_
      refine ri_nx rfl (if_neg (show ¬ Int32.ofNat [x0, x1, x2, x3, x4, x5].length - (Int8.ofInt 6).toInt32 < (0 : Int32) from p1_cmp0)) ?_
      refine ri_nx rfl rfl ?_
      refine ri_nx rfl rfl ?_
      refine ri_scr rfl no_p1_M (by decide) rfl ?_
      refine ri_nx rfl rfl ?_
      refine ri_nx rfl rfl ?_
      exact hc
  · refine ⟨p1_M, 602, 21123, Nat.le_of_ble_eq_true rfl, Nat.le_of_ble_eq_true rfl, ?_⟩
    refine ri_nx rfl rfl ?_
    refine ri_nx rfl rfl ?_
    refine ri_nx rfl rfl ?_
    refine ri_nx rfl rfl ?_
    refine ri_nx rfl rfl ?_
    have hc : Int32.ofNat xs.length - (Int8.ofInt 6).toInt32 < (0 : Int32) := by
      generalize xs.length = n at hxs hl
      match n, hxs, hl with
      | 0, _, _ => decide
      | 1, _, _ => decide
      | 2, _, _ => decide
      | 3, _, _ => decide
      | 4, _, _ => decide
      | 5, _, _ => decide
      | 6, _, hl => exact absurd rfl hl
      | n + 7, h, _ => omega
    refine ri_nx rfl (if_pos hc) ?_
    refine ri_nx rfl rfl ?_
    exact ri_rt rfl rfl
