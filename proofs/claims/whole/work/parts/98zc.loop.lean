/-! ===== the law's loop ===== -/
theorem lw_atk {xs : List Int32} {j c : Nat} (hx : xs.length ≤ 3072) (hj : 6 * j + 6 ≤ xs.length) (hc : c < 6) : ∃ x, lw_at xs (Int32.ofInt ((6 * j : Nat) : Int) + Int32.ofInt (c : Int)) x := by
  have e : Int32.ofInt ((6 * j : Nat) : Int) + Int32.ofInt (c : Int) = Int32.ofInt ((6 * j + c : Nat) : Int) := by rw [← Int32.ofInt_add]; rfl
  have hi := am_ix (i := ((6 * j + c : Nat) : Int)) (n := xs.length) (by omega) (by omega) (by omega)
  refine ⟨xs[6 * j + c]'(by omega), ?_⟩
  rw [e]
  refine ⟨hi.1, ?_⟩
  rw [hi.2]
  exact List.getElem?_eq_getElem (by omega)
set_option maxRecDepth 20000 in
theorem lw_loop {xs : List Int32} (hx : xs.length ≤ 3072) : ∀ (m j : Nat) (h : am_H) (G : ri_M) (k n : Nat), xs.length < 6 * (j + m) + 6 → j ≤ 512 → INV h → am_wf h → G.length ≤ j → k ≤ 602 + j → n ≤ 21123 + 5 * j → lw_go xs (Int32.ofInt ((6 * j : Nat) : Int)) 18 (am_M h G) k n := by
  intro m
  induction m with
  | zero =>
    intro j h G k n hm hj I w hG hk hn
    refine ⟨am_M h G, k, n, by omega, by omega, ?_⟩
    have hc : Int32.ofNat xs.length - (Int8.ofInt 6).toInt32 < Int32.ofInt ((6 * j : Nat) : Int) := by
      rw [show (Int8.ofInt 6).toInt32 = Int32.ofInt 6 by decide, ← Int32.ofInt_eq_ofNat, ← Int32.ofInt_sub, am_lt (by omega) (by omega)]
      omega
    refine ri_nx rfl rfl ?_
    refine ri_nx rfl rfl ?_
    refine ri_nx rfl rfl ?_
    refine ri_nx rfl rfl ?_
    refine ri_nx rfl rfl ?_
    refine ri_nx rfl (if_pos hc) ?_
    refine ri_nx rfl rfl ?_
    exact ri_rt rfl rfl
  | succ m ih =>
    intro j h G k n hm hj I w hG hk hn
    by_cases hl : xs.length < 6 * j + 6
    · refine ⟨am_M h G, k, n, by omega, by omega, ?_⟩
      have hc : Int32.ofNat xs.length - (Int8.ofInt 6).toInt32 < Int32.ofInt ((6 * j : Nat) : Int) := by
        rw [show (Int8.ofInt 6).toInt32 = Int32.ofInt 6 by decide, ← Int32.ofInt_eq_ofNat, ← Int32.ofInt_sub, am_lt (by omega) (by omega)]
        omega
      refine ri_nx rfl rfl ?_
      refine ri_nx rfl rfl ?_
      refine ri_nx rfl rfl ?_
      refine ri_nx rfl rfl ?_
      refine ri_nx rfl rfl ?_
      refine ri_nx rfl (if_pos hc) ?_
      refine ri_nx rfl rfl ?_
      exact ri_rt rfl rfl
    · have hc : ¬ Int32.ofNat xs.length - (Int8.ofInt 6).toInt32 < Int32.ofInt ((6 * j : Nat) : Int) := by
        rw [show (Int8.ofInt 6).toInt32 = Int32.ofInt 6 by decide, ← Int32.ofInt_eq_ofNat, ← Int32.ofInt_sub, am_lt (by omega) (by omega)]
        omega
      have h6 : 6 * j + 6 ≤ xs.length := by omega
      obtain ⟨x0, s0⟩ := lw_atk (c := 0) hx h6 (by omega)
      obtain ⟨x1, s1⟩ := lw_atk (c := 1) hx h6 (by omega)
      obtain ⟨x2, s2⟩ := lw_atk (c := 2) hx h6 (by omega)
      obtain ⟨x3, s3⟩ := lw_atk (c := 3) hx h6 (by omega)
      obtain ⟨x4, s4⟩ := lw_atk (c := 4) hx h6 (by omega)
      obtain ⟨x5, s5⟩ := lw_atk (c := 5) hx h6 (by omega)
      have e0 : Int32.ofInt ((6 * j : Nat) : Int) + Int32.ofInt ((0 : Nat) : Int) = Int32.ofInt ((6 * j : Nat) : Int) := by rw [← Int32.ofInt_add]; simp
      rw [e0] at s0
      have N : lw_nx xs (Int32.ofInt ((6 * j : Nat) : Int)) G k n := by
        intro h2 G2 k2 n2 I2 w2 g2 a2 b2
        obtain ⟨M', k', n', b1, b2, E⟩ := ih (j + 1) h2 G2 k2 n2 (by omega) (by omega) I2 w2 (by omega) (by omega) (by omega)
        refine ⟨M', k', n', b1, b2, ?_⟩
        have e6 : Int32.ofInt ((6 * (j + 1) : Nat) : Int) = Int32.ofInt ((6 * j : Nat) : Int) + Int32.ofInt 6 := by rw [← Int32.ofInt_add]; rfl
        rw [e6] at E
        refine ri_nx rfl rfl ?_
        refine ri_nx rfl rfl ?_
        exact E
      obtain ⟨M', k', n', b1, b2, E⟩ := lw_sw ⟨s1, s2, s3, s4, s5⟩ I w (by omega) N (x0 &&& (Int8.ofInt 63).toInt32)
      refine ⟨M', k', n', b1, b2, ?_⟩
      refine ri_nx rfl rfl ?_
      refine ri_nx rfl rfl ?_
      refine ri_nx rfl rfl ?_
      refine ri_nx rfl rfl ?_
      refine ri_nx rfl rfl ?_
      refine ri_nx rfl (if_neg hc) ?_
      refine ri_nx rfl rfl ?_
      refine ri_nx rfl rfl ?_
      refine ri_scr rfl (am_M_no (by omega)) s0.1 s0.2 ?_
      refine ri_nx rfl rfl ?_
      refine ri_nx rfl rfl ?_
      exact E
set_option maxRecDepth 20000 in
set_option maxHeartbeats 4000000 in
theorem lw_pure : ∀ xs : List Int32, xs.length ≤ 3072 → ∃ (f d : Nat) (M' : ri_M) (k n : Nat), d ≤ 500 ∧ k ≤ 600000 ∧ n ≤ 7302250 ∧ ri_run ri_P ri_Fd f d (some xs) (tbL, 4, 4) (0, [(0, .ref 2000000)], [], [], 0, 0) = some (some (.int 1), M', k, n) := by
  intro xs hxs
  obtain ⟨M1, k, n, hk, hn, h⟩ := lw_loop hxs 512 0 aw_h0 [] 602 21123 (by omega) (by omega) aw_INV aw_wf (Nat.le_refl _) (Nat.le_refl _) (Nat.le_refl _)
  have h0 : ri_ev 61 (some xs) (tbL, 4, 4) (0, [(0, .ref 2000000)], [], [], 0, 0) (some (.int 1), M1, k, n) := by
    refine ri_nx rfl rfl ?_
    refine ri_nx rfl rfl ?_
    refine ri_cll rfl rfl rfl (Nat.le_of_ble_eq_true rfl) (ri_ev_d p1_x_ev (by decide)) ?_
    refine ri_nx rfl rfl ?_
    refine ri_new rfl rfl aw_xl (by decide) ?_
    refine ri_nx rfl rfl ?_
    refine ri_ic rfl rfl p1_m1_at rfl (by decide) rfl (Nat.le_of_ble_eq_true rfl) (ri_ev_d aw_y_ev (by decide)) ?_
    refine ri_nx rfl rfl ?_
    refine ri_nx rfl rfl ?_
    refine ri_nx rfl rfl ?_
    exact h
  obtain ⟨f, h1⟩ := h0
  exact ⟨f, 61, M1, k, n, by decide, hk, hn, h1⟩
