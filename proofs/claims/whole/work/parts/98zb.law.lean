/-! ===== the law ===== -/
abbrev lw_lv (iv : Int32) : ri_L := [(3, .int iv), (2, .ref 571), (1, .ref 0), (0, .ref 2000000)]
def lw_go (xs : List Int32) (iv : Int32) (pc : Nat) (M : ri_M) (k n : Nat) : Prop := ∃ (M' : ri_M) (k' n' : Nat), k' ≤ 600000 ∧ n' ≤ 7302250 ∧ ri_ev 61 (some xs) (tbL, 4, 4) (pc, lw_lv iv, [], M, k, n) (some (.int 1), M', k', n')
def lw_at (xs : List Int32) (j x : Int32) : Prop := ¬ j < 0 ∧ xs[j.toNatClampNeg]? = some x
def lw_sc (xs : List Int32) (iv x1 x2 x3 x4 x5 : Int32) : Prop := lw_at xs (iv + Int32.ofInt 1) x1 ∧ lw_at xs (iv + Int32.ofInt 2) x2 ∧ lw_at xs (iv + Int32.ofInt 3) x3 ∧ lw_at xs (iv + Int32.ofInt 4) x4 ∧ lw_at xs (iv + Int32.ofInt 5) x5
/-- behind a case -/
def lw_nx (xs : List Int32) (iv : Int32) (G : ri_M) (k n : Nat) : Prop := ∀ (h2 : am_H) (G2 : ri_M) (k2 n2 : Nat), INV h2 → am_wf h2 → G2.length ≤ G.length + 1 → k2 ≤ k + 1 → n2 ≤ n + 5 → lw_go xs iv 1902 (am_M h2 G2) k2 n2
theorem am_M_no {h : am_H} {G : ri_M} (hG : G.length < 10000) : (am_M h G)[2000000]? = none := List.getElem?_eq_none (by rw [am_M_len]; omega)
theorem lw_ofInt {y : Int32} (h : ¬ (y.toInt < 0 ∨ 59 < y.toInt)) : ∃ i : Nat, i < 60 ∧ y = Int32.ofNat i := by
  refine ⟨y.toInt.toNat, by omega, ?_⟩
  apply Int32.toInt_inj.mp
  have h1 : (y.toInt.toNat : Int) = y.toInt := Int.toNat_of_nonneg (by omega)
  have h2 : (Int32.ofNat y.toInt.toNat).toInt = (y.toInt.toNat : Int) := by
    rw [Int32.toInt_ofNat_of_lt (by omega)]
  rw [h2, h1]
set_option maxRecDepth 20000 in
theorem lw_c0 {xs : List Int32} {iv x1 x2 x3 x4 x5 : Int32} {h : am_H} {G : ri_M} {k n : Nat} (S : lw_sc xs iv x1 x2 x3 x4 x5) (I : INV h) (w : am_wf h) (hG : G.length < 10000) (H : lw_nx xs iv G k n) : lw_go xs iv 288 (am_M h G) k n := by
  obtain ⟨v, h1, h2, G2, k2, n2, ⟨I2, w2⟩, ⟨z1, z2, z3⟩, e1, e2⟩ := lw_feed I w hG x1 x2 x3 x4 x5
  obtain ⟨M', k', n', b1, b2, E⟩ := H h2 G2 (k + k2) (n + n2) I2 w2 z1 (by omega) (by omega)
  refine ⟨M', k', n', b1, b2, ?_⟩
  refine ri_nx rfl rfl ?_
  refine ri_nx rfl rfl ?_
  refine ri_nx rfl rfl ?_
  refine ri_nx rfl rfl ?_
  refine ri_nx rfl rfl ?_
  refine ri_scr rfl (am_M_no hG) S.1.1 S.1.2 ?_
  refine ri_nx rfl rfl ?_
  refine ri_nx rfl rfl ?_
  refine ri_nx rfl rfl ?_
  refine ri_nx rfl rfl ?_
  refine ri_scr rfl (am_M_no hG) S.2.1.1 S.2.1.2 ?_
  refine ri_nx rfl rfl ?_
  refine ri_nx rfl rfl ?_
  refine ri_nx rfl rfl ?_
  refine ri_nx rfl rfl ?_
  refine ri_scr rfl (am_M_no hG) S.2.2.1.1 S.2.2.1.2 ?_
  refine ri_nx rfl rfl ?_
  refine ri_nx rfl rfl ?_
  refine ri_nx rfl rfl ?_
  refine ri_nx rfl rfl ?_
  refine ri_scr rfl (am_M_no hG) S.2.2.2.1.1 S.2.2.2.1.2 ?_
  refine ri_nx rfl rfl ?_
  refine ri_nx rfl rfl ?_
  refine ri_nx rfl rfl ?_
  refine ri_nx rfl rfl ?_
  refine ri_scr rfl (am_M_no hG) S.2.2.2.2.1 S.2.2.2.2.2 ?_
  refine ri_vc rfl rfl am_0 rfl (by decide) rfl (Nat.le_of_ble_eq_true rfl) e1 ?_
  refine ri_nx rfl rfl ?_
  refine ri_nx rfl rfl ?_
  refine ri_nx rfl rfl ?_
  refine ri_nx rfl rfl ?_
  refine ri_nx rfl rfl ?_
  refine ri_scr rfl (am_M_no hG) S.1.1 S.1.2 ?_
  refine ri_nx rfl rfl ?_
  refine ri_nx rfl rfl ?_
  refine ri_nx rfl rfl ?_
  refine ri_nx rfl rfl ?_
  refine ri_scr rfl (am_M_no hG) S.2.1.1 S.2.1.2 ?_
  refine ri_nx rfl rfl ?_
  refine ri_nx rfl rfl ?_
  refine ri_nx rfl rfl ?_
  refine ri_nx rfl rfl ?_
  refine ri_scr rfl (am_M_no hG) S.2.2.1.1 S.2.2.1.2 ?_
  refine ri_nx rfl rfl ?_
  refine ri_nx rfl rfl ?_
  refine ri_nx rfl rfl ?_
  refine ri_nx rfl rfl ?_
  refine ri_scr rfl (am_M_no hG) S.2.2.2.1.1 S.2.2.2.1.2 ?_
  refine ri_nx rfl rfl ?_
  refine ri_nx rfl rfl ?_
  refine ri_nx rfl rfl ?_
  refine ri_nx rfl rfl ?_
  refine ri_scr rfl (am_M_no hG) S.2.2.2.2.1 S.2.2.2.2.2 ?_
  refine ri_vc rfl rfl am_571 rfl (by decide) rfl (Nat.le_of_ble_eq_true rfl) e2 ?_
  refine ri_nx rfl (if_pos rfl) ?_
  exact E
set_option maxRecDepth 20000 in
theorem lw_c1 {xs : List Int32} {iv x1 x2 x3 x4 x5 : Int32} {h : am_H} {G : ri_M} {k n : Nat} (S : lw_sc xs iv x1 x2 x3 x4 x5) (I : INV h) (w : am_wf h) (hG : G.length < 10000) (H : lw_nx xs iv G k n) : lw_go xs iv 351 (am_M h G) k n := by
  obtain ⟨v, h1, h2, ⟨I2, w2⟩, e1, e2⟩ := lw_q1 (G := G) I w x1
  obtain ⟨M', k', n', b1, b2, E⟩ := H h2 G k n I2 w2 (by omega) (by omega) (by omega)
  refine ⟨M', k', n', b1, b2, ?_⟩
  refine ri_nx rfl rfl ?_
  refine ri_nx rfl rfl ?_
  refine ri_nx rfl rfl ?_
  refine ri_nx rfl rfl ?_
  refine ri_nx rfl rfl ?_
  refine ri_scr rfl (am_M_no hG) S.1.1 S.1.2 ?_
  refine ri_vc rfl rfl am_0 rfl (by decide) rfl (Nat.le_of_ble_eq_true rfl) e1 ?_
  refine ri_nx rfl rfl ?_
  refine ri_nx rfl rfl ?_
  refine ri_nx rfl rfl ?_
  refine ri_nx rfl rfl ?_
  refine ri_nx rfl rfl ?_
  refine ri_scr rfl (am_M_no hG) S.1.1 S.1.2 ?_
  refine ri_vc rfl rfl am_571 rfl (by decide) rfl (Nat.le_of_ble_eq_true rfl) e2 ?_
  refine ri_nx rfl (if_pos rfl) ?_
  exact E
set_option maxRecDepth 20000 in
theorem lw_c2 {xs : List Int32} {iv x1 x2 x3 x4 x5 : Int32} {h : am_H} {G : ri_M} {k n : Nat} (S : lw_sc xs iv x1 x2 x3 x4 x5) (I : INV h) (w : am_wf h) (hG : G.length < 10000) (H : lw_nx xs iv G k n) : lw_go xs iv 374 (am_M h G) k n := by
  obtain ⟨v, h1, h2, ⟨I2, w2⟩, e1, e2⟩ := lw_q2 (G := G) I w
  obtain ⟨M', k', n', b1, b2, E⟩ := H h2 G k n I2 w2 (by omega) (by omega) (by omega)
  refine ⟨M', k', n', b1, b2, ?_⟩
  refine ri_nx rfl rfl ?_
  refine ri_vc rfl rfl am_0 rfl (by decide) rfl (Nat.le_of_ble_eq_true rfl) e1 ?_
  refine ri_nx rfl rfl ?_
  refine ri_vc rfl rfl am_571 rfl (by decide) rfl (Nat.le_of_ble_eq_true rfl) e2 ?_
  refine ri_nx rfl (if_pos rfl) ?_
  exact E
set_option maxRecDepth 20000 in
theorem lw_c3 {xs : List Int32} {iv x1 x2 x3 x4 x5 : Int32} {h : am_H} {G : ri_M} {k n : Nat} (S : lw_sc xs iv x1 x2 x3 x4 x5) (I : INV h) (w : am_wf h) (hG : G.length < 10000) (H : lw_nx xs iv G k n) : lw_go xs iv 387 (am_M h G) k n := by
  obtain ⟨v, h1, h2, ⟨I2, w2⟩, e1, e2⟩ := lw_q3 (G := G) I w x1
  obtain ⟨M', k', n', b1, b2, E⟩ := H h2 G k n I2 w2 (by omega) (by omega) (by omega)
  refine ⟨M', k', n', b1, b2, ?_⟩
  refine ri_nx rfl rfl ?_
  refine ri_nx rfl rfl ?_
  refine ri_nx rfl rfl ?_
  refine ri_nx rfl rfl ?_
  refine ri_nx rfl rfl ?_
  refine ri_scr rfl (am_M_no hG) S.1.1 S.1.2 ?_
  refine ri_vc rfl rfl am_0 rfl (by decide) rfl (Nat.le_of_ble_eq_true rfl) e1 ?_
  refine ri_nx rfl rfl ?_
  refine ri_nx rfl rfl ?_
  refine ri_nx rfl rfl ?_
  refine ri_nx rfl rfl ?_
  refine ri_nx rfl rfl ?_
  refine ri_scr rfl (am_M_no hG) S.1.1 S.1.2 ?_
  refine ri_vc rfl rfl am_571 rfl (by decide) rfl (Nat.le_of_ble_eq_true rfl) e2 ?_
  refine ri_nx rfl (if_pos rfl) ?_
  exact E
set_option maxRecDepth 20000 in
theorem lw_c4 {xs : List Int32} {iv x1 x2 x3 x4 x5 : Int32} {h : am_H} {G : ri_M} {k n : Nat} (S : lw_sc xs iv x1 x2 x3 x4 x5) (I : INV h) (w : am_wf h) (hG : G.length < 10000) (H : lw_nx xs iv G k n) : lw_go xs iv 410 (am_M h G) k n := by
  obtain ⟨v, h1, h2, ⟨I2, w2⟩, e1, e2⟩ := lw_q4 (G := G) I w x1
  obtain ⟨M', k', n', b1, b2, E⟩ := H h2 G k n I2 w2 (by omega) (by omega) (by omega)
  refine ⟨M', k', n', b1, b2, ?_⟩
  refine ri_nx rfl rfl ?_
  refine ri_nx rfl rfl ?_
  refine ri_nx rfl rfl ?_
  refine ri_nx rfl rfl ?_
  refine ri_nx rfl rfl ?_
  refine ri_scr rfl (am_M_no hG) S.1.1 S.1.2 ?_
  refine ri_vc rfl rfl am_0 rfl (by decide) rfl (Nat.le_of_ble_eq_true rfl) e1 ?_
  refine ri_nx rfl rfl ?_
  refine ri_nx rfl rfl ?_
  refine ri_nx rfl rfl ?_
  refine ri_nx rfl rfl ?_
  refine ri_nx rfl rfl ?_
  refine ri_scr rfl (am_M_no hG) S.1.1 S.1.2 ?_
  refine ri_vc rfl rfl am_571 rfl (by decide) rfl (Nat.le_of_ble_eq_true rfl) e2 ?_
  refine ri_nx rfl (if_pos rfl) ?_
  exact E
set_option maxRecDepth 20000 in
theorem lw_c5 {xs : List Int32} {iv x1 x2 x3 x4 x5 : Int32} {h : am_H} {G : ri_M} {k n : Nat} (S : lw_sc xs iv x1 x2 x3 x4 x5) (I : INV h) (w : am_wf h) (hG : G.length < 10000) (H : lw_nx xs iv G k n) : lw_go xs iv 433 (am_M h G) k n := by
  obtain ⟨v, h1, h2, ⟨I2, w2⟩, e1, e2⟩ := lw_q5 (G := G) I w x1 x2
  obtain ⟨M', k', n', b1, b2, E⟩ := H h2 G k n I2 w2 (by omega) (by omega) (by omega)
  refine ⟨M', k', n', b1, b2, ?_⟩
  refine ri_nx rfl rfl ?_
  refine ri_nx rfl rfl ?_
  refine ri_nx rfl rfl ?_
  refine ri_nx rfl rfl ?_
  refine ri_nx rfl rfl ?_
  refine ri_scr rfl (am_M_no hG) S.1.1 S.1.2 ?_
  refine ri_nx rfl rfl ?_
  refine ri_nx rfl rfl ?_
  refine ri_nx rfl rfl ?_
  refine ri_nx rfl rfl ?_
  refine ri_scr rfl (am_M_no hG) S.2.1.1 S.2.1.2 ?_
  refine ri_vc rfl rfl am_0 rfl (by decide) rfl (Nat.le_of_ble_eq_true rfl) e1 ?_
  refine ri_nx rfl rfl ?_
  refine ri_nx rfl rfl ?_
  refine ri_nx rfl rfl ?_
  refine ri_nx rfl rfl ?_
  refine ri_nx rfl rfl ?_
  refine ri_scr rfl (am_M_no hG) S.1.1 S.1.2 ?_
  refine ri_nx rfl rfl ?_
  refine ri_nx rfl rfl ?_
  refine ri_nx rfl rfl ?_
  refine ri_nx rfl rfl ?_
  refine ri_scr rfl (am_M_no hG) S.2.1.1 S.2.1.2 ?_
  refine ri_vc rfl rfl am_571 rfl (by decide) rfl (Nat.le_of_ble_eq_true rfl) e2 ?_
  refine ri_nx rfl (if_pos rfl) ?_
  exact E
set_option maxRecDepth 20000 in
theorem lw_c6 {xs : List Int32} {iv x1 x2 x3 x4 x5 : Int32} {h : am_H} {G : ri_M} {k n : Nat} (S : lw_sc xs iv x1 x2 x3 x4 x5) (I : INV h) (w : am_wf h) (hG : G.length < 10000) (H : lw_nx xs iv G k n) : lw_go xs iv 466 (am_M h G) k n := by
  obtain ⟨v, h1, h2, ⟨I2, w2⟩, e1, e2⟩ := lw_q6 (G := G) I w x1 x2
  obtain ⟨M', k', n', b1, b2, E⟩ := H h2 G k n I2 w2 (by omega) (by omega) (by omega)
  refine ⟨M', k', n', b1, b2, ?_⟩
  refine ri_nx rfl rfl ?_
  refine ri_nx rfl rfl ?_
  refine ri_nx rfl rfl ?_
  refine ri_nx rfl rfl ?_
  refine ri_nx rfl rfl ?_
  refine ri_scr rfl (am_M_no hG) S.1.1 S.1.2 ?_
  refine ri_nx rfl rfl ?_
  refine ri_nx rfl rfl ?_
  refine ri_nx rfl rfl ?_
  refine ri_nx rfl rfl ?_
  refine ri_scr rfl (am_M_no hG) S.2.1.1 S.2.1.2 ?_
  refine ri_vc rfl rfl am_0 rfl (by decide) rfl (Nat.le_of_ble_eq_true rfl) e1 ?_
  refine ri_nx rfl rfl ?_
  refine ri_nx rfl rfl ?_
  refine ri_nx rfl rfl ?_
  refine ri_nx rfl rfl ?_
  refine ri_nx rfl rfl ?_
  refine ri_scr rfl (am_M_no hG) S.1.1 S.1.2 ?_
  refine ri_nx rfl rfl ?_
  refine ri_nx rfl rfl ?_
  refine ri_nx rfl rfl ?_
  refine ri_nx rfl rfl ?_
  refine ri_scr rfl (am_M_no hG) S.2.1.1 S.2.1.2 ?_
  refine ri_vc rfl rfl am_571 rfl (by decide) rfl (Nat.le_of_ble_eq_true rfl) e2 ?_
  refine ri_nx rfl (if_pos rfl) ?_
  exact E
set_option maxRecDepth 20000 in
theorem lw_c7 {xs : List Int32} {iv x1 x2 x3 x4 x5 : Int32} {h : am_H} {G : ri_M} {k n : Nat} (S : lw_sc xs iv x1 x2 x3 x4 x5) (I : INV h) (w : am_wf h) (hG : G.length < 10000) (H : lw_nx xs iv G k n) : lw_go xs iv 499 (am_M h G) k n := by
  obtain ⟨v, h1, h2, ⟨I2, w2⟩, e1, e2⟩ := lw_q7 (G := G) I w x1
  obtain ⟨M', k', n', b1, b2, E⟩ := H h2 G k n I2 w2 (by omega) (by omega) (by omega)
  refine ⟨M', k', n', b1, b2, ?_⟩
  refine ri_nx rfl rfl ?_
  refine ri_nx rfl rfl ?_
  refine ri_nx rfl rfl ?_
  refine ri_nx rfl rfl ?_
  refine ri_nx rfl rfl ?_
  refine ri_scr rfl (am_M_no hG) S.1.1 S.1.2 ?_
  refine ri_vc rfl rfl am_0 rfl (by decide) rfl (Nat.le_of_ble_eq_true rfl) e1 ?_
  refine ri_nx rfl rfl ?_
  refine ri_nx rfl rfl ?_
  refine ri_nx rfl rfl ?_
  refine ri_nx rfl rfl ?_
  refine ri_nx rfl rfl ?_
  refine ri_scr rfl (am_M_no hG) S.1.1 S.1.2 ?_
  refine ri_vc rfl rfl am_571 rfl (by decide) rfl (Nat.le_of_ble_eq_true rfl) e2 ?_
  refine ri_nx rfl (if_pos rfl) ?_
  exact E
set_option maxRecDepth 20000 in
theorem lw_c8 {xs : List Int32} {iv x1 x2 x3 x4 x5 : Int32} {h : am_H} {G : ri_M} {k n : Nat} (S : lw_sc xs iv x1 x2 x3 x4 x5) (I : INV h) (w : am_wf h) (hG : G.length < 10000) (H : lw_nx xs iv G k n) : lw_go xs iv 522 (am_M h G) k n := by
  obtain ⟨v, h1, h2, ⟨I2, w2⟩, e1, e2⟩ := lw_q8 (G := G) I w x1 x2
  obtain ⟨M', k', n', b1, b2, E⟩ := H h2 G k n I2 w2 (by omega) (by omega) (by omega)
  refine ⟨M', k', n', b1, b2, ?_⟩
  refine ri_nx rfl rfl ?_
  refine ri_nx rfl rfl ?_
  refine ri_nx rfl rfl ?_
  refine ri_nx rfl rfl ?_
  refine ri_nx rfl rfl ?_
  refine ri_scr rfl (am_M_no hG) S.1.1 S.1.2 ?_
  refine ri_nx rfl rfl ?_
  refine ri_nx rfl rfl ?_
  refine ri_nx rfl rfl ?_
  refine ri_nx rfl rfl ?_
  refine ri_scr rfl (am_M_no hG) S.2.1.1 S.2.1.2 ?_
  refine ri_vc rfl rfl am_0 rfl (by decide) rfl (Nat.le_of_ble_eq_true rfl) e1 ?_
  refine ri_nx rfl rfl ?_
  refine ri_nx rfl rfl ?_
  refine ri_nx rfl rfl ?_
  refine ri_nx rfl rfl ?_
  refine ri_nx rfl rfl ?_
  refine ri_scr rfl (am_M_no hG) S.1.1 S.1.2 ?_
  refine ri_nx rfl rfl ?_
  refine ri_nx rfl rfl ?_
  refine ri_nx rfl rfl ?_
  refine ri_nx rfl rfl ?_
  refine ri_scr rfl (am_M_no hG) S.2.1.1 S.2.1.2 ?_
  refine ri_vc rfl rfl am_571 rfl (by decide) rfl (Nat.le_of_ble_eq_true rfl) e2 ?_
  refine ri_nx rfl (if_pos rfl) ?_
  exact E
set_option maxRecDepth 20000 in
theorem lw_c9 {xs : List Int32} {iv x1 x2 x3 x4 x5 : Int32} {h : am_H} {G : ri_M} {k n : Nat} (S : lw_sc xs iv x1 x2 x3 x4 x5) (I : INV h) (w : am_wf h) (hG : G.length < 10000) (H : lw_nx xs iv G k n) : lw_go xs iv 555 (am_M h G) k n := by
  obtain ⟨v, h1, h2, ⟨I2, w2⟩, e1, e2⟩ := lw_q9 (G := G) I w x1 x2
  obtain ⟨M', k', n', b1, b2, E⟩ := H h2 G k n I2 w2 (by omega) (by omega) (by omega)
  refine ⟨M', k', n', b1, b2, ?_⟩
  refine ri_nx rfl rfl ?_
  refine ri_nx rfl rfl ?_
  refine ri_nx rfl rfl ?_
  refine ri_nx rfl rfl ?_
  refine ri_nx rfl rfl ?_
  refine ri_scr rfl (am_M_no hG) S.1.1 S.1.2 ?_
  refine ri_nx rfl rfl ?_
  refine ri_nx rfl rfl ?_
  refine ri_nx rfl rfl ?_
  refine ri_nx rfl rfl ?_
  refine ri_scr rfl (am_M_no hG) S.2.1.1 S.2.1.2 ?_
  refine ri_vc rfl rfl am_0 rfl (by decide) rfl (Nat.le_of_ble_eq_true rfl) e1 ?_
  refine ri_nx rfl rfl ?_
  refine ri_nx rfl rfl ?_
  refine ri_nx rfl rfl ?_
  refine ri_nx rfl rfl ?_
  refine ri_nx rfl rfl ?_
  refine ri_scr rfl (am_M_no hG) S.1.1 S.1.2 ?_
  refine ri_nx rfl rfl ?_
  refine ri_nx rfl rfl ?_
  refine ri_nx rfl rfl ?_
  refine ri_nx rfl rfl ?_
  refine ri_scr rfl (am_M_no hG) S.2.1.1 S.2.1.2 ?_
  refine ri_vc rfl rfl am_571 rfl (by decide) rfl (Nat.le_of_ble_eq_true rfl) e2 ?_
  refine ri_nx rfl rfl ?_
  refine ri_nx rfl (if_pos ((lg_cmp_eq v v).mpr rfl)) ?_
  exact E
set_option maxRecDepth 20000 in
theorem lw_c10 {xs : List Int32} {iv x1 x2 x3 x4 x5 : Int32} {h : am_H} {G : ri_M} {k n : Nat} (S : lw_sc xs iv x1 x2 x3 x4 x5) (I : INV h) (w : am_wf h) (hG : G.length < 10000) (H : lw_nx xs iv G k n) : lw_go xs iv 589 (am_M h G) k n := by
  obtain ⟨v, h1, h2, ⟨I2, w2⟩, e1, e2⟩ := lw_q10 (G := G) I w x1 x2
  obtain ⟨M', k', n', b1, b2, E⟩ := H h2 G k n I2 w2 (by omega) (by omega) (by omega)
  refine ⟨M', k', n', b1, b2, ?_⟩
  refine ri_nx rfl rfl ?_
  refine ri_nx rfl rfl ?_
  refine ri_nx rfl rfl ?_
  refine ri_nx rfl rfl ?_
  refine ri_nx rfl rfl ?_
  refine ri_scr rfl (am_M_no hG) S.1.1 S.1.2 ?_
  refine ri_nx rfl rfl ?_
  refine ri_nx rfl rfl ?_
  refine ri_nx rfl rfl ?_
  refine ri_nx rfl rfl ?_
  refine ri_scr rfl (am_M_no hG) S.2.1.1 S.2.1.2 ?_
  refine ri_vc rfl rfl am_0 rfl (by decide) rfl (Nat.le_of_ble_eq_true rfl) e1 ?_
  refine ri_nx rfl rfl ?_
  refine ri_nx rfl rfl ?_
  refine ri_nx rfl rfl ?_
  refine ri_nx rfl rfl ?_
  refine ri_nx rfl rfl ?_
  refine ri_scr rfl (am_M_no hG) S.1.1 S.1.2 ?_
  refine ri_nx rfl rfl ?_
  refine ri_nx rfl rfl ?_
  refine ri_nx rfl rfl ?_
  refine ri_nx rfl rfl ?_
  refine ri_scr rfl (am_M_no hG) S.2.1.1 S.2.1.2 ?_
  refine ri_vc rfl rfl am_571 rfl (by decide) rfl (Nat.le_of_ble_eq_true rfl) e2 ?_
  refine ri_nx rfl (if_pos rfl) ?_
  exact E
set_option maxRecDepth 20000 in
theorem lw_c11 {xs : List Int32} {iv x1 x2 x3 x4 x5 : Int32} {h : am_H} {G : ri_M} {k n : Nat} (S : lw_sc xs iv x1 x2 x3 x4 x5) (I : INV h) (w : am_wf h) (hG : G.length < 10000) (H : lw_nx xs iv G k n) : lw_go xs iv 622 (am_M h G) k n := by
  obtain ⟨v, h1, h2, ⟨I2, w2⟩, e1, e2⟩ := lw_q11 (G := G) I w x1 x2
  obtain ⟨M', k', n', b1, b2, E⟩ := H h2 G k n I2 w2 (by omega) (by omega) (by omega)
  refine ⟨M', k', n', b1, b2, ?_⟩
  refine ri_nx rfl rfl ?_
  refine ri_nx rfl rfl ?_
  refine ri_nx rfl rfl ?_
  refine ri_nx rfl rfl ?_
  refine ri_nx rfl rfl ?_
  refine ri_scr rfl (am_M_no hG) S.1.1 S.1.2 ?_
  refine ri_nx rfl rfl ?_
  refine ri_nx rfl rfl ?_
  refine ri_nx rfl rfl ?_
  refine ri_nx rfl rfl ?_
  refine ri_scr rfl (am_M_no hG) S.2.1.1 S.2.1.2 ?_
  refine ri_vc rfl rfl am_0 rfl (by decide) rfl (Nat.le_of_ble_eq_true rfl) e1 ?_
  refine ri_nx rfl rfl ?_
  refine ri_nx rfl rfl ?_
  refine ri_nx rfl rfl ?_
  refine ri_nx rfl rfl ?_
  refine ri_nx rfl rfl ?_
  refine ri_scr rfl (am_M_no hG) S.1.1 S.1.2 ?_
  refine ri_nx rfl rfl ?_
  refine ri_nx rfl rfl ?_
  refine ri_nx rfl rfl ?_
  refine ri_nx rfl rfl ?_
  refine ri_scr rfl (am_M_no hG) S.2.1.1 S.2.1.2 ?_
  refine ri_vc rfl rfl am_571 rfl (by decide) rfl (Nat.le_of_ble_eq_true rfl) e2 ?_
  refine ri_nx rfl (if_pos rfl) ?_
  exact E
set_option maxRecDepth 20000 in
theorem lw_c12 {xs : List Int32} {iv x1 x2 x3 x4 x5 : Int32} {h : am_H} {G : ri_M} {k n : Nat} (S : lw_sc xs iv x1 x2 x3 x4 x5) (I : INV h) (w : am_wf h) (hG : G.length < 10000) (H : lw_nx xs iv G k n) : lw_go xs iv 655 (am_M h G) k n := by
  obtain ⟨v, h1, h2, ⟨I2, w2⟩, e1, e2⟩ := lw_q12 (G := G) I w x1 x2
  obtain ⟨M', k', n', b1, b2, E⟩ := H h2 G k n I2 w2 (by omega) (by omega) (by omega)
  refine ⟨M', k', n', b1, b2, ?_⟩
  refine ri_nx rfl rfl ?_
  refine ri_nx rfl rfl ?_
  refine ri_nx rfl rfl ?_
  refine ri_nx rfl rfl ?_
  refine ri_nx rfl rfl ?_
  refine ri_scr rfl (am_M_no hG) S.1.1 S.1.2 ?_
  refine ri_nx rfl rfl ?_
  refine ri_nx rfl rfl ?_
  refine ri_nx rfl rfl ?_
  refine ri_nx rfl rfl ?_
  refine ri_scr rfl (am_M_no hG) S.2.1.1 S.2.1.2 ?_
  refine ri_vc rfl rfl am_0 rfl (by decide) rfl (Nat.le_of_ble_eq_true rfl) e1 ?_
  refine ri_nx rfl rfl ?_
  refine ri_nx rfl rfl ?_
  refine ri_nx rfl rfl ?_
  refine ri_nx rfl rfl ?_
  refine ri_nx rfl rfl ?_
  refine ri_scr rfl (am_M_no hG) S.1.1 S.1.2 ?_
  refine ri_nx rfl rfl ?_
  refine ri_nx rfl rfl ?_
  refine ri_nx rfl rfl ?_
  refine ri_nx rfl rfl ?_
  refine ri_scr rfl (am_M_no hG) S.2.1.1 S.2.1.2 ?_
  refine ri_vc rfl rfl am_571 rfl (by decide) rfl (Nat.le_of_ble_eq_true rfl) e2 ?_
  refine ri_nx rfl (if_pos rfl) ?_
  exact E
set_option maxRecDepth 20000 in
theorem lw_c13 {xs : List Int32} {iv x1 x2 x3 x4 x5 : Int32} {h : am_H} {G : ri_M} {k n : Nat} (S : lw_sc xs iv x1 x2 x3 x4 x5) (I : INV h) (w : am_wf h) (hG : G.length < 10000) (H : lw_nx xs iv G k n) : lw_go xs iv 688 (am_M h G) k n := by
  obtain ⟨v, h1, h2, ⟨I2, w2⟩, e1, e2⟩ := lw_q13 (G := G) I w x1
  obtain ⟨M', k', n', b1, b2, E⟩ := H h2 G k n I2 w2 (by omega) (by omega) (by omega)
  refine ⟨M', k', n', b1, b2, ?_⟩
  refine ri_nx rfl rfl ?_
  refine ri_nx rfl rfl ?_
  refine ri_nx rfl rfl ?_
  refine ri_nx rfl rfl ?_
  refine ri_nx rfl rfl ?_
  refine ri_scr rfl (am_M_no hG) S.1.1 S.1.2 ?_
  refine ri_vc rfl rfl am_0 rfl (by decide) rfl (Nat.le_of_ble_eq_true rfl) e1 ?_
  refine ri_nx rfl rfl ?_
  refine ri_nx rfl rfl ?_
  refine ri_nx rfl rfl ?_
  refine ri_nx rfl rfl ?_
  refine ri_nx rfl rfl ?_
  refine ri_scr rfl (am_M_no hG) S.1.1 S.1.2 ?_
  refine ri_vc rfl rfl am_571 rfl (by decide) rfl (Nat.le_of_ble_eq_true rfl) e2 ?_
  refine ri_nx rfl (if_pos rfl) ?_
  exact E
set_option maxRecDepth 20000 in
theorem lw_c14 {xs : List Int32} {iv x1 x2 x3 x4 x5 : Int32} {h : am_H} {G : ri_M} {k n : Nat} (S : lw_sc xs iv x1 x2 x3 x4 x5) (I : INV h) (w : am_wf h) (hG : G.length < 10000) (H : lw_nx xs iv G k n) : lw_go xs iv 711 (am_M h G) k n := by
  obtain ⟨v, h1, h2, ⟨I2, w2⟩, e1, e2⟩ := lw_q14 (G := G) I w x1 x2
  obtain ⟨M', k', n', b1, b2, E⟩ := H h2 G k n I2 w2 (by omega) (by omega) (by omega)
  refine ⟨M', k', n', b1, b2, ?_⟩
  refine ri_nx rfl rfl ?_
  refine ri_nx rfl rfl ?_
  refine ri_nx rfl rfl ?_
  refine ri_nx rfl rfl ?_
  refine ri_nx rfl rfl ?_
  refine ri_scr rfl (am_M_no hG) S.1.1 S.1.2 ?_
  refine ri_nx rfl rfl ?_
  refine ri_nx rfl rfl ?_
  refine ri_nx rfl rfl ?_
  refine ri_nx rfl rfl ?_
  refine ri_scr rfl (am_M_no hG) S.2.1.1 S.2.1.2 ?_
  refine ri_vc rfl rfl am_0 rfl (by decide) rfl (Nat.le_of_ble_eq_true rfl) e1 ?_
  refine ri_nx rfl rfl ?_
  refine ri_nx rfl rfl ?_
  refine ri_nx rfl rfl ?_
  refine ri_nx rfl rfl ?_
  refine ri_nx rfl rfl ?_
  refine ri_scr rfl (am_M_no hG) S.1.1 S.1.2 ?_
  refine ri_nx rfl rfl ?_
  refine ri_nx rfl rfl ?_
  refine ri_nx rfl rfl ?_
  refine ri_nx rfl rfl ?_
  refine ri_scr rfl (am_M_no hG) S.2.1.1 S.2.1.2 ?_
  refine ri_vc rfl rfl am_571 rfl (by decide) rfl (Nat.le_of_ble_eq_true rfl) e2 ?_
  refine ri_nx rfl (if_pos rfl) ?_
  exact E
set_option maxRecDepth 20000 in
theorem lw_c15 {xs : List Int32} {iv x1 x2 x3 x4 x5 : Int32} {h : am_H} {G : ri_M} {k n : Nat} (S : lw_sc xs iv x1 x2 x3 x4 x5) (I : INV h) (w : am_wf h) (hG : G.length < 10000) (H : lw_nx xs iv G k n) : lw_go xs iv 744 (am_M h G) k n := by
  obtain ⟨v, h1, h2, ⟨I2, w2⟩, e1, e2⟩ := lw_q15 (G := G) I w x1
  obtain ⟨M', k', n', b1, b2, E⟩ := H h2 G k n I2 w2 (by omega) (by omega) (by omega)
  refine ⟨M', k', n', b1, b2, ?_⟩
  refine ri_nx rfl rfl ?_
  refine ri_nx rfl rfl ?_
  refine ri_nx rfl rfl ?_
  refine ri_nx rfl rfl ?_
  refine ri_nx rfl rfl ?_
  refine ri_scr rfl (am_M_no hG) S.1.1 S.1.2 ?_
  refine ri_vc rfl rfl am_0 rfl (by decide) rfl (Nat.le_of_ble_eq_true rfl) e1 ?_
  refine ri_nx rfl rfl ?_
  refine ri_nx rfl rfl ?_
  refine ri_nx rfl rfl ?_
  refine ri_nx rfl rfl ?_
  refine ri_nx rfl rfl ?_
  refine ri_scr rfl (am_M_no hG) S.1.1 S.1.2 ?_
  refine ri_vc rfl rfl am_571 rfl (by decide) rfl (Nat.le_of_ble_eq_true rfl) e2 ?_
  refine ri_nx rfl (if_pos rfl) ?_
  exact E
set_option maxRecDepth 20000 in
theorem lw_c16 {xs : List Int32} {iv x1 x2 x3 x4 x5 : Int32} {h : am_H} {G : ri_M} {k n : Nat} (S : lw_sc xs iv x1 x2 x3 x4 x5) (I : INV h) (w : am_wf h) (hG : G.length < 10000) (H : lw_nx xs iv G k n) : lw_go xs iv 767 (am_M h G) k n := by
  obtain ⟨v, h1, h2, ⟨I2, w2⟩, e1, e2⟩ := lw_q16 (G := G) I w x1 x2
  obtain ⟨M', k', n', b1, b2, E⟩ := H h2 G k n I2 w2 (by omega) (by omega) (by omega)
  refine ⟨M', k', n', b1, b2, ?_⟩
  refine ri_nx rfl rfl ?_
  refine ri_nx rfl rfl ?_
  refine ri_nx rfl rfl ?_
  refine ri_nx rfl rfl ?_
  refine ri_nx rfl rfl ?_
  refine ri_scr rfl (am_M_no hG) S.1.1 S.1.2 ?_
  refine ri_nx rfl rfl ?_
  refine ri_nx rfl rfl ?_
  refine ri_nx rfl rfl ?_
  refine ri_nx rfl rfl ?_
  refine ri_scr rfl (am_M_no hG) S.2.1.1 S.2.1.2 ?_
  refine ri_vc rfl rfl am_0 rfl (by decide) rfl (Nat.le_of_ble_eq_true rfl) e1 ?_
  refine ri_nx rfl rfl ?_
  refine ri_nx rfl rfl ?_
  refine ri_nx rfl rfl ?_
  refine ri_nx rfl rfl ?_
  refine ri_nx rfl rfl ?_
  refine ri_scr rfl (am_M_no hG) S.1.1 S.1.2 ?_
  refine ri_nx rfl rfl ?_
  refine ri_nx rfl rfl ?_
  refine ri_nx rfl rfl ?_
  refine ri_nx rfl rfl ?_
  refine ri_scr rfl (am_M_no hG) S.2.1.1 S.2.1.2 ?_
  refine ri_vc rfl rfl am_571 rfl (by decide) rfl (Nat.le_of_ble_eq_true rfl) e2 ?_
  refine ri_nx rfl (if_pos rfl) ?_
  exact E
set_option maxRecDepth 20000 in
theorem lw_c17 {xs : List Int32} {iv x1 x2 x3 x4 x5 : Int32} {h : am_H} {G : ri_M} {k n : Nat} (S : lw_sc xs iv x1 x2 x3 x4 x5) (I : INV h) (w : am_wf h) (hG : G.length < 10000) (H : lw_nx xs iv G k n) : lw_go xs iv 800 (am_M h G) k n := by
  obtain ⟨v, h1, h2, ⟨I2, w2⟩, e1, e2⟩ := lw_q17 (G := G) I w x1 x2
  obtain ⟨M', k', n', b1, b2, E⟩ := H h2 G k n I2 w2 (by omega) (by omega) (by omega)
  refine ⟨M', k', n', b1, b2, ?_⟩
  refine ri_nx rfl rfl ?_
  refine ri_nx rfl rfl ?_
  refine ri_nx rfl rfl ?_
  refine ri_nx rfl rfl ?_
  refine ri_nx rfl rfl ?_
  refine ri_scr rfl (am_M_no hG) S.1.1 S.1.2 ?_
  refine ri_nx rfl rfl ?_
  refine ri_nx rfl rfl ?_
  refine ri_nx rfl rfl ?_
  refine ri_nx rfl rfl ?_
  refine ri_scr rfl (am_M_no hG) S.2.1.1 S.2.1.2 ?_
  refine ri_vc rfl rfl am_0 rfl (by decide) rfl (Nat.le_of_ble_eq_true rfl) e1 ?_
  refine ri_nx rfl rfl ?_
  refine ri_nx rfl rfl ?_
  refine ri_nx rfl rfl ?_
  refine ri_nx rfl rfl ?_
  refine ri_nx rfl rfl ?_
  refine ri_scr rfl (am_M_no hG) S.1.1 S.1.2 ?_
  refine ri_nx rfl rfl ?_
  refine ri_nx rfl rfl ?_
  refine ri_nx rfl rfl ?_
  refine ri_nx rfl rfl ?_
  refine ri_scr rfl (am_M_no hG) S.2.1.1 S.2.1.2 ?_
  refine ri_vc rfl rfl am_571 rfl (by decide) rfl (Nat.le_of_ble_eq_true rfl) e2 ?_
  refine ri_nx rfl (if_pos rfl) ?_
  exact E
set_option maxRecDepth 20000 in
theorem lw_c18 {xs : List Int32} {iv x1 x2 x3 x4 x5 : Int32} {h : am_H} {G : ri_M} {k n : Nat} (S : lw_sc xs iv x1 x2 x3 x4 x5) (I : INV h) (w : am_wf h) (hG : G.length < 10000) (H : lw_nx xs iv G k n) : lw_go xs iv 833 (am_M h G) k n := by
  obtain ⟨v, h1, h2, ⟨I2, w2⟩, e1, e2⟩ := lw_q18 (G := G) I w x1 x2 x3
  obtain ⟨M', k', n', b1, b2, E⟩ := H h2 G k n I2 w2 (by omega) (by omega) (by omega)
  refine ⟨M', k', n', b1, b2, ?_⟩
  refine ri_nx rfl rfl ?_
  refine ri_nx rfl rfl ?_
  refine ri_nx rfl rfl ?_
  refine ri_nx rfl rfl ?_
  refine ri_nx rfl rfl ?_
  refine ri_scr rfl (am_M_no hG) S.1.1 S.1.2 ?_
  refine ri_nx rfl rfl ?_
  refine ri_nx rfl rfl ?_
  refine ri_nx rfl rfl ?_
  refine ri_nx rfl rfl ?_
  refine ri_scr rfl (am_M_no hG) S.2.1.1 S.2.1.2 ?_
  refine ri_nx rfl rfl ?_
  refine ri_nx rfl rfl ?_
  refine ri_nx rfl rfl ?_
  refine ri_nx rfl rfl ?_
  refine ri_scr rfl (am_M_no hG) S.2.2.1.1 S.2.2.1.2 ?_
  refine ri_vc rfl rfl am_0 rfl (by decide) rfl (Nat.le_of_ble_eq_true rfl) e1 ?_
  refine ri_nx rfl rfl ?_
  refine ri_nx rfl rfl ?_
  refine ri_nx rfl rfl ?_
  refine ri_nx rfl rfl ?_
  refine ri_nx rfl rfl ?_
  refine ri_scr rfl (am_M_no hG) S.1.1 S.1.2 ?_
  refine ri_nx rfl rfl ?_
  refine ri_nx rfl rfl ?_
  refine ri_nx rfl rfl ?_
  refine ri_nx rfl rfl ?_
  refine ri_scr rfl (am_M_no hG) S.2.1.1 S.2.1.2 ?_
  refine ri_nx rfl rfl ?_
  refine ri_nx rfl rfl ?_
  refine ri_nx rfl rfl ?_
  refine ri_nx rfl rfl ?_
  refine ri_scr rfl (am_M_no hG) S.2.2.1.1 S.2.2.1.2 ?_
  refine ri_vc rfl rfl am_571 rfl (by decide) rfl (Nat.le_of_ble_eq_true rfl) e2 ?_
  refine ri_nx rfl (if_pos rfl) ?_
  exact E
set_option maxRecDepth 20000 in
theorem lw_c19 {xs : List Int32} {iv x1 x2 x3 x4 x5 : Int32} {h : am_H} {G : ri_M} {k n : Nat} (S : lw_sc xs iv x1 x2 x3 x4 x5) (I : INV h) (w : am_wf h) (hG : G.length < 10000) (H : lw_nx xs iv G k n) : lw_go xs iv 876 (am_M h G) k n := by
  obtain ⟨v, h1, h2, ⟨I2, w2⟩, e1, e2⟩ := lw_q19 (G := G) I w x1 x2 x3
  obtain ⟨M', k', n', b1, b2, E⟩ := H h2 G k n I2 w2 (by omega) (by omega) (by omega)
  refine ⟨M', k', n', b1, b2, ?_⟩
  refine ri_nx rfl rfl ?_
  refine ri_nx rfl rfl ?_
  refine ri_nx rfl rfl ?_
  refine ri_nx rfl rfl ?_
  refine ri_nx rfl rfl ?_
  refine ri_scr rfl (am_M_no hG) S.1.1 S.1.2 ?_
  refine ri_nx rfl rfl ?_
  refine ri_nx rfl rfl ?_
  refine ri_nx rfl rfl ?_
  refine ri_nx rfl rfl ?_
  refine ri_scr rfl (am_M_no hG) S.2.1.1 S.2.1.2 ?_
  refine ri_nx rfl rfl ?_
  refine ri_nx rfl rfl ?_
  refine ri_nx rfl rfl ?_
  refine ri_nx rfl rfl ?_
  refine ri_scr rfl (am_M_no hG) S.2.2.1.1 S.2.2.1.2 ?_
  refine ri_vc rfl rfl am_0 rfl (by decide) rfl (Nat.le_of_ble_eq_true rfl) e1 ?_
  refine ri_nx rfl rfl ?_
  refine ri_nx rfl rfl ?_
  refine ri_nx rfl rfl ?_
  refine ri_nx rfl rfl ?_
  refine ri_nx rfl rfl ?_
  refine ri_scr rfl (am_M_no hG) S.1.1 S.1.2 ?_
  refine ri_nx rfl rfl ?_
  refine ri_nx rfl rfl ?_
  refine ri_nx rfl rfl ?_
  refine ri_nx rfl rfl ?_
  refine ri_scr rfl (am_M_no hG) S.2.1.1 S.2.1.2 ?_
  refine ri_nx rfl rfl ?_
  refine ri_nx rfl rfl ?_
  refine ri_nx rfl rfl ?_
  refine ri_nx rfl rfl ?_
  refine ri_scr rfl (am_M_no hG) S.2.2.1.1 S.2.2.1.2 ?_
  refine ri_vc rfl rfl am_571 rfl (by decide) rfl (Nat.le_of_ble_eq_true rfl) e2 ?_
  refine ri_nx rfl (if_pos rfl) ?_
  exact E
set_option maxRecDepth 20000 in
theorem lw_c20 {xs : List Int32} {iv x1 x2 x3 x4 x5 : Int32} {h : am_H} {G : ri_M} {k n : Nat} (S : lw_sc xs iv x1 x2 x3 x4 x5) (I : INV h) (w : am_wf h) (hG : G.length < 10000) (H : lw_nx xs iv G k n) : lw_go xs iv 919 (am_M h G) k n := by
  obtain ⟨v, h1, h2, ⟨I2, w2⟩, e1, e2⟩ := lw_q20 (G := G) I w x1 x2
  obtain ⟨M', k', n', b1, b2, E⟩ := H h2 G k n I2 w2 (by omega) (by omega) (by omega)
  refine ⟨M', k', n', b1, b2, ?_⟩
  refine ri_nx rfl rfl ?_
  refine ri_nx rfl rfl ?_
  refine ri_nx rfl rfl ?_
  refine ri_nx rfl rfl ?_
  refine ri_nx rfl rfl ?_
  refine ri_scr rfl (am_M_no hG) S.1.1 S.1.2 ?_
  refine ri_nx rfl rfl ?_
  refine ri_nx rfl rfl ?_
  refine ri_nx rfl rfl ?_
  refine ri_nx rfl rfl ?_
  refine ri_scr rfl (am_M_no hG) S.2.1.1 S.2.1.2 ?_
  refine ri_vc rfl rfl am_0 rfl (by decide) rfl (Nat.le_of_ble_eq_true rfl) e1 ?_
  refine ri_nx rfl rfl ?_
  refine ri_nx rfl rfl ?_
  refine ri_nx rfl rfl ?_
  refine ri_nx rfl rfl ?_
  refine ri_nx rfl rfl ?_
  refine ri_scr rfl (am_M_no hG) S.1.1 S.1.2 ?_
  refine ri_nx rfl rfl ?_
  refine ri_nx rfl rfl ?_
  refine ri_nx rfl rfl ?_
  refine ri_nx rfl rfl ?_
  refine ri_scr rfl (am_M_no hG) S.2.1.1 S.2.1.2 ?_
  refine ri_vc rfl rfl am_571 rfl (by decide) rfl (Nat.le_of_ble_eq_true rfl) e2 ?_
  refine ri_nx rfl (if_pos rfl) ?_
  exact E
set_option maxRecDepth 20000 in
theorem lw_c21 {xs : List Int32} {iv x1 x2 x3 x4 x5 : Int32} {h : am_H} {G : ri_M} {k n : Nat} (S : lw_sc xs iv x1 x2 x3 x4 x5) (I : INV h) (w : am_wf h) (hG : G.length < 10000) (H : lw_nx xs iv G k n) : lw_go xs iv 952 (am_M h G) k n := by
  obtain ⟨v, h1, h2, ⟨I2, w2⟩, e1, e2⟩ := lw_q21 (G := G) I w x1
  obtain ⟨M', k', n', b1, b2, E⟩ := H h2 G k n I2 w2 (by omega) (by omega) (by omega)
  refine ⟨M', k', n', b1, b2, ?_⟩
  refine ri_nx rfl rfl ?_
  refine ri_nx rfl rfl ?_
  refine ri_nx rfl rfl ?_
  refine ri_nx rfl rfl ?_
  refine ri_nx rfl rfl ?_
  refine ri_scr rfl (am_M_no hG) S.1.1 S.1.2 ?_
  refine ri_vc rfl rfl am_0 rfl (by decide) rfl (Nat.le_of_ble_eq_true rfl) e1 ?_
  refine ri_nx rfl rfl ?_
  refine ri_nx rfl rfl ?_
  refine ri_nx rfl rfl ?_
  refine ri_nx rfl rfl ?_
  refine ri_nx rfl rfl ?_
  refine ri_scr rfl (am_M_no hG) S.1.1 S.1.2 ?_
  refine ri_vc rfl rfl am_571 rfl (by decide) rfl (Nat.le_of_ble_eq_true rfl) e2 ?_
  refine ri_nx rfl rfl ?_
  refine ri_nx rfl (if_pos ((lg_cmp_eq v v).mpr rfl)) ?_
  exact E
set_option maxRecDepth 20000 in
theorem lw_c22 {xs : List Int32} {iv x1 x2 x3 x4 x5 : Int32} {h : am_H} {G : ri_M} {k n : Nat} (S : lw_sc xs iv x1 x2 x3 x4 x5) (I : INV h) (w : am_wf h) (hG : G.length < 10000) (H : lw_nx xs iv G k n) : lw_go xs iv 976 (am_M h G) k n := by
  obtain ⟨v, h1, h2, ⟨I2, w2⟩, e1, e2⟩ := lw_q22 (G := G) I w
  obtain ⟨M', k', n', b1, b2, E⟩ := H h2 G k n I2 w2 (by omega) (by omega) (by omega)
  refine ⟨M', k', n', b1, b2, ?_⟩
  refine ri_nx rfl rfl ?_
  refine ri_vc rfl rfl am_0 rfl (by decide) rfl (Nat.le_of_ble_eq_true rfl) e1 ?_
  refine ri_nx rfl rfl ?_
  refine ri_vc rfl rfl am_571 rfl (by decide) rfl (Nat.le_of_ble_eq_true rfl) e2 ?_
  refine ri_nx rfl rfl ?_
  refine ri_nx rfl (if_pos ((lg_cmp_eq v v).mpr rfl)) ?_
  exact E
set_option maxRecDepth 20000 in
theorem lw_c23 {xs : List Int32} {iv x1 x2 x3 x4 x5 : Int32} {h : am_H} {G : ri_M} {k n : Nat} (S : lw_sc xs iv x1 x2 x3 x4 x5) (I : INV h) (w : am_wf h) (hG : G.length < 10000) (H : lw_nx xs iv G k n) : lw_go xs iv 990 (am_M h G) k n := by
  obtain ⟨v, h1, h2, ⟨I2, w2⟩, e1, e2⟩ := lw_q23 (G := G) I w x1
  obtain ⟨M', k', n', b1, b2, E⟩ := H h2 G k n I2 w2 (by omega) (by omega) (by omega)
  refine ⟨M', k', n', b1, b2, ?_⟩
  refine ri_nx rfl rfl ?_
  refine ri_nx rfl rfl ?_
  refine ri_nx rfl rfl ?_
  refine ri_nx rfl rfl ?_
  refine ri_nx rfl rfl ?_
  refine ri_scr rfl (am_M_no hG) S.1.1 S.1.2 ?_
  refine ri_vc rfl rfl am_0 rfl (by decide) rfl (Nat.le_of_ble_eq_true rfl) e1 ?_
  refine ri_nx rfl rfl ?_
  refine ri_nx rfl rfl ?_
  refine ri_nx rfl rfl ?_
  refine ri_nx rfl rfl ?_
  refine ri_nx rfl rfl ?_
  refine ri_scr rfl (am_M_no hG) S.1.1 S.1.2 ?_
  refine ri_vc rfl rfl am_571 rfl (by decide) rfl (Nat.le_of_ble_eq_true rfl) e2 ?_
  refine ri_nx rfl (if_pos rfl) ?_
  exact E
set_option maxRecDepth 20000 in
theorem lw_c24 {xs : List Int32} {iv x1 x2 x3 x4 x5 : Int32} {h : am_H} {G : ri_M} {k n : Nat} (S : lw_sc xs iv x1 x2 x3 x4 x5) (I : INV h) (w : am_wf h) (hG : G.length < 10000) (H : lw_nx xs iv G k n) : lw_go xs iv 1013 (am_M h G) k n := by
  obtain ⟨v, h1, h2, ⟨I2, w2⟩, e1, e2⟩ := lw_q24 (G := G) I w x1 x2 x3 x4
  obtain ⟨M', k', n', b1, b2, E⟩ := H h2 G k n I2 w2 (by omega) (by omega) (by omega)
  refine ⟨M', k', n', b1, b2, ?_⟩
  refine ri_nx rfl rfl ?_
  refine ri_nx rfl rfl ?_
  refine ri_nx rfl rfl ?_
  refine ri_nx rfl rfl ?_
  refine ri_nx rfl rfl ?_
  refine ri_scr rfl (am_M_no hG) S.1.1 S.1.2 ?_
  refine ri_nx rfl rfl ?_
  refine ri_nx rfl rfl ?_
  refine ri_nx rfl rfl ?_
  refine ri_nx rfl rfl ?_
  refine ri_scr rfl (am_M_no hG) S.2.1.1 S.2.1.2 ?_
  refine ri_nx rfl rfl ?_
  refine ri_nx rfl rfl ?_
  refine ri_nx rfl rfl ?_
  refine ri_nx rfl rfl ?_
  refine ri_scr rfl (am_M_no hG) S.2.2.1.1 S.2.2.1.2 ?_
  refine ri_nx rfl rfl ?_
  refine ri_nx rfl rfl ?_
  refine ri_nx rfl rfl ?_
  refine ri_nx rfl rfl ?_
  refine ri_scr rfl (am_M_no hG) S.2.2.2.1.1 S.2.2.2.1.2 ?_
  refine ri_vc rfl rfl am_0 rfl (by decide) rfl (Nat.le_of_ble_eq_true rfl) e1 ?_
  refine ri_nx rfl rfl ?_
  refine ri_nx rfl rfl ?_
  refine ri_nx rfl rfl ?_
  refine ri_nx rfl rfl ?_
  refine ri_nx rfl rfl ?_
  refine ri_scr rfl (am_M_no hG) S.1.1 S.1.2 ?_
  refine ri_nx rfl rfl ?_
  refine ri_nx rfl rfl ?_
  refine ri_nx rfl rfl ?_
  refine ri_nx rfl rfl ?_
  refine ri_scr rfl (am_M_no hG) S.2.1.1 S.2.1.2 ?_
  refine ri_nx rfl rfl ?_
  refine ri_nx rfl rfl ?_
  refine ri_nx rfl rfl ?_
  refine ri_nx rfl rfl ?_
  refine ri_scr rfl (am_M_no hG) S.2.2.1.1 S.2.2.1.2 ?_
  refine ri_nx rfl rfl ?_
  refine ri_nx rfl rfl ?_
  refine ri_nx rfl rfl ?_
  refine ri_nx rfl rfl ?_
  refine ri_scr rfl (am_M_no hG) S.2.2.2.1.1 S.2.2.2.1.2 ?_
  refine ri_vc rfl rfl am_571 rfl (by decide) rfl (Nat.le_of_ble_eq_true rfl) e2 ?_
  refine ri_nx rfl (if_pos rfl) ?_
  exact E
set_option maxRecDepth 20000 in
theorem lw_c25 {xs : List Int32} {iv x1 x2 x3 x4 x5 : Int32} {h : am_H} {G : ri_M} {k n : Nat} (S : lw_sc xs iv x1 x2 x3 x4 x5) (I : INV h) (w : am_wf h) (hG : G.length < 10000) (H : lw_nx xs iv G k n) : lw_go xs iv 1066 (am_M h G) k n := by
  obtain ⟨v, h1, h2, ⟨I2, w2⟩, e1, e2⟩ := lw_q25 (G := G) I w x1
  obtain ⟨M', k', n', b1, b2, E⟩ := H h2 G k n I2 w2 (by omega) (by omega) (by omega)
  refine ⟨M', k', n', b1, b2, ?_⟩
  refine ri_nx rfl rfl ?_
  refine ri_nx rfl rfl ?_
  refine ri_nx rfl rfl ?_
  refine ri_nx rfl rfl ?_
  refine ri_nx rfl rfl ?_
  refine ri_scr rfl (am_M_no hG) S.1.1 S.1.2 ?_
  refine ri_vc rfl rfl am_0 rfl (by decide) rfl (Nat.le_of_ble_eq_true rfl) e1 ?_
  refine ri_nx rfl rfl ?_
  refine ri_nx rfl rfl ?_
  refine ri_nx rfl rfl ?_
  refine ri_nx rfl rfl ?_
  refine ri_nx rfl rfl ?_
  refine ri_scr rfl (am_M_no hG) S.1.1 S.1.2 ?_
  refine ri_vc rfl rfl am_571 rfl (by decide) rfl (Nat.le_of_ble_eq_true rfl) e2 ?_
  refine ri_nx rfl (if_pos rfl) ?_
  exact E
set_option maxRecDepth 20000 in
theorem lw_c26 {xs : List Int32} {iv x1 x2 x3 x4 x5 : Int32} {h : am_H} {G : ri_M} {k n : Nat} (S : lw_sc xs iv x1 x2 x3 x4 x5) (I : INV h) (w : am_wf h) (hG : G.length < 10000) (H : lw_nx xs iv G k n) : lw_go xs iv 1089 (am_M h G) k n := by
  obtain ⟨v, h1, h2, ⟨I2, w2⟩, e1, e2⟩ := lw_q26 (G := G) I w
  obtain ⟨M', k', n', b1, b2, E⟩ := H h2 G k n I2 w2 (by omega) (by omega) (by omega)
  refine ⟨M', k', n', b1, b2, ?_⟩
  refine ri_nx rfl rfl ?_
  refine ri_vc rfl rfl am_0 rfl (by decide) rfl (Nat.le_of_ble_eq_true rfl) e1 ?_
  refine ri_nx rfl rfl ?_
  refine ri_vc rfl rfl am_571 rfl (by decide) rfl (Nat.le_of_ble_eq_true rfl) e2 ?_
  refine ri_nx rfl (if_pos rfl) ?_
  exact E
set_option maxRecDepth 20000 in
theorem lw_c27 {xs : List Int32} {iv x1 x2 x3 x4 x5 : Int32} {h : am_H} {G : ri_M} {k n : Nat} (S : lw_sc xs iv x1 x2 x3 x4 x5) (I : INV h) (w : am_wf h) (hG : G.length < 10000) (H : lw_nx xs iv G k n) : lw_go xs iv 1102 (am_M h G) k n := by
  obtain ⟨v, h1, h2, ⟨I2, w2⟩, e1, e2⟩ := lw_q27 (G := G) I w x1
  obtain ⟨M', k', n', b1, b2, E⟩ := H h2 G k n I2 w2 (by omega) (by omega) (by omega)
  refine ⟨M', k', n', b1, b2, ?_⟩
  refine ri_nx rfl rfl ?_
  refine ri_nx rfl rfl ?_
  refine ri_nx rfl rfl ?_
  refine ri_nx rfl rfl ?_
  refine ri_nx rfl rfl ?_
  refine ri_scr rfl (am_M_no hG) S.1.1 S.1.2 ?_
  refine ri_vc rfl rfl am_0 rfl (by decide) rfl (Nat.le_of_ble_eq_true rfl) e1 ?_
  refine ri_nx rfl rfl ?_
  refine ri_nx rfl rfl ?_
  refine ri_nx rfl rfl ?_
  refine ri_nx rfl rfl ?_
  refine ri_nx rfl rfl ?_
  refine ri_scr rfl (am_M_no hG) S.1.1 S.1.2 ?_
  refine ri_vc rfl rfl am_571 rfl (by decide) rfl (Nat.le_of_ble_eq_true rfl) e2 ?_
  refine ri_nx rfl (if_pos rfl) ?_
  exact E
set_option maxRecDepth 20000 in
theorem lw_c28 {xs : List Int32} {iv x1 x2 x3 x4 x5 : Int32} {h : am_H} {G : ri_M} {k n : Nat} (S : lw_sc xs iv x1 x2 x3 x4 x5) (I : INV h) (w : am_wf h) (hG : G.length < 10000) (H : lw_nx xs iv G k n) : lw_go xs iv 1125 (am_M h G) k n := by
  obtain ⟨v, h1, h2, ⟨I2, w2⟩, e1, e2⟩ := lw_q28 (G := G) I w x1 x2 x3
  obtain ⟨M', k', n', b1, b2, E⟩ := H h2 G k n I2 w2 (by omega) (by omega) (by omega)
  refine ⟨M', k', n', b1, b2, ?_⟩
  refine ri_nx rfl rfl ?_
  refine ri_nx rfl rfl ?_
  refine ri_nx rfl rfl ?_
  refine ri_nx rfl rfl ?_
  refine ri_nx rfl rfl ?_
  refine ri_scr rfl (am_M_no hG) S.1.1 S.1.2 ?_
  refine ri_nx rfl rfl ?_
  refine ri_nx rfl rfl ?_
  refine ri_nx rfl rfl ?_
  refine ri_nx rfl rfl ?_
  refine ri_scr rfl (am_M_no hG) S.2.1.1 S.2.1.2 ?_
  refine ri_nx rfl rfl ?_
  refine ri_nx rfl rfl ?_
  refine ri_nx rfl rfl ?_
  refine ri_nx rfl rfl ?_
  refine ri_scr rfl (am_M_no hG) S.2.2.1.1 S.2.2.1.2 ?_
  refine ri_vc rfl rfl am_0 rfl (by decide) rfl (Nat.le_of_ble_eq_true rfl) e1 ?_
  refine ri_nx rfl rfl ?_
  refine ri_nx rfl rfl ?_
  refine ri_nx rfl rfl ?_
  refine ri_nx rfl rfl ?_
  refine ri_nx rfl rfl ?_
  refine ri_scr rfl (am_M_no hG) S.1.1 S.1.2 ?_
  refine ri_nx rfl rfl ?_
  refine ri_nx rfl rfl ?_
  refine ri_nx rfl rfl ?_
  refine ri_nx rfl rfl ?_
  refine ri_scr rfl (am_M_no hG) S.2.1.1 S.2.1.2 ?_
  refine ri_nx rfl rfl ?_
  refine ri_nx rfl rfl ?_
  refine ri_nx rfl rfl ?_
  refine ri_nx rfl rfl ?_
  refine ri_scr rfl (am_M_no hG) S.2.2.1.1 S.2.2.1.2 ?_
  refine ri_vc rfl rfl am_571 rfl (by decide) rfl (Nat.le_of_ble_eq_true rfl) e2 ?_
  refine ri_nx rfl (if_pos rfl) ?_
  exact E
set_option maxRecDepth 20000 in
theorem lw_c29 {xs : List Int32} {iv x1 x2 x3 x4 x5 : Int32} {h : am_H} {G : ri_M} {k n : Nat} (S : lw_sc xs iv x1 x2 x3 x4 x5) (I : INV h) (w : am_wf h) (hG : G.length < 10000) (H : lw_nx xs iv G k n) : lw_go xs iv 1168 (am_M h G) k n := by
  obtain ⟨v, h1, h2, ⟨I2, w2⟩, e1, e2⟩ := lw_q29 (G := G) I w ((x1.toInt64 <<< ((Int8.ofInt 32).toInt32.toInt64 &&& 63)) ||| (x2.toInt64 &&& Int64.ofNat 4294967295)) x3
  obtain ⟨M', k', n', b1, b2, E⟩ := H h2 G k n I2 w2 (by omega) (by omega) (by omega)
  refine ⟨M', k', n', b1, b2, ?_⟩
  refine ri_nx rfl rfl ?_
  refine ri_nx rfl rfl ?_
  refine ri_nx rfl rfl ?_
  refine ri_nx rfl rfl ?_
  refine ri_nx rfl rfl ?_
  refine ri_scr rfl (am_M_no hG) S.1.1 S.1.2 ?_
  refine ri_nx rfl rfl ?_
  refine ri_nx rfl rfl ?_
  refine ri_nx rfl rfl ?_
  refine ri_nx rfl rfl ?_
  refine ri_nx rfl rfl ?_
  refine ri_nx rfl rfl ?_
  refine ri_nx rfl rfl ?_
  refine ri_scr rfl (am_M_no hG) S.2.1.1 S.2.1.2 ?_
  refine ri_nx rfl rfl ?_
  refine ri_nx rfl rfl ?_
  refine ri_nx rfl rfl ?_
  refine ri_nx rfl rfl ?_
  refine ri_nx rfl rfl ?_
  refine ri_nx rfl rfl ?_
  refine ri_nx rfl rfl ?_
  refine ri_nx rfl rfl ?_
  refine ri_scr rfl (am_M_no hG) S.2.2.1.1 S.2.2.1.2 ?_
  refine ri_vc rfl rfl am_0 rfl (by decide) rfl (Nat.le_of_ble_eq_true rfl) e1 ?_
  refine ri_nx rfl rfl ?_
  refine ri_nx rfl rfl ?_
  refine ri_nx rfl rfl ?_
  refine ri_nx rfl rfl ?_
  refine ri_nx rfl rfl ?_
  refine ri_scr rfl (am_M_no hG) S.1.1 S.1.2 ?_
  refine ri_nx rfl rfl ?_
  refine ri_nx rfl rfl ?_
  refine ri_nx rfl rfl ?_
  refine ri_nx rfl rfl ?_
  refine ri_nx rfl rfl ?_
  refine ri_nx rfl rfl ?_
  refine ri_nx rfl rfl ?_
  refine ri_scr rfl (am_M_no hG) S.2.1.1 S.2.1.2 ?_
  refine ri_nx rfl rfl ?_
  refine ri_nx rfl rfl ?_
  refine ri_nx rfl rfl ?_
  refine ri_nx rfl rfl ?_
  refine ri_nx rfl rfl ?_
  refine ri_nx rfl rfl ?_
  refine ri_nx rfl rfl ?_
  refine ri_nx rfl rfl ?_
  refine ri_scr rfl (am_M_no hG) S.2.2.1.1 S.2.2.1.2 ?_
  refine ri_vc rfl rfl am_571 rfl (by decide) rfl (Nat.le_of_ble_eq_true rfl) e2 ?_
  refine ri_nx rfl (if_pos rfl) ?_
  exact E
set_option maxRecDepth 20000 in
theorem lw_c30 {xs : List Int32} {iv x1 x2 x3 x4 x5 : Int32} {h : am_H} {G : ri_M} {k n : Nat} (S : lw_sc xs iv x1 x2 x3 x4 x5) (I : INV h) (w : am_wf h) (hG : G.length < 10000) (H : lw_nx xs iv G k n) : lw_go xs iv 1231 (am_M h G) k n := by
  obtain ⟨v, h1, h2, ⟨I2, w2⟩, e1, e2⟩ := lw_q30 (G := G) I w x1
  obtain ⟨M', k', n', b1, b2, E⟩ := H h2 G k n I2 w2 (by omega) (by omega) (by omega)
  refine ⟨M', k', n', b1, b2, ?_⟩
  refine ri_nx rfl rfl ?_
  refine ri_nx rfl rfl ?_
  refine ri_nx rfl rfl ?_
  refine ri_nx rfl rfl ?_
  refine ri_nx rfl rfl ?_
  refine ri_scr rfl (am_M_no hG) S.1.1 S.1.2 ?_
  refine ri_vc rfl rfl am_0 rfl (by decide) rfl (Nat.le_of_ble_eq_true rfl) e1 ?_
  refine ri_nx rfl rfl ?_
  refine ri_nx rfl rfl ?_
  refine ri_nx rfl rfl ?_
  refine ri_nx rfl rfl ?_
  refine ri_nx rfl rfl ?_
  refine ri_scr rfl (am_M_no hG) S.1.1 S.1.2 ?_
  refine ri_vc rfl rfl am_571 rfl (by decide) rfl (Nat.le_of_ble_eq_true rfl) e2 ?_
  refine ri_nx rfl rfl ?_
  refine ri_nx rfl (if_pos ((lg_cmp_eq v v).mpr rfl)) ?_
  exact E
set_option maxRecDepth 20000 in
theorem lw_c31 {xs : List Int32} {iv x1 x2 x3 x4 x5 : Int32} {h : am_H} {G : ri_M} {k n : Nat} (S : lw_sc xs iv x1 x2 x3 x4 x5) (I : INV h) (w : am_wf h) (hG : G.length < 10000) (H : lw_nx xs iv G k n) : lw_go xs iv 1255 (am_M h G) k n := by
  obtain ⟨v, h1, h2, ⟨I2, w2⟩, e1, e2⟩ := lw_q31 (G := G) I w
  obtain ⟨M', k', n', b1, b2, E⟩ := H h2 G k n I2 w2 (by omega) (by omega) (by omega)
  refine ⟨M', k', n', b1, b2, ?_⟩
  refine ri_nx rfl rfl ?_
  refine ri_vc rfl rfl am_0 rfl (by decide) rfl (Nat.le_of_ble_eq_true rfl) e1 ?_
  refine ri_nx rfl rfl ?_
  refine ri_vc rfl rfl am_571 rfl (by decide) rfl (Nat.le_of_ble_eq_true rfl) e2 ?_
  refine ri_nx rfl (if_pos rfl) ?_
  exact E
set_option maxRecDepth 20000 in
theorem lw_c32 {xs : List Int32} {iv x1 x2 x3 x4 x5 : Int32} {h : am_H} {G : ri_M} {k n : Nat} (S : lw_sc xs iv x1 x2 x3 x4 x5) (I : INV h) (w : am_wf h) (hG : G.length < 10000) (H : lw_nx xs iv G k n) : lw_go xs iv 1268 (am_M h G) k n := by
  obtain ⟨v, h1, h2, ⟨I2, w2⟩, e1, e2⟩ := lw_q32 (G := G) I w x1 x2
  obtain ⟨M', k', n', b1, b2, E⟩ := H h2 G k n I2 w2 (by omega) (by omega) (by omega)
  refine ⟨M', k', n', b1, b2, ?_⟩
  refine ri_nx rfl rfl ?_
  refine ri_nx rfl rfl ?_
  refine ri_nx rfl rfl ?_
  refine ri_nx rfl rfl ?_
  refine ri_nx rfl rfl ?_
  refine ri_scr rfl (am_M_no hG) S.1.1 S.1.2 ?_
  refine ri_nx rfl rfl ?_
  refine ri_nx rfl rfl ?_
  refine ri_nx rfl rfl ?_
  refine ri_nx rfl rfl ?_
  refine ri_scr rfl (am_M_no hG) S.2.1.1 S.2.1.2 ?_
  refine ri_vc rfl rfl am_0 rfl (by decide) rfl (Nat.le_of_ble_eq_true rfl) e1 ?_
  refine ri_nx rfl rfl ?_
  refine ri_nx rfl rfl ?_
  refine ri_nx rfl rfl ?_
  refine ri_nx rfl rfl ?_
  refine ri_nx rfl rfl ?_
  refine ri_scr rfl (am_M_no hG) S.1.1 S.1.2 ?_
  refine ri_nx rfl rfl ?_
  refine ri_nx rfl rfl ?_
  refine ri_nx rfl rfl ?_
  refine ri_nx rfl rfl ?_
  refine ri_scr rfl (am_M_no hG) S.2.1.1 S.2.1.2 ?_
  refine ri_vc rfl rfl am_571 rfl (by decide) rfl (Nat.le_of_ble_eq_true rfl) e2 ?_
  refine ri_nx rfl (if_pos rfl) ?_
  exact E
set_option maxRecDepth 20000 in
theorem lw_c33 {xs : List Int32} {iv x1 x2 x3 x4 x5 : Int32} {h : am_H} {G : ri_M} {k n : Nat} (S : lw_sc xs iv x1 x2 x3 x4 x5) (I : INV h) (w : am_wf h) (hG : G.length < 10000) (H : lw_nx xs iv G k n) : lw_go xs iv 1301 (am_M h G) k n := by
  obtain ⟨v, h1, h2, ⟨I2, w2⟩, e1, e2⟩ := lw_q33 (G := G) I w x1
  obtain ⟨M', k', n', b1, b2, E⟩ := H h2 G k n I2 w2 (by omega) (by omega) (by omega)
  refine ⟨M', k', n', b1, b2, ?_⟩
  refine ri_nx rfl rfl ?_
  refine ri_nx rfl rfl ?_
  refine ri_nx rfl rfl ?_
  refine ri_nx rfl rfl ?_
  refine ri_nx rfl rfl ?_
  refine ri_scr rfl (am_M_no hG) S.1.1 S.1.2 ?_
  refine ri_vc rfl rfl am_0 rfl (by decide) rfl (Nat.le_of_ble_eq_true rfl) e1 ?_
  refine ri_nx rfl rfl ?_
  refine ri_nx rfl rfl ?_
  refine ri_nx rfl rfl ?_
  refine ri_nx rfl rfl ?_
  refine ri_nx rfl rfl ?_
  refine ri_scr rfl (am_M_no hG) S.1.1 S.1.2 ?_
  refine ri_vc rfl rfl am_571 rfl (by decide) rfl (Nat.le_of_ble_eq_true rfl) e2 ?_
  refine ri_nx rfl (if_pos rfl) ?_
  exact E
set_option maxRecDepth 20000 in
theorem lw_c34 {xs : List Int32} {iv x1 x2 x3 x4 x5 : Int32} {h : am_H} {G : ri_M} {k n : Nat} (S : lw_sc xs iv x1 x2 x3 x4 x5) (I : INV h) (w : am_wf h) (hG : G.length < 10000) (H : lw_nx xs iv G k n) : lw_go xs iv 1324 (am_M h G) k n := by
  obtain ⟨v, h1, h2, ⟨I2, w2⟩, e1, e2⟩ := lw_q34 (G := G) I w
  obtain ⟨M', k', n', b1, b2, E⟩ := H h2 G k n I2 w2 (by omega) (by omega) (by omega)
  refine ⟨M', k', n', b1, b2, ?_⟩
  refine ri_nx rfl rfl ?_
  refine ri_vc rfl rfl am_0 rfl (by decide) rfl (Nat.le_of_ble_eq_true rfl) e1 ?_
  refine ri_nx rfl rfl ?_
  refine ri_vc rfl rfl am_571 rfl (by decide) rfl (Nat.le_of_ble_eq_true rfl) e2 ?_
  refine ri_nx rfl (if_pos rfl) ?_
  exact E
set_option maxRecDepth 20000 in
theorem lw_c35 {xs : List Int32} {iv x1 x2 x3 x4 x5 : Int32} {h : am_H} {G : ri_M} {k n : Nat} (S : lw_sc xs iv x1 x2 x3 x4 x5) (I : INV h) (w : am_wf h) (hG : G.length < 10000) (H : lw_nx xs iv G k n) : lw_go xs iv 1337 (am_M h G) k n := by
  obtain ⟨v, h1, h2, ⟨I2, w2⟩, e1, e2⟩ := lw_q35 (G := G) I w x1
  obtain ⟨M', k', n', b1, b2, E⟩ := H h2 G k n I2 w2 (by omega) (by omega) (by omega)
  refine ⟨M', k', n', b1, b2, ?_⟩
  refine ri_nx rfl rfl ?_
  refine ri_nx rfl rfl ?_
  refine ri_nx rfl rfl ?_
  refine ri_nx rfl rfl ?_
  refine ri_nx rfl rfl ?_
  refine ri_scr rfl (am_M_no hG) S.1.1 S.1.2 ?_
  refine ri_vc rfl rfl am_0 rfl (by decide) rfl (Nat.le_of_ble_eq_true rfl) e1 ?_
  refine ri_nx rfl rfl ?_
  refine ri_nx rfl rfl ?_
  refine ri_nx rfl rfl ?_
  refine ri_nx rfl rfl ?_
  refine ri_nx rfl rfl ?_
  refine ri_scr rfl (am_M_no hG) S.1.1 S.1.2 ?_
  refine ri_vc rfl rfl am_571 rfl (by decide) rfl (Nat.le_of_ble_eq_true rfl) e2 ?_
  refine ri_nx rfl (if_pos rfl) ?_
  exact E
set_option maxRecDepth 20000 in
theorem lw_c36 {xs : List Int32} {iv x1 x2 x3 x4 x5 : Int32} {h : am_H} {G : ri_M} {k n : Nat} (S : lw_sc xs iv x1 x2 x3 x4 x5) (I : INV h) (w : am_wf h) (hG : G.length < 10000) (H : lw_nx xs iv G k n) : lw_go xs iv 1360 (am_M h G) k n := by
  obtain ⟨v, h1, h2, ⟨I2, w2⟩, e1, e2⟩ := lw_q36 (G := G) I w
  obtain ⟨M', k', n', b1, b2, E⟩ := H h2 G k n I2 w2 (by omega) (by omega) (by omega)
  refine ⟨M', k', n', b1, b2, ?_⟩
  refine ri_nx rfl rfl ?_
  refine ri_vc rfl rfl am_0 rfl (by decide) rfl (Nat.le_of_ble_eq_true rfl) e1 ?_
  refine ri_nx rfl rfl ?_
  refine ri_vc rfl rfl am_571 rfl (by decide) rfl (Nat.le_of_ble_eq_true rfl) e2 ?_
  refine ri_nx rfl (if_pos rfl) ?_
  exact E
set_option maxRecDepth 20000 in
theorem lw_c37 {xs : List Int32} {iv x1 x2 x3 x4 x5 : Int32} {h : am_H} {G : ri_M} {k n : Nat} (S : lw_sc xs iv x1 x2 x3 x4 x5) (I : INV h) (w : am_wf h) (hG : G.length < 10000) (H : lw_nx xs iv G k n) : lw_go xs iv 1373 (am_M h G) k n := by
  obtain ⟨v, h1, h2, ⟨I2, w2⟩, e1, e2⟩ := lw_q37 (G := G) I w
  obtain ⟨M', k', n', b1, b2, E⟩ := H h2 G k n I2 w2 (by omega) (by omega) (by omega)
  refine ⟨M', k', n', b1, b2, ?_⟩
  refine ri_nx rfl rfl ?_
  refine ri_vc rfl rfl am_0 rfl (by decide) rfl (Nat.le_of_ble_eq_true rfl) e1 ?_
  refine ri_nx rfl rfl ?_
  refine ri_vc rfl rfl am_571 rfl (by decide) rfl (Nat.le_of_ble_eq_true rfl) e2 ?_
  refine ri_nx rfl (if_pos rfl) ?_
  exact E
set_option maxRecDepth 20000 in
theorem lw_c38 {xs : List Int32} {iv x1 x2 x3 x4 x5 : Int32} {h : am_H} {G : ri_M} {k n : Nat} (S : lw_sc xs iv x1 x2 x3 x4 x5) (I : INV h) (w : am_wf h) (hG : G.length < 10000) (H : lw_nx xs iv G k n) : lw_go xs iv 1386 (am_M h G) k n := by
  obtain ⟨v, h1, h2, ⟨I2, w2⟩, e1, e2⟩ := lw_q38 (G := G) I w
  obtain ⟨M', k', n', b1, b2, E⟩ := H h2 G k n I2 w2 (by omega) (by omega) (by omega)
  refine ⟨M', k', n', b1, b2, ?_⟩
  refine ri_nx rfl rfl ?_
  refine ri_vc rfl rfl am_0 rfl (by decide) rfl (Nat.le_of_ble_eq_true rfl) e1 ?_
  refine ri_nx rfl rfl ?_
  refine ri_vc rfl rfl am_571 rfl (by decide) rfl (Nat.le_of_ble_eq_true rfl) e2 ?_
  refine ri_nx rfl (if_pos rfl) ?_
  exact E
set_option maxRecDepth 20000 in
theorem lw_c39 {xs : List Int32} {iv x1 x2 x3 x4 x5 : Int32} {h : am_H} {G : ri_M} {k n : Nat} (S : lw_sc xs iv x1 x2 x3 x4 x5) (I : INV h) (w : am_wf h) (hG : G.length < 10000) (H : lw_nx xs iv G k n) : lw_go xs iv 1399 (am_M h G) k n := by
  obtain ⟨v, h1, h2, ⟨I2, w2⟩, e1, e2⟩ := lw_q39 (G := G) I w
  obtain ⟨M', k', n', b1, b2, E⟩ := H h2 G k n I2 w2 (by omega) (by omega) (by omega)
  refine ⟨M', k', n', b1, b2, ?_⟩
  refine ri_nx rfl rfl ?_
  refine ri_vc rfl rfl am_0 rfl (by decide) rfl (Nat.le_of_ble_eq_true rfl) e1 ?_
  refine ri_nx rfl rfl ?_
  refine ri_vc rfl rfl am_571 rfl (by decide) rfl (Nat.le_of_ble_eq_true rfl) e2 ?_
  refine ri_nx rfl (if_pos rfl) ?_
  exact E
set_option maxRecDepth 20000 in
theorem lw_c40 {xs : List Int32} {iv x1 x2 x3 x4 x5 : Int32} {h : am_H} {G : ri_M} {k n : Nat} (S : lw_sc xs iv x1 x2 x3 x4 x5) (I : INV h) (w : am_wf h) (hG : G.length < 10000) (H : lw_nx xs iv G k n) : lw_go xs iv 1412 (am_M h G) k n := by
  obtain ⟨v, h1, h2, ⟨I2, w2⟩, e1, e2⟩ := lw_q40 (G := G) I w
  obtain ⟨M', k', n', b1, b2, E⟩ := H h2 G k n I2 w2 (by omega) (by omega) (by omega)
  refine ⟨M', k', n', b1, b2, ?_⟩
  refine ri_nx rfl rfl ?_
  refine ri_vc rfl rfl am_0 rfl (by decide) rfl (Nat.le_of_ble_eq_true rfl) e1 ?_
  refine ri_nx rfl rfl ?_
  refine ri_vc rfl rfl am_571 rfl (by decide) rfl (Nat.le_of_ble_eq_true rfl) e2 ?_
  refine ri_nx rfl (if_pos rfl) ?_
  exact E
set_option maxRecDepth 20000 in
theorem lw_c41 {xs : List Int32} {iv x1 x2 x3 x4 x5 : Int32} {h : am_H} {G : ri_M} {k n : Nat} (S : lw_sc xs iv x1 x2 x3 x4 x5) (I : INV h) (w : am_wf h) (hG : G.length < 10000) (H : lw_nx xs iv G k n) : lw_go xs iv 1425 (am_M h G) k n := by
  obtain ⟨v, h1, h2, ⟨I2, w2⟩, e1, e2⟩ := lw_q41 (G := G) I w x1 x2
  obtain ⟨M', k', n', b1, b2, E⟩ := H h2 G k n I2 w2 (by omega) (by omega) (by omega)
  refine ⟨M', k', n', b1, b2, ?_⟩
  refine ri_nx rfl rfl ?_
  refine ri_nx rfl rfl ?_
  refine ri_nx rfl rfl ?_
  refine ri_nx rfl rfl ?_
  refine ri_nx rfl rfl ?_
  refine ri_scr rfl (am_M_no hG) S.1.1 S.1.2 ?_
  refine ri_nx rfl rfl ?_
  refine ri_nx rfl rfl ?_
  refine ri_nx rfl rfl ?_
  refine ri_nx rfl rfl ?_
  refine ri_scr rfl (am_M_no hG) S.2.1.1 S.2.1.2 ?_
  refine ri_vc rfl rfl am_0 rfl (by decide) rfl (Nat.le_of_ble_eq_true rfl) e1 ?_
  refine ri_nx rfl rfl ?_
  refine ri_nx rfl rfl ?_
  refine ri_nx rfl rfl ?_
  refine ri_nx rfl rfl ?_
  refine ri_nx rfl rfl ?_
  refine ri_scr rfl (am_M_no hG) S.1.1 S.1.2 ?_
  refine ri_nx rfl rfl ?_
  refine ri_nx rfl rfl ?_
  refine ri_nx rfl rfl ?_
  refine ri_nx rfl rfl ?_
  refine ri_scr rfl (am_M_no hG) S.2.1.1 S.2.1.2 ?_
  refine ri_vc rfl rfl am_571 rfl (by decide) rfl (Nat.le_of_ble_eq_true rfl) e2 ?_
  refine ri_nx rfl (if_pos rfl) ?_
  exact E
set_option maxRecDepth 20000 in
theorem lw_c42 {xs : List Int32} {iv x1 x2 x3 x4 x5 : Int32} {h : am_H} {G : ri_M} {k n : Nat} (S : lw_sc xs iv x1 x2 x3 x4 x5) (I : INV h) (w : am_wf h) (hG : G.length < 10000) (H : lw_nx xs iv G k n) : lw_go xs iv 1458 (am_M h G) k n := by
  obtain ⟨v, h1, h2, ⟨I2, w2⟩, e1, e2⟩ := lw_q42 (G := G) I w x1
  obtain ⟨M', k', n', b1, b2, E⟩ := H h2 G k n I2 w2 (by omega) (by omega) (by omega)
  refine ⟨M', k', n', b1, b2, ?_⟩
  refine ri_nx rfl rfl ?_
  refine ri_nx rfl rfl ?_
  refine ri_nx rfl rfl ?_
  refine ri_nx rfl rfl ?_
  refine ri_nx rfl rfl ?_
  refine ri_scr rfl (am_M_no hG) S.1.1 S.1.2 ?_
  refine ri_vc rfl rfl am_0 rfl (by decide) rfl (Nat.le_of_ble_eq_true rfl) e1 ?_
  refine ri_nx rfl rfl ?_
  refine ri_nx rfl rfl ?_
  refine ri_nx rfl rfl ?_
  refine ri_nx rfl rfl ?_
  refine ri_nx rfl rfl ?_
  refine ri_scr rfl (am_M_no hG) S.1.1 S.1.2 ?_
  refine ri_vc rfl rfl am_571 rfl (by decide) rfl (Nat.le_of_ble_eq_true rfl) e2 ?_
  refine ri_nx rfl (if_pos rfl) ?_
  exact E
set_option maxRecDepth 20000 in
theorem lw_c43 {xs : List Int32} {iv x1 x2 x3 x4 x5 : Int32} {h : am_H} {G : ri_M} {k n : Nat} (S : lw_sc xs iv x1 x2 x3 x4 x5) (I : INV h) (w : am_wf h) (hG : G.length < 10000) (H : lw_nx xs iv G k n) : lw_go xs iv 1481 (am_M h G) k n := by
  obtain ⟨v, h1, h2, ⟨I2, w2⟩, e1, e2⟩ := lw_q43 (G := G) I w x1 x2
  obtain ⟨M', k', n', b1, b2, E⟩ := H h2 G k n I2 w2 (by omega) (by omega) (by omega)
  refine ⟨M', k', n', b1, b2, ?_⟩
  refine ri_nx rfl rfl ?_
  refine ri_nx rfl rfl ?_
  refine ri_nx rfl rfl ?_
  refine ri_nx rfl rfl ?_
  refine ri_nx rfl rfl ?_
  refine ri_scr rfl (am_M_no hG) S.1.1 S.1.2 ?_
  refine ri_nx rfl rfl ?_
  refine ri_nx rfl rfl ?_
  refine ri_nx rfl rfl ?_
  refine ri_nx rfl rfl ?_
  refine ri_scr rfl (am_M_no hG) S.2.1.1 S.2.1.2 ?_
  refine ri_vc rfl rfl am_0 rfl (by decide) rfl (Nat.le_of_ble_eq_true rfl) e1 ?_
  refine ri_nx rfl rfl ?_
  refine ri_nx rfl rfl ?_
  refine ri_nx rfl rfl ?_
  refine ri_nx rfl rfl ?_
  refine ri_nx rfl rfl ?_
  refine ri_scr rfl (am_M_no hG) S.1.1 S.1.2 ?_
  refine ri_nx rfl rfl ?_
  refine ri_nx rfl rfl ?_
  refine ri_nx rfl rfl ?_
  refine ri_nx rfl rfl ?_
  refine ri_scr rfl (am_M_no hG) S.2.1.1 S.2.1.2 ?_
  refine ri_vc rfl rfl am_571 rfl (by decide) rfl (Nat.le_of_ble_eq_true rfl) e2 ?_
  refine ri_nx rfl (if_pos rfl) ?_
  exact E
set_option maxRecDepth 20000 in
theorem lw_c44 {xs : List Int32} {iv x1 x2 x3 x4 x5 : Int32} {h : am_H} {G : ri_M} {k n : Nat} (S : lw_sc xs iv x1 x2 x3 x4 x5) (I : INV h) (w : am_wf h) (hG : G.length < 10000) (H : lw_nx xs iv G k n) : lw_go xs iv 1514 (am_M h G) k n := by
  obtain ⟨v, h1, h2, ⟨I2, w2⟩, e1, e2⟩ := lw_q44 (G := G) I w x1 x2 x3
  obtain ⟨M', k', n', b1, b2, E⟩ := H h2 G k n I2 w2 (by omega) (by omega) (by omega)
  refine ⟨M', k', n', b1, b2, ?_⟩
  refine ri_nx rfl rfl ?_
  refine ri_nx rfl rfl ?_
  refine ri_nx rfl rfl ?_
  refine ri_nx rfl rfl ?_
  refine ri_nx rfl rfl ?_
  refine ri_scr rfl (am_M_no hG) S.1.1 S.1.2 ?_
  refine ri_nx rfl rfl ?_
  refine ri_nx rfl rfl ?_
  refine ri_nx rfl rfl ?_
  refine ri_nx rfl rfl ?_
  refine ri_scr rfl (am_M_no hG) S.2.1.1 S.2.1.2 ?_
  refine ri_nx rfl rfl ?_
  refine ri_nx rfl rfl ?_
  refine ri_nx rfl rfl ?_
  refine ri_nx rfl rfl ?_
  refine ri_scr rfl (am_M_no hG) S.2.2.1.1 S.2.2.1.2 ?_
  refine ri_vc rfl rfl am_0 rfl (by decide) rfl (Nat.le_of_ble_eq_true rfl) e1 ?_
  refine ri_nx rfl rfl ?_
  refine ri_nx rfl rfl ?_
  refine ri_nx rfl rfl ?_
  refine ri_nx rfl rfl ?_
  refine ri_nx rfl rfl ?_
  refine ri_scr rfl (am_M_no hG) S.1.1 S.1.2 ?_
  refine ri_nx rfl rfl ?_
  refine ri_nx rfl rfl ?_
  refine ri_nx rfl rfl ?_
  refine ri_nx rfl rfl ?_
  refine ri_scr rfl (am_M_no hG) S.2.1.1 S.2.1.2 ?_
  refine ri_nx rfl rfl ?_
  refine ri_nx rfl rfl ?_
  refine ri_nx rfl rfl ?_
  refine ri_nx rfl rfl ?_
  refine ri_scr rfl (am_M_no hG) S.2.2.1.1 S.2.2.1.2 ?_
  refine ri_vc rfl rfl am_571 rfl (by decide) rfl (Nat.le_of_ble_eq_true rfl) e2 ?_
  refine ri_nx rfl (if_pos rfl) ?_
  exact E
set_option maxRecDepth 20000 in
theorem lw_c45 {xs : List Int32} {iv x1 x2 x3 x4 x5 : Int32} {h : am_H} {G : ri_M} {k n : Nat} (S : lw_sc xs iv x1 x2 x3 x4 x5) (I : INV h) (w : am_wf h) (hG : G.length < 10000) (H : lw_nx xs iv G k n) : lw_go xs iv 1557 (am_M h G) k n := by
  obtain ⟨v, h1, h2, ⟨I2, w2⟩, e1, e2⟩ := lw_q45 (G := G) I w
  obtain ⟨M', k', n', b1, b2, E⟩ := H h2 G k n I2 w2 (by omega) (by omega) (by omega)
  refine ⟨M', k', n', b1, b2, ?_⟩
  refine ri_nx rfl rfl ?_
  refine ri_vc rfl rfl am_0 rfl (by decide) rfl (Nat.le_of_ble_eq_true rfl) e1 ?_
  refine ri_nx rfl rfl ?_
  refine ri_vc rfl rfl am_571 rfl (by decide) rfl (Nat.le_of_ble_eq_true rfl) e2 ?_
  refine ri_nx rfl (if_pos rfl) ?_
  exact E
set_option maxRecDepth 20000 in
theorem lw_c46 {xs : List Int32} {iv x1 x2 x3 x4 x5 : Int32} {h : am_H} {G : ri_M} {k n : Nat} (S : lw_sc xs iv x1 x2 x3 x4 x5) (I : INV h) (w : am_wf h) (hG : G.length < 10000) (H : lw_nx xs iv G k n) : lw_go xs iv 1570 (am_M h G) k n := by
  obtain ⟨v, h1, h2, ⟨I2, w2⟩, e1, e2⟩ := lw_q46 (G := G) I w x1
  obtain ⟨M', k', n', b1, b2, E⟩ := H h2 G k n I2 w2 (by omega) (by omega) (by omega)
  refine ⟨M', k', n', b1, b2, ?_⟩
  refine ri_nx rfl rfl ?_
  refine ri_nx rfl rfl ?_
  refine ri_nx rfl rfl ?_
  refine ri_nx rfl rfl ?_
  refine ri_nx rfl rfl ?_
  refine ri_scr rfl (am_M_no hG) S.1.1 S.1.2 ?_
  refine ri_vc rfl rfl am_0 rfl (by decide) rfl (Nat.le_of_ble_eq_true rfl) e1 ?_
  refine ri_nx rfl rfl ?_
  refine ri_nx rfl rfl ?_
  refine ri_nx rfl rfl ?_
  refine ri_nx rfl rfl ?_
  refine ri_nx rfl rfl ?_
  refine ri_scr rfl (am_M_no hG) S.1.1 S.1.2 ?_
  refine ri_vc rfl rfl am_571 rfl (by decide) rfl (Nat.le_of_ble_eq_true rfl) e2 ?_
  refine ri_nx rfl (if_pos rfl) ?_
  exact E
set_option maxRecDepth 20000 in
theorem lw_c47 {xs : List Int32} {iv x1 x2 x3 x4 x5 : Int32} {h : am_H} {G : ri_M} {k n : Nat} (S : lw_sc xs iv x1 x2 x3 x4 x5) (I : INV h) (w : am_wf h) (hG : G.length < 10000) (H : lw_nx xs iv G k n) : lw_go xs iv 1593 (am_M h G) k n := by
  obtain ⟨v, h1, h2, ⟨I2, w2⟩, e1, e2⟩ := lw_q47 (G := G) I w x1 x2 x3
  obtain ⟨M', k', n', b1, b2, E⟩ := H h2 G k n I2 w2 (by omega) (by omega) (by omega)
  refine ⟨M', k', n', b1, b2, ?_⟩
  refine ri_nx rfl rfl ?_
  refine ri_nx rfl rfl ?_
  refine ri_nx rfl rfl ?_
  refine ri_nx rfl rfl ?_
  refine ri_nx rfl rfl ?_
  refine ri_scr rfl (am_M_no hG) S.1.1 S.1.2 ?_
  refine ri_nx rfl rfl ?_
  refine ri_nx rfl rfl ?_
  refine ri_nx rfl rfl ?_
  refine ri_nx rfl rfl ?_
  refine ri_scr rfl (am_M_no hG) S.2.1.1 S.2.1.2 ?_
  refine ri_nx rfl rfl ?_
  refine ri_nx rfl rfl ?_
  refine ri_nx rfl rfl ?_
  refine ri_nx rfl rfl ?_
  refine ri_scr rfl (am_M_no hG) S.2.2.1.1 S.2.2.1.2 ?_
  refine ri_vc rfl rfl am_0 rfl (by decide) rfl (Nat.le_of_ble_eq_true rfl) e1 ?_
  refine ri_nx rfl rfl ?_
  refine ri_nx rfl rfl ?_
  refine ri_nx rfl rfl ?_
  refine ri_nx rfl rfl ?_
  refine ri_nx rfl rfl ?_
  refine ri_scr rfl (am_M_no hG) S.1.1 S.1.2 ?_
  refine ri_nx rfl rfl ?_
  refine ri_nx rfl rfl ?_
  refine ri_nx rfl rfl ?_
  refine ri_nx rfl rfl ?_
  refine ri_scr rfl (am_M_no hG) S.2.1.1 S.2.1.2 ?_
  refine ri_nx rfl rfl ?_
  refine ri_nx rfl rfl ?_
  refine ri_nx rfl rfl ?_
  refine ri_nx rfl rfl ?_
  refine ri_scr rfl (am_M_no hG) S.2.2.1.1 S.2.2.1.2 ?_
  refine ri_vc rfl rfl am_571 rfl (by decide) rfl (Nat.le_of_ble_eq_true rfl) e2 ?_
  refine ri_nx rfl (if_pos rfl) ?_
  exact E
set_option maxRecDepth 20000 in
theorem lw_c48 {xs : List Int32} {iv x1 x2 x3 x4 x5 : Int32} {h : am_H} {G : ri_M} {k n : Nat} (S : lw_sc xs iv x1 x2 x3 x4 x5) (I : INV h) (w : am_wf h) (hG : G.length < 10000) (H : lw_nx xs iv G k n) : lw_go xs iv 1636 (am_M h G) k n := by
  obtain ⟨v, h1, h2, ⟨I2, w2⟩, e1, e2⟩ := lw_q48 (G := G) I w
  obtain ⟨M', k', n', b1, b2, E⟩ := H h2 G k n I2 w2 (by omega) (by omega) (by omega)
  refine ⟨M', k', n', b1, b2, ?_⟩
  refine ri_nx rfl rfl ?_
  refine ri_vc rfl rfl am_0 rfl (by decide) rfl (Nat.le_of_ble_eq_true rfl) e1 ?_
  refine ri_nx rfl rfl ?_
  refine ri_vc rfl rfl am_571 rfl (by decide) rfl (Nat.le_of_ble_eq_true rfl) e2 ?_
  refine ri_nx rfl (if_pos rfl) ?_
  exact E
set_option maxRecDepth 20000 in
theorem lw_c49 {xs : List Int32} {iv x1 x2 x3 x4 x5 : Int32} {h : am_H} {G : ri_M} {k n : Nat} (S : lw_sc xs iv x1 x2 x3 x4 x5) (I : INV h) (w : am_wf h) (hG : G.length < 10000) (H : lw_nx xs iv G k n) : lw_go xs iv 1649 (am_M h G) k n := by
  obtain ⟨v, h1, h2, ⟨I2, w2⟩, e1, e2⟩ := lw_q49 (G := G) I w x1
  obtain ⟨M', k', n', b1, b2, E⟩ := H h2 G k n I2 w2 (by omega) (by omega) (by omega)
  refine ⟨M', k', n', b1, b2, ?_⟩
  refine ri_nx rfl rfl ?_
  refine ri_nx rfl rfl ?_
  refine ri_nx rfl rfl ?_
  refine ri_nx rfl rfl ?_
  refine ri_nx rfl rfl ?_
  refine ri_scr rfl (am_M_no hG) S.1.1 S.1.2 ?_
  refine ri_vc rfl rfl am_0 rfl (by decide) rfl (Nat.le_of_ble_eq_true rfl) e1 ?_
  refine ri_nx rfl rfl ?_
  refine ri_nx rfl rfl ?_
  refine ri_nx rfl rfl ?_
  refine ri_nx rfl rfl ?_
  refine ri_nx rfl rfl ?_
  refine ri_scr rfl (am_M_no hG) S.1.1 S.1.2 ?_
  refine ri_vc rfl rfl am_571 rfl (by decide) rfl (Nat.le_of_ble_eq_true rfl) e2 ?_
  refine ri_nx rfl (if_pos rfl) ?_
  exact E
set_option maxRecDepth 20000 in
theorem lw_c50 {xs : List Int32} {iv x1 x2 x3 x4 x5 : Int32} {h : am_H} {G : ri_M} {k n : Nat} (S : lw_sc xs iv x1 x2 x3 x4 x5) (I : INV h) (w : am_wf h) (hG : G.length < 10000) (H : lw_nx xs iv G k n) : lw_go xs iv 1672 (am_M h G) k n := by
  obtain ⟨v, h1, h2, ⟨I2, w2⟩, e1, e2⟩ := lw_q50 (G := G) I w x1 x2
  obtain ⟨M', k', n', b1, b2, E⟩ := H h2 G k n I2 w2 (by omega) (by omega) (by omega)
  refine ⟨M', k', n', b1, b2, ?_⟩
  refine ri_nx rfl rfl ?_
  refine ri_nx rfl rfl ?_
  refine ri_nx rfl rfl ?_
  refine ri_nx rfl rfl ?_
  refine ri_nx rfl rfl ?_
  refine ri_scr rfl (am_M_no hG) S.1.1 S.1.2 ?_
  refine ri_nx rfl rfl ?_
  refine ri_nx rfl rfl ?_
  refine ri_nx rfl rfl ?_
  refine ri_nx rfl rfl ?_
  refine ri_scr rfl (am_M_no hG) S.2.1.1 S.2.1.2 ?_
  refine ri_vc rfl rfl am_0 rfl (by decide) rfl (Nat.le_of_ble_eq_true rfl) e1 ?_
  refine ri_nx rfl rfl ?_
  refine ri_nx rfl rfl ?_
  refine ri_nx rfl rfl ?_
  refine ri_nx rfl rfl ?_
  refine ri_nx rfl rfl ?_
  refine ri_scr rfl (am_M_no hG) S.1.1 S.1.2 ?_
  refine ri_nx rfl rfl ?_
  refine ri_nx rfl rfl ?_
  refine ri_nx rfl rfl ?_
  refine ri_nx rfl rfl ?_
  refine ri_scr rfl (am_M_no hG) S.2.1.1 S.2.1.2 ?_
  refine ri_vc rfl rfl am_571 rfl (by decide) rfl (Nat.le_of_ble_eq_true rfl) e2 ?_
  refine ri_nx rfl (if_pos rfl) ?_
  exact E
set_option maxRecDepth 20000 in
theorem lw_c51 {xs : List Int32} {iv x1 x2 x3 x4 x5 : Int32} {h : am_H} {G : ri_M} {k n : Nat} (S : lw_sc xs iv x1 x2 x3 x4 x5) (I : INV h) (w : am_wf h) (hG : G.length < 10000) (H : lw_nx xs iv G k n) : lw_go xs iv 1705 (am_M h G) k n := by
  obtain ⟨v, h1, h2, ⟨I2, w2⟩, e1, e2⟩ := lw_q51 (G := G) I w
  obtain ⟨M', k', n', b1, b2, E⟩ := H h2 G k n I2 w2 (by omega) (by omega) (by omega)
  refine ⟨M', k', n', b1, b2, ?_⟩
  refine ri_nx rfl rfl ?_
  refine ri_vc rfl rfl am_0 rfl (by decide) rfl (Nat.le_of_ble_eq_true rfl) e1 ?_
  refine ri_nx rfl rfl ?_
  refine ri_vc rfl rfl am_571 rfl (by decide) rfl (Nat.le_of_ble_eq_true rfl) e2 ?_
  refine ri_nx rfl (if_pos rfl) ?_
  exact E
set_option maxRecDepth 20000 in
theorem lw_c52 {xs : List Int32} {iv x1 x2 x3 x4 x5 : Int32} {h : am_H} {G : ri_M} {k n : Nat} (S : lw_sc xs iv x1 x2 x3 x4 x5) (I : INV h) (w : am_wf h) (hG : G.length < 10000) (H : lw_nx xs iv G k n) : lw_go xs iv 1718 (am_M h G) k n := by
  obtain ⟨v, h1, h2, ⟨I2, w2⟩, e1, e2⟩ := lw_q52 (G := G) I w x1 x2
  obtain ⟨M', k', n', b1, b2, E⟩ := H h2 G k n I2 w2 (by omega) (by omega) (by omega)
  refine ⟨M', k', n', b1, b2, ?_⟩
  refine ri_nx rfl rfl ?_
  refine ri_nx rfl rfl ?_
  refine ri_nx rfl rfl ?_
  refine ri_nx rfl rfl ?_
  refine ri_nx rfl rfl ?_
  refine ri_scr rfl (am_M_no hG) S.1.1 S.1.2 ?_
  refine ri_nx rfl rfl ?_
  refine ri_nx rfl rfl ?_
  refine ri_nx rfl rfl ?_
  refine ri_nx rfl rfl ?_
  refine ri_scr rfl (am_M_no hG) S.2.1.1 S.2.1.2 ?_
  refine ri_vc rfl rfl am_0 rfl (by decide) rfl (Nat.le_of_ble_eq_true rfl) e1 ?_
  refine ri_nx rfl rfl ?_
  refine ri_nx rfl rfl ?_
  refine ri_nx rfl rfl ?_
  refine ri_nx rfl rfl ?_
  refine ri_nx rfl rfl ?_
  refine ri_scr rfl (am_M_no hG) S.1.1 S.1.2 ?_
  refine ri_nx rfl rfl ?_
  refine ri_nx rfl rfl ?_
  refine ri_nx rfl rfl ?_
  refine ri_nx rfl rfl ?_
  refine ri_scr rfl (am_M_no hG) S.2.1.1 S.2.1.2 ?_
  refine ri_vc rfl rfl am_571 rfl (by decide) rfl (Nat.le_of_ble_eq_true rfl) e2 ?_
  refine ri_nx rfl (if_pos rfl) ?_
  exact E
set_option maxRecDepth 20000 in
theorem lw_c53 {xs : List Int32} {iv x1 x2 x3 x4 x5 : Int32} {h : am_H} {G : ri_M} {k n : Nat} (S : lw_sc xs iv x1 x2 x3 x4 x5) (I : INV h) (w : am_wf h) (hG : G.length < 10000) (H : lw_nx xs iv G k n) : lw_go xs iv 1751 (am_M h G) k n := by
  obtain ⟨v, h1, h2, ⟨I2, w2⟩, e1, e2⟩ := lw_q53 (G := G) I w x1
  obtain ⟨M', k', n', b1, b2, E⟩ := H h2 G k n I2 w2 (by omega) (by omega) (by omega)
  refine ⟨M', k', n', b1, b2, ?_⟩
  refine ri_nx rfl rfl ?_
  refine ri_nx rfl rfl ?_
  refine ri_nx rfl rfl ?_
  refine ri_nx rfl rfl ?_
  refine ri_nx rfl rfl ?_
  refine ri_scr rfl (am_M_no hG) S.1.1 S.1.2 ?_
  refine ri_vc rfl rfl am_0 rfl (by decide) rfl (Nat.le_of_ble_eq_true rfl) e1 ?_
  refine ri_nx rfl rfl ?_
  refine ri_nx rfl rfl ?_
  refine ri_nx rfl rfl ?_
  refine ri_nx rfl rfl ?_
  refine ri_nx rfl rfl ?_
  refine ri_scr rfl (am_M_no hG) S.1.1 S.1.2 ?_
  refine ri_vc rfl rfl am_571 rfl (by decide) rfl (Nat.le_of_ble_eq_true rfl) e2 ?_
  refine ri_nx rfl (if_pos rfl) ?_
  exact E
set_option maxRecDepth 20000 in
theorem lw_c54 {xs : List Int32} {iv x1 x2 x3 x4 x5 : Int32} {h : am_H} {G : ri_M} {k n : Nat} (S : lw_sc xs iv x1 x2 x3 x4 x5) (I : INV h) (w : am_wf h) (hG : G.length < 10000) (H : lw_nx xs iv G k n) : lw_go xs iv 1774 (am_M h G) k n := by
  obtain ⟨v, h1, h2, ⟨I2, w2⟩, e1, e2⟩ := lw_q54 (G := G) I w x1 x2
  obtain ⟨M', k', n', b1, b2, E⟩ := H h2 G k n I2 w2 (by omega) (by omega) (by omega)
  refine ⟨M', k', n', b1, b2, ?_⟩
  refine ri_nx rfl rfl ?_
  refine ri_nx rfl rfl ?_
  refine ri_nx rfl rfl ?_
  refine ri_nx rfl rfl ?_
  refine ri_nx rfl rfl ?_
  refine ri_scr rfl (am_M_no hG) S.1.1 S.1.2 ?_
  refine ri_nx rfl rfl ?_
  refine ri_nx rfl rfl ?_
  refine ri_nx rfl rfl ?_
  refine ri_nx rfl rfl ?_
  refine ri_scr rfl (am_M_no hG) S.2.1.1 S.2.1.2 ?_
  refine ri_vc rfl rfl am_0 rfl (by decide) rfl (Nat.le_of_ble_eq_true rfl) e1 ?_
  refine ri_nx rfl rfl ?_
  refine ri_nx rfl rfl ?_
  refine ri_nx rfl rfl ?_
  refine ri_nx rfl rfl ?_
  refine ri_nx rfl rfl ?_
  refine ri_scr rfl (am_M_no hG) S.1.1 S.1.2 ?_
  refine ri_nx rfl rfl ?_
  refine ri_nx rfl rfl ?_
  refine ri_nx rfl rfl ?_
  refine ri_nx rfl rfl ?_
  refine ri_scr rfl (am_M_no hG) S.2.1.1 S.2.1.2 ?_
  refine ri_vc rfl rfl am_571 rfl (by decide) rfl (Nat.le_of_ble_eq_true rfl) e2 ?_
  refine ri_nx rfl (if_pos rfl) ?_
  exact E
set_option maxRecDepth 20000 in
theorem lw_c55 {xs : List Int32} {iv x1 x2 x3 x4 x5 : Int32} {h : am_H} {G : ri_M} {k n : Nat} (S : lw_sc xs iv x1 x2 x3 x4 x5) (I : INV h) (w : am_wf h) (hG : G.length < 10000) (H : lw_nx xs iv G k n) : lw_go xs iv 1807 (am_M h G) k n := by
  obtain ⟨v, h1, h2, ⟨I2, w2⟩, e1, e2⟩ := lw_q55 (G := G) I w x1
  obtain ⟨M', k', n', b1, b2, E⟩ := H h2 G k n I2 w2 (by omega) (by omega) (by omega)
  refine ⟨M', k', n', b1, b2, ?_⟩
  refine ri_nx rfl rfl ?_
  refine ri_nx rfl rfl ?_
  refine ri_nx rfl rfl ?_
  refine ri_nx rfl rfl ?_
  refine ri_nx rfl rfl ?_
  refine ri_scr rfl (am_M_no hG) S.1.1 S.1.2 ?_
  refine ri_vc rfl rfl am_0 rfl (by decide) rfl (Nat.le_of_ble_eq_true rfl) e1 ?_
  refine ri_nx rfl rfl ?_
  refine ri_nx rfl rfl ?_
  refine ri_nx rfl rfl ?_
  refine ri_nx rfl rfl ?_
  refine ri_nx rfl rfl ?_
  refine ri_scr rfl (am_M_no hG) S.1.1 S.1.2 ?_
  refine ri_vc rfl rfl am_571 rfl (by decide) rfl (Nat.le_of_ble_eq_true rfl) e2 ?_
  refine ri_nx rfl (if_pos rfl) ?_
  exact E
set_option maxRecDepth 20000 in
theorem lw_c56 {xs : List Int32} {iv x1 x2 x3 x4 x5 : Int32} {h : am_H} {G : ri_M} {k n : Nat} (S : lw_sc xs iv x1 x2 x3 x4 x5) (I : INV h) (w : am_wf h) (hG : G.length < 10000) (H : lw_nx xs iv G k n) : lw_go xs iv 1830 (am_M h G) k n := by
  obtain ⟨v, h1, h2, ⟨I2, w2⟩, e1, e2⟩ := lw_q56 (G := G) I w x1
  obtain ⟨M', k', n', b1, b2, E⟩ := H h2 G k n I2 w2 (by omega) (by omega) (by omega)
  refine ⟨M', k', n', b1, b2, ?_⟩
  refine ri_nx rfl rfl ?_
  refine ri_nx rfl rfl ?_
  refine ri_nx rfl rfl ?_
  refine ri_nx rfl rfl ?_
  refine ri_nx rfl rfl ?_
  refine ri_scr rfl (am_M_no hG) S.1.1 S.1.2 ?_
  refine ri_vc rfl rfl am_0 rfl (by decide) rfl (Nat.le_of_ble_eq_true rfl) e1 ?_
  refine ri_nx rfl rfl ?_
  refine ri_nx rfl rfl ?_
  refine ri_nx rfl rfl ?_
  refine ri_nx rfl rfl ?_
  refine ri_nx rfl rfl ?_
  refine ri_scr rfl (am_M_no hG) S.1.1 S.1.2 ?_
  refine ri_vc rfl rfl am_571 rfl (by decide) rfl (Nat.le_of_ble_eq_true rfl) e2 ?_
  refine ri_nx rfl (if_pos rfl) ?_
  exact E
set_option maxRecDepth 20000 in
theorem lw_c57 {xs : List Int32} {iv x1 x2 x3 x4 x5 : Int32} {h : am_H} {G : ri_M} {k n : Nat} (S : lw_sc xs iv x1 x2 x3 x4 x5) (I : INV h) (w : am_wf h) (hG : G.length < 10000) (H : lw_nx xs iv G k n) : lw_go xs iv 1853 (am_M h G) k n := by
  obtain ⟨v, h1, h2, ⟨I2, w2⟩, e1, e2⟩ := lw_q57 (G := G) I w x1
  obtain ⟨M', k', n', b1, b2, E⟩ := H h2 G k n I2 w2 (by omega) (by omega) (by omega)
  refine ⟨M', k', n', b1, b2, ?_⟩
  refine ri_nx rfl rfl ?_
  refine ri_nx rfl rfl ?_
  refine ri_nx rfl rfl ?_
  refine ri_nx rfl rfl ?_
  refine ri_nx rfl rfl ?_
  refine ri_scr rfl (am_M_no hG) S.1.1 S.1.2 ?_
  refine ri_vc rfl rfl am_0 rfl (by decide) rfl (Nat.le_of_ble_eq_true rfl) e1 ?_
  refine ri_nx rfl rfl ?_
  refine ri_nx rfl rfl ?_
  refine ri_nx rfl rfl ?_
  refine ri_nx rfl rfl ?_
  refine ri_nx rfl rfl ?_
  refine ri_scr rfl (am_M_no hG) S.1.1 S.1.2 ?_
  refine ri_vc rfl rfl am_571 rfl (by decide) rfl (Nat.le_of_ble_eq_true rfl) e2 ?_
  refine ri_nx rfl (if_pos rfl) ?_
  exact E
set_option maxRecDepth 20000 in
theorem lw_c58 {xs : List Int32} {iv x1 x2 x3 x4 x5 : Int32} {h : am_H} {G : ri_M} {k n : Nat} (S : lw_sc xs iv x1 x2 x3 x4 x5) (I : INV h) (w : am_wf h) (hG : G.length < 10000) (H : lw_nx xs iv G k n) : lw_go xs iv 1876 (am_M h G) k n := by
  obtain ⟨v, h1, h2, ⟨I2, w2⟩, e1, e2⟩ := lw_q58 (G := G) I w
  obtain ⟨M', k', n', b1, b2, E⟩ := H h2 G k n I2 w2 (by omega) (by omega) (by omega)
  refine ⟨M', k', n', b1, b2, ?_⟩
  refine ri_nx rfl rfl ?_
  refine ri_vc rfl rfl am_0 rfl (by decide) rfl (Nat.le_of_ble_eq_true rfl) e1 ?_
  refine ri_nx rfl rfl ?_
  refine ri_vc rfl rfl am_571 rfl (by decide) rfl (Nat.le_of_ble_eq_true rfl) e2 ?_
  refine ri_nx rfl (if_pos rfl) ?_
  exact E
set_option maxRecDepth 20000 in
theorem lw_c59 {xs : List Int32} {iv x1 x2 x3 x4 x5 : Int32} {h : am_H} {G : ri_M} {k n : Nat} (S : lw_sc xs iv x1 x2 x3 x4 x5) (I : INV h) (w : am_wf h) (hG : G.length < 10000) (H : lw_nx xs iv G k n) : lw_go xs iv 1889 (am_M h G) k n := by
  obtain ⟨v, h1, h2, ⟨I2, w2⟩, e1, e2⟩ := lw_q59 (G := G) I w
  obtain ⟨M', k', n', b1, b2, E⟩ := H h2 G k n I2 w2 (by omega) (by omega) (by omega)
  refine ⟨M', k', n', b1, b2, ?_⟩
  refine ri_nx rfl rfl ?_
  refine ri_vc rfl rfl am_0 rfl (by decide) rfl (Nat.le_of_ble_eq_true rfl) e1 ?_
  refine ri_nx rfl rfl ?_
  refine ri_vc rfl rfl am_571 rfl (by decide) rfl (Nat.le_of_ble_eq_true rfl) e2 ?_
  refine ri_nx rfl (if_pos rfl) ?_
  exact E
set_option maxRecDepth 20000 in
set_option maxHeartbeats 4000000 in
theorem lw_sw {xs : List Int32} {iv x1 x2 x3 x4 x5 : Int32} {h : am_H} {G : ri_M} {k n : Nat} (S : lw_sc xs iv x1 x2 x3 x4 x5) (I : INV h) (w : am_wf h) (hG : G.length < 10000) (H : lw_nx xs iv G k n) (y : Int32) : ∃ (M' : ri_M) (k' n' : Nat), k' ≤ 600000 ∧ n' ≤ 7302250 ∧ ri_ev 61 (some xs) (tbL, 4, 4) (33, lw_lv iv, [.int y], am_M h G, k, n) (some (.int 1), M', k', n') := by
  by_cases hy : y.toInt < 0 ∨ 59 < y.toInt
  · obtain ⟨M', k', n', b1, b2, E⟩ := H h G k n I w (by omega) (by omega) (by omega)
    exact ⟨M', k', n', b1, b2, ri_nx rfl (if_pos hy) E⟩
  · obtain ⟨i, hi, rfl⟩ := lw_ofInt hy
    match i, hi with
    | 0, _ =>
      obtain ⟨M', k', n', b1, b2, E⟩ := lw_c0 S I w hG H
      exact ⟨M', k', n', b1, b2, ri_nx rfl rfl E⟩
    | 1, _ =>
      obtain ⟨M', k', n', b1, b2, E⟩ := lw_c1 S I w hG H
      exact ⟨M', k', n', b1, b2, ri_nx rfl rfl E⟩
    | 2, _ =>
      obtain ⟨M', k', n', b1, b2, E⟩ := lw_c2 S I w hG H
      exact ⟨M', k', n', b1, b2, ri_nx rfl rfl E⟩
    | 3, _ =>
      obtain ⟨M', k', n', b1, b2, E⟩ := lw_c3 S I w hG H
      exact ⟨M', k', n', b1, b2, ri_nx rfl rfl E⟩
    | 4, _ =>
      obtain ⟨M', k', n', b1, b2, E⟩ := lw_c4 S I w hG H
      exact ⟨M', k', n', b1, b2, ri_nx rfl rfl E⟩
    | 5, _ =>
      obtain ⟨M', k', n', b1, b2, E⟩ := lw_c5 S I w hG H
      exact ⟨M', k', n', b1, b2, ri_nx rfl rfl E⟩
    | 6, _ =>
      obtain ⟨M', k', n', b1, b2, E⟩ := lw_c6 S I w hG H
      exact ⟨M', k', n', b1, b2, ri_nx rfl rfl E⟩
    | 7, _ =>
      obtain ⟨M', k', n', b1, b2, E⟩ := lw_c7 S I w hG H
      exact ⟨M', k', n', b1, b2, ri_nx rfl rfl E⟩
    | 8, _ =>
      obtain ⟨M', k', n', b1, b2, E⟩ := lw_c8 S I w hG H
      exact ⟨M', k', n', b1, b2, ri_nx rfl rfl E⟩
    | 9, _ =>
      obtain ⟨M', k', n', b1, b2, E⟩ := lw_c9 S I w hG H
      exact ⟨M', k', n', b1, b2, ri_nx rfl rfl E⟩
    | 10, _ =>
      obtain ⟨M', k', n', b1, b2, E⟩ := lw_c10 S I w hG H
      exact ⟨M', k', n', b1, b2, ri_nx rfl rfl E⟩
    | 11, _ =>
      obtain ⟨M', k', n', b1, b2, E⟩ := lw_c11 S I w hG H
      exact ⟨M', k', n', b1, b2, ri_nx rfl rfl E⟩
    | 12, _ =>
      obtain ⟨M', k', n', b1, b2, E⟩ := lw_c12 S I w hG H
      exact ⟨M', k', n', b1, b2, ri_nx rfl rfl E⟩
    | 13, _ =>
      obtain ⟨M', k', n', b1, b2, E⟩ := lw_c13 S I w hG H
      exact ⟨M', k', n', b1, b2, ri_nx rfl rfl E⟩
    | 14, _ =>
      obtain ⟨M', k', n', b1, b2, E⟩ := lw_c14 S I w hG H
      exact ⟨M', k', n', b1, b2, ri_nx rfl rfl E⟩
    | 15, _ =>
      obtain ⟨M', k', n', b1, b2, E⟩ := lw_c15 S I w hG H
      exact ⟨M', k', n', b1, b2, ri_nx rfl rfl E⟩
    | 16, _ =>
      obtain ⟨M', k', n', b1, b2, E⟩ := lw_c16 S I w hG H
      exact ⟨M', k', n', b1, b2, ri_nx rfl rfl E⟩
    | 17, _ =>
      obtain ⟨M', k', n', b1, b2, E⟩ := lw_c17 S I w hG H
      exact ⟨M', k', n', b1, b2, ri_nx rfl rfl E⟩
    | 18, _ =>
      obtain ⟨M', k', n', b1, b2, E⟩ := lw_c18 S I w hG H
      exact ⟨M', k', n', b1, b2, ri_nx rfl rfl E⟩
    | 19, _ =>
      obtain ⟨M', k', n', b1, b2, E⟩ := lw_c19 S I w hG H
      exact ⟨M', k', n', b1, b2, ri_nx rfl rfl E⟩
    | 20, _ =>
      obtain ⟨M', k', n', b1, b2, E⟩ := lw_c20 S I w hG H
      exact ⟨M', k', n', b1, b2, ri_nx rfl rfl E⟩
    | 21, _ =>
      obtain ⟨M', k', n', b1, b2, E⟩ := lw_c21 S I w hG H
      exact ⟨M', k', n', b1, b2, ri_nx rfl rfl E⟩
    | 22, _ =>
      obtain ⟨M', k', n', b1, b2, E⟩ := lw_c22 S I w hG H
      exact ⟨M', k', n', b1, b2, ri_nx rfl rfl E⟩
    | 23, _ =>
      obtain ⟨M', k', n', b1, b2, E⟩ := lw_c23 S I w hG H
      exact ⟨M', k', n', b1, b2, ri_nx rfl rfl E⟩
    | 24, _ =>
      obtain ⟨M', k', n', b1, b2, E⟩ := lw_c24 S I w hG H
      exact ⟨M', k', n', b1, b2, ri_nx rfl rfl E⟩
    | 25, _ =>
      obtain ⟨M', k', n', b1, b2, E⟩ := lw_c25 S I w hG H
      exact ⟨M', k', n', b1, b2, ri_nx rfl rfl E⟩
    | 26, _ =>
      obtain ⟨M', k', n', b1, b2, E⟩ := lw_c26 S I w hG H
      exact ⟨M', k', n', b1, b2, ri_nx rfl rfl E⟩
    | 27, _ =>
      obtain ⟨M', k', n', b1, b2, E⟩ := lw_c27 S I w hG H
      exact ⟨M', k', n', b1, b2, ri_nx rfl rfl E⟩
    | 28, _ =>
      obtain ⟨M', k', n', b1, b2, E⟩ := lw_c28 S I w hG H
      exact ⟨M', k', n', b1, b2, ri_nx rfl rfl E⟩
    | 29, _ =>
      obtain ⟨M', k', n', b1, b2, E⟩ := lw_c29 S I w hG H
      exact ⟨M', k', n', b1, b2, ri_nx rfl rfl E⟩
    | 30, _ =>
      obtain ⟨M', k', n', b1, b2, E⟩ := lw_c30 S I w hG H
      exact ⟨M', k', n', b1, b2, ri_nx rfl rfl E⟩
    | 31, _ =>
      obtain ⟨M', k', n', b1, b2, E⟩ := lw_c31 S I w hG H
      exact ⟨M', k', n', b1, b2, ri_nx rfl rfl E⟩
    | 32, _ =>
      obtain ⟨M', k', n', b1, b2, E⟩ := lw_c32 S I w hG H
      exact ⟨M', k', n', b1, b2, ri_nx rfl rfl E⟩
    | 33, _ =>
      obtain ⟨M', k', n', b1, b2, E⟩ := lw_c33 S I w hG H
      exact ⟨M', k', n', b1, b2, ri_nx rfl rfl E⟩
    | 34, _ =>
      obtain ⟨M', k', n', b1, b2, E⟩ := lw_c34 S I w hG H
      exact ⟨M', k', n', b1, b2, ri_nx rfl rfl E⟩
    | 35, _ =>
      obtain ⟨M', k', n', b1, b2, E⟩ := lw_c35 S I w hG H
      exact ⟨M', k', n', b1, b2, ri_nx rfl rfl E⟩
    | 36, _ =>
      obtain ⟨M', k', n', b1, b2, E⟩ := lw_c36 S I w hG H
      exact ⟨M', k', n', b1, b2, ri_nx rfl rfl E⟩
    | 37, _ =>
      obtain ⟨M', k', n', b1, b2, E⟩ := lw_c37 S I w hG H
      exact ⟨M', k', n', b1, b2, ri_nx rfl rfl E⟩
    | 38, _ =>
      obtain ⟨M', k', n', b1, b2, E⟩ := lw_c38 S I w hG H
      exact ⟨M', k', n', b1, b2, ri_nx rfl rfl E⟩
    | 39, _ =>
      obtain ⟨M', k', n', b1, b2, E⟩ := lw_c39 S I w hG H
      exact ⟨M', k', n', b1, b2, ri_nx rfl rfl E⟩
    | 40, _ =>
      obtain ⟨M', k', n', b1, b2, E⟩ := lw_c40 S I w hG H
      exact ⟨M', k', n', b1, b2, ri_nx rfl rfl E⟩
    | 41, _ =>
      obtain ⟨M', k', n', b1, b2, E⟩ := lw_c41 S I w hG H
      exact ⟨M', k', n', b1, b2, ri_nx rfl rfl E⟩
    | 42, _ =>
      obtain ⟨M', k', n', b1, b2, E⟩ := lw_c42 S I w hG H
      exact ⟨M', k', n', b1, b2, ri_nx rfl rfl E⟩
    | 43, _ =>
      obtain ⟨M', k', n', b1, b2, E⟩ := lw_c43 S I w hG H
      exact ⟨M', k', n', b1, b2, ri_nx rfl rfl E⟩
    | 44, _ =>
      obtain ⟨M', k', n', b1, b2, E⟩ := lw_c44 S I w hG H
      exact ⟨M', k', n', b1, b2, ri_nx rfl rfl E⟩
    | 45, _ =>
      obtain ⟨M', k', n', b1, b2, E⟩ := lw_c45 S I w hG H
      exact ⟨M', k', n', b1, b2, ri_nx rfl rfl E⟩
    | 46, _ =>
      obtain ⟨M', k', n', b1, b2, E⟩ := lw_c46 S I w hG H
      exact ⟨M', k', n', b1, b2, ri_nx rfl rfl E⟩
    | 47, _ =>
      obtain ⟨M', k', n', b1, b2, E⟩ := lw_c47 S I w hG H
      exact ⟨M', k', n', b1, b2, ri_nx rfl rfl E⟩
    | 48, _ =>
      obtain ⟨M', k', n', b1, b2, E⟩ := lw_c48 S I w hG H
      exact ⟨M', k', n', b1, b2, ri_nx rfl rfl E⟩
    | 49, _ =>
      obtain ⟨M', k', n', b1, b2, E⟩ := lw_c49 S I w hG H
      exact ⟨M', k', n', b1, b2, ri_nx rfl rfl E⟩
    | 50, _ =>
      obtain ⟨M', k', n', b1, b2, E⟩ := lw_c50 S I w hG H
      exact ⟨M', k', n', b1, b2, ri_nx rfl rfl E⟩
    | 51, _ =>
      obtain ⟨M', k', n', b1, b2, E⟩ := lw_c51 S I w hG H
      exact ⟨M', k', n', b1, b2, ri_nx rfl rfl E⟩
    | 52, _ =>
      obtain ⟨M', k', n', b1, b2, E⟩ := lw_c52 S I w hG H
      exact ⟨M', k', n', b1, b2, ri_nx rfl rfl E⟩
    | 53, _ =>
      obtain ⟨M', k', n', b1, b2, E⟩ := lw_c53 S I w hG H
      exact ⟨M', k', n', b1, b2, ri_nx rfl rfl E⟩
    | 54, _ =>
      obtain ⟨M', k', n', b1, b2, E⟩ := lw_c54 S I w hG H
      exact ⟨M', k', n', b1, b2, ri_nx rfl rfl E⟩
    | 55, _ =>
      obtain ⟨M', k', n', b1, b2, E⟩ := lw_c55 S I w hG H
      exact ⟨M', k', n', b1, b2, ri_nx rfl rfl E⟩
    | 56, _ =>
      obtain ⟨M', k', n', b1, b2, E⟩ := lw_c56 S I w hG H
      exact ⟨M', k', n', b1, b2, ri_nx rfl rfl E⟩
    | 57, _ =>
      obtain ⟨M', k', n', b1, b2, E⟩ := lw_c57 S I w hG H
      exact ⟨M', k', n', b1, b2, ri_nx rfl rfl E⟩
    | 58, _ =>
      obtain ⟨M', k', n', b1, b2, E⟩ := lw_c58 S I w hG H
      exact ⟨M', k', n', b1, b2, ri_nx rfl rfl E⟩
    | 59, _ =>
      obtain ⟨M', k', n', b1, b2, E⟩ := lw_c59 S I w hG H
      exact ⟨M', k', n', b1, b2, ri_nx rfl rfl E⟩
    | i + 60, hi => exact absurd hi (by omega)
