section RIN
variable {d pc : Nat} {X : Option (List Int32)} {t t' : ri_T} {lv : ri_L} {st : List Value} {M : ri_M} {k n : Nat} {r : Option Value × ri_M × Nat × Nat}
theorem ri_new {a b c0 d0 idx L : Nat} {fs : List Value} (ht : t.1[pc]? = some (some (.new idx, a, b, c0, d0))) (hf : ri_Fd[a]? = some fs) (hL : M.length = L) (hL2 : L < 1000000) (h : ri_ev d X t (pc + 3, lv, .ref L :: st, M ++ [.inr (a, fs)], k + 1, n + fs.length) r) : ri_ev d X t (pc, lv, st, M, k, n) r := by
  refine ri_nx ht (?_ : ((match (generalizing := false) ri_Fd[a]? with | some fs => if M.length < 1000000 then some (.inl (pc + 3, lv, .ref M.length :: st, M ++ [.inr (a, fs)], k + 1, n + fs.length)) else none | none => none) : Option ri_X) = _) h
  rw [hf, hL]
  simp [hL2]
theorem ri_ic {y n0 dd q idx : Nat} {fs : List Value} {v : Option Value} {M' : ri_M} {k' n' : Nat} (ht : t.1[pc]? = some (some (.invokespecial idx, y, n0, 0, dd))) (hq : st[n0]? = some (.ref q)) (hM : M[q]? = some (.inr (dd, fs))) (hl : (decide (st.length < n0) || decide (8 < ((st.drop (n0 + 1)).map (fun v => v.category)).sum)) = false) (hq6 : q < 1000000) (hy : ri_P y = some t') (hc : ((Value.ref q :: (st.take n0).reverse).map (fun v => v.category)).sum ≤ t'.2.1)
    (h1 : ri_ev d none t' (0, lv_args 0 (.ref q :: (st.take n0).reverse), [], M, 0, 0) (v, M', k', n')) (h2 : ri_ev (d + 1) X t (pc + 3, lv, v.toList ++ st.drop (n0 + 1), M', k + k', n + n') r) : ri_ev (d + 1) X t (pc, lv, st, M, k, n) r := by
  refine ri_cll ht (?_ : ri_cl y n0 (pc + 3) lv st M k n 1 dd = some (.inr (.inl (y, .ref q :: (st.take n0).reverse, (pc + 3, lv, st.drop (n0 + 1), M, k, n))))) hy hc h1 h2
  rw [Bool.or_eq_false_iff] at hl
  have hl1 := of_decide_eq_false hl.1
  have hl2 := of_decide_eq_false hl.2
  unfold ri_cl
  rw [if_neg (by simp only [show ¬ (1 = 0) by decide, if_false]; exact fun h => h.elim hl1 hl2), if_neg (by decide), hq]
  simp only [hM]
  rw [if_pos ⟨trivial, hq6⟩]
end RIN
theorem p1_cmp : Int32.ofNat 6 - (Int8.ofInt 6).toInt32 < 0 + Int32.ofInt 6 := by decide
theorem p1_cmp0 : ¬ Int32.ofNat 6 - (Int8.ofInt 6).toInt32 < (0 : Int32) := by decide
set_option maxRecDepth 20000 in
theorem p1_tail (x0 x1 x2 x3 x4 x5 : Int32) (M : ri_M) (k n : Nat) : ri_ev 10 (some [x0, x1, x2, x3, x4, x5]) (tbL, 4, 4) (1902, [(3, .int 0), (2, .ref 571), (1, .ref 0), (0, .ref 2000000)], [], M, k, n) (some (.int 1), M, k, n) := by
  refine ri_nx rfl rfl ?_
  refine ri_nx rfl rfl ?_
  refine ri_nx rfl rfl ?_
  refine ri_nx rfl rfl ?_
  refine ri_nx rfl rfl ?_
  refine ri_nx rfl rfl ?_
  refine ri_nx rfl rfl ?_
  refine ri_nx rfl (if_pos (show Int32.ofNat [x0, x1, x2, x3, x4, x5].length - (Int8.ofInt 6).toInt32 < 0 + Int32.ofInt 6 from p1_cmp)) ?_
  refine ri_nx rfl rfl ?_
  exact ri_rt rfl rfl
set_option maxRecDepth 20000 in
theorem p1_case0 (x0 x1 x2 x3 x4 x5 : Int32) : ∃ (M' : ri_M) (k n : Nat), k ≤ 600000 ∧ n ≤ 7302250 ∧ ri_ev 10 (some [x0, x1, x2, x3, x4, x5]) (tbL, 4, 4) (288, [(3, .int 0), (2, .ref 571), (1, .ref 0), (0, .ref 2000000)], [], p1_M, 602, 21123) (some (.int 1), M', k, n) := by
  obtain ⟨v, M1, M2, fs, k2, n2, hk2, hn2, h1, h2, h3, hn1⟩ := p1_feed x1 x2 x3 x4 x5
  refine ⟨M2, 602 + 0 + k2, 21123 + 0 + n2, by omega, by omega, ?_⟩
  refine ri_nx rfl rfl ?_
  refine ri_nx rfl rfl ?_
  refine ri_nx rfl rfl ?_
  refine ri_nx rfl rfl ?_
  refine ri_nx rfl rfl ?_
  refine ri_scr rfl no_p1_M (by decide) rfl ?_
  refine ri_nx rfl rfl ?_
  refine ri_nx rfl rfl ?_
  refine ri_nx rfl rfl ?_
  refine ri_nx rfl rfl ?_
  refine ri_scr rfl no_p1_M (by decide) rfl ?_
  refine ri_nx rfl rfl ?_
  refine ri_nx rfl rfl ?_
  refine ri_nx rfl rfl ?_
  refine ri_nx rfl rfl ?_
  refine ri_scr rfl no_p1_M (by decide) rfl ?_
  refine ri_nx rfl rfl ?_
  refine ri_nx rfl rfl ?_
  refine ri_nx rfl rfl ?_
  refine ri_nx rfl rfl ?_
  refine ri_scr rfl no_p1_M (by decide) rfl ?_
  refine ri_nx rfl rfl ?_
  refine ri_nx rfl rfl ?_
  refine ri_nx rfl rfl ?_
  refine ri_nx rfl rfl ?_
  refine ri_scr rfl no_p1_M (by decide) rfl ?_
  refine ri_vc rfl rfl cl_p1_M_0 rfl (by decide) rfl (Nat.le_of_ble_eq_true rfl) h1 ?_
  refine ri_nx rfl rfl ?_
  refine ri_nx rfl rfl ?_
  refine ri_nx rfl rfl ?_
  refine ri_nx rfl rfl ?_
  refine ri_nx rfl rfl ?_
  refine ri_scr rfl hn1 (by decide) rfl ?_
  refine ri_nx rfl rfl ?_
  refine ri_nx rfl rfl ?_
  refine ri_nx rfl rfl ?_
  refine ri_nx rfl rfl ?_
  refine ri_scr rfl hn1 (by decide) rfl ?_
  refine ri_nx rfl rfl ?_
  refine ri_nx rfl rfl ?_
  refine ri_nx rfl rfl ?_
  refine ri_nx rfl rfl ?_
  refine ri_scr rfl hn1 (by decide) rfl ?_
  refine ri_nx rfl rfl ?_
  refine ri_nx rfl rfl ?_
  refine ri_nx rfl rfl ?_
  refine ri_nx rfl rfl ?_
  refine ri_scr rfl hn1 (by decide) rfl ?_
  refine ri_nx rfl rfl ?_
  refine ri_nx rfl rfl ?_
  refine ri_nx rfl rfl ?_
  refine ri_nx rfl rfl ?_
  refine ri_scr rfl hn1 (by decide) rfl ?_
  refine ri_vc rfl rfl h3 rfl (by decide) rfl (Nat.le_of_ble_eq_true rfl) h2 ?_
  refine ri_nx rfl (if_pos rfl) ?_
  exact p1_tail x0 x1 x2 x3 x4 x5 M2 _ _
set_option maxRecDepth 20000 in
theorem p1_case1 (x0 x1 x2 x3 x4 x5 : Int32) : ∃ (M' : ri_M) (k n : Nat), k ≤ 600000 ∧ n ≤ 7302250 ∧ ri_ev 10 (some [x0, x1, x2, x3, x4, x5]) (tbL, 4, 4) (351, [(3, .int 0), (2, .ref 571), (1, .ref 0), (0, .ref 2000000)], [], p1_M, 602, 21123) (some (.int 1), M', k, n) := by
  obtain ⟨v, M1, M2, fs, h1, h2, h3, hn1⟩ := ag1 x1
  refine ⟨M2, 602 + 0 + 0, 21123 + 0 + 0, Nat.le_of_ble_eq_true rfl, Nat.le_of_ble_eq_true rfl, ?_⟩
  refine ri_nx rfl rfl ?_
  refine ri_nx rfl rfl ?_
  refine ri_nx rfl rfl ?_
  refine ri_nx rfl rfl ?_
  refine ri_nx rfl rfl ?_
  refine ri_scr rfl no_p1_M (by decide) rfl ?_
  refine ri_vc rfl rfl cl_p1_M_0 rfl (by decide) rfl (Nat.le_of_ble_eq_true rfl) h1 ?_
  refine ri_nx rfl rfl ?_
  refine ri_nx rfl rfl ?_
  refine ri_nx rfl rfl ?_
  refine ri_nx rfl rfl ?_
  refine ri_nx rfl rfl ?_
  refine ri_scr rfl hn1 (by decide) rfl ?_
  refine ri_vc rfl rfl h3 rfl (by decide) rfl (Nat.le_of_ble_eq_true rfl) h2 ?_
  refine ri_nx rfl (if_pos rfl) ?_
  exact p1_tail x0 x1 x2 x3 x4 x5 M2 _ _
set_option maxRecDepth 20000 in
theorem p1_case2 (x0 x1 x2 x3 x4 x5 : Int32) : ∃ (M' : ri_M) (k n : Nat), k ≤ 600000 ∧ n ≤ 7302250 ∧ ri_ev 10 (some [x0, x1, x2, x3, x4, x5]) (tbL, 4, 4) (374, [(3, .int 0), (2, .ref 571), (1, .ref 0), (0, .ref 2000000)], [], p1_M, 602, 21123) (some (.int 1), M', k, n) := by
  obtain ⟨v, M1, M2, fs, h1, h2, h3, hn1⟩ := ag2 
  refine ⟨M2, 602 + 0 + 0, 21123 + 0 + 0, Nat.le_of_ble_eq_true rfl, Nat.le_of_ble_eq_true rfl, ?_⟩
  refine ri_nx rfl rfl ?_
  refine ri_vc rfl rfl cl_p1_M_0 rfl (by decide) rfl (Nat.le_of_ble_eq_true rfl) h1 ?_
  refine ri_nx rfl rfl ?_
  refine ri_vc rfl rfl h3 rfl (by decide) rfl (Nat.le_of_ble_eq_true rfl) h2 ?_
  refine ri_nx rfl (if_pos rfl) ?_
  exact p1_tail x0 x1 x2 x3 x4 x5 M2 _ _
set_option maxRecDepth 20000 in
theorem p1_case3 (x0 x1 x2 x3 x4 x5 : Int32) : ∃ (M' : ri_M) (k n : Nat), k ≤ 600000 ∧ n ≤ 7302250 ∧ ri_ev 10 (some [x0, x1, x2, x3, x4, x5]) (tbL, 4, 4) (387, [(3, .int 0), (2, .ref 571), (1, .ref 0), (0, .ref 2000000)], [], p1_M, 602, 21123) (some (.int 1), M', k, n) := by
  obtain ⟨v, M1, M2, fs, h1, h2, h3, hn1⟩ := ag3 x1
  refine ⟨M2, 602 + 0 + 0, 21123 + 0 + 0, Nat.le_of_ble_eq_true rfl, Nat.le_of_ble_eq_true rfl, ?_⟩
  refine ri_nx rfl rfl ?_
  refine ri_nx rfl rfl ?_
  refine ri_nx rfl rfl ?_
  refine ri_nx rfl rfl ?_
  refine ri_nx rfl rfl ?_
  refine ri_scr rfl no_p1_M (by decide) rfl ?_
  refine ri_vc rfl rfl cl_p1_M_0 rfl (by decide) rfl (Nat.le_of_ble_eq_true rfl) h1 ?_
  refine ri_nx rfl rfl ?_
  refine ri_nx rfl rfl ?_
  refine ri_nx rfl rfl ?_
  refine ri_nx rfl rfl ?_
  refine ri_nx rfl rfl ?_
  refine ri_scr rfl hn1 (by decide) rfl ?_
  refine ri_vc rfl rfl h3 rfl (by decide) rfl (Nat.le_of_ble_eq_true rfl) h2 ?_
  refine ri_nx rfl (if_pos rfl) ?_
  exact p1_tail x0 x1 x2 x3 x4 x5 M2 _ _
set_option maxRecDepth 20000 in
theorem p1_case4 (x0 x1 x2 x3 x4 x5 : Int32) : ∃ (M' : ri_M) (k n : Nat), k ≤ 600000 ∧ n ≤ 7302250 ∧ ri_ev 10 (some [x0, x1, x2, x3, x4, x5]) (tbL, 4, 4) (410, [(3, .int 0), (2, .ref 571), (1, .ref 0), (0, .ref 2000000)], [], p1_M, 602, 21123) (some (.int 1), M', k, n) := by
  obtain ⟨v, M1, M2, fs, h1, h2, h3, hn1⟩ := ag4 x1
  refine ⟨M2, 602 + 0 + 0, 21123 + 0 + 0, Nat.le_of_ble_eq_true rfl, Nat.le_of_ble_eq_true rfl, ?_⟩
  refine ri_nx rfl rfl ?_
  refine ri_nx rfl rfl ?_
  refine ri_nx rfl rfl ?_
  refine ri_nx rfl rfl ?_
  refine ri_nx rfl rfl ?_
  refine ri_scr rfl no_p1_M (by decide) rfl ?_
  refine ri_vc rfl rfl cl_p1_M_0 rfl (by decide) rfl (Nat.le_of_ble_eq_true rfl) h1 ?_
  refine ri_nx rfl rfl ?_
  refine ri_nx rfl rfl ?_
  refine ri_nx rfl rfl ?_
  refine ri_nx rfl rfl ?_
  refine ri_nx rfl rfl ?_
  refine ri_scr rfl hn1 (by decide) rfl ?_
  refine ri_vc rfl rfl h3 rfl (by decide) rfl (Nat.le_of_ble_eq_true rfl) h2 ?_
  refine ri_nx rfl (if_pos rfl) ?_
  exact p1_tail x0 x1 x2 x3 x4 x5 M2 _ _
set_option maxRecDepth 20000 in
theorem p1_case5 (x0 x1 x2 x3 x4 x5 : Int32) : ∃ (M' : ri_M) (k n : Nat), k ≤ 600000 ∧ n ≤ 7302250 ∧ ri_ev 10 (some [x0, x1, x2, x3, x4, x5]) (tbL, 4, 4) (433, [(3, .int 0), (2, .ref 571), (1, .ref 0), (0, .ref 2000000)], [], p1_M, 602, 21123) (some (.int 1), M', k, n) := by
  obtain ⟨v, M1, M2, fs, h1, h2, h3, hn1⟩ := ag5 x1 x2
  refine ⟨M2, 602 + 0 + 0, 21123 + 0 + 0, Nat.le_of_ble_eq_true rfl, Nat.le_of_ble_eq_true rfl, ?_⟩
  refine ri_nx rfl rfl ?_
  refine ri_nx rfl rfl ?_
  refine ri_nx rfl rfl ?_
  refine ri_nx rfl rfl ?_
  refine ri_nx rfl rfl ?_
  refine ri_scr rfl no_p1_M (by decide) rfl ?_
  refine ri_nx rfl rfl ?_
  refine ri_nx rfl rfl ?_
  refine ri_nx rfl rfl ?_
  refine ri_nx rfl rfl ?_
  refine ri_scr rfl no_p1_M (by decide) rfl ?_
  refine ri_vc rfl rfl cl_p1_M_0 rfl (by decide) rfl (Nat.le_of_ble_eq_true rfl) h1 ?_
  refine ri_nx rfl rfl ?_
  refine ri_nx rfl rfl ?_
  refine ri_nx rfl rfl ?_
  refine ri_nx rfl rfl ?_
  refine ri_nx rfl rfl ?_
  refine ri_scr rfl hn1 (by decide) rfl ?_
  refine ri_nx rfl rfl ?_
  refine ri_nx rfl rfl ?_
  refine ri_nx rfl rfl ?_
  refine ri_nx rfl rfl ?_
  refine ri_scr rfl hn1 (by decide) rfl ?_
  refine ri_vc rfl rfl h3 rfl (by decide) rfl (Nat.le_of_ble_eq_true rfl) h2 ?_
  refine ri_nx rfl (if_pos rfl) ?_
  exact p1_tail x0 x1 x2 x3 x4 x5 M2 _ _
set_option maxRecDepth 20000 in
theorem p1_case6 (x0 x1 x2 x3 x4 x5 : Int32) : ∃ (M' : ri_M) (k n : Nat), k ≤ 600000 ∧ n ≤ 7302250 ∧ ri_ev 10 (some [x0, x1, x2, x3, x4, x5]) (tbL, 4, 4) (466, [(3, .int 0), (2, .ref 571), (1, .ref 0), (0, .ref 2000000)], [], p1_M, 602, 21123) (some (.int 1), M', k, n) := by
  obtain ⟨v, M1, M2, fs, h1, h2, h3, hn1⟩ := ag6 x1 x2
  refine ⟨M2, 602 + 0 + 0, 21123 + 0 + 0, Nat.le_of_ble_eq_true rfl, Nat.le_of_ble_eq_true rfl, ?_⟩
  refine ri_nx rfl rfl ?_
  refine ri_nx rfl rfl ?_
  refine ri_nx rfl rfl ?_
  refine ri_nx rfl rfl ?_
  refine ri_nx rfl rfl ?_
  refine ri_scr rfl no_p1_M (by decide) rfl ?_
  refine ri_nx rfl rfl ?_
  refine ri_nx rfl rfl ?_
  refine ri_nx rfl rfl ?_
  refine ri_nx rfl rfl ?_
  refine ri_scr rfl no_p1_M (by decide) rfl ?_
  refine ri_vc rfl rfl cl_p1_M_0 rfl (by decide) rfl (Nat.le_of_ble_eq_true rfl) h1 ?_
  refine ri_nx rfl rfl ?_
  refine ri_nx rfl rfl ?_
  refine ri_nx rfl rfl ?_
  refine ri_nx rfl rfl ?_
  refine ri_nx rfl rfl ?_
  refine ri_scr rfl hn1 (by decide) rfl ?_
  refine ri_nx rfl rfl ?_
  refine ri_nx rfl rfl ?_
  refine ri_nx rfl rfl ?_
  refine ri_nx rfl rfl ?_
  refine ri_scr rfl hn1 (by decide) rfl ?_
  refine ri_vc rfl rfl h3 rfl (by decide) rfl (Nat.le_of_ble_eq_true rfl) h2 ?_
  refine ri_nx rfl (if_pos rfl) ?_
  exact p1_tail x0 x1 x2 x3 x4 x5 M2 _ _
set_option maxRecDepth 20000 in
theorem p1_case7 (x0 x1 x2 x3 x4 x5 : Int32) : ∃ (M' : ri_M) (k n : Nat), k ≤ 600000 ∧ n ≤ 7302250 ∧ ri_ev 10 (some [x0, x1, x2, x3, x4, x5]) (tbL, 4, 4) (499, [(3, .int 0), (2, .ref 571), (1, .ref 0), (0, .ref 2000000)], [], p1_M, 602, 21123) (some (.int 1), M', k, n) := by
  obtain ⟨v, M1, M2, fs, h1, h2, h3, hn1⟩ := ag7 x1
  refine ⟨M2, 602 + 0 + 0, 21123 + 0 + 0, Nat.le_of_ble_eq_true rfl, Nat.le_of_ble_eq_true rfl, ?_⟩
  refine ri_nx rfl rfl ?_
  refine ri_nx rfl rfl ?_
  refine ri_nx rfl rfl ?_
  refine ri_nx rfl rfl ?_
  refine ri_nx rfl rfl ?_
  refine ri_scr rfl no_p1_M (by decide) rfl ?_
  refine ri_vc rfl rfl cl_p1_M_0 rfl (by decide) rfl (Nat.le_of_ble_eq_true rfl) h1 ?_
  refine ri_nx rfl rfl ?_
  refine ri_nx rfl rfl ?_
  refine ri_nx rfl rfl ?_
  refine ri_nx rfl rfl ?_
  refine ri_nx rfl rfl ?_
  refine ri_scr rfl hn1 (by decide) rfl ?_
  refine ri_vc rfl rfl h3 rfl (by decide) rfl (Nat.le_of_ble_eq_true rfl) h2 ?_
  refine ri_nx rfl (if_pos rfl) ?_
  exact p1_tail x0 x1 x2 x3 x4 x5 M2 _ _
set_option maxRecDepth 20000 in
theorem p1_case8 (x0 x1 x2 x3 x4 x5 : Int32) : ∃ (M' : ri_M) (k n : Nat), k ≤ 600000 ∧ n ≤ 7302250 ∧ ri_ev 10 (some [x0, x1, x2, x3, x4, x5]) (tbL, 4, 4) (522, [(3, .int 0), (2, .ref 571), (1, .ref 0), (0, .ref 2000000)], [], p1_M, 602, 21123) (some (.int 1), M', k, n) := by
  obtain ⟨v, M1, M2, fs, h1, h2, h3, hn1⟩ := ag8 x1 x2
  refine ⟨M2, 602 + 0 + 0, 21123 + 0 + 0, Nat.le_of_ble_eq_true rfl, Nat.le_of_ble_eq_true rfl, ?_⟩
  refine ri_nx rfl rfl ?_
  refine ri_nx rfl rfl ?_
  refine ri_nx rfl rfl ?_
  refine ri_nx rfl rfl ?_
  refine ri_nx rfl rfl ?_
  refine ri_scr rfl no_p1_M (by decide) rfl ?_
  refine ri_nx rfl rfl ?_
  refine ri_nx rfl rfl ?_
  refine ri_nx rfl rfl ?_
  refine ri_nx rfl rfl ?_
  refine ri_scr rfl no_p1_M (by decide) rfl ?_
  refine ri_vc rfl rfl cl_p1_M_0 rfl (by decide) rfl (Nat.le_of_ble_eq_true rfl) h1 ?_
  refine ri_nx rfl rfl ?_
  refine ri_nx rfl rfl ?_
  refine ri_nx rfl rfl ?_
  refine ri_nx rfl rfl ?_
  refine ri_nx rfl rfl ?_
  refine ri_scr rfl hn1 (by decide) rfl ?_
  refine ri_nx rfl rfl ?_
  refine ri_nx rfl rfl ?_
  refine ri_nx rfl rfl ?_
  refine ri_nx rfl rfl ?_
  refine ri_scr rfl hn1 (by decide) rfl ?_
  refine ri_vc rfl rfl h3 rfl (by decide) rfl (Nat.le_of_ble_eq_true rfl) h2 ?_
  refine ri_nx rfl (if_pos rfl) ?_
  exact p1_tail x0 x1 x2 x3 x4 x5 M2 _ _
set_option maxRecDepth 20000 in
theorem p1_case9 (x0 x1 x2 x3 x4 x5 : Int32) : ∃ (M' : ri_M) (k n : Nat), k ≤ 600000 ∧ n ≤ 7302250 ∧ ri_ev 10 (some [x0, x1, x2, x3, x4, x5]) (tbL, 4, 4) (555, [(3, .int 0), (2, .ref 571), (1, .ref 0), (0, .ref 2000000)], [], p1_M, 602, 21123) (some (.int 1), M', k, n) := by
  obtain ⟨v, M1, M2, fs, h1, h2, h3, hn1⟩ := ag9 x1 x2
  refine ⟨M2, 602 + 0 + 0, 21123 + 0 + 0, Nat.le_of_ble_eq_true rfl, Nat.le_of_ble_eq_true rfl, ?_⟩
  refine ri_nx rfl rfl ?_
  refine ri_nx rfl rfl ?_
  refine ri_nx rfl rfl ?_
  refine ri_nx rfl rfl ?_
  refine ri_nx rfl rfl ?_
  refine ri_scr rfl no_p1_M (by decide) rfl ?_
  refine ri_nx rfl rfl ?_
  refine ri_nx rfl rfl ?_
  refine ri_nx rfl rfl ?_
  refine ri_nx rfl rfl ?_
  refine ri_scr rfl no_p1_M (by decide) rfl ?_
  refine ri_vc rfl rfl cl_p1_M_0 rfl (by decide) rfl (Nat.le_of_ble_eq_true rfl) h1 ?_
  refine ri_nx rfl rfl ?_
  refine ri_nx rfl rfl ?_
  refine ri_nx rfl rfl ?_
  refine ri_nx rfl rfl ?_
  refine ri_nx rfl rfl ?_
  refine ri_scr rfl hn1 (by decide) rfl ?_
  refine ri_nx rfl rfl ?_
  refine ri_nx rfl rfl ?_
  refine ri_nx rfl rfl ?_
  refine ri_nx rfl rfl ?_
  refine ri_scr rfl hn1 (by decide) rfl ?_
  refine ri_vc rfl rfl h3 rfl (by decide) rfl (Nat.le_of_ble_eq_true rfl) h2 ?_
  refine ri_nx rfl rfl ?_
  refine ri_nx rfl (if_pos ((lg_cmp_eq v v).mpr rfl)) ?_
  exact p1_tail x0 x1 x2 x3 x4 x5 M2 _ _
set_option maxRecDepth 20000 in
theorem p1_case10 (x0 x1 x2 x3 x4 x5 : Int32) : ∃ (M' : ri_M) (k n : Nat), k ≤ 600000 ∧ n ≤ 7302250 ∧ ri_ev 10 (some [x0, x1, x2, x3, x4, x5]) (tbL, 4, 4) (589, [(3, .int 0), (2, .ref 571), (1, .ref 0), (0, .ref 2000000)], [], p1_M, 602, 21123) (some (.int 1), M', k, n) := by
  obtain ⟨v, M1, M2, fs, h1, h2, h3, hn1⟩ := ag10 x1 x2
  refine ⟨M2, 602 + 0 + 0, 21123 + 0 + 0, Nat.le_of_ble_eq_true rfl, Nat.le_of_ble_eq_true rfl, ?_⟩
  refine ri_nx rfl rfl ?_
  refine ri_nx rfl rfl ?_
  refine ri_nx rfl rfl ?_
  refine ri_nx rfl rfl ?_
  refine ri_nx rfl rfl ?_
  refine ri_scr rfl no_p1_M (by decide) rfl ?_
  refine ri_nx rfl rfl ?_
  refine ri_nx rfl rfl ?_
  refine ri_nx rfl rfl ?_
  refine ri_nx rfl rfl ?_
  refine ri_scr rfl no_p1_M (by decide) rfl ?_
  refine ri_vc rfl rfl cl_p1_M_0 rfl (by decide) rfl (Nat.le_of_ble_eq_true rfl) h1 ?_
  refine ri_nx rfl rfl ?_
  refine ri_nx rfl rfl ?_
  refine ri_nx rfl rfl ?_
  refine ri_nx rfl rfl ?_
  refine ri_nx rfl rfl ?_
  refine ri_scr rfl hn1 (by decide) rfl ?_
  refine ri_nx rfl rfl ?_
  refine ri_nx rfl rfl ?_
  refine ri_nx rfl rfl ?_
  refine ri_nx rfl rfl ?_
  refine ri_scr rfl hn1 (by decide) rfl ?_
  refine ri_vc rfl rfl h3 rfl (by decide) rfl (Nat.le_of_ble_eq_true rfl) h2 ?_
  refine ri_nx rfl (if_pos rfl) ?_
  exact p1_tail x0 x1 x2 x3 x4 x5 M2 _ _
set_option maxRecDepth 20000 in
theorem p1_case11 (x0 x1 x2 x3 x4 x5 : Int32) : ∃ (M' : ri_M) (k n : Nat), k ≤ 600000 ∧ n ≤ 7302250 ∧ ri_ev 10 (some [x0, x1, x2, x3, x4, x5]) (tbL, 4, 4) (622, [(3, .int 0), (2, .ref 571), (1, .ref 0), (0, .ref 2000000)], [], p1_M, 602, 21123) (some (.int 1), M', k, n) := by
  obtain ⟨v, M1, M2, fs, h1, h2, h3, hn1⟩ := ag11 x1 x2
  refine ⟨M2, 602 + 0 + 0, 21123 + 0 + 0, Nat.le_of_ble_eq_true rfl, Nat.le_of_ble_eq_true rfl, ?_⟩
  refine ri_nx rfl rfl ?_
  refine ri_nx rfl rfl ?_
  refine ri_nx rfl rfl ?_
  refine ri_nx rfl rfl ?_
  refine ri_nx rfl rfl ?_
  refine ri_scr rfl no_p1_M (by decide) rfl ?_
  refine ri_nx rfl rfl ?_
  refine ri_nx rfl rfl ?_
  refine ri_nx rfl rfl ?_
  refine ri_nx rfl rfl ?_
  refine ri_scr rfl no_p1_M (by decide) rfl ?_
  refine ri_vc rfl rfl cl_p1_M_0 rfl (by decide) rfl (Nat.le_of_ble_eq_true rfl) h1 ?_
  refine ri_nx rfl rfl ?_
  refine ri_nx rfl rfl ?_
  refine ri_nx rfl rfl ?_
  refine ri_nx rfl rfl ?_
  refine ri_nx rfl rfl ?_
  refine ri_scr rfl hn1 (by decide) rfl ?_
  refine ri_nx rfl rfl ?_
  refine ri_nx rfl rfl ?_
  refine ri_nx rfl rfl ?_
  refine ri_nx rfl rfl ?_
  refine ri_scr rfl hn1 (by decide) rfl ?_
  refine ri_vc rfl rfl h3 rfl (by decide) rfl (Nat.le_of_ble_eq_true rfl) h2 ?_
  refine ri_nx rfl (if_pos rfl) ?_
  exact p1_tail x0 x1 x2 x3 x4 x5 M2 _ _
set_option maxRecDepth 20000 in
theorem p1_case12 (x0 x1 x2 x3 x4 x5 : Int32) : ∃ (M' : ri_M) (k n : Nat), k ≤ 600000 ∧ n ≤ 7302250 ∧ ri_ev 10 (some [x0, x1, x2, x3, x4, x5]) (tbL, 4, 4) (655, [(3, .int 0), (2, .ref 571), (1, .ref 0), (0, .ref 2000000)], [], p1_M, 602, 21123) (some (.int 1), M', k, n) := by
  obtain ⟨v, M1, M2, fs, h1, h2, h3, hn1⟩ := ag12 x1 x2
  refine ⟨M2, 602 + 0 + 0, 21123 + 0 + 0, Nat.le_of_ble_eq_true rfl, Nat.le_of_ble_eq_true rfl, ?_⟩
  refine ri_nx rfl rfl ?_
  refine ri_nx rfl rfl ?_
  refine ri_nx rfl rfl ?_
  refine ri_nx rfl rfl ?_
  refine ri_nx rfl rfl ?_
  refine ri_scr rfl no_p1_M (by decide) rfl ?_
  refine ri_nx rfl rfl ?_
  refine ri_nx rfl rfl ?_
  refine ri_nx rfl rfl ?_
  refine ri_nx rfl rfl ?_
  refine ri_scr rfl no_p1_M (by decide) rfl ?_
  refine ri_vc rfl rfl cl_p1_M_0 rfl (by decide) rfl (Nat.le_of_ble_eq_true rfl) h1 ?_
  refine ri_nx rfl rfl ?_
  refine ri_nx rfl rfl ?_
  refine ri_nx rfl rfl ?_
  refine ri_nx rfl rfl ?_
  refine ri_nx rfl rfl ?_
  refine ri_scr rfl hn1 (by decide) rfl ?_
  refine ri_nx rfl rfl ?_
  refine ri_nx rfl rfl ?_
  refine ri_nx rfl rfl ?_
  refine ri_nx rfl rfl ?_
  refine ri_scr rfl hn1 (by decide) rfl ?_
  refine ri_vc rfl rfl h3 rfl (by decide) rfl (Nat.le_of_ble_eq_true rfl) h2 ?_
  refine ri_nx rfl (if_pos rfl) ?_
  exact p1_tail x0 x1 x2 x3 x4 x5 M2 _ _
set_option maxRecDepth 20000 in
theorem p1_case13 (x0 x1 x2 x3 x4 x5 : Int32) : ∃ (M' : ri_M) (k n : Nat), k ≤ 600000 ∧ n ≤ 7302250 ∧ ri_ev 10 (some [x0, x1, x2, x3, x4, x5]) (tbL, 4, 4) (688, [(3, .int 0), (2, .ref 571), (1, .ref 0), (0, .ref 2000000)], [], p1_M, 602, 21123) (some (.int 1), M', k, n) := by
  obtain ⟨v, M1, M2, fs, h1, h2, h3, hn1⟩ := ag13 x1
  refine ⟨M2, 602 + 0 + 0, 21123 + 0 + 0, Nat.le_of_ble_eq_true rfl, Nat.le_of_ble_eq_true rfl, ?_⟩
  refine ri_nx rfl rfl ?_
  refine ri_nx rfl rfl ?_
  refine ri_nx rfl rfl ?_
  refine ri_nx rfl rfl ?_
  refine ri_nx rfl rfl ?_
  refine ri_scr rfl no_p1_M (by decide) rfl ?_
  refine ri_vc rfl rfl cl_p1_M_0 rfl (by decide) rfl (Nat.le_of_ble_eq_true rfl) h1 ?_
  refine ri_nx rfl rfl ?_
  refine ri_nx rfl rfl ?_
  refine ri_nx rfl rfl ?_
  refine ri_nx rfl rfl ?_
  refine ri_nx rfl rfl ?_
  refine ri_scr rfl hn1 (by decide) rfl ?_
  refine ri_vc rfl rfl h3 rfl (by decide) rfl (Nat.le_of_ble_eq_true rfl) h2 ?_
  refine ri_nx rfl (if_pos rfl) ?_
  exact p1_tail x0 x1 x2 x3 x4 x5 M2 _ _
set_option maxRecDepth 20000 in
theorem p1_case14 (x0 x1 x2 x3 x4 x5 : Int32) : ∃ (M' : ri_M) (k n : Nat), k ≤ 600000 ∧ n ≤ 7302250 ∧ ri_ev 10 (some [x0, x1, x2, x3, x4, x5]) (tbL, 4, 4) (711, [(3, .int 0), (2, .ref 571), (1, .ref 0), (0, .ref 2000000)], [], p1_M, 602, 21123) (some (.int 1), M', k, n) := by
  obtain ⟨v, M1, M2, fs, h1, h2, h3, hn1⟩ := ag14 x1 x2
  refine ⟨M2, 602 + 0 + 0, 21123 + 0 + 0, Nat.le_of_ble_eq_true rfl, Nat.le_of_ble_eq_true rfl, ?_⟩
  refine ri_nx rfl rfl ?_
  refine ri_nx rfl rfl ?_
  refine ri_nx rfl rfl ?_
  refine ri_nx rfl rfl ?_
  refine ri_nx rfl rfl ?_
  refine ri_scr rfl no_p1_M (by decide) rfl ?_
  refine ri_nx rfl rfl ?_
  refine ri_nx rfl rfl ?_
  refine ri_nx rfl rfl ?_
  refine ri_nx rfl rfl ?_
  refine ri_scr rfl no_p1_M (by decide) rfl ?_
  refine ri_vc rfl rfl cl_p1_M_0 rfl (by decide) rfl (Nat.le_of_ble_eq_true rfl) h1 ?_
  refine ri_nx rfl rfl ?_
  refine ri_nx rfl rfl ?_
  refine ri_nx rfl rfl ?_
  refine ri_nx rfl rfl ?_
  refine ri_nx rfl rfl ?_
  refine ri_scr rfl hn1 (by decide) rfl ?_
  refine ri_nx rfl rfl ?_
  refine ri_nx rfl rfl ?_
  refine ri_nx rfl rfl ?_
  refine ri_nx rfl rfl ?_
  refine ri_scr rfl hn1 (by decide) rfl ?_
  refine ri_vc rfl rfl h3 rfl (by decide) rfl (Nat.le_of_ble_eq_true rfl) h2 ?_
  refine ri_nx rfl (if_pos rfl) ?_
  exact p1_tail x0 x1 x2 x3 x4 x5 M2 _ _
set_option maxRecDepth 20000 in
theorem p1_case15 (x0 x1 x2 x3 x4 x5 : Int32) : ∃ (M' : ri_M) (k n : Nat), k ≤ 600000 ∧ n ≤ 7302250 ∧ ri_ev 10 (some [x0, x1, x2, x3, x4, x5]) (tbL, 4, 4) (744, [(3, .int 0), (2, .ref 571), (1, .ref 0), (0, .ref 2000000)], [], p1_M, 602, 21123) (some (.int 1), M', k, n) := by
  obtain ⟨v, M1, M2, fs, h1, h2, h3, hn1⟩ := ag15 x1
  refine ⟨M2, 602 + 0 + 0, 21123 + 0 + 0, Nat.le_of_ble_eq_true rfl, Nat.le_of_ble_eq_true rfl, ?_⟩
  refine ri_nx rfl rfl ?_
  refine ri_nx rfl rfl ?_
  refine ri_nx rfl rfl ?_
  refine ri_nx rfl rfl ?_
  refine ri_nx rfl rfl ?_
  refine ri_scr rfl no_p1_M (by decide) rfl ?_
  refine ri_vc rfl rfl cl_p1_M_0 rfl (by decide) rfl (Nat.le_of_ble_eq_true rfl) h1 ?_
  refine ri_nx rfl rfl ?_
  refine ri_nx rfl rfl ?_
  refine ri_nx rfl rfl ?_
  refine ri_nx rfl rfl ?_
  refine ri_nx rfl rfl ?_
  refine ri_scr rfl hn1 (by decide) rfl ?_
  refine ri_vc rfl rfl h3 rfl (by decide) rfl (Nat.le_of_ble_eq_true rfl) h2 ?_
  refine ri_nx rfl (if_pos rfl) ?_
  exact p1_tail x0 x1 x2 x3 x4 x5 M2 _ _
set_option maxRecDepth 20000 in
theorem p1_case16 (x0 x1 x2 x3 x4 x5 : Int32) : ∃ (M' : ri_M) (k n : Nat), k ≤ 600000 ∧ n ≤ 7302250 ∧ ri_ev 10 (some [x0, x1, x2, x3, x4, x5]) (tbL, 4, 4) (767, [(3, .int 0), (2, .ref 571), (1, .ref 0), (0, .ref 2000000)], [], p1_M, 602, 21123) (some (.int 1), M', k, n) := by
  obtain ⟨v, M1, M2, fs, h1, h2, h3, hn1⟩ := ag16 x1 x2
  refine ⟨M2, 602 + 0 + 0, 21123 + 0 + 0, Nat.le_of_ble_eq_true rfl, Nat.le_of_ble_eq_true rfl, ?_⟩
  refine ri_nx rfl rfl ?_
  refine ri_nx rfl rfl ?_
  refine ri_nx rfl rfl ?_
  refine ri_nx rfl rfl ?_
  refine ri_nx rfl rfl ?_
  refine ri_scr rfl no_p1_M (by decide) rfl ?_
  refine ri_nx rfl rfl ?_
  refine ri_nx rfl rfl ?_
  refine ri_nx rfl rfl ?_
  refine ri_nx rfl rfl ?_
  refine ri_scr rfl no_p1_M (by decide) rfl ?_
  refine ri_vc rfl rfl cl_p1_M_0 rfl (by decide) rfl (Nat.le_of_ble_eq_true rfl) h1 ?_
  refine ri_nx rfl rfl ?_
  refine ri_nx rfl rfl ?_
  refine ri_nx rfl rfl ?_
  refine ri_nx rfl rfl ?_
  refine ri_nx rfl rfl ?_
  refine ri_scr rfl hn1 (by decide) rfl ?_
  refine ri_nx rfl rfl ?_
  refine ri_nx rfl rfl ?_
  refine ri_nx rfl rfl ?_
  refine ri_nx rfl rfl ?_
  refine ri_scr rfl hn1 (by decide) rfl ?_
  refine ri_vc rfl rfl h3 rfl (by decide) rfl (Nat.le_of_ble_eq_true rfl) h2 ?_
  refine ri_nx rfl (if_pos rfl) ?_
  exact p1_tail x0 x1 x2 x3 x4 x5 M2 _ _
set_option maxRecDepth 20000 in
theorem p1_case17 (x0 x1 x2 x3 x4 x5 : Int32) : ∃ (M' : ri_M) (k n : Nat), k ≤ 600000 ∧ n ≤ 7302250 ∧ ri_ev 10 (some [x0, x1, x2, x3, x4, x5]) (tbL, 4, 4) (800, [(3, .int 0), (2, .ref 571), (1, .ref 0), (0, .ref 2000000)], [], p1_M, 602, 21123) (some (.int 1), M', k, n) := by
  obtain ⟨v, M1, M2, fs, h1, h2, h3, hn1⟩ := ag17 x1 x2
  refine ⟨M2, 602 + 0 + 0, 21123 + 0 + 0, Nat.le_of_ble_eq_true rfl, Nat.le_of_ble_eq_true rfl, ?_⟩
  refine ri_nx rfl rfl ?_
  refine ri_nx rfl rfl ?_
  refine ri_nx rfl rfl ?_
  refine ri_nx rfl rfl ?_
  refine ri_nx rfl rfl ?_
  refine ri_scr rfl no_p1_M (by decide) rfl ?_
  refine ri_nx rfl rfl ?_
  refine ri_nx rfl rfl ?_
  refine ri_nx rfl rfl ?_
  refine ri_nx rfl rfl ?_
  refine ri_scr rfl no_p1_M (by decide) rfl ?_
  refine ri_vc rfl rfl cl_p1_M_0 rfl (by decide) rfl (Nat.le_of_ble_eq_true rfl) h1 ?_
  refine ri_nx rfl rfl ?_
  refine ri_nx rfl rfl ?_
  refine ri_nx rfl rfl ?_
  refine ri_nx rfl rfl ?_
  refine ri_nx rfl rfl ?_
  refine ri_scr rfl hn1 (by decide) rfl ?_
  refine ri_nx rfl rfl ?_
  refine ri_nx rfl rfl ?_
  refine ri_nx rfl rfl ?_
  refine ri_nx rfl rfl ?_
  refine ri_scr rfl hn1 (by decide) rfl ?_
  refine ri_vc rfl rfl h3 rfl (by decide) rfl (Nat.le_of_ble_eq_true rfl) h2 ?_
  refine ri_nx rfl (if_pos rfl) ?_
  exact p1_tail x0 x1 x2 x3 x4 x5 M2 _ _
set_option maxRecDepth 20000 in
theorem p1_case18 (x0 x1 x2 x3 x4 x5 : Int32) : ∃ (M' : ri_M) (k n : Nat), k ≤ 600000 ∧ n ≤ 7302250 ∧ ri_ev 10 (some [x0, x1, x2, x3, x4, x5]) (tbL, 4, 4) (833, [(3, .int 0), (2, .ref 571), (1, .ref 0), (0, .ref 2000000)], [], p1_M, 602, 21123) (some (.int 1), M', k, n) := by
  obtain ⟨v, M1, M2, fs, h1, h2, h3, hn1⟩ := ag18 x1 x2 x3
  refine ⟨M2, 602 + 0 + 0, 21123 + 0 + 0, Nat.le_of_ble_eq_true rfl, Nat.le_of_ble_eq_true rfl, ?_⟩
  refine ri_nx rfl rfl ?_
  refine ri_nx rfl rfl ?_
  refine ri_nx rfl rfl ?_
  refine ri_nx rfl rfl ?_
  refine ri_nx rfl rfl ?_
  refine ri_scr rfl no_p1_M (by decide) rfl ?_
  refine ri_nx rfl rfl ?_
  refine ri_nx rfl rfl ?_
  refine ri_nx rfl rfl ?_
  refine ri_nx rfl rfl ?_
  refine ri_scr rfl no_p1_M (by decide) rfl ?_
  refine ri_nx rfl rfl ?_
  refine ri_nx rfl rfl ?_
  refine ri_nx rfl rfl ?_
  refine ri_nx rfl rfl ?_
  refine ri_scr rfl no_p1_M (by decide) rfl ?_
  refine ri_vc rfl rfl cl_p1_M_0 rfl (by decide) rfl (Nat.le_of_ble_eq_true rfl) h1 ?_
  refine ri_nx rfl rfl ?_
  refine ri_nx rfl rfl ?_
  refine ri_nx rfl rfl ?_
  refine ri_nx rfl rfl ?_
  refine ri_nx rfl rfl ?_
  refine ri_scr rfl hn1 (by decide) rfl ?_
  refine ri_nx rfl rfl ?_
  refine ri_nx rfl rfl ?_
  refine ri_nx rfl rfl ?_
  refine ri_nx rfl rfl ?_
  refine ri_scr rfl hn1 (by decide) rfl ?_
  refine ri_nx rfl rfl ?_
  refine ri_nx rfl rfl ?_
  refine ri_nx rfl rfl ?_
  refine ri_nx rfl rfl ?_
  refine ri_scr rfl hn1 (by decide) rfl ?_
  refine ri_vc rfl rfl h3 rfl (by decide) rfl (Nat.le_of_ble_eq_true rfl) h2 ?_
  refine ri_nx rfl (if_pos rfl) ?_
  exact p1_tail x0 x1 x2 x3 x4 x5 M2 _ _
set_option maxRecDepth 20000 in
theorem p1_case19 (x0 x1 x2 x3 x4 x5 : Int32) : ∃ (M' : ri_M) (k n : Nat), k ≤ 600000 ∧ n ≤ 7302250 ∧ ri_ev 10 (some [x0, x1, x2, x3, x4, x5]) (tbL, 4, 4) (876, [(3, .int 0), (2, .ref 571), (1, .ref 0), (0, .ref 2000000)], [], p1_M, 602, 21123) (some (.int 1), M', k, n) := by
  obtain ⟨v, M1, M2, fs, h1, h2, h3, hn1⟩ := ag19 x1 x2 x3
  refine ⟨M2, 602 + 0 + 0, 21123 + 0 + 0, Nat.le_of_ble_eq_true rfl, Nat.le_of_ble_eq_true rfl, ?_⟩
  refine ri_nx rfl rfl ?_
  refine ri_nx rfl rfl ?_
  refine ri_nx rfl rfl ?_
  refine ri_nx rfl rfl ?_
  refine ri_nx rfl rfl ?_
  refine ri_scr rfl no_p1_M (by decide) rfl ?_
  refine ri_nx rfl rfl ?_
  refine ri_nx rfl rfl ?_
  refine ri_nx rfl rfl ?_
  refine ri_nx rfl rfl ?_
  refine ri_scr rfl no_p1_M (by decide) rfl ?_
  refine ri_nx rfl rfl ?_
  refine ri_nx rfl rfl ?_
  refine ri_nx rfl rfl ?_
  refine ri_nx rfl rfl ?_
  refine ri_scr rfl no_p1_M (by decide) rfl ?_
  refine ri_vc rfl rfl cl_p1_M_0 rfl (by decide) rfl (Nat.le_of_ble_eq_true rfl) h1 ?_
  refine ri_nx rfl rfl ?_
  refine ri_nx rfl rfl ?_
  refine ri_nx rfl rfl ?_
  refine ri_nx rfl rfl ?_
  refine ri_nx rfl rfl ?_
  refine ri_scr rfl hn1 (by decide) rfl ?_
  refine ri_nx rfl rfl ?_
  refine ri_nx rfl rfl ?_
  refine ri_nx rfl rfl ?_
  refine ri_nx rfl rfl ?_
  refine ri_scr rfl hn1 (by decide) rfl ?_
  refine ri_nx rfl rfl ?_
  refine ri_nx rfl rfl ?_
  refine ri_nx rfl rfl ?_
  refine ri_nx rfl rfl ?_
  refine ri_scr rfl hn1 (by decide) rfl ?_
  refine ri_vc rfl rfl h3 rfl (by decide) rfl (Nat.le_of_ble_eq_true rfl) h2 ?_
  refine ri_nx rfl (if_pos rfl) ?_
  exact p1_tail x0 x1 x2 x3 x4 x5 M2 _ _
set_option maxRecDepth 20000 in
theorem p1_case20 (x0 x1 x2 x3 x4 x5 : Int32) : ∃ (M' : ri_M) (k n : Nat), k ≤ 600000 ∧ n ≤ 7302250 ∧ ri_ev 10 (some [x0, x1, x2, x3, x4, x5]) (tbL, 4, 4) (919, [(3, .int 0), (2, .ref 571), (1, .ref 0), (0, .ref 2000000)], [], p1_M, 602, 21123) (some (.int 1), M', k, n) := by
  obtain ⟨v, M1, M2, fs, h1, h2, h3, hn1⟩ := ag20 x1 x2
  refine ⟨M2, 602 + 0 + 0, 21123 + 0 + 0, Nat.le_of_ble_eq_true rfl, Nat.le_of_ble_eq_true rfl, ?_⟩
  refine ri_nx rfl rfl ?_
  refine ri_nx rfl rfl ?_
  refine ri_nx rfl rfl ?_
  refine ri_nx rfl rfl ?_
  refine ri_nx rfl rfl ?_
  refine ri_scr rfl no_p1_M (by decide) rfl ?_
  refine ri_nx rfl rfl ?_
  refine ri_nx rfl rfl ?_
  refine ri_nx rfl rfl ?_
  refine ri_nx rfl rfl ?_
  refine ri_scr rfl no_p1_M (by decide) rfl ?_
  refine ri_vc rfl rfl cl_p1_M_0 rfl (by decide) rfl (Nat.le_of_ble_eq_true rfl) h1 ?_
  refine ri_nx rfl rfl ?_
  refine ri_nx rfl rfl ?_
  refine ri_nx rfl rfl ?_
  refine ri_nx rfl rfl ?_
  refine ri_nx rfl rfl ?_
  refine ri_scr rfl hn1 (by decide) rfl ?_
  refine ri_nx rfl rfl ?_
  refine ri_nx rfl rfl ?_
  refine ri_nx rfl rfl ?_
  refine ri_nx rfl rfl ?_
  refine ri_scr rfl hn1 (by decide) rfl ?_
  refine ri_vc rfl rfl h3 rfl (by decide) rfl (Nat.le_of_ble_eq_true rfl) h2 ?_
  refine ri_nx rfl (if_pos rfl) ?_
  exact p1_tail x0 x1 x2 x3 x4 x5 M2 _ _
set_option maxRecDepth 20000 in
theorem p1_case21 (x0 x1 x2 x3 x4 x5 : Int32) : ∃ (M' : ri_M) (k n : Nat), k ≤ 600000 ∧ n ≤ 7302250 ∧ ri_ev 10 (some [x0, x1, x2, x3, x4, x5]) (tbL, 4, 4) (952, [(3, .int 0), (2, .ref 571), (1, .ref 0), (0, .ref 2000000)], [], p1_M, 602, 21123) (some (.int 1), M', k, n) := by
  obtain ⟨v, M1, M2, fs, h1, h2, h3, hn1⟩ := ag21 x1
  refine ⟨M2, 602 + 0 + 0, 21123 + 0 + 0, Nat.le_of_ble_eq_true rfl, Nat.le_of_ble_eq_true rfl, ?_⟩
  refine ri_nx rfl rfl ?_
  refine ri_nx rfl rfl ?_
  refine ri_nx rfl rfl ?_
  refine ri_nx rfl rfl ?_
  refine ri_nx rfl rfl ?_
  refine ri_scr rfl no_p1_M (by decide) rfl ?_
  refine ri_vc rfl rfl cl_p1_M_0 rfl (by decide) rfl (Nat.le_of_ble_eq_true rfl) h1 ?_
  refine ri_nx rfl rfl ?_
  refine ri_nx rfl rfl ?_
  refine ri_nx rfl rfl ?_
  refine ri_nx rfl rfl ?_
  refine ri_nx rfl rfl ?_
  refine ri_scr rfl hn1 (by decide) rfl ?_
  refine ri_vc rfl rfl h3 rfl (by decide) rfl (Nat.le_of_ble_eq_true rfl) h2 ?_
  refine ri_nx rfl rfl ?_
  refine ri_nx rfl (if_pos ((lg_cmp_eq v v).mpr rfl)) ?_
  exact p1_tail x0 x1 x2 x3 x4 x5 M2 _ _
set_option maxRecDepth 20000 in
theorem p1_case22 (x0 x1 x2 x3 x4 x5 : Int32) : ∃ (M' : ri_M) (k n : Nat), k ≤ 600000 ∧ n ≤ 7302250 ∧ ri_ev 10 (some [x0, x1, x2, x3, x4, x5]) (tbL, 4, 4) (976, [(3, .int 0), (2, .ref 571), (1, .ref 0), (0, .ref 2000000)], [], p1_M, 602, 21123) (some (.int 1), M', k, n) := by
  obtain ⟨v, M1, M2, fs, h1, h2, h3, hn1⟩ := ag22 
  refine ⟨M2, 602 + 0 + 0, 21123 + 0 + 0, Nat.le_of_ble_eq_true rfl, Nat.le_of_ble_eq_true rfl, ?_⟩
  refine ri_nx rfl rfl ?_
  refine ri_vc rfl rfl cl_p1_M_0 rfl (by decide) rfl (Nat.le_of_ble_eq_true rfl) h1 ?_
  refine ri_nx rfl rfl ?_
  refine ri_vc rfl rfl h3 rfl (by decide) rfl (Nat.le_of_ble_eq_true rfl) h2 ?_
  refine ri_nx rfl rfl ?_
  refine ri_nx rfl (if_pos ((lg_cmp_eq v v).mpr rfl)) ?_
  exact p1_tail x0 x1 x2 x3 x4 x5 M2 _ _
set_option maxRecDepth 20000 in
theorem p1_case23 (x0 x1 x2 x3 x4 x5 : Int32) : ∃ (M' : ri_M) (k n : Nat), k ≤ 600000 ∧ n ≤ 7302250 ∧ ri_ev 10 (some [x0, x1, x2, x3, x4, x5]) (tbL, 4, 4) (990, [(3, .int 0), (2, .ref 571), (1, .ref 0), (0, .ref 2000000)], [], p1_M, 602, 21123) (some (.int 1), M', k, n) := by
  obtain ⟨v, M1, M2, fs, h1, h2, h3, hn1⟩ := ag23 x1
  refine ⟨M2, 602 + 0 + 0, 21123 + 0 + 0, Nat.le_of_ble_eq_true rfl, Nat.le_of_ble_eq_true rfl, ?_⟩
  refine ri_nx rfl rfl ?_
  refine ri_nx rfl rfl ?_
  refine ri_nx rfl rfl ?_
  refine ri_nx rfl rfl ?_
  refine ri_nx rfl rfl ?_
  refine ri_scr rfl no_p1_M (by decide) rfl ?_
  refine ri_vc rfl rfl cl_p1_M_0 rfl (by decide) rfl (Nat.le_of_ble_eq_true rfl) h1 ?_
  refine ri_nx rfl rfl ?_
  refine ri_nx rfl rfl ?_
  refine ri_nx rfl rfl ?_
  refine ri_nx rfl rfl ?_
  refine ri_nx rfl rfl ?_
  refine ri_scr rfl hn1 (by decide) rfl ?_
  refine ri_vc rfl rfl h3 rfl (by decide) rfl (Nat.le_of_ble_eq_true rfl) h2 ?_
  refine ri_nx rfl (if_pos rfl) ?_
  exact p1_tail x0 x1 x2 x3 x4 x5 M2 _ _
set_option maxRecDepth 20000 in
theorem p1_case24 (x0 x1 x2 x3 x4 x5 : Int32) : ∃ (M' : ri_M) (k n : Nat), k ≤ 600000 ∧ n ≤ 7302250 ∧ ri_ev 10 (some [x0, x1, x2, x3, x4, x5]) (tbL, 4, 4) (1013, [(3, .int 0), (2, .ref 571), (1, .ref 0), (0, .ref 2000000)], [], p1_M, 602, 21123) (some (.int 1), M', k, n) := by
  obtain ⟨v, M1, M2, fs, h1, h2, h3, hn1⟩ := ag24 x1 x2 x3 x4
  refine ⟨M2, 602 + 0 + 0, 21123 + 0 + 0, Nat.le_of_ble_eq_true rfl, Nat.le_of_ble_eq_true rfl, ?_⟩
  refine ri_nx rfl rfl ?_
  refine ri_nx rfl rfl ?_
  refine ri_nx rfl rfl ?_
  refine ri_nx rfl rfl ?_
  refine ri_nx rfl rfl ?_
  refine ri_scr rfl no_p1_M (by decide) rfl ?_
  refine ri_nx rfl rfl ?_
  refine ri_nx rfl rfl ?_
  refine ri_nx rfl rfl ?_
  refine ri_nx rfl rfl ?_
  refine ri_scr rfl no_p1_M (by decide) rfl ?_
  refine ri_nx rfl rfl ?_
  refine ri_nx rfl rfl ?_
  refine ri_nx rfl rfl ?_
  refine ri_nx rfl rfl ?_
  refine ri_scr rfl no_p1_M (by decide) rfl ?_
  refine ri_nx rfl rfl ?_
  refine ri_nx rfl rfl ?_
  refine ri_nx rfl rfl ?_
  refine ri_nx rfl rfl ?_
  refine ri_scr rfl no_p1_M (by decide) rfl ?_
  refine ri_vc rfl rfl cl_p1_M_0 rfl (by decide) rfl (Nat.le_of_ble_eq_true rfl) h1 ?_
  refine ri_nx rfl rfl ?_
  refine ri_nx rfl rfl ?_
  refine ri_nx rfl rfl ?_
  refine ri_nx rfl rfl ?_
  refine ri_nx rfl rfl ?_
  refine ri_scr rfl hn1 (by decide) rfl ?_
  refine ri_nx rfl rfl ?_
  refine ri_nx rfl rfl ?_
  refine ri_nx rfl rfl ?_
  refine ri_nx rfl rfl ?_
  refine ri_scr rfl hn1 (by decide) rfl ?_
  refine ri_nx rfl rfl ?_
  refine ri_nx rfl rfl ?_
  refine ri_nx rfl rfl ?_
  refine ri_nx rfl rfl ?_
  refine ri_scr rfl hn1 (by decide) rfl ?_
  refine ri_nx rfl rfl ?_
  refine ri_nx rfl rfl ?_
  refine ri_nx rfl rfl ?_
  refine ri_nx rfl rfl ?_
  refine ri_scr rfl hn1 (by decide) rfl ?_
  refine ri_vc rfl rfl h3 rfl (by decide) rfl (Nat.le_of_ble_eq_true rfl) h2 ?_
  refine ri_nx rfl (if_pos rfl) ?_
  exact p1_tail x0 x1 x2 x3 x4 x5 M2 _ _
set_option maxRecDepth 20000 in
theorem p1_case25 (x0 x1 x2 x3 x4 x5 : Int32) : ∃ (M' : ri_M) (k n : Nat), k ≤ 600000 ∧ n ≤ 7302250 ∧ ri_ev 10 (some [x0, x1, x2, x3, x4, x5]) (tbL, 4, 4) (1066, [(3, .int 0), (2, .ref 571), (1, .ref 0), (0, .ref 2000000)], [], p1_M, 602, 21123) (some (.int 1), M', k, n) := by
  obtain ⟨v, M1, M2, fs, h1, h2, h3, hn1⟩ := ag25 x1
  refine ⟨M2, 602 + 0 + 0, 21123 + 0 + 0, Nat.le_of_ble_eq_true rfl, Nat.le_of_ble_eq_true rfl, ?_⟩
  refine ri_nx rfl rfl ?_
  refine ri_nx rfl rfl ?_
  refine ri_nx rfl rfl ?_
  refine ri_nx rfl rfl ?_
  refine ri_nx rfl rfl ?_
  refine ri_scr rfl no_p1_M (by decide) rfl ?_
  refine ri_vc rfl rfl cl_p1_M_0 rfl (by decide) rfl (Nat.le_of_ble_eq_true rfl) h1 ?_
  refine ri_nx rfl rfl ?_
  refine ri_nx rfl rfl ?_
  refine ri_nx rfl rfl ?_
  refine ri_nx rfl rfl ?_
  refine ri_nx rfl rfl ?_
  refine ri_scr rfl hn1 (by decide) rfl ?_
  refine ri_vc rfl rfl h3 rfl (by decide) rfl (Nat.le_of_ble_eq_true rfl) h2 ?_
  refine ri_nx rfl (if_pos rfl) ?_
  exact p1_tail x0 x1 x2 x3 x4 x5 M2 _ _
set_option maxRecDepth 20000 in
theorem p1_case26 (x0 x1 x2 x3 x4 x5 : Int32) : ∃ (M' : ri_M) (k n : Nat), k ≤ 600000 ∧ n ≤ 7302250 ∧ ri_ev 10 (some [x0, x1, x2, x3, x4, x5]) (tbL, 4, 4) (1089, [(3, .int 0), (2, .ref 571), (1, .ref 0), (0, .ref 2000000)], [], p1_M, 602, 21123) (some (.int 1), M', k, n) := by
  obtain ⟨v, M1, M2, fs, h1, h2, h3, hn1⟩ := ag26 
  refine ⟨M2, 602 + 0 + 0, 21123 + 0 + 0, Nat.le_of_ble_eq_true rfl, Nat.le_of_ble_eq_true rfl, ?_⟩
  refine ri_nx rfl rfl ?_
  refine ri_vc rfl rfl cl_p1_M_0 rfl (by decide) rfl (Nat.le_of_ble_eq_true rfl) h1 ?_
  refine ri_nx rfl rfl ?_
  refine ri_vc rfl rfl h3 rfl (by decide) rfl (Nat.le_of_ble_eq_true rfl) h2 ?_
  refine ri_nx rfl (if_pos rfl) ?_
  exact p1_tail x0 x1 x2 x3 x4 x5 M2 _ _
set_option maxRecDepth 20000 in
theorem p1_case27 (x0 x1 x2 x3 x4 x5 : Int32) : ∃ (M' : ri_M) (k n : Nat), k ≤ 600000 ∧ n ≤ 7302250 ∧ ri_ev 10 (some [x0, x1, x2, x3, x4, x5]) (tbL, 4, 4) (1102, [(3, .int 0), (2, .ref 571), (1, .ref 0), (0, .ref 2000000)], [], p1_M, 602, 21123) (some (.int 1), M', k, n) := by
  obtain ⟨v, M1, M2, fs, h1, h2, h3, hn1⟩ := ag27 x1
  refine ⟨M2, 602 + 0 + 0, 21123 + 0 + 0, Nat.le_of_ble_eq_true rfl, Nat.le_of_ble_eq_true rfl, ?_⟩
  refine ri_nx rfl rfl ?_
  refine ri_nx rfl rfl ?_
  refine ri_nx rfl rfl ?_
  refine ri_nx rfl rfl ?_
  refine ri_nx rfl rfl ?_
  refine ri_scr rfl no_p1_M (by decide) rfl ?_
  refine ri_vc rfl rfl cl_p1_M_0 rfl (by decide) rfl (Nat.le_of_ble_eq_true rfl) h1 ?_
  refine ri_nx rfl rfl ?_
  refine ri_nx rfl rfl ?_
  refine ri_nx rfl rfl ?_
  refine ri_nx rfl rfl ?_
  refine ri_nx rfl rfl ?_
  refine ri_scr rfl hn1 (by decide) rfl ?_
  refine ri_vc rfl rfl h3 rfl (by decide) rfl (Nat.le_of_ble_eq_true rfl) h2 ?_
  refine ri_nx rfl (if_pos rfl) ?_
  exact p1_tail x0 x1 x2 x3 x4 x5 M2 _ _
set_option maxRecDepth 20000 in
theorem p1_case28 (x0 x1 x2 x3 x4 x5 : Int32) : ∃ (M' : ri_M) (k n : Nat), k ≤ 600000 ∧ n ≤ 7302250 ∧ ri_ev 10 (some [x0, x1, x2, x3, x4, x5]) (tbL, 4, 4) (1125, [(3, .int 0), (2, .ref 571), (1, .ref 0), (0, .ref 2000000)], [], p1_M, 602, 21123) (some (.int 1), M', k, n) := by
  obtain ⟨v, M1, M2, fs, h1, h2, h3, hn1⟩ := ag28 x1 x2 x3
  refine ⟨M2, 602 + 0 + 0, 21123 + 0 + 0, Nat.le_of_ble_eq_true rfl, Nat.le_of_ble_eq_true rfl, ?_⟩
  refine ri_nx rfl rfl ?_
  refine ri_nx rfl rfl ?_
  refine ri_nx rfl rfl ?_
  refine ri_nx rfl rfl ?_
  refine ri_nx rfl rfl ?_
  refine ri_scr rfl no_p1_M (by decide) rfl ?_
  refine ri_nx rfl rfl ?_
  refine ri_nx rfl rfl ?_
  refine ri_nx rfl rfl ?_
  refine ri_nx rfl rfl ?_
  refine ri_scr rfl no_p1_M (by decide) rfl ?_
  refine ri_nx rfl rfl ?_
  refine ri_nx rfl rfl ?_
  refine ri_nx rfl rfl ?_
  refine ri_nx rfl rfl ?_
  refine ri_scr rfl no_p1_M (by decide) rfl ?_
  refine ri_vc rfl rfl cl_p1_M_0 rfl (by decide) rfl (Nat.le_of_ble_eq_true rfl) h1 ?_
  refine ri_nx rfl rfl ?_
  refine ri_nx rfl rfl ?_
  refine ri_nx rfl rfl ?_
  refine ri_nx rfl rfl ?_
  refine ri_nx rfl rfl ?_
  refine ri_scr rfl hn1 (by decide) rfl ?_
  refine ri_nx rfl rfl ?_
  refine ri_nx rfl rfl ?_
  refine ri_nx rfl rfl ?_
  refine ri_nx rfl rfl ?_
  refine ri_scr rfl hn1 (by decide) rfl ?_
  refine ri_nx rfl rfl ?_
  refine ri_nx rfl rfl ?_
  refine ri_nx rfl rfl ?_
  refine ri_nx rfl rfl ?_
  refine ri_scr rfl hn1 (by decide) rfl ?_
  refine ri_vc rfl rfl h3 rfl (by decide) rfl (Nat.le_of_ble_eq_true rfl) h2 ?_
  refine ri_nx rfl (if_pos rfl) ?_
  exact p1_tail x0 x1 x2 x3 x4 x5 M2 _ _
set_option maxRecDepth 20000 in
theorem p1_case29 (x0 x1 x2 x3 x4 x5 : Int32) : ∃ (M' : ri_M) (k n : Nat), k ≤ 600000 ∧ n ≤ 7302250 ∧ ri_ev 10 (some [x0, x1, x2, x3, x4, x5]) (tbL, 4, 4) (1168, [(3, .int 0), (2, .ref 571), (1, .ref 0), (0, .ref 2000000)], [], p1_M, 602, 21123) (some (.int 1), M', k, n) := by
  obtain ⟨v, M1, M2, fs, h1, h2, h3, hn1⟩ := ag29 ((x1.toInt64 <<< ((Int8.ofInt 32).toInt32.toInt64 &&& 63)) ||| (x2.toInt64 &&& Int64.ofNat 4294967295)) x3
  refine ⟨M2, 602 + 0 + 0, 21123 + 0 + 0, Nat.le_of_ble_eq_true rfl, Nat.le_of_ble_eq_true rfl, ?_⟩
  refine ri_nx rfl rfl ?_
  refine ri_nx rfl rfl ?_
  refine ri_nx rfl rfl ?_
  refine ri_nx rfl rfl ?_
  refine ri_nx rfl rfl ?_
  refine ri_scr rfl no_p1_M (by decide) rfl ?_
  refine ri_nx rfl rfl ?_
  refine ri_nx rfl rfl ?_
  refine ri_nx rfl rfl ?_
  refine ri_nx rfl rfl ?_
  refine ri_nx rfl rfl ?_
  refine ri_nx rfl rfl ?_
  refine ri_nx rfl rfl ?_
  refine ri_scr rfl no_p1_M (by decide) rfl ?_
  refine ri_nx rfl rfl ?_
  refine ri_nx rfl rfl ?_
  refine ri_nx rfl rfl ?_
  refine ri_nx rfl rfl ?_
  refine ri_nx rfl rfl ?_
  refine ri_nx rfl rfl ?_
  refine ri_nx rfl rfl ?_
  refine ri_nx rfl rfl ?_
  refine ri_scr rfl no_p1_M (by decide) rfl ?_
  refine ri_vc rfl rfl cl_p1_M_0 rfl (by decide) rfl (Nat.le_of_ble_eq_true rfl) h1 ?_
  refine ri_nx rfl rfl ?_
  refine ri_nx rfl rfl ?_
  refine ri_nx rfl rfl ?_
  refine ri_nx rfl rfl ?_
  refine ri_nx rfl rfl ?_
  refine ri_scr rfl hn1 (by decide) rfl ?_
  refine ri_nx rfl rfl ?_
  refine ri_nx rfl rfl ?_
  refine ri_nx rfl rfl ?_
  refine ri_nx rfl rfl ?_
  refine ri_nx rfl rfl ?_
  refine ri_nx rfl rfl ?_
  refine ri_nx rfl rfl ?_
  refine ri_scr rfl hn1 (by decide) rfl ?_
  refine ri_nx rfl rfl ?_
  refine ri_nx rfl rfl ?_
  refine ri_nx rfl rfl ?_
  refine ri_nx rfl rfl ?_
  refine ri_nx rfl rfl ?_
  refine ri_nx rfl rfl ?_
  refine ri_nx rfl rfl ?_
  refine ri_nx rfl rfl ?_
  refine ri_scr rfl hn1 (by decide) rfl ?_
  refine ri_vc rfl rfl h3 rfl (by decide) rfl (Nat.le_of_ble_eq_true rfl) h2 ?_
  refine ri_nx rfl (if_pos rfl) ?_
  exact p1_tail x0 x1 x2 x3 x4 x5 M2 _ _
set_option maxRecDepth 20000 in
theorem p1_case30 (x0 x1 x2 x3 x4 x5 : Int32) : ∃ (M' : ri_M) (k n : Nat), k ≤ 600000 ∧ n ≤ 7302250 ∧ ri_ev 10 (some [x0, x1, x2, x3, x4, x5]) (tbL, 4, 4) (1231, [(3, .int 0), (2, .ref 571), (1, .ref 0), (0, .ref 2000000)], [], p1_M, 602, 21123) (some (.int 1), M', k, n) := by
  obtain ⟨v, M1, M2, fs, h1, h2, h3, hn1⟩ := ag30 x1
  refine ⟨M2, 602 + 0 + 0, 21123 + 0 + 0, Nat.le_of_ble_eq_true rfl, Nat.le_of_ble_eq_true rfl, ?_⟩
  refine ri_nx rfl rfl ?_
  refine ri_nx rfl rfl ?_
  refine ri_nx rfl rfl ?_
  refine ri_nx rfl rfl ?_
  refine ri_nx rfl rfl ?_
  refine ri_scr rfl no_p1_M (by decide) rfl ?_
  refine ri_vc rfl rfl cl_p1_M_0 rfl (by decide) rfl (Nat.le_of_ble_eq_true rfl) h1 ?_
  refine ri_nx rfl rfl ?_
  refine ri_nx rfl rfl ?_
  refine ri_nx rfl rfl ?_
  refine ri_nx rfl rfl ?_
  refine ri_nx rfl rfl ?_
  refine ri_scr rfl hn1 (by decide) rfl ?_
  refine ri_vc rfl rfl h3 rfl (by decide) rfl (Nat.le_of_ble_eq_true rfl) h2 ?_
  refine ri_nx rfl rfl ?_
  refine ri_nx rfl (if_pos ((lg_cmp_eq v v).mpr rfl)) ?_
  exact p1_tail x0 x1 x2 x3 x4 x5 M2 _ _
set_option maxRecDepth 20000 in
theorem p1_case31 (x0 x1 x2 x3 x4 x5 : Int32) : ∃ (M' : ri_M) (k n : Nat), k ≤ 600000 ∧ n ≤ 7302250 ∧ ri_ev 10 (some [x0, x1, x2, x3, x4, x5]) (tbL, 4, 4) (1255, [(3, .int 0), (2, .ref 571), (1, .ref 0), (0, .ref 2000000)], [], p1_M, 602, 21123) (some (.int 1), M', k, n) := by
  obtain ⟨v, M1, M2, fs, h1, h2, h3, hn1⟩ := ag31 
  refine ⟨M2, 602 + 0 + 0, 21123 + 0 + 0, Nat.le_of_ble_eq_true rfl, Nat.le_of_ble_eq_true rfl, ?_⟩
  refine ri_nx rfl rfl ?_
  refine ri_vc rfl rfl cl_p1_M_0 rfl (by decide) rfl (Nat.le_of_ble_eq_true rfl) h1 ?_
  refine ri_nx rfl rfl ?_
  refine ri_vc rfl rfl h3 rfl (by decide) rfl (Nat.le_of_ble_eq_true rfl) h2 ?_
  refine ri_nx rfl (if_pos rfl) ?_
  exact p1_tail x0 x1 x2 x3 x4 x5 M2 _ _
set_option maxRecDepth 20000 in
theorem p1_case32 (x0 x1 x2 x3 x4 x5 : Int32) : ∃ (M' : ri_M) (k n : Nat), k ≤ 600000 ∧ n ≤ 7302250 ∧ ri_ev 10 (some [x0, x1, x2, x3, x4, x5]) (tbL, 4, 4) (1268, [(3, .int 0), (2, .ref 571), (1, .ref 0), (0, .ref 2000000)], [], p1_M, 602, 21123) (some (.int 1), M', k, n) := by
  obtain ⟨v, M1, M2, fs, h1, h2, h3, hn1⟩ := ag32 x1 x2
  refine ⟨M2, 602 + 0 + 0, 21123 + 0 + 0, Nat.le_of_ble_eq_true rfl, Nat.le_of_ble_eq_true rfl, ?_⟩
  refine ri_nx rfl rfl ?_
  refine ri_nx rfl rfl ?_
  refine ri_nx rfl rfl ?_
  refine ri_nx rfl rfl ?_
  refine ri_nx rfl rfl ?_
  refine ri_scr rfl no_p1_M (by decide) rfl ?_
  refine ri_nx rfl rfl ?_
  refine ri_nx rfl rfl ?_
  refine ri_nx rfl rfl ?_
  refine ri_nx rfl rfl ?_
  refine ri_scr rfl no_p1_M (by decide) rfl ?_
  refine ri_vc rfl rfl cl_p1_M_0 rfl (by decide) rfl (Nat.le_of_ble_eq_true rfl) h1 ?_
  refine ri_nx rfl rfl ?_
  refine ri_nx rfl rfl ?_
  refine ri_nx rfl rfl ?_
  refine ri_nx rfl rfl ?_
  refine ri_nx rfl rfl ?_
  refine ri_scr rfl hn1 (by decide) rfl ?_
  refine ri_nx rfl rfl ?_
  refine ri_nx rfl rfl ?_
  refine ri_nx rfl rfl ?_
  refine ri_nx rfl rfl ?_
  refine ri_scr rfl hn1 (by decide) rfl ?_
  refine ri_vc rfl rfl h3 rfl (by decide) rfl (Nat.le_of_ble_eq_true rfl) h2 ?_
  refine ri_nx rfl (if_pos rfl) ?_
  exact p1_tail x0 x1 x2 x3 x4 x5 M2 _ _
set_option maxRecDepth 20000 in
theorem p1_case33 (x0 x1 x2 x3 x4 x5 : Int32) : ∃ (M' : ri_M) (k n : Nat), k ≤ 600000 ∧ n ≤ 7302250 ∧ ri_ev 10 (some [x0, x1, x2, x3, x4, x5]) (tbL, 4, 4) (1301, [(3, .int 0), (2, .ref 571), (1, .ref 0), (0, .ref 2000000)], [], p1_M, 602, 21123) (some (.int 1), M', k, n) := by
  obtain ⟨v, M1, M2, fs, h1, h2, h3, hn1⟩ := ag33 x1
  refine ⟨M2, 602 + 0 + 0, 21123 + 0 + 0, Nat.le_of_ble_eq_true rfl, Nat.le_of_ble_eq_true rfl, ?_⟩
  refine ri_nx rfl rfl ?_
  refine ri_nx rfl rfl ?_
  refine ri_nx rfl rfl ?_
  refine ri_nx rfl rfl ?_
  refine ri_nx rfl rfl ?_
  refine ri_scr rfl no_p1_M (by decide) rfl ?_
  refine ri_vc rfl rfl cl_p1_M_0 rfl (by decide) rfl (Nat.le_of_ble_eq_true rfl) h1 ?_
  refine ri_nx rfl rfl ?_
  refine ri_nx rfl rfl ?_
  refine ri_nx rfl rfl ?_
  refine ri_nx rfl rfl ?_
  refine ri_nx rfl rfl ?_
  refine ri_scr rfl hn1 (by decide) rfl ?_
  refine ri_vc rfl rfl h3 rfl (by decide) rfl (Nat.le_of_ble_eq_true rfl) h2 ?_
  refine ri_nx rfl (if_pos rfl) ?_
  exact p1_tail x0 x1 x2 x3 x4 x5 M2 _ _
set_option maxRecDepth 20000 in
theorem p1_case34 (x0 x1 x2 x3 x4 x5 : Int32) : ∃ (M' : ri_M) (k n : Nat), k ≤ 600000 ∧ n ≤ 7302250 ∧ ri_ev 10 (some [x0, x1, x2, x3, x4, x5]) (tbL, 4, 4) (1324, [(3, .int 0), (2, .ref 571), (1, .ref 0), (0, .ref 2000000)], [], p1_M, 602, 21123) (some (.int 1), M', k, n) := by
  obtain ⟨v, M1, M2, fs, h1, h2, h3, hn1⟩ := ag34 
  refine ⟨M2, 602 + 0 + 0, 21123 + 0 + 0, Nat.le_of_ble_eq_true rfl, Nat.le_of_ble_eq_true rfl, ?_⟩
  refine ri_nx rfl rfl ?_
  refine ri_vc rfl rfl cl_p1_M_0 rfl (by decide) rfl (Nat.le_of_ble_eq_true rfl) h1 ?_
  refine ri_nx rfl rfl ?_
  refine ri_vc rfl rfl h3 rfl (by decide) rfl (Nat.le_of_ble_eq_true rfl) h2 ?_
  refine ri_nx rfl (if_pos rfl) ?_
  exact p1_tail x0 x1 x2 x3 x4 x5 M2 _ _
set_option maxRecDepth 20000 in
theorem p1_case35 (x0 x1 x2 x3 x4 x5 : Int32) : ∃ (M' : ri_M) (k n : Nat), k ≤ 600000 ∧ n ≤ 7302250 ∧ ri_ev 10 (some [x0, x1, x2, x3, x4, x5]) (tbL, 4, 4) (1337, [(3, .int 0), (2, .ref 571), (1, .ref 0), (0, .ref 2000000)], [], p1_M, 602, 21123) (some (.int 1), M', k, n) := by
  obtain ⟨v, M1, M2, fs, h1, h2, h3, hn1⟩ := ag35 x1
  refine ⟨M2, 602 + 0 + 0, 21123 + 0 + 0, Nat.le_of_ble_eq_true rfl, Nat.le_of_ble_eq_true rfl, ?_⟩
  refine ri_nx rfl rfl ?_
  refine ri_nx rfl rfl ?_
  refine ri_nx rfl rfl ?_
  refine ri_nx rfl rfl ?_
  refine ri_nx rfl rfl ?_
  refine ri_scr rfl no_p1_M (by decide) rfl ?_
  refine ri_vc rfl rfl cl_p1_M_0 rfl (by decide) rfl (Nat.le_of_ble_eq_true rfl) h1 ?_
  refine ri_nx rfl rfl ?_
  refine ri_nx rfl rfl ?_
  refine ri_nx rfl rfl ?_
  refine ri_nx rfl rfl ?_
  refine ri_nx rfl rfl ?_
  refine ri_scr rfl hn1 (by decide) rfl ?_
  refine ri_vc rfl rfl h3 rfl (by decide) rfl (Nat.le_of_ble_eq_true rfl) h2 ?_
  refine ri_nx rfl (if_pos rfl) ?_
  exact p1_tail x0 x1 x2 x3 x4 x5 M2 _ _
set_option maxRecDepth 20000 in
theorem p1_case36 (x0 x1 x2 x3 x4 x5 : Int32) : ∃ (M' : ri_M) (k n : Nat), k ≤ 600000 ∧ n ≤ 7302250 ∧ ri_ev 10 (some [x0, x1, x2, x3, x4, x5]) (tbL, 4, 4) (1360, [(3, .int 0), (2, .ref 571), (1, .ref 0), (0, .ref 2000000)], [], p1_M, 602, 21123) (some (.int 1), M', k, n) := by
  obtain ⟨v, M1, M2, fs, h1, h2, h3, hn1⟩ := ag36 
  refine ⟨M2, 602 + 0 + 0, 21123 + 0 + 0, Nat.le_of_ble_eq_true rfl, Nat.le_of_ble_eq_true rfl, ?_⟩
  refine ri_nx rfl rfl ?_
  refine ri_vc rfl rfl cl_p1_M_0 rfl (by decide) rfl (Nat.le_of_ble_eq_true rfl) h1 ?_
  refine ri_nx rfl rfl ?_
  refine ri_vc rfl rfl h3 rfl (by decide) rfl (Nat.le_of_ble_eq_true rfl) h2 ?_
  refine ri_nx rfl (if_pos rfl) ?_
  exact p1_tail x0 x1 x2 x3 x4 x5 M2 _ _
set_option maxRecDepth 20000 in
theorem p1_case37 (x0 x1 x2 x3 x4 x5 : Int32) : ∃ (M' : ri_M) (k n : Nat), k ≤ 600000 ∧ n ≤ 7302250 ∧ ri_ev 10 (some [x0, x1, x2, x3, x4, x5]) (tbL, 4, 4) (1373, [(3, .int 0), (2, .ref 571), (1, .ref 0), (0, .ref 2000000)], [], p1_M, 602, 21123) (some (.int 1), M', k, n) := by
  obtain ⟨v, M1, M2, fs, h1, h2, h3, hn1⟩ := ag37 
  refine ⟨M2, 602 + 0 + 0, 21123 + 0 + 0, Nat.le_of_ble_eq_true rfl, Nat.le_of_ble_eq_true rfl, ?_⟩
  refine ri_nx rfl rfl ?_
  refine ri_vc rfl rfl cl_p1_M_0 rfl (by decide) rfl (Nat.le_of_ble_eq_true rfl) h1 ?_
  refine ri_nx rfl rfl ?_
  refine ri_vc rfl rfl h3 rfl (by decide) rfl (Nat.le_of_ble_eq_true rfl) h2 ?_
  refine ri_nx rfl (if_pos rfl) ?_
  exact p1_tail x0 x1 x2 x3 x4 x5 M2 _ _
set_option maxRecDepth 20000 in
theorem p1_case38 (x0 x1 x2 x3 x4 x5 : Int32) : ∃ (M' : ri_M) (k n : Nat), k ≤ 600000 ∧ n ≤ 7302250 ∧ ri_ev 10 (some [x0, x1, x2, x3, x4, x5]) (tbL, 4, 4) (1386, [(3, .int 0), (2, .ref 571), (1, .ref 0), (0, .ref 2000000)], [], p1_M, 602, 21123) (some (.int 1), M', k, n) := by
  obtain ⟨v, M1, M2, fs, h1, h2, h3, hn1⟩ := ag38 
  refine ⟨M2, 602 + 0 + 0, 21123 + 0 + 0, Nat.le_of_ble_eq_true rfl, Nat.le_of_ble_eq_true rfl, ?_⟩
  refine ri_nx rfl rfl ?_
  refine ri_vc rfl rfl cl_p1_M_0 rfl (by decide) rfl (Nat.le_of_ble_eq_true rfl) h1 ?_
  refine ri_nx rfl rfl ?_
  refine ri_vc rfl rfl h3 rfl (by decide) rfl (Nat.le_of_ble_eq_true rfl) h2 ?_
  refine ri_nx rfl (if_pos rfl) ?_
  exact p1_tail x0 x1 x2 x3 x4 x5 M2 _ _
set_option maxRecDepth 20000 in
theorem p1_case39 (x0 x1 x2 x3 x4 x5 : Int32) : ∃ (M' : ri_M) (k n : Nat), k ≤ 600000 ∧ n ≤ 7302250 ∧ ri_ev 10 (some [x0, x1, x2, x3, x4, x5]) (tbL, 4, 4) (1399, [(3, .int 0), (2, .ref 571), (1, .ref 0), (0, .ref 2000000)], [], p1_M, 602, 21123) (some (.int 1), M', k, n) := by
  obtain ⟨v, M1, M2, fs, h1, h2, h3, hn1⟩ := ag39 
  refine ⟨M2, 602 + 0 + 0, 21123 + 0 + 0, Nat.le_of_ble_eq_true rfl, Nat.le_of_ble_eq_true rfl, ?_⟩
  refine ri_nx rfl rfl ?_
  refine ri_vc rfl rfl cl_p1_M_0 rfl (by decide) rfl (Nat.le_of_ble_eq_true rfl) h1 ?_
  refine ri_nx rfl rfl ?_
  refine ri_vc rfl rfl h3 rfl (by decide) rfl (Nat.le_of_ble_eq_true rfl) h2 ?_
  refine ri_nx rfl (if_pos rfl) ?_
  exact p1_tail x0 x1 x2 x3 x4 x5 M2 _ _
set_option maxRecDepth 20000 in
theorem p1_case40 (x0 x1 x2 x3 x4 x5 : Int32) : ∃ (M' : ri_M) (k n : Nat), k ≤ 600000 ∧ n ≤ 7302250 ∧ ri_ev 10 (some [x0, x1, x2, x3, x4, x5]) (tbL, 4, 4) (1412, [(3, .int 0), (2, .ref 571), (1, .ref 0), (0, .ref 2000000)], [], p1_M, 602, 21123) (some (.int 1), M', k, n) := by
  obtain ⟨v, M1, M2, fs, h1, h2, h3, hn1⟩ := ag40 
  refine ⟨M2, 602 + 0 + 0, 21123 + 0 + 0, Nat.le_of_ble_eq_true rfl, Nat.le_of_ble_eq_true rfl, ?_⟩
  refine ri_nx rfl rfl ?_
  refine ri_vc rfl rfl cl_p1_M_0 rfl (by decide) rfl (Nat.le_of_ble_eq_true rfl) h1 ?_
  refine ri_nx rfl rfl ?_
  refine ri_vc rfl rfl h3 rfl (by decide) rfl (Nat.le_of_ble_eq_true rfl) h2 ?_
  refine ri_nx rfl (if_pos rfl) ?_
  exact p1_tail x0 x1 x2 x3 x4 x5 M2 _ _
set_option maxRecDepth 20000 in
theorem p1_case41 (x0 x1 x2 x3 x4 x5 : Int32) : ∃ (M' : ri_M) (k n : Nat), k ≤ 600000 ∧ n ≤ 7302250 ∧ ri_ev 10 (some [x0, x1, x2, x3, x4, x5]) (tbL, 4, 4) (1425, [(3, .int 0), (2, .ref 571), (1, .ref 0), (0, .ref 2000000)], [], p1_M, 602, 21123) (some (.int 1), M', k, n) := by
  obtain ⟨v, M1, M2, fs, h1, h2, h3, hn1⟩ := ag41 x1 x2
  refine ⟨M2, 602 + 0 + 0, 21123 + 0 + 0, Nat.le_of_ble_eq_true rfl, Nat.le_of_ble_eq_true rfl, ?_⟩
  refine ri_nx rfl rfl ?_
  refine ri_nx rfl rfl ?_
  refine ri_nx rfl rfl ?_
  refine ri_nx rfl rfl ?_
  refine ri_nx rfl rfl ?_
  refine ri_scr rfl no_p1_M (by decide) rfl ?_
  refine ri_nx rfl rfl ?_
  refine ri_nx rfl rfl ?_
  refine ri_nx rfl rfl ?_
  refine ri_nx rfl rfl ?_
  refine ri_scr rfl no_p1_M (by decide) rfl ?_
  refine ri_vc rfl rfl cl_p1_M_0 rfl (by decide) rfl (Nat.le_of_ble_eq_true rfl) h1 ?_
  refine ri_nx rfl rfl ?_
  refine ri_nx rfl rfl ?_
  refine ri_nx rfl rfl ?_
  refine ri_nx rfl rfl ?_
  refine ri_nx rfl rfl ?_
  refine ri_scr rfl hn1 (by decide) rfl ?_
  refine ri_nx rfl rfl ?_
  refine ri_nx rfl rfl ?_
  refine ri_nx rfl rfl ?_
  refine ri_nx rfl rfl ?_
  refine ri_scr rfl hn1 (by decide) rfl ?_
  refine ri_vc rfl rfl h3 rfl (by decide) rfl (Nat.le_of_ble_eq_true rfl) h2 ?_
  refine ri_nx rfl (if_pos rfl) ?_
  exact p1_tail x0 x1 x2 x3 x4 x5 M2 _ _
set_option maxRecDepth 20000 in
theorem p1_case42 (x0 x1 x2 x3 x4 x5 : Int32) : ∃ (M' : ri_M) (k n : Nat), k ≤ 600000 ∧ n ≤ 7302250 ∧ ri_ev 10 (some [x0, x1, x2, x3, x4, x5]) (tbL, 4, 4) (1458, [(3, .int 0), (2, .ref 571), (1, .ref 0), (0, .ref 2000000)], [], p1_M, 602, 21123) (some (.int 1), M', k, n) := by
  obtain ⟨v, M1, M2, fs, h1, h2, h3, hn1⟩ := ag42 x1
  refine ⟨M2, 602 + 0 + 0, 21123 + 0 + 0, Nat.le_of_ble_eq_true rfl, Nat.le_of_ble_eq_true rfl, ?_⟩
  refine ri_nx rfl rfl ?_
  refine ri_nx rfl rfl ?_
  refine ri_nx rfl rfl ?_
  refine ri_nx rfl rfl ?_
  refine ri_nx rfl rfl ?_
  refine ri_scr rfl no_p1_M (by decide) rfl ?_
  refine ri_vc rfl rfl cl_p1_M_0 rfl (by decide) rfl (Nat.le_of_ble_eq_true rfl) h1 ?_
  refine ri_nx rfl rfl ?_
  refine ri_nx rfl rfl ?_
  refine ri_nx rfl rfl ?_
  refine ri_nx rfl rfl ?_
  refine ri_nx rfl rfl ?_
  refine ri_scr rfl hn1 (by decide) rfl ?_
  refine ri_vc rfl rfl h3 rfl (by decide) rfl (Nat.le_of_ble_eq_true rfl) h2 ?_
  refine ri_nx rfl (if_pos rfl) ?_
  exact p1_tail x0 x1 x2 x3 x4 x5 M2 _ _
set_option maxRecDepth 20000 in
theorem p1_case43 (x0 x1 x2 x3 x4 x5 : Int32) : ∃ (M' : ri_M) (k n : Nat), k ≤ 600000 ∧ n ≤ 7302250 ∧ ri_ev 10 (some [x0, x1, x2, x3, x4, x5]) (tbL, 4, 4) (1481, [(3, .int 0), (2, .ref 571), (1, .ref 0), (0, .ref 2000000)], [], p1_M, 602, 21123) (some (.int 1), M', k, n) := by
  obtain ⟨v, M1, M2, fs, h1, h2, h3, hn1⟩ := ag43 x1 x2
  refine ⟨M2, 602 + 0 + 0, 21123 + 0 + 0, Nat.le_of_ble_eq_true rfl, Nat.le_of_ble_eq_true rfl, ?_⟩
  refine ri_nx rfl rfl ?_
  refine ri_nx rfl rfl ?_
  refine ri_nx rfl rfl ?_
  refine ri_nx rfl rfl ?_
  refine ri_nx rfl rfl ?_
  refine ri_scr rfl no_p1_M (by decide) rfl ?_
  refine ri_nx rfl rfl ?_
  refine ri_nx rfl rfl ?_
  refine ri_nx rfl rfl ?_
  refine ri_nx rfl rfl ?_
  refine ri_scr rfl no_p1_M (by decide) rfl ?_
  refine ri_vc rfl rfl cl_p1_M_0 rfl (by decide) rfl (Nat.le_of_ble_eq_true rfl) h1 ?_
  refine ri_nx rfl rfl ?_
  refine ri_nx rfl rfl ?_
  refine ri_nx rfl rfl ?_
  refine ri_nx rfl rfl ?_
  refine ri_nx rfl rfl ?_
  refine ri_scr rfl hn1 (by decide) rfl ?_
  refine ri_nx rfl rfl ?_
  refine ri_nx rfl rfl ?_
  refine ri_nx rfl rfl ?_
  refine ri_nx rfl rfl ?_
  refine ri_scr rfl hn1 (by decide) rfl ?_
  refine ri_vc rfl rfl h3 rfl (by decide) rfl (Nat.le_of_ble_eq_true rfl) h2 ?_
  refine ri_nx rfl (if_pos rfl) ?_
  exact p1_tail x0 x1 x2 x3 x4 x5 M2 _ _
set_option maxRecDepth 20000 in
theorem p1_case44 (x0 x1 x2 x3 x4 x5 : Int32) : ∃ (M' : ri_M) (k n : Nat), k ≤ 600000 ∧ n ≤ 7302250 ∧ ri_ev 10 (some [x0, x1, x2, x3, x4, x5]) (tbL, 4, 4) (1514, [(3, .int 0), (2, .ref 571), (1, .ref 0), (0, .ref 2000000)], [], p1_M, 602, 21123) (some (.int 1), M', k, n) := by
  obtain ⟨v, M1, M2, fs, h1, h2, h3, hn1⟩ := ag44 x1 x2 x3
  refine ⟨M2, 602 + 0 + 0, 21123 + 0 + 0, Nat.le_of_ble_eq_true rfl, Nat.le_of_ble_eq_true rfl, ?_⟩
  refine ri_nx rfl rfl ?_
  refine ri_nx rfl rfl ?_
  refine ri_nx rfl rfl ?_
  refine ri_nx rfl rfl ?_
  refine ri_nx rfl rfl ?_
  refine ri_scr rfl no_p1_M (by decide) rfl ?_
  refine ri_nx rfl rfl ?_
  refine ri_nx rfl rfl ?_
  refine ri_nx rfl rfl ?_
  refine ri_nx rfl rfl ?_
  refine ri_scr rfl no_p1_M (by decide) rfl ?_
  refine ri_nx rfl rfl ?_
  refine ri_nx rfl rfl ?_
  refine ri_nx rfl rfl ?_
  refine ri_nx rfl rfl ?_
  refine ri_scr rfl no_p1_M (by decide) rfl ?_
  refine ri_vc rfl rfl cl_p1_M_0 rfl (by decide) rfl (Nat.le_of_ble_eq_true rfl) h1 ?_
  refine ri_nx rfl rfl ?_
  refine ri_nx rfl rfl ?_
  refine ri_nx rfl rfl ?_
  refine ri_nx rfl rfl ?_
  refine ri_nx rfl rfl ?_
  refine ri_scr rfl hn1 (by decide) rfl ?_
  refine ri_nx rfl rfl ?_
  refine ri_nx rfl rfl ?_
  refine ri_nx rfl rfl ?_
  refine ri_nx rfl rfl ?_
  refine ri_scr rfl hn1 (by decide) rfl ?_
  refine ri_nx rfl rfl ?_
  refine ri_nx rfl rfl ?_
  refine ri_nx rfl rfl ?_
  refine ri_nx rfl rfl ?_
  refine ri_scr rfl hn1 (by decide) rfl ?_
  refine ri_vc rfl rfl h3 rfl (by decide) rfl (Nat.le_of_ble_eq_true rfl) h2 ?_
  refine ri_nx rfl (if_pos rfl) ?_
  exact p1_tail x0 x1 x2 x3 x4 x5 M2 _ _
set_option maxRecDepth 20000 in
theorem p1_case45 (x0 x1 x2 x3 x4 x5 : Int32) : ∃ (M' : ri_M) (k n : Nat), k ≤ 600000 ∧ n ≤ 7302250 ∧ ri_ev 10 (some [x0, x1, x2, x3, x4, x5]) (tbL, 4, 4) (1557, [(3, .int 0), (2, .ref 571), (1, .ref 0), (0, .ref 2000000)], [], p1_M, 602, 21123) (some (.int 1), M', k, n) := by
  obtain ⟨v, M1, M2, fs, h1, h2, h3, hn1⟩ := ag45 
  refine ⟨M2, 602 + 0 + 0, 21123 + 0 + 0, Nat.le_of_ble_eq_true rfl, Nat.le_of_ble_eq_true rfl, ?_⟩
  refine ri_nx rfl rfl ?_
  refine ri_vc rfl rfl cl_p1_M_0 rfl (by decide) rfl (Nat.le_of_ble_eq_true rfl) h1 ?_
  refine ri_nx rfl rfl ?_
  refine ri_vc rfl rfl h3 rfl (by decide) rfl (Nat.le_of_ble_eq_true rfl) h2 ?_
  refine ri_nx rfl (if_pos rfl) ?_
  exact p1_tail x0 x1 x2 x3 x4 x5 M2 _ _
set_option maxRecDepth 20000 in
theorem p1_case46 (x0 x1 x2 x3 x4 x5 : Int32) : ∃ (M' : ri_M) (k n : Nat), k ≤ 600000 ∧ n ≤ 7302250 ∧ ri_ev 10 (some [x0, x1, x2, x3, x4, x5]) (tbL, 4, 4) (1570, [(3, .int 0), (2, .ref 571), (1, .ref 0), (0, .ref 2000000)], [], p1_M, 602, 21123) (some (.int 1), M', k, n) := by
  obtain ⟨v, M1, M2, fs, h1, h2, h3, hn1⟩ := ag46 x1
  refine ⟨M2, 602 + 0 + 0, 21123 + 0 + 0, Nat.le_of_ble_eq_true rfl, Nat.le_of_ble_eq_true rfl, ?_⟩
  refine ri_nx rfl rfl ?_
  refine ri_nx rfl rfl ?_
  refine ri_nx rfl rfl ?_
  refine ri_nx rfl rfl ?_
  refine ri_nx rfl rfl ?_
  refine ri_scr rfl no_p1_M (by decide) rfl ?_
  refine ri_vc rfl rfl cl_p1_M_0 rfl (by decide) rfl (Nat.le_of_ble_eq_true rfl) h1 ?_
  refine ri_nx rfl rfl ?_
  refine ri_nx rfl rfl ?_
  refine ri_nx rfl rfl ?_
  refine ri_nx rfl rfl ?_
  refine ri_nx rfl rfl ?_
  refine ri_scr rfl hn1 (by decide) rfl ?_
  refine ri_vc rfl rfl h3 rfl (by decide) rfl (Nat.le_of_ble_eq_true rfl) h2 ?_
  refine ri_nx rfl (if_pos rfl) ?_
  exact p1_tail x0 x1 x2 x3 x4 x5 M2 _ _
set_option maxRecDepth 20000 in
theorem p1_case47 (x0 x1 x2 x3 x4 x5 : Int32) : ∃ (M' : ri_M) (k n : Nat), k ≤ 600000 ∧ n ≤ 7302250 ∧ ri_ev 10 (some [x0, x1, x2, x3, x4, x5]) (tbL, 4, 4) (1593, [(3, .int 0), (2, .ref 571), (1, .ref 0), (0, .ref 2000000)], [], p1_M, 602, 21123) (some (.int 1), M', k, n) := by
  obtain ⟨v, M1, M2, fs, h1, h2, h3, hn1⟩ := ag47 x1 x2 x3
  refine ⟨M2, 602 + 0 + 0, 21123 + 0 + 0, Nat.le_of_ble_eq_true rfl, Nat.le_of_ble_eq_true rfl, ?_⟩
  refine ri_nx rfl rfl ?_
  refine ri_nx rfl rfl ?_
  refine ri_nx rfl rfl ?_
  refine ri_nx rfl rfl ?_
  refine ri_nx rfl rfl ?_
  refine ri_scr rfl no_p1_M (by decide) rfl ?_
  refine ri_nx rfl rfl ?_
  refine ri_nx rfl rfl ?_
  refine ri_nx rfl rfl ?_
  refine ri_nx rfl rfl ?_
  refine ri_scr rfl no_p1_M (by decide) rfl ?_
  refine ri_nx rfl rfl ?_
  refine ri_nx rfl rfl ?_
  refine ri_nx rfl rfl ?_
  refine ri_nx rfl rfl ?_
  refine ri_scr rfl no_p1_M (by decide) rfl ?_
  refine ri_vc rfl rfl cl_p1_M_0 rfl (by decide) rfl (Nat.le_of_ble_eq_true rfl) h1 ?_
  refine ri_nx rfl rfl ?_
  refine ri_nx rfl rfl ?_
  refine ri_nx rfl rfl ?_
  refine ri_nx rfl rfl ?_
  refine ri_nx rfl rfl ?_
  refine ri_scr rfl hn1 (by decide) rfl ?_
  refine ri_nx rfl rfl ?_
  refine ri_nx rfl rfl ?_
  refine ri_nx rfl rfl ?_
  refine ri_nx rfl rfl ?_
  refine ri_scr rfl hn1 (by decide) rfl ?_
  refine ri_nx rfl rfl ?_
  refine ri_nx rfl rfl ?_
  refine ri_nx rfl rfl ?_
  refine ri_nx rfl rfl ?_
  refine ri_scr rfl hn1 (by decide) rfl ?_
  refine ri_vc rfl rfl h3 rfl (by decide) rfl (Nat.le_of_ble_eq_true rfl) h2 ?_
  refine ri_nx rfl (if_pos rfl) ?_
  exact p1_tail x0 x1 x2 x3 x4 x5 M2 _ _
set_option maxRecDepth 20000 in
theorem p1_case48 (x0 x1 x2 x3 x4 x5 : Int32) : ∃ (M' : ri_M) (k n : Nat), k ≤ 600000 ∧ n ≤ 7302250 ∧ ri_ev 10 (some [x0, x1, x2, x3, x4, x5]) (tbL, 4, 4) (1636, [(3, .int 0), (2, .ref 571), (1, .ref 0), (0, .ref 2000000)], [], p1_M, 602, 21123) (some (.int 1), M', k, n) := by
  obtain ⟨v, M1, M2, fs, h1, h2, h3, hn1⟩ := ag48 
  refine ⟨M2, 602 + 0 + 0, 21123 + 0 + 0, Nat.le_of_ble_eq_true rfl, Nat.le_of_ble_eq_true rfl, ?_⟩
  refine ri_nx rfl rfl ?_
  refine ri_vc rfl rfl cl_p1_M_0 rfl (by decide) rfl (Nat.le_of_ble_eq_true rfl) h1 ?_
  refine ri_nx rfl rfl ?_
  refine ri_vc rfl rfl h3 rfl (by decide) rfl (Nat.le_of_ble_eq_true rfl) h2 ?_
  refine ri_nx rfl (if_pos rfl) ?_
  exact p1_tail x0 x1 x2 x3 x4 x5 M2 _ _
set_option maxRecDepth 20000 in
theorem p1_case49 (x0 x1 x2 x3 x4 x5 : Int32) : ∃ (M' : ri_M) (k n : Nat), k ≤ 600000 ∧ n ≤ 7302250 ∧ ri_ev 10 (some [x0, x1, x2, x3, x4, x5]) (tbL, 4, 4) (1649, [(3, .int 0), (2, .ref 571), (1, .ref 0), (0, .ref 2000000)], [], p1_M, 602, 21123) (some (.int 1), M', k, n) := by
  obtain ⟨v, M1, M2, fs, h1, h2, h3, hn1⟩ := ag49 x1
  refine ⟨M2, 602 + 0 + 0, 21123 + 0 + 0, Nat.le_of_ble_eq_true rfl, Nat.le_of_ble_eq_true rfl, ?_⟩
  refine ri_nx rfl rfl ?_
  refine ri_nx rfl rfl ?_
  refine ri_nx rfl rfl ?_
  refine ri_nx rfl rfl ?_
  refine ri_nx rfl rfl ?_
  refine ri_scr rfl no_p1_M (by decide) rfl ?_
  refine ri_vc rfl rfl cl_p1_M_0 rfl (by decide) rfl (Nat.le_of_ble_eq_true rfl) h1 ?_
  refine ri_nx rfl rfl ?_
  refine ri_nx rfl rfl ?_
  refine ri_nx rfl rfl ?_
  refine ri_nx rfl rfl ?_
  refine ri_nx rfl rfl ?_
  refine ri_scr rfl hn1 (by decide) rfl ?_
  refine ri_vc rfl rfl h3 rfl (by decide) rfl (Nat.le_of_ble_eq_true rfl) h2 ?_
  refine ri_nx rfl (if_pos rfl) ?_
  exact p1_tail x0 x1 x2 x3 x4 x5 M2 _ _
set_option maxRecDepth 20000 in
theorem p1_case50 (x0 x1 x2 x3 x4 x5 : Int32) : ∃ (M' : ri_M) (k n : Nat), k ≤ 600000 ∧ n ≤ 7302250 ∧ ri_ev 10 (some [x0, x1, x2, x3, x4, x5]) (tbL, 4, 4) (1672, [(3, .int 0), (2, .ref 571), (1, .ref 0), (0, .ref 2000000)], [], p1_M, 602, 21123) (some (.int 1), M', k, n) := by
  obtain ⟨v, M1, M2, fs, h1, h2, h3, hn1⟩ := ag50 x1 x2
  refine ⟨M2, 602 + 0 + 0, 21123 + 0 + 0, Nat.le_of_ble_eq_true rfl, Nat.le_of_ble_eq_true rfl, ?_⟩
  refine ri_nx rfl rfl ?_
  refine ri_nx rfl rfl ?_
  refine ri_nx rfl rfl ?_
  refine ri_nx rfl rfl ?_
  refine ri_nx rfl rfl ?_
  refine ri_scr rfl no_p1_M (by decide) rfl ?_
  refine ri_nx rfl rfl ?_
  refine ri_nx rfl rfl ?_
  refine ri_nx rfl rfl ?_
  refine ri_nx rfl rfl ?_
  refine ri_scr rfl no_p1_M (by decide) rfl ?_
  refine ri_vc rfl rfl cl_p1_M_0 rfl (by decide) rfl (Nat.le_of_ble_eq_true rfl) h1 ?_
  refine ri_nx rfl rfl ?_
  refine ri_nx rfl rfl ?_
  refine ri_nx rfl rfl ?_
  refine ri_nx rfl rfl ?_
  refine ri_nx rfl rfl ?_
  refine ri_scr rfl hn1 (by decide) rfl ?_
  refine ri_nx rfl rfl ?_
  refine ri_nx rfl rfl ?_
  refine ri_nx rfl rfl ?_
  refine ri_nx rfl rfl ?_
  refine ri_scr rfl hn1 (by decide) rfl ?_
  refine ri_vc rfl rfl h3 rfl (by decide) rfl (Nat.le_of_ble_eq_true rfl) h2 ?_
  refine ri_nx rfl (if_pos rfl) ?_
  exact p1_tail x0 x1 x2 x3 x4 x5 M2 _ _
set_option maxRecDepth 20000 in
theorem p1_case51 (x0 x1 x2 x3 x4 x5 : Int32) : ∃ (M' : ri_M) (k n : Nat), k ≤ 600000 ∧ n ≤ 7302250 ∧ ri_ev 10 (some [x0, x1, x2, x3, x4, x5]) (tbL, 4, 4) (1705, [(3, .int 0), (2, .ref 571), (1, .ref 0), (0, .ref 2000000)], [], p1_M, 602, 21123) (some (.int 1), M', k, n) := by
  obtain ⟨v, M1, M2, fs, h1, h2, h3, hn1⟩ := ag51 
  refine ⟨M2, 602 + 0 + 0, 21123 + 0 + 0, Nat.le_of_ble_eq_true rfl, Nat.le_of_ble_eq_true rfl, ?_⟩
  refine ri_nx rfl rfl ?_
  refine ri_vc rfl rfl cl_p1_M_0 rfl (by decide) rfl (Nat.le_of_ble_eq_true rfl) h1 ?_
  refine ri_nx rfl rfl ?_
  refine ri_vc rfl rfl h3 rfl (by decide) rfl (Nat.le_of_ble_eq_true rfl) h2 ?_
  refine ri_nx rfl (if_pos rfl) ?_
  exact p1_tail x0 x1 x2 x3 x4 x5 M2 _ _
set_option maxRecDepth 20000 in
theorem p1_case52 (x0 x1 x2 x3 x4 x5 : Int32) : ∃ (M' : ri_M) (k n : Nat), k ≤ 600000 ∧ n ≤ 7302250 ∧ ri_ev 10 (some [x0, x1, x2, x3, x4, x5]) (tbL, 4, 4) (1718, [(3, .int 0), (2, .ref 571), (1, .ref 0), (0, .ref 2000000)], [], p1_M, 602, 21123) (some (.int 1), M', k, n) := by
  obtain ⟨v, M1, M2, fs, h1, h2, h3, hn1⟩ := ag52 x1 x2
  refine ⟨M2, 602 + 0 + 0, 21123 + 0 + 0, Nat.le_of_ble_eq_true rfl, Nat.le_of_ble_eq_true rfl, ?_⟩
  refine ri_nx rfl rfl ?_
  refine ri_nx rfl rfl ?_
  refine ri_nx rfl rfl ?_
  refine ri_nx rfl rfl ?_
  refine ri_nx rfl rfl ?_
  refine ri_scr rfl no_p1_M (by decide) rfl ?_
  refine ri_nx rfl rfl ?_
  refine ri_nx rfl rfl ?_
  refine ri_nx rfl rfl ?_
  refine ri_nx rfl rfl ?_
  refine ri_scr rfl no_p1_M (by decide) rfl ?_
  refine ri_vc rfl rfl cl_p1_M_0 rfl (by decide) rfl (Nat.le_of_ble_eq_true rfl) h1 ?_
  refine ri_nx rfl rfl ?_
  refine ri_nx rfl rfl ?_
  refine ri_nx rfl rfl ?_
  refine ri_nx rfl rfl ?_
  refine ri_nx rfl rfl ?_
  refine ri_scr rfl hn1 (by decide) rfl ?_
  refine ri_nx rfl rfl ?_
  refine ri_nx rfl rfl ?_
  refine ri_nx rfl rfl ?_
  refine ri_nx rfl rfl ?_
  refine ri_scr rfl hn1 (by decide) rfl ?_
  refine ri_vc rfl rfl h3 rfl (by decide) rfl (Nat.le_of_ble_eq_true rfl) h2 ?_
  refine ri_nx rfl (if_pos rfl) ?_
  exact p1_tail x0 x1 x2 x3 x4 x5 M2 _ _
set_option maxRecDepth 20000 in
theorem p1_case53 (x0 x1 x2 x3 x4 x5 : Int32) : ∃ (M' : ri_M) (k n : Nat), k ≤ 600000 ∧ n ≤ 7302250 ∧ ri_ev 10 (some [x0, x1, x2, x3, x4, x5]) (tbL, 4, 4) (1751, [(3, .int 0), (2, .ref 571), (1, .ref 0), (0, .ref 2000000)], [], p1_M, 602, 21123) (some (.int 1), M', k, n) := by
  obtain ⟨v, M1, M2, fs, h1, h2, h3, hn1⟩ := ag53 x1
  refine ⟨M2, 602 + 0 + 0, 21123 + 0 + 0, Nat.le_of_ble_eq_true rfl, Nat.le_of_ble_eq_true rfl, ?_⟩
  refine ri_nx rfl rfl ?_
  refine ri_nx rfl rfl ?_
  refine ri_nx rfl rfl ?_
  refine ri_nx rfl rfl ?_
  refine ri_nx rfl rfl ?_
  refine ri_scr rfl no_p1_M (by decide) rfl ?_
  refine ri_vc rfl rfl cl_p1_M_0 rfl (by decide) rfl (Nat.le_of_ble_eq_true rfl) h1 ?_
  refine ri_nx rfl rfl ?_
  refine ri_nx rfl rfl ?_
  refine ri_nx rfl rfl ?_
  refine ri_nx rfl rfl ?_
  refine ri_nx rfl rfl ?_
  refine ri_scr rfl hn1 (by decide) rfl ?_
  refine ri_vc rfl rfl h3 rfl (by decide) rfl (Nat.le_of_ble_eq_true rfl) h2 ?_
  refine ri_nx rfl (if_pos rfl) ?_
  exact p1_tail x0 x1 x2 x3 x4 x5 M2 _ _
set_option maxRecDepth 20000 in
theorem p1_case54 (x0 x1 x2 x3 x4 x5 : Int32) : ∃ (M' : ri_M) (k n : Nat), k ≤ 600000 ∧ n ≤ 7302250 ∧ ri_ev 10 (some [x0, x1, x2, x3, x4, x5]) (tbL, 4, 4) (1774, [(3, .int 0), (2, .ref 571), (1, .ref 0), (0, .ref 2000000)], [], p1_M, 602, 21123) (some (.int 1), M', k, n) := by
  obtain ⟨v, M1, M2, fs, h1, h2, h3, hn1⟩ := ag54 x1 x2
  refine ⟨M2, 602 + 0 + 0, 21123 + 0 + 0, Nat.le_of_ble_eq_true rfl, Nat.le_of_ble_eq_true rfl, ?_⟩
  refine ri_nx rfl rfl ?_
  refine ri_nx rfl rfl ?_
  refine ri_nx rfl rfl ?_
  refine ri_nx rfl rfl ?_
  refine ri_nx rfl rfl ?_
  refine ri_scr rfl no_p1_M (by decide) rfl ?_
  refine ri_nx rfl rfl ?_
  refine ri_nx rfl rfl ?_
  refine ri_nx rfl rfl ?_
  refine ri_nx rfl rfl ?_
  refine ri_scr rfl no_p1_M (by decide) rfl ?_
  refine ri_vc rfl rfl cl_p1_M_0 rfl (by decide) rfl (Nat.le_of_ble_eq_true rfl) h1 ?_
  refine ri_nx rfl rfl ?_
  refine ri_nx rfl rfl ?_
  refine ri_nx rfl rfl ?_
  refine ri_nx rfl rfl ?_
  refine ri_nx rfl rfl ?_
  refine ri_scr rfl hn1 (by decide) rfl ?_
  refine ri_nx rfl rfl ?_
  refine ri_nx rfl rfl ?_
  refine ri_nx rfl rfl ?_
  refine ri_nx rfl rfl ?_
  refine ri_scr rfl hn1 (by decide) rfl ?_
  refine ri_vc rfl rfl h3 rfl (by decide) rfl (Nat.le_of_ble_eq_true rfl) h2 ?_
  refine ri_nx rfl (if_pos rfl) ?_
  exact p1_tail x0 x1 x2 x3 x4 x5 M2 _ _
set_option maxRecDepth 20000 in
theorem p1_case55 (x0 x1 x2 x3 x4 x5 : Int32) : ∃ (M' : ri_M) (k n : Nat), k ≤ 600000 ∧ n ≤ 7302250 ∧ ri_ev 10 (some [x0, x1, x2, x3, x4, x5]) (tbL, 4, 4) (1807, [(3, .int 0), (2, .ref 571), (1, .ref 0), (0, .ref 2000000)], [], p1_M, 602, 21123) (some (.int 1), M', k, n) := by
  obtain ⟨v, M1, M2, fs, h1, h2, h3, hn1⟩ := ag55 x1
  refine ⟨M2, 602 + 0 + 0, 21123 + 0 + 0, Nat.le_of_ble_eq_true rfl, Nat.le_of_ble_eq_true rfl, ?_⟩
  refine ri_nx rfl rfl ?_
  refine ri_nx rfl rfl ?_
  refine ri_nx rfl rfl ?_
  refine ri_nx rfl rfl ?_
  refine ri_nx rfl rfl ?_
  refine ri_scr rfl no_p1_M (by decide) rfl ?_
  refine ri_vc rfl rfl cl_p1_M_0 rfl (by decide) rfl (Nat.le_of_ble_eq_true rfl) h1 ?_
  refine ri_nx rfl rfl ?_
  refine ri_nx rfl rfl ?_
  refine ri_nx rfl rfl ?_
  refine ri_nx rfl rfl ?_
  refine ri_nx rfl rfl ?_
  refine ri_scr rfl hn1 (by decide) rfl ?_
  refine ri_vc rfl rfl h3 rfl (by decide) rfl (Nat.le_of_ble_eq_true rfl) h2 ?_
  refine ri_nx rfl (if_pos rfl) ?_
  exact p1_tail x0 x1 x2 x3 x4 x5 M2 _ _
set_option maxRecDepth 20000 in
theorem p1_case56 (x0 x1 x2 x3 x4 x5 : Int32) : ∃ (M' : ri_M) (k n : Nat), k ≤ 600000 ∧ n ≤ 7302250 ∧ ri_ev 10 (some [x0, x1, x2, x3, x4, x5]) (tbL, 4, 4) (1830, [(3, .int 0), (2, .ref 571), (1, .ref 0), (0, .ref 2000000)], [], p1_M, 602, 21123) (some (.int 1), M', k, n) := by
  obtain ⟨v, M1, M2, fs, h1, h2, h3, hn1⟩ := ag56 x1
  refine ⟨M2, 602 + 0 + 0, 21123 + 0 + 0, Nat.le_of_ble_eq_true rfl, Nat.le_of_ble_eq_true rfl, ?_⟩
  refine ri_nx rfl rfl ?_
  refine ri_nx rfl rfl ?_
  refine ri_nx rfl rfl ?_
  refine ri_nx rfl rfl ?_
  refine ri_nx rfl rfl ?_
  refine ri_scr rfl no_p1_M (by decide) rfl ?_
  refine ri_vc rfl rfl cl_p1_M_0 rfl (by decide) rfl (Nat.le_of_ble_eq_true rfl) h1 ?_
  refine ri_nx rfl rfl ?_
  refine ri_nx rfl rfl ?_
  refine ri_nx rfl rfl ?_
  refine ri_nx rfl rfl ?_
  refine ri_nx rfl rfl ?_
  refine ri_scr rfl hn1 (by decide) rfl ?_
  refine ri_vc rfl rfl h3 rfl (by decide) rfl (Nat.le_of_ble_eq_true rfl) h2 ?_
  refine ri_nx rfl (if_pos rfl) ?_
  exact p1_tail x0 x1 x2 x3 x4 x5 M2 _ _
set_option maxRecDepth 20000 in
theorem p1_case57 (x0 x1 x2 x3 x4 x5 : Int32) : ∃ (M' : ri_M) (k n : Nat), k ≤ 600000 ∧ n ≤ 7302250 ∧ ri_ev 10 (some [x0, x1, x2, x3, x4, x5]) (tbL, 4, 4) (1853, [(3, .int 0), (2, .ref 571), (1, .ref 0), (0, .ref 2000000)], [], p1_M, 602, 21123) (some (.int 1), M', k, n) := by
  obtain ⟨v, M1, M2, fs, h1, h2, h3, hn1⟩ := ag57 x1
  refine ⟨M2, 602 + 0 + 0, 21123 + 0 + 0, Nat.le_of_ble_eq_true rfl, Nat.le_of_ble_eq_true rfl, ?_⟩
  refine ri_nx rfl rfl ?_
  refine ri_nx rfl rfl ?_
  refine ri_nx rfl rfl ?_
  refine ri_nx rfl rfl ?_
  refine ri_nx rfl rfl ?_
  refine ri_scr rfl no_p1_M (by decide) rfl ?_
  refine ri_vc rfl rfl cl_p1_M_0 rfl (by decide) rfl (Nat.le_of_ble_eq_true rfl) h1 ?_
  refine ri_nx rfl rfl ?_
  refine ri_nx rfl rfl ?_
  refine ri_nx rfl rfl ?_
  refine ri_nx rfl rfl ?_
  refine ri_nx rfl rfl ?_
  refine ri_scr rfl hn1 (by decide) rfl ?_
  refine ri_vc rfl rfl h3 rfl (by decide) rfl (Nat.le_of_ble_eq_true rfl) h2 ?_
  refine ri_nx rfl (if_pos rfl) ?_
  exact p1_tail x0 x1 x2 x3 x4 x5 M2 _ _
set_option maxRecDepth 20000 in
theorem p1_case58 (x0 x1 x2 x3 x4 x5 : Int32) : ∃ (M' : ri_M) (k n : Nat), k ≤ 600000 ∧ n ≤ 7302250 ∧ ri_ev 10 (some [x0, x1, x2, x3, x4, x5]) (tbL, 4, 4) (1876, [(3, .int 0), (2, .ref 571), (1, .ref 0), (0, .ref 2000000)], [], p1_M, 602, 21123) (some (.int 1), M', k, n) := by
  obtain ⟨v, M1, M2, fs, h1, h2, h3, hn1⟩ := ag58 
  refine ⟨M2, 602 + 0 + 0, 21123 + 0 + 0, Nat.le_of_ble_eq_true rfl, Nat.le_of_ble_eq_true rfl, ?_⟩
  refine ri_nx rfl rfl ?_
  refine ri_vc rfl rfl cl_p1_M_0 rfl (by decide) rfl (Nat.le_of_ble_eq_true rfl) h1 ?_
  refine ri_nx rfl rfl ?_
  refine ri_vc rfl rfl h3 rfl (by decide) rfl (Nat.le_of_ble_eq_true rfl) h2 ?_
  refine ri_nx rfl (if_pos rfl) ?_
  exact p1_tail x0 x1 x2 x3 x4 x5 M2 _ _
set_option maxRecDepth 20000 in
theorem p1_case59 (x0 x1 x2 x3 x4 x5 : Int32) : ∃ (M' : ri_M) (k n : Nat), k ≤ 600000 ∧ n ≤ 7302250 ∧ ri_ev 10 (some [x0, x1, x2, x3, x4, x5]) (tbL, 4, 4) (1889, [(3, .int 0), (2, .ref 571), (1, .ref 0), (0, .ref 2000000)], [], p1_M, 602, 21123) (some (.int 1), M', k, n) := by
  obtain ⟨v, M1, M2, fs, h1, h2, h3, hn1⟩ := ag59 
  refine ⟨M2, 602 + 0 + 0, 21123 + 0 + 0, Nat.le_of_ble_eq_true rfl, Nat.le_of_ble_eq_true rfl, ?_⟩
  refine ri_nx rfl rfl ?_
  refine ri_vc rfl rfl cl_p1_M_0 rfl (by decide) rfl (Nat.le_of_ble_eq_true rfl) h1 ?_
  refine ri_nx rfl rfl ?_
  refine ri_vc rfl rfl h3 rfl (by decide) rfl (Nat.le_of_ble_eq_true rfl) h2 ?_
  refine ri_nx rfl (if_pos rfl) ?_
  exact p1_tail x0 x1 x2 x3 x4 x5 M2 _ _
