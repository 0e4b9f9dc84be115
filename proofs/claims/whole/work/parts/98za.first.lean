/-! ===== the constructors, by the kernel; the first memory ===== -/
theorem ri_of_map {o : Option (Option Value × ri_M × Nat × Nat)} {v : Option Value} {k n : Nat} (h : o.map (fun r => (r.1, r.2.2)) = some (v, (k, n))) : o = some (v, (o.map (fun r => r.2.1)).getD [], k, n) := by
  cases o with
  | none => cases h
  | some r =>
    obtain ⟨v1, M1, k1, n1⟩ := r
    cases h
    rfl
def ri_eqC : ri_C → ri_C → Bool
  | .inr (a, fs), .inr (b, gs) => decide (a = b) && decide (fs = gs)
  | .inl (a, .inl xs), .inl (b, .inl ys) => decide (a = b) && decide (xs = ys)
  | .inl (a, .inr (.inl xs)), .inl (b, .inr (.inl ys)) => decide (a = b) && decide (xs = ys)
  | .inl (a, .inr (.inr xs)), .inl (b, .inr (.inr ys)) => decide (a = b) && decide (xs = ys)
  | _, _ => false
theorem ri_eqC_eq {a b : ri_C} (h : ri_eqC a b = true) : a = b := by
  unfold ri_eqC at h
  split at h
  · rw [Bool.and_eq_true] at h
    rw [of_decide_eq_true h.1, of_decide_eq_true h.2]
  · rw [Bool.and_eq_true] at h
    rw [of_decide_eq_true h.1, of_decide_eq_true h.2]
  · rw [Bool.and_eq_true] at h
    rw [of_decide_eq_true h.1, of_decide_eq_true h.2]
  · rw [Bool.and_eq_true] at h
    rw [of_decide_eq_true h.1, of_decide_eq_true h.2]
  · cases h
def ri_eqM : ri_M → ri_M → Bool
  | [], [] => true
  | a :: M, b :: N => ri_eqC a b && ri_eqM M N
  | _, _ => false
theorem ri_eqM_eq : ∀ {M N : ri_M}, ri_eqM M N = true → M = N
  | [], [], _ => rfl
  | [], _ :: _, h => by cases h
  | _ :: _, [], h => by cases h
  | a :: M, b :: N, h => by
    have h1 : (ri_eqC a b && ri_eqM M N) = true := h
    rw [Bool.and_eq_true] at h1
    rw [ri_eqC_eq h1.1, ri_eqM_eq h1.2]
def ri_isM (o : Option (Option Value × ri_M × Nat × Nat)) (N : ri_M) (k n : Nat) : Bool := match o with
  | some (none, M, k1, n1) => decide (k1 = k) && (decide (n1 = n) && ri_eqM M N)
  | _ => false
theorem ri_isM_eq {o : Option (Option Value × ri_M × Nat × Nat)} {N : ri_M} {k n : Nat} (h : ri_isM o N k n = true) : o = some (none, N, k, n) := by
  unfold ri_isM at h
  split at h
  · rw [Bool.and_eq_true, Bool.and_eq_true] at h
    rw [of_decide_eq_true h.1, of_decide_eq_true h.2.1, ri_eqM_eq h.2.2]
  · cases h
def p1_m0 : ri_M := [.inr (11, [.null, .null, .null, .null, .null, .null, .null, .null, .null, .null, .null, .null, .null, .null, .null, .int 0, .int 0, .int 0, .int 0])]
def p1_x : Option (Option Value × ri_M × Nat × Nat) := ri_run ri_P ri_Fd 553 6 none (tb92, 2, 0) (0, lv_args 0 [.ref 0], [], p1_m0, 0, 0)
def p1_x_M : ri_M := (p1_x.map (fun r => r.2.1)).getD []
theorem p1_x_ok : p1_x.map (fun r => (r.1, r.2.2)) = some (none, (570, 13592)) := by decide +kernel
theorem p1_x_ev : ri_ev 6 none (tb92, 2, 0) (0, lv_args 0 [.ref 0], [], p1_m0, 0, 0) (none, p1_x_M, 570, 13592) := ⟨_, ri_of_map p1_x_ok⟩
def p1_m1 : ri_M := p1_x_M ++ [.inr (12, [.null, .null, .int 0, .null, .null, .null, .null, .null, .null, .int 0, .int 0, .int 0, .int 0, .int 0, .int 0, .int 0, .int 0, .int 0, .null, .null, .null, .int 0, .null, .null, .int 0, .int 0, .null, .null, .null, .int 0, .int 0, .null, .null, .null, .null, .null, .null, .null, .null, .null, .null, .null, .null, .int 0, .null, .null])]
theorem aw_xl : p1_x_M.length = 571 := by decide +kernel
theorem p1_m1_at : p1_m1[571]? = some (.inr (12, [.null, .null, .int 0, .null, .null, .null, .null, .null, .null, .int 0, .int 0, .int 0, .int 0, .int 0, .int 0, .int 0, .int 0, .int 0, .null, .null, .null, .int 0, .null, .null, .int 0, .int 0, .null, .null, .null, .int 0, .int 0, .null, .null, .null, .null, .null, .null, .null, .null, .null, .null, .null, .null, .int 0, .null, .null])) := by
  unfold p1_m1
  rw [List.getElem?_append_right (by rw [aw_xl]; exact Nat.le_refl _), aw_xl]
  rfl
section RIN
variable {d pc : Nat} {X : Option (List Int32)} {t t' : ri_T} {lv : ri_L} {st : List Value} {M : ri_M} {k n : Nat} {r : Option Value × ri_M × Nat × Nat}
theorem ri_new {a b c0 d0 idx L : Nat} {fs : List Value} (ht : t.1[pc]? = some (some (.new idx, a, b, c0, d0))) (hf : ri_Fd[a]? = some fs) (hL : M.length = L) (hL2 : L < 1000000) (h : ri_ev d X t (pc + 3, lv, .ref L :: st, M ++ [.inr (a, fs)], k + 1, n + fs.length) r) : ri_ev d X t (pc, lv, st, M, k, n) r := by
  refine ri_nx ht (?_ : ((match (generalizing := false) ri_Fd[a]? with | some fs => if M.length < 1000000 then some (.inl (pc + 3, lv, .ref M.length :: st, M ++ [.inr (a, fs)], k + 1, n + fs.length)) else none | none => none) : Option ri_X) = _) h
  rw [hf, hL]
  simp [hL2]
theorem ri_ic {y n0 dd q idx : Nat} {fs : List Value} {v : Option Value} {M' : ri_M} {k' n' : Nat} (ht : t.1[pc]? = some (some (.invokespecial idx, y, n0, 0, dd))) (hq : st[n0]? = some (.ref q)) (hM : M[q]? = some (.inr (dd, fs))) (hl : (decide (st.length < n0) || decide (8 < ((st.drop (n0 + 1)).map (fun v => v.category)).sum)) = false) (hq6 : q < 1000000) (hy : ri_P y = some t') (hc : ((Value.ref q :: (st.take n0).reverse).map (fun v => v.category)).sum ≤ t'.2.1)
    (h1 : ri_ev d none t' (0, lv_args 0 (.ref q :: (st.take n0).reverse), [], M, 0, 0) (v, M', k', n')) (h2 : ri_ev (d + 1) X t (pc + 3, lv, v.toList ++ st.drop (n0 + 1), M', k + k', n + n') r) : ri_ev (d + 1) X t (pc, lv, st, M, k, n) r := by
  refine ri_cll ht (?_ : ri_cl y n0 (pc + 3) lv st M k n 1 dd = some (.inr (.inl (y, .ref q :: (st.take n0).reverse, (pc + 3, lv, st.drop (n0 + 1), M, k, n))))) hy hc h1 h2
  rw [Bool.or_eq_false_iff] at hl
  have hl1 := of_decide_eq_false hl.1
  have hl2 := of_decide_eq_false hl.2
  unfold ri_cl
  rw [if_neg (by simp only [show ¬ (1 = 0) by decide, if_false]; exact fun h => h.elim hl1 hl2), if_neg (by decide), hq]
  simp only [hM]
  rw [if_pos ⟨trivial, hq6⟩]
end RIN
/-- the first memory -/
def aw_h0 : am_H := fun x i => if x = 0 ∧ i = 18 then -2 else if (x = 1 ∧ i = 5) ∨ (x = 571 ∧ i = 11) then -1 else 0
theorem aw_z {x i : Int} (h1 : ¬ (x = 0 ∧ i = 18)) (h2 : ¬ ((x = 1 ∧ i = 5) ∨ (x = 571 ∧ i = 11))) : aw_h0 x i = 0 := by
  unfold aw_h0
  rw [if_neg h1, if_neg h2]
theorem aw_no {q k n m : Nat} (e : am_LY[q]? = some (k, n, m)) (hk : k ≠ 1) : q ≠ 0 ∧ q ≠ 1 ∧ q ≠ 571 := by
  refine ⟨fun c => ?_, fun c => ?_, fun c => ?_⟩
  · subst c
    have z : some ((1, 11, 0) : Nat × Nat × Nat) = some (k, n, m) := e
    cases z
    exact hk rfl
  · subst c
    have z : some ((1, 7, 0) : Nat × Nat × Nat) = some (k, n, m) := e
    cases z
    exact hk rfl
  · subst c
    rw [show am_LY[571]? = some (1, 12, 0) by decide +kernel] at e
    cases e
    exact hk rfl
def aw_zc (q : Nat) (d : Nat × Nat × Nat) : ri_C := match d with
  | (2, n, _) => .inl (0, .inl (List.replicate n 0))
  | (3, n, _) => .inl (1, .inr (.inl (List.replicate n 0)))
  | (4, n, _) => .inl (2, .inl (List.replicate n 0))
  | (5, n, _) => .inl (3, .inl (List.replicate n 0))
  | d => am_cell aw_h0 q d
theorem aw_rep {α : Type} {n : Nat} {f : Nat → α} {z : α} (h : ∀ i, f i = z) : (List.range n).map f = List.replicate n z := by
  apply List.ext_getElem?
  intro i
  rw [List.getElem?_map, List.getElem?_replicate]
  by_cases hi : i < n
  · rw [if_pos hi, List.getElem?_range hi]
    exact congrArg some (h i)
  · rw [if_neg hi, List.getElem?_eq_none (by rw [List.length_range]; omega)]
    rfl
theorem aw_zc_e {q k n m : Nat} (e : am_LY[q]? = some (k, n, m)) : am_cell aw_h0 q (k, n, m) = aw_zc q (k, n, m) := by
  have hz : k ≠ 1 → ∀ i : Nat, aw_h0 q i = 0 := fun hk i => by
    have := aw_no e hk
    exact aw_z (by omega) (by omega)
  by_cases h2 : k = 2
  · subst h2
    exact congrArg (fun l => (Sum.inl (0, Sum.inl l) : ri_C)) (aw_rep (fun i => by rw [hz (by decide) i]; rfl))
  by_cases h3 : k = 3
  · subst h3
    exact congrArg (fun l => (Sum.inl (1, Sum.inr (Sum.inl l)) : ri_C)) (aw_rep (fun i => by rw [hz (by decide) i]; rfl))
  by_cases h4 : k = 4
  · subst h4
    exact congrArg (fun l => (Sum.inl (2, Sum.inl l) : ri_C)) (aw_rep (fun i => by rw [hz (by decide) i]; rfl))
  by_cases h5 : k = 5
  · subst h5
    exact congrArg (fun l => (Sum.inl (3, Sum.inl l) : ri_C)) (aw_rep (fun i => by rw [hz (by decide) i]; rfl))
  unfold aw_zc
  split
  · rename_i e9; cases e9; exact absurd rfl h2
  · rename_i e9; cases e9; exact absurd rfl h3
  · rename_i e9; cases e9; exact absurd rfl h4
  · rename_i e9; cases e9; exact absurd rfl h5
  · rfl
theorem aw_M : am_M aw_h0 [] = am_LY.mapIdx aw_zc := by
  unfold am_M
  rw [List.append_nil]
  apply List.ext_getElem?
  intro i
  rw [List.getElem?_mapIdx, List.getElem?_mapIdx]
  cases h : am_LY[i]? with
  | none => rfl
  | some d =>
    obtain ⟨k, n, m⟩ := d
    exact congrArg some (aw_zc_e h)
def p1_y : Option (Option Value × ri_M × Nat × Nat) := ri_run ri_P ri_Fd 176 6 none (tb189, 1, 0) (0, lv_args 0 [.ref 571], [], p1_m1, 0, 0)
theorem aw_y_ok : ri_isM p1_y (am_LY.mapIdx aw_zc) 30 7466 = true := by decide +kernel
theorem aw_y_ev : ri_ev 6 none (tb189, 1, 0) (0, lv_args 0 [.ref 571], [], p1_m1, 0, 0) (none, am_M aw_h0 [], 30, 7466) := by
  rw [aw_M]
  exact ⟨_, ri_isM_eq aw_y_ok⟩
theorem aw_r (x i : Int) : -2 ≤ aw_h0 x i ∧ aw_h0 x i ≤ 0 := by
  unfold aw_h0
  split
  · omega
  · split <;> omega
theorem aw_nr {q o : Int} (h0 : q ≠ 0) (h1 : q ≠ 1) (h2 : q ≠ 571) : nr aw_h0 q o = fun _ => 0 := by
  funext p
  unfold nr
  split
  · exact aw_z (by omega) (by omega)
  · rfl
theorem aw_NT : NT 0 (fun _ => 0) := ⟨by omega, by omega, fun p q a => absurd a bt_zero⟩
theorem aw_CN : CN 0 (fun _ => 0) := fun p a b => by omega
theorem aw_wf : am_wf aw_h0 := by
  intro q k n m e
  refine ⟨fun _ i _ => ?_, fun _ i _ => ?_, fun hk i _ => ?_, fun hk i _ => ?_, fun hk b f hf => ⟨fun _ => ?_, fun _ => ?_, fun hf2 => ?_⟩⟩
  · have := aw_r q i; omega
  · have := aw_r q i; omega
  · have h0 : q ≠ 0 := fun c => by subst c; subst hk; exact absurd e (by intro z; cases z)
    have h1 : q ≠ 1 := fun c => by subst c; subst hk; exact absurd e (by intro z; cases z)
    have h2 : q ≠ 571 := fun c => by subst c; subst hk; exact absurd e (by rw [show am_LY[571]? = some (1, 12, 0) by decide +kernel]; intro z; cases z)
    rw [aw_z (by omega) (by omega)]
    omega
  · have h0 : q ≠ 0 := fun c => by subst c; subst hk; exact absurd e (by intro z; cases z)
    have h1 : q ≠ 1 := fun c => by subst c; subst hk; exact absurd e (by intro z; cases z)
    have h2 : q ≠ 571 := fun c => by subst c; subst hk; exact absurd e (by rw [show am_LY[571]? = some (1, 12, 0) by decide +kernel]; intro z; cases z)
    exact Or.inl (aw_z (by omega) (by omega))
  · have := aw_r q b; omega
  · have := aw_r q b; omega
  · subst hk
    refine Or.inl (aw_z (fun c => ?_) (fun c => ?_))
    · obtain ⟨c1, c2⟩ := c
      have c1 : q = 0 := by omega
      have c2 : b = 18 := by omega
      subst c1
      subst c2
      cases e
      have z : some ((0, 0, 0, 0, 0) : Nat × Nat × Nat × Nat × Int) = some f := hf
      cases z
      exact absurd hf2 (by decide)
    · rcases c with ⟨c1, c2⟩ | ⟨c1, c2⟩
      · have c1 : q = 1 := by omega
        have c2 : b = 5 := by omega
        subst c1
        subst c2
        cases e
        have z : some ((0, 0, 0, 0, 0) : Nat × Nat × Nat × Nat × Int) = some f := hf
        cases z
        exact absurd hf2 (by decide)
      · have c1 : q = 571 := by omega
        have c2 : b = 11 := by omega
        subst c1
        subst c2
        rw [show am_LY[571]? = some (1, 12, 0) by decide +kernel] at e
        cases e
        have z : some ((0, 0, 0, 0, 0) : Nat × Nat × Nat × Nat × Int) = some f := hf
        cases z
        exact absurd hf2 (by decide)
theorem aw_INV : INV aw_h0 := by
  have n7 : nr aw_h0 7 0 = fun _ => 0 := aw_nr (by omega) (by omega) (by omega)
  have n572 : nr aw_h0 572 2 = fun _ => 0 := aw_nr (by omega) (by omega) (by omega)
  have e6 : aw_h0 6 0 = 0 := aw_z (by omega) (by omega)
  have e572 : aw_h0 572 0 = 0 := aw_z (by omega) (by omega)
  refine INV_new (g := aw_h0) ⟨⟨⟨aw_z (by omega) (by omega), aw_z (by omega) (by omega), aw_z (by omega) (by omega)⟩, aw_z (by omega) (by omega), aw_z (by omega) (by omega), if_pos ⟨rfl, rfl⟩⟩, fun p a b => ?_, ?_, ?_⟩ (fun _ _ _ => rfl) ⟨?_, ?_, fun q => ?_⟩ ⟨by rw [e6, e572], by rw [n7, n572]⟩ ⟨⟨⟨?_, ?_⟩, ?_, fun i a b => ?_⟩, ⟨?_, ⟨⟨?_, ?_⟩, fun j a b => ?_⟩, fun i a b => ?_, ?_, ?_⟩, ⟨⟨?_, ?_⟩, ⟨?_, ?_⟩, fun i a b => ?_, fun i a b => ?_⟩, fun k a b => Or.inl ⟨aw_z (by omega) (by omega), ?_⟩⟩
  · rw [aw_z (by omega) (by omega)]; exact ⟨by omega, by omega⟩
  · rw [e6, n7]; exact aw_NT
  · rw [e6, n7]; exact aw_CN
  · rw [e572, n572]; exact aw_NT
  · rw [e572, n572]; exact aw_CN
  · rw [aw_z (by omega) (by omega)] at q; cases q
  · rw [aw_z (by omega) (by omega)]; omega
  · rw [aw_z (by omega) (by omega)]; omega
  · rw [aw_z (by omega) (by omega), aw_z (by omega) (by omega)]
  · rw [aw_z (by omega) (by omega), aw_z (by omega) (by omega)]
  · rw [aw_z (by omega) (by omega), aw_z (by omega) (by omega)]
  · rw [aw_z (by omega) (by omega)]; omega
  · rw [aw_z (by omega) (by omega)]; omega
  · rw [aw_z (by omega) (by omega)]; omega
  · rw [aw_z (by omega) (by omega), aw_z (by omega) (by omega)]
  · rw [aw_z (by omega) (by omega), aw_z (by omega) (by omega)]
  · rfl
  · rw [aw_z (by omega) (by omega)]; omega
  · rw [aw_z (by omega) (by omega)]; omega
  · rw [aw_z (by omega) (by omega), aw_z (by omega) (by omega)]
  · rw [aw_z (by omega) (by omega), aw_z (by omega) (by omega)]
  · rw [aw_z (by omega) (by omega)] at b; omega
  · rw [aw_z (by omega) (by omega)] at b; omega
  · have pa : am_pa k = 499 + 24 * k := rfl
    exact aw_z (by omega) (by omega)
