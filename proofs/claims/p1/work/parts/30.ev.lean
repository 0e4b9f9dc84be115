/-! ===== runs: fuel and depth don't matter; rules to walk by ===== -/
section RIE
variable {P : Nat → Option ri_T} {Fd : List (List Value)}
theorem ri_mono : ∀ (f d : Nat) (X : Option (List Int32)) (t : ri_T) (F : ri_F) (r : Option Value × ri_M × Nat × Nat), ri_run P Fd f d X t F = some r → ∀ d1, d ≤ d1 → ri_run P Fd (f + 1) d1 X t F = some r := by
  intro f
  induction f with
  | zero =>
    intro d X t F r h
    simp [ri_run] at h
  | succ f ih =>
    intro d X t F r h d1 hd
    rw [ri_run] at h
    rw [ri_run]
    cases hi : t.1[F.1]? with
    | none => simp [hi] at h
    | some o =>
      cases o with
      | none => simp [hi] at h
      | some i =>
        cases hs : ri_step X Fd t.2.2 i F with
        | none => simp [hi, hs] at h
        | some x =>
          rcases x with F' | ⟨y, as, F'⟩ | v
          · simp only [hi, hs] at h ⊢
            exact ih d X t F' r h d1 hd
          · simp only [hi, hs] at h ⊢
            cases d with
            | zero => cases h
            | succ d0 =>
              cases d1 with
              | zero => omega
              | succ d1 =>
                simp only at h ⊢
                cases hP : P y with
                | none => simp [hP] at h
                | some t' =>
                  simp only [hP] at h ⊢
                  by_cases hc : (as.map (fun v => v.category)).sum ≤ t'.2.1
                  · rw [if_pos hc] at h ⊢
                    cases hcall : ri_run P Fd f d0 none t' (0, lv_args 0 as, [], F'.2.2.2.1, 0, 0) with
                    | none => simp [hcall] at h
                    | some q =>
                      obtain ⟨v, M', k', n'⟩ := q
                      rw [hcall] at h
                      rw [ih d0 none t' _ _ hcall d1 (by omega)]
                      exact ih (d0 + 1) X t _ r h (d1 + 1) hd
                  · rw [if_neg hc] at h
                    cases h
          · simp only [hi, hs] at h ⊢
            exact h
theorem ri_mono2 {f d : Nat} {X : Option (List Int32)} {t : ri_T} {F : ri_F} {r : Option Value × ri_M × Nat × Nat} (h : ri_run P Fd f d X t F = some r) : ∀ (j d1 : Nat), d ≤ d1 → ri_run P Fd (f + 1 + j) d1 X t F = some r := by
  intro j
  induction j with
  | zero => intro d1 hd; exact ri_mono f d X t F r h d1 hd
  | succ j ih => intro d1 hd; exact ri_mono _ _ X t F r (ih d (Nat.le_refl d)) d1 hd
end RIE
def ri_ev (d : Nat) (X : Option (List Int32)) (t : ri_T) (F : ri_F) (r : Option Value × ri_M × Nat × Nat) : Prop := ∃ f, ri_run ri_P ri_Fd f d X t F = some r
section RIV
variable {d pc : Nat} {X : Option (List Int32)} {t t' : ri_T} {lv : ri_L} {st : List Value} {M : ri_M} {k n : Nat} {F' : ri_F} {r : Option Value × ri_M × Nat × Nat} {i : ri_I}
theorem ri_ev_d {F : ri_F} {d1 : Nat} (h : ri_ev d X t F r) (hd : d ≤ d1) : ri_ev d1 X t F r := by
  obtain ⟨f, h⟩ := h
  exact ⟨f + 1, ri_mono f d X t F r h d1 hd⟩
theorem ri_nx (ht : t.1[pc]? = some (some i)) (hs : ri_step X ri_Fd t.2.2 i (pc, lv, st, M, k, n) = some (.inl F')) (h : ri_ev d X t F' r) : ri_ev d X t (pc, lv, st, M, k, n) r := by
  obtain ⟨f, h⟩ := h
  refine ⟨f + 1, ?_⟩
  rw [ri_run]
  simp only [ht, hs]
  exact h
theorem ri_rt {v : Option Value} (ht : t.1[pc]? = some (some i)) (hs : ri_step X ri_Fd t.2.2 i (pc, lv, st, M, k, n) = some (.inr (.inr v))) : ri_ev d X t (pc, lv, st, M, k, n) (v, M, k, n) := by
  refine ⟨1, ?_⟩
  rw [ri_run]
  simp only [ht, hs]
theorem ri_cll {y : Nat} {as : List Value} {v : Option Value} {M' : ri_M} {k' n' : Nat} (ht : t.1[pc]? = some (some i)) (hs : ri_step X ri_Fd t.2.2 i (pc, lv, st, M, k, n) = some (.inr (.inl (y, as, F')))) (hy : ri_P y = some t') (hc : (as.map (fun v => v.category)).sum ≤ t'.2.1)
    (h1 : ri_ev d none t' (0, lv_args 0 as, [], F'.2.2.2.1, 0, 0) (v, M', k', n')) (h2 : ri_ev (d + 1) X t (F'.1, F'.2.1, v.toList ++ F'.2.2.1, M', F'.2.2.2.2.1 + k', F'.2.2.2.2.2 + n') r) : ri_ev (d + 1) X t (pc, lv, st, M, k, n) r := by
  obtain ⟨f1, h1⟩ := h1
  obtain ⟨f2, h2⟩ := h2
  have g1 := ri_mono2 h1 f2 d (Nat.le_refl d)
  have g2 := ri_mono2 h2 f1 (d + 1) (Nat.le_refl _)
  rw [show f2 + 1 + f1 = f1 + 1 + f2 by omega] at g2
  refine ⟨f1 + 1 + f2 + 1, ?_⟩
  rw [ri_run]
  simp only [ht, hs, hy, hc, if_true, g1]
  exact g2
end RIV
section RIW
variable {d pc : Nat} {X : Option (List Int32)} {t t' : ri_T} {lv : ri_L} {st : List Value} {M : ri_M} {k n : Nat} {r : Option Value × ri_M × Nat × Nat}
theorem ri_gf {q a b c0 d0 idx : Nat} {fs rest : List Value} {v : Value} (ht : t.1[pc]? = some (some (.getfield idx, a, b, c0, d0))) (hM : M[q]? = some (.inr (a, fs))) (hq : q < 1000000) (hv : fs[b]? = some v) (h : ri_ev d X t (pc + 3, lv, v :: rest, M, k, n) r) : ri_ev d X t (pc, lv, .ref q :: rest, M, k, n) r := by
  refine ri_nx ht (?_ : ((match (generalizing := false) M[q]? with | some (.inr (ci, fs)) => if ci = a ∧ q < 1000000 then (match (generalizing := false) fs[b]? with | some v => some (.inl (pc + 3, lv, v :: rest, M, k, n)) | none => none) else none | _ => none) : Option ri_X) = _) h
  rw [hM]
  simp [hq, hv]
theorem ri_ia {q a b c0 d0 : Nat} {xs : List Int32} {rest : List Value} {i v : Int32} (ht : t.1[pc]? = some (some (.iaload, a, b, c0, d0))) (hM : M[q]? = some (.inl (0, .inl xs))) (hq : q < 1000000) (hi : ¬ i < 0) (hv : xs[i.toNatClampNeg]? = some v) (h : ri_ev d X t (pc + 1, lv, .int v :: rest, M, k, n) r) : ri_ev d X t (pc, lv, .int i :: .ref q :: rest, M, k, n) r := by
  refine ri_nx ht (?_ : ((match (generalizing := false) M[q]? with | some (.inl (t, .inl xs)) => if t = 0 ∧ q < 1000000 ∧ ¬ i < 0 then (match (generalizing := false) xs[i.toNatClampNeg]? with | some v => some (.inl (pc + 1, lv, .int v :: rest, M, k, n)) | none => none) else none | none => if q = 2000000 ∧ ¬ i < 0 then (match (generalizing := false) X with | some xs => (match (generalizing := false) xs[i.toNatClampNeg]? with | some v => some (.inl (pc + 1, lv, .int v :: rest, M, k, n)) | none => none) | none => none) else none | _ => none) : Option ri_X) = _) h
  rw [hM]
  simp [hq, hv, hi]
theorem ri_scr {a b c0 d0 : Nat} {xs : List Int32} {rest : List Value} {i v : Int32} (ht : t.1[pc]? = some (some (.iaload, a, b, c0, d0))) (hM : M[2000000]? = none) (hi : ¬ i < 0) (hv : xs[i.toNatClampNeg]? = some v) (h : ri_ev d (some xs) t (pc + 1, lv, .int v :: rest, M, k, n) r) : ri_ev d (some xs) t (pc, lv, .int i :: .ref 2000000 :: rest, M, k, n) r := by
  refine ri_nx ht (?_ : ((match (generalizing := false) M[(2000000 : Nat)]? with | some (.inl (t, .inl ys)) => if t = 0 ∧ 2000000 < 1000000 ∧ ¬ i < 0 then (match (generalizing := false) ys[i.toNatClampNeg]? with | some v => some (.inl (pc + 1, lv, .int v :: rest, M, k, n)) | none => none) else none | none => if 2000000 = 2000000 ∧ ¬ i < 0 then (match (generalizing := false) (some xs) with | some xs => (match (generalizing := false) xs[i.toNatClampNeg]? with | some v => some (.inl (pc + 1, lv, .int v :: rest, M, k, n)) | none => none) | none => none) else none | _ => none) : Option ri_X) = _) h
  rw [hM]
  simp [hv, hi]
theorem ri_vc {y n0 dd q idx : Nat} {fs : List Value} {v : Option Value} {M' : ri_M} {k' n' : Nat} (ht : t.1[pc]? = some (some (.invokevirtual idx, y, n0, 0, dd))) (hq : st[n0]? = some (.ref q)) (hM : M[q]? = some (.inr (dd, fs))) (hl : (decide (st.length < n0) || decide (8 < ((st.drop (n0 + 1)).map (fun v => v.category)).sum)) = false) (hq6 : q < 1000000) (hy : ri_P y = some t') (hc : ((Value.ref q :: (st.take n0).reverse).map (fun v => v.category)).sum ≤ t'.2.1)
    (h1 : ri_ev d none t' (0, lv_args 0 (.ref q :: (st.take n0).reverse), [], M, 0, 0) (v, M', k', n')) (h2 : ri_ev (d + 1) X t (pc + 3, lv, v.toList ++ st.drop (n0 + 1), M', k + k', n + n') r) : ri_ev (d + 1) X t (pc, lv, st, M, k, n) r := by
  refine ri_cll ht (?_ : ri_cl y n0 (pc + 3) lv st M k n 2 dd = some (.inr (.inl (y, .ref q :: (st.take n0).reverse, (pc + 3, lv, st.drop (n0 + 1), M, k, n))))) hy hc h1 h2
  rw [Bool.or_eq_false_iff] at hl
  have hl1 := of_decide_eq_false hl.1
  have hl2 := of_decide_eq_false hl.2
  unfold ri_cl
  rw [if_neg (by simp only [show ¬ (2 = 0) by decide, if_false]; exact fun h => h.elim hl1 hl2), if_neg (by decide), hq]
  simp only [hM]
  rw [if_pos ⟨trivial, hq6⟩]
end RIW
