/-! ===== laysFar of an empty net (any memory that holds the reference) ===== -/
section RIY
variable {d pc : Nat} {X : Option (List Int32)} {t t' : ri_T} {lv : ri_L} {st : List Value} {M : ri_M} {k n : Nat} {r : Option Value × ri_M × Nat × Nat}
theorem ri_is {q a b c0 d0 : Nat} {xs : List Int32} {rest : List Value} {i x : Int32} (ht : t.1[pc]? = some (some (.iastore, a, b, c0, d0))) (hM : M[q]? = some (.inl (0, .inl xs))) (hq : q < 1000000) (hi : ¬ i < 0) (hlt : i.toNatClampNeg < xs.length) (h : ri_ev d X t (pc + 1, lv, rest, M.set q (.inl (0, .inl (xs.set i.toNatClampNeg x))), k, n) r) : ri_ev d X t (pc, lv, .int x :: .int i :: .ref q :: rest, M, k, n) r := by
  refine ri_nx ht (?_ : ((match (generalizing := false) M[q]? with | some (.inl (t, .inl xs)) => if t = 0 ∧ q < 1000000 ∧ ¬ i < 0 ∧ i.toNatClampNeg < xs.length then some (.inl (pc + 1, lv, rest, M.set q (.inl (t, .inl (xs.set i.toNatClampNeg x))), k, n)) else none | _ => none) : Option ri_X) = _) h
  rw [hM]
  simp [hq, hi, hlt]
theorem ri_pf {q a b c0 d0 idx : Nat} {fs rest : List Value} {v : Value} (ht : t.1[pc]? = some (some (.putfield idx, a, b, c0, d0))) (hM : M[q]? = some (.inr (a, fs))) (hq : q < 1000000) (hb : b < fs.length) (hf : ri_fit d0 v = true) (h : ri_ev d X t (pc + 3, lv, rest, M.set q (.inr (a, fs.set b v)), k, n) r) : ri_ev d X t (pc, lv, v :: .ref q :: rest, M, k, n) r := by
  refine ri_nx ht (?_ : ((match (generalizing := false) M[q]? with | some (.inr (ci, fs)) => if ci = a ∧ q < 1000000 ∧ b < fs.length ∧ ri_fit d0 v = true then some (.inl (pc + 3, lv, rest, M.set q (.inr (ci, fs.set b v)), k, n)) else none | _ => none) : Option ri_X) = _) h
  rw [hM]
  simp [hq, hb, hf]
theorem ri_same {α : Type} {l : List α} {q : Nat} {x : α} (h : l[q]? = some x) : l.set q x = l := by
  apply List.ext_getElem?
  intro i
  by_cases e : q = i
  · subst e
    rw [List.getElem?_set_self (List.getElem?_eq_some_iff.mp h).1, h]
  · rw [List.getElem?_set_ne e]
theorem ri_pfs {q a b c0 d0 idx : Nat} {fs rest : List Value} {v : Value} (ht : t.1[pc]? = some (some (.putfield idx, a, b, c0, d0))) (hM : M[q]? = some (.inr (a, fs))) (hq : q < 1000000) (hv : fs[b]? = some v) (hf : ri_fit d0 v = true) (h : ri_ev d X t (pc + 3, lv, rest, M, k, n) r) : ri_ev d X t (pc, lv, v :: .ref q :: rest, M, k, n) r := by
  refine ri_pf ht hM hq (List.getElem?_eq_some_iff.mp hv).1 hf ?_
  rw [ri_same hv, ri_same hM]
  exact h
theorem ri_iss {q a b c0 d0 : Nat} {xs : List Int32} {rest : List Value} {i x : Int32} (ht : t.1[pc]? = some (some (.iastore, a, b, c0, d0))) (hM : M[q]? = some (.inl (0, .inl xs))) (hq : q < 1000000) (hi : ¬ i < 0) (hv : xs[i.toNatClampNeg]? = some x) (h : ri_ev d X t (pc + 1, lv, rest, M, k, n) r) : ri_ev d X t (pc, lv, .int x :: .int i :: .ref q :: rest, M, k, n) r := by
  refine ri_is ht hM hq hi (List.getElem?_eq_some_iff.mp hv).1 ?_
  rw [ri_same hv, ri_same hM]
  exact h
end RIY
theorem ri_set_at {M : ri_M} {q : Nat} {c0 c : ri_C} (h : M[q]? = some c0) : (M.set q c)[q]? = some c := by
  rw [List.getElem?_set_self (List.getElem?_eq_some_iff.mp h).1]
theorem ri_set_ne {M : ri_M} {q q1 : Nat} {c : ri_C} (h : q1 ≠ q) : (M.set q c)[q1]? = M[q1]? := List.getElem?_set_ne (Ne.symm h)
theorem lf_nz : ∀ a, a < 20 → ¬ Int32.ofInt 1 <<< (nI a &&& 31) = 0 := by decide +kernel
theorem lf_20 : (Int8.ofInt 20).toInt32 = nI 20 := by decide
theorem lf_ix (a b : Nat) : (Int8.ofInt 20).toInt32 * nI a + nI b = nI (20 * a + b) := by
  rw [lf_20, ← nI_add]
  congr 1
  exact (Int32.ofNat_mul 20 a).symm
theorem lf_and (x : Int32) : Int32.ofInt 0 &&& x = 0 := by
  rw [show Int32.ofInt 0 = 0 by decide]
  exact Int32.zero_and
set_option maxRecDepth 20000 in
theorem lf_inA {d qm qf : Nat} {M : ri_M} {fs : List Value} {fr : List Int32} {a b : Nat} {l s : Int32} (hm : M[qm]? = some (.inr (12, fs))) (f18 : fs[18]? = some (.ref qf)) (hf : M[qf]? = some (.inl (0, .inl fr))) (n1 : qm ≠ qf) (s0 : qm < 1000000) (s1 : qf < 1000000) (ha : a < 20) (hfr : fr.length = 400) (hb : b < 20) :
    ∃ (M' : ri_M) (gr : List Int32), M'[qf]? = some (.inl (0, .inl gr)) ∧ gr.length = 400 ∧ (∀ q, q ≠ qf → M'[q]? = M[q]?) ∧ M'.length = M.length ∧ ∀ r, ri_ev d none (tb211, 7, 0) (17, (4, .int (nI (b + 1))) :: (3, .int l) :: (2, .int s) :: (1, .int (nI a)) :: [(0, .ref qm)], [], M', 0, 0) r → ri_ev d none (tb211, 7, 0) (17, (4, .int (nI b)) :: (3, .int l) :: (2, .int s) :: (1, .int (nI a)) :: [(0, .ref qm)], [], M, 0, 0) r := by
  have hi : ¬ (Int8.ofInt 20).toInt32 * nI a + nI b < 0 := by rw [lf_ix]; exact nI_pos (by omega)
  have hlt : ((Int8.ofInt 20).toInt32 * nI a + nI b).toNatClampNeg < fr.length := by rw [lf_ix, nI_clamp (by omega), hfr]; omega
  have hge : ¬ (Int8.ofInt 20).toInt32 ≤ nI b := by rw [lf_20]; exact nI_ge hb (by omega)
  by_cases e : nI a = nI b
  · refine ⟨M.set qf (.inl (0, .inl (fr.set ((Int8.ofInt 20).toInt32 * nI a + nI b).toNatClampNeg (Int32.ofInt 0)))), fr.set ((Int8.ofInt 20).toInt32 * nI a + nI b).toNatClampNeg (Int32.ofInt 0), ri_set_at hf, by simpa using hfr, fun q hq => ri_set_ne hq, by simp, fun r h => ?_⟩
    refine ri_nx rfl rfl ?_
    refine ri_nx rfl rfl ?_
    refine ri_nx rfl (if_neg hge) ?_
    refine ri_nx rfl rfl ?_
    refine ri_gf rfl hm s0 f18 ?_
    refine ri_nx rfl rfl ?_
    refine ri_nx rfl rfl ?_
    refine ri_nx rfl rfl ?_
    refine ri_nx rfl rfl ?_
    refine ri_nx rfl rfl ?_
    refine ri_nx rfl rfl ?_
    refine ri_nx rfl rfl ?_
    refine ri_nx rfl (if_neg (fun q => q e)) ?_
    refine ri_nx rfl rfl ?_
    refine ri_nx rfl rfl ?_
    refine ri_is rfl hf s1 hi hlt ?_
    refine ri_nx rfl rfl ?_
    refine ri_nx rfl rfl ?_
    rw [nI_succ] at h
    exact h
  · refine ⟨M.set qf (.inl (0, .inl (fr.set ((Int8.ofInt 20).toInt32 * nI a + nI b).toNatClampNeg (Int16.ofInt 1000).toInt32))), fr.set ((Int8.ofInt 20).toInt32 * nI a + nI b).toNatClampNeg (Int16.ofInt 1000).toInt32, ri_set_at hf, by simpa using hfr, fun q hq => ri_set_ne hq, by simp, fun r h => ?_⟩
    refine ri_nx rfl rfl ?_
    refine ri_nx rfl rfl ?_
    refine ri_nx rfl (if_neg hge) ?_
    refine ri_nx rfl rfl ?_
    refine ri_gf rfl hm s0 f18 ?_
    refine ri_nx rfl rfl ?_
    refine ri_nx rfl rfl ?_
    refine ri_nx rfl rfl ?_
    refine ri_nx rfl rfl ?_
    refine ri_nx rfl rfl ?_
    refine ri_nx rfl rfl ?_
    refine ri_nx rfl rfl ?_
    refine ri_nx rfl (if_pos e) ?_
    refine ri_nx rfl rfl ?_
    refine ri_is rfl hf s1 hi hlt ?_
    refine ri_nx rfl rfl ?_
    refine ri_nx rfl rfl ?_
    rw [nI_succ] at h
    exact h
theorem lf_inlA {d qm qf : Nat} {fs : List Value} {a : Nat} {l s : Int32} (f18 : fs[18]? = some (.ref qf)) (n1 : qm ≠ qf) (s0 : qm < 1000000) (s1 : qf < 1000000) (ha : a < 20) : ∀ (m b : Nat) (M : ri_M) (fr : List Int32), b + m = 20 → M[qm]? = some (.inr (12, fs)) → M[qf]? = some (.inl (0, .inl fr)) → fr.length = 400 →
    ∃ (M' : ri_M) (gr : List Int32), M'[qf]? = some (.inl (0, .inl gr)) ∧ gr.length = 400 ∧ (∀ q, q ≠ qf → M'[q]? = M[q]?) ∧ M'.length = M.length ∧ ∀ r, ri_ev d none (tb211, 7, 0) (17, (4, .int (nI 20)) :: (3, .int l) :: (2, .int s) :: (1, .int (nI a)) :: [(0, .ref qm)], [], M', 0, 0) r → ri_ev d none (tb211, 7, 0) (17, (4, .int (nI b)) :: (3, .int l) :: (2, .int s) :: (1, .int (nI a)) :: [(0, .ref qm)], [], M, 0, 0) r
  | 0, b, M, fr, hb, hm, hf, hfr => ⟨M, fr, hf, hfr, fun _ _ => rfl, rfl, fun r h => by rw [show b = 20 by omega]; exact h⟩
  | m + 1, b, M, fr, hb, hm, hf, hfr => by
    obtain ⟨M1, gr, a1, a2, a3, a4, a5⟩ := lf_inA (d := d) (l := l) (s := s) hm f18 hf n1 s0 s1 ha hfr (show b < 20 by omega)
    obtain ⟨M2, hr, b1, b2, b3, b4, b5⟩ := lf_inlA (d := d) (l := l) (s := s) f18 n1 s0 s1 ha m (b + 1) M1 gr (by omega) ((a3 qm n1).trans hm) a1 a2
    exact ⟨M2, hr, b1, b2, fun q hq => by rw [b3 q hq, a3 q hq], by omega, fun r h => a5 r (b5 r h)⟩
set_option maxRecDepth 20000 in
theorem lf_outA {d qm qf : Nat} {M : ri_M} {fs : List Value} {fr : List Int32} {ms : List Int32} {qe a : Nat} (hm : M[qm]? = some (.inr (12, fs))) (f0 : fs[0]? = some (.ref qe)) (f18 : fs[18]? = some (.ref qf)) (he : M[qe]? = some (.inl (0, .inl ms))) (he0 : ms[0]? = some 0) (hf : M[qf]? = some (.inl (0, .inl fr))) (n1 : qm ≠ qf) (n2 : qe ≠ qf) (s0 : qm < 1000000) (s1 : qf < 1000000) (s2 : qe < 1000000) (ha : a < 20) (hfr : fr.length = 400) :
    ∃ (M' : ri_M) (gr : List Int32) (y4 y6 y2 y3 y5 : Int32), M'[qf]? = some (.inl (0, .inl gr)) ∧ gr.length = 400 ∧ (∀ q, q ≠ qf → M'[q]? = M[q]?) ∧ M'.length = M.length ∧ ∀ r, ri_ev d none (tb211, 7, 0) (2, [(1, .int (nI (a + 1))), (4, .int y4), (6, .int y6), (2, .int y2), (3, .int y3), (5, .int y5), (0, .ref qm)], [], M', 0, 0) r → ri_ev d none (tb211, 7, 0) (2, [(1, .int (nI a)), (0, .ref qm)], [], M, 0, 0) r := by
  obtain ⟨M1, gr, a1, a2, a3, a4, a5⟩ := lf_inlA (d := d) (l := Int32.ofInt 1 <<< (nI a &&& 31)) (s := Int32.ofInt 1 <<< (nI a &&& 31)) f18 n1 s0 s1 ha 20 0 M fr rfl hm hf hfr
  have hm1 := (a3 qm n1).trans hm
  have he1 := (a3 qe n2).trans he
  refine ⟨M1, gr, Int32.ofInt 1 + Int32.ofInt 1, Int32.ofInt 0, (Int32.ofInt 1 <<< (nI a &&& 31)) ||| Int32.ofInt 0, Int32.ofInt 0 &&& ((Int32.ofInt 1 <<< (nI a &&& 31)) ^^^ Int32.ofInt (-1)), Int32.ofInt 0, a1, a2, a3, a4, fun r h => ?_⟩
  refine ri_nx rfl rfl ?_
  refine ri_nx rfl rfl ?_
  refine ri_nx rfl (if_neg (by rw [lf_20]; exact nI_ge ha (by omega))) ?_
  refine ri_nx rfl rfl ?_
  refine ri_nx rfl rfl ?_
  refine ri_nx rfl rfl ?_
  refine ri_nx rfl rfl ?_
  refine ri_nx rfl rfl ?_
  refine ri_nx rfl rfl ?_
  refine ri_nx rfl rfl ?_
  refine ri_nx rfl rfl ?_
  refine a5 _ ?_
  refine ri_nx rfl rfl ?_
  refine ri_nx rfl rfl ?_
  refine ri_nx rfl rfl ?_
  refine ri_nx rfl rfl ?_
  refine ri_nx rfl rfl ?_
  refine ri_nx rfl rfl ?_
  refine ri_nx rfl (if_neg (lf_nz a ha)) ?_
  refine ri_nx rfl rfl ?_
  refine ri_nx rfl rfl ?_
  refine ri_nx rfl rfl ?_
  refine ri_nx rfl rfl ?_
  refine ri_nx rfl rfl ?_
  refine ri_nx rfl rfl ?_
  refine ri_gf rfl hm1 s0 f0 ?_
  refine ri_nx rfl rfl ?_
  refine ri_ia rfl he1 s2 (by decide) he0 ?_
  refine ri_nx rfl rfl ?_
  refine ri_nx rfl rfl ?_
  refine ri_nx rfl rfl ?_
  refine ri_nx rfl rfl ?_
  refine ri_nx rfl rfl ?_
  refine ri_nx rfl rfl ?_
  refine ri_nx rfl rfl ?_
  refine ri_nx rfl rfl ?_
  refine ri_nx rfl rfl ?_
  refine ri_nx rfl rfl ?_
  refine ri_nx rfl rfl ?_
  refine ri_nx rfl rfl ?_
  refine ri_nx rfl rfl ?_
  refine ri_nx rfl rfl ?_
  refine ri_nx rfl rfl ?_
  refine ri_gf rfl hm1 s0 f0 ?_
  refine ri_nx rfl rfl ?_
  refine ri_ia rfl he1 s2 (by decide) he0 ?_
  refine ri_nx rfl rfl ?_
  refine ri_nx rfl rfl ?_
  refine ri_nx rfl rfl ?_
  refine ri_nx rfl rfl ?_
  refine ri_nx rfl (if_pos (lf_and _)) ?_
  refine ri_nx rfl rfl ?_
  refine ri_nx rfl rfl ?_
  rw [nI_succ] at h
  exact h
set_option maxRecDepth 20000 in
theorem lf_inB {d qm qf : Nat} {M : ri_M} {fs : List Value} {fr : List Int32} {a b : Nat} {l s : Int32} {x6 x5 : Int32} (hm : M[qm]? = some (.inr (12, fs))) (f18 : fs[18]? = some (.ref qf)) (hf : M[qf]? = some (.inl (0, .inl fr))) (n1 : qm ≠ qf) (s0 : qm < 1000000) (s1 : qf < 1000000) (ha : a < 20) (hfr : fr.length = 400) (hb : b < 20) :
    ∃ (M' : ri_M) (gr : List Int32), M'[qf]? = some (.inl (0, .inl gr)) ∧ gr.length = 400 ∧ (∀ q, q ≠ qf → M'[q]? = M[q]?) ∧ M'.length = M.length ∧ ∀ r, ri_ev d none (tb211, 7, 0) (17, (4, .int (nI (b + 1))) :: (3, .int l) :: (2, .int s) :: (1, .int (nI a)) :: [(6, .int x6), (5, .int x5), (0, .ref qm)], [], M', 0, 0) r → ri_ev d none (tb211, 7, 0) (17, (4, .int (nI b)) :: (3, .int l) :: (2, .int s) :: (1, .int (nI a)) :: [(6, .int x6), (5, .int x5), (0, .ref qm)], [], M, 0, 0) r := by
  have hi : ¬ (Int8.ofInt 20).toInt32 * nI a + nI b < 0 := by rw [lf_ix]; exact nI_pos (by omega)
  have hlt : ((Int8.ofInt 20).toInt32 * nI a + nI b).toNatClampNeg < fr.length := by rw [lf_ix, nI_clamp (by omega), hfr]; omega
  have hge : ¬ (Int8.ofInt 20).toInt32 ≤ nI b := by rw [lf_20]; exact nI_ge hb (by omega)
  by_cases e : nI a = nI b
  · refine ⟨M.set qf (.inl (0, .inl (fr.set ((Int8.ofInt 20).toInt32 * nI a + nI b).toNatClampNeg (Int32.ofInt 0)))), fr.set ((Int8.ofInt 20).toInt32 * nI a + nI b).toNatClampNeg (Int32.ofInt 0), ri_set_at hf, by simpa using hfr, fun q hq => ri_set_ne hq, by simp, fun r h => ?_⟩
    refine ri_nx rfl rfl ?_
    refine ri_nx rfl rfl ?_
    refine ri_nx rfl (if_neg hge) ?_
    refine ri_nx rfl rfl ?_
    refine ri_gf rfl hm s0 f18 ?_
    refine ri_nx rfl rfl ?_
    refine ri_nx rfl rfl ?_
    refine ri_nx rfl rfl ?_
    refine ri_nx rfl rfl ?_
    refine ri_nx rfl rfl ?_
    refine ri_nx rfl rfl ?_
    refine ri_nx rfl rfl ?_
    refine ri_nx rfl (if_neg (fun q => q e)) ?_
    refine ri_nx rfl rfl ?_
    refine ri_nx rfl rfl ?_
    refine ri_is rfl hf s1 hi hlt ?_
    refine ri_nx rfl rfl ?_
    refine ri_nx rfl rfl ?_
    rw [nI_succ] at h
    exact h
  · refine ⟨M.set qf (.inl (0, .inl (fr.set ((Int8.ofInt 20).toInt32 * nI a + nI b).toNatClampNeg (Int16.ofInt 1000).toInt32))), fr.set ((Int8.ofInt 20).toInt32 * nI a + nI b).toNatClampNeg (Int16.ofInt 1000).toInt32, ri_set_at hf, by simpa using hfr, fun q hq => ri_set_ne hq, by simp, fun r h => ?_⟩
    refine ri_nx rfl rfl ?_
    refine ri_nx rfl rfl ?_
    refine ri_nx rfl (if_neg hge) ?_
    refine ri_nx rfl rfl ?_
    refine ri_gf rfl hm s0 f18 ?_
    refine ri_nx rfl rfl ?_
    refine ri_nx rfl rfl ?_
    refine ri_nx rfl rfl ?_
    refine ri_nx rfl rfl ?_
    refine ri_nx rfl rfl ?_
    refine ri_nx rfl rfl ?_
    refine ri_nx rfl rfl ?_
    refine ri_nx rfl (if_pos e) ?_
    refine ri_nx rfl rfl ?_
    refine ri_is rfl hf s1 hi hlt ?_
    refine ri_nx rfl rfl ?_
    refine ri_nx rfl rfl ?_
    rw [nI_succ] at h
    exact h
theorem lf_inlB {d qm qf : Nat} {fs : List Value} {a : Nat} {l s : Int32} {x6 x5 : Int32} (f18 : fs[18]? = some (.ref qf)) (n1 : qm ≠ qf) (s0 : qm < 1000000) (s1 : qf < 1000000) (ha : a < 20) : ∀ (m b : Nat) (M : ri_M) (fr : List Int32), b + m = 20 → M[qm]? = some (.inr (12, fs)) → M[qf]? = some (.inl (0, .inl fr)) → fr.length = 400 →
    ∃ (M' : ri_M) (gr : List Int32), M'[qf]? = some (.inl (0, .inl gr)) ∧ gr.length = 400 ∧ (∀ q, q ≠ qf → M'[q]? = M[q]?) ∧ M'.length = M.length ∧ ∀ r, ri_ev d none (tb211, 7, 0) (17, (4, .int (nI 20)) :: (3, .int l) :: (2, .int s) :: (1, .int (nI a)) :: [(6, .int x6), (5, .int x5), (0, .ref qm)], [], M', 0, 0) r → ri_ev d none (tb211, 7, 0) (17, (4, .int (nI b)) :: (3, .int l) :: (2, .int s) :: (1, .int (nI a)) :: [(6, .int x6), (5, .int x5), (0, .ref qm)], [], M, 0, 0) r
  | 0, b, M, fr, hb, hm, hf, hfr => ⟨M, fr, hf, hfr, fun _ _ => rfl, rfl, fun r h => by rw [show b = 20 by omega]; exact h⟩
  | m + 1, b, M, fr, hb, hm, hf, hfr => by
    obtain ⟨M1, gr, a1, a2, a3, a4, a5⟩ := lf_inB (d := d) (l := l) (s := s) (x6 := x6) (x5 := x5) hm f18 hf n1 s0 s1 ha hfr (show b < 20 by omega)
    obtain ⟨M2, hr, b1, b2, b3, b4, b5⟩ := lf_inlB (d := d) (l := l) (s := s) (x6 := x6) (x5 := x5) f18 n1 s0 s1 ha m (b + 1) M1 gr (by omega) ((a3 qm n1).trans hm) a1 a2
    exact ⟨M2, hr, b1, b2, fun q hq => by rw [b3 q hq, a3 q hq], by omega, fun r h => a5 r (b5 r h)⟩
set_option maxRecDepth 20000 in
theorem lf_outB {d qm qf : Nat} {M : ri_M} {fs : List Value} {fr : List Int32} {ms : List Int32} {qe a : Nat} {x4 x6 x2 x3 x5 : Int32} (hm : M[qm]? = some (.inr (12, fs))) (f0 : fs[0]? = some (.ref qe)) (f18 : fs[18]? = some (.ref qf)) (he : M[qe]? = some (.inl (0, .inl ms))) (he0 : ms[0]? = some 0) (hf : M[qf]? = some (.inl (0, .inl fr))) (n1 : qm ≠ qf) (n2 : qe ≠ qf) (s0 : qm < 1000000) (s1 : qf < 1000000) (s2 : qe < 1000000) (ha : a < 20) (hfr : fr.length = 400) :
    ∃ (M' : ri_M) (gr : List Int32) (y4 y6 y2 y3 y5 : Int32), M'[qf]? = some (.inl (0, .inl gr)) ∧ gr.length = 400 ∧ (∀ q, q ≠ qf → M'[q]? = M[q]?) ∧ M'.length = M.length ∧ ∀ r, ri_ev d none (tb211, 7, 0) (2, [(1, .int (nI (a + 1))), (4, .int y4), (6, .int y6), (2, .int y2), (3, .int y3), (5, .int y5), (0, .ref qm)], [], M', 0, 0) r → ri_ev d none (tb211, 7, 0) (2, [(1, .int (nI a)), (4, .int x4), (6, .int x6), (2, .int x2), (3, .int x3), (5, .int x5), (0, .ref qm)], [], M, 0, 0) r := by
  obtain ⟨M1, gr, a1, a2, a3, a4, a5⟩ := lf_inlB (d := d) (l := Int32.ofInt 1 <<< (nI a &&& 31)) (s := Int32.ofInt 1 <<< (nI a &&& 31)) (x6 := x6) (x5 := x5) f18 n1 s0 s1 ha 20 0 M fr rfl hm hf hfr
  have hm1 := (a3 qm n1).trans hm
  have he1 := (a3 qe n2).trans he
  refine ⟨M1, gr, Int32.ofInt 1 + Int32.ofInt 1, Int32.ofInt 0, (Int32.ofInt 1 <<< (nI a &&& 31)) ||| Int32.ofInt 0, Int32.ofInt 0 &&& ((Int32.ofInt 1 <<< (nI a &&& 31)) ^^^ Int32.ofInt (-1)), Int32.ofInt 0, a1, a2, a3, a4, fun r h => ?_⟩
  refine ri_nx rfl rfl ?_
  refine ri_nx rfl rfl ?_
  refine ri_nx rfl (if_neg (by rw [lf_20]; exact nI_ge ha (by omega))) ?_
  refine ri_nx rfl rfl ?_
  refine ri_nx rfl rfl ?_
  refine ri_nx rfl rfl ?_
  refine ri_nx rfl rfl ?_
  refine ri_nx rfl rfl ?_
  refine ri_nx rfl rfl ?_
  refine ri_nx rfl rfl ?_
  refine ri_nx rfl rfl ?_
  refine a5 _ ?_
  refine ri_nx rfl rfl ?_
  refine ri_nx rfl rfl ?_
  refine ri_nx rfl rfl ?_
  refine ri_nx rfl rfl ?_
  refine ri_nx rfl rfl ?_
  refine ri_nx rfl rfl ?_
  refine ri_nx rfl (if_neg (lf_nz a ha)) ?_
  refine ri_nx rfl rfl ?_
  refine ri_nx rfl rfl ?_
  refine ri_nx rfl rfl ?_
  refine ri_nx rfl rfl ?_
  refine ri_nx rfl rfl ?_
  refine ri_nx rfl rfl ?_
  refine ri_gf rfl hm1 s0 f0 ?_
  refine ri_nx rfl rfl ?_
  refine ri_ia rfl he1 s2 (by decide) he0 ?_
  refine ri_nx rfl rfl ?_
  refine ri_nx rfl rfl ?_
  refine ri_nx rfl rfl ?_
  refine ri_nx rfl rfl ?_
  refine ri_nx rfl rfl ?_
  refine ri_nx rfl rfl ?_
  refine ri_nx rfl rfl ?_
  refine ri_nx rfl rfl ?_
  refine ri_nx rfl rfl ?_
  refine ri_nx rfl rfl ?_
  refine ri_nx rfl rfl ?_
  refine ri_nx rfl rfl ?_
  refine ri_nx rfl rfl ?_
  refine ri_nx rfl rfl ?_
  refine ri_nx rfl rfl ?_
  refine ri_gf rfl hm1 s0 f0 ?_
  refine ri_nx rfl rfl ?_
  refine ri_ia rfl he1 s2 (by decide) he0 ?_
  refine ri_nx rfl rfl ?_
  refine ri_nx rfl rfl ?_
  refine ri_nx rfl rfl ?_
  refine ri_nx rfl rfl ?_
  refine ri_nx rfl (if_pos (lf_and _)) ?_
  refine ri_nx rfl rfl ?_
  refine ri_nx rfl rfl ?_
  rw [nI_succ] at h
  exact h
theorem lf_loop {d qm qf qe : Nat} {fs : List Value} {ms : List Int32} (f0 : fs[0]? = some (.ref qe)) (f18 : fs[18]? = some (.ref qf)) (he0 : ms[0]? = some 0) (n1 : qm ≠ qf) (n2 : qe ≠ qf) (s0 : qm < 1000000) (s1 : qf < 1000000) (s2 : qe < 1000000) : ∀ (m a : Nat) (M : ri_M) (fr : List Int32) (x4 x6 x2 x3 x5 : Int32), a + m = 20 → M[qm]? = some (.inr (12, fs)) → M[qe]? = some (.inl (0, .inl ms)) → M[qf]? = some (.inl (0, .inl fr)) → fr.length = 400 →
    ∃ (M' : ri_M) (gr : List Int32), M'[qf]? = some (.inl (0, .inl gr)) ∧ gr.length = 400 ∧ (∀ q, q ≠ qf → M'[q]? = M[q]?) ∧ M'.length = M.length ∧ ri_ev d none (tb211, 7, 0) (2, [(1, .int (nI a)), (4, .int x4), (6, .int x6), (2, .int x2), (3, .int x3), (5, .int x5), (0, .ref qm)], [], M, 0, 0) (none, M', 0, 0)
  | 0, a, M, fr, x4, x6, x2, x3, x5, ha, hm, he, hf, hfr => by
    refine ⟨M, fr, hf, hfr, fun _ _ => rfl, rfl, ?_⟩
    rw [show a = 20 by omega]
    refine ri_nx rfl rfl ?_
    refine ri_nx rfl rfl ?_
    refine ri_nx rfl rfl ?_
    exact ri_rt rfl rfl
  | m + 1, a, M, fr, x4, x6, x2, x3, x5, ha, hm, he, hf, hfr => by
    obtain ⟨M1, gr, y4, y6, y2, y3, y5, a1, a2, a3, a4, a5⟩ := lf_outB (d := d) (x4 := x4) (x6 := x6) (x2 := x2) (x3 := x3) (x5 := x5) hm f0 f18 he he0 hf n1 n2 s0 s1 s2 (show a < 20 by omega) hfr
    obtain ⟨M2, hr, b1, b2, b3, b4, b5⟩ := lf_loop (d := d) f0 f18 he0 n1 n2 s0 s1 s2 m (a + 1) M1 gr y4 y6 y2 y3 y5 (by omega) ((a3 qm n1).trans hm) ((a3 qe n2).trans he) a1 a2
    exact ⟨M2, hr, b1, b2, fun q hq => by rw [b3 q hq, a3 q hq], by omega, a5 _ b5⟩
theorem lf_run {d qm qf qe : Nat} {fs : List Value} {ms fr : List Int32} {M : ri_M} (hm : M[qm]? = some (.inr (12, fs))) (f0 : fs[0]? = some (.ref qe)) (f18 : fs[18]? = some (.ref qf)) (he : M[qe]? = some (.inl (0, .inl ms))) (he0 : ms[0]? = some 0) (hf : M[qf]? = some (.inl (0, .inl fr))) (n1 : qm ≠ qf) (n2 : qe ≠ qf) (s0 : qm < 1000000) (s1 : qf < 1000000) (s2 : qe < 1000000) (hfr : fr.length = 400) :
    ∃ (M' : ri_M) (gr : List Int32), M'[qf]? = some (.inl (0, .inl gr)) ∧ gr.length = 400 ∧ (∀ q, q ≠ qf → M'[q]? = M[q]?) ∧ M'.length = M.length ∧ ri_ev d none (tb211, 7, 0) (0, lv_args 0 [.ref qm], [], M, 0, 0) (none, M', 0, 0) := by
  obtain ⟨M1, gr, y4, y6, y2, y3, y5, a1, a2, a3, a4, a5⟩ := lf_outA (d := d) (a := 0) hm f0 f18 he he0 hf n1 n2 s0 s1 s2 (by decide) hfr
  obtain ⟨M2, hr, b1, b2, b3, b4, b5⟩ := lf_loop (d := d) f0 f18 he0 n1 n2 s0 s1 s2 19 (0 + 1) M1 gr y4 y6 y2 y3 y5 rfl ((a3 qm n1).trans hm) ((a3 qe n2).trans he) a1 a2
  refine ⟨M2, hr, b1, b2, fun q hq => by rw [b3 q hq, a3 q hq], by omega, ?_⟩
  refine ri_nx rfl rfl ?_
  refine ri_nx rfl rfl ?_
  exact a5 _ b5
