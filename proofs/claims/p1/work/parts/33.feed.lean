/-! ===== feed: the class's, the reference's (any memory that holds the two objects) ===== -/
section RIX
variable {d pc : Nat} {X : Option (List Int32)} {t t' : ri_T} {lv : ri_L} {st : List Value} {M : ri_M} {k n : Nat} {r : Option Value × ri_M × Nat × Nat}
theorem ri_na {L b c0 d0 : Nat} {rest : List Value} {x : Int32} (ht : t.1[pc]? = some (some (.newarray .int, 0, b, c0, d0))) (hL : M.length = L) (hL2 : L < 1000000) (hx : ¬ x < 0) (hx2 : x.toNatClampNeg ≤ 60000) (h : ri_ev d X t (pc + 2, lv, .ref L :: rest, M ++ [.inl (0, .inl (List.replicate x.toNatClampNeg 0))], k + 1, n + x.toNatClampNeg) r) : ri_ev d X t (pc, lv, .int x :: rest, M, k, n) r := by
  refine ri_nx ht (?_ : ((if x < 0 ∨ 1000000 ≤ M.length ∨ 60000 < x.toNatClampNeg then none else if (0 : Nat) = 1 then some (.inl (pc + 2, lv, .ref M.length :: rest, M ++ [.inl (1, .inr (.inl (List.replicate x.toNatClampNeg 0)))], k + 1, n + x.toNatClampNeg)) else some (.inl (pc + 2, lv, .ref M.length :: rest, M ++ [.inl (0, .inl (List.replicate x.toNatClampNeg 0))], k + 1, n + x.toNatClampNeg))) : Option ri_X) = _) h
  rw [hL, if_neg (by rintro (q | q | q); exact hx q; omega; omega), if_neg (by decide)]
end RIX
def ri_b8 (w sh : Int32) : Int32 := (w >>> (sh &&& 31)) &&& (Int16.ofInt 255).toInt32
theorem ri_800 : (Int16.ofInt 800).toInt32 = nI 800 := by decide
theorem ap_body {d j qr qt : Nat} {M : ri_M} {tl : List Value} {xs : List Int32} {w sh : Int32} (hr : M[qr]? = some (.inr (7, .ref qt :: .int (nI j) :: tl))) (ht : M[qt]? = some (.inl (0, .inl xs))) (hne : qr ≠ qt) (h1 : qr < 1000000) (h2 : qt < 1000000) (hj : j < 800) (hx : xs.length = 800) (hsh : ¬ sh < 0) :
    ∃ M' : ri_M, M'[qr]? = some (.inr (7, .ref qt :: .int (nI (j + 1)) :: tl)) ∧ M'[qt]? = some (.inl (0, .inl (xs.set j (ri_b8 w sh)))) ∧ (∀ q, q ≠ qr → q ≠ qt → M'[q]? = M[q]?) ∧ M'.length = M.length ∧
      ∀ r, ri_ev d none (tb52, 3, 0) (3, [(2, .int (sh + Int32.ofInt (-8))), (0, .ref qr), (1, .int w)], [], M', 0, 0) r → ri_ev d none (tb52, 3, 0) (3, [(2, .int sh), (0, .ref qr), (1, .int w)], [], M, 0, 0) r := by
  have hcl : (nI j).toNatClampNeg = j := nI_clamp (by omega)
  have hr1 : (M.set qt (.inl (0, .inl (xs.set j (ri_b8 w sh)))))[qr]? = some (.inr (7, .ref qt :: .int (nI j) :: tl)) := by rw [ri_set_ne hne]; exact hr
  refine ⟨(M.set qt (.inl (0, .inl (xs.set j (ri_b8 w sh))))).set qr (.inr (7, .ref qt :: .int (nI (j + 1)) :: tl)), ri_set_at hr1, ?_, ?_, by simp, fun r h => ?_⟩
  · rw [ri_set_ne (Ne.symm hne), ri_set_at ht]
  · intro q hq1 hq2
    rw [ri_set_ne hq1, ri_set_ne hq2]
  · refine ri_nx rfl rfl ?_
    refine ri_nx rfl (if_neg hsh) ?_
    refine ri_nx rfl rfl ?_
    refine ri_gf rfl hr h1 rfl ?_
    refine ri_nx rfl rfl ?_
    refine ri_nx rfl (if_neg (by rw [ri_800]; exact nI_ge hj (by omega))) ?_
    refine ri_nx rfl rfl ?_
    refine ri_gf rfl hr h1 rfl ?_
    refine ri_nx rfl rfl ?_
    refine ri_gf rfl hr h1 rfl ?_
    refine ri_nx rfl rfl ?_
    refine ri_nx rfl rfl ?_
    refine ri_nx rfl rfl ?_
    refine ri_nx rfl rfl ?_
    refine ri_nx rfl rfl ?_
    refine ri_is rfl ht h2 (nI_pos (by omega)) (by rw [hcl, hx]; exact hj) ?_
    rw [hcl]
    refine ri_nx rfl rfl ?_
    refine ri_nx rfl rfl ?_
    refine ri_gf rfl hr1 h1 rfl ?_
    refine ri_nx rfl rfl ?_
    refine ri_nx rfl rfl ?_
    refine ri_pf rfl hr1 h1 (by simp) rfl ?_
    refine ri_nx rfl rfl ?_
    refine ri_nx rfl rfl ?_
    rw [nI_succ] at h
    exact h
theorem ap_run {d j qr qt : Nat} {M : ri_M} {tl : List Value} {xs : List Int32} {w : Int32} (hr : M[qr]? = some (.inr (7, .ref qt :: .int (nI j) :: tl))) (ht : M[qt]? = some (.inl (0, .inl xs))) (hne : qr ≠ qt) (h1 : qr < 1000000) (h2 : qt < 1000000) (hj : j + 4 ≤ 800) (hx : xs.length = 800) :
    ∃ M' : ri_M, M'[qr]? = some (.inr (7, .ref qt :: .int (nI (j + 4)) :: tl)) ∧ M'[qt]? = some (.inl (0, .inl ((((xs.set j (ri_b8 w 24)).set (j + 1) (ri_b8 w 16)).set (j + 2) (ri_b8 w 8)).set (j + 3) (ri_b8 w 0)))) ∧ (∀ q, q ≠ qr → q ≠ qt → M'[q]? = M[q]?) ∧ M'.length = M.length ∧
      ri_ev d none (tb52, 3, 0) (0, lv_args 0 [.ref qr, .int w], [], M, 0, 0) (none, M', 0, 0) := by
  obtain ⟨M1, a1, a2, a3, a4, a5⟩ := ap_body (d := d) (w := w) (sh := 24) hr ht hne h1 h2 (by omega) hx (by decide)
  obtain ⟨M2, b1, b2, b3, b4, b5⟩ := ap_body (d := d) (w := w) (sh := 16) a1 a2 hne h1 h2 (by omega) (by simpa using hx) (by decide)
  obtain ⟨M3, c1, c2, c3, c4, c5⟩ := ap_body (d := d) (w := w) (sh := 8) b1 b2 hne h1 h2 (by omega) (by simpa using hx) (by decide)
  obtain ⟨M4, d1, d2, d3, d4, d5⟩ := ap_body (d := d) (w := w) (sh := 0) c1 c2 hne h1 h2 (by omega) (by simpa using hx) (by decide)
  refine ⟨M4, d1, d2, fun q e1 e2 => by rw [d3 q e1 e2, c3 q e1 e2, b3 q e1 e2, a3 q e1 e2], by omega, ?_⟩
  refine ri_nx rfl rfl ?_
  refine ri_nx rfl rfl ?_
  refine a5 _ ?_
  refine b5 _ ?_
  refine c5 _ ?_
  refine d5 _ ?_
  refine ri_nx rfl rfl ?_
  refine ri_nx rfl rfl ?_
  exact ri_rt rfl rfl
set_option maxRecDepth 20000 in
theorem xfeed_run {d j q0 qr qt : Nat} {M : ri_M} {tl gs : List Value} {xs : List Int32} {a b c e g : Int32} (h0 : M[q0]? = some (.inr (11, .ref qr :: gs))) (hr : M[qr]? = some (.inr (7, .ref qt :: .int (nI j) :: tl))) (ht : M[qt]? = some (.inl (0, .inl xs))) (n1 : qr ≠ qt) (n2 : q0 ≠ qr) (n3 : q0 ≠ qt) (s0 : q0 < 1000000) (s1 : qr < 1000000) (s2 : qt < 1000000) (hj : j + 20 ≤ 800) (hx : xs.length = 800) :
    ∃ (M' : ri_M) (ys : List Int32), M'[qr]? = some (.inr (7, .ref qt :: .int (nI (j + 20)) :: tl)) ∧ M'[qt]? = some (.inl (0, .inl ys)) ∧ ys.length = 800 ∧ (∀ q, q ≠ qr → q ≠ qt → M'[q]? = M[q]?) ∧ M'.length = M.length ∧
      ri_ev (d + 1) none (tb93, 6, 1) (0, lv_args 0 [.ref q0, .int a, .int b, .int c, .int e, .int g], [], M, 0, 0) (some (.int (nI (j + 20))), M', 0, 0) := by
  obtain ⟨M1, a1, a2, a3, a4, a5⟩ := ap_run (d := d) (w := a) hr ht n1 s1 s2 (by omega) hx
  obtain ⟨M2, b1, b2, b3, b4, b5⟩ := ap_run (d := d) (w := b) a1 a2 n1 s1 s2 (by omega) (by simpa using hx)
  obtain ⟨M3, c1, c2, c3, c4, c5⟩ := ap_run (d := d) (w := c) b1 b2 n1 s1 s2 (by omega) (by simpa using hx)
  obtain ⟨M4, e1, e2, e3, e4, e5⟩ := ap_run (d := d) (w := e) c1 c2 n1 s1 s2 (by omega) (by simpa using hx)
  obtain ⟨M5, g1, g2, g3, g4, g5⟩ := ap_run (d := d) (w := g) e1 e2 n1 s1 s2 (by omega) (by simpa using hx)
  have z1 : M1[q0]? = _ := (a3 q0 n2 n3).trans h0
  have z2 : M2[q0]? = _ := (b3 q0 n2 n3).trans z1
  have z3 : M3[q0]? = _ := (c3 q0 n2 n3).trans z2
  have z4 : M4[q0]? = _ := (e3 q0 n2 n3).trans z3
  have z5 : M5[q0]? = _ := (g3 q0 n2 n3).trans z4
  refine ⟨M5, _, g1, g2, by simpa using hx, fun q q1 q2 => by rw [g3 q q1 q2, e3 q q1 q2, c3 q q1 q2, b3 q q1 q2, a3 q q1 q2], by omega, ?_⟩
  have hle : nI j + (Int8.ofInt 20).toInt32 ≤ (Int16.ofInt 800).toInt32 := by
    rw [ri_800, show (Int8.ofInt 20).toInt32 = nI 20 by decide, nI_add]
    exact nI_le hj (by omega)
  refine ri_nx rfl rfl ?_
  refine ri_gf rfl h0 s0 rfl ?_
  refine ri_gf rfl hr s1 rfl ?_
  refine ri_nx rfl rfl ?_
  refine ri_nx rfl rfl ?_
  refine ri_nx rfl rfl ?_
  refine ri_nx rfl (if_pos hle) ?_
  refine ri_nx rfl rfl ?_
  refine ri_gf rfl h0 s0 rfl ?_
  refine ri_nx rfl rfl ?_
  refine ri_vc rfl rfl hr rfl s1 rfl (Nat.le_of_ble_eq_true rfl) a5 ?_
  refine ri_nx rfl rfl ?_
  refine ri_gf rfl z1 s0 rfl ?_
  refine ri_nx rfl rfl ?_
  refine ri_vc rfl rfl a1 rfl s1 rfl (Nat.le_of_ble_eq_true rfl) b5 ?_
  refine ri_nx rfl rfl ?_
  refine ri_gf rfl z2 s0 rfl ?_
  refine ri_nx rfl rfl ?_
  refine ri_vc rfl rfl b1 rfl s1 rfl (Nat.le_of_ble_eq_true rfl) c5 ?_
  refine ri_nx rfl rfl ?_
  refine ri_gf rfl z3 s0 rfl ?_
  refine ri_nx rfl rfl ?_
  refine ri_vc rfl rfl c1 rfl s1 rfl (Nat.le_of_ble_eq_true rfl) e5 ?_
  refine ri_nx rfl rfl ?_
  refine ri_gf rfl z4 s0 rfl ?_
  refine ri_nx rfl rfl ?_
  refine ri_vc rfl rfl e1 rfl s1 rfl (Nat.le_of_ble_eq_true rfl) g5 ?_
  refine ri_nx rfl rfl ?_
  refine ri_gf rfl z5 s0 rfl ?_
  refine ri_gf rfl g1 s1 rfl ?_
  exact ri_rt rfl rfl
theorem mf_ix : ∀ i, i < 20 → (¬ nI i / Int32.ofInt 4 < 0) ∧ (nI i / Int32.ofInt 4).toNatClampNeg < 5 := by decide +kernel
abbrev mf_lv (qm L : Nat) (i a b c e g : Int32) : ri_L := [(7, .int i), (6, .ref L), (0, .ref qm), (1, .int a), (2, .int b), (3, .int c), (4, .int e), (5, .int g)]
set_option maxRecDepth 20000 in
theorem mf_body {d i j qm qt L k n : Nat} {M : ri_M} {fs : List Value} {xs five : List Int32} {a b c e g : Int32} (hm : M[qm]? = some (.inr (12, fs))) (f8 : fs[8]? = some (.ref qt)) (f9 : fs[9]? = some (.int (nI j))) (ht : M[qt]? = some (.inl (0, .inl xs))) (hv : M[L]? = some (.inl (0, .inl five))) (n1 : L ≠ qt) (n2 : qm ≠ qt) (s0 : qm < 1000000) (s1 : qt < 1000000) (s2 : L < 1000000) (hi : i < 20) (hj : j + 20 ≤ 800) (hx : xs.length = 800) (h5 : five.length = 5) :
    ∃ (M' : ri_M) (ys : List Int32), M'[qm]? = some (.inr (12, fs)) ∧ M'[qt]? = some (.inl (0, .inl ys)) ∧ ys.length = 800 ∧ M'[L]? = some (.inl (0, .inl five)) ∧ (∀ q, q ≠ qt → M'[q]? = M[q]?) ∧ M'.length = M.length ∧
      ∀ r, ri_ev d none (tb190, 8, 1) (42, mf_lv qm L (nI (i + 1)) a b c e g, [], M', k, n) r → ri_ev d none (tb190, 8, 1) (42, mf_lv qm L (nI i) a b c e g, [], M, k, n) r := by
  obtain ⟨q1, q2⟩ := mf_ix i hi
  obtain ⟨v, hvv⟩ : ∃ v, five[(nI i / Int32.ofInt 4).toNatClampNeg]? = some v := ⟨_, List.getElem?_eq_getElem (by rw [h5]; exact q2)⟩
  obtain ⟨B, hB⟩ : ∃ B : Int32, B = (v.toUInt32 >>> (((Int8.ofInt 24).toInt32 - (Int8.ofInt 8).toInt32 * (nI i - nI i / Int32.ofInt 4 * Int32.ofInt 4)).toUInt32 &&& Int32.toUInt32 31)).toInt32 &&& (Int16.ofInt 255).toInt32 := ⟨_, rfl⟩
  have hcl : (nI (j + i)).toNatClampNeg = j + i := nI_clamp (by omega)
  refine ⟨M.set qt (.inl (0, .inl (xs.set (j + i) B))), xs.set (j + i) B, ?_, ri_set_at ht, by simpa using hx, ?_, fun q hq => ri_set_ne hq, by simp, fun r h => ?_⟩
  · rw [ri_set_ne n2]; exact hm
  · rw [ri_set_ne n1]; exact hv
  · refine ri_nx rfl rfl ?_
    refine ri_nx rfl rfl ?_
    refine ri_nx rfl (if_neg (by rw [show (Int8.ofInt 20).toInt32 = nI 20 by decide]; exact nI_ge hi (by omega))) ?_
    refine ri_nx rfl rfl ?_
    refine ri_gf rfl hm s0 f8 ?_
    refine ri_nx rfl rfl ?_
    refine ri_gf rfl hm s0 f9 ?_
    refine ri_nx rfl rfl ?_
    refine ri_nx rfl rfl ?_
    refine ri_nx rfl rfl ?_
    refine ri_nx rfl rfl ?_
    refine ri_nx rfl rfl ?_
    refine ri_nx rfl rfl ?_
    refine ri_ia rfl hv s2 q1 hvv ?_
    refine ri_nx rfl rfl ?_
    refine ri_nx rfl rfl ?_
    refine ri_nx rfl rfl ?_
    refine ri_nx rfl rfl ?_
    refine ri_nx rfl rfl ?_
    refine ri_nx rfl rfl ?_
    refine ri_nx rfl rfl ?_
    refine ri_nx rfl rfl ?_
    refine ri_nx rfl rfl ?_
    refine ri_nx rfl rfl ?_
    rw [nI_add, ← hB]
    refine ri_is rfl ht s1 (nI_pos (by omega)) (by rw [hcl, hx]; omega) ?_
    rw [hcl]
    refine ri_nx rfl rfl ?_
    refine ri_nx rfl rfl ?_
    rw [nI_succ] at h
    exact h
theorem mf_loop {d j qm qt L k n : Nat} {fs : List Value} {five : List Int32} {a b c e g : Int32} (f8 : fs[8]? = some (.ref qt)) (f9 : fs[9]? = some (.int (nI j))) (n1 : L ≠ qt) (n2 : qm ≠ qt) (s0 : qm < 1000000) (s1 : qt < 1000000) (s2 : L < 1000000) (hj : j + 20 ≤ 800) (h5 : five.length = 5) : ∀ (m i : Nat) (M : ri_M) (xs : List Int32), i + m = 20 → M[qm]? = some (.inr (12, fs)) → M[qt]? = some (.inl (0, .inl xs)) → xs.length = 800 → M[L]? = some (.inl (0, .inl five)) →
    ∃ (M' : ri_M) (ys : List Int32), M'[qm]? = some (.inr (12, fs)) ∧ M'[qt]? = some (.inl (0, .inl ys)) ∧ ys.length = 800 ∧ (∀ q, q ≠ qt → M'[q]? = M[q]?) ∧ M'.length = M.length ∧ ∀ r, ri_ev d none (tb190, 8, 1) (42, mf_lv qm L (nI 20) a b c e g, [], M', k, n) r → ri_ev d none (tb190, 8, 1) (42, mf_lv qm L (nI i) a b c e g, [], M, k, n) r
  | 0, i, M, xs, hi, hm, ht, hx, hv => ⟨M, xs, hm, ht, hx, fun _ _ => rfl, rfl, fun r h => by rw [show i = 20 by omega]; exact h⟩
  | m + 1, i, M, xs, hi, hm, ht, hx, hv => by
    obtain ⟨M1, ys, a1, a2, a3, a4, a5, a6, a7⟩ := mf_body (d := d) (k := k) (n := n) (a := a) (b := b) (c := c) (e := e) (g := g) hm f8 f9 ht hv n1 n2 s0 s1 s2 (show i < 20 by omega) hj hx h5
    obtain ⟨M2, zs, b1, b2, b3, b4, b5, b6⟩ := mf_loop (d := d) (k := k) (n := n) (a := a) (b := b) (c := c) (e := e) (g := g) f8 f9 n1 n2 s0 s1 s2 hj h5 m (i + 1) M1 ys (by omega) a1 a2 a3 a4
    exact ⟨M2, zs, b1, b2, b3, fun q hq => by rw [b4 q hq, a5 q hq], by omega, fun r h => a7 r (b6 r h)⟩
set_option maxRecDepth 20000 in
theorem mfeed_run {d j qm qt L : Nat} {M : ri_M} {fs : List Value} {xs : List Int32} {a b c e g : Int32} (hL : M.length = L) (hm : M[qm]? = some (.inr (12, fs))) (f8 : fs[8]? = some (.ref qt)) (f9 : fs[9]? = some (.int (nI j))) (ht : M[qt]? = some (.inl (0, .inl xs))) (n2 : qm ≠ qt) (s0 : qm < L) (s1 : qt < L) (s2 : L < 1000000) (hj : j + 20 ≤ 800) (hx : xs.length = 800) :
    ∃ (M' : ri_M) (ys : List Int32), M'[qm]? = some (.inr (12, fs.set 9 (.int (nI (j + 20))))) ∧ M'[qt]? = some (.inl (0, .inl ys)) ∧ ys.length = 800 ∧ (∀ q, q < L → q ≠ qm → q ≠ qt → M'[q]? = M[q]?) ∧ M'.length = L + 1 ∧
      ri_ev d none (tb190, 8, 1) (0, lv_args 0 [.ref qm, .int a, .int b, .int c, .int e, .int g], [], M, 0, 0) (some (.int (nI (j + 20))), M', 1, 5) := by
  have hf9 : 9 < fs.length := (List.getElem?_eq_some_iff.mp f9).1
  obtain ⟨M0, hM0⟩ : ∃ M0 : ri_M, M0 = M ++ [.inl (0, .inl (List.replicate 5 0))] := ⟨_, rfl⟩
  have l0 : M0.length = L + 1 := by rw [hM0, List.length_append, hL]; rfl
  have at0 : M0[L]? = some (.inl (0, .inl (List.replicate 5 0))) := by rw [hM0, List.getElem?_append_right (by omega), hL, Nat.sub_self]; rfl
  have old0 : ∀ q, q < L → M0[q]? = M[q]? := fun q hq => by rw [hM0, List.getElem?_append_left (by omega)]
  obtain ⟨M5, hM5⟩ : ∃ M5 : ri_M, M5 = ((((M0.set L (.inl (0, .inl ((List.replicate 5 0).set 0 a)))).set L (.inl (0, .inl (((List.replicate 5 0).set 0 a).set 1 b)))).set L (.inl (0, .inl ((((List.replicate 5 0).set 0 a).set 1 b).set 2 c)))).set L (.inl (0, .inl (((((List.replicate 5 0).set 0 a).set 1 b).set 2 c).set 3 e)))).set L (.inl (0, .inl ((((((List.replicate 5 0).set 0 a).set 1 b).set 2 c).set 3 e).set 4 g))) := ⟨_, rfl⟩
  have u1 := ri_set_at (c := .inl (0, .inl ((List.replicate 5 0).set 0 a))) at0
  have u2 := ri_set_at (c := .inl (0, .inl (((List.replicate 5 0).set 0 a).set 1 b))) u1
  have u3 := ri_set_at (c := .inl (0, .inl ((((List.replicate 5 0).set 0 a).set 1 b).set 2 c))) u2
  have u4 := ri_set_at (c := .inl (0, .inl (((((List.replicate 5 0).set 0 a).set 1 b).set 2 c).set 3 e))) u3
  have u5 := ri_set_at (c := .inl (0, .inl ((((((List.replicate 5 0).set 0 a).set 1 b).set 2 c).set 3 e).set 4 g))) u4
  rw [← hM5] at u5
  have l5 : M5.length = L + 1 := by rw [hM5]; simp only [List.length_set]; exact l0
  have old5 : ∀ q, q < L → M5[q]? = M[q]? := fun q hq => by
    rw [hM5, ri_set_ne (by omega), ri_set_ne (by omega), ri_set_ne (by omega), ri_set_ne (by omega), ri_set_ne (by omega)]
    exact old0 q hq
  obtain ⟨M6, ys, a1, a2, a3, a4, a5, a6⟩ := mf_loop (d := d) (k := 0 + 1) (n := 0 + 5) (a := a) (b := b) (c := c) (e := e) (g := g) f8 f9 (show L ≠ qt by omega) n2 (by omega) (by omega) s2 hj (by simp) 20 0 M5 xs rfl ((old5 qm s0).trans hm) ((old5 qt s1).trans ht) hx u5
  have hv20 : nI j + (Int8.ofInt 20).toInt32 = nI (j + 20) := by rw [show (Int8.ofInt 20).toInt32 = nI 20 by decide, nI_add]
  refine ⟨M6.set qm (.inr (12, fs.set 9 (.int (nI (j + 20))))), ys, ri_set_at a1, by rw [ri_set_ne (Ne.symm n2)]; exact a2, a3, fun q h1 h2 h3 => by rw [ri_set_ne h2, a4 q h3, old5 q h1], by rw [List.length_set]; omega, ?_⟩
  have hle : nI j ≤ (Int16.ofInt 780).toInt32 := by
    rw [show (Int16.ofInt 780).toInt32 = nI 780 by decide]
    exact nI_le (by omega) (by omega)
  have hge : (Int8.ofInt 20).toInt32 ≤ nI 20 := by decide
  refine ri_nx rfl rfl ?_
  refine ri_gf rfl hm (by omega) f9 ?_
  refine ri_nx rfl rfl ?_
  refine ri_nx rfl (if_pos hle) ?_
  refine ri_nx rfl rfl ?_
  refine ri_na rfl hL s2 (by decide) (by decide) ?_
  have e5 : (Int32.ofInt 5).toNatClampNeg = 5 := by decide
  rw [e5, ← hM0]
  refine ri_nx rfl rfl ?_
  refine ri_nx rfl rfl ?_
  refine ri_nx rfl rfl ?_
  refine ri_is rfl at0 s2 (by decide) (by decide) ?_
  refine ri_nx rfl rfl ?_
  refine ri_nx rfl rfl ?_
  refine ri_nx rfl rfl ?_
  refine ri_is rfl u1 s2 (by decide) (Nat.lt_of_lt_of_le (by decide : _ < 5) (Nat.le_of_eq (by simp))) ?_
  refine ri_nx rfl rfl ?_
  refine ri_nx rfl rfl ?_
  refine ri_nx rfl rfl ?_
  refine ri_is rfl u2 s2 (by decide) (Nat.lt_of_lt_of_le (by decide : _ < 5) (Nat.le_of_eq (by simp))) ?_
  refine ri_nx rfl rfl ?_
  refine ri_nx rfl rfl ?_
  refine ri_nx rfl rfl ?_
  refine ri_is rfl u3 s2 (by decide) (Nat.lt_of_lt_of_le (by decide : _ < 5) (Nat.le_of_eq (by simp))) ?_
  refine ri_nx rfl rfl ?_
  refine ri_nx rfl rfl ?_
  refine ri_nx rfl rfl ?_
  refine ri_is rfl u4 s2 (by decide) (Nat.lt_of_lt_of_le (by decide : _ < 5) (Nat.le_of_eq (by simp))) ?_
  have hgo : ri_ev d none (tb190, 8, 1) (42, mf_lv qm L (nI 0) a b c e g, [], M5, 0 + 1, 0 + 5) (some (.int (nI (j + 20))), M6.set qm (.inr (12, fs.set 9 (.int (nI (j + 20))))), 1, 5) := by
    refine a6 _ ?_
    refine ri_nx rfl rfl ?_
    refine ri_nx rfl rfl ?_
    refine ri_nx rfl rfl ?_
    refine ri_nx rfl rfl ?_
    refine ri_nx rfl rfl ?_
    refine ri_gf rfl a1 (by omega) f9 ?_
    refine ri_nx rfl rfl ?_
    refine ri_nx rfl rfl ?_
    rw [hv20]
    refine ri_pf rfl a1 (by omega) hf9 rfl ?_
    refine ri_nx rfl rfl ?_
    refine ri_gf rfl (ri_set_at a1) (by omega) (by rw [List.getElem?_set_self hf9]) ?_
    exact ri_rt rfl rfl
  rw [hM5] at hgo
  refine ri_nx rfl rfl ?_
  refine ri_nx rfl rfl ?_
  refine ri_nx rfl rfl ?_
  exact hgo
set_option maxRecDepth 20000 in
theorem p1_feed (a b c e g : Int32) : ∃ (v : Int32) (M1 M2 : ri_M) (fs : List Value) (k2 n2 : Nat), k2 ≤ 1000 ∧ n2 ≤ 1000 ∧ ri_ev 9 none (tb93, 6, 1) (0, lv_args 0 (.ref 0 :: [.int a, .int b, .int c, .int e, .int g]), [], p1_M, 0, 0) (some (.int v), M1, 0, 0) ∧ ri_ev 9 none (tb190, 8, 1) (0, lv_args 0 (.ref 571 :: [.int a, .int b, .int c, .int e, .int g]), [], M1, 0, 0) (some (.int v), M2, k2, n2) ∧ M1[571]? = some (.inr (12, fs)) ∧ M1[2000000]? = none := by
  obtain ⟨M1, ys, a1, a2, a3, a4, a5, a6⟩ := xfeed_run (d := 8) (j := 0) (a := a) (b := b) (c := c) (e := e) (g := g) cl_p1_M_0 cl_p1_M_1 cl_p1_M_2 (by decide) (by decide) (by decide) (by decide) (by decide) (by decide) (by decide) (by decide +kernel)
  have hm := (a4 571 (by decide) (by decide)).trans cl_p1_M_571
  have ht := (a4 579 (by decide) (by decide)).trans cl_p1_M_579
  obtain ⟨M2, zs, b1, b2, b3, b4, b5, b6⟩ := mfeed_run (d := 9) (j := 0) (L := 602) (a := a) (b := b) (c := c) (e := e) (g := g) (a5.trans p1_len.2) hm rfl rfl ht (by decide) (by decide) (by decide) (by decide) (by decide) (by decide +kernel)
  exact ⟨nI (0 + 20), M1, M2, _, 1, 5, by decide, by decide, a6, b6, hm, by rw [a4 2000000 (by decide) (by decide)]; exact no_p1_M⟩
