/-! ===== feed of the reference: it makes a cell ===== -/
section RIY
variable {d pc : Nat} {X : Option (List Int32)} {t t' : ri_T} {lv : ri_L} {st : List Value} {M : ri_M} {k n : Nat} {r : Option Value × ri_M × Nat × Nat}
theorem ri_is {q a b c0 d0 : Nat} {xs : List Int32} {rest : List Value} {i x : Int32} (ht : t.1[pc]? = some (some (.iastore, a, b, c0, d0))) (hM : M[q]? = some (.inl (0, .inl xs))) (hq : q < 1000000) (hi : ¬ i < 0) (hlt : i.toNatClampNeg < xs.length) (h : ri_ev d X t (pc + 1, lv, rest, M.set q (.inl (0, .inl (xs.set i.toNatClampNeg x))), k, n) r) : ri_ev d X t (pc, lv, .int x :: .int i :: .ref q :: rest, M, k, n) r := by
  refine ri_nx ht (?_ : ((match (generalizing := false) M[q]? with | some (.inl (t, .inl xs)) => if t = 0 ∧ q < 1000000 ∧ ¬ i < 0 ∧ i.toNatClampNeg < xs.length then some (.inl (pc + 1, lv, rest, M.set q (.inl (t, .inl (xs.set i.toNatClampNeg x))), k, n)) else none | _ => none) : Option ri_X) = _) h
  rw [hM]
  simp [hq, hi, hlt]
theorem ri_pf {q a b c0 d0 idx : Nat} {fs rest : List Value} {v : Value} (ht : t.1[pc]? = some (some (.putfield idx, a, b, c0, d0))) (hM : M[q]? = some (.inr (a, fs))) (hq : q < 1000000) (hb : b < fs.length) (hf : ri_fit d0 v = true) (h : ri_ev d X t (pc + 3, lv, rest, M.set q (.inr (a, fs.set b v)), k, n) r) : ri_ev d X t (pc, lv, v :: .ref q :: rest, M, k, n) r := by
  refine ri_nx ht (?_ : ((match (generalizing := false) M[q]? with | some (.inr (ci, fs)) => if ci = a ∧ q < 1000000 ∧ b < fs.length ∧ ri_fit d0 v = true then some (.inl (pc + 3, lv, rest, M.set q (.inr (ci, fs.set b v)), k, n)) else none | _ => none) : Option ri_X) = _) h
  rw [hM]
  simp [hq, hb, hf]
theorem ri_same {α : Type} {l : List α} {q : Nat} {x : α} (h : l[q]? = some x) : l.set q x = l := by
  apply List.ext_getElem?
  intro i
  by_cases e : q = i
  · subst e
    rw [List.getElem?_set_self (List.getElem?_eq_some_iff.mp h).1, h]
  · rw [List.getElem?_set_ne e]
theorem ri_pfs {q a b c0 d0 idx : Nat} {fs rest : List Value} {v : Value} (ht : t.1[pc]? = some (some (.putfield idx, a, b, c0, d0))) (hM : M[q]? = some (.inr (a, fs))) (hq : q < 1000000) (hv : fs[b]? = some v) (hf : ri_fit d0 v = true) (h : ri_ev d X t (pc + 3, lv, rest, M, k, n) r) : ri_ev d X t (pc, lv, v :: .ref q :: rest, M, k, n) r := by
  refine ri_pf ht hM hq (List.getElem?_eq_some_iff.mp hv).1 hf ?_
  rw [ri_same hv, ri_same hM]
  exact h
theorem ri_iss {q a b c0 d0 : Nat} {xs : List Int32} {rest : List Value} {i x : Int32} (ht : t.1[pc]? = some (some (.iastore, a, b, c0, d0))) (hM : M[q]? = some (.inl (0, .inl xs))) (hq : q < 1000000) (hi : ¬ i < 0) (hv : xs[i.toNatClampNeg]? = some x) (h : ri_ev d X t (pc + 1, lv, rest, M, k, n) r) : ri_ev d X t (pc, lv, .int x :: .int i :: .ref q :: rest, M, k, n) r := by
  refine ri_is ht hM hq hi (List.getElem?_eq_some_iff.mp hv).1 ?_
  rw [ri_same hv, ri_same hM]
  exact h
end RIY
theorem ri_set_at {M : ri_M} {q : Nat} {c0 c : ri_C} (h : M[q]? = some c0) : (M.set q c)[q]? = some c := by
  rw [List.getElem?_set_self (List.getElem?_eq_some_iff.mp h).1]
theorem ri_set_ne {M : ri_M} {q q1 : Nat} {c : ri_C} (h : q1 ≠ q) : (M.set q c)[q1]? = M[q1]? := List.getElem?_set_ne (Ne.symm h)
section RIX
variable {d pc : Nat} {X : Option (List Int32)} {t t' : ri_T} {lv : ri_L} {st : List Value} {M : ri_M} {k n : Nat} {r : Option Value × ri_M × Nat × Nat}
theorem ri_na {L b c0 d0 : Nat} {rest : List Value} {x : Int32} (ht : t.1[pc]? = some (some (.newarray .int, 0, b, c0, d0))) (hL : M.length = L) (hL2 : L < 1000000) (hx : ¬ x < 0) (hx2 : x.toNatClampNeg ≤ 60000) (h : ri_ev d X t (pc + 2, lv, .ref L :: rest, M ++ [.inl (0, .inl (List.replicate x.toNatClampNeg 0))], k + 1, n + x.toNatClampNeg) r) : ri_ev d X t (pc, lv, .int x :: rest, M, k, n) r := by
  refine ri_nx ht (?_ : ((if x < 0 ∨ 1000000 ≤ M.length ∨ 60000 < x.toNatClampNeg then none else if (0 : Nat) = 1 then some (.inl (pc + 2, lv, .ref M.length :: rest, M ++ [.inl (1, .inr (.inl (List.replicate x.toNatClampNeg 0)))], k + 1, n + x.toNatClampNeg)) else some (.inl (pc + 2, lv, .ref M.length :: rest, M ++ [.inl (0, .inl (List.replicate x.toNatClampNeg 0))], k + 1, n + x.toNatClampNeg))) : Option ri_X) = _) h
  rw [hL, if_neg (by rintro (q | q | q); exact hx q; omega; omega), if_neg (by decide)]
end RIX
theorem rf_byte {x p : Int} (h0 : 0 ≤ p) (h1 : p ≤ 24) : iAnd (iUsh x p) 255 = iAnd (iShr x p) 255 := by
  refine bt_ext (rg_and _ _) (rg_and _ _) (fun k k0 k1 => ?_)
  rw [bt_and, bt_and]
  refine and_congr_left (fun hk => ?_)
  have k8 : k < 8 := bt_in (n := 8) (x := 255) (by omega) (by decide) (by decide) hk
  rw [bt_ush h0 (by omega) k0, bt_shr h0 k0 (by omega)]
theorem rf_sh : ∀ i : Nat, i < 20 → (Int8.ofInt 24).toInt32 - (Int8.ofInt 8).toInt32 * (Int32.ofInt (i : Int) - Int32.ofInt (i : Int) / Int32.ofInt 4 * Int32.ofInt 4) = Int32.ofInt (24 - 8 * ((i : Int) % 4)) := by decide +kernel
theorem rf_ix : ∀ i : Nat, i < 20 → (¬ Int32.ofInt (i : Int) / Int32.ofInt 4 < 0) ∧ (Int32.ofInt (i : Int) / Int32.ofInt 4).toNatClampNeg = i / 4 := by decide +kernel
theorem rf_ge : ∀ i : Nat, i < 20 → ¬ (Int8.ofInt 20).toInt32 ≤ Int32.ofInt (i : Int) := by decide +kernel
def rf_v (a b c e g : Int32) (i : Nat) : Int32 := if i < 4 then a else if i < 8 then b else if i < 12 then c else if i < 16 then e else g
theorem rf_five (a b c e g : Int32) {i : Nat} (hi : i < 20) : ([a, b, c, e, g] : List Int32)[i / 4]? = some (rf_v a b c e g i) := by
  unfold rf_v
  by_cases h1 : i < 4
  · rw [if_pos h1, show i / 4 = 0 by omega]; rfl
  rw [if_neg h1]
  by_cases h2 : i < 8
  · rw [if_pos h2, show i / 4 = 1 by omega]; rfl
  rw [if_neg h2]
  by_cases h3 : i < 12
  · rw [if_pos h3, show i / 4 = 2 by omega]; rfl
  rw [if_neg h3]
  by_cases h4 : i < 16
  · rw [if_pos h4, show i / 4 = 3 by omega]; rfl
  rw [if_neg h4, show i / 4 = 4 by omega]; rfl
theorem rf_fdb (a b c e g : Int32) {i : Nat} (hi : i < 20) : Int32.ofInt (fdb a.toInt b.toInt c.toInt e.toInt g.toInt i) = ((rf_v a b c e g i).toUInt32 >>> ((Int32.ofInt (24 - 8 * ((i : Int) % 4))).toUInt32 &&& Int32.toUInt32 31)).toInt32 &&& (Int16.ofInt 255).toInt32 := by
  have e1 : (if (i : Int) < 4 then a.toInt else if (i : Int) < 8 then b.toInt else if (i : Int) < 12 then c.toInt else if (i : Int) < 16 then e.toInt else g.toInt) = (rf_v a b c e g i).toInt := by
    unfold rf_v
    by_cases h1 : i < 4
    · rw [if_pos h1, if_pos (by omega)]
    rw [if_neg h1, if_neg (by omega)]
    by_cases h2 : i < 8
    · rw [if_pos h2, if_pos (by omega)]
    rw [if_neg h2, if_neg (by omega)]
    by_cases h3 : i < 12
    · rw [if_pos h3, if_pos (by omega)]
    rw [if_neg h3, if_neg (by omega)]
    by_cases h4 : i < 16
    · rw [if_pos h4, if_pos (by omega)]
    rw [if_neg h4, if_neg (by omega)]
  unfold fdb
  rw [e1, ← rf_byte (by omega) (by omega)]
  unfold iAnd iUsh
  rw [Int32.ofInt_toInt, Int32.ofInt_toInt, Int32.ofInt_toInt, show Int32.ofInt 255 = (Int16.ofInt 255).toInt32 by decide]
theorem am_M_len {h : am_H} {G : ri_M} : (am_M h G).length = 602 + G.length := by
  unfold am_M
  rw [List.length_append, List.length_mapIdx, am_LY_len]
theorem am_M_hi {h : am_H} {G : ri_M} {l : Nat} : (am_M h G)[602 + l]? = G[l]? := by
  unfold am_M
  rw [List.getElem?_append_right (by rw [List.length_mapIdx, am_LY_len]; omega), List.length_mapIdx, am_LY_len, Nat.add_sub_cancel_left]
theorem am_M_app {h : am_H} {G : ri_M} {c : ri_C} : am_M h G ++ [c] = am_M h (G ++ [c]) := by
  unfold am_M
  rw [List.append_assoc]
theorem am_M_sethi {h : am_H} {G : ri_M} {l : Nat} {c : ri_C} : (am_M h G).set (602 + l) c = am_M h (G.set l c) := by
  unfold am_M
  rw [List.set_append_right _ _ (by rw [List.length_mapIdx, am_LY_len]; omega), List.length_mapIdx, am_LY_len, Nat.add_sub_cancel_left]
theorem am_571 {h : am_H} {G : ri_M} : (am_M h G)[571]? = some (.inr (12, am_fs h 571 0 (am_FT.getD 12 []))) := am_M_get (q := 571) (d := (1, 12, 0)) (by decide +kernel)
theorem am_0 {h : am_H} {G : ri_M} : (am_M h G)[0]? = some (.inr (11, am_fs h 0 0 (am_FT.getD 11 []))) := am_M_get (q := 0) (d := (1, 11, 0)) rfl
theorem am_579 {h : am_H} {G : ri_M} : (am_M h G)[579]? = some (.inl (0, .inl ((List.range 800).map (fun (i : Nat) => Int32.ofInt (h 579 i))))) := am_M_get (q := 579) (d := (2, 800, 0)) (by decide +kernel)
theorem am_571_8 {h : am_H} : (am_fs h 571 0 (am_FT.getD 12 []))[8]? = some (.ref 579) := am_fs_get (am_FT.getD 12 []) 0 8 (5, 2, 800, 0, 579) (by decide +kernel)
theorem am_571_9 {h : am_H} : (am_fs h 571 0 (am_FT.getD 12 []))[9]? = some (.int (Int32.ofInt (h 571 9))) := am_fs_get (am_FT.getD 12 []) 0 9 (0, 0, 0, 0, 0) (by decide +kernel)
theorem am_571_set {h : am_H} {G : ri_M} {x : Int} : (am_M h G).set 571 (.inr (12, (am_fs h 571 0 (am_FT.getD 12 [])).set 9 (.int (Int32.ofInt x)))) = am_M (am_up h 571 9 x) G := by
  refine am_M_set (q := 571) (d := (1, 12, 0)) (by decide +kernel) ?_ (fun q' j hq => am_up_ne (by omega))
  have hz := am_fs_set (h := h) (o := 571) (x := x) (am_FT.getD 12 []) 0 9 (0, 0, 0, 0, 0) (by decide +kernel)
  have e9 : am_fv (0, 0, 0, 0, 0) (am_up h 571 (0 + (9 : Nat)) x) 571 (0 + (9 : Nat)) = .int (Int32.ofInt x) := by
    show Value.int (Int32.ofInt (am_up h 571 (0 + (9 : Nat)) x 571 (0 + (9 : Nat)))) = _
    rw [am_up_eq]
  rw [e9] at hz
  exact congrArg (fun l => (Sum.inr (12, l) : ri_C)) hz
theorem am_579_set {h : am_H} {G : ri_M} {x y : Int} (h0 : 0 ≤ y) (h1 : y < 800) : (am_M h G).set 579 (.inl (0, .inl (((List.range 800).map (fun (i : Nat) => Int32.ofInt (h 579 i))).set y.toNat (Int32.ofInt x)))) = am_M (am_up h 579 y x) G := by
  refine am_M_set (q := 579) (d := (2, 800, 0)) (by decide +kernel) ?_ (fun q' j hq => am_up_ne (by omega))
  rw [am_row_set Int32.ofInt h 579 800 h0 (by omega)]
  rfl
theorem am_wf_579 {h : am_H} {y : Nat} {x : Int} (w : am_wf h) (hx : R32 x) : am_wf (am_up h 579 y x) := am_wf_up (q := 579) (k := 2) (n := 800) (m := 0) w (by decide +kernel) (am_wfc_row2 (w 579 2 800 0 (by decide +kernel)) rfl hx)
theorem am_wf_571 {h : am_H} {x : Int} (w : am_wf h) (hx : R32 x) : am_wf (am_up h 571 9 x) := am_wf_up (q := 571) (k := 1) (n := 12) (m := 0) (i := 9) w (by decide +kernel) (am_wfc_pf (f := (0, 0, 0, 0, 0)) (w 571 1 12 0 (by decide +kernel)) rfl (by decide +kernel) ⟨fun _ => hx, fun e => absurd e (by decide), fun e => absurd e (by decide), by decide⟩)
abbrev rf_lv (L : Nat) (i a b c e g : Int32) : ri_L := [(7, .int i), (6, .ref L), (0, .ref 571), (1, .int a), (2, .int b), (3, .int c), (4, .int e), (5, .int g)]
set_option maxRecDepth 20000 in
theorem rf_body {d i j l k n : Nat} {h : am_H} {G : ri_M} {a b c e g : Int32} {r : Option Value × ri_M × Nat × Nat} (hj : h 571 9 = (j : Int)) (h5 : G[l]? = some (.inl (0, .inl [a, b, c, e, g]))) (hl : l < 10000) (hi : i < 20) (hj2 : j + 20 ≤ 800) (H : ri_ev d none (tb190, 8, 1) (42, rf_lv (602 + l) (Int32.ofInt ((i + 1 : Nat) : Int)) a b c e g, [], am_M (am_up h 579 ((j + i : Nat) : Int) (fdb a.toInt b.toInt c.toInt e.toInt g.toInt i)) G, k, n) r) : ri_ev d none (tb190, 8, 1) (42, rf_lv (602 + l) (Int32.ofInt (i : Int)) a b c e g, [], am_M h G, k, n) r := by
  have f9 := am_571_9 (h := h)
  rw [hj] at f9
  have hx := rf_ix i hi
  have hv : ([a, b, c, e, g] : List Int32)[(Int32.ofInt (i : Int) / Int32.ofInt 4).toNatClampNeg]? = some (rf_v a b c e g i) := by rw [hx.2]; exact rf_five a b c e g hi
  have hc := am_ix (i := ((j + i : Nat) : Int)) (n := 800) (by omega) (by omega) (by omega)
  have e1 : Int32.ofInt (j : Int) + Int32.ofInt (i : Int) = Int32.ofInt ((j + i : Nat) : Int) := by rw [← Int32.ofInt_add]; rfl
  have hm := am_M_hi (h := h) (G := G) (l := l)
  rw [h5] at hm
  refine ri_nx rfl rfl ?_
  refine ri_nx rfl rfl ?_
  refine ri_nx rfl (if_neg (rf_ge i hi)) ?_
  refine ri_nx rfl rfl ?_
  refine ri_gf rfl am_571 (by decide) am_571_8 ?_
  refine ri_nx rfl rfl ?_
  refine ri_gf rfl am_571 (by decide) f9 ?_
  refine ri_nx rfl rfl ?_
  refine ri_nx rfl rfl ?_
  refine ri_nx rfl rfl ?_
  refine ri_nx rfl rfl ?_
  refine ri_nx rfl rfl ?_
  refine ri_nx rfl rfl ?_
  refine ri_ia rfl hm (by omega) hx.1 hv ?_
  refine ri_nx rfl rfl ?_
  refine ri_nx rfl rfl ?_
  refine ri_nx rfl rfl ?_
  refine ri_nx rfl rfl ?_
  refine ri_nx rfl rfl ?_
  refine ri_nx rfl rfl ?_
  refine ri_nx rfl rfl ?_
  refine ri_nx rfl rfl ?_
  refine ri_nx rfl rfl ?_
  refine ri_nx rfl rfl ?_
  rw [e1, rf_sh i hi, ← rf_fdb a b c e g hi]
  refine ri_is rfl am_579 (by decide) hc.1 (by rw [hc.2, List.length_map, List.length_range]; omega) ?_
  rw [hc.2, am_579_set (by omega) (by omega)]
  refine ri_nx rfl rfl ?_
  refine ri_nx rfl rfl ?_
  have e2 : Int32.ofInt (i : Int) + Int32.ofInt 1 = Int32.ofInt ((i + 1 : Nat) : Int) := by rw [← Int32.ofInt_add]; rfl
  rw [← e2] at H
  exact H
theorem rf_loop {d j l k n : Nat} {G : ri_M} {a b c e g : Int32} (h5 : G[l]? = some (.inl (0, .inl [a, b, c, e, g]))) (hl : l < 10000) (hj2 : j + 20 ≤ 800) : ∀ (m i : Nat) (h : am_H), i + m = 20 → h 571 9 = (j : Int) → am_wf h →
    ∃ h' : am_H, (∀ x y, ¬ (x = 579 ∧ (j : Int) + i ≤ y) → h' x y = h x y) ∧ (∀ q : Int, i ≤ q → q < 20 → h' 579 (j + q) = fdb a.toInt b.toInt c.toInt e.toInt g.toInt q) ∧ am_wf h' ∧ ∀ r, ri_ev d none (tb190, 8, 1) (42, rf_lv (602 + l) (Int32.ofInt ((20 : Nat) : Int)) a b c e g, [], am_M h' G, k, n) r → ri_ev d none (tb190, 8, 1) (42, rf_lv (602 + l) (Int32.ofInt (i : Int)) a b c e g, [], am_M h G, k, n) r
  | 0, i, h, hi, _, w => ⟨h, fun _ _ _ => rfl, fun q a b => by omega, w, fun r H => by rw [show i = 20 by omega]; exact H⟩
  | m + 1, i, h, hi, hj, w => by
    obtain ⟨h', p1, p2, p3, p4⟩ := rf_loop (d := d) (k := k) (n := n) h5 hl hj2 m (i + 1) (am_up h 579 ((j + i : Nat) : Int) (fdb a.toInt b.toInt c.toInt e.toInt g.toInt i)) (by omega) (by rw [am_up_ne (by omega)]; exact hj) (am_wf_579 w (rg_and _ _))
    refine ⟨h', fun x y q => ?_, fun q q0 q1 => ?_, p3, fun r H => rf_body hj h5 hl (by omega) hj2 (p4 r H)⟩
    · rw [p1 x y (by omega)]
      by_cases c : x = 579
      · subst c
        rw [am_up_ne2 (by omega)]
      · rw [am_up_ne c]
    · by_cases c : q = i
      · subst c
        rw [p1 _ _ (by omega), show (j : Int) + (i : Int) = ((j + i : Nat) : Int) by omega, am_up_eq]
      · exact p2 q (by omega) q1
def FDR (h g : am_H) (a1 a2 a3 a4 a5 : Int) : Prop := (∀ x i, ¬ (x = 571 ∧ i = 9) → x ≠ 579 → g x i = h x i) ∧ (∀ i, i < h 571 9 → g 579 i = h 579 i) ∧ g 571 9 = h 571 9 + 20 ∧ ∀ k, 0 ≤ k → k < 20 → g 579 (h 571 9 + k) = fdb a1 a2 a3 a4 a5 k
set_option maxRecDepth 20000 in
theorem rfeed_no {d : Nat} {h : am_H} {G : ri_M} {a b c e g : Int32} (T : 0 ≤ h 571 9 ∧ h 571 9 ≤ 800) (hc : 780 < h 571 9) : ri_ev d none (tb190, 8, 1) (0, lv_args 0 [.ref 571, .int a, .int b, .int c, .int e, .int g], [], am_M h G, 0, 0) (some (.int (Int32.ofInt (-1))), am_M h G, 0, 0) := by
  have hle : ¬ Int32.ofInt (h 571 9) ≤ (Int16.ofInt 780).toInt32 := by
    rw [show (Int16.ofInt 780).toInt32 = Int32.ofInt 780 by decide, am_le (by omega) (by omega)]
    omega
  refine ri_nx rfl rfl ?_
  refine ri_gf rfl am_571 (by decide) am_571_9 ?_
  refine ri_nx rfl rfl ?_
  refine ri_nx rfl (if_neg hle) ?_
  refine ri_nx rfl rfl ?_
  exact ri_rt rfl rfl
set_option maxRecDepth 20000 in
theorem rfeed_run {d : Nat} {h : am_H} {G : ri_M} {a b c e g : Int32} (w : am_wf h) (T : 0 ≤ h 571 9 ∧ h 571 9 ≤ 800) (hc : ¬ 780 < h 571 9) (hG : G.length < 10000) : ∃ h', FDR h h' a.toInt b.toInt c.toInt e.toInt g.toInt ∧ am_wf h' ∧ ri_ev d none (tb190, 8, 1) (0, lv_args 0 [.ref 571, .int a, .int b, .int c, .int e, .int g], [], am_M h G, 0, 0) (some (.int (Int32.ofInt (h 571 9 + 20))), am_M h' (G ++ [.inl (0, .inl [a, b, c, e, g])]), 1, 5) := by
  obtain ⟨j, hj⟩ : ∃ j : Nat, h 571 9 = (j : Int) := ⟨(h 571 9).toNat, by omega⟩
  have hle : Int32.ofInt (h 571 9) ≤ (Int16.ofInt 780).toInt32 := by
    rw [show (Int16.ofInt 780).toInt32 = Int32.ofInt 780 by decide, am_le (by omega) (by omega)]
    omega
  have G5 : ∀ c : ri_C, (G ++ [c])[G.length]? = some c := fun c => by rw [List.getElem?_append_right (Nat.le_refl _), Nat.sub_self]; rfl
  have M5 : ∀ c : ri_C, (am_M h (G ++ [c]))[602 + G.length]? = some c := fun c => by rw [am_M_hi]; exact G5 c
  have S5 : ∀ c c' : ri_C, (am_M h (G ++ [c])).set (602 + G.length) c' = am_M h (G ++ [c']) := fun c c' => by
    rw [am_M_sethi, List.set_append_right _ _ (Nat.le_refl _), Nat.sub_self]
    rfl
  obtain ⟨h', p1, p2, p3, p4⟩ := rf_loop (d := d) (k := 0 + 1) (n := 0 + 5) (j := j) (G5 (.inl (0, .inl [a, b, c, e, g]))) hG (by omega) 20 0 h rfl hj w
  have h9 : h' 571 9 = h 571 9 := p1 _ _ (by omega)
  refine ⟨am_up h' 571 9 (h 571 9 + 20), ⟨fun x i u v => ?_, fun i u => ?_, am_up_eq, fun q u v => ?_⟩, am_wf_571 p3 (by omega), ?_⟩
  · rw [am_up_n2 (by omega)]; exact p1 x i (by omega)
  · rw [am_up_ne (by omega)]; exact p1 _ _ (by omega)
  · rw [am_up_ne (by omega), hj]; exact p2 q (by omega) v
  · have e5 : (Int32.ofInt 5).toNatClampNeg = 5 := by decide
    refine ri_nx rfl rfl ?_
    refine ri_gf rfl am_571 (by decide) am_571_9 ?_
    refine ri_nx rfl rfl ?_
    refine ri_nx rfl (if_pos hle) ?_
    refine ri_nx rfl rfl ?_
    refine ri_na rfl am_M_len (by omega) (by decide) (by decide) ?_
    rw [e5, am_M_app]
    refine ri_nx rfl rfl ?_
    refine ri_nx rfl rfl ?_
    refine ri_nx rfl rfl ?_
    refine ri_is rfl (M5 _) (by omega) (by decide) (by decide) ?_
    rw [S5]
    refine ri_nx rfl rfl ?_
    refine ri_nx rfl rfl ?_
    refine ri_nx rfl rfl ?_
    refine ri_is rfl (M5 _) (by omega) (by decide) (Nat.lt_of_lt_of_le (by decide : _ < 5) (Nat.le_of_eq (by simp))) ?_
    rw [S5]
    refine ri_nx rfl rfl ?_
    refine ri_nx rfl rfl ?_
    refine ri_nx rfl rfl ?_
    refine ri_is rfl (M5 _) (by omega) (by decide) (Nat.lt_of_lt_of_le (by decide : _ < 5) (Nat.le_of_eq (by simp))) ?_
    rw [S5]
    refine ri_nx rfl rfl ?_
    refine ri_nx rfl rfl ?_
    refine ri_nx rfl rfl ?_
    refine ri_is rfl (M5 _) (by omega) (by decide) (Nat.lt_of_lt_of_le (by decide : _ < 5) (Nat.le_of_eq (by simp))) ?_
    rw [S5]
    refine ri_nx rfl rfl ?_
    refine ri_nx rfl rfl ?_
    refine ri_nx rfl rfl ?_
    refine ri_is rfl (M5 _) (by omega) (by decide) (Nat.lt_of_lt_of_le (by decide : _ < 5) (Nat.le_of_eq (by simp))) ?_
    rw [S5]
    refine ri_nx rfl rfl ?_
    refine ri_nx rfl rfl ?_
    refine ri_nx rfl rfl ?_
    refine p4 _ ?_
    refine ri_nx rfl rfl ?_
    refine ri_nx rfl rfl ?_
    refine ri_nx rfl rfl ?_
    refine ri_nx rfl rfl ?_
    refine ri_nx rfl rfl ?_
    refine ri_gf rfl am_571 (by decide) am_571_9 ?_
    refine ri_nx rfl rfl ?_
    refine ri_nx rfl rfl ?_
    rw [show (Int8.ofInt 20).toInt32 = Int32.ofInt 20 by decide, ← Int32.ofInt_add, h9]
    refine ri_pf rfl am_571 (by decide) (by rw [am_fs_len]; decide +kernel) rfl ?_
    rw [am_571_set]
    refine ri_nx rfl rfl ?_
    refine ri_gf rfl am_571 (by decide) am_571_9 ?_
    rw [am_up_eq]
    exact ri_rt rfl rfl
/-- feed keeps the invariant -/
theorem INV_feed {h g k : am_H} {a1 a2 a3 a4 a5 : Int} (H : INV h) (hl : h 1 1 ≤ 780) (A : FDC h g a1 a2 a3 a4 a5) (B : FDR g k a1 a2 a3 a4 a5) : INV k := by
  have lo : ∀ x i, x < 571 → k x i = g x i := fun x i z => B.1 x i (by omega) (by omega)
  have kh : ∀ x i, ¬ (x = 1 ∧ i = 1) → x ≠ 2 → ¬ (x = 571 ∧ i = 9) → x ≠ 579 → k x i = h x i := fun x i a b c d => (B.1 x i c d).trans (A.1 x i a b)
  have g9 : g 571 9 = h 571 9 := A.1 _ _ (by omega) (by omega)
  obtain ⟨o, t, p, im⟩ := H.2.2.2
  have A3 := A.2.2.1
  have B3 := B.2.2.1
  have t1 := t.1
  have k1 : k 1 1 = g 1 1 := lo 1 1 (by omega)
  have k9 : k 571 9 = k 1 1 := by omega
  refine INV_mid H (PI_fr H.1.1 (fun x i a => A.1 x i (by omega) (by omega))) lo (fun x i a => A.1 x i (by omega) (by omega)) (fun z => by rw [A.1 5 4 (by omega) (by omega)]; exact z) ⟨nr_fr2 (fun i => A.1 _ _ (by omega) (by omega)), A.1 _ _ (by omega) (by omega)⟩ (RIv_fr H.2.1 (fun x i a => kh x i (by omega) (by omega) (by omega) (by omega))) ⟨kh _ _ (by omega) (by omega) (by omega) (by omega), nr_fr2 (fun i => kh _ _ (by omega) (by omega) (by omega) (by omega))⟩ ⟨?_, ?_, ?_, ?_⟩
  · unfold RSo
    rw [kh 0 15 (by omega) (by omega) (by omega) (by omega), kh 571 29 (by omega) (by omega) (by omega) (by omega)]
    exact ⟨o.1, o.2.1, fun i u v => by rw [kh 498 i (by omega) (by omega) (by omega) (by omega), kh 587 i (by omega) (by omega) (by omega) (by omega)]; exact o.2.2 i u v⟩
  · have T := FDC_T t.2.1 hl A
    have b := t.2.1.1
    refine ⟨k9.symm, ?_, fun i u v => ?_, ?_, ?_⟩
    · rw [k1]
      exact ⟨T.1, fun j u v => by rw [lo _ _ (by omega)]; exact T.2 j u v⟩
    · rw [k1] at v
      rw [lo 2 i (by omega)]
      by_cases c : i < h 1 1
      · rw [A.2.1 i c, B.2.1 i (by omega), A.1 579 i (by omega) (by omega)]
        exact t.2.2.1 i u c
      · have w1 := A.2.2.2 (i - h 1 1) (by omega) (by omega)
        have w2 := B.2.2.2 (i - h 1 1) (by omega) (by omega)
        rw [show h 1 1 + (i - h 1 1) = i by omega] at w1
        rw [show g 571 9 + (i - h 1 1) = i by omega] at w2
        rw [w1, w2]
    · rw [kh 1 4 (by omega) (by omega) (by omega) (by omega), kh 571 10 (by omega) (by omega) (by omega) (by omega)]; exact t.2.2.2.1
    · rw [kh 1 5 (by omega) (by omega) (by omega) (by omega), kh 571 11 (by omega) (by omega) (by omega) (by omega)]; exact t.2.2.2.2
  · have l := p.1
    unfold RSp
    rw [kh 171 1 (by omega) (by omega) (by omega) (by omega), kh 571 2 (by omega) (by omega) (by omega) (by omega), kh 171 0 (by omega) (by omega) (by omega) (by omega), kh 572 1 (by omega) (by omega) (by omega) (by omega)]
    refine ⟨p.1, p.2.1, STG_fr p.2.2.1 (by omega) (fun x i u v => kh x i (by omega) (by omega) (by omega) (by omega)), fun i a c => ?_⟩
    have w := p.2.2.2 i a c
    rw [kh 172 i (by omega) (by omega) (by omega) (by omega), kh 574 (22 * i) (by omega) (by omega) (by omega) (by omega), kh 574 (22 * i + 1) (by omega) (by omega) (by omega) (by omega), nr_fr2 (h := h) (h' := k) (q := 174 + i) (fun j => kh _ _ (by omega) (by omega) (by omega) (by omega)), nr_fr2 (h := h) (h' := k) (q := 574) (fun j => kh _ _ (by omega) (by omega) (by omega) (by omega))]
    exact w
  · intro j a c
    have pa : am_pa j = 499 + 24 * j := rfl
    rw [kh 578 j (by omega) (by omega) (by omega) (by omega), kh (am_pa j) 1 (by omega) (by omega) (by omega) (by omega)]
    exact (im j a c).imp id (fun w => ⟨w.1, IMG_fr w.2 ⟨a, c⟩ (fun x i u => kh x i (by omega) (by omega) (by omega) (by omega))⟩)
/-- feed, in both -/
theorem lw_feed {h : am_H} {G : ri_M} (I : INV h) (w : am_wf h) (hG : G.length < 10000) (x1 x2 x3 x4 x5 : Int32) : ∃ (v : Int32) (h1 h2 : am_H) (G2 : ri_M) (k n : Nat), (INV h2 ∧ am_wf h2) ∧ (G2.length ≤ G.length + 1 ∧ k ≤ 1 ∧ n ≤ 5) ∧ ri_ev 60 none (tb93, 6, 1) (0, lv_args 0 (.ref 0 :: [.int x1, .int x2, .int x3, .int x4, .int x5]), [], am_M h G, 0, 0) (some (.int v), am_M h1 G, 0, 0) ∧ ri_ev 60 none (tb190, 8, 1) (0, lv_args 0 (.ref 571 :: [.int x1, .int x2, .int x3, .int x4, .int x5]), [], am_M h1 G, 0, 0) (some (.int v), am_M h2 G2, k, n) := by
  have T := I.2.2.2.2.1
  have H : C93 (mR 1 11 0 0 :: [mB x1.toInt, mB x2.toInt, mB x3.toInt, mB x4.toInt, mB x5.toInt]) h (fun v h1 => v = some (mB (ifc (780 < h 1 1) (-1) (h 1 1 + 20))) ∧ (¬ 780 < h 1 1 → FDC h h1 x1.toInt x2.toInt x3.toInt x4.toInt x5.toInt) ∧ (780 < h 1 1 → h1 = h)) := And.intro rfl (And.intro T.2.1 (fun h1 q1 => ⟨rfl, q1⟩))
  obtain ⟨t, a1, a2, a3⟩ := C93_ok _ _ _ H
  cases a1
  obtain ⟨v, h1, ⟨rfl, b0, b1⟩, b2, b3, b4⟩ := a3 G w (am_okc am_ok0 (am_okc (am_okB (am_r32 x1)) (am_okc (am_okB (am_r32 x2)) (am_okc (am_okB (am_r32 x3)) (am_okc (am_okB (am_r32 x4)) (am_okc (am_okB (am_r32 x5)) am_okN))))))
  have em : (mR 1 11 0 0 :: [mB x1.toInt, mB x2.toInt, mB x3.toInt, mB x4.toInt, mB x5.toInt]).map am_cv = (.ref 0 :: [.int x1, .int x2, .int x3, .int x4, .int x5]) := by simp [am_cv]
  rw [em] at b4
  have b5 := ri_ev_d b4 (show _ ≤ 60 by decide)
  have T2 := T.2.1.1
  by_cases c : 780 < h 1 1
  · have e := b1 c
    subst e
    rw [ifc_t c] at b5
    refine ⟨_, h1, h1, G, 0, 0, ⟨I, w⟩, ⟨by omega, by omega, by omega⟩, b5, rfeed_no (by rw [← T.1]; exact T2) (by rw [← T.1]; exact c)⟩
  · have e := b0 c
    rw [ifc_f c] at b5
    have g9 : h1 571 9 = h 1 1 := (e.1 _ _ (by omega) (by omega)).trans T.1.symm
    obtain ⟨h2, d1, d2, d3⟩ := rfeed_run (d := 60) (G := G) (a := x1) (b := x2) (c := x3) (e := x4) (g := x5) b2 (by rw [g9]; exact T2) (by rw [g9]; exact c) hG
    rw [g9] at d3
    exact ⟨_, h1, h2, _, 1, 5, ⟨INV_feed I (by omega) e d1, d2⟩, ⟨by rw [List.length_append]; exact Nat.le_refl _, by omega, by omega⟩, b5, d3⟩
