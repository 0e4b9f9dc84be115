/-! ===== what the abstract machine's values and memory stand for ===== -/
noncomputable def am_cv : am_V → Value
  | .inl (x, _) => .int (Int32.ofInt x)
  | .inr (.inl (x, _)) => .long (Int64.ofInt x)
  | .inr (.inr (.inl (k, _, _, a))) => if k = 0 then .null else .ref a.toNat
  | .inr (.inr (.inr (.inl p))) => .int (Int32.ofInt (am_b p))
  | .inr (.inr (.inr (.inr (x, y)))) => .int (lg_cmp (Int64.ofInt x) (Int64.ofInt y))
/-- a reference is right -/
def am_vd (k n m : Nat) (a : Int) : Prop := k = 0 ∨ (k = 9 ∧ 3000000 ≤ a ∧ a < 3000013) ∨ (0 ≤ a ∧ am_LY[a.toNat]? = some (k, n, m))
def am_ok : am_V → Prop
  | .inl (x, f) => f = true → R32 x
  | .inr (.inl (x, f)) => f = true → R64 x
  | .inr (.inr (.inl (k, n, m, a))) => am_vd k n m a
  | .inr (.inr (.inr (.inl _))) => True
  | .inr (.inr (.inr (.inr (x, y)))) => R64 x ∧ R64 y
def am_fv (f : Nat × Nat × Nat × Nat × Int) (h : am_H) (o b : Int) : Value := match f with
  | (0, _) => .int (Int32.ofInt (h o b))
  | (1, _) => .long (Int64.ofInt (h o b))
  | (2, _) => .int (Int32.ofInt (h o b))
  | (3, _, _, _, d) => .ref (o + d).toNat
  | (4, _) => .ref (am_sv o).toNat
  | (_, _, _, _, d) => .ref d.toNat
def am_fs (h : am_H) (o : Int) : Int → List (Nat × Nat × Nat × Nat × Int) → List Value
  | _, [] => []
  | b, f :: l => am_fv f h o b :: am_fs h o (b + 1) l
def am_cell (h : am_H) (q : Nat) (d : Nat × Nat × Nat) : ri_C := match d with
  | (1, c, _) => .inr (c, am_fs h q 0 (am_FT.getD c []))
  | (2, n, _) => .inl (0, .inl ((List.range n).map (fun (i : Nat) => Int32.ofInt (h q i))))
  | (3, n, _) => .inl (1, .inr (.inl ((List.range n).map (fun (i : Nat) => Int64.ofInt (h q i)))))
  | (4, n, _) => .inl (2, .inl ((List.range n).map (fun (i : Nat) => Int32.ofInt (h q i))))
  | (5, n, _) => .inl (3, .inl ((List.range n).map (fun (i : Nat) => Int32.ofInt (h q i))))
  | (6, n, _) => .inl (4, .inr (.inr ((List.range n).map (fun (i : Nat) => some (q + 1 + i)))))
  | (7, n, _) => .inl (5, .inr (.inr ((List.range n).map (fun (i : Nat) => some (q + 1 + i)))))
  | (_, n, _) => .inl (6, .inr (.inr ((List.range n).map (fun (i : Nat) => some (am_pa i).toNat))))
/-- the memory: the two objects and what they hold; G: what feed() left -/
def am_M (h : am_H) (G : ri_M) : ri_M := am_LY.mapIdx (fun q d => am_cell h q d) ++ G
/-- the numbers in it are in range -/
def am_wfc (h : am_H) (q : Nat) (k n : Nat) : Prop :=
  (k = 2 → ∀ i : Nat, i < n → R32 (h q i)) ∧ (k = 3 → ∀ i : Nat, i < n → R64 (h q i)) ∧ (k = 4 → ∀ i : Nat, i < n → 0 ≤ h q i ∧ h q i < 65536) ∧ (k = 5 → ∀ i : Nat, i < n → h q i = 0 ∨ h q i = 1) ∧
  (k = 1 → ∀ (b : Nat) (f : Nat × Nat × Nat × Nat × Int), am_fld n b = some f → (f.1 = 0 → R32 (h q b)) ∧ (f.1 = 1 → R64 (h q b)) ∧ (f.1 = 2 → h q b = 0 ∨ h q b = 1))
def am_wf (h : am_H) : Prop := ∀ (q k n m : Nat), am_LY[q]? = some (k, n, m) → am_wfc h q k n
def am_okL (lv : am_L) : Prop := ∀ (i : Nat) (v : am_V), lv[i]? = some (some v) → am_ok v
def am_okS (st : List am_V) : Prop := ∀ v ∈ st, am_ok v
def am_rel (lv : am_L) (lvc : ri_L) : Prop := ∀ (i : Nat) (v : am_V), lv[i]? = some (some v) → ri_ld lvc i = some (am_cv v)
/-! numbers -/
theorem am_b_t {p : Prop} (h : p) : am_b p = 1 := by unfold am_b; rw [if_pos h]
theorem am_b_f {p : Prop} (h : ¬ p) : am_b p = 0 := by unfold am_b; rw [if_neg h]
theorem am_b_r (p : Prop) : R32 (am_b p) := by
  by_cases h : p
  · rw [am_b_t h]; omega
  · rw [am_b_f h]; omega
theorem am_b_01 (p : Prop) : am_b p = 0 ∨ am_b p = 1 := by
  by_cases h : p
  · exact Or.inr (am_b_t h)
  · exact Or.inl (am_b_f h)
theorem am_ti {x : Int} (h : R32 x) : (Int32.ofInt x).toInt = x := Int32.toInt_ofInt_of_le (by omega) (by omega)
theorem am_tj {x : Int} (h : R64 x) : (Int64.ofInt x).toInt = x := Int64.toInt_ofInt_of_le (by omega) (by omega)
theorem am_lt {x y : Int} (h1 : R32 x) (h2 : R32 y) : Int32.ofInt x < Int32.ofInt y ↔ x < y := by rw [Int32.lt_iff_toInt_lt, am_ti h1, am_ti h2]
theorem am_le {x y : Int} (h1 : R32 x) (h2 : R32 y) : Int32.ofInt x ≤ Int32.ofInt y ↔ x ≤ y := by rw [Int32.le_iff_toInt_le, am_ti h1, am_ti h2]
theorem am_eq {x y : Int} (h1 : R32 x) (h2 : R32 y) : Int32.ofInt x = Int32.ofInt y ↔ x = y := by rw [← Int32.toInt_inj, am_ti h1, am_ti h2]
theorem am_ltj {x y : Int} (h1 : R64 x) (h2 : R64 y) : Int64.ofInt x < Int64.ofInt y ↔ x < y := by rw [Int64.lt_iff_toInt_lt, am_tj h1, am_tj h2]
theorem am_lej {x y : Int} (h1 : R64 x) (h2 : R64 y) : Int64.ofInt x ≤ Int64.ofInt y ↔ x ≤ y := by rw [Int64.le_iff_toInt_le, am_tj h1, am_tj h2]
theorem am_eqj {x y : Int} (h1 : R64 x) (h2 : R64 y) : Int64.ofInt x = Int64.ofInt y ↔ x = y := by rw [← Int64.toInt_inj, am_tj h1, am_tj h2]
theorem am_z : Int32.ofInt 0 = 0 := by decide
theorem am_r0 : R32 0 := by omega
theorem am_r32 (x : Int32) : R32 x.toInt := by
  have h1 := Int32.minValue_le_toInt x
  have h2 := Int32.toInt_le x
  have e1 : Int32.minValue.toInt = -2147483648 := by decide
  have e2 : Int32.maxValue.toInt = 2147483647 := by decide
  omega
theorem am_r64 (x : Int64) : R64 x.toInt := by
  have h1 := Int64.minValue_le_toInt x
  have h2 := Int64.toInt_le x
  have e1 : Int64.minValue.toInt = -9223372036854775808 := by decide
  have e2 : Int64.maxValue.toInt = 9223372036854775807 := by decide
  omega
theorem am_ix {i : Int} {n : Nat} (h0 : 0 ≤ i) (h1 : i < (n : Int)) (hn : n ≤ 100000) : ¬ Int32.ofInt i < 0 ∧ (Int32.ofInt i).toNatClampNeg = i.toNat := by
  have hr : R32 i := by omega
  constructor
  · rw [← am_z, am_lt hr am_r0]; omega
  · unfold Int32.toNatClampNeg; rw [am_ti hr]
theorem am_rg {α : Type} (n : Nat) (f : Nat → α) {i : Nat} (h : i < n) : ((List.range n).map f)[i]? = some (f i) := by
  rw [List.getElem?_map, List.getElem?_range h]; rfl
/-! the memory -/
theorem am_LY_len : am_LY.length = 602 := by decide +kernel
theorem am_LY_lt {q : Nat} {d : Nat × Nat × Nat} (h : am_LY[q]? = some d) : q < 602 := by
  have := (List.getElem?_eq_some_iff.mp h).1
  rw [am_LY_len] at this
  exact this
theorem am_M_get {h : am_H} {G : ri_M} {q : Nat} {d : Nat × Nat × Nat} (hd : am_LY[q]? = some d) : (am_M h G)[q]? = some (am_cell h q d) := by
  unfold am_M
  rw [List.getElem?_append_left (by rw [List.length_mapIdx, am_LY_len]; exact am_LY_lt hd), List.getElem?_mapIdx, hd]
  rfl
theorem am_fs_congr {h h' : am_H} {o : Int} (e : ∀ i, h' o i = h o i) : ∀ (l : List (Nat × Nat × Nat × Nat × Int)) (b : Int), am_fs h' o b l = am_fs h o b l
  | [], _ => rfl
  | f :: l, b => by
    have e1 : am_fv f h' o b = am_fv f h o b := by
      unfold am_fv
      simp only [e]
    show am_fv f h' o b :: am_fs h' o (b + 1) l = am_fv f h o b :: am_fs h o (b + 1) l
    rw [e1, am_fs_congr e l (b + 1)]
theorem am_cell_congr {h h' : am_H} {q : Nat} {d : Nat × Nat × Nat} (e : ∀ i, h' (q : Int) i = h (q : Int) i) : am_cell h' q d = am_cell h q d := by
  unfold am_cell
  simp only [e, am_fs_congr e]
theorem am_M_set {h h' : am_H} {G : ri_M} {q : Nat} {d : Nat × Nat × Nat} {c : ri_C} (hd : am_LY[q]? = some d) (hc : c = am_cell h' q d) (e : ∀ (q' : Nat) i, q' ≠ q → h' (q' : Int) i = h (q' : Int) i) : (am_M h G).set q c = am_M h' G := by
  apply List.ext_getElem?
  intro i
  have hq := am_LY_lt hd
  by_cases hi : i = q
  · subst hi
    rw [am_M_get hd, List.getElem?_set_self (by unfold am_M; rw [List.length_append, List.length_mapIdx, am_LY_len]; omega), hc]
  · rw [List.getElem?_set_ne (Ne.symm hi)]
    unfold am_M
    by_cases hl : i < 602
    · rw [List.getElem?_append_left (by rw [List.length_mapIdx, am_LY_len]; exact hl), List.getElem?_append_left (by rw [List.length_mapIdx, am_LY_len]; exact hl), List.getElem?_mapIdx, List.getElem?_mapIdx]
      congr 1
      funext d'
      exact (am_cell_congr (fun j => e i j hi)).symm
    · rw [List.getElem?_append_right (by rw [List.length_mapIdx, am_LY_len]; omega), List.getElem?_append_right (by rw [List.length_mapIdx, am_LY_len]; omega), List.length_mapIdx, List.length_mapIdx]
theorem am_up_ne {h : am_H} {a i x : Int} {a' i' : Int} (e : a' ≠ a) : am_up h a i x a' i' = h a' i' := if_neg (fun q => e q.1)
theorem am_up_ne2 {h : am_H} {a i x : Int} {a' i' : Int} (e : i' ≠ i) : am_up h a i x a' i' = h a' i' := if_neg (fun q => e q.2)
theorem am_up_eq {h : am_H} {a i x : Int} : am_up h a i x a i = x := if_pos ⟨rfl, rfl⟩
theorem am_row_set {α : Type} (F : Int → α) (h : am_H) (q : Int) (n : Nat) {i : Int} {x : Int} (h0 : 0 ≤ i) (h1 : i < (n : Int)) : ((List.range n).map (fun (j : Nat) => F (h q j))).set i.toNat (F x) = (List.range n).map (fun (j : Nat) => F (am_up h q i x q j)) := by
  apply List.ext_getElem?
  intro j
  by_cases hj : j < n
  · rw [am_rg n _ hj, List.getElem?_set]
    by_cases he : i.toNat = j
    · rw [if_pos he, if_pos (by rw [List.length_map, List.length_range]; omega)]
      have e2 : (j : Int) = i := by omega
      rw [e2, am_up_eq]
    · rw [if_neg he, am_rg n _ hj, am_up_ne2 (by omega)]
  · rw [List.getElem?_eq_none (by rw [List.length_set, List.length_map, List.length_range]; omega), List.getElem?_eq_none (by rw [List.length_map, List.length_range]; omega)]
theorem am_fs_get {h : am_H} {o : Int} : ∀ (l : List (Nat × Nat × Nat × Nat × Int)) (b0 : Int) (b : Nat) (f : Nat × Nat × Nat × Nat × Int), l[b]? = some f → (am_fs h o b0 l)[b]? = some (am_fv f h o (b0 + b))
  | [], b0, b, f, e => by simp at e
  | g :: l, b0, 0, f, e => by
    have e2 : g = f := by simpa using e
    subst e2
    show some (am_fv g h o b0) = _
    simp
  | g :: l, b0, b + 1, f, e => by
    show (am_fs h o (b0 + 1) l)[b]? = _
    rw [am_fs_get l (b0 + 1) b f (by simpa using e)]
    rw [show b0 + 1 + (b : Int) = b0 + ((b + 1 : Nat) : Int) by omega]
theorem am_fs_len {h : am_H} {o : Int} : ∀ (l : List (Nat × Nat × Nat × Nat × Int)) (b0 : Int), (am_fs h o b0 l).length = l.length
  | [], _ => rfl
  | g :: l, b0 => by show (am_fs h o (b0 + 1) l).length + 1 = l.length + 1; rw [am_fs_len l]
theorem am_fs_set {h : am_H} {o : Int} {x : Int} : ∀ (l : List (Nat × Nat × Nat × Nat × Int)) (b0 : Int) (b : Nat) (f : Nat × Nat × Nat × Nat × Int), l[b]? = some f → (am_fs h o b0 l).set b (am_fv f (am_up h o (b0 + b) x) o (b0 + b)) = am_fs (am_up h o (b0 + b) x) o b0 l
  | [], b0, b, f, e => by simp at e
  | g :: l, b0, 0, f, e => by
    have e2 : g = f := by simpa using e
    subst e2
    show am_fv g (am_up h o (b0 + 0) x) o (b0 + 0) :: am_fs h o (b0 + 1) l = am_fv g (am_up h o (b0 + 0) x) o b0 :: am_fs (am_up h o (b0 + 0) x) o (b0 + 1) l
    rw [Int.add_zero]
    congr 1
    have aux : ∀ (l : List (Nat × Nat × Nat × Nat × Int)) (b1 : Int), b0 < b1 → am_fs h o b1 l = am_fs (am_up h o b0 x) o b1 l := by
      intro l
      induction l with
      | nil => intro b1 _; rfl
      | cons g l ih =>
        intro b1 hb
        show am_fv g h o b1 :: am_fs h o (b1 + 1) l = am_fv g (am_up h o b0 x) o b1 :: am_fs (am_up h o b0 x) o (b1 + 1) l
        rw [ih (b1 + 1) (by omega)]
        congr 1
        unfold am_fv
        simp only [am_up_ne2 (show b1 ≠ b0 by omega)]
    exact aux l (b0 + 1) (by omega)
  | g :: l, b0, b + 1, f, e => by
    show am_fv g h o b0 :: (am_fs h o (b0 + 1) l).set b _ = am_fv g _ o b0 :: am_fs _ o (b0 + 1) l
    have ih := am_fs_set (h := h) (o := o) (x := x) l (b0 + 1) b f (by simpa using e)
    rw [show b0 + 1 + (b : Int) = b0 + ((b + 1 : Nat) : Int) by omega] at ih
    rw [ih]
    congr 1
    unfold am_fv
    simp only [am_up_ne2 (show b0 ≠ b0 + ((b + 1 : Nat) : Int) by omega)]
theorem am_fld_e {c b : Nat} {f : Nat × Nat × Nat × Nat × Int} (e : am_fld c b = some f) : (am_FT.getD c [])[b]? = some f := by
  unfold am_fld at e
  cases hc : am_FT[c]? with
  | none => rw [hc] at e; cases e
  | some l =>
    rw [hc] at e
    rw [List.getD, hc]
    exact e
/-! locals -/
theorem am_cv_cat (v : am_V) : (am_cv v).category = am_cat v := by
  match v with
  | .inl (x, f) => rfl
  | .inr (.inl (x, f)) => rfl
  | .inr (.inr (.inl (k, n, m, a))) => show (if k = 0 then Value.null else Value.ref a.toNat).category = 1; by_cases h : k = 0 <;> simp [h] <;> rfl
  | .inr (.inr (.inr (.inl p))) => rfl
  | .inr (.inr (.inr (.inr (x, y)))) => rfl
theorem am_cats_e : ∀ st : List am_V, ((st.map am_cv).map (fun v => v.category)).sum = am_cats st
  | [] => rfl
  | v :: r => by
    show ((am_cv v :: r.map am_cv).map (fun v => v.category)).sum = am_cat v + am_cats r
    rw [List.map_cons, List.sum_cons, am_cats_e r, am_cv_cat]
theorem am_find_filter {α : Type} {p f : α → Bool} : ∀ (l : List α) {q : α}, l.find? p = some q → f q = true → (l.filter f).find? p = some q
  | [], q, h, _ => by simp at h
  | x :: l, q, h, hf => by
    rw [List.find?_cons] at h
    cases hp : p x with
    | true =>
      rw [hp] at h
      cases h
      rw [List.filter_cons, if_pos hf, List.find?_cons, hp]
    | false =>
      rw [hp] at h
      have ih := am_find_filter l h hf
      rw [List.filter_cons]
      by_cases hx : f x = true
      · rw [if_pos hx, List.find?_cons, hp]; exact ih
      · rw [if_neg hx]; exact ih
theorem am_ld_f {l : ri_L} {f : Nat × Value → Bool} {j : Nat} {v : Value} (h : ri_ld l j = some v) (hf : f (j, v) = true) : ri_ld (l.filter f) j = some v := by
  unfold ri_ld at h ⊢
  cases hq : l.find? (fun q => q.1 == j) with
  | none => rw [hq] at h; cases h
  | some q =>
    rw [hq] at h
    cases h
    have h1 : q.1 = j := by simpa using List.find?_some hq
    obtain ⟨a, b⟩ := q
    cases h1
    rw [am_find_filter l hq hf]
    rfl
theorem am_ld_hd {l : ri_L} {j : Nat} {v : Value} : ri_ld ((j, v) :: l) j = some v := by
  unfold ri_ld
  rw [List.find?_cons]
  simp
theorem am_ld_tl {l : ri_L} {i j : Nat} {v : Value} (h : i ≠ j) : ri_ld ((i, v) :: l) j = ri_ld l j := by
  unfold ri_ld
  rw [List.find?_cons]
  have : (i == j) = false := by simpa using h
  simp only [this]
/-- what a store leaves of the others -/
theorem am_cl_get {lv : am_L} {i j : Nat} {v : am_V} (h : (am_cl lv i)[j]? = some (some v)) : lv[j]? = some (some v) ∧ (j + 1 = i → am_cat v = 1) := by
  unfold am_cl at h
  split at h
  · exact ⟨h, fun e => by omega⟩
  · rename_i k
    split at h
    · rename_i q hq
      by_cases e : k = j
      · subst e
        rw [List.getElem?_set] at h
        split at h
        · split at h <;> cases h
        · rename_i hne; exact absurd rfl hne
      · rw [List.getElem?_set_ne e] at h
        exact ⟨h, fun e2 => by omega⟩
    · rename_i hq
      refine ⟨h, fun e => ?_⟩
      have e2 : j = k := by omega
      subst e2
      match v, h with
      | .inl _, _ => rfl
      | .inr (.inl q), h => exact absurd h (hq q)
      | .inr (.inr _), _ => rfl
theorem am_s1_get {lv : am_L} {i j : Nat} {v w : am_V} (h : (am_s1 lv i v)[j]? = some (some w)) : (j = i ∧ w = v) ∨ (j ≠ i ∧ lv[j]? = some (some w) ∧ (j + 1 = i → am_cat w = 1)) := by
  unfold am_s1 at h
  rw [List.getElem?_set] at h
  split at h
  · rename_i e
    split at h
    · cases h; exact Or.inl ⟨e.symm, rfl⟩
    · cases h
  · rename_i e
    exact Or.inr ⟨Ne.symm e, am_cl_get h⟩
theorem am_s2_get {lv : am_L} {i j : Nat} {v w : am_V} (h : (am_s2 lv i v)[j]? = some (some w)) : (j = i ∧ w = v) ∨ (j ≠ i ∧ j ≠ i + 1 ∧ lv[j]? = some (some w) ∧ (j + 1 = i → am_cat w = 1)) := by
  unfold am_s2 at h
  rw [List.getElem?_set] at h
  split at h
  · split at h <;> cases h
  · rename_i e0
    rcases am_s1_get (lv := lv) (i := i) (v := v) h with q | ⟨q1, q2, q3⟩
    · exact Or.inl q
    · exact Or.inr ⟨q1, Ne.symm e0, q2, q3⟩
theorem am_s1_ok {lv : am_L} {i : Nat} {v : am_V} (h : am_okL lv) (hv : am_ok v) : am_okL (am_s1 lv i v) := by
  intro j w hw
  rcases am_s1_get hw with ⟨-, rfl⟩ | ⟨-, q, -⟩
  · exact hv
  · exact h j w q
theorem am_s2_ok {lv : am_L} {i : Nat} {v : am_V} (h : am_okL lv) (hv : am_ok v) : am_okL (am_s2 lv i v) := by
  intro j w hw
  rcases am_s2_get hw with ⟨-, rfl⟩ | ⟨-, -, q, -⟩
  · exact hv
  · exact h j w q
theorem am_s1_rel {lv : am_L} {lvc : ri_L} {i : Nat} {v : am_V} (h : am_rel lv lvc) : am_rel (am_s1 lv i v) (ri_st1 lvc i (am_cv v)) := by
  intro j w hw
  unfold ri_st1
  rcases am_s1_get hw with ⟨rfl, rfl⟩ | ⟨e, q, c⟩
  · exact am_ld_hd
  · rw [am_ld_tl (Ne.symm e)]
    refine am_ld_f (h j w q) ?_
    have e1 : (j == i) = false := by simpa using e
    by_cases e2 : j + 1 = i
    · simp [e1, am_cv_cat, c e2]
    · simp [e1, e2]
theorem am_s2_rel {lv : am_L} {lvc : ri_L} {i : Nat} {v : am_V} (h : am_rel lv lvc) : am_rel (am_s2 lv i v) (ri_st2 lvc i (am_cv v)) := by
  intro j w hw
  unfold ri_st2
  rcases am_s2_get hw with ⟨rfl, rfl⟩ | ⟨e, e3, q, c⟩
  · exact am_ld_hd
  · rw [am_ld_tl (Ne.symm e)]
    refine am_ld_f (h j w q) ?_
    have e1 : (j == i) = false := by simpa using e
    have e4 : (j == i + 1) = false := by simpa using e3
    by_cases e2 : j + 1 = i
    · simp [e1, e4, am_cv_cat, c e2]
    · simp [e1, e4, e2]
theorem am_ld_e {lv : am_L} {i : Nat} {v : am_V} (h : am_ld lv i = some v) : lv[i]? = some (some v) := by
  unfold am_ld at h
  split at h
  · rename_i w hw; cases h; exact hw
  · cases h
theorem am_prj_get : ∀ (ks : List Nat) (lv : am_L) (i : Nat) (w : am_V), (am_prj ks lv)[i]? = some (some w) → ∃ v, lv[i]? = some (some v) ∧ am_cv w = am_cv v ∧ (am_ok v → am_ok w)
  | [], lv, i, w, h => by simp [am_prj] at h
  | k :: ks, [], i, w, h => by simp [am_prj] at h
  | k :: ks, v :: lv, i + 1, w, h => by
    have h2 : (am_prj ks lv)[i]? = some (some w) := by simpa [am_prj] using h
    obtain ⟨v', q1, q2, q3⟩ := am_prj_get ks lv i w h2
    exact ⟨v', by simpa using q1, q2, q3⟩
  | k :: ks, v :: lv, 0, w, h => by
    have h2 : am_pj k v = some w := by simpa [am_prj] using h
    unfold am_pj at h2
    split at h2
    · cases h2
    · subst h2; exact ⟨w, rfl, rfl, id⟩
    · split at h2
      · cases h2; exact ⟨_, rfl, rfl, fun _ e => by cases e⟩
      · cases h2; exact ⟨_, rfl, rfl, fun _ e => by cases e⟩
      · cases h2; exact ⟨_, rfl, rfl, fun _ e => by cases e⟩
      · cases h2
