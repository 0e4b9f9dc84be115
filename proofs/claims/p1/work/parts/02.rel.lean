/-! ===== what the small machine's memory says of the heap ===== -/
def ri_ad (bs : Nat) (sa : Nat → Nat) (q : Nat) : Nat := if q < 1000000 then bs + q else sa q
theorem ri_ad_lt {bs : Nat} {sa : Nat → Nat} {q : Nat} (h : q < 1000000) : ri_ad bs sa q = bs + q := if_pos h
def ri_v (bs : Nat) (sa : Nat → Nat) (v : Value) : Value := match v with
  | .ref q => .ref (ri_ad bs sa q)
  | .int x => .int x
  | .long x => .long x
  | .null => .null
  | .float x => .float x
  | .double x => .double x
  | .retAddr x => .retAddr x
theorem ri_v_cat (bs : Nat) (sa : Nat → Nat) (v : Value) : (ri_v bs sa v).category = v.category := by cases v <;> rfl
theorem ri_v_rv (bs : Nat) (sa : Nat → Nat) (r : Option Nat) : va_rf (r.map (ri_ad bs sa)) = ri_v bs sa (ri_rv r) := by cases r <;> rfl
def ri_lv (bs : Nat) (sa : Nat → Nat) (lv : ri_L) : ri_L := lv.map (fun q => (q.1, ri_v bs sa q.2))
def ri_e (bs : Nat) (sa : Nat → Nat) (cs : Nat → ClassId) (c : ri_C) : va_E := match c with
  | .inl (t, .inl xs) => .inl (cs t, xs.length, .inl (fun j => xs.getD j 0))
  | .inl (t, .inr (.inl xs)) => .inl (cs t, xs.length, .inr (.inl (fun j => xs.getD j 0)))
  | .inl (t, .inr (.inr xs)) => .inl (cs t, xs.length, .inr (.inr (.inr (.inr (fun j => (xs.getD j none).map (ri_ad bs sa))))))
  | .inr (ci, fs) => .inr (ci, fs.map (ri_v bs sa))
def ri_w (bs : Nat) (sa : Nat → Nat) (cs : Nat → ClassId) (M : ri_M) : va_W := M.mapIdx (fun k c => (bs + k, ri_e bs sa cs c))
def ri_tys (cs : Nat → ClassId) (PC : String) : List (ClassId × FieldType) := [(cs 0, .int), (cs 1, .long), (cs 2, .char), (cs 3, .boolean), (cs 4, .array .int), (cs 5, .array .long), (cs 6, .object PC)]
section RIL
variable {bs : Nat} {sa : Nat → Nat} {cs : Nat → ClassId} {PC : String}
theorem ri_w_get {M : ri_M} {k : Nat} {c : ri_C} (h : M[k]? = some c) : (ri_w bs sa cs M)[k]? = some (bs + k, ri_e bs sa cs c) := by
  simp [ri_w, List.getElem?_mapIdx, h]
theorem ri_w_len (M : ri_M) : (ri_w bs sa cs M).length = M.length := by simp [ri_w]
theorem ri_w_at {M : ri_M} {k : Nat} {q : Nat × va_E} (h : (ri_w bs sa cs M)[k]? = some q) : ∃ c, M[k]? = some c ∧ q = (bs + k, ri_e bs sa cs c) := by
  rw [ri_w, List.getElem?_mapIdx] at h
  cases hm : M[k]? with
  | none => rw [hm] at h; cases h
  | some c => rw [hm] at h; cases h; exact ⟨c, rfl, rfl⟩
theorem ri_w_set (M : ri_M) (k : Nat) (c : ri_C) : ri_w bs sa cs (M.set k c) = (ri_w bs sa cs M).set k (bs + k, ri_e bs sa cs c) := by
  apply List.ext_getElem?
  intro i
  simp only [ri_w, List.getElem?_mapIdx, List.getElem?_set, List.length_mapIdx]
  by_cases h : k = i
  · subst h
    by_cases hl : k < M.length <;> simp [hl]
  · simp [h]
theorem ri_w_app (M N : ri_M) : ri_w bs sa cs (M ++ N) = ri_w bs sa cs M ++ N.mapIdx (fun j c => (bs + (M.length + j), ri_e bs sa cs c)) := by
  apply List.ext_getElem?
  intro i
  by_cases h : i < M.length
  · rw [List.getElem?_append_left (by rw [ri_w_len]; exact h)]
    simp only [ri_w, List.getElem?_mapIdx, List.getElem?_append_left h]
  · rw [List.getElem?_append_right (by rw [ri_w_len]; omega), ri_w_len]
    simp only [ri_w, List.getElem?_mapIdx, List.getElem?_append_right (show M.length ≤ i by omega)]
    rw [show M.length + (i - M.length) = i by omega]
theorem ri_w_D (M : ri_M) : va_D (fun q => bs ≤ q) (ri_w bs sa cs M) := by
  refine ⟨fun i j p q hi hj hpq => ?_, fun k q hk => ?_⟩
  · obtain ⟨c, -, rfl⟩ := ri_w_at hi
    obtain ⟨c', -, rfl⟩ := ri_w_at hj
    have h : bs + i = bs + j := hpq
    omega
  · obtain ⟨c, -, rfl⟩ := ri_w_at hk
    exact Nat.le_add_right _ _
theorem ri_ld_mem {lv : ri_L} {i : Nat} {v : Value} (h : ri_ld lv i = some v) : (i, v) ∈ lv := by
  unfold ri_ld at h
  cases hf : lv.find? (fun q => q.1 == i) with
  | none => rw [hf] at h; cases h
  | some q =>
    rw [hf] at h
    cases h
    have h1 := List.find?_some hf
    have h2 := List.mem_of_find?_eq_some hf
    obtain ⟨a, b⟩ := q
    have h3 : a = i := by simpa using h1
    subst h3
    exact h2
theorem ri_ldS {ls : Array Slot} {nL : Nat} {lv : ri_L} {i : Nat} {v : Value} (hl : lv_has ls nL (ri_lv bs sa lv)) (h : ri_ld lv i = some v) : ls[i]? = some (.val (ri_v bs sa v)) :=
  hl.2.2 (i, ri_v bs sa v) (List.mem_map.mpr ⟨(i, v), ri_ld_mem h, rfl⟩)
theorem ri_ldK {lv : ri_L} {i : Nat} {v : Value} (h : ri_ld lv i = some v) : ∃ k : Nat, (ri_lv bs sa lv)[k]? = some (i, ri_v bs sa v) :=
  List.getElem?_of_mem (List.mem_map.mpr ⟨(i, v), ri_ld_mem h, rfl⟩)
theorem ri_st1S (lv : ri_L) (i : Nat) (v : Value) : (i, ri_v bs sa v) :: (ri_lv bs sa lv).filter (fun q => !(q.1 == i) && !(q.1 + 1 == i && q.2.category == 2)) = ri_lv bs sa (ri_st1 lv i v) := by
  unfold ri_lv ri_st1
  rw [List.map_cons, List.filter_map]
  congr 2
  apply List.filter_congr
  intro q _
  simp [Function.comp, ri_v_cat]
theorem ri_st2S (lv : ri_L) (i : Nat) (v : Value) : (i, ri_v bs sa v) :: (ri_lv bs sa lv).filter (fun q => !(q.1 == i) && (!(q.1 == i + 1) && !(q.1 + 1 == i && q.2.category == 2))) = ri_lv bs sa (ri_st2 lv i v) := by
  unfold ri_lv ri_st2
  rw [List.map_cons, List.filter_map]
  congr 2
  apply List.filter_congr
  intro q _
  simp [Function.comp, ri_v_cat]
theorem ri_lv_args (i : Nat) (vs : List Value) : lv_args i (vs.map (ri_v bs sa)) = ri_lv bs sa (lv_args i vs) := by
  induction vs generalizing i with
  | nil => rfl
  | cons v vs ih =>
    simp only [List.map_cons, lv_args, ri_v_cat, ri_lv]
    rw [ih]
    rfl
theorem ri_sl_len (vs : List Value) : (lg_sl (vs.map (ri_v bs sa))).length = (vs.map (fun v => v.category)).sum := by
  induction vs with
  | nil => rfl
  | cons v vs ih =>
    have h : (lg_sl ((v :: vs).map (ri_v bs sa))).length = v.category + (lg_sl (vs.map (ri_v bs sa))).length := by
      show (List.flatMap _ (ri_v bs sa v :: vs.map (ri_v bs sa))).length = _
      rw [List.flatMap_cons, List.length_append]
      congr 1
      rw [ri_v_cat]
      rcases lv_cat v with h | h <;> simp [h]
    rw [h, ih]
    simp
theorem ri_gd {α : Type} {xs : List α} {j : Nat} {v z : α} (h : xs[j]? = some v) : xs.getD j z = v := by simp [List.getD, h]
theorem ri_upd {xs : List Int32} {j : Nat} (hj : j < xs.length) (x : Int32) : upd (fun i => xs.getD i 0) j x = fun i => (xs.set j x).getD i 0 := by
  funext i
  unfold upd
  by_cases h : i = j
  · subst h
    simp [List.getD, hj]
  · simp [List.getD, h, List.getElem?_set, Ne.symm h]
theorem ri_updL {xs : List Int64} {j : Nat} (hj : j < xs.length) (x : Int64) : vp_updL (fun i => xs.getD i 0) j x = fun i => (xs.set j x).getD i 0 := by
  funext i
  unfold vp_updL
  by_cases h : i = j
  · subst h
    simp [List.getD, hj]
  · simp [List.getD, h, List.getElem?_set, Ne.symm h]
theorem ri_updq {xs : List (Option Nat)} {j : Nat} (hj : j < xs.length) (x : Nat) : va_up (fun i => (xs.getD i none).map (ri_ad bs sa)) j (some (ri_ad bs sa x)) = fun i => ((xs.set j (some x)).getD i none).map (ri_ad bs sa) := by
  funext i
  unfold va_up
  by_cases h : i = j
  · subst h
    simp [List.getD, hj]
  · simp [List.getD, h, List.getElem?_set, Ne.symm h]
theorem ri_cpy_len {xs ys : List Int32} {s d n : Nat} (h1 : s + n ≤ xs.length) (h2 : d + n ≤ ys.length) : (ri_cpy xs ys s d n).length = ys.length := by
  unfold ri_cpy
  simp only [List.length_append, List.length_take, List.length_drop]
  omega
theorem ri_cpyS {xs ys : List Int32} {s d n : Nat} (h1 : s + n ≤ xs.length) (h2 : d + n ≤ ys.length) : va_cpy (fun i => xs.getD i 0) (fun i => ys.getD i 0) s d n = fun i => (ri_cpy xs ys s d n).getD i 0 := by
  funext i
  unfold va_cpy ri_cpy
  simp only [List.getD]
  by_cases h3 : i < d
  · rw [if_neg (by omega), List.getElem?_append_left (by rw [List.length_take]; omega), List.getElem?_take_of_lt h3]
  · rw [List.getElem?_append_right (by rw [List.length_take]; omega), List.length_take, Nat.min_eq_left (by omega)]
    by_cases h4 : i < d + n
    · rw [if_pos ⟨by omega, h4⟩, List.getElem?_append_left (by rw [List.length_take, List.length_drop]; omega), List.getElem?_take_of_lt (by omega), List.getElem?_drop]
    · rw [if_neg (by omega), List.getElem?_append_right (by rw [List.length_take, List.length_drop]; omega), List.length_take, List.length_drop, List.getElem?_drop]
      congr 2
      omega
theorem ri_in {α : Type} {xs : List α} {i : Int32} (h1 : ¬ i < 0) (h2 : i.toNatClampNeg < xs.length) : vp_in i xs.length := fun q => q.elim h1 (fun q => by omega)
theorem ri_lt {α : Type} {xs : List α} {i : Nat} {v : α} (h : xs[i]? = some v) : i < xs.length := (List.getElem?_eq_some_iff.mp h).1
def ri_kd (d : Nat) (ty : FieldType) : Prop := (d = 0 ∧ ty = .int) ∨ (d = 1 ∧ ty = .long) ∨ (d = 2 ∧ ty = .boolean) ∨ (d = 3 ∧ ((∃ C, ty = .object C) ∨ ∃ t, ty = .array t))
theorem ri_b01 {x : Int32} (h : x = 0 ∨ x = 1) : narrow .boolean (.int x) = .int x ∧ fits .boolean (.int x) = true := by
  rcases h with rfl | rfl <;> decide
theorem ri_fitS {d : Nat} {ty : FieldType} {v : Value} (hk : ri_kd d ty) (h : ri_fit d v = true) : narrow ty (ri_v bs sa v) = ri_v bs sa v ∧ fits ty (ri_v bs sa v) = true := by
  rcases hk with ⟨rfl, rfl⟩ | ⟨rfl, rfl⟩ | ⟨rfl, rfl⟩ | ⟨rfl, ⟨C, rfl⟩ | ⟨t, rfl⟩⟩
  · cases v <;> first | exact ⟨rfl, rfl⟩ | (exfalso; simp [ri_fit] at h)
  · cases v <;> first | exact ⟨rfl, rfl⟩ | (exfalso; simp [ri_fit] at h)
  · cases v with
    | int x =>
      have h' : x = 0 ∨ x = 1 := by simpa [ri_fit] using h
      exact ri_b01 h'
    | _ => simp [ri_fit] at h
  · cases v <;> first | exact ⟨rfl, rfl⟩ | (exfalso; simp [ri_fit] at h)
  · cases v <;> first | exact ⟨rfl, rfl⟩ | (exfalso; simp [ri_fit] at h)
end RIL
