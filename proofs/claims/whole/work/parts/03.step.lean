/-! ===== one instruction of the small machine is one of the machine's ===== -/
section RIS
/-- the texts stand in Fd, behind the classes -/
def ri_FX (Fd : List (List Value)) : Prop := ∀ i : Nat, i < 13 → Fd[13 + i]? = some ((ri_txB.getD i []).map Value.int)
/-- what the pool and the tables must say of an instruction -/
def ri_okS (cl : List vw_C) (G Nst : List Cond) (Fd : List (List Value)) (PC own nm : String) (nL pc : Nat) : ri_I → Prop
  | (ins, a, b, c, d) => match ins with
    | .ifCond _ off => (pc : Int) + off = (a : Int)
    | .if_icmp _ off => (pc : Int) + off = (a : Int)
    | .goto off => (pc : Int) + off = (a : Int)
    | .ifnull off => (pc : Int) + off = (a : Int)
    | .ifnonnull off => (pc : Int) + off = (a : Int)
    | .istore_n j => (j : Nat) < nL
    | .istore j => j < nL
    | .astore_n j => (j : Nat) < nL
    | .astore j => j < nL
    | .lstore_n j => (j : Nat) + 1 < nL
    | .lstore j => j + 1 < nL
    | .iinc j _ => j < nL
    | .ldc idx => (c = 0 → Cond.constant own idx (Int32.ofNat a) ∈ G) ∧ (c = 1 → ∃ tx : String, (own, idx, tx, a) ∈ ri_LIT)
    | .ldc_w idx => (c = 0 → Cond.constant own idx (Int32.ofNat a) ∈ G) ∧ (c = 1 → ∃ tx : String, (own, idx, tx, a) ∈ ri_LIT)
    | .ldc2_w idx => Cond.constantLong own idx (Int64.ofNat a) ∈ G
    | .tableswitch dflt _ _ offs => (pc : Int) + dflt = (a : Int) ∧ ∀ off ∈ offs.toList, 0 ≤ (pc : Int) + off
    | .getfield idx => ∃ (C : String) (T : u_T) (N : Nat), cl[a]? = some (C, T, N) ∧ b < N ∧ (∀ w ∈ u_ws C T N, w ∈ G) ∧ (Cond.fieldLink own idx (T b).1 (T b).2.1 (T b).2.2.1 ∈ G ∨ ∃ host, Cond.fieldLinkNest own idx (T b).1 (T b).2.1 (T b).2.2.1 host ∈ Nst)
    | .putfield idx => ∃ (C : String) (T : u_T) (N : Nat) (ty : Nat → FieldType), cl[a]? = some (C, T, N) ∧ b < N ∧ (∀ w ∈ u_ws C T N, w ∈ G) ∧ (∀ k, k < N → parseFieldDescriptor (T k).2.2.1 = some (ty k)) ∧ (∀ x, x < N → ∀ y, y < N → x ≠ y → (T x).2.1 ≠ (T y).2.1) ∧ ri_kd d (ty b) ∧
        (((T b).2.2.2 = false ∧ (Cond.fieldLink own idx (T b).1 (T b).2.1 (T b).2.2.1 ∈ G ∨ ∃ host, Cond.fieldLinkNest own idx (T b).1 (T b).2.1 (T b).2.2.1 host ∈ Nst)) ∨ ((T b).2.2.2 = true ∧ Cond.fieldLink own idx (T b).1 (T b).2.1 (T b).2.2.1 ∈ G ∧ nm = "<init>" ∧ (T b).1 = own))
    | .new idx => ∃ (C : String) (T : u_T) (N : Nat) (ty : Nat → FieldType) (fs : List Value), cl[a]? = some (C, T, N) ∧ (∀ w ∈ u_ws C T N, w ∈ G) ∧ (∀ k, k < N → parseFieldDescriptor (T k).2.2.1 = some (ty k)) ∧ Cond.classLink own idx C ∈ G ∧ Cond.instantiable C N ∈ G ∧ Cond.initialized C ∈ G ∧ Fd[a]? = some fs ∧ fs.length = N ∧ (∀ j, j < N → defaultValue (ty j) = vp_V fs j) ∧ ∀ v ∈ fs, ∀ q, v ≠ .ref q
    | .newarray at0 => (a = 0 ∧ at0 = .int ∧ Cond.arrayClass .int ∈ G) ∨ (a = 1 ∧ at0 = .long ∧ Cond.arrayClass .long ∈ G) ∨ (a = 2 ∧ at0 = .char ∧ Cond.arrayClass .char ∈ G) ∨ (a = 3 ∧ at0 = .boolean ∧ Cond.arrayClass .boolean ∈ G)
    | .anewarray idx => Cond.classLink own idx PC ∈ G ∧ Cond.arrayOver (.object PC) ∈ Nst
    | .multianewarray idx dm => dm = 2 ∧ ((a = 4 ∧ b = 0 ∧ Cond.classLink own idx ("[" ++ (FieldType.array .int).toString) ∈ G ∧ Cond.arrayOver (.array .int) ∈ Nst ∧ Cond.arrayClass .int ∈ G) ∨ (a = 5 ∧ b = 1 ∧ Cond.classLink own idx ("[" ++ (FieldType.array .long).toString) ∈ G ∧ Cond.arrayOver (.array .long) ∈ Nst ∧ Cond.arrayClass .long ∈ G))
    | .aastore => ∃ r : vw_C, cl[a]? = some r ∧ r.1 = PC
    | .invokespecial idx => c = 2 → (Cond.methodLink own idx Lib.objectInit ∈ G ∧ Cond.instanceMethod Lib.objectInit ∈ G ∧ Cond.code Lib.objectInit ⟨#[0xb1]⟩ 1 none ∈ G)
    | .invokevirtual idx => c = 9 → ((∀ w ∈ ri_JW, w ∈ G) ∧ (b = 0 → Cond.methodLink own idx jxLen ∈ G) ∧ (b = 1 → Cond.methodLink own idx jxChr ∈ G) ∧ ri_FX Fd)
    | .invokestatic idx => (c = 4 → (Cond.methodLink own idx arraycopyName ∈ G ∧ Cond.native arraycopyName ∈ G ∧ Cond.static arraycopyName ∈ G ∧ Cond.initialized "java/lang/System" ∈ G)) ∧ (c = 6 → (Cond.methodLink own idx Lib.Math.max.name ∈ G ∧ Cond.static Lib.Math.max.name ∈ G ∧ Cond.initialized "java/lang/Math" ∈ G ∧ Cond.code Lib.Math.max.name Lib.Math.max.code 2 (some .int) ∈ G)) ∧ (c = 7 → (Cond.methodLink own idx Lib.Math.min.name ∈ G ∧ Cond.static Lib.Math.min.name ∈ G ∧ Cond.initialized "java/lang/Math" ∈ G ∧ Cond.code Lib.Math.min.name Lib.Math.min.code 2 (some .int) ∈ G)) ∧ (c = 8 → (Cond.methodLink own idx Lib.MathLoose.max_long.x ∈ G ∧ Cond.static Lib.MathLoose.max_long.x ∈ G ∧ Cond.initialized "java/lang/Math" ∈ G ∧ Cond.code Lib.MathLoose.max_long.x Lib.MathLoose.max_long.code 4 (some .long) ∈ G))
    | _ => True
theorem ri_cl_ne {y n0 pc : Nat} {lv : ri_L} {st : List Value} {M : ri_M} {k n how d : Nat} {F' : ri_F} : ¬ ri_cl y n0 pc lv st M k n how d = some (.inl F') := by
  intro h
  unfold ri_cl at h
  (repeat' split at h) <;> cases h
variable {p : Program} {l : Launch} {e : Env} {R : Room} {s : State} {m : MethodId} {args : Array Value} {below : List Frame} {meth : Method} {c : Code} {Q : State → Prop}
variable {cc : ByteArray} {D : va_G} {cl : List vw_C} {cs : Nat → ClassId} {PC : String} {bs : Nat} {sa : Nat → Nat} {G Nst : List Cond} {Fd : List (List Value)} {own nm : String} {nL rk : Nat} {X : Option (List Int32)}
/-- what holds of a method's body all along -/
def ri_Cx (p : Program) (R : Room) (s : State) (m : MethodId) (args : Array Value) (meth : Method) (c : Code) (cc : ByteArray) (D : va_G) (cl : List vw_C) (cs : Nat → ClassId) (PC : String) (bs : Nat) (sa : Nat → Nat) (G Nst : List Cond) (own nm : String) (nL : Nat) (X : Option (List Int32)) : Prop :=
  p.tables.exec = Jvm.exec ∧ c.code = cc ∧ c.maxLocals = nL ∧ s.vm.findClass own = some m.cls ∧ (∀ w ∈ G, w.before args s = true) ∧ va_K D cl (ri_tys cs PC) s ∧ (∀ w ∈ Nst, va_Nw w s) ∧ bs ≤ s.heap.size ∧ meth.name = nm ∧ 1 ≤ R.frames ∧ 90 ≤ R.locals ∧ (∀ xs, X = some xs → va_X (sa 2000000) xs.length (fun j => xs.getD j 0) s s.heap ∧ sa 2000000 < bs) ∧ (6 ≤ R.frames ∧ 500 ≤ R.locals) ∧ ri_TX bs sa s
/-- the heap's size is known -/
theorem ri_sz {H : Heap} {locs : List Loc} {k n : Nat} {g : JFrame} {M : ri_M} (hP : va_P D cl (ri_w bs sa cs M) H) (hS : va_S (fun q => bs ≤ q) s.heap H locs) (hbs : bs ≤ s.heap.size) (hn : s.heap.size + k = bs + M.length)
    (kk : H.size = bs + M.length → W p l e R s m args below meth c H locs k n Q g) : W p l e R s m args below meth c H locs k n Q g := by
  intro T hT Xs
  have h1 := Xs.heapSize
  rw [hT] at h1
  have h2 := hS.1
  refine kk ?_ T hT Xs
  cases hM : M.length with
  | zero => rw [hM] at hn; omega
  | succ j =>
    have hj : j < M.length := by omega
    have h3 := (hP j _ (ri_w_get (List.getElem?_eq_getElem hj))).lt
    have h4 : bs + j < H.size := h3
    omega
theorem ri_catm (vs : List Value) : ((vs.map (ri_v bs sa)).map (fun v => v.category)).sum = (vs.map (fun v => v.category)).sum := by
  rw [List.map_map]
  congr 1
  apply List.map_congr_left
  intro v _
  exact ri_v_cat bs sa v
theorem ri_tyS (hK : va_K D cl (ri_tys cs PC) s) {t : Nat} (h : t < 4) : ∃ ty, (ri_tys cs PC)[t]? = some (cs t, ty) := by
  rcases (show t = 0 ∨ t = 1 ∨ t = 2 ∨ t = 3 by omega) with rfl | rfl | rfl | rfl <;> exact ⟨_, rfl⟩
theorem ri_tyR {t : Nat} (h1 : 4 ≤ t) (h2 : t < 7) : ∃ ty, (ri_tys cs PC)[t]? = some (cs t, ty) ∧ ty.isReference = true := by
  rcases (show t = 4 ∨ t = 5 ∨ t = 6 by omega) with rfl | rfl | rfl <;> exact ⟨_, rfl, rfl⟩
theorem ri_pushP {M : ri_M} {H H1 : Heap} {x : ri_C} (hP : va_P D cl (ri_w bs sa cs M) H) (hz : H.size = bs + M.length) (o1 : ∀ q, q < H.size → H1[q]? = H[q]?) (hx : va_at D cl (H.size, ri_e bs sa cs x) H1) : va_P D cl (ri_w bs sa cs (M ++ [x])) H1 := by
  rw [ri_w_app]
  refine (hP.kept (fun k y hy => o1 y.1 ((hP k y hy).lt))).app (fun k y hy => ?_)
  have h0 : k < 1 := by
    have := (List.getElem?_eq_some_iff.mp hy).1
    simpa using this
  rw [show k = 0 by omega] at hy
  simp only [List.mapIdx_cons, List.mapIdx_nil, List.getElem?_cons_zero, Option.some.injEq, Nat.add_zero] at hy
  rw [← hy, ← hz]
  exact hx
theorem ri_pushS {H H1 : Heap} {locs : List Loc} (hS : va_S (fun q => bs ≤ q) s.heap H locs) (hz : H.size ≤ H1.size) (o1 : ∀ q, q < H.size → H1[q]? = H[q]?) : va_S (fun q => bs ≤ q) s.heap H1 locs :=
  ⟨Nat.le_trans hS.1 hz, fun x h1 h2 => (o1 x (Nat.lt_of_lt_of_le h1 hS.1)).trans (hS.2.1 x h1 h2), hS.2.2⟩
theorem ri_rep {α : Type} (n j : Nat) (z : α) : (List.replicate n z).getD j z = z := by
  simp only [List.getD, List.getElem?_replicate]
  by_cases h : j < n <;> simp [h]
theorem ri_cellI (t N : Nat) : ri_e bs sa cs (.inl (t, .inl (List.replicate N 0))) = .inl (cs t, N, .inl (fun _ => 0)) := by
  simp only [ri_e, List.length_replicate, ri_rep]
theorem ri_cellL (t N : Nat) : ri_e bs sa cs (.inl (t, .inr (.inl (List.replicate N 0)))) = .inl (cs t, N, .inr (.inl (fun _ => 0))) := by
  simp only [ri_e, List.length_replicate, ri_rep]
theorem ri_cellQ (t N : Nat) : ri_e bs sa cs (.inl (t, .inr (.inr (List.replicate N none)))) = .inl (cs t, N, .inr (.inr (.inr (.inr (fun _ => none))))) := by
  simp only [ri_e, List.length_replicate, ri_rep, Option.map_none]
theorem ri_rowE (b N : Nat) : ri_e bs sa cs (ri_row b N) = .inl (cs b, if b = 1 then (N, .inr (.inl (fun _ => 0))) else (N, .inl (fun _ => 0))) := by
  unfold ri_row
  by_cases h : b = 1
  · subst h
    rw [if_pos rfl, if_pos rfl]
    exact ri_cellL 1 N
  · rw [if_neg h, if_neg h]
    exact ri_cellI b N
set_option maxHeartbeats 4000000 in
theorem ri_mna {pc : Nat} {ls : Array Slot} {rest : List Value} {H : Heap} {locs : List Loc} {k n : Nat} {M : ri_M} {a b : Nat} {ty : FieldType} (hx : p.tables.exec = Jvm.exec) (hb : c.code = cc) (hown : s.vm.findClass own = some m.cls) {idx : Nat} (h1 : (Cond.classLink own idx ("[" ++ (FieldType.array ty).toString)).before args s = true) (h2 : (Cond.arrayOver (.array ty)).before args s = true) (h3 : (Cond.arrayClass ty).before args s = true)
    (hcA : s.vm.findClass ("[" ++ (FieldType.array ty).toString) = some (cs a)) (hcB : s.vm.findClass (FieldType.array ty).toString = some (cs b)) {x y : Int32} (hx0 : ¬ x < 0) (hy0 : ¬ y < 0) (hx1 : x.toNatClampNeg ≤ 60000) (hy1 : y.toNatClampNeg ≤ 60000) (hb2 : componentBytes ty ≤ 8) (hdf : fits ty (defaultValue ty) = true) (hdd : (defaultValue ty).isDefault = true)
    (hrow : ∀ N, va_at D cl (0, ri_e bs sa cs (ri_row b N)) #[] = va_at D cl (0, .inl (cs b, if b = 1 then (N, .inr (.inl (fun _ => 0))) else (N, .inl (fun _ => 0)))) #[]) (hin : ∀ N, Jvm.Free.Multi.innerC (cs b) N (defaultValue ty) = vp_cell (cs b) (if b = 1 then (N, .inr (.inl (fun _ => 0))) else (N, .inl (fun _ => 0))))
    (hP : va_P D cl (ri_w bs sa cs M) H) (hS : va_S (fun q => bs ≤ q) s.heap H locs) (hz : H.size = bs + M.length) (hM : M.length < 900000) (hc : k + 1 + x.toNatClampNeg ≤ R.cells) (hs : n + x.toNatClampNeg + x.toNatClampNeg * y.toNatClampNeg ≤ R.slots) (hdg : decode cc pc = .ok (.multianewarray idx 2, 4))
    (kk : ∀ H1 : Heap, va_P D cl (ri_w bs sa cs (M ++ ((.inl (a, .inr (.inr ((List.range x.toNatClampNeg).map (fun i => some (M.length + 1 + i)))))) :: List.replicate x.toNatClampNeg (ri_row b y.toNatClampNeg)))) H1 → va_S (fun q => bs ≤ q) s.heap H1 locs → W p l e R s m args below meth c H1 locs (k + 1 + x.toNatClampNeg) (n + x.toNatClampNeg + x.toNatClampNeg * y.toNatClampNeg) Q (F0 m (pc + 4) ls (.ref (bs + M.length) :: rest))) :
    W p l e R s m args below meth c H locs k n Q (F0 m pc ls (.int y :: .int x :: rest)) := by
  intro T hT Xs
  obtain ⟨vm₁, cA, comp, -, fA, fC, -, -, X', step⟩ := Xs.multianewarray2F hx hown h1 h2 h3 (g := F0 m pc ls (.int y :: .int x :: rest)) rfl (by rw [hb]; exact hdg) rfl hx0 hy0 (by omega) (by have := Nat.mul_le_mul hy1 hb2; omega) (by omega) hdf hdd (by omega) (by omega)
  have ec : cA = cs a := Option.some.inj (fA.symm.trans hcA)
  have eb : comp = cs b := Option.some.inj (fC.symm.trans hcB)
  subst ec
  subst eb
  generalize hF : Jvm.Free.Multi.fill (T.setVm vm₁) (cs a) (cs b) x.toNatClampNeg y.toNatClampNeg (defaultValue ty) x.toNatClampNeg = F at X' step
  have hTh : (T.setVm vm₁).heap = H := hT
  obtain ⟨f1, f2, -, -⟩ := Jvm.Free.Multi.fill_facts (T.setVm vm₁) (cs a) (cs b) x.toNatClampNeg y.toNatClampNeg (defaultValue ty) x.toNatClampNeg
  rw [hF, hTh] at f1 f2
  have hold : ∀ q : Nat, q < H.size → F.heap[q]? = H[q]? := fun q hq => by
    have := Jvm.Free.Multi.fill_old (T.setVm vm₁) (cs a) (cs b) x.toNatClampNeg y.toNatClampNeg (defaultValue ty) (a := q) (by rw [hTh]; exact hq) x.toNatClampNeg
    rw [hF, hTh] at this
    exact this
  have hinn : ∀ j : Nat, j < x.toNatClampNeg → F.heap[H.size + 1 + j]? = some (vp_cell (cs b) (if b = 1 then (y.toNatClampNeg, .inr (.inl (fun _ => 0))) else (y.toNatClampNeg, .inl (fun _ => 0)))) := fun j hj => by
    have := Jvm.Free.Multi.fill_inner (T.setVm vm₁) (cs a) (cs b) x.toNatClampNeg y.toNatClampNeg (defaultValue ty) x.toNatClampNeg j hj
    rw [hF, hTh, hin] at this
    exact this
  have hout : ∀ i : Nat, Jvm.Free.Multi.outerC (cs a) x.toNatClampNeg H.size i = arrV (cs a) x.toNatClampNeg (fun j => va_rf (if j < i then some (H.size + 1 + j) else none)) := by
    intro i
    induction i with
    | zero =>
      show ({ cls := cs a, slots := Array.replicate x.toNatClampNeg .null, vm := .none } : Cell) = _
      rw [arrV_new]
      refine congrArg (arrV (cs a) x.toNatClampNeg) (funext fun j => ?_)
      simp [va_rf]
    | succ i ih =>
      show (Jvm.Free.Multi.outerC (cs a) x.toNatClampNeg H.size i).setSlot i (.ref (H.size + 1 + i)) = _
      rw [ih, arrV_store]
      refine congrArg (arrV (cs a) x.toNatClampNeg) (funext fun j => ?_)
      by_cases e : j = i
      · subst e
        simp [updV, va_rf]
      · by_cases h : j < i
        · simp [updV, e, h, Nat.lt_succ_of_lt h]
        · simp [updV, e, h, show ¬ j < i + 1 by omega]
  rw [hout] at f2
  have hP1 : va_P D cl (ri_w bs sa cs (M ++ ((.inl (a, .inr (.inr ((List.range x.toNatClampNeg).map (fun i => some (M.length + 1 + i)))))) :: List.replicate x.toNatClampNeg (ri_row b y.toNatClampNeg)))) F.heap := by
    rw [ri_w_app]
    refine (hP.kept (fun k9 q hq => hold q.1 ((hP k9 q hq).lt))).app (fun k9 q hq => ?_)
    rw [List.getElem?_mapIdx] at hq
    cases k9 with
    | zero =>
      simp only [List.getElem?_cons_zero, Option.map_some, Option.some.injEq, Nat.add_zero] at hq
      rw [← hq]
      show F.heap[bs + M.length]? = some (vp_cell _ _)
      rw [← hz, f2]
      congr 1
      show arrV _ _ _ = vp_cell (cs a) ((List.map (fun i => some (M.length + 1 + i)) (List.range x.toNatClampNeg)).length, _)
      rw [List.length_map, List.length_range, vp_cell_q]
      show ({ cls := cs a, slots := Array.ofFn (n := x.toNatClampNeg) fun j => _, vm := .none } : Cell) = { cls := cs a, slots := Array.ofFn (n := x.toNatClampNeg) fun j => _, vm := .none }
      congr 2
      funext j
      have hj := j.isLt
      simp only [hj, if_true, List.getD, List.getElem?_map, List.getElem?_range, Option.map_some, Option.getD_some]
      rw [ri_ad_lt (by omega), hz]
      congr 2
      omega
    | succ j =>
      simp only [List.getElem?_cons_succ, List.getElem?_replicate] at hq
      by_cases hj : j < x.toNatClampNeg
      · simp only [hj, if_true, Option.map_some, Option.some.injEq] at hq
        rw [← hq, ri_rowE]
        show F.heap[bs + (M.length + (j + 1))]? = some (vp_cell _ _)
        rw [← hinn j hj, hz]
        congr 1
        omega
      · simp [hj] at hq
  obtain ⟨t, a1, b1⟩ := kk F.heap hP1 (ri_pushS hS (by rw [f1]; omega) hold) F rfl X'
  refine ⟨t, step t ?_, b1⟩
  have e0 : T.heap.size = bs + M.length := by rw [hT]; exact hz
  rw [e0]
  exact a1
theorem ri_q13 {q : Nat} (h : 3000000 ≤ q ∧ q < 3000013) : ∃ i : Nat, i < 13 ∧ q = 3000000 + i := ⟨q - 3000000, by omega, by omega⟩
theorem ri_ldcSW {pc : Nat} {ls : Array Slot} {rest : List Value} {H : Heap} {locs : List Loc} {cells slots : Nat} (hexec : p.tables.exec = Jvm.exec) (hb : c.code = cc) {tx : String} {index q : Nat} (hown : s.vm.findClass own = some m.cls) (hZ : vk_R own index tx q s) (hdg : decode cc pc = .ok (.ldc_w index, 3))
    (k : W p l e R s m args below meth c H locs cells slots Q (F0 m (pc + 3) ls (.ref q :: rest))) : W p l e R s m args below meth c H locs cells slots Q (F0 m pc ls rest) := by
  intro T hT X
  obtain ⟨t, a1, b1⟩ := k T hT X
  exact ⟨t, X.ldcStringW hexec hown (text := tx) (a := q) hZ.1 hZ.2 (g := F0 m pc ls rest) rfl (by rw [hb]; exact hdg) t a1, b1⟩
set_option maxRecDepth 20000 in
theorem ri_sxW (HG : ∀ w ∈ G, (w.onTables && w.keeps) = true ∨ ∃ ty, w = .arrayClass ty) (CF : CallFix p m c cc nL s args G own) (hR6 : 6 ≤ R.frames ∧ 500 ≤ R.locals) (hTX : ri_TX bs sa s) {idx b pc k n : Nat} {lv : ri_L} {st : List Value} {M : ri_M} {F' : ri_F} (hok : (∀ w ∈ ri_JW, w ∈ G) ∧ (b = 0 → Cond.methodLink own idx jxLen ∈ G) ∧ (b = 1 → Cond.methodLink own idx jxChr ∈ G) ∧ ri_FX Fd) (hd : decode cc pc = .ok (.invokevirtual idx, 3)) (h : ri_sx Fd b pc lv st M k n = some (.inl F')) {H : Heap} {locs : List Loc} {ls : Array Slot}
    (hP : va_P D cl (ri_w bs sa cs M) H) (hl : lv_has ls nL (ri_lv bs sa lv)) (hS : va_S (fun q => bs ≤ q) s.heap H locs) (hn : s.heap.size + k = bs + M.length) (hk : F'.2.2.2.2.1 ≤ R.cells ∧ F'.2.2.2.2.2 ≤ R.slots)
    (kk : ∀ (H1 : Heap) (locs1 : List Loc) (ls1 : Array Slot), va_P D cl (ri_w bs sa cs F'.2.2.2.1) H1 → lv_has ls1 nL (ri_lv bs sa F'.2.1) → va_S (fun q => bs ≤ q) s.heap H1 locs1 → s.heap.size + F'.2.2.2.2.1 = bs + F'.2.2.2.1.length → W p l e R s m args below meth c H1 locs1 F'.2.2.2.2.1 F'.2.2.2.2.2 Q (F0 m F'.1 ls1 (F'.2.2.1.map (ri_v bs sa)))) :
    W p l e R s m args below meth c H locs k n Q (F0 m pc ls (st.map (ri_v bs sa))) := by
  obtain ⟨hJ, hl0, hl1, hFX⟩ := hok
  have hts := CF.2.2.2.2
  have hTX0 := hTX
  obtain ⟨adV, zv, z0, z1, z2, z3, z4⟩ := hTX
  unfold ri_sx at h
  split at h
  · rename_i q r
    split at h
    · rename_i hc
      obtain ⟨rfl, hq, h8⟩ := hc
      obtain ⟨i, hi, rfl⟩ := ri_q13 hq
      rw [show (3000000 + i) % 1000000 = i by omega, hFX i hi] at h
      cases h
      have e1 : ri_ad bs sa (3000000 + i) = sa (3000000 + i) := if_neg (by omega)
      show W p l e R s m args below meth c H locs k n Q (F0 m pc ls (.ref (ri_ad bs sa (3000000 + i)) :: r.map (ri_v bs sa)))
      rw [e1]
      refine jx_go (va_runV (As := []) (rest := r.map (ri_v bs sa)) (C := "java/lang/String") (Ts := G) CF (jx_len hJ HG hi) ⟨callB_of 0 hts (fun w hw => by rcases List.mem_cons.mp hw with rfl | hw; exact ⟨(hJ _ (List.mem_of_getElem? (i := 0) rfl)), HG _ (hJ _ (List.mem_of_getElem? (i := 0) rfl))⟩; exact ⟨hw, HG w hw⟩) rfl rfl rfl (hts _ (hJ _ (List.mem_of_getElem? (i := 23) rfl))) (hts _ (hl0 rfl)) ⟨by decide, by decide, by decide +kernel⟩ ⟨by show 1 + 1 ≤ _; omega, by show 8 + (1 + 11) + 30 ≤ _; omega⟩, hts _ (hJ _ (List.mem_of_getElem? (i := 26) rfl)), hts _ (hJ _ (List.mem_of_getElem? (i := 27) rfl))⟩ ⟨jx_blind, ri_recv z1 hi hS, fun U hU hW => ⟨rfl, hTX0.to hW hU hS⟩⟩ rfl rfl hl.1 rfl (lv_room (by rw [ri_catm]; exact h8)) hd ⟨hk.1, hk.2⟩) ?_
      have K9 := kk H locs ls hP hl hS hn
      dsimp only at K9
      rw [List.length_map, ← (jx_nl i hi).1] at K9
      exact K9
    · cases h
  · rename_i x q r
    split at h
    · rename_i hc
      obtain ⟨rfl, hq, hx0, h8⟩ := hc
      obtain ⟨i, hi, rfl⟩ := ri_q13 hq
      rw [show (3000000 + i) % 1000000 = i by omega, hFX i hi] at h
      dsimp only at h
      rw [List.getElem?_map] at h
      have hnl := jx_nl i hi
      cases hv : (ri_txB.getD i [])[x.toNatClampNeg]? with
      | none => rw [hv] at h; cases h
      | some v =>
        rw [hv] at h
        cases h
        have hlt : x.toNatClampNeg < ri_txL.getD i 0 := by rw [hnl.1]; exact (List.getElem?_eq_some_iff.mp hv).1
        have ev : (ri_txB.getD i []).getD x.toNatClampNeg 0 = v := by rw [List.getD, hv]; rfl
        have e1 : ri_ad bs sa (3000000 + i) = sa (3000000 + i) := if_neg (by omega)
        show W p l e R s m args below meth c H locs k n Q (F0 m pc ls (.int x :: .ref (ri_ad bs sa (3000000 + i)) :: r.map (ri_v bs sa)))
        rw [e1]
        refine jx_go (va_runV (As := [.int x]) (rest := r.map (ri_v bs sa)) (C := "java/lang/String") (Ts := G) CF (jx_chr hJ HG hi hx0 hlt) ⟨callB_of 1 hts (fun w hw => by rcases List.mem_cons.mp hw with rfl | hw; exact ⟨(hJ _ (List.mem_of_getElem? (i := 3) rfl)), HG _ (hJ _ (List.mem_of_getElem? (i := 3) rfl))⟩; exact ⟨hw, HG w hw⟩) rfl rfl rfl (hts _ (hJ _ (List.mem_of_getElem? (i := 23) rfl))) (hts _ (hl1 rfl)) ⟨by decide, by decide, by decide +kernel⟩ ⟨by show 3 + 1 ≤ _; omega, by show 8 + (2 + 11) + 90 ≤ _; omega⟩, hts _ (hJ _ (List.mem_of_getElem? (i := 28) rfl)), hts _ (hJ _ (List.mem_of_getElem? (i := 29) rfl))⟩ ⟨jx_blind, ri_recv z1 hi hS, fun U hU hW => ⟨rfl, hTX0.to hW hU hS⟩⟩ rfl rfl hl.1 rfl (lv_room (by rw [ri_catm]; exact h8)) hd ⟨hk.1, hk.2⟩) ?_
        have K9 := kk H locs ls hP hl hS hn
        dsimp only at K9
        rw [ev]
        exact K9
    · cases h
  · cases h
set_option maxRecDepth 100000 in
set_option maxHeartbeats 40000000 in
theorem ri_stepW (HG : ∀ w ∈ G, (w.onTables && w.keeps) = true ∨ ∃ ty, w = .arrayClass ty) (C : ri_Cx p R s m args meth c cc D cl cs PC bs sa G Nst own nm nL X) {i : ri_I} {F F' : ri_F} (hd : decode cc F.1 = .ok (i.1, ri_len i.1 i.2.2.2.2)) (hok : ri_okS cl G Nst Fd PC own nm nL F.1 i) (h : ri_step X Fd rk i F = some (.inl F')) {H : Heap} {locs : List Loc} {ls : Array Slot}
    (hP : va_P D cl (ri_w bs sa cs F.2.2.2.1) H) (hl : lv_has ls nL (ri_lv bs sa F.2.1)) (hS : va_S (fun q => bs ≤ q) s.heap H locs) (hn : s.heap.size + F.2.2.2.2.1 = bs + F.2.2.2.1.length) (hk : F'.2.2.2.2.1 ≤ R.cells ∧ F'.2.2.2.2.2 ≤ R.slots)
    (kk : ∀ (H1 : Heap) (locs1 : List Loc) (ls1 : Array Slot), va_P D cl (ri_w bs sa cs F'.2.2.2.1) H1 → lv_has ls1 nL (ri_lv bs sa F'.2.1) → va_S (fun q => bs ≤ q) s.heap H1 locs1 → s.heap.size + F'.2.2.2.2.1 = bs + F'.2.2.2.1.length → W p l e R s m args below meth c H1 locs1 F'.2.2.2.2.1 F'.2.2.2.2.2 Q (F0 m F'.1 ls1 (F'.2.2.1.map (ri_v bs sa)))) :
    W p l e R s m args below meth c H locs F.2.2.2.2.1 F.2.2.2.2.2 Q (F0 m F.1 ls (F.2.2.1.map (ri_v bs sa))) := by
  obtain ⟨hx, hb, hml, hown, hts, hK, hN, hbs, hnm, hRf, hRl, hX, hR6, hTX⟩ := C
  obtain ⟨ins, a, b, c0, d⟩ := i
  obtain ⟨pc, lv, st, M, k, n⟩ := F
  dsimp only at hd hok hP hl hn
  show W p l e R s m args below meth c H locs k n Q (F0 m pc ls (st.map (ri_v bs sa)))
  have hD := ri_w_D (bs := bs) (sa := sa) (cs := cs) M
  cases ins with
  | iconst v =>
    cases h
    exact lv_iconst hx hb hd rfl (kk H locs ls hP hl hS hn)
  | bipush v =>
    cases h
    exact lv_bipush hx hb hd rfl (kk H locs ls hP hl hS hn)
  | sipush v =>
    cases h
    exact lv_sipush hx hb hd rfl (kk H locs ls hP hl hS hn)
  | lconst v =>
    cases h
    exact lv_lconst hx hb hd rfl (kk H locs ls hP hl hS hn)
  | aconst_null  =>
    cases h
    exact lv_null hx hb hd (kk H locs ls hP hl hS hn)
  | ldc idx =>
    replace h : (if c0 = 0 then some (.inl (pc + 2, lv, .int (Int32.ofNat a) :: st, M, k, n)) else if c0 = 1 then some (.inl (pc + 2, lv, .ref (3000000 + a) :: st, M, k, n)) else none : Option ri_X) = some (.inl F') := h
    split at h
    · rename_i hc
      cases h
      exact lv_ldc hx hb hown (hts _ (hok.1 hc)) hd (kk H locs ls hP hl hS hn)
    · split at h
      · rename_i hc1
        cases h
        obtain ⟨tx, hm⟩ := hok.2 hc1
        obtain ⟨adV, zv, z0, z1, z2, z3, z4⟩ := hTX
        have e1 : ri_ad bs sa (3000000 + a) = sa (3000000 + a) := if_neg (by omega)
        refine va_ldcS hx hb hown (z4 _ hm) hd ?_
        have K9 := kk H locs ls hP hl hS hn
        have e2 : (Value.ref (3000000 + a) :: st).map (ri_v bs sa) = .ref (sa (3000000 + a)) :: st.map (ri_v bs sa) := by show Value.ref (ri_ad bs sa (3000000 + a)) :: _ = _; rw [e1]
        dsimp only at K9
        rw [e2] at K9
        exact K9
      · cases h
  | ldc_w idx =>
    replace h : (if c0 = 0 then some (.inl (pc + 3, lv, .int (Int32.ofNat a) :: st, M, k, n)) else if c0 = 1 then some (.inl (pc + 3, lv, .ref (3000000 + a) :: st, M, k, n)) else none : Option ri_X) = some (.inl F') := h
    split at h
    · rename_i hc
      cases h
      exact lv_ldcw hx hb hown (hts _ (hok.1 hc)) hd (kk H locs ls hP hl hS hn)
    · split at h
      · rename_i hc1
        cases h
        obtain ⟨tx, hm⟩ := hok.2 hc1
        obtain ⟨adV, zv, z0, z1, z2, z3, z4⟩ := hTX
        have e1 : ri_ad bs sa (3000000 + a) = sa (3000000 + a) := if_neg (by omega)
        refine ri_ldcSW hx hb hown (z4 _ hm) hd ?_
        have K9 := kk H locs ls hP hl hS hn
        have e2 : (Value.ref (3000000 + a) :: st).map (ri_v bs sa) = .ref (sa (3000000 + a)) :: st.map (ri_v bs sa) := by show Value.ref (ri_ad bs sa (3000000 + a)) :: _ = _; rw [e1]
        dsimp only at K9
        rw [e2] at K9
        exact K9
      · cases h
  | ldc2_w idx =>
    cases h
    exact lv_ldc2 hx hb hown (hts _ hok) hd (kk H locs ls hP hl hS hn)
  | iload_n j =>
    replace h : ((match (generalizing := false) ri_ld lv j with | some (.int x) => some (.inl (pc + 1, lv, .int x :: st, M, k, n)) | _ => none) : Option ri_X) = some (.inl F') := h
    split at h
    · rename_i x heq
      cases h
      exact lv_iload_n hx hb hd rfl (ri_ldS hl heq) (kk H locs ls hP hl hS hn)
    · cases h
  | iload j =>
    replace h : ((match (generalizing := false) ri_ld lv j with | some (.int x) => some (.inl (pc + 2, lv, .int x :: st, M, k, n)) | _ => none) : Option ri_X) = some (.inl F') := h
    split at h
    · rename_i x heq
      cases h
      exact lv_iload hx hb hd (ri_ldS hl heq) (kk H locs ls hP hl hS hn)
    · cases h
  | lload_n j =>
    replace h : ((match (generalizing := false) ri_ld lv j with | some (.long x) => some (.inl (pc + 1, lv, .long x :: st, M, k, n)) | _ => none) : Option ri_X) = some (.inl F') := h
    split at h
    · rename_i x heq
      cases h
      exact lv_lload_n hx hb hd rfl (ri_ldS hl heq) (kk H locs ls hP hl hS hn)
    · cases h
  | lload j =>
    replace h : ((match (generalizing := false) ri_ld lv j with | some (.long x) => some (.inl (pc + 2, lv, .long x :: st, M, k, n)) | _ => none) : Option ri_X) = some (.inl F') := h
    split at h
    · rename_i x heq
      cases h
      exact lv_lload hx hb hd (ri_ldS hl heq) (kk H locs ls hP hl hS hn)
    · cases h
  | aload_n j =>
    replace h : ((match (generalizing := false) ri_ld lv j with | some (.ref x) => some (.inl (pc + 1, lv, .ref x :: st, M, k, n)) | some .null => some (.inl (pc + 1, lv, .null :: st, M, k, n)) | _ => none) : Option ri_X) = some (.inl F') := h
    split at h
    · rename_i x heq
      cases h
      exact lv_aload_n hx hb hd rfl (ri_ldS hl heq) (kk H locs ls hP hl hS hn)
    · rename_i heq
      cases h
      exact lv_aload_nN hx hb hd rfl (ri_ldS hl heq) (kk H locs ls hP hl hS hn)
    · cases h
  | aload j =>
    replace h : ((match (generalizing := false) ri_ld lv j with | some (.ref x) => some (.inl (pc + 2, lv, .ref x :: st, M, k, n)) | some .null => some (.inl (pc + 2, lv, .null :: st, M, k, n)) | _ => none) : Option ri_X) = some (.inl F') := h
    split at h
    · rename_i x heq
      cases h
      exact lv_aload hx hb hd (ri_ldS hl heq) (kk H locs ls hP hl hS hn)
    · rename_i heq
      cases h
      exact lv_aloadN hx hb hd (ri_ldS hl heq) (kk H locs ls hP hl hS hn)
    · cases h
  | istore_n j =>
    replace h : ((match (generalizing := false) st with | .int x :: r => some (.inl (pc + 1, ri_st1 lv j (.int x), r, M, k, n)) | _ => none) : Option ri_X) = some (.inl F') := h
    split at h
    · rename_i x r
      cases h
      exact lv_istore_n hx hb hd rfl hl hok (ri_st1S lv _ (.int x)) (fun ls1 hl1 => kk H locs ls1 hP hl1 hS hn)
    · cases h
  | istore j =>
    replace h : ((match (generalizing := false) st with | .int x :: r => some (.inl (pc + 2, ri_st1 lv j (.int x), r, M, k, n)) | _ => none) : Option ri_X) = some (.inl F') := h
    split at h
    · rename_i x r
      cases h
      exact lv_istore hx hb hd hl hok (ri_st1S lv _ (.int x)) (fun ls1 hl1 => kk H locs ls1 hP hl1 hS hn)
    · cases h
  | lstore_n j =>
    replace h : ((match (generalizing := false) st with | .long x :: r => some (.inl (pc + 1, ri_st2 lv j (.long x), r, M, k, n)) | _ => none) : Option ri_X) = some (.inl F') := h
    split at h
    · rename_i x r
      cases h
      exact lv_lstore_n hx hb hd rfl hl hok (ri_st2S lv _ (.long x)) (fun ls1 hl1 => kk H locs ls1 hP hl1 hS hn)
    · cases h
  | lstore j =>
    replace h : ((match (generalizing := false) st with | .long x :: r => some (.inl (pc + 2, ri_st2 lv j (.long x), r, M, k, n)) | _ => none) : Option ri_X) = some (.inl F') := h
    split at h
    · rename_i x r
      cases h
      exact lv_lstore hx hb hd hl hok (ri_st2S lv _ (.long x)) (fun ls1 hl1 => kk H locs ls1 hP hl1 hS hn)
    · cases h
  | astore_n j =>
    replace h : ((match (generalizing := false) st with | .ref x :: r => some (.inl (pc + 1, ri_st1 lv j (.ref x), r, M, k, n)) | .null :: r => some (.inl (pc + 1, ri_st1 lv j .null, r, M, k, n)) | _ => none) : Option ri_X) = some (.inl F') := h
    split at h
    · rename_i x r
      cases h
      exact lv_astore_n hx hb hd rfl hl hok (ri_st1S lv _ (.ref x)) (fun ls1 hl1 => kk H locs ls1 hP hl1 hS hn)
    · rename_i r
      cases h
      exact lv_astore_nN hx hb hd rfl hl hok (ri_st1S lv _ .null) (fun ls1 hl1 => kk H locs ls1 hP hl1 hS hn)
    · cases h
  | astore j =>
    replace h : ((match (generalizing := false) st with | .ref x :: r => some (.inl (pc + 2, ri_st1 lv j (.ref x), r, M, k, n)) | .null :: r => some (.inl (pc + 2, ri_st1 lv j .null, r, M, k, n)) | _ => none) : Option ri_X) = some (.inl F') := h
    split at h
    · rename_i x r
      cases h
      exact lv_astore hx hb hd hl hok (ri_st1S lv _ (.ref x)) (fun ls1 hl1 => kk H locs ls1 hP hl1 hS hn)
    · rename_i r
      cases h
      exact lv_astoreN hx hb hd hl hok (ri_st1S lv _ .null) (fun ls1 hl1 => kk H locs ls1 hP hl1 hS hn)
    · cases h
  | iinc j v =>
    replace h : ((match (generalizing := false) ri_ld lv j with | some (.int x) => some (.inl (pc + 3, ri_st1 lv j (.int (x + Int32.ofInt v)), st, M, k, n)) | _ => none) : Option ri_X) = some (.inl F') := h
    split at h
    · rename_i x heq
      cases h
      obtain ⟨k9, hk9⟩ := ri_ldK (bs := bs) (sa := sa) heq
      exact lv_iinc hx hb hd hl hk9 rfl hok (ri_st1S lv _ (.int (x + Int32.ofInt v))) (fun ls1 hl1 => kk H locs ls1 hP hl1 hS hn)
    · cases h
  | iadd  =>
    replace h : ((match (generalizing := false) st with | .int y :: .int x :: r => some (.inl (pc + 1, lv, .int (x + y) :: r, M, k, n)) | _ => none) : Option ri_X) = some (.inl F') := h
    split at h
    · rename_i y x r
      cases h
      exact lv_iadd hx hb hd (kk H locs ls hP hl hS hn)
    · cases h
  | isub  =>
    replace h : ((match (generalizing := false) st with | .int y :: .int x :: r => some (.inl (pc + 1, lv, .int (x - y) :: r, M, k, n)) | _ => none) : Option ri_X) = some (.inl F') := h
    split at h
    · rename_i y x r
      cases h
      exact lv_isub hx hb hd (kk H locs ls hP hl hS hn)
    · cases h
  | imul  =>
    replace h : ((match (generalizing := false) st with | .int y :: .int x :: r => some (.inl (pc + 1, lv, .int (x * y) :: r, M, k, n)) | _ => none) : Option ri_X) = some (.inl F') := h
    split at h
    · rename_i y x r
      cases h
      exact lv_imul hx hb hd (kk H locs ls hP hl hS hn)
    · cases h
  | iand  =>
    replace h : ((match (generalizing := false) st with | .int y :: .int x :: r => some (.inl (pc + 1, lv, .int (x &&& y) :: r, M, k, n)) | _ => none) : Option ri_X) = some (.inl F') := h
    split at h
    · rename_i y x r
      cases h
      exact lv_iand hx hb hd (kk H locs ls hP hl hS hn)
    · cases h
  | ior  =>
    replace h : ((match (generalizing := false) st with | .int y :: .int x :: r => some (.inl (pc + 1, lv, .int (x ||| y) :: r, M, k, n)) | _ => none) : Option ri_X) = some (.inl F') := h
    split at h
    · rename_i y x r
      cases h
      exact lv_ior hx hb hd (kk H locs ls hP hl hS hn)
    · cases h
  | ixor  =>
    replace h : ((match (generalizing := false) st with | .int y :: .int x :: r => some (.inl (pc + 1, lv, .int (x ^^^ y) :: r, M, k, n)) | _ => none) : Option ri_X) = some (.inl F') := h
    split at h
    · rename_i y x r
      cases h
      exact lv_ixor hx hb hd (kk H locs ls hP hl hS hn)
    · cases h
  | ishl  =>
    replace h : ((match (generalizing := false) st with | .int y :: .int x :: r => some (.inl (pc + 1, lv, .int (x <<< (y &&& 31)) :: r, M, k, n)) | _ => none) : Option ri_X) = some (.inl F') := h
    split at h
    · rename_i y x r
      cases h
      exact lv_ishl hx hb hd (kk H locs ls hP hl hS hn)
    · cases h
  | ishr  =>
    replace h : ((match (generalizing := false) st with | .int y :: .int x :: r => some (.inl (pc + 1, lv, .int (x >>> (y &&& 31)) :: r, M, k, n)) | _ => none) : Option ri_X) = some (.inl F') := h
    split at h
    · rename_i y x r
      cases h
      exact lv_ishr hx hb hd (kk H locs ls hP hl hS hn)
    · cases h
  | ladd  =>
    replace h : ((match (generalizing := false) st with | .long y :: .long x :: r => some (.inl (pc + 1, lv, .long (x + y) :: r, M, k, n)) | _ => none) : Option ri_X) = some (.inl F') := h
    split at h
    · rename_i y x r
      cases h
      exact lv_ladd hx hb hd (kk H locs ls hP hl hS hn)
    · cases h
  | lsub  =>
    replace h : ((match (generalizing := false) st with | .long y :: .long x :: r => some (.inl (pc + 1, lv, .long (x - y) :: r, M, k, n)) | _ => none) : Option ri_X) = some (.inl F') := h
    split at h
    · rename_i y x r
      cases h
      exact lv_lsub hx hb hd (kk H locs ls hP hl hS hn)
    · cases h
  | lmul  =>
    replace h : ((match (generalizing := false) st with | .long y :: .long x :: r => some (.inl (pc + 1, lv, .long (x * y) :: r, M, k, n)) | _ => none) : Option ri_X) = some (.inl F') := h
    split at h
    · rename_i y x r
      cases h
      exact lv_lmul hx hb hd (kk H locs ls hP hl hS hn)
    · cases h
  | land  =>
    replace h : ((match (generalizing := false) st with | .long y :: .long x :: r => some (.inl (pc + 1, lv, .long (x &&& y) :: r, M, k, n)) | _ => none) : Option ri_X) = some (.inl F') := h
    split at h
    · rename_i y x r
      cases h
      exact lv_land hx hb hd (kk H locs ls hP hl hS hn)
    · cases h
  | lor  =>
    replace h : ((match (generalizing := false) st with | .long y :: .long x :: r => some (.inl (pc + 1, lv, .long (x ||| y) :: r, M, k, n)) | _ => none) : Option ri_X) = some (.inl F') := h
    split at h
    · rename_i y x r
      cases h
      exact lv_lor hx hb hd (kk H locs ls hP hl hS hn)
    · cases h
  | iushr  =>
    replace h : ((match (generalizing := false) st with | .int y :: .int x :: r => some (.inl (pc + 1, lv, .int ((x.toUInt32 >>> (y.toUInt32 &&& Int32.toUInt32 31)).toInt32) :: r, M, k, n)) | _ => none) : Option ri_X) = some (.inl F') := h
    split at h
    · rename_i y x r
      cases h
      exact lv_iushr hx hb hd rfl (kk H locs ls hP hl hS hn)
    · cases h
  | lshl  =>
    replace h : ((match (generalizing := false) st with | .int y :: .long x :: r => some (.inl (pc + 1, lv, .long (x <<< (y.toInt64 &&& 63)) :: r, M, k, n)) | _ => none) : Option ri_X) = some (.inl F') := h
    split at h
    · rename_i y x r
      cases h
      exact lv_lshl hx hb hd rfl (kk H locs ls hP hl hS hn)
    · cases h
  | lshr  =>
    replace h : ((match (generalizing := false) st with | .int y :: .long x :: r => some (.inl (pc + 1, lv, .long (x >>> (y.toInt64 &&& 63)) :: r, M, k, n)) | _ => none) : Option ri_X) = some (.inl F') := h
    split at h
    · rename_i y x r
      cases h
      exact lv_lshr hx hb hd rfl (kk H locs ls hP hl hS hn)
    · cases h
  | lcmp  =>
    replace h : ((match (generalizing := false) st with | .long y :: .long x :: r => some (.inl (pc + 1, lv, .int (lg_cmp x y) :: r, M, k, n)) | _ => none) : Option ri_X) = some (.inl F') := h
    split at h
    · rename_i y x r
      cases h
      exact W.lcmp hx hb hd (kk H locs ls hP hl hS hn)
    · cases h
  | ineg  =>
    replace h : ((match (generalizing := false) st with | .int x :: r => some (.inl (pc + 1, lv, .int (-x) :: r, M, k, n)) | _ => none) : Option ri_X) = some (.inl F') := h
    split at h
    · rename_i x r
      cases h
      exact lv_ineg hx hb hd (kk H locs ls hP hl hS hn)
    · cases h
  | i2l  =>
    replace h : ((match (generalizing := false) st with | .int x :: r => some (.inl (pc + 1, lv, .long x.toInt64 :: r, M, k, n)) | _ => none) : Option ri_X) = some (.inl F') := h
    split at h
    · rename_i x r
      cases h
      exact lv_i2l hx hb hd rfl (kk H locs ls hP hl hS hn)
    · cases h
  | l2i  =>
    replace h : ((match (generalizing := false) st with | .long x :: r => some (.inl (pc + 1, lv, .int x.toInt32 :: r, M, k, n)) | _ => none) : Option ri_X) = some (.inl F') := h
    split at h
    · rename_i x r
      cases h
      exact lv_l2i hx hb hd rfl (kk H locs ls hP hl hS hn)
    · cases h
  | i2c  =>
    replace h : ((match (generalizing := false) st with | .int x :: r => some (.inl (pc + 1, lv, .int (x.toUInt32 % 65536).toInt32 :: r, M, k, n)) | _ => none) : Option ri_X) = some (.inl F') := h
    split at h
    · rename_i x r
      cases h
      exact lv_i2c hx hb hd rfl (kk H locs ls hP hl hS hn)
    · cases h
  | idiv  =>
    replace h : ((match (generalizing := false) st with | .int y :: .int x :: r => if y = 0 then none else some (.inl (pc + 1, lv, .int (x / y) :: r, M, k, n)) | _ => none) : Option ri_X) = some (.inl F') := h
    split at h
    · rename_i y x r
      split at h
      · cases h
      · rename_i hne
        cases h
        exact lv_idiv hx hb hd hne (kk H locs ls hP hl hS hn)
    · cases h
  | irem  =>
    replace h : ((match (generalizing := false) st with | .int y :: .int x :: r => if y = 0 then none else some (.inl (pc + 1, lv, .int (x - x / y * y) :: r, M, k, n)) | _ => none) : Option ri_X) = some (.inl F') := h
    split at h
    · rename_i y x r
      split at h
      · cases h
      · rename_i hne
        cases h
        exact lv_irem hx hb hd hne (kk H locs ls hP hl hS hn)
    · cases h
  | ldiv  =>
    replace h : ((match (generalizing := false) st with | .long y :: .long x :: r => if y = 0 then none else some (.inl (pc + 1, lv, .long (x / y) :: r, M, k, n)) | _ => none) : Option ri_X) = some (.inl F') := h
    split at h
    · rename_i y x r
      split at h
      · cases h
      · rename_i hne
        cases h
        exact lv_ldiv hx hb hd hne (kk H locs ls hP hl hS hn)
    · cases h
  | lrem  =>
    replace h : ((match (generalizing := false) st with | .long y :: .long x :: r => if y = 0 then none else some (.inl (pc + 1, lv, .long (x - x / y * y) :: r, M, k, n)) | _ => none) : Option ri_X) = some (.inl F') := h
    split at h
    · rename_i y x r
      split at h
      · cases h
      · rename_i hne
        cases h
        exact lv_lrem hx hb hd hne (kk H locs ls hP hl hS hn)
    · cases h
  | dup  =>
    replace h : ((match (generalizing := false) st with | v :: r => if v.category = 1 then some (.inl (pc + 1, lv, v :: v :: r, M, k, n)) else none | _ => none) : Option ri_X) = some (.inl F') := h
    split at h
    · rename_i v r
      split at h
      · rename_i hc
        cases h
        exact lv_dup hx hb hd ((ri_v_cat bs sa v).trans hc) (kk H locs ls hP hl hS hn)
      · cases h
    · cases h
  | pop  =>
    replace h : ((match (generalizing := false) st with | v :: r => if v.category = 1 then some (.inl (pc + 1, lv, r, M, k, n)) else none | _ => none) : Option ri_X) = some (.inl F') := h
    split at h
    · rename_i v r
      split at h
      · rename_i hc
        cases h
        exact lv_pop hx hb hd ((ri_v_cat bs sa v).trans hc) (kk H locs ls hP hl hS hn)
      · cases h
    · cases h
  | dup2  =>
    replace h : ((match (generalizing := false) st with | .long v :: r => some (.inl (pc + 1, lv, .long v :: .long v :: r, M, k, n)) | v :: u :: r => if v.category = 1 ∧ u.category = 1 then some (.inl (pc + 1, lv, v :: u :: v :: u :: r, M, k, n)) else none | _ => none) : Option ri_X) = some (.inl F') := h
    split at h
    · rename_i v r
      cases h
      exact lv_dup2_2 (va := .long v) hx hb hd rfl (kk H locs ls hP hl hS hn)
    · rename_i v u r hno
      split at h
      · rename_i hc
        cases h
        exact lv_dup2_11 hx hb hd ((ri_v_cat bs sa v).trans hc.1) ((ri_v_cat bs sa u).trans hc.2) (kk H locs ls hP hl hS hn)
      · cases h
    · cases h
  | ifCond cd off =>
    cases cd with
    | eq =>
      replace h : ((match (generalizing := false) st with | .int x :: r => if x = 0 then some (.inl (a, lv, r, M, k, n)) else some (.inl (pc + 3, lv, r, M, k, n)) | _ => none) : Option ri_X) = some (.inl F') := h
      split at h
      · rename_i x r
        exact lv_if_eq (tgt := a) hx hb hd hok (fun hc => by rw [if_pos hc] at h; cases h; exact (kk H locs ls hP hl hS hn)) (fun hc => by rw [if_neg hc] at h; cases h; exact (kk H locs ls hP hl hS hn))
      · cases h
    | ne =>
      replace h : ((match (generalizing := false) st with | .int x :: r => if ¬ x = 0 then some (.inl (a, lv, r, M, k, n)) else some (.inl (pc + 3, lv, r, M, k, n)) | _ => none) : Option ri_X) = some (.inl F') := h
      split at h
      · rename_i x r
        exact lv_if_ne (tgt := a) hx hb hd hok (fun hc => by rw [if_pos hc] at h; cases h; exact (kk H locs ls hP hl hS hn)) (fun hc => by rw [if_neg (fun q => q hc)] at h; cases h; exact (kk H locs ls hP hl hS hn))
      · cases h
    | lt =>
      replace h : ((match (generalizing := false) st with | .int x :: r => if x < 0 then some (.inl (a, lv, r, M, k, n)) else some (.inl (pc + 3, lv, r, M, k, n)) | _ => none) : Option ri_X) = some (.inl F') := h
      split at h
      · rename_i x r
        exact lv_if_lt (tgt := a) hx hb hd hok (fun hc => by rw [if_pos hc] at h; cases h; exact (kk H locs ls hP hl hS hn)) (fun hc => by rw [if_neg hc] at h; cases h; exact (kk H locs ls hP hl hS hn))
      · cases h
    | ge =>
      replace h : ((match (generalizing := false) st with | .int x :: r => if 0 ≤ x then some (.inl (a, lv, r, M, k, n)) else some (.inl (pc + 3, lv, r, M, k, n)) | _ => none) : Option ri_X) = some (.inl F') := h
      split at h
      · rename_i x r
        exact lv_if_ge (tgt := a) hx hb hd hok (fun hc => by rw [if_pos hc] at h; cases h; exact (kk H locs ls hP hl hS hn)) (fun hc => by rw [if_neg hc] at h; cases h; exact (kk H locs ls hP hl hS hn))
      · cases h
    | gt =>
      replace h : ((match (generalizing := false) st with | .int x :: r => if 0 < x then some (.inl (a, lv, r, M, k, n)) else some (.inl (pc + 3, lv, r, M, k, n)) | _ => none) : Option ri_X) = some (.inl F') := h
      split at h
      · rename_i x r
        exact lv_if_gt (tgt := a) hx hb hd hok (fun hc => by rw [if_pos hc] at h; cases h; exact (kk H locs ls hP hl hS hn)) (fun hc => by rw [if_neg hc] at h; cases h; exact (kk H locs ls hP hl hS hn))
      · cases h
    | le =>
      replace h : ((match (generalizing := false) st with | .int x :: r => if x ≤ 0 then some (.inl (a, lv, r, M, k, n)) else some (.inl (pc + 3, lv, r, M, k, n)) | _ => none) : Option ri_X) = some (.inl F') := h
      split at h
      · rename_i x r
        exact lv_if_le (tgt := a) hx hb hd hok (fun hc => by rw [if_pos hc] at h; cases h; exact (kk H locs ls hP hl hS hn)) (fun hc => by rw [if_neg hc] at h; cases h; exact (kk H locs ls hP hl hS hn))
      · cases h
  | if_icmp cd off =>
    cases cd with
    | eq =>
      replace h : ((match (generalizing := false) st with | .int y :: .int x :: r => if x = y then some (.inl (a, lv, r, M, k, n)) else some (.inl (pc + 3, lv, r, M, k, n)) | _ => none) : Option ri_X) = some (.inl F') := h
      split at h
      · rename_i y x r
        exact lv_icmp_eq (tgt := a) hx hb hd hok (fun hc => by rw [if_pos hc] at h; cases h; exact (kk H locs ls hP hl hS hn)) (fun hc => by rw [if_neg hc] at h; cases h; exact (kk H locs ls hP hl hS hn))
      · cases h
    | ne =>
      replace h : ((match (generalizing := false) st with | .int y :: .int x :: r => if ¬ x = y then some (.inl (a, lv, r, M, k, n)) else some (.inl (pc + 3, lv, r, M, k, n)) | _ => none) : Option ri_X) = some (.inl F') := h
      split at h
      · rename_i y x r
        exact lv_icmp_ne (tgt := a) hx hb hd hok (fun hc => by rw [if_pos hc] at h; cases h; exact (kk H locs ls hP hl hS hn)) (fun hc => by rw [if_neg (fun q => q hc)] at h; cases h; exact (kk H locs ls hP hl hS hn))
      · cases h
    | lt =>
      replace h : ((match (generalizing := false) st with | .int y :: .int x :: r => if x < y then some (.inl (a, lv, r, M, k, n)) else some (.inl (pc + 3, lv, r, M, k, n)) | _ => none) : Option ri_X) = some (.inl F') := h
      split at h
      · rename_i y x r
        exact lv_icmp_lt (tgt := a) hx hb hd hok (fun hc => by rw [if_pos hc] at h; cases h; exact (kk H locs ls hP hl hS hn)) (fun hc => by rw [if_neg hc] at h; cases h; exact (kk H locs ls hP hl hS hn))
      · cases h
    | ge =>
      replace h : ((match (generalizing := false) st with | .int y :: .int x :: r => if y ≤ x then some (.inl (a, lv, r, M, k, n)) else some (.inl (pc + 3, lv, r, M, k, n)) | _ => none) : Option ri_X) = some (.inl F') := h
      split at h
      · rename_i y x r
        exact lv_icmp_ge (tgt := a) hx hb hd hok (fun hc => by rw [if_pos hc] at h; cases h; exact (kk H locs ls hP hl hS hn)) (fun hc => by rw [if_neg hc] at h; cases h; exact (kk H locs ls hP hl hS hn))
      · cases h
    | gt =>
      replace h : ((match (generalizing := false) st with | .int y :: .int x :: r => if y < x then some (.inl (a, lv, r, M, k, n)) else some (.inl (pc + 3, lv, r, M, k, n)) | _ => none) : Option ri_X) = some (.inl F') := h
      split at h
      · rename_i y x r
        exact lv_icmp_gt (tgt := a) hx hb hd hok (fun hc => by rw [if_pos hc] at h; cases h; exact (kk H locs ls hP hl hS hn)) (fun hc => by rw [if_neg hc] at h; cases h; exact (kk H locs ls hP hl hS hn))
      · cases h
    | le =>
      replace h : ((match (generalizing := false) st with | .int y :: .int x :: r => if x ≤ y then some (.inl (a, lv, r, M, k, n)) else some (.inl (pc + 3, lv, r, M, k, n)) | _ => none) : Option ri_X) = some (.inl F') := h
      split at h
      · rename_i y x r
        exact lv_icmp_le (tgt := a) hx hb hd hok (fun hc => by rw [if_pos hc] at h; cases h; exact (kk H locs ls hP hl hS hn)) (fun hc => by rw [if_neg hc] at h; cases h; exact (kk H locs ls hP hl hS hn))
      · cases h
  | goto off =>
    cases h
    exact lv_goto hx hb hd hok (kk H locs ls hP hl hS hn)
  | ifnull off =>
    replace h : ((match (generalizing := false) st with | .null :: r => some (.inl (a, lv, r, M, k, n)) | .ref _ :: r => some (.inl (pc + 3, lv, r, M, k, n)) | _ => none) : Option ri_X) = some (.inl F') := h
    split at h
    · rename_i r
      cases h
      exact lv_ifnullN hx hb hd hok (kk H locs ls hP hl hS hn)
    · rename_i x r
      cases h
      exact lv_ifnull hx hb hd (kk H locs ls hP hl hS hn)
    · cases h
  | ifnonnull off =>
    replace h : ((match (generalizing := false) st with | .null :: r => some (.inl (pc + 3, lv, r, M, k, n)) | .ref _ :: r => some (.inl (a, lv, r, M, k, n)) | _ => none) : Option ri_X) = some (.inl F') := h
    split at h
    · rename_i r
      cases h
      exact lv_ifnonnullN hx hb hd (kk H locs ls hP hl hS hn)
    · rename_i x r
      cases h
      exact lv_ifnonnull hx hb hd hok (kk H locs ls hP hl hS hn)
    · cases h
  | tableswitch dflt lo hi offs =>
    replace h : ((match (generalizing := false) st with | .int x :: r => if x.toInt < lo ∨ hi < x.toInt then some (.inl (a, lv, r, M, k, n)) else (match (generalizing := false) offs[(x.toInt - lo).toNat]? with | some off => some (.inl (((pc : Int) + off).toNat, lv, r, M, k, n)) | none => none) | _ => none) : Option ri_X) = some (.inl F') := h
    split at h
    · rename_i x r
      split at h
      · rename_i hc
        cases h
        exact lv_tableOut hx hb hd hc hok.1 (kk H locs ls hP hl hS hn)
      · rename_i hc
        split at h
        · rename_i off heq
          cases h
          exact lv_tableIn hx hb hd (fun q => hc (Or.inl q)) (fun q => hc (Or.inr q)) heq (Int.toNat_of_nonneg (hok.2 off (Array.mem_toList_iff.mpr (Array.mem_of_getElem? heq)))).symm (kk H locs ls hP hl hS hn)
        · cases h
    · cases h
  | getfield idx =>
    replace h : ((match (generalizing := false) st with | .ref q :: r => (match (generalizing := false) M[q]? with | some (.inr (ci, fs)) => if ci = a ∧ q < 1000000 then (match (generalizing := false) fs[b]? with | some v => some (.inl (pc + 3, lv, v :: r, M, k, n)) | none => none) else none | _ => none) | _ => none) : Option ri_X) = some (.inl F') := h
    split at h
    · rename_i q r
      split at h
      · rename_i ci fs heq
        split at h
        · rename_i hc
          obtain ⟨rfl, hq⟩ := hc
          split at h
          · rename_i v hv
            cases h
            obtain ⟨C, T, N, h1, h2, h3, h4⟩ := hok
            show W p l e R s m args below meth c H locs k n Q (F0 m pc ls (.ref (ri_ad bs sa q) :: r.map (ri_v bs sa)))
            rw [ri_ad_lt hq]
            have hv1 : (fs.map (ri_v bs sa))[b]? = some (ri_v bs sa v) := by rw [List.getElem?_map, hv]; rfl
            rcases h4 with h4 | ⟨host, h4⟩
            · exact va_get hx hb hts h3 hown hK hP q (ri_w_get heq) h1 b h2 (hts _ h4) (fun _ h => h) hv1 hd (kk H locs ls hP hl hS hn)
            · exact va_getN hx hb hts h3 hown hK hP q (ri_w_get heq) h1 b h2 (va_Nw.use rfl (hN _ h4)) (fun _ h => h) hv1 hd (kk H locs ls hP hl hS hn)
          · cases h
        · cases h
      · cases h
    · cases h
  | putfield idx =>
    replace h : ((match (generalizing := false) st with | v :: .ref q :: r => (match (generalizing := false) M[q]? with | some (.inr (ci, fs)) => if ci = a ∧ q < 1000000 ∧ b < fs.length ∧ ri_fit d v = true then some (.inl (pc + 3, lv, r, M.set q (.inr (ci, fs.set b v)), k, n)) else none | _ => none) | _ => none) : Option ri_X) = some (.inl F') := h
    split at h
    · rename_i v q r
      split at h
      · rename_i ci fs heq
        split at h
        · rename_i hc
          obtain ⟨rfl, hq, hbl, hft⟩ := hc
          cases h
          obtain ⟨C, T, N, ty, h1, h2, h3, h5, h6, h7, h4⟩ := hok
          obtain ⟨hn1, hf1⟩ := ri_fitS (bs := bs) (sa := sa) h7 hft
          have hbl1 : b < (fs.map (ri_v bs sa)).length := by rw [List.length_map]; exact hbl
          show W p l e R s m args below meth c H locs k n Q (F0 m pc ls (ri_v bs sa v :: .ref (ri_ad bs sa q) :: r.map (ri_v bs sa)))
          rw [ri_ad_lt hq]
          rcases h4 with ⟨h8, h4 | ⟨host, h4⟩⟩ | ⟨h8, h4, h9, h10⟩
          · exact va_put hx hb hts h3 ty h5 h6 hown hK hP hD hS q (ri_w_get heq) h1 b h2 (hts _ h4) (fun _ h => h) h8 (h5 b h2) hn1 hf1 hbl1 hd (fun H1 locs1 hP1 _ hS1 => kk H1 locs1 ls (by rw [ri_w_set]; show va_P D cl ((ri_w bs sa cs M).set q (bs + q, .inr (ci, (fs.set b v).map (ri_v bs sa)))) H1; rw [List.map_set]; exact hP1) hl hS1 (by simpa using hn))
          · exact va_putN hx hb hts h3 ty h5 h6 hown hK hP hD hS q (ri_w_get heq) h1 b h2 (va_Nw.use rfl (hN _ h4)) (fun _ h => h) h8 (h5 b h2) hn1 hf1 hbl1 hd (fun H1 locs1 hP1 _ hS1 => kk H1 locs1 ls (by rw [ri_w_set]; show va_P D cl ((ri_w bs sa cs M).set q (bs + q, .inr (ci, (fs.set b v).map (ri_v bs sa)))) H1; rw [List.map_set]; exact hP1) hl hS1 (by simpa using hn))
          · exact va_putF hx hb hts h3 ty h5 h6 hown hK hP hD hS q (ri_w_get heq) h1 b h2 (hts _ h4) (fun _ h => h) h8 (hnm.trans h9) h10 (h5 b h2) hn1 hf1 hbl1 hd (fun H1 locs1 hP1 _ hS1 => kk H1 locs1 ls (by rw [ri_w_set]; show va_P D cl ((ri_w bs sa cs M).set q (bs + q, .inr (ci, (fs.set b v).map (ri_v bs sa)))) H1; rw [List.map_set]; exact hP1) hl hS1 (by simpa using hn))
        · cases h
      · cases h
    · cases h
  | iaload  =>
    replace h : ((match (generalizing := false) st with | .int i :: .ref q :: r => (match (generalizing := false) M[q]? with | some (.inl (t, .inl xs)) => if t = 0 ∧ q < 1000000 ∧ ¬ i < 0 then (match (generalizing := false) xs[i.toNatClampNeg]? with | some v => some (.inl (pc + 1, lv, .int v :: r, M, k, n)) | none => none) else none | none => if q = 2000000 ∧ ¬ i < 0 then (match (generalizing := false) X with | some xs => (match (generalizing := false) xs[i.toNatClampNeg]? with | some v => some (.inl (pc + 1, lv, .int v :: r, M, k, n)) | none => none) | none => none) else none | _ => none) | _ => none) : Option ri_X) = some (.inl F') := h
    split at h
    · rename_i i q r
      split at h
      · rename_i t xs heq
        split at h
        · rename_i hc
          obtain ⟨rfl, hq, h0⟩ := hc
          split at h
          · rename_i v hv
            cases h
            show W p l e R s m args below meth c H locs k n Q (F0 m pc ls (.int i :: .ref (ri_ad bs sa q) :: r.map (ri_v bs sa)))
            rw [ri_ad_lt hq]
            have ev : xs.getD i.toNatClampNeg 0 = v := ri_gd hv
            refine va_iald hx hb hK hP q 0 (ri_w_get heq) rfl (ri_in h0 (ri_lt hv)) hd ?_
            rw [ev]
            exact (kk H locs ls hP hl hS hn)
          · cases h
        · cases h
      · rename_i heq
        split at h
        · rename_i hc
          obtain ⟨rfl, h0⟩ := hc
          split at h
          · rename_i xs
            split at h
            · rename_i v hv
              cases h
              obtain ⟨hX1, hX2⟩ := hX xs rfl
              have ev : xs.getD i.toNatClampNeg 0 = v := ri_gd hv
              show W p l e R s m args below meth c H locs k n Q (F0 m pc ls (.int i :: .ref (sa 2000000) :: r.map (ri_v bs sa)))
              refine va_sld hx hb hX1 (Nat.lt_of_lt_of_le hX2 hbs) (Nat.not_le.mpr hX2) hS (ri_in h0 (ri_lt hv)) hd ?_
              rw [ev]
              exact (kk H locs ls hP hl hS hn)
            · cases h
          · cases h
        · cases h
      · cases h
    · cases h
  | caload  =>
    replace h : ((match (generalizing := false) st with | .int i :: .ref q :: r => (match (generalizing := false) M[q]? with | some (.inl (t, .inl xs)) => if t = 2 ∧ q < 1000000 ∧ ¬ i < 0 then (match (generalizing := false) xs[i.toNatClampNeg]? with | some v => some (.inl (pc + 1, lv, .int v :: r, M, k, n)) | none => none) else none | _ => none) | _ => none) : Option ri_X) = some (.inl F') := h
    split at h
    · rename_i i q r
      split at h
      · rename_i t xs heq
        split at h
        · rename_i hc
          obtain ⟨rfl, hq, h0⟩ := hc
          split at h
          · rename_i v hv
            cases h
            show W p l e R s m args below meth c H locs k n Q (F0 m pc ls (.int i :: .ref (ri_ad bs sa q) :: r.map (ri_v bs sa)))
            rw [ri_ad_lt hq]
            have ev : xs.getD i.toNatClampNeg 0 = v := ri_gd hv
            refine va_cald hx hb hK hP q 2 (ri_w_get heq) rfl (ri_in h0 (ri_lt hv)) hd ?_
            rw [ev]
            exact (kk H locs ls hP hl hS hn)
          · cases h
        · cases h
      · cases h
    · cases h
  | baload  =>
    replace h : ((match (generalizing := false) st with | .int i :: .ref q :: r => (match (generalizing := false) M[q]? with | some (.inl (t, .inl xs)) => if t = 3 ∧ q < 1000000 ∧ ¬ i < 0 then (match (generalizing := false) xs[i.toNatClampNeg]? with | some v => some (.inl (pc + 1, lv, .int v :: r, M, k, n)) | none => none) else none | _ => none) | _ => none) : Option ri_X) = some (.inl F') := h
    split at h
    · rename_i i q r
      split at h
      · rename_i t xs heq
        split at h
        · rename_i hc
          obtain ⟨rfl, hq, h0⟩ := hc
          split at h
          · rename_i v hv
            cases h
            show W p l e R s m args below meth c H locs k n Q (F0 m pc ls (.int i :: .ref (ri_ad bs sa q) :: r.map (ri_v bs sa)))
            rw [ri_ad_lt hq]
            have ev : xs.getD i.toNatClampNeg 0 = v := ri_gd hv
            refine va_zald hx hb hK hP q 3 (ri_w_get heq) rfl (ri_in h0 (ri_lt hv)) hd ?_
            rw [ev]
            exact (kk H locs ls hP hl hS hn)
          · cases h
        · cases h
      · cases h
    · cases h
  | laload  =>
    replace h : ((match (generalizing := false) st with | .int i :: .ref q :: r => (match (generalizing := false) M[q]? with | some (.inl (t, .inr (.inl xs))) => if t = 1 ∧ q < 1000000 ∧ ¬ i < 0 then (match (generalizing := false) xs[i.toNatClampNeg]? with | some v => some (.inl (pc + 1, lv, .long v :: r, M, k, n)) | none => none) else none | _ => none) | _ => none) : Option ri_X) = some (.inl F') := h
    split at h
    · rename_i i q r
      split at h
      · rename_i t xs heq
        split at h
        · rename_i hc
          obtain ⟨rfl, hq, h0⟩ := hc
          split at h
          · rename_i v hv
            cases h
            show W p l e R s m args below meth c H locs k n Q (F0 m pc ls (.int i :: .ref (ri_ad bs sa q) :: r.map (ri_v bs sa)))
            rw [ri_ad_lt hq]
            have ev : xs.getD i.toNatClampNeg 0 = v := ri_gd hv
            refine va_lald hx hb hK hP q 1 (ri_w_get heq) rfl (ri_in h0 (ri_lt hv)) hd ?_
            rw [ev]
            exact (kk H locs ls hP hl hS hn)
          · cases h
        · cases h
      · cases h
    · cases h
  | aaload  =>
    replace h : ((match (generalizing := false) st with | .int i :: .ref q :: r => (match (generalizing := false) M[q]? with | some (.inl (t, .inr (.inr xs))) => if 4 ≤ t ∧ t < 7 ∧ q < 1000000 ∧ ¬ i < 0 then (match (generalizing := false) xs[i.toNatClampNeg]? with | some v => some (.inl (pc + 1, lv, ri_rv v :: r, M, k, n)) | none => none) else none | _ => none) | _ => none) : Option ri_X) = some (.inl F') := h
    split at h
    · rename_i i q r
      split at h
      · rename_i t xs heq
        split at h
        · rename_i hc
          obtain ⟨t1, t2, hq, h0⟩ := hc
          split at h
          · rename_i v hv
            cases h
            obtain ⟨ty, ht, hrf⟩ := ri_tyR (cs := cs) (PC := PC) t1 t2
            show W p l e R s m args below meth c H locs k n Q (F0 m pc ls (.int i :: .ref (ri_ad bs sa q) :: r.map (ri_v bs sa)))
            rw [ri_ad_lt hq]
            have ev : va_rf ((xs.getD i.toNatClampNeg none).map (ri_ad bs sa)) = ri_v bs sa (ri_rv v) := by rw [ri_gd hv]; exact ri_v_rv bs sa v
            refine W.aald (v := ri_v bs sa (ri_rv v)) (ty := ty) hx hb (hP q _ (ri_w_get heq)) ((hK.2 t _ ht).1 xs.length (fun j => va_rf ((xs.getD j none).map (ri_ad bs sa)))) hrf (fun q => by cases q) (by show ¬ (i < 0 ∨ (arrV _ _ _).slots.size ≤ _); rw [arrV_size]; exact ri_in h0 (ri_lt hv)) (by show (arrV _ _ _).slots[_]? = _; rw [arrV_read _ _ (ri_lt hv), ev]) rfl rfl hd ?_
            exact (kk H locs ls hP hl hS hn)
          · cases h
        · cases h
      · cases h
    · cases h
  | iastore  =>
    replace h : ((match (generalizing := false) st with | .int x :: .int i :: .ref q :: r => (match (generalizing := false) M[q]? with | some (.inl (t, .inl xs)) => if t = 0 ∧ q < 1000000 ∧ ¬ i < 0 ∧ i.toNatClampNeg < xs.length then some (.inl (pc + 1, lv, r, M.set q (.inl (t, .inl (xs.set i.toNatClampNeg x))), k, n)) else none | _ => none) | _ => none) : Option ri_X) = some (.inl F') := h
    split at h
    · rename_i x i q r
      split at h
      · rename_i t xs heq
        split at h
        · rename_i hc
          obtain ⟨rfl, hq, h0, hlt⟩ := hc
          cases h
          show W p l e R s m args below meth c H locs k n Q (F0 m pc ls (.int x :: .int i :: .ref (ri_ad bs sa q) :: r.map (ri_v bs sa)))
          rw [ri_ad_lt hq]
          refine va_iast hx hb hK hP hD hS q 0 (ri_w_get heq) rfl (ri_in h0 hlt) hd (fun H1 locs1 hP1 _ hS1 => kk H1 locs1 ls ?_ hl hS1 (by simpa using hn))
          rw [ri_upd hlt] at hP1
          rw [ri_w_set]
          have ee : ri_e bs sa cs (.inl (0, .inl (xs.set i.toNatClampNeg x))) = .inl (cs 0, xs.length, .inl (fun j => (xs.set i.toNatClampNeg x).getD j 0)) := by simp only [ri_e, List.length_set]
          rw [ee]
          exact hP1
        · cases h
      · cases h
    · cases h
  | castore  =>
    replace h : ((match (generalizing := false) st with | .int x :: .int i :: .ref q :: r => (match (generalizing := false) M[q]? with | some (.inl (t, .inl xs)) => if t = 2 ∧ q < 1000000 ∧ ¬ i < 0 ∧ i.toNatClampNeg < xs.length then some (.inl (pc + 1, lv, r, M.set q (.inl (t, .inl (xs.set i.toNatClampNeg (vp_nar .char x)))), k, n)) else none | _ => none) | _ => none) : Option ri_X) = some (.inl F') := h
    split at h
    · rename_i x i q r
      split at h
      · rename_i t xs heq
        split at h
        · rename_i hc
          obtain ⟨rfl, hq, h0, hlt⟩ := hc
          cases h
          show W p l e R s m args below meth c H locs k n Q (F0 m pc ls (.int x :: .int i :: .ref (ri_ad bs sa q) :: r.map (ri_v bs sa)))
          rw [ri_ad_lt hq]
          refine va_cast hx hb hK hP hD hS q 2 (ri_w_get heq) rfl (ri_in h0 hlt) hd (fun H1 locs1 hP1 _ hS1 => kk H1 locs1 ls ?_ hl hS1 (by simpa using hn))
          rw [ri_upd hlt] at hP1
          rw [ri_w_set]
          have ee : ri_e bs sa cs (.inl (2, .inl (xs.set i.toNatClampNeg (vp_nar .char x)))) = .inl (cs 2, xs.length, .inl (fun j => (xs.set i.toNatClampNeg (vp_nar .char x)).getD j 0)) := by simp only [ri_e, List.length_set]
          rw [ee]
          exact hP1
        · cases h
      · cases h
    · cases h
  | bastore  =>
    replace h : ((match (generalizing := false) st with | .int x :: .int i :: .ref q :: r => (match (generalizing := false) M[q]? with | some (.inl (t, .inl xs)) => if t = 3 ∧ q < 1000000 ∧ ¬ i < 0 ∧ i.toNatClampNeg < xs.length then some (.inl (pc + 1, lv, r, M.set q (.inl (t, .inl (xs.set i.toNatClampNeg (vp_nar .boolean x)))), k, n)) else none | _ => none) | _ => none) : Option ri_X) = some (.inl F') := h
    split at h
    · rename_i x i q r
      split at h
      · rename_i t xs heq
        split at h
        · rename_i hc
          obtain ⟨rfl, hq, h0, hlt⟩ := hc
          cases h
          show W p l e R s m args below meth c H locs k n Q (F0 m pc ls (.int x :: .int i :: .ref (ri_ad bs sa q) :: r.map (ri_v bs sa)))
          rw [ri_ad_lt hq]
          refine va_zast hx hb hK hP hD hS q 3 (ri_w_get heq) rfl (ri_in h0 hlt) hd (fun H1 locs1 hP1 _ hS1 => kk H1 locs1 ls ?_ hl hS1 (by simpa using hn))
          rw [ri_upd hlt] at hP1
          rw [ri_w_set]
          have ee : ri_e bs sa cs (.inl (3, .inl (xs.set i.toNatClampNeg (vp_nar .boolean x)))) = .inl (cs 3, xs.length, .inl (fun j => (xs.set i.toNatClampNeg (vp_nar .boolean x)).getD j 0)) := by simp only [ri_e, List.length_set]
          rw [ee]
          exact hP1
        · cases h
      · cases h
    · cases h
  | lastore  =>
    replace h : ((match (generalizing := false) st with | .long x :: .int i :: .ref q :: r => (match (generalizing := false) M[q]? with | some (.inl (t, .inr (.inl xs))) => if t = 1 ∧ q < 1000000 ∧ ¬ i < 0 ∧ i.toNatClampNeg < xs.length then some (.inl (pc + 1, lv, r, M.set q (.inl (t, .inr (.inl (xs.set i.toNatClampNeg x)))), k, n)) else none | _ => none) | _ => none) : Option ri_X) = some (.inl F') := h
    split at h
    · rename_i x i q r
      split at h
      · rename_i t xs heq
        split at h
        · rename_i hc
          obtain ⟨rfl, hq, h0, hlt⟩ := hc
          cases h
          show W p l e R s m args below meth c H locs k n Q (F0 m pc ls (.long x :: .int i :: .ref (ri_ad bs sa q) :: r.map (ri_v bs sa)))
          rw [ri_ad_lt hq]
          refine va_last hx hb hK hP hD hS q 1 (ri_w_get heq) rfl (ri_in h0 hlt) hd (fun H1 locs1 hP1 _ hS1 => kk H1 locs1 ls ?_ hl hS1 (by simpa using hn))
          rw [ri_updL hlt] at hP1
          rw [ri_w_set]
          have ee : ri_e bs sa cs (.inl (1, .inr (.inl (xs.set i.toNatClampNeg x)))) = .inl (cs 1, xs.length, .inr (.inl (fun j => (xs.set i.toNatClampNeg x).getD j 0))) := by simp only [ri_e, List.length_set]
          rw [ee]
          exact hP1
        · cases h
      · cases h
    · cases h
  | aastore  =>
    replace h : ((match (generalizing := false) st with | .ref x :: .int i :: .ref q :: r => (match (generalizing := false) M[q]?, M[x]? with | some (.inl (t, .inr (.inr xs))), some (.inr (ci, _)) => if t = 6 ∧ ci = a ∧ q < 1000000 ∧ x < 1000000 ∧ ¬ i < 0 ∧ i.toNatClampNeg < xs.length then some (.inl (pc + 1, lv, r, M.set q (.inl (t, .inr (.inr (xs.set i.toNatClampNeg (some x))))), k, n)) else none | _, _ => none) | _ => none) : Option ri_X) = some (.inl F') := h
    split at h
    · rename_i x i q r
      split at h
      · rename_i t xs ci fs heq1 heq2
        split at h
        · rename_i hc
          obtain ⟨rfl, rfl, hq, hxl, h0, hlt⟩ := hc
          cases h
          obtain ⟨rr, hr1, hr2⟩ := hok
          subst hr2
          show W p l e R s m args below meth c H locs k n Q (F0 m pc ls (.ref (ri_ad bs sa x) :: .int i :: .ref (ri_ad bs sa q) :: r.map (ri_v bs sa)))
          have hw2 := ri_w_get (bs := bs) (sa := sa) (cs := cs) heq2
          rw [← ri_ad_lt (bs := bs) (sa := sa) hxl] at hw2
          rw [ri_ad_lt (q := q) hq]
          refine va_astq hx hb hK hP hD hS q 6 x ci (ri_w_get heq1) rfl hw2 hr1 (ri_in h0 hlt) hd (fun H1 locs1 hP1 _ hS1 => kk H1 locs1 ls ?_ hl hS1 (by simpa using hn))
          rw [ri_updq hlt] at hP1
          rw [ri_w_set]
          have ee : ri_e bs sa cs (.inl (6, .inr (.inr (xs.set i.toNatClampNeg (some x))))) = .inl (cs 6, xs.length, .inr (.inr (.inr (.inr (fun j => ((xs.set i.toNatClampNeg (some x)).getD j none).map (ri_ad bs sa)))))) := by simp only [ri_e, List.length_set]
          rw [ee]
          exact hP1
        · cases h
      · cases h
    · cases h
  | arraylength  =>
    replace h : ((match (generalizing := false) st with | .ref q :: r => if q = 2000000 then (match (generalizing := false) X with | some xs => some (.inl (pc + 1, lv, .int (Int32.ofNat xs.length) :: r, M, k, n)) | none => none) else (match (generalizing := false) M[q]? with | some (.inl (t, .inl xs)) => if t < 4 ∧ q < 1000000 then some (.inl (pc + 1, lv, .int (Int32.ofNat xs.length) :: r, M, k, n)) else none | some (.inl (t, .inr (.inl xs))) => if t < 4 ∧ q < 1000000 then some (.inl (pc + 1, lv, .int (Int32.ofNat xs.length) :: r, M, k, n)) else none | _ => none) | _ => none) : Option ri_X) = some (.inl F') := h
    split at h
    · rename_i q r
      split at h
      · rename_i hc
        subst hc
        split at h
        · rename_i xs
          cases h
          obtain ⟨hX1, hX2⟩ := hX xs rfl
          show W p l e R s m args below meth c H locs k n Q (F0 m pc ls (.ref (sa 2000000) :: r.map (ri_v bs sa)))
          exact va_slen hx hb hX1 (Nat.lt_of_lt_of_le hX2 hbs) (Nat.not_le.mpr hX2) hS hd (kk H locs ls hP hl hS hn)
        · cases h
      · split at h
        · rename_i t xs heq
          split at h
          · rename_i hc
            cases h
            obtain ⟨ty, ht⟩ := ri_tyS hK hc.1
            show W p l e R s m args below meth c H locs k n Q (F0 m pc ls (.ref (ri_ad bs sa q) :: r.map (ri_v bs sa)))
            rw [ri_ad_lt hc.2]
            exact va_alen hx hb hK hP q t (ri_w_get heq) ht rfl hd (kk H locs ls hP hl hS hn)
          · cases h
        · rename_i t xs heq
          split at h
          · rename_i hc
            cases h
            obtain ⟨ty, ht⟩ := ri_tyS hK hc.1
            show W p l e R s m args below meth c H locs k n Q (F0 m pc ls (.ref (ri_ad bs sa q) :: r.map (ri_v bs sa)))
            rw [ri_ad_lt hc.2]
            exact va_alen hx hb hK hP q t (ri_w_get heq) ht rfl hd (kk H locs ls hP hl hS hn)
          · cases h
        · cases h
    · cases h
  | new idx =>
    replace h : ((match (generalizing := false) Fd[a]? with | some fs => if M.length < 1000000 then some (.inl (pc + 3, lv, .ref M.length :: st, M ++ [.inr (a, fs)], k + 1, n + fs.length)) else none | none => none) : Option ri_X) = some (.inl F') := h
    split at h
    · rename_i fs hfs
      split at h
      · rename_i hc
        cases h
        obtain ⟨C, T, N, ty, fs1, h1, h3, h5, h6, h7, h8, h9, h10, h11, h12⟩ := hok
        cases hfs.symm.trans h9
        subst h10
        refine ri_sz hP hS hbs hn (fun hz => ?_)
        have hKn := hK.1 a _ h1
        refine W.newcK hx hb hown (hts _ h6) (hts _ h7) (hts _ h8) rfl hd hk.1 hk.2 hKn.2.1 hz fun H1 kC hkC e1 z1 o1 => ?_
        have e2 : (ri_v bs sa (.ref M.length)) = .ref (bs + M.length) := by show Value.ref (ri_ad bs sa M.length) = _; rw [ri_ad_lt hc]
        have hid : fs.map (ri_v bs sa) = fs := by
          have hh : ∀ v ∈ fs, ri_v bs sa v = id v := fun v hv => by
            have h13 := h12 v hv
            cases v with
            | ref q => exact absurd rfl (h13 q)
            | _ => rfl
          rw [List.map_congr_left hh, List.map_id]
        have hk2 := kk H1 locs ls (ri_pushP hP hz (by rw [hz]; exact o1) (by show ∃ r : vw_C, _; rw [hid]; exact ⟨_, h1, by rw [hz]; exact (u_born ty hts h3 hKn hkC e1 h5).to h11⟩)) hl (ri_pushS hS (by rw [hz, z1]; omega) (by rw [hz]; exact o1)) (by simp; omega)
        have hk3 : W p l e R s m args below meth c H1 locs (k + 1) (n + fs.length) Q (F0 m (pc + 3) ls (ri_v bs sa (.ref M.length) :: st.map (ri_v bs sa))) := hk2
        rw [e2] at hk3
        exact hk3
      · cases h
    · cases h
  | newarray at0 =>
    replace h : ((match (generalizing := false) st with | .int x :: r => if x < 0 ∨ 1000000 ≤ M.length ∨ 60000 < x.toNatClampNeg then none else if a = 1 then some (.inl (pc + 2, lv, .ref M.length :: r, M ++ [.inl (1, .inr (.inl (List.replicate x.toNatClampNeg 0)))], k + 1, n + x.toNatClampNeg)) else some (.inl (pc + 2, lv, .ref M.length :: r, M ++ [.inl (a, .inl (List.replicate x.toNatClampNeg 0))], k + 1, n + x.toNatClampNeg)) | _ => none) : Option ri_X) = some (.inl F') := h
    split at h
    · rename_i x r
      split at h
      · cases h
      · rename_i hc
        have h0 : ¬ x < 0 := fun q => hc (Or.inl q)
        have hm : M.length < 1000000 := Nat.not_le.mp fun q => hc (Or.inr (Or.inl q))
        have hxn : x.toNatClampNeg ≤ 60000 := Nat.not_lt.mp fun q => hc (Or.inr (Or.inr q))
        have e2 : (ri_v bs sa (.ref M.length)) = .ref (bs + M.length) := by show Value.ref (ri_ad bs sa M.length) = _; rw [ri_ad_lt hm]
        refine ri_sz hP hS hbs hn (fun hz => ?_)
        rcases hok with ⟨rfl, rfl, hw⟩ | ⟨rfl, rfl, hw⟩ | ⟨rfl, rfl, hw⟩ | ⟨rfl, rfl, hw⟩
        · rw [if_neg (by decide)] at h
          cases h
          refine va_newaK (atype := .int) hx hb (hts _ hw) rfl hd rfl h0 rfl (by show _ * 4 ≤ _; omega) hk.1 hk.2 hz fun H1 cA e1 z1 o1 hAr hNm => ?_
          have ec : cA = cs 0 := Option.some.inj (hNm.symm.trans (hK.2 0 _ rfl).2)
          subst ec
          have hk2 := kk H1 locs ls (ri_pushP hP hz (by rw [hz]; exact o1) (by rw [ri_cellI]; show H1[H.size]? = some (vp_cell _ _); rw [hz]; exact e1)) hl (ri_pushS hS (by rw [hz, z1]; omega) (by rw [hz]; exact o1)) (by simp; omega)
          have hk3 : W p l e R s m args below meth c H1 locs (k + 1) (n + x.toNatClampNeg) Q (F0 m (pc + 2) ls (ri_v bs sa (.ref M.length) :: r.map (ri_v bs sa))) := hk2
          rw [e2] at hk3
          exact hk3
        · rw [if_pos (by decide)] at h
          cases h
          refine va_newaK (atype := .long) hx hb (hts _ hw) rfl hd rfl h0 rfl (by show _ * 8 ≤ _; omega) hk.1 hk.2 hz fun H1 cA e1 z1 o1 hAr hNm => ?_
          have ec : cA = cs 1 := Option.some.inj (hNm.symm.trans (hK.2 1 _ rfl).2)
          subst ec
          have hk2 := kk H1 locs ls (ri_pushP hP hz (by rw [hz]; exact o1) (by rw [ri_cellL]; show H1[H.size]? = some (vp_cell _ _); rw [hz]; exact e1)) hl (ri_pushS hS (by rw [hz, z1]; omega) (by rw [hz]; exact o1)) (by simp; omega)
          have hk3 : W p l e R s m args below meth c H1 locs (k + 1) (n + x.toNatClampNeg) Q (F0 m (pc + 2) ls (ri_v bs sa (.ref M.length) :: r.map (ri_v bs sa))) := hk2
          rw [e2] at hk3
          exact hk3
        · rw [if_neg (by decide)] at h
          cases h
          refine va_newaK (atype := .char) hx hb (hts _ hw) rfl hd rfl h0 rfl (by show _ * 2 ≤ _; omega) hk.1 hk.2 hz fun H1 cA e1 z1 o1 hAr hNm => ?_
          have ec : cA = cs 2 := Option.some.inj (hNm.symm.trans (hK.2 2 _ rfl).2)
          subst ec
          have hk2 := kk H1 locs ls (ri_pushP hP hz (by rw [hz]; exact o1) (by rw [ri_cellI]; show H1[H.size]? = some (vp_cell _ _); rw [hz]; exact e1)) hl (ri_pushS hS (by rw [hz, z1]; omega) (by rw [hz]; exact o1)) (by simp; omega)
          have hk3 : W p l e R s m args below meth c H1 locs (k + 1) (n + x.toNatClampNeg) Q (F0 m (pc + 2) ls (ri_v bs sa (.ref M.length) :: r.map (ri_v bs sa))) := hk2
          rw [e2] at hk3
          exact hk3
        · rw [if_neg (by decide)] at h
          cases h
          refine va_newaK (atype := .boolean) hx hb (hts _ hw) rfl hd rfl h0 rfl (by show _ * 1 ≤ _; omega) hk.1 hk.2 hz fun H1 cA e1 z1 o1 hAr hNm => ?_
          have ec : cA = cs 3 := Option.some.inj (hNm.symm.trans (hK.2 3 _ rfl).2)
          subst ec
          have hk2 := kk H1 locs ls (ri_pushP hP hz (by rw [hz]; exact o1) (by rw [ri_cellI]; show H1[H.size]? = some (vp_cell _ _); rw [hz]; exact e1)) hl (ri_pushS hS (by rw [hz, z1]; omega) (by rw [hz]; exact o1)) (by simp; omega)
          have hk3 : W p l e R s m args below meth c H1 locs (k + 1) (n + x.toNatClampNeg) Q (F0 m (pc + 2) ls (ri_v bs sa (.ref M.length) :: r.map (ri_v bs sa))) := hk2
          rw [e2] at hk3
          exact hk3
    · cases h
  | anewarray idx =>
    replace h : ((match (generalizing := false) st with | .int x :: r => if x < 0 ∨ 1000000 ≤ M.length ∨ 60000 < x.toNatClampNeg then none else some (.inl (pc + 3, lv, .ref M.length :: r, M ++ [.inl (6, .inr (.inr (List.replicate x.toNatClampNeg none)))], k + 1, n + x.toNatClampNeg)) | _ => none) : Option ri_X) = some (.inl F') := h
    split at h
    · rename_i x r
      split at h
      · cases h
      · rename_i hc
        cases h
        have h0 : ¬ x < 0 := fun q => hc (Or.inl q)
        have hm : M.length < 1000000 := Nat.not_le.mp fun q => hc (Or.inr (Or.inl q))
        have hxn : x.toNatClampNeg ≤ 60000 := Nat.not_lt.mp fun q => hc (Or.inr (Or.inr q))
        have e2 : (ri_v bs sa (.ref M.length)) = .ref (bs + M.length) := by show Value.ref (ri_ad bs sa M.length) = _; rw [ri_ad_lt hm]
        refine ri_sz hP hS hbs hn (fun hz => ?_)
        refine W.anew hx hb hown (hts _ hok.1) (hN _ hok.2) rfl hd rfl h0 (by omega) hk.1 hk.2 fun cA kA comp g1 g2 g3 g4 => ?_
        obtain ⟨kA2, comp2, k1, k2, k3, k4⟩ := (hK.2 6 _ rfl).2
        have ec : cA = cs 6 := Option.some.inj (g1.symm.trans k4)
        subst ec
        have o1 : ∀ q, q < H.size → (H.push { cls := cs 6, slots := Array.replicate x.toNatClampNeg .null, vm := .none })[q]? = H[q]? := fun q hq => by rw [Array.getElem?_push, if_neg (Nat.ne_of_lt hq)]
        have hk2 := kk (H.push { cls := cs 6, slots := Array.replicate x.toNatClampNeg .null, vm := .none }) locs ls (ri_pushP hP hz o1 (by rw [ri_cellQ]; show (H.push _)[H.size]? = some (vp_cell _ _); rw [arrV_new, Array.getElem?_push, if_pos rfl]; rfl)) hl (ri_pushS hS (by simp) o1) (by simp; omega)
        have hk3 : W p l e R s m args below meth c (H.push { cls := cs 6, slots := Array.replicate x.toNatClampNeg .null, vm := .none }) locs (k + 1) (n + x.toNatClampNeg) Q (F0 m (pc + 3) ls (ri_v bs sa (.ref M.length) :: r.map (ri_v bs sa))) := hk2
        rw [e2, ← hz] at hk3
        exact hk3
    · cases h
  | multianewarray idx dm =>
    replace h : ((match (generalizing := false) st with | .int y :: .int x :: r => if x < 0 ∨ y < 0 ∨ 900000 ≤ M.length ∨ 60000 < x.toNatClampNeg ∨ 60000 < y.toNatClampNeg then none else some (.inl (pc + 4, lv, .ref M.length :: r, M ++ ((.inl (a, .inr (.inr ((List.range x.toNatClampNeg).map (fun i => some (M.length + 1 + i)))))) :: List.replicate x.toNatClampNeg (ri_row b y.toNatClampNeg)), k + 1 + x.toNatClampNeg, n + x.toNatClampNeg + x.toNatClampNeg * y.toNatClampNeg)) | _ => none) : Option ri_X) = some (.inl F') := h
    split at h
    · rename_i y x r
      split at h
      · cases h
      · rename_i hc
        cases h
        have h0 : ¬ x < 0 := fun q => hc (Or.inl q)
        have h0y : ¬ y < 0 := fun q => hc (Or.inr (Or.inl q))
        have hm : M.length < 900000 := Nat.not_le.mp fun q => hc (Or.inr (Or.inr (Or.inl q)))
        have hxn : x.toNatClampNeg ≤ 60000 := Nat.not_lt.mp fun q => hc (Or.inr (Or.inr (Or.inr (Or.inl q))))
        have hyn : y.toNatClampNeg ≤ 60000 := Nat.not_lt.mp fun q => hc (Or.inr (Or.inr (Or.inr (Or.inr q))))
        have e2 : (ri_v bs sa (.ref M.length)) = .ref (bs + M.length) := by show Value.ref (ri_ad bs sa M.length) = _; rw [ri_ad_lt (by omega)]
        refine ri_sz hP hS hbs hn (fun hz => ?_)
        obtain ⟨rfl, hok⟩ := hok
        rcases hok with ⟨rfl, rfl, g1, g2, g3⟩ | ⟨rfl, rfl, g1, g2, g3⟩
        · refine ri_mna (a := 4) (b := 0) (ty := .int) hx hb hown (hts _ g1) (hN _ g2) (hts _ g3) (hK.2 4 _ rfl).2 (hK.2 0 _ rfl).2 h0 h0y hxn hyn (by decide) (by decide) (by decide) (fun N => by rw [ri_rowE]) (fun N => by show ({ cls := _, slots := _, vm := .none } : Cell) = _; rw [arrV_new]; rfl) hP hS hz hm hk.1 hk.2 hd (fun H1 hP1 hS1 => ?_)
          have hk2 := kk H1 locs ls hP1 hl hS1 (by simp; omega)
          have hk3 : W p l e R s m args below meth c H1 locs (k + 1 + x.toNatClampNeg) (n + x.toNatClampNeg + x.toNatClampNeg * y.toNatClampNeg) Q (F0 m (pc + 4) ls (ri_v bs sa (.ref M.length) :: r.map (ri_v bs sa))) := hk2
          rw [e2] at hk3
          exact hk3
        · refine ri_mna (a := 5) (b := 1) (ty := .long) hx hb hown (hts _ g1) (hN _ g2) (hts _ g3) (hK.2 5 _ rfl).2 (hK.2 1 _ rfl).2 h0 h0y hxn hyn (by decide) (by decide) (by decide) (fun N => by rw [ri_rowE]) (fun N => by show ({ cls := _, slots := _, vm := .none } : Cell) = _; rw [arrV_new]; rfl) hP hS hz hm hk.1 hk.2 hd (fun H1 hP1 hS1 => ?_)
          have hk2 := kk H1 locs ls hP1 hl hS1 (by simp; omega)
          have hk3 : W p l e R s m args below meth c H1 locs (k + 1 + x.toNatClampNeg) (n + x.toNatClampNeg + x.toNatClampNeg * y.toNatClampNeg) Q (F0 m (pc + 4) ls (ri_v bs sa (.ref M.length) :: r.map (ri_v bs sa))) := hk2
          rw [e2] at hk3
          exact hk3
    · cases h
  | invokespecial idx =>
    replace h : (if c0 = 2 then (match (generalizing := false) st with | [.ref q] => some (.inl (pc + 3, lv, [], M, k, n)) | _ => none) else if c0 = 5 then none else ri_cl a b (pc + 3) lv st M k n 1 d : Option ri_X) = some (.inl F') := h
    split at h
    · rename_i hc
      split at h
      · rename_i q
        cases h
        obtain ⟨g1, g2, g3⟩ := hok hc
        exact W.objInit hx hb hown (hts _ g1) (hts _ g2) (hts _ g3) rfl (hl.1.trans hml.symm) (rest := []) rfl hd hRf (by show 0 + 0 + 12 ≤ _; omega) (kk H locs ls hP hl hS hn)
      · cases h
    · split at h
      · cases h
      · exact absurd h (ri_cl_ne)
  | invokevirtual idx =>
    replace h : (if c0 = 9 then ri_sx Fd b pc lv st M k n else ri_cl a b (pc + 3) lv st M k n 2 d : Option ri_X) = some (.inl F') := h
    split at h
    · rename_i hc9
      exact ri_sxW HG ⟨hx, hb, hml, hown, hts⟩ hR6 hTX (hok hc9) hd h hP hl hS hn hk kk
    · exact absurd h ri_cl_ne
  | invokestatic idx =>
    replace h : (if c0 = 4 then (match (generalizing := false) st with | [.int z, .int dp, .ref q1, .int sp, .ref q0] => (match (generalizing := false) M[q0]?, M[q1]? with | some (.inl (t0, .inl xs)), some (.inl (t1, .inl ys)) => if t0 = 0 ∧ t1 = 0 ∧ q0 < 1000000 ∧ q1 < 1000000 ∧ ¬ sp < 0 ∧ ¬ dp < 0 ∧ ¬ z < 0 ∧ sp.toNatClampNeg + z.toNatClampNeg ≤ xs.length ∧ dp.toNatClampNeg + z.toNatClampNeg ≤ ys.length then some (.inl (pc + 3, lv, [], M.set q1 (.inl (t1, .inl (ri_cpy xs ys sp.toNatClampNeg dp.toNatClampNeg z.toNatClampNeg))), k, n)) else none | _, _ => none) | _ => none) else if c0 = 6 then (match (generalizing := false) st with | .int y :: .int x :: r => if (r.map (fun v => v.category)).sum ≤ 8 then some (.inl (pc + 3, lv, .int (if x < y then y else x) :: r, M, k, n)) else none | _ => none) else if c0 = 7 then (match (generalizing := false) st with | .int y :: .int x :: r => if (r.map (fun v => v.category)).sum ≤ 8 then some (.inl (pc + 3, lv, .int (if y < x then y else x) :: r, M, k, n)) else none | _ => none) else if c0 = 8 then (match (generalizing := false) st with | .long y :: .long x :: r => if (r.map (fun v => v.category)).sum ≤ 8 then some (.inl (pc + 3, lv, .long (if y < x then x else y) :: r, M, k, n)) else none | _ => none) else ri_cl a b (pc + 3) lv st M k n 0 d : Option ri_X) = some (.inl F') := h
    split at h
    · rename_i hc4
      split at h
      · rename_i z dp q1 sp q0
        split at h
        · rename_i t0 xs t1 ys heq0 heq1
          split at h
          · rename_i hc
            obtain ⟨rfl, rfl, hq0, hq1, g1, g2, g3, g4, g5⟩ := hc
            cases h
            obtain ⟨w1, w2, w3, w4⟩ := hok.1 hc4
            show W p l e R s m args below meth c H locs k n Q (F0 m pc ls [.int z, .int dp, .ref (ri_ad bs sa q1), .int sp, .ref (ri_ad bs sa q0)])
            rw [ri_ad_lt hq0, ri_ad_lt hq1]
            refine va_copyi hx hb (hml.trans hl.1.symm) hown (hts _ w1) (hts _ w2) (hts _ w3) (hts _ w4) hK hP hD hS q0 q1 0 0 (ri_w_get heq0) (ri_w_get heq1) rfl rfl rfl g1 g2 g3 g4 g5 (fun _ _ => rfl) hRf (by show 0 + _ ≤ _; exact Nat.le_trans (by decide) hRl) hd (fun H1 locs1 hP1 _ hS1 => kk H1 locs1 ls ?_ hl hS1 (by simpa using hn))
            rw [ri_cpyS g4 g5] at hP1
            rw [ri_w_set]
            have ee : ri_e bs sa cs (.inl (0, .inl (ri_cpy xs ys sp.toNatClampNeg dp.toNatClampNeg z.toNatClampNeg))) = .inl (cs 0, ys.length, .inl (fun j => (ri_cpy xs ys sp.toNatClampNeg dp.toNatClampNeg z.toNatClampNeg).getD j 0)) := by simp only [ri_e, ri_cpy_len g4 g5]
            rw [ee]
            exact hP1
          · cases h
        · cases h
      · cases h
    · split at h
      · rename_i hcc
        split at h
        · rename_i y x r
          split at h
          · rename_i hcat
            cases h
            obtain ⟨w1, w2, w3, w4⟩ := hok.2.1 hcc
            exact va_mmax hx hb (hml.trans hl.1.symm) hown (hts _ w1) (hts _ w2) (hts _ w3) (hts _ w4) hRf (by rw [ri_catm]; omega) hk.1 hk.2 hd (kk H locs ls hP hl hS hn)
          · cases h
        · cases h
      · split at h
        · rename_i hcc
          split at h
          · rename_i y x r
            split at h
            · rename_i hcat
              cases h
              obtain ⟨w1, w2, w3, w4⟩ := hok.2.2.1 hcc
              exact va_mmin hx hb (hml.trans hl.1.symm) hown (hts _ w1) (hts _ w2) (hts _ w3) (hts _ w4) hRf (by rw [ri_catm]; omega) hk.1 hk.2 hd (kk H locs ls hP hl hS hn)
            · cases h
          · cases h
        · split at h
          · rename_i hcc
            split at h
            · rename_i y x r
              split at h
              · rename_i hcat
                cases h
                obtain ⟨w1, w2, w3, w4⟩ := hok.2.2.2 hcc
                exact va_mmax_long hx hb (hml.trans hl.1.symm) hown (hts _ w1) (hts _ w2) (hts _ w3) (hts _ w4) hRf (by rw [ri_catm]; omega) hk.1 hk.2 hd (kk H locs ls hP hl hS hn)
              · cases h
            · cases h
          · exact absurd h ri_cl_ne
  | ireturn  =>
    replace h : ((match (generalizing := false) st with | [.int x] => if rk = 1 then some (.inr (.inr (some (.int x)))) else if rk = 4 ∧ (x = 0 ∨ x = 1) then some (.inr (.inr (some (.int x)))) else none | _ => none) : Option ri_X) = some (.inl F') := h
    (repeat' split at h) <;> cases h
  | lreturn  =>
    replace h : ((match (generalizing := false) st with | [.long x] => if rk = 2 then some (.inr (.inr (some (.long x)))) else none | _ => none) : Option ri_X) = some (.inl F') := h
    (repeat' split at h) <;> cases h
  | areturn  =>
    replace h : ((match (generalizing := false) st with | [.ref x] => if rk = 3 then some (.inr (.inr (some (.ref x)))) else none | [.null] => if rk = 3 then some (.inr (.inr (some .null))) else none | _ => none) : Option ri_X) = some (.inl F') := h
    (repeat' split at h) <;> cases h
  | return_  =>
    replace h : ((match (generalizing := false) st with | [] => if rk = 0 then some (.inr (.inr none)) else none | _ => none) : Option ri_X) = some (.inl F') := h
    (repeat' split at h) <;> cases h
  | _ =>
    have h0 : (none : Option ri_X) = some (.inl F') := h
    cases h0
end RIS
