section
/-! ===== the small machine (ri_): memory as a list of cells; a reference is a place; what one instruction does; what a run of a method does ===== -/
abbrev ri_A : Type := List Int32 ⊕ (List Int64 ⊕ List (Option Nat))
abbrev ri_C : Type := (Nat × ri_A) ⊕ (Nat × List Value)
abbrev ri_M : Type := List ri_C
abbrev ri_L : Type := List (Nat × Value)
/-- pc, locals, stack, memory, cells made, slots made -/
abbrev ri_F : Type := Nat × ri_L × List Value × ri_M × Nat × Nat
/-- an instruction, and four numbers that the pool has for it -/
abbrev ri_I : Type := Instr × Nat × Nat × Nat × Nat
/-- on, a call, a return -/
abbrev ri_X : Type := ri_F ⊕ ((Nat × List Value × ri_F) ⊕ Option Value)
def ri_st1 (lv : ri_L) (i : Nat) (v : Value) : ri_L := (i, v) :: lv.filter (fun q => !(q.1 == i) && !(q.1 + 1 == i && q.2.category == 2))
def ri_st2 (lv : ri_L) (i : Nat) (v : Value) : ri_L := (i, v) :: lv.filter (fun q => !(q.1 == i) && (!(q.1 == i + 1) && !(q.1 + 1 == i && q.2.category == 2)))
def ri_ld (lv : ri_L) (i : Nat) : Option Value := (lv.find? (fun q => q.1 == i)).map Prod.snd
def ri_rv (r : Option Nat) : Value := match r with
  | none => .null
  | some a => .ref a
/-- what a field of a kind takes: 0 int, 1 long, 2 boolean, 3 a reference -/
def ri_fit (kd : Nat) (v : Value) : Bool := match v with
  | .int x => kd == 0 || (kd == 2 && (x == 0 || x == 1))
  | .long _ => kd == 1
  | .null => kd == 3
  | .ref _ => kd == 3
  | _ => false
def ri_len (i : Instr) (d : Nat) : Nat := match i with
  | .bipush _ => 2 | .iload _ => 2 | .lload _ => 2 | .aload _ => 2 | .istore _ => 2 | .lstore _ => 2 | .astore _ => 2 | .ldc _ => 2 | .newarray _ => 2
  | .sipush _ => 3 | .ldc_w _ => 3 | .ldc2_w _ => 3 | .iinc _ _ => 3 | .ifCond _ _ => 3 | .if_icmp _ _ => 3 | .goto _ => 3 | .ifnull _ => 3 | .ifnonnull _ => 3
  | .getfield _ => 3 | .putfield _ => 3 | .new _ => 3 | .anewarray _ => 3 | .invokevirtual _ => 3 | .invokespecial _ => 3 | .invokestatic _ => 3
  | .multianewarray _ _ => 4
  | .tableswitch _ _ _ _ => d
  | _ => 1
def ri_pc (i : Nat) (n : Nat) : Nat := i + n
/-- System.arraycopy -/
def ri_cpy (xs ys : List Int32) (s d n : Nat) : List Int32 := ys.take d ++ ((xs.drop s).take n ++ ys.drop (d + n))
def ri_row (b n : Nat) : ri_C := if b = 1 then .inl (1, .inr (.inl (List.replicate n 0))) else .inl (b, .inl (List.replicate n 0))
/-- a call: 'how' 0 static, 1 special, 2 virtual (the receiver's class is d); n0 arguments lie on the stack, the last one on top -/
def ri_cl (y n0 pc : Nat) (lv : ri_L) (st : List Value) (M : ri_M) (k n how d : Nat) : Option ri_X :=
  if st.length < n0 ∨ 8 < ((st.drop (if how = 0 then n0 else n0 + 1)).map (fun v => v.category)).sum then none else
  if how = 0 then some (.inr (.inl (y, (st.take n0).reverse, (pc, lv, st.drop n0, M, k, n)))) else
  match st[n0]? with
  | some (.ref q) => (match M[q]? with
    | some (.inr (ci, _)) => if ci = d ∧ q < 1000000 then some (.inr (.inl (y, .ref q :: (st.take n0).reverse, (pc, lv, st.drop (n0 + 1), M, k, n)))) else none
    | _ => none)
  | _ => none
set_option maxHeartbeats 4000000 in
def ri_step (X : Option (List Int32)) (Fd : List (List Value)) (rk : Nat) : ri_I → ri_F → Option ri_X
  | (ins, a, b, c, d), (pc, lv, st, M, k, n) => match ins with
    | .iconst v => some (.inl (pc + 1, lv, .int (Int32.ofInt v) :: st, M, k, n))
    | .bipush v => some (.inl (pc + 2, lv, .int (Int8.ofInt v).toInt32 :: st, M, k, n))
    | .sipush v => some (.inl (pc + 3, lv, .int (Int16.ofInt v).toInt32 :: st, M, k, n))
    | .lconst v => some (.inl (pc + 1, lv, .long (Int64.ofNat (v : Nat)) :: st, M, k, n))
    | .aconst_null => some (.inl (pc + 1, lv, .null :: st, M, k, n))
    | .ldc _ => if c = 0 then some (.inl (pc + 2, lv, .int (Int32.ofNat a) :: st, M, k, n)) else none
    | .ldc_w _ => if c = 0 then some (.inl (pc + 3, lv, .int (Int32.ofNat a) :: st, M, k, n)) else none
    | .ldc2_w _ => some (.inl (pc + 3, lv, .long (Int64.ofNat a) :: st, M, k, n))
    | .iload_n j => (match ri_ld lv j with | some (.int x) => some (.inl (pc + 1, lv, .int x :: st, M, k, n)) | _ => none)
    | .iload j => (match ri_ld lv j with | some (.int x) => some (.inl (pc + 2, lv, .int x :: st, M, k, n)) | _ => none)
    | .lload_n j => (match ri_ld lv j with | some (.long x) => some (.inl (pc + 1, lv, .long x :: st, M, k, n)) | _ => none)
    | .lload j => (match ri_ld lv j with | some (.long x) => some (.inl (pc + 2, lv, .long x :: st, M, k, n)) | _ => none)
    | .aload_n j => (match ri_ld lv j with | some (.ref x) => some (.inl (pc + 1, lv, .ref x :: st, M, k, n)) | some .null => some (.inl (pc + 1, lv, .null :: st, M, k, n)) | _ => none)
    | .aload j => (match ri_ld lv j with | some (.ref x) => some (.inl (pc + 2, lv, .ref x :: st, M, k, n)) | some .null => some (.inl (pc + 2, lv, .null :: st, M, k, n)) | _ => none)
    | .istore_n j => (match st with | .int x :: r => some (.inl (pc + 1, ri_st1 lv j (.int x), r, M, k, n)) | _ => none)
    | .istore j => (match st with | .int x :: r => some (.inl (pc + 2, ri_st1 lv j (.int x), r, M, k, n)) | _ => none)
    | .lstore_n j => (match st with | .long x :: r => some (.inl (pc + 1, ri_st2 lv j (.long x), r, M, k, n)) | _ => none)
    | .lstore j => (match st with | .long x :: r => some (.inl (pc + 2, ri_st2 lv j (.long x), r, M, k, n)) | _ => none)
    | .astore_n j => (match st with | .ref x :: r => some (.inl (pc + 1, ri_st1 lv j (.ref x), r, M, k, n)) | .null :: r => some (.inl (pc + 1, ri_st1 lv j .null, r, M, k, n)) | _ => none)
    | .astore j => (match st with | .ref x :: r => some (.inl (pc + 2, ri_st1 lv j (.ref x), r, M, k, n)) | .null :: r => some (.inl (pc + 2, ri_st1 lv j .null, r, M, k, n)) | _ => none)
    | .iinc j v => (match ri_ld lv j with | some (.int x) => some (.inl (pc + 3, ri_st1 lv j (.int (x + Int32.ofInt v)), st, M, k, n)) | _ => none)
    | .iadd => (match st with | .int y :: .int x :: r => some (.inl (pc + 1, lv, .int (x + y) :: r, M, k, n)) | _ => none)
    | .isub => (match st with | .int y :: .int x :: r => some (.inl (pc + 1, lv, .int (x - y) :: r, M, k, n)) | _ => none)
    | .imul => (match st with | .int y :: .int x :: r => some (.inl (pc + 1, lv, .int (x * y) :: r, M, k, n)) | _ => none)
    | .iand => (match st with | .int y :: .int x :: r => some (.inl (pc + 1, lv, .int (x &&& y) :: r, M, k, n)) | _ => none)
    | .ior => (match st with | .int y :: .int x :: r => some (.inl (pc + 1, lv, .int (x ||| y) :: r, M, k, n)) | _ => none)
    | .ixor => (match st with | .int y :: .int x :: r => some (.inl (pc + 1, lv, .int (x ^^^ y) :: r, M, k, n)) | _ => none)
    | .ishl => (match st with | .int y :: .int x :: r => some (.inl (pc + 1, lv, .int (x <<< (y &&& 31)) :: r, M, k, n)) | _ => none)
    | .ishr => (match st with | .int y :: .int x :: r => some (.inl (pc + 1, lv, .int (x >>> (y &&& 31)) :: r, M, k, n)) | _ => none)
    | .iushr => (match st with | .int y :: .int x :: r => some (.inl (pc + 1, lv, .int ((x.toUInt32 >>> (y.toUInt32 &&& Int32.toUInt32 31)).toInt32) :: r, M, k, n)) | _ => none)
    | .ineg => (match st with | .int x :: r => some (.inl (pc + 1, lv, .int (-x) :: r, M, k, n)) | _ => none)
    | .idiv => (match st with | .int y :: .int x :: r => if y = 0 then none else some (.inl (pc + 1, lv, .int (x / y) :: r, M, k, n)) | _ => none)
    | .irem => (match st with | .int y :: .int x :: r => if y = 0 then none else some (.inl (pc + 1, lv, .int (x - x / y * y) :: r, M, k, n)) | _ => none)
    | .ladd => (match st with | .long y :: .long x :: r => some (.inl (pc + 1, lv, .long (x + y) :: r, M, k, n)) | _ => none)
    | .lsub => (match st with | .long y :: .long x :: r => some (.inl (pc + 1, lv, .long (x - y) :: r, M, k, n)) | _ => none)
    | .lmul => (match st with | .long y :: .long x :: r => some (.inl (pc + 1, lv, .long (x * y) :: r, M, k, n)) | _ => none)
    | .land => (match st with | .long y :: .long x :: r => some (.inl (pc + 1, lv, .long (x &&& y) :: r, M, k, n)) | _ => none)
    | .lor => (match st with | .long y :: .long x :: r => some (.inl (pc + 1, lv, .long (x ||| y) :: r, M, k, n)) | _ => none)
    | .ldiv => (match st with | .long y :: .long x :: r => if y = 0 then none else some (.inl (pc + 1, lv, .long (x / y) :: r, M, k, n)) | _ => none)
    | .lrem => (match st with | .long y :: .long x :: r => if y = 0 then none else some (.inl (pc + 1, lv, .long (x - x / y * y) :: r, M, k, n)) | _ => none)
    | .lshl => (match st with | .int y :: .long x :: r => some (.inl (pc + 1, lv, .long (x <<< (y.toInt64 &&& 63)) :: r, M, k, n)) | _ => none)
    | .lshr => (match st with | .int y :: .long x :: r => some (.inl (pc + 1, lv, .long (x >>> (y.toInt64 &&& 63)) :: r, M, k, n)) | _ => none)
    | .lcmp => (match st with | .long y :: .long x :: r => some (.inl (pc + 1, lv, .int (lg_cmp x y) :: r, M, k, n)) | _ => none)
    | .i2l => (match st with | .int x :: r => some (.inl (pc + 1, lv, .long x.toInt64 :: r, M, k, n)) | _ => none)
    | .l2i => (match st with | .long x :: r => some (.inl (pc + 1, lv, .int x.toInt32 :: r, M, k, n)) | _ => none)
    | .i2c => (match st with | .int x :: r => some (.inl (pc + 1, lv, .int (x.toUInt32 % 65536).toInt32 :: r, M, k, n)) | _ => none)
    | .dup => (match st with | v :: r => if v.category = 1 then some (.inl (pc + 1, lv, v :: v :: r, M, k, n)) else none | _ => none)
    | .pop => (match st with | v :: r => if v.category = 1 then some (.inl (pc + 1, lv, r, M, k, n)) else none | _ => none)
    | .dup2 => (match st with | .long v :: r => some (.inl (pc + 1, lv, .long v :: .long v :: r, M, k, n)) | v :: u :: r => if v.category = 1 ∧ u.category = 1 then some (.inl (pc + 1, lv, v :: u :: v :: u :: r, M, k, n)) else none | _ => none)
    | .ifCond .eq _ => (match st with | .int x :: r => if x = 0 then some (.inl (a, lv, r, M, k, n)) else some (.inl (pc + 3, lv, r, M, k, n)) | _ => none)
    | .ifCond .ne _ => (match st with | .int x :: r => if ¬ x = 0 then some (.inl (a, lv, r, M, k, n)) else some (.inl (pc + 3, lv, r, M, k, n)) | _ => none)
    | .ifCond .lt _ => (match st with | .int x :: r => if x < 0 then some (.inl (a, lv, r, M, k, n)) else some (.inl (pc + 3, lv, r, M, k, n)) | _ => none)
    | .ifCond .ge _ => (match st with | .int x :: r => if 0 ≤ x then some (.inl (a, lv, r, M, k, n)) else some (.inl (pc + 3, lv, r, M, k, n)) | _ => none)
    | .ifCond .gt _ => (match st with | .int x :: r => if 0 < x then some (.inl (a, lv, r, M, k, n)) else some (.inl (pc + 3, lv, r, M, k, n)) | _ => none)
    | .ifCond .le _ => (match st with | .int x :: r => if x ≤ 0 then some (.inl (a, lv, r, M, k, n)) else some (.inl (pc + 3, lv, r, M, k, n)) | _ => none)
    | .if_icmp .eq _ => (match st with | .int y :: .int x :: r => if x = y then some (.inl (a, lv, r, M, k, n)) else some (.inl (pc + 3, lv, r, M, k, n)) | _ => none)
    | .if_icmp .ne _ => (match st with | .int y :: .int x :: r => if ¬ x = y then some (.inl (a, lv, r, M, k, n)) else some (.inl (pc + 3, lv, r, M, k, n)) | _ => none)
    | .if_icmp .lt _ => (match st with | .int y :: .int x :: r => if x < y then some (.inl (a, lv, r, M, k, n)) else some (.inl (pc + 3, lv, r, M, k, n)) | _ => none)
    | .if_icmp .ge _ => (match st with | .int y :: .int x :: r => if y ≤ x then some (.inl (a, lv, r, M, k, n)) else some (.inl (pc + 3, lv, r, M, k, n)) | _ => none)
    | .if_icmp .gt _ => (match st with | .int y :: .int x :: r => if y < x then some (.inl (a, lv, r, M, k, n)) else some (.inl (pc + 3, lv, r, M, k, n)) | _ => none)
    | .if_icmp .le _ => (match st with | .int y :: .int x :: r => if x ≤ y then some (.inl (a, lv, r, M, k, n)) else some (.inl (pc + 3, lv, r, M, k, n)) | _ => none)
    | .goto _ => some (.inl (a, lv, st, M, k, n))
    | .ifnull _ => (match st with | .null :: r => some (.inl (a, lv, r, M, k, n)) | .ref _ :: r => some (.inl (pc + 3, lv, r, M, k, n)) | _ => none)
    | .ifnonnull _ => (match st with | .null :: r => some (.inl (pc + 3, lv, r, M, k, n)) | .ref _ :: r => some (.inl (a, lv, r, M, k, n)) | _ => none)
    | .tableswitch _ lo hi offs => (match st with | .int x :: r => if x.toInt < lo ∨ hi < x.toInt then some (.inl (a, lv, r, M, k, n)) else (match offs[(x.toInt - lo).toNat]? with | some off => some (.inl (((pc : Int) + off).toNat, lv, r, M, k, n)) | none => none) | _ => none)
    | .getfield _ => (match st with | .ref q :: r => (match M[q]? with | some (.inr (ci, fs)) => if ci = a ∧ q < 1000000 then (match fs[b]? with | some v => some (.inl (pc + 3, lv, v :: r, M, k, n)) | none => none) else none | _ => none) | _ => none)
    | .putfield _ => (match st with | v :: .ref q :: r => (match M[q]? with | some (.inr (ci, fs)) => if ci = a ∧ q < 1000000 ∧ b < fs.length ∧ ri_fit d v = true then some (.inl (pc + 3, lv, r, M.set q (.inr (ci, fs.set b v)), k, n)) else none | _ => none) | _ => none)
    | .iaload => (match st with | .int i :: .ref q :: r => (match M[q]? with | some (.inl (t, .inl xs)) => if t = 0 ∧ q < 1000000 ∧ ¬ i < 0 then (match xs[i.toNatClampNeg]? with | some v => some (.inl (pc + 1, lv, .int v :: r, M, k, n)) | none => none) else none | none => if q = 2000000 ∧ ¬ i < 0 then (match X with | some xs => (match xs[i.toNatClampNeg]? with | some v => some (.inl (pc + 1, lv, .int v :: r, M, k, n)) | none => none) | none => none) else none | _ => none) | _ => none)
    | .caload => (match st with | .int i :: .ref q :: r => (match M[q]? with | some (.inl (t, .inl xs)) => if t = 2 ∧ q < 1000000 ∧ ¬ i < 0 then (match xs[i.toNatClampNeg]? with | some v => some (.inl (pc + 1, lv, .int v :: r, M, k, n)) | none => none) else none | _ => none) | _ => none)
    | .baload => (match st with | .int i :: .ref q :: r => (match M[q]? with | some (.inl (t, .inl xs)) => if t = 3 ∧ q < 1000000 ∧ ¬ i < 0 then (match xs[i.toNatClampNeg]? with | some v => some (.inl (pc + 1, lv, .int v :: r, M, k, n)) | none => none) else none | _ => none) | _ => none)
    | .laload => (match st with | .int i :: .ref q :: r => (match M[q]? with | some (.inl (t, .inr (.inl xs))) => if t = 1 ∧ q < 1000000 ∧ ¬ i < 0 then (match xs[i.toNatClampNeg]? with | some v => some (.inl (pc + 1, lv, .long v :: r, M, k, n)) | none => none) else none | _ => none) | _ => none)
    | .aaload => (match st with | .int i :: .ref q :: r => (match M[q]? with | some (.inl (t, .inr (.inr xs))) => if 4 ≤ t ∧ t < 7 ∧ q < 1000000 ∧ ¬ i < 0 then (match xs[i.toNatClampNeg]? with | some v => some (.inl (pc + 1, lv, ri_rv v :: r, M, k, n)) | none => none) else none | _ => none) | _ => none)
    | .iastore => (match st with | .int x :: .int i :: .ref q :: r => (match M[q]? with | some (.inl (t, .inl xs)) => if t = 0 ∧ q < 1000000 ∧ ¬ i < 0 ∧ i.toNatClampNeg < xs.length then some (.inl (pc + 1, lv, r, M.set q (.inl (t, .inl (xs.set i.toNatClampNeg x))), k, n)) else none | _ => none) | _ => none)
    | .castore => (match st with | .int x :: .int i :: .ref q :: r => (match M[q]? with | some (.inl (t, .inl xs)) => if t = 2 ∧ q < 1000000 ∧ ¬ i < 0 ∧ i.toNatClampNeg < xs.length then some (.inl (pc + 1, lv, r, M.set q (.inl (t, .inl (xs.set i.toNatClampNeg (vp_nar .char x)))), k, n)) else none | _ => none) | _ => none)
    | .bastore => (match st with | .int x :: .int i :: .ref q :: r => (match M[q]? with | some (.inl (t, .inl xs)) => if t = 3 ∧ q < 1000000 ∧ ¬ i < 0 ∧ i.toNatClampNeg < xs.length then some (.inl (pc + 1, lv, r, M.set q (.inl (t, .inl (xs.set i.toNatClampNeg (vp_nar .boolean x)))), k, n)) else none | _ => none) | _ => none)
    | .lastore => (match st with | .long x :: .int i :: .ref q :: r => (match M[q]? with | some (.inl (t, .inr (.inl xs))) => if t = 1 ∧ q < 1000000 ∧ ¬ i < 0 ∧ i.toNatClampNeg < xs.length then some (.inl (pc + 1, lv, r, M.set q (.inl (t, .inr (.inl (xs.set i.toNatClampNeg x)))), k, n)) else none | _ => none) | _ => none)
    | .aastore => (match st with | .ref x :: .int i :: .ref q :: r => (match M[q]?, M[x]? with | some (.inl (t, .inr (.inr xs))), some (.inr (ci, _)) => if t = 6 ∧ ci = a ∧ q < 1000000 ∧ x < 1000000 ∧ ¬ i < 0 ∧ i.toNatClampNeg < xs.length then some (.inl (pc + 1, lv, r, M.set q (.inl (t, .inr (.inr (xs.set i.toNatClampNeg (some x))))), k, n)) else none | _, _ => none) | _ => none)
    | .arraylength => (match st with | .ref q :: r => if q = 2000000 then (match X with | some xs => some (.inl (pc + 1, lv, .int (Int32.ofNat xs.length) :: r, M, k, n)) | none => none) else (match M[q]? with | some (.inl (t, .inl xs)) => if t < 4 ∧ q < 1000000 then some (.inl (pc + 1, lv, .int (Int32.ofNat xs.length) :: r, M, k, n)) else none | some (.inl (t, .inr (.inl xs))) => if t < 4 ∧ q < 1000000 then some (.inl (pc + 1, lv, .int (Int32.ofNat xs.length) :: r, M, k, n)) else none | _ => none) | _ => none)
    | .new _ => (match Fd[a]? with | some fs => if M.length < 1000000 then some (.inl (pc + 3, lv, .ref M.length :: st, M ++ [.inr (a, fs)], k + 1, n + fs.length)) else none | none => none)
    | .newarray _ => (match st with | .int x :: r => if x < 0 ∨ 1000000 ≤ M.length ∨ 60000 < x.toNatClampNeg then none else if a = 1 then some (.inl (pc + 2, lv, .ref M.length :: r, M ++ [.inl (1, .inr (.inl (List.replicate x.toNatClampNeg 0)))], k + 1, n + x.toNatClampNeg)) else some (.inl (pc + 2, lv, .ref M.length :: r, M ++ [.inl (a, .inl (List.replicate x.toNatClampNeg 0))], k + 1, n + x.toNatClampNeg)) | _ => none)
    | .anewarray _ => (match st with | .int x :: r => if x < 0 ∨ 1000000 ≤ M.length ∨ 60000 < x.toNatClampNeg then none else some (.inl (pc + 3, lv, .ref M.length :: r, M ++ [.inl (6, .inr (.inr (List.replicate x.toNatClampNeg none)))], k + 1, n + x.toNatClampNeg)) | _ => none)
    | .multianewarray _ _ => (match st with | .int y :: .int x :: r => if x < 0 ∨ y < 0 ∨ 900000 ≤ M.length ∨ 60000 < x.toNatClampNeg ∨ 60000 < y.toNatClampNeg then none else some (.inl (pc + 4, lv, .ref M.length :: r, M ++ ((.inl (a, .inr (.inr ((List.range x.toNatClampNeg).map (fun i => some (M.length + 1 + i)))))) :: List.replicate x.toNatClampNeg (ri_row b y.toNatClampNeg)), k + 1 + x.toNatClampNeg, n + x.toNatClampNeg + x.toNatClampNeg * y.toNatClampNeg)) | _ => none)
    | .invokespecial _ => if c = 2 then (match st with | [.ref q] => some (.inl (pc + 3, lv, [], M, k, n)) | _ => none) else if c = 5 then none else ri_cl a b (pc + 3) lv st M k n 1 d
    | .invokevirtual _ => if c = 9 then none else ri_cl a b (pc + 3) lv st M k n 2 d
    | .invokestatic _ => if c = 4 then (match st with | [.int z, .int dp, .ref q1, .int sp, .ref q0] => (match M[q0]?, M[q1]? with | some (.inl (t0, .inl xs)), some (.inl (t1, .inl ys)) => if t0 = 0 ∧ t1 = 0 ∧ q0 < 1000000 ∧ q1 < 1000000 ∧ ¬ sp < 0 ∧ ¬ dp < 0 ∧ ¬ z < 0 ∧ sp.toNatClampNeg + z.toNatClampNeg ≤ xs.length ∧ dp.toNatClampNeg + z.toNatClampNeg ≤ ys.length then some (.inl (pc + 3, lv, [], M.set q1 (.inl (t1, .inl (ri_cpy xs ys sp.toNatClampNeg dp.toNatClampNeg z.toNatClampNeg))), k, n)) else none | _, _ => none) | _ => none) else if c = 6 then (match st with | .int y :: .int x :: r => if (r.map (fun v => v.category)).sum ≤ 8 then some (.inl (pc + 3, lv, .int (if x < y then y else x) :: r, M, k, n)) else none | _ => none) else if c = 7 then (match st with | .int y :: .int x :: r => if (r.map (fun v => v.category)).sum ≤ 8 then some (.inl (pc + 3, lv, .int (if y < x then y else x) :: r, M, k, n)) else none | _ => none) else if c = 8 then (match st with | .long y :: .long x :: r => if (r.map (fun v => v.category)).sum ≤ 8 then some (.inl (pc + 3, lv, .long (if y < x then x else y) :: r, M, k, n)) else none | _ => none) else ri_cl a b (pc + 3) lv st M k n 0 d
    | .ireturn => (match st with | [.int x] => if rk = 1 then some (.inr (.inr (some (.int x)))) else if rk = 4 ∧ (x = 0 ∨ x = 1) then some (.inr (.inr (some (.int x)))) else none | _ => none)
    | .lreturn => (match st with | [.long x] => if rk = 2 then some (.inr (.inr (some (.long x)))) else none | _ => none)
    | .areturn => (match st with | [.ref x] => if rk = 3 then some (.inr (.inr (some (.ref x)))) else none | [.null] => if rk = 3 then some (.inr (.inr (some .null))) else none | _ => none)
    | .return_ => (match st with | [] => if rk = 0 then some (.inr (.inr none)) else none | _ => none)
    | _ => none
/-- a method: its instructions by pc, its locals, its return's kind -/
abbrev ri_T : Type := List (Option ri_I) × Nat × Nat
/-- a run: fuel, depth, script, method, frame -/
def ri_run (P : Nat → Option ri_T) (Fd : List (List Value)) : Nat → Nat → Option (List Int32) → ri_T → ri_F → Option (Option Value × ri_M × Nat × Nat)
  | 0, _, _, _, _ => none
  | f + 1, d, X, t, F => match t.1[F.1]? with
    | some (some i) => (match ri_step X Fd t.2.2 i F with
      | some (.inl F') => ri_run P Fd f d X t F'
      | some (.inr (.inr v)) => some (v, F.2.2.2.1, F.2.2.2.2.1, F.2.2.2.2.2)
      | some (.inr (.inl (y, as, F'))) => (match d with
        | 0 => none
        | d' + 1 => (match P y with
          | some t' => if (as.map (fun v => v.category)).sum ≤ t'.2.1 then (match ri_run P Fd f d' none t' (0, lv_args 0 as, [], F'.2.2.2.1, 0, 0) with
            | some (v, M', k', n') => ri_run P Fd f (d' + 1) X t (F'.1, F'.2.1, v.toList ++ F'.2.2.1, M', F'.2.2.2.2.1 + k', F'.2.2.2.2.2 + n')
            | none => none) else none
          | none => none))
      | none => none)
    | _ => none
end
section
/-! ===== what the small machine's memory says of the heap ===== -/
def ri_ad (bs : Nat) (sa : Nat → Nat) (q : Nat) : Nat := if q < 1000000 then bs + q else sa q
theorem ri_ad_lt {bs : Nat} {sa : Nat → Nat} {q : Nat} (h : q < 1000000) : ri_ad bs sa q = bs + q := if_pos h
def ri_v (bs : Nat) (sa : Nat → Nat) (v : Value) : Value := match v with
  | .ref q => .ref (ri_ad bs sa q)
  | .int x => .int x
  | .long x => .long x
  | .null => .null
  | .float x => .float x
  | .double x => .double x
  | .retAddr x => .retAddr x
theorem ri_v_cat (bs : Nat) (sa : Nat → Nat) (v : Value) : (ri_v bs sa v).category = v.category := by cases v <;> rfl
theorem ri_v_rv (bs : Nat) (sa : Nat → Nat) (r : Option Nat) : va_rf (r.map (ri_ad bs sa)) = ri_v bs sa (ri_rv r) := by cases r <;> rfl
def ri_lv (bs : Nat) (sa : Nat → Nat) (lv : ri_L) : ri_L := lv.map (fun q => (q.1, ri_v bs sa q.2))
def ri_e (bs : Nat) (sa : Nat → Nat) (cs : Nat → ClassId) (c : ri_C) : va_E := match c with
  | .inl (t, .inl xs) => .inl (cs t, xs.length, .inl (fun j => xs.getD j 0))
  | .inl (t, .inr (.inl xs)) => .inl (cs t, xs.length, .inr (.inl (fun j => xs.getD j 0)))
  | .inl (t, .inr (.inr xs)) => .inl (cs t, xs.length, .inr (.inr (.inr (.inr (fun j => (xs.getD j none).map (ri_ad bs sa))))))
  | .inr (ci, fs) => .inr (ci, fs.map (ri_v bs sa))
def ri_w (bs : Nat) (sa : Nat → Nat) (cs : Nat → ClassId) (M : ri_M) : va_W := M.mapIdx (fun k c => (bs + k, ri_e bs sa cs c))
def ri_tys (cs : Nat → ClassId) (PC : String) : List (ClassId × FieldType) := [(cs 0, .int), (cs 1, .long), (cs 2, .char), (cs 3, .boolean), (cs 4, .array .int), (cs 5, .array .long), (cs 6, .object PC)]
section RIL
variable {bs : Nat} {sa : Nat → Nat} {cs : Nat → ClassId} {PC : String}
theorem ri_w_get {M : ri_M} {k : Nat} {c : ri_C} (h : M[k]? = some c) : (ri_w bs sa cs M)[k]? = some (bs + k, ri_e bs sa cs c) := by
  simp [ri_w, List.getElem?_mapIdx, h]
theorem ri_w_len (M : ri_M) : (ri_w bs sa cs M).length = M.length := by simp [ri_w]
theorem ri_w_at {M : ri_M} {k : Nat} {q : Nat × va_E} (h : (ri_w bs sa cs M)[k]? = some q) : ∃ c, M[k]? = some c ∧ q = (bs + k, ri_e bs sa cs c) := by
  rw [ri_w, List.getElem?_mapIdx] at h
  cases hm : M[k]? with
  | none => rw [hm] at h; cases h
  | some c => rw [hm] at h; cases h; exact ⟨c, rfl, rfl⟩
theorem ri_w_set (M : ri_M) (k : Nat) (c : ri_C) : ri_w bs sa cs (M.set k c) = (ri_w bs sa cs M).set k (bs + k, ri_e bs sa cs c) := by
  apply List.ext_getElem?
  intro i
  simp only [ri_w, List.getElem?_mapIdx, List.getElem?_set, List.length_mapIdx]
  by_cases h : k = i
  · subst h
    by_cases hl : k < M.length <;> simp [hl]
  · simp [h]
theorem ri_w_app (M N : ri_M) : ri_w bs sa cs (M ++ N) = ri_w bs sa cs M ++ N.mapIdx (fun j c => (bs + (M.length + j), ri_e bs sa cs c)) := by
  apply List.ext_getElem?
  intro i
  by_cases h : i < M.length
  · rw [List.getElem?_append_left (by rw [ri_w_len]; exact h)]
    simp only [ri_w, List.getElem?_mapIdx, List.getElem?_append_left h]
  · rw [List.getElem?_append_right (by rw [ri_w_len]; omega), ri_w_len]
    simp only [ri_w, List.getElem?_mapIdx, List.getElem?_append_right (show M.length ≤ i by omega)]
    rw [show M.length + (i - M.length) = i by omega]
theorem ri_w_D (M : ri_M) : va_D (fun q => bs ≤ q) (ri_w bs sa cs M) := by
  refine ⟨fun i j p q hi hj hpq => ?_, fun k q hk => ?_⟩
  · obtain ⟨c, -, rfl⟩ := ri_w_at hi
    obtain ⟨c', -, rfl⟩ := ri_w_at hj
    have h : bs + i = bs + j := hpq
    omega
  · obtain ⟨c, -, rfl⟩ := ri_w_at hk
    exact Nat.le_add_right _ _
theorem ri_ld_mem {lv : ri_L} {i : Nat} {v : Value} (h : ri_ld lv i = some v) : (i, v) ∈ lv := by
  unfold ri_ld at h
  cases hf : lv.find? (fun q => q.1 == i) with
  | none => rw [hf] at h; cases h
  | some q =>
    rw [hf] at h
    cases h
    have h1 := List.find?_some hf
    have h2 := List.mem_of_find?_eq_some hf
    obtain ⟨a, b⟩ := q
    have h3 : a = i := by simpa using h1
    subst h3
    exact h2
theorem ri_ldS {ls : Array Slot} {nL : Nat} {lv : ri_L} {i : Nat} {v : Value} (hl : lv_has ls nL (ri_lv bs sa lv)) (h : ri_ld lv i = some v) : ls[i]? = some (.val (ri_v bs sa v)) :=
  hl.2.2 (i, ri_v bs sa v) (List.mem_map.mpr ⟨(i, v), ri_ld_mem h, rfl⟩)
theorem ri_ldK {lv : ri_L} {i : Nat} {v : Value} (h : ri_ld lv i = some v) : ∃ k : Nat, (ri_lv bs sa lv)[k]? = some (i, ri_v bs sa v) :=
  List.getElem?_of_mem (List.mem_map.mpr ⟨(i, v), ri_ld_mem h, rfl⟩)
theorem ri_st1S (lv : ri_L) (i : Nat) (v : Value) : (i, ri_v bs sa v) :: (ri_lv bs sa lv).filter (fun q => !(q.1 == i) && !(q.1 + 1 == i && q.2.category == 2)) = ri_lv bs sa (ri_st1 lv i v) := by
  unfold ri_lv ri_st1
  rw [List.map_cons, List.filter_map]
  congr 2
  apply List.filter_congr
  intro q _
  simp [Function.comp, ri_v_cat]
theorem ri_st2S (lv : ri_L) (i : Nat) (v : Value) : (i, ri_v bs sa v) :: (ri_lv bs sa lv).filter (fun q => !(q.1 == i) && (!(q.1 == i + 1) && !(q.1 + 1 == i && q.2.category == 2))) = ri_lv bs sa (ri_st2 lv i v) := by
  unfold ri_lv ri_st2
  rw [List.map_cons, List.filter_map]
  congr 2
  apply List.filter_congr
  intro q _
  simp [Function.comp, ri_v_cat]
theorem ri_lv_args (i : Nat) (vs : List Value) : lv_args i (vs.map (ri_v bs sa)) = ri_lv bs sa (lv_args i vs) := by
  induction vs generalizing i with
  | nil => rfl
  | cons v vs ih =>
    simp only [List.map_cons, lv_args, ri_v_cat, ri_lv]
    rw [ih]
    rfl
theorem ri_sl_len (vs : List Value) : (lg_sl (vs.map (ri_v bs sa))).length = (vs.map (fun v => v.category)).sum := by
  induction vs with
  | nil => rfl
  | cons v vs ih =>
    have h : (lg_sl ((v :: vs).map (ri_v bs sa))).length = v.category + (lg_sl (vs.map (ri_v bs sa))).length := by
      show (List.flatMap _ (ri_v bs sa v :: vs.map (ri_v bs sa))).length = _
      rw [List.flatMap_cons, List.length_append]
      congr 1
      rw [ri_v_cat]
      rcases lv_cat v with h | h <;> simp [h]
    rw [h, ih]
    simp
theorem ri_gd {α : Type} {xs : List α} {j : Nat} {v z : α} (h : xs[j]? = some v) : xs.getD j z = v := by simp [List.getD, h]
theorem ri_upd {xs : List Int32} {j : Nat} (hj : j < xs.length) (x : Int32) : upd (fun i => xs.getD i 0) j x = fun i => (xs.set j x).getD i 0 := by
  funext i
  unfold upd
  by_cases h : i = j
  · subst h
    simp [List.getD, hj]
  · simp [List.getD, h, List.getElem?_set, Ne.symm h]
theorem ri_updL {xs : List Int64} {j : Nat} (hj : j < xs.length) (x : Int64) : vp_updL (fun i => xs.getD i 0) j x = fun i => (xs.set j x).getD i 0 := by
  funext i
  unfold vp_updL
  by_cases h : i = j
  · subst h
    simp [List.getD, hj]
  · simp [List.getD, h, List.getElem?_set, Ne.symm h]
theorem ri_updq {xs : List (Option Nat)} {j : Nat} (hj : j < xs.length) (x : Nat) : va_up (fun i => (xs.getD i none).map (ri_ad bs sa)) j (some (ri_ad bs sa x)) = fun i => ((xs.set j (some x)).getD i none).map (ri_ad bs sa) := by
  funext i
  unfold va_up
  by_cases h : i = j
  · subst h
    simp [List.getD, hj]
  · simp [List.getD, h, List.getElem?_set, Ne.symm h]
theorem ri_cpy_len {xs ys : List Int32} {s d n : Nat} (h1 : s + n ≤ xs.length) (h2 : d + n ≤ ys.length) : (ri_cpy xs ys s d n).length = ys.length := by
  unfold ri_cpy
  simp only [List.length_append, List.length_take, List.length_drop]
  omega
theorem ri_cpyS {xs ys : List Int32} {s d n : Nat} (h1 : s + n ≤ xs.length) (h2 : d + n ≤ ys.length) : va_cpy (fun i => xs.getD i 0) (fun i => ys.getD i 0) s d n = fun i => (ri_cpy xs ys s d n).getD i 0 := by
  funext i
  unfold va_cpy ri_cpy
  simp only [List.getD]
  by_cases h3 : i < d
  · rw [if_neg (by omega), List.getElem?_append_left (by rw [List.length_take]; omega), List.getElem?_take_of_lt h3]
  · rw [List.getElem?_append_right (by rw [List.length_take]; omega), List.length_take, Nat.min_eq_left (by omega)]
    by_cases h4 : i < d + n
    · rw [if_pos ⟨by omega, h4⟩, List.getElem?_append_left (by rw [List.length_take, List.length_drop]; omega), List.getElem?_take_of_lt (by omega), List.getElem?_drop]
    · rw [if_neg (by omega), List.getElem?_append_right (by rw [List.length_take, List.length_drop]; omega), List.length_take, List.length_drop, List.getElem?_drop]
      congr 2
      omega
theorem ri_in {α : Type} {xs : List α} {i : Int32} (h1 : ¬ i < 0) (h2 : i.toNatClampNeg < xs.length) : vp_in i xs.length := fun q => q.elim h1 (fun q => by omega)
theorem ri_lt {α : Type} {xs : List α} {i : Nat} {v : α} (h : xs[i]? = some v) : i < xs.length := (List.getElem?_eq_some_iff.mp h).1
def ri_kd (d : Nat) (ty : FieldType) : Prop := (d = 0 ∧ ty = .int) ∨ (d = 1 ∧ ty = .long) ∨ (d = 2 ∧ ty = .boolean) ∨ (d = 3 ∧ ((∃ C, ty = .object C) ∨ ∃ t, ty = .array t))
theorem ri_b01 {x : Int32} (h : x = 0 ∨ x = 1) : narrow .boolean (.int x) = .int x ∧ fits .boolean (.int x) = true := by
  rcases h with rfl | rfl <;> decide
theorem ri_fitS {d : Nat} {ty : FieldType} {v : Value} (hk : ri_kd d ty) (h : ri_fit d v = true) : narrow ty (ri_v bs sa v) = ri_v bs sa v ∧ fits ty (ri_v bs sa v) = true := by
  rcases hk with ⟨rfl, rfl⟩ | ⟨rfl, rfl⟩ | ⟨rfl, rfl⟩ | ⟨rfl, ⟨C, rfl⟩ | ⟨t, rfl⟩⟩
  · cases v <;> first | exact ⟨rfl, rfl⟩ | (exfalso; simp [ri_fit] at h)
  · cases v <;> first | exact ⟨rfl, rfl⟩ | (exfalso; simp [ri_fit] at h)
  · cases v with
    | int x =>
      have h' : x = 0 ∨ x = 1 := by simpa [ri_fit] using h
      exact ri_b01 h'
    | _ => simp [ri_fit] at h
  · cases v <;> first | exact ⟨rfl, rfl⟩ | (exfalso; simp [ri_fit] at h)
  · cases v <;> first | exact ⟨rfl, rfl⟩ | (exfalso; simp [ri_fit] at h)
end RIL
end
section
/-! ===== one instruction of the small machine is one of the machine's ===== -/
section RIS
/-- what the pool and the tables must say of an instruction -/
def ri_okS (cl : List vw_C) (G Nst : List Cond) (Fd : List (List Value)) (PC own nm : String) (nL pc : Nat) : ri_I → Prop
  | (ins, a, b, c, d) => match ins with
    | .ifCond _ off => (pc : Int) + off = (a : Int)
    | .if_icmp _ off => (pc : Int) + off = (a : Int)
    | .goto off => (pc : Int) + off = (a : Int)
    | .ifnull off => (pc : Int) + off = (a : Int)
    | .ifnonnull off => (pc : Int) + off = (a : Int)
    | .istore_n j => (j : Nat) < nL
    | .istore j => j < nL
    | .astore_n j => (j : Nat) < nL
    | .astore j => j < nL
    | .lstore_n j => (j : Nat) + 1 < nL
    | .lstore j => j + 1 < nL
    | .iinc j _ => j < nL
    | .ldc idx => c = 0 → Cond.constant own idx (Int32.ofNat a) ∈ G
    | .ldc_w idx => c = 0 → Cond.constant own idx (Int32.ofNat a) ∈ G
    | .ldc2_w idx => Cond.constantLong own idx (Int64.ofNat a) ∈ G
    | .tableswitch dflt _ _ offs => (pc : Int) + dflt = (a : Int) ∧ ∀ off ∈ offs.toList, 0 ≤ (pc : Int) + off
    | .getfield idx => ∃ (C : String) (T : u_T) (N : Nat), cl[a]? = some (C, T, N) ∧ b < N ∧ (∀ w ∈ u_ws C T N, w ∈ G) ∧ (Cond.fieldLink own idx (T b).1 (T b).2.1 (T b).2.2.1 ∈ G ∨ ∃ host, Cond.fieldLinkNest own idx (T b).1 (T b).2.1 (T b).2.2.1 host ∈ Nst)
    | .putfield idx => ∃ (C : String) (T : u_T) (N : Nat) (ty : Nat → FieldType), cl[a]? = some (C, T, N) ∧ b < N ∧ (∀ w ∈ u_ws C T N, w ∈ G) ∧ (∀ k, k < N → parseFieldDescriptor (T k).2.2.1 = some (ty k)) ∧ (∀ x, x < N → ∀ y, y < N → x ≠ y → (T x).2.1 ≠ (T y).2.1) ∧ ri_kd d (ty b) ∧
        (((T b).2.2.2 = false ∧ (Cond.fieldLink own idx (T b).1 (T b).2.1 (T b).2.2.1 ∈ G ∨ ∃ host, Cond.fieldLinkNest own idx (T b).1 (T b).2.1 (T b).2.2.1 host ∈ Nst)) ∨ ((T b).2.2.2 = true ∧ Cond.fieldLink own idx (T b).1 (T b).2.1 (T b).2.2.1 ∈ G ∧ nm = "<init>" ∧ (T b).1 = own))
    | .new idx => ∃ (C : String) (T : u_T) (N : Nat) (ty : Nat → FieldType) (fs : List Value), cl[a]? = some (C, T, N) ∧ (∀ w ∈ u_ws C T N, w ∈ G) ∧ (∀ k, k < N → parseFieldDescriptor (T k).2.2.1 = some (ty k)) ∧ Cond.classLink own idx C ∈ G ∧ Cond.instantiable C N ∈ G ∧ Cond.initialized C ∈ G ∧ Fd[a]? = some fs ∧ fs.length = N ∧ (∀ j, j < N → defaultValue (ty j) = vp_V fs j) ∧ ∀ v ∈ fs, ∀ q, v ≠ .ref q
    | .newarray at0 => (a = 0 ∧ at0 = .int ∧ Cond.arrayClass .int ∈ G) ∨ (a = 1 ∧ at0 = .long ∧ Cond.arrayClass .long ∈ G) ∨ (a = 2 ∧ at0 = .char ∧ Cond.arrayClass .char ∈ G) ∨ (a = 3 ∧ at0 = .boolean ∧ Cond.arrayClass .boolean ∈ G)
    | .anewarray idx => Cond.classLink own idx PC ∈ G ∧ Cond.arrayOver (.object PC) ∈ Nst
    | .multianewarray idx dm => dm = 2 ∧ ((a = 4 ∧ b = 0 ∧ Cond.classLink own idx ("[" ++ (FieldType.array .int).toString) ∈ G ∧ Cond.arrayOver (.array .int) ∈ Nst ∧ Cond.arrayClass .int ∈ G) ∨ (a = 5 ∧ b = 1 ∧ Cond.classLink own idx ("[" ++ (FieldType.array .long).toString) ∈ G ∧ Cond.arrayOver (.array .long) ∈ Nst ∧ Cond.arrayClass .long ∈ G))
    | .aastore => ∃ r : vw_C, cl[a]? = some r ∧ r.1 = PC
    | .invokespecial idx => c = 2 → (Cond.methodLink own idx Lib.objectInit ∈ G ∧ Cond.instanceMethod Lib.objectInit ∈ G ∧ Cond.code Lib.objectInit ⟨#[0xb1]⟩ 1 none ∈ G)
    | .invokestatic idx => (c = 4 → (Cond.methodLink own idx arraycopyName ∈ G ∧ Cond.native arraycopyName ∈ G ∧ Cond.static arraycopyName ∈ G ∧ Cond.initialized "java/lang/System" ∈ G)) ∧ (c = 6 → (Cond.methodLink own idx Lib.Math.max.name ∈ G ∧ Cond.static Lib.Math.max.name ∈ G ∧ Cond.initialized "java/lang/Math" ∈ G ∧ Cond.code Lib.Math.max.name Lib.Math.max.code 2 (some .int) ∈ G)) ∧ (c = 7 → (Cond.methodLink own idx Lib.Math.min.name ∈ G ∧ Cond.static Lib.Math.min.name ∈ G ∧ Cond.initialized "java/lang/Math" ∈ G ∧ Cond.code Lib.Math.min.name Lib.Math.min.code 2 (some .int) ∈ G)) ∧ (c = 8 → (Cond.methodLink own idx Lib.MathLoose.max_long.x ∈ G ∧ Cond.static Lib.MathLoose.max_long.x ∈ G ∧ Cond.initialized "java/lang/Math" ∈ G ∧ Cond.code Lib.MathLoose.max_long.x Lib.MathLoose.max_long.code 4 (some .long) ∈ G))
    | _ => True
theorem ri_cl_ne {y n0 pc : Nat} {lv : ri_L} {st : List Value} {M : ri_M} {k n how d : Nat} {F' : ri_F} : ¬ ri_cl y n0 pc lv st M k n how d = some (.inl F') := by
  intro h
  unfold ri_cl at h
  (repeat' split at h) <;> cases h
variable {p : Program} {l : Launch} {e : Env} {R : Room} {s : State} {m : MethodId} {args : Array Value} {below : List Frame} {meth : Method} {c : Code} {Q : State → Prop}
variable {cc : ByteArray} {D : va_G} {cl : List vw_C} {cs : Nat → ClassId} {PC : String} {bs : Nat} {sa : Nat → Nat} {G Nst : List Cond} {Fd : List (List Value)} {own nm : String} {nL rk : Nat} {X : Option (List Int32)}
/-- what holds of a method's body all along -/
def ri_Cx (p : Program) (R : Room) (s : State) (m : MethodId) (args : Array Value) (meth : Method) (c : Code) (cc : ByteArray) (D : va_G) (cl : List vw_C) (cs : Nat → ClassId) (PC : String) (bs : Nat) (sa : Nat → Nat) (G Nst : List Cond) (own nm : String) (nL : Nat) (X : Option (List Int32)) : Prop :=
  p.tables.exec = Jvm.exec ∧ c.code = cc ∧ c.maxLocals = nL ∧ s.vm.findClass own = some m.cls ∧ (∀ w ∈ G, w.before args s = true) ∧ va_K D cl (ri_tys cs PC) s ∧ (∀ w ∈ Nst, va_Nw w s) ∧ bs ≤ s.heap.size ∧ meth.name = nm ∧ 1 ≤ R.frames ∧ 90 ≤ R.locals ∧ ∀ xs, X = some xs → va_X (sa 2000000) xs.length (fun j => xs.getD j 0) s s.heap ∧ sa 2000000 < bs
/-- the heap's size is known -/
theorem ri_sz {H : Heap} {locs : List Loc} {k n : Nat} {g : JFrame} {M : ri_M} (hP : va_P D cl (ri_w bs sa cs M) H) (hS : va_S (fun q => bs ≤ q) s.heap H locs) (hbs : bs ≤ s.heap.size) (hn : s.heap.size + k = bs + M.length)
    (kk : H.size = bs + M.length → W p l e R s m args below meth c H locs k n Q g) : W p l e R s m args below meth c H locs k n Q g := by
  intro T hT Xs
  have h1 := Xs.heapSize
  rw [hT] at h1
  have h2 := hS.1
  refine kk ?_ T hT Xs
  cases hM : M.length with
  | zero => rw [hM] at hn; omega
  | succ j =>
    have hj : j < M.length := by omega
    have h3 := (hP j _ (ri_w_get (List.getElem?_eq_getElem hj))).lt
    have h4 : bs + j < H.size := h3
    omega
theorem ri_catm (vs : List Value) : ((vs.map (ri_v bs sa)).map (fun v => v.category)).sum = (vs.map (fun v => v.category)).sum := by
  rw [List.map_map]
  congr 1
  apply List.map_congr_left
  intro v _
  exact ri_v_cat bs sa v
theorem ri_tyS (hK : va_K D cl (ri_tys cs PC) s) {t : Nat} (h : t < 4) : ∃ ty, (ri_tys cs PC)[t]? = some (cs t, ty) := by
  rcases (show t = 0 ∨ t = 1 ∨ t = 2 ∨ t = 3 by omega) with rfl | rfl | rfl | rfl <;> exact ⟨_, rfl⟩
theorem ri_tyR {t : Nat} (h1 : 4 ≤ t) (h2 : t < 7) : ∃ ty, (ri_tys cs PC)[t]? = some (cs t, ty) ∧ ty.isReference = true := by
  rcases (show t = 4 ∨ t = 5 ∨ t = 6 by omega) with rfl | rfl | rfl <;> exact ⟨_, rfl, rfl⟩
theorem ri_pushP {M : ri_M} {H H1 : Heap} {x : ri_C} (hP : va_P D cl (ri_w bs sa cs M) H) (hz : H.size = bs + M.length) (o1 : ∀ q, q < H.size → H1[q]? = H[q]?) (hx : va_at D cl (H.size, ri_e bs sa cs x) H1) : va_P D cl (ri_w bs sa cs (M ++ [x])) H1 := by
  rw [ri_w_app]
  refine (hP.kept (fun k y hy => o1 y.1 ((hP k y hy).lt))).app (fun k y hy => ?_)
  have h0 : k < 1 := by
    have := (List.getElem?_eq_some_iff.mp hy).1
    simpa using this
  rw [show k = 0 by omega] at hy
  simp only [List.mapIdx_cons, List.mapIdx_nil, List.getElem?_cons_zero, Option.some.injEq, Nat.add_zero] at hy
  rw [← hy, ← hz]
  exact hx
theorem ri_pushS {H H1 : Heap} {locs : List Loc} (hS : va_S (fun q => bs ≤ q) s.heap H locs) (hz : H.size ≤ H1.size) (o1 : ∀ q, q < H.size → H1[q]? = H[q]?) : va_S (fun q => bs ≤ q) s.heap H1 locs :=
  ⟨Nat.le_trans hS.1 hz, fun x h1 h2 => (o1 x (Nat.lt_of_lt_of_le h1 hS.1)).trans (hS.2.1 x h1 h2), hS.2.2⟩
theorem ri_rep {α : Type} (n j : Nat) (z : α) : (List.replicate n z).getD j z = z := by
  simp only [List.getD, List.getElem?_replicate]
  by_cases h : j < n <;> simp [h]
theorem ri_cellI (t N : Nat) : ri_e bs sa cs (.inl (t, .inl (List.replicate N 0))) = .inl (cs t, N, .inl (fun _ => 0)) := by
  simp only [ri_e, List.length_replicate, ri_rep]
theorem ri_cellL (t N : Nat) : ri_e bs sa cs (.inl (t, .inr (.inl (List.replicate N 0)))) = .inl (cs t, N, .inr (.inl (fun _ => 0))) := by
  simp only [ri_e, List.length_replicate, ri_rep]
theorem ri_cellQ (t N : Nat) : ri_e bs sa cs (.inl (t, .inr (.inr (List.replicate N none)))) = .inl (cs t, N, .inr (.inr (.inr (.inr (fun _ => none))))) := by
  simp only [ri_e, List.length_replicate, ri_rep, Option.map_none]
theorem ri_rowE (b N : Nat) : ri_e bs sa cs (ri_row b N) = .inl (cs b, if b = 1 then (N, .inr (.inl (fun _ => 0))) else (N, .inl (fun _ => 0))) := by
  unfold ri_row
  by_cases h : b = 1
  · subst h
    rw [if_pos rfl, if_pos rfl]
    exact ri_cellL 1 N
  · rw [if_neg h, if_neg h]
    exact ri_cellI b N
set_option maxHeartbeats 4000000 in
theorem ri_mna {pc : Nat} {ls : Array Slot} {rest : List Value} {H : Heap} {locs : List Loc} {k n : Nat} {M : ri_M} {a b : Nat} {ty : FieldType} (hx : p.tables.exec = Jvm.exec) (hb : c.code = cc) (hown : s.vm.findClass own = some m.cls) {idx : Nat} (h1 : (Cond.classLink own idx ("[" ++ (FieldType.array ty).toString)).before args s = true) (h2 : (Cond.arrayOver (.array ty)).before args s = true) (h3 : (Cond.arrayClass ty).before args s = true)
    (hcA : s.vm.findClass ("[" ++ (FieldType.array ty).toString) = some (cs a)) (hcB : s.vm.findClass (FieldType.array ty).toString = some (cs b)) {x y : Int32} (hx0 : ¬ x < 0) (hy0 : ¬ y < 0) (hx1 : x.toNatClampNeg ≤ 60000) (hy1 : y.toNatClampNeg ≤ 60000) (hb2 : componentBytes ty ≤ 8) (hdf : fits ty (defaultValue ty) = true) (hdd : (defaultValue ty).isDefault = true)
    (hrow : ∀ N, va_at D cl (0, ri_e bs sa cs (ri_row b N)) #[] = va_at D cl (0, .inl (cs b, if b = 1 then (N, .inr (.inl (fun _ => 0))) else (N, .inl (fun _ => 0)))) #[]) (hin : ∀ N, Jvm.Free.Multi.innerC (cs b) N (defaultValue ty) = vp_cell (cs b) (if b = 1 then (N, .inr (.inl (fun _ => 0))) else (N, .inl (fun _ => 0))))
    (hP : va_P D cl (ri_w bs sa cs M) H) (hS : va_S (fun q => bs ≤ q) s.heap H locs) (hz : H.size = bs + M.length) (hM : M.length < 900000) (hc : k + 1 + x.toNatClampNeg ≤ R.cells) (hs : n + x.toNatClampNeg + x.toNatClampNeg * y.toNatClampNeg ≤ R.slots) (hdg : decode cc pc = .ok (.multianewarray idx 2, 4))
    (kk : ∀ H1 : Heap, va_P D cl (ri_w bs sa cs (M ++ ((.inl (a, .inr (.inr ((List.range x.toNatClampNeg).map (fun i => some (M.length + 1 + i)))))) :: List.replicate x.toNatClampNeg (ri_row b y.toNatClampNeg)))) H1 → va_S (fun q => bs ≤ q) s.heap H1 locs → W p l e R s m args below meth c H1 locs (k + 1 + x.toNatClampNeg) (n + x.toNatClampNeg + x.toNatClampNeg * y.toNatClampNeg) Q (F0 m (pc + 4) ls (.ref (bs + M.length) :: rest))) :
    W p l e R s m args below meth c H locs k n Q (F0 m pc ls (.int y :: .int x :: rest)) := by
  intro T hT Xs
  obtain ⟨vm₁, cA, comp, -, fA, fC, -, -, X', step⟩ := Xs.multianewarray2F hx hown h1 h2 h3 (g := F0 m pc ls (.int y :: .int x :: rest)) rfl (by rw [hb]; exact hdg) rfl hx0 hy0 (by omega) (by have := Nat.mul_le_mul hy1 hb2; omega) (by omega) hdf hdd (by omega) (by omega)
  have ec : cA = cs a := Option.some.inj (fA.symm.trans hcA)
  have eb : comp = cs b := Option.some.inj (fC.symm.trans hcB)
  subst ec
  subst eb
  generalize hF : Jvm.Free.Multi.fill (T.setVm vm₁) (cs a) (cs b) x.toNatClampNeg y.toNatClampNeg (defaultValue ty) x.toNatClampNeg = F at X' step
  have hTh : (T.setVm vm₁).heap = H := hT
  obtain ⟨f1, f2, -, -⟩ := Jvm.Free.Multi.fill_facts (T.setVm vm₁) (cs a) (cs b) x.toNatClampNeg y.toNatClampNeg (defaultValue ty) x.toNatClampNeg
  rw [hF, hTh] at f1 f2
  have hold : ∀ q : Nat, q < H.size → F.heap[q]? = H[q]? := fun q hq => by
    have := Jvm.Free.Multi.fill_old (T.setVm vm₁) (cs a) (cs b) x.toNatClampNeg y.toNatClampNeg (defaultValue ty) (a := q) (by rw [hTh]; exact hq) x.toNatClampNeg
    rw [hF, hTh] at this
    exact this
  have hinn : ∀ j : Nat, j < x.toNatClampNeg → F.heap[H.size + 1 + j]? = some (vp_cell (cs b) (if b = 1 then (y.toNatClampNeg, .inr (.inl (fun _ => 0))) else (y.toNatClampNeg, .inl (fun _ => 0)))) := fun j hj => by
    have := Jvm.Free.Multi.fill_inner (T.setVm vm₁) (cs a) (cs b) x.toNatClampNeg y.toNatClampNeg (defaultValue ty) x.toNatClampNeg j hj
    rw [hF, hTh, hin] at this
    exact this
  have hout : ∀ i : Nat, Jvm.Free.Multi.outerC (cs a) x.toNatClampNeg H.size i = arrV (cs a) x.toNatClampNeg (fun j => va_rf (if j < i then some (H.size + 1 + j) else none)) := by
    intro i
    induction i with
    | zero =>
      show ({ cls := cs a, slots := Array.replicate x.toNatClampNeg .null, vm := .none } : Cell) = _
      rw [arrV_new]
      refine congrArg (arrV (cs a) x.toNatClampNeg) (funext fun j => ?_)
      simp [va_rf]
    | succ i ih =>
      show (Jvm.Free.Multi.outerC (cs a) x.toNatClampNeg H.size i).setSlot i (.ref (H.size + 1 + i)) = _
      rw [ih, arrV_store]
      refine congrArg (arrV (cs a) x.toNatClampNeg) (funext fun j => ?_)
      by_cases e : j = i
      · subst e
        simp [updV, va_rf]
      · by_cases h : j < i
        · simp [updV, e, h, Nat.lt_succ_of_lt h]
        · simp [updV, e, h, show ¬ j < i + 1 by omega]
  rw [hout] at f2
  have hP1 : va_P D cl (ri_w bs sa cs (M ++ ((.inl (a, .inr (.inr ((List.range x.toNatClampNeg).map (fun i => some (M.length + 1 + i)))))) :: List.replicate x.toNatClampNeg (ri_row b y.toNatClampNeg)))) F.heap := by
    rw [ri_w_app]
    refine (hP.kept (fun k9 q hq => hold q.1 ((hP k9 q hq).lt))).app (fun k9 q hq => ?_)
    rw [List.getElem?_mapIdx] at hq
    cases k9 with
    | zero =>
      simp only [List.getElem?_cons_zero, Option.map_some, Option.some.injEq, Nat.add_zero] at hq
      rw [← hq]
      show F.heap[bs + M.length]? = some (vp_cell _ _)
      rw [← hz, f2]
      congr 1
      show arrV _ _ _ = vp_cell (cs a) ((List.map (fun i => some (M.length + 1 + i)) (List.range x.toNatClampNeg)).length, _)
      rw [List.length_map, List.length_range, vp_cell_q]
      show ({ cls := cs a, slots := Array.ofFn (n := x.toNatClampNeg) fun j => _, vm := .none } : Cell) = { cls := cs a, slots := Array.ofFn (n := x.toNatClampNeg) fun j => _, vm := .none }
      congr 2
      funext j
      have hj := j.isLt
      simp only [hj, if_true, List.getD, List.getElem?_map, List.getElem?_range, Option.map_some, Option.getD_some]
      rw [ri_ad_lt (by omega), hz]
      congr 2
      omega
    | succ j =>
      simp only [List.getElem?_cons_succ, List.getElem?_replicate] at hq
      by_cases hj : j < x.toNatClampNeg
      · simp only [hj, if_true, Option.map_some, Option.some.injEq] at hq
        rw [← hq, ri_rowE]
        show F.heap[bs + (M.length + (j + 1))]? = some (vp_cell _ _)
        rw [← hinn j hj, hz]
        congr 1
        omega
      · simp [hj] at hq
  obtain ⟨t, a1, b1⟩ := kk F.heap hP1 (ri_pushS hS (by rw [f1]; omega) hold) F rfl X'
  refine ⟨t, step t ?_, b1⟩
  have e0 : T.heap.size = bs + M.length := by rw [hT]; exact hz
  rw [e0]
  exact a1
set_option maxRecDepth 100000 in
set_option maxHeartbeats 40000000 in
theorem ri_stepW (C : ri_Cx p R s m args meth c cc D cl cs PC bs sa G Nst own nm nL X) {i : ri_I} {F F' : ri_F} (hd : decode cc F.1 = .ok (i.1, ri_len i.1 i.2.2.2.2)) (hok : ri_okS cl G Nst Fd PC own nm nL F.1 i) (h : ri_step X Fd rk i F = some (.inl F')) {H : Heap} {locs : List Loc} {ls : Array Slot}
    (hP : va_P D cl (ri_w bs sa cs F.2.2.2.1) H) (hl : lv_has ls nL (ri_lv bs sa F.2.1)) (hS : va_S (fun q => bs ≤ q) s.heap H locs) (hn : s.heap.size + F.2.2.2.2.1 = bs + F.2.2.2.1.length) (hk : F'.2.2.2.2.1 ≤ R.cells ∧ F'.2.2.2.2.2 ≤ R.slots)
    (kk : ∀ (H1 : Heap) (locs1 : List Loc) (ls1 : Array Slot), va_P D cl (ri_w bs sa cs F'.2.2.2.1) H1 → lv_has ls1 nL (ri_lv bs sa F'.2.1) → va_S (fun q => bs ≤ q) s.heap H1 locs1 → s.heap.size + F'.2.2.2.2.1 = bs + F'.2.2.2.1.length → W p l e R s m args below meth c H1 locs1 F'.2.2.2.2.1 F'.2.2.2.2.2 Q (F0 m F'.1 ls1 (F'.2.2.1.map (ri_v bs sa)))) :
    W p l e R s m args below meth c H locs F.2.2.2.2.1 F.2.2.2.2.2 Q (F0 m F.1 ls (F.2.2.1.map (ri_v bs sa))) := by
  obtain ⟨hx, hb, hml, hown, hts, hK, hN, hbs, hnm, hRf, hRl, hX⟩ := C
  obtain ⟨ins, a, b, c0, d⟩ := i
  obtain ⟨pc, lv, st, M, k, n⟩ := F
  dsimp only at hd hok hP hl hn
  show W p l e R s m args below meth c H locs k n Q (F0 m pc ls (st.map (ri_v bs sa)))
  have hD := ri_w_D (bs := bs) (sa := sa) (cs := cs) M
  cases ins with
  | iconst v =>
    cases h
    exact lv_iconst hx hb hd rfl (kk H locs ls hP hl hS hn)
  | bipush v =>
    cases h
    exact lv_bipush hx hb hd rfl (kk H locs ls hP hl hS hn)
  | sipush v =>
    cases h
    exact lv_sipush hx hb hd rfl (kk H locs ls hP hl hS hn)
  | lconst v =>
    cases h
    exact lv_lconst hx hb hd rfl (kk H locs ls hP hl hS hn)
  | aconst_null  =>
    cases h
    exact lv_null hx hb hd (kk H locs ls hP hl hS hn)
  | ldc idx =>
    replace h : (if c0 = 0 then some (.inl (pc + 2, lv, .int (Int32.ofNat a) :: st, M, k, n)) else none : Option ri_X) = some (.inl F') := h
    split at h
    · rename_i hc
      cases h
      exact lv_ldc hx hb hown (hts _ (hok hc)) hd (kk H locs ls hP hl hS hn)
    · cases h
  | ldc_w idx =>
    replace h : (if c0 = 0 then some (.inl (pc + 3, lv, .int (Int32.ofNat a) :: st, M, k, n)) else none : Option ri_X) = some (.inl F') := h
    split at h
    · rename_i hc
      cases h
      exact lv_ldcw hx hb hown (hts _ (hok hc)) hd (kk H locs ls hP hl hS hn)
    · cases h
  | ldc2_w idx =>
    cases h
    exact lv_ldc2 hx hb hown (hts _ hok) hd (kk H locs ls hP hl hS hn)
  | iload_n j =>
    replace h : ((match (generalizing := false) ri_ld lv j with | some (.int x) => some (.inl (pc + 1, lv, .int x :: st, M, k, n)) | _ => none) : Option ri_X) = some (.inl F') := h
    split at h
    · rename_i x heq
      cases h
      exact lv_iload_n hx hb hd rfl (ri_ldS hl heq) (kk H locs ls hP hl hS hn)
    · cases h
  | iload j =>
    replace h : ((match (generalizing := false) ri_ld lv j with | some (.int x) => some (.inl (pc + 2, lv, .int x :: st, M, k, n)) | _ => none) : Option ri_X) = some (.inl F') := h
    split at h
    · rename_i x heq
      cases h
      exact lv_iload hx hb hd (ri_ldS hl heq) (kk H locs ls hP hl hS hn)
    · cases h
  | lload_n j =>
    replace h : ((match (generalizing := false) ri_ld lv j with | some (.long x) => some (.inl (pc + 1, lv, .long x :: st, M, k, n)) | _ => none) : Option ri_X) = some (.inl F') := h
    split at h
    · rename_i x heq
      cases h
      exact lv_lload_n hx hb hd rfl (ri_ldS hl heq) (kk H locs ls hP hl hS hn)
    · cases h
  | lload j =>
    replace h : ((match (generalizing := false) ri_ld lv j with | some (.long x) => some (.inl (pc + 2, lv, .long x :: st, M, k, n)) | _ => none) : Option ri_X) = some (.inl F') := h
    split at h
    · rename_i x heq
      cases h
      exact lv_lload hx hb hd (ri_ldS hl heq) (kk H locs ls hP hl hS hn)
    · cases h
  | aload_n j =>
    replace h : ((match (generalizing := false) ri_ld lv j with | some (.ref x) => some (.inl (pc + 1, lv, .ref x :: st, M, k, n)) | some .null => some (.inl (pc + 1, lv, .null :: st, M, k, n)) | _ => none) : Option ri_X) = some (.inl F') := h
    split at h
    · rename_i x heq
      cases h
      exact lv_aload_n hx hb hd rfl (ri_ldS hl heq) (kk H locs ls hP hl hS hn)
    · rename_i heq
      cases h
      exact lv_aload_nN hx hb hd rfl (ri_ldS hl heq) (kk H locs ls hP hl hS hn)
    · cases h
  | aload j =>
    replace h : ((match (generalizing := false) ri_ld lv j with | some (.ref x) => some (.inl (pc + 2, lv, .ref x :: st, M, k, n)) | some .null => some (.inl (pc + 2, lv, .null :: st, M, k, n)) | _ => none) : Option ri_X) = some (.inl F') := h
    split at h
    · rename_i x heq
      cases h
      exact lv_aload hx hb hd (ri_ldS hl heq) (kk H locs ls hP hl hS hn)
    · rename_i heq
      cases h
      exact lv_aloadN hx hb hd (ri_ldS hl heq) (kk H locs ls hP hl hS hn)
    · cases h
  | istore_n j =>
    replace h : ((match (generalizing := false) st with | .int x :: r => some (.inl (pc + 1, ri_st1 lv j (.int x), r, M, k, n)) | _ => none) : Option ri_X) = some (.inl F') := h
    split at h
    · rename_i x r
      cases h
      exact lv_istore_n hx hb hd rfl hl hok (ri_st1S lv _ (.int x)) (fun ls1 hl1 => kk H locs ls1 hP hl1 hS hn)
    · cases h
  | istore j =>
    replace h : ((match (generalizing := false) st with | .int x :: r => some (.inl (pc + 2, ri_st1 lv j (.int x), r, M, k, n)) | _ => none) : Option ri_X) = some (.inl F') := h
    split at h
    · rename_i x r
      cases h
      exact lv_istore hx hb hd hl hok (ri_st1S lv _ (.int x)) (fun ls1 hl1 => kk H locs ls1 hP hl1 hS hn)
    · cases h
  | lstore_n j =>
    replace h : ((match (generalizing := false) st with | .long x :: r => some (.inl (pc + 1, ri_st2 lv j (.long x), r, M, k, n)) | _ => none) : Option ri_X) = some (.inl F') := h
    split at h
    · rename_i x r
      cases h
      exact lv_lstore_n hx hb hd rfl hl hok (ri_st2S lv _ (.long x)) (fun ls1 hl1 => kk H locs ls1 hP hl1 hS hn)
    · cases h
  | lstore j =>
    replace h : ((match (generalizing := false) st with | .long x :: r => some (.inl (pc + 2, ri_st2 lv j (.long x), r, M, k, n)) | _ => none) : Option ri_X) = some (.inl F') := h
    split at h
    · rename_i x r
      cases h
      exact lv_lstore hx hb hd hl hok (ri_st2S lv _ (.long x)) (fun ls1 hl1 => kk H locs ls1 hP hl1 hS hn)
    · cases h
  | astore_n j =>
    replace h : ((match (generalizing := false) st with | .ref x :: r => some (.inl (pc + 1, ri_st1 lv j (.ref x), r, M, k, n)) | .null :: r => some (.inl (pc + 1, ri_st1 lv j .null, r, M, k, n)) | _ => none) : Option ri_X) = some (.inl F') := h
    split at h
    · rename_i x r
      cases h
      exact lv_astore_n hx hb hd rfl hl hok (ri_st1S lv _ (.ref x)) (fun ls1 hl1 => kk H locs ls1 hP hl1 hS hn)
    · rename_i r
      cases h
      exact lv_astore_nN hx hb hd rfl hl hok (ri_st1S lv _ .null) (fun ls1 hl1 => kk H locs ls1 hP hl1 hS hn)
    · cases h
  | astore j =>
    replace h : ((match (generalizing := false) st with | .ref x :: r => some (.inl (pc + 2, ri_st1 lv j (.ref x), r, M, k, n)) | .null :: r => some (.inl (pc + 2, ri_st1 lv j .null, r, M, k, n)) | _ => none) : Option ri_X) = some (.inl F') := h
    split at h
    · rename_i x r
      cases h
      exact lv_astore hx hb hd hl hok (ri_st1S lv _ (.ref x)) (fun ls1 hl1 => kk H locs ls1 hP hl1 hS hn)
    · rename_i r
      cases h
      exact lv_astoreN hx hb hd hl hok (ri_st1S lv _ .null) (fun ls1 hl1 => kk H locs ls1 hP hl1 hS hn)
    · cases h
  | iinc j v =>
    replace h : ((match (generalizing := false) ri_ld lv j with | some (.int x) => some (.inl (pc + 3, ri_st1 lv j (.int (x + Int32.ofInt v)), st, M, k, n)) | _ => none) : Option ri_X) = some (.inl F') := h
    split at h
    · rename_i x heq
      cases h
      obtain ⟨k9, hk9⟩ := ri_ldK (bs := bs) (sa := sa) heq
      exact lv_iinc hx hb hd hl hk9 rfl hok (ri_st1S lv _ (.int (x + Int32.ofInt v))) (fun ls1 hl1 => kk H locs ls1 hP hl1 hS hn)
    · cases h
  | iadd  =>
    replace h : ((match (generalizing := false) st with | .int y :: .int x :: r => some (.inl (pc + 1, lv, .int (x + y) :: r, M, k, n)) | _ => none) : Option ri_X) = some (.inl F') := h
    split at h
    · rename_i y x r
      cases h
      exact lv_iadd hx hb hd (kk H locs ls hP hl hS hn)
    · cases h
  | isub  =>
    replace h : ((match (generalizing := false) st with | .int y :: .int x :: r => some (.inl (pc + 1, lv, .int (x - y) :: r, M, k, n)) | _ => none) : Option ri_X) = some (.inl F') := h
    split at h
    · rename_i y x r
      cases h
      exact lv_isub hx hb hd (kk H locs ls hP hl hS hn)
    · cases h
  | imul  =>
    replace h : ((match (generalizing := false) st with | .int y :: .int x :: r => some (.inl (pc + 1, lv, .int (x * y) :: r, M, k, n)) | _ => none) : Option ri_X) = some (.inl F') := h
    split at h
    · rename_i y x r
      cases h
      exact lv_imul hx hb hd (kk H locs ls hP hl hS hn)
    · cases h
  | iand  =>
    replace h : ((match (generalizing := false) st with | .int y :: .int x :: r => some (.inl (pc + 1, lv, .int (x &&& y) :: r, M, k, n)) | _ => none) : Option ri_X) = some (.inl F') := h
    split at h
    · rename_i y x r
      cases h
      exact lv_iand hx hb hd (kk H locs ls hP hl hS hn)
    · cases h
  | ior  =>
    replace h : ((match (generalizing := false) st with | .int y :: .int x :: r => some (.inl (pc + 1, lv, .int (x ||| y) :: r, M, k, n)) | _ => none) : Option ri_X) = some (.inl F') := h
    split at h
    · rename_i y x r
      cases h
      exact lv_ior hx hb hd (kk H locs ls hP hl hS hn)
    · cases h
  | ixor  =>
    replace h : ((match (generalizing := false) st with | .int y :: .int x :: r => some (.inl (pc + 1, lv, .int (x ^^^ y) :: r, M, k, n)) | _ => none) : Option ri_X) = some (.inl F') := h
    split at h
    · rename_i y x r
      cases h
      exact lv_ixor hx hb hd (kk H locs ls hP hl hS hn)
    · cases h
  | ishl  =>
    replace h : ((match (generalizing := false) st with | .int y :: .int x :: r => some (.inl (pc + 1, lv, .int (x <<< (y &&& 31)) :: r, M, k, n)) | _ => none) : Option ri_X) = some (.inl F') := h
    split at h
    · rename_i y x r
      cases h
      exact lv_ishl hx hb hd (kk H locs ls hP hl hS hn)
    · cases h
  | ishr  =>
    replace h : ((match (generalizing := false) st with | .int y :: .int x :: r => some (.inl (pc + 1, lv, .int (x >>> (y &&& 31)) :: r, M, k, n)) | _ => none) : Option ri_X) = some (.inl F') := h
    split at h
    · rename_i y x r
      cases h
      exact lv_ishr hx hb hd (kk H locs ls hP hl hS hn)
    · cases h
  | ladd  =>
    replace h : ((match (generalizing := false) st with | .long y :: .long x :: r => some (.inl (pc + 1, lv, .long (x + y) :: r, M, k, n)) | _ => none) : Option ri_X) = some (.inl F') := h
    split at h
    · rename_i y x r
      cases h
      exact lv_ladd hx hb hd (kk H locs ls hP hl hS hn)
    · cases h
  | lsub  =>
    replace h : ((match (generalizing := false) st with | .long y :: .long x :: r => some (.inl (pc + 1, lv, .long (x - y) :: r, M, k, n)) | _ => none) : Option ri_X) = some (.inl F') := h
    split at h
    · rename_i y x r
      cases h
      exact lv_lsub hx hb hd (kk H locs ls hP hl hS hn)
    · cases h
  | lmul  =>
    replace h : ((match (generalizing := false) st with | .long y :: .long x :: r => some (.inl (pc + 1, lv, .long (x * y) :: r, M, k, n)) | _ => none) : Option ri_X) = some (.inl F') := h
    split at h
    · rename_i y x r
      cases h
      exact lv_lmul hx hb hd (kk H locs ls hP hl hS hn)
    · cases h
  | land  =>
    replace h : ((match (generalizing := false) st with | .long y :: .long x :: r => some (.inl (pc + 1, lv, .long (x &&& y) :: r, M, k, n)) | _ => none) : Option ri_X) = some (.inl F') := h
    split at h
    · rename_i y x r
      cases h
      exact lv_land hx hb hd (kk H locs ls hP hl hS hn)
    · cases h
  | lor  =>
    replace h : ((match (generalizing := false) st with | .long y :: .long x :: r => some (.inl (pc + 1, lv, .long (x ||| y) :: r, M, k, n)) | _ => none) : Option ri_X) = some (.inl F') := h
    split at h
    · rename_i y x r
      cases h
      exact lv_lor hx hb hd (kk H locs ls hP hl hS hn)
    · cases h
  | iushr  =>
    replace h : ((match (generalizing := false) st with | .int y :: .int x :: r => some (.inl (pc + 1, lv, .int ((x.toUInt32 >>> (y.toUInt32 &&& Int32.toUInt32 31)).toInt32) :: r, M, k, n)) | _ => none) : Option ri_X) = some (.inl F') := h
    split at h
    · rename_i y x r
      cases h
      exact lv_iushr hx hb hd rfl (kk H locs ls hP hl hS hn)
    · cases h
  | lshl  =>
    replace h : ((match (generalizing := false) st with | .int y :: .long x :: r => some (.inl (pc + 1, lv, .long (x <<< (y.toInt64 &&& 63)) :: r, M, k, n)) | _ => none) : Option ri_X) = some (.inl F') := h
    split at h
    · rename_i y x r
      cases h
      exact lv_lshl hx hb hd rfl (kk H locs ls hP hl hS hn)
    · cases h
  | lshr  =>
    replace h : ((match (generalizing := false) st with | .int y :: .long x :: r => some (.inl (pc + 1, lv, .long (x >>> (y.toInt64 &&& 63)) :: r, M, k, n)) | _ => none) : Option ri_X) = some (.inl F') := h
    split at h
    · rename_i y x r
      cases h
      exact lv_lshr hx hb hd rfl (kk H locs ls hP hl hS hn)
    · cases h
  | lcmp  =>
    replace h : ((match (generalizing := false) st with | .long y :: .long x :: r => some (.inl (pc + 1, lv, .int (lg_cmp x y) :: r, M, k, n)) | _ => none) : Option ri_X) = some (.inl F') := h
    split at h
    · rename_i y x r
      cases h
      exact W.lcmp hx hb hd (kk H locs ls hP hl hS hn)
    · cases h
  | ineg  =>
    replace h : ((match (generalizing := false) st with | .int x :: r => some (.inl (pc + 1, lv, .int (-x) :: r, M, k, n)) | _ => none) : Option ri_X) = some (.inl F') := h
    split at h
    · rename_i x r
      cases h
      exact lv_ineg hx hb hd (kk H locs ls hP hl hS hn)
    · cases h
  | i2l  =>
    replace h : ((match (generalizing := false) st with | .int x :: r => some (.inl (pc + 1, lv, .long x.toInt64 :: r, M, k, n)) | _ => none) : Option ri_X) = some (.inl F') := h
    split at h
    · rename_i x r
      cases h
      exact lv_i2l hx hb hd rfl (kk H locs ls hP hl hS hn)
    · cases h
  | l2i  =>
    replace h : ((match (generalizing := false) st with | .long x :: r => some (.inl (pc + 1, lv, .int x.toInt32 :: r, M, k, n)) | _ => none) : Option ri_X) = some (.inl F') := h
    split at h
    · rename_i x r
      cases h
      exact lv_l2i hx hb hd rfl (kk H locs ls hP hl hS hn)
    · cases h
  | i2c  =>
    replace h : ((match (generalizing := false) st with | .int x :: r => some (.inl (pc + 1, lv, .int (x.toUInt32 % 65536).toInt32 :: r, M, k, n)) | _ => none) : Option ri_X) = some (.inl F') := h
    split at h
    · rename_i x r
      cases h
      exact lv_i2c hx hb hd rfl (kk H locs ls hP hl hS hn)
    · cases h
  | idiv  =>
    replace h : ((match (generalizing := false) st with | .int y :: .int x :: r => if y = 0 then none else some (.inl (pc + 1, lv, .int (x / y) :: r, M, k, n)) | _ => none) : Option ri_X) = some (.inl F') := h
    split at h
    · rename_i y x r
      split at h
      · cases h
      · rename_i hne
        cases h
        exact lv_idiv hx hb hd hne (kk H locs ls hP hl hS hn)
    · cases h
  | irem  =>
    replace h : ((match (generalizing := false) st with | .int y :: .int x :: r => if y = 0 then none else some (.inl (pc + 1, lv, .int (x - x / y * y) :: r, M, k, n)) | _ => none) : Option ri_X) = some (.inl F') := h
    split at h
    · rename_i y x r
      split at h
      · cases h
      · rename_i hne
        cases h
        exact lv_irem hx hb hd hne (kk H locs ls hP hl hS hn)
    · cases h
  | ldiv  =>
    replace h : ((match (generalizing := false) st with | .long y :: .long x :: r => if y = 0 then none else some (.inl (pc + 1, lv, .long (x / y) :: r, M, k, n)) | _ => none) : Option ri_X) = some (.inl F') := h
    split at h
    · rename_i y x r
      split at h
      · cases h
      · rename_i hne
        cases h
        exact lv_ldiv hx hb hd hne (kk H locs ls hP hl hS hn)
    · cases h
  | lrem  =>
    replace h : ((match (generalizing := false) st with | .long y :: .long x :: r => if y = 0 then none else some (.inl (pc + 1, lv, .long (x - x / y * y) :: r, M, k, n)) | _ => none) : Option ri_X) = some (.inl F') := h
    split at h
    · rename_i y x r
      split at h
      · cases h
      · rename_i hne
        cases h
        exact lv_lrem hx hb hd hne (kk H locs ls hP hl hS hn)
    · cases h
  | dup  =>
    replace h : ((match (generalizing := false) st with | v :: r => if v.category = 1 then some (.inl (pc + 1, lv, v :: v :: r, M, k, n)) else none | _ => none) : Option ri_X) = some (.inl F') := h
    split at h
    · rename_i v r
      split at h
      · rename_i hc
        cases h
        exact lv_dup hx hb hd ((ri_v_cat bs sa v).trans hc) (kk H locs ls hP hl hS hn)
      · cases h
    · cases h
  | pop  =>
    replace h : ((match (generalizing := false) st with | v :: r => if v.category = 1 then some (.inl (pc + 1, lv, r, M, k, n)) else none | _ => none) : Option ri_X) = some (.inl F') := h
    split at h
    · rename_i v r
      split at h
      · rename_i hc
        cases h
        exact lv_pop hx hb hd ((ri_v_cat bs sa v).trans hc) (kk H locs ls hP hl hS hn)
      · cases h
    · cases h
  | dup2  =>
    replace h : ((match (generalizing := false) st with | .long v :: r => some (.inl (pc + 1, lv, .long v :: .long v :: r, M, k, n)) | v :: u :: r => if v.category = 1 ∧ u.category = 1 then some (.inl (pc + 1, lv, v :: u :: v :: u :: r, M, k, n)) else none | _ => none) : Option ri_X) = some (.inl F') := h
    split at h
    · rename_i v r
      cases h
      exact lv_dup2_2 (va := .long v) hx hb hd rfl (kk H locs ls hP hl hS hn)
    · rename_i v u r hno
      split at h
      · rename_i hc
        cases h
        exact lv_dup2_11 hx hb hd ((ri_v_cat bs sa v).trans hc.1) ((ri_v_cat bs sa u).trans hc.2) (kk H locs ls hP hl hS hn)
      · cases h
    · cases h
  | ifCond cd off =>
    cases cd with
    | eq =>
      replace h : ((match (generalizing := false) st with | .int x :: r => if x = 0 then some (.inl (a, lv, r, M, k, n)) else some (.inl (pc + 3, lv, r, M, k, n)) | _ => none) : Option ri_X) = some (.inl F') := h
      split at h
      · rename_i x r
        exact lv_if_eq (tgt := a) hx hb hd hok (fun hc => by rw [if_pos hc] at h; cases h; exact (kk H locs ls hP hl hS hn)) (fun hc => by rw [if_neg hc] at h; cases h; exact (kk H locs ls hP hl hS hn))
      · cases h
    | ne =>
      replace h : ((match (generalizing := false) st with | .int x :: r => if ¬ x = 0 then some (.inl (a, lv, r, M, k, n)) else some (.inl (pc + 3, lv, r, M, k, n)) | _ => none) : Option ri_X) = some (.inl F') := h
      split at h
      · rename_i x r
        exact lv_if_ne (tgt := a) hx hb hd hok (fun hc => by rw [if_pos hc] at h; cases h; exact (kk H locs ls hP hl hS hn)) (fun hc => by rw [if_neg (fun q => q hc)] at h; cases h; exact (kk H locs ls hP hl hS hn))
      · cases h
    | lt =>
      replace h : ((match (generalizing := false) st with | .int x :: r => if x < 0 then some (.inl (a, lv, r, M, k, n)) else some (.inl (pc + 3, lv, r, M, k, n)) | _ => none) : Option ri_X) = some (.inl F') := h
      split at h
      · rename_i x r
        exact lv_if_lt (tgt := a) hx hb hd hok (fun hc => by rw [if_pos hc] at h; cases h; exact (kk H locs ls hP hl hS hn)) (fun hc => by rw [if_neg hc] at h; cases h; exact (kk H locs ls hP hl hS hn))
      · cases h
    | ge =>
      replace h : ((match (generalizing := false) st with | .int x :: r => if 0 ≤ x then some (.inl (a, lv, r, M, k, n)) else some (.inl (pc + 3, lv, r, M, k, n)) | _ => none) : Option ri_X) = some (.inl F') := h
      split at h
      · rename_i x r
        exact lv_if_ge (tgt := a) hx hb hd hok (fun hc => by rw [if_pos hc] at h; cases h; exact (kk H locs ls hP hl hS hn)) (fun hc => by rw [if_neg hc] at h; cases h; exact (kk H locs ls hP hl hS hn))
      · cases h
    | gt =>
      replace h : ((match (generalizing := false) st with | .int x :: r => if 0 < x then some (.inl (a, lv, r, M, k, n)) else some (.inl (pc + 3, lv, r, M, k, n)) | _ => none) : Option ri_X) = some (.inl F') := h
      split at h
      · rename_i x r
        exact lv_if_gt (tgt := a) hx hb hd hok (fun hc => by rw [if_pos hc] at h; cases h; exact (kk H locs ls hP hl hS hn)) (fun hc => by rw [if_neg hc] at h; cases h; exact (kk H locs ls hP hl hS hn))
      · cases h
    | le =>
      replace h : ((match (generalizing := false) st with | .int x :: r => if x ≤ 0 then some (.inl (a, lv, r, M, k, n)) else some (.inl (pc + 3, lv, r, M, k, n)) | _ => none) : Option ri_X) = some (.inl F') := h
      split at h
      · rename_i x r
        exact lv_if_le (tgt := a) hx hb hd hok (fun hc => by rw [if_pos hc] at h; cases h; exact (kk H locs ls hP hl hS hn)) (fun hc => by rw [if_neg hc] at h; cases h; exact (kk H locs ls hP hl hS hn))
      · cases h
  | if_icmp cd off =>
    cases cd with
    | eq =>
      replace h : ((match (generalizing := false) st with | .int y :: .int x :: r => if x = y then some (.inl (a, lv, r, M, k, n)) else some (.inl (pc + 3, lv, r, M, k, n)) | _ => none) : Option ri_X) = some (.inl F') := h
      split at h
      · rename_i y x r
        exact lv_icmp_eq (tgt := a) hx hb hd hok (fun hc => by rw [if_pos hc] at h; cases h; exact (kk H locs ls hP hl hS hn)) (fun hc => by rw [if_neg hc] at h; cases h; exact (kk H locs ls hP hl hS hn))
      · cases h
    | ne =>
      replace h : ((match (generalizing := false) st with | .int y :: .int x :: r => if ¬ x = y then some (.inl (a, lv, r, M, k, n)) else some (.inl (pc + 3, lv, r, M, k, n)) | _ => none) : Option ri_X) = some (.inl F') := h
      split at h
      · rename_i y x r
        exact lv_icmp_ne (tgt := a) hx hb hd hok (fun hc => by rw [if_pos hc] at h; cases h; exact (kk H locs ls hP hl hS hn)) (fun hc => by rw [if_neg (fun q => q hc)] at h; cases h; exact (kk H locs ls hP hl hS hn))
      · cases h
    | lt =>
      replace h : ((match (generalizing := false) st with | .int y :: .int x :: r => if x < y then some (.inl (a, lv, r, M, k, n)) else some (.inl (pc + 3, lv, r, M, k, n)) | _ => none) : Option ri_X) = some (.inl F') := h
      split at h
      · rename_i y x r
        exact lv_icmp_lt (tgt := a) hx hb hd hok (fun hc => by rw [if_pos hc] at h; cases h; exact (kk H locs ls hP hl hS hn)) (fun hc => by rw [if_neg hc] at h; cases h; exact (kk H locs ls hP hl hS hn))
      · cases h
    | ge =>
      replace h : ((match (generalizing := false) st with | .int y :: .int x :: r => if y ≤ x then some (.inl (a, lv, r, M, k, n)) else some (.inl (pc + 3, lv, r, M, k, n)) | _ => none) : Option ri_X) = some (.inl F') := h
      split at h
      · rename_i y x r
        exact lv_icmp_ge (tgt := a) hx hb hd hok (fun hc => by rw [if_pos hc] at h; cases h; exact (kk H locs ls hP hl hS hn)) (fun hc => by rw [if_neg hc] at h; cases h; exact (kk H locs ls hP hl hS hn))
      · cases h
    | gt =>
      replace h : ((match (generalizing := false) st with | .int y :: .int x :: r => if y < x then some (.inl (a, lv, r, M, k, n)) else some (.inl (pc + 3, lv, r, M, k, n)) | _ => none) : Option ri_X) = some (.inl F') := h
      split at h
      · rename_i y x r
        exact lv_icmp_gt (tgt := a) hx hb hd hok (fun hc => by rw [if_pos hc] at h; cases h; exact (kk H locs ls hP hl hS hn)) (fun hc => by rw [if_neg hc] at h; cases h; exact (kk H locs ls hP hl hS hn))
      · cases h
    | le =>
      replace h : ((match (generalizing := false) st with | .int y :: .int x :: r => if x ≤ y then some (.inl (a, lv, r, M, k, n)) else some (.inl (pc + 3, lv, r, M, k, n)) | _ => none) : Option ri_X) = some (.inl F') := h
      split at h
      · rename_i y x r
        exact lv_icmp_le (tgt := a) hx hb hd hok (fun hc => by rw [if_pos hc] at h; cases h; exact (kk H locs ls hP hl hS hn)) (fun hc => by rw [if_neg hc] at h; cases h; exact (kk H locs ls hP hl hS hn))
      · cases h
  | goto off =>
    cases h
    exact lv_goto hx hb hd hok (kk H locs ls hP hl hS hn)
  | ifnull off =>
    replace h : ((match (generalizing := false) st with | .null :: r => some (.inl (a, lv, r, M, k, n)) | .ref _ :: r => some (.inl (pc + 3, lv, r, M, k, n)) | _ => none) : Option ri_X) = some (.inl F') := h
    split at h
    · rename_i r
      cases h
      exact lv_ifnullN hx hb hd hok (kk H locs ls hP hl hS hn)
    · rename_i x r
      cases h
      exact lv_ifnull hx hb hd (kk H locs ls hP hl hS hn)
    · cases h
  | ifnonnull off =>
    replace h : ((match (generalizing := false) st with | .null :: r => some (.inl (pc + 3, lv, r, M, k, n)) | .ref _ :: r => some (.inl (a, lv, r, M, k, n)) | _ => none) : Option ri_X) = some (.inl F') := h
    split at h
    · rename_i r
      cases h
      exact lv_ifnonnullN hx hb hd (kk H locs ls hP hl hS hn)
    · rename_i x r
      cases h
      exact lv_ifnonnull hx hb hd hok (kk H locs ls hP hl hS hn)
    · cases h
  | tableswitch dflt lo hi offs =>
    replace h : ((match (generalizing := false) st with | .int x :: r => if x.toInt < lo ∨ hi < x.toInt then some (.inl (a, lv, r, M, k, n)) else (match (generalizing := false) offs[(x.toInt - lo).toNat]? with | some off => some (.inl (((pc : Int) + off).toNat, lv, r, M, k, n)) | none => none) | _ => none) : Option ri_X) = some (.inl F') := h
    split at h
    · rename_i x r
      split at h
      · rename_i hc
        cases h
        exact lv_tableOut hx hb hd hc hok.1 (kk H locs ls hP hl hS hn)
      · rename_i hc
        split at h
        · rename_i off heq
          cases h
          exact lv_tableIn hx hb hd (fun q => hc (Or.inl q)) (fun q => hc (Or.inr q)) heq (Int.toNat_of_nonneg (hok.2 off (Array.mem_toList_iff.mpr (Array.mem_of_getElem? heq)))).symm (kk H locs ls hP hl hS hn)
        · cases h
    · cases h
  | getfield idx =>
    replace h : ((match (generalizing := false) st with | .ref q :: r => (match (generalizing := false) M[q]? with | some (.inr (ci, fs)) => if ci = a ∧ q < 1000000 then (match (generalizing := false) fs[b]? with | some v => some (.inl (pc + 3, lv, v :: r, M, k, n)) | none => none) else none | _ => none) | _ => none) : Option ri_X) = some (.inl F') := h
    split at h
    · rename_i q r
      split at h
      · rename_i ci fs heq
        split at h
        · rename_i hc
          obtain ⟨rfl, hq⟩ := hc
          split at h
          · rename_i v hv
            cases h
            obtain ⟨C, T, N, h1, h2, h3, h4⟩ := hok
            show W p l e R s m args below meth c H locs k n Q (F0 m pc ls (.ref (ri_ad bs sa q) :: r.map (ri_v bs sa)))
            rw [ri_ad_lt hq]
            have hv1 : (fs.map (ri_v bs sa))[b]? = some (ri_v bs sa v) := by rw [List.getElem?_map, hv]; rfl
            rcases h4 with h4 | ⟨host, h4⟩
            · exact va_get hx hb hts h3 hown hK hP q (ri_w_get heq) h1 b h2 (hts _ h4) (fun _ h => h) hv1 hd (kk H locs ls hP hl hS hn)
            · exact va_getN hx hb hts h3 hown hK hP q (ri_w_get heq) h1 b h2 (va_Nw.use rfl (hN _ h4)) (fun _ h => h) hv1 hd (kk H locs ls hP hl hS hn)
          · cases h
        · cases h
      · cases h
    · cases h
  | putfield idx =>
    replace h : ((match (generalizing := false) st with | v :: .ref q :: r => (match (generalizing := false) M[q]? with | some (.inr (ci, fs)) => if ci = a ∧ q < 1000000 ∧ b < fs.length ∧ ri_fit d v = true then some (.inl (pc + 3, lv, r, M.set q (.inr (ci, fs.set b v)), k, n)) else none | _ => none) | _ => none) : Option ri_X) = some (.inl F') := h
    split at h
    · rename_i v q r
      split at h
      · rename_i ci fs heq
        split at h
        · rename_i hc
          obtain ⟨rfl, hq, hbl, hft⟩ := hc
          cases h
          obtain ⟨C, T, N, ty, h1, h2, h3, h5, h6, h7, h4⟩ := hok
          obtain ⟨hn1, hf1⟩ := ri_fitS (bs := bs) (sa := sa) h7 hft
          have hbl1 : b < (fs.map (ri_v bs sa)).length := by rw [List.length_map]; exact hbl
          show W p l e R s m args below meth c H locs k n Q (F0 m pc ls (ri_v bs sa v :: .ref (ri_ad bs sa q) :: r.map (ri_v bs sa)))
          rw [ri_ad_lt hq]
          rcases h4 with ⟨h8, h4 | ⟨host, h4⟩⟩ | ⟨h8, h4, h9, h10⟩
          · exact va_put hx hb hts h3 ty h5 h6 hown hK hP hD hS q (ri_w_get heq) h1 b h2 (hts _ h4) (fun _ h => h) h8 (h5 b h2) hn1 hf1 hbl1 hd (fun H1 locs1 hP1 _ hS1 => kk H1 locs1 ls (by rw [ri_w_set]; show va_P D cl ((ri_w bs sa cs M).set q (bs + q, .inr (ci, (fs.set b v).map (ri_v bs sa)))) H1; rw [List.map_set]; exact hP1) hl hS1 (by simpa using hn))
          · exact va_putN hx hb hts h3 ty h5 h6 hown hK hP hD hS q (ri_w_get heq) h1 b h2 (va_Nw.use rfl (hN _ h4)) (fun _ h => h) h8 (h5 b h2) hn1 hf1 hbl1 hd (fun H1 locs1 hP1 _ hS1 => kk H1 locs1 ls (by rw [ri_w_set]; show va_P D cl ((ri_w bs sa cs M).set q (bs + q, .inr (ci, (fs.set b v).map (ri_v bs sa)))) H1; rw [List.map_set]; exact hP1) hl hS1 (by simpa using hn))
          · exact va_putF hx hb hts h3 ty h5 h6 hown hK hP hD hS q (ri_w_get heq) h1 b h2 (hts _ h4) (fun _ h => h) h8 (hnm.trans h9) h10 (h5 b h2) hn1 hf1 hbl1 hd (fun H1 locs1 hP1 _ hS1 => kk H1 locs1 ls (by rw [ri_w_set]; show va_P D cl ((ri_w bs sa cs M).set q (bs + q, .inr (ci, (fs.set b v).map (ri_v bs sa)))) H1; rw [List.map_set]; exact hP1) hl hS1 (by simpa using hn))
        · cases h
      · cases h
    · cases h
  | iaload  =>
    replace h : ((match (generalizing := false) st with | .int i :: .ref q :: r => (match (generalizing := false) M[q]? with | some (.inl (t, .inl xs)) => if t = 0 ∧ q < 1000000 ∧ ¬ i < 0 then (match (generalizing := false) xs[i.toNatClampNeg]? with | some v => some (.inl (pc + 1, lv, .int v :: r, M, k, n)) | none => none) else none | none => if q = 2000000 ∧ ¬ i < 0 then (match (generalizing := false) X with | some xs => (match (generalizing := false) xs[i.toNatClampNeg]? with | some v => some (.inl (pc + 1, lv, .int v :: r, M, k, n)) | none => none) | none => none) else none | _ => none) | _ => none) : Option ri_X) = some (.inl F') := h
    split at h
    · rename_i i q r
      split at h
      · rename_i t xs heq
        split at h
        · rename_i hc
          obtain ⟨rfl, hq, h0⟩ := hc
          split at h
          · rename_i v hv
            cases h
            show W p l e R s m args below meth c H locs k n Q (F0 m pc ls (.int i :: .ref (ri_ad bs sa q) :: r.map (ri_v bs sa)))
            rw [ri_ad_lt hq]
            have ev : xs.getD i.toNatClampNeg 0 = v := ri_gd hv
            refine va_iald hx hb hK hP q 0 (ri_w_get heq) rfl (ri_in h0 (ri_lt hv)) hd ?_
            rw [ev]
            exact (kk H locs ls hP hl hS hn)
          · cases h
        · cases h
      · rename_i heq
        split at h
        · rename_i hc
          obtain ⟨rfl, h0⟩ := hc
          split at h
          · rename_i xs
            split at h
            · rename_i v hv
              cases h
              obtain ⟨hX1, hX2⟩ := hX xs rfl
              have ev : xs.getD i.toNatClampNeg 0 = v := ri_gd hv
              show W p l e R s m args below meth c H locs k n Q (F0 m pc ls (.int i :: .ref (sa 2000000) :: r.map (ri_v bs sa)))
              refine va_sld hx hb hX1 (Nat.lt_of_lt_of_le hX2 hbs) (Nat.not_le.mpr hX2) hS (ri_in h0 (ri_lt hv)) hd ?_
              rw [ev]
              exact (kk H locs ls hP hl hS hn)
            · cases h
          · cases h
        · cases h
      · cases h
    · cases h
  | caload  =>
    replace h : ((match (generalizing := false) st with | .int i :: .ref q :: r => (match (generalizing := false) M[q]? with | some (.inl (t, .inl xs)) => if t = 2 ∧ q < 1000000 ∧ ¬ i < 0 then (match (generalizing := false) xs[i.toNatClampNeg]? with | some v => some (.inl (pc + 1, lv, .int v :: r, M, k, n)) | none => none) else none | _ => none) | _ => none) : Option ri_X) = some (.inl F') := h
    split at h
    · rename_i i q r
      split at h
      · rename_i t xs heq
        split at h
        · rename_i hc
          obtain ⟨rfl, hq, h0⟩ := hc
          split at h
          · rename_i v hv
            cases h
            show W p l e R s m args below meth c H locs k n Q (F0 m pc ls (.int i :: .ref (ri_ad bs sa q) :: r.map (ri_v bs sa)))
            rw [ri_ad_lt hq]
            have ev : xs.getD i.toNatClampNeg 0 = v := ri_gd hv
            refine va_cald hx hb hK hP q 2 (ri_w_get heq) rfl (ri_in h0 (ri_lt hv)) hd ?_
            rw [ev]
            exact (kk H locs ls hP hl hS hn)
          · cases h
        · cases h
      · cases h
    · cases h
  | baload  =>
    replace h : ((match (generalizing := false) st with | .int i :: .ref q :: r => (match (generalizing := false) M[q]? with | some (.inl (t, .inl xs)) => if t = 3 ∧ q < 1000000 ∧ ¬ i < 0 then (match (generalizing := false) xs[i.toNatClampNeg]? with | some v => some (.inl (pc + 1, lv, .int v :: r, M, k, n)) | none => none) else none | _ => none) | _ => none) : Option ri_X) = some (.inl F') := h
    split at h
    · rename_i i q r
      split at h
      · rename_i t xs heq
        split at h
        · rename_i hc
          obtain ⟨rfl, hq, h0⟩ := hc
          split at h
          · rename_i v hv
            cases h
            show W p l e R s m args below meth c H locs k n Q (F0 m pc ls (.int i :: .ref (ri_ad bs sa q) :: r.map (ri_v bs sa)))
            rw [ri_ad_lt hq]
            have ev : xs.getD i.toNatClampNeg 0 = v := ri_gd hv
            refine va_zald hx hb hK hP q 3 (ri_w_get heq) rfl (ri_in h0 (ri_lt hv)) hd ?_
            rw [ev]
            exact (kk H locs ls hP hl hS hn)
          · cases h
        · cases h
      · cases h
    · cases h
  | laload  =>
    replace h : ((match (generalizing := false) st with | .int i :: .ref q :: r => (match (generalizing := false) M[q]? with | some (.inl (t, .inr (.inl xs))) => if t = 1 ∧ q < 1000000 ∧ ¬ i < 0 then (match (generalizing := false) xs[i.toNatClampNeg]? with | some v => some (.inl (pc + 1, lv, .long v :: r, M, k, n)) | none => none) else none | _ => none) | _ => none) : Option ri_X) = some (.inl F') := h
    split at h
    · rename_i i q r
      split at h
      · rename_i t xs heq
        split at h
        · rename_i hc
          obtain ⟨rfl, hq, h0⟩ := hc
          split at h
          · rename_i v hv
            cases h
            show W p l e R s m args below meth c H locs k n Q (F0 m pc ls (.int i :: .ref (ri_ad bs sa q) :: r.map (ri_v bs sa)))
            rw [ri_ad_lt hq]
            have ev : xs.getD i.toNatClampNeg 0 = v := ri_gd hv
            refine va_lald hx hb hK hP q 1 (ri_w_get heq) rfl (ri_in h0 (ri_lt hv)) hd ?_
            rw [ev]
            exact (kk H locs ls hP hl hS hn)
          · cases h
        · cases h
      · cases h
    · cases h
  | aaload  =>
    replace h : ((match (generalizing := false) st with | .int i :: .ref q :: r => (match (generalizing := false) M[q]? with | some (.inl (t, .inr (.inr xs))) => if 4 ≤ t ∧ t < 7 ∧ q < 1000000 ∧ ¬ i < 0 then (match (generalizing := false) xs[i.toNatClampNeg]? with | some v => some (.inl (pc + 1, lv, ri_rv v :: r, M, k, n)) | none => none) else none | _ => none) | _ => none) : Option ri_X) = some (.inl F') := h
    split at h
    · rename_i i q r
      split at h
      · rename_i t xs heq
        split at h
        · rename_i hc
          obtain ⟨t1, t2, hq, h0⟩ := hc
          split at h
          · rename_i v hv
            cases h
            obtain ⟨ty, ht, hrf⟩ := ri_tyR (cs := cs) (PC := PC) t1 t2
            show W p l e R s m args below meth c H locs k n Q (F0 m pc ls (.int i :: .ref (ri_ad bs sa q) :: r.map (ri_v bs sa)))
            rw [ri_ad_lt hq]
            have ev : va_rf ((xs.getD i.toNatClampNeg none).map (ri_ad bs sa)) = ri_v bs sa (ri_rv v) := by rw [ri_gd hv]; exact ri_v_rv bs sa v
            refine W.aald (v := ri_v bs sa (ri_rv v)) (ty := ty) hx hb (hP q _ (ri_w_get heq)) ((hK.2 t _ ht).1 xs.length (fun j => va_rf ((xs.getD j none).map (ri_ad bs sa)))) hrf (fun q => by cases q) (by show ¬ (i < 0 ∨ (arrV _ _ _).slots.size ≤ _); rw [arrV_size]; exact ri_in h0 (ri_lt hv)) (by show (arrV _ _ _).slots[_]? = _; rw [arrV_read _ _ (ri_lt hv), ev]) rfl rfl hd ?_
            exact (kk H locs ls hP hl hS hn)
          · cases h
        · cases h
      · cases h
    · cases h
  | iastore  =>
    replace h : ((match (generalizing := false) st with | .int x :: .int i :: .ref q :: r => (match (generalizing := false) M[q]? with | some (.inl (t, .inl xs)) => if t = 0 ∧ q < 1000000 ∧ ¬ i < 0 ∧ i.toNatClampNeg < xs.length then some (.inl (pc + 1, lv, r, M.set q (.inl (t, .inl (xs.set i.toNatClampNeg x))), k, n)) else none | _ => none) | _ => none) : Option ri_X) = some (.inl F') := h
    split at h
    · rename_i x i q r
      split at h
      · rename_i t xs heq
        split at h
        · rename_i hc
          obtain ⟨rfl, hq, h0, hlt⟩ := hc
          cases h
          show W p l e R s m args below meth c H locs k n Q (F0 m pc ls (.int x :: .int i :: .ref (ri_ad bs sa q) :: r.map (ri_v bs sa)))
          rw [ri_ad_lt hq]
          refine va_iast hx hb hK hP hD hS q 0 (ri_w_get heq) rfl (ri_in h0 hlt) hd (fun H1 locs1 hP1 _ hS1 => kk H1 locs1 ls ?_ hl hS1 (by simpa using hn))
          rw [ri_upd hlt] at hP1
          rw [ri_w_set]
          have ee : ri_e bs sa cs (.inl (0, .inl (xs.set i.toNatClampNeg x))) = .inl (cs 0, xs.length, .inl (fun j => (xs.set i.toNatClampNeg x).getD j 0)) := by simp only [ri_e, List.length_set]
          rw [ee]
          exact hP1
        · cases h
      · cases h
    · cases h
  | castore  =>
    replace h : ((match (generalizing := false) st with | .int x :: .int i :: .ref q :: r => (match (generalizing := false) M[q]? with | some (.inl (t, .inl xs)) => if t = 2 ∧ q < 1000000 ∧ ¬ i < 0 ∧ i.toNatClampNeg < xs.length then some (.inl (pc + 1, lv, r, M.set q (.inl (t, .inl (xs.set i.toNatClampNeg (vp_nar .char x)))), k, n)) else none | _ => none) | _ => none) : Option ri_X) = some (.inl F') := h
    split at h
    · rename_i x i q r
      split at h
      · rename_i t xs heq
        split at h
        · rename_i hc
          obtain ⟨rfl, hq, h0, hlt⟩ := hc
          cases h
          show W p l e R s m args below meth c H locs k n Q (F0 m pc ls (.int x :: .int i :: .ref (ri_ad bs sa q) :: r.map (ri_v bs sa)))
          rw [ri_ad_lt hq]
          refine va_cast hx hb hK hP hD hS q 2 (ri_w_get heq) rfl (ri_in h0 hlt) hd (fun H1 locs1 hP1 _ hS1 => kk H1 locs1 ls ?_ hl hS1 (by simpa using hn))
          rw [ri_upd hlt] at hP1
          rw [ri_w_set]
          have ee : ri_e bs sa cs (.inl (2, .inl (xs.set i.toNatClampNeg (vp_nar .char x)))) = .inl (cs 2, xs.length, .inl (fun j => (xs.set i.toNatClampNeg (vp_nar .char x)).getD j 0)) := by simp only [ri_e, List.length_set]
          rw [ee]
          exact hP1
        · cases h
      · cases h
    · cases h
  | bastore  =>
    replace h : ((match (generalizing := false) st with | .int x :: .int i :: .ref q :: r => (match (generalizing := false) M[q]? with | some (.inl (t, .inl xs)) => if t = 3 ∧ q < 1000000 ∧ ¬ i < 0 ∧ i.toNatClampNeg < xs.length then some (.inl (pc + 1, lv, r, M.set q (.inl (t, .inl (xs.set i.toNatClampNeg (vp_nar .boolean x)))), k, n)) else none | _ => none) | _ => none) : Option ri_X) = some (.inl F') := h
    split at h
    · rename_i x i q r
      split at h
      · rename_i t xs heq
        split at h
        · rename_i hc
          obtain ⟨rfl, hq, h0, hlt⟩ := hc
          cases h
          show W p l e R s m args below meth c H locs k n Q (F0 m pc ls (.int x :: .int i :: .ref (ri_ad bs sa q) :: r.map (ri_v bs sa)))
          rw [ri_ad_lt hq]
          refine va_zast hx hb hK hP hD hS q 3 (ri_w_get heq) rfl (ri_in h0 hlt) hd (fun H1 locs1 hP1 _ hS1 => kk H1 locs1 ls ?_ hl hS1 (by simpa using hn))
          rw [ri_upd hlt] at hP1
          rw [ri_w_set]
          have ee : ri_e bs sa cs (.inl (3, .inl (xs.set i.toNatClampNeg (vp_nar .boolean x)))) = .inl (cs 3, xs.length, .inl (fun j => (xs.set i.toNatClampNeg (vp_nar .boolean x)).getD j 0)) := by simp only [ri_e, List.length_set]
          rw [ee]
          exact hP1
        · cases h
      · cases h
    · cases h
  | lastore  =>
    replace h : ((match (generalizing := false) st with | .long x :: .int i :: .ref q :: r => (match (generalizing := false) M[q]? with | some (.inl (t, .inr (.inl xs))) => if t = 1 ∧ q < 1000000 ∧ ¬ i < 0 ∧ i.toNatClampNeg < xs.length then some (.inl (pc + 1, lv, r, M.set q (.inl (t, .inr (.inl (xs.set i.toNatClampNeg x)))), k, n)) else none | _ => none) | _ => none) : Option ri_X) = some (.inl F') := h
    split at h
    · rename_i x i q r
      split at h
      · rename_i t xs heq
        split at h
        · rename_i hc
          obtain ⟨rfl, hq, h0, hlt⟩ := hc
          cases h
          show W p l e R s m args below meth c H locs k n Q (F0 m pc ls (.long x :: .int i :: .ref (ri_ad bs sa q) :: r.map (ri_v bs sa)))
          rw [ri_ad_lt hq]
          refine va_last hx hb hK hP hD hS q 1 (ri_w_get heq) rfl (ri_in h0 hlt) hd (fun H1 locs1 hP1 _ hS1 => kk H1 locs1 ls ?_ hl hS1 (by simpa using hn))
          rw [ri_updL hlt] at hP1
          rw [ri_w_set]
          have ee : ri_e bs sa cs (.inl (1, .inr (.inl (xs.set i.toNatClampNeg x)))) = .inl (cs 1, xs.length, .inr (.inl (fun j => (xs.set i.toNatClampNeg x).getD j 0))) := by simp only [ri_e, List.length_set]
          rw [ee]
          exact hP1
        · cases h
      · cases h
    · cases h
  | aastore  =>
    replace h : ((match (generalizing := false) st with | .ref x :: .int i :: .ref q :: r => (match (generalizing := false) M[q]?, M[x]? with | some (.inl (t, .inr (.inr xs))), some (.inr (ci, _)) => if t = 6 ∧ ci = a ∧ q < 1000000 ∧ x < 1000000 ∧ ¬ i < 0 ∧ i.toNatClampNeg < xs.length then some (.inl (pc + 1, lv, r, M.set q (.inl (t, .inr (.inr (xs.set i.toNatClampNeg (some x))))), k, n)) else none | _, _ => none) | _ => none) : Option ri_X) = some (.inl F') := h
    split at h
    · rename_i x i q r
      split at h
      · rename_i t xs ci fs heq1 heq2
        split at h
        · rename_i hc
          obtain ⟨rfl, rfl, hq, hxl, h0, hlt⟩ := hc
          cases h
          obtain ⟨rr, hr1, hr2⟩ := hok
          subst hr2
          show W p l e R s m args below meth c H locs k n Q (F0 m pc ls (.ref (ri_ad bs sa x) :: .int i :: .ref (ri_ad bs sa q) :: r.map (ri_v bs sa)))
          have hw2 := ri_w_get (bs := bs) (sa := sa) (cs := cs) heq2
          rw [← ri_ad_lt (bs := bs) (sa := sa) hxl] at hw2
          rw [ri_ad_lt (q := q) hq]
          refine va_astq hx hb hK hP hD hS q 6 x ci (ri_w_get heq1) rfl hw2 hr1 (ri_in h0 hlt) hd (fun H1 locs1 hP1 _ hS1 => kk H1 locs1 ls ?_ hl hS1 (by simpa using hn))
          rw [ri_updq hlt] at hP1
          rw [ri_w_set]
          have ee : ri_e bs sa cs (.inl (6, .inr (.inr (xs.set i.toNatClampNeg (some x))))) = .inl (cs 6, xs.length, .inr (.inr (.inr (.inr (fun j => ((xs.set i.toNatClampNeg (some x)).getD j none).map (ri_ad bs sa)))))) := by simp only [ri_e, List.length_set]
          rw [ee]
          exact hP1
        · cases h
      · cases h
    · cases h
  | arraylength  =>
    replace h : ((match (generalizing := false) st with | .ref q :: r => if q = 2000000 then (match (generalizing := false) X with | some xs => some (.inl (pc + 1, lv, .int (Int32.ofNat xs.length) :: r, M, k, n)) | none => none) else (match (generalizing := false) M[q]? with | some (.inl (t, .inl xs)) => if t < 4 ∧ q < 1000000 then some (.inl (pc + 1, lv, .int (Int32.ofNat xs.length) :: r, M, k, n)) else none | some (.inl (t, .inr (.inl xs))) => if t < 4 ∧ q < 1000000 then some (.inl (pc + 1, lv, .int (Int32.ofNat xs.length) :: r, M, k, n)) else none | _ => none) | _ => none) : Option ri_X) = some (.inl F') := h
    split at h
    · rename_i q r
      split at h
      · rename_i hc
        subst hc
        split at h
        · rename_i xs
          cases h
          obtain ⟨hX1, hX2⟩ := hX xs rfl
          show W p l e R s m args below meth c H locs k n Q (F0 m pc ls (.ref (sa 2000000) :: r.map (ri_v bs sa)))
          exact va_slen hx hb hX1 (Nat.lt_of_lt_of_le hX2 hbs) (Nat.not_le.mpr hX2) hS hd (kk H locs ls hP hl hS hn)
        · cases h
      · split at h
        · rename_i t xs heq
          split at h
          · rename_i hc
            cases h
            obtain ⟨ty, ht⟩ := ri_tyS hK hc.1
            show W p l e R s m args below meth c H locs k n Q (F0 m pc ls (.ref (ri_ad bs sa q) :: r.map (ri_v bs sa)))
            rw [ri_ad_lt hc.2]
            exact va_alen hx hb hK hP q t (ri_w_get heq) ht rfl hd (kk H locs ls hP hl hS hn)
          · cases h
        · rename_i t xs heq
          split at h
          · rename_i hc
            cases h
            obtain ⟨ty, ht⟩ := ri_tyS hK hc.1
            show W p l e R s m args below meth c H locs k n Q (F0 m pc ls (.ref (ri_ad bs sa q) :: r.map (ri_v bs sa)))
            rw [ri_ad_lt hc.2]
            exact va_alen hx hb hK hP q t (ri_w_get heq) ht rfl hd (kk H locs ls hP hl hS hn)
          · cases h
        · cases h
    · cases h
  | new idx =>
    replace h : ((match (generalizing := false) Fd[a]? with | some fs => if M.length < 1000000 then some (.inl (pc + 3, lv, .ref M.length :: st, M ++ [.inr (a, fs)], k + 1, n + fs.length)) else none | none => none) : Option ri_X) = some (.inl F') := h
    split at h
    · rename_i fs hfs
      split at h
      · rename_i hc
        cases h
        obtain ⟨C, T, N, ty, fs1, h1, h3, h5, h6, h7, h8, h9, h10, h11, h12⟩ := hok
        cases hfs.symm.trans h9
        subst h10
        refine ri_sz hP hS hbs hn (fun hz => ?_)
        have hKn := hK.1 a _ h1
        refine W.newcK hx hb hown (hts _ h6) (hts _ h7) (hts _ h8) rfl hd hk.1 hk.2 hKn.2.1 hz fun H1 kC hkC e1 z1 o1 => ?_
        have e2 : (ri_v bs sa (.ref M.length)) = .ref (bs + M.length) := by show Value.ref (ri_ad bs sa M.length) = _; rw [ri_ad_lt hc]
        have hid : fs.map (ri_v bs sa) = fs := by
          have hh : ∀ v ∈ fs, ri_v bs sa v = id v := fun v hv => by
            have h13 := h12 v hv
            cases v with
            | ref q => exact absurd rfl (h13 q)
            | _ => rfl
          rw [List.map_congr_left hh, List.map_id]
        have hk2 := kk H1 locs ls (ri_pushP hP hz (by rw [hz]; exact o1) (by show ∃ r : vw_C, _; rw [hid]; exact ⟨_, h1, by rw [hz]; exact (u_born ty hts h3 hKn hkC e1 h5).to h11⟩)) hl (ri_pushS hS (by rw [hz, z1]; omega) (by rw [hz]; exact o1)) (by simp; omega)
        have hk3 : W p l e R s m args below meth c H1 locs (k + 1) (n + fs.length) Q (F0 m (pc + 3) ls (ri_v bs sa (.ref M.length) :: st.map (ri_v bs sa))) := hk2
        rw [e2] at hk3
        exact hk3
      · cases h
    · cases h
  | newarray at0 =>
    replace h : ((match (generalizing := false) st with | .int x :: r => if x < 0 ∨ 1000000 ≤ M.length ∨ 60000 < x.toNatClampNeg then none else if a = 1 then some (.inl (pc + 2, lv, .ref M.length :: r, M ++ [.inl (1, .inr (.inl (List.replicate x.toNatClampNeg 0)))], k + 1, n + x.toNatClampNeg)) else some (.inl (pc + 2, lv, .ref M.length :: r, M ++ [.inl (a, .inl (List.replicate x.toNatClampNeg 0))], k + 1, n + x.toNatClampNeg)) | _ => none) : Option ri_X) = some (.inl F') := h
    split at h
    · rename_i x r
      split at h
      · cases h
      · rename_i hc
        have h0 : ¬ x < 0 := fun q => hc (Or.inl q)
        have hm : M.length < 1000000 := Nat.not_le.mp fun q => hc (Or.inr (Or.inl q))
        have hxn : x.toNatClampNeg ≤ 60000 := Nat.not_lt.mp fun q => hc (Or.inr (Or.inr q))
        have e2 : (ri_v bs sa (.ref M.length)) = .ref (bs + M.length) := by show Value.ref (ri_ad bs sa M.length) = _; rw [ri_ad_lt hm]
        refine ri_sz hP hS hbs hn (fun hz => ?_)
        rcases hok with ⟨rfl, rfl, hw⟩ | ⟨rfl, rfl, hw⟩ | ⟨rfl, rfl, hw⟩ | ⟨rfl, rfl, hw⟩
        · rw [if_neg (by decide)] at h
          cases h
          refine va_newaK (atype := .int) hx hb (hts _ hw) rfl hd rfl h0 rfl (by show _ * 4 ≤ _; omega) hk.1 hk.2 hz fun H1 cA e1 z1 o1 hAr hNm => ?_
          have ec : cA = cs 0 := Option.some.inj (hNm.symm.trans (hK.2 0 _ rfl).2)
          subst ec
          have hk2 := kk H1 locs ls (ri_pushP hP hz (by rw [hz]; exact o1) (by rw [ri_cellI]; show H1[H.size]? = some (vp_cell _ _); rw [hz]; exact e1)) hl (ri_pushS hS (by rw [hz, z1]; omega) (by rw [hz]; exact o1)) (by simp; omega)
          have hk3 : W p l e R s m args below meth c H1 locs (k + 1) (n + x.toNatClampNeg) Q (F0 m (pc + 2) ls (ri_v bs sa (.ref M.length) :: r.map (ri_v bs sa))) := hk2
          rw [e2] at hk3
          exact hk3
        · rw [if_pos (by decide)] at h
          cases h
          refine va_newaK (atype := .long) hx hb (hts _ hw) rfl hd rfl h0 rfl (by show _ * 8 ≤ _; omega) hk.1 hk.2 hz fun H1 cA e1 z1 o1 hAr hNm => ?_
          have ec : cA = cs 1 := Option.some.inj (hNm.symm.trans (hK.2 1 _ rfl).2)
          subst ec
          have hk2 := kk H1 locs ls (ri_pushP hP hz (by rw [hz]; exact o1) (by rw [ri_cellL]; show H1[H.size]? = some (vp_cell _ _); rw [hz]; exact e1)) hl (ri_pushS hS (by rw [hz, z1]; omega) (by rw [hz]; exact o1)) (by simp; omega)
          have hk3 : W p l e R s m args below meth c H1 locs (k + 1) (n + x.toNatClampNeg) Q (F0 m (pc + 2) ls (ri_v bs sa (.ref M.length) :: r.map (ri_v bs sa))) := hk2
          rw [e2] at hk3
          exact hk3
        · rw [if_neg (by decide)] at h
          cases h
          refine va_newaK (atype := .char) hx hb (hts _ hw) rfl hd rfl h0 rfl (by show _ * 2 ≤ _; omega) hk.1 hk.2 hz fun H1 cA e1 z1 o1 hAr hNm => ?_
          have ec : cA = cs 2 := Option.some.inj (hNm.symm.trans (hK.2 2 _ rfl).2)
          subst ec
          have hk2 := kk H1 locs ls (ri_pushP hP hz (by rw [hz]; exact o1) (by rw [ri_cellI]; show H1[H.size]? = some (vp_cell _ _); rw [hz]; exact e1)) hl (ri_pushS hS (by rw [hz, z1]; omega) (by rw [hz]; exact o1)) (by simp; omega)
          have hk3 : W p l e R s m args below meth c H1 locs (k + 1) (n + x.toNatClampNeg) Q (F0 m (pc + 2) ls (ri_v bs sa (.ref M.length) :: r.map (ri_v bs sa))) := hk2
          rw [e2] at hk3
          exact hk3
        · rw [if_neg (by decide)] at h
          cases h
          refine va_newaK (atype := .boolean) hx hb (hts _ hw) rfl hd rfl h0 rfl (by show _ * 1 ≤ _; omega) hk.1 hk.2 hz fun H1 cA e1 z1 o1 hAr hNm => ?_
          have ec : cA = cs 3 := Option.some.inj (hNm.symm.trans (hK.2 3 _ rfl).2)
          subst ec
          have hk2 := kk H1 locs ls (ri_pushP hP hz (by rw [hz]; exact o1) (by rw [ri_cellI]; show H1[H.size]? = some (vp_cell _ _); rw [hz]; exact e1)) hl (ri_pushS hS (by rw [hz, z1]; omega) (by rw [hz]; exact o1)) (by simp; omega)
          have hk3 : W p l e R s m args below meth c H1 locs (k + 1) (n + x.toNatClampNeg) Q (F0 m (pc + 2) ls (ri_v bs sa (.ref M.length) :: r.map (ri_v bs sa))) := hk2
          rw [e2] at hk3
          exact hk3
    · cases h
  | anewarray idx =>
    replace h : ((match (generalizing := false) st with | .int x :: r => if x < 0 ∨ 1000000 ≤ M.length ∨ 60000 < x.toNatClampNeg then none else some (.inl (pc + 3, lv, .ref M.length :: r, M ++ [.inl (6, .inr (.inr (List.replicate x.toNatClampNeg none)))], k + 1, n + x.toNatClampNeg)) | _ => none) : Option ri_X) = some (.inl F') := h
    split at h
    · rename_i x r
      split at h
      · cases h
      · rename_i hc
        cases h
        have h0 : ¬ x < 0 := fun q => hc (Or.inl q)
        have hm : M.length < 1000000 := Nat.not_le.mp fun q => hc (Or.inr (Or.inl q))
        have hxn : x.toNatClampNeg ≤ 60000 := Nat.not_lt.mp fun q => hc (Or.inr (Or.inr q))
        have e2 : (ri_v bs sa (.ref M.length)) = .ref (bs + M.length) := by show Value.ref (ri_ad bs sa M.length) = _; rw [ri_ad_lt hm]
        refine ri_sz hP hS hbs hn (fun hz => ?_)
        refine W.anew hx hb hown (hts _ hok.1) (hN _ hok.2) rfl hd rfl h0 (by omega) hk.1 hk.2 fun cA kA comp g1 g2 g3 g4 => ?_
        obtain ⟨kA2, comp2, k1, k2, k3, k4⟩ := (hK.2 6 _ rfl).2
        have ec : cA = cs 6 := Option.some.inj (g1.symm.trans k4)
        subst ec
        have o1 : ∀ q, q < H.size → (H.push { cls := cs 6, slots := Array.replicate x.toNatClampNeg .null, vm := .none })[q]? = H[q]? := fun q hq => by rw [Array.getElem?_push, if_neg (Nat.ne_of_lt hq)]
        have hk2 := kk (H.push { cls := cs 6, slots := Array.replicate x.toNatClampNeg .null, vm := .none }) locs ls (ri_pushP hP hz o1 (by rw [ri_cellQ]; show (H.push _)[H.size]? = some (vp_cell _ _); rw [arrV_new, Array.getElem?_push, if_pos rfl]; rfl)) hl (ri_pushS hS (by simp) o1) (by simp; omega)
        have hk3 : W p l e R s m args below meth c (H.push { cls := cs 6, slots := Array.replicate x.toNatClampNeg .null, vm := .none }) locs (k + 1) (n + x.toNatClampNeg) Q (F0 m (pc + 3) ls (ri_v bs sa (.ref M.length) :: r.map (ri_v bs sa))) := hk2
        rw [e2, ← hz] at hk3
        exact hk3
    · cases h
  | multianewarray idx dm =>
    replace h : ((match (generalizing := false) st with | .int y :: .int x :: r => if x < 0 ∨ y < 0 ∨ 900000 ≤ M.length ∨ 60000 < x.toNatClampNeg ∨ 60000 < y.toNatClampNeg then none else some (.inl (pc + 4, lv, .ref M.length :: r, M ++ ((.inl (a, .inr (.inr ((List.range x.toNatClampNeg).map (fun i => some (M.length + 1 + i)))))) :: List.replicate x.toNatClampNeg (ri_row b y.toNatClampNeg)), k + 1 + x.toNatClampNeg, n + x.toNatClampNeg + x.toNatClampNeg * y.toNatClampNeg)) | _ => none) : Option ri_X) = some (.inl F') := h
    split at h
    · rename_i y x r
      split at h
      · cases h
      · rename_i hc
        cases h
        have h0 : ¬ x < 0 := fun q => hc (Or.inl q)
        have h0y : ¬ y < 0 := fun q => hc (Or.inr (Or.inl q))
        have hm : M.length < 900000 := Nat.not_le.mp fun q => hc (Or.inr (Or.inr (Or.inl q)))
        have hxn : x.toNatClampNeg ≤ 60000 := Nat.not_lt.mp fun q => hc (Or.inr (Or.inr (Or.inr (Or.inl q))))
        have hyn : y.toNatClampNeg ≤ 60000 := Nat.not_lt.mp fun q => hc (Or.inr (Or.inr (Or.inr (Or.inr q))))
        have e2 : (ri_v bs sa (.ref M.length)) = .ref (bs + M.length) := by show Value.ref (ri_ad bs sa M.length) = _; rw [ri_ad_lt (by omega)]
        refine ri_sz hP hS hbs hn (fun hz => ?_)
        obtain ⟨rfl, hok⟩ := hok
        rcases hok with ⟨rfl, rfl, g1, g2, g3⟩ | ⟨rfl, rfl, g1, g2, g3⟩
        · refine ri_mna (a := 4) (b := 0) (ty := .int) hx hb hown (hts _ g1) (hN _ g2) (hts _ g3) (hK.2 4 _ rfl).2 (hK.2 0 _ rfl).2 h0 h0y hxn hyn (by decide) (by decide) (by decide) (fun N => by rw [ri_rowE]) (fun N => by show ({ cls := _, slots := _, vm := .none } : Cell) = _; rw [arrV_new]; rfl) hP hS hz hm hk.1 hk.2 hd (fun H1 hP1 hS1 => ?_)
          have hk2 := kk H1 locs ls hP1 hl hS1 (by simp; omega)
          have hk3 : W p l e R s m args below meth c H1 locs (k + 1 + x.toNatClampNeg) (n + x.toNatClampNeg + x.toNatClampNeg * y.toNatClampNeg) Q (F0 m (pc + 4) ls (ri_v bs sa (.ref M.length) :: r.map (ri_v bs sa))) := hk2
          rw [e2] at hk3
          exact hk3
        · refine ri_mna (a := 5) (b := 1) (ty := .long) hx hb hown (hts _ g1) (hN _ g2) (hts _ g3) (hK.2 5 _ rfl).2 (hK.2 1 _ rfl).2 h0 h0y hxn hyn (by decide) (by decide) (by decide) (fun N => by rw [ri_rowE]) (fun N => by show ({ cls := _, slots := _, vm := .none } : Cell) = _; rw [arrV_new]; rfl) hP hS hz hm hk.1 hk.2 hd (fun H1 hP1 hS1 => ?_)
          have hk2 := kk H1 locs ls hP1 hl hS1 (by simp; omega)
          have hk3 : W p l e R s m args below meth c H1 locs (k + 1 + x.toNatClampNeg) (n + x.toNatClampNeg + x.toNatClampNeg * y.toNatClampNeg) Q (F0 m (pc + 4) ls (ri_v bs sa (.ref M.length) :: r.map (ri_v bs sa))) := hk2
          rw [e2] at hk3
          exact hk3
    · cases h
  | invokespecial idx =>
    replace h : (if c0 = 2 then (match (generalizing := false) st with | [.ref q] => some (.inl (pc + 3, lv, [], M, k, n)) | _ => none) else if c0 = 5 then none else ri_cl a b (pc + 3) lv st M k n 1 d : Option ri_X) = some (.inl F') := h
    split at h
    · rename_i hc
      split at h
      · rename_i q
        cases h
        obtain ⟨g1, g2, g3⟩ := hok hc
        exact W.objInit hx hb hown (hts _ g1) (hts _ g2) (hts _ g3) rfl (hl.1.trans hml.symm) (rest := []) rfl hd hRf (by show 0 + 0 + 12 ≤ _; omega) (kk H locs ls hP hl hS hn)
      · cases h
    · split at h
      · cases h
      · exact absurd h (ri_cl_ne)
  | invokevirtual idx =>
    replace h : (if c0 = 9 then none else ri_cl a b (pc + 3) lv st M k n 2 d : Option ri_X) = some (.inl F') := h
    split at h
    · cases h
    · exact absurd h ri_cl_ne
  | invokestatic idx =>
    replace h : (if c0 = 4 then (match (generalizing := false) st with | [.int z, .int dp, .ref q1, .int sp, .ref q0] => (match (generalizing := false) M[q0]?, M[q1]? with | some (.inl (t0, .inl xs)), some (.inl (t1, .inl ys)) => if t0 = 0 ∧ t1 = 0 ∧ q0 < 1000000 ∧ q1 < 1000000 ∧ ¬ sp < 0 ∧ ¬ dp < 0 ∧ ¬ z < 0 ∧ sp.toNatClampNeg + z.toNatClampNeg ≤ xs.length ∧ dp.toNatClampNeg + z.toNatClampNeg ≤ ys.length then some (.inl (pc + 3, lv, [], M.set q1 (.inl (t1, .inl (ri_cpy xs ys sp.toNatClampNeg dp.toNatClampNeg z.toNatClampNeg))), k, n)) else none | _, _ => none) | _ => none) else if c0 = 6 then (match (generalizing := false) st with | .int y :: .int x :: r => if (r.map (fun v => v.category)).sum ≤ 8 then some (.inl (pc + 3, lv, .int (if x < y then y else x) :: r, M, k, n)) else none | _ => none) else if c0 = 7 then (match (generalizing := false) st with | .int y :: .int x :: r => if (r.map (fun v => v.category)).sum ≤ 8 then some (.inl (pc + 3, lv, .int (if y < x then y else x) :: r, M, k, n)) else none | _ => none) else if c0 = 8 then (match (generalizing := false) st with | .long y :: .long x :: r => if (r.map (fun v => v.category)).sum ≤ 8 then some (.inl (pc + 3, lv, .long (if y < x then x else y) :: r, M, k, n)) else none | _ => none) else ri_cl a b (pc + 3) lv st M k n 0 d : Option ri_X) = some (.inl F') := h
    split at h
    · rename_i hc4
      split at h
      · rename_i z dp q1 sp q0
        split at h
        · rename_i t0 xs t1 ys heq0 heq1
          split at h
          · rename_i hc
            obtain ⟨rfl, rfl, hq0, hq1, g1, g2, g3, g4, g5⟩ := hc
            cases h
            obtain ⟨w1, w2, w3, w4⟩ := hok.1 hc4
            show W p l e R s m args below meth c H locs k n Q (F0 m pc ls [.int z, .int dp, .ref (ri_ad bs sa q1), .int sp, .ref (ri_ad bs sa q0)])
            rw [ri_ad_lt hq0, ri_ad_lt hq1]
            refine va_copyi hx hb (hml.trans hl.1.symm) hown (hts _ w1) (hts _ w2) (hts _ w3) (hts _ w4) hK hP hD hS q0 q1 0 0 (ri_w_get heq0) (ri_w_get heq1) rfl rfl rfl g1 g2 g3 g4 g5 (fun _ _ => rfl) hRf (by show 0 + _ ≤ _; exact Nat.le_trans (by decide) hRl) hd (fun H1 locs1 hP1 _ hS1 => kk H1 locs1 ls ?_ hl hS1 (by simpa using hn))
            rw [ri_cpyS g4 g5] at hP1
            rw [ri_w_set]
            have ee : ri_e bs sa cs (.inl (0, .inl (ri_cpy xs ys sp.toNatClampNeg dp.toNatClampNeg z.toNatClampNeg))) = .inl (cs 0, ys.length, .inl (fun j => (ri_cpy xs ys sp.toNatClampNeg dp.toNatClampNeg z.toNatClampNeg).getD j 0)) := by simp only [ri_e, ri_cpy_len g4 g5]
            rw [ee]
            exact hP1
          · cases h
        · cases h
      · cases h
    · split at h
      · rename_i hcc
        split at h
        · rename_i y x r
          split at h
          · rename_i hcat
            cases h
            obtain ⟨w1, w2, w3, w4⟩ := hok.2.1 hcc
            exact va_mmax hx hb (hml.trans hl.1.symm) hown (hts _ w1) (hts _ w2) (hts _ w3) (hts _ w4) hRf (by rw [ri_catm]; omega) hk.1 hk.2 hd (kk H locs ls hP hl hS hn)
          · cases h
        · cases h
      · split at h
        · rename_i hcc
          split at h
          · rename_i y x r
            split at h
            · rename_i hcat
              cases h
              obtain ⟨w1, w2, w3, w4⟩ := hok.2.2.1 hcc
              exact va_mmin hx hb (hml.trans hl.1.symm) hown (hts _ w1) (hts _ w2) (hts _ w3) (hts _ w4) hRf (by rw [ri_catm]; omega) hk.1 hk.2 hd (kk H locs ls hP hl hS hn)
            · cases h
          · cases h
        · split at h
          · rename_i hcc
            split at h
            · rename_i y x r
              split at h
              · rename_i hcat
                cases h
                obtain ⟨w1, w2, w3, w4⟩ := hok.2.2.2 hcc
                exact va_mmax_long hx hb (hml.trans hl.1.symm) hown (hts _ w1) (hts _ w2) (hts _ w3) (hts _ w4) hRf (by rw [ri_catm]; omega) hk.1 hk.2 hd (kk H locs ls hP hl hS hn)
              · cases h
            · cases h
          · exact absurd h ri_cl_ne
  | ireturn  =>
    replace h : ((match (generalizing := false) st with | [.int x] => if rk = 1 then some (.inr (.inr (some (.int x)))) else if rk = 4 ∧ (x = 0 ∨ x = 1) then some (.inr (.inr (some (.int x)))) else none | _ => none) : Option ri_X) = some (.inl F') := h
    (repeat' split at h) <;> cases h
  | lreturn  =>
    replace h : ((match (generalizing := false) st with | [.long x] => if rk = 2 then some (.inr (.inr (some (.long x)))) else none | _ => none) : Option ri_X) = some (.inl F') := h
    (repeat' split at h) <;> cases h
  | areturn  =>
    replace h : ((match (generalizing := false) st with | [.ref x] => if rk = 3 then some (.inr (.inr (some (.ref x)))) else none | [.null] => if rk = 3 then some (.inr (.inr (some .null))) else none | _ => none) : Option ri_X) = some (.inl F') := h
    (repeat' split at h) <;> cases h
  | return_  =>
    replace h : ((match (generalizing := false) st with | [] => if rk = 0 then some (.inr (.inr none)) else none | _ => none) : Option ri_X) = some (.inl F') := h
    (repeat' split at h) <;> cases h
  | _ =>
    have h0 : (none : Option ri_X) = some (.inl F') := h
    cases h0
end RIS
end
section
/-! ===== which instructions go on, call, return ===== -/
theorem ri_cl_nr {y n0 pc : Nat} {lv : ri_L} {st : List Value} {M : ri_M} {k n how d : Nat} {v : Option Value} : ¬ ri_cl y n0 pc lv st M k n how d = some (.inr (.inr v)) := by
  intro h
  unfold ri_cl at h
  (repeat' split at h) <;> cases h
set_option maxRecDepth 100000 in
set_option maxHeartbeats 40000000 in
theorem ri_step_mono {X : Option (List Int32)} {Fd : List (List Value)} {rk : Nat} {ins : Instr} {a b c0 d pc : Nat} {lv : ri_L} {st : List Value} {M : ri_M} {k n : Nat} {F' : ri_F} (h : ri_step X Fd rk (ins, a, b, c0, d) (pc, lv, st, M, k, n) = some (.inl F')) : k ≤ F'.2.2.2.2.1 ∧ n ≤ F'.2.2.2.2.2 := by
  cases ins with
  | iconst v =>
    replace h : (some (.inl (pc + 1, lv, .int (Int32.ofInt v) :: st, M, k, n)) : Option ri_X) = some (.inl F') := h
    (repeat' split at h) <;> first | (cases h; done) | (cases h; exact ⟨Nat.le_refl _, Nat.le_refl _⟩) | (cases h; exact ⟨by dsimp only; omega, by dsimp only; omega⟩)
  | bipush v =>
    replace h : (some (.inl (pc + 2, lv, .int (Int8.ofInt v).toInt32 :: st, M, k, n)) : Option ri_X) = some (.inl F') := h
    (repeat' split at h) <;> first | (cases h; done) | (cases h; exact ⟨Nat.le_refl _, Nat.le_refl _⟩) | (cases h; exact ⟨by dsimp only; omega, by dsimp only; omega⟩)
  | sipush v =>
    replace h : (some (.inl (pc + 3, lv, .int (Int16.ofInt v).toInt32 :: st, M, k, n)) : Option ri_X) = some (.inl F') := h
    (repeat' split at h) <;> first | (cases h; done) | (cases h; exact ⟨Nat.le_refl _, Nat.le_refl _⟩) | (cases h; exact ⟨by dsimp only; omega, by dsimp only; omega⟩)
  | lconst v =>
    replace h : (some (.inl (pc + 1, lv, .long (Int64.ofNat (v : Nat)) :: st, M, k, n)) : Option ri_X) = some (.inl F') := h
    (repeat' split at h) <;> first | (cases h; done) | (cases h; exact ⟨Nat.le_refl _, Nat.le_refl _⟩) | (cases h; exact ⟨by dsimp only; omega, by dsimp only; omega⟩)
  | aconst_null  =>
    replace h : (some (.inl (pc + 1, lv, .null :: st, M, k, n)) : Option ri_X) = some (.inl F') := h
    (repeat' split at h) <;> first | (cases h; done) | (cases h; exact ⟨Nat.le_refl _, Nat.le_refl _⟩) | (cases h; exact ⟨by dsimp only; omega, by dsimp only; omega⟩)
  | ldc u0 =>
    replace h : (if c0 = 0 then some (.inl (pc + 2, lv, .int (Int32.ofNat a) :: st, M, k, n)) else none : Option ri_X) = some (.inl F') := h
    (repeat' split at h) <;> first | (cases h; done) | (cases h; exact ⟨Nat.le_refl _, Nat.le_refl _⟩) | (cases h; exact ⟨by dsimp only; omega, by dsimp only; omega⟩)
  | ldc_w u0 =>
    replace h : (if c0 = 0 then some (.inl (pc + 3, lv, .int (Int32.ofNat a) :: st, M, k, n)) else none : Option ri_X) = some (.inl F') := h
    (repeat' split at h) <;> first | (cases h; done) | (cases h; exact ⟨Nat.le_refl _, Nat.le_refl _⟩) | (cases h; exact ⟨by dsimp only; omega, by dsimp only; omega⟩)
  | ldc2_w u0 =>
    replace h : (some (.inl (pc + 3, lv, .long (Int64.ofNat a) :: st, M, k, n)) : Option ri_X) = some (.inl F') := h
    (repeat' split at h) <;> first | (cases h; done) | (cases h; exact ⟨Nat.le_refl _, Nat.le_refl _⟩) | (cases h; exact ⟨by dsimp only; omega, by dsimp only; omega⟩)
  | iload_n j =>
    replace h : ((match (generalizing := false) ri_ld lv j with | some (.int x) => some (.inl (pc + 1, lv, .int x :: st, M, k, n)) | _ => none) : Option ri_X) = some (.inl F') := h
    (repeat' split at h) <;> first | (cases h; done) | (cases h; exact ⟨Nat.le_refl _, Nat.le_refl _⟩) | (cases h; exact ⟨by dsimp only; omega, by dsimp only; omega⟩)
  | iload j =>
    replace h : ((match (generalizing := false) ri_ld lv j with | some (.int x) => some (.inl (pc + 2, lv, .int x :: st, M, k, n)) | _ => none) : Option ri_X) = some (.inl F') := h
    (repeat' split at h) <;> first | (cases h; done) | (cases h; exact ⟨Nat.le_refl _, Nat.le_refl _⟩) | (cases h; exact ⟨by dsimp only; omega, by dsimp only; omega⟩)
  | lload_n j =>
    replace h : ((match (generalizing := false) ri_ld lv j with | some (.long x) => some (.inl (pc + 1, lv, .long x :: st, M, k, n)) | _ => none) : Option ri_X) = some (.inl F') := h
    (repeat' split at h) <;> first | (cases h; done) | (cases h; exact ⟨Nat.le_refl _, Nat.le_refl _⟩) | (cases h; exact ⟨by dsimp only; omega, by dsimp only; omega⟩)
  | lload j =>
    replace h : ((match (generalizing := false) ri_ld lv j with | some (.long x) => some (.inl (pc + 2, lv, .long x :: st, M, k, n)) | _ => none) : Option ri_X) = some (.inl F') := h
    (repeat' split at h) <;> first | (cases h; done) | (cases h; exact ⟨Nat.le_refl _, Nat.le_refl _⟩) | (cases h; exact ⟨by dsimp only; omega, by dsimp only; omega⟩)
  | aload_n j =>
    replace h : ((match (generalizing := false) ri_ld lv j with | some (.ref x) => some (.inl (pc + 1, lv, .ref x :: st, M, k, n)) | some .null => some (.inl (pc + 1, lv, .null :: st, M, k, n)) | _ => none) : Option ri_X) = some (.inl F') := h
    (repeat' split at h) <;> first | (cases h; done) | (cases h; exact ⟨Nat.le_refl _, Nat.le_refl _⟩) | (cases h; exact ⟨by dsimp only; omega, by dsimp only; omega⟩)
  | aload j =>
    replace h : ((match (generalizing := false) ri_ld lv j with | some (.ref x) => some (.inl (pc + 2, lv, .ref x :: st, M, k, n)) | some .null => some (.inl (pc + 2, lv, .null :: st, M, k, n)) | _ => none) : Option ri_X) = some (.inl F') := h
    (repeat' split at h) <;> first | (cases h; done) | (cases h; exact ⟨Nat.le_refl _, Nat.le_refl _⟩) | (cases h; exact ⟨by dsimp only; omega, by dsimp only; omega⟩)
  | istore_n j =>
    replace h : ((match (generalizing := false) st with | .int x :: r => some (.inl (pc + 1, ri_st1 lv j (.int x), r, M, k, n)) | _ => none) : Option ri_X) = some (.inl F') := h
    (repeat' split at h) <;> first | (cases h; done) | (cases h; exact ⟨Nat.le_refl _, Nat.le_refl _⟩) | (cases h; exact ⟨by dsimp only; omega, by dsimp only; omega⟩)
  | istore j =>
    replace h : ((match (generalizing := false) st with | .int x :: r => some (.inl (pc + 2, ri_st1 lv j (.int x), r, M, k, n)) | _ => none) : Option ri_X) = some (.inl F') := h
    (repeat' split at h) <;> first | (cases h; done) | (cases h; exact ⟨Nat.le_refl _, Nat.le_refl _⟩) | (cases h; exact ⟨by dsimp only; omega, by dsimp only; omega⟩)
  | lstore_n j =>
    replace h : ((match (generalizing := false) st with | .long x :: r => some (.inl (pc + 1, ri_st2 lv j (.long x), r, M, k, n)) | _ => none) : Option ri_X) = some (.inl F') := h
    (repeat' split at h) <;> first | (cases h; done) | (cases h; exact ⟨Nat.le_refl _, Nat.le_refl _⟩) | (cases h; exact ⟨by dsimp only; omega, by dsimp only; omega⟩)
  | lstore j =>
    replace h : ((match (generalizing := false) st with | .long x :: r => some (.inl (pc + 2, ri_st2 lv j (.long x), r, M, k, n)) | _ => none) : Option ri_X) = some (.inl F') := h
    (repeat' split at h) <;> first | (cases h; done) | (cases h; exact ⟨Nat.le_refl _, Nat.le_refl _⟩) | (cases h; exact ⟨by dsimp only; omega, by dsimp only; omega⟩)
  | astore_n j =>
    replace h : ((match (generalizing := false) st with | .ref x :: r => some (.inl (pc + 1, ri_st1 lv j (.ref x), r, M, k, n)) | .null :: r => some (.inl (pc + 1, ri_st1 lv j .null, r, M, k, n)) | _ => none) : Option ri_X) = some (.inl F') := h
    (repeat' split at h) <;> first | (cases h; done) | (cases h; exact ⟨Nat.le_refl _, Nat.le_refl _⟩) | (cases h; exact ⟨by dsimp only; omega, by dsimp only; omega⟩)
  | astore j =>
    replace h : ((match (generalizing := false) st with | .ref x :: r => some (.inl (pc + 2, ri_st1 lv j (.ref x), r, M, k, n)) | .null :: r => some (.inl (pc + 2, ri_st1 lv j .null, r, M, k, n)) | _ => none) : Option ri_X) = some (.inl F') := h
    (repeat' split at h) <;> first | (cases h; done) | (cases h; exact ⟨Nat.le_refl _, Nat.le_refl _⟩) | (cases h; exact ⟨by dsimp only; omega, by dsimp only; omega⟩)
  | iinc j v =>
    replace h : ((match (generalizing := false) ri_ld lv j with | some (.int x) => some (.inl (pc + 3, ri_st1 lv j (.int (x + Int32.ofInt v)), st, M, k, n)) | _ => none) : Option ri_X) = some (.inl F') := h
    (repeat' split at h) <;> first | (cases h; done) | (cases h; exact ⟨Nat.le_refl _, Nat.le_refl _⟩) | (cases h; exact ⟨by dsimp only; omega, by dsimp only; omega⟩)
  | iadd  =>
    replace h : ((match (generalizing := false) st with | .int y :: .int x :: r => some (.inl (pc + 1, lv, .int (x + y) :: r, M, k, n)) | _ => none) : Option ri_X) = some (.inl F') := h
    (repeat' split at h) <;> first | (cases h; done) | (cases h; exact ⟨Nat.le_refl _, Nat.le_refl _⟩) | (cases h; exact ⟨by dsimp only; omega, by dsimp only; omega⟩)
  | isub  =>
    replace h : ((match (generalizing := false) st with | .int y :: .int x :: r => some (.inl (pc + 1, lv, .int (x - y) :: r, M, k, n)) | _ => none) : Option ri_X) = some (.inl F') := h
    (repeat' split at h) <;> first | (cases h; done) | (cases h; exact ⟨Nat.le_refl _, Nat.le_refl _⟩) | (cases h; exact ⟨by dsimp only; omega, by dsimp only; omega⟩)
  | imul  =>
    replace h : ((match (generalizing := false) st with | .int y :: .int x :: r => some (.inl (pc + 1, lv, .int (x * y) :: r, M, k, n)) | _ => none) : Option ri_X) = some (.inl F') := h
    (repeat' split at h) <;> first | (cases h; done) | (cases h; exact ⟨Nat.le_refl _, Nat.le_refl _⟩) | (cases h; exact ⟨by dsimp only; omega, by dsimp only; omega⟩)
  | iand  =>
    replace h : ((match (generalizing := false) st with | .int y :: .int x :: r => some (.inl (pc + 1, lv, .int (x &&& y) :: r, M, k, n)) | _ => none) : Option ri_X) = some (.inl F') := h
    (repeat' split at h) <;> first | (cases h; done) | (cases h; exact ⟨Nat.le_refl _, Nat.le_refl _⟩) | (cases h; exact ⟨by dsimp only; omega, by dsimp only; omega⟩)
  | ior  =>
    replace h : ((match (generalizing := false) st with | .int y :: .int x :: r => some (.inl (pc + 1, lv, .int (x ||| y) :: r, M, k, n)) | _ => none) : Option ri_X) = some (.inl F') := h
    (repeat' split at h) <;> first | (cases h; done) | (cases h; exact ⟨Nat.le_refl _, Nat.le_refl _⟩) | (cases h; exact ⟨by dsimp only; omega, by dsimp only; omega⟩)
  | ixor  =>
    replace h : ((match (generalizing := false) st with | .int y :: .int x :: r => some (.inl (pc + 1, lv, .int (x ^^^ y) :: r, M, k, n)) | _ => none) : Option ri_X) = some (.inl F') := h
    (repeat' split at h) <;> first | (cases h; done) | (cases h; exact ⟨Nat.le_refl _, Nat.le_refl _⟩) | (cases h; exact ⟨by dsimp only; omega, by dsimp only; omega⟩)
  | ishl  =>
    replace h : ((match (generalizing := false) st with | .int y :: .int x :: r => some (.inl (pc + 1, lv, .int (x <<< (y &&& 31)) :: r, M, k, n)) | _ => none) : Option ri_X) = some (.inl F') := h
    (repeat' split at h) <;> first | (cases h; done) | (cases h; exact ⟨Nat.le_refl _, Nat.le_refl _⟩) | (cases h; exact ⟨by dsimp only; omega, by dsimp only; omega⟩)
  | ishr  =>
    replace h : ((match (generalizing := false) st with | .int y :: .int x :: r => some (.inl (pc + 1, lv, .int (x >>> (y &&& 31)) :: r, M, k, n)) | _ => none) : Option ri_X) = some (.inl F') := h
    (repeat' split at h) <;> first | (cases h; done) | (cases h; exact ⟨Nat.le_refl _, Nat.le_refl _⟩) | (cases h; exact ⟨by dsimp only; omega, by dsimp only; omega⟩)
  | iushr  =>
    replace h : ((match (generalizing := false) st with | .int y :: .int x :: r => some (.inl (pc + 1, lv, .int ((x.toUInt32 >>> (y.toUInt32 &&& Int32.toUInt32 31)).toInt32) :: r, M, k, n)) | _ => none) : Option ri_X) = some (.inl F') := h
    (repeat' split at h) <;> first | (cases h; done) | (cases h; exact ⟨Nat.le_refl _, Nat.le_refl _⟩) | (cases h; exact ⟨by dsimp only; omega, by dsimp only; omega⟩)
  | ineg  =>
    replace h : ((match (generalizing := false) st with | .int x :: r => some (.inl (pc + 1, lv, .int (-x) :: r, M, k, n)) | _ => none) : Option ri_X) = some (.inl F') := h
    (repeat' split at h) <;> first | (cases h; done) | (cases h; exact ⟨Nat.le_refl _, Nat.le_refl _⟩) | (cases h; exact ⟨by dsimp only; omega, by dsimp only; omega⟩)
  | idiv  =>
    replace h : ((match (generalizing := false) st with | .int y :: .int x :: r => if y = 0 then none else some (.inl (pc + 1, lv, .int (x / y) :: r, M, k, n)) | _ => none) : Option ri_X) = some (.inl F') := h
    (repeat' split at h) <;> first | (cases h; done) | (cases h; exact ⟨Nat.le_refl _, Nat.le_refl _⟩) | (cases h; exact ⟨by dsimp only; omega, by dsimp only; omega⟩)
  | irem  =>
    replace h : ((match (generalizing := false) st with | .int y :: .int x :: r => if y = 0 then none else some (.inl (pc + 1, lv, .int (x - x / y * y) :: r, M, k, n)) | _ => none) : Option ri_X) = some (.inl F') := h
    (repeat' split at h) <;> first | (cases h; done) | (cases h; exact ⟨Nat.le_refl _, Nat.le_refl _⟩) | (cases h; exact ⟨by dsimp only; omega, by dsimp only; omega⟩)
  | ladd  =>
    replace h : ((match (generalizing := false) st with | .long y :: .long x :: r => some (.inl (pc + 1, lv, .long (x + y) :: r, M, k, n)) | _ => none) : Option ri_X) = some (.inl F') := h
    (repeat' split at h) <;> first | (cases h; done) | (cases h; exact ⟨Nat.le_refl _, Nat.le_refl _⟩) | (cases h; exact ⟨by dsimp only; omega, by dsimp only; omega⟩)
  | lsub  =>
    replace h : ((match (generalizing := false) st with | .long y :: .long x :: r => some (.inl (pc + 1, lv, .long (x - y) :: r, M, k, n)) | _ => none) : Option ri_X) = some (.inl F') := h
    (repeat' split at h) <;> first | (cases h; done) | (cases h; exact ⟨Nat.le_refl _, Nat.le_refl _⟩) | (cases h; exact ⟨by dsimp only; omega, by dsimp only; omega⟩)
  | lmul  =>
    replace h : ((match (generalizing := false) st with | .long y :: .long x :: r => some (.inl (pc + 1, lv, .long (x * y) :: r, M, k, n)) | _ => none) : Option ri_X) = some (.inl F') := h
    (repeat' split at h) <;> first | (cases h; done) | (cases h; exact ⟨Nat.le_refl _, Nat.le_refl _⟩) | (cases h; exact ⟨by dsimp only; omega, by dsimp only; omega⟩)
  | land  =>
    replace h : ((match (generalizing := false) st with | .long y :: .long x :: r => some (.inl (pc + 1, lv, .long (x &&& y) :: r, M, k, n)) | _ => none) : Option ri_X) = some (.inl F') := h
    (repeat' split at h) <;> first | (cases h; done) | (cases h; exact ⟨Nat.le_refl _, Nat.le_refl _⟩) | (cases h; exact ⟨by dsimp only; omega, by dsimp only; omega⟩)
  | lor  =>
    replace h : ((match (generalizing := false) st with | .long y :: .long x :: r => some (.inl (pc + 1, lv, .long (x ||| y) :: r, M, k, n)) | _ => none) : Option ri_X) = some (.inl F') := h
    (repeat' split at h) <;> first | (cases h; done) | (cases h; exact ⟨Nat.le_refl _, Nat.le_refl _⟩) | (cases h; exact ⟨by dsimp only; omega, by dsimp only; omega⟩)
  | ldiv  =>
    replace h : ((match (generalizing := false) st with | .long y :: .long x :: r => if y = 0 then none else some (.inl (pc + 1, lv, .long (x / y) :: r, M, k, n)) | _ => none) : Option ri_X) = some (.inl F') := h
    (repeat' split at h) <;> first | (cases h; done) | (cases h; exact ⟨Nat.le_refl _, Nat.le_refl _⟩) | (cases h; exact ⟨by dsimp only; omega, by dsimp only; omega⟩)
  | lrem  =>
    replace h : ((match (generalizing := false) st with | .long y :: .long x :: r => if y = 0 then none else some (.inl (pc + 1, lv, .long (x - x / y * y) :: r, M, k, n)) | _ => none) : Option ri_X) = some (.inl F') := h
    (repeat' split at h) <;> first | (cases h; done) | (cases h; exact ⟨Nat.le_refl _, Nat.le_refl _⟩) | (cases h; exact ⟨by dsimp only; omega, by dsimp only; omega⟩)
  | lshl  =>
    replace h : ((match (generalizing := false) st with | .int y :: .long x :: r => some (.inl (pc + 1, lv, .long (x <<< (y.toInt64 &&& 63)) :: r, M, k, n)) | _ => none) : Option ri_X) = some (.inl F') := h
    (repeat' split at h) <;> first | (cases h; done) | (cases h; exact ⟨Nat.le_refl _, Nat.le_refl _⟩) | (cases h; exact ⟨by dsimp only; omega, by dsimp only; omega⟩)
  | lshr  =>
    replace h : ((match (generalizing := false) st with | .int y :: .long x :: r => some (.inl (pc + 1, lv, .long (x >>> (y.toInt64 &&& 63)) :: r, M, k, n)) | _ => none) : Option ri_X) = some (.inl F') := h
    (repeat' split at h) <;> first | (cases h; done) | (cases h; exact ⟨Nat.le_refl _, Nat.le_refl _⟩) | (cases h; exact ⟨by dsimp only; omega, by dsimp only; omega⟩)
  | lcmp  =>
    replace h : ((match (generalizing := false) st with | .long y :: .long x :: r => some (.inl (pc + 1, lv, .int (lg_cmp x y) :: r, M, k, n)) | _ => none) : Option ri_X) = some (.inl F') := h
    (repeat' split at h) <;> first | (cases h; done) | (cases h; exact ⟨Nat.le_refl _, Nat.le_refl _⟩) | (cases h; exact ⟨by dsimp only; omega, by dsimp only; omega⟩)
  | i2l  =>
    replace h : ((match (generalizing := false) st with | .int x :: r => some (.inl (pc + 1, lv, .long x.toInt64 :: r, M, k, n)) | _ => none) : Option ri_X) = some (.inl F') := h
    (repeat' split at h) <;> first | (cases h; done) | (cases h; exact ⟨Nat.le_refl _, Nat.le_refl _⟩) | (cases h; exact ⟨by dsimp only; omega, by dsimp only; omega⟩)
  | l2i  =>
    replace h : ((match (generalizing := false) st with | .long x :: r => some (.inl (pc + 1, lv, .int x.toInt32 :: r, M, k, n)) | _ => none) : Option ri_X) = some (.inl F') := h
    (repeat' split at h) <;> first | (cases h; done) | (cases h; exact ⟨Nat.le_refl _, Nat.le_refl _⟩) | (cases h; exact ⟨by dsimp only; omega, by dsimp only; omega⟩)
  | i2c  =>
    replace h : ((match (generalizing := false) st with | .int x :: r => some (.inl (pc + 1, lv, .int (x.toUInt32 % 65536).toInt32 :: r, M, k, n)) | _ => none) : Option ri_X) = some (.inl F') := h
    (repeat' split at h) <;> first | (cases h; done) | (cases h; exact ⟨Nat.le_refl _, Nat.le_refl _⟩) | (cases h; exact ⟨by dsimp only; omega, by dsimp only; omega⟩)
  | dup  =>
    replace h : ((match (generalizing := false) st with | v :: r => if v.category = 1 then some (.inl (pc + 1, lv, v :: v :: r, M, k, n)) else none | _ => none) : Option ri_X) = some (.inl F') := h
    (repeat' split at h) <;> first | (cases h; done) | (cases h; exact ⟨Nat.le_refl _, Nat.le_refl _⟩) | (cases h; exact ⟨by dsimp only; omega, by dsimp only; omega⟩)
  | pop  =>
    replace h : ((match (generalizing := false) st with | v :: r => if v.category = 1 then some (.inl (pc + 1, lv, r, M, k, n)) else none | _ => none) : Option ri_X) = some (.inl F') := h
    (repeat' split at h) <;> first | (cases h; done) | (cases h; exact ⟨Nat.le_refl _, Nat.le_refl _⟩) | (cases h; exact ⟨by dsimp only; omega, by dsimp only; omega⟩)
  | dup2  =>
    replace h : ((match (generalizing := false) st with | .long v :: r => some (.inl (pc + 1, lv, .long v :: .long v :: r, M, k, n)) | v :: u :: r => if v.category = 1 ∧ u.category = 1 then some (.inl (pc + 1, lv, v :: u :: v :: u :: r, M, k, n)) else none | _ => none) : Option ri_X) = some (.inl F') := h
    (repeat' split at h) <;> first | (cases h; done) | (cases h; exact ⟨Nat.le_refl _, Nat.le_refl _⟩) | (cases h; exact ⟨by dsimp only; omega, by dsimp only; omega⟩)
  | goto u0 =>
    replace h : (some (.inl (a, lv, st, M, k, n)) : Option ri_X) = some (.inl F') := h
    (repeat' split at h) <;> first | (cases h; done) | (cases h; exact ⟨Nat.le_refl _, Nat.le_refl _⟩) | (cases h; exact ⟨by dsimp only; omega, by dsimp only; omega⟩)
  | ifnull u0 =>
    replace h : ((match (generalizing := false) st with | .null :: r => some (.inl (a, lv, r, M, k, n)) | .ref _ :: r => some (.inl (pc + 3, lv, r, M, k, n)) | _ => none) : Option ri_X) = some (.inl F') := h
    (repeat' split at h) <;> first | (cases h; done) | (cases h; exact ⟨Nat.le_refl _, Nat.le_refl _⟩) | (cases h; exact ⟨by dsimp only; omega, by dsimp only; omega⟩)
  | ifnonnull u0 =>
    replace h : ((match (generalizing := false) st with | .null :: r => some (.inl (pc + 3, lv, r, M, k, n)) | .ref _ :: r => some (.inl (a, lv, r, M, k, n)) | _ => none) : Option ri_X) = some (.inl F') := h
    (repeat' split at h) <;> first | (cases h; done) | (cases h; exact ⟨Nat.le_refl _, Nat.le_refl _⟩) | (cases h; exact ⟨by dsimp only; omega, by dsimp only; omega⟩)
  | tableswitch u0 lo hi offs =>
    replace h : ((match (generalizing := false) st with | .int x :: r => if x.toInt < lo ∨ hi < x.toInt then some (.inl (a, lv, r, M, k, n)) else (match (generalizing := false) offs[(x.toInt - lo).toNat]? with | some off => some (.inl (((pc : Int) + off).toNat, lv, r, M, k, n)) | none => none) | _ => none) : Option ri_X) = some (.inl F') := h
    (repeat' split at h) <;> first | (cases h; done) | (cases h; exact ⟨Nat.le_refl _, Nat.le_refl _⟩) | (cases h; exact ⟨by dsimp only; omega, by dsimp only; omega⟩)
  | getfield u0 =>
    replace h : ((match (generalizing := false) st with | .ref q :: r => (match (generalizing := false) M[q]? with | some (.inr (ci, fs)) => if ci = a ∧ q < 1000000 then (match (generalizing := false) fs[b]? with | some v => some (.inl (pc + 3, lv, v :: r, M, k, n)) | none => none) else none | _ => none) | _ => none) : Option ri_X) = some (.inl F') := h
    (repeat' split at h) <;> first | (cases h; done) | (cases h; exact ⟨Nat.le_refl _, Nat.le_refl _⟩) | (cases h; exact ⟨by dsimp only; omega, by dsimp only; omega⟩)
  | putfield u0 =>
    replace h : ((match (generalizing := false) st with | v :: .ref q :: r => (match (generalizing := false) M[q]? with | some (.inr (ci, fs)) => if ci = a ∧ q < 1000000 ∧ b < fs.length ∧ ri_fit d v = true then some (.inl (pc + 3, lv, r, M.set q (.inr (ci, fs.set b v)), k, n)) else none | _ => none) | _ => none) : Option ri_X) = some (.inl F') := h
    (repeat' split at h) <;> first | (cases h; done) | (cases h; exact ⟨Nat.le_refl _, Nat.le_refl _⟩) | (cases h; exact ⟨by dsimp only; omega, by dsimp only; omega⟩)
  | iaload  =>
    replace h : ((match (generalizing := false) st with | .int i :: .ref q :: r => (match (generalizing := false) M[q]? with | some (.inl (t, .inl xs)) => if t = 0 ∧ q < 1000000 ∧ ¬ i < 0 then (match (generalizing := false) xs[i.toNatClampNeg]? with | some v => some (.inl (pc + 1, lv, .int v :: r, M, k, n)) | none => none) else none | none => if q = 2000000 ∧ ¬ i < 0 then (match (generalizing := false) X with | some xs => (match (generalizing := false) xs[i.toNatClampNeg]? with | some v => some (.inl (pc + 1, lv, .int v :: r, M, k, n)) | none => none) | none => none) else none | _ => none) | _ => none) : Option ri_X) = some (.inl F') := h
    (repeat' split at h) <;> first | (cases h; done) | (cases h; exact ⟨Nat.le_refl _, Nat.le_refl _⟩) | (cases h; exact ⟨by dsimp only; omega, by dsimp only; omega⟩)
  | caload  =>
    replace h : ((match (generalizing := false) st with | .int i :: .ref q :: r => (match (generalizing := false) M[q]? with | some (.inl (t, .inl xs)) => if t = 2 ∧ q < 1000000 ∧ ¬ i < 0 then (match (generalizing := false) xs[i.toNatClampNeg]? with | some v => some (.inl (pc + 1, lv, .int v :: r, M, k, n)) | none => none) else none | _ => none) | _ => none) : Option ri_X) = some (.inl F') := h
    (repeat' split at h) <;> first | (cases h; done) | (cases h; exact ⟨Nat.le_refl _, Nat.le_refl _⟩) | (cases h; exact ⟨by dsimp only; omega, by dsimp only; omega⟩)
  | baload  =>
    replace h : ((match (generalizing := false) st with | .int i :: .ref q :: r => (match (generalizing := false) M[q]? with | some (.inl (t, .inl xs)) => if t = 3 ∧ q < 1000000 ∧ ¬ i < 0 then (match (generalizing := false) xs[i.toNatClampNeg]? with | some v => some (.inl (pc + 1, lv, .int v :: r, M, k, n)) | none => none) else none | _ => none) | _ => none) : Option ri_X) = some (.inl F') := h
    (repeat' split at h) <;> first | (cases h; done) | (cases h; exact ⟨Nat.le_refl _, Nat.le_refl _⟩) | (cases h; exact ⟨by dsimp only; omega, by dsimp only; omega⟩)
  | laload  =>
    replace h : ((match (generalizing := false) st with | .int i :: .ref q :: r => (match (generalizing := false) M[q]? with | some (.inl (t, .inr (.inl xs))) => if t = 1 ∧ q < 1000000 ∧ ¬ i < 0 then (match (generalizing := false) xs[i.toNatClampNeg]? with | some v => some (.inl (pc + 1, lv, .long v :: r, M, k, n)) | none => none) else none | _ => none) | _ => none) : Option ri_X) = some (.inl F') := h
    (repeat' split at h) <;> first | (cases h; done) | (cases h; exact ⟨Nat.le_refl _, Nat.le_refl _⟩) | (cases h; exact ⟨by dsimp only; omega, by dsimp only; omega⟩)
  | aaload  =>
    replace h : ((match (generalizing := false) st with | .int i :: .ref q :: r => (match (generalizing := false) M[q]? with | some (.inl (t, .inr (.inr xs))) => if 4 ≤ t ∧ t < 7 ∧ q < 1000000 ∧ ¬ i < 0 then (match (generalizing := false) xs[i.toNatClampNeg]? with | some v => some (.inl (pc + 1, lv, ri_rv v :: r, M, k, n)) | none => none) else none | _ => none) | _ => none) : Option ri_X) = some (.inl F') := h
    (repeat' split at h) <;> first | (cases h; done) | (cases h; exact ⟨Nat.le_refl _, Nat.le_refl _⟩) | (cases h; exact ⟨by dsimp only; omega, by dsimp only; omega⟩)
  | iastore  =>
    replace h : ((match (generalizing := false) st with | .int x :: .int i :: .ref q :: r => (match (generalizing := false) M[q]? with | some (.inl (t, .inl xs)) => if t = 0 ∧ q < 1000000 ∧ ¬ i < 0 ∧ i.toNatClampNeg < xs.length then some (.inl (pc + 1, lv, r, M.set q (.inl (t, .inl (xs.set i.toNatClampNeg x))), k, n)) else none | _ => none) | _ => none) : Option ri_X) = some (.inl F') := h
    (repeat' split at h) <;> first | (cases h; done) | (cases h; exact ⟨Nat.le_refl _, Nat.le_refl _⟩) | (cases h; exact ⟨by dsimp only; omega, by dsimp only; omega⟩)
  | castore  =>
    replace h : ((match (generalizing := false) st with | .int x :: .int i :: .ref q :: r => (match (generalizing := false) M[q]? with | some (.inl (t, .inl xs)) => if t = 2 ∧ q < 1000000 ∧ ¬ i < 0 ∧ i.toNatClampNeg < xs.length then some (.inl (pc + 1, lv, r, M.set q (.inl (t, .inl (xs.set i.toNatClampNeg (vp_nar .char x)))), k, n)) else none | _ => none) | _ => none) : Option ri_X) = some (.inl F') := h
    (repeat' split at h) <;> first | (cases h; done) | (cases h; exact ⟨Nat.le_refl _, Nat.le_refl _⟩) | (cases h; exact ⟨by dsimp only; omega, by dsimp only; omega⟩)
  | bastore  =>
    replace h : ((match (generalizing := false) st with | .int x :: .int i :: .ref q :: r => (match (generalizing := false) M[q]? with | some (.inl (t, .inl xs)) => if t = 3 ∧ q < 1000000 ∧ ¬ i < 0 ∧ i.toNatClampNeg < xs.length then some (.inl (pc + 1, lv, r, M.set q (.inl (t, .inl (xs.set i.toNatClampNeg (vp_nar .boolean x)))), k, n)) else none | _ => none) | _ => none) : Option ri_X) = some (.inl F') := h
    (repeat' split at h) <;> first | (cases h; done) | (cases h; exact ⟨Nat.le_refl _, Nat.le_refl _⟩) | (cases h; exact ⟨by dsimp only; omega, by dsimp only; omega⟩)
  | lastore  =>
    replace h : ((match (generalizing := false) st with | .long x :: .int i :: .ref q :: r => (match (generalizing := false) M[q]? with | some (.inl (t, .inr (.inl xs))) => if t = 1 ∧ q < 1000000 ∧ ¬ i < 0 ∧ i.toNatClampNeg < xs.length then some (.inl (pc + 1, lv, r, M.set q (.inl (t, .inr (.inl (xs.set i.toNatClampNeg x)))), k, n)) else none | _ => none) | _ => none) : Option ri_X) = some (.inl F') := h
    (repeat' split at h) <;> first | (cases h; done) | (cases h; exact ⟨Nat.le_refl _, Nat.le_refl _⟩) | (cases h; exact ⟨by dsimp only; omega, by dsimp only; omega⟩)
  | aastore  =>
    replace h : ((match (generalizing := false) st with | .ref x :: .int i :: .ref q :: r => (match (generalizing := false) M[q]?, M[x]? with | some (.inl (t, .inr (.inr xs))), some (.inr (ci, _)) => if t = 6 ∧ ci = a ∧ q < 1000000 ∧ x < 1000000 ∧ ¬ i < 0 ∧ i.toNatClampNeg < xs.length then some (.inl (pc + 1, lv, r, M.set q (.inl (t, .inr (.inr (xs.set i.toNatClampNeg (some x))))), k, n)) else none | _, _ => none) | _ => none) : Option ri_X) = some (.inl F') := h
    (repeat' split at h) <;> first | (cases h; done) | (cases h; exact ⟨Nat.le_refl _, Nat.le_refl _⟩) | (cases h; exact ⟨by dsimp only; omega, by dsimp only; omega⟩)
  | arraylength  =>
    replace h : ((match (generalizing := false) st with | .ref q :: r => if q = 2000000 then (match (generalizing := false) X with | some xs => some (.inl (pc + 1, lv, .int (Int32.ofNat xs.length) :: r, M, k, n)) | none => none) else (match (generalizing := false) M[q]? with | some (.inl (t, .inl xs)) => if t < 4 ∧ q < 1000000 then some (.inl (pc + 1, lv, .int (Int32.ofNat xs.length) :: r, M, k, n)) else none | some (.inl (t, .inr (.inl xs))) => if t < 4 ∧ q < 1000000 then some (.inl (pc + 1, lv, .int (Int32.ofNat xs.length) :: r, M, k, n)) else none | _ => none) | _ => none) : Option ri_X) = some (.inl F') := h
    (repeat' split at h) <;> first | (cases h; done) | (cases h; exact ⟨Nat.le_refl _, Nat.le_refl _⟩) | (cases h; exact ⟨by dsimp only; omega, by dsimp only; omega⟩)
  | new u0 =>
    replace h : ((match (generalizing := false) Fd[a]? with | some fs => if M.length < 1000000 then some (.inl (pc + 3, lv, .ref M.length :: st, M ++ [.inr (a, fs)], k + 1, n + fs.length)) else none | none => none) : Option ri_X) = some (.inl F') := h
    (repeat' split at h) <;> first | (cases h; done) | (cases h; exact ⟨Nat.le_refl _, Nat.le_refl _⟩) | (cases h; exact ⟨by dsimp only; omega, by dsimp only; omega⟩)
  | newarray u0 =>
    replace h : ((match (generalizing := false) st with | .int x :: r => if x < 0 ∨ 1000000 ≤ M.length ∨ 60000 < x.toNatClampNeg then none else if a = 1 then some (.inl (pc + 2, lv, .ref M.length :: r, M ++ [.inl (1, .inr (.inl (List.replicate x.toNatClampNeg 0)))], k + 1, n + x.toNatClampNeg)) else some (.inl (pc + 2, lv, .ref M.length :: r, M ++ [.inl (a, .inl (List.replicate x.toNatClampNeg 0))], k + 1, n + x.toNatClampNeg)) | _ => none) : Option ri_X) = some (.inl F') := h
    (repeat' split at h) <;> first | (cases h; done) | (cases h; exact ⟨Nat.le_refl _, Nat.le_refl _⟩) | (cases h; exact ⟨by dsimp only; omega, by dsimp only; omega⟩)
  | anewarray u0 =>
    replace h : ((match (generalizing := false) st with | .int x :: r => if x < 0 ∨ 1000000 ≤ M.length ∨ 60000 < x.toNatClampNeg then none else some (.inl (pc + 3, lv, .ref M.length :: r, M ++ [.inl (6, .inr (.inr (List.replicate x.toNatClampNeg none)))], k + 1, n + x.toNatClampNeg)) | _ => none) : Option ri_X) = some (.inl F') := h
    (repeat' split at h) <;> first | (cases h; done) | (cases h; exact ⟨Nat.le_refl _, Nat.le_refl _⟩) | (cases h; exact ⟨by dsimp only; omega, by dsimp only; omega⟩)
  | multianewarray u0 u1 =>
    replace h : ((match (generalizing := false) st with | .int y :: .int x :: r => if x < 0 ∨ y < 0 ∨ 900000 ≤ M.length ∨ 60000 < x.toNatClampNeg ∨ 60000 < y.toNatClampNeg then none else some (.inl (pc + 4, lv, .ref M.length :: r, M ++ ((.inl (a, .inr (.inr ((List.range x.toNatClampNeg).map (fun i => some (M.length + 1 + i)))))) :: List.replicate x.toNatClampNeg (ri_row b y.toNatClampNeg)), k + 1 + x.toNatClampNeg, n + x.toNatClampNeg + x.toNatClampNeg * y.toNatClampNeg)) | _ => none) : Option ri_X) = some (.inl F') := h
    (repeat' split at h) <;> first | (cases h; done) | (cases h; exact ⟨Nat.le_refl _, Nat.le_refl _⟩) | (cases h; exact ⟨by dsimp only; omega, by dsimp only; omega⟩)
  | invokespecial u0 =>
    replace h : (if c0 = 2 then (match (generalizing := false) st with | [.ref q] => some (.inl (pc + 3, lv, [], M, k, n)) | _ => none) else if c0 = 5 then none else ri_cl a b (pc + 3) lv st M k n 1 d : Option ri_X) = some (.inl F') := h
    split at h
    · (repeat' split at h) <;> first | (cases h; done) | (cases h; exact ⟨Nat.le_refl _, Nat.le_refl _⟩)
    · split at h
      · cases h
      · exact absurd h ri_cl_ne
  | invokevirtual u0 =>
    replace h : (if c0 = 9 then none else ri_cl a b (pc + 3) lv st M k n 2 d : Option ri_X) = some (.inl F') := h
    split at h
    · cases h
    · exact absurd h ri_cl_ne
  | invokestatic u0 =>
    replace h : (if c0 = 4 then (match (generalizing := false) st with | [.int z, .int dp, .ref q1, .int sp, .ref q0] => (match (generalizing := false) M[q0]?, M[q1]? with | some (.inl (t0, .inl xs)), some (.inl (t1, .inl ys)) => if t0 = 0 ∧ t1 = 0 ∧ q0 < 1000000 ∧ q1 < 1000000 ∧ ¬ sp < 0 ∧ ¬ dp < 0 ∧ ¬ z < 0 ∧ sp.toNatClampNeg + z.toNatClampNeg ≤ xs.length ∧ dp.toNatClampNeg + z.toNatClampNeg ≤ ys.length then some (.inl (pc + 3, lv, [], M.set q1 (.inl (t1, .inl (ri_cpy xs ys sp.toNatClampNeg dp.toNatClampNeg z.toNatClampNeg))), k, n)) else none | _, _ => none) | _ => none) else if c0 = 6 then (match (generalizing := false) st with | .int y :: .int x :: r => if (r.map (fun v => v.category)).sum ≤ 8 then some (.inl (pc + 3, lv, .int (if x < y then y else x) :: r, M, k, n)) else none | _ => none) else if c0 = 7 then (match (generalizing := false) st with | .int y :: .int x :: r => if (r.map (fun v => v.category)).sum ≤ 8 then some (.inl (pc + 3, lv, .int (if y < x then y else x) :: r, M, k, n)) else none | _ => none) else if c0 = 8 then (match (generalizing := false) st with | .long y :: .long x :: r => if (r.map (fun v => v.category)).sum ≤ 8 then some (.inl (pc + 3, lv, .long (if y < x then x else y) :: r, M, k, n)) else none | _ => none) else ri_cl a b (pc + 3) lv st M k n 0 d : Option ri_X) = some (.inl F') := h
    split at h
    · (repeat' split at h) <;> first | (cases h; done) | (cases h; exact ⟨Nat.le_refl _, Nat.le_refl _⟩)
    · split at h
      · (repeat' split at h) <;> first | (cases h; done) | (cases h; exact ⟨Nat.le_refl _, Nat.le_refl _⟩)
      · split at h
        · (repeat' split at h) <;> first | (cases h; done) | (cases h; exact ⟨Nat.le_refl _, Nat.le_refl _⟩)
        · split at h
          · (repeat' split at h) <;> first | (cases h; done) | (cases h; exact ⟨Nat.le_refl _, Nat.le_refl _⟩)
          · exact absurd h ri_cl_ne
  | ireturn  =>
    replace h : ((match (generalizing := false) st with | [.int x] => if rk = 1 then some (.inr (.inr (some (.int x)))) else if rk = 4 ∧ (x = 0 ∨ x = 1) then some (.inr (.inr (some (.int x)))) else none | _ => none) : Option ri_X) = some (.inl F') := h
    (repeat' split at h) <;> first | (cases h; done) | (cases h; exact ⟨Nat.le_refl _, Nat.le_refl _⟩) | (cases h; exact ⟨by dsimp only; omega, by dsimp only; omega⟩)
  | lreturn  =>
    replace h : ((match (generalizing := false) st with | [.long x] => if rk = 2 then some (.inr (.inr (some (.long x)))) else none | _ => none) : Option ri_X) = some (.inl F') := h
    (repeat' split at h) <;> first | (cases h; done) | (cases h; exact ⟨Nat.le_refl _, Nat.le_refl _⟩) | (cases h; exact ⟨by dsimp only; omega, by dsimp only; omega⟩)
  | areturn  =>
    replace h : ((match (generalizing := false) st with | [.ref x] => if rk = 3 then some (.inr (.inr (some (.ref x)))) else none | [.null] => if rk = 3 then some (.inr (.inr (some .null))) else none | _ => none) : Option ri_X) = some (.inl F') := h
    (repeat' split at h) <;> first | (cases h; done) | (cases h; exact ⟨Nat.le_refl _, Nat.le_refl _⟩) | (cases h; exact ⟨by dsimp only; omega, by dsimp only; omega⟩)
  | return_  =>
    replace h : ((match (generalizing := false) st with | [] => if rk = 0 then some (.inr (.inr none)) else none | _ => none) : Option ri_X) = some (.inl F') := h
    (repeat' split at h) <;> first | (cases h; done) | (cases h; exact ⟨Nat.le_refl _, Nat.le_refl _⟩) | (cases h; exact ⟨by dsimp only; omega, by dsimp only; omega⟩)
  | ifCond cd off =>
    cases cd with
    | eq =>
      replace h : ((match (generalizing := false) st with | .int x :: r => if x = 0 then some (.inl (a, lv, r, M, k, n)) else some (.inl (pc + 3, lv, r, M, k, n)) | _ => none) : Option ri_X) = some (.inl F') := h
      (repeat' split at h) <;> first | (cases h; done) | (cases h; exact ⟨Nat.le_refl _, Nat.le_refl _⟩) | (cases h; exact ⟨by dsimp only; omega, by dsimp only; omega⟩)
    | ne =>
      replace h : ((match (generalizing := false) st with | .int x :: r => if ¬ x = 0 then some (.inl (a, lv, r, M, k, n)) else some (.inl (pc + 3, lv, r, M, k, n)) | _ => none) : Option ri_X) = some (.inl F') := h
      (repeat' split at h) <;> first | (cases h; done) | (cases h; exact ⟨Nat.le_refl _, Nat.le_refl _⟩) | (cases h; exact ⟨by dsimp only; omega, by dsimp only; omega⟩)
    | lt =>
      replace h : ((match (generalizing := false) st with | .int x :: r => if x < 0 then some (.inl (a, lv, r, M, k, n)) else some (.inl (pc + 3, lv, r, M, k, n)) | _ => none) : Option ri_X) = some (.inl F') := h
      (repeat' split at h) <;> first | (cases h; done) | (cases h; exact ⟨Nat.le_refl _, Nat.le_refl _⟩) | (cases h; exact ⟨by dsimp only; omega, by dsimp only; omega⟩)
    | ge =>
      replace h : ((match (generalizing := false) st with | .int x :: r => if 0 ≤ x then some (.inl (a, lv, r, M, k, n)) else some (.inl (pc + 3, lv, r, M, k, n)) | _ => none) : Option ri_X) = some (.inl F') := h
      (repeat' split at h) <;> first | (cases h; done) | (cases h; exact ⟨Nat.le_refl _, Nat.le_refl _⟩) | (cases h; exact ⟨by dsimp only; omega, by dsimp only; omega⟩)
    | gt =>
      replace h : ((match (generalizing := false) st with | .int x :: r => if 0 < x then some (.inl (a, lv, r, M, k, n)) else some (.inl (pc + 3, lv, r, M, k, n)) | _ => none) : Option ri_X) = some (.inl F') := h
      (repeat' split at h) <;> first | (cases h; done) | (cases h; exact ⟨Nat.le_refl _, Nat.le_refl _⟩) | (cases h; exact ⟨by dsimp only; omega, by dsimp only; omega⟩)
    | le =>
      replace h : ((match (generalizing := false) st with | .int x :: r => if x ≤ 0 then some (.inl (a, lv, r, M, k, n)) else some (.inl (pc + 3, lv, r, M, k, n)) | _ => none) : Option ri_X) = some (.inl F') := h
      (repeat' split at h) <;> first | (cases h; done) | (cases h; exact ⟨Nat.le_refl _, Nat.le_refl _⟩) | (cases h; exact ⟨by dsimp only; omega, by dsimp only; omega⟩)
  | if_icmp cd off =>
    cases cd with
    | eq =>
      replace h : ((match (generalizing := false) st with | .int y :: .int x :: r => if x = y then some (.inl (a, lv, r, M, k, n)) else some (.inl (pc + 3, lv, r, M, k, n)) | _ => none) : Option ri_X) = some (.inl F') := h
      (repeat' split at h) <;> first | (cases h; done) | (cases h; exact ⟨Nat.le_refl _, Nat.le_refl _⟩) | (cases h; exact ⟨by dsimp only; omega, by dsimp only; omega⟩)
    | ne =>
      replace h : ((match (generalizing := false) st with | .int y :: .int x :: r => if ¬ x = y then some (.inl (a, lv, r, M, k, n)) else some (.inl (pc + 3, lv, r, M, k, n)) | _ => none) : Option ri_X) = some (.inl F') := h
      (repeat' split at h) <;> first | (cases h; done) | (cases h; exact ⟨Nat.le_refl _, Nat.le_refl _⟩) | (cases h; exact ⟨by dsimp only; omega, by dsimp only; omega⟩)
    | lt =>
      replace h : ((match (generalizing := false) st with | .int y :: .int x :: r => if x < y then some (.inl (a, lv, r, M, k, n)) else some (.inl (pc + 3, lv, r, M, k, n)) | _ => none) : Option ri_X) = some (.inl F') := h
      (repeat' split at h) <;> first | (cases h; done) | (cases h; exact ⟨Nat.le_refl _, Nat.le_refl _⟩) | (cases h; exact ⟨by dsimp only; omega, by dsimp only; omega⟩)
    | ge =>
      replace h : ((match (generalizing := false) st with | .int y :: .int x :: r => if y ≤ x then some (.inl (a, lv, r, M, k, n)) else some (.inl (pc + 3, lv, r, M, k, n)) | _ => none) : Option ri_X) = some (.inl F') := h
      (repeat' split at h) <;> first | (cases h; done) | (cases h; exact ⟨Nat.le_refl _, Nat.le_refl _⟩) | (cases h; exact ⟨by dsimp only; omega, by dsimp only; omega⟩)
    | gt =>
      replace h : ((match (generalizing := false) st with | .int y :: .int x :: r => if y < x then some (.inl (a, lv, r, M, k, n)) else some (.inl (pc + 3, lv, r, M, k, n)) | _ => none) : Option ri_X) = some (.inl F') := h
      (repeat' split at h) <;> first | (cases h; done) | (cases h; exact ⟨Nat.le_refl _, Nat.le_refl _⟩) | (cases h; exact ⟨by dsimp only; omega, by dsimp only; omega⟩)
    | le =>
      replace h : ((match (generalizing := false) st with | .int y :: .int x :: r => if x ≤ y then some (.inl (a, lv, r, M, k, n)) else some (.inl (pc + 3, lv, r, M, k, n)) | _ => none) : Option ri_X) = some (.inl F') := h
      (repeat' split at h) <;> first | (cases h; done) | (cases h; exact ⟨Nat.le_refl _, Nat.le_refl _⟩) | (cases h; exact ⟨by dsimp only; omega, by dsimp only; omega⟩)
  | _ =>
    replace h : (none : Option ri_X) = some (.inl F') := h
    cases h
set_option maxRecDepth 100000 in
set_option maxHeartbeats 40000000 in
theorem ri_step_ret {X : Option (List Int32)} {Fd : List (List Value)} {rk : Nat} {ins : Instr} {a b c0 d pc : Nat} {lv : ri_L} {st : List Value} {M : ri_M} {k n : Nat} {rv : Option Value} (h : ri_step X Fd rk (ins, a, b, c0, d) (pc, lv, st, M, k, n) = some (.inr (.inr rv))) : (ins = .ireturn ∧ ∃ x, st = [.int x] ∧ rv = some (.int x) ∧ (rk = 1 ∨ (rk = 4 ∧ (x = 0 ∨ x = 1)))) ∨ (ins = .lreturn ∧ ∃ x, st = [.long x] ∧ rv = some (.long x) ∧ rk = 2) ∨ (ins = .areturn ∧ rk = 3 ∧ ((∃ x, st = [.ref x] ∧ rv = some (.ref x)) ∨ (st = [.null] ∧ rv = some .null))) ∨ (ins = .return_ ∧ st = [] ∧ rv = none ∧ rk = 0) := by
  cases ins with
  | iconst v =>
    replace h : (some (.inl (pc + 1, lv, .int (Int32.ofInt v) :: st, M, k, n)) : Option ri_X) = some (.inr (.inr rv)) := h
    (repeat' split at h) <;> cases h
  | bipush v =>
    replace h : (some (.inl (pc + 2, lv, .int (Int8.ofInt v).toInt32 :: st, M, k, n)) : Option ri_X) = some (.inr (.inr rv)) := h
    (repeat' split at h) <;> cases h
  | sipush v =>
    replace h : (some (.inl (pc + 3, lv, .int (Int16.ofInt v).toInt32 :: st, M, k, n)) : Option ri_X) = some (.inr (.inr rv)) := h
    (repeat' split at h) <;> cases h
  | lconst v =>
    replace h : (some (.inl (pc + 1, lv, .long (Int64.ofNat (v : Nat)) :: st, M, k, n)) : Option ri_X) = some (.inr (.inr rv)) := h
    (repeat' split at h) <;> cases h
  | aconst_null  =>
    replace h : (some (.inl (pc + 1, lv, .null :: st, M, k, n)) : Option ri_X) = some (.inr (.inr rv)) := h
    (repeat' split at h) <;> cases h
  | ldc u0 =>
    replace h : (if c0 = 0 then some (.inl (pc + 2, lv, .int (Int32.ofNat a) :: st, M, k, n)) else none : Option ri_X) = some (.inr (.inr rv)) := h
    (repeat' split at h) <;> cases h
  | ldc_w u0 =>
    replace h : (if c0 = 0 then some (.inl (pc + 3, lv, .int (Int32.ofNat a) :: st, M, k, n)) else none : Option ri_X) = some (.inr (.inr rv)) := h
    (repeat' split at h) <;> cases h
  | ldc2_w u0 =>
    replace h : (some (.inl (pc + 3, lv, .long (Int64.ofNat a) :: st, M, k, n)) : Option ri_X) = some (.inr (.inr rv)) := h
    (repeat' split at h) <;> cases h
  | iload_n j =>
    replace h : ((match (generalizing := false) ri_ld lv j with | some (.int x) => some (.inl (pc + 1, lv, .int x :: st, M, k, n)) | _ => none) : Option ri_X) = some (.inr (.inr rv)) := h
    (repeat' split at h) <;> cases h
  | iload j =>
    replace h : ((match (generalizing := false) ri_ld lv j with | some (.int x) => some (.inl (pc + 2, lv, .int x :: st, M, k, n)) | _ => none) : Option ri_X) = some (.inr (.inr rv)) := h
    (repeat' split at h) <;> cases h
  | lload_n j =>
    replace h : ((match (generalizing := false) ri_ld lv j with | some (.long x) => some (.inl (pc + 1, lv, .long x :: st, M, k, n)) | _ => none) : Option ri_X) = some (.inr (.inr rv)) := h
    (repeat' split at h) <;> cases h
  | lload j =>
    replace h : ((match (generalizing := false) ri_ld lv j with | some (.long x) => some (.inl (pc + 2, lv, .long x :: st, M, k, n)) | _ => none) : Option ri_X) = some (.inr (.inr rv)) := h
    (repeat' split at h) <;> cases h
  | aload_n j =>
    replace h : ((match (generalizing := false) ri_ld lv j with | some (.ref x) => some (.inl (pc + 1, lv, .ref x :: st, M, k, n)) | some .null => some (.inl (pc + 1, lv, .null :: st, M, k, n)) | _ => none) : Option ri_X) = some (.inr (.inr rv)) := h
    (repeat' split at h) <;> cases h
  | aload j =>
    replace h : ((match (generalizing := false) ri_ld lv j with | some (.ref x) => some (.inl (pc + 2, lv, .ref x :: st, M, k, n)) | some .null => some (.inl (pc + 2, lv, .null :: st, M, k, n)) | _ => none) : Option ri_X) = some (.inr (.inr rv)) := h
    (repeat' split at h) <;> cases h
  | istore_n j =>
    replace h : ((match (generalizing := false) st with | .int x :: r => some (.inl (pc + 1, ri_st1 lv j (.int x), r, M, k, n)) | _ => none) : Option ri_X) = some (.inr (.inr rv)) := h
    (repeat' split at h) <;> cases h
  | istore j =>
    replace h : ((match (generalizing := false) st with | .int x :: r => some (.inl (pc + 2, ri_st1 lv j (.int x), r, M, k, n)) | _ => none) : Option ri_X) = some (.inr (.inr rv)) := h
    (repeat' split at h) <;> cases h
  | lstore_n j =>
    replace h : ((match (generalizing := false) st with | .long x :: r => some (.inl (pc + 1, ri_st2 lv j (.long x), r, M, k, n)) | _ => none) : Option ri_X) = some (.inr (.inr rv)) := h
    (repeat' split at h) <;> cases h
  | lstore j =>
    replace h : ((match (generalizing := false) st with | .long x :: r => some (.inl (pc + 2, ri_st2 lv j (.long x), r, M, k, n)) | _ => none) : Option ri_X) = some (.inr (.inr rv)) := h
    (repeat' split at h) <;> cases h
  | astore_n j =>
    replace h : ((match (generalizing := false) st with | .ref x :: r => some (.inl (pc + 1, ri_st1 lv j (.ref x), r, M, k, n)) | .null :: r => some (.inl (pc + 1, ri_st1 lv j .null, r, M, k, n)) | _ => none) : Option ri_X) = some (.inr (.inr rv)) := h
    (repeat' split at h) <;> cases h
  | astore j =>
    replace h : ((match (generalizing := false) st with | .ref x :: r => some (.inl (pc + 2, ri_st1 lv j (.ref x), r, M, k, n)) | .null :: r => some (.inl (pc + 2, ri_st1 lv j .null, r, M, k, n)) | _ => none) : Option ri_X) = some (.inr (.inr rv)) := h
    (repeat' split at h) <;> cases h
  | iinc j v =>
    replace h : ((match (generalizing := false) ri_ld lv j with | some (.int x) => some (.inl (pc + 3, ri_st1 lv j (.int (x + Int32.ofInt v)), st, M, k, n)) | _ => none) : Option ri_X) = some (.inr (.inr rv)) := h
    (repeat' split at h) <;> cases h
  | iadd  =>
    replace h : ((match (generalizing := false) st with | .int y :: .int x :: r => some (.inl (pc + 1, lv, .int (x + y) :: r, M, k, n)) | _ => none) : Option ri_X) = some (.inr (.inr rv)) := h
    (repeat' split at h) <;> cases h
  | isub  =>
    replace h : ((match (generalizing := false) st with | .int y :: .int x :: r => some (.inl (pc + 1, lv, .int (x - y) :: r, M, k, n)) | _ => none) : Option ri_X) = some (.inr (.inr rv)) := h
    (repeat' split at h) <;> cases h
  | imul  =>
    replace h : ((match (generalizing := false) st with | .int y :: .int x :: r => some (.inl (pc + 1, lv, .int (x * y) :: r, M, k, n)) | _ => none) : Option ri_X) = some (.inr (.inr rv)) := h
    (repeat' split at h) <;> cases h
  | iand  =>
    replace h : ((match (generalizing := false) st with | .int y :: .int x :: r => some (.inl (pc + 1, lv, .int (x &&& y) :: r, M, k, n)) | _ => none) : Option ri_X) = some (.inr (.inr rv)) := h
    (repeat' split at h) <;> cases h
  | ior  =>
    replace h : ((match (generalizing := false) st with | .int y :: .int x :: r => some (.inl (pc + 1, lv, .int (x ||| y) :: r, M, k, n)) | _ => none) : Option ri_X) = some (.inr (.inr rv)) := h
    (repeat' split at h) <;> cases h
  | ixor  =>
    replace h : ((match (generalizing := false) st with | .int y :: .int x :: r => some (.inl (pc + 1, lv, .int (x ^^^ y) :: r, M, k, n)) | _ => none) : Option ri_X) = some (.inr (.inr rv)) := h
    (repeat' split at h) <;> cases h
  | ishl  =>
    replace h : ((match (generalizing := false) st with | .int y :: .int x :: r => some (.inl (pc + 1, lv, .int (x <<< (y &&& 31)) :: r, M, k, n)) | _ => none) : Option ri_X) = some (.inr (.inr rv)) := h
    (repeat' split at h) <;> cases h
  | ishr  =>
    replace h : ((match (generalizing := false) st with | .int y :: .int x :: r => some (.inl (pc + 1, lv, .int (x >>> (y &&& 31)) :: r, M, k, n)) | _ => none) : Option ri_X) = some (.inr (.inr rv)) := h
    (repeat' split at h) <;> cases h
  | iushr  =>
    replace h : ((match (generalizing := false) st with | .int y :: .int x :: r => some (.inl (pc + 1, lv, .int ((x.toUInt32 >>> (y.toUInt32 &&& Int32.toUInt32 31)).toInt32) :: r, M, k, n)) | _ => none) : Option ri_X) = some (.inr (.inr rv)) := h
    (repeat' split at h) <;> cases h
  | ineg  =>
    replace h : ((match (generalizing := false) st with | .int x :: r => some (.inl (pc + 1, lv, .int (-x) :: r, M, k, n)) | _ => none) : Option ri_X) = some (.inr (.inr rv)) := h
    (repeat' split at h) <;> cases h
  | idiv  =>
    replace h : ((match (generalizing := false) st with | .int y :: .int x :: r => if y = 0 then none else some (.inl (pc + 1, lv, .int (x / y) :: r, M, k, n)) | _ => none) : Option ri_X) = some (.inr (.inr rv)) := h
    (repeat' split at h) <;> cases h
  | irem  =>
    replace h : ((match (generalizing := false) st with | .int y :: .int x :: r => if y = 0 then none else some (.inl (pc + 1, lv, .int (x - x / y * y) :: r, M, k, n)) | _ => none) : Option ri_X) = some (.inr (.inr rv)) := h
    (repeat' split at h) <;> cases h
  | ladd  =>
    replace h : ((match (generalizing := false) st with | .long y :: .long x :: r => some (.inl (pc + 1, lv, .long (x + y) :: r, M, k, n)) | _ => none) : Option ri_X) = some (.inr (.inr rv)) := h
    (repeat' split at h) <;> cases h
  | lsub  =>
    replace h : ((match (generalizing := false) st with | .long y :: .long x :: r => some (.inl (pc + 1, lv, .long (x - y) :: r, M, k, n)) | _ => none) : Option ri_X) = some (.inr (.inr rv)) := h
    (repeat' split at h) <;> cases h
  | lmul  =>
    replace h : ((match (generalizing := false) st with | .long y :: .long x :: r => some (.inl (pc + 1, lv, .long (x * y) :: r, M, k, n)) | _ => none) : Option ri_X) = some (.inr (.inr rv)) := h
    (repeat' split at h) <;> cases h
  | land  =>
    replace h : ((match (generalizing := false) st with | .long y :: .long x :: r => some (.inl (pc + 1, lv, .long (x &&& y) :: r, M, k, n)) | _ => none) : Option ri_X) = some (.inr (.inr rv)) := h
    (repeat' split at h) <;> cases h
  | lor  =>
    replace h : ((match (generalizing := false) st with | .long y :: .long x :: r => some (.inl (pc + 1, lv, .long (x ||| y) :: r, M, k, n)) | _ => none) : Option ri_X) = some (.inr (.inr rv)) := h
    (repeat' split at h) <;> cases h
  | ldiv  =>
    replace h : ((match (generalizing := false) st with | .long y :: .long x :: r => if y = 0 then none else some (.inl (pc + 1, lv, .long (x / y) :: r, M, k, n)) | _ => none) : Option ri_X) = some (.inr (.inr rv)) := h
    (repeat' split at h) <;> cases h
  | lrem  =>
    replace h : ((match (generalizing := false) st with | .long y :: .long x :: r => if y = 0 then none else some (.inl (pc + 1, lv, .long (x - x / y * y) :: r, M, k, n)) | _ => none) : Option ri_X) = some (.inr (.inr rv)) := h
    (repeat' split at h) <;> cases h
  | lshl  =>
    replace h : ((match (generalizing := false) st with | .int y :: .long x :: r => some (.inl (pc + 1, lv, .long (x <<< (y.toInt64 &&& 63)) :: r, M, k, n)) | _ => none) : Option ri_X) = some (.inr (.inr rv)) := h
    (repeat' split at h) <;> cases h
  | lshr  =>
    replace h : ((match (generalizing := false) st with | .int y :: .long x :: r => some (.inl (pc + 1, lv, .long (x >>> (y.toInt64 &&& 63)) :: r, M, k, n)) | _ => none) : Option ri_X) = some (.inr (.inr rv)) := h
    (repeat' split at h) <;> cases h
  | lcmp  =>
    replace h : ((match (generalizing := false) st with | .long y :: .long x :: r => some (.inl (pc + 1, lv, .int (lg_cmp x y) :: r, M, k, n)) | _ => none) : Option ri_X) = some (.inr (.inr rv)) := h
    (repeat' split at h) <;> cases h
  | i2l  =>
    replace h : ((match (generalizing := false) st with | .int x :: r => some (.inl (pc + 1, lv, .long x.toInt64 :: r, M, k, n)) | _ => none) : Option ri_X) = some (.inr (.inr rv)) := h
    (repeat' split at h) <;> cases h
  | l2i  =>
    replace h : ((match (generalizing := false) st with | .long x :: r => some (.inl (pc + 1, lv, .int x.toInt32 :: r, M, k, n)) | _ => none) : Option ri_X) = some (.inr (.inr rv)) := h
    (repeat' split at h) <;> cases h
  | i2c  =>
    replace h : ((match (generalizing := false) st with | .int x :: r => some (.inl (pc + 1, lv, .int (x.toUInt32 % 65536).toInt32 :: r, M, k, n)) | _ => none) : Option ri_X) = some (.inr (.inr rv)) := h
    (repeat' split at h) <;> cases h
  | dup  =>
    replace h : ((match (generalizing := false) st with | v :: r => if v.category = 1 then some (.inl (pc + 1, lv, v :: v :: r, M, k, n)) else none | _ => none) : Option ri_X) = some (.inr (.inr rv)) := h
    (repeat' split at h) <;> cases h
  | pop  =>
    replace h : ((match (generalizing := false) st with | v :: r => if v.category = 1 then some (.inl (pc + 1, lv, r, M, k, n)) else none | _ => none) : Option ri_X) = some (.inr (.inr rv)) := h
    (repeat' split at h) <;> cases h
  | dup2  =>
    replace h : ((match (generalizing := false) st with | .long v :: r => some (.inl (pc + 1, lv, .long v :: .long v :: r, M, k, n)) | v :: u :: r => if v.category = 1 ∧ u.category = 1 then some (.inl (pc + 1, lv, v :: u :: v :: u :: r, M, k, n)) else none | _ => none) : Option ri_X) = some (.inr (.inr rv)) := h
    (repeat' split at h) <;> cases h
  | goto u0 =>
    replace h : (some (.inl (a, lv, st, M, k, n)) : Option ri_X) = some (.inr (.inr rv)) := h
    (repeat' split at h) <;> cases h
  | ifnull u0 =>
    replace h : ((match (generalizing := false) st with | .null :: r => some (.inl (a, lv, r, M, k, n)) | .ref _ :: r => some (.inl (pc + 3, lv, r, M, k, n)) | _ => none) : Option ri_X) = some (.inr (.inr rv)) := h
    (repeat' split at h) <;> cases h
  | ifnonnull u0 =>
    replace h : ((match (generalizing := false) st with | .null :: r => some (.inl (pc + 3, lv, r, M, k, n)) | .ref _ :: r => some (.inl (a, lv, r, M, k, n)) | _ => none) : Option ri_X) = some (.inr (.inr rv)) := h
    (repeat' split at h) <;> cases h
  | tableswitch u0 lo hi offs =>
    replace h : ((match (generalizing := false) st with | .int x :: r => if x.toInt < lo ∨ hi < x.toInt then some (.inl (a, lv, r, M, k, n)) else (match (generalizing := false) offs[(x.toInt - lo).toNat]? with | some off => some (.inl (((pc : Int) + off).toNat, lv, r, M, k, n)) | none => none) | _ => none) : Option ri_X) = some (.inr (.inr rv)) := h
    (repeat' split at h) <;> cases h
  | getfield u0 =>
    replace h : ((match (generalizing := false) st with | .ref q :: r => (match (generalizing := false) M[q]? with | some (.inr (ci, fs)) => if ci = a ∧ q < 1000000 then (match (generalizing := false) fs[b]? with | some v => some (.inl (pc + 3, lv, v :: r, M, k, n)) | none => none) else none | _ => none) | _ => none) : Option ri_X) = some (.inr (.inr rv)) := h
    (repeat' split at h) <;> cases h
  | putfield u0 =>
    replace h : ((match (generalizing := false) st with | v :: .ref q :: r => (match (generalizing := false) M[q]? with | some (.inr (ci, fs)) => if ci = a ∧ q < 1000000 ∧ b < fs.length ∧ ri_fit d v = true then some (.inl (pc + 3, lv, r, M.set q (.inr (ci, fs.set b v)), k, n)) else none | _ => none) | _ => none) : Option ri_X) = some (.inr (.inr rv)) := h
    (repeat' split at h) <;> cases h
  | iaload  =>
    replace h : ((match (generalizing := false) st with | .int i :: .ref q :: r => (match (generalizing := false) M[q]? with | some (.inl (t, .inl xs)) => if t = 0 ∧ q < 1000000 ∧ ¬ i < 0 then (match (generalizing := false) xs[i.toNatClampNeg]? with | some v => some (.inl (pc + 1, lv, .int v :: r, M, k, n)) | none => none) else none | none => if q = 2000000 ∧ ¬ i < 0 then (match (generalizing := false) X with | some xs => (match (generalizing := false) xs[i.toNatClampNeg]? with | some v => some (.inl (pc + 1, lv, .int v :: r, M, k, n)) | none => none) | none => none) else none | _ => none) | _ => none) : Option ri_X) = some (.inr (.inr rv)) := h
    (repeat' split at h) <;> cases h
  | caload  =>
    replace h : ((match (generalizing := false) st with | .int i :: .ref q :: r => (match (generalizing := false) M[q]? with | some (.inl (t, .inl xs)) => if t = 2 ∧ q < 1000000 ∧ ¬ i < 0 then (match (generalizing := false) xs[i.toNatClampNeg]? with | some v => some (.inl (pc + 1, lv, .int v :: r, M, k, n)) | none => none) else none | _ => none) | _ => none) : Option ri_X) = some (.inr (.inr rv)) := h
    (repeat' split at h) <;> cases h
  | baload  =>
    replace h : ((match (generalizing := false) st with | .int i :: .ref q :: r => (match (generalizing := false) M[q]? with | some (.inl (t, .inl xs)) => if t = 3 ∧ q < 1000000 ∧ ¬ i < 0 then (match (generalizing := false) xs[i.toNatClampNeg]? with | some v => some (.inl (pc + 1, lv, .int v :: r, M, k, n)) | none => none) else none | _ => none) | _ => none) : Option ri_X) = some (.inr (.inr rv)) := h
    (repeat' split at h) <;> cases h
  | laload  =>
    replace h : ((match (generalizing := false) st with | .int i :: .ref q :: r => (match (generalizing := false) M[q]? with | some (.inl (t, .inr (.inl xs))) => if t = 1 ∧ q < 1000000 ∧ ¬ i < 0 then (match (generalizing := false) xs[i.toNatClampNeg]? with | some v => some (.inl (pc + 1, lv, .long v :: r, M, k, n)) | none => none) else none | _ => none) | _ => none) : Option ri_X) = some (.inr (.inr rv)) := h
    (repeat' split at h) <;> cases h
  | aaload  =>
    replace h : ((match (generalizing := false) st with | .int i :: .ref q :: r => (match (generalizing := false) M[q]? with | some (.inl (t, .inr (.inr xs))) => if 4 ≤ t ∧ t < 7 ∧ q < 1000000 ∧ ¬ i < 0 then (match (generalizing := false) xs[i.toNatClampNeg]? with | some v => some (.inl (pc + 1, lv, ri_rv v :: r, M, k, n)) | none => none) else none | _ => none) | _ => none) : Option ri_X) = some (.inr (.inr rv)) := h
    (repeat' split at h) <;> cases h
  | iastore  =>
    replace h : ((match (generalizing := false) st with | .int x :: .int i :: .ref q :: r => (match (generalizing := false) M[q]? with | some (.inl (t, .inl xs)) => if t = 0 ∧ q < 1000000 ∧ ¬ i < 0 ∧ i.toNatClampNeg < xs.length then some (.inl (pc + 1, lv, r, M.set q (.inl (t, .inl (xs.set i.toNatClampNeg x))), k, n)) else none | _ => none) | _ => none) : Option ri_X) = some (.inr (.inr rv)) := h
    (repeat' split at h) <;> cases h
  | castore  =>
    replace h : ((match (generalizing := false) st with | .int x :: .int i :: .ref q :: r => (match (generalizing := false) M[q]? with | some (.inl (t, .inl xs)) => if t = 2 ∧ q < 1000000 ∧ ¬ i < 0 ∧ i.toNatClampNeg < xs.length then some (.inl (pc + 1, lv, r, M.set q (.inl (t, .inl (xs.set i.toNatClampNeg (vp_nar .char x)))), k, n)) else none | _ => none) | _ => none) : Option ri_X) = some (.inr (.inr rv)) := h
    (repeat' split at h) <;> cases h
  | bastore  =>
    replace h : ((match (generalizing := false) st with | .int x :: .int i :: .ref q :: r => (match (generalizing := false) M[q]? with | some (.inl (t, .inl xs)) => if t = 3 ∧ q < 1000000 ∧ ¬ i < 0 ∧ i.toNatClampNeg < xs.length then some (.inl (pc + 1, lv, r, M.set q (.inl (t, .inl (xs.set i.toNatClampNeg (vp_nar .boolean x)))), k, n)) else none | _ => none) | _ => none) : Option ri_X) = some (.inr (.inr rv)) := h
    (repeat' split at h) <;> cases h
  | lastore  =>
    replace h : ((match (generalizing := false) st with | .long x :: .int i :: .ref q :: r => (match (generalizing := false) M[q]? with | some (.inl (t, .inr (.inl xs))) => if t = 1 ∧ q < 1000000 ∧ ¬ i < 0 ∧ i.toNatClampNeg < xs.length then some (.inl (pc + 1, lv, r, M.set q (.inl (t, .inr (.inl (xs.set i.toNatClampNeg x)))), k, n)) else none | _ => none) | _ => none) : Option ri_X) = some (.inr (.inr rv)) := h
    (repeat' split at h) <;> cases h
  | aastore  =>
    replace h : ((match (generalizing := false) st with | .ref x :: .int i :: .ref q :: r => (match (generalizing := false) M[q]?, M[x]? with | some (.inl (t, .inr (.inr xs))), some (.inr (ci, _)) => if t = 6 ∧ ci = a ∧ q < 1000000 ∧ x < 1000000 ∧ ¬ i < 0 ∧ i.toNatClampNeg < xs.length then some (.inl (pc + 1, lv, r, M.set q (.inl (t, .inr (.inr (xs.set i.toNatClampNeg (some x))))), k, n)) else none | _, _ => none) | _ => none) : Option ri_X) = some (.inr (.inr rv)) := h
    (repeat' split at h) <;> cases h
  | arraylength  =>
    replace h : ((match (generalizing := false) st with | .ref q :: r => if q = 2000000 then (match (generalizing := false) X with | some xs => some (.inl (pc + 1, lv, .int (Int32.ofNat xs.length) :: r, M, k, n)) | none => none) else (match (generalizing := false) M[q]? with | some (.inl (t, .inl xs)) => if t < 4 ∧ q < 1000000 then some (.inl (pc + 1, lv, .int (Int32.ofNat xs.length) :: r, M, k, n)) else none | some (.inl (t, .inr (.inl xs))) => if t < 4 ∧ q < 1000000 then some (.inl (pc + 1, lv, .int (Int32.ofNat xs.length) :: r, M, k, n)) else none | _ => none) | _ => none) : Option ri_X) = some (.inr (.inr rv)) := h
    (repeat' split at h) <;> cases h
  | new u0 =>
    replace h : ((match (generalizing := false) Fd[a]? with | some fs => if M.length < 1000000 then some (.inl (pc + 3, lv, .ref M.length :: st, M ++ [.inr (a, fs)], k + 1, n + fs.length)) else none | none => none) : Option ri_X) = some (.inr (.inr rv)) := h
    (repeat' split at h) <;> cases h
  | newarray u0 =>
    replace h : ((match (generalizing := false) st with | .int x :: r => if x < 0 ∨ 1000000 ≤ M.length ∨ 60000 < x.toNatClampNeg then none else if a = 1 then some (.inl (pc + 2, lv, .ref M.length :: r, M ++ [.inl (1, .inr (.inl (List.replicate x.toNatClampNeg 0)))], k + 1, n + x.toNatClampNeg)) else some (.inl (pc + 2, lv, .ref M.length :: r, M ++ [.inl (a, .inl (List.replicate x.toNatClampNeg 0))], k + 1, n + x.toNatClampNeg)) | _ => none) : Option ri_X) = some (.inr (.inr rv)) := h
    (repeat' split at h) <;> cases h
  | anewarray u0 =>
    replace h : ((match (generalizing := false) st with | .int x :: r => if x < 0 ∨ 1000000 ≤ M.length ∨ 60000 < x.toNatClampNeg then none else some (.inl (pc + 3, lv, .ref M.length :: r, M ++ [.inl (6, .inr (.inr (List.replicate x.toNatClampNeg none)))], k + 1, n + x.toNatClampNeg)) | _ => none) : Option ri_X) = some (.inr (.inr rv)) := h
    (repeat' split at h) <;> cases h
  | multianewarray u0 u1 =>
    replace h : ((match (generalizing := false) st with | .int y :: .int x :: r => if x < 0 ∨ y < 0 ∨ 900000 ≤ M.length ∨ 60000 < x.toNatClampNeg ∨ 60000 < y.toNatClampNeg then none else some (.inl (pc + 4, lv, .ref M.length :: r, M ++ ((.inl (a, .inr (.inr ((List.range x.toNatClampNeg).map (fun i => some (M.length + 1 + i)))))) :: List.replicate x.toNatClampNeg (ri_row b y.toNatClampNeg)), k + 1 + x.toNatClampNeg, n + x.toNatClampNeg + x.toNatClampNeg * y.toNatClampNeg)) | _ => none) : Option ri_X) = some (.inr (.inr rv)) := h
    (repeat' split at h) <;> cases h
  | invokespecial u0 =>
    replace h : (if c0 = 2 then (match (generalizing := false) st with | [.ref q] => some (.inl (pc + 3, lv, [], M, k, n)) | _ => none) else if c0 = 5 then none else ri_cl a b (pc + 3) lv st M k n 1 d : Option ri_X) = some (.inr (.inr rv)) := h
    split at h
    · (repeat' split at h) <;> cases h
    · split at h
      · cases h
      · exact absurd h ri_cl_nr
  | invokevirtual u0 =>
    replace h : (if c0 = 9 then none else ri_cl a b (pc + 3) lv st M k n 2 d : Option ri_X) = some (.inr (.inr rv)) := h
    split at h
    · cases h
    · exact absurd h ri_cl_nr
  | invokestatic u0 =>
    replace h : (if c0 = 4 then (match (generalizing := false) st with | [.int z, .int dp, .ref q1, .int sp, .ref q0] => (match (generalizing := false) M[q0]?, M[q1]? with | some (.inl (t0, .inl xs)), some (.inl (t1, .inl ys)) => if t0 = 0 ∧ t1 = 0 ∧ q0 < 1000000 ∧ q1 < 1000000 ∧ ¬ sp < 0 ∧ ¬ dp < 0 ∧ ¬ z < 0 ∧ sp.toNatClampNeg + z.toNatClampNeg ≤ xs.length ∧ dp.toNatClampNeg + z.toNatClampNeg ≤ ys.length then some (.inl (pc + 3, lv, [], M.set q1 (.inl (t1, .inl (ri_cpy xs ys sp.toNatClampNeg dp.toNatClampNeg z.toNatClampNeg))), k, n)) else none | _, _ => none) | _ => none) else if c0 = 6 then (match (generalizing := false) st with | .int y :: .int x :: r => if (r.map (fun v => v.category)).sum ≤ 8 then some (.inl (pc + 3, lv, .int (if x < y then y else x) :: r, M, k, n)) else none | _ => none) else if c0 = 7 then (match (generalizing := false) st with | .int y :: .int x :: r => if (r.map (fun v => v.category)).sum ≤ 8 then some (.inl (pc + 3, lv, .int (if y < x then y else x) :: r, M, k, n)) else none | _ => none) else if c0 = 8 then (match (generalizing := false) st with | .long y :: .long x :: r => if (r.map (fun v => v.category)).sum ≤ 8 then some (.inl (pc + 3, lv, .long (if y < x then x else y) :: r, M, k, n)) else none | _ => none) else ri_cl a b (pc + 3) lv st M k n 0 d : Option ri_X) = some (.inr (.inr rv)) := h
    split at h
    · (repeat' split at h) <;> cases h
    · split at h
      · (repeat' split at h) <;> cases h
      · split at h
        · (repeat' split at h) <;> cases h
        · split at h
          · (repeat' split at h) <;> cases h
          · exact absurd h ri_cl_nr
  | ireturn  =>
    replace h : ((match (generalizing := false) st with | [.int x] => if rk = 1 then some (.inr (.inr (some (.int x)))) else if rk = 4 ∧ (x = 0 ∨ x = 1) then some (.inr (.inr (some (.int x)))) else none | _ => none) : Option ri_X) = some (.inr (.inr rv)) := h
    split at h
    · rename_i x
      split at h
      · rename_i hc
        cases h
        exact Or.inl ⟨rfl, x, rfl, rfl, Or.inl hc⟩
      · split at h
        · rename_i hc
          cases h
          exact Or.inl ⟨rfl, x, rfl, rfl, Or.inr hc⟩
        · cases h
    · cases h
  | lreturn  =>
    replace h : ((match (generalizing := false) st with | [.long x] => if rk = 2 then some (.inr (.inr (some (.long x)))) else none | _ => none) : Option ri_X) = some (.inr (.inr rv)) := h
    split at h
    · rename_i x
      split at h
      · rename_i hc
        cases h
        exact Or.inr (Or.inl ⟨rfl, x, rfl, rfl, hc⟩)
      · cases h
    · cases h
  | areturn  =>
    replace h : ((match (generalizing := false) st with | [.ref x] => if rk = 3 then some (.inr (.inr (some (.ref x)))) else none | [.null] => if rk = 3 then some (.inr (.inr (some .null))) else none | _ => none) : Option ri_X) = some (.inr (.inr rv)) := h
    split at h
    · rename_i x
      split at h
      · rename_i hc
        cases h
        exact Or.inr (Or.inr (Or.inl ⟨rfl, hc, Or.inl ⟨x, rfl, rfl⟩⟩))
      · cases h
    · split at h
      · rename_i hc
        cases h
        exact Or.inr (Or.inr (Or.inl ⟨rfl, hc, Or.inr ⟨rfl, rfl⟩⟩))
      · cases h
    · cases h
  | return_  =>
    replace h : ((match (generalizing := false) st with | [] => if rk = 0 then some (.inr (.inr none)) else none | _ => none) : Option ri_X) = some (.inr (.inr rv)) := h
    split at h
    · split at h
      · rename_i hc
        cases h
        exact Or.inr (Or.inr (Or.inr ⟨rfl, rfl, rfl, hc⟩))
      · cases h
    · cases h
  | ifCond cd off =>
    cases cd with
    | eq =>
      replace h : ((match (generalizing := false) st with | .int x :: r => if x = 0 then some (.inl (a, lv, r, M, k, n)) else some (.inl (pc + 3, lv, r, M, k, n)) | _ => none) : Option ri_X) = some (.inr (.inr rv)) := h
      (repeat' split at h) <;> cases h
    | ne =>
      replace h : ((match (generalizing := false) st with | .int x :: r => if ¬ x = 0 then some (.inl (a, lv, r, M, k, n)) else some (.inl (pc + 3, lv, r, M, k, n)) | _ => none) : Option ri_X) = some (.inr (.inr rv)) := h
      (repeat' split at h) <;> cases h
    | lt =>
      replace h : ((match (generalizing := false) st with | .int x :: r => if x < 0 then some (.inl (a, lv, r, M, k, n)) else some (.inl (pc + 3, lv, r, M, k, n)) | _ => none) : Option ri_X) = some (.inr (.inr rv)) := h
      (repeat' split at h) <;> cases h
    | ge =>
      replace h : ((match (generalizing := false) st with | .int x :: r => if 0 ≤ x then some (.inl (a, lv, r, M, k, n)) else some (.inl (pc + 3, lv, r, M, k, n)) | _ => none) : Option ri_X) = some (.inr (.inr rv)) := h
      (repeat' split at h) <;> cases h
    | gt =>
      replace h : ((match (generalizing := false) st with | .int x :: r => if 0 < x then some (.inl (a, lv, r, M, k, n)) else some (.inl (pc + 3, lv, r, M, k, n)) | _ => none) : Option ri_X) = some (.inr (.inr rv)) := h
      (repeat' split at h) <;> cases h
    | le =>
      replace h : ((match (generalizing := false) st with | .int x :: r => if x ≤ 0 then some (.inl (a, lv, r, M, k, n)) else some (.inl (pc + 3, lv, r, M, k, n)) | _ => none) : Option ri_X) = some (.inr (.inr rv)) := h
      (repeat' split at h) <;> cases h
  | if_icmp cd off =>
    cases cd with
    | eq =>
      replace h : ((match (generalizing := false) st with | .int y :: .int x :: r => if x = y then some (.inl (a, lv, r, M, k, n)) else some (.inl (pc + 3, lv, r, M, k, n)) | _ => none) : Option ri_X) = some (.inr (.inr rv)) := h
      (repeat' split at h) <;> cases h
    | ne =>
      replace h : ((match (generalizing := false) st with | .int y :: .int x :: r => if ¬ x = y then some (.inl (a, lv, r, M, k, n)) else some (.inl (pc + 3, lv, r, M, k, n)) | _ => none) : Option ri_X) = some (.inr (.inr rv)) := h
      (repeat' split at h) <;> cases h
    | lt =>
      replace h : ((match (generalizing := false) st with | .int y :: .int x :: r => if x < y then some (.inl (a, lv, r, M, k, n)) else some (.inl (pc + 3, lv, r, M, k, n)) | _ => none) : Option ri_X) = some (.inr (.inr rv)) := h
      (repeat' split at h) <;> cases h
    | ge =>
      replace h : ((match (generalizing := false) st with | .int y :: .int x :: r => if y ≤ x then some (.inl (a, lv, r, M, k, n)) else some (.inl (pc + 3, lv, r, M, k, n)) | _ => none) : Option ri_X) = some (.inr (.inr rv)) := h
      (repeat' split at h) <;> cases h
    | gt =>
      replace h : ((match (generalizing := false) st with | .int y :: .int x :: r => if y < x then some (.inl (a, lv, r, M, k, n)) else some (.inl (pc + 3, lv, r, M, k, n)) | _ => none) : Option ri_X) = some (.inr (.inr rv)) := h
      (repeat' split at h) <;> cases h
    | le =>
      replace h : ((match (generalizing := false) st with | .int y :: .int x :: r => if x ≤ y then some (.inl (a, lv, r, M, k, n)) else some (.inl (pc + 3, lv, r, M, k, n)) | _ => none) : Option ri_X) = some (.inr (.inr rv)) := h
      (repeat' split at h) <;> cases h
  | _ =>
    replace h : (none : Option ri_X) = some (.inr (.inr rv)) := h
    cases h
set_option maxRecDepth 100000 in
set_option maxHeartbeats 40000000 in
theorem ri_step_call {X : Option (List Int32)} {Fd : List (List Value)} {rk : Nat} {ins : Instr} {a b c0 d pc : Nat} {lv : ri_L} {st : List Value} {M : ri_M} {k n : Nat} {y : Nat} {as : List Value} {F' : ri_F} (h : ri_step X Fd rk (ins, a, b, c0, d) (pc, lv, st, M, k, n) = some (.inr (.inl (y, as, F')))) : (∃ idx, ins = .invokespecial idx ∧ ¬ c0 = 2 ∧ ri_cl a b (pc + 3) lv st M k n 1 d = some (.inr (.inl (y, as, F')))) ∨ (∃ idx, ins = .invokevirtual idx ∧ ¬ c0 = 9 ∧ ri_cl a b (pc + 3) lv st M k n 2 d = some (.inr (.inl (y, as, F')))) ∨ (∃ idx, ins = .invokestatic idx ∧ (¬ c0 = 4 ∧ ¬ c0 = 6 ∧ ¬ c0 = 7 ∧ ¬ c0 = 8) ∧ ri_cl a b (pc + 3) lv st M k n 0 d = some (.inr (.inl (y, as, F')))) := by
  cases ins with
  | iconst v =>
    replace h : (some (.inl (pc + 1, lv, .int (Int32.ofInt v) :: st, M, k, n)) : Option ri_X) = some (.inr (.inl (y, as, F'))) := h
    (repeat' split at h) <;> cases h
  | bipush v =>
    replace h : (some (.inl (pc + 2, lv, .int (Int8.ofInt v).toInt32 :: st, M, k, n)) : Option ri_X) = some (.inr (.inl (y, as, F'))) := h
    (repeat' split at h) <;> cases h
  | sipush v =>
    replace h : (some (.inl (pc + 3, lv, .int (Int16.ofInt v).toInt32 :: st, M, k, n)) : Option ri_X) = some (.inr (.inl (y, as, F'))) := h
    (repeat' split at h) <;> cases h
  | lconst v =>
    replace h : (some (.inl (pc + 1, lv, .long (Int64.ofNat (v : Nat)) :: st, M, k, n)) : Option ri_X) = some (.inr (.inl (y, as, F'))) := h
    (repeat' split at h) <;> cases h
  | aconst_null  =>
    replace h : (some (.inl (pc + 1, lv, .null :: st, M, k, n)) : Option ri_X) = some (.inr (.inl (y, as, F'))) := h
    (repeat' split at h) <;> cases h
  | ldc u0 =>
    replace h : (if c0 = 0 then some (.inl (pc + 2, lv, .int (Int32.ofNat a) :: st, M, k, n)) else none : Option ri_X) = some (.inr (.inl (y, as, F'))) := h
    (repeat' split at h) <;> cases h
  | ldc_w u0 =>
    replace h : (if c0 = 0 then some (.inl (pc + 3, lv, .int (Int32.ofNat a) :: st, M, k, n)) else none : Option ri_X) = some (.inr (.inl (y, as, F'))) := h
    (repeat' split at h) <;> cases h
  | ldc2_w u0 =>
    replace h : (some (.inl (pc + 3, lv, .long (Int64.ofNat a) :: st, M, k, n)) : Option ri_X) = some (.inr (.inl (y, as, F'))) := h
    (repeat' split at h) <;> cases h
  | iload_n j =>
    replace h : ((match (generalizing := false) ri_ld lv j with | some (.int x) => some (.inl (pc + 1, lv, .int x :: st, M, k, n)) | _ => none) : Option ri_X) = some (.inr (.inl (y, as, F'))) := h
    (repeat' split at h) <;> cases h
  | iload j =>
    replace h : ((match (generalizing := false) ri_ld lv j with | some (.int x) => some (.inl (pc + 2, lv, .int x :: st, M, k, n)) | _ => none) : Option ri_X) = some (.inr (.inl (y, as, F'))) := h
    (repeat' split at h) <;> cases h
  | lload_n j =>
    replace h : ((match (generalizing := false) ri_ld lv j with | some (.long x) => some (.inl (pc + 1, lv, .long x :: st, M, k, n)) | _ => none) : Option ri_X) = some (.inr (.inl (y, as, F'))) := h
    (repeat' split at h) <;> cases h
  | lload j =>
    replace h : ((match (generalizing := false) ri_ld lv j with | some (.long x) => some (.inl (pc + 2, lv, .long x :: st, M, k, n)) | _ => none) : Option ri_X) = some (.inr (.inl (y, as, F'))) := h
    (repeat' split at h) <;> cases h
  | aload_n j =>
    replace h : ((match (generalizing := false) ri_ld lv j with | some (.ref x) => some (.inl (pc + 1, lv, .ref x :: st, M, k, n)) | some .null => some (.inl (pc + 1, lv, .null :: st, M, k, n)) | _ => none) : Option ri_X) = some (.inr (.inl (y, as, F'))) := h
    (repeat' split at h) <;> cases h
  | aload j =>
    replace h : ((match (generalizing := false) ri_ld lv j with | some (.ref x) => some (.inl (pc + 2, lv, .ref x :: st, M, k, n)) | some .null => some (.inl (pc + 2, lv, .null :: st, M, k, n)) | _ => none) : Option ri_X) = some (.inr (.inl (y, as, F'))) := h
    (repeat' split at h) <;> cases h
  | istore_n j =>
    replace h : ((match (generalizing := false) st with | .int x :: r => some (.inl (pc + 1, ri_st1 lv j (.int x), r, M, k, n)) | _ => none) : Option ri_X) = some (.inr (.inl (y, as, F'))) := h
    (repeat' split at h) <;> cases h
  | istore j =>
    replace h : ((match (generalizing := false) st with | .int x :: r => some (.inl (pc + 2, ri_st1 lv j (.int x), r, M, k, n)) | _ => none) : Option ri_X) = some (.inr (.inl (y, as, F'))) := h
    (repeat' split at h) <;> cases h
  | lstore_n j =>
    replace h : ((match (generalizing := false) st with | .long x :: r => some (.inl (pc + 1, ri_st2 lv j (.long x), r, M, k, n)) | _ => none) : Option ri_X) = some (.inr (.inl (y, as, F'))) := h
    (repeat' split at h) <;> cases h
  | lstore j =>
    replace h : ((match (generalizing := false) st with | .long x :: r => some (.inl (pc + 2, ri_st2 lv j (.long x), r, M, k, n)) | _ => none) : Option ri_X) = some (.inr (.inl (y, as, F'))) := h
    (repeat' split at h) <;> cases h
  | astore_n j =>
    replace h : ((match (generalizing := false) st with | .ref x :: r => some (.inl (pc + 1, ri_st1 lv j (.ref x), r, M, k, n)) | .null :: r => some (.inl (pc + 1, ri_st1 lv j .null, r, M, k, n)) | _ => none) : Option ri_X) = some (.inr (.inl (y, as, F'))) := h
    (repeat' split at h) <;> cases h
  | astore j =>
    replace h : ((match (generalizing := false) st with | .ref x :: r => some (.inl (pc + 2, ri_st1 lv j (.ref x), r, M, k, n)) | .null :: r => some (.inl (pc + 2, ri_st1 lv j .null, r, M, k, n)) | _ => none) : Option ri_X) = some (.inr (.inl (y, as, F'))) := h
    (repeat' split at h) <;> cases h
  | iinc j v =>
    replace h : ((match (generalizing := false) ri_ld lv j with | some (.int x) => some (.inl (pc + 3, ri_st1 lv j (.int (x + Int32.ofInt v)), st, M, k, n)) | _ => none) : Option ri_X) = some (.inr (.inl (y, as, F'))) := h
    (repeat' split at h) <;> cases h
  | iadd  =>
    replace h : ((match (generalizing := false) st with | .int y :: .int x :: r => some (.inl (pc + 1, lv, .int (x + y) :: r, M, k, n)) | _ => none) : Option ri_X) = some (.inr (.inl (y, as, F'))) := h
    (repeat' split at h) <;> cases h
  | isub  =>
    replace h : ((match (generalizing := false) st with | .int y :: .int x :: r => some (.inl (pc + 1, lv, .int (x - y) :: r, M, k, n)) | _ => none) : Option ri_X) = some (.inr (.inl (y, as, F'))) := h
    (repeat' split at h) <;> cases h
  | imul  =>
    replace h : ((match (generalizing := false) st with | .int y :: .int x :: r => some (.inl (pc + 1, lv, .int (x * y) :: r, M, k, n)) | _ => none) : Option ri_X) = some (.inr (.inl (y, as, F'))) := h
    (repeat' split at h) <;> cases h
  | iand  =>
    replace h : ((match (generalizing := false) st with | .int y :: .int x :: r => some (.inl (pc + 1, lv, .int (x &&& y) :: r, M, k, n)) | _ => none) : Option ri_X) = some (.inr (.inl (y, as, F'))) := h
    (repeat' split at h) <;> cases h
  | ior  =>
    replace h : ((match (generalizing := false) st with | .int y :: .int x :: r => some (.inl (pc + 1, lv, .int (x ||| y) :: r, M, k, n)) | _ => none) : Option ri_X) = some (.inr (.inl (y, as, F'))) := h
    (repeat' split at h) <;> cases h
  | ixor  =>
    replace h : ((match (generalizing := false) st with | .int y :: .int x :: r => some (.inl (pc + 1, lv, .int (x ^^^ y) :: r, M, k, n)) | _ => none) : Option ri_X) = some (.inr (.inl (y, as, F'))) := h
    (repeat' split at h) <;> cases h
  | ishl  =>
    replace h : ((match (generalizing := false) st with | .int y :: .int x :: r => some (.inl (pc + 1, lv, .int (x <<< (y &&& 31)) :: r, M, k, n)) | _ => none) : Option ri_X) = some (.inr (.inl (y, as, F'))) := h
    (repeat' split at h) <;> cases h
  | ishr  =>
    replace h : ((match (generalizing := false) st with | .int y :: .int x :: r => some (.inl (pc + 1, lv, .int (x >>> (y &&& 31)) :: r, M, k, n)) | _ => none) : Option ri_X) = some (.inr (.inl (y, as, F'))) := h
    (repeat' split at h) <;> cases h
  | iushr  =>
    replace h : ((match (generalizing := false) st with | .int y :: .int x :: r => some (.inl (pc + 1, lv, .int ((x.toUInt32 >>> (y.toUInt32 &&& Int32.toUInt32 31)).toInt32) :: r, M, k, n)) | _ => none) : Option ri_X) = some (.inr (.inl (y, as, F'))) := h
    (repeat' split at h) <;> cases h
  | ineg  =>
    replace h : ((match (generalizing := false) st with | .int x :: r => some (.inl (pc + 1, lv, .int (-x) :: r, M, k, n)) | _ => none) : Option ri_X) = some (.inr (.inl (y, as, F'))) := h
    (repeat' split at h) <;> cases h
  | idiv  =>
    replace h : ((match (generalizing := false) st with | .int y :: .int x :: r => if y = 0 then none else some (.inl (pc + 1, lv, .int (x / y) :: r, M, k, n)) | _ => none) : Option ri_X) = some (.inr (.inl (y, as, F'))) := h
    (repeat' split at h) <;> cases h
  | irem  =>
    replace h : ((match (generalizing := false) st with | .int y :: .int x :: r => if y = 0 then none else some (.inl (pc + 1, lv, .int (x - x / y * y) :: r, M, k, n)) | _ => none) : Option ri_X) = some (.inr (.inl (y, as, F'))) := h
    (repeat' split at h) <;> cases h
  | ladd  =>
    replace h : ((match (generalizing := false) st with | .long y :: .long x :: r => some (.inl (pc + 1, lv, .long (x + y) :: r, M, k, n)) | _ => none) : Option ri_X) = some (.inr (.inl (y, as, F'))) := h
    (repeat' split at h) <;> cases h
  | lsub  =>
    replace h : ((match (generalizing := false) st with | .long y :: .long x :: r => some (.inl (pc + 1, lv, .long (x - y) :: r, M, k, n)) | _ => none) : Option ri_X) = some (.inr (.inl (y, as, F'))) := h
    (repeat' split at h) <;> cases h
  | lmul  =>
    replace h : ((match (generalizing := false) st with | .long y :: .long x :: r => some (.inl (pc + 1, lv, .long (x * y) :: r, M, k, n)) | _ => none) : Option ri_X) = some (.inr (.inl (y, as, F'))) := h
    (repeat' split at h) <;> cases h
  | land  =>
    replace h : ((match (generalizing := false) st with | .long y :: .long x :: r => some (.inl (pc + 1, lv, .long (x &&& y) :: r, M, k, n)) | _ => none) : Option ri_X) = some (.inr (.inl (y, as, F'))) := h
    (repeat' split at h) <;> cases h
  | lor  =>
    replace h : ((match (generalizing := false) st with | .long y :: .long x :: r => some (.inl (pc + 1, lv, .long (x ||| y) :: r, M, k, n)) | _ => none) : Option ri_X) = some (.inr (.inl (y, as, F'))) := h
    (repeat' split at h) <;> cases h
  | ldiv  =>
    replace h : ((match (generalizing := false) st with | .long y :: .long x :: r => if y = 0 then none else some (.inl (pc + 1, lv, .long (x / y) :: r, M, k, n)) | _ => none) : Option ri_X) = some (.inr (.inl (y, as, F'))) := h
    (repeat' split at h) <;> cases h
  | lrem  =>
    replace h : ((match (generalizing := false) st with | .long y :: .long x :: r => if y = 0 then none else some (.inl (pc + 1, lv, .long (x - x / y * y) :: r, M, k, n)) | _ => none) : Option ri_X) = some (.inr (.inl (y, as, F'))) := h
    (repeat' split at h) <;> cases h
  | lshl  =>
    replace h : ((match (generalizing := false) st with | .int y :: .long x :: r => some (.inl (pc + 1, lv, .long (x <<< (y.toInt64 &&& 63)) :: r, M, k, n)) | _ => none) : Option ri_X) = some (.inr (.inl (y, as, F'))) := h
    (repeat' split at h) <;> cases h
  | lshr  =>
    replace h : ((match (generalizing := false) st with | .int y :: .long x :: r => some (.inl (pc + 1, lv, .long (x >>> (y.toInt64 &&& 63)) :: r, M, k, n)) | _ => none) : Option ri_X) = some (.inr (.inl (y, as, F'))) := h
    (repeat' split at h) <;> cases h
  | lcmp  =>
    replace h : ((match (generalizing := false) st with | .long y :: .long x :: r => some (.inl (pc + 1, lv, .int (lg_cmp x y) :: r, M, k, n)) | _ => none) : Option ri_X) = some (.inr (.inl (y, as, F'))) := h
    (repeat' split at h) <;> cases h
  | i2l  =>
    replace h : ((match (generalizing := false) st with | .int x :: r => some (.inl (pc + 1, lv, .long x.toInt64 :: r, M, k, n)) | _ => none) : Option ri_X) = some (.inr (.inl (y, as, F'))) := h
    (repeat' split at h) <;> cases h
  | l2i  =>
    replace h : ((match (generalizing := false) st with | .long x :: r => some (.inl (pc + 1, lv, .int x.toInt32 :: r, M, k, n)) | _ => none) : Option ri_X) = some (.inr (.inl (y, as, F'))) := h
    (repeat' split at h) <;> cases h
  | i2c  =>
    replace h : ((match (generalizing := false) st with | .int x :: r => some (.inl (pc + 1, lv, .int (x.toUInt32 % 65536).toInt32 :: r, M, k, n)) | _ => none) : Option ri_X) = some (.inr (.inl (y, as, F'))) := h
    (repeat' split at h) <;> cases h
  | dup  =>
    replace h : ((match (generalizing := false) st with | v :: r => if v.category = 1 then some (.inl (pc + 1, lv, v :: v :: r, M, k, n)) else none | _ => none) : Option ri_X) = some (.inr (.inl (y, as, F'))) := h
    (repeat' split at h) <;> cases h
  | pop  =>
    replace h : ((match (generalizing := false) st with | v :: r => if v.category = 1 then some (.inl (pc + 1, lv, r, M, k, n)) else none | _ => none) : Option ri_X) = some (.inr (.inl (y, as, F'))) := h
    (repeat' split at h) <;> cases h
  | dup2  =>
    replace h : ((match (generalizing := false) st with | .long v :: r => some (.inl (pc + 1, lv, .long v :: .long v :: r, M, k, n)) | v :: u :: r => if v.category = 1 ∧ u.category = 1 then some (.inl (pc + 1, lv, v :: u :: v :: u :: r, M, k, n)) else none | _ => none) : Option ri_X) = some (.inr (.inl (y, as, F'))) := h
    (repeat' split at h) <;> cases h
  | goto u0 =>
    replace h : (some (.inl (a, lv, st, M, k, n)) : Option ri_X) = some (.inr (.inl (y, as, F'))) := h
    (repeat' split at h) <;> cases h
  | ifnull u0 =>
    replace h : ((match (generalizing := false) st with | .null :: r => some (.inl (a, lv, r, M, k, n)) | .ref _ :: r => some (.inl (pc + 3, lv, r, M, k, n)) | _ => none) : Option ri_X) = some (.inr (.inl (y, as, F'))) := h
    (repeat' split at h) <;> cases h
  | ifnonnull u0 =>
    replace h : ((match (generalizing := false) st with | .null :: r => some (.inl (pc + 3, lv, r, M, k, n)) | .ref _ :: r => some (.inl (a, lv, r, M, k, n)) | _ => none) : Option ri_X) = some (.inr (.inl (y, as, F'))) := h
    (repeat' split at h) <;> cases h
  | tableswitch u0 lo hi offs =>
    replace h : ((match (generalizing := false) st with | .int x :: r => if x.toInt < lo ∨ hi < x.toInt then some (.inl (a, lv, r, M, k, n)) else (match (generalizing := false) offs[(x.toInt - lo).toNat]? with | some off => some (.inl (((pc : Int) + off).toNat, lv, r, M, k, n)) | none => none) | _ => none) : Option ri_X) = some (.inr (.inl (y, as, F'))) := h
    (repeat' split at h) <;> cases h
  | getfield u0 =>
    replace h : ((match (generalizing := false) st with | .ref q :: r => (match (generalizing := false) M[q]? with | some (.inr (ci, fs)) => if ci = a ∧ q < 1000000 then (match (generalizing := false) fs[b]? with | some v => some (.inl (pc + 3, lv, v :: r, M, k, n)) | none => none) else none | _ => none) | _ => none) : Option ri_X) = some (.inr (.inl (y, as, F'))) := h
    (repeat' split at h) <;> cases h
  | putfield u0 =>
    replace h : ((match (generalizing := false) st with | v :: .ref q :: r => (match (generalizing := false) M[q]? with | some (.inr (ci, fs)) => if ci = a ∧ q < 1000000 ∧ b < fs.length ∧ ri_fit d v = true then some (.inl (pc + 3, lv, r, M.set q (.inr (ci, fs.set b v)), k, n)) else none | _ => none) | _ => none) : Option ri_X) = some (.inr (.inl (y, as, F'))) := h
    (repeat' split at h) <;> cases h
  | iaload  =>
    replace h : ((match (generalizing := false) st with | .int i :: .ref q :: r => (match (generalizing := false) M[q]? with | some (.inl (t, .inl xs)) => if t = 0 ∧ q < 1000000 ∧ ¬ i < 0 then (match (generalizing := false) xs[i.toNatClampNeg]? with | some v => some (.inl (pc + 1, lv, .int v :: r, M, k, n)) | none => none) else none | none => if q = 2000000 ∧ ¬ i < 0 then (match (generalizing := false) X with | some xs => (match (generalizing := false) xs[i.toNatClampNeg]? with | some v => some (.inl (pc + 1, lv, .int v :: r, M, k, n)) | none => none) | none => none) else none | _ => none) | _ => none) : Option ri_X) = some (.inr (.inl (y, as, F'))) := h
    (repeat' split at h) <;> cases h
  | caload  =>
    replace h : ((match (generalizing := false) st with | .int i :: .ref q :: r => (match (generalizing := false) M[q]? with | some (.inl (t, .inl xs)) => if t = 2 ∧ q < 1000000 ∧ ¬ i < 0 then (match (generalizing := false) xs[i.toNatClampNeg]? with | some v => some (.inl (pc + 1, lv, .int v :: r, M, k, n)) | none => none) else none | _ => none) | _ => none) : Option ri_X) = some (.inr (.inl (y, as, F'))) := h
    (repeat' split at h) <;> cases h
  | baload  =>
    replace h : ((match (generalizing := false) st with | .int i :: .ref q :: r => (match (generalizing := false) M[q]? with | some (.inl (t, .inl xs)) => if t = 3 ∧ q < 1000000 ∧ ¬ i < 0 then (match (generalizing := false) xs[i.toNatClampNeg]? with | some v => some (.inl (pc + 1, lv, .int v :: r, M, k, n)) | none => none) else none | _ => none) | _ => none) : Option ri_X) = some (.inr (.inl (y, as, F'))) := h
    (repeat' split at h) <;> cases h
  | laload  =>
    replace h : ((match (generalizing := false) st with | .int i :: .ref q :: r => (match (generalizing := false) M[q]? with | some (.inl (t, .inr (.inl xs))) => if t = 1 ∧ q < 1000000 ∧ ¬ i < 0 then (match (generalizing := false) xs[i.toNatClampNeg]? with | some v => some (.inl (pc + 1, lv, .long v :: r, M, k, n)) | none => none) else none | _ => none) | _ => none) : Option ri_X) = some (.inr (.inl (y, as, F'))) := h
    (repeat' split at h) <;> cases h
  | aaload  =>
    replace h : ((match (generalizing := false) st with | .int i :: .ref q :: r => (match (generalizing := false) M[q]? with | some (.inl (t, .inr (.inr xs))) => if 4 ≤ t ∧ t < 7 ∧ q < 1000000 ∧ ¬ i < 0 then (match (generalizing := false) xs[i.toNatClampNeg]? with | some v => some (.inl (pc + 1, lv, ri_rv v :: r, M, k, n)) | none => none) else none | _ => none) | _ => none) : Option ri_X) = some (.inr (.inl (y, as, F'))) := h
    (repeat' split at h) <;> cases h
  | iastore  =>
    replace h : ((match (generalizing := false) st with | .int x :: .int i :: .ref q :: r => (match (generalizing := false) M[q]? with | some (.inl (t, .inl xs)) => if t = 0 ∧ q < 1000000 ∧ ¬ i < 0 ∧ i.toNatClampNeg < xs.length then some (.inl (pc + 1, lv, r, M.set q (.inl (t, .inl (xs.set i.toNatClampNeg x))), k, n)) else none | _ => none) | _ => none) : Option ri_X) = some (.inr (.inl (y, as, F'))) := h
    (repeat' split at h) <;> cases h
  | castore  =>
    replace h : ((match (generalizing := false) st with | .int x :: .int i :: .ref q :: r => (match (generalizing := false) M[q]? with | some (.inl (t, .inl xs)) => if t = 2 ∧ q < 1000000 ∧ ¬ i < 0 ∧ i.toNatClampNeg < xs.length then some (.inl (pc + 1, lv, r, M.set q (.inl (t, .inl (xs.set i.toNatClampNeg (vp_nar .char x)))), k, n)) else none | _ => none) | _ => none) : Option ri_X) = some (.inr (.inl (y, as, F'))) := h
    (repeat' split at h) <;> cases h
  | bastore  =>
    replace h : ((match (generalizing := false) st with | .int x :: .int i :: .ref q :: r => (match (generalizing := false) M[q]? with | some (.inl (t, .inl xs)) => if t = 3 ∧ q < 1000000 ∧ ¬ i < 0 ∧ i.toNatClampNeg < xs.length then some (.inl (pc + 1, lv, r, M.set q (.inl (t, .inl (xs.set i.toNatClampNeg (vp_nar .boolean x)))), k, n)) else none | _ => none) | _ => none) : Option ri_X) = some (.inr (.inl (y, as, F'))) := h
    (repeat' split at h) <;> cases h
  | lastore  =>
    replace h : ((match (generalizing := false) st with | .long x :: .int i :: .ref q :: r => (match (generalizing := false) M[q]? with | some (.inl (t, .inr (.inl xs))) => if t = 1 ∧ q < 1000000 ∧ ¬ i < 0 ∧ i.toNatClampNeg < xs.length then some (.inl (pc + 1, lv, r, M.set q (.inl (t, .inr (.inl (xs.set i.toNatClampNeg x)))), k, n)) else none | _ => none) | _ => none) : Option ri_X) = some (.inr (.inl (y, as, F'))) := h
    (repeat' split at h) <;> cases h
  | aastore  =>
    replace h : ((match (generalizing := false) st with | .ref x :: .int i :: .ref q :: r => (match (generalizing := false) M[q]?, M[x]? with | some (.inl (t, .inr (.inr xs))), some (.inr (ci, _)) => if t = 6 ∧ ci = a ∧ q < 1000000 ∧ x < 1000000 ∧ ¬ i < 0 ∧ i.toNatClampNeg < xs.length then some (.inl (pc + 1, lv, r, M.set q (.inl (t, .inr (.inr (xs.set i.toNatClampNeg (some x))))), k, n)) else none | _, _ => none) | _ => none) : Option ri_X) = some (.inr (.inl (y, as, F'))) := h
    (repeat' split at h) <;> cases h
  | arraylength  =>
    replace h : ((match (generalizing := false) st with | .ref q :: r => if q = 2000000 then (match (generalizing := false) X with | some xs => some (.inl (pc + 1, lv, .int (Int32.ofNat xs.length) :: r, M, k, n)) | none => none) else (match (generalizing := false) M[q]? with | some (.inl (t, .inl xs)) => if t < 4 ∧ q < 1000000 then some (.inl (pc + 1, lv, .int (Int32.ofNat xs.length) :: r, M, k, n)) else none | some (.inl (t, .inr (.inl xs))) => if t < 4 ∧ q < 1000000 then some (.inl (pc + 1, lv, .int (Int32.ofNat xs.length) :: r, M, k, n)) else none | _ => none) | _ => none) : Option ri_X) = some (.inr (.inl (y, as, F'))) := h
    (repeat' split at h) <;> cases h
  | new u0 =>
    replace h : ((match (generalizing := false) Fd[a]? with | some fs => if M.length < 1000000 then some (.inl (pc + 3, lv, .ref M.length :: st, M ++ [.inr (a, fs)], k + 1, n + fs.length)) else none | none => none) : Option ri_X) = some (.inr (.inl (y, as, F'))) := h
    (repeat' split at h) <;> cases h
  | newarray u0 =>
    replace h : ((match (generalizing := false) st with | .int x :: r => if x < 0 ∨ 1000000 ≤ M.length ∨ 60000 < x.toNatClampNeg then none else if a = 1 then some (.inl (pc + 2, lv, .ref M.length :: r, M ++ [.inl (1, .inr (.inl (List.replicate x.toNatClampNeg 0)))], k + 1, n + x.toNatClampNeg)) else some (.inl (pc + 2, lv, .ref M.length :: r, M ++ [.inl (a, .inl (List.replicate x.toNatClampNeg 0))], k + 1, n + x.toNatClampNeg)) | _ => none) : Option ri_X) = some (.inr (.inl (y, as, F'))) := h
    (repeat' split at h) <;> cases h
  | anewarray u0 =>
    replace h : ((match (generalizing := false) st with | .int x :: r => if x < 0 ∨ 1000000 ≤ M.length ∨ 60000 < x.toNatClampNeg then none else some (.inl (pc + 3, lv, .ref M.length :: r, M ++ [.inl (6, .inr (.inr (List.replicate x.toNatClampNeg none)))], k + 1, n + x.toNatClampNeg)) | _ => none) : Option ri_X) = some (.inr (.inl (y, as, F'))) := h
    (repeat' split at h) <;> cases h
  | multianewarray u0 u1 =>
    replace h : ((match (generalizing := false) st with | .int y :: .int x :: r => if x < 0 ∨ y < 0 ∨ 900000 ≤ M.length ∨ 60000 < x.toNatClampNeg ∨ 60000 < y.toNatClampNeg then none else some (.inl (pc + 4, lv, .ref M.length :: r, M ++ ((.inl (a, .inr (.inr ((List.range x.toNatClampNeg).map (fun i => some (M.length + 1 + i)))))) :: List.replicate x.toNatClampNeg (ri_row b y.toNatClampNeg)), k + 1 + x.toNatClampNeg, n + x.toNatClampNeg + x.toNatClampNeg * y.toNatClampNeg)) | _ => none) : Option ri_X) = some (.inr (.inl (y, as, F'))) := h
    (repeat' split at h) <;> cases h
  | invokespecial u0 =>
    replace h : (if c0 = 2 then (match (generalizing := false) st with | [.ref q] => some (.inl (pc + 3, lv, [], M, k, n)) | _ => none) else if c0 = 5 then none else ri_cl a b (pc + 3) lv st M k n 1 d : Option ri_X) = some (.inr (.inl (y, as, F'))) := h
    split at h
    · (repeat' split at h) <;> cases h
    · rename_i hc
      split at h
      · cases h
      · exact Or.inl ⟨u0, rfl, hc, h⟩
  | invokevirtual u0 =>
    replace h : (if c0 = 9 then none else ri_cl a b (pc + 3) lv st M k n 2 d : Option ri_X) = some (.inr (.inl (y, as, F'))) := h
    split at h
    · cases h
    · rename_i hc
      exact Or.inr (Or.inl ⟨u0, rfl, hc, h⟩)
  | invokestatic u0 =>
    replace h : (if c0 = 4 then (match (generalizing := false) st with | [.int z, .int dp, .ref q1, .int sp, .ref q0] => (match (generalizing := false) M[q0]?, M[q1]? with | some (.inl (t0, .inl xs)), some (.inl (t1, .inl ys)) => if t0 = 0 ∧ t1 = 0 ∧ q0 < 1000000 ∧ q1 < 1000000 ∧ ¬ sp < 0 ∧ ¬ dp < 0 ∧ ¬ z < 0 ∧ sp.toNatClampNeg + z.toNatClampNeg ≤ xs.length ∧ dp.toNatClampNeg + z.toNatClampNeg ≤ ys.length then some (.inl (pc + 3, lv, [], M.set q1 (.inl (t1, .inl (ri_cpy xs ys sp.toNatClampNeg dp.toNatClampNeg z.toNatClampNeg))), k, n)) else none | _, _ => none) | _ => none) else if c0 = 6 then (match (generalizing := false) st with | .int y :: .int x :: r => if (r.map (fun v => v.category)).sum ≤ 8 then some (.inl (pc + 3, lv, .int (if x < y then y else x) :: r, M, k, n)) else none | _ => none) else if c0 = 7 then (match (generalizing := false) st with | .int y :: .int x :: r => if (r.map (fun v => v.category)).sum ≤ 8 then some (.inl (pc + 3, lv, .int (if y < x then y else x) :: r, M, k, n)) else none | _ => none) else if c0 = 8 then (match (generalizing := false) st with | .long y :: .long x :: r => if (r.map (fun v => v.category)).sum ≤ 8 then some (.inl (pc + 3, lv, .long (if y < x then x else y) :: r, M, k, n)) else none | _ => none) else ri_cl a b (pc + 3) lv st M k n 0 d : Option ri_X) = some (.inr (.inl (y, as, F'))) := h
    split at h
    · (repeat' split at h) <;> cases h
    · rename_i hc4
      split at h
      · (repeat' split at h) <;> cases h
      · rename_i hc6
        split at h
        · (repeat' split at h) <;> cases h
        · rename_i hc7
          split at h
          · (repeat' split at h) <;> cases h
          · rename_i hc8
            exact Or.inr (Or.inr ⟨u0, rfl, ⟨hc4, hc6, hc7, hc8⟩, h⟩)
  | ireturn  =>
    replace h : ((match (generalizing := false) st with | [.int x] => if rk = 1 then some (.inr (.inr (some (.int x)))) else if rk = 4 ∧ (x = 0 ∨ x = 1) then some (.inr (.inr (some (.int x)))) else none | _ => none) : Option ri_X) = some (.inr (.inl (y, as, F'))) := h
    (repeat' split at h) <;> cases h
  | lreturn  =>
    replace h : ((match (generalizing := false) st with | [.long x] => if rk = 2 then some (.inr (.inr (some (.long x)))) else none | _ => none) : Option ri_X) = some (.inr (.inl (y, as, F'))) := h
    (repeat' split at h) <;> cases h
  | areturn  =>
    replace h : ((match (generalizing := false) st with | [.ref x] => if rk = 3 then some (.inr (.inr (some (.ref x)))) else none | [.null] => if rk = 3 then some (.inr (.inr (some .null))) else none | _ => none) : Option ri_X) = some (.inr (.inl (y, as, F'))) := h
    (repeat' split at h) <;> cases h
  | return_  =>
    replace h : ((match (generalizing := false) st with | [] => if rk = 0 then some (.inr (.inr none)) else none | _ => none) : Option ri_X) = some (.inr (.inl (y, as, F'))) := h
    (repeat' split at h) <;> cases h
  | ifCond cd off =>
    cases cd with
    | eq =>
      replace h : ((match (generalizing := false) st with | .int x :: r => if x = 0 then some (.inl (a, lv, r, M, k, n)) else some (.inl (pc + 3, lv, r, M, k, n)) | _ => none) : Option ri_X) = some (.inr (.inl (y, as, F'))) := h
      (repeat' split at h) <;> cases h
    | ne =>
      replace h : ((match (generalizing := false) st with | .int x :: r => if ¬ x = 0 then some (.inl (a, lv, r, M, k, n)) else some (.inl (pc + 3, lv, r, M, k, n)) | _ => none) : Option ri_X) = some (.inr (.inl (y, as, F'))) := h
      (repeat' split at h) <;> cases h
    | lt =>
      replace h : ((match (generalizing := false) st with | .int x :: r => if x < 0 then some (.inl (a, lv, r, M, k, n)) else some (.inl (pc + 3, lv, r, M, k, n)) | _ => none) : Option ri_X) = some (.inr (.inl (y, as, F'))) := h
      (repeat' split at h) <;> cases h
    | ge =>
      replace h : ((match (generalizing := false) st with | .int x :: r => if 0 ≤ x then some (.inl (a, lv, r, M, k, n)) else some (.inl (pc + 3, lv, r, M, k, n)) | _ => none) : Option ri_X) = some (.inr (.inl (y, as, F'))) := h
      (repeat' split at h) <;> cases h
    | gt =>
      replace h : ((match (generalizing := false) st with | .int x :: r => if 0 < x then some (.inl (a, lv, r, M, k, n)) else some (.inl (pc + 3, lv, r, M, k, n)) | _ => none) : Option ri_X) = some (.inr (.inl (y, as, F'))) := h
      (repeat' split at h) <;> cases h
    | le =>
      replace h : ((match (generalizing := false) st with | .int x :: r => if x ≤ 0 then some (.inl (a, lv, r, M, k, n)) else some (.inl (pc + 3, lv, r, M, k, n)) | _ => none) : Option ri_X) = some (.inr (.inl (y, as, F'))) := h
      (repeat' split at h) <;> cases h
  | if_icmp cd off =>
    cases cd with
    | eq =>
      replace h : ((match (generalizing := false) st with | .int y :: .int x :: r => if x = y then some (.inl (a, lv, r, M, k, n)) else some (.inl (pc + 3, lv, r, M, k, n)) | _ => none) : Option ri_X) = some (.inr (.inl (y, as, F'))) := h
      (repeat' split at h) <;> cases h
    | ne =>
      replace h : ((match (generalizing := false) st with | .int y :: .int x :: r => if ¬ x = y then some (.inl (a, lv, r, M, k, n)) else some (.inl (pc + 3, lv, r, M, k, n)) | _ => none) : Option ri_X) = some (.inr (.inl (y, as, F'))) := h
      (repeat' split at h) <;> cases h
    | lt =>
      replace h : ((match (generalizing := false) st with | .int y :: .int x :: r => if x < y then some (.inl (a, lv, r, M, k, n)) else some (.inl (pc + 3, lv, r, M, k, n)) | _ => none) : Option ri_X) = some (.inr (.inl (y, as, F'))) := h
      (repeat' split at h) <;> cases h
    | ge =>
      replace h : ((match (generalizing := false) st with | .int y :: .int x :: r => if y ≤ x then some (.inl (a, lv, r, M, k, n)) else some (.inl (pc + 3, lv, r, M, k, n)) | _ => none) : Option ri_X) = some (.inr (.inl (y, as, F'))) := h
      (repeat' split at h) <;> cases h
    | gt =>
      replace h : ((match (generalizing := false) st with | .int y :: .int x :: r => if y < x then some (.inl (a, lv, r, M, k, n)) else some (.inl (pc + 3, lv, r, M, k, n)) | _ => none) : Option ri_X) = some (.inr (.inl (y, as, F'))) := h
      (repeat' split at h) <;> cases h
    | le =>
      replace h : ((match (generalizing := false) st with | .int y :: .int x :: r => if x ≤ y then some (.inl (a, lv, r, M, k, n)) else some (.inl (pc + 3, lv, r, M, k, n)) | _ => none) : Option ri_X) = some (.inr (.inl (y, as, F'))) := h
      (repeat' split at h) <;> cases h
  | _ =>
    replace h : (none : Option ri_X) = some (.inr (.inl (y, as, F'))) := h
    cases h
theorem ri_clS {y0 n0 pc : Nat} {lv : ri_L} {st : List Value} {M : ri_M} {k n how d y : Nat} {as : List Value} {F' : ri_F} (h : ri_cl y0 n0 pc lv st M k n how d = some (.inr (.inl (y, as, F')))) :
    ∃ (As rest : List Value), As.length = n0 ∧ F' = (pc, lv, rest, M, k, n) ∧ y = y0 ∧ (rest.map (fun v => v.category)).sum ≤ 8 ∧ ((how = 0 ∧ st = As.reverse ++ rest ∧ as = As) ∨ (¬ how = 0 ∧ ∃ q fs, st = As.reverse ++ .ref q :: rest ∧ as = .ref q :: As ∧ M[q]? = some (.inr (d, fs)) ∧ q < 1000000)) := by
  unfold ri_cl at h
  by_cases hw : how = 0
  · subst hw
    simp only [if_true] at h
    split at h
    · cases h
    · rename_i hc
      cases h
      refine ⟨(st.take n0).reverse, st.drop n0, ?_, rfl, rfl, ?_, Or.inl ⟨rfl, ?_, rfl⟩⟩
      · rw [List.length_reverse, List.length_take]
        omega
      · omega
      · rw [List.reverse_reverse, List.take_append_drop]
  · simp only [hw, if_false] at h
    split at h
    · cases h
    · rename_i hc
      split at h
      · rename_i q hq
        split at h
        · rename_i ci fs hM
          split at h
          · rename_i hd
            cases h
            refine ⟨(st.take n0).reverse, st.drop (n0 + 1), ?_, rfl, rfl, ?_, Or.inr ⟨hw, q, fs, ?_, rfl, by rw [← hd.1]; exact hM, hd.2⟩⟩
            · rw [List.length_reverse, List.length_take]
              omega
            · omega
            · rw [List.reverse_reverse]
              have hlt : n0 < st.length := (List.getElem?_eq_some_iff.mp hq).1
              have h2 : st[n0] = .ref q := (List.getElem?_eq_some_iff.mp hq).2
              rw [← h2, ← List.drop_eq_getElem_cons hlt, List.take_append_drop]
          · cases h
        · cases h
      · cases h
end
section
/-! ===== a run of the small machine is a method's contract ===== -/
section RIR
/-- what the pool and the tables must say of a call -/
def ri_okC (cl : List vw_C) (G Nst : List Cond) (Yn : Nat → MethodName) (Yr : Nat → Option FieldType) (own : String) : ri_I → Prop
  | (ins, a, b, c, d) => match ins with
    | .invokevirtual idx => ¬ c = 9 → ((Cond.methodLink own idx (Yn a) ∈ G ∨ ∃ host, Cond.methodLinkNest own idx (Yn a) host ∈ Nst) ∧ Cond.instanceMethod (Yn a) ∈ G ∧ Cond.selects (Yn a).cls (Yn a) (Yn a) ∈ G ∧ Cond.initialized (Yn a).cls ∈ G ∧ ((Yn a).cls ≠ "java/lang/invoke/MethodHandle" ∧ (Yn a).cls ≠ "java/lang/invoke/VarHandle" ∧ (parseMethodDescriptor (Yn a).desc).map (fun d => d.parameters.length) = some b) ∧ ∃ T N, cl[d]? = some ((Yn a).cls, T, N))
    | .invokestatic idx => (¬ c = 4 ∧ ¬ c = 6 ∧ ¬ c = 7 ∧ ¬ c = 8) → ((Cond.methodLink own idx (Yn a) ∈ G ∨ ∃ host, Cond.methodLinkNest own idx (Yn a) host ∈ Nst) ∧ Cond.static (Yn a) ∈ G ∧ Cond.initialized (Yn a).cls ∈ G ∧ ((Yn a).cls ≠ "java/lang/invoke/MethodHandle" ∧ (Yn a).cls ≠ "java/lang/invoke/VarHandle" ∧ (parseMethodDescriptor (Yn a).desc).map (fun d => d.parameters.length) = some b))
    | .invokespecial idx => ¬ c = 2 → ((Cond.methodLink own idx (Yn a) ∈ G ∨ ∃ host, Cond.methodLinkNest own idx (Yn a) host ∈ Nst) ∧ (Yn a).name = "<init>" ∧ Yr a = none ∧ Cond.instanceMethod (Yn a) ∈ G ∧ Cond.initialized (Yn a).cls ∈ G ∧ ((Yn a).cls ≠ "java/lang/invoke/MethodHandle" ∧ (Yn a).cls ≠ "java/lang/invoke/VarHandle" ∧ (parseMethodDescriptor (Yn a).desc).map (fun d => d.parameters.length) = some b))
    | _ => True
def ri_rkS (rk : Nat) (ret : Option FieldType) : Prop := (rk = 0 ∧ ret = none) ∨ (rk = 1 ∧ ret = some .int) ∨ (rk = 2 ∧ ret = some .long) ∨ (rk = 3 ∧ ((∃ C, ret = some (.object C)) ∨ ∃ t, ret = some (.array t))) ∨ (rk = 4 ∧ ret = some .boolean)
/-- every row of a method's table is right -/
def ri_okT (cl : List vw_C) (G Nst : List Cond) (Fd : List (List Value)) (PC : String) (Yn : Nat → MethodName) (Yr : Nat → Option FieldType) (own nm : String) (cc : ByteArray) (t : ri_T) : Prop :=
  ∀ (pc : Nat) (i : ri_I), t.1[pc]? = some (some i) → decode cc pc = .ok (i.1, ri_len i.1 i.2.2.2.2) ∧ ri_okS cl G Nst Fd PC own nm t.2.1 pc i ∧ ri_okC cl G Nst Yn Yr own i
def ri_okM (cl : List vw_C) (G Nst : List Cond) (Fd : List (List Value)) (PC : String) (Yn : Nat → MethodName) (Yr : Nat → Option FieldType) (y : MethodName) (cc : ByteArray) (ret : Option FieldType) (t : ri_T) : Prop :=
  plainName y.cls = true ∧ Cond.code y cc t.2.1 ret ∈ G ∧ ri_rkS t.2.2 ret ∧ t.2.1 ≤ 60 ∧ ri_okT cl G Nst Fd PC Yn Yr y.cls y.name cc t
def ri_rm (d k n : Nat) : Room := { frames := d + 1, cells := k, slots := n, locals := 100 * (d + 1) }
def ri_Pre (D : va_G) (cl : List vw_C) (cs : Nat → ClassId) (PC : String) (bs : Nat) (sa : Nat → Nat) (Nst : List Cond) (M : ri_M) (U : State) : Prop := va_P D cl (ri_w bs sa cs M) U.heap ∧ va_K D cl (ri_tys cs PC) U ∧ (∀ w ∈ Nst, va_Nw w U) ∧ U.heap.size = bs + M.length
def ri_Q (D : va_G) (cl : List vw_C) (cs : Nat → ClassId) (bs : Nat) (sa : Nat → Nat) (v : Option Value) (M M' : ri_M) (k : Nat) : Array Value → State → Outcome → State → Prop := fun _ st oc t => oc = .returned (v.map (ri_v bs sa)) ∧ va_P D cl (ri_w bs sa cs M') t.heap ∧ M.length + k = M'.length ∧ va_F (fun q => bs ≤ q) st t
variable {l : Launch} {D : va_G} {cl : List vw_C} {cs : Nat → ClassId} {PC : String} {bs : Nat} {sa : Nat → Nat} {G Nst : List Cond} {Fd : List (List Value)} {P : Nat → Option ri_T} {Yn : Nat → MethodName} {Yc : Nat → ByteArray} {Yr : Nat → Option FieldType}
section RIC
variable {p : Program} {e : Env} {R : Room} {s : State} {m : MethodId} {args : Array Value} {below : List Frame} {meth : Method} {c : Code} {Q : State → Prop}
theorem ri_callG {H : Heap} {locs : List Loc} {cells slots mc ms pc : Nat} {ls : Array Slot} {st0 rest : List Value} {v : Option Value} {M M' : ri_M} {a : Array Value} {free : Addr → Prop}
    (hr : va_Run p l e R s m args below meth c H locs cells slots mc ms (F0 m pc ls st0) rest (ri_Q D cl cs bs sa v M M' mc a) free) (hfree : ∀ q, free q → bs ≤ q) (hS : va_S (fun q => bs ≤ q) s.heap H locs)
    (kk : ∀ (H1 : Heap) (locs1 : List Loc), va_P D cl (ri_w bs sa cs M') H1 → M.length + mc = M'.length → va_S (fun q => bs ≤ q) s.heap H1 locs1 → W p l e R s m args below meth c H1 locs1 (cells + mc) (slots + ms) Q (F0 m (pc + 3) ls ((v.map (ri_v bs sa)).toList ++ rest))) : W p l e R s m args below meth c H locs cells slots Q (F0 m pc ls st0) := by
  intro T hT X
  obtain ⟨v1, st₀, t, T', L, h0, X', hL, e1, e2, ⟨hv, hb, hlen, hz, hk⟩, st⟩ := hr T hT X
  cases hv
  rw [h0] at hz hk
  obtain ⟨t2, a1, b1⟩ := kk T'.heap (locs ++ L) (by rw [e1]; exact hb) hlen ⟨Nat.le_trans hS.1 (by rw [e1]; exact hz), fun q h1 h2 => by rw [e1, hk q (Nat.lt_of_lt_of_le h1 hS.1) h2]; exact hS.2.1 q h1 h2, fun q hq => by
      rcases List.mem_append.mp hq with h | h
      · exact hS.2.2 q h
      · exact hfree _ (hL q h)⟩ T' rfl X'
  exact ⟨t2, st t2 a1, b1⟩
end RIC
/-- the contract that a run gives -/
def ri_MetR (l : Launch) (D : va_G) (cl : List vw_C) (cs : Nat → ClassId) (PC : String) (bs : Nat) (sa : Nat → Nat) (G Nst : List Cond) (Fd : List (List Value)) (P : Nat → Option ri_T) (Yn : Nat → MethodName) (Yc : Nat → ByteArray) (Yr : Nat → Option FieldType) (f : Nat) : Prop :=
  ∀ (d y : Nat) (t : ri_T) (as : List Value) (M : ri_M) (v : Option Value) (M' : ri_M) (k n : Nat), P y = some t → (as.map (fun v => v.category)).sum ≤ t.2.1 → ri_run P Fd f d none t (0, lv_args 0 as, [], M, 0, 0) = some (v, M', k, n) →
    Met l (Yn y) (Cond.code (Yn y) (Yc y) t.2.1 (Yr y) :: G) (ri_rm d k n) (va_Pc (as.map (ri_v bs sa)) (ri_Pre D cl cs PC bs sa Nst M)) (ri_Q D cl cs bs sa v M M' k) k n (fun q => bs ≤ q)
/-- the walk that a run gives, from any of its frames -/
def ri_WalkR (l : Launch) (D : va_G) (cl : List vw_C) (cs : Nat → ClassId) (PC : String) (bs : Nat) (sa : Nat → Nat) (G Nst : List Cond) (Fd : List (List Value)) (P : Nat → Option ri_T) (Yn : Nat → MethodName) (Yr : Nat → Option FieldType) (f : Nat) : Prop :=
  ∀ (p : Program) (e : Env) (R : Room) (s : State) (m : MethodId) (args : Array Value) (below : List Frame) (meth : Method) (c : Code) (Q : State → Prop) (cc : ByteArray) (own nm : String) (X : Option (List Int32)) (d : Nat) (t : ri_T) (F : ri_F) (v : Option Value) (M' : ri_M) (k' n' : Nat),
    ri_Cx p R s m args meth c cc D cl cs PC bs sa G Nst own nm t.2.1 X → ri_okT cl G Nst Fd PC Yn Yr own nm cc t → d + 1 ≤ R.frames → 100 * (d + 1) ≤ R.locals → ri_run P Fd f d X t F = some (v, M', k', n') → k' ≤ R.cells → n' ≤ R.slots →
    (∀ (pc : Nat) (i : ri_I) (lv : ri_L) (st : List Value) (H : Heap) (locs : List Loc) (ls : Array Slot), t.1[pc]? = some (some i) → ri_step X Fd t.2.2 i (pc, lv, st, M', k', n') = some (.inr (.inr v)) → va_P D cl (ri_w bs sa cs M') H → va_S (fun q => bs ≤ q) s.heap H locs → s.heap.size + k' = bs + M'.length → W p l e R s m args below meth c H locs k' n' Q (F0 m pc ls (st.map (ri_v bs sa)))) →
    (F.2.2.2.2.1 ≤ k' ∧ F.2.2.2.2.2 ≤ n') ∧ ∀ (H : Heap) (locs : List Loc) (ls : Array Slot), va_P D cl (ri_w bs sa cs F.2.2.2.1) H → lv_has ls t.2.1 (ri_lv bs sa F.2.1) → va_S (fun q => bs ≤ q) s.heap H locs → s.heap.size + F.2.2.2.2.1 = bs + F.2.2.2.1.length → W p l e R s m args below meth c H locs F.2.2.2.2.1 F.2.2.2.2.2 Q (F0 m F.1 ls (F.2.2.1.map (ri_v bs sa)))
theorem ri_catmap (vs : List Value) : ((vs.map (ri_v bs sa)).map (fun v => v.category)).sum = (vs.map (fun v => v.category)).sum := by
  rw [List.map_map]
  congr 1
  apply List.map_congr_left
  intro v _
  exact ri_v_cat bs sa v
set_option maxHeartbeats 1000000 in
theorem ri_walk_step (HG : ∀ w ∈ G, (w.onTables && w.keeps) = true ∨ ∃ ty, w = .arrayClass ty) (HN : ∀ w ∈ Nst, ∀ s U : State, s.WarmedH U.vm → va_Nw w s → va_Nw w U) (HM : ∀ y t, P y = some t → ri_okM cl G Nst Fd PC Yn Yr (Yn y) (Yc y) (Yr y) t) {f : Nat}
    (hA : ri_MetR l D cl cs PC bs sa G Nst Fd P Yn Yc Yr f) (hB : ri_WalkR l D cl cs PC bs sa G Nst Fd P Yn Yr f) : ri_WalkR l D cl cs PC bs sa G Nst Fd P Yn Yr (f + 1) := by
  intro p e R s m args below meth c Q cc own nm X d t F v M' k' n' hC hT hRf hRl hrun hkR hnR hret
  obtain ⟨pc, lv, st, M, k, n⟩ := F
  unfold ri_run at hrun
  split at hrun
  · rename_i i hi
    obtain ⟨hd, hok, hokC⟩ := hT pc i hi
    split at hrun
    · rename_i F' hstep
      obtain ⟨hm, hW⟩ := hB p e R s m args below meth c Q cc own nm X d t F' v M' k' n' hC hT hRf hRl hrun hkR hnR hret
      obtain ⟨ins, a, b, c0, dd⟩ := i
      have hmo := ri_step_mono hstep
      refine ⟨⟨Nat.le_trans hmo.1 hm.1, Nat.le_trans hmo.2 hm.2⟩, fun H locs ls hP hl hS hn => ?_⟩
      exact ri_stepW (i := (ins, a, b, c0, dd)) (F := (pc, lv, st, M, k, n)) (F' := F') hC hd hok hstep hP hl hS hn ⟨Nat.le_trans hm.1 hkR, Nat.le_trans hm.2 hnR⟩ hW
    · rename_i v0 hstep
      cases hrun
      exact ⟨⟨Nat.le_refl _, Nat.le_refl _⟩, fun H locs ls hP hl hS hn => hret pc i lv st H locs ls hi hstep hP hS hn⟩
    · rename_i y as F' hstep
      split at hrun
      · cases hrun
      · rename_i d'
        split at hrun
        · rename_i t' hy
          split at hrun
          · rename_i hcat
            split at hrun
            · rename_i v1 M1 k1 n1 hcall
              obtain ⟨ins, a, b, c0, dd⟩ := i
              have hmet := hA d' y t' as F'.2.2.2.1 v1 M1 k1 n1 hy hcat hcall
              obtain ⟨hm, hW⟩ := hB p e R s m args below meth c Q cc own nm X (d' + 1) t _ v M' k' n' hC hT hRf hRl hrun hkR hnR hret
              obtain ⟨hpl, hcode, hrk, hmx, -⟩ := HM y t' hy
              have hCx := hC
              obtain ⟨hx, hb, hml, hown, hts, hK, hN, hbs, hnm, -, -, -⟩ := hCx
              have hgood : GoodIn G (Cond.code (Yn y) (Yc y) t'.2.1 (Yr y) :: G) := fun w hw => by
                rcases List.mem_cons.mp hw with rfl | hw
                · exact ⟨hcode, HG _ hcode⟩
                · exact ⟨hw, HG w hw⟩
              have hR1 : (ri_rm d' k1 n1).frames + 1 ≤ R.frames ∧ 8 + (t'.2.1 + 11) + (ri_rm d' k1 n1).locals ≤ R.locals := by
                show d' + 1 + 1 ≤ R.frames ∧ 8 + (t'.2.1 + 11) + 100 * (d' + 1) ≤ R.locals
                omega
              have hblind : FrameBlind (va_Pc (as.map (ri_v bs sa)) (ri_Pre D cl cs PC bs sa Nst F'.2.2.2.1)) := fun a0 U g mk q => by
                obtain ⟨q0, q1, q2, q3, q4⟩ := q
                exact ⟨q0, q1, va_K.moved (u := U) (U := U.calling g mk a0) (Vm.Alike.refl U.vm) q2, fun w hw => HN w hw U _ (State.WarmedH.refl U) (q3 w hw), q4⟩
              have hcl : (∃ (As rest : List Value), As.length = b ∧ F' = (pc + 3, lv, rest, M, k, n) ∧ y = a ∧ (rest.map (fun v => v.category)).sum ≤ 8 ∧ ∀ (H : Heap) (locs : List Loc) (ls : Array Slot), va_P D cl (ri_w bs sa cs M) H → ls.size = t.2.1 → H.size = bs + M.length → k + k1 ≤ R.cells → n + n1 ≤ R.slots → va_Run p l e R s m args below meth c H locs k n k1 n1 (F0 m pc ls (st.map (ri_v bs sa))) (rest.map (ri_v bs sa)) (ri_Q D cl cs bs sa v1 M M1 k1 (as.map (ri_v bs sa)).toArray) (fun q => bs ≤ q)) := by
                rcases ri_step_call hstep with ⟨idx, rfl, hc2, h⟩ | ⟨idx, rfl, hc9, h⟩ | ⟨idx, rfl, hc4, h⟩
                · obtain ⟨As, rest, h1, h2, h3, h4, h5⟩ := ri_clS h
                  rcases h5 with ⟨h5, -, -⟩ | ⟨-, q, fs, h6, h7, h8, h9⟩
                  · exact absurd h5 (by decide)
                  subst h2
                  subst h3
                  subst h7
                  subst h6
                  refine ⟨As, rest, h1, rfl, rfl, h4, fun H locs ls hP hls hz hk1 hn1 => ?_⟩
                  obtain ⟨hl1, hnmI, hrI, hin, hini, hdd⟩ := hokC hc2
                  rw [hrI] at hmet hcode hgood
                  have hpre : PreS s H (va_Pc ((Value.ref q :: As).map (ri_v bs sa)) (ri_Pre D cl cs PC bs sa Nst M)) (.ref (ri_ad bs sa q) :: As.map (ri_v bs sa)) := ⟨hblind, fun U hU hW => ⟨rfl, by rw [hU]; exact hP, va_K.moved hW.alike hK, fun w hw => HN w hw s U hW (hN w hw), by rw [hU]; exact hz⟩⟩
                  have hstk : (F0 m pc ls ((As.reverse ++ Value.ref q :: rest).map (ri_v bs sa))).stack = (As.map (ri_v bs sa)).reverse ++ .ref (ri_ad bs sa q) :: rest.map (ri_v bs sa) := by
                    show (As.reverse ++ Value.ref q :: rest).map (ri_v bs sa) = _
                    rw [List.map_append, List.map_reverse]
                    rfl
                  rcases hl1 with hl1 | ⟨host, hl1⟩
                  · exact va_runI (Ts := G) ⟨hx, hb, hml, hown, hts⟩ hmet ⟨callB_of b hts hgood rfl rfl rfl (hts _ hini) (hts _ hl1) hdd hR1, hnmI, hts _ hin⟩ hpre rfl (by rw [List.length_map]; exact h1) hls hstk (lv_room (by rw [ri_catmap]; exact h4)) hd ⟨hk1, hn1⟩
                  · exact va_runIN (Ts := G) ⟨hx, hb, hml, hown, hts⟩ hmet ⟨va_cnB b hts hgood rfl rfl rfl (hN _ hl1) (hts _ hini) hdd hR1, hnmI, hts _ hin⟩ hpre rfl (by rw [List.length_map]; exact h1) hls hstk (lv_room (by rw [ri_catmap]; exact h4)) hd ⟨hk1, hn1⟩
                · obtain ⟨As, rest, h1, h2, h3, h4, h5⟩ := ri_clS h
                  rcases h5 with ⟨h5, -, -⟩ | ⟨-, q, fs, h6, h7, h8, h9⟩
                  · exact absurd h5 (by decide)
                  subst h2
                  subst h3
                  subst h7
                  subst h6
                  refine ⟨As, rest, h1, rfl, rfl, h4, fun H locs ls hP hls hz hk1 hn1 => ?_⟩
                  obtain ⟨hl1, hin, hsel, hini, hdd, TT, NN, hcl⟩ := hokC hc9
                  have hw := ri_w_get (bs := bs) (sa := sa) (cs := cs) h8
                  rw [← ri_ad_lt (bs := bs) (sa := sa) h9] at hw
                  have hpre : PreV s H (Yn y).cls (ri_ad bs sa q) (va_Pc ((Value.ref q :: As).map (ri_v bs sa)) (ri_Pre D cl cs PC bs sa Nst M)) (As.map (ri_v bs sa)) := ⟨hblind, va_recv hK hP hcl hw, fun U hU hW => ⟨rfl, by rw [hU]; exact hP, va_K.moved hW.alike hK, fun w hw => HN w hw s U hW (hN w hw), by rw [hU]; exact hz⟩⟩
                  have hstk : (F0 m pc ls ((As.reverse ++ Value.ref q :: rest).map (ri_v bs sa))).stack = (As.map (ri_v bs sa)).reverse ++ .ref (ri_ad bs sa q) :: rest.map (ri_v bs sa) := by
                    show (As.reverse ++ Value.ref q :: rest).map (ri_v bs sa) = _
                    rw [List.map_append, List.map_reverse]
                    rfl
                  rcases hl1 with hl1 | ⟨host, hl1⟩
                  · exact va_runV (Ts := G) ⟨hx, hb, hml, hown, hts⟩ hmet ⟨callB_of b hts hgood rfl rfl rfl (hts _ hini) (hts _ hl1) hdd hR1, hts _ hin, hts _ hsel⟩ hpre rfl (by rw [List.length_map]; exact h1) hls hstk (lv_room (by rw [ri_catmap]; exact h4)) hd ⟨hk1, hn1⟩
                  · exact va_runVN (Ts := G) ⟨hx, hb, hml, hown, hts⟩ hmet ⟨va_cnB b hts hgood rfl rfl rfl (hN _ hl1) (hts _ hini) hdd hR1, hts _ hin, hts _ hsel⟩ hpre rfl (by rw [List.length_map]; exact h1) hls hstk (lv_room (by rw [ri_catmap]; exact h4)) hd ⟨hk1, hn1⟩
                · obtain ⟨As, rest, h1, h2, h3, h4, h5⟩ := ri_clS h
                  rcases h5 with ⟨-, h6, h7⟩ | ⟨h5, -⟩
                  case inr => exact absurd rfl h5
                  subst h2
                  subst h3
                  subst h7
                  subst h6
                  refine ⟨as, rest, h1, rfl, rfl, h4, fun H locs ls hP hls hz hk1 hn1 => ?_⟩
                  obtain ⟨hl1, hst, hini, hdd⟩ := hokC hc4
                  have hpre : PreS s H (va_Pc (as.map (ri_v bs sa)) (ri_Pre D cl cs PC bs sa Nst M)) (as.map (ri_v bs sa)) := ⟨hblind, fun U hU hW => ⟨rfl, by rw [hU]; exact hP, va_K.moved hW.alike hK, fun w hw => HN w hw s U hW (hN w hw), by rw [hU]; exact hz⟩⟩
                  have hstk : (F0 m pc ls ((as.reverse ++ rest).map (ri_v bs sa))).stack = (as.map (ri_v bs sa)).reverse ++ rest.map (ri_v bs sa) := by
                    show (as.reverse ++ rest).map (ri_v bs sa) = _
                    rw [List.map_append, List.map_reverse]
                  rcases hl1 with hl1 | ⟨host, hl1⟩
                  · exact va_runS (Ts := G) ⟨hx, hb, hml, hown, hts⟩ hmet ⟨callB_of b hts hgood rfl rfl rfl (hts _ hini) (hts _ hl1) hdd hR1, hts _ hst⟩ hpre rfl (by rw [List.length_map]; exact h1) hls hstk (lv_room (by rw [ri_catmap]; exact h4)) hd ⟨hk1, hn1⟩
                  · exact va_runSN (Ts := G) ⟨hx, hb, hml, hown, hts⟩ hmet ⟨va_cnB b hts hgood rfl rfl rfl (hN _ hl1) (hts _ hini) hdd hR1, hts _ hst, trivial⟩ hpre rfl (by rw [List.length_map]; exact h1) hls hstk (lv_room (by rw [ri_catmap]; exact h4)) hd ⟨hk1, hn1⟩
              obtain ⟨As, rest, h1, h2, h3, h4, hgo⟩ := hcl
              subst h2
              dsimp only at hm hW hrun
              refine ⟨⟨by show k ≤ k'; omega, by show n ≤ n'; omega⟩, fun H locs ls hP hl hS hn => ?_⟩
              dsimp only at hP hl hn
              show W p l e R s m args below meth c H locs k n Q (F0 m pc ls (st.map (ri_v bs sa)))
              refine ri_sz hP hS hbs hn (fun hz => ?_)
              refine ri_callG (hgo H locs ls hP hl.1 hz (by omega) (by omega)) (fun _ h => h) hS (fun H1 locs1 hP1 hlen hS1 => ?_)
              have hfin := hW H1 locs1 ls hP1 hl hS1 (by show s.heap.size + (k + k1) = bs + M1.length; omega)
              have e2 : (v1.toList ++ rest).map (ri_v bs sa) = (v1.map (ri_v bs sa)).toList ++ rest.map (ri_v bs sa) := by
                cases v1 <;> simp
              rw [e2] at hfin
              exact hfin
            · cases hrun
          · cases hrun
        · cases hrun
    · cases hrun
  · cases hrun
end RIR
end
section
/-! ===== every run is a contract, a walk ===== -/
section RIA
variable {l : Launch} {D : va_G} {cl : List vw_C} {cs : Nat → ClassId} {PC : String} {bs : Nat} {sa : Nat → Nat} {G Nst : List Cond} {Fd : List (List Value)} {P : Nat → Option ri_T} {Yn : Nat → MethodName} {Yc : Nat → ByteArray} {Yr : Nat → Option FieldType}
set_option maxHeartbeats 1000000 in
theorem ri_met_of_walk (HM : ∀ y t, P y = some t → ri_okM cl G Nst Fd PC Yn Yr (Yn y) (Yc y) (Yr y) t) {f : Nat} (hB : ri_WalkR l D cl cs PC bs sa G Nst Fd P Yn Yr f) : ri_MetR l D cl cs PC bs sa G Nst Fd P Yn Yc Yr f := by
  intro d y t as M v M' k n hy hcat hrun
  obtain ⟨hpl, hcode, hrk, hmx, hT⟩ := HM y t hy
  refine Met.ofW (cc := Yc y) (maxL := t.2.1) (ret := Yr y) hpl rfl ?_
  intro p e s m args below meth c s₁ B hml hv
  obtain ⟨rfl, hP, hK, hN, hsz⟩ := hv
  have hts0 := atoms_spec (ws := Cond.code (Yn y) (Yc y) t.2.1 (Yr y) :: G) B.pre
  have hown : s.vm.findClass (Yn y).cls = some m.cls := findClass_of_methodNamed B.named
  have hnm : meth.name = (Yn y).name := (name_of_methodNamed B.named B.method).1
  have hlocks := B.notSynchronized
  have hx := B.exec
  have hb := B.bytes
  have hr := B.returns
  have hl := lv_entry (as.map (ri_v bs sa)) (n := t.2.1) (by rw [ri_sl_len]; exact hcat)
  rw [ri_lv_args] at hl
  rw [lg_entry_eq]
  have hret : ∀ (pc : Nat) (i : ri_I) (lv : ri_L) (st : List Value) (H : Heap) (locs : List Loc) (ls : Array Slot), t.1[pc]? = some (some i) → ri_step none Fd t.2.2 i (pc, lv, st, M', k, n) = some (.inr (.inr v)) → va_P D cl (ri_w bs sa cs M') H → va_S (fun q => bs ≤ q) s.heap H locs → s.heap.size + k = bs + M'.length → W p l e (headSpec (Cond.code (Yn y) (Yc y) t.2.1 (Yr y) :: G) (ri_rm d k n)).room s m (as.map (ri_v bs sa)).toArray below meth c H locs k n (MQ below (ri_Q D cl cs bs sa v M M' k) (as.map (ri_v bs sa)).toArray s k n (fun q => bs ≤ q)) (F0 m pc ls (st.map (ri_v bs sa))) := by
    intro pc i lv st H locs ls hi hstep hP' hS' hn'
    obtain ⟨hd, -, -⟩ := hT pc i hi
    obtain ⟨ins, a, b, c0, dd⟩ := i
    have hq : ∀ u : State, u.heap = H → s.WarmedH u.vm → ri_Q D cl cs bs sa v M M' k (as.map (ri_v bs sa)).toArray s (.returned (v.map (ri_v bs sa))) u := fun u ht _ => ⟨rfl, by rw [ht]; exact hP', by omega, hS'.F ht⟩
    have hf : ∀ q ∈ locs, bs ≤ q.base := hS'.2.2
    rcases ri_step_ret hstep with ⟨rfl, x, rfl, rfl, hrr⟩ | ⟨rfl, x, rfl, rfl, hrr⟩ | ⟨rfl, hrr, ⟨x, rfl, rfl⟩ | ⟨rfl, rfl⟩⟩ | ⟨rfl, rfl, rfl, hrr⟩
    · rcases hrr with hrr | ⟨hrr, hx01⟩
      · have hty : Yr y = some .int := by
          rcases hrk with ⟨h1, h2⟩ | ⟨h1, h2⟩ | ⟨h1, h2⟩ | ⟨h1, h2⟩ | ⟨h1, h2⟩
          all_goals first | exact h2 | omega
        exact W.iret hx hb (hr.trans hty) hq hf hd
      · have hty : Yr y = some .boolean := by
          rcases hrk with ⟨h1, h2⟩ | ⟨h1, h2⟩ | ⟨h1, h2⟩ | ⟨h1, h2⟩ | ⟨h1, h2⟩
          all_goals first | exact h2 | omega
        exact W.zret hx hb (hr.trans hty) (ri_b01 hx01).1 hq hf hd
    · have hty : Yr y = some .long := by
        rcases hrk with ⟨h1, h2⟩ | ⟨h1, h2⟩ | ⟨h1, h2⟩ | ⟨h1, h2⟩ | ⟨h1, h2⟩
        all_goals first | exact h2 | omega
      exact W.lret hx hb (hr.trans hty) hq hf hd
    · have hty : (∃ C, Yr y = some (.object C)) ∨ ∃ t, Yr y = some (.array t) := by
        rcases hrk with ⟨h1, h2⟩ | ⟨h1, h2⟩ | ⟨h1, h2⟩ | ⟨h1, h2⟩ | ⟨h1, h2⟩
        all_goals first | exact h2 | omega
      rcases hty with ⟨C, hty⟩ | ⟨C, hty⟩
      · exact W.aret hx hb (hr.trans hty) (Or.inl ⟨C, rfl⟩) (Or.inr ⟨_, rfl⟩) hq hf hd
      · exact W.aret hx hb (hr.trans hty) (Or.inr ⟨C, rfl⟩) (Or.inr ⟨_, rfl⟩) hq hf hd
    · have hty : (∃ C, Yr y = some (.object C)) ∨ ∃ t, Yr y = some (.array t) := by
        rcases hrk with ⟨h1, h2⟩ | ⟨h1, h2⟩ | ⟨h1, h2⟩ | ⟨h1, h2⟩ | ⟨h1, h2⟩
        all_goals first | exact h2 | omega
      rcases hty with ⟨C, hty⟩ | ⟨C, hty⟩
      · exact W.aret hx hb (hr.trans hty) (Or.inl ⟨C, rfl⟩) (Or.inl rfl) hq hf hd
      · exact W.aret hx hb (hr.trans hty) (Or.inr ⟨C, rfl⟩) (Or.inl rfl) hq hf hd
    · have hty : Yr y = none := by
        rcases hrk with ⟨h1, h2⟩ | ⟨h1, h2⟩ | ⟨h1, h2⟩ | ⟨h1, h2⟩ | ⟨h1, h2⟩
        all_goals first | exact h2 | omega
      exact W.vret hx hb (hr.trans hty) hq hf hd
  obtain ⟨-, hW⟩ := hB p e (headSpec (Cond.code (Yn y) (Yc y) t.2.1 (Yr y) :: G) (ri_rm d k n)).room s m (as.map (ri_v bs sa)).toArray below meth c (MQ below (ri_Q D cl cs bs sa v M M' k) (as.map (ri_v bs sa)).toArray s k n (fun q => bs ≤ q)) (Yc y) (Yn y).cls (Yn y).name none d t (0, lv_args 0 as, [], M, 0, 0) v M' k n
    ⟨hx, hb, hml, hown, fun w hw => hts0 w (List.mem_cons_of_mem _ hw), hK, hN, by omega, hnm, by show 1 ≤ d + 1; omega, by show 90 ≤ 100 * (d + 1); omega, fun xs h => by cases h⟩ hT (Nat.le_refl _) (Nat.le_refl _) hrun (Nat.le_refl _) (Nat.le_refl _) hret
  exact hW s.heap [] _ hP hl va_S.rf (by show s.heap.size + 0 = bs + M.length; omega)
theorem ri_all (HG : ∀ w ∈ G, (w.onTables && w.keeps) = true ∨ ∃ ty, w = .arrayClass ty) (HN : ∀ w ∈ Nst, ∀ s U : State, s.WarmedH U.vm → va_Nw w s → va_Nw w U) (HM : ∀ y t, P y = some t → ri_okM cl G Nst Fd PC Yn Yr (Yn y) (Yc y) (Yr y) t) : ∀ f : Nat, ri_WalkR l D cl cs PC bs sa G Nst Fd P Yn Yr f ∧ ri_MetR l D cl cs PC bs sa G Nst Fd P Yn Yc Yr f
  | 0 => by
    have h0 : ri_WalkR l D cl cs PC bs sa G Nst Fd P Yn Yr 0 := by
      intro p e R s m args below meth c Q cc own nm X d t F v M' k' n' _ _ _ _ hrun
      exact absurd hrun (by simp [ri_run])
    exact ⟨h0, ri_met_of_walk HM h0⟩
  | f + 1 => by
    obtain ⟨h1, h2⟩ := ri_all HG HN HM f
    have h3 := ri_walk_step HG HN HM h2 h1
    exact ⟨h3, ri_met_of_walk HM h3⟩
/-- which instructions need words of the tables -/
def ri_isW : Instr → Bool
  | .getfield _ => true | .putfield _ => true | .new _ => true | .newarray _ => true | .anewarray _ => true | .multianewarray _ _ => true | .aastore => true
  | .invokespecial _ => true | .invokevirtual _ => true | .invokestatic _ => true | .ldc _ => true | .ldc_w _ => true | .ldc2_w _ => true
  | _ => false
/-- what can be seen in the table alone -/
def ri_stB (nL pc : Nat) : ri_I → Bool
  | (ins, a, _, _, _) => match ins with
    | .ifCond _ off => decide ((pc : Int) + off = (a : Int))
    | .if_icmp _ off => decide ((pc : Int) + off = (a : Int))
    | .goto off => decide ((pc : Int) + off = (a : Int))
    | .ifnull off => decide ((pc : Int) + off = (a : Int))
    | .ifnonnull off => decide ((pc : Int) + off = (a : Int))
    | .istore_n j => decide ((j : Nat) < nL)
    | .istore j => decide (j < nL)
    | .astore_n j => decide ((j : Nat) < nL)
    | .astore j => decide (j < nL)
    | .lstore_n j => decide ((j : Nat) + 1 < nL)
    | .lstore j => decide (j + 1 < nL)
    | .iinc j _ => decide (j < nL)
    | .tableswitch dflt _ _ offs => decide ((pc : Int) + dflt = (a : Int)) && offs.toList.all (fun off => decide (0 ≤ (pc : Int) + off))
    | _ => true
set_option maxHeartbeats 4000000 in
theorem ri_okS_of {own nm : String} {nL pc : Nat} {i : ri_I} (h : ri_stB nL pc i = true) (hw : ri_isW i.1 = false) : ri_okS cl G Nst Fd PC own nm nL pc i ∧ ri_okC cl G Nst Yn Yr own i := by
  obtain ⟨ins, a, b, c, d⟩ := i
  cases ins with
  | getfield _ => cases hw
  | putfield _ => cases hw
  | new _ => cases hw
  | newarray _ => cases hw
  | anewarray _ => cases hw
  | multianewarray _ _ => cases hw
  | aastore => cases hw
  | invokespecial _ => cases hw
  | invokevirtual _ => cases hw
  | invokestatic _ => cases hw
  | ldc _ => cases hw
  | ldc_w _ => cases hw
  | ldc2_w _ => cases hw
  | tableswitch dflt lo hi offs =>
    have h2 : (decide ((pc : Int) + dflt = (a : Int)) && offs.toList.all (fun off => decide (0 ≤ (pc : Int) + off))) = true := h
    rw [Bool.and_eq_true] at h2
    exact ⟨⟨of_decide_eq_true h2.1, fun off ho => of_decide_eq_true (List.all_eq_true.mp h2.2 off ho)⟩, trivial⟩
  | ifCond cd off => exact ⟨show (pc : Int) + off = (a : Int) from of_decide_eq_true h, trivial⟩
  | if_icmp cd off => exact ⟨show (pc : Int) + off = (a : Int) from of_decide_eq_true h, trivial⟩
  | goto off => exact ⟨show (pc : Int) + off = (a : Int) from of_decide_eq_true h, trivial⟩
  | ifnull off => exact ⟨show (pc : Int) + off = (a : Int) from of_decide_eq_true h, trivial⟩
  | ifnonnull off => exact ⟨show (pc : Int) + off = (a : Int) from of_decide_eq_true h, trivial⟩
  | istore_n j => exact ⟨show (j : Nat) < nL from of_decide_eq_true h, trivial⟩
  | astore_n j => exact ⟨show (j : Nat) < nL from of_decide_eq_true h, trivial⟩
  | istore j => exact ⟨show j < nL from of_decide_eq_true h, trivial⟩
  | astore j => exact ⟨show j < nL from of_decide_eq_true h, trivial⟩
  | iinc j v => exact ⟨show j < nL from of_decide_eq_true h, trivial⟩
  | lstore_n j => exact ⟨show (j : Nat) + 1 < nL from of_decide_eq_true h, trivial⟩
  | lstore j => exact ⟨show j + 1 < nL from of_decide_eq_true h, trivial⟩
  | _ => exact ⟨trivial, trivial⟩
/-- the table against the bytes -/
def ri_decB (cc : ByteArray) (nL : Nat) : Nat → List (Option ri_I) → Bool
  | _, [] => true
  | pc, none :: t => ri_decB cc nL (pc + 1) t
  | pc, some i :: t => decide (decode cc pc = .ok (i.1, ri_len i.1 i.2.2.2.2)) && (ri_stB nL pc i && ri_decB cc nL (pc + 1) t)
/-- a table's rows that need words, one behind another -/
def ri_oks (cl : List vw_C) (G Nst : List Cond) (Fd : List (List Value)) (PC : String) (Yn : Nat → MethodName) (Yr : Nat → Option FieldType) (own nm : String) (nL : Nat) : Nat → List (Option ri_I) → Prop
  | _, [] => True
  | pc, none :: t => ri_oks cl G Nst Fd PC Yn Yr own nm nL (pc + 1) t
  | pc, some i :: t => match ri_isW i.1 with
    | true => (ri_okS cl G Nst Fd PC own nm nL pc i ∧ ri_okC cl G Nst Yn Yr own i) ∧ ri_oks cl G Nst Fd PC Yn Yr own nm nL (pc + 1) t
    | false => ri_oks cl G Nst Fd PC Yn Yr own nm nL (pc + 1) t
theorem ri_decB_at {cc : ByteArray} {nL : Nat} : ∀ (t : List (Option ri_I)) (p0 : Nat), ri_decB cc nL p0 t = true → ∀ (pc : Nat) (i : ri_I), t[pc]? = some (some i) → decode cc (p0 + pc) = .ok (i.1, ri_len i.1 i.2.2.2.2) ∧ ri_stB nL (p0 + pc) i = true
  | [], p0, _, pc, i, hi => by simp at hi
  | none :: t, p0, h, 0, i, hi => by simp at hi
  | none :: t, p0, h, pc + 1, i, hi => by
    have h1 := ri_decB_at t (p0 + 1) h pc i (by simpa using hi)
    rw [show p0 + (pc + 1) = p0 + 1 + pc by omega]
    exact h1
  | some j :: t, p0, h, 0, i, hi => by
    have h2 : j = i := by simpa using hi
    subst h2
    unfold ri_decB at h
    rw [Bool.and_eq_true, Bool.and_eq_true] at h
    exact ⟨of_decide_eq_true h.1, h.2.1⟩
  | some j :: t, p0, h, pc + 1, i, hi => by
    unfold ri_decB at h
    rw [Bool.and_eq_true, Bool.and_eq_true] at h
    have h1 := ri_decB_at t (p0 + 1) h.2.2 pc i (by simpa using hi)
    rw [show p0 + (pc + 1) = p0 + 1 + pc by omega]
    exact h1
theorem ri_oks_at {own nm : String} {nL : Nat} : ∀ (t : List (Option ri_I)) (p0 : Nat), ri_oks cl G Nst Fd PC Yn Yr own nm nL p0 t → ∀ (pc : Nat) (i : ri_I), t[pc]? = some (some i) → ri_isW i.1 = true → ri_okS cl G Nst Fd PC own nm nL (p0 + pc) i ∧ ri_okC cl G Nst Yn Yr own i
  | [], p0, _, pc, i, hi, _ => by simp at hi
  | none :: t, p0, h, 0, i, hi, _ => by simp at hi
  | none :: t, p0, h, pc + 1, i, hi, hw => by
    have h1 := ri_oks_at t (p0 + 1) h pc i (by simpa using hi) hw
    rw [show p0 + (pc + 1) = p0 + 1 + pc by omega]
    exact h1
  | some j :: t, p0, h, 0, i, hi, hw => by
    have h2 : j = i := by simpa using hi
    subst h2
    unfold ri_oks at h
    rw [hw] at h
    exact h.1
  | some j :: t, p0, h, pc + 1, i, hi, hw => by
    unfold ri_oks at h
    have h3 : ri_oks cl G Nst Fd PC Yn Yr own nm nL (p0 + 1) t := by
      split at h
      · exact h.2
      · exact h
    have h1 := ri_oks_at t (p0 + 1) h3 pc i (by simpa using hi) hw
    rw [show p0 + (pc + 1) = p0 + 1 + pc by omega]
    exact h1
theorem ri_okT_of {own nm : String} {cc : ByteArray} {t : ri_T} (hd : ri_decB cc t.2.1 0 t.1 = true) (h : ri_oks cl G Nst Fd PC Yn Yr own nm t.2.1 0 t.1) : ri_okT cl G Nst Fd PC Yn Yr own nm cc t := fun pc i hi => by
  have h0 := ri_decB_at t.1 0 hd pc i hi
  rw [Nat.zero_add] at h0
  refine ⟨h0.1, ?_⟩
  cases hw : ri_isW i.1 with
  | false => exact ri_okS_of h0.2 hw
  | true =>
    have h1 := ri_oks_at t.1 0 h pc i hi hw
    rw [Nat.zero_add] at h1
    exact h1
theorem ri_oks_app {own nm : String} {nL : Nat} : ∀ (t u : List (Option ri_I)) (p0 : Nat), ri_oks cl G Nst Fd PC Yn Yr own nm nL p0 t → ri_oks cl G Nst Fd PC Yn Yr own nm nL (p0 + t.length) u → ri_oks cl G Nst Fd PC Yn Yr own nm nL p0 (t ++ u)
  | [], u, p0, _, h => by simpa using h
  | none :: t, u, p0, h1, h2 => ri_oks_app t u (p0 + 1) h1 (by rw [show p0 + 1 + t.length = p0 + (none :: t).length by simp; omega]; exact h2)
  | some i :: t, u, p0, h1, h2 => by
    have e1 : p0 + 1 + t.length = p0 + (some i :: t).length := by simp; omega
    show ri_oks cl G Nst Fd PC Yn Yr own nm nL p0 (some i :: (t ++ u))
    unfold ri_oks at h1 ⊢
    split at h1
    · rename_i hw
      exact ⟨h1.1, ri_oks_app t u (p0 + 1) h1.2 (by rw [e1]; exact h2)⟩
    · rename_i hw
      exact ri_oks_app t u (p0 + 1) h1 (by rw [e1]; exact h2)
end RIA
end
section
theorem i_vc : Claimed_1_1 ∧ Claimed_1_2 := sorry
end
