/-! ===== the small machine (ri_): memory as a list of cells; a reference is a place; what one instruction does; what a run of a method does ===== -/
abbrev ri_A : Type := List Int32 ⊕ (List Int64 ⊕ List (Option Nat))
abbrev ri_C : Type := (Nat × ri_A) ⊕ (Nat × List Value)
abbrev ri_M : Type := List ri_C
abbrev ri_L : Type := List (Nat × Value)
/-- pc, locals, stack, memory, cells made, slots made -/
abbrev ri_F : Type := Nat × ri_L × List Value × ri_M × Nat × Nat
/-- an instruction, and four numbers that the pool has for it -/
abbrev ri_I : Type := Instr × Nat × Nat × Nat × Nat
/-- on, a call, a return -/
abbrev ri_X : Type := ri_F ⊕ ((Nat × List Value × ri_F) ⊕ Option Value)
def ri_st1 (lv : ri_L) (i : Nat) (v : Value) : ri_L := (i, v) :: lv.filter (fun q => !(q.1 == i) && !(q.1 + 1 == i && q.2.category == 2))
def ri_st2 (lv : ri_L) (i : Nat) (v : Value) : ri_L := (i, v) :: lv.filter (fun q => !(q.1 == i) && (!(q.1 == i + 1) && !(q.1 + 1 == i && q.2.category == 2)))
def ri_ld (lv : ri_L) (i : Nat) : Option Value := (lv.find? (fun q => q.1 == i)).map Prod.snd
def ri_rv (r : Option Nat) : Value := match r with
  | none => .null
  | some a => .ref a
/-- what a field of a kind takes: 0 int, 1 long, 2 boolean, 3 a reference -/
def ri_fit (kd : Nat) (v : Value) : Bool := match v with
  | .int x => kd == 0 || (kd == 2 && (x == 0 || x == 1))
  | .long _ => kd == 1
  | .null => kd == 3
  | .ref _ => kd == 3
  | _ => false
def ri_len (i : Instr) (d : Nat) : Nat := match i with
  | .bipush _ => 2 | .iload _ => 2 | .lload _ => 2 | .aload _ => 2 | .istore _ => 2 | .lstore _ => 2 | .astore _ => 2 | .ldc _ => 2 | .newarray _ => 2
  | .sipush _ => 3 | .ldc_w _ => 3 | .ldc2_w _ => 3 | .iinc _ _ => 3 | .ifCond _ _ => 3 | .if_icmp _ _ => 3 | .goto _ => 3 | .ifnull _ => 3 | .ifnonnull _ => 3
  | .getfield _ => 3 | .putfield _ => 3 | .new _ => 3 | .anewarray _ => 3 | .invokevirtual _ => 3 | .invokespecial _ => 3 | .invokestatic _ => 3
  | .multianewarray _ _ => 4
  | .tableswitch _ _ _ _ => d
  | _ => 1
def ri_pc (i : Nat) (n : Nat) : Nat := i + n
/-- System.arraycopy -/
def ri_cpy (xs ys : List Int32) (s d n : Nat) : List Int32 := ys.take d ++ ((xs.drop s).take n ++ ys.drop (d + n))
def ri_row (b n : Nat) : ri_C := if b = 1 then .inl (1, .inr (.inl (List.replicate n 0))) else .inl (b, .inl (List.replicate n 0))
/-- a call: 'how' 0 static, 1 special, 2 virtual (the receiver's class is d); n0 arguments lie on the stack, the last one on top -/
def ri_cl (y n0 pc : Nat) (lv : ri_L) (st : List Value) (M : ri_M) (k n how d : Nat) : Option ri_X :=
  if st.length < n0 ∨ 8 < ((st.drop (if how = 0 then n0 else n0 + 1)).map (fun v => v.category)).sum then none else
  if how = 0 then some (.inr (.inl (y, (st.take n0).reverse, (pc, lv, st.drop n0, M, k, n)))) else
  match st[n0]? with
  | some (.ref q) => (match M[q]? with
    | some (.inr (ci, _)) => if ci = d ∧ q < 1000000 then some (.inr (.inl (y, .ref q :: (st.take n0).reverse, (pc, lv, st.drop (n0 + 1), M, k, n)))) else none
    | _ => none)
  | _ => none
/-- length() (b = 0) and charAt(i) (b = 1) of a text: the texts stand in Fd, behind the classes -/
def ri_sx (Fd : List (List Value)) (b pc : Nat) (lv : ri_L) (st : List Value) (M : ri_M) (k n : Nat) : Option ri_X :=
  match st with
  | .ref q :: r => if b = 0 ∧ (3000000 ≤ q ∧ q < 3000013) ∧ (r.map (fun v => v.category)).sum ≤ 8 then (match Fd[13 + q % 1000000]? with
    | some s => some (.inl (pc + 3, lv, .int (Int32.ofNat s.length) :: r, M, k, n))
    | none => none) else none
  | .int i :: .ref q :: r => if b = 1 ∧ (3000000 ≤ q ∧ q < 3000013) ∧ ¬ i < 0 ∧ (r.map (fun v => v.category)).sum ≤ 8 then (match Fd[13 + q % 1000000]? with
    | some s => (match s[i.toNatClampNeg]? with
      | some (.int v) => some (.inl (pc + 3, lv, .int v :: r, M, k, n))
      | _ => none)
    | none => none) else none
  | _ => none
set_option maxHeartbeats 4000000 in
def ri_step (X : Option (List Int32)) (Fd : List (List Value)) (rk : Nat) : ri_I → ri_F → Option ri_X
  | (ins, a, b, c, d), (pc, lv, st, M, k, n) => match ins with
    | .iconst v => some (.inl (pc + 1, lv, .int (Int32.ofInt v) :: st, M, k, n))
    | .bipush v => some (.inl (pc + 2, lv, .int (Int8.ofInt v).toInt32 :: st, M, k, n))
    | .sipush v => some (.inl (pc + 3, lv, .int (Int16.ofInt v).toInt32 :: st, M, k, n))
    | .lconst v => some (.inl (pc + 1, lv, .long (Int64.ofNat (v : Nat)) :: st, M, k, n))
    | .aconst_null => some (.inl (pc + 1, lv, .null :: st, M, k, n))
    | .ldc _ => if c = 0 then some (.inl (pc + 2, lv, .int (Int32.ofNat a) :: st, M, k, n)) else if c = 1 then some (.inl (pc + 2, lv, .ref (3000000 + a) :: st, M, k, n)) else none
    | .ldc_w _ => if c = 0 then some (.inl (pc + 3, lv, .int (Int32.ofNat a) :: st, M, k, n)) else if c = 1 then some (.inl (pc + 3, lv, .ref (3000000 + a) :: st, M, k, n)) else none
    | .ldc2_w _ => some (.inl (pc + 3, lv, .long (Int64.ofNat a) :: st, M, k, n))
    | .iload_n j => (match ri_ld lv j with | some (.int x) => some (.inl (pc + 1, lv, .int x :: st, M, k, n)) | _ => none)
    | .iload j => (match ri_ld lv j with | some (.int x) => some (.inl (pc + 2, lv, .int x :: st, M, k, n)) | _ => none)
    | .lload_n j => (match ri_ld lv j with | some (.long x) => some (.inl (pc + 1, lv, .long x :: st, M, k, n)) | _ => none)
    | .lload j => (match ri_ld lv j with | some (.long x) => some (.inl (pc + 2, lv, .long x :: st, M, k, n)) | _ => none)
    | .aload_n j => (match ri_ld lv j with | some (.ref x) => some (.inl (pc + 1, lv, .ref x :: st, M, k, n)) | some .null => some (.inl (pc + 1, lv, .null :: st, M, k, n)) | _ => none)
    | .aload j => (match ri_ld lv j with | some (.ref x) => some (.inl (pc + 2, lv, .ref x :: st, M, k, n)) | some .null => some (.inl (pc + 2, lv, .null :: st, M, k, n)) | _ => none)
    | .istore_n j => (match st with | .int x :: r => some (.inl (pc + 1, ri_st1 lv j (.int x), r, M, k, n)) | _ => none)
    | .istore j => (match st with | .int x :: r => some (.inl (pc + 2, ri_st1 lv j (.int x), r, M, k, n)) | _ => none)
    | .lstore_n j => (match st with | .long x :: r => some (.inl (pc + 1, ri_st2 lv j (.long x), r, M, k, n)) | _ => none)
    | .lstore j => (match st with | .long x :: r => some (.inl (pc + 2, ri_st2 lv j (.long x), r, M, k, n)) | _ => none)
    | .astore_n j => (match st with | .ref x :: r => some (.inl (pc + 1, ri_st1 lv j (.ref x), r, M, k, n)) | .null :: r => some (.inl (pc + 1, ri_st1 lv j .null, r, M, k, n)) | _ => none)
    | .astore j => (match st with | .ref x :: r => some (.inl (pc + 2, ri_st1 lv j (.ref x), r, M, k, n)) | .null :: r => some (.inl (pc + 2, ri_st1 lv j .null, r, M, k, n)) | _ => none)
    | .iinc j v => (match ri_ld lv j with | some (.int x) => some (.inl (pc + 3, ri_st1 lv j (.int (x + Int32.ofInt v)), st, M, k, n)) | _ => none)
    | .iadd => (match st with | .int y :: .int x :: r => some (.inl (pc + 1, lv, .int (x + y) :: r, M, k, n)) | _ => none)
    | .isub => (match st with | .int y :: .int x :: r => some (.inl (pc + 1, lv, .int (x - y) :: r, M, k, n)) | _ => none)
    | .imul => (match st with | .int y :: .int x :: r => some (.inl (pc + 1, lv, .int (x * y) :: r, M, k, n)) | _ => none)
    | .iand => (match st with | .int y :: .int x :: r => some (.inl (pc + 1, lv, .int (x &&& y) :: r, M, k, n)) | _ => none)
    | .ior => (match st with | .int y :: .int x :: r => some (.inl (pc + 1, lv, .int (x ||| y) :: r, M, k, n)) | _ => none)
    | .ixor => (match st with | .int y :: .int x :: r => some (.inl (pc + 1, lv, .int (x ^^^ y) :: r, M, k, n)) | _ => none)
    | .ishl => (match st with | .int y :: .int x :: r => some (.inl (pc + 1, lv, .int (x <<< (y &&& 31)) :: r, M, k, n)) | _ => none)
    | .ishr => (match st with | .int y :: .int x :: r => some (.inl (pc + 1, lv, .int (x >>> (y &&& 31)) :: r, M, k, n)) | _ => none)
    | .iushr => (match st with | .int y :: .int x :: r => some (.inl (pc + 1, lv, .int ((x.toUInt32 >>> (y.toUInt32 &&& Int32.toUInt32 31)).toInt32) :: r, M, k, n)) | _ => none)
    | .ineg => (match st with | .int x :: r => some (.inl (pc + 1, lv, .int (-x) :: r, M, k, n)) | _ => none)
    | .idiv => (match st with | .int y :: .int x :: r => if y = 0 then none else some (.inl (pc + 1, lv, .int (x / y) :: r, M, k, n)) | _ => none)
    | .irem => (match st with | .int y :: .int x :: r => if y = 0 then none else some (.inl (pc + 1, lv, .int (x - x / y * y) :: r, M, k, n)) | _ => none)
    | .ladd => (match st with | .long y :: .long x :: r => some (.inl (pc + 1, lv, .long (x + y) :: r, M, k, n)) | _ => none)
    | .lsub => (match st with | .long y :: .long x :: r => some (.inl (pc + 1, lv, .long (x - y) :: r, M, k, n)) | _ => none)
    | .lmul => (match st with | .long y :: .long x :: r => some (.inl (pc + 1, lv, .long (x * y) :: r, M, k, n)) | _ => none)
    | .land => (match st with | .long y :: .long x :: r => some (.inl (pc + 1, lv, .long (x &&& y) :: r, M, k, n)) | _ => none)
    | .lor => (match st with | .long y :: .long x :: r => some (.inl (pc + 1, lv, .long (x ||| y) :: r, M, k, n)) | _ => none)
    | .ldiv => (match st with | .long y :: .long x :: r => if y = 0 then none else some (.inl (pc + 1, lv, .long (x / y) :: r, M, k, n)) | _ => none)
    | .lrem => (match st with | .long y :: .long x :: r => if y = 0 then none else some (.inl (pc + 1, lv, .long (x - x / y * y) :: r, M, k, n)) | _ => none)
    | .lshl => (match st with | .int y :: .long x :: r => some (.inl (pc + 1, lv, .long (x <<< (y.toInt64 &&& 63)) :: r, M, k, n)) | _ => none)
    | .lshr => (match st with | .int y :: .long x :: r => some (.inl (pc + 1, lv, .long (x >>> (y.toInt64 &&& 63)) :: r, M, k, n)) | _ => none)
    | .lcmp => (match st with | .long y :: .long x :: r => some (.inl (pc + 1, lv, .int (lg_cmp x y) :: r, M, k, n)) | _ => none)
    | .i2l => (match st with | .int x :: r => some (.inl (pc + 1, lv, .long x.toInt64 :: r, M, k, n)) | _ => none)
    | .l2i => (match st with | .long x :: r => some (.inl (pc + 1, lv, .int x.toInt32 :: r, M, k, n)) | _ => none)
    | .i2c => (match st with | .int x :: r => some (.inl (pc + 1, lv, .int (x.toUInt32 % 65536).toInt32 :: r, M, k, n)) | _ => none)
    | .dup => (match st with | v :: r => if v.category = 1 then some (.inl (pc + 1, lv, v :: v :: r, M, k, n)) else none | _ => none)
    | .pop => (match st with | v :: r => if v.category = 1 then some (.inl (pc + 1, lv, r, M, k, n)) else none | _ => none)
    | .dup2 => (match st with | .long v :: r => some (.inl (pc + 1, lv, .long v :: .long v :: r, M, k, n)) | v :: u :: r => if v.category = 1 ∧ u.category = 1 then some (.inl (pc + 1, lv, v :: u :: v :: u :: r, M, k, n)) else none | _ => none)
    | .ifCond .eq _ => (match st with | .int x :: r => if x = 0 then some (.inl (a, lv, r, M, k, n)) else some (.inl (pc + 3, lv, r, M, k, n)) | _ => none)
    | .ifCond .ne _ => (match st with | .int x :: r => if ¬ x = 0 then some (.inl (a, lv, r, M, k, n)) else some (.inl (pc + 3, lv, r, M, k, n)) | _ => none)
    | .ifCond .lt _ => (match st with | .int x :: r => if x < 0 then some (.inl (a, lv, r, M, k, n)) else some (.inl (pc + 3, lv, r, M, k, n)) | _ => none)
    | .ifCond .ge _ => (match st with | .int x :: r => if 0 ≤ x then some (.inl (a, lv, r, M, k, n)) else some (.inl (pc + 3, lv, r, M, k, n)) | _ => none)
    | .ifCond .gt _ => (match st with | .int x :: r => if 0 < x then some (.inl (a, lv, r, M, k, n)) else some (.inl (pc + 3, lv, r, M, k, n)) | _ => none)
    | .ifCond .le _ => (match st with | .int x :: r => if x ≤ 0 then some (.inl (a, lv, r, M, k, n)) else some (.inl (pc + 3, lv, r, M, k, n)) | _ => none)
    | .if_icmp .eq _ => (match st with | .int y :: .int x :: r => if x = y then some (.inl (a, lv, r, M, k, n)) else some (.inl (pc + 3, lv, r, M, k, n)) | _ => none)
    | .if_icmp .ne _ => (match st with | .int y :: .int x :: r => if ¬ x = y then some (.inl (a, lv, r, M, k, n)) else some (.inl (pc + 3, lv, r, M, k, n)) | _ => none)
    | .if_icmp .lt _ => (match st with | .int y :: .int x :: r => if x < y then some (.inl (a, lv, r, M, k, n)) else some (.inl (pc + 3, lv, r, M, k, n)) | _ => none)
    | .if_icmp .ge _ => (match st with | .int y :: .int x :: r => if y ≤ x then some (.inl (a, lv, r, M, k, n)) else some (.inl (pc + 3, lv, r, M, k, n)) | _ => none)
    | .if_icmp .gt _ => (match st with | .int y :: .int x :: r => if y < x then some (.inl (a, lv, r, M, k, n)) else some (.inl (pc + 3, lv, r, M, k, n)) | _ => none)
    | .if_icmp .le _ => (match st with | .int y :: .int x :: r => if x ≤ y then some (.inl (a, lv, r, M, k, n)) else some (.inl (pc + 3, lv, r, M, k, n)) | _ => none)
    | .goto _ => some (.inl (a, lv, st, M, k, n))
    | .ifnull _ => (match st with | .null :: r => some (.inl (a, lv, r, M, k, n)) | .ref _ :: r => some (.inl (pc + 3, lv, r, M, k, n)) | _ => none)
    | .ifnonnull _ => (match st with | .null :: r => some (.inl (pc + 3, lv, r, M, k, n)) | .ref _ :: r => some (.inl (a, lv, r, M, k, n)) | _ => none)
    | .tableswitch _ lo hi offs => (match st with | .int x :: r => if x.toInt < lo ∨ hi < x.toInt then some (.inl (a, lv, r, M, k, n)) else (match offs[(x.toInt - lo).toNat]? with | some off => some (.inl (((pc : Int) + off).toNat, lv, r, M, k, n)) | none => none) | _ => none)
    | .getfield _ => (match st with | .ref q :: r => (match M[q]? with | some (.inr (ci, fs)) => if ci = a ∧ q < 1000000 then (match fs[b]? with | some v => some (.inl (pc + 3, lv, v :: r, M, k, n)) | none => none) else none | _ => none) | _ => none)
    | .putfield _ => (match st with | v :: .ref q :: r => (match M[q]? with | some (.inr (ci, fs)) => if ci = a ∧ q < 1000000 ∧ b < fs.length ∧ ri_fit d v = true then some (.inl (pc + 3, lv, r, M.set q (.inr (ci, fs.set b v)), k, n)) else none | _ => none) | _ => none)
    | .iaload => (match st with | .int i :: .ref q :: r => (match M[q]? with | some (.inl (t, .inl xs)) => if t = 0 ∧ q < 1000000 ∧ ¬ i < 0 then (match xs[i.toNatClampNeg]? with | some v => some (.inl (pc + 1, lv, .int v :: r, M, k, n)) | none => none) else none | none => if q = 2000000 ∧ ¬ i < 0 then (match X with | some xs => (match xs[i.toNatClampNeg]? with | some v => some (.inl (pc + 1, lv, .int v :: r, M, k, n)) | none => none) | none => none) else none | _ => none) | _ => none)
    | .caload => (match st with | .int i :: .ref q :: r => (match M[q]? with | some (.inl (t, .inl xs)) => if t = 2 ∧ q < 1000000 ∧ ¬ i < 0 then (match xs[i.toNatClampNeg]? with | some v => some (.inl (pc + 1, lv, .int v :: r, M, k, n)) | none => none) else none | _ => none) | _ => none)
    | .baload => (match st with | .int i :: .ref q :: r => (match M[q]? with | some (.inl (t, .inl xs)) => if t = 3 ∧ q < 1000000 ∧ ¬ i < 0 then (match xs[i.toNatClampNeg]? with | some v => some (.inl (pc + 1, lv, .int v :: r, M, k, n)) | none => none) else none | _ => none) | _ => none)
    | .laload => (match st with | .int i :: .ref q :: r => (match M[q]? with | some (.inl (t, .inr (.inl xs))) => if t = 1 ∧ q < 1000000 ∧ ¬ i < 0 then (match xs[i.toNatClampNeg]? with | some v => some (.inl (pc + 1, lv, .long v :: r, M, k, n)) | none => none) else none | _ => none) | _ => none)
    | .aaload => (match st with | .int i :: .ref q :: r => (match M[q]? with | some (.inl (t, .inr (.inr xs))) => if 4 ≤ t ∧ t < 7 ∧ q < 1000000 ∧ ¬ i < 0 then (match xs[i.toNatClampNeg]? with | some v => some (.inl (pc + 1, lv, ri_rv v :: r, M, k, n)) | none => none) else none | _ => none) | _ => none)
    | .iastore => (match st with | .int x :: .int i :: .ref q :: r => (match M[q]? with | some (.inl (t, .inl xs)) => if t = 0 ∧ q < 1000000 ∧ ¬ i < 0 ∧ i.toNatClampNeg < xs.length then some (.inl (pc + 1, lv, r, M.set q (.inl (t, .inl (xs.set i.toNatClampNeg x))), k, n)) else none | _ => none) | _ => none)
    | .castore => (match st with | .int x :: .int i :: .ref q :: r => (match M[q]? with | some (.inl (t, .inl xs)) => if t = 2 ∧ q < 1000000 ∧ ¬ i < 0 ∧ i.toNatClampNeg < xs.length then some (.inl (pc + 1, lv, r, M.set q (.inl (t, .inl (xs.set i.toNatClampNeg (vp_nar .char x)))), k, n)) else none | _ => none) | _ => none)
    | .bastore => (match st with | .int x :: .int i :: .ref q :: r => (match M[q]? with | some (.inl (t, .inl xs)) => if t = 3 ∧ q < 1000000 ∧ ¬ i < 0 ∧ i.toNatClampNeg < xs.length then some (.inl (pc + 1, lv, r, M.set q (.inl (t, .inl (xs.set i.toNatClampNeg (vp_nar .boolean x)))), k, n)) else none | _ => none) | _ => none)
    | .lastore => (match st with | .long x :: .int i :: .ref q :: r => (match M[q]? with | some (.inl (t, .inr (.inl xs))) => if t = 1 ∧ q < 1000000 ∧ ¬ i < 0 ∧ i.toNatClampNeg < xs.length then some (.inl (pc + 1, lv, r, M.set q (.inl (t, .inr (.inl (xs.set i.toNatClampNeg x)))), k, n)) else none | _ => none) | _ => none)
    | .aastore => (match st with | .ref x :: .int i :: .ref q :: r => (match M[q]?, M[x]? with | some (.inl (t, .inr (.inr xs))), some (.inr (ci, _)) => if t = 6 ∧ ci = a ∧ q < 1000000 ∧ x < 1000000 ∧ ¬ i < 0 ∧ i.toNatClampNeg < xs.length then some (.inl (pc + 1, lv, r, M.set q (.inl (t, .inr (.inr (xs.set i.toNatClampNeg (some x))))), k, n)) else none | _, _ => none) | _ => none)
    | .arraylength => (match st with | .ref q :: r => if q = 2000000 then (match X with | some xs => some (.inl (pc + 1, lv, .int (Int32.ofNat xs.length) :: r, M, k, n)) | none => none) else (match M[q]? with | some (.inl (t, .inl xs)) => if t < 4 ∧ q < 1000000 then some (.inl (pc + 1, lv, .int (Int32.ofNat xs.length) :: r, M, k, n)) else none | some (.inl (t, .inr (.inl xs))) => if t < 4 ∧ q < 1000000 then some (.inl (pc + 1, lv, .int (Int32.ofNat xs.length) :: r, M, k, n)) else none | _ => none) | _ => none)
    | .new _ => (match Fd[a]? with | some fs => if M.length < 1000000 then some (.inl (pc + 3, lv, .ref M.length :: st, M ++ [.inr (a, fs)], k + 1, n + fs.length)) else none | none => none)
    | .newarray _ => (match st with | .int x :: r => if x < 0 ∨ 1000000 ≤ M.length ∨ 60000 < x.toNatClampNeg then none else if a = 1 then some (.inl (pc + 2, lv, .ref M.length :: r, M ++ [.inl (1, .inr (.inl (List.replicate x.toNatClampNeg 0)))], k + 1, n + x.toNatClampNeg)) else some (.inl (pc + 2, lv, .ref M.length :: r, M ++ [.inl (a, .inl (List.replicate x.toNatClampNeg 0))], k + 1, n + x.toNatClampNeg)) | _ => none)
    | .anewarray _ => (match st with | .int x :: r => if x < 0 ∨ 1000000 ≤ M.length ∨ 60000 < x.toNatClampNeg then none else some (.inl (pc + 3, lv, .ref M.length :: r, M ++ [.inl (6, .inr (.inr (List.replicate x.toNatClampNeg none)))], k + 1, n + x.toNatClampNeg)) | _ => none)
    | .multianewarray _ _ => (match st with | .int y :: .int x :: r => if x < 0 ∨ y < 0 ∨ 900000 ≤ M.length ∨ 60000 < x.toNatClampNeg ∨ 60000 < y.toNatClampNeg then none else some (.inl (pc + 4, lv, .ref M.length :: r, M ++ ((.inl (a, .inr (.inr ((List.range x.toNatClampNeg).map (fun i => some (M.length + 1 + i)))))) :: List.replicate x.toNatClampNeg (ri_row b y.toNatClampNeg)), k + 1 + x.toNatClampNeg, n + x.toNatClampNeg + x.toNatClampNeg * y.toNatClampNeg)) | _ => none)
    | .invokespecial _ => if c = 2 then (match st with | [.ref q] => some (.inl (pc + 3, lv, [], M, k, n)) | _ => none) else if c = 5 then none else ri_cl a b (pc + 3) lv st M k n 1 d
    | .invokevirtual _ => if c = 9 then ri_sx Fd b pc lv st M k n else ri_cl a b (pc + 3) lv st M k n 2 d
    | .invokestatic _ => if c = 4 then (match st with | [.int z, .int dp, .ref q1, .int sp, .ref q0] => (match M[q0]?, M[q1]? with | some (.inl (t0, .inl xs)), some (.inl (t1, .inl ys)) => if t0 = 0 ∧ t1 = 0 ∧ q0 < 1000000 ∧ q1 < 1000000 ∧ ¬ sp < 0 ∧ ¬ dp < 0 ∧ ¬ z < 0 ∧ sp.toNatClampNeg + z.toNatClampNeg ≤ xs.length ∧ dp.toNatClampNeg + z.toNatClampNeg ≤ ys.length then some (.inl (pc + 3, lv, [], M.set q1 (.inl (t1, .inl (ri_cpy xs ys sp.toNatClampNeg dp.toNatClampNeg z.toNatClampNeg))), k, n)) else none | _, _ => none) | _ => none) else if c = 6 then (match st with | .int y :: .int x :: r => if (r.map (fun v => v.category)).sum ≤ 8 then some (.inl (pc + 3, lv, .int (if x < y then y else x) :: r, M, k, n)) else none | _ => none) else if c = 7 then (match st with | .int y :: .int x :: r => if (r.map (fun v => v.category)).sum ≤ 8 then some (.inl (pc + 3, lv, .int (if y < x then y else x) :: r, M, k, n)) else none | _ => none) else if c = 8 then (match st with | .long y :: .long x :: r => if (r.map (fun v => v.category)).sum ≤ 8 then some (.inl (pc + 3, lv, .long (if y < x then x else y) :: r, M, k, n)) else none | _ => none) else ri_cl a b (pc + 3) lv st M k n 0 d
    | .ireturn => (match st with | [.int x] => if rk = 1 then some (.inr (.inr (some (.int x)))) else if rk = 4 ∧ (x = 0 ∨ x = 1) then some (.inr (.inr (some (.int x)))) else none | _ => none)
    | .lreturn => (match st with | [.long x] => if rk = 2 then some (.inr (.inr (some (.long x)))) else none | _ => none)
    | .areturn => (match st with | [.ref x] => if rk = 3 then some (.inr (.inr (some (.ref x)))) else none | [.null] => if rk = 3 then some (.inr (.inr (some .null))) else none | _ => none)
    | .return_ => (match st with | [] => if rk = 0 then some (.inr (.inr none)) else none | _ => none)
    | _ => none
/-- a method: its instructions by pc, its locals, its return's kind -/
abbrev ri_T : Type := List (Option ri_I) × Nat × Nat
/-- a run: fuel, depth, script, method, frame -/
def ri_run (P : Nat → Option ri_T) (Fd : List (List Value)) : Nat → Nat → Option (List Int32) → ri_T → ri_F → Option (Option Value × ri_M × Nat × Nat)
  | 0, _, _, _, _ => none
  | f + 1, d, X, t, F => match t.1[F.1]? with
    | some (some i) => (match ri_step X Fd t.2.2 i F with
      | some (.inl F') => ri_run P Fd f d X t F'
      | some (.inr (.inr v)) => some (v, F.2.2.2.1, F.2.2.2.2.1, F.2.2.2.2.2)
      | some (.inr (.inl (y, as, F'))) => (match d with
        | 0 => none
        | d' + 1 => (match P y with
          | some t' => if (as.map (fun v => v.category)).sum ≤ t'.2.1 then (match ri_run P Fd f d' none t' (0, lv_args 0 as, [], F'.2.2.2.1, 0, 0) with
            | some (v, M', k', n') => ri_run P Fd f (d' + 1) X t (F'.1, F'.2.1, v.toList ++ F'.2.2.1, M', F'.2.2.2.2.1 + k', F'.2.2.2.2.2 + n')
            | none => none) else none
          | none => none))
      | none => none)
    | _ => none
