/-! ===== which instructions go on, call, return ===== -/
theorem ri_cl_nr {y n0 pc : Nat} {lv : ri_L} {st : List Value} {M : ri_M} {k n how d : Nat} {v : Option Value} : ¬ ri_cl y n0 pc lv st M k n how d = some (.inr (.inr v)) := by
  intro h
  unfold ri_cl at h
  (repeat' split at h) <;> cases h
set_option maxRecDepth 100000 in
set_option maxHeartbeats 40000000 in
theorem ri_step_mono {X : Option (List Int32)} {Fd : List (List Value)} {rk : Nat} {ins : Instr} {a b c0 d pc : Nat} {lv : ri_L} {st : List Value} {M : ri_M} {k n : Nat} {F' : ri_F} (h : ri_step X Fd rk (ins, a, b, c0, d) (pc, lv, st, M, k, n) = some (.inl F')) : k ≤ F'.2.2.2.2.1 ∧ n ≤ F'.2.2.2.2.2 := by
  cases ins with
  | iconst v =>
    replace h : (some (.inl (pc + 1, lv, .int (Int32.ofInt v) :: st, M, k, n)) : Option ri_X) = some (.inl F') := h
    (repeat' split at h) <;> first | (cases h; done) | (cases h; exact ⟨Nat.le_refl _, Nat.le_refl _⟩) | (cases h; exact ⟨by dsimp only; omega, by dsimp only; omega⟩)
  | bipush v =>
    replace h : (some (.inl (pc + 2, lv, .int (Int8.ofInt v).toInt32 :: st, M, k, n)) : Option ri_X) = some (.inl F') := h
    (repeat' split at h) <;> first | (cases h; done) | (cases h; exact ⟨Nat.le_refl _, Nat.le_refl _⟩) | (cases h; exact ⟨by dsimp only; omega, by dsimp only; omega⟩)
  | sipush v =>
    replace h : (some (.inl (pc + 3, lv, .int (Int16.ofInt v).toInt32 :: st, M, k, n)) : Option ri_X) = some (.inl F') := h
    (repeat' split at h) <;> first | (cases h; done) | (cases h; exact ⟨Nat.le_refl _, Nat.le_refl _⟩) | (cases h; exact ⟨by dsimp only; omega, by dsimp only; omega⟩)
  | lconst v =>
    replace h : (some (.inl (pc + 1, lv, .long (Int64.ofNat (v : Nat)) :: st, M, k, n)) : Option ri_X) = some (.inl F') := h
    (repeat' split at h) <;> first | (cases h; done) | (cases h; exact ⟨Nat.le_refl _, Nat.le_refl _⟩) | (cases h; exact ⟨by dsimp only; omega, by dsimp only; omega⟩)
  | aconst_null  =>
    replace h : (some (.inl (pc + 1, lv, .null :: st, M, k, n)) : Option ri_X) = some (.inl F') := h
    (repeat' split at h) <;> first | (cases h; done) | (cases h; exact ⟨Nat.le_refl _, Nat.le_refl _⟩) | (cases h; exact ⟨by dsimp only; omega, by dsimp only; omega⟩)
  | ldc u0 =>
    replace h : (if c0 = 0 then some (.inl (pc + 2, lv, .int (Int32.ofNat a) :: st, M, k, n)) else if c0 = 1 then some (.inl (pc + 2, lv, .ref (3000000 + a) :: st, M, k, n)) else none : Option ri_X) = some (.inl F') := h
    (repeat' split at h) <;> first | (cases h; done) | (cases h; exact ⟨Nat.le_refl _, Nat.le_refl _⟩) | (cases h; exact ⟨by dsimp only; omega, by dsimp only; omega⟩)
  | ldc_w u0 =>
    replace h : (if c0 = 0 then some (.inl (pc + 3, lv, .int (Int32.ofNat a) :: st, M, k, n)) else if c0 = 1 then some (.inl (pc + 3, lv, .ref (3000000 + a) :: st, M, k, n)) else none : Option ri_X) = some (.inl F') := h
    (repeat' split at h) <;> first | (cases h; done) | (cases h; exact ⟨Nat.le_refl _, Nat.le_refl _⟩) | (cases h; exact ⟨by dsimp only; omega, by dsimp only; omega⟩)
  | ldc2_w u0 =>
    replace h : (some (.inl (pc + 3, lv, .long (Int64.ofNat a) :: st, M, k, n)) : Option ri_X) = some (.inl F') := h
    (repeat' split at h) <;> first | (cases h; done) | (cases h; exact ⟨Nat.le_refl _, Nat.le_refl _⟩) | (cases h; exact ⟨by dsimp only; omega, by dsimp only; omega⟩)
  | iload_n j =>
    replace h : ((match (generalizing := false) ri_ld lv j with | some (.int x) => some (.inl (pc + 1, lv, .int x :: st, M, k, n)) | _ => none) : Option ri_X) = some (.inl F') := h
    (repeat' split at h) <;> first | (cases h; done) | (cases h; exact ⟨Nat.le_refl _, Nat.le_refl _⟩) | (cases h; exact ⟨by dsimp only; omega, by dsimp only; omega⟩)
  | iload j =>
    replace h : ((match (generalizing := false) ri_ld lv j with | some (.int x) => some (.inl (pc + 2, lv, .int x :: st, M, k, n)) | _ => none) : Option ri_X) = some (.inl F') := h
    (repeat' split at h) <;> first | (cases h; done) | (cases h; exact ⟨Nat.le_refl _, Nat.le_refl _⟩) | (cases h; exact ⟨by dsimp only; omega, by dsimp only; omega⟩)
  | lload_n j =>
    replace h : ((match (generalizing := false) ri_ld lv j with | some (.long x) => some (.inl (pc + 1, lv, .long x :: st, M, k, n)) | _ => none) : Option ri_X) = some (.inl F') := h
    (repeat' split at h) <;> first | (cases h; done) | (cases h; exact ⟨Nat.le_refl _, Nat.le_refl _⟩) | (cases h; exact ⟨by dsimp only; omega, by dsimp only; omega⟩)
  | lload j =>
    replace h : ((match (generalizing := false) ri_ld lv j with | some (.long x) => some (.inl (pc + 2, lv, .long x :: st, M, k, n)) | _ => none) : Option ri_X) = some (.inl F') := h
    (repeat' split at h) <;> first | (cases h; done) | (cases h; exact ⟨Nat.le_refl _, Nat.le_refl _⟩) | (cases h; exact ⟨by dsimp only; omega, by dsimp only; omega⟩)
  | aload_n j =>
    replace h : ((match (generalizing := false) ri_ld lv j with | some (.ref x) => some (.inl (pc + 1, lv, .ref x :: st, M, k, n)) | some .null => some (.inl (pc + 1, lv, .null :: st, M, k, n)) | _ => none) : Option ri_X) = some (.inl F') := h
    (repeat' split at h) <;> first | (cases h; done) | (cases h; exact ⟨Nat.le_refl _, Nat.le_refl _⟩) | (cases h; exact ⟨by dsimp only; omega, by dsimp only; omega⟩)
  | aload j =>
    replace h : ((match (generalizing := false) ri_ld lv j with | some (.ref x) => some (.inl (pc + 2, lv, .ref x :: st, M, k, n)) | some .null => some (.inl (pc + 2, lv, .null :: st, M, k, n)) | _ => none) : Option ri_X) = some (.inl F') := h
    (repeat' split at h) <;> first | (cases h; done) | (cases h; exact ⟨Nat.le_refl _, Nat.le_refl _⟩) | (cases h; exact ⟨by dsimp only; omega, by dsimp only; omega⟩)
  | istore_n j =>
    replace h : ((match (generalizing := false) st with | .int x :: r => some (.inl (pc + 1, ri_st1 lv j (.int x), r, M, k, n)) | _ => none) : Option ri_X) = some (.inl F') := h
    (repeat' split at h) <;> first | (cases h; done) | (cases h; exact ⟨Nat.le_refl _, Nat.le_refl _⟩) | (cases h; exact ⟨by dsimp only; omega, by dsimp only; omega⟩)
  | istore j =>
    replace h : ((match (generalizing := false) st with | .int x :: r => some (.inl (pc + 2, ri_st1 lv j (.int x), r, M, k, n)) | _ => none) : Option ri_X) = some (.inl F') := h
    (repeat' split at h) <;> first | (cases h; done) | (cases h; exact ⟨Nat.le_refl _, Nat.le_refl _⟩) | (cases h; exact ⟨by dsimp only; omega, by dsimp only; omega⟩)
  | lstore_n j =>
    replace h : ((match (generalizing := false) st with | .long x :: r => some (.inl (pc + 1, ri_st2 lv j (.long x), r, M, k, n)) | _ => none) : Option ri_X) = some (.inl F') := h
    (repeat' split at h) <;> first | (cases h; done) | (cases h; exact ⟨Nat.le_refl _, Nat.le_refl _⟩) | (cases h; exact ⟨by dsimp only; omega, by dsimp only; omega⟩)
  | lstore j =>
    replace h : ((match (generalizing := false) st with | .long x :: r => some (.inl (pc + 2, ri_st2 lv j (.long x), r, M, k, n)) | _ => none) : Option ri_X) = some (.inl F') := h
    (repeat' split at h) <;> first | (cases h; done) | (cases h; exact ⟨Nat.le_refl _, Nat.le_refl _⟩) | (cases h; exact ⟨by dsimp only; omega, by dsimp only; omega⟩)
  | astore_n j =>
    replace h : ((match (generalizing := false) st with | .ref x :: r => some (.inl (pc + 1, ri_st1 lv j (.ref x), r, M, k, n)) | .null :: r => some (.inl (pc + 1, ri_st1 lv j .null, r, M, k, n)) | _ => none) : Option ri_X) = some (.inl F') := h
    (repeat' split at h) <;> first | (cases h; done) | (cases h; exact ⟨Nat.le_refl _, Nat.le_refl _⟩) | (cases h; exact ⟨by dsimp only; omega, by dsimp only; omega⟩)
  | astore j =>
    replace h : ((match (generalizing := false) st with | .ref x :: r => some (.inl (pc + 2, ri_st1 lv j (.ref x), r, M, k, n)) | .null :: r => some (.inl (pc + 2, ri_st1 lv j .null, r, M, k, n)) | _ => none) : Option ri_X) = some (.inl F') := h
    (repeat' split at h) <;> first | (cases h; done) | (cases h; exact ⟨Nat.le_refl _, Nat.le_refl _⟩) | (cases h; exact ⟨by dsimp only; omega, by dsimp only; omega⟩)
  | iinc j v =>
    replace h : ((match (generalizing := false) ri_ld lv j with | some (.int x) => some (.inl (pc + 3, ri_st1 lv j (.int (x + Int32.ofInt v)), st, M, k, n)) | _ => none) : Option ri_X) = some (.inl F') := h
    (repeat' split at h) <;> first | (cases h; done) | (cases h; exact ⟨Nat.le_refl _, Nat.le_refl _⟩) | (cases h; exact ⟨by dsimp only; omega, by dsimp only; omega⟩)
  | iadd  =>
    replace h : ((match (generalizing := false) st with | .int y :: .int x :: r => some (.inl (pc + 1, lv, .int (x + y) :: r, M, k, n)) | _ => none) : Option ri_X) = some (.inl F') := h
    (repeat' split at h) <;> first | (cases h; done) | (cases h; exact ⟨Nat.le_refl _, Nat.le_refl _⟩) | (cases h; exact ⟨by dsimp only; omega, by dsimp only; omega⟩)
  | isub  =>
    replace h : ((match (generalizing := false) st with | .int y :: .int x :: r => some (.inl (pc + 1, lv, .int (x - y) :: r, M, k, n)) | _ => none) : Option ri_X) = some (.inl F') := h
    (repeat' split at h) <;> first | (cases h; done) | (cases h; exact ⟨Nat.le_refl _, Nat.le_refl _⟩) | (cases h; exact ⟨by dsimp only; omega, by dsimp only; omega⟩)
  | imul  =>
    replace h : ((match (generalizing := false) st with | .int y :: .int x :: r => some (.inl (pc + 1, lv, .int (x * y) :: r, M, k, n)) | _ => none) : Option ri_X) = some (.inl F') := h
    (repeat' split at h) <;> first | (cases h; done) | (cases h; exact ⟨Nat.le_refl _, Nat.le_refl _⟩) | (cases h; exact ⟨by dsimp only; omega, by dsimp only; omega⟩)
  | iand  =>
    replace h : ((match (generalizing := false) st with | .int y :: .int x :: r => some (.inl (pc + 1, lv, .int (x &&& y) :: r, M, k, n)) | _ => none) : Option ri_X) = some (.inl F') := h
    (repeat' split at h) <;> first | (cases h; done) | (cases h; exact ⟨Nat.le_refl _, Nat.le_refl _⟩) | (cases h; exact ⟨by dsimp only; omega, by dsimp only; omega⟩)
  | ior  =>
    replace h : ((match (generalizing := false) st with | .int y :: .int x :: r => some (.inl (pc + 1, lv, .int (x ||| y) :: r, M, k, n)) | _ => none) : Option ri_X) = some (.inl F') := h
    (repeat' split at h) <;> first | (cases h; done) | (cases h; exact ⟨Nat.le_refl _, Nat.le_refl _⟩) | (cases h; exact ⟨by dsimp only; omega, by dsimp only; omega⟩)
  | ixor  =>
    replace h : ((match (generalizing := false) st with | .int y :: .int x :: r => some (.inl (pc + 1, lv, .int (x ^^^ y) :: r, M, k, n)) | _ => none) : Option ri_X) = some (.inl F') := h
    (repeat' split at h) <;> first | (cases h; done) | (cases h; exact ⟨Nat.le_refl _, Nat.le_refl _⟩) | (cases h; exact ⟨by dsimp only; omega, by dsimp only; omega⟩)
  | ishl  =>
    replace h : ((match (generalizing := false) st with | .int y :: .int x :: r => some (.inl (pc + 1, lv, .int (x <<< (y &&& 31)) :: r, M, k, n)) | _ => none) : Option ri_X) = some (.inl F') := h
    (repeat' split at h) <;> first | (cases h; done) | (cases h; exact ⟨Nat.le_refl _, Nat.le_refl _⟩) | (cases h; exact ⟨by dsimp only; omega, by dsimp only; omega⟩)
  | ishr  =>
    replace h : ((match (generalizing := false) st with | .int y :: .int x :: r => some (.inl (pc + 1, lv, .int (x >>> (y &&& 31)) :: r, M, k, n)) | _ => none) : Option ri_X) = some (.inl F') := h
    (repeat' split at h) <;> first | (cases h; done) | (cases h; exact ⟨Nat.le_refl _, Nat.le_refl _⟩) | (cases h; exact ⟨by dsimp only; omega, by dsimp only; omega⟩)
  | iushr  =>
    replace h : ((match (generalizing := false) st with | .int y :: .int x :: r => some (.inl (pc + 1, lv, .int ((x.toUInt32 >>> (y.toUInt32 &&& Int32.toUInt32 31)).toInt32) :: r, M, k, n)) | _ => none) : Option ri_X) = some (.inl F') := h
    (repeat' split at h) <;> first | (cases h; done) | (cases h; exact ⟨Nat.le_refl _, Nat.le_refl _⟩) | (cases h; exact ⟨by dsimp only; omega, by dsimp only; omega⟩)
  | ineg  =>
    replace h : ((match (generalizing := false) st with | .int x :: r => some (.inl (pc + 1, lv, .int (-x) :: r, M, k, n)) | _ => none) : Option ri_X) = some (.inl F') := h
    (repeat' split at h) <;> first | (cases h; done) | (cases h; exact ⟨Nat.le_refl _, Nat.le_refl _⟩) | (cases h; exact ⟨by dsimp only; omega, by dsimp only; omega⟩)
  | idiv  =>
    replace h : ((match (generalizing := false) st with | .int y :: .int x :: r => if y = 0 then none else some (.inl (pc + 1, lv, .int (x / y) :: r, M, k, n)) | _ => none) : Option ri_X) = some (.inl F') := h
    (repeat' split at h) <;> first | (cases h; done) | (cases h; exact ⟨Nat.le_refl _, Nat.le_refl _⟩) | (cases h; exact ⟨by dsimp only; omega, by dsimp only; omega⟩)
  | irem  =>
    replace h : ((match (generalizing := false) st with | .int y :: .int x :: r => if y = 0 then none else some (.inl (pc + 1, lv, .int (x - x / y * y) :: r, M, k, n)) | _ => none) : Option ri_X) = some (.inl F') := h
    (repeat' split at h) <;> first | (cases h; done) | (cases h; exact ⟨Nat.le_refl _, Nat.le_refl _⟩) | (cases h; exact ⟨by dsimp only; omega, by dsimp only; omega⟩)
  | ladd  =>
    replace h : ((match (generalizing := false) st with | .long y :: .long x :: r => some (.inl (pc + 1, lv, .long (x + y) :: r, M, k, n)) | _ => none) : Option ri_X) = some (.inl F') := h
    (repeat' split at h) <;> first | (cases h; done) | (cases h; exact ⟨Nat.le_refl _, Nat.le_refl _⟩) | (cases h; exact ⟨by dsimp only; omega, by dsimp only; omega⟩)
  | lsub  =>
    replace h : ((match (generalizing := false) st with | .long y :: .long x :: r => some (.inl (pc + 1, lv, .long (x - y) :: r, M, k, n)) | _ => none) : Option ri_X) = some (.inl F') := h
    (repeat' split at h) <;> first | (cases h; done) | (cases h; exact ⟨Nat.le_refl _, Nat.le_refl _⟩) | (cases h; exact ⟨by dsimp only; omega, by dsimp only; omega⟩)
  | lmul  =>
    replace h : ((match (generalizing := false) st with | .long y :: .long x :: r => some (.inl (pc + 1, lv, .long (x * y) :: r, M, k, n)) | _ => none) : Option ri_X) = some (.inl F') := h
    (repeat' split at h) <;> first | (cases h; done) | (cases h; exact ⟨Nat.le_refl _, Nat.le_refl _⟩) | (cases h; exact ⟨by dsimp only; omega, by dsimp only; omega⟩)
  | land  =>
    replace h : ((match (generalizing := false) st with | .long y :: .long x :: r => some (.inl (pc + 1, lv, .long (x &&& y) :: r, M, k, n)) | _ => none) : Option ri_X) = some (.inl F') := h
    (repeat' split at h) <;> first | (cases h; done) | (cases h; exact ⟨Nat.le_refl _, Nat.le_refl _⟩) | (cases h; exact ⟨by dsimp only; omega, by dsimp only; omega⟩)
  | lor  =>
    replace h : ((match (generalizing := false) st with | .long y :: .long x :: r => some (.inl (pc + 1, lv, .long (x ||| y) :: r, M, k, n)) | _ => none) : Option ri_X) = some (.inl F') := h
    (repeat' split at h) <;> first | (cases h; done) | (cases h; exact ⟨Nat.le_refl _, Nat.le_refl _⟩) | (cases h; exact ⟨by dsimp only; omega, by dsimp only; omega⟩)
  | ldiv  =>
    replace h : ((match (generalizing := false) st with | .long y :: .long x :: r => if y = 0 then none else some (.inl (pc + 1, lv, .long (x / y) :: r, M, k, n)) | _ => none) : Option ri_X) = some (.inl F') := h
    (repeat' split at h) <;> first | (cases h; done) | (cases h; exact ⟨Nat.le_refl _, Nat.le_refl _⟩) | (cases h; exact ⟨by dsimp only; omega, by dsimp only; omega⟩)
  | lrem  =>
    replace h : ((match (generalizing := false) st with | .long y :: .long x :: r => if y = 0 then none else some (.inl (pc + 1, lv, .long (x - x / y * y) :: r, M, k, n)) | _ => none) : Option ri_X) = some (.inl F') := h
    (repeat' split at h) <;> first | (cases h; done) | (cases h; exact ⟨Nat.le_refl _, Nat.le_refl _⟩) | (cases h; exact ⟨by dsimp only; omega, by dsimp only; omega⟩)
  | lshl  =>
    replace h : ((match (generalizing := false) st with | .int y :: .long x :: r => some (.inl (pc + 1, lv, .long (x <<< (y.toInt64 &&& 63)) :: r, M, k, n)) | _ => none) : Option ri_X) = some (.inl F') := h
    (repeat' split at h) <;> first | (cases h; done) | (cases h; exact ⟨Nat.le_refl _, Nat.le_refl _⟩) | (cases h; exact ⟨by dsimp only; omega, by dsimp only; omega⟩)
  | lshr  =>
    replace h : ((match (generalizing := false) st with | .int y :: .long x :: r => some (.inl (pc + 1, lv, .long (x >>> (y.toInt64 &&& 63)) :: r, M, k, n)) | _ => none) : Option ri_X) = some (.inl F') := h
    (repeat' split at h) <;> first | (cases h; done) | (cases h; exact ⟨Nat.le_refl _, Nat.le_refl _⟩) | (cases h; exact ⟨by dsimp only; omega, by dsimp only; omega⟩)
  | lcmp  =>
    replace h : ((match (generalizing := false) st with | .long y :: .long x :: r => some (.inl (pc + 1, lv, .int (lg_cmp x y) :: r, M, k, n)) | _ => none) : Option ri_X) = some (.inl F') := h
    (repeat' split at h) <;> first | (cases h; done) | (cases h; exact ⟨Nat.le_refl _, Nat.le_refl _⟩) | (cases h; exact ⟨by dsimp only; omega, by dsimp only; omega⟩)
  | i2l  =>
    replace h : ((match (generalizing := false) st with | .int x :: r => some (.inl (pc + 1, lv, .long x.toInt64 :: r, M, k, n)) | _ => none) : Option ri_X) = some (.inl F') := h
    (repeat' split at h) <;> first | (cases h; done) | (cases h; exact ⟨Nat.le_refl _, Nat.le_refl _⟩) | (cases h; exact ⟨by dsimp only; omega, by dsimp only; omega⟩)
  | l2i  =>
    replace h : ((match (generalizing := false) st with | .long x :: r => some (.inl (pc + 1, lv, .int x.toInt32 :: r, M, k, n)) | _ => none) : Option ri_X) = some (.inl F') := h
    (repeat' split at h) <;> first | (cases h; done) | (cases h; exact ⟨Nat.le_refl _, Nat.le_refl _⟩) | (cases h; exact ⟨by dsimp only; omega, by dsimp only; omega⟩)
  | i2c  =>
    replace h : ((match (generalizing := false) st with | .int x :: r => some (.inl (pc + 1, lv, .int (x.toUInt32 % 65536).toInt32 :: r, M, k, n)) | _ => none) : Option ri_X) = some (.inl F') := h
    (repeat' split at h) <;> first | (cases h; done) | (cases h; exact ⟨Nat.le_refl _, Nat.le_refl _⟩) | (cases h; exact ⟨by dsimp only; omega, by dsimp only; omega⟩)
  | dup  =>
    replace h : ((match (generalizing := false) st with | v :: r => if v.category = 1 then some (.inl (pc + 1, lv, v :: v :: r, M, k, n)) else none | _ => none) : Option ri_X) = some (.inl F') := h
    (repeat' split at h) <;> first | (cases h; done) | (cases h; exact ⟨Nat.le_refl _, Nat.le_refl _⟩) | (cases h; exact ⟨by dsimp only; omega, by dsimp only; omega⟩)
  | pop  =>
    replace h : ((match (generalizing := false) st with | v :: r => if v.category = 1 then some (.inl (pc + 1, lv, r, M, k, n)) else none | _ => none) : Option ri_X) = some (.inl F') := h
    (repeat' split at h) <;> first | (cases h; done) | (cases h; exact ⟨Nat.le_refl _, Nat.le_refl _⟩) | (cases h; exact ⟨by dsimp only; omega, by dsimp only; omega⟩)
  | dup2  =>
    replace h : ((match (generalizing := false) st with | .long v :: r => some (.inl (pc + 1, lv, .long v :: .long v :: r, M, k, n)) | v :: u :: r => if v.category = 1 ∧ u.category = 1 then some (.inl (pc + 1, lv, v :: u :: v :: u :: r, M, k, n)) else none | _ => none) : Option ri_X) = some (.inl F') := h
    (repeat' split at h) <;> first | (cases h; done) | (cases h; exact ⟨Nat.le_refl _, Nat.le_refl _⟩) | (cases h; exact ⟨by dsimp only; omega, by dsimp only; omega⟩)
  | goto u0 =>
    replace h : (some (.inl (a, lv, st, M, k, n)) : Option ri_X) = some (.inl F') := h
    (repeat' split at h) <;> first | (cases h; done) | (cases h; exact ⟨Nat.le_refl _, Nat.le_refl _⟩) | (cases h; exact ⟨by dsimp only; omega, by dsimp only; omega⟩)
  | ifnull u0 =>
    replace h : ((match (generalizing := false) st with | .null :: r => some (.inl (a, lv, r, M, k, n)) | .ref _ :: r => some (.inl (pc + 3, lv, r, M, k, n)) | _ => none) : Option ri_X) = some (.inl F') := h
    (repeat' split at h) <;> first | (cases h; done) | (cases h; exact ⟨Nat.le_refl _, Nat.le_refl _⟩) | (cases h; exact ⟨by dsimp only; omega, by dsimp only; omega⟩)
  | ifnonnull u0 =>
    replace h : ((match (generalizing := false) st with | .null :: r => some (.inl (pc + 3, lv, r, M, k, n)) | .ref _ :: r => some (.inl (a, lv, r, M, k, n)) | _ => none) : Option ri_X) = some (.inl F') := h
    (repeat' split at h) <;> first | (cases h; done) | (cases h; exact ⟨Nat.le_refl _, Nat.le_refl _⟩) | (cases h; exact ⟨by dsimp only; omega, by dsimp only; omega⟩)
  | tableswitch u0 lo hi offs =>
    replace h : ((match (generalizing := false) st with | .int x :: r => if x.toInt < lo ∨ hi < x.toInt then some (.inl (a, lv, r, M, k, n)) else (match (generalizing := false) offs[(x.toInt - lo).toNat]? with | some off => some (.inl (((pc : Int) + off).toNat, lv, r, M, k, n)) | none => none) | _ => none) : Option ri_X) = some (.inl F') := h
    (repeat' split at h) <;> first | (cases h; done) | (cases h; exact ⟨Nat.le_refl _, Nat.le_refl _⟩) | (cases h; exact ⟨by dsimp only; omega, by dsimp only; omega⟩)
  | getfield u0 =>
    replace h : ((match (generalizing := false) st with | .ref q :: r => (match (generalizing := false) M[q]? with | some (.inr (ci, fs)) => if ci = a ∧ q < 1000000 then (match (generalizing := false) fs[b]? with | some v => some (.inl (pc + 3, lv, v :: r, M, k, n)) | none => none) else none | _ => none) | _ => none) : Option ri_X) = some (.inl F') := h
    (repeat' split at h) <;> first | (cases h; done) | (cases h; exact ⟨Nat.le_refl _, Nat.le_refl _⟩) | (cases h; exact ⟨by dsimp only; omega, by dsimp only; omega⟩)
  | putfield u0 =>
    replace h : ((match (generalizing := false) st with | v :: .ref q :: r => (match (generalizing := false) M[q]? with | some (.inr (ci, fs)) => if ci = a ∧ q < 1000000 ∧ b < fs.length ∧ ri_fit d v = true then some (.inl (pc + 3, lv, r, M.set q (.inr (ci, fs.set b v)), k, n)) else none | _ => none) | _ => none) : Option ri_X) = some (.inl F') := h
    (repeat' split at h) <;> first | (cases h; done) | (cases h; exact ⟨Nat.le_refl _, Nat.le_refl _⟩) | (cases h; exact ⟨by dsimp only; omega, by dsimp only; omega⟩)
  | iaload  =>
    replace h : ((match (generalizing := false) st with | .int i :: .ref q :: r => (match (generalizing := false) M[q]? with | some (.inl (t, .inl xs)) => if t = 0 ∧ q < 1000000 ∧ ¬ i < 0 then (match (generalizing := false) xs[i.toNatClampNeg]? with | some v => some (.inl (pc + 1, lv, .int v :: r, M, k, n)) | none => none) else none | none => if q = 2000000 ∧ ¬ i < 0 then (match (generalizing := false) X with | some xs => (match (generalizing := false) xs[i.toNatClampNeg]? with | some v => some (.inl (pc + 1, lv, .int v :: r, M, k, n)) | none => none) | none => none) else none | _ => none) | _ => none) : Option ri_X) = some (.inl F') := h
    (repeat' split at h) <;> first | (cases h; done) | (cases h; exact ⟨Nat.le_refl _, Nat.le_refl _⟩) | (cases h; exact ⟨by dsimp only; omega, by dsimp only; omega⟩)
  | caload  =>
    replace h : ((match (generalizing := false) st with | .int i :: .ref q :: r => (match (generalizing := false) M[q]? with | some (.inl (t, .inl xs)) => if t = 2 ∧ q < 1000000 ∧ ¬ i < 0 then (match (generalizing := false) xs[i.toNatClampNeg]? with | some v => some (.inl (pc + 1, lv, .int v :: r, M, k, n)) | none => none) else none | _ => none) | _ => none) : Option ri_X) = some (.inl F') := h
    (repeat' split at h) <;> first | (cases h; done) | (cases h; exact ⟨Nat.le_refl _, Nat.le_refl _⟩) | (cases h; exact ⟨by dsimp only; omega, by dsimp only; omega⟩)
  | baload  =>
    replace h : ((match (generalizing := false) st with | .int i :: .ref q :: r => (match (generalizing := false) M[q]? with | some (.inl (t, .inl xs)) => if t = 3 ∧ q < 1000000 ∧ ¬ i < 0 then (match (generalizing := false) xs[i.toNatClampNeg]? with | some v => some (.inl (pc + 1, lv, .int v :: r, M, k, n)) | none => none) else none | _ => none) | _ => none) : Option ri_X) = some (.inl F') := h
    (repeat' split at h) <;> first | (cases h; done) | (cases h; exact ⟨Nat.le_refl _, Nat.le_refl _⟩) | (cases h; exact ⟨by dsimp only; omega, by dsimp only; omega⟩)
  | laload  =>
    replace h : ((match (generalizing := false) st with | .int i :: .ref q :: r => (match (generalizing := false) M[q]? with | some (.inl (t, .inr (.inl xs))) => if t = 1 ∧ q < 1000000 ∧ ¬ i < 0 then (match (generalizing := false) xs[i.toNatClampNeg]? with | some v => some (.inl (pc + 1, lv, .long v :: r, M, k, n)) | none => none) else none | _ => none) | _ => none) : Option ri_X) = some (.inl F') := h
    (repeat' split at h) <;> first | (cases h; done) | (cases h; exact ⟨Nat.le_refl _, Nat.le_refl _⟩) | (cases h; exact ⟨by dsimp only; omega, by dsimp only; omega⟩)
  | aaload  =>
    replace h : ((match (generalizing := false) st with | .int i :: .ref q :: r => (match (generalizing := false) M[q]? with | some (.inl (t, .inr (.inr xs))) => if 4 ≤ t ∧ t < 7 ∧ q < 1000000 ∧ ¬ i < 0 then (match (generalizing := false) xs[i.toNatClampNeg]? with | some v => some (.inl (pc + 1, lv, ri_rv v :: r, M, k, n)) | none => none) else none | _ => none) | _ => none) : Option ri_X) = some (.inl F') := h
    (repeat' split at h) <;> first | (cases h; done) | (cases h; exact ⟨Nat.le_refl _, Nat.le_refl _⟩) | (cases h; exact ⟨by dsimp only; omega, by dsimp only; omega⟩)
  | iastore  =>
    replace h : ((match (generalizing := false) st with | .int x :: .int i :: .ref q :: r => (match (generalizing := false) M[q]? with | some (.inl (t, .inl xs)) => if t = 0 ∧ q < 1000000 ∧ ¬ i < 0 ∧ i.toNatClampNeg < xs.length then some (.inl (pc + 1, lv, r, M.set q (.inl (t, .inl (xs.set i.toNatClampNeg x))), k, n)) else none | _ => none) | _ => none) : Option ri_X) = some (.inl F') := h
    (repeat' split at h) <;> first | (cases h; done) | (cases h; exact ⟨Nat.le_refl _, Nat.le_refl _⟩) | (cases h; exact ⟨by dsimp only; omega, by dsimp only; omega⟩)
  | castore  =>
    replace h : ((match (generalizing := false) st with | .int x :: .int i :: .ref q :: r => (match (generalizing := false) M[q]? with | some (.inl (t, .inl xs)) => if t = 2 ∧ q < 1000000 ∧ ¬ i < 0 ∧ i.toNatClampNeg < xs.length then some (.inl (pc + 1, lv, r, M.set q (.inl (t, .inl (xs.set i.toNatClampNeg (vp_nar .char x)))), k, n)) else none | _ => none) | _ => none) : Option ri_X) = some (.inl F') := h
    (repeat' split at h) <;> first | (cases h; done) | (cases h; exact ⟨Nat.le_refl _, Nat.le_refl _⟩) | (cases h; exact ⟨by dsimp only; omega, by dsimp only; omega⟩)
  | bastore  =>
    replace h : ((match (generalizing := false) st with | .int x :: .int i :: .ref q :: r => (match (generalizing := false) M[q]? with | some (.inl (t, .inl xs)) => if t = 3 ∧ q < 1000000 ∧ ¬ i < 0 ∧ i.toNatClampNeg < xs.length then some (.inl (pc + 1, lv, r, M.set q (.inl (t, .inl (xs.set i.toNatClampNeg (vp_nar .boolean x)))), k, n)) else none | _ => none) | _ => none) : Option ri_X) = some (.inl F') := h
    (repeat' split at h) <;> first | (cases h; done) | (cases h; exact ⟨Nat.le_refl _, Nat.le_refl _⟩) | (cases h; exact ⟨by dsimp only; omega, by dsimp only; omega⟩)
  | lastore  =>
    replace h : ((match (generalizing := false) st with | .long x :: .int i :: .ref q :: r => (match (generalizing := false) M[q]? with | some (.inl (t, .inr (.inl xs))) => if t = 1 ∧ q < 1000000 ∧ ¬ i < 0 ∧ i.toNatClampNeg < xs.length then some (.inl (pc + 1, lv, r, M.set q (.inl (t, .inr (.inl (xs.set i.toNatClampNeg x)))), k, n)) else none | _ => none) | _ => none) : Option ri_X) = some (.inl F') := h
    (repeat' split at h) <;> first | (cases h; done) | (cases h; exact ⟨Nat.le_refl _, Nat.le_refl _⟩) | (cases h; exact ⟨by dsimp only; omega, by dsimp only; omega⟩)
  | aastore  =>
    replace h : ((match (generalizing := false) st with | .ref x :: .int i :: .ref q :: r => (match (generalizing := false) M[q]?, M[x]? with | some (.inl (t, .inr (.inr xs))), some (.inr (ci, _)) => if t = 6 ∧ ci = a ∧ q < 1000000 ∧ x < 1000000 ∧ ¬ i < 0 ∧ i.toNatClampNeg < xs.length then some (.inl (pc + 1, lv, r, M.set q (.inl (t, .inr (.inr (xs.set i.toNatClampNeg (some x))))), k, n)) else none | _, _ => none) | _ => none) : Option ri_X) = some (.inl F') := h
    (repeat' split at h) <;> first | (cases h; done) | (cases h; exact ⟨Nat.le_refl _, Nat.le_refl _⟩) | (cases h; exact ⟨by dsimp only; omega, by dsimp only; omega⟩)
  | arraylength  =>
    replace h : ((match (generalizing := false) st with | .ref q :: r => if q = 2000000 then (match (generalizing := false) X with | some xs => some (.inl (pc + 1, lv, .int (Int32.ofNat xs.length) :: r, M, k, n)) | none => none) else (match (generalizing := false) M[q]? with | some (.inl (t, .inl xs)) => if t < 4 ∧ q < 1000000 then some (.inl (pc + 1, lv, .int (Int32.ofNat xs.length) :: r, M, k, n)) else none | some (.inl (t, .inr (.inl xs))) => if t < 4 ∧ q < 1000000 then some (.inl (pc + 1, lv, .int (Int32.ofNat xs.length) :: r, M, k, n)) else none | _ => none) | _ => none) : Option ri_X) = some (.inl F') := h
    (repeat' split at h) <;> first | (cases h; done) | (cases h; exact ⟨Nat.le_refl _, Nat.le_refl _⟩) | (cases h; exact ⟨by dsimp only; omega, by dsimp only; omega⟩)
  | new u0 =>
    replace h : ((match (generalizing := false) Fd[a]? with | some fs => if M.length < 1000000 then some (.inl (pc + 3, lv, .ref M.length :: st, M ++ [.inr (a, fs)], k + 1, n + fs.length)) else none | none => none) : Option ri_X) = some (.inl F') := h
    (repeat' split at h) <;> first | (cases h; done) | (cases h; exact ⟨Nat.le_refl _, Nat.le_refl _⟩) | (cases h; exact ⟨by dsimp only; omega, by dsimp only; omega⟩)
  | newarray u0 =>
    replace h : ((match (generalizing := false) st with | .int x :: r => if x < 0 ∨ 1000000 ≤ M.length ∨ 60000 < x.toNatClampNeg then none else if a = 1 then some (.inl (pc + 2, lv, .ref M.length :: r, M ++ [.inl (1, .inr (.inl (List.replicate x.toNatClampNeg 0)))], k + 1, n + x.toNatClampNeg)) else some (.inl (pc + 2, lv, .ref M.length :: r, M ++ [.inl (a, .inl (List.replicate x.toNatClampNeg 0))], k + 1, n + x.toNatClampNeg)) | _ => none) : Option ri_X) = some (.inl F') := h
    (repeat' split at h) <;> first | (cases h; done) | (cases h; exact ⟨Nat.le_refl _, Nat.le_refl _⟩) | (cases h; exact ⟨by dsimp only; omega, by dsimp only; omega⟩)
  | anewarray u0 =>
    replace h : ((match (generalizing := false) st with | .int x :: r => if x < 0 ∨ 1000000 ≤ M.length ∨ 60000 < x.toNatClampNeg then none else some (.inl (pc + 3, lv, .ref M.length :: r, M ++ [.inl (6, .inr (.inr (List.replicate x.toNatClampNeg none)))], k + 1, n + x.toNatClampNeg)) | _ => none) : Option ri_X) = some (.inl F') := h
    (repeat' split at h) <;> first | (cases h; done) | (cases h; exact ⟨Nat.le_refl _, Nat.le_refl _⟩) | (cases h; exact ⟨by dsimp only; omega, by dsimp only; omega⟩)
  | multianewarray u0 u1 =>
    replace h : ((match (generalizing := false) st with | .int y :: .int x :: r => if x < 0 ∨ y < 0 ∨ 900000 ≤ M.length ∨ 60000 < x.toNatClampNeg ∨ 60000 < y.toNatClampNeg then none else some (.inl (pc + 4, lv, .ref M.length :: r, M ++ ((.inl (a, .inr (.inr ((List.range x.toNatClampNeg).map (fun i => some (M.length + 1 + i)))))) :: List.replicate x.toNatClampNeg (ri_row b y.toNatClampNeg)), k + 1 + x.toNatClampNeg, n + x.toNatClampNeg + x.toNatClampNeg * y.toNatClampNeg)) | _ => none) : Option ri_X) = some (.inl F') := h
    (repeat' split at h) <;> first | (cases h; done) | (cases h; exact ⟨Nat.le_refl _, Nat.le_refl _⟩) | (cases h; exact ⟨by dsimp only; omega, by dsimp only; omega⟩)
  | invokespecial u0 =>
    replace h : (if c0 = 2 then (match (generalizing := false) st with | [.ref q] => some (.inl (pc + 3, lv, [], M, k, n)) | _ => none) else if c0 = 5 then none else ri_cl a b (pc + 3) lv st M k n 1 d : Option ri_X) = some (.inl F') := h
    split at h
    · (repeat' split at h) <;> first | (cases h; done) | (cases h; exact ⟨Nat.le_refl _, Nat.le_refl _⟩)
    · split at h
      · cases h
      · exact absurd h ri_cl_ne
  | invokevirtual u0 =>
    replace h : (if c0 = 9 then ri_sx Fd b pc lv st M k n else ri_cl a b (pc + 3) lv st M k n 2 d : Option ri_X) = some (.inl F') := h
    split at h
    · unfold ri_sx at h; (repeat' split at h) <;> first | (cases h; done) | (cases h; exact ⟨Nat.le_refl _, Nat.le_refl _⟩)
    · exact absurd h ri_cl_ne
  | invokestatic u0 =>
    replace h : (if c0 = 4 then (match (generalizing := false) st with | [.int z, .int dp, .ref q1, .int sp, .ref q0] => (match (generalizing := false) M[q0]?, M[q1]? with | some (.inl (t0, .inl xs)), some (.inl (t1, .inl ys)) => if t0 = 0 ∧ t1 = 0 ∧ q0 < 1000000 ∧ q1 < 1000000 ∧ ¬ sp < 0 ∧ ¬ dp < 0 ∧ ¬ z < 0 ∧ sp.toNatClampNeg + z.toNatClampNeg ≤ xs.length ∧ dp.toNatClampNeg + z.toNatClampNeg ≤ ys.length then some (.inl (pc + 3, lv, [], M.set q1 (.inl (t1, .inl (ri_cpy xs ys sp.toNatClampNeg dp.toNatClampNeg z.toNatClampNeg))), k, n)) else none | _, _ => none) | _ => none) else if c0 = 6 then (match (generalizing := false) st with | .int y :: .int x :: r => if (r.map (fun v => v.category)).sum ≤ 8 then some (.inl (pc + 3, lv, .int (if x < y then y else x) :: r, M, k, n)) else none | _ => none) else if c0 = 7 then (match (generalizing := false) st with | .int y :: .int x :: r => if (r.map (fun v => v.category)).sum ≤ 8 then some (.inl (pc + 3, lv, .int (if y < x then y else x) :: r, M, k, n)) else none | _ => none) else if c0 = 8 then (match (generalizing := false) st with | .long y :: .long x :: r => if (r.map (fun v => v.category)).sum ≤ 8 then some (.inl (pc + 3, lv, .long (if y < x then x else y) :: r, M, k, n)) else none | _ => none) else ri_cl a b (pc + 3) lv st M k n 0 d : Option ri_X) = some (.inl F') := h
    split at h
    · (repeat' split at h) <;> first | (cases h; done) | (cases h; exact ⟨Nat.le_refl _, Nat.le_refl _⟩)
    · split at h
      · (repeat' split at h) <;> first | (cases h; done) | (cases h; exact ⟨Nat.le_refl _, Nat.le_refl _⟩)
      · split at h
        · (repeat' split at h) <;> first | (cases h; done) | (cases h; exact ⟨Nat.le_refl _, Nat.le_refl _⟩)
        · split at h
          · (repeat' split at h) <;> first | (cases h; done) | (cases h; exact ⟨Nat.le_refl _, Nat.le_refl _⟩)
          · exact absurd h ri_cl_ne
  | ireturn  =>
    replace h : ((match (generalizing := false) st with | [.int x] => if rk = 1 then some (.inr (.inr (some (.int x)))) else if rk = 4 ∧ (x = 0 ∨ x = 1) then some (.inr (.inr (some (.int x)))) else none | _ => none) : Option ri_X) = some (.inl F') := h
    (repeat' split at h) <;> first | (cases h; done) | (cases h; exact ⟨Nat.le_refl _, Nat.le_refl _⟩) | (cases h; exact ⟨by dsimp only; omega, by dsimp only; omega⟩)
  | lreturn  =>
    replace h : ((match (generalizing := false) st with | [.long x] => if rk = 2 then some (.inr (.inr (some (.long x)))) else none | _ => none) : Option ri_X) = some (.inl F') := h
    (repeat' split at h) <;> first | (cases h; done) | (cases h; exact ⟨Nat.le_refl _, Nat.le_refl _⟩) | (cases h; exact ⟨by dsimp only; omega, by dsimp only; omega⟩)
  | areturn  =>
    replace h : ((match (generalizing := false) st with | [.ref x] => if rk = 3 then some (.inr (.inr (some (.ref x)))) else none | [.null] => if rk = 3 then some (.inr (.inr (some .null))) else none | _ => none) : Option ri_X) = some (.inl F') := h
    (repeat' split at h) <;> first | (cases h; done) | (cases h; exact ⟨Nat.le_refl _, Nat.le_refl _⟩) | (cases h; exact ⟨by dsimp only; omega, by dsimp only; omega⟩)
  | return_  =>
    replace h : ((match (generalizing := false) st with | [] => if rk = 0 then some (.inr (.inr none)) else none | _ => none) : Option ri_X) = some (.inl F') := h
    (repeat' split at h) <;> first | (cases h; done) | (cases h; exact ⟨Nat.le_refl _, Nat.le_refl _⟩) | (cases h; exact ⟨by dsimp only; omega, by dsimp only; omega⟩)
  | ifCond cd off =>
    cases cd with
    | eq =>
      replace h : ((match (generalizing := false) st with | .int x :: r => if x = 0 then some (.inl (a, lv, r, M, k, n)) else some (.inl (pc + 3, lv, r, M, k, n)) | _ => none) : Option ri_X) = some (.inl F') := h
      (repeat' split at h) <;> first | (cases h; done) | (cases h; exact ⟨Nat.le_refl _, Nat.le_refl _⟩) | (cases h; exact ⟨by dsimp only; omega, by dsimp only; omega⟩)
    | ne =>
      replace h : ((match (generalizing := false) st with | .int x :: r => if ¬ x = 0 then some (.inl (a, lv, r, M, k, n)) else some (.inl (pc + 3, lv, r, M, k, n)) | _ => none) : Option ri_X) = some (.inl F') := h
      (repeat' split at h) <;> first | (cases h; done) | (cases h; exact ⟨Nat.le_refl _, Nat.le_refl _⟩) | (cases h; exact ⟨by dsimp only; omega, by dsimp only; omega⟩)
    | lt =>
      replace h : ((match (generalizing := false) st with | .int x :: r => if x < 0 then some (.inl (a, lv, r, M, k, n)) else some (.inl (pc + 3, lv, r, M, k, n)) | _ => none) : Option ri_X) = some (.inl F') := h
      (repeat' split at h) <;> first | (cases h; done) | (cases h; exact ⟨Nat.le_refl _, Nat.le_refl _⟩) | (cases h; exact ⟨by dsimp only; omega, by dsimp only; omega⟩)
    | ge =>
      replace h : ((match (generalizing := false) st with | .int x :: r => if 0 ≤ x then some (.inl (a, lv, r, M, k, n)) else some (.inl (pc + 3, lv, r, M, k, n)) | _ => none) : Option ri_X) = some (.inl F') := h
      (repeat' split at h) <;> first | (cases h; done) | (cases h; exact ⟨Nat.le_refl _, Nat.le_refl _⟩) | (cases h; exact ⟨by dsimp only; omega, by dsimp only; omega⟩)
    | gt =>
      replace h : ((match (generalizing := false) st with | .int x :: r => if 0 < x then some (.inl (a, lv, r, M, k, n)) else some (.inl (pc + 3, lv, r, M, k, n)) | _ => none) : Option ri_X) = some (.inl F') := h
      (repeat' split at h) <;> first | (cases h; done) | (cases h; exact ⟨Nat.le_refl _, Nat.le_refl _⟩) | (cases h; exact ⟨by dsimp only; omega, by dsimp only; omega⟩)
    | le =>
      replace h : ((match (generalizing := false) st with | .int x :: r => if x ≤ 0 then some (.inl (a, lv, r, M, k, n)) else some (.inl (pc + 3, lv, r, M, k, n)) | _ => none) : Option ri_X) = some (.inl F') := h
      (repeat' split at h) <;> first | (cases h; done) | (cases h; exact ⟨Nat.le_refl _, Nat.le_refl _⟩) | (cases h; exact ⟨by dsimp only; omega, by dsimp only; omega⟩)
  | if_icmp cd off =>
    cases cd with
    | eq =>
      replace h : ((match (generalizing := false) st with | .int y :: .int x :: r => if x = y then some (.inl (a, lv, r, M, k, n)) else some (.inl (pc + 3, lv, r, M, k, n)) | _ => none) : Option ri_X) = some (.inl F') := h
      (repeat' split at h) <;> first | (cases h; done) | (cases h; exact ⟨Nat.le_refl _, Nat.le_refl _⟩) | (cases h; exact ⟨by dsimp only; omega, by dsimp only; omega⟩)
    | ne =>
      replace h : ((match (generalizing := false) st with | .int y :: .int x :: r => if ¬ x = y then some (.inl (a, lv, r, M, k, n)) else some (.inl (pc + 3, lv, r, M, k, n)) | _ => none) : Option ri_X) = some (.inl F') := h
      (repeat' split at h) <;> first | (cases h; done) | (cases h; exact ⟨Nat.le_refl _, Nat.le_refl _⟩) | (cases h; exact ⟨by dsimp only; omega, by dsimp only; omega⟩)
    | lt =>
      replace h : ((match (generalizing := false) st with | .int y :: .int x :: r => if x < y then some (.inl (a, lv, r, M, k, n)) else some (.inl (pc + 3, lv, r, M, k, n)) | _ => none) : Option ri_X) = some (.inl F') := h
      (repeat' split at h) <;> first | (cases h; done) | (cases h; exact ⟨Nat.le_refl _, Nat.le_refl _⟩) | (cases h; exact ⟨by dsimp only; omega, by dsimp only; omega⟩)
    | ge =>
      replace h : ((match (generalizing := false) st with | .int y :: .int x :: r => if y ≤ x then some (.inl (a, lv, r, M, k, n)) else some (.inl (pc + 3, lv, r, M, k, n)) | _ => none) : Option ri_X) = some (.inl F') := h
      (repeat' split at h) <;> first | (cases h; done) | (cases h; exact ⟨Nat.le_refl _, Nat.le_refl _⟩) | (cases h; exact ⟨by dsimp only; omega, by dsimp only; omega⟩)
    | gt =>
      replace h : ((match (generalizing := false) st with | .int y :: .int x :: r => if y < x then some (.inl (a, lv, r, M, k, n)) else some (.inl (pc + 3, lv, r, M, k, n)) | _ => none) : Option ri_X) = some (.inl F') := h
      (repeat' split at h) <;> first | (cases h; done) | (cases h; exact ⟨Nat.le_refl _, Nat.le_refl _⟩) | (cases h; exact ⟨by dsimp only; omega, by dsimp only; omega⟩)
    | le =>
      replace h : ((match (generalizing := false) st with | .int y :: .int x :: r => if x ≤ y then some (.inl (a, lv, r, M, k, n)) else some (.inl (pc + 3, lv, r, M, k, n)) | _ => none) : Option ri_X) = some (.inl F') := h
      (repeat' split at h) <;> first | (cases h; done) | (cases h; exact ⟨Nat.le_refl _, Nat.le_refl _⟩) | (cases h; exact ⟨by dsimp only; omega, by dsimp only; omega⟩)
  | _ =>
    replace h : (none : Option ri_X) = some (.inl F') := h
    cases h
set_option maxRecDepth 100000 in
set_option maxHeartbeats 40000000 in
theorem ri_step_ret {X : Option (List Int32)} {Fd : List (List Value)} {rk : Nat} {ins : Instr} {a b c0 d pc : Nat} {lv : ri_L} {st : List Value} {M : ri_M} {k n : Nat} {rv : Option Value} (h : ri_step X Fd rk (ins, a, b, c0, d) (pc, lv, st, M, k, n) = some (.inr (.inr rv))) : (ins = .ireturn ∧ ∃ x, st = [.int x] ∧ rv = some (.int x) ∧ (rk = 1 ∨ (rk = 4 ∧ (x = 0 ∨ x = 1)))) ∨ (ins = .lreturn ∧ ∃ x, st = [.long x] ∧ rv = some (.long x) ∧ rk = 2) ∨ (ins = .areturn ∧ rk = 3 ∧ ((∃ x, st = [.ref x] ∧ rv = some (.ref x)) ∨ (st = [.null] ∧ rv = some .null))) ∨ (ins = .return_ ∧ st = [] ∧ rv = none ∧ rk = 0) := by
  cases ins with
  | iconst v =>
    replace h : (some (.inl (pc + 1, lv, .int (Int32.ofInt v) :: st, M, k, n)) : Option ri_X) = some (.inr (.inr rv)) := h
    (repeat' split at h) <;> cases h
  | bipush v =>
    replace h : (some (.inl (pc + 2, lv, .int (Int8.ofInt v).toInt32 :: st, M, k, n)) : Option ri_X) = some (.inr (.inr rv)) := h
    (repeat' split at h) <;> cases h
  | sipush v =>
    replace h : (some (.inl (pc + 3, lv, .int (Int16.ofInt v).toInt32 :: st, M, k, n)) : Option ri_X) = some (.inr (.inr rv)) := h
    (repeat' split at h) <;> cases h
  | lconst v =>
    replace h : (some (.inl (pc + 1, lv, .long (Int64.ofNat (v : Nat)) :: st, M, k, n)) : Option ri_X) = some (.inr (.inr rv)) := h
    (repeat' split at h) <;> cases h
  | aconst_null  =>
    replace h : (some (.inl (pc + 1, lv, .null :: st, M, k, n)) : Option ri_X) = some (.inr (.inr rv)) := h
    (repeat' split at h) <;> cases h
  | ldc u0 =>
    replace h : (if c0 = 0 then some (.inl (pc + 2, lv, .int (Int32.ofNat a) :: st, M, k, n)) else if c0 = 1 then some (.inl (pc + 2, lv, .ref (3000000 + a) :: st, M, k, n)) else none : Option ri_X) = some (.inr (.inr rv)) := h
    (repeat' split at h) <;> cases h
  | ldc_w u0 =>
    replace h : (if c0 = 0 then some (.inl (pc + 3, lv, .int (Int32.ofNat a) :: st, M, k, n)) else if c0 = 1 then some (.inl (pc + 3, lv, .ref (3000000 + a) :: st, M, k, n)) else none : Option ri_X) = some (.inr (.inr rv)) := h
    (repeat' split at h) <;> cases h
  | ldc2_w u0 =>
    replace h : (some (.inl (pc + 3, lv, .long (Int64.ofNat a) :: st, M, k, n)) : Option ri_X) = some (.inr (.inr rv)) := h
    (repeat' split at h) <;> cases h
  | iload_n j =>
    replace h : ((match (generalizing := false) ri_ld lv j with | some (.int x) => some (.inl (pc + 1, lv, .int x :: st, M, k, n)) | _ => none) : Option ri_X) = some (.inr (.inr rv)) := h
    (repeat' split at h) <;> cases h
  | iload j =>
    replace h : ((match (generalizing := false) ri_ld lv j with | some (.int x) => some (.inl (pc + 2, lv, .int x :: st, M, k, n)) | _ => none) : Option ri_X) = some (.inr (.inr rv)) := h
    (repeat' split at h) <;> cases h
  | lload_n j =>
    replace h : ((match (generalizing := false) ri_ld lv j with | some (.long x) => some (.inl (pc + 1, lv, .long x :: st, M, k, n)) | _ => none) : Option ri_X) = some (.inr (.inr rv)) := h
    (repeat' split at h) <;> cases h
  | lload j =>
    replace h : ((match (generalizing := false) ri_ld lv j with | some (.long x) => some (.inl (pc + 2, lv, .long x :: st, M, k, n)) | _ => none) : Option ri_X) = some (.inr (.inr rv)) := h
    (repeat' split at h) <;> cases h
  | aload_n j =>
    replace h : ((match (generalizing := false) ri_ld lv j with | some (.ref x) => some (.inl (pc + 1, lv, .ref x :: st, M, k, n)) | some .null => some (.inl (pc + 1, lv, .null :: st, M, k, n)) | _ => none) : Option ri_X) = some (.inr (.inr rv)) := h
    (repeat' split at h) <;> cases h
  | aload j =>
    replace h : ((match (generalizing := false) ri_ld lv j with | some (.ref x) => some (.inl (pc + 2, lv, .ref x :: st, M, k, n)) | some .null => some (.inl (pc + 2, lv, .null :: st, M, k, n)) | _ => none) : Option ri_X) = some (.inr (.inr rv)) := h
    (repeat' split at h) <;> cases h
  | istore_n j =>
    replace h : ((match (generalizing := false) st with | .int x :: r => some (.inl (pc + 1, ri_st1 lv j (.int x), r, M, k, n)) | _ => none) : Option ri_X) = some (.inr (.inr rv)) := h
    (repeat' split at h) <;> cases h
  | istore j =>
    replace h : ((match (generalizing := false) st with | .int x :: r => some (.inl (pc + 2, ri_st1 lv j (.int x), r, M, k, n)) | _ => none) : Option ri_X) = some (.inr (.inr rv)) := h
    (repeat' split at h) <;> cases h
  | lstore_n j =>
    replace h : ((match (generalizing := false) st with | .long x :: r => some (.inl (pc + 1, ri_st2 lv j (.long x), r, M, k, n)) | _ => none) : Option ri_X) = some (.inr (.inr rv)) := h
    (repeat' split at h) <;> cases h
  | lstore j =>
    replace h : ((match (generalizing := false) st with | .long x :: r => some (.inl (pc + 2, ri_st2 lv j (.long x), r, M, k, n)) | _ => none) : Option ri_X) = some (.inr (.inr rv)) := h
    (repeat' split at h) <;> cases h
  | astore_n j =>
    replace h : ((match (generalizing := false) st with | .ref x :: r => some (.inl (pc + 1, ri_st1 lv j (.ref x), r, M, k, n)) | .null :: r => some (.inl (pc + 1, ri_st1 lv j .null, r, M, k, n)) | _ => none) : Option ri_X) = some (.inr (.inr rv)) := h
    (repeat' split at h) <;> cases h
  | astore j =>
    replace h : ((match (generalizing := false) st with | .ref x :: r => some (.inl (pc + 2, ri_st1 lv j (.ref x), r, M, k, n)) | .null :: r => some (.inl (pc + 2, ri_st1 lv j .null, r, M, k, n)) | _ => none) : Option ri_X) = some (.inr (.inr rv)) := h
    (repeat' split at h) <;> cases h
  | iinc j v =>
    replace h : ((match (generalizing := false) ri_ld lv j with | some (.int x) => some (.inl (pc + 3, ri_st1 lv j (.int (x + Int32.ofInt v)), st, M, k, n)) | _ => none) : Option ri_X) = some (.inr (.inr rv)) := h
    (repeat' split at h) <;> cases h
  | iadd  =>
    replace h : ((match (generalizing := false) st with | .int y :: .int x :: r => some (.inl (pc + 1, lv, .int (x + y) :: r, M, k, n)) | _ => none) : Option ri_X) = some (.inr (.inr rv)) := h
    (repeat' split at h) <;> cases h
  | isub  =>
    replace h : ((match (generalizing := false) st with | .int y :: .int x :: r => some (.inl (pc + 1, lv, .int (x - y) :: r, M, k, n)) | _ => none) : Option ri_X) = some (.inr (.inr rv)) := h
    (repeat' split at h) <;> cases h
  | imul  =>
    replace h : ((match (generalizing := false) st with | .int y :: .int x :: r => some (.inl (pc + 1, lv, .int (x * y) :: r, M, k, n)) | _ => none) : Option ri_X) = some (.inr (.inr rv)) := h
    (repeat' split at h) <;> cases h
  | iand  =>
    replace h : ((match (generalizing := false) st with | .int y :: .int x :: r => some (.inl (pc + 1, lv, .int (x &&& y) :: r, M, k, n)) | _ => none) : Option ri_X) = some (.inr (.inr rv)) := h
    (repeat' split at h) <;> cases h
  | ior  =>
    replace h : ((match (generalizing := false) st with | .int y :: .int x :: r => some (.inl (pc + 1, lv, .int (x ||| y) :: r, M, k, n)) | _ => none) : Option ri_X) = some (.inr (.inr rv)) := h
    (repeat' split at h) <;> cases h
  | ixor  =>
    replace h : ((match (generalizing := false) st with | .int y :: .int x :: r => some (.inl (pc + 1, lv, .int (x ^^^ y) :: r, M, k, n)) | _ => none) : Option ri_X) = some (.inr (.inr rv)) := h
    (repeat' split at h) <;> cases h
  | ishl  =>
    replace h : ((match (generalizing := false) st with | .int y :: .int x :: r => some (.inl (pc + 1, lv, .int (x <<< (y &&& 31)) :: r, M, k, n)) | _ => none) : Option ri_X) = some (.inr (.inr rv)) := h
    (repeat' split at h) <;> cases h
  | ishr  =>
    replace h : ((match (generalizing := false) st with | .int y :: .int x :: r => some (.inl (pc + 1, lv, .int (x >>> (y &&& 31)) :: r, M, k, n)) | _ => none) : Option ri_X) = some (.inr (.inr rv)) := h
    (repeat' split at h) <;> cases h
  | iushr  =>
    replace h : ((match (generalizing := false) st with | .int y :: .int x :: r => some (.inl (pc + 1, lv, .int ((x.toUInt32 >>> (y.toUInt32 &&& Int32.toUInt32 31)).toInt32) :: r, M, k, n)) | _ => none) : Option ri_X) = some (.inr (.inr rv)) := h
    (repeat' split at h) <;> cases h
  | ineg  =>
    replace h : ((match (generalizing := false) st with | .int x :: r => some (.inl (pc + 1, lv, .int (-x) :: r, M, k, n)) | _ => none) : Option ri_X) = some (.inr (.inr rv)) := h
    (repeat' split at h) <;> cases h
  | idiv  =>
    replace h : ((match (generalizing := false) st with | .int y :: .int x :: r => if y = 0 then none else some (.inl (pc + 1, lv, .int (x / y) :: r, M, k, n)) | _ => none) : Option ri_X) = some (.inr (.inr rv)) := h
    (repeat' split at h) <;> cases h
  | irem  =>
    replace h : ((match (generalizing := false) st with | .int y :: .int x :: r => if y = 0 then none else some (.inl (pc + 1, lv, .int (x - x / y * y) :: r, M, k, n)) | _ => none) : Option ri_X) = some (.inr (.inr rv)) := h
    (repeat' split at h) <;> cases h
  | ladd  =>
    replace h : ((match (generalizing := false) st with | .long y :: .long x :: r => some (.inl (pc + 1, lv, .long (x + y) :: r, M, k, n)) | _ => none) : Option ri_X) = some (.inr (.inr rv)) := h
    (repeat' split at h) <;> cases h
  | lsub  =>
    replace h : ((match (generalizing := false) st with | .long y :: .long x :: r => some (.inl (pc + 1, lv, .long (x - y) :: r, M, k, n)) | _ => none) : Option ri_X) = some (.inr (.inr rv)) := h
    (repeat' split at h) <;> cases h
  | lmul  =>
    replace h : ((match (generalizing := false) st with | .long y :: .long x :: r => some (.inl (pc + 1, lv, .long (x * y) :: r, M, k, n)) | _ => none) : Option ri_X) = some (.inr (.inr rv)) := h
    (repeat' split at h) <;> cases h
  | land  =>
    replace h : ((match (generalizing := false) st with | .long y :: .long x :: r => some (.inl (pc + 1, lv, .long (x &&& y) :: r, M, k, n)) | _ => none) : Option ri_X) = some (.inr (.inr rv)) := h
    (repeat' split at h) <;> cases h
  | lor  =>
    replace h : ((match (generalizing := false) st with | .long y :: .long x :: r => some (.inl (pc + 1, lv, .long (x ||| y) :: r, M, k, n)) | _ => none) : Option ri_X) = some (.inr (.inr rv)) := h
    (repeat' split at h) <;> cases h
  | ldiv  =>
    replace h : ((match (generalizing := false) st with | .long y :: .long x :: r => if y = 0 then none else some (.inl (pc + 1, lv, .long (x / y) :: r, M, k, n)) | _ => none) : Option ri_X) = some (.inr (.inr rv)) := h
    (repeat' split at h) <;> cases h
  | lrem  =>
    replace h : ((match (generalizing := false) st with | .long y :: .long x :: r => if y = 0 then none else some (.inl (pc + 1, lv, .long (x - x / y * y) :: r, M, k, n)) | _ => none) : Option ri_X) = some (.inr (.inr rv)) := h
    (repeat' split at h) <;> cases h
  | lshl  =>
    replace h : ((match (generalizing := false) st with | .int y :: .long x :: r => some (.inl (pc + 1, lv, .long (x <<< (y.toInt64 &&& 63)) :: r, M, k, n)) | _ => none) : Option ri_X) = some (.inr (.inr rv)) := h
    (repeat' split at h) <;> cases h
  | lshr  =>
    replace h : ((match (generalizing := false) st with | .int y :: .long x :: r => some (.inl (pc + 1, lv, .long (x >>> (y.toInt64 &&& 63)) :: r, M, k, n)) | _ => none) : Option ri_X) = some (.inr (.inr rv)) := h
    (repeat' split at h) <;> cases h
  | lcmp  =>
    replace h : ((match (generalizing := false) st with | .long y :: .long x :: r => some (.inl (pc + 1, lv, .int (lg_cmp x y) :: r, M, k, n)) | _ => none) : Option ri_X) = some (.inr (.inr rv)) := h
    (repeat' split at h) <;> cases h
  | i2l  =>
    replace h : ((match (generalizing := false) st with | .int x :: r => some (.inl (pc + 1, lv, .long x.toInt64 :: r, M, k, n)) | _ => none) : Option ri_X) = some (.inr (.inr rv)) := h
    (repeat' split at h) <;> cases h
  | l2i  =>
    replace h : ((match (generalizing := false) st with | .long x :: r => some (.inl (pc + 1, lv, .int x.toInt32 :: r, M, k, n)) | _ => none) : Option ri_X) = some (.inr (.inr rv)) := h
    (repeat' split at h) <;> cases h
  | i2c  =>
    replace h : ((match (generalizing := false) st with | .int x :: r => some (.inl (pc + 1, lv, .int (x.toUInt32 % 65536).toInt32 :: r, M, k, n)) | _ => none) : Option ri_X) = some (.inr (.inr rv)) := h
    (repeat' split at h) <;> cases h
  | dup  =>
    replace h : ((match (generalizing := false) st with | v :: r => if v.category = 1 then some (.inl (pc + 1, lv, v :: v :: r, M, k, n)) else none | _ => none) : Option ri_X) = some (.inr (.inr rv)) := h
    (repeat' split at h) <;> cases h
  | pop  =>
    replace h : ((match (generalizing := false) st with | v :: r => if v.category = 1 then some (.inl (pc + 1, lv, r, M, k, n)) else none | _ => none) : Option ri_X) = some (.inr (.inr rv)) := h
    (repeat' split at h) <;> cases h
  | dup2  =>
    replace h : ((match (generalizing := false) st with | .long v :: r => some (.inl (pc + 1, lv, .long v :: .long v :: r, M, k, n)) | v :: u :: r => if v.category = 1 ∧ u.category = 1 then some (.inl (pc + 1, lv, v :: u :: v :: u :: r, M, k, n)) else none | _ => none) : Option ri_X) = some (.inr (.inr rv)) := h
    (repeat' split at h) <;> cases h
  | goto u0 =>
    replace h : (some (.inl (a, lv, st, M, k, n)) : Option ri_X) = some (.inr (.inr rv)) := h
    (repeat' split at h) <;> cases h
  | ifnull u0 =>
    replace h : ((match (generalizing := false) st with | .null :: r => some (.inl (a, lv, r, M, k, n)) | .ref _ :: r => some (.inl (pc + 3, lv, r, M, k, n)) | _ => none) : Option ri_X) = some (.inr (.inr rv)) := h
    (repeat' split at h) <;> cases h
  | ifnonnull u0 =>
    replace h : ((match (generalizing := false) st with | .null :: r => some (.inl (pc + 3, lv, r, M, k, n)) | .ref _ :: r => some (.inl (a, lv, r, M, k, n)) | _ => none) : Option ri_X) = some (.inr (.inr rv)) := h
    (repeat' split at h) <;> cases h
  | tableswitch u0 lo hi offs =>
    replace h : ((match (generalizing := false) st with | .int x :: r => if x.toInt < lo ∨ hi < x.toInt then some (.inl (a, lv, r, M, k, n)) else (match (generalizing := false) offs[(x.toInt - lo).toNat]? with | some off => some (.inl (((pc : Int) + off).toNat, lv, r, M, k, n)) | none => none) | _ => none) : Option ri_X) = some (.inr (.inr rv)) := h
    (repeat' split at h) <;> cases h
  | getfield u0 =>
    replace h : ((match (generalizing := false) st with | .ref q :: r => (match (generalizing := false) M[q]? with | some (.inr (ci, fs)) => if ci = a ∧ q < 1000000 then (match (generalizing := false) fs[b]? with | some v => some (.inl (pc + 3, lv, v :: r, M, k, n)) | none => none) else none | _ => none) | _ => none) : Option ri_X) = some (.inr (.inr rv)) := h
    (repeat' split at h) <;> cases h
  | putfield u0 =>
    replace h : ((match (generalizing := false) st with | v :: .ref q :: r => (match (generalizing := false) M[q]? with | some (.inr (ci, fs)) => if ci = a ∧ q < 1000000 ∧ b < fs.length ∧ ri_fit d v = true then some (.inl (pc + 3, lv, r, M.set q (.inr (ci, fs.set b v)), k, n)) else none | _ => none) | _ => none) : Option ri_X) = some (.inr (.inr rv)) := h
    (repeat' split at h) <;> cases h
  | iaload  =>
    replace h : ((match (generalizing := false) st with | .int i :: .ref q :: r => (match (generalizing := false) M[q]? with | some (.inl (t, .inl xs)) => if t = 0 ∧ q < 1000000 ∧ ¬ i < 0 then (match (generalizing := false) xs[i.toNatClampNeg]? with | some v => some (.inl (pc + 1, lv, .int v :: r, M, k, n)) | none => none) else none | none => if q = 2000000 ∧ ¬ i < 0 then (match (generalizing := false) X with | some xs => (match (generalizing := false) xs[i.toNatClampNeg]? with | some v => some (.inl (pc + 1, lv, .int v :: r, M, k, n)) | none => none) | none => none) else none | _ => none) | _ => none) : Option ri_X) = some (.inr (.inr rv)) := h
    (repeat' split at h) <;> cases h
  | caload  =>
    replace h : ((match (generalizing := false) st with | .int i :: .ref q :: r => (match (generalizing := false) M[q]? with | some (.inl (t, .inl xs)) => if t = 2 ∧ q < 1000000 ∧ ¬ i < 0 then (match (generalizing := false) xs[i.toNatClampNeg]? with | some v => some (.inl (pc + 1, lv, .int v :: r, M, k, n)) | none => none) else none | _ => none) | _ => none) : Option ri_X) = some (.inr (.inr rv)) := h
    (repeat' split at h) <;> cases h
  | baload  =>
    replace h : ((match (generalizing := false) st with | .int i :: .ref q :: r => (match (generalizing := false) M[q]? with | some (.inl (t, .inl xs)) => if t = 3 ∧ q < 1000000 ∧ ¬ i < 0 then (match (generalizing := false) xs[i.toNatClampNeg]? with | some v => some (.inl (pc + 1, lv, .int v :: r, M, k, n)) | none => none) else none | _ => none) | _ => none) : Option ri_X) = some (.inr (.inr rv)) := h
    (repeat' split at h) <;> cases h
  | laload  =>
    replace h : ((match (generalizing := false) st with | .int i :: .ref q :: r => (match (generalizing := false) M[q]? with | some (.inl (t, .inr (.inl xs))) => if t = 1 ∧ q < 1000000 ∧ ¬ i < 0 then (match (generalizing := false) xs[i.toNatClampNeg]? with | some v => some (.inl (pc + 1, lv, .long v :: r, M, k, n)) | none => none) else none | _ => none) | _ => none) : Option ri_X) = some (.inr (.inr rv)) := h
    (repeat' split at h) <;> cases h
  | aaload  =>
    replace h : ((match (generalizing := false) st with | .int i :: .ref q :: r => (match (generalizing := false) M[q]? with | some (.inl (t, .inr (.inr xs))) => if 4 ≤ t ∧ t < 7 ∧ q < 1000000 ∧ ¬ i < 0 then (match (generalizing := false) xs[i.toNatClampNeg]? with | some v => some (.inl (pc + 1, lv, ri_rv v :: r, M, k, n)) | none => none) else none | _ => none) | _ => none) : Option ri_X) = some (.inr (.inr rv)) := h
    (repeat' split at h) <;> cases h
  | iastore  =>
    replace h : ((match (generalizing := false) st with | .int x :: .int i :: .ref q :: r => (match (generalizing := false) M[q]? with | some (.inl (t, .inl xs)) => if t = 0 ∧ q < 1000000 ∧ ¬ i < 0 ∧ i.toNatClampNeg < xs.length then some (.inl (pc + 1, lv, r, M.set q (.inl (t, .inl (xs.set i.toNatClampNeg x))), k, n)) else none | _ => none) | _ => none) : Option ri_X) = some (.inr (.inr rv)) := h
    (repeat' split at h) <;> cases h
  | castore  =>
    replace h : ((match (generalizing := false) st with | .int x :: .int i :: .ref q :: r => (match (generalizing := false) M[q]? with | some (.inl (t, .inl xs)) => if t = 2 ∧ q < 1000000 ∧ ¬ i < 0 ∧ i.toNatClampNeg < xs.length then some (.inl (pc + 1, lv, r, M.set q (.inl (t, .inl (xs.set i.toNatClampNeg (vp_nar .char x)))), k, n)) else none | _ => none) | _ => none) : Option ri_X) = some (.inr (.inr rv)) := h
    (repeat' split at h) <;> cases h
  | bastore  =>
    replace h : ((match (generalizing := false) st with | .int x :: .int i :: .ref q :: r => (match (generalizing := false) M[q]? with | some (.inl (t, .inl xs)) => if t = 3 ∧ q < 1000000 ∧ ¬ i < 0 ∧ i.toNatClampNeg < xs.length then some (.inl (pc + 1, lv, r, M.set q (.inl (t, .inl (xs.set i.toNatClampNeg (vp_nar .boolean x)))), k, n)) else none | _ => none) | _ => none) : Option ri_X) = some (.inr (.inr rv)) := h
    (repeat' split at h) <;> cases h
  | lastore  =>
    replace h : ((match (generalizing := false) st with | .long x :: .int i :: .ref q :: r => (match (generalizing := false) M[q]? with | some (.inl (t, .inr (.inl xs))) => if t = 1 ∧ q < 1000000 ∧ ¬ i < 0 ∧ i.toNatClampNeg < xs.length then some (.inl (pc + 1, lv, r, M.set q (.inl (t, .inr (.inl (xs.set i.toNatClampNeg x)))), k, n)) else none | _ => none) | _ => none) : Option ri_X) = some (.inr (.inr rv)) := h
    (repeat' split at h) <;> cases h
  | aastore  =>
    replace h : ((match (generalizing := false) st with | .ref x :: .int i :: .ref q :: r => (match (generalizing := false) M[q]?, M[x]? with | some (.inl (t, .inr (.inr xs))), some (.inr (ci, _)) => if t = 6 ∧ ci = a ∧ q < 1000000 ∧ x < 1000000 ∧ ¬ i < 0 ∧ i.toNatClampNeg < xs.length then some (.inl (pc + 1, lv, r, M.set q (.inl (t, .inr (.inr (xs.set i.toNatClampNeg (some x))))), k, n)) else none | _, _ => none) | _ => none) : Option ri_X) = some (.inr (.inr rv)) := h
    (repeat' split at h) <;> cases h
  | arraylength  =>
    replace h : ((match (generalizing := false) st with | .ref q :: r => if q = 2000000 then (match (generalizing := false) X with | some xs => some (.inl (pc + 1, lv, .int (Int32.ofNat xs.length) :: r, M, k, n)) | none => none) else (match (generalizing := false) M[q]? with | some (.inl (t, .inl xs)) => if t < 4 ∧ q < 1000000 then some (.inl (pc + 1, lv, .int (Int32.ofNat xs.length) :: r, M, k, n)) else none | some (.inl (t, .inr (.inl xs))) => if t < 4 ∧ q < 1000000 then some (.inl (pc + 1, lv, .int (Int32.ofNat xs.length) :: r, M, k, n)) else none | _ => none) | _ => none) : Option ri_X) = some (.inr (.inr rv)) := h
    (repeat' split at h) <;> cases h
  | new u0 =>
    replace h : ((match (generalizing := false) Fd[a]? with | some fs => if M.length < 1000000 then some (.inl (pc + 3, lv, .ref M.length :: st, M ++ [.inr (a, fs)], k + 1, n + fs.length)) else none | none => none) : Option ri_X) = some (.inr (.inr rv)) := h
    (repeat' split at h) <;> cases h
  | newarray u0 =>
    replace h : ((match (generalizing := false) st with | .int x :: r => if x < 0 ∨ 1000000 ≤ M.length ∨ 60000 < x.toNatClampNeg then none else if a = 1 then some (.inl (pc + 2, lv, .ref M.length :: r, M ++ [.inl (1, .inr (.inl (List.replicate x.toNatClampNeg 0)))], k + 1, n + x.toNatClampNeg)) else some (.inl (pc + 2, lv, .ref M.length :: r, M ++ [.inl (a, .inl (List.replicate x.toNatClampNeg 0))], k + 1, n + x.toNatClampNeg)) | _ => none) : Option ri_X) = some (.inr (.inr rv)) := h
    (repeat' split at h) <;> cases h
  | anewarray u0 =>
    replace h : ((match (generalizing := false) st with | .int x :: r => if x < 0 ∨ 1000000 ≤ M.length ∨ 60000 < x.toNatClampNeg then none else some (.inl (pc + 3, lv, .ref M.length :: r, M ++ [.inl (6, .inr (.inr (List.replicate x.toNatClampNeg none)))], k + 1, n + x.toNatClampNeg)) | _ => none) : Option ri_X) = some (.inr (.inr rv)) := h
    (repeat' split at h) <;> cases h
  | multianewarray u0 u1 =>
    replace h : ((match (generalizing := false) st with | .int y :: .int x :: r => if x < 0 ∨ y < 0 ∨ 900000 ≤ M.length ∨ 60000 < x.toNatClampNeg ∨ 60000 < y.toNatClampNeg then none else some (.inl (pc + 4, lv, .ref M.length :: r, M ++ ((.inl (a, .inr (.inr ((List.range x.toNatClampNeg).map (fun i => some (M.length + 1 + i)))))) :: List.replicate x.toNatClampNeg (ri_row b y.toNatClampNeg)), k + 1 + x.toNatClampNeg, n + x.toNatClampNeg + x.toNatClampNeg * y.toNatClampNeg)) | _ => none) : Option ri_X) = some (.inr (.inr rv)) := h
    (repeat' split at h) <;> cases h
  | invokespecial u0 =>
    replace h : (if c0 = 2 then (match (generalizing := false) st with | [.ref q] => some (.inl (pc + 3, lv, [], M, k, n)) | _ => none) else if c0 = 5 then none else ri_cl a b (pc + 3) lv st M k n 1 d : Option ri_X) = some (.inr (.inr rv)) := h
    split at h
    · (repeat' split at h) <;> cases h
    · split at h
      · cases h
      · exact absurd h ri_cl_nr
  | invokevirtual u0 =>
    replace h : (if c0 = 9 then ri_sx Fd b pc lv st M k n else ri_cl a b (pc + 3) lv st M k n 2 d : Option ri_X) = some (.inr (.inr rv)) := h
    split at h
    · unfold ri_sx at h; (repeat' split at h) <;> cases h
    · exact absurd h ri_cl_nr
  | invokestatic u0 =>
    replace h : (if c0 = 4 then (match (generalizing := false) st with | [.int z, .int dp, .ref q1, .int sp, .ref q0] => (match (generalizing := false) M[q0]?, M[q1]? with | some (.inl (t0, .inl xs)), some (.inl (t1, .inl ys)) => if t0 = 0 ∧ t1 = 0 ∧ q0 < 1000000 ∧ q1 < 1000000 ∧ ¬ sp < 0 ∧ ¬ dp < 0 ∧ ¬ z < 0 ∧ sp.toNatClampNeg + z.toNatClampNeg ≤ xs.length ∧ dp.toNatClampNeg + z.toNatClampNeg ≤ ys.length then some (.inl (pc + 3, lv, [], M.set q1 (.inl (t1, .inl (ri_cpy xs ys sp.toNatClampNeg dp.toNatClampNeg z.toNatClampNeg))), k, n)) else none | _, _ => none) | _ => none) else if c0 = 6 then (match (generalizing := false) st with | .int y :: .int x :: r => if (r.map (fun v => v.category)).sum ≤ 8 then some (.inl (pc + 3, lv, .int (if x < y then y else x) :: r, M, k, n)) else none | _ => none) else if c0 = 7 then (match (generalizing := false) st with | .int y :: .int x :: r => if (r.map (fun v => v.category)).sum ≤ 8 then some (.inl (pc + 3, lv, .int (if y < x then y else x) :: r, M, k, n)) else none | _ => none) else if c0 = 8 then (match (generalizing := false) st with | .long y :: .long x :: r => if (r.map (fun v => v.category)).sum ≤ 8 then some (.inl (pc + 3, lv, .long (if y < x then x else y) :: r, M, k, n)) else none | _ => none) else ri_cl a b (pc + 3) lv st M k n 0 d : Option ri_X) = some (.inr (.inr rv)) := h
    split at h
    · (repeat' split at h) <;> cases h
    · split at h
      · (repeat' split at h) <;> cases h
      · split at h
        · (repeat' split at h) <;> cases h
        · split at h
          · (repeat' split at h) <;> cases h
          · exact absurd h ri_cl_nr
  | ireturn  =>
    replace h : ((match (generalizing := false) st with | [.int x] => if rk = 1 then some (.inr (.inr (some (.int x)))) else if rk = 4 ∧ (x = 0 ∨ x = 1) then some (.inr (.inr (some (.int x)))) else none | _ => none) : Option ri_X) = some (.inr (.inr rv)) := h
    split at h
    · rename_i x
      split at h
      · rename_i hc
        cases h
        exact Or.inl ⟨rfl, x, rfl, rfl, Or.inl hc⟩
      · split at h
        · rename_i hc
          cases h
          exact Or.inl ⟨rfl, x, rfl, rfl, Or.inr hc⟩
        · cases h
    · cases h
  | lreturn  =>
    replace h : ((match (generalizing := false) st with | [.long x] => if rk = 2 then some (.inr (.inr (some (.long x)))) else none | _ => none) : Option ri_X) = some (.inr (.inr rv)) := h
    split at h
    · rename_i x
      split at h
      · rename_i hc
        cases h
        exact Or.inr (Or.inl ⟨rfl, x, rfl, rfl, hc⟩)
      · cases h
    · cases h
  | areturn  =>
    replace h : ((match (generalizing := false) st with | [.ref x] => if rk = 3 then some (.inr (.inr (some (.ref x)))) else none | [.null] => if rk = 3 then some (.inr (.inr (some .null))) else none | _ => none) : Option ri_X) = some (.inr (.inr rv)) := h
    split at h
    · rename_i x
      split at h
      · rename_i hc
        cases h
        exact Or.inr (Or.inr (Or.inl ⟨rfl, hc, Or.inl ⟨x, rfl, rfl⟩⟩))
      · cases h
    · split at h
      · rename_i hc
        cases h
        exact Or.inr (Or.inr (Or.inl ⟨rfl, hc, Or.inr ⟨rfl, rfl⟩⟩))
      · cases h
    · cases h
  | return_  =>
    replace h : ((match (generalizing := false) st with | [] => if rk = 0 then some (.inr (.inr none)) else none | _ => none) : Option ri_X) = some (.inr (.inr rv)) := h
    split at h
    · split at h
      · rename_i hc
        cases h
        exact Or.inr (Or.inr (Or.inr ⟨rfl, rfl, rfl, hc⟩))
      · cases h
    · cases h
  | ifCond cd off =>
    cases cd with
    | eq =>
      replace h : ((match (generalizing := false) st with | .int x :: r => if x = 0 then some (.inl (a, lv, r, M, k, n)) else some (.inl (pc + 3, lv, r, M, k, n)) | _ => none) : Option ri_X) = some (.inr (.inr rv)) := h
      (repeat' split at h) <;> cases h
    | ne =>
      replace h : ((match (generalizing := false) st with | .int x :: r => if ¬ x = 0 then some (.inl (a, lv, r, M, k, n)) else some (.inl (pc + 3, lv, r, M, k, n)) | _ => none) : Option ri_X) = some (.inr (.inr rv)) := h
      (repeat' split at h) <;> cases h
    | lt =>
      replace h : ((match (generalizing := false) st with | .int x :: r => if x < 0 then some (.inl (a, lv, r, M, k, n)) else some (.inl (pc + 3, lv, r, M, k, n)) | _ => none) : Option ri_X) = some (.inr (.inr rv)) := h
      (repeat' split at h) <;> cases h
    | ge =>
      replace h : ((match (generalizing := false) st with | .int x :: r => if 0 ≤ x then some (.inl (a, lv, r, M, k, n)) else some (.inl (pc + 3, lv, r, M, k, n)) | _ => none) : Option ri_X) = some (.inr (.inr rv)) := h
      (repeat' split at h) <;> cases h
    | gt =>
      replace h : ((match (generalizing := false) st with | .int x :: r => if 0 < x then some (.inl (a, lv, r, M, k, n)) else some (.inl (pc + 3, lv, r, M, k, n)) | _ => none) : Option ri_X) = some (.inr (.inr rv)) := h
      (repeat' split at h) <;> cases h
    | le =>
      replace h : ((match (generalizing := false) st with | .int x :: r => if x ≤ 0 then some (.inl (a, lv, r, M, k, n)) else some (.inl (pc + 3, lv, r, M, k, n)) | _ => none) : Option ri_X) = some (.inr (.inr rv)) := h
      (repeat' split at h) <;> cases h
  | if_icmp cd off =>
    cases cd with
    | eq =>
      replace h : ((match (generalizing := false) st with | .int y :: .int x :: r => if x = y then some (.inl (a, lv, r, M, k, n)) else some (.inl (pc + 3, lv, r, M, k, n)) | _ => none) : Option ri_X) = some (.inr (.inr rv)) := h
      (repeat' split at h) <;> cases h
    | ne =>
      replace h : ((match (generalizing := false) st with | .int y :: .int x :: r => if ¬ x = y then some (.inl (a, lv, r, M, k, n)) else some (.inl (pc + 3, lv, r, M, k, n)) | _ => none) : Option ri_X) = some (.inr (.inr rv)) := h
      (repeat' split at h) <;> cases h
    | lt =>
      replace h : ((match (generalizing := false) st with | .int y :: .int x :: r => if x < y then some (.inl (a, lv, r, M, k, n)) else some (.inl (pc + 3, lv, r, M, k, n)) | _ => none) : Option ri_X) = some (.inr (.inr rv)) := h
      (repeat' split at h) <;> cases h
    | ge =>
      replace h : ((match (generalizing := false) st with | .int y :: .int x :: r => if y ≤ x then some (.inl (a, lv, r, M, k, n)) else some (.inl (pc + 3, lv, r, M, k, n)) | _ => none) : Option ri_X) = some (.inr (.inr rv)) := h
      (repeat' split at h) <;> cases h
    | gt =>
      replace h : ((match (generalizing := false) st with | .int y :: .int x :: r => if y < x then some (.inl (a, lv, r, M, k, n)) else some (.inl (pc + 3, lv, r, M, k, n)) | _ => none) : Option ri_X) = some (.inr (.inr rv)) := h
      (repeat' split at h) <;> cases h
    | le =>
      replace h : ((match (generalizing := false) st with | .int y :: .int x :: r => if x ≤ y then some (.inl (a, lv, r, M, k, n)) else some (.inl (pc + 3, lv, r, M, k, n)) | _ => none) : Option ri_X) = some (.inr (.inr rv)) := h
      (repeat' split at h) <;> cases h
  | _ =>
    replace h : (none : Option ri_X) = some (.inr (.inr rv)) := h
    cases h
set_option maxRecDepth 100000 in
set_option maxHeartbeats 40000000 in
theorem ri_step_call {X : Option (List Int32)} {Fd : List (List Value)} {rk : Nat} {ins : Instr} {a b c0 d pc : Nat} {lv : ri_L} {st : List Value} {M : ri_M} {k n : Nat} {y : Nat} {as : List Value} {F' : ri_F} (h : ri_step X Fd rk (ins, a, b, c0, d) (pc, lv, st, M, k, n) = some (.inr (.inl (y, as, F')))) : (∃ idx, ins = .invokespecial idx ∧ ¬ c0 = 2 ∧ ri_cl a b (pc + 3) lv st M k n 1 d = some (.inr (.inl (y, as, F')))) ∨ (∃ idx, ins = .invokevirtual idx ∧ ¬ c0 = 9 ∧ ri_cl a b (pc + 3) lv st M k n 2 d = some (.inr (.inl (y, as, F')))) ∨ (∃ idx, ins = .invokestatic idx ∧ (¬ c0 = 4 ∧ ¬ c0 = 6 ∧ ¬ c0 = 7 ∧ ¬ c0 = 8) ∧ ri_cl a b (pc + 3) lv st M k n 0 d = some (.inr (.inl (y, as, F')))) := by
  cases ins with
  | iconst v =>
    replace h : (some (.inl (pc + 1, lv, .int (Int32.ofInt v) :: st, M, k, n)) : Option ri_X) = some (.inr (.inl (y, as, F'))) := h
    (repeat' split at h) <;> cases h
  | bipush v =>
    replace h : (some (.inl (pc + 2, lv, .int (Int8.ofInt v).toInt32 :: st, M, k, n)) : Option ri_X) = some (.inr (.inl (y, as, F'))) := h
    (repeat' split at h) <;> cases h
  | sipush v =>
    replace h : (some (.inl (pc + 3, lv, .int (Int16.ofInt v).toInt32 :: st, M, k, n)) : Option ri_X) = some (.inr (.inl (y, as, F'))) := h
    (repeat' split at h) <;> cases h
  | lconst v =>
    replace h : (some (.inl (pc + 1, lv, .long (Int64.ofNat (v : Nat)) :: st, M, k, n)) : Option ri_X) = some (.inr (.inl (y, as, F'))) := h
    (repeat' split at h) <;> cases h
  | aconst_null  =>
    replace h : (some (.inl (pc + 1, lv, .null :: st, M, k, n)) : Option ri_X) = some (.inr (.inl (y, as, F'))) := h
    (repeat' split at h) <;> cases h
  | ldc u0 =>
    replace h : (if c0 = 0 then some (.inl (pc + 2, lv, .int (Int32.ofNat a) :: st, M, k, n)) else if c0 = 1 then some (.inl (pc + 2, lv, .ref (3000000 + a) :: st, M, k, n)) else none : Option ri_X) = some (.inr (.inl (y, as, F'))) := h
    (repeat' split at h) <;> cases h
  | ldc_w u0 =>
    replace h : (if c0 = 0 then some (.inl (pc + 3, lv, .int (Int32.ofNat a) :: st, M, k, n)) else if c0 = 1 then some (.inl (pc + 3, lv, .ref (3000000 + a) :: st, M, k, n)) else none : Option ri_X) = some (.inr (.inl (y, as, F'))) := h
    (repeat' split at h) <;> cases h
  | ldc2_w u0 =>
    replace h : (some (.inl (pc + 3, lv, .long (Int64.ofNat a) :: st, M, k, n)) : Option ri_X) = some (.inr (.inl (y, as, F'))) := h
    (repeat' split at h) <;> cases h
  | iload_n j =>
    replace h : ((match (generalizing := false) ri_ld lv j with | some (.int x) => some (.inl (pc + 1, lv, .int x :: st, M, k, n)) | _ => none) : Option ri_X) = some (.inr (.inl (y, as, F'))) := h
    (repeat' split at h) <;> cases h
  | iload j =>
    replace h : ((match (generalizing := false) ri_ld lv j with | some (.int x) => some (.inl (pc + 2, lv, .int x :: st, M, k, n)) | _ => none) : Option ri_X) = some (.inr (.inl (y, as, F'))) := h
    (repeat' split at h) <;> cases h
  | lload_n j =>
    replace h : ((match (generalizing := false) ri_ld lv j with | some (.long x) => some (.inl (pc + 1, lv, .long x :: st, M, k, n)) | _ => none) : Option ri_X) = some (.inr (.inl (y, as, F'))) := h
    (repeat' split at h) <;> cases h
  | lload j =>
    replace h : ((match (generalizing := false) ri_ld lv j with | some (.long x) => some (.inl (pc + 2, lv, .long x :: st, M, k, n)) | _ => none) : Option ri_X) = some (.inr (.inl (y, as, F'))) := h
    (repeat' split at h) <;> cases h
  | aload_n j =>
    replace h : ((match (generalizing := false) ri_ld lv j with | some (.ref x) => some (.inl (pc + 1, lv, .ref x :: st, M, k, n)) | some .null => some (.inl (pc + 1, lv, .null :: st, M, k, n)) | _ => none) : Option ri_X) = some (.inr (.inl (y, as, F'))) := h
    (repeat' split at h) <;> cases h
  | aload j =>
    replace h : ((match (generalizing := false) ri_ld lv j with | some (.ref x) => some (.inl (pc + 2, lv, .ref x :: st, M, k, n)) | some .null => some (.inl (pc + 2, lv, .null :: st, M, k, n)) | _ => none) : Option ri_X) = some (.inr (.inl (y, as, F'))) := h
    (repeat' split at h) <;> cases h
  | istore_n j =>
    replace h : ((match (generalizing := false) st with | .int x :: r => some (.inl (pc + 1, ri_st1 lv j (.int x), r, M, k, n)) | _ => none) : Option ri_X) = some (.inr (.inl (y, as, F'))) := h
    (repeat' split at h) <;> cases h
  | istore j =>
    replace h : ((match (generalizing := false) st with | .int x :: r => some (.inl (pc + 2, ri_st1 lv j (.int x), r, M, k, n)) | _ => none) : Option ri_X) = some (.inr (.inl (y, as, F'))) := h
    (repeat' split at h) <;> cases h
  | lstore_n j =>
    replace h : ((match (generalizing := false) st with | .long x :: r => some (.inl (pc + 1, ri_st2 lv j (.long x), r, M, k, n)) | _ => none) : Option ri_X) = some (.inr (.inl (y, as, F'))) := h
    (repeat' split at h) <;> cases h
  | lstore j =>
    replace h : ((match (generalizing := false) st with | .long x :: r => some (.inl (pc + 2, ri_st2 lv j (.long x), r, M, k, n)) | _ => none) : Option ri_X) = some (.inr (.inl (y, as, F'))) := h
    (repeat' split at h) <;> cases h
  | astore_n j =>
    replace h : ((match (generalizing := false) st with | .ref x :: r => some (.inl (pc + 1, ri_st1 lv j (.ref x), r, M, k, n)) | .null :: r => some (.inl (pc + 1, ri_st1 lv j .null, r, M, k, n)) | _ => none) : Option ri_X) = some (.inr (.inl (y, as, F'))) := h
    (repeat' split at h) <;> cases h
  | astore j =>
    replace h : ((match (generalizing := false) st with | .ref x :: r => some (.inl (pc + 2, ri_st1 lv j (.ref x), r, M, k, n)) | .null :: r => some (.inl (pc + 2, ri_st1 lv j .null, r, M, k, n)) | _ => none) : Option ri_X) = some (.inr (.inl (y, as, F'))) := h
    (repeat' split at h) <;> cases h
  | iinc j v =>
    replace h : ((match (generalizing := false) ri_ld lv j with | some (.int x) => some (.inl (pc + 3, ri_st1 lv j (.int (x + Int32.ofInt v)), st, M, k, n)) | _ => none) : Option ri_X) = some (.inr (.inl (y, as, F'))) := h
    (repeat' split at h) <;> cases h
  | iadd  =>
    replace h : ((match (generalizing := false) st with | .int y :: .int x :: r => some (.inl (pc + 1, lv, .int (x + y) :: r, M, k, n)) | _ => none) : Option ri_X) = some (.inr (.inl (y, as, F'))) := h
    (repeat' split at h) <;> cases h
  | isub  =>
    replace h : ((match (generalizing := false) st with | .int y :: .int x :: r => some (.inl (pc + 1, lv, .int (x - y) :: r, M, k, n)) | _ => none) : Option ri_X) = some (.inr (.inl (y, as, F'))) := h
    (repeat' split at h) <;> cases h
  | imul  =>
    replace h : ((match (generalizing := false) st with | .int y :: .int x :: r => some (.inl (pc + 1, lv, .int (x * y) :: r, M, k, n)) | _ => none) : Option ri_X) = some (.inr (.inl (y, as, F'))) := h
    (repeat' split at h) <;> cases h
  | iand  =>
    replace h : ((match (generalizing := false) st with | .int y :: .int x :: r => some (.inl (pc + 1, lv, .int (x &&& y) :: r, M, k, n)) | _ => none) : Option ri_X) = some (.inr (.inl (y, as, F'))) := h
    (repeat' split at h) <;> cases h
  | ior  =>
    replace h : ((match (generalizing := false) st with | .int y :: .int x :: r => some (.inl (pc + 1, lv, .int (x ||| y) :: r, M, k, n)) | _ => none) : Option ri_X) = some (.inr (.inl (y, as, F'))) := h
    (repeat' split at h) <;> cases h
  | ixor  =>
    replace h : ((match (generalizing := false) st with | .int y :: .int x :: r => some (.inl (pc + 1, lv, .int (x ^^^ y) :: r, M, k, n)) | _ => none) : Option ri_X) = some (.inr (.inl (y, as, F'))) := h
    (repeat' split at h) <;> cases h
  | ishl  =>
    replace h : ((match (generalizing := false) st with | .int y :: .int x :: r => some (.inl (pc + 1, lv, .int (x <<< (y &&& 31)) :: r, M, k, n)) | _ => none) : Option ri_X) = some (.inr (.inl (y, as, F'))) := h
    (repeat' split at h) <;> cases h
  | ishr  =>
    replace h : ((match (generalizing := false) st with | .int y :: .int x :: r => some (.inl (pc + 1, lv, .int (x >>> (y &&& 31)) :: r, M, k, n)) | _ => none) : Option ri_X) = some (.inr (.inl (y, as, F'))) := h
    (repeat' split at h) <;> cases h
  | iushr  =>
    replace h : ((match (generalizing := false) st with | .int y :: .int x :: r => some (.inl (pc + 1, lv, .int ((x.toUInt32 >>> (y.toUInt32 &&& Int32.toUInt32 31)).toInt32) :: r, M, k, n)) | _ => none) : Option ri_X) = some (.inr (.inl (y, as, F'))) := h
    (repeat' split at h) <;> cases h
  | ineg  =>
    replace h : ((match (generalizing := false) st with | .int x :: r => some (.inl (pc + 1, lv, .int (-x) :: r, M, k, n)) | _ => none) : Option ri_X) = some (.inr (.inl (y, as, F'))) := h
    (repeat' split at h) <;> cases h
  | idiv  =>
    replace h : ((match (generalizing := false) st with | .int y :: .int x :: r => if y = 0 then none else some (.inl (pc + 1, lv, .int (x / y) :: r, M, k, n)) | _ => none) : Option ri_X) = some (.inr (.inl (y, as, F'))) := h
    (repeat' split at h) <;> cases h
  | irem  =>
    replace h : ((match (generalizing := false) st with | .int y :: .int x :: r => if y = 0 then none else some (.inl (pc + 1, lv, .int (x - x / y * y) :: r, M, k, n)) | _ => none) : Option ri_X) = some (.inr (.inl (y, as, F'))) := h
    (repeat' split at h) <;> cases h
  | ladd  =>
    replace h : ((match (generalizing := false) st with | .long y :: .long x :: r => some (.inl (pc + 1, lv, .long (x + y) :: r, M, k, n)) | _ => none) : Option ri_X) = some (.inr (.inl (y, as, F'))) := h
    (repeat' split at h) <;> cases h
  | lsub  =>
    replace h : ((match (generalizing := false) st with | .long y :: .long x :: r => some (.inl (pc + 1, lv, .long (x - y) :: r, M, k, n)) | _ => none) : Option ri_X) = some (.inr (.inl (y, as, F'))) := h
    (repeat' split at h) <;> cases h
  | lmul  =>
    replace h : ((match (generalizing := false) st with | .long y :: .long x :: r => some (.inl (pc + 1, lv, .long (x * y) :: r, M, k, n)) | _ => none) : Option ri_X) = some (.inr (.inl (y, as, F'))) := h
    (repeat' split at h) <;> cases h
  | land  =>
    replace h : ((match (generalizing := false) st with | .long y :: .long x :: r => some (.inl (pc + 1, lv, .long (x &&& y) :: r, M, k, n)) | _ => none) : Option ri_X) = some (.inr (.inl (y, as, F'))) := h
    (repeat' split at h) <;> cases h
  | lor  =>
    replace h : ((match (generalizing := false) st with | .long y :: .long x :: r => some (.inl (pc + 1, lv, .long (x ||| y) :: r, M, k, n)) | _ => none) : Option ri_X) = some (.inr (.inl (y, as, F'))) := h
    (repeat' split at h) <;> cases h
  | ldiv  =>
    replace h : ((match (generalizing := false) st with | .long y :: .long x :: r => if y = 0 then none else some (.inl (pc + 1, lv, .long (x / y) :: r, M, k, n)) | _ => none) : Option ri_X) = some (.inr (.inl (y, as, F'))) := h
    (repeat' split at h) <;> cases h
  | lrem  =>
    replace h : ((match (generalizing := false) st with | .long y :: .long x :: r => if y = 0 then none else some (.inl (pc + 1, lv, .long (x - x / y * y) :: r, M, k, n)) | _ => none) : Option ri_X) = some (.inr (.inl (y, as, F'))) := h
    (repeat' split at h) <;> cases h
  | lshl  =>
    replace h : ((match (generalizing := false) st with | .int y :: .long x :: r => some (.inl (pc + 1, lv, .long (x <<< (y.toInt64 &&& 63)) :: r, M, k, n)) | _ => none) : Option ri_X) = some (.inr (.inl (y, as, F'))) := h
    (repeat' split at h) <;> cases h
  | lshr  =>
    replace h : ((match (generalizing := false) st with | .int y :: .long x :: r => some (.inl (pc + 1, lv, .long (x >>> (y.toInt64 &&& 63)) :: r, M, k, n)) | _ => none) : Option ri_X) = some (.inr (.inl (y, as, F'))) := h
    (repeat' split at h) <;> cases h
  | lcmp  =>
    replace h : ((match (generalizing := false) st with | .long y :: .long x :: r => some (.inl (pc + 1, lv, .int (lg_cmp x y) :: r, M, k, n)) | _ => none) : Option ri_X) = some (.inr (.inl (y, as, F'))) := h
    (repeat' split at h) <;> cases h
  | i2l  =>
    replace h : ((match (generalizing := false) st with | .int x :: r => some (.inl (pc + 1, lv, .long x.toInt64 :: r, M, k, n)) | _ => none) : Option ri_X) = some (.inr (.inl (y, as, F'))) := h
    (repeat' split at h) <;> cases h
  | l2i  =>
    replace h : ((match (generalizing := false) st with | .long x :: r => some (.inl (pc + 1, lv, .int x.toInt32 :: r, M, k, n)) | _ => none) : Option ri_X) = some (.inr (.inl (y, as, F'))) := h
    (repeat' split at h) <;> cases h
  | i2c  =>
    replace h : ((match (generalizing := false) st with | .int x :: r => some (.inl (pc + 1, lv, .int (x.toUInt32 % 65536).toInt32 :: r, M, k, n)) | _ => none) : Option ri_X) = some (.inr (.inl (y, as, F'))) := h
    (repeat' split at h) <;> cases h
  | dup  =>
    replace h : ((match (generalizing := false) st with | v :: r => if v.category = 1 then some (.inl (pc + 1, lv, v :: v :: r, M, k, n)) else none | _ => none) : Option ri_X) = some (.inr (.inl (y, as, F'))) := h
    (repeat' split at h) <;> cases h
  | pop  =>
    replace h : ((match (generalizing := false) st with | v :: r => if v.category = 1 then some (.inl (pc + 1, lv, r, M, k, n)) else none | _ => none) : Option ri_X) = some (.inr (.inl (y, as, F'))) := h
    (repeat' split at h) <;> cases h
  | dup2  =>
    replace h : ((match (generalizing := false) st with | .long v :: r => some (.inl (pc + 1, lv, .long v :: .long v :: r, M, k, n)) | v :: u :: r => if v.category = 1 ∧ u.category = 1 then some (.inl (pc + 1, lv, v :: u :: v :: u :: r, M, k, n)) else none | _ => none) : Option ri_X) = some (.inr (.inl (y, as, F'))) := h
    (repeat' split at h) <;> cases h
  | goto u0 =>
    replace h : (some (.inl (a, lv, st, M, k, n)) : Option ri_X) = some (.inr (.inl (y, as, F'))) := h
    (repeat' split at h) <;> cases h
  | ifnull u0 =>
    replace h : ((match (generalizing := false) st with | .null :: r => some (.inl (a, lv, r, M, k, n)) | .ref _ :: r => some (.inl (pc + 3, lv, r, M, k, n)) | _ => none) : Option ri_X) = some (.inr (.inl (y, as, F'))) := h
    (repeat' split at h) <;> cases h
  | ifnonnull u0 =>
    replace h : ((match (generalizing := false) st with | .null :: r => some (.inl (pc + 3, lv, r, M, k, n)) | .ref _ :: r => some (.inl (a, lv, r, M, k, n)) | _ => none) : Option ri_X) = some (.inr (.inl (y, as, F'))) := h
    (repeat' split at h) <;> cases h
  | tableswitch u0 lo hi offs =>
    replace h : ((match (generalizing := false) st with | .int x :: r => if x.toInt < lo ∨ hi < x.toInt then some (.inl (a, lv, r, M, k, n)) else (match (generalizing := false) offs[(x.toInt - lo).toNat]? with | some off => some (.inl (((pc : Int) + off).toNat, lv, r, M, k, n)) | none => none) | _ => none) : Option ri_X) = some (.inr (.inl (y, as, F'))) := h
    (repeat' split at h) <;> cases h
  | getfield u0 =>
    replace h : ((match (generalizing := false) st with | .ref q :: r => (match (generalizing := false) M[q]? with | some (.inr (ci, fs)) => if ci = a ∧ q < 1000000 then (match (generalizing := false) fs[b]? with | some v => some (.inl (pc + 3, lv, v :: r, M, k, n)) | none => none) else none | _ => none) | _ => none) : Option ri_X) = some (.inr (.inl (y, as, F'))) := h
    (repeat' split at h) <;> cases h
  | putfield u0 =>
    replace h : ((match (generalizing := false) st with | v :: .ref q :: r => (match (generalizing := false) M[q]? with | some (.inr (ci, fs)) => if ci = a ∧ q < 1000000 ∧ b < fs.length ∧ ri_fit d v = true then some (.inl (pc + 3, lv, r, M.set q (.inr (ci, fs.set b v)), k, n)) else none | _ => none) | _ => none) : Option ri_X) = some (.inr (.inl (y, as, F'))) := h
    (repeat' split at h) <;> cases h
  | iaload  =>
    replace h : ((match (generalizing := false) st with | .int i :: .ref q :: r => (match (generalizing := false) M[q]? with | some (.inl (t, .inl xs)) => if t = 0 ∧ q < 1000000 ∧ ¬ i < 0 then (match (generalizing := false) xs[i.toNatClampNeg]? with | some v => some (.inl (pc + 1, lv, .int v :: r, M, k, n)) | none => none) else none | none => if q = 2000000 ∧ ¬ i < 0 then (match (generalizing := false) X with | some xs => (match (generalizing := false) xs[i.toNatClampNeg]? with | some v => some (.inl (pc + 1, lv, .int v :: r, M, k, n)) | none => none) | none => none) else none | _ => none) | _ => none) : Option ri_X) = some (.inr (.inl (y, as, F'))) := h
    (repeat' split at h) <;> cases h
  | caload  =>
    replace h : ((match (generalizing := false) st with | .int i :: .ref q :: r => (match (generalizing := false) M[q]? with | some (.inl (t, .inl xs)) => if t = 2 ∧ q < 1000000 ∧ ¬ i < 0 then (match (generalizing := false) xs[i.toNatClampNeg]? with | some v => some (.inl (pc + 1, lv, .int v :: r, M, k, n)) | none => none) else none | _ => none) | _ => none) : Option ri_X) = some (.inr (.inl (y, as, F'))) := h
    (repeat' split at h) <;> cases h
  | baload  =>
    replace h : ((match (generalizing := false) st with | .int i :: .ref q :: r => (match (generalizing := false) M[q]? with | some (.inl (t, .inl xs)) => if t = 3 ∧ q < 1000000 ∧ ¬ i < 0 then (match (generalizing := false) xs[i.toNatClampNeg]? with | some v => some (.inl (pc + 1, lv, .int v :: r, M, k, n)) | none => none) else none | _ => none) | _ => none) : Option ri_X) = some (.inr (.inl (y, as, F'))) := h
    (repeat' split at h) <;> cases h
  | laload  =>
    replace h : ((match (generalizing := false) st with | .int i :: .ref q :: r => (match (generalizing := false) M[q]? with | some (.inl (t, .inr (.inl xs))) => if t = 1 ∧ q < 1000000 ∧ ¬ i < 0 then (match (generalizing := false) xs[i.toNatClampNeg]? with | some v => some (.inl (pc + 1, lv, .long v :: r, M, k, n)) | none => none) else none | _ => none) | _ => none) : Option ri_X) = some (.inr (.inl (y, as, F'))) := h
    (repeat' split at h) <;> cases h
  | aaload  =>
    replace h : ((match (generalizing := false) st with | .int i :: .ref q :: r => (match (generalizing := false) M[q]? with | some (.inl (t, .inr (.inr xs))) => if 4 ≤ t ∧ t < 7 ∧ q < 1000000 ∧ ¬ i < 0 then (match (generalizing := false) xs[i.toNatClampNeg]? with | some v => some (.inl (pc + 1, lv, ri_rv v :: r, M, k, n)) | none => none) else none | _ => none) | _ => none) : Option ri_X) = some (.inr (.inl (y, as, F'))) := h
    (repeat' split at h) <;> cases h
  | iastore  =>
    replace h : ((match (generalizing := false) st with | .int x :: .int i :: .ref q :: r => (match (generalizing := false) M[q]? with | some (.inl (t, .inl xs)) => if t = 0 ∧ q < 1000000 ∧ ¬ i < 0 ∧ i.toNatClampNeg < xs.length then some (.inl (pc + 1, lv, r, M.set q (.inl (t, .inl (xs.set i.toNatClampNeg x))), k, n)) else none | _ => none) | _ => none) : Option ri_X) = some (.inr (.inl (y, as, F'))) := h
    (repeat' split at h) <;> cases h
  | castore  =>
    replace h : ((match (generalizing := false) st with | .int x :: .int i :: .ref q :: r => (match (generalizing := false) M[q]? with | some (.inl (t, .inl xs)) => if t = 2 ∧ q < 1000000 ∧ ¬ i < 0 ∧ i.toNatClampNeg < xs.length then some (.inl (pc + 1, lv, r, M.set q (.inl (t, .inl (xs.set i.toNatClampNeg (vp_nar .char x)))), k, n)) else none | _ => none) | _ => none) : Option ri_X) = some (.inr (.inl (y, as, F'))) := h
    (repeat' split at h) <;> cases h
  | bastore  =>
    replace h : ((match (generalizing := false) st with | .int x :: .int i :: .ref q :: r => (match (generalizing := false) M[q]? with | some (.inl (t, .inl xs)) => if t = 3 ∧ q < 1000000 ∧ ¬ i < 0 ∧ i.toNatClampNeg < xs.length then some (.inl (pc + 1, lv, r, M.set q (.inl (t, .inl (xs.set i.toNatClampNeg (vp_nar .boolean x)))), k, n)) else none | _ => none) | _ => none) : Option ri_X) = some (.inr (.inl (y, as, F'))) := h
    (repeat' split at h) <;> cases h
  | lastore  =>
    replace h : ((match (generalizing := false) st with | .long x :: .int i :: .ref q :: r => (match (generalizing := false) M[q]? with | some (.inl (t, .inr (.inl xs))) => if t = 1 ∧ q < 1000000 ∧ ¬ i < 0 ∧ i.toNatClampNeg < xs.length then some (.inl (pc + 1, lv, r, M.set q (.inl (t, .inr (.inl (xs.set i.toNatClampNeg x)))), k, n)) else none | _ => none) | _ => none) : Option ri_X) = some (.inr (.inl (y, as, F'))) := h
    (repeat' split at h) <;> cases h
  | aastore  =>
    replace h : ((match (generalizing := false) st with | .ref x :: .int i :: .ref q :: r => (match (generalizing := false) M[q]?, M[x]? with | some (.inl (t, .inr (.inr xs))), some (.inr (ci, _)) => if t = 6 ∧ ci = a ∧ q < 1000000 ∧ x < 1000000 ∧ ¬ i < 0 ∧ i.toNatClampNeg < xs.length then some (.inl (pc + 1, lv, r, M.set q (.inl (t, .inr (.inr (xs.set i.toNatClampNeg (some x))))), k, n)) else none | _, _ => none) | _ => none) : Option ri_X) = some (.inr (.inl (y, as, F'))) := h
    (repeat' split at h) <;> cases h
  | arraylength  =>
    replace h : ((match (generalizing := false) st with | .ref q :: r => if q = 2000000 then (match (generalizing := false) X with | some xs => some (.inl (pc + 1, lv, .int (Int32.ofNat xs.length) :: r, M, k, n)) | none => none) else (match (generalizing := false) M[q]? with | some (.inl (t, .inl xs)) => if t < 4 ∧ q < 1000000 then some (.inl (pc + 1, lv, .int (Int32.ofNat xs.length) :: r, M, k, n)) else none | some (.inl (t, .inr (.inl xs))) => if t < 4 ∧ q < 1000000 then some (.inl (pc + 1, lv, .int (Int32.ofNat xs.length) :: r, M, k, n)) else none | _ => none) | _ => none) : Option ri_X) = some (.inr (.inl (y, as, F'))) := h
    (repeat' split at h) <;> cases h
  | new u0 =>
    replace h : ((match (generalizing := false) Fd[a]? with | some fs => if M.length < 1000000 then some (.inl (pc + 3, lv, .ref M.length :: st, M ++ [.inr (a, fs)], k + 1, n + fs.length)) else none | none => none) : Option ri_X) = some (.inr (.inl (y, as, F'))) := h
    (repeat' split at h) <;> cases h
  | newarray u0 =>
    replace h : ((match (generalizing := false) st with | .int x :: r => if x < 0 ∨ 1000000 ≤ M.length ∨ 60000 < x.toNatClampNeg then none else if a = 1 then some (.inl (pc + 2, lv, .ref M.length :: r, M ++ [.inl (1, .inr (.inl (List.replicate x.toNatClampNeg 0)))], k + 1, n + x.toNatClampNeg)) else some (.inl (pc + 2, lv, .ref M.length :: r, M ++ [.inl (a, .inl (List.replicate x.toNatClampNeg 0))], k + 1, n + x.toNatClampNeg)) | _ => none) : Option ri_X) = some (.inr (.inl (y, as, F'))) := h
    (repeat' split at h) <;> cases h
  | anewarray u0 =>
    replace h : ((match (generalizing := false) st with | .int x :: r => if x < 0 ∨ 1000000 ≤ M.length ∨ 60000 < x.toNatClampNeg then none else some (.inl (pc + 3, lv, .ref M.length :: r, M ++ [.inl (6, .inr (.inr (List.replicate x.toNatClampNeg none)))], k + 1, n + x.toNatClampNeg)) | _ => none) : Option ri_X) = some (.inr (.inl (y, as, F'))) := h
    (repeat' split at h) <;> cases h
  | multianewarray u0 u1 =>
    replace h : ((match (generalizing := false) st with | .int y :: .int x :: r => if x < 0 ∨ y < 0 ∨ 900000 ≤ M.length ∨ 60000 < x.toNatClampNeg ∨ 60000 < y.toNatClampNeg then none else some (.inl (pc + 4, lv, .ref M.length :: r, M ++ ((.inl (a, .inr (.inr ((List.range x.toNatClampNeg).map (fun i => some (M.length + 1 + i)))))) :: List.replicate x.toNatClampNeg (ri_row b y.toNatClampNeg)), k + 1 + x.toNatClampNeg, n + x.toNatClampNeg + x.toNatClampNeg * y.toNatClampNeg)) | _ => none) : Option ri_X) = some (.inr (.inl (y, as, F'))) := h
    (repeat' split at h) <;> cases h
  | invokespecial u0 =>
    replace h : (if c0 = 2 then (match (generalizing := false) st with | [.ref q] => some (.inl (pc + 3, lv, [], M, k, n)) | _ => none) else if c0 = 5 then none else ri_cl a b (pc + 3) lv st M k n 1 d : Option ri_X) = some (.inr (.inl (y, as, F'))) := h
    split at h
    · (repeat' split at h) <;> cases h
    · rename_i hc
      split at h
      · cases h
      · exact Or.inl ⟨u0, rfl, hc, h⟩
  | invokevirtual u0 =>
    replace h : (if c0 = 9 then ri_sx Fd b pc lv st M k n else ri_cl a b (pc + 3) lv st M k n 2 d : Option ri_X) = some (.inr (.inl (y, as, F'))) := h
    split at h
    · unfold ri_sx at h; (repeat' split at h) <;> cases h
    · rename_i hc
      exact Or.inr (Or.inl ⟨u0, rfl, hc, h⟩)
  | invokestatic u0 =>
    replace h : (if c0 = 4 then (match (generalizing := false) st with | [.int z, .int dp, .ref q1, .int sp, .ref q0] => (match (generalizing := false) M[q0]?, M[q1]? with | some (.inl (t0, .inl xs)), some (.inl (t1, .inl ys)) => if t0 = 0 ∧ t1 = 0 ∧ q0 < 1000000 ∧ q1 < 1000000 ∧ ¬ sp < 0 ∧ ¬ dp < 0 ∧ ¬ z < 0 ∧ sp.toNatClampNeg + z.toNatClampNeg ≤ xs.length ∧ dp.toNatClampNeg + z.toNatClampNeg ≤ ys.length then some (.inl (pc + 3, lv, [], M.set q1 (.inl (t1, .inl (ri_cpy xs ys sp.toNatClampNeg dp.toNatClampNeg z.toNatClampNeg))), k, n)) else none | _, _ => none) | _ => none) else if c0 = 6 then (match (generalizing := false) st with | .int y :: .int x :: r => if (r.map (fun v => v.category)).sum ≤ 8 then some (.inl (pc + 3, lv, .int (if x < y then y else x) :: r, M, k, n)) else none | _ => none) else if c0 = 7 then (match (generalizing := false) st with | .int y :: .int x :: r => if (r.map (fun v => v.category)).sum ≤ 8 then some (.inl (pc + 3, lv, .int (if y < x then y else x) :: r, M, k, n)) else none | _ => none) else if c0 = 8 then (match (generalizing := false) st with | .long y :: .long x :: r => if (r.map (fun v => v.category)).sum ≤ 8 then some (.inl (pc + 3, lv, .long (if y < x then x else y) :: r, M, k, n)) else none | _ => none) else ri_cl a b (pc + 3) lv st M k n 0 d : Option ri_X) = some (.inr (.inl (y, as, F'))) := h
    split at h
    · (repeat' split at h) <;> cases h
    · rename_i hc4
      split at h
      · (repeat' split at h) <;> cases h
      · rename_i hc6
        split at h
        · (repeat' split at h) <;> cases h
        · rename_i hc7
          split at h
          · (repeat' split at h) <;> cases h
          · rename_i hc8
            exact Or.inr (Or.inr ⟨u0, rfl, ⟨hc4, hc6, hc7, hc8⟩, h⟩)
  | ireturn  =>
    replace h : ((match (generalizing := false) st with | [.int x] => if rk = 1 then some (.inr (.inr (some (.int x)))) else if rk = 4 ∧ (x = 0 ∨ x = 1) then some (.inr (.inr (some (.int x)))) else none | _ => none) : Option ri_X) = some (.inr (.inl (y, as, F'))) := h
    (repeat' split at h) <;> cases h
  | lreturn  =>
    replace h : ((match (generalizing := false) st with | [.long x] => if rk = 2 then some (.inr (.inr (some (.long x)))) else none | _ => none) : Option ri_X) = some (.inr (.inl (y, as, F'))) := h
    (repeat' split at h) <;> cases h
  | areturn  =>
    replace h : ((match (generalizing := false) st with | [.ref x] => if rk = 3 then some (.inr (.inr (some (.ref x)))) else none | [.null] => if rk = 3 then some (.inr (.inr (some .null))) else none | _ => none) : Option ri_X) = some (.inr (.inl (y, as, F'))) := h
    (repeat' split at h) <;> cases h
  | return_  =>
    replace h : ((match (generalizing := false) st with | [] => if rk = 0 then some (.inr (.inr none)) else none | _ => none) : Option ri_X) = some (.inr (.inl (y, as, F'))) := h
    (repeat' split at h) <;> cases h
  | ifCond cd off =>
    cases cd with
    | eq =>
      replace h : ((match (generalizing := false) st with | .int x :: r => if x = 0 then some (.inl (a, lv, r, M, k, n)) else some (.inl (pc + 3, lv, r, M, k, n)) | _ => none) : Option ri_X) = some (.inr (.inl (y, as, F'))) := h
      (repeat' split at h) <;> cases h
    | ne =>
      replace h : ((match (generalizing := false) st with | .int x :: r => if ¬ x = 0 then some (.inl (a, lv, r, M, k, n)) else some (.inl (pc + 3, lv, r, M, k, n)) | _ => none) : Option ri_X) = some (.inr (.inl (y, as, F'))) := h
      (repeat' split at h) <;> cases h
    | lt =>
      replace h : ((match (generalizing := false) st with | .int x :: r => if x < 0 then some (.inl (a, lv, r, M, k, n)) else some (.inl (pc + 3, lv, r, M, k, n)) | _ => none) : Option ri_X) = some (.inr (.inl (y, as, F'))) := h
      (repeat' split at h) <;> cases h
    | ge =>
      replace h : ((match (generalizing := false) st with | .int x :: r => if 0 ≤ x then some (.inl (a, lv, r, M, k, n)) else some (.inl (pc + 3, lv, r, M, k, n)) | _ => none) : Option ri_X) = some (.inr (.inl (y, as, F'))) := h
      (repeat' split at h) <;> cases h
    | gt =>
      replace h : ((match (generalizing := false) st with | .int x :: r => if 0 < x then some (.inl (a, lv, r, M, k, n)) else some (.inl (pc + 3, lv, r, M, k, n)) | _ => none) : Option ri_X) = some (.inr (.inl (y, as, F'))) := h
      (repeat' split at h) <;> cases h
    | le =>
      replace h : ((match (generalizing := false) st with | .int x :: r => if x ≤ 0 then some (.inl (a, lv, r, M, k, n)) else some (.inl (pc + 3, lv, r, M, k, n)) | _ => none) : Option ri_X) = some (.inr (.inl (y, as, F'))) := h
      (repeat' split at h) <;> cases h
  | if_icmp cd off =>
    cases cd with
    | eq =>
      replace h : ((match (generalizing := false) st with | .int y :: .int x :: r => if x = y then some (.inl (a, lv, r, M, k, n)) else some (.inl (pc + 3, lv, r, M, k, n)) | _ => none) : Option ri_X) = some (.inr (.inl (y, as, F'))) := h
      (repeat' split at h) <;> cases h
    | ne =>
      replace h : ((match (generalizing := false) st with | .int y :: .int x :: r => if ¬ x = y then some (.inl (a, lv, r, M, k, n)) else some (.inl (pc + 3, lv, r, M, k, n)) | _ => none) : Option ri_X) = some (.inr (.inl (y, as, F'))) := h
      (repeat' split at h) <;> cases h
    | lt =>
      replace h : ((match (generalizing := false) st with | .int y :: .int x :: r => if x < y then some (.inl (a, lv, r, M, k, n)) else some (.inl (pc + 3, lv, r, M, k, n)) | _ => none) : Option ri_X) = some (.inr (.inl (y, as, F'))) := h
      (repeat' split at h) <;> cases h
    | ge =>
      replace h : ((match (generalizing := false) st with | .int y :: .int x :: r => if y ≤ x then some (.inl (a, lv, r, M, k, n)) else some (.inl (pc + 3, lv, r, M, k, n)) | _ => none) : Option ri_X) = some (.inr (.inl (y, as, F'))) := h
      (repeat' split at h) <;> cases h
    | gt =>
      replace h : ((match (generalizing := false) st with | .int y :: .int x :: r => if y < x then some (.inl (a, lv, r, M, k, n)) else some (.inl (pc + 3, lv, r, M, k, n)) | _ => none) : Option ri_X) = some (.inr (.inl (y, as, F'))) := h
      (repeat' split at h) <;> cases h
    | le =>
      replace h : ((match (generalizing := false) st with | .int y :: .int x :: r => if x ≤ y then some (.inl (a, lv, r, M, k, n)) else some (.inl (pc + 3, lv, r, M, k, n)) | _ => none) : Option ri_X) = some (.inr (.inl (y, as, F'))) := h
      (repeat' split at h) <;> cases h
  | _ =>
    replace h : (none : Option ri_X) = some (.inr (.inl (y, as, F'))) := h
    cases h
theorem ri_clS {y0 n0 pc : Nat} {lv : ri_L} {st : List Value} {M : ri_M} {k n how d y : Nat} {as : List Value} {F' : ri_F} (h : ri_cl y0 n0 pc lv st M k n how d = some (.inr (.inl (y, as, F')))) :
    ∃ (As rest : List Value), As.length = n0 ∧ F' = (pc, lv, rest, M, k, n) ∧ y = y0 ∧ (rest.map (fun v => v.category)).sum ≤ 8 ∧ ((how = 0 ∧ st = As.reverse ++ rest ∧ as = As) ∨ (¬ how = 0 ∧ ∃ q fs, st = As.reverse ++ .ref q :: rest ∧ as = .ref q :: As ∧ M[q]? = some (.inr (d, fs)) ∧ q < 1000000)) := by
  unfold ri_cl at h
  by_cases hw : how = 0
  · subst hw
    simp only [if_true] at h
    split at h
    · cases h
    · rename_i hc
      cases h
      refine ⟨(st.take n0).reverse, st.drop n0, ?_, rfl, rfl, ?_, Or.inl ⟨rfl, ?_, rfl⟩⟩
      · rw [List.length_reverse, List.length_take]
        omega
      · omega
      · rw [List.reverse_reverse, List.take_append_drop]
  · simp only [hw, if_false] at h
    split at h
    · cases h
    · rename_i hc
      split at h
      · rename_i q hq
        split at h
        · rename_i ci fs hM
          split at h
          · rename_i hd
            cases h
            refine ⟨(st.take n0).reverse, st.drop (n0 + 1), ?_, rfl, rfl, ?_, Or.inr ⟨hw, q, fs, ?_, rfl, by rw [← hd.1]; exact hM, hd.2⟩⟩
            · rw [List.length_reverse, List.length_take]
              omega
            · omega
            · rw [List.reverse_reverse]
              have hlt : n0 < st.length := (List.getElem?_eq_some_iff.mp hq).1
              have h2 : st[n0] = .ref q := (List.getElem?_eq_some_iff.mp hq).2
              rw [← h2, ← List.drop_eq_getElem_cons hlt, List.take_append_drop]
          · cases h
        · cases h
      · cases h
