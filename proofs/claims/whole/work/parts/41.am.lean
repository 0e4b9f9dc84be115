/-! ===== the abstract machine (am_): ints are Ints, the memory is a function of cell and place ===== -/
abbrev am_H : Type := Int → Int → Int
/-- an int (known to be in range or not), a long, a reference (kind, two numbers, cell), a truth, a comparison of longs -/
abbrev am_V : Type := (Int × Bool) ⊕ ((Int × Bool) ⊕ ((Nat × Nat × Nat × Int) ⊕ (Prop ⊕ (Int × Int))))
abbrev am_L : Type := List (Option am_V)
abbrev mI (x : Int) : am_V := .inl (x, false)
abbrev mB (x : Int) : am_V := .inl (x, true)
abbrev mJ (x : Int) : am_V := .inr (.inl (x, false))
abbrev mK (x : Int) : am_V := .inr (.inl (x, true))
abbrev mR (k n m : Nat) (a : Int) : am_V := .inr (.inr (.inl (k, n, m, a)))
abbrev mP (p : Prop) : am_V := .inr (.inr (.inr (.inl p)))
abbrev mC (x y : Int) : am_V := .inr (.inr (.inr (.inr (x, y))))
abbrev R32 (x : Int) : Prop := -2147483648 ≤ x ∧ x < 2147483648
abbrev R64 (x : Int) : Prop := -9223372036854775808 ≤ x ∧ x < 9223372036854775808
noncomputable def am_b (p : Prop) : Int := @ite Int p (Classical.propDecidable p) 1 0
/-- a contract's form: what must hold ahead of a call so that what follows holds behind it -/
abbrev am_K : Type := List am_V → am_H → (Option am_V → am_H → Prop) → Prop
abbrev am_E : Type := Nat → am_K
def iAnd (x y : Int) : Int := (Int32.ofInt x &&& Int32.ofInt y).toInt
def iOr (x y : Int) : Int := (Int32.ofInt x ||| Int32.ofInt y).toInt
def iXor (x y : Int) : Int := (Int32.ofInt x ^^^ Int32.ofInt y).toInt
def iShl (x y : Int) : Int := (Int32.ofInt x <<< (Int32.ofInt y &&& 31)).toInt
def iShr (x y : Int) : Int := (Int32.ofInt x >>> (Int32.ofInt y &&& 31)).toInt
def iUsh (x y : Int) : Int := ((Int32.ofInt x).toUInt32 >>> ((Int32.ofInt y).toUInt32 &&& Int32.toUInt32 31)).toInt32.toInt
def jAnd (x y : Int) : Int := (Int64.ofInt x &&& Int64.ofInt y).toInt
def jOr (x y : Int) : Int := (Int64.ofInt x ||| Int64.ofInt y).toInt
def jShl (x y : Int) : Int := (Int64.ofInt x <<< ((Int32.ofInt y).toInt64 &&& 63)).toInt
def jShr (x y : Int) : Int := (Int64.ofInt x >>> ((Int32.ofInt y).toInt64 &&& 63)).toInt
def am_up (h : am_H) (a i x : Int) : am_H := fun a' i' => if a' = a ∧ i' = i then x else h a' i'
/-- n places of the cell p, from s on, come into the cell q, from d on -/
def am_cp (h : am_H) (p s q d n : Int) : am_H := fun a i => if a = q ∧ d ≤ i ∧ i < d + n then h p (s + (i - d)) else h a i
def am_sl (a : Int) : Int := (((ri_Fd[(a - 2999987).toNat]?).getD []).length : Nat)
def am_sc (a i : Int) : Int := match ((ri_Fd[(a - 2999987).toNat]?).getD [])[i.toNat]? with
  | some (.int v) => v.toInt
  | _ => 0
def am_ob (f : Bool) (p K : Prop) : Prop := match f with
  | true => K
  | false => p ∧ K
def am_int (v : am_V) (K : Int → Bool → Prop) : Prop := match v with
  | .inl (x, f) => K x f
  | .inr (.inr (.inr (.inl p))) => K (am_b p) true
  | _ => False
def am_i1 (st : List am_V) (K : Int → Bool → List am_V → Prop) : Prop := match st with
  | v :: r => am_int v (fun x f => K x f r)
  | _ => False
def am_i2 (st : List am_V) (K : Int → Bool → Int → Bool → List am_V → Prop) : Prop := match st with
  | w :: v :: r => am_int v (fun x f => am_int w (fun y g => K x f y g r))
  | _ => False
def am_lng (v : am_V) (K : Int → Bool → Prop) : Prop := match v with
  | .inr (.inl (x, f)) => K x f
  | _ => False
def am_l1 (st : List am_V) (K : Int → Bool → List am_V → Prop) : Prop := match st with
  | v :: r => am_lng v (fun x f => K x f r)
  | _ => False
def am_l2 (st : List am_V) (K : Int → Bool → Int → Bool → List am_V → Prop) : Prop := match st with
  | w :: v :: r => am_lng v (fun x f => am_lng w (fun y g => K x f y g r))
  | _ => False
def am_br (cd : ClassFile.Cond) (x y : Int) (T F : Prop) : Prop := match cd with
  | .eq => (x = y → T) ∧ (¬ x = y → F)
  | .ne => (¬ x = y → T) ∧ (x = y → F)
  | .lt => (x < y → T) ∧ (y ≤ x → F)
  | .ge => (y ≤ x → T) ∧ (x < y → F)
  | .gt => (y < x → T) ∧ (x ≤ y → F)
  | .le => (x ≤ y → T) ∧ (y < x → F)
def am_if (cd : ClassFile.Cond) (v : am_V) (T F : Prop) : Prop := match v with
  | .inl (x, f) => am_ob f (R32 x) (am_br cd x 0 T F)
  | .inr (.inr (.inr (.inl p))) => (match cd with
    | .eq => (¬ p → T) ∧ (p → F)
    | .ne => (p → T) ∧ (¬ p → F)
    | _ => False)
  | .inr (.inr (.inr (.inr (x, y)))) => am_br cd x y T F
  | _ => False
def am_sw (x : Int) (K : Int → Prop) : Int → List Int → Prop
  | _, [] => True
  | i, o :: os => (x = i → K o) ∧ am_sw x K (i + 1) os
def am_ld (lv : am_L) (i : Nat) : Option am_V := match lv[i]? with
  | some (some v) => some v
  | _ => none
def am_cl (lv : am_L) (i : Nat) : am_L := match i with
  | 0 => lv
  | j + 1 => (match lv[j]? with
    | some (some (.inr (.inl _))) => lv.set j none
    | _ => lv)
def am_s1 (lv : am_L) (i : Nat) (v : am_V) : am_L := (am_cl lv i).set i (some v)
def am_s2 (lv : am_L) (i : Nat) (v : am_V) : am_L := ((am_cl lv i).set i (some v)).set (i + 1) none
def am_fld (c b : Nat) : Option (Nat × Nat × Nat × Nat × Int) := match am_FT[c]? with
  | some l => l[b]?
  | none => none
def am_gf (f : Nat × Nat × Nat × Nat × Int) (b : Nat) (o : Int) (h : am_H) : am_V := match f with
  | (0, _) => mB (h o (Int.ofNat b))
  | (1, _) => mK (h o (Int.ofNat b))
  | (2, _) => mB (h o (Int.ofNat b))
  | (3, k, n, m, d) => mR k n m (o + d)
  | (4, k, n, m, _) => mR k n m (am_sv o)
  | (_, k, n, m, d) => mR k n m d
def am_pf (fk : Nat) (b : Nat) (o : Int) (v : am_V) (h : am_H) (K : am_H → Prop) : Prop := match fk with
  | 0 => am_int v (fun x f => am_ob f (R32 x) (K (am_up h o (Int.ofNat b) x)))
  | 1 => am_lng v (fun x f => am_ob f (R64 x) (K (am_up h o (Int.ofNat b) x)))
  | 2 => (match v with
    | .inl (x, _) => (x = 0 ∨ x = 1) ∧ K (am_up h o (Int.ofNat b) x)
    | .inr (.inr (.inr (.inl p))) => K (am_up h o (Int.ofNat b) (am_b p))
    | _ => False)
  | _ => False
def am_cat : am_V → Nat
  | .inr (.inl _) => 2
  | _ => 1
def am_cats (st : List am_V) : Nat := match st with
  | [] => 0
  | v :: r => am_cat v + am_cats r
def am_obs : List am_V → (List am_V → Prop) → Prop
  | [], F => F []
  | .inl (x, f) :: vs, F => am_ob f (R32 x) (am_obs vs (fun l => F (mB x :: l)))
  | .inr (.inl (x, f)) :: vs, F => am_ob f (R64 x) (am_obs vs (fun l => F (mK x :: l)))
  | .inr (.inr v) :: vs, F => am_obs vs (fun l => F (.inr (.inr v) :: l))
def am_push (v : Option am_V) (r : List am_V) : List am_V := match v with
  | some w => w :: r
  | none => r
def am_call (E : am_E) (y n0 how d : Nat) (st : List am_V) (h : am_H) (K : List am_V → am_H → Prop) : Prop :=
  match Nat.ble n0 st.length with
  | false => False
  | true => (match how with
    | 0 => (match Nat.ble (am_cats (st.drop n0)) 8 with
      | true => am_obs (st.take n0).reverse (fun as => E y as h (fun v h' => K (am_push v (st.drop n0)) h'))
      | false => False)
    | _ => (match st.drop n0 with
      | .inr (.inr (.inl (1, ci, 0, o))) :: r => (match Nat.beq ci d, Nat.ble (am_cats r) 8 with
        | true, true => am_obs (st.take n0).reverse (fun as => E y (mR 1 ci 0 o :: as) h (fun v h' => K (am_push v r) h'))
        | _, _ => False)
      | _ => False))
def am_chk (v : Int) (n : Nat) : Bool := match v with
  | .ofNat k => Nat.blt k n
  | .negSucc k => Nat.blt k n
def am_cst (a : Nat) : Int := match Nat.blt a 2147483648 with
  | true => Int.ofNat a
  | false => Int.ofNat a - 4294967296
def am_csl (a : Nat) : Int := match Nat.blt a 9223372036854775808 with
  | true => Int.ofNat a
  | false => Int.ofNat a - 18446744073709551616
set_option maxHeartbeats 4000000 in
def am_step (rk : Nat) (E : am_E) (R : Option am_V → am_H → Prop) : ri_I → Nat → am_L → List am_V → am_H → (Nat → am_L → List am_V → am_H → Prop) → Prop
  | (ins, a, b, c, d), pc, lv, st, h, K => match ins with
    | .iconst v => (match am_chk v 2147483648 with | true => K (pc + 1) lv (mB v :: st) h | false => False)
    | .bipush v => (match am_chk v 128 with | true => K (pc + 2) lv (mB v :: st) h | false => False)
    | .sipush v => (match am_chk v 32768 with | true => K (pc + 3) lv (mB v :: st) h | false => False)
    | .lconst v => K (pc + 1) lv (mK (Int.ofNat v.val) :: st) h
    | .aconst_null => K (pc + 1) lv (mR 0 0 0 0 :: st) h
    | .ldc _ => (match c with | 0 => (match Nat.blt a 4294967296 with | true => K (pc + 2) lv (mB (am_cst a) :: st) h | false => False) | 1 => (match Nat.blt a 13 with | true => K (pc + 2) lv (mR 9 0 0 (Int.ofNat (3000000 + a)) :: st) h | false => False) | _ => False)
    | .ldc_w _ => (match c with | 0 => (match Nat.blt a 4294967296 with | true => K (pc + 3) lv (mB (am_cst a) :: st) h | false => False) | 1 => (match Nat.blt a 13 with | true => K (pc + 3) lv (mR 9 0 0 (Int.ofNat (3000000 + a)) :: st) h | false => False) | _ => False)
    | .ldc2_w _ => (match Nat.blt a 18446744073709551616 with | true => K (pc + 3) lv (mK (am_csl a) :: st) h | false => False)
    | .iload_n j => (match am_ld lv j.val with | some (.inl q) => K (pc + 1) lv (.inl q :: st) h | some (.inr (.inr (.inr (.inl q)))) => K (pc + 1) lv (mP q :: st) h | _ => False)
    | .iload j => (match am_ld lv j with | some (.inl q) => K (pc + 2) lv (.inl q :: st) h | some (.inr (.inr (.inr (.inl q)))) => K (pc + 2) lv (mP q :: st) h | _ => False)
    | .lload_n j => (match am_ld lv j.val with | some (.inr (.inl q)) => K (pc + 1) lv (.inr (.inl q) :: st) h | _ => False)
    | .lload j => (match am_ld lv j with | some (.inr (.inl q)) => K (pc + 2) lv (.inr (.inl q) :: st) h | _ => False)
    | .aload_n j => (match am_ld lv j.val with | some (.inr (.inr (.inl q))) => K (pc + 1) lv (.inr (.inr (.inl q)) :: st) h | _ => False)
    | .aload j => (match am_ld lv j with | some (.inr (.inr (.inl q))) => K (pc + 2) lv (.inr (.inr (.inl q)) :: st) h | _ => False)
    | .istore_n j => (match st with | .inl q :: r => K (pc + 1) (am_s1 lv j.val (.inl q)) r h | .inr (.inr (.inr (.inl q))) :: r => K (pc + 1) (am_s1 lv j.val (mP q)) r h | _ => False)
    | .istore j => (match st with | .inl q :: r => K (pc + 2) (am_s1 lv j (.inl q)) r h | .inr (.inr (.inr (.inl q))) :: r => K (pc + 2) (am_s1 lv j (mP q)) r h | _ => False)
    | .lstore_n j => (match st with | .inr (.inl q) :: r => K (pc + 1) (am_s2 lv j.val (.inr (.inl q))) r h | _ => False)
    | .lstore j => (match st with | .inr (.inl q) :: r => K (pc + 2) (am_s2 lv j (.inr (.inl q))) r h | _ => False)
    | .astore_n j => (match st with | .inr (.inr (.inl q)) :: r => K (pc + 1) (am_s1 lv j.val (.inr (.inr (.inl q)))) r h | _ => False)
    | .astore j => (match st with | .inr (.inr (.inl q)) :: r => K (pc + 2) (am_s1 lv j (.inr (.inr (.inl q)))) r h | _ => False)
    | .iinc j v => (match am_ld lv j with | some (.inl (x, _)) => K (pc + 3) (am_s1 lv j (mI (x + v))) st h | _ => False)
    | .iadd => am_i2 st (fun x _ y _ r => K (pc + 1) lv (mI (x + y) :: r) h)
    | .isub => am_i2 st (fun x _ y _ r => K (pc + 1) lv (mI (x - y) :: r) h)
    | .imul => am_i2 st (fun x _ y _ r => K (pc + 1) lv (mI (x * y) :: r) h)
    | .iand => am_i2 st (fun x _ y _ r => K (pc + 1) lv (mB (iAnd x y) :: r) h)
    | .ior => am_i2 st (fun x _ y _ r => K (pc + 1) lv (mB (iOr x y) :: r) h)
    | .ixor => am_i2 st (fun x _ y _ r => K (pc + 1) lv (mB (iXor x y) :: r) h)
    | .ishl => am_i2 st (fun x _ y _ r => K (pc + 1) lv (mB (iShl x y) :: r) h)
    | .ishr => am_i2 st (fun x _ y _ r => K (pc + 1) lv (mB (iShr x y) :: r) h)
    | .iushr => am_i2 st (fun x _ y _ r => K (pc + 1) lv (mB (iUsh x y) :: r) h)
    | .ineg => am_i1 st (fun x _ r => K (pc + 1) lv (mI (-x) :: r) h)
    | .idiv => am_i2 st (fun x f y g r => am_ob f (R32 x) (am_ob g (R32 y) (¬ y = 0 ∧ K (pc + 1) lv (mI (Int.tdiv x y) :: r) h)))
    | .irem => am_i2 st (fun x f y g r => am_ob f (R32 x) (am_ob g (R32 y) (¬ y = 0 ∧ K (pc + 1) lv (mB (Int.tmod x y) :: r) h)))
    | .ladd => am_l2 st (fun x _ y _ r => K (pc + 1) lv (mJ (x + y) :: r) h)
    | .lsub => am_l2 st (fun x _ y _ r => K (pc + 1) lv (mJ (x - y) :: r) h)
    | .lmul => am_l2 st (fun x _ y _ r => K (pc + 1) lv (mJ (x * y) :: r) h)
    | .land => am_l2 st (fun x _ y _ r => K (pc + 1) lv (mK (jAnd x y) :: r) h)
    | .lor => am_l2 st (fun x _ y _ r => K (pc + 1) lv (mK (jOr x y) :: r) h)
    | .ldiv => am_l2 st (fun x f y g r => am_ob f (R64 x) (am_ob g (R64 y) (¬ y = 0 ∧ K (pc + 1) lv (mJ (Int.tdiv x y) :: r) h)))
    | .lrem => am_l2 st (fun x f y g r => am_ob f (R64 x) (am_ob g (R64 y) (¬ y = 0 ∧ K (pc + 1) lv (mK (Int.tmod x y) :: r) h)))
    | .lshl => am_i1 st (fun y _ r => am_l1 r (fun x _ r => K (pc + 1) lv (mK (jShl x y) :: r) h))
    | .lshr => am_i1 st (fun y _ r => am_l1 r (fun x _ r => K (pc + 1) lv (mK (jShr x y) :: r) h))
    | .lcmp => am_l2 st (fun x f y g r => am_ob f (R64 x) (am_ob g (R64 y) (K (pc + 1) lv (mC x y :: r) h)))
    | .i2l => am_i1 st (fun x f r => am_ob f (R32 x) (K (pc + 1) lv (mK x :: r) h))
    | .l2i => am_l1 st (fun x _ r => K (pc + 1) lv (mI x :: r) h)
    | .i2c => am_i1 st (fun x _ r => (0 ≤ x ∧ x < 65536) ∧ K (pc + 1) lv (mB x :: r) h)
    | .dup => (match st with | .inr (.inl _) :: _ => False | v :: r => K (pc + 1) lv (v :: v :: r) h | [] => False)
    | .pop => (match st with | .inr (.inl _) :: _ => False | _ :: r => K (pc + 1) lv r h | [] => False)
    | .dup2 => (match st with | .inr (.inl q) :: r => K (pc + 1) lv (.inr (.inl q) :: .inr (.inl q) :: r) h | v :: .inr (.inl _) :: _ => False | v :: u :: r => K (pc + 1) lv (v :: u :: v :: u :: r) h | _ => False)
    | .ifCond cd _ => (match st with | v :: r => am_if cd v (K a lv r h) (K (pc + 3) lv r h) | _ => False)
    | .if_icmp cd _ => am_i2 st (fun x f y g r => am_ob f (R32 x) (am_ob g (R32 y) (am_br cd x y (K a lv r h) (K (pc + 3) lv r h))))
    | .goto _ => K a lv st h
    | .ifnull _ => (match st with | .inr (.inr (.inl (0, _, _, _))) :: r => K a lv r h | .inr (.inr (.inl (_ + 1, _, _, _))) :: r => K (pc + 3) lv r h | _ => False)
    | .ifnonnull _ => (match st with | .inr (.inr (.inl (0, _, _, _))) :: r => K (pc + 3) lv r h | .inr (.inr (.inl (_ + 1, _, _, _))) :: r => K a lv r h | _ => False)
    | .tableswitch _ lo hi offs => am_i1 st (fun x f r => (match Nat.beq offs.size (hi - lo + 1).toNat with | false => False | true => am_ob f (R32 x) ((x < lo ∨ hi < x → K a lv r h) ∧ am_sw x (fun o => K ((pc : Int) + o).toNat lv r h) lo offs.toList)))
    | .getfield _ => (match st with | .inr (.inr (.inl (1, ci, 0, o))) :: r => (match Nat.beq ci a, am_fld a b with | true, some f => K (pc + 3) lv (am_gf f b o h :: r) h | _, _ => False) | _ => False)
    | .putfield _ => (match st with | v :: .inr (.inr (.inl (1, ci, 0, o))) :: r => (match Nat.beq ci a, am_fld a b with | true, some f => (match Nat.beq f.1 d with | true => am_pf f.1 b o v h (fun h' => K (pc + 3) lv r h') | false => False) | _, _ => False) | _ => False)
    | .iaload => (match st with | v :: .inr (.inr (.inl (2, n, 0, q))) :: r => am_int v (fun i _ => (0 ≤ i ∧ i < Int.ofNat n) ∧ K (pc + 1) lv (mB (h q i) :: r) h) | _ => False)
    | .caload => (match st with | v :: .inr (.inr (.inl (4, n, 0, q))) :: r => am_int v (fun i _ => (0 ≤ i ∧ i < Int.ofNat n) ∧ K (pc + 1) lv (mB (h q i) :: r) h) | _ => False)
    | .baload => (match st with | v :: .inr (.inr (.inl (5, n, 0, q))) :: r => am_int v (fun i _ => (0 ≤ i ∧ i < Int.ofNat n) ∧ K (pc + 1) lv (mB (h q i) :: r) h) | _ => False)
    | .laload => (match st with | v :: .inr (.inr (.inl (3, n, 0, q))) :: r => am_int v (fun i _ => (0 ≤ i ∧ i < Int.ofNat n) ∧ K (pc + 1) lv (mK (h q i) :: r) h) | _ => False)
    | .aaload => (match st with
      | v :: .inr (.inr (.inl (6, n, m, q))) :: r => am_int v (fun i _ => (0 ≤ i ∧ i < Int.ofNat n) ∧ K (pc + 1) lv (mR 2 m 0 (q + 1 + i) :: r) h)
      | v :: .inr (.inr (.inl (7, n, m, q))) :: r => am_int v (fun i _ => (0 ≤ i ∧ i < Int.ofNat n) ∧ K (pc + 1) lv (mR 3 m 0 (q + 1 + i) :: r) h)
      | v :: .inr (.inr (.inl (8, n, 0, q))) :: r => am_int v (fun i _ => (0 ≤ i ∧ i < Int.ofNat n) ∧ K (pc + 1) lv (mR 1 6 0 (am_pa i) :: r) h)
      | _ => False)
    | .iastore => (match st with | w :: v :: .inr (.inr (.inl (2, n, 0, q))) :: r => am_int w (fun x f => am_int v (fun i _ => (0 ≤ i ∧ i < Int.ofNat n) ∧ am_ob f (R32 x) (K (pc + 1) lv r (am_up h q i x)))) | _ => False)
    | .castore => (match st with | w :: v :: .inr (.inr (.inl (4, n, 0, q))) :: r => am_int w (fun x _ => am_int v (fun i _ => (0 ≤ i ∧ i < Int.ofNat n) ∧ (0 ≤ x ∧ x < 65536) ∧ K (pc + 1) lv r (am_up h q i x))) | _ => False)
    | .bastore => (match st with | w :: v :: .inr (.inr (.inl (5, n, 0, q))) :: r => am_int w (fun x _ => am_int v (fun i _ => (0 ≤ i ∧ i < Int.ofNat n) ∧ (x = 0 ∨ x = 1) ∧ K (pc + 1) lv r (am_up h q i x))) | _ => False)
    | .lastore => (match st with | w :: v :: .inr (.inr (.inl (3, n, 0, q))) :: r => am_lng w (fun x f => am_int v (fun i _ => (0 ≤ i ∧ i < Int.ofNat n) ∧ am_ob f (R64 x) (K (pc + 1) lv r (am_up h q i x)))) | _ => False)
    | .arraylength => (match st with | .inr (.inr (.inl (2, n, 0, _))) :: r => K (pc + 1) lv (mB (Int.ofNat n) :: r) h | .inr (.inr (.inl (3, n, 0, _))) :: r => K (pc + 1) lv (mB (Int.ofNat n) :: r) h | _ => False)
    | .invokevirtual _ => (match Nat.beq c 9 with
      | true => (match b, st with
        | 0, .inr (.inr (.inl (9, 0, 0, q))) :: r => (match Nat.ble (am_cats r) 8 with | true => K (pc + 3) lv (mB (am_sl q) :: r) h | false => False)
        | 1, v :: .inr (.inr (.inl (9, 0, 0, q))) :: r => (match Nat.ble (am_cats r) 8 with | true => am_int v (fun i _ => (0 ≤ i ∧ i < am_sl q) ∧ K (pc + 3) lv (mB (am_sc q i) :: r) h) | false => False)
        | _, _ => False)
      | false => am_call E a b 2 d st h (fun st' h' => K (pc + 3) lv st' h'))
    | .invokestatic _ => (match c with
      | 0 => am_call E a b 0 d st h (fun st' h' => K (pc + 3) lv st' h')
      | 4 => (match st with
        | [z, dp, .inr (.inr (.inl (2, n1, 0, q1))), sp, .inr (.inr (.inl (2, n0, 0, q0)))] => am_int z (fun z _ => am_int dp (fun dp _ => am_int sp (fun sp _ => (0 ≤ z ∧ 0 ≤ sp ∧ sp + z ≤ Int.ofNat n0 ∧ 0 ≤ dp ∧ dp + z ≤ Int.ofNat n1) ∧ K (pc + 3) lv [] (am_cp h q0 sp q1 dp z))))
        | _ => False)
      | 6 => am_i2 st (fun x f y g r => (match Nat.ble (am_cats r) 8 with | true => am_ob f (R32 x) (am_ob g (R32 y) (K (pc + 3) lv (mB (max x y) :: r) h)) | false => False))
      | 7 => am_i2 st (fun x f y g r => (match Nat.ble (am_cats r) 8 with | true => am_ob f (R32 x) (am_ob g (R32 y) (K (pc + 3) lv (mB (min x y) :: r) h)) | false => False))
      | 8 => am_l2 st (fun x f y g r => (match Nat.ble (am_cats r) 8 with | true => am_ob f (R64 x) (am_ob g (R64 y) (K (pc + 3) lv (mK (max x y) :: r) h)) | false => False))
      | _ => False)
    | .ireturn => (match st with
      | [.inl (x, f)] => (match rk with | 1 => am_ob f (R32 x) (R (some (mB x)) h) | 4 => (x = 0 ∨ x = 1) ∧ R (some (mP (x = 1))) h | _ => False)
      | [.inr (.inr (.inr (.inl p)))] => (match rk with | 4 => R (some (mP p)) h | _ => False)
      | _ => False)
    | .lreturn => (match st with | [.inr (.inl (x, f))] => (match rk with | 2 => am_ob f (R64 x) (R (some (mK x)) h) | _ => False) | _ => False)
    | .areturn => (match st with | [.inr (.inr (.inl q))] => (match rk with | 3 => R (some (.inr (.inr (.inl q)))) h | _ => False) | _ => False)
    | .return_ => (match st with | [] => (match rk with | 0 => R none h | _ => False) | _ => False)
    | _ => False
/-- where a walk rests: pcs, and of each variable 0 (forgotten), 1 (as it is), 2 (a number of which nothing is known) -/
def am_cut : List (Nat × List Nat) → Nat → Option (List Nat)
  | [], _ => none
  | (p, ks) :: l, pc => match Nat.beq p pc with
    | true => some ks
    | false => am_cut l pc
noncomputable def am_pj (k : Nat) (v : Option am_V) : Option am_V := match k with
  | 0 => none
  | 1 => v
  | _ => (match v with
    | some (.inl (x, _)) => some (mI x)
    | some (.inr (.inl (x, _))) => some (mJ x)
    | some (.inr (.inr (.inr (.inl p)))) => some (mI (am_b p))
    | _ => none)
noncomputable def am_prj : List Nat → am_L → am_L
  | k :: ks, v :: lv => am_pj k v :: am_prj ks lv
  | _, _ => []
def am_nx (cuts : List (Nat × List Nat)) (Lf : Nat → am_L → am_H → Prop) (W : Nat → am_L → List am_V → am_H → Prop) (pc : Nat) (lv : am_L) (st : List am_V) (h : am_H) : Prop := match am_cut cuts pc with
  | some ks => (match st with
    | [] => Lf pc (am_prj ks lv) h
    | _ => False)
  | none => W pc lv st h
def am_wp (T : List (Option ri_I)) (rk : Nat) (cuts : List (Nat × List Nat)) (E : am_E) (Lf : Nat → am_L → am_H → Prop) (R : Option am_V → am_H → Prop) : Nat → Nat → am_L → List am_V → am_H → Prop
  | 0, _, _, _, _ => False
  | f + 1, pc, lv, st, h => match T[pc]? with
    | some (some i) => am_step rk E R i pc lv st h (fun pc lv st h => am_nx cuts Lf (am_wp T rk cuts E Lf R f) pc lv st h)
    | _ => False
