/-! ===== alike: nets of at most four points are told apart by their degrees ===== -/
def gb (a b c d e f : Bool) : Nat → Nat → Bool
  | 0, 1 => a
  | 1, 0 => a
  | 0, 2 => b
  | 2, 0 => b
  | 0, 3 => c
  | 3, 0 => c
  | 1, 2 => d
  | 2, 1 => d
  | 1, 3 => e
  | 3, 1 => e
  | 2, 3 => f
  | 3, 2 => f
  | _, _ => false
def dgB (g : Nat → Nat → Bool) (i : Nat) : Nat := (g i 0).toNat + (g i 1).toNat + (g i 2).toNat + (g i 3).toNat
def cnB (g : Nat → Nat → Bool) (d : Nat) : Nat := (dgB g 0 == d).toNat + (dgB g 1 == d).toNat + (dgB g 2 == d).toNat + (dgB g 3 == d).toNat
def stB (x y z : Nat) : Nat → Nat → Bool :=
  if x == 2 && y == 0 then gb true false false false false false
  else if x == 2 && y == 1 then gb true false false true false false
  else if y == 3 then gb true true false true false false
  else if x == 2 && y == 2 then gb true false false true false true
  else if x == 3 then gb true true true false false false
  else if y == 4 then gb true false true true false true
  else if x == 1 then gb true true true true false false
  else if y == 2 then gb true true true true true false
  else gb true true true true true true
def pmB : List (List Nat × List Nat) := [([0, 1, 2, 3], [0, 1, 2, 3]), ([0, 1, 3, 2], [0, 1, 3, 2]), ([0, 2, 1, 3], [0, 2, 1, 3]), ([0, 2, 3, 1], [0, 3, 1, 2]), ([0, 3, 1, 2], [0, 2, 3, 1]), ([0, 3, 2, 1], [0, 3, 2, 1]), ([1, 0, 2, 3], [1, 0, 2, 3]), ([1, 0, 3, 2], [1, 0, 3, 2]), ([1, 2, 0, 3], [2, 0, 1, 3]), ([1, 2, 3, 0], [3, 0, 1, 2]), ([1, 3, 0, 2], [2, 0, 3, 1]), ([1, 3, 2, 0], [3, 0, 2, 1]), ([2, 0, 1, 3], [1, 2, 0, 3]), ([2, 0, 3, 1], [1, 3, 0, 2]), ([2, 1, 0, 3], [2, 1, 0, 3]), ([2, 1, 3, 0], [3, 1, 0, 2]), ([2, 3, 0, 1], [2, 3, 0, 1]), ([2, 3, 1, 0], [3, 2, 0, 1]), ([3, 0, 1, 2], [1, 2, 3, 0]), ([3, 0, 2, 1], [1, 3, 2, 0]), ([3, 1, 0, 2], [2, 1, 3, 0]), ([3, 1, 2, 0], [3, 1, 2, 0]), ([3, 2, 0, 1], [2, 3, 1, 0]), ([3, 2, 1, 0], [3, 2, 1, 0])]
def goB (s : Nat) (g h : Nat → Nat → Bool) (l m : List Nat) : Bool := [0, 1, 2, 3].all fun i => !(decide (i < s)) || (decide (l.getD i 0 < s) && decide (m.getD i 0 < s) && l.getD (m.getD i 0) 0 == i && m.getD (l.getD i 0) 0 == i && [0, 1, 2, 3].all fun j => !(decide (j < s)) || g (l.getD i 0) (l.getD j 0) == h i j)
def prB (s : Nat) (g : Nat → Nat → Bool) : Bool := ([0, 1, 2, 3].all fun i => if decide (i < s) then decide (1 ≤ dgB g i) else dgB g i == 0) && !(cnB g 1 == 4)
def okB (s : Nat) (g : Nat → Nat → Bool) : Bool := !(prB s g) || pmB.any fun lm => goB s g (stB (cnB g 1) (cnB g 2) (cnB g 3)) lm.1 lm.2
theorem okB_all : ∀ a b c d e f : Bool, (okB 2 (gb a b c d e f) && okB 3 (gb a b c d e f) && okB 4 (gb a b c d e f)) = true := by decide
theorem mem4 {i : Nat} (h : i < 4) : i ∈ [0, 1, 2, 3] := by
  match i, h with
  | 0, _ => exact List.Mem.head _
  | 1, _ => exact List.Mem.tail _ (List.Mem.head _)
  | 2, _ => exact List.Mem.tail _ (List.Mem.tail _ (List.Mem.head _))
  | 3, _ => exact List.Mem.tail _ (List.Mem.tail _ (List.Mem.tail _ (List.Mem.head _)))
theorem goB_x {s : Nat} {g h : Nat → Nat → Bool} {l m : List Nat} (H : goB s g h l m = true) (hs : s ≤ 4) {i : Nat} (hi : i < s) : (l.getD i 0 < s ∧ m.getD i 0 < s ∧ l.getD (m.getD i 0) 0 = i ∧ m.getD (l.getD i 0) 0 = i) ∧ ∀ j, j < s → g (l.getD i 0) (l.getD j 0) = h i j := by
  unfold goB at H
  have w := List.all_eq_true.mp H i (mem4 (by omega))
  simp only [Bool.or_eq_true, Bool.not_eq_true', decide_eq_false_iff_not, Bool.and_eq_true, decide_eq_true_eq, beq_iff_eq] at w
  have w2 := w.resolve_left (fun z => z hi)
  refine ⟨⟨w2.1.1.1.1, w2.1.1.1.2, w2.1.1.2, w2.1.2⟩, fun j hj => ?_⟩
  have v := List.all_eq_true.mp w2.2 j (mem4 (by omega))
  simp only [Bool.or_eq_true, Bool.not_eq_true', decide_eq_false_iff_not, beq_iff_eq] at v
  exact v.resolve_left (fun z => z hj)
theorem okB_x {s : Nat} (hs : 2 ≤ s ∧ s ≤ 4) {a b c d e f : Bool} (hp : prB s (gb a b c d e f) = true) : ∃ l m, goB s (gb a b c d e f) (stB (cnB (gb a b c d e f) 1) (cnB (gb a b c d e f) 2) (cnB (gb a b c d e f) 3)) l m = true := by
  have w := okB_all a b c d e f
  rw [Bool.and_eq_true, Bool.and_eq_true] at w
  have k : okB s (gb a b c d e f) = true := by
    match s, hs with
    | 2, _ => exact w.1.1
    | 3, _ => exact w.1.2
    | 4, _ => exact w.2
  unfold okB at k
  rw [hp, Bool.or_eq_true] at k
  obtain ⟨lm, _, q⟩ := List.any_eq_true.mp (k.resolve_left (by decide))
  exact ⟨lm.1, lm.2, q⟩
noncomputable def bo (p : Prop) : Bool := @decide p (Classical.propDecidable p)
theorem bo_iff {p : Prop} : bo p = true ↔ p := @decide_eq_true_iff p (Classical.propDecidable p)
def XH (X : Int → Int → Prop) (s : Int) : Prop := ∀ a b, X a b → ((0 ≤ a ∧ a < s) ∧ (0 ≤ b ∧ b < s)) ∧ a ≠ b ∧ X b a
noncomputable def gX (X : Int → Int → Prop) : Nat → Nat → Bool := gb (bo (X 0 1)) (bo (X 0 2)) (bo (X 0 3)) (bo (X 1 2)) (bo (X 1 3)) (bo (X 2 3))
theorem gX_iff {X : Int → Int → Prop} {s : Int} (H : XH X s) : ∀ i j : Nat, i < 4 → j < 4 → (gX X i j = true ↔ X i j) := by
  have ir : ∀ a, ¬ X a a := fun a w => (H a a w).2.1 rfl
  have sy : ∀ a b, X a b ↔ X b a := fun a b => ⟨fun w => (H a b w).2.2, fun w => (H b a w).2.2⟩
  have no : ∀ a : Int, (false = true ↔ X a a) := fun a => ⟨fun w => absurd w (by decide), fun w => absurd w (ir a)⟩
  intro i j hi hj
  match i, hi, j, hj with
  | 0, _, 0, _ => exact no 0
  | 0, _, 1, _ => exact bo_iff
  | 0, _, 2, _ => exact bo_iff
  | 0, _, 3, _ => exact bo_iff
  | 1, _, 0, _ => exact bo_iff.trans (sy 0 1)
  | 1, _, 1, _ => exact no 1
  | 1, _, 2, _ => exact bo_iff
  | 1, _, 3, _ => exact bo_iff
  | 2, _, 0, _ => exact bo_iff.trans (sy 0 2)
  | 2, _, 1, _ => exact bo_iff.trans (sy 1 2)
  | 2, _, 2, _ => exact no 2
  | 2, _, 3, _ => exact bo_iff
  | 3, _, 0, _ => exact bo_iff.trans (sy 0 3)
  | 3, _, 1, _ => exact bo_iff.trans (sy 1 3)
  | 3, _, 2, _ => exact bo_iff.trans (sy 2 3)
  | 3, _, 3, _ => exact no 3
theorem amb_bo {p : Prop} {b : Bool} (h : b = true ↔ p) : am_b p = (b.toNat : Int) := by
  by_cases c : p
  · rw [am_b_t c, h.mpr c]; rfl
  · rw [am_b_f c, show b = false from Bool.eq_false_iff.mpr (fun z => c (h.mp z))]; rfl
theorem ct_4 (P : Int → Prop) : ct P 4 = am_b (P 0) + am_b (P 1) + am_b (P 2) + am_b (P 3) := by
  show 0 + am_b (P 0) + am_b (P 1) + am_b (P 2) + am_b (P 3) = _
  omega
theorem dgB_X {X : Int → Int → Prop} {s : Int} (H : XH X s) (i : Nat) (hi : i < 4) : ct (X i) 4 = (dgB (gX X) i : Int) := by
  have e : ∀ j : Nat, j < 4 → am_b (X i j) = ((gX X i j).toNat : Int) := fun j hj => amb_bo (gX_iff H i j hi hj)
  rw [ct_4]
  have e0 : am_b (X i 0) = _ := e 0 (by omega)
  have e1 : am_b (X i 1) = _ := e 1 (by omega)
  have e2 : am_b (X i 2) = _ := e 2 (by omega)
  have e3 : am_b (X i 3) = _ := e 3 (by omega)
  rw [e0, e1, e2, e3]
  unfold dgB
  omega
theorem cnB_X {X : Int → Int → Prop} {s : Int} (H : XH X s) (d : Nat) : ct (fun y => ct (X y) 4 = d) 4 = (cnB (gX X) d : Int) := by
  have e : ∀ i : Nat, i < 4 → am_b (ct (X i) 4 = d) = ((dgB (gX X) i == d).toNat : Int) := fun i hi => amb_bo (by
    rw [beq_iff_eq, dgB_X H i hi]
    omega)
  rw [ct_4]
  have e0 : am_b (ct (X 0) 4 = d) = _ := e 0 (by omega)
  have e1 : am_b (ct (X 1) 4 = d) = _ := e 1 (by omega)
  have e2 : am_b (ct (X 2) 4 = d) = _ := e 2 (by omega)
  have e3 : am_b (ct (X 3) 4 = d) = _ := e 3 (by omega)
  rw [e0, e1, e2, e3]
  unfold cnB
  omega
/-- a net in one piece passes -/
theorem prB_X {X : Int → Int → Prop} {s : Nat} (hs : 2 ≤ s ∧ s ≤ 4) (H : XH X s) (C : ∀ p, 0 ≤ p → p < (s : Int) → rc X 0 p) : prB s (gX X) = true := by
  have nb : ∀ p, 0 ≤ p → p < (s : Int) → ∃ q, X p q := fun p a b => by
    have key : ∀ u v, u ≠ v → rc X u v → ∃ q, X u q := fun u v ne ⟨d, w⟩ => by
      match d, w with
      | 0, w => exact absurd w ne
      | d + 1, w =>
        obtain ⟨c, h, _⟩ := wk_fst w
        exact ⟨c, h⟩
    by_cases z : p = 0
    · rw [z]; exact key 0 1 (by omega) (C 1 (by omega) (by omega))
    · exact key p 0 z (rc_sym (fun x y w => (H x y w).2.2) (C p a b))
  have dg : ∀ i : Nat, i < s → 1 ≤ dgB (gX X) i := fun i hi => by
    obtain ⟨q, w⟩ := nb i (by omega) (by omega)
    have r := (H _ _ w).1.2
    have := ct_pos (P := X i) (n := 4) r.1 (by omega) w
    rw [dgB_X H i (by omega)] at this
    omega
  have d0 : ∀ i : Nat, i < 4 → ¬ i < s → dgB (gX X) i = 0 := fun i hi hn => by
    have := ct_none (P := X i) 4 (fun k _ w => by have := (H _ _ w).1.1; omega)
    rw [dgB_X H i hi] at this
    omega
  have nm : cnB (gX X) 1 ≠ 4 := fun e => by
    have ci := cnB_X H 1
    rw [e] at ci
    have al := ct_full (P := fun y => ct (X y) 4 = ((1 : Nat) : Int)) 4 (by omega)
    have s4 : s = 4 := Classical.byContradiction fun z => by
      have a := al 3 (by omega) (by omega)
      have b := dgB_X H 3 (by omega)
      rw [d0 3 (by omega) (by omega)] at b
      have b' : ct (X 3) 4 = ((0 : Nat) : Int) := b
      have a' : ct (X 3) 4 = ((1 : Nat) : Int) := a
      omega
    have un : ∀ u x y, X u x → X u y → x = y := fun u x y a b => Classical.byContradiction fun ne => by
      have r1 := (H _ _ a).1
      have r2 := (H _ _ b).1
      have t := ct_two (P := X u) (n := 4) (a := x) (b := y) (by omega) (by omega) ne a b
      have t1 : ct (X u) 4 = ((1 : Nat) : Int) := al u r1.1.1 (by omega)
      omega
    obtain ⟨m, hm⟩ := nb 0 (by omega) (by omega)
    have cl : ∀ p, rc X 0 p → p = 0 ∨ p = m := fun p w => rc_in (P := fun z => z = 0 ∨ z = m) (fun x y hx xy => by
      rcases hx with hx | hx
      · rw [hx] at xy; exact Or.inr (un 0 y m xy hm)
      · rw [hx] at xy; exact Or.inl (un m y 0 xy (H _ _ hm).2.2)) (Or.inl rfl) w
    have c1 := cl 1 (C 1 (by omega) (by omega))
    have c2 := cl 2 (C 2 (by omega) (by omega))
    omega
  unfold prB
  rw [Bool.and_eq_true]
  refine ⟨List.all_eq_true.mpr (fun i hi => ?_), ?_⟩
  · have i4 : i < 4 := by
      simp only [List.mem_cons, List.not_mem_nil, or_false] at hi
      omega
    by_cases z : i < s
    · rw [if_pos (decide_eq_true z)]
      exact decide_eq_true (dg i z)
    · rw [if_neg (by rw [decide_eq_true_iff]; exact z)]
      exact beq_iff_eq.mpr (d0 i i4 z)
  · rw [Bool.not_eq_true', beq_eq_false_iff_ne]
    exact nm
theorem four {X Y : Int → Int → Prop} {s : Nat} (hs : 2 ≤ s ∧ s ≤ 4) (HX : XH X s) (HY : XH Y s) (CX : ∀ p, 0 ≤ p → p < (s : Int) → rc X 0 p) (CY : ∀ p, 0 ≤ p → p < (s : Int) → rc Y 0 p) (e : ∀ d : Nat, 1 ≤ d → d ≤ 3 → ct (fun y => ct (X y) 4 = d) 4 = ct (fun y => ct (Y y) 4 = d) 4) : ∃ f f' : Int → Int, (∀ a, 0 ≤ a → a < (s : Int) → ((0 ≤ f a ∧ f a < s) ∧ (0 ≤ f' a ∧ f' a < s)) ∧ f' (f a) = a ∧ f (f' a) = a) ∧ ∀ a b, (0 ≤ a ∧ a < (s : Int)) → (0 ≤ b ∧ b < (s : Int)) → (X a b ↔ Y (f a) (f b)) := by
  obtain ⟨l1, m1, g1⟩ := okB_x hs (prB_X hs HX CX)
  obtain ⟨l2, m2, g2⟩ := okB_x hs (prB_X hs HY CY)
  have ec : ∀ d : Nat, 1 ≤ d → d ≤ 3 → cnB (gX X) d = cnB (gX Y) d := fun d a b => by
    have := e d a b
    rw [cnB_X HX, cnB_X HY] at this
    omega
  have g1' : goB s (gX X) (stB (cnB (gX X) 1) (cnB (gX X) 2) (cnB (gX X) 3)) l1 m1 = true := g1
  have g2' : goB s (gX Y) (stB (cnB (gX Y) 1) (cnB (gX Y) 2) (cnB (gX Y) 3)) l2 m2 = true := g2
  rw [ec 1 (by omega) (by omega), ec 2 (by omega) (by omega), ec 3 (by omega) (by omega)] at g1'
  have k1 := fun {i : Nat} (hi : i < s) => goB_x g1' hs.2 hi
  have k2 := fun {i : Nat} (hi : i < s) => goB_x g2' hs.2 hi
  refine ⟨fun a => ((l2.getD (m1.getD a.toNat 0) 0 : Nat) : Int), fun a => ((l1.getD (m2.getD a.toNat 0) 0 : Nat) : Int), fun a a0 a1 => ?_, fun a b ha hb => ?_⟩
  · have i1 := k1 (i := a.toNat) (by omega)
    have i2 := k2 (i := a.toNat) (by omega)
    have j1 := k2 (i := m1.getD a.toNat 0) i1.1.2.1
    have j2 := k1 (i := m2.getD a.toNat 0) i2.1.2.1
    refine ⟨⟨⟨Int.natCast_nonneg _, Int.ofNat_lt.mpr j1.1.1⟩, ⟨Int.natCast_nonneg _, Int.ofNat_lt.mpr j2.1.1⟩⟩, ?_, ?_⟩
    · show ((l1.getD (m2.getD (((l2.getD (m1.getD a.toNat 0) 0 : Nat) : Int)).toNat 0) 0 : Nat) : Int) = a
      rw [Int.toNat_natCast, j1.1.2.2.2, i1.1.2.2.1]
      omega
    · show ((l2.getD (m1.getD (((l1.getD (m2.getD a.toNat 0) 0 : Nat) : Int)).toNat 0) 0 : Nat) : Int) = a
      rw [Int.toNat_natCast, j2.1.2.2.2, i2.1.2.2.1]
      omega
  · have ia := k1 (i := a.toNat) (by omega)
    have ib := k1 (i := b.toNat) (by omega)
    have x := (k1 (i := m1.getD a.toNat 0) ia.1.2.1).2 _ ib.1.2.1
    have y := (k2 (i := m1.getD a.toNat 0) ia.1.2.1).2 _ ib.1.2.1
    have ya := (k2 (i := m1.getD a.toNat 0) ia.1.2.1).1.1
    have yb := (k2 (i := m1.getD b.toNat 0) ib.1.2.1).1.1
    rw [ia.1.2.2.1, ib.1.2.2.1] at x
    have gx := gX_iff HX a.toNat b.toNat (by omega) (by omega)
    have gy := gX_iff HY (l2.getD (m1.getD a.toNat 0) 0) (l2.getD (m1.getD b.toNat 0) 0) (by omega) (by omega)
    rw [show ((a.toNat : Nat) : Int) = a by omega, show ((b.toNat : Nat) : Int) = b by omega] at gx
    rw [← gx, x, ← y, gy]

theorem ds_wkc {E F : Int → Int → Prop} {a b c d : Int} (h : ∀ m, wk E m a b ↔ wk F m c d) : ds E a b = ds F c d := by
  by_cases r : rc E a b
  · obtain ⟨m, s, e⟩ := ds_sh r
    rw [e, ds_eq (d := m) (E := F) ⟨(h m).mp s.1, fun k hk w => s.2 k hk ((h k).mpr w)⟩]
  · rw [ds_far r, ds_far (fun ⟨m, w⟩ => r ⟨m, (h m).mpr w⟩)]
theorem ct_bij {s : Int} {f : Int → Int} {P Q : Int → Prop} (hf : ∀ x, 0 ≤ x → x < s → 0 ≤ f x ∧ f x < s) (ij : ∀ x y, (0 ≤ x ∧ x < s) → (0 ≤ y ∧ y < s) → f x = f y → x = y) (h : ∀ x, 0 ≤ x → x < s → (P x ↔ Q (f x))) : ct P s.toNat = ct Q s.toNat := by
  have go : ∀ A B : Int → Prop, (∀ x, 0 ≤ x → x < s → (A x → B (f x))) → ct A s.toNat ≤ ct B s.toNat := fun A B w => ct_rel (T := fun x y => y = f x ∧ 0 ≤ x ∧ x < s) (fun x a b q => by
    have r := hf x a (by omega)
    exact ⟨f x, by omega, w x a (by omega) q, rfl, a, by omega⟩) (fun x z y _ _ u v => ij x z u.2 v.2 (u.1.symm.trans v.1))
  have a := go P Q (fun x u v => (h x u v).mp)
  have b := go (fun x => ¬ P x) (fun x => ¬ Q x) (fun x u v w q => w ((h x u v).mpr q))
  rw [ct_not, ct_not] at b
  omega
section ALIKE
variable {n : Int} {r : Int → Int} {k l : Int}
theorem xta_H (hN : NT n r) : XH (xta r k) (iPop (lay r k 0)) := fun a b w => ⟨w.1, xta_ne hN w, xta_sym hN w⟩
theorem xta_C (hN : NT n r) (h0 : 0 < n) : ∀ p, 0 ≤ p → p < iPop (lay r k 0) → rc (xta r k) 0 p := fun p a b => by
  have l20 := iPop_le20 (S20_lay (r := r) k 0)
  exact rc_mono (fun x y w => (ad_rw2 (X := xta r k) (fun u v z => by have := z.1.2; omega) x y).mp w) (CN_xt (k := k) hN h0 p a b)
theorem dgi_x (hN : NT n r) (h0 : 0 < n) {i : Int} (hi : 0 ≤ i) : dgi r k i = ct (xta r k i) 20 := by
  have sl := S20_lay (r := r) k 0
  have l20 := iPop_le20 sl
  have z0 : (0 : Int) ≤ 0 ∧ (0 : Int) < n := ⟨by omega, h0⟩
  rw [dgi_eq]
  unfold dgr
  by_cases c : i < iPop (lay r k 0)
  · have ni := nthb_in sl hi c
    have bq : ∀ q, RA r (fun x => x = k) (nthb (lay r k 0) i) q → bit (lay r k 0) q := fun q w => (bt_lay hN z0).mpr (rc_step ((bt_lay hN z0).mp ni.1) w)
    have a := ct_rel (P := RA r (fun x => x = k) (nthb (lay r k 0) i)) (Q := xta r k i) (T := fun q b => bit (lay r k 0) q ∧ b = ct (bit (lay r k 0)) q.toNat) (n := 20) (fun q u v w => by
      have bb := bq q w
      have cl := ct_lt_20 sl bb
      refine ⟨_, by omega, ⟨⟨⟨hi, c⟩, cl⟩, ?_⟩, bb, rfl⟩
      rw [nthb_ct (S20_in sl bb) bb]
      exact w) (fun x y b _ _ u v => by
      have p1 := nthb_ct (S20_in sl u.1) u.1
      have p2 := nthb_ct (S20_in sl v.1) v.1
      rw [← u.2] at p1
      rw [← v.2] at p2
      exact p1.symm.trans p2)
    have b := ct_rel (P := xta r k i) (Q := RA r (fun x => x = k) (nthb (lay r k 0) i)) (T := fun b q => (0 ≤ b ∧ b < iPop (lay r k 0)) ∧ q = nthb (lay r k 0) b) (n := 20) (fun b u v w => by
      have nb := nthb_in sl w.1.2.1 w.1.2.2
      exact ⟨_, nb.2, w.2, w.1.2, rfl⟩) (fun x y q _ _ u v => by
      have p1 := nthb_at sl u.1.1 u.1.2
      have p2 := nthb_at sl v.1.1 v.1.2
      rw [← u.2] at p1
      rw [← v.2] at p2
      exact p1.symm.trans p2)
    omega
  · rw [ct_none (P := xta r k i) 20 (fun b _ w => c w.1.1.2), nthb_no sl (by omega)]
    exact ct_none 20 (fun q _ w => by have := (RA_in hN w).1; omega)
theorem lyD_1 (hN : NT n r) (hC : CN n r) (h0 : 0 < n) {a b : Int} (ha : 0 ≤ a ∧ a < iPop (lay r k 0)) (hb : 0 ≤ b ∧ b < iPop (lay r k 0)) : lyD r k a b = 1 ↔ xta r k a b := by
  have l20 := iPop_le20 (S20_lay (r := r) k 0)
  have ax : ∀ x y, ad (rw2 (xta r k)) x y ↔ xta r k x y := ad_rw2 (fun u v z => by have := z.1.2; omega)
  rw [← ds_xt hN hC h0 ax ha hb]
  have N2 := XT_nt (k := k) hN l20 ax
  have C2 := CN_xt (k := k) hN h0
  exact ⟨fun w => (ax a b).mp (ds_1e (CN_rc N2 C2 ha hb) w), fun w => ds_1 ((ax a b).mpr w) (xta_ne hN w)⟩
theorem lyD_ds (hN : NT n r) (hC : CN n r) (h0 : 0 < n) {a b : Int} (ha : 0 ≤ a ∧ a < iPop (lay r k 0)) (hb : 0 ≤ b ∧ b < iPop (lay r k 0)) : lyD r k a b = ds (xta r k) a b := by
  have l20 := iPop_le20 (S20_lay (r := r) k 0)
  have ax : ∀ x y, ad (rw2 (xta r k)) x y ↔ xta r k x y := ad_rw2 (fun u v z => by have := z.1.2; omega)
  rw [← ds_xt hN hC h0 ax ha hb]
  exact ds_wkc (fun m => ⟨wk_mono (fun x y => (ax x y).mp), wk_mono (fun x y => (ax x y).mpr)⟩)
/-- an isometry keeps degrees -/
theorem ALK_D (hN : NT n r) (hC : CN n r) (h0 : 0 < n) (H : ALK r k l) : DGE r k l := by
  obtain ⟨es, f, I⟩ := H
  have sk := S20_lay (r := r) k 0
  have sll := S20_lay (r := r) l 0
  have l20 := iPop_le20 sk
  have hb : ∀ j y, bit (lay r j 0) y → y < n := fun j y z => (RA_rc hN ⟨by omega, h0⟩ ((bt_lay hN ⟨by omega, h0⟩).mp z)).2
  have Mk : DM (iPop (lay r k 0)) (lyD r k) := DM_lyd hN hC sk (hb k)
  have Ml : DM (iPop (lay r k 0)) (lyD r l) := by rw [es]; exact DM_lyd hN hC sll (hb l)
  have ij : ∀ x y, (0 ≤ x ∧ x < iPop (lay r k 0)) → (0 ≤ y ∧ y < iPop (lay r k 0)) → f x = f y → x = y := fun x y a b e => ISO_inj Mk Ml I a b e
  have ed : ∀ i, 0 ≤ i → i < iPop (lay r k 0) → dgi r k i = dgi r l (f i) := fun i a b => by
    have fi := I.1 i a b
    rw [dgi_x hN h0 a, dgi_x hN h0 fi.1]
    have t : ∀ j x, iPop (lay r j 0) = iPop (lay r k 0) → ct (xta r j x) 20 = ct (xta r j x) (iPop (lay r k 0)).toNat := fun j x e => by
      have := ct_ext (P := xta r j x) (iPop (lay r k 0)).toNat (20 - (iPop (lay r k 0)).toNat) (fun y u w => by have := w.1.2; omega)
      rw [show (iPop (lay r k 0)).toNat + (20 - (iPop (lay r k 0)).toNat) = 20 by omega] at this
      exact this
    rw [t k i rfl, t l (f i) es.symm]
    refine ct_bij I.1 ij (fun x u v => ?_)
    have fx := I.1 x u v
    rw [← lyD_1 hN hC h0 ⟨a, b⟩ ⟨u, v⟩, ← lyD_1 (k := l) hN hC h0 (by rw [← es]; exact fi) (by rw [← es]; exact fx), I.2 i x ⟨a, b⟩ ⟨u, v⟩]
  intro d _ _
  rw [← es]
  exact ct_bij I.1 ij (fun x u v => by rw [ed x u v])
theorem dgi_1 (hN : NT n r) (hC : CN n r) (hk : 0 ≤ k ∧ k < ncl (ptE r) (nl r)) (h0 : 0 < n) {i : Int} (hi : 0 ≤ i ∧ i < iPop (lay r k 0)) : 1 ≤ dgi r k i ∧ dgi r k i < 20 := by
  have s2 := lay_2 hN hC hk
  rw [dgi_x hN h0 hi.1]
  have key : ∀ u v, u ≠ v → rc (xta r k) u v → ∃ q, xta r k u q := fun u v ne ⟨d, w⟩ => by
    match d, w with
    | 0, w => exact absurd w ne
    | d + 1, w =>
      obtain ⟨c, h, _⟩ := wk_fst w
      exact ⟨c, h⟩
  have ex : ∃ q, xta r k i q := by
    by_cases z : i = 0
    · rw [z]; exact key 0 1 (by omega) (xta_C hN h0 1 (by omega) (by omega))
    · exact key i 0 z (rc_sym (fun x y w => xta_sym hN w) (xta_C hN h0 i hi.1 hi.2))
  obtain ⟨q, w⟩ := ex
  have p := ct_pos (P := xta r k i) (n := 20) w.1.2.1 (by have := w.1.2.2; omega) w
  refine ⟨by omega, Classical.byContradiction fun z => ?_⟩
  have u := ct_full (P := xta r k i) 20 (by omega) i hi.1 (by omega)
  exact xta_ne hN u rfl
theorem DGE_s (hN : NT n r) (hC : CN n r) (hk : 0 ≤ k ∧ k < ncl (ptE r) (nl r)) (hl : 0 ≤ l ∧ l < ncl (ptE r) (nl r)) (h0 : 0 < n) (D : DGE r k l) : iPop (lay r k 0) = iPop (lay r l 0) := by
  have low : ∀ d : Nat, d < 20 → ct (fun y => dgi r k y < ((d + 1 : Nat) : Int)) (iPop (lay r k 0)).toNat = ct (fun y => dgi r l y < ((d + 1 : Nat) : Int)) (iPop (lay r l 0)).toNat := fun d => by
    induction d with
    | zero =>
      intro _
      have z : ∀ j, (0 ≤ j ∧ j < ncl (ptE r) (nl r)) → ct (fun y => dgi r j y < ((0 + 1 : Nat) : Int)) (iPop (lay r j 0)).toNat = 0 := fun j hj => ct_none _ (fun y hy w => by
        have := dgi_1 hN hC hj h0 (i := y) (by omega)
        have w' : dgi r j y < ((0 + 1 : Nat) : Int) := w
        omega)
      rw [z k hk, z l hl]
    | succ d ih =>
      intro hd
      rw [ct_lt_succ (fun v => dgi r k v) (d + 1), ct_lt_succ (fun v => dgi r l v) (d + 1), ih (by omega), D ((d + 1 : Nat) : Int) (by omega) (by omega)]
  have al : ∀ j, (0 ≤ j ∧ j < ncl (ptE r) (nl r)) → ct (fun y => dgi r j y < ((19 + 1 : Nat) : Int)) (iPop (lay r j 0)).toNat = iPop (lay r j 0) := fun j hj => by
    have l20 := iPop_le20 (S20_lay (r := r) j 0)
    rw [ct_alz _ (fun y a b => by
      have := dgi_1 hN hC hj h0 (i := y) (by omega)
      show dgi r j y < ((19 + 1 : Nat) : Int)
      omega)]
    omega
  have w := low 19 (by omega)
  rw [al k hk, al l hl] at w
  exact w
theorem prd_one {f : Int → Int} : ∀ m : Nat, (∀ i : Int, 0 ≤ i → i < m → 2 ≤ f i) → ∀ a : Int, 0 ≤ a → a < m → f a ≤ prd f m
  | 0, _, a, u, v => absurd v (by omega)
  | m + 1, h, a, u, v => by
    have g := prd_ge m (fun i x y => h i x (by omega))
    have hm := h m (by omega) (by omega)
    rw [prd_succ]
    by_cases z : a = m
    · rw [z]
      have := Int.mul_le_mul_of_nonneg_right g (show 0 ≤ f m by omega)
      omega
    · have i := prd_one m (fun i x y => h i x (by omega)) a u (by omega)
      have := Int.mul_le_mul_of_nonneg_left (show 1 ≤ f m by omega) (show 0 ≤ prd f m by omega)
      omega
theorem prd_pair {f : Int → Int} : ∀ m : Nat, (∀ i : Int, 0 ≤ i → i < m → 2 ≤ f i) → ∀ a b : Int, (0 ≤ a ∧ a < m) → (0 ≤ b ∧ b < m) → a ≠ b → f a * f b ≤ prd f m
  | 0, _, a, b, u, v, _ => absurd u (by omega)
  | m + 1, h, a, b, u, v, ne => by
    have g := prd_ge m (fun i x y => h i x (by omega))
    have hm := h m (by omega) (by omega)
    rw [prd_succ]
    by_cases z : a = m
    · have i := prd_one m (fun i x y => h i x (by omega)) b v.1 (by omega)
      have := Int.mul_le_mul_of_nonneg_right i (show 0 ≤ f m by omega)
      rw [z, Int.mul_comm (f m)]
      exact this
    · by_cases y : b = m
      · have i := prd_one m (fun i x y => h i x (by omega)) a u.1 (by omega)
        have := Int.mul_le_mul_of_nonneg_right i (show 0 ≤ f m by omega)
        rw [y]
        exact this
      · have i := prd_pair m (fun i x y => h i x (by omega)) a b (by omega) (by omega) ne
        have := Int.mul_le_mul_of_nonneg_left (show 1 ≤ f m by omega) (show 0 ≤ prd f m by omega)
        omega
theorem sz_4 (hN : NT n r) (hC : CN n r) (hk : 0 ≤ k ∧ k < ncl (ptE r) (nl r)) (hl : 0 ≤ l ∧ l < ncl (ptE r) (nl r)) (h0 : 0 < n) (ne : k ≠ l) (e : iPop (lay r k 0) = iPop (lay r l 0)) : iPop (lay r k 0) ≤ 4 := by
  have hn := hN.2.1
  have p := n_prd hN hC h0
  have w := prd_pair (f := fun i => lsz r (fun x => x = i) 0) (ncl (ptE r) (nl r)).toNat (fun i a b => sz_2 hN hC h0 i a (by omega)) k l (by omega) (by omega) ne
  rw [← p] at w
  have ek : ∀ j, lsz r (fun x => x = j) 0 = iPop (lay r j 0) := fun j => (iPop_mk _).symm
  have w' : lsz r (fun x => x = k) 0 * lsz r (fun x => x = l) 0 ≤ n := w
  rw [ek, ek, ← e] at w'
  refine Classical.byContradiction fun z => ?_
  have := Int.mul_le_mul (show (5 : Int) ≤ iPop (lay r k 0) by omega) (show (5 : Int) ≤ iPop (lay r k 0) by omega) (by omega) (by omega)
  omega
theorem DGE_A (hN : NT n r) (hC : CN n r) (hk : 0 ≤ k ∧ k < ncl (ptE r) (nl r)) (hl : 0 ≤ l ∧ l < ncl (ptE r) (nl r)) (D : DGE r k l) : ALK r k l := by
  have h0 := np_0 hN hk.1 hk.2
  by_cases z : k = l
  · rw [z]
    exact ⟨rfl, fun x => x, fun p a b => ⟨a, b⟩, fun p q _ _ => rfl⟩
  · have es := DGE_s hN hC hk hl h0 D
    have s4 := sz_4 hN hC hk hl h0 z es
    have s2 := lay_2 hN hC hk
    have sn : (((iPop (lay r k 0)).toNat : Nat) : Int) = iPop (lay r k 0) := by omega
    have sn2 : (((iPop (lay r k 0)).toNat : Nat) : Int) = iPop (lay r l 0) := by omega
    have e4 : ∀ j, iPop (lay r j 0) ≤ 4 → 2 ≤ iPop (lay r j 0) → ∀ y, 0 ≤ y → ct (xta r j y) 4 = dgi r j y := fun j a b y y0 => by
      rw [dgi_x hN h0 y0]
      exact (ct_ext (P := xta r j y) 4 16 (fun x u w => by have := w.1.2; omega)).symm
    have c4 : ∀ j, iPop (lay r j 0) ≤ 4 → 2 ≤ iPop (lay r j 0) → ∀ d : Nat, 1 ≤ d → ct (fun y => ct (xta r j y) 4 = d) 4 = ct (fun y => dgi r j y = d) (iPop (lay r j 0)).toNat := fun j a b d d1 => by
      have e := ct_ext (P := fun y => 0 ≤ y ∧ dgi r j y = d) (iPop (lay r j 0)).toNat (4 - (iPop (lay r j 0)).toNat) (fun y u w => by
        have w2 := w.2
        rw [dgi_x hN h0 (by omega), ct_none 20 (P := xta r j y) (fun q _ v => by have := v.1.1; omega)] at w2
        omega)
      rw [show (iPop (lay r j 0)).toNat + (4 - (iPop (lay r j 0)).toNat) = 4 by omega] at e
      rw [ct_congr (P := fun y => ct (xta r j y) 4 = d) (Q := fun y => 0 ≤ y ∧ dgi r j y = d) 4 (fun y _ => by rw [e4 j a b y (by omega)]; exact ⟨fun w => ⟨by omega, w⟩, fun w => w.2⟩), e]
      exact ct_congr _ (fun y _ => ⟨fun w => w.2, fun w => ⟨by omega, w⟩⟩)
    obtain ⟨f, f', h1, h2⟩ := four (X := xta r k) (Y := xta r l) (s := (iPop (lay r k 0)).toNat) (by omega) (by rw [sn]; exact xta_H hN) (by rw [sn2]; exact xta_H hN) (by rw [sn]; exact xta_C hN h0) (by rw [sn2]; exact xta_C hN h0) (fun d a b => by
      rw [c4 k s4 (by omega) d a, c4 l (by omega) (by omega) d a]
      exact D d (by omega) (by omega))
    rw [sn] at h1 h2
    refine ⟨es, f, fun p a b => (h1 p a b).1.1, fun p q hp hq => ?_⟩
    have fp := (h1 p hp.1 hp.2).1.1
    have fq := (h1 q hq.1 hq.2).1.1
    rw [lyD_ds (k := l) hN hC h0 (by rw [← es]; exact fp) (by rw [← es]; exact fq), lyD_ds hN hC h0 hp hq]
    have go : ∀ (m : Nat) (x y : Int), (0 ≤ x ∧ x < iPop (lay r k 0)) → wk (xta r k) m x y → wk (xta r l) m (f x) (f y) := fun m => by
      induction m with
      | zero => intro x y _ w; have w' : x = y := w; rw [w']; rfl
      | succ m ih =>
        rintro x y hx ⟨c, w, w2⟩
        exact ⟨f c, ih x c hx w, (h2 c y w2.1.1 w2.1.2).mp w2⟩
    have bk : ∀ (m : Nat) (x y : Int), (0 ≤ x ∧ x < iPop (lay r k 0)) → wk (xta r l) m x y → wk (xta r k) m (f' x) (f' y) := fun m => by
      induction m with
      | zero => intro x y _ w; have w' : x = y := w; rw [w']; rfl
      | succ m ih =>
        rintro x y hx ⟨c, w, w2⟩
        have rr := w2.1
        rw [← es] at rr
        have c1 := h1 c rr.1.1 rr.1.2
        have y1 := h1 y rr.2.1 rr.2.2
        exact ⟨f' c, ih x c hx w, (h2 _ _ c1.1.2 y1.1.2).mpr (by rw [c1.2.2, y1.2.2]; exact w2)⟩
    refine ds_wkc (fun m => ⟨fun w => ?_, go m p q hp⟩)
    have w2 := bk m _ _ fp w
    rw [(h1 p hp.1 hp.2).2.1, (h1 q hq.1 hq.2).2.1] at w2
    exact w2
theorem DGE_iff (hN : NT n r) (hC : CN n r) (hk : 0 ≤ k ∧ k < ncl (ptE r) (nl r)) (hl : 0 ≤ l ∧ l < ncl (ptE r) (nl r)) : DGE r k l ↔ ALK r k l := ⟨DGE_A hN hC hk hl, ALK_D hN hC (np_0 hN hk.1 hk.2)⟩
end ALIKE
