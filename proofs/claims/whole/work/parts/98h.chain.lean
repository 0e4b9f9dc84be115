/-! ===== generators, what they reach ===== -/
theorem iPop_or1 {x t : Int} (hx : S20 x) (ht : 0 ≤ t ∧ t < 20) (hn : ¬ bit x t) : iPop (iOr x (iShl 1 t)) = iPop x + 1 := by
  have s : S20 (iOr x (iShl 1 t)) := S20_or hx (S20_1 ht.1 ht.2)
  have b : bit (iOr x (iShl 1 t)) t := bt_or.mpr (Or.inr ((bt_1 ht.1 (by omega)).mpr rfl))
  have w := iPop_less s b
  have e : iAnd (iOr x (iShl 1 t)) (iXor (iShl 1 t) (-1)) = x := bt_ext (rg_and _ _) (by have := hx.1; have := hx.2; unfold R32; omega) (fun k _ _ => by
    rw [bt_less (by omega), bt_or, bt_1 ht.1 (by omega)]
    exact ⟨fun z => z.1.elim id (fun y => absurd y z.2), fun z => ⟨Or.inl z, fun y => hn (y ▸ z)⟩⟩)
  rw [e] at w
  omega
theorem iPop_z {x : Int} (hx : S20 x) (h : iPop x ≤ 0) : x = 0 := Classical.byContradiction fun z => by
  have := iPop_less hx (S20_low hx z).1
  have : 0 ≤ iPop (iAnd x (iXor (iShl 1 (iLow x)) (-1))) := (ct_le _ 32).1
  omega
def BFi (E : Int → Int → Prop) (st : Int → Prop) (a op i : Int) : Prop := (S20 a ∧ S20 op) ∧ (∀ x, st x → bit a x) ∧ (∀ x, bit op x → bit a x) ∧ (∀ y, bit a y → ∃ x, st x ∧ rc E x y) ∧ (∀ x, bit a x → ¬ bit op x → ∀ y, E x y → bit a y) ∧ iPop a = iPop op + i
def BFj (E : Int → Int → Prop) (st : Int → Prop) (a op i f : Int) (G : Int → Prop) : Prop := (S20 a ∧ S20 op) ∧ (∀ x, st x → bit a x) ∧ (∀ x, bit op x → bit a x) ∧ (∀ y, bit a y → ∃ x, st x ∧ rc E x y) ∧ (∀ x, bit a x → ¬ bit op x → x ≠ f → ∀ y, E x y → bit a y) ∧ iPop a = iPop op + (i + 1) ∧ (bit a f ∧ ¬ bit op f) ∧ ∀ y, G y → bit a y
section BF
variable {E : Int → Int → Prop} {st G G' : Int → Prop} {a op i f t : Int}
theorem BF_end (B : BFi E st a op i) (h : 20 ≤ i ∨ op = 0) : a = mkb (fun y => ∃ x, st x ∧ rc E x y) := by
  obtain ⟨⟨sa, so⟩, h1, h2, h3, h4, h5⟩ := B
  have z : op = 0 := by
    rcases h with h | h
    · have := (iPop_le20 sa).2
      exact iPop_z so (by omega)
    · exact h
  refine mkb_eq (by have := sa.1; have := sa.2; unfold R32; omega) (fun y => ⟨fun w => ⟨S20_in sa w, h3 y w⟩, fun w => ?_⟩)
  obtain ⟨x, hx, hr⟩ := w.2
  exact rc_in (P := fun v => bit a v) (fun u v hu e => h4 u hu (by rw [z]; exact bt_zero) v e) (h1 x hx) hr
theorem BF_pop (B : BFi E st a op i) (h : ¬ op = 0) : BFj E st a (iAnd op (op - 1)) i (iLow op) (fun _ => False) := by
  obtain ⟨⟨sa, so⟩, h1, h2, h3, h4, h5⟩ := B
  have p := S20_pos so h
  have lw := S20_low so h
  have bc : ∀ k, bit (iAnd op (op - 1)) k ↔ bit op k ∧ k ≠ iLow op := fun k => bt_clr p.1 p.2
  have eo : iAnd op (op - 1) = iAnd op (iXor (iShl 1 (iLow op)) (-1)) := bt_ext (rg_and _ _) (rg_and _ _) (fun k _ _ => by rw [bc, bt_less (by omega)])
  have pl := iPop_less so lw.1
  rw [← eo] at pl
  refine ⟨⟨sa, S20_and so⟩, h1, fun x z => h2 x ((bc x).mp z).1, h3, fun x z w ne y e => h4 x z (fun v => w ((bc x).mpr ⟨v, ne⟩)) y e, by omega, ⟨h2 _ lw.1, fun z => ((bc _).mp z).2 rfl⟩, fun y z => z.elim⟩
theorem BF_add (B : BFj E st a op i f G) (ht : 0 ≤ t ∧ t < 20) (hn : ¬ bit a t) (he : E f t) (hG : ∀ y, G' y → G y ∨ y = t) : BFj E st (iOr a (iShl 1 t)) (iOr op (iShl 1 t)) i f G' := by
  obtain ⟨⟨sa, so⟩, h1, h2, h3, h4, h5, h6, h7⟩ := B
  have b1 : ∀ x k, bit (iOr x (iShl 1 t)) k ↔ bit x k ∨ k = t := fun x k => by rw [bt_or, bt_1 ht.1 (by omega)]
  have no : ¬ bit op t := fun z => hn (h2 t z)
  have tf : f ≠ t := fun z => hn (z ▸ h6.1)
  refine ⟨⟨S20_or sa (S20_1 ht.1 ht.2), S20_or so (S20_1 ht.1 ht.2)⟩, fun x z => (b1 _ _).mpr (Or.inl (h1 x z)), fun x z => (b1 _ _).mpr (((b1 _ _).mp z).imp (h2 x) id), fun y z => ?_, fun x z w ne y e => ?_, by rw [iPop_or1 sa ht hn, iPop_or1 so ht no]; omega, ⟨(b1 _ _).mpr (Or.inl h6.1), fun z => ((b1 _ _).mp z).elim h6.2 tf⟩, fun y z => (b1 _ _).mpr ((hG y z).imp (h7 y) id)⟩
  · rcases (b1 _ _).mp z with z | z
    · exact h3 y z
    · obtain ⟨x, hx, hr⟩ := h3 f h6.1
      exact ⟨x, hx, by rw [z]; exact rc_step hr he⟩
  · have w2 : ¬ bit op x ∧ x ≠ t := ⟨fun v => w ((b1 _ _).mpr (Or.inl v)), fun v => w ((b1 _ _).mpr (Or.inr v))⟩
    have z2 : bit a x := ((b1 _ _).mp z).elim id (fun v => absurd v w2.2)
    exact (b1 _ _).mpr (Or.inl (h4 x z2 w2.1 ne y e))
theorem BF_have (B : BFj E st a op i f G) (hG : ∀ y, G' y → G y ∨ bit a y) : BFj E st a op i f G' := ⟨B.1, B.2.1, B.2.2.1, B.2.2.2.1, B.2.2.2.2.1, B.2.2.2.2.2.1, B.2.2.2.2.2.2.1, fun y z => (hG y z).elim (B.2.2.2.2.2.2.2 y) id⟩
theorem BF_next (B : BFj E st a op i f G) (hG : ∀ y, E f y → G y) : BFi E st a op (i + 1) := ⟨B.1, B.2.1, B.2.2.1, B.2.2.2.1, fun x z w y e => by
  by_cases c : x = f
  · exact B.2.2.2.2.2.2.2 y (hG y (c ▸ e))
  · exact B.2.2.2.2.1 x z w c y e, B.2.2.2.2.2.1⟩
end BF
def HO0 (o : Int) : Prop := (o = 196 ∧ am_sv o = 5) ∨ (o = 333 ∧ am_sv o = 79)
theorem HO0_8 {o : Int} (h : HO0 o) : HO8 (o + 111) ∧ am_sv (o + 111) = am_sv o := by
  unfold HO0 at h
  unfold HO8
  rcases h with ⟨a, b⟩ | ⟨a, b⟩
  · rw [a]; exact ⟨Or.inl ⟨by omega, by decide⟩, by decide⟩
  · rw [a]; exact ⟨Or.inr ⟨by omega, by decide⟩, by decide⟩
def GOK (h : am_H) (o k : Int) : Prop := (0 ≤ h o 4 ∧ h o 4 ≤ 64) ∧ ∀ i, 0 ≤ i → i < h o 4 → AU (h (am_sv o + 1) 0) (svD h (am_sv o)) (h (o + 2 + i)) ∧ ∀ j, 0 ≤ j → j < k → h (o + 2 + i) j = j
def GE (h : am_H) (o x y : Int) : Prop := ∃ i, (0 ≤ i ∧ i < h o 4) ∧ h (o + 2 + i) x = y
theorem GOK_le {h : am_H} {o k k' : Int} (G : GOK h o k) (l : k' ≤ k) : GOK h o k' := ⟨G.1, fun i a b => ⟨(G.2 i a b).1, fun j c d => (G.2 i a b).2 j c (by omega)⟩⟩
theorem GE_in {h : am_H} {o k x y : Int} (G : GOK h o k) (hx : 0 ≤ x ∧ x < h (am_sv o + 1) 0) (e : GE h o x y) : 0 ≤ y ∧ y < h (am_sv o + 1) 0 := by
  obtain ⟨i, hi, w⟩ := e
  rw [← w]
  exact (G.2 i hi.1 hi.2).1.1 x hx.1 hx.2
theorem GE_rc {h : am_H} {o k x y : Int} (G : GOK h o k) (hx : 0 ≤ x ∧ x < h (am_sv o + 1) 0) (e : rc (GE h o) x y) : 0 ≤ y ∧ y < h (am_sv o + 1) 0 := rc_in (P := fun z => 0 ≤ z ∧ z < h (am_sv o + 1) 0) (fun u v hu w => GE_in G hu w) hx e
/-- what is reached is reached by one symmetry -/
theorem GE_u {h : am_H} {o k x y : Int} (G : GOK h o k) (hk : 0 ≤ k ∧ k ≤ h (am_sv o + 1) 0) (e : rc (GE h o) x y) : ∃ u, AU (h (am_sv o + 1) 0) (svD h (am_sv o)) u ∧ (∀ j, 0 ≤ j → j < k → u j = j) ∧ u x = y := by
  refine rc_in (P := fun z => ∃ u, AU (h (am_sv o + 1) 0) (svD h (am_sv o)) u ∧ (∀ j, 0 ≤ j → j < k → u j = j) ∧ u x = z) (fun a b ha ab => ?_) ⟨fun z => z, AU_id _ _, fun _ _ _ => rfl, rfl⟩ e
  obtain ⟨u, U, f, w⟩ := ha
  obtain ⟨i, hi, v⟩ := ab
  have g := G.2 i hi.1 hi.2
  exact ⟨fun z => h (o + 2 + i) (u z), AU_comp g.1 U, fun j a b => by show h (o + 2 + i) (u j) = j; rw [f j a b]; exact g.2 j a b, by show h (o + 2 + i) (u x) = b; rw [w]; exact v⟩
/-- a symmetry comes back to where it began -/
theorem it_back {s : Int} {D : Int → Int → Int} (M : DM s D) {f : Int → Int} (F : AU s D f) {E : Int → Int → Prop} (hE : ∀ x, 0 ≤ x → x < s → E x (f x)) {x : Int} (hx : 0 ≤ x ∧ x < s) : rc E (f x) x := by
  have itr : ∀ m : Nat, 0 ≤ Nat.rec (motive := fun _ => Int) x (fun _ v => f v) m ∧ Nat.rec (motive := fun _ => Int) x (fun _ v => f v) m < s := fun m => by
    induction m with
    | zero => exact hx
    | succ m ih => exact F.1 _ ih.1 ih.2
  have rcs : ∀ m k : Nat, rc E (Nat.rec (motive := fun _ => Int) x (fun _ v => f v) m) (Nat.rec (motive := fun _ => Int) x (fun _ v => f v) (m + k)) := fun m k => by
    induction k with
    | zero => exact rc_refl
    | succ k ih => exact rc_step ih (hE _ (itr _).1 (itr _).2)
  have key : ∃ k : Nat, 1 ≤ k ∧ Nat.rec (motive := fun _ => Int) x (fun _ v => f v) k = x := Classical.byContradiction fun no => by
    have ne : ∀ k : Nat, 1 ≤ k → Nat.rec (motive := fun _ => Int) x (fun _ v => f v) k ≠ x := fun k a z => no ⟨k, a, z⟩
    have inj : ∀ i k : Nat, Nat.rec (motive := fun _ => Int) x (fun _ v => f v) i = Nat.rec (motive := fun _ => Int) x (fun _ v => f v) (i + k) → k = 0 := fun i => by
      induction i with
      | zero =>
        intro k e
        refine Classical.byContradiction fun z => ne k (by omega) ?_
        rw [Nat.zero_add] at e
        exact e.symm
      | succ i ih =>
        intro k e
        have e2 : f (Nat.rec (motive := fun _ => Int) x (fun _ v => f v) i) = f (Nat.rec (motive := fun _ => Int) x (fun _ v => f v) (i + k)) := by
          have e3 : Nat.rec (motive := fun _ => Int) x (fun _ v => f v) (i + 1 + k) = f (Nat.rec (motive := fun _ => Int) x (fun _ v => f v) (i + k)) := by
            rw [show i + 1 + k = (i + k) + 1 by omega]
          exact e.trans e3
        exact ih k (AU_inj M F (itr i) (itr (i + k)) e2)
    have p := pig s.toNat (s.toNat + 1) (fun i => Nat.rec (motive := fun _ => Int) x (fun _ v => f v) i) (fun i _ => by have := itr i; omega) (fun i j _ _ e => by
      by_cases c : i ≤ j
      · have := inj i (j - i) (by rw [show i + (j - i) = j by omega]; exact e)
        omega
      · have := inj j (i - j) (by rw [show j + (i - j) = i by omega]; exact e.symm)
        omega)
    omega
  obtain ⟨k, k1, e⟩ := key
  have w := rcs 1 (k - 1)
  rw [show 1 + (k - 1) = k by omega, e] at w
  exact w
theorem GE_sym {h : am_H} {o k x y : Int} (M : DM (h (am_sv o + 1) 0) (svD h (am_sv o))) (G : GOK h o k) (hx : 0 ≤ x ∧ x < h (am_sv o + 1) 0) (e : rc (GE h o) x y) : rc (GE h o) y x := by
  refine (rc_in (P := fun z => (0 ≤ z ∧ z < h (am_sv o + 1) 0) ∧ rc (GE h o) z x) (fun a b ha ab => ?_) ⟨hx, rc_refl⟩ e).2
  refine ⟨GE_in G ha.1 ab, ?_⟩
  obtain ⟨i, hi, v⟩ := ab
  have w := it_back M (G.2 i hi.1 hi.2).1 (E := GE h o) (fun z _ _ => ⟨i, hi, rfl⟩) ha.1
  rw [v] at w
  exact rc_trans w ha.2
/-! 6 FactorNets$Chain.closure -/
def C6 : am_K := fun as h K => am_a2 as (fun v0 v1 => am_o 0 v0 (fun o => am_n v1 (fun st => (HO0 o ∧ SVM h (am_sv o) ∧ GOK h o 0 ∧ (S20 st ∧ ∀ y9, bit st y9 → y9 < (h (am_sv o + 1) 0))) ∧ (K (some (mB (mkb (fun y9 => ∃ x9, bit st x9 ∧ rc (GE h o) x9 y9)))) h))))
theorem W6 {d : Nat} (H : ∀ (o : Int) (st : Int) (h : am_H) (K : Option am_V → am_H → Prop), (HO0 o ∧ SVM h (am_sv o) ∧ GOK h o 0 ∧ (S20 st ∧ ∀ y9, bit st y9 → y9 < (h (am_sv o + 1) 0))) ∧ (K (some (mB (mkb (fun y9 => ∃ x9, bit st x9 ∧ rc (GE h o) x9 y9)))) h) → am_AT d 6 0 [some (mR 1 0 0 o), some (mB st), none, none, none, none, none, none] h K) : am_CS d 6 C6 := by
  refine am_CS_of (T := tb6) (mL := 8) (rk := 1) rfl (fun as h K hC => ?_)
  obtain ⟨v0, v1, rfl, hC0⟩ := am_a2_e hC
  obtain ⟨o, rfl, hC1⟩ := am_o_e hC0
  obtain ⟨st, rfl, hC2⟩ := am_n_e hC1
  refine ⟨Nat.le_of_ble_eq_true rfl, ?_⟩
  exact H o st h K hC2
theorem T6_0 {R : Option am_V → am_H → Prop} {h : am_H} {o : Int} {st : Int} (t : am_AT 3 6 7 [some (mR 1 0 0 o), none, some (mI st), some (mI st), some (mI 0), none, none, none] h R) : am_AT 3 6 0 [some (mR 1 0 0 o), some (mB st), none, none, none, none, none, none] h R :=
  am_T (d := 2) (m := 6) (T := tb6) (mL := 8) (rk := 1) (cuts := [(7, [1, 0, 2, 2, 2, 0, 0, 0]), (33, [1, 0, 2, 2, 2, 2, 2, 0])]) (l := [(177, C177)]) rfl ⟨am_CS_d (by decide) C177_ok, trivial⟩ 10 (t)
theorem T6_7 {R : Option am_V → am_H → Prop} {h : am_H} {o : Int} {x2 : Int} {x3 : Int} {x4 : Int} (t : (R32 x4) ∧ (((20 ≤ x4) → ((R32 x2) ∧ (R (some (mB x2)) h))) ∧ ((x4 < 20) → ((R32 x3) ∧ (((x3 = 0) → ((R32 x2) ∧ (R (some (mB x2)) h))) ∧ ((¬ x3 = 0) → ((R32 x3) ∧ ((0 < x3 ∧ x3 < 2147483648) ∧ (am_AT 3 6 33 [some (mR 1 0 0 o), none, some (mI x2), some (mI (iAnd x3 (x3 - 1))), some (mI x4), some (mI (iLow x3)), some (mI 0), none] h R))))))))) : am_AT 3 6 7 [some (mR 1 0 0 o), none, some (mI x2), some (mI x3), some (mI x4), none, none, none] h R :=
  am_T (d := 2) (m := 6) (T := tb6) (mL := 8) (rk := 1) (cuts := [(7, [1, 0, 2, 2, 2, 0, 0, 0]), (33, [1, 0, 2, 2, 2, 2, 2, 0])]) (l := [(177, C177)]) rfl ⟨am_CS_d (by decide) C177_ok, trivial⟩ 20 (And.intro (t).1 (And.intro (fun c1 => And.intro (((t).2).1 c1).1 ((((t).2).1 c1).2)) (fun c1 => And.intro (((t).2).2 c1).1 (And.intro (fun c2 => And.intro (((((t).2).2 c1).2).1 c2).1 ((((((t).2).2 c1).2).1 c2).2)) (fun c2 => And.intro (((((t).2).2 c1).2).2 c2).1 (And.intro ((((((t).2).2 c1).2).2 c2).2).1 (((((((t).2).2 c1).2).2 c2).2).2)))))))
theorem T6_33 {R : Option am_V → am_H → Prop} {h : am_H} {o : Int} {x2 : Int} {x3 : Int} {x4 : Int} {x5 : Int} {x6 : Int} (t : (R32 x6) ∧ (((h o 4 ≤ x6) → (am_AT 3 6 7 [some (mR 1 0 0 o), none, some (mI x2), some (mI x3), some (mI (x4 + 1)), none, none, none] h R)) ∧ ((x6 < h o 4) → ((0 ≤ x6 ∧ x6 < 64) ∧ ((0 ≤ x5 ∧ x5 < 20) ∧ (((¬ iAnd x2 (iShl 1 (h (((o + 1) + 1) + x6) x5)) = 0) → (am_AT 3 6 33 [some (mR 1 0 0 o), none, some (mI x2), some (mI x3), some (mI x4), some (mI x5), some (mI (x6 + 1)), none] h R)) ∧ ((iAnd x2 (iShl 1 (h (((o + 1) + 1) + x6) x5)) = 0) → (am_AT 3 6 33 [some (mR 1 0 0 o), none, some (mI (iOr x2 (iShl 1 (h (((o + 1) + 1) + x6) x5)))), some (mI (iOr x3 (iShl 1 (h (((o + 1) + 1) + x6) x5)))), some (mI x4), some (mI x5), some (mI (x6 + 1)), none] h R)))))))) : am_AT 3 6 33 [some (mR 1 0 0 o), none, some (mI x2), some (mI x3), some (mI x4), some (mI x5), some (mI x6), none] h R :=
  am_T (d := 2) (m := 6) (T := tb6) (mL := 8) (rk := 1) (cuts := [(7, [1, 0, 2, 2, 2, 0, 0, 0]), (33, [1, 0, 2, 2, 2, 2, 2, 0])]) (l := [(177, C177)]) rfl ⟨am_CS_d (by decide) C177_ok, trivial⟩ 31 (And.intro (t).1 (And.intro (fun c3 => ((t).2).1 c3) (fun c3 => And.intro (((t).2).2 c3).1 (And.intro ((((t).2).2 c3).2).1 (And.intro (fun c4 => (((((t).2).2 c3).2).2).1 c4) (fun c4 => (((((t).2).2 c3).2).2).2 c4))))))
theorem L6b {K : Option am_V → am_H → Prop} {h : am_H} {o st : Int} (ho : HO0 o) (G : GOK h o 0) (hn : h (am_sv o + 1) 0 ≤ 20) (hs : ∀ y9, bit st y9 → y9 < h (am_sv o + 1) 0) (hK : K (some (mB (mkb (fun y9 => ∃ x9, bit st x9 ∧ rc (GE h o) x9 y9)))) h) {i f : Int} (nx : ∀ a op, BFi (GE h o) (bit st) a op (i + 1) → am_AT 3 6 7 [some (mR 1 0 0 o), none, some (mI a), some (mI op), some (mI (i + 1)), none, none, none] h K) (hf : 0 ≤ f ∧ f < h (am_sv o + 1) 0) : ∀ g, ∀ a op, 0 ≤ g → g ≤ h o 4 → BFj (GE h o) (bit st) a op i f (fun y9 => ∃ i9, (0 ≤ i9 ∧ i9 < g) ∧ h (o + 2 + i9) f = y9) → am_AT 3 6 33 [some (mR 1 0 0 o), none, some (mI a), some (mI op), some (mI i), some (mI f), some (mI g), none] h K := by
  refine lp (h o 4) (fun g ih a op g0 g1 B => ?_)
  have ea : o + 1 + 1 + g = o + 2 + g := by omega
  have g64 := G.1
  have tr : g < h o 4 → 0 ≤ h (o + 2 + g) f ∧ h (o + 2 + g) f < h (am_sv o + 1) 0 := fun z => (G.2 g g0 z).1.1 f hf.1 hf.2
  have sp : ∀ y, (fun y9 => ∃ i9, (0 ≤ i9 ∧ i9 < (g + 1)) ∧ h (o + 2 + i9) f = y9) y → (fun y9 => ∃ i9, (0 ≤ i9 ∧ i9 < g) ∧ h (o + 2 + i9) f = y9) y ∨ y = h (o + 2 + g) f := fun y w => by
    obtain ⟨i9, hi, e⟩ := w
    by_cases z : i9 = g
    · right; rw [← e, z]
    · left; exact ⟨i9, by omega, e⟩
  have bb : g < h o 4 → (iAnd a (iShl 1 (h (o + 2 + g) f)) = 0 ↔ ¬ bit a (h (o + 2 + g) f)) := fun z => by
    have t := tr z
    rw [S20_z (S20_and B.1.1)]
    constructor
    · intro w v
      exact w (h (o + 2 + g) f) (bt_and.mpr ⟨v, (bt_1 t.1 (by omega)).mpr rfl⟩)
    · intro w k v
      have v1 := bt_and.mp v
      rw [bt_1 t.1 (by omega)] at v1
      exact w (v1.2 ▸ v1.1)
  refine T6_33 ⟨by omega, ⟨fun c1 => ?_, fun c1 => ⟨by omega, ⟨by omega, ⟨fun c2 => ?_, fun c2 => ?_⟩⟩⟩⟩⟩
  · exact nx a op (BF_next B (fun y w => by
      obtain ⟨i9, hi, e⟩ := w
      exact ⟨i9, by omega, e⟩))
  · rw [ea, bb c1] at c2
    exact ih c1 a op (by omega) (by omega) (BF_have B (fun y w => (sp y w).imp id (fun z => by rw [z]; exact Classical.not_not.mp c2)))
  · rw [ea] at c2 ⊢
    have t := tr c1
    exact ih c1 _ _ (by omega) (by omega) (BF_add B ⟨t.1, by omega⟩ ((bb c1).mp c2) ⟨g, ⟨g0, c1⟩, rfl⟩ sp)
theorem L6 {K : Option am_V → am_H → Prop} {h : am_H} {o st : Int} (ho : HO0 o) (G : GOK h o 0) (hn : h (am_sv o + 1) 0 ≤ 20) (hs : ∀ y9, bit st y9 → y9 < h (am_sv o + 1) 0) (hK : K (some (mB (mkb (fun y9 => ∃ x9, bit st x9 ∧ rc (GE h o) x9 y9)))) h) : ∀ i, ∀ a op, 0 ≤ i → i ≤ 20 → BFi (GE h o) (bit st) a op i → am_AT 3 6 7 [some (mR 1 0 0 o), none, some (mI a), some (mI op), some (mI i), none, none, none] h K := by
  refine lp 20 (fun i ih a op i0 i1 B => ?_)
  have sa := B.1.1.1
  have sa2 := B.1.1.2
  have so := B.1.2.1
  have so2 := B.1.2.2
  refine T6_7 ⟨by omega, ⟨fun c1 => ⟨by omega, ?_⟩, fun c1 => ⟨by omega, ⟨fun c2 => ⟨by omega, ?_⟩, fun c2 => ⟨by omega, ⟨S20_pos B.1.2 c2, ?_⟩⟩⟩⟩⟩⟩
  · rw [BF_end B (Or.inl c1)]
    exact hK
  · rw [BF_end B (Or.inr c2)]
    exact hK
  · have lw := S20_low B.1.2 c2
    obtain ⟨x, hx, hr⟩ := B.2.2.2.1 _ (B.2.2.1 _ lw.1)
    have rf := GE_rc G ⟨hx.1, hs x hx⟩ hr
    exact L6b ho G hn hs hK (fun a' op' B' => ih c1 a' op' (by omega) (by omega) B') rf 0 a _ (by omega) G.1.1 (BF_have (BF_pop B c2) (fun y w => by
      obtain ⟨i9, hi, e⟩ := w
      omega))
theorem C6_ok : am_CS 3 6 C6 := W6 (fun o st h K hb => by
  obtain ⟨⟨ho, SS, G, ss, hs⟩, hK⟩ := hb
  by_cases z : st = 0
  · refine T6_0 (T6_7 ⟨by omega, fun _ => by omega, fun _ => ⟨by omega, fun _ => ⟨by omega, ?_⟩, fun w => absurd z w⟩⟩)
    refine am_rB hK ?_
    rw [z]
    exact (mkb_eq (by omega) (fun j => ⟨fun w => absurd w bt_zero, fun w => by
      obtain ⟨x, hx, _⟩ := w.2
      exact absurd hx bt_zero⟩)).symm
  · have lw := S20_low ss z
    have hn : h (am_sv o + 1) 0 ≤ 20 := SS.1.2.1
    exact T6_0 (L6 ho G hn hs hK 0 st st (by omega) (by omega) ⟨⟨ss, ss⟩, fun _ w => w, fun _ w => w, fun y w => ⟨y, w, rc_refl⟩, fun x a b => absurd a b, by omega⟩))
/-! 4 FactorNets$Chain.addGenerator -/
def C4 : am_K := fun as h K => am_a1 as (fun v0 => am_o 0 v0 (fun o => (0 ≤ h o 4 ∧ h o 4 < 64) ∧ (K (none) (am_up (am_cp h (o + 112) 0 (o + 2 + h o 4) 0 20) o 4 (h o 4 + 1)))))
theorem W4 {d : Nat} (H : ∀ (o : Int) (h : am_H) (K : Option am_V → am_H → Prop), (0 ≤ h o 4 ∧ h o 4 < 64) ∧ (K (none) (am_up (am_cp h (o + 112) 0 (o + 2 + h o 4) 0 20) o 4 (h o 4 + 1))) → am_AT d 4 0 [some (mR 1 0 0 o)] h K) : am_CS d 4 C4 := by
  refine am_CS_of (T := tb4) (mL := 1) (rk := 0) rfl (fun as h K hC => ?_)
  obtain ⟨v0, rfl, hC0⟩ := am_a1_e hC
  obtain ⟨o, rfl, hC1⟩ := am_o_e hC0
  refine ⟨Nat.le_of_ble_eq_true rfl, ?_⟩
  exact H o h K hC1
theorem T4_0 {R : Option am_V → am_H → Prop} {h : am_H} {o : Int} (t : ((64 ≤ h o 4) → (R none h)) ∧ ((h o 4 < 64) → ((0 ≤ h o 4 ∧ h o 4 < 64) ∧ ((R32 (((am_cp h ((o + 111) + 1) 0 (((o + 1) + 1) + (h o 4)) 0 20) o 4) + 1)) ∧ (R none (am_up (am_cp h ((o + 111) + 1) 0 (((o + 1) + 1) + (h o 4)) 0 20) o 4 (((am_cp h ((o + 111) + 1) 0 (((o + 1) + 1) + (h o 4)) 0 20) o 4) + 1))))))) : am_AT 1 4 0 [some (mR 1 0 0 o)] h R :=
  am_T (d := 0) (m := 4) (T := tb4) (mL := 1) (rk := 0) (cuts := []) (l := []) rfl trivial 27 (And.intro (fun c5 => (t).1 c5) (fun c5 => And.intro ((t).2 c5).1 (And.intro (⟨by decide, by decide, by decide, by decide, by decide⟩) (And.intro (((t).2 c5).2).1 ((((t).2 c5).2).2)))))
theorem C4_ok : am_CS 1 4 C4 := W4 (fun o h K hb => by
  have e1 : o + 111 + 1 = o + 112 := by omega
  have e2 : o + 1 + 1 + h o 4 = o + 2 + h o 4 := by omega
  have e3 : am_cp h (o + 112) 0 (o + 2 + h o 4) 0 20 o 4 = h o 4 := am_cp_n (by omega)
  refine T4_0 ⟨fun c1 => ?_, fun c1 => ⟨by omega, ⟨by rw [e1, e2, e3]; omega, ?_⟩⟩⟩
  · exfalso; omega
  · rw [e1, e2, e3]
    exact hb.2)
