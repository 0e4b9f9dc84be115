/-! ===== sorting lines ===== -/
/-- the map gets coarser, by A -/
def Co (m : Int) (f f' : Int → Int) (A : Int → Int → Prop) : Prop :=
  (∀ x y, (0 ≤ x ∧ x < m) → (0 ≤ y ∧ y < m) → f x = f y → f' x = f' y) ∧
  (∀ x y, (0 ≤ x ∧ x < m) → (0 ≤ y ∧ y < m) → A x y → f' x = f' y) ∧
  (∀ F : Int → Int → Prop, (∀ x y, F x y → F y x) → (∀ x y, (0 ≤ x ∧ x < m) → (0 ≤ y ∧ y < m) → A x y → F x y) → (∀ x y, (0 ≤ x ∧ x < m) → (0 ≤ y ∧ y < m) → f x = f y → rc F x y) → ∀ x y, (0 ≤ x ∧ x < m) → (0 ≤ y ∧ y < m) → f' x = f' y → rc F x y)
def VF (m : Int) (f : Int → Int) : Prop := ∀ k, 0 ≤ k → k < m → (0 ≤ f k ∧ f k ≤ k) ∧ f (f k) = f k
section CO
variable {m : Int} {f f' f'' : Int → Int} {A B C : Int → Int → Prop}
theorem Co_same (e : ∀ k, 0 ≤ k → k < m → f' k = f k) (h : ∀ x y, (0 ≤ x ∧ x < m) → (0 ≤ y ∧ y < m) → A x y → f x = f y) : Co m f f' A := by
  refine ⟨fun x y hx hy q => ?_, fun x y hx hy q => ?_, fun F _ _ hF x y hx hy q => ?_⟩
  · rw [e x hx.1 hx.2, e y hy.1 hy.2]; exact q
  · rw [e x hx.1 hx.2, e y hy.1 hy.2]; exact h x y hx hy q
  · rw [e x hx.1 hx.2, e y hy.1 hy.2] at q; exact hF x y hx hy q
theorem Co_trans (h1 : Co m f f' A) (h2 : Co m f' f'' B) (hC : ∀ x y, (0 ≤ x ∧ x < m) → (0 ≤ y ∧ y < m) → (C x y ↔ A x y ∨ B x y)) : Co m f f'' C := by
  refine ⟨fun x y hx hy q => h2.1 x y hx hy (h1.1 x y hx hy q), fun x y hx hy q => ?_, fun F hs hF hf => ?_⟩
  · rcases (hC x y hx hy).mp q with q | q
    · exact h2.1 x y hx hy (h1.2.1 x y hx hy q)
    · exact h2.2.1 x y hx hy q
  · exact h2.2.2 F hs (fun x y hx hy q => hF x y hx hy ((hC x y hx hy).mpr (Or.inr q))) (h1.2.2 F hs (fun x y hx hy q => hF x y hx hy ((hC x y hx hy).mpr (Or.inl q))) hf)
theorem Co_iff (h1 : Co m f f' A) (hC : ∀ x y, (0 ≤ x ∧ x < m) → (0 ≤ y ∧ y < m) → (C x y ↔ A x y)) : Co m f f' C := Co_trans (B := fun _ _ => False) h1 (Co_same (fun _ _ _ => rfl) (fun x y _ _ q => False.elim q)) (fun x y hx hy => by rw [hC x y hx hy]; exact ⟨Or.inl, fun q => q.elim id False.elim⟩)
theorem Co_cong {g : Int → Int} (h1 : Co m f f' A) (e : ∀ k, 0 ≤ k → k < m → g k = f' k) : Co m f g A := Co_trans (B := fun _ _ => False) h1 (Co_same e (fun x y _ _ q => False.elim q)) (fun x y hx hy => ⟨Or.inl, fun q => q.elim id False.elim⟩)
theorem Co_mrg {a b : Int} (ha : 0 ≤ a ∧ a < m) (hb : 0 ≤ b ∧ b < m) (e : ∀ k, 0 ≤ k → k < m → f' k = mrg f a b k) : Co m f f' (fun x y => x = a ∧ y = b) := by
  refine ⟨fun x y hx hy q => ?_, fun x y hx hy q => ?_, fun F hs hF hf x y hx hy q => ?_⟩
  · rw [e x hx.1 hx.2, e y hy.1 hy.2]
    unfold mrg
    rw [q]
  · rw [e x hx.1 hx.2, e y hy.1 hy.2, q.1, q.2]
    unfold mrg
    by_cases c1 : f a = max (f a) (f b)
    · rw [if_pos c1]
      by_cases c2 : f b = max (f a) (f b)
      · rw [if_pos c2]
      · rw [if_neg c2]; omega
    · rw [if_neg c1, if_pos (by omega)]; omega
  · rw [e x hx.1 hx.2, e y hy.1 hy.2] at q
    unfold mrg at q
    have hab := hF a b ha hb ⟨rfl, rfl⟩
    have r1 : f x = f a → f y = f b → rc F x y := fun q1 q2 => rc_trans (rc_step (hf x a hx ha q1) hab) (hf b y hb hy q2.symm)
    have r2 : f x = f b → f y = f a → rc F x y := fun q1 q2 => rc_trans (rc_step (hf x b hx hb q1) (hs _ _ hab)) (hf a y ha hy q2.symm)
    by_cases c1 : f x = max (f a) (f b)
    · rw [if_pos c1] at q
      by_cases c2 : f y = max (f a) (f b)
      · exact hf x y hx hy (by omega)
      · rw [if_neg c2] at q
        by_cases c3 : f a < f b
        · exact r2 (by omega) (by omega)
        · exact r1 (by omega) (by omega)
    · rw [if_neg c1] at q
      by_cases c2 : f y = max (f a) (f b)
      · rw [if_pos c2] at q
        by_cases c3 : f a < f b
        · exact r1 (by omega) (by omega)
        · exact r2 (by omega) (by omega)
      · rw [if_neg c2] at q
        exact hf x y hx hy q
theorem Co_fin {E : Int → Int → Prop} (h1 : Co m f f' A) (h0 : ∀ k, 0 ≤ k → k < m → f k = k) (hs : ∀ x y, E x y → E y x) (hr : ∀ x y, E x y → (0 ≤ x ∧ x < m) ∧ (0 ≤ y ∧ y < m)) (hA : ∀ x y, (0 ≤ x ∧ x < m) → (0 ≤ y ∧ y < m) → A x y → E x y) (hE : ∀ x y, E x y → A x y ∨ A y x ∨ x = y) : ∀ x y, (0 ≤ x ∧ x < m) → (0 ≤ y ∧ y < m) → (f' x = f' y ↔ rc E x y) := by
  intro x y hx hy
  constructor
  · refine h1.2.2 E hs hA (fun x y hx hy q => ?_) x y hx hy
    rw [h0 x hx.1 hx.2, h0 y hy.1 hy.2] at q
    rw [q]
    exact rc_refl
  · intro q
    exact (rc_in (P := fun z => (0 ≤ z ∧ z < m) ∧ f' x = f' z) (fun a b ha hab => by
      obtain ⟨ra, rb⟩ := hr a b hab
      refine ⟨rb, ha.2.trans ?_⟩
      rcases hE a b hab with z | z | z
      · exact h1.2.1 a b ra rb z
      · exact (h1.2.1 b a rb ra z).symm
      · rw [z]) ⟨hx, rfl⟩ q).2
end CO
theorem ct_two {P : Int → Prop} {n : Nat} {a b : Int} (h0 : 0 ≤ a ∧ a < n) (h1 : 0 ≤ b ∧ b < n) (hn : a ≠ b) (ha : P a) (hb : P b) : 2 ≤ ct P n := by
  have e1 : ct (fun j => j = a) n = ct (fun _ => False) n + 1 := ct_add n h0.1 h0.2 id (fun j => ⟨Or.inr, fun z => z.elim False.elim id⟩)
  have e2 : ct (fun j => j = a ∨ j = b) n = ct (fun j => j = a) n + 1 := ct_add n h1.1 h1.2 (fun z => hn z.symm) (fun j => Iff.rfl)
  have e3 := ct_none n (P := fun _ => False) (fun _ _ => id)
  have e4 := ct_mono (P := fun j => j = a ∨ j = b) (Q := P) n (fun j _ hj => hj.elim (fun z => by rw [z]; exact ha) (fun z => by rw [z]; exact hb))
  omega
theorem VF_one {m : Int} {f : Int → Int} (hV : VF m f) (h : ct (fun j => f j = j) m.toNat ≤ 1) : ∀ x y, (0 ≤ x ∧ x < m) → (0 ≤ y ∧ y < m) → f x = f y := by
  intro x y hx hy
  refine Classical.byContradiction fun q => ?_
  have h1 := hV x hx.1 hx.2
  have h2 := hV y hy.1 hy.2
  have := ct_two (P := fun j => f j = j) (n := m.toNat) (a := f x) (b := f y) (by omega) (by omega) q h1.2 h2.2
  omega
theorem VF_rt {m : Int} {p : Int → Int} (H : PU m p) : VF m (rtf p) := fun k a b => ⟨(rt_ok H k a b).1, rt_idem H a b⟩
theorem VF_mrg {m a b : Int} {f f' : Int → Int} (hV : VF m f) (ha : 0 ≤ a ∧ a < m) (hb : 0 ≤ b ∧ b < m) (e : ∀ k, 0 ≤ k → k < m → f' k = mrg f a b k) : VF m f' := by
  intro k k0 k1
  have h1 := hV a ha.1 ha.2
  have h2 := hV b hb.1 hb.2
  have h3 := hV k k0 k1
  have hB : f (min (f a) (f b)) = min (f a) (f b) := by
    by_cases c : f a < f b
    · rw [show min (f a) (f b) = f a by omega]; exact h1.2
    · rw [show min (f a) (f b) = f b by omega]; exact h2.2
  rw [e k k0 k1]
  unfold mrg
  by_cases c : f k = max (f a) (f b)
  · rw [if_pos c]
    refine ⟨by omega, ?_⟩
    rw [e _ (by omega) (by omega)]
    unfold mrg
    rw [hB]
    by_cases c2 : min (f a) (f b) = max (f a) (f b)
    · rw [if_pos c2]
    · rw [if_neg c2]
  · rw [if_neg c]
    refine ⟨h3.1, ?_⟩
    rw [e _ (by omega) (by omega)]
    unfold mrg
    rw [h3.2, if_neg c]
/-- the first one of a class -/
noncomputable def fst (E : Int → Int → Prop) (k : Int) : Int := @dite Int (∃ j : Nat, rc E k j ∧ ∀ i : Nat, i < j → ¬ rc E k i) (Classical.propDecidable _) (fun h => ((Classical.choose h : Nat) : Int)) (fun _ => 0)
theorem fst_eq {E : Int → Int → Prop} {k j : Int} (h0 : 0 ≤ j) (h1 : rc E k j) (h2 : ∀ i, 0 ≤ i → i < j → ¬ rc E k i) : fst E k = j := by
  have hx : ∃ j : Nat, rc E k j ∧ ∀ i : Nat, i < j → ¬ rc E k i := ⟨j.toNat, by rw [Int.toNat_of_nonneg h0]; exact h1, fun i hi => h2 i (by omega) (by omega)⟩
  unfold fst
  rw [dif_pos hx]
  have hs := Classical.choose_spec hx
  refine Classical.byContradiction fun q => ?_
  by_cases c : ((Classical.choose hx : Nat) : Int) < j
  · exact h2 _ (by omega) c hs.1
  · exact hs.2 j.toNat (by omega) (by rw [Int.toNat_of_nonneg h0]; exact h1)
noncomputable def lab (E : Int → Int → Prop) (k : Int) : Int := ct (fun j => fst E j = j) (fst E k).toNat
noncomputable def ncl (E : Int → Int → Prop) (m : Int) : Int := ct (fun j => fst E j = j) m.toNat
theorem fst_of {m : Int} {f : Int → Int} {E : Int → Int → Prop} (hV : VF m f) (h : ∀ x y, (0 ≤ x ∧ x < m) → (0 ≤ y ∧ y < m) → (f x = f y ↔ rc E x y)) (k : Int) (k0 : 0 ≤ k) (k1 : k < m) : fst E k = f k := by
  have h1 := hV k k0 k1
  refine fst_eq h1.1.1 ((h k (f k) ⟨k0, k1⟩ (by omega)).mp h1.2.symm) (fun i i0 i1 q => ?_)
  have h2 := (h k i ⟨k0, k1⟩ (by omega)).mpr q
  have h3 := hV i i0 (by omega)
  omega
theorem lab_of {m : Int} {f : Int → Int} {E : Int → Int → Prop} (hV : VF m f) (h : ∀ x y, (0 ≤ x ∧ x < m) → (0 ≤ y ∧ y < m) → (f x = f y ↔ rc E x y)) (k : Int) (k0 : 0 ≤ k) (k1 : k < m) : ct (fun j => f j = j) (f k).toNat = lab E k := by
  have h1 := hV k k0 k1
  unfold lab
  rw [fst_of hV h k k0 k1]
  exact ct_congr _ (fun j hj => by rw [fst_of hV h j (by omega) (by omega)])
theorem ncl_of {m : Int} {f : Int → Int} {E : Int → Int → Prop} (hV : VF m f) (h : ∀ x y, (0 ≤ x ∧ x < m) → (0 ≤ y ∧ y < m) → (f x = f y ↔ rc E x y)) : ct (fun j => f j = j) m.toNat = ncl E m := ct_congr _ (fun j hj => by rw [fst_of hV h j (by omega) (by omega)])
/-! the relations -/
def thE (r : Int → Int) (fk : Prop) (k l : Int) : Prop := ((0 ≤ k ∧ k < nl r) ∧ (0 ≤ l ∧ l < nl r)) ∧ (thet r k l ∨ (fk ∧ tau r k l))
def sdE (r : Int → Int) : Int → Int → Prop := thE r False
def ptE (r : Int → Int) : Int → Int → Prop := thE r True
section REL
variable {n : Int} {r : Int → Int}
theorem thet_sym (hN : NT n r) {k l : Int} (h : thet r k l) : thet r l k := by
  unfold thet at h ⊢
  rw [ds_comm (NT_sym hN) (a := lo r l) (b := lo r k), ds_comm (NT_sym hN) (a := hi r l) (b := hi r k), ds_comm (NT_sym hN) (a := lo r l) (b := hi r k), ds_comm (NT_sym hN) (a := hi r l) (b := lo r k)]
  omega
theorem tau_iff (hN : NT n r) {k l : Int} (hk : 0 ≤ k ∧ k < nl r) (hl : 0 ≤ l ∧ l < nl r) : tau r k l ↔ ∃ p a b, a ≠ b ∧ ad r p a ∧ ad r p b ∧ lno r p a = k ∧ lno r p b = l ∧ ∀ x, (ad r a x ∧ ad r b x) ↔ x = p := by
  obtain ⟨p1, p2, p3, p4⟩ := lo_n hN hk.1 hk.2
  obtain ⟨q1, q2, q3, q4⟩ := lo_n hN hl.1 hl.2
  have ek := lno_lo hN hk.1 hk.2
  have el := lno_lo hN hl.1 hl.2
  constructor
  · rintro ⟨h1, h2⟩
    have hj := jnt_or r k l
    have hkl : k ≠ l := fun e => h1 (by unfold jnt; rw [if_pos e])
    have hends : ¬ (lo r k = lo r l ∧ hi r k = hi r l) := fun e => hkl (by rw [← ek, ← el, e.1, e.2])
    have key : ∀ (k' : Int) (lo' hi' p : Int), ad r lo' hi' → lno r lo' hi' = k' → (p = lo' ∨ p = hi') → ad r p (lo' + hi' - p) ∧ lno r p (lo' + hi' - p) = k' := by
      intro k' lo' hi' p ha he hp
      rcases hp with rfl | rfl
      · rw [show p + hi' - p = hi' by omega]; exact ⟨ha, he⟩
      · rw [show lo' + p - p = lo' by omega]; exact ⟨NT_sym hN _ _ ha, by rw [lno_sym hN]; exact he⟩
    obtain ⟨a1, a2⟩ := key k (lo r k) (hi r k) (jnt r k l) p4 ek (by omega)
    obtain ⟨b1, b2⟩ := key l (lo r l) (hi r l) (jnt r k l) q4 el (by omega)
    exact ⟨jnt r k l, _, _, by omega, a1, b1, a2, b2, h2⟩
  · rintro ⟨p, a, b, h1, h2, h3, h4, h5, h6⟩
    have e1 := lno_ok hN h2
    have e2 := lno_ok hN h3
    rw [h4] at e1
    rw [h5] at e2
    have n1 := (hN.2.2 _ _ h2).2.2.1
    have n2 := (hN.2.2 _ _ h3).2.2.1
    have hp := (NT_in hN h2).1
    have hkl : k ≠ l := fun e => by
      rw [e] at e1
      omega
    have ej : jnt r k l = p := by
      unfold jnt
      rw [if_neg hkl]
      by_cases c1 : lo r k = lo r l ∨ lo r k = hi r l
      · rw [if_pos c1]; omega
      · rw [if_neg c1]
        by_cases c2 : hi r k = lo r l ∨ hi r k = hi r l
        · rw [if_pos c2]; omega
        · omega
    refine ⟨by omega, ?_⟩
    rw [ej, show lo r k + hi r k - p = a by omega, show lo r l + hi r l - p = b by omega]
    exact h6
theorem tau_sym (hN : NT n r) {k l : Int} (hk : 0 ≤ k ∧ k < nl r) (hl : 0 ≤ l ∧ l < nl r) (h : tau r k l) : tau r l k := by
  obtain ⟨p, a, b, h1, h2, h3, h4, h5, h6⟩ := (tau_iff hN hk hl).mp h
  exact (tau_iff hN hl hk).mpr ⟨p, b, a, Ne.symm h1, h3, h2, h5, h4, fun x => by rw [And.comm]; exact h6 x⟩
theorem thE_sym (hN : NT n r) (fk : Prop) (x y : Int) (h : thE r fk x y) : thE r fk y x := ⟨⟨h.1.2, h.1.1⟩, h.2.imp (thet_sym hN) (fun q => ⟨q.1, tau_sym hN h.1.1 h.1.2 q.2⟩)⟩
theorem thet_lno (hN : NT n r) {l p q : Int} (h : ad r p q) : thet r l (lno r p q) ↔ ds (ad r) (lo r l) p - ds (ad r) (hi r l) p ≠ ds (ad r) (lo r l) q - ds (ad r) (hi r l) q := by
  obtain ⟨-, h2, h3⟩ := lno_ok hN h
  unfold thet
  rw [h2, h3]
  by_cases c : p < q
  · rw [show min p q = p by omega, show max p q = q by omega]; omega
  · rw [show min p q = q by omega, show max p q = p by omega]; omega
end REL
def SO (h : am_H) (s : Int) (r : Int → Int) : Prop := h s 0 = ncl (sdE r) (nl r) ∧ h s 1 = ncl (ptE r) (nl r) ∧ ∀ k, 0 ≤ k → k < nl r → h (s + 1) k = lab (sdE r) k ∧ h (s + 2) k = lab (ptE r) k
theorem SO_fr {h h' : am_H} {s : Int} {r : Int → Int} (H : SO h s r) (e : ∀ x i, s ≤ x → x ≤ s + 2 → h' x i = h x i) : SO h' s r := by
  refine ⟨?_, ?_, fun k a b => ?_⟩
  · rw [e _ _ (by omega) (by omega)]; exact H.1
  · rw [e _ _ (by omega) (by omega)]; exact H.2.1
  · rw [e _ _ (by omega) (by omega), e _ _ (by omega) (by omega)]; exact H.2.2 k a b
theorem UFS_fr {h h' : am_H} {s m : Int} (H : UFS h s m) (e : ∀ i, h' (s + 3) i = h (s + 3) i) (e2 : h' s 5 = h s 5) : UFS h' s m := by
  have e3 : h' (s + 3) = h (s + 3) := funext e
  unfold UFS
  rw [e3, e2]
  exact H
