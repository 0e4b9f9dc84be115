/-! ===== partitions ===== -/
theorem ct_add2 {P Q : Int → Prop} {a : Int} (n : Nat) (h0 : 0 ≤ a) (h1 : a < n) (hn : ¬ P a) (h : ∀ k : Int, 0 ≤ k → k < n → (Q k ↔ P k ∨ k = a)) : ct Q n = ct P n + 1 := by
  have e1 := ct_congr (P := Q) (Q := fun k => (0 ≤ k ∧ k < (n : Int)) ∧ Q k) n (fun k hk => ⟨fun q => ⟨by omega, q⟩, fun q => q.2⟩)
  have e2 := ct_congr (P := P) (Q := fun k => (0 ≤ k ∧ k < (n : Int)) ∧ P k) n (fun k hk => ⟨fun q => ⟨by omega, q⟩, fun q => q.2⟩)
  rw [e1, e2]
  refine ct_add n h0 h1 (fun q => hn q.2) (fun k => ⟨fun q => ?_, fun q => ?_⟩)
  · exact ((h k q.1.1 q.1.2).mp q.2).imp (fun z => ⟨q.1, z⟩) id
  · rcases q with q | q
    · exact ⟨q.1, (h k q.1.1 q.1.2).mpr (Or.inl q.2)⟩
    · exact ⟨by omega, (h k (by omega) (by omega)).mpr (Or.inr q)⟩
def itr (p : Int → Int) : Nat → Int → Int
  | 0, l => l
  | k + 1, l => itr p k (p l)
/-- where one comes to by going up -/
def rtf (p : Int → Int) (l : Int) : Int := itr p l.toNat l
def PU (m : Int) (p : Int → Int) : Prop := ∀ l, 0 ≤ l → l < m → 0 ≤ p l ∧ p l ≤ l
def up1 (p : Int → Int) (x v : Int) : Int → Int := fun i => if i = x then v else p i
theorem up1_eq {p : Int → Int} {x v : Int} : up1 p x v x = v := if_pos rfl
theorem up1_ne {p : Int → Int} {x v i : Int} (h : i ≠ x) : up1 p x v i = p i := if_neg h
theorem am_up_row {h : am_H} {q x v : Int} : am_up h q x v q = up1 (h q) x v := by
  funext i
  by_cases e : i = x
  · rw [e, am_up_eq, up1_eq]
  · rw [am_up_ne2 e, up1_ne e]
theorem am_up_cell {h : am_H} {q x v a : Int} (e : a ≠ q) : am_up h q x v a = h a := by
  funext i
  exact am_up_ne e
theorem itr_fix {p : Int → Int} {l : Int} (h : p l = l) : ∀ k : Nat, itr p k l = l
  | 0 => rfl
  | k + 1 => by
    show itr p k (p l) = l
    rw [h]
    exact itr_fix h k
section RT
variable {p : Int → Int} {m : Int}
theorem itr_st (H : PU m p) : ∀ (n : Nat) (l : Int), 0 ≤ l → l < m → l.toNat ≤ n → ∀ k : Nat, l.toNat ≤ k → itr p k l = rtf p l := by
  intro n
  induction n with
  | zero =>
    intro l h0 h1 hn k hk
    have e : l = 0 := by omega
    subst e
    have := H 0 h0 h1
    rw [itr_fix (by omega) k]
    rfl
  | succ n ih =>
    intro l h0 h1 hn k hk
    have h2 := H l h0 h1
    by_cases e : p l = l
    · rw [itr_fix e k]
      unfold rtf
      rw [itr_fix e]
    · unfold rtf
      cases k with
      | zero => omega
      | succ k =>
        obtain ⟨j, hj⟩ : ∃ j, l.toNat = j + 1 := ⟨l.toNat - 1, by omega⟩
        rw [hj]
        show itr p k (p l) = itr p j (p l)
        rw [ih (p l) h2.1 (by omega) (by omega) k (by omega), ih (p l) h2.1 (by omega) (by omega) j (by omega)]
theorem rt_fix {l : Int} (h : p l = l) : rtf p l = l := itr_fix h _
theorem rt_up (H : PU m p) {l : Int} (h0 : 0 ≤ l) (h1 : l < m) : rtf p l = rtf p (p l) := by
  have h2 := H l h0 h1
  by_cases e : p l = l
  · rw [e]
  · unfold rtf
    obtain ⟨j, hj⟩ : ∃ j, l.toNat = j + 1 := ⟨l.toNat - 1, by omega⟩
    rw [hj]
    show itr p j (p l) = _
    exact itr_st H j (p l) h2.1 (by omega) (by omega) j (by omega)
/-- what goes along with the ways up is where they lead -/
theorem rt_uni (H : PU m p) {g : Int → Int} (hg : ∀ l, 0 ≤ l → l < m → (p l = l → g l = l) ∧ (p l ≠ l → g l = g (p l))) : ∀ l, 0 ≤ l → l < m → rtf p l = g l := by
  have G : ∀ (n : Nat) (l : Int), 0 ≤ l → l < m → l.toNat < n → rtf p l = g l := by
    intro n
    induction n with
    | zero => intro l _ _ h; omega
    | succ n ih =>
      intro l h0 h1 hn
      have h2 := H l h0 h1
      by_cases e : p l = l
      · rw [rt_fix e, (hg l h0 h1).1 e]
      · rw [rt_up H h0 h1, (hg l h0 h1).2 e]
        exact ih (p l) h2.1 (by omega) (by omega)
  exact fun l h0 h1 => G _ l h0 h1 (Nat.lt_succ_self _)
theorem rt_ok (H : PU m p) : ∀ l, 0 ≤ l → l < m → (0 ≤ rtf p l ∧ rtf p l ≤ l) ∧ p (rtf p l) = rtf p l := by
  have G : ∀ (n : Nat) (l : Int), 0 ≤ l → l < m → l.toNat < n → (0 ≤ rtf p l ∧ rtf p l ≤ l) ∧ p (rtf p l) = rtf p l := by
    intro n
    induction n with
    | zero => intro l _ _ h; omega
    | succ n ih =>
      intro l h0 h1 hn
      have h2 := H l h0 h1
      by_cases e : p l = l
      · rw [rt_fix e]
        exact ⟨by omega, e⟩
      · rw [rt_up H h0 h1]
        have := ih (p l) h2.1 (by omega) (by omega)
        exact ⟨by omega, this.2⟩
  exact fun l h0 h1 => G _ l h0 h1 (Nat.lt_succ_self _)
theorem rt_idem (H : PU m p) {l : Int} (h0 : 0 ≤ l) (h1 : l < m) : rtf p (rtf p l) = rtf p l := rt_fix (rt_ok H l h0 h1).2
theorem rt_h (H : PU m p) {x : Int} (h0 : 0 ≤ x) (h1 : x < m) (hne : p x ≠ x) : PU m (up1 p x (p (p x))) ∧ ∀ k, 0 ≤ k → k < m → rtf (up1 p x (p (p x))) k = rtf p k := by
  have h2 := H x h0 h1
  have h3 := H (p x) h2.1 (by omega)
  have H' : PU m (up1 p x (p (p x))) := fun l l0 l1 => by
    by_cases e : l = x
    · subst e
      rw [up1_eq]
      omega
    · rw [up1_ne e]
      exact H l l0 l1
  refine ⟨H', rt_uni H' (fun l l0 l1 => ?_)⟩
  by_cases e : l = x
  · subst e
    rw [up1_eq]
    exact ⟨fun q => by omega, fun _ => by rw [rt_up H l0 l1, rt_up H h2.1 (by omega)]⟩
  · rw [up1_ne e]
    exact ⟨fun q => rt_fix q, fun _ => rt_up H l0 l1⟩
end RT
noncomputable def mrg (f : Int → Int) (a b k : Int) : Int := if f k = max (f a) (f b) then min (f a) (f b) else f k
theorem mrg_eq {f : Int → Int} {a b k : Int} (h : f a = f b) : mrg f a b k = f k := by
  unfold mrg
  by_cases c : f k = max (f a) (f b)
  · rw [if_pos c]; omega
  · rw [if_neg c]
theorem rt_u {p : Int → Int} {m : Int} (H : PU m p) {a b : Int} (ha : 0 ≤ a ∧ a < m) (hb : 0 ≤ b ∧ b < m) (hne : rtf p a ≠ rtf p b) : PU m (up1 p (max (rtf p a) (rtf p b)) (min (rtf p a) (rtf p b))) ∧ ∀ k, 0 ≤ k → k < m → rtf (up1 p (max (rtf p a) (rtf p b)) (min (rtf p a) (rtf p b))) k = mrg (rtf p) a b k := by
  have h1 := rt_ok H a ha.1 ha.2
  have h2 := rt_ok H b hb.1 hb.2
  have hA : rtf p (max (rtf p a) (rtf p b)) = max (rtf p a) (rtf p b) := by
    by_cases c : rtf p a < rtf p b
    · rw [show max (rtf p a) (rtf p b) = rtf p b by omega]; exact rt_idem H hb.1 hb.2
    · rw [show max (rtf p a) (rtf p b) = rtf p a by omega]; exact rt_idem H ha.1 ha.2
  have hB : rtf p (min (rtf p a) (rtf p b)) = min (rtf p a) (rtf p b) := by
    by_cases c : rtf p a < rtf p b
    · rw [show min (rtf p a) (rtf p b) = rtf p a by omega]; exact rt_idem H ha.1 ha.2
    · rw [show min (rtf p a) (rtf p b) = rtf p b by omega]; exact rt_idem H hb.1 hb.2
  have H' : PU m (up1 p (max (rtf p a) (rtf p b)) (min (rtf p a) (rtf p b))) := fun l l0 l1 => by
    by_cases e : l = max (rtf p a) (rtf p b)
    · rw [e, up1_eq]
      omega
    · rw [up1_ne e]
      exact H l l0 l1
  refine ⟨H', rt_uni H' (fun l l0 l1 => ?_)⟩
  by_cases e : l = max (rtf p a) (rtf p b)
  · rw [e, up1_eq]
    refine ⟨fun q => by omega, fun _ => ?_⟩
    unfold mrg
    rw [hA, hB, if_pos rfl, if_neg (by omega)]
  · rw [up1_ne e]
    refine ⟨fun q => ?_, fun _ => ?_⟩
    · unfold mrg
      rw [rt_fix q, if_neg e]
    · unfold mrg
      rw [← rt_up H l0 l1]
def UFS (h : am_H) (s m : Int) : Prop := (0 ≤ m ∧ m ≤ 190) ∧ PU m (h (s + 3)) ∧ h s 5 = ct (fun j => rtf (h (s + 3)) j = j) m.toNat
theorem ct_mrg {f : Int → Int} {m a b : Int} (hV : ∀ k, 0 ≤ k → k < m → (0 ≤ f k ∧ f k ≤ k) ∧ f (f k) = f k) (ha : 0 ≤ a ∧ a < m) (hb : 0 ≤ b ∧ b < m) (hne : f a ≠ f b) : ct (fun j => f j = j) m.toNat = ct (fun j => mrg f a b j = j) m.toNat + 1 := by
  have h1 := hV a ha.1 ha.2
  have h2 := hV b hb.1 hb.2
  have hA : f (max (f a) (f b)) = max (f a) (f b) := by
    by_cases c : f a < f b
    · rw [show max (f a) (f b) = f b by omega]; exact h2.2
    · rw [show max (f a) (f b) = f a by omega]; exact h1.2
  refine ct_add2 (a := max (f a) (f b)) m.toNat (by omega) (by omega) (fun q => ?_) (fun k k0 k1 => ⟨fun q => ?_, fun q => ?_⟩)
  · unfold mrg at q
    rw [hA, if_pos rfl] at q
    omega
  · by_cases e : k = max (f a) (f b)
    · exact Or.inr e
    · refine Or.inl ?_
      unfold mrg
      rw [q, if_neg e]
  · rcases q with q | q
    · unfold mrg at q
      by_cases c : f k = max (f a) (f b)
      · rw [if_pos c] at q
        have := hV k k0 (by omega)
        omega
      · rw [if_neg c] at q
        exact q
    · rw [q]; exact hA
/-! 80 FactorNets$Sorts.separate -/
def C80 : am_K := fun as h K => am_a2 as (fun v0 v1 => am_o 9 v0 (fun s => am_n v1 (fun m => (0 ≤ m ∧ m ≤ 190) ∧ (∀ (h' : am_H), (∀ x i, x ≠ s + 3 → ¬ (x = s ∧ i = 5) → h' x i = h x i) ∧ h' s 5 = m ∧ (∀ l, 0 ≤ l → l < m → h' (s + 3) l = l) → K (none) (h')))))
theorem W80 {d : Nat} (H : ∀ (s : Int) (m : Int) (h : am_H) (K : Option am_V → am_H → Prop), (0 ≤ m ∧ m ≤ 190) ∧ (∀ (h' : am_H), (∀ x i, x ≠ s + 3 → ¬ (x = s ∧ i = 5) → h' x i = h x i) ∧ h' s 5 = m ∧ (∀ l, 0 ≤ l → l < m → h' (s + 3) l = l) → K (none) (h')) → am_AT d 80 0 [some (mR 1 9 0 s), some (mB m), none] h K) : am_CS d 80 C80 := by
  refine am_CS_of (T := tb80) (mL := 3) (rk := 0) rfl (fun as h K hC => ?_)
  obtain ⟨v0, v1, rfl, hC0⟩ := am_a2_e hC
  obtain ⟨s, rfl, hC1⟩ := am_o_e hC0
  obtain ⟨m, rfl, hC2⟩ := am_n_e hC1
  refine ⟨Nat.le_of_ble_eq_true rfl, ?_⟩
  exact H s m h K hC2
theorem T80_0 {R : Option am_V → am_H → Prop} {h : am_H} {s : Int} {m : Int} (t : am_AT 1 80 7 [some (mR 1 9 0 s), some (mB m), some (mI 0)] (am_up h s 5 m) R) : am_AT 1 80 0 [some (mR 1 9 0 s), some (mB m), none] h R :=
  am_T (d := 0) (m := 80) (T := tb80) (mL := 3) (rk := 0) (cuts := [(7, [1, 1, 2])]) (l := []) rfl trivial 9 (t)
theorem T80_7 {R : Option am_V → am_H → Prop} {h : am_H} {s : Int} {m : Int} {x2 : Int} (t : (R32 x2) ∧ (((m ≤ x2) → (R none h)) ∧ ((x2 < m) → ((0 ≤ x2 ∧ x2 < 190) ∧ ((R32 x2) ∧ (am_AT 1 80 7 [some (mR 1 9 0 s), some (mB m), some (mI (x2 + 1))] (am_up h (s + 3) x2 x2) R)))))) : am_AT 1 80 7 [some (mR 1 9 0 s), some (mB m), some (mI x2)] h R :=
  am_T (d := 0) (m := 80) (T := tb80) (mL := 3) (rk := 0) (cuts := [(7, [1, 1, 2])]) (l := []) rfl trivial 14 (And.intro (t).1 (And.intro (fun c1 => ((t).2).1 c1) (fun c1 => And.intro (((t).2).2 c1).1 (And.intro ((((t).2).2 c1).2).1 (((((t).2).2 c1).2).2)))))
theorem L80 {K : Option am_V → am_H → Prop} {h : am_H} {s m : Int} (hm : 0 ≤ m ∧ m ≤ 190) (hK : ∀ h' : am_H, (∀ x i, x ≠ s + 3 → ¬ (x = s ∧ i = 5) → h' x i = h x i) ∧ h' s 5 = m ∧ (∀ l, 0 ≤ l → l < m → h' (s + 3) l = l) → K none h') : ∀ (i : Int) (hh : am_H), 0 ≤ i → i ≤ m → (∀ x i, x ≠ s + 3 → ¬ (x = s ∧ i = 5) → hh x i = h x i) → hh s 5 = m → (∀ l, 0 ≤ l → l < i → hh (s + 3) l = l) → am_AT 1 80 7 [some (mR 1 9 0 s), some (mB m), some (mI i)] hh K := by
  refine lp m (fun i ih hh i0 i1 f1 f2 f3 => ?_)
  refine T80_7 ⟨by omega, ⟨fun c1 => ?_, fun c1 => ⟨by omega, ⟨by omega, ?_⟩⟩⟩⟩
  · exact hK hh ⟨f1, f2, fun l l0 l1 => f3 l l0 (by omega)⟩
  · refine ih (by omega) _ (by omega) (by omega) (fun x i hx1 hx2 => by rw [am_up_ne hx1]; exact f1 x i hx1 hx2) (by rw [am_up_ne (by omega)]; exact f2) (fun l l0 l1 => ?_)
    by_cases q : l = i
    · rw [q, am_up_eq]
    · rw [am_up_ne2 q]
      exact f3 l l0 (by omega)
theorem C80_ok : am_CS 1 80 C80 := W80 (fun s m h K hb => T80_0 (L80 hb.1 hb.2 0 _ (by omega) hb.1.1 (fun x i hx1 hx2 => am_up_n2 hx2) am_up_eq (fun l l0 l1 => by omega)))
/-! 84 FactorNets$Sorts.root -/
def C84 : am_K := fun as h K => am_a2 as (fun v0 v1 => am_o 9 v0 (fun s => am_n v1 (fun l => (∃ m, (0 ≤ m ∧ m ≤ 190) ∧ PU m (h (s + 3)) ∧ (0 ≤ l ∧ l < m)) ∧ (∀ (h' : am_H), (∀ x i, x ≠ s + 3 → h' x i = h x i) ∧ (∀ m, m ≤ 190 → PU m (h (s + 3)) → (0 ≤ l ∧ l < m) → PU m (h' (s + 3)) ∧ ∀ k, 0 ≤ k → k < m → rtf (h' (s + 3)) k = rtf (h (s + 3)) k) → K (some (mB (rtf (h (s + 3)) l))) (h')))))
theorem W84 {d : Nat} (H : ∀ (s : Int) (l : Int) (h : am_H) (K : Option am_V → am_H → Prop), (∃ m, (0 ≤ m ∧ m ≤ 190) ∧ PU m (h (s + 3)) ∧ (0 ≤ l ∧ l < m)) ∧ (∀ (h' : am_H), (∀ x i, x ≠ s + 3 → h' x i = h x i) ∧ (∀ m, m ≤ 190 → PU m (h (s + 3)) → (0 ≤ l ∧ l < m) → PU m (h' (s + 3)) ∧ ∀ k, 0 ≤ k → k < m → rtf (h' (s + 3)) k = rtf (h (s + 3)) k) → K (some (mB (rtf (h (s + 3)) l))) (h')) → am_AT d 84 0 [some (mR 1 9 0 s), some (mB l), none, none] h K) : am_CS d 84 C84 := by
  refine am_CS_of (T := tb84) (mL := 4) (rk := 1) rfl (fun as h K hC => ?_)
  obtain ⟨v0, v1, rfl, hC0⟩ := am_a2_e hC
  obtain ⟨s, rfl, hC1⟩ := am_o_e hC0
  obtain ⟨l, rfl, hC2⟩ := am_n_e hC1
  refine ⟨Nat.le_of_ble_eq_true rfl, ?_⟩
  exact H s l h K hC2
theorem T84_0 {R : Option am_V → am_H → Prop} {h : am_H} {s : Int} {l : Int} (t : am_AT 1 84 4 [some (mR 1 9 0 s), none, some (mI l), some (mI 0)] h R) : am_AT 1 84 0 [some (mR 1 9 0 s), some (mB l), none, none] h R :=
  am_T (d := 0) (m := 84) (T := tb84) (mL := 4) (rk := 1) (cuts := [(4, [1, 0, 2, 2])]) (l := []) rfl trivial 8 (t)
theorem T84_4 {R : Option am_V → am_H → Prop} {h : am_H} {s : Int} {x2 : Int} {x3 : Int} (t : (R32 x3) ∧ (((190 ≤ x3) → ((R32 x2) ∧ (R (some (mB x2)) h))) ∧ ((x3 < 190) → ((0 ≤ x2 ∧ x2 < 190) ∧ ((R32 x2) ∧ (((h (s + 3) x2 = x2) → ((R32 x2) ∧ (R (some (mB x2)) h))) ∧ ((¬ h (s + 3) x2 = x2) → ((0 ≤ x2 ∧ x2 < 190) ∧ ((0 ≤ h (s + 3) x2 ∧ h (s + 3) x2 < 190) ∧ ((0 ≤ x2 ∧ x2 < 190) ∧ ((0 ≤ x2 ∧ x2 < 190) ∧ (am_AT 1 84 4 [some (mR 1 9 0 s), none, some (mI ((am_up h (s + 3) x2 (h (s + 3) (h (s + 3) x2))) (s + 3) x2)), some (mI (x3 + 1))] (am_up h (s + 3) x2 (h (s + 3) (h (s + 3) x2))) R)))))))))))) : am_AT 1 84 4 [some (mR 1 9 0 s), none, some (mI x2), some (mI x3)] h R :=
  am_T (d := 0) (m := 84) (T := tb84) (mL := 4) (rk := 1) (cuts := [(4, [1, 0, 2, 2])]) (l := []) rfl trivial 31 (And.intro (t).1 (And.intro (fun c2 => And.intro (((t).2).1 c2).1 ((((t).2).1 c2).2)) (fun c2 => And.intro (((t).2).2 c2).1 (And.intro ((((t).2).2 c2).2).1 (And.intro (fun c3 => And.intro ((((((t).2).2 c2).2).2).1 c3).1 (((((((t).2).2 c2).2).2).1 c3).2)) (fun c3 => And.intro ((((((t).2).2 c2).2).2).2 c3).1 (And.intro (((((((t).2).2 c2).2).2).2 c3).2).1 (And.intro ((((((((t).2).2 c2).2).2).2 c3).2).2).1 (And.intro (((((((((t).2).2 c2).2).2).2 c3).2).2).2).1 ((((((((((t).2).2 c2).2).2).2 c3).2).2).2).2))))))))))
theorem L84 {K : Option am_V → am_H → Prop} {h : am_H} {s l0 m0 : Int} (hm0 : m0 ≤ 190) (hp0 : PU m0 (h (s + 3))) (hl0 : 0 ≤ l0 ∧ l0 < m0) (hK : ∀ h' : am_H, (∀ x i, x ≠ s + 3 → h' x i = h x i) ∧ (∀ m, m ≤ 190 → PU m (h (s + 3)) → (0 ≤ l0 ∧ l0 < m) → PU m (h' (s + 3)) ∧ ∀ k, 0 ≤ k → k < m → rtf (h' (s + 3)) k = rtf (h (s + 3)) k) → K (some (mB (rtf (h (s + 3)) l0))) h') : ∀ (i l : Int) (hh : am_H), 0 ≤ i → l + i ≤ 189 → (∀ x i, x ≠ s + 3 → hh x i = h x i) → (∀ m, m ≤ 190 → PU m (h (s + 3)) → (0 ≤ l0 ∧ l0 < m) → (0 ≤ l ∧ l < m) ∧ rtf (h (s + 3)) l = rtf (h (s + 3)) l0 ∧ PU m (hh (s + 3)) ∧ ∀ k, 0 ≤ k → k < m → rtf (hh (s + 3)) k = rtf (h (s + 3)) k) → am_AT 1 84 4 [some (mR 1 9 0 s), none, some (mI l), some (mI i)] hh K := by
  refine lp 190 (fun i ih l hh i0 hli f1 f2 => ?_)
  obtain ⟨g1, g2, g3, g4⟩ := f2 m0 hm0 hp0 hl0
  have g5 := g3 l g1.1 g1.2
  have g6 := g3 _ g5.1 (by omega)
  have e : am_up hh (s + 3) l (hh (s + 3) (hh (s + 3) l)) (s + 3) l = hh (s + 3) (hh (s + 3) l) := am_up_eq
  refine T84_4 ⟨by omega, ⟨fun c1 => ⟨by omega, ?_⟩, fun c1 => ⟨by omega, ⟨by omega, ⟨fun c2 => ⟨by omega, ?_⟩, fun c2 => ⟨by omega, ⟨by omega, ⟨by omega, ⟨by omega, ?_⟩⟩⟩⟩⟩⟩⟩⟩⟩
  · exfalso; omega
  · refine am_rB (hK hh ⟨f1, fun m a b c => ⟨(f2 m a b c).2.2.1, (f2 m a b c).2.2.2⟩⟩) ?_
    rw [← g2, ← g4 l g1.1 g1.2, rt_fix c2]
  · rw [e]
    have g7 := rt_h g3 g1.1 g1.2 c2
    refine ih c1 _ _ (by omega) (by omega) (fun x i hx => by rw [am_up_ne hx]; exact f1 x i hx) (fun m a b c => ?_)
    obtain ⟨k1, k2, k3, k4⟩ := f2 m a b c
    have k5 := rt_h k3 k1.1 k1.2 c2
    rw [am_up_row]
    refine ⟨⟨g6.1, by omega⟩, ?_, k5.1, fun k k0 kk => by rw [k5.2 k k0 kk]; exact k4 k k0 kk⟩
    rw [← k2, ← k4 l k1.1 k1.2, ← k4 _ g6.1 (by omega), rt_up k3 k1.1 k1.2, rt_up k3 g5.1 (by omega)]
theorem C84_ok : am_CS 1 84 C84 := W84 (fun s l h K hb => T84_0 (by
  obtain ⟨⟨m, hm, hp, hl⟩, hK⟩ := hb
  exact L84 hm.2 hp hl hK 0 l h (by omega) (by omega) (fun x i _ => rfl) (fun m a b c => ⟨c, rfl, b, fun k _ _ => rfl⟩)))
/-! 83 FactorNets$Sorts.unite -/
def C83 : am_K := fun as h K => am_a3 as (fun v0 v1 v2 => am_o 9 v0 (fun s => am_n v1 (fun a => am_n v2 (fun b => (∃ m, UFS h s m ∧ (0 ≤ a ∧ a < m) ∧ (0 ≤ b ∧ b < m)) ∧ (∀ (h' : am_H), (∀ x i, x ≠ s + 3 → ¬ (x = s ∧ i = 5) → h' x i = h x i) ∧ (∀ m, UFS h s m → (0 ≤ a ∧ a < m) → (0 ≤ b ∧ b < m) → UFS h' s m ∧ ∀ k, 0 ≤ k → k < m → rtf (h' (s + 3)) k = mrg (rtf (h (s + 3))) a b k) → K (none) (h'))))))
theorem W83 {d : Nat} (H : ∀ (s : Int) (a : Int) (b : Int) (h : am_H) (K : Option am_V → am_H → Prop), (∃ m, UFS h s m ∧ (0 ≤ a ∧ a < m) ∧ (0 ≤ b ∧ b < m)) ∧ (∀ (h' : am_H), (∀ x i, x ≠ s + 3 → ¬ (x = s ∧ i = 5) → h' x i = h x i) ∧ (∀ m, UFS h s m → (0 ≤ a ∧ a < m) → (0 ≤ b ∧ b < m) → UFS h' s m ∧ ∀ k, 0 ≤ k → k < m → rtf (h' (s + 3)) k = mrg (rtf (h (s + 3))) a b k) → K (none) (h')) → am_AT d 83 0 [some (mR 1 9 0 s), some (mB a), some (mB b), none, none] h K) : am_CS d 83 C83 := by
  refine am_CS_of (T := tb83) (mL := 5) (rk := 0) rfl (fun as h K hC => ?_)
  obtain ⟨v0, v1, v2, rfl, hC0⟩ := am_a3_e hC
  obtain ⟨s, rfl, hC1⟩ := am_o_e hC0
  obtain ⟨a, rfl, hC2⟩ := am_n_e hC1
  obtain ⟨b, rfl, hC3⟩ := am_n_e hC2
  refine ⟨Nat.le_of_ble_eq_true rfl, ?_⟩
  exact H s a b h K hC3
theorem T83_0 {R : Option am_V → am_H → Prop} {h : am_H} {s : Int} {a : Int} {b : Int} (t : (∃ m, (0 ≤ m ∧ m ≤ 190) ∧ PU m (h (s + 3)) ∧ (0 ≤ a ∧ a < m)) ∧ (∀ (h' : am_H), ((∀ x i, x ≠ s + 3 → h' x i = h x i) ∧ (∀ m, m ≤ 190 → PU m (h (s + 3)) → (0 ≤ a ∧ a < m) → PU m (h' (s + 3)) ∧ ∀ k, 0 ≤ k → k < m → rtf (h' (s + 3)) k = rtf (h (s + 3)) k)) → ((∃ m, (0 ≤ m ∧ m ≤ 190) ∧ PU m (h' (s + 3)) ∧ (0 ≤ b ∧ b < m)) ∧ (∀ (h'_1 : am_H), ((∀ x i, x ≠ s + 3 → h'_1 x i = h' x i) ∧ (∀ m, m ≤ 190 → PU m (h' (s + 3)) → (0 ≤ b ∧ b < m) → PU m (h'_1 (s + 3)) ∧ ∀ k, 0 ≤ k → k < m → rtf (h'_1 (s + 3)) k = rtf (h' (s + 3)) k)) → (((rtf (h (s + 3)) a = rtf (h' (s + 3)) b) → (R none h'_1)) ∧ ((¬ rtf (h (s + 3)) a = rtf (h' (s + 3)) b) → ((0 ≤ max (rtf (h (s + 3)) a) (rtf (h' (s + 3)) b) ∧ max (rtf (h (s + 3)) a) (rtf (h' (s + 3)) b) < 190) ∧ ((R32 (((am_up h'_1 (s + 3) (max (rtf (h (s + 3)) a) (rtf (h' (s + 3)) b)) (min (rtf (h (s + 3)) a) (rtf (h' (s + 3)) b))) s 5) - 1)) ∧ (R none (am_up (am_up h'_1 (s + 3) (max (rtf (h (s + 3)) a) (rtf (h' (s + 3)) b)) (min (rtf (h (s + 3)) a) (rtf (h' (s + 3)) b))) s 5 (((am_up h'_1 (s + 3) (max (rtf (h (s + 3)) a) (rtf (h' (s + 3)) b)) (min (rtf (h (s + 3)) a) (rtf (h' (s + 3)) b))) s 5) - 1))))))))))) : am_AT 2 83 0 [some (mR 1 9 0 s), some (mB a), some (mB b), none, none] h R :=
  am_T (d := 1) (m := 83) (T := tb83) (mL := 5) (rk := 0) (cuts := []) (l := [(84, C84)]) rfl ⟨am_CS_d (by decide) C84_ok, trivial⟩ 31 (And.intro (t).1 (fun z1_0 z1_1 => And.intro (((t).2) z1_0 z1_1).1 (fun z2_0 z2_1 => And.intro (fun c4 => (((((t).2) z1_0 z1_1).2) z2_0 z2_1).1 c4) (fun c4 => And.intro ((((((t).2) z1_0 z1_1).2) z2_0 z2_1).2 c4).1 (And.intro (((((((t).2) z1_0 z1_1).2) z2_0 z2_1).2 c4).2).1 ((((((((t).2) z1_0 z1_1).2) z2_0 z2_1).2 c4).2).2))))))
theorem C83_ok : am_CS 2 83 C83 := W83 (fun s a b h K hb => by
  obtain ⟨⟨m0, hU, ha, hb⟩, hK⟩ := hb
  obtain ⟨hm, hP, hg⟩ := id hU
  refine T83_0 ⟨⟨m0, hm, hP, ha⟩, fun h' q1 => ⟨⟨m0, hm, (q1.2 m0 hm.2 hP ha).1, hb⟩, fun h'_1 q2 => ⟨fun c3 => ?_, fun c3 => ⟨by rw [(q1.2 m0 hm.2 hP ha).2 b hb.1 hb.2]; have := rt_ok hP a ha.1 ha.2; have := rt_ok hP b hb.1 hb.2; omega, ⟨by rw [am_up_ne (by omega), q2.1 _ _ (by omega), q1.1 _ _ (by omega), hg]; have := ct_le (fun j => rtf (h (s + 3)) j = j) m0.toNat; omega, ?_⟩⟩⟩⟩⟩
  · obtain ⟨u1, u2⟩ := q1.2 m0 hm.2 hP ha
    obtain ⟨u3, u4⟩ := q2.2 m0 hm.2 u1 hb
    have e2 : rtf (h' (s + 3)) b = rtf (h (s + 3)) b := u2 b hb.1 hb.2
    rw [e2] at c3
    refine hK _ ⟨fun x i hx _ => by rw [q2.1 x i hx, q1.1 x i hx], fun m hU2 ha2 hb2 => ?_⟩
    obtain ⟨w1, w2⟩ := q1.2 m hU2.1.2 hU2.2.1 ha2
    obtain ⟨w3, w4⟩ := q2.2 m hU2.1.2 w1 hb2
    refine ⟨⟨hU2.1, w3, ?_⟩, fun k k0 k1 => by rw [w4 k k0 k1, w2 k k0 k1, mrg_eq c3]⟩
    rw [q2.1 _ _ (by omega), q1.1 _ _ (by omega), hU2.2.2]
    exact ct_congr _ (fun k hk => by rw [w4 k (by omega) (by omega), w2 k (by omega) (by omega)])
  · obtain ⟨u1, u2⟩ := q1.2 m0 hm.2 hP ha
    have e2 : rtf (h' (s + 3)) b = rtf (h (s + 3)) b := u2 b hb.1 hb.2
    rw [e2] at c3 ⊢
    refine hK _ ⟨fun x i hx hx2 => by rw [am_up_n2 hx2, am_up_ne hx, q2.1 x i hx, q1.1 x i hx], fun m hU2 ha2 hb2 => ?_⟩
    obtain ⟨w1, w2⟩ := q1.2 m hU2.1.2 hU2.2.1 ha2
    obtain ⟨w3, w4⟩ := q2.2 m hU2.1.2 w1 hb2
    have ea : rtf (h'_1 (s + 3)) a = rtf (h (s + 3)) a := by rw [w4 a ha2.1 ha2.2, w2 a ha2.1 ha2.2]
    have eb : rtf (h'_1 (s + 3)) b = rtf (h (s + 3)) b := by rw [w4 b hb2.1 hb2.2, w2 b hb2.1 hb2.2]
    have k5 := rt_u w3 ha2 hb2 (by rw [ea, eb]; exact c3)
    rw [ea, eb] at k5
    have er : am_up (am_up h'_1 (s + 3) (max (rtf (h (s + 3)) a) (rtf (h (s + 3)) b)) (min (rtf (h (s + 3)) a) (rtf (h (s + 3)) b))) s 5 (am_up h'_1 (s + 3) (max (rtf (h (s + 3)) a) (rtf (h (s + 3)) b)) (min (rtf (h (s + 3)) a) (rtf (h (s + 3)) b)) s 5 - 1) (s + 3) = up1 (h'_1 (s + 3)) (max (rtf (h (s + 3)) a) (rtf (h (s + 3)) b)) (min (rtf (h (s + 3)) a) (rtf (h (s + 3)) b)) := by
      funext i
      rw [am_up_ne (by omega), am_up_row]
    have ek : ∀ k, 0 ≤ k → k < m → rtf (up1 (h'_1 (s + 3)) (max (rtf (h (s + 3)) a) (rtf (h (s + 3)) b)) (min (rtf (h (s + 3)) a) (rtf (h (s + 3)) b))) k = mrg (rtf (h (s + 3))) a b k := fun k k0 k1 => by
      rw [k5.2 k k0 k1]
      unfold mrg
      rw [ea, eb, w4 k k0 k1, w2 k k0 k1]
    unfold UFS
    rw [er]
    refine ⟨⟨hU2.1, k5.1, ?_⟩, ek⟩
    rw [am_up_eq, am_up_ne (by omega), q2.1 _ _ (by omega), q1.1 _ _ (by omega), hU2.2.2, ct_mrg (fun k a b => ⟨(rt_ok hU2.2.1 k a b).1, rt_idem hU2.2.1 a b⟩) ha2 hb2 c3]
    rw [ct_congr (P := fun j => rtf (up1 (h'_1 (s + 3)) (max (rtf (h (s + 3)) a) (rtf (h (s + 3)) b)) (min (rtf (h (s + 3)) a) (rtf (h (s + 3)) b))) j = j) (Q := fun j => mrg (rtf (h (s + 3))) a b j = j) m.toNat (fun k hk => by rw [ek k (by omega) (by omega)])]
    omega)
/-! 85 FactorNets$Sorts.label -/
def C85 : am_K := fun as h K => am_a3 as (fun v0 v1 v2 => am_o 9 v0 (fun s => am_r 2 190 0 v1 (fun q => am_n v2 (fun m => (UFS h s m ∧ q ≠ s + 3 ∧ q ≠ s) ∧ (∀ (h' : am_H), (∀ x i, x ≠ s + 3 → x ≠ q → h' x i = h x i) ∧ UFS h' s m ∧ (∀ k, 0 ≤ k → k < m → rtf (h' (s + 3)) k = rtf (h (s + 3)) k) ∧ (∀ k, 0 ≤ k → k < m → h' q k = ct (fun j => rtf (h (s + 3)) j = j) (rtf (h (s + 3)) k).toNat) → K (none) (h'))))))
theorem W85 {d : Nat} (H : ∀ (s : Int) (q : Int) (m : Int) (h : am_H) (K : Option am_V → am_H → Prop), (UFS h s m ∧ q ≠ s + 3 ∧ q ≠ s) ∧ (∀ (h' : am_H), (∀ x i, x ≠ s + 3 → x ≠ q → h' x i = h x i) ∧ UFS h' s m ∧ (∀ k, 0 ≤ k → k < m → rtf (h' (s + 3)) k = rtf (h (s + 3)) k) ∧ (∀ k, 0 ≤ k → k < m → h' q k = ct (fun j => rtf (h (s + 3)) j = j) (rtf (h (s + 3)) k).toNat) → K (none) (h')) → am_AT d 85 0 [some (mR 1 9 0 s), some (mR 2 190 0 q), some (mB m), none, none, none] h K) : am_CS d 85 C85 := by
  refine am_CS_of (T := tb85) (mL := 6) (rk := 0) rfl (fun as h K hC => ?_)
  obtain ⟨v0, v1, v2, rfl, hC0⟩ := am_a3_e hC
  obtain ⟨s, rfl, hC1⟩ := am_o_e hC0
  obtain ⟨q, rfl, hC2⟩ := am_r_e hC1
  obtain ⟨m, rfl, hC3⟩ := am_n_e hC2
  refine ⟨Nat.le_of_ble_eq_true rfl, ?_⟩
  exact H s q m h K hC3
theorem T85_0 {R : Option am_V → am_H → Prop} {h : am_H} {s : Int} {q : Int} {m : Int} (t : am_AT 2 85 5 [some (mR 1 9 0 s), some (mR 2 190 0 q), some (mB m), some (mI 0), some (mI 0), none] h R) : am_AT 2 85 0 [some (mR 1 9 0 s), some (mR 2 190 0 q), some (mB m), none, none, none] h R :=
  am_T (d := 1) (m := 85) (T := tb85) (mL := 6) (rk := 0) (cuts := [(5, [1, 1, 1, 2, 2, 0])]) (l := [(84, C84)]) rfl ⟨am_CS_d (by decide) C84_ok, trivial⟩ 8 (t)
theorem T85_5 {R : Option am_V → am_H → Prop} {h : am_H} {s : Int} {q : Int} {m : Int} {x3 : Int} {x4 : Int} (t : (R32 x4) ∧ (((m ≤ x4) → (R none h)) ∧ ((x4 < m) → ((R32 x4) ∧ ((∃ m, (0 ≤ m ∧ m ≤ 190) ∧ PU m (h (s + 3)) ∧ (0 ≤ x4 ∧ x4 < m)) ∧ (∀ (h' : am_H), ((∀ x i, x ≠ s + 3 → h' x i = h x i) ∧ (∀ m, m ≤ 190 → PU m (h (s + 3)) → (0 ≤ x4 ∧ x4 < m) → PU m (h' (s + 3)) ∧ ∀ k, 0 ≤ k → k < m → rtf (h' (s + 3)) k = rtf (h (s + 3)) k)) → ((R32 x4) ∧ (((¬ rtf (h (s + 3)) x4 = x4) → ((0 ≤ rtf (h (s + 3)) x4 ∧ rtf (h (s + 3)) x4 < 190) ∧ ((0 ≤ x4 ∧ x4 < 190) ∧ (am_AT 2 85 5 [some (mR 1 9 0 s), some (mR 2 190 0 q), some (mB m), some (mI x3), some (mI (x4 + 1)), none] (am_up h' q x4 (h' q (rtf (h (s + 3)) x4))) R)))) ∧ ((rtf (h (s + 3)) x4 = x4) → ((0 ≤ x4 ∧ x4 < 190) ∧ ((R32 x3) ∧ (am_AT 2 85 5 [some (mR 1 9 0 s), some (mR 2 190 0 q), some (mB m), some (mI (x3 + 1)), some (mI (x4 + 1)), none] (am_up h' q x4 x3) R)))))))))))) : am_AT 2 85 5 [some (mR 1 9 0 s), some (mR 2 190 0 q), some (mB m), some (mI x3), some (mI x4), none] h R :=
  am_T (d := 1) (m := 85) (T := tb85) (mL := 6) (rk := 0) (cuts := [(5, [1, 1, 1, 2, 2, 0])]) (l := [(84, C84)]) rfl ⟨am_CS_d (by decide) C84_ok, trivial⟩ 22 (And.intro (t).1 (And.intro (fun c5 => ((t).2).1 c5) (fun c5 => And.intro (((t).2).2 c5).1 (And.intro ((((t).2).2 c5).2).1 (fun z3_0 z3_1 => And.intro ((((((t).2).2 c5).2).2) z3_0 z3_1).1 (And.intro (fun c6 => And.intro ((((((((t).2).2 c5).2).2) z3_0 z3_1).2).1 c6).1 (And.intro (((((((((t).2).2 c5).2).2) z3_0 z3_1).2).1 c6).2).1 ((((((((((t).2).2 c5).2).2) z3_0 z3_1).2).1 c6).2).2))) (fun c6 => And.intro ((((((((t).2).2 c5).2).2) z3_0 z3_1).2).2 c6).1 (And.intro (((((((((t).2).2 c5).2).2) z3_0 z3_1).2).2 c6).2).1 ((((((((((t).2).2 c5).2).2) z3_0 z3_1).2).2 c6).2).2)))))))))
theorem L85 {K : Option am_V → am_H → Prop} {h : am_H} {s m q : Int} (hU : UFS h s m) (hq : q ≠ s + 3 ∧ q ≠ s) (hK : ∀ h' : am_H, (∀ x i, x ≠ s + 3 → x ≠ q → h' x i = h x i) ∧ UFS h' s m ∧ (∀ k, 0 ≤ k → k < m → rtf (h' (s + 3)) k = rtf (h (s + 3)) k) ∧ (∀ k, 0 ≤ k → k < m → h' q k = ct (fun j => rtf (h (s + 3)) j = j) (rtf (h (s + 3)) k).toNat) → K none h') : ∀ (i : Int) (hh : am_H), 0 ≤ i → i ≤ m → (∀ x i, x ≠ s + 3 → x ≠ q → hh x i = h x i) → PU m (hh (s + 3)) → (∀ k, 0 ≤ k → k < m → rtf (hh (s + 3)) k = rtf (h (s + 3)) k) → (∀ k, 0 ≤ k → k < i → hh q k = ct (fun j => rtf (h (s + 3)) j = j) (rtf (h (s + 3)) k).toNat) → am_AT 2 85 5 [some (mR 1 9 0 s), some (mR 2 190 0 q), some (mB m), some (mI (ct (fun j => rtf (h (s + 3)) j = j) i.toNat)), some (mI i), none] hh K := by
  obtain ⟨hm, hP, hg⟩ := hU
  refine lp m (fun i ih hh i0 i1 f1 f2 f3 f4 => ?_)
  have hct := ct_le (fun j => rtf (h (s + 3)) j = j) i.toNat
  refine T85_5 ⟨by omega, ⟨fun c1 => ?_, fun c1 => ⟨by omega, ⟨⟨m, hm, f2, i0, c1⟩, fun h' q2 => ⟨by omega, ⟨fun c3 => ⟨by rw [f3 i i0 c1]; have := rt_ok hP i i0 c1; omega, ⟨by omega, ?_⟩⟩, fun c3 => ⟨by omega, ⟨by omega, ?_⟩⟩⟩⟩⟩⟩⟩⟩
  · refine hK hh ⟨f1, ⟨hm, f2, ?_⟩, f3, fun k k0 k1 => f4 k k0 (by omega)⟩
    rw [f1 _ _ (by omega) (by omega), hg]
    exact ct_congr _ (fun k hk => by rw [f3 k (by omega) (by omega)])
  · obtain ⟨u1, u2⟩ := q2.2 m hm.2 f2 ⟨i0, c1⟩
    have e3 : rtf (hh (s + 3)) i = rtf (h (s + 3)) i := f3 i i0 c1
    have ro := rt_ok hP i i0 c1
    rw [e3] at c3 ⊢
    have e4 : ct (fun j => rtf (h (s + 3)) j = j) (i + 1).toNat = ct (fun j => rtf (h (s + 3)) j = j) i.toNat := by rw [ct_to i0, am_b_f c3]; omega
    have := ih c1 (am_up h' q i (h' q (rtf (h (s + 3)) i))) (by omega) (by omega) (fun x j hx1 hx2 => by rw [am_up_ne hx2, q2.1 x j hx1]; exact f1 x j hx1 hx2) (by rw [am_up_cell (by omega)]; exact u1) (fun k k0 k1 => by rw [am_up_cell (by omega), u2 k k0 k1]; exact f3 k k0 k1) (fun k k0 k1 => by
      by_cases e : k = i
      · rw [e, am_up_eq, q2.1 _ _ hq.1, f4 _ ro.1.1 (by omega), rt_idem hP i0 c1]
      · rw [am_up_ne2 e, q2.1 _ _ hq.1]
        exact f4 k k0 (by omega))
    rw [e4] at this
    exact this
  · obtain ⟨u1, u2⟩ := q2.2 m hm.2 f2 ⟨i0, c1⟩
    rw [f3 i i0 c1] at c3
    have e4 : ct (fun j => rtf (h (s + 3)) j = j) (i + 1).toNat = ct (fun j => rtf (h (s + 3)) j = j) i.toNat + 1 := by rw [ct_to i0, am_b_t c3]
    have := ih c1 (am_up h' q i (ct (fun j => rtf (h (s + 3)) j = j) i.toNat)) (by omega) (by omega) (fun x j hx1 hx2 => by rw [am_up_ne hx2, q2.1 x j hx1]; exact f1 x j hx1 hx2) (by rw [am_up_cell (by omega)]; exact u1) (fun k k0 k1 => by rw [am_up_cell (by omega), u2 k k0 k1]; exact f3 k k0 k1) (fun k k0 k1 => by
      by_cases e : k = i
      · rw [e, am_up_eq, c3]
      · rw [am_up_ne2 e, q2.1 _ _ hq.1]
        exact f4 k k0 (by omega))
    rw [e4] at this
    exact this
theorem C85_ok : am_CS 2 85 C85 := W85 (fun s q m h K hb => T85_0 (by
  obtain ⟨⟨hU, hq⟩, hK⟩ := hb
  exact L85 hU hq hK 0 h (by omega) hU.1.1 (fun x i _ _ => rfl) hU.2.1 (fun k _ _ => rfl) (fun k k0 k1 => by omega)))
