/-! ===== walks and distances ===== -/
def wk (E : Int → Int → Prop) : Nat → Int → Int → Prop
  | 0, a, b => a = b
  | d + 1, a, b => ∃ c, wk E d a c ∧ E c b
def rc (E : Int → Int → Prop) (a b : Int) : Prop := ∃ d, wk E d a b
def sh (E : Int → Int → Prop) (a : Int) (d : Nat) (b : Int) : Prop := wk E d a b ∧ ∀ e, e < d → ¬ wk E e a b
noncomputable def ds (E : Int → Int → Prop) (a b : Int) : Int := @dite Int (∃ d, sh E a d b) (Classical.propDecidable _) (fun h => ((Classical.choose h : Nat) : Int)) (fun _ => 1000)
section WK
variable {E F : Int → Int → Prop} {a b c : Int} {d e : Nat}
theorem wk_cat (h1 : wk E d a b) : ∀ {e : Nat} {c : Int}, wk E e b c → wk E (d + e) a c
  | 0, c, h2 => by
    have e : b = c := h2
    subst e
    exact h1
  | e + 1, c, ⟨x, h2, h3⟩ => ⟨x, wk_cat h1 h2, h3⟩
theorem wk_1 (h : E a b) : wk E 1 a b := ⟨a, rfl, h⟩
theorem wk_sym (hE : ∀ x y, E x y → E y x) : ∀ {d : Nat} {a b : Int}, wk E d a b → wk E d b a
  | 0, a, b, h => Eq.symm h
  | d + 1, a, b, ⟨x, h1, h2⟩ => by
    have := wk_cat (wk_1 (hE _ _ h2)) (wk_sym hE h1)
    rw [Nat.add_comm] at this
    exact this
theorem wk_mono (hE : ∀ x y, E x y → F x y) : ∀ {d : Nat} {a b : Int}, wk E d a b → wk F d a b
  | 0, a, b, h => h
  | d + 1, a, b, ⟨x, h1, h2⟩ => ⟨x, wk_mono hE h1, hE _ _ h2⟩
/-- the first step -/
theorem wk_fst : ∀ {d : Nat} {a b : Int}, wk E (d + 1) a b → ∃ c, E a c ∧ wk E d c b
  | 0, a, b, ⟨x, h1, h2⟩ => by
    have e : a = x := h1
    subst e
    exact ⟨b, h2, rfl⟩
  | d + 1, a, b, ⟨x, h1, h2⟩ => by
    obtain ⟨c, h3, h4⟩ := wk_fst h1
    exact ⟨c, h3, x, h4, h2⟩
theorem wk_cons (h : E a b) (h2 : wk E d b c) : wk E (d + 1) a c := by
  have := wk_cat (wk_1 h) h2
  rw [Nat.add_comm] at this
  exact this
/-- the walk stays where each step leads -/
theorem wk_in {P : Int → Prop} (hE : ∀ x y, P x → E x y → P y) (ha : P a) : ∀ {d : Nat} {b : Int}, wk E d a b → P b
  | 0, b, h => by
    have e : a = b := h
    subst e
    exact ha
  | d + 1, b, ⟨x, h1, h2⟩ => hE x b (wk_in hE ha h1) h2
theorem rc_refl : rc E a a := ⟨0, rfl⟩
theorem rc_trans (h1 : rc E a b) (h2 : rc E b c) : rc E a c := by
  obtain ⟨d, h1⟩ := h1
  obtain ⟨e, h2⟩ := h2
  exact ⟨d + e, wk_cat h1 h2⟩
theorem rc_sym (hE : ∀ x y, E x y → E y x) (h : rc E a b) : rc E b a := by
  obtain ⟨d, h⟩ := h
  exact ⟨d, wk_sym hE h⟩
theorem rc_1 (h : E a b) : rc E a b := ⟨1, wk_1 h⟩
theorem rc_step (h1 : rc E a b) (h2 : E b c) : rc E a c := rc_trans h1 (rc_1 h2)
theorem rc_in {P : Int → Prop} (hE : ∀ x y, P x → E x y → P y) (ha : P a) (h : rc E a b) : P b := by
  obtain ⟨d, h⟩ := h
  exact wk_in hE ha h
theorem rc_mono (hE : ∀ x y, E x y → F x y) (h : rc E a b) : rc F a b := by
  obtain ⟨d, h⟩ := h
  exact ⟨d, wk_mono hE h⟩
theorem sh_ex (h : rc E a b) : ∃ d, sh E a d b := by
  obtain ⟨d, h1, h2⟩ := least_ex h
  exact ⟨d, h1, h2⟩
theorem sh_le (h : wk E d a b) : ∃ e, e ≤ d ∧ sh E a e b := by
  obtain ⟨e, h1, h2⟩ := least_ex (P := fun d => wk E d a b) ⟨d, h⟩
  refine ⟨e, ?_, h1, h2⟩
  refine Classical.byContradiction fun q => h2 d (by omega) h
theorem sh_un (h1 : sh E a d b) (h2 : sh E a e b) : d = e := by
  refine Classical.byContradiction fun q => ?_
  rcases Nat.lt_or_gt_of_ne q with h | h
  · exact h2.2 d h h1.1
  · exact h1.2 e h h2.1
theorem sh_0 : sh E a 0 b ↔ b = a := ⟨fun h => Eq.symm h.1, fun h => ⟨Eq.symm h, fun e he => by omega⟩⟩
theorem sh_s : sh E a (d + 1) b ↔ (∃ c, sh E a d c ∧ E c b) ∧ ∀ e, e ≤ d → ¬ sh E a e b := by
  constructor
  · rintro ⟨⟨c, h1, h2⟩, h3⟩
    refine ⟨⟨c, ⟨h1, fun e he hw => h3 (e + 1) (by omega) ⟨c, hw, h2⟩⟩, h2⟩, fun e he hs => h3 e (by omega) hs.1⟩
  · rintro ⟨⟨c, h1, h2⟩, h3⟩
    refine ⟨⟨c, h1.1, h2⟩, fun e he hw => ?_⟩
    obtain ⟨e', h4, h5⟩ := sh_le hw
    exact h3 e' (by omega) h5
theorem ds_eq (h : sh E a d b) : ds E a b = d := by
  have hx : ∃ d, sh E a d b := ⟨d, h⟩
  unfold ds
  rw [dif_pos hx, sh_un (Classical.choose_spec hx) h]
theorem ds_far (h : ¬ rc E a b) : ds E a b = 1000 := by
  unfold ds
  rw [dif_neg (fun q => by obtain ⟨d, q⟩ := q; exact h ⟨d, q.1⟩)]
theorem ds_sh (h : rc E a b) : ∃ d : Nat, sh E a d b ∧ ds E a b = d := by
  obtain ⟨d, hd⟩ := sh_ex h
  exact ⟨d, hd, ds_eq hd⟩
theorem sh_ds (h : rc E a b) : sh E a d b ↔ ds E a b = d := by
  obtain ⟨e, h1, h2⟩ := ds_sh h
  constructor
  · exact ds_eq
  · intro q
    have : e = d := by omega
    subst this
    exact h1
theorem ds_0 : ds E a a = 0 := ds_eq (d := 0) (sh_0.mpr rfl)
theorem ds_nn (h : rc E a b) : 0 ≤ ds E a b := by
  obtain ⟨d, -, e⟩ := ds_sh h
  omega
theorem ds_z (h : rc E a b) (h2 : ds E a b = 0) : a = b := by
  obtain ⟨d, h1, e⟩ := ds_sh h
  have : d = 0 := by omega
  subst this
  exact (sh_0.mp h1).symm
theorem ds_wk (h : wk E d a b) : ds E a b ≤ d := by
  obtain ⟨e, h1, h2⟩ := sh_le h
  rw [ds_eq h2]
  omega
theorem ds_wk2 (h : rc E a b) : wk E (ds E a b).toNat a b := by
  obtain ⟨d, h1, e⟩ := ds_sh h
  rw [e]
  exact h1.1
theorem ds_tri (h1 : rc E a b) (h2 : rc E b c) : ds E a c ≤ ds E a b + ds E b c := by
  obtain ⟨d, h3, e1⟩ := ds_sh h1
  obtain ⟨e, h4, e2⟩ := ds_sh h2
  rw [e1, e2]
  have := ds_wk (wk_cat h3.1 h4.1)
  omega
theorem ds_comm (hE : ∀ x y, E x y → E y x) : ds E a b = ds E b a := by
  by_cases h : rc E a b
  · have h' := rc_sym hE h
    obtain ⟨d, h3, e1⟩ := ds_sh h
    obtain ⟨e, h4, e2⟩ := ds_sh h'
    have q1 := ds_wk (wk_sym hE h3.1)
    have q2 := ds_wk (wk_sym hE h4.1)
    omega
  · rw [ds_far h, ds_far (fun q => h (rc_sym hE q))]
theorem ds_1 (h : E a b) (hn : a ≠ b) : ds E a b = 1 := by
  refine ds_eq (d := 1) ⟨wk_1 h, fun e he hw => ?_⟩
  have : e = 0 := by omega
  subst this
  exact hn hw
theorem ds_1e (h : rc E a b) (h2 : ds E a b = 1) : E a b := by
  have := ds_wk2 h
  rw [h2] at this
  obtain ⟨x, h3, h4⟩ := this
  have e : a = x := h3
  subst e
  exact h4
/-- one step nearer -/
theorem ds_last (h : rc E a b) (h2 : a ≠ b) : ∃ c, E c b ∧ rc E a c ∧ ds E a c + 1 = ds E a b := by
  obtain ⟨d, h3, e⟩ := ds_sh h
  cases d with
  | zero => exact absurd (sh_0.mp h3).symm h2
  | succ d =>
    obtain ⟨⟨c, h4, h5⟩, -⟩ := sh_s.mp h3
    refine ⟨c, h5, ⟨d, h4.1⟩, ?_⟩
    rw [ds_eq h4, e]
    omega
end WK
/-! ===== drawers ===== -/
theorem pig : ∀ (n m : Nat) (f : Nat → Int), (∀ i, i < m → 0 ≤ f i ∧ f i < n) → (∀ i j, i < m → j < m → f i = f j → i = j) → m ≤ n
  | 0, m, f, h1, _ => by
    cases m with
    | zero => exact Nat.le_refl _
    | succ m =>
      have := h1 0 (by omega)
      omega
  | n + 1, m, f, h1, h2 => by
    by_cases c : ∃ i, i < m ∧ f i = n
    · obtain ⟨i0, hi0, e0⟩ := c
      have := pig n (m - 1) (fun i => if i < i0 then f i else f (i + 1)) (fun i hi => by
        by_cases q : i < i0
        · have := h1 i (by omega)
          have e : f i ≠ n := fun e => by
            have := h2 i i0 (by omega) hi0 (e.trans e0.symm)
            omega
          simp only [q, if_true]
          omega
        · have := h1 (i + 1) (by omega)
          have e : f (i + 1) ≠ n := fun e => by
            have := h2 (i + 1) i0 (by omega) hi0 (e.trans e0.symm)
            omega
          simp only [q, if_false]
          omega) (fun i j hi hj e => by
        by_cases q1 : i < i0
        · by_cases q2 : j < i0
          · simp only [q1, q2, if_true] at e
            exact h2 i j (by omega) (by omega) e
          · simp only [q1, q2, if_true, if_false] at e
            have := h2 i (j + 1) (by omega) (by omega) e
            omega
        · by_cases q2 : j < i0
          · simp only [q1, q2, if_true, if_false] at e
            have := h2 (i + 1) j (by omega) (by omega) e
            omega
          · simp only [q1, q2, if_false] at e
            have := h2 (i + 1) (j + 1) (by omega) (by omega) e
            omega)
      omega
    · have := pig n m f (fun i hi => by
        have := h1 i hi
        have e : f i ≠ n := fun e => c ⟨i, hi, e⟩
        omega) h2
      omega
/-- distances are below the number of points -/
theorem sh_lv {E : Int → Int → Prop} {a : Int} : ∀ {d : Nat} {b : Int}, sh E a d b → ∀ e, e ≤ d → ∃ c, sh E a e c
  | 0, b, h, e, he => by
    have : e = 0 := by omega
    subst this
    exact ⟨b, h⟩
  | d + 1, b, h, e, he => by
    by_cases q : e = d + 1
    · subst q
      exact ⟨b, h⟩
    · obtain ⟨⟨c, h4, -⟩, -⟩ := sh_s.mp h
      exact sh_lv h4 e (by omega)
theorem sh_lt {E : Int → Int → Prop} {a : Int} {n : Nat} (hE : ∀ x y, (0 ≤ x ∧ x < (n : Int)) → E x y → 0 ≤ y ∧ y < (n : Int)) (ha : 0 ≤ a ∧ a < (n : Int)) {d : Nat} {b : Int} (h : sh E a d b) : d < n := by
  have H : ∀ e, ∃ c, e ≤ d → sh E a e c := fun e => by
    by_cases q : e ≤ d
    · obtain ⟨c, hc⟩ := sh_lv h e q
      exact ⟨c, fun _ => hc⟩
    · exact ⟨0, fun z => absurd z q⟩
  have := pig n (d + 1) (fun e => Classical.choose (H e)) (fun i hi => by
    have h1 := Classical.choose_spec (H i) (by omega)
    exact wk_in (P := fun x => 0 ≤ x ∧ x < (n : Int)) hE ha h1.1) (fun i j hi hj e => by
    have h1 := Classical.choose_spec (H i) (by omega)
    have h2 := Classical.choose_spec (H j) (by omega)
    have e2 : Classical.choose (H i) = Classical.choose (H j) := e
    rw [e2] at h1
    exact sh_un h1 h2)
  omega
/-! ===== nets ===== -/
/-- the rows of a net: the cell's first twenty places, from o on -/
def nr (h : am_H) (q o : Int) : Int → Int := fun p => if 0 ≤ p ∧ p < 20 then h q (o + p) else 0
def ad (r : Int → Int) (p q : Int) : Prop := bit (r p) q
def NT (n : Int) (r : Int → Int) : Prop := 0 ≤ n ∧ n ≤ 20 ∧ ∀ p q, ad r p q → (0 ≤ p ∧ p < n) ∧ (0 ≤ q ∧ q < n) ∧ p ≠ q ∧ ad r q p
/-- connected -/
def CN (n : Int) (r : Int → Int) : Prop := ∀ p, 0 ≤ p → p < n → rc (ad r) 0 p
section NET
variable {n : Int} {r : Int → Int} {p q a b : Int}
theorem NT_sym (h : NT n r) (x y : Int) (e : ad r x y) : ad r y x := (h.2.2 x y e).2.2.2
theorem NT_in (h : NT n r) (e : ad r p q) : (0 ≤ p ∧ p < n) ∧ (0 ≤ q ∧ q < n) := ⟨(h.2.2 p q e).1, (h.2.2 p q e).2.1⟩
theorem NT_rc (h : NT n r) (ha : 0 ≤ a ∧ a < n) (e : rc (ad r) a b) : 0 ≤ b ∧ b < n := rc_in (P := fun x => 0 ≤ x ∧ x < n) (fun x y _ q => (NT_in h q).2) ha e
theorem CN_rc (h : NT n r) (hc : CN n r) (ha : 0 ≤ a ∧ a < n) (hb : 0 ≤ b ∧ b < n) : rc (ad r) a b := rc_trans (rc_sym (NT_sym h) (hc a ha.1 ha.2)) (hc b hb.1 hb.2)
theorem NT_lt (h : NT n r) (ha : 0 ≤ a ∧ a < n) {d : Nat} (e : sh (ad r) a d b) : (d : Int) < n := by
  have := sh_lt (n := n.toNat) (fun x y _ q => by have := (NT_in h q).2; omega) (by have := h.1; omega) e
  omega
theorem ds_r (h : NT n r) (hc : CN n r) (ha : 0 ≤ a ∧ a < n) (hb : 0 ≤ b ∧ b < n) : 0 ≤ ds (ad r) a b ∧ ds (ad r) a b < n := by
  obtain ⟨d, h1, e⟩ := ds_sh (CN_rc h hc ha hb)
  have := NT_lt h ha h1
  omega
end NET
