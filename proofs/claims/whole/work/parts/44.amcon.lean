/-! ===== contracts: the arguments ===== -/
def am_a0 (as : List am_V) (F : Prop) : Prop := match as with
  | [] => F
  | _ => False
def am_a1 (as : List am_V) (F : am_V → Prop) : Prop := match as with
  | [v0] => F v0
  | _ => False
def am_a2 (as : List am_V) (F : am_V → am_V → Prop) : Prop := match as with
  | [v0, v1] => F v0 v1
  | _ => False
def am_a3 (as : List am_V) (F : am_V → am_V → am_V → Prop) : Prop := match as with
  | [v0, v1, v2] => F v0 v1 v2
  | _ => False
def am_a4 (as : List am_V) (F : am_V → am_V → am_V → am_V → Prop) : Prop := match as with
  | [v0, v1, v2, v3] => F v0 v1 v2 v3
  | _ => False
def am_a5 (as : List am_V) (F : am_V → am_V → am_V → am_V → am_V → Prop) : Prop := match as with
  | [v0, v1, v2, v3, v4] => F v0 v1 v2 v3 v4
  | _ => False
def am_a6 (as : List am_V) (F : am_V → am_V → am_V → am_V → am_V → am_V → Prop) : Prop := match as with
  | [v0, v1, v2, v3, v4, v5] => F v0 v1 v2 v3 v4 v5
  | _ => False
def am_a7 (as : List am_V) (F : am_V → am_V → am_V → am_V → am_V → am_V → am_V → Prop) : Prop := match as with
  | [v0, v1, v2, v3, v4, v5, v6] => F v0 v1 v2 v3 v4 v5 v6
  | _ => False
theorem am_a0_e {as : List am_V} {F : Prop} (h : am_a0 as F) : as = [] ∧ F := by
  unfold am_a0 at h
  split at h
  · exact ⟨rfl, h⟩
  · exact False.elim h
theorem am_a1_e {as : List am_V} {F : am_V → Prop} (h : am_a1 as F) : ∃ v0, as = [v0] ∧ F v0 := by
  unfold am_a1 at h
  split at h
  · exact ⟨_, rfl, h⟩
  · exact False.elim h
theorem am_a2_e {as : List am_V} {F : am_V → am_V → Prop} (h : am_a2 as F) : ∃ v0 v1, as = [v0, v1] ∧ F v0 v1 := by
  unfold am_a2 at h
  split at h
  · exact ⟨_, _, rfl, h⟩
  · exact False.elim h
theorem am_a3_e {as : List am_V} {F : am_V → am_V → am_V → Prop} (h : am_a3 as F) : ∃ v0 v1 v2, as = [v0, v1, v2] ∧ F v0 v1 v2 := by
  unfold am_a3 at h
  split at h
  · exact ⟨_, _, _, rfl, h⟩
  · exact False.elim h
theorem am_a4_e {as : List am_V} {F : am_V → am_V → am_V → am_V → Prop} (h : am_a4 as F) : ∃ v0 v1 v2 v3, as = [v0, v1, v2, v3] ∧ F v0 v1 v2 v3 := by
  unfold am_a4 at h
  split at h
  · exact ⟨_, _, _, _, rfl, h⟩
  · exact False.elim h
theorem am_a5_e {as : List am_V} {F : am_V → am_V → am_V → am_V → am_V → Prop} (h : am_a5 as F) : ∃ v0 v1 v2 v3 v4, as = [v0, v1, v2, v3, v4] ∧ F v0 v1 v2 v3 v4 := by
  unfold am_a5 at h
  split at h
  · exact ⟨_, _, _, _, _, rfl, h⟩
  · exact False.elim h
theorem am_a6_e {as : List am_V} {F : am_V → am_V → am_V → am_V → am_V → am_V → Prop} (h : am_a6 as F) : ∃ v0 v1 v2 v3 v4 v5, as = [v0, v1, v2, v3, v4, v5] ∧ F v0 v1 v2 v3 v4 v5 := by
  unfold am_a6 at h
  split at h
  · exact ⟨_, _, _, _, _, _, rfl, h⟩
  · exact False.elim h
theorem am_a7_e {as : List am_V} {F : am_V → am_V → am_V → am_V → am_V → am_V → am_V → Prop} (h : am_a7 as F) : ∃ v0 v1 v2 v3 v4 v5 v6, as = [v0, v1, v2, v3, v4, v5, v6] ∧ F v0 v1 v2 v3 v4 v5 v6 := by
  unfold am_a7 at h
  split at h
  · exact ⟨_, _, _, _, _, _, _, rfl, h⟩
  · exact False.elim h
def am_n (v : am_V) (F : Int → Prop) : Prop := match v with
  | .inl (x, true) => F x
  | _ => False
def am_j (v : am_V) (F : Int → Prop) : Prop := match v with
  | .inr (.inl (x, true)) => F x
  | _ => False
def am_bo (v : am_V) (F : Prop → Prop) : Prop := match v with
  | .inl (x, _) => (x = 0 ∨ x = 1) ∧ F (x = 1)
  | .inr (.inr (.inr (.inl p))) => F p
  | _ => False
def am_r (k n m : Nat) (v : am_V) (F : Int → Prop) : Prop := match v with
  | .inr (.inr (.inl (k', n', m', a))) => (match Nat.beq k' k, Nat.beq n' n, Nat.beq m' m with
    | true, true, true => F a
    | _, _, _ => False)
  | _ => False
abbrev am_o (c : Nat) (v : am_V) (F : Int → Prop) : Prop := am_r 1 c 0 v F
theorem am_n_e {v : am_V} {F : Int → Prop} (h : am_n v F) : ∃ x, v = mB x ∧ F x := by
  unfold am_n at h
  split at h
  · exact ⟨_, rfl, h⟩
  · exact False.elim h
theorem am_j_e {v : am_V} {F : Int → Prop} (h : am_j v F) : ∃ x, v = mK x ∧ F x := by
  unfold am_j at h
  split at h
  · exact ⟨_, rfl, h⟩
  · exact False.elim h
theorem am_r_e {k n m : Nat} {v : am_V} {F : Int → Prop} (h : am_r k n m v F) : ∃ a, v = mR k n m a ∧ F a := by
  unfold am_r at h
  split at h
  · split at h
    · rename_i k' n' m' a _ _ _ h1 h2 h3
      have e1 : k' = k := by simpa using h1
      have e2 : n' = n := by simpa using h2
      have e3 : m' = m := by simpa using h3
      subst e1
      subst e2
      subst e3
      exact ⟨_, rfl, h⟩
    · exact False.elim h
  · exact False.elim h
theorem am_o_e {c : Nat} {v : am_V} {F : Int → Prop} (h : am_o c v F) : ∃ a, v = mR 1 c 0 a ∧ F a := am_r_e h
/-- a value as another one that stands for the same -/
def am_sm (w v : am_V) : Prop := am_cv w = am_cv v ∧ (am_ok v → am_ok w)
theorem am_se {v : am_V} : am_sm v v := ⟨rfl, id⟩
theorem am_bo_e {v : am_V} {F : Prop → Prop} (h : am_bo v F) : ∃ p, (am_sm (mP p) v ∧ am_cat v = 1) ∧ F p := by
  unfold am_bo at h
  split at h
  · rename_i x f
    refine ⟨x = 1, ⟨⟨?_, fun _ => trivial⟩, rfl⟩, h.2⟩
    show Value.int (Int32.ofInt (am_b (x = 1))) = Value.int (Int32.ofInt x)
    rcases h.1 with rfl | rfl
    · rw [am_b_f (by decide)]
    · rw [am_b_t rfl]
  · exact ⟨_, ⟨am_se, rfl⟩, h⟩
  · exact False.elim h
def am_sb : am_L → am_L → Prop
  | [], _ => True
  | none :: l', _ :: l => am_sb l' l
  | some w :: l', some v :: l => am_sm w v ∧ am_sb l' l
  | _, _ => False
theorem am_sb_r : ∀ l : am_L, am_sb l l
  | [] => trivial
  | none :: l => am_sb_r l
  | some v :: l => ⟨am_se, am_sb_r l⟩
theorem am_sb_get : ∀ (l' l : am_L), am_sb l' l → ∀ (i : Nat) (w : am_V), l'[i]? = some (some w) → ∃ v, l[i]? = some (some v) ∧ am_sm w v
  | [], l, _, i, w, h => by simp at h
  | none :: l', [], H, i, w, h => False.elim H
  | none :: l', v :: l, H, 0, w, h => by cases h
  | none :: l', v :: l, H, i + 1, w, h => by
    obtain ⟨v', a, b⟩ := am_sb_get l' l H i w (by simpa using h)
    exact ⟨v', by simpa using a, b⟩
  | some u :: l', [], H, i, w, h => False.elim H
  | some u :: l', none :: l, H, i, w, h => False.elim H
  | some u :: l', some v :: l, H, 0, w, h => by
    cases h
    exact ⟨v, rfl, H.1⟩
  | some u :: l', some v :: l, H, i + 1, w, h => by
    obtain ⟨v', a, b⟩ := am_sb_get l' l H.2 i w (by simpa using h)
    exact ⟨v', by simpa using a, b⟩
theorem am_AT_sub {d m pc : Nat} {lv lv' : am_L} {h : am_H} {R : Option am_V → am_H → Prop} (H : am_sb lv' lv) (A : am_AT d m pc lv' h R) : am_AT d m pc lv h R := by
  intro t lvc G ht hw hl hr
  refine A t lvc G ht hw ?_ ?_
  · intro i w e
    obtain ⟨v, a, b⟩ := am_sb_get lv' lv H i w e
    exact b.2 (hl i v a)
  · intro i w e
    obtain ⟨v, a, b⟩ := am_sb_get lv' lv H i w e
    rw [b.1]
    exact hr i v a
theorem am_sb_c {w v : am_V} {l' l : am_L} (h : am_sm w v) (H : am_sb l' l) : am_sb (some w :: l') (some v :: l) := ⟨h, H⟩
theorem am_sb_n {v : Option am_V} {l' l : am_L} (H : am_sb l' l) : am_sb (none :: l') (v :: l) := H
/-- what holds of the locals and of the memory may be used -/
theorem am_AT_ok {d m pc : Nat} {lv : am_L} {h : am_H} {R : Option am_V → am_H → Prop} (H : am_wf h → am_okL lv → am_AT d m pc lv h R) : am_AT d m pc lv h R :=
  fun t lvc G ht hw hl hr => H hw hl t lvc G ht hw hl hr
theorem am_AT_mono {d m pc : Nat} {lv : am_L} {h : am_H} {R R' : Option am_V → am_H → Prop} (H : am_AT d m pc lv h R) (hR : ∀ v h', R v h' → R' v h') : am_AT d m pc lv h R' := by
  intro t lvc G ht hw hl hr
  obtain ⟨v, h', a, b, c, e⟩ := H t lvc G ht hw hl hr
  exact ⟨v, h', hR v h' a, b, c, e⟩
/-- an answer yes or no -/
theorem am_rb {R : Option am_V → am_H → Prop} {h : am_H} {p q : Prop} (H : R (some (mP p)) h) (e : p ↔ q) : R (some (mP q)) h := by
  rw [← propext e]
  exact H
theorem am_rb1 {R : Option am_V → am_H → Prop} {h : am_H} {p : Prop} (H : R (some (mP p)) h) (e : p) : R (some (mP ((1 : Int) = 1))) h := am_rb H ⟨fun _ => rfl, fun _ => e⟩
theorem am_rb0 {R : Option am_V → am_H → Prop} {h : am_H} {p : Prop} (H : R (some (mP p)) h) (e : ¬ p) : R (some (mP ((0 : Int) = 1))) h := am_rb H ⟨fun q => absurd q e, fun q => absurd q (by decide)⟩
theorem am_rB {R : Option am_V → am_H → Prop} {h : am_H} {x y : Int} (H : R (some (mB x)) h) (e : x = y) : R (some (mB y)) h := by
  rw [← e]
  exact H
theorem am_rK {R : Option am_V → am_H → Prop} {h : am_H} {x y : Int} (H : R (some (mK x)) h) (e : x = y) : R (some (mK y)) h := by
  rw [← e]
  exact H
