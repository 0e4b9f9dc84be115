/-! ===== the class's power ===== -/
def exq (i : Nat) : Int := 1000001 / 2 ^ i
theorem exq_t : ∀ i : Nat, i < 20 → Int.tdiv (exq i) 2 = exq (i + 1) ∧ 0 < exq i ∧ (jAnd (jShr 1000001 (i : Int)) 1 = 0 ↔ ¬ Int.tmod (exq i) 2 = 1) := by decide +kernel
/-! 186 FactorNets.power -/
def C186 : am_K := fun as h K => am_a2 as (fun v0 v1 => am_j v0 (fun b => am_j v1 (fun e => ((0 ≤ b ∧ b < 1000003) ∧ e = 1000001) ∧ (K (some (mK (pwm b 1000001))) h))))
theorem W186 {d : Nat} (H : ∀ (b : Int) (e : Int) (h : am_H) (K : Option am_V → am_H → Prop), ((0 ≤ b ∧ b < 1000003) ∧ e = 1000001) ∧ (K (some (mK (pwm b 1000001))) h) → am_AT d 186 0 [some (mK b), none, some (mK e), none, none, none, none, none, none] h K) : am_CS d 186 C186 := by
  refine am_CS_of (T := tb186) (mL := 9) (rk := 2) rfl (fun as h K hC => ?_)
  obtain ⟨v0, v1, rfl, hC0⟩ := am_a2_e hC
  obtain ⟨b, rfl, hC1⟩ := am_j_e hC0
  obtain ⟨e, rfl, hC2⟩ := am_j_e hC1
  refine ⟨Nat.le_of_ble_eq_true rfl, ?_⟩
  exact H b e h K hC2
theorem T186_0 {R : Option am_V → am_H → Prop} {h : am_H} {b : Int} {e : Int} (t : am_AT 1 186 9 [none, none, some (mK e), none, some (mJ 1), none, some (mJ b), none, some (mI 0)] h R) : am_AT 1 186 0 [some (mK b), none, some (mK e), none, none, none, none, none, none] h R :=
  am_T (d := 0) (m := 186) (T := tb186) (mL := 9) (rk := 2) (cuts := [(9, [0, 0, 1, 0, 2, 0, 2, 0, 2])]) (l := []) rfl trivial 10 (t)
theorem T186_9 {R : Option am_V → am_H → Prop} {h : am_H} {e : Int} {x4 : Int} {x6 : Int} {x8 : Int} (t : (R32 x8) ∧ (((20 ≤ x8) → ((R64 x4) ∧ (R (some (mK x4)) h))) ∧ ((x8 < 20) → (((jAnd (jShr e x8) 1 = 0) → ((R64 (x6 * x6)) ∧ (am_AT 1 186 9 [none, none, some (mK e), none, some (mJ x4), none, some (mJ (Int.tmod (x6 * x6) 1000003)), none, some (mI (x8 + 1))] h R))) ∧ ((¬ jAnd (jShr e x8) 1 = 0) → ((R64 (x4 * x6)) ∧ ((R64 (x6 * x6)) ∧ (am_AT 1 186 9 [none, none, some (mK e), none, some (mJ (Int.tmod (x4 * x6) 1000003)), none, some (mJ (Int.tmod (x6 * x6) 1000003)), none, some (mI (x8 + 1))] h R)))))))) : am_AT 1 186 9 [none, none, some (mK e), none, some (mJ x4), none, some (mJ x6), none, some (mI x8)] h R :=
  am_T (d := 0) (m := 186) (T := tb186) (mL := 9) (rk := 2) (cuts := [(9, [0, 0, 1, 0, 2, 0, 2, 0, 2])]) (l := []) rfl trivial 29 (And.intro (t).1 (And.intro (fun c1 => And.intro (((t).2).1 c1).1 ((((t).2).1 c1).2)) (fun c1 => And.intro (fun c2 => And.intro ((((t).2).2 c1).1 c2).1 (And.intro (by decide) (((((t).2).2 c1).1 c2).2))) (fun c2 => And.intro ((((t).2).2 c1).2 c2).1 (And.intro (by decide) (And.intro (((((t).2).2 c1).2 c2).2).1 (And.intro (by decide) ((((((t).2).2 c1).2 c2).2).2))))))))
theorem L186 {K : Option am_V → am_H → Prop} {h : am_H} {N : Int} (hK : K (some (mK N)) h) : ∀ (f : Nat) (v s : Int), f ≤ 20 → (0 ≤ v ∧ v < 1000003) → (0 ≤ s ∧ s < 1000003) → pwR f v s (exq (20 - f)) = N → am_AT 1 186 9 [none, none, some (mK 1000001), none, some (mJ v), none, some (mJ s), none, some (mI ((20 - f : Nat) : Int))] h K := by
  intro f
  induction f with
  | zero =>
    intro v s hf hv hs hN
    cases hN
    refine T186_9 ⟨by omega, ⟨fun c1 => ⟨by omega, ?_⟩, fun c1 => ⟨fun c2 => ⟨by omega, ?_⟩, fun c2 => ⟨by omega, ⟨by omega, ?_⟩⟩⟩⟩⟩
    · exact hK
    · exfalso; omega
    · exfalso; omega
  | succ f ih =>
    intro v s hf hv hs hN
    have vs := ml_r hv hs
    have ss := ml_r hs hs
    have m1 := md_r vs.1
    have m2 := md_r ss.1
    obtain ⟨t1, t2, t3⟩ := exq_t (20 - (f + 1)) (by omega)
    rw [show 20 - (f + 1) + 1 = 20 - f by omega] at t1
    have ei : ((20 - (f + 1) : Nat) : Int) + 1 = ((20 - f : Nat) : Int) := by omega
    refine T186_9 ⟨by omega, ⟨fun c1 => ⟨by omega, ?_⟩, fun c1 => ⟨fun c2 => ⟨by unfold R64; omega, ?_⟩, fun c2 => ⟨by unfold R64; omega, ⟨by unfold R64; omega, ?_⟩⟩⟩⟩⟩
    · exfalso; omega
    · rw [pw_f t2 (t3.mp c2), t1] at hN
      rw [ei]
      exact ih v _ (by omega) hv m2 hN
    · rw [pw_t t2 (Classical.byContradiction fun u => c2 (t3.mpr u)), t1] at hN
      rw [ei]
      exact ih _ _ (by omega) m1 m2 hN
theorem C186_ok : am_CS 1 186 C186 := W186 (fun b e h K hb => by
  obtain ⟨⟨hb1, he⟩, hK⟩ := hb
  subst he
  exact T186_0 (L186 hK 20 1 b (by omega) (by omega) hb1 rfl))
