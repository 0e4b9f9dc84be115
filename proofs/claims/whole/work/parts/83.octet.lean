/-! ===== a power modulo 1000003, by squaring ===== -/
def pwR : Nat → Int → Int → Int → Int
  | 0, v, _, _ => v
  | f + 1, v, s, e => if e ≤ 0 then v else pwR f (if Int.tmod e 2 = 1 then Int.tmod (v * s) 1000003 else v) (Int.tmod (s * s) 1000003) (Int.tdiv e 2)
def pwm (b e : Int) : Int := pwR 20 1 b e
theorem md_r {x : Int} (h : 0 ≤ x) : 0 ≤ Int.tmod x 1000003 ∧ Int.tmod x 1000003 < 1000003 := ⟨Int.tmod_nonneg _ h, Int.tmod_lt_of_pos _ (by omega)⟩
theorem ml_r {x y : Int} (hx : 0 ≤ x ∧ x < 1000003) (hy : 0 ≤ y ∧ y < 1000003) : 0 ≤ x * y ∧ x * y < 1000006000009 := by
  have h1 := Int.mul_nonneg hx.1 hy.1
  have h2 := Int.mul_le_mul_of_nonneg_left (show y ≤ 1000003 by omega) hx.1
  omega
theorem pw_0 {f : Nat} {v s e : Int} (h : e ≤ 0) : pwR f v s e = v := by
  cases f with
  | zero => rfl
  | succ f => exact if_pos h
theorem pw_t {f : Nat} {v s e : Int} (h : 0 < e) (h2 : Int.tmod e 2 = 1) : pwR (f + 1) v s e = pwR f (Int.tmod (v * s) 1000003) (Int.tmod (s * s) 1000003) (Int.tdiv e 2) := by
  show (if e ≤ 0 then v else pwR f (if Int.tmod e 2 = 1 then Int.tmod (v * s) 1000003 else v) (Int.tmod (s * s) 1000003) (Int.tdiv e 2)) = _
  rw [if_neg (by omega), if_pos h2]
theorem pw_f {f : Nat} {v s e : Int} (h : 0 < e) (h2 : ¬ Int.tmod e 2 = 1) : pwR (f + 1) v s e = pwR f v (Int.tmod (s * s) 1000003) (Int.tdiv e 2) := by
  show (if e ≤ 0 then v else pwR f (if Int.tmod e 2 = 1 then Int.tmod (v * s) 1000003 else v) (Int.tmod (s * s) 1000003) (Int.tdiv e 2)) = _
  rw [if_neg (by omega), if_neg h2]
theorem td_2 {e : Int} (h : 0 ≤ e) : Int.tdiv e 2 = e / 2 := Int.tdiv_eq_ediv_of_nonneg h
/-! 116 FactorNets.octet -/
def C116 : am_K := fun as h K => am_a2 as (fun v0 v1 => am_oc 11 0 v0 (am_n v1 (fun i => (0 ≤ h 0 15 ∧ h 0 15 ≤ 64) ∧ (K (some (mB (ifc (0 ≤ i ∧ i < h 0 15) (h 498 i) (-1)))) h))))
theorem W116 {d : Nat} (H : ∀ (i : Int) (h : am_H) (K : Option am_V → am_H → Prop), (0 ≤ h 0 15 ∧ h 0 15 ≤ 64) ∧ (K (some (mB (ifc (0 ≤ i ∧ i < h 0 15) (h 498 i) (-1)))) h) → am_AT d 116 0 [some (mR 1 11 0 0), some (mB i)] h K) : am_CS d 116 C116 := by
  refine am_CS_of (T := tb116) (mL := 2) (rk := 1) rfl (fun as h K hC => ?_)
  obtain ⟨v0, v1, rfl, hC0⟩ := am_a2_e hC
  obtain ⟨e0, hC1⟩ := am_oc_e hC0
  subst e0
  obtain ⟨i, rfl, hC2⟩ := am_n_e hC1
  refine ⟨Nat.le_of_ble_eq_true rfl, ?_⟩
  exact H i h K hC2
theorem T116_0 {R : Option am_V → am_H → Prop} {h : am_H} {i : Int} (t : ((i < 0) → (R (some (mB (-1))) h)) ∧ ((0 ≤ i) → (((h 0 15 ≤ i) → (R (some (mB (-1))) h)) ∧ ((i < h 0 15) → ((0 ≤ i ∧ i < 64) ∧ (R (some (mB (h 498 i))) h)))))) : am_AT 1 116 0 [some (mR 1 11 0 0), some (mB i)] h R :=
  am_T (d := 0) (m := 116) (T := tb116) (mL := 2) (rk := 1) (cuts := []) (l := []) rfl trivial 16 (And.intro (fun c1 => (t).1 c1) (fun c1 => And.intro (fun c2 => ((t).2 c1).1 c2) (fun c2 => And.intro (((t).2 c1).2 c2).1 ((((t).2 c1).2 c2).2))))
theorem C116_ok : am_CS 1 116 C116 := W116 (fun i h K hb => by
  refine T116_0 ⟨fun c1 => ?_, fun c1 => ⟨fun c2 => ?_, fun c2 => ⟨by omega, ?_⟩⟩⟩
  · exact am_rB hb.2 (ifc_f (by omega))
  · exact am_rB hb.2 (ifc_f (by omega))
  · exact am_rB hb.2 (ifc_t ⟨c1, c2⟩))
/-! 253 FactorNetsModel.octet -/
def C253 : am_K := fun as h K => am_a2 as (fun v0 v1 => am_oc 12 571 v0 (am_n v1 (fun i => (0 ≤ h 571 29 ∧ h 571 29 ≤ 400) ∧ (K (some (mB (ifc (0 ≤ i ∧ i < h 571 29) (h 587 i) (-1)))) h))))
theorem W253 {d : Nat} (H : ∀ (i : Int) (h : am_H) (K : Option am_V → am_H → Prop), (0 ≤ h 571 29 ∧ h 571 29 ≤ 400) ∧ (K (some (mB (ifc (0 ≤ i ∧ i < h 571 29) (h 587 i) (-1)))) h) → am_AT d 253 0 [some (mR 1 12 0 571), some (mB i)] h K) : am_CS d 253 C253 := by
  refine am_CS_of (T := tb253) (mL := 2) (rk := 1) rfl (fun as h K hC => ?_)
  obtain ⟨v0, v1, rfl, hC0⟩ := am_a2_e hC
  obtain ⟨e0, hC1⟩ := am_oc_e hC0
  subst e0
  obtain ⟨i, rfl, hC2⟩ := am_n_e hC1
  refine ⟨Nat.le_of_ble_eq_true rfl, ?_⟩
  exact H i h K hC2
theorem T253_0 {R : Option am_V → am_H → Prop} {h : am_H} {i : Int} (t : (R32 ((h 571 29) - 1)) ∧ (((¬ ((0 : Int) ≤ i ∧ i ≤ ((h 571 29) - 1))) → (R (some (mB (-1))) h)) ∧ (((0 : Int) ≤ i ∧ i ≤ ((h 571 29) - 1)) → ((0 ≤ i ∧ i < 400) ∧ (R (some (mB (h 587 i))) h))))) : am_AT 2 253 0 [some (mR 1 12 0 571), some (mB i)] h R :=
  am_T (d := 1) (m := 253) (T := tb253) (mL := 2) (rk := 1) (cuts := []) (l := [(187, C187)]) rfl ⟨am_CS_d (by decide) C187_ok, trivial⟩ 20 (And.intro (t).1 (And.intro (fun c3 => ((t).2).1 c3) (fun c3 => And.intro (((t).2).2 c3).1 ((((t).2).2 c3).2))))
theorem C253_ok : am_CS 2 253 C253 := W253 (fun i h K hb => by
  refine T253_0 ⟨by omega, ⟨fun c1 => ?_, fun c1 => ⟨by omega, ?_⟩⟩⟩
  · exact am_rB hb.2 (ifc_f (by omega))
  · exact am_rB hb.2 (ifc_t (by omega)))
/-! 289 FactorNetsModel.power -/
def C289 : am_K := fun as h K => am_a2 as (fun v0 v1 => am_j v0 (fun b => am_n v1 (fun e => ((0 ≤ b ∧ b < 1000003) ∧ 0 ≤ e ∧ e < 1048576) ∧ (K (some (mK (pwm b e))) h))))
theorem W289 {d : Nat} (H : ∀ (b : Int) (e : Int) (h : am_H) (K : Option am_V → am_H → Prop), ((0 ≤ b ∧ b < 1000003) ∧ 0 ≤ e ∧ e < 1048576) ∧ (K (some (mK (pwm b e))) h) → am_AT d 289 0 [some (mK b), none, some (mB e), none, none, none, none, none] h K) : am_CS d 289 C289 := by
  refine am_CS_of (T := tb289) (mL := 8) (rk := 2) rfl (fun as h K hC => ?_)
  obtain ⟨v0, v1, rfl, hC0⟩ := am_a2_e hC
  obtain ⟨b, rfl, hC1⟩ := am_j_e hC0
  obtain ⟨e, rfl, hC2⟩ := am_n_e hC1
  refine ⟨Nat.le_of_ble_eq_true rfl, ?_⟩
  exact H b e h K hC2
theorem T289_0 {R : Option am_V → am_H → Prop} {h : am_H} {b : Int} {e : Int} (t : am_AT 1 289 8 [none, none, none, some (mJ 1), none, some (mJ b), none, some (mI e)] h R) : am_AT 1 289 0 [some (mK b), none, some (mB e), none, none, none, none, none] h R :=
  am_T (d := 0) (m := 289) (T := tb289) (mL := 8) (rk := 2) (cuts := [(8, [0, 0, 0, 2, 0, 2, 0, 2])]) (l := []) rfl trivial 10 (t)
theorem T289_8 {R : Option am_V → am_H → Prop} {h : am_H} {x3 : Int} {x5 : Int} {x7 : Int} (t : (R32 x7) ∧ (((x7 ≤ 0) → ((R64 x3) ∧ (R (some (mK x3)) h))) ∧ ((0 < x7) → ((R32 x7) ∧ (((¬ Int.tmod x7 2 = 1) → ((R64 (x5 * x5)) ∧ ((R32 x7) ∧ (am_AT 1 289 8 [none, none, none, some (mJ x3), none, some (mJ (Int.tmod (x5 * x5) 1000003)), none, some (mI (Int.tdiv x7 2))] h R)))) ∧ ((Int.tmod x7 2 = 1) → ((R64 (x3 * x5)) ∧ ((R64 (x5 * x5)) ∧ ((R32 x7) ∧ (am_AT 1 289 8 [none, none, none, some (mJ (Int.tmod (x3 * x5) 1000003)), none, some (mJ (Int.tmod (x5 * x5) 1000003)), none, some (mI (Int.tdiv x7 2))] h R)))))))))) : am_AT 1 289 8 [none, none, none, some (mJ x3), none, some (mJ x5), none, some (mI x7)] h R :=
  am_T (d := 0) (m := 289) (T := tb289) (mL := 8) (rk := 2) (cuts := [(8, [0, 0, 0, 2, 0, 2, 0, 2])]) (l := []) rfl trivial 29 (And.intro (t).1 (And.intro (fun c4 => And.intro (((t).2).1 c4).1 ((((t).2).1 c4).2)) (fun c4 => And.intro (((t).2).2 c4).1 (And.intro (by decide) (And.intro (fun c5 => And.intro (((((t).2).2 c4).2).1 c5).1 (And.intro (by decide) (And.intro ((((((t).2).2 c4).2).1 c5).2).1 (And.intro (by decide) (((((((t).2).2 c4).2).1 c5).2).2))))) (fun c5 => And.intro (((((t).2).2 c4).2).2 c5).1 (And.intro (by decide) (And.intro ((((((t).2).2 c4).2).2 c5).2).1 (And.intro (by decide) (And.intro (((((((t).2).2 c4).2).2 c5).2).2).1 (And.intro (by decide) ((((((((t).2).2 c4).2).2 c5).2).2).2))))))))))))
theorem L289 {K : Option am_V → am_H → Prop} {h : am_H} {N : Int} (hK : K (some (mK N)) h) : ∀ (f : Nat) (v s e : Int), e < 2 ^ f → (0 ≤ v ∧ v < 1000003) → (0 ≤ s ∧ s < 1000003) → (0 ≤ e ∧ e < 1048576) → pwR f v s e = N → am_AT 1 289 8 [none, none, none, some (mJ v), none, some (mJ s), none, some (mI e)] h K := by
  intro f
  induction f with
  | zero =>
    intro v s e he hv hs hr hN
    have he' : e < 1 := he
    refine T289_8 ⟨by omega, ⟨fun c1 => ⟨by omega, ?_⟩, fun c1 => ⟨by omega, ⟨fun c2 => ⟨by omega, ⟨by omega, ?_⟩⟩, fun c2 => ⟨by omega, ⟨by omega, ⟨by omega, ?_⟩⟩⟩⟩⟩⟩⟩
    · rw [pw_0 c1] at hN
      exact am_rK hK hN.symm
    · exfalso; omega
    · exfalso; omega
  | succ f ih =>
    intro v s e he hv hs hr hN
    rw [Int.pow_succ] at he
    have vs := ml_r hv hs
    have ss := ml_r hs hs
    have m1 := md_r vs.1
    have m2 := md_r ss.1
    have t2 := td_2 hr.1
    refine T289_8 ⟨by omega, ⟨fun c1 => ⟨by omega, ?_⟩, fun c1 => ⟨by omega, ⟨fun c2 => ⟨by unfold R64; omega, ⟨by omega, ?_⟩⟩, fun c2 => ⟨by unfold R64; omega, ⟨by unfold R64; omega, ⟨by omega, ?_⟩⟩⟩⟩⟩⟩⟩
    · rw [pw_0 c1] at hN
      exact am_rK hK hN.symm
    · exact ih _ _ _ (by omega) hv m2 (by omega) ((pw_f c1 c2).symm.trans hN)
    · exact ih _ _ _ (by omega) m1 m2 (by omega) ((pw_t c1 c2).symm.trans hN)
theorem p2_20 : (2 : Int) ^ 20 = 1048576 := by decide
theorem C289_ok : am_CS 1 289 C289 := W289 (fun b e h K hb => T289_0 (L289 hb.2 20 1 b e (by rw [p2_20]; exact hb.1.2.2) (by omega) hb.1.1 hb.1.2 rfl))
