/-! ===== the elimination: one column ===== -/
def RM (h : am_H) (A sz : Int) : Prop := ∀ r k, 0 ≤ r → r < sz → 0 ≤ k → k < sz → 0 ≤ h ((A + 1) + r) k ∧ h ((A + 1) + r) k < 1000003
def elf (x y b : Int) : Int := Int.tmod (x + (1000003 - b) * y) 1000003
def bbq (h : am_H) (A c r : Int) : Int := Int.tmod (h ((A + 1) + r) c * pwm (h ((A + 1) + c) c) 1000001) 1000003
def CLR (h g : am_H) (A c sz i : Int) : Prop := (∀ z k, ¬ ((A + 1) + c < z ∧ z < (A + 1) + i ∧ c ≤ k ∧ k < sz) → g z k = h z k) ∧ ∀ r, c < r → r < i → ∀ k, c ≤ k → k < sz → g ((A + 1) + r) k = elf (h ((A + 1) + r) k) (h ((A + 1) + c) k) (bbq h A c r)
def CLR2 (h g : am_H) (A c sz i j : Int) : Prop := (∀ z k, ¬ ((A + 1) + c < z ∧ z < (A + 1) + i ∧ c ≤ k ∧ k < sz) → ¬ (z = (A + 1) + i ∧ c ≤ k ∧ k < j) → g z k = h z k) ∧ (∀ r, c < r → r < i → ∀ k, c ≤ k → k < sz → g ((A + 1) + r) k = elf (h ((A + 1) + r) k) (h ((A + 1) + c) k) (bbq h A c r)) ∧ ∀ k, c ≤ k → k < j → g ((A + 1) + i) k = elf (h ((A + 1) + i) k) (h ((A + 1) + c) k) (bbq h A c i)
theorem pwR_r : ∀ (f : Nat) (v s e : Int), (0 ≤ v ∧ v < 1000003) → (0 ≤ s ∧ s < 1000003) → 0 ≤ pwR f v s e ∧ pwR f v s e < 1000003
  | 0, v, s, e, hv, _ => hv
  | f + 1, v, s, e, hv, hs => by
    have m1 := md_r (ml_r hv hs).1
    have m2 := md_r (ml_r hs hs).1
    by_cases c : e ≤ 0
    · rw [pw_0 c]; exact hv
    · by_cases c2 : Int.tmod e 2 = 1
      · rw [pw_t (by omega) c2]; exact pwR_r f _ _ _ m1 m2
      · rw [pw_f (by omega) c2]; exact pwR_r f _ _ _ hv m2
theorem pwm_r {b e : Int} (hb : 0 ≤ b ∧ b < 1000003) : 0 ≤ pwm b e ∧ pwm b e < 1000003 := pwR_r 20 1 b e (by omega) hb
theorem elf_0 {x y : Int} (hx : 0 ≤ x ∧ x < 1000003) (hy : 0 ≤ y) : elf x y 0 = x := by
  unfold elf
  rw [show (1000003 : Int) - 0 = 1000003 by omega]
  rw [Int.tmod_eq_emod_of_nonneg (by omega), Int.add_mul_emod_self_left]
  omega
/-! 185 FactorNets.clearBelow -/
def C185 : am_K := fun as h K => am_a3 as (fun v0 v1 v2 => am_r 7 20 20 v0 (fun A => am_n v1 (fun c => am_n v2 (fun sz => (((0 ≤ c ∧ c < sz) ∧ sz ≤ 20) ∧ RM h A sz) ∧ (∀ (h' : am_H), CLR h h' A c sz sz → K (none) (h'))))))
theorem W185 {d : Nat} (H : ∀ (A : Int) (c : Int) (sz : Int) (h : am_H) (K : Option am_V → am_H → Prop), (((0 ≤ c ∧ c < sz) ∧ sz ≤ 20) ∧ RM h A sz) ∧ (∀ (h' : am_H), CLR h h' A c sz sz → K (none) (h')) → am_AT d 185 0 [some (mR 7 20 20 A), some (mB c), some (mB sz), none, none, none, none, none, none] h K) : am_CS d 185 C185 := by
  refine am_CS_of (T := tb185) (mL := 9) (rk := 0) rfl (fun as h K hC => ?_)
  obtain ⟨v0, v1, v2, rfl, hC0⟩ := am_a3_e hC
  obtain ⟨A, rfl, hC1⟩ := am_r_e hC0
  obtain ⟨c, rfl, hC2⟩ := am_n_e hC1
  obtain ⟨sz, rfl, hC3⟩ := am_n_e hC2
  refine ⟨Nat.le_of_ble_eq_true rfl, ?_⟩
  exact H A c sz h K hC3
theorem T185_0 {R : Option am_V → am_H → Prop} {h : am_H} {A : Int} {c : Int} {sz : Int} (t : (0 ≤ c ∧ c < 20) ∧ ((0 ≤ c ∧ c < 20) ∧ (((0 ≤ (h ((A + 1) + c) c) ∧ (h ((A + 1) + c) c) < 1000003) ∧ (1000001 : Int) = 1000001) ∧ (am_AT 2 185 17 [some (mR 7 20 20 A), some (mB c), some (mB sz), some (mJ (pwm (h ((A + 1) + c) c) 1000001)), none, some (mI (c + 1)), none, none, none] h R)))) : am_AT 2 185 0 [some (mR 7 20 20 A), some (mB c), some (mB sz), none, none, none, none, none, none] h R :=
  am_T (d := 1) (m := 185) (T := tb185) (mL := 9) (rk := 0) (cuts := [(17, [1, 1, 1, 2, 0, 2, 0, 0, 0]), (55, [1, 1, 1, 2, 0, 2, 2, 0, 2])]) (l := [(186, C186)]) rfl ⟨am_CS_d (by decide) C186_ok, trivial⟩ 16 (And.intro (t).1 (And.intro ((t).2).1 (And.intro (((t).2).2).1 ((((t).2).2).2))))
theorem T185_17 {R : Option am_V → am_H → Prop} {h : am_H} {A : Int} {c : Int} {sz : Int} {x3 : Int} {x5 : Int} (t : (R32 x5) ∧ (((sz ≤ x5) → (R none h)) ∧ ((x5 < sz) → ((0 ≤ x5 ∧ x5 < 20) ∧ ((0 ≤ c ∧ c < 20) ∧ (((h ((A + 1) + x5) c = 0) → (am_AT 2 185 17 [some (mR 7 20 20 A), some (mB c), some (mB sz), some (mJ x3), none, some (mI (x5 + 1)), none, none, none] h R)) ∧ ((¬ h ((A + 1) + x5) c = 0) → ((0 ≤ x5 ∧ x5 < 20) ∧ ((0 ≤ c ∧ c < 20) ∧ ((R64 ((h ((A + 1) + x5) c) * x3)) ∧ (am_AT 2 185 55 [some (mR 7 20 20 A), some (mB c), some (mB sz), some (mJ x3), none, some (mI x5), some (mJ (1000003 - (Int.tmod ((h ((A + 1) + x5) c) * x3) 1000003))), none, some (mI c)] h R))))))))))) : am_AT 2 185 17 [some (mR 7 20 20 A), some (mB c), some (mB sz), some (mJ x3), none, some (mI x5), none, none, none] h R :=
  am_T (d := 1) (m := 185) (T := tb185) (mL := 9) (rk := 0) (cuts := [(17, [1, 1, 1, 2, 0, 2, 0, 0, 0]), (55, [1, 1, 1, 2, 0, 2, 2, 0, 2])]) (l := [(186, C186)]) rfl ⟨am_CS_d (by decide) C186_ok, trivial⟩ 29 (And.intro (t).1 (And.intro (fun c1 => ((t).2).1 c1) (fun c1 => And.intro (((t).2).2 c1).1 (And.intro ((((t).2).2 c1).2).1 (And.intro (fun c2 => (((((t).2).2 c1).2).2).1 c2) (fun c2 => And.intro ((((((t).2).2 c1).2).2).2 c2).1 (And.intro (((((((t).2).2 c1).2).2).2 c2).2).1 (And.intro ((((((((t).2).2 c1).2).2).2 c2).2).2).1 (And.intro (by decide) (((((((((t).2).2 c1).2).2).2 c2).2).2).2))))))))))
theorem T185_55 {R : Option am_V → am_H → Prop} {h : am_H} {A : Int} {c : Int} {sz : Int} {x3 : Int} {x5 : Int} {x6 : Int} {x8 : Int} (t : (R32 x8) ∧ (((sz ≤ x8) → (am_AT 2 185 17 [some (mR 7 20 20 A), some (mB c), some (mB sz), some (mJ x3), none, some (mI (x5 + 1)), none, none, none] h R)) ∧ ((x8 < sz) → ((0 ≤ x5 ∧ x5 < 20) ∧ ((0 ≤ x5 ∧ x5 < 20) ∧ ((0 ≤ x8 ∧ x8 < 20) ∧ ((0 ≤ c ∧ c < 20) ∧ ((0 ≤ x8 ∧ x8 < 20) ∧ ((R64 ((h ((A + 1) + x5) x8) + (x6 * (h ((A + 1) + c) x8)))) ∧ ((0 ≤ x8 ∧ x8 < 20) ∧ (am_AT 2 185 55 [some (mR 7 20 20 A), some (mB c), some (mB sz), some (mJ x3), none, some (mI x5), some (mJ x6), none, some (mI (x8 + 1))] (am_up h ((A + 1) + x5) x8 (Int.tmod ((h ((A + 1) + x5) x8) + (x6 * (h ((A + 1) + c) x8))) 1000003)) R))))))))))) : am_AT 2 185 55 [some (mR 7 20 20 A), some (mB c), some (mB sz), some (mJ x3), none, some (mI x5), some (mJ x6), none, some (mI x8)] h R :=
  am_T (d := 1) (m := 185) (T := tb185) (mL := 9) (rk := 0) (cuts := [(17, [1, 1, 1, 2, 0, 2, 0, 0, 0]), (55, [1, 1, 1, 2, 0, 2, 2, 0, 2])]) (l := [(186, C186)]) rfl ⟨am_CS_d (by decide) C186_ok, trivial⟩ 29 (And.intro (t).1 (And.intro (fun c3 => ((t).2).1 c3) (fun c3 => And.intro (((t).2).2 c3).1 (And.intro ((((t).2).2 c3).2).1 (And.intro (((((t).2).2 c3).2).2).1 (And.intro ((((((t).2).2 c3).2).2).2).1 (And.intro (((((((t).2).2 c3).2).2).2).2).1 (And.intro ((((((((t).2).2 c3).2).2).2).2).2).1 (And.intro (by decide) (And.intro (((((((((t).2).2 c3).2).2).2).2).2).2).1 ((((((((((t).2).2 c3).2).2).2).2).2).2).2)))))))))))
theorem L185b {K : Option am_V → am_H → Prop} {h : am_H} {A c sz : Int} (hc : 0 ≤ c ∧ c < sz) (hs : sz ≤ 20) (H : RM h A sz) {i : Int} (hi : c < i ∧ i < sz) (nx : ∀ g : am_H, CLR h g A c sz (i + 1) → am_AT 2 185 17 [some (mR 7 20 20 A), some (mB c), some (mB sz), some (mJ (pwm (h ((A + 1) + c) c) 1000001)), none, some (mI (i + 1)), none, none, none] g K) : ∀ j, ∀ g : am_H, c ≤ j → j ≤ sz → CLR2 h g A c sz i j → am_AT 2 185 55 [some (mR 7 20 20 A), some (mB c), some (mB sz), some (mJ (pwm (h ((A + 1) + c) c) 1000001)), none, some (mI i), some (mJ (1000003 - bbq h A c i)), none, some (mI j)] g K := by
  have b1 := md_r (ml_r (H i c (by omega) hi.2 hc.1 hc.2) (pwm_r (e := 1000001) (H c c hc.1 hc.2 hc.1 hc.2))).1
  have b2 : 0 ≤ bbq h A c i ∧ bbq h A c i < 1000003 := b1
  refine lp sz (fun j ih g j0 j1 G => ?_)
  have e1 : j < sz → g ((A + 1) + i) j = h ((A + 1) + i) j := fun a => G.1 _ _ (by omega) (by omega)
  have e2 : g ((A + 1) + c) j = h ((A + 1) + c) j := G.1 _ _ (by omega) (by omega)
  have m : j < sz → 0 ≤ (1000003 - bbq h A c i) * h ((A + 1) + c) j ∧ (1000003 - bbq h A c i) * h ((A + 1) + c) j ≤ 1000003 * 1000003 := fun a => by
    have r := H c j hc.1 hc.2 (by omega) a
    exact ⟨Int.mul_nonneg (by omega) r.1, Int.mul_le_mul (by omega) (by omega) r.1 (by omega)⟩
  refine T185_55 ⟨by omega, ⟨fun c1 => ?_, fun c1 => ⟨by omega, ⟨by omega, ⟨by omega, ⟨by omega, ⟨by omega, ⟨by
    have r := H i j (by omega) hi.2 (by omega) (by omega)
    have w := m (by omega)
    rw [e1 (by omega), e2]
    unfold R64
    omega, ⟨by omega, ?_⟩⟩⟩⟩⟩⟩⟩⟩⟩
  · refine nx g ⟨fun z k a => G.1 z k (by omega) (by omega), fun r a b k k0 k1 => ?_⟩
    by_cases e : r = i
    · rw [e]; exact G.2.2 k k0 (by omega)
    · exact G.2.1 r a (by omega) k k0 k1
  · rw [e1 (by omega), e2]
    refine ih (by omega) _ (by omega) (by omega) ⟨fun z k a b => ?_, fun r a b k k0 k1 => ?_, fun k k0 k1 => ?_⟩
    · rw [am_up_n2 (by omega)]; exact G.1 z k a (by omega)
    · rw [am_up_n2 (by omega)]; exact G.2.1 r a b k k0 k1
    · by_cases e : k = j
      · rw [e, am_up_eq]; rfl
      · rw [am_up_n2 (by omega)]; exact G.2.2 k k0 (by omega)
theorem L185 {K : Option am_V → am_H → Prop} {h : am_H} {A c sz : Int} (hc : 0 ≤ c ∧ c < sz) (hs : sz ≤ 20) (H : RM h A sz) (hK : ∀ g : am_H, CLR h g A c sz sz → K none g) : ∀ i, ∀ g : am_H, c < i → i ≤ sz → CLR h g A c sz i → am_AT 2 185 17 [some (mR 7 20 20 A), some (mB c), some (mB sz), some (mJ (pwm (h ((A + 1) + c) c) 1000001)), none, some (mI i), none, none, none] g K := by
  refine lp sz (fun i ih g i0 i1 G => ?_)
  have ec : g ((A + 1) + i) c = h ((A + 1) + i) c := G.1 _ _ (by omega)
  have pr := pwm_r (e := 1000001) (H c c hc.1 hc.2 hc.1 hc.2)
  refine T185_17 ⟨by omega, ⟨fun c1 => ?_, fun c1 => ⟨by omega, ⟨by omega, ⟨fun c2 => ?_, fun c2 => ⟨by omega, ⟨by omega, ⟨by
    rw [ec]
    have w := ml_r (H i c (by omega) (by omega) hc.1 hc.2) pr
    unfold R64
    omega, ?_⟩⟩⟩⟩⟩⟩⟩⟩
  · rw [show i = sz by omega] at G
    exact hK g G
  · rw [ec] at c2
    refine ih (by omega) g (by omega) (by omega) ⟨fun z k a => G.1 z k (by omega), fun r a b k k0 k1 => ?_⟩
    by_cases e : r = i
    · rw [e, G.1 _ _ (by omega)]
      have b0 : bbq h A c i = 0 := by unfold bbq; rw [c2, Int.zero_mul]; rfl
      rw [b0, elf_0 (H i k (by omega) (by omega) (by omega) k1) (H c k hc.1 hc.2 (by omega) k1).1]
    · exact G.2 r a (by omega) k k0 k1
  · rw [ec]
    exact L185b hc hs H ⟨i0, by omega⟩ (fun g' G' => ih (by omega) g' (by omega) (by omega) G') c g (by omega) (by omega) ⟨fun z k a _ => G.1 z k a, G.2, fun k a b => by omega⟩
theorem C185_ok : am_CS 2 185 C185 := W185 (fun A c sz h K hb => by
  refine T185_0 ⟨by omega, ⟨by omega, ⟨⟨hb.1.2 c c hb.1.1.1.1 hb.1.1.1.2 hb.1.1.1.1 hb.1.1.1.2, rfl⟩, ?_⟩⟩⟩
  · exact L185 hb.1.1.1 hb.1.1.2 hb.1.2 hb.2 (c + 1) h (by omega) (by omega) ⟨fun _ _ _ => rfl, fun r a b => by omega⟩)
