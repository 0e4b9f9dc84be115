/-! ===== the determinant ===== -/
def mxh (h : am_H) (A : Int) : Int → Int → Int := fun r k => h ((A + 1) + r) k
def mxs (M : Int → Int → Int) (c p : Int) : Int → Int → Int := fun r k => if r = p then M c k else if r = c then M p k else M r k
def mxe (M : Int → Int → Int) (c : Int) : Int → Int → Int := fun r k => if c < r ∧ c ≤ k then elf (M r k) (M c k) (Int.tmod (M r c * pwm (M c c) 1000001) 1000003) else M r k
noncomputable def mpv (sz : Int) (M : Int → Int → Int) (c : Int) : Int := fnd (fun r9 => c ≤ r9 ∧ ¬ M r9 c = 0) sz.toNat
noncomputable def dtm (sz : Int) : Nat → Int → (Int → Int → Int) → Int → Int
  | 0, _, _, v => v
  | f + 1, c, M, v => if mpv sz M c = -1 then 0 else dtm sz f (c + 1) (mxe (mxs M c (mpv sz M c)) c) (Int.tmod ((if mpv sz M c = c then v else 1000003 - v) * mxs M c (mpv sz M c) c c) 1000003)
def MEQ (sz : Int) (M N : Int → Int → Int) : Prop := ∀ r k, 0 ≤ r → r < sz → 0 ≤ k → k < sz → M r k = N r k
def MRg (sz : Int) (M : Int → Int → Int) : Prop := ∀ r k, 0 ≤ r → r < sz → 0 ≤ k → k < sz → 0 ≤ M r k ∧ M r k < 1000003
theorem fnd_cg {P Q : Int → Prop} : ∀ m : Nat, (∀ k : Int, 0 ≤ k → k < m → (P k ↔ Q k)) → fnd P m = fnd Q m := by
  intro m h
  by_cases e : ∃ x : Int, (0 ≤ x ∧ x < m) ∧ P x
  · have w := fnd_ex m e
    exact (fnd_is w.1.1 ((h _ w.1.1 w.1.2).mp w.2.1) (fun j a b z => w.2.2 j a b ((h j a (by omega)).mpr z)) m w.1.2).symm
  · rw [fnd_no m (fun k a b z => e ⟨k, ⟨a, b⟩, z⟩), fnd_no m (fun k a b z => e ⟨k, ⟨a, b⟩, (h k a b).mpr z⟩)]
theorem mpv_cg {sz c : Int} {M N : Int → Int → Int} (h : MEQ sz M N) (hc : 0 ≤ c ∧ c < sz) : mpv sz M c = mpv sz N c :=
  fnd_cg _ (fun k a b => by rw [h k c a (by omega) hc.1 hc.2])
theorem mpv_r {sz c : Int} {M : Int → Int → Int} (hc : 0 ≤ c ∧ c < sz) (h : mpv sz M c ≠ -1) : c ≤ mpv sz M c ∧ mpv sz M c < sz := by
  by_cases e : ∃ x : Int, (0 ≤ x ∧ x < (sz.toNat : Int)) ∧ (c ≤ x ∧ ¬ M x c = 0)
  · have w := fnd_ex (P := fun r9 => c ≤ r9 ∧ ¬ M r9 c = 0) sz.toNat e
    have w1 := w.1
    have w2 := w.2.1.1
    unfold mpv
    omega
  · exact absurd (fnd_no _ (fun k a b z => e ⟨k, ⟨a, b⟩, z⟩)) h
theorem mxs_cg {sz c p : Int} {M N : Int → Int → Int} (h : MEQ sz M N) (hc : 0 ≤ c ∧ c < sz) (hp : 0 ≤ p ∧ p < sz) : MEQ sz (mxs M c p) (mxs N c p) := fun r k a b d e => by
  unfold mxs
  rw [h c k hc.1 hc.2 d e, h p k hp.1 hp.2 d e, h r k a b d e]
theorem mxe_cg {sz c : Int} {M N : Int → Int → Int} (h : MEQ sz M N) (hc : 0 ≤ c ∧ c < sz) : MEQ sz (mxe M c) (mxe N c) := fun r k a b d e => by
  unfold mxe
  rw [h r k a b d e, h c k hc.1 hc.2 d e, h r c a b hc.1 hc.2, h c c hc.1 hc.2 hc.1 hc.2]
theorem dtm_cg {sz : Int} : ∀ (f : Nat) (c v : Int) (M N : Int → Int → Int), 0 ≤ c → c + f ≤ sz → MEQ sz M N → dtm sz f c M v = dtm sz f c N v
  | 0, _, _, _, _, _, _, _ => rfl
  | f + 1, c, v, M, N, h0, h1, h => by
    have hc : 0 ≤ c ∧ c < sz := by omega
    have e := mpv_cg h hc
    show (if mpv sz M c = -1 then 0 else dtm sz f (c + 1) (mxe (mxs M c (mpv sz M c)) c) (Int.tmod ((if mpv sz M c = c then v else 1000003 - v) * mxs M c (mpv sz M c) c c) 1000003)) = (if mpv sz N c = -1 then 0 else dtm sz f (c + 1) (mxe (mxs N c (mpv sz N c)) c) (Int.tmod ((if mpv sz N c = c then v else 1000003 - v) * mxs N c (mpv sz N c) c c) 1000003))
    rw [e]
    by_cases q : mpv sz N c = -1
    · rw [if_pos q, if_pos q]
    · have hp := mpv_r hc q
      have s := mxs_cg (p := mpv sz N c) h hc (by omega)
      rw [if_neg q, if_neg q, s c c hc.1 hc.2 hc.1 hc.2]
      exact dtm_cg f (c + 1) _ _ _ (by omega) (by omega) (mxe_cg s hc)
theorem MR_s {sz c p : Int} {M : Int → Int → Int} (h : MRg sz M) (hc : 0 ≤ c ∧ c < sz) (hp : 0 ≤ p ∧ p < sz) : MRg sz (mxs M c p) := fun r k a b d e => by
  unfold mxs
  by_cases e1 : r = p
  · rw [if_pos e1]; exact h c k hc.1 hc.2 d e
  · by_cases e2 : r = c
    · rw [if_neg e1, if_pos e2]; exact h p k hp.1 hp.2 d e
    · rw [if_neg e1, if_neg e2]; exact h r k a b d e
theorem MR_e {sz c : Int} {M : Int → Int → Int} (h : MRg sz M) (hc : 0 ≤ c ∧ c < sz) : MRg sz (mxe M c) := fun r k a b d e => by
  unfold mxe
  by_cases w : c < r ∧ c ≤ k
  · rw [if_pos w]
    have m := md_r (ml_r (h r c a b hc.1 hc.2) (pwm_r (e := 1000001) (h c c hc.1 hc.2 hc.1 hc.2))).1
    have x := h r k a b d e
    have y := h c k hc.1 hc.2 d e
    unfold elf
    have z := Int.mul_nonneg (show 0 ≤ 1000003 - Int.tmod (M r c * pwm (M c c) 1000001) 1000003 by omega) y.1
    exact md_r (by omega)
  · rw [if_neg w]; exact h r k a b d e
theorem dtm_0 {sz : Int} {f : Nat} {c v : Int} {M : Int → Int → Int} (h : mpv sz M c = -1) : dtm sz (f + 1) c M v = 0 := if_pos h
theorem dtm_1 {sz : Int} {f : Nat} {c v : Int} {M : Int → Int → Int} (h : ¬ mpv sz M c = -1) : dtm sz (f + 1) c M v = dtm sz f (c + 1) (mxe (mxs M c (mpv sz M c)) c) (Int.tmod ((if mpv sz M c = c then v else 1000003 - v) * mxs M c (mpv sz M c) c c) 1000003) := if_neg h
theorem SWP_m {h g : am_H} {A c p sz : Int} (H : SWP h g ((A + 1) + p) ((A + 1) + c) sz) : MEQ sz (mxh g A) (mxs (mxh h A) c p) := fun r k a b d e => by
  unfold mxs mxh
  by_cases e1 : r = p
  · rw [if_pos e1, e1]; exact (H.2 k d e).1
  · by_cases e2 : r = c
    · rw [if_neg e1, if_pos e2, e2]; exact (H.2 k d e).2
    · rw [if_neg e1, if_neg e2]; exact H.1 _ _ (by omega) (by omega)
theorem CLR_m {h g : am_H} {A c sz : Int} (H : CLR h g A c sz sz) : MEQ sz (mxh g A) (mxe (mxh h A) c) := fun r k a b d e => by
  unfold mxe mxh
  by_cases w : c < r ∧ c ≤ k
  · rw [if_pos w]; exact H.2 r w.1 b k w.2 e
  · rw [if_neg w]; exact H.1 _ _ (by omega)
theorem mxs_id {M : Int → Int → Int} {c sz : Int} : MEQ sz (mxs M c c) M := fun r k _ _ _ _ => by
  unfold mxs
  by_cases e1 : r = c
  · rw [if_pos e1, e1]
  · rw [if_neg e1, if_neg e1]
theorem MEQ_tr {M N L : Int → Int → Int} {sz : Int} (h : MEQ sz M N) (h2 : MEQ sz N L) : MEQ sz M L := fun r k a b c d => (h r k a b c d).trans (h2 r k a b c d)
theorem MEQ_sy {M N : Int → Int → Int} {sz : Int} (h : MEQ sz M N) : MEQ sz N M := fun r k a b c d => (h r k a b c d).symm
theorem MR_q {M N : Int → Int → Int} {sz : Int} (h : MEQ sz M N) (h2 : MRg sz N) : MRg sz M := fun r k a b c d => by rw [h r k a b c d]; exact h2 r k a b c d
/-! 182 FactorNets.determinant -/
def C182 : am_K := fun as h K => am_a2 as (fun v0 v1 => am_r 7 20 20 v0 (fun A => am_n v1 (fun sz => ((0 ≤ sz ∧ sz ≤ 20) ∧ RM h A sz) ∧ (∀ (h' : am_H), (∀ x9 i9, ¬ (A < x9 ∧ x9 ≤ A + 20) → h' x9 i9 = h x9 i9) → K (some (mK (dtm sz sz.toNat 0 (mxh h A) 1))) (h')))))
theorem W182 {d : Nat} (H : ∀ (A : Int) (sz : Int) (h : am_H) (K : Option am_V → am_H → Prop), ((0 ≤ sz ∧ sz ≤ 20) ∧ RM h A sz) ∧ (∀ (h' : am_H), (∀ x9 i9, ¬ (A < x9 ∧ x9 ≤ A + 20) → h' x9 i9 = h x9 i9) → K (some (mK (dtm sz sz.toNat 0 (mxh h A) 1))) (h')) → am_AT d 182 0 [some (mR 7 20 20 A), some (mB sz), none, none, none, none] h K) : am_CS d 182 C182 := by
  refine am_CS_of (T := tb182) (mL := 6) (rk := 2) rfl (fun as h K hC => ?_)
  obtain ⟨v0, v1, rfl, hC0⟩ := am_a2_e hC
  obtain ⟨A, rfl, hC1⟩ := am_r_e hC0
  obtain ⟨sz, rfl, hC2⟩ := am_n_e hC1
  refine ⟨Nat.le_of_ble_eq_true rfl, ?_⟩
  exact H A sz h K hC2
theorem T182_0 {R : Option am_V → am_H → Prop} {h : am_H} {A : Int} {sz : Int} (t : am_AT 3 182 5 [some (mR 7 20 20 A), some (mB sz), some (mJ 1), none, some (mI 0), none] h R) : am_AT 3 182 0 [some (mR 7 20 20 A), some (mB sz), none, none, none, none] h R :=
  am_T (d := 2) (m := 182) (T := tb182) (mL := 6) (rk := 2) (cuts := [(5, [1, 1, 2, 0, 2, 0])]) (l := [(183, C183), (184, C184), (185, C185)]) rfl ⟨am_CS_d (by decide) C183_ok, am_CS_d (by decide) C184_ok, am_CS_d (by decide) C185_ok, trivial⟩ 8 (t)
theorem T182_5 {R : Option am_V → am_H → Prop} {h : am_H} {A : Int} {sz : Int} {x2 : Int} {x4 : Int} (t : (R32 x4) ∧ (((sz ≤ x4) → ((R64 x2) ∧ (R (some (mK x2)) h))) ∧ ((x4 < sz) → ((R32 x4) ∧ (((0 ≤ x4 ∧ x4 ≤ sz) ∧ sz ≤ 20) ∧ (((¬ fnd (fun r9 => x4 ≤ r9 ∧ ¬ h ((A + 1) + r9) x4 = 0) sz.toNat = (-1)) → ((R32 x4) ∧ (((fnd (fun r9 => x4 ≤ r9 ∧ ¬ h ((A + 1) + r9) x4 = 0) sz.toNat = x4) → ((0 ≤ x4 ∧ x4 < 20) ∧ ((0 ≤ x4 ∧ x4 < 20) ∧ ((R64 (x2 * (h ((A + 1) + x4) x4))) ∧ ((R32 x4) ∧ ((((0 ≤ x4 ∧ x4 < sz) ∧ sz ≤ 20) ∧ RM h A sz) ∧ (∀ (h' : am_H), (CLR h h' A x4 sz sz) → (am_AT 3 182 5 [some (mR 7 20 20 A), some (mB sz), some (mJ (Int.tmod (x2 * (h ((A + 1) + x4) x4)) 1000003)), none, some (mI (x4 + 1)), none] h' R)))))))) ∧ ((¬ fnd (fun r9 => x4 ≤ r9 ∧ ¬ h ((A + 1) + r9) x4 = 0) sz.toNat = x4) → ((R32 x4) ∧ ((((0 ≤ (fnd (fun r9 => x4 ≤ r9 ∧ ¬ h ((A + 1) + r9) x4 = 0) sz.toNat) ∧ (fnd (fun r9 => x4 ≤ r9 ∧ ¬ h ((A + 1) + r9) x4 = 0) sz.toNat) < 20) ∧ (0 ≤ x4 ∧ x4 < 20) ∧ (fnd (fun r9 => x4 ≤ r9 ∧ ¬ h ((A + 1) + r9) x4 = 0) sz.toNat) ≠ x4) ∧ (0 ≤ sz ∧ sz ≤ 20)) ∧ (∀ (h' : am_H), (SWP h h' ((A + 1) + (fnd (fun r9 => x4 ≤ r9 ∧ ¬ h ((A + 1) + r9) x4 = 0) sz.toNat)) ((A + 1) + x4) sz) → ((0 ≤ x4 ∧ x4 < 20) ∧ ((0 ≤ x4 ∧ x4 < 20) ∧ ((R64 ((1000003 - x2) * (h' ((A + 1) + x4) x4))) ∧ ((R32 x4) ∧ ((((0 ≤ x4 ∧ x4 < sz) ∧ sz ≤ 20) ∧ RM h' A sz) ∧ (∀ (h'_1 : am_H), (CLR h' h'_1 A x4 sz sz) → (am_AT 3 182 5 [some (mR 7 20 20 A), some (mB sz), some (mJ (Int.tmod ((1000003 - x2) * (h' ((A + 1) + x4) x4)) 1000003)), none, some (mI (x4 + 1)), none] h'_1 R)))))))))))))) ∧ ((fnd (fun r9 => x4 ≤ r9 ∧ ¬ h ((A + 1) + r9) x4 = 0) sz.toNat = (-1)) → (R (some (mK 0)) h)))))))) : am_AT 3 182 5 [some (mR 7 20 20 A), some (mB sz), some (mJ x2), none, some (mI x4), none] h R :=
  am_T (d := 2) (m := 182) (T := tb182) (mL := 6) (rk := 2) (cuts := [(5, [1, 1, 2, 0, 2, 0])]) (l := [(183, C183), (184, C184), (185, C185)]) rfl ⟨am_CS_d (by decide) C183_ok, am_CS_d (by decide) C184_ok, am_CS_d (by decide) C185_ok, trivial⟩ 43 (And.intro (t).1 (And.intro (fun c1 => And.intro (((t).2).1 c1).1 ((((t).2).1 c1).2)) (fun c1 => And.intro (((t).2).2 c1).1 (And.intro ((((t).2).2 c1).2).1 (And.intro (fun c2 => And.intro ((((((t).2).2 c1).2).2).1 c2).1 (And.intro (fun c3 => And.intro ((((((((t).2).2 c1).2).2).1 c2).2).1 c3).1 (And.intro (((((((((t).2).2 c1).2).2).1 c2).2).1 c3).2).1 (And.intro ((((((((((t).2).2 c1).2).2).1 c2).2).1 c3).2).2).1 (And.intro (by decide) (And.intro (((((((((((t).2).2 c1).2).2).1 c2).2).1 c3).2).2).2).1 (And.intro ((((((((((((t).2).2 c1).2).2).1 c2).2).1 c3).2).2).2).2).1 (fun z1_0 z1_1 => (((((((((((((t).2).2 c1).2).2).1 c2).2).1 c3).2).2).2).2).2) z1_0 z1_1))))))) (fun c3 => And.intro ((((((((t).2).2 c1).2).2).1 c2).2).2 c3).1 (And.intro (((((((((t).2).2 c1).2).2).1 c2).2).2 c3).2).1 (fun z2_0 z2_1 => And.intro (((((((((((t).2).2 c1).2).2).1 c2).2).2 c3).2).2) z2_0 z2_1).1 (And.intro ((((((((((((t).2).2 c1).2).2).1 c2).2).2 c3).2).2) z2_0 z2_1).2).1 (And.intro (((((((((((((t).2).2 c1).2).2).1 c2).2).2 c3).2).2) z2_0 z2_1).2).2).1 (And.intro (by decide) (And.intro ((((((((((((((t).2).2 c1).2).2).1 c2).2).2 c3).2).2) z2_0 z2_1).2).2).2).1 (And.intro (((((((((((((((t).2).2 c1).2).2).1 c2).2).2 c3).2).2) z2_0 z2_1).2).2).2).2).1 (fun z3_0 z3_1 => ((((((((((((((((t).2).2 c1).2).2).1 c2).2).2 c3).2).2) z2_0 z2_1).2).2).2).2).2) z3_0 z3_1))))))))))) (fun c2 => (((((t).2).2 c1).2).2).2 c2))))))
theorem L182 {K : Option am_V → am_H → Prop} {h : am_H} {A sz N : Int} (hs : 0 ≤ sz ∧ sz ≤ 20) (hK : ∀ g : am_H, (∀ x9 i9, ¬ (A < x9 ∧ x9 ≤ A + 20) → g x9 i9 = h x9 i9) → K (some (mK N)) g) : ∀ (f : Nat) (c v : Int) (g : am_H), 0 ≤ c → c + f = sz → (0 ≤ v ∧ v < 1000003) → RM g A sz → (∀ x9 i9, ¬ (A < x9 ∧ x9 ≤ A + 20) → g x9 i9 = h x9 i9) → dtm sz f c (mxh g A) v = N → am_AT 3 182 5 [some (mR 7 20 20 A), some (mB sz), some (mJ v), none, some (mI c), none] g K := by
  intro f
  induction f with
  | zero =>
    intro c v g c0 cf hv R F e
    have e' : v = N := e
    refine T182_5 ⟨by omega, ⟨fun c1 => ⟨by omega, ?_⟩, fun c1 => ⟨by omega, ⟨by omega, ⟨fun c2 => ⟨by omega, ⟨fun c3 => ⟨by omega, ⟨by omega, ⟨by omega, ⟨by omega, ⟨by omega, fun h' q4 => ?_⟩⟩⟩⟩⟩, fun c3 => ⟨by omega, ⟨by omega, fun h' q4 => ⟨by omega, ⟨by omega, ⟨by omega, ⟨by omega, ⟨by omega, fun h'_1 q5 => ?_⟩⟩⟩⟩⟩⟩⟩⟩⟩, fun c2 => ?_⟩⟩⟩⟩⟩
    · rw [e']
      exact hK g F
    · exfalso; omega
    · exfalso; omega
    · exfalso; omega
  | succ f ih =>
    intro c v g c0 cf hv R F e
    have hc : 0 ≤ c ∧ c < sz := by omega
    have Rm : MRg sz (mxh g A) := R
    have cc := R c c hc.1 hc.2 hc.1 hc.2
    have vv := ml_r hv cc
    refine T182_5 ⟨by omega, ⟨fun c1 => ⟨by omega, ?_⟩, fun c1 => ⟨by omega, ⟨by omega, ⟨fun c2 => ⟨by omega, ⟨fun c3 => ⟨by omega, ⟨by omega, ⟨by unfold R64; omega, ⟨by omega, ⟨⟨⟨hc, hs.2⟩, R⟩, fun h' q4 => ?_⟩⟩⟩⟩⟩, fun c3 => ⟨by omega, ⟨by
      have hp : c ≤ fnd (fun r9 => c ≤ r9 ∧ ¬ g ((A + 1) + r9) c = 0) sz.toNat ∧ fnd (fun r9 => c ≤ r9 ∧ ¬ g ((A + 1) + r9) c = 0) sz.toNat < sz := mpv_r (M := mxh g A) hc c2
      omega, fun h' q4 => ⟨by omega, ⟨by omega, ⟨by
      have hp := mpv_r (M := mxh g A) hc c2
      have r2 : 0 ≤ h' ((A + 1) + c) c ∧ h' ((A + 1) + c) c < 1000003 := MR_q (SWP_m (p := mpv sz (mxh g A) c) q4) (MR_s Rm hc ⟨by omega, hp.2⟩) c c hc.1 hc.2 hc.1 hc.2
      have w1 := Int.mul_nonneg (show 0 ≤ 1000003 - v by omega) r2.1
      have w2 := Int.mul_le_mul (show 1000003 - v ≤ 1000003 by omega) (show h' ((A + 1) + c) c ≤ 1000003 by omega) r2.1 (by omega)
      unfold R64
      omega, ⟨by omega, ⟨⟨⟨hc, hs.2⟩, MR_q (SWP_m (p := mpv sz (mxh g A) c) q4) (MR_s Rm hc ⟨by have := mpv_r (M := mxh g A) hc c2; omega, (mpv_r (M := mxh g A) hc c2).2⟩)⟩, fun h'_1 q5 => ?_⟩⟩⟩⟩⟩⟩⟩⟩⟩, fun c2 => ?_⟩⟩⟩⟩⟩
    · exfalso; omega
    · have c2' : ¬ mpv sz (mxh g A) c = -1 := c2
      have c3' : mpv sz (mxh g A) c = c := c3
      rw [dtm_1 c2', c3', if_pos rfl] at e
      have q : MEQ sz (mxh h' A) (mxe (mxs (mxh g A) c c) c) := MEQ_tr (CLR_m q4) (mxe_cg (MEQ_sy mxs_id) hc)
      rw [mxs_id c c hc.1 hc.2 hc.1 hc.2] at e
      exact ih (c + 1) _ h' (by omega) (by omega) (md_r vv.1) (MR_q (CLR_m q4) (MR_e Rm hc)) (fun x i a => by rw [q4.1 x i (by omega)]; exact F x i a) ((dtm_cg f (c + 1) _ _ _ (by omega) (by omega) q).trans e)
    · have c2' : ¬ mpv sz (mxh g A) c = -1 := c2
      have c3' : ¬ mpv sz (mxh g A) c = c := c3
      have hp := mpv_r (M := mxh g A) hc c2'
      rw [dtm_1 c2', if_neg c3'] at e
      have s := SWP_m (p := mpv sz (mxh g A) c) q4
      have q : MEQ sz (mxh h'_1 A) (mxe (mxs (mxh g A) c (mpv sz (mxh g A) c)) c) := MEQ_tr (CLR_m q5) (mxe_cg s hc)
      have R1 : MRg sz (mxh h' A) := MR_q s (MR_s Rm hc ⟨by omega, hp.2⟩)
      have r1 := R1 c c hc.1 hc.2 hc.1 hc.2
      have r2 : 0 ≤ h' ((A + 1) + c) c ∧ h' ((A + 1) + c) c < 1000003 := r1
      rw [← s c c hc.1 hc.2 hc.1 hc.2] at e
      refine ih (c + 1) _ h'_1 (by omega) (by omega) (md_r (Int.mul_nonneg (by omega) r2.1)) (MR_q (CLR_m q5) (MR_e R1 hc)) (fun x i a => ?_) ((dtm_cg f (c + 1) _ _ _ (by omega) (by omega) q).trans e)
      have hp2 : c ≤ fnd (fun r9 => c ≤ r9 ∧ ¬ g ((A + 1) + r9) c = 0) sz.toNat ∧ fnd (fun r9 => c ≤ r9 ∧ ¬ g ((A + 1) + r9) c = 0) sz.toNat < sz := hp
      rw [q5.1 x i (by omega), q4.1 x i (by omega) (by omega)]
      exact F x i a
    · have c2' : mpv sz (mxh g A) c = -1 := c2
      rw [dtm_0 c2'] at e
      rw [e]
      exact hK g F
theorem C182_ok : am_CS 3 182 C182 := W182 (fun A sz h K hb => T182_0 (L182 hb.1.1 hb.2 sz.toNat 0 1 h (by omega) (by have := hb.1.1; omega) (by omega) hb.1.2 (fun _ _ _ => rfl) rfl))
