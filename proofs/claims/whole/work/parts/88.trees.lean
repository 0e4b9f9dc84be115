/-! ===== trees, in the class ===== -/
noncomputable def mxl (r : Int → Int) : Int → Int → Int := fun p q => ifc (p = q) (iPop (r p)) (ifc (ad r p q) 1000002 0)
theorem dtm_r {sz : Int} : ∀ (f : Nat) (c v : Int) (M : Int → Int → Int), 0 ≤ c → c + f ≤ sz → (0 ≤ v ∧ v < 1000003) → MRg sz M → 0 ≤ dtm sz f c M v ∧ dtm sz f c M v < 1000003
  | 0, _, _, _, _, _, hv, _ => hv
  | f + 1, c, v, M, h0, h1, hv, hM => by
    have hc : 0 ≤ c ∧ c < sz := by omega
    by_cases q : mpv sz M c = -1
    · rw [dtm_0 q]; omega
    · have hp := mpv_r hc q
      have s := MR_s (p := mpv sz M c) hM hc (by omega)
      have w : 0 ≤ (if mpv sz M c = c then v else 1000003 - v) := by
        by_cases e : mpv sz M c = c
        · rw [if_pos e]; omega
        · rw [if_neg e]; omega
      rw [dtm_1 q]
      exact dtm_r f (c + 1) _ _ (by omega) (by omega) (md_r (Int.mul_nonneg w (s c c hc.1 hc.2 hc.1 hc.2).1)) (MR_e s hc)
def TMX (h g : am_H) (sz i j : Int) : Prop := (∀ x k, ¬ (478 ≤ x ∧ x ≤ 497) → g x k = h x k) ∧ (∀ p, 0 ≤ p → p < i → ∀ q, 0 ≤ q → q < sz → g (478 + p) q = mxl (nr h 7 0) p q) ∧ ∀ q, 0 ≤ q → q < j → g (478 + i) q = ifc (ad (nr h 7 0) i q) 1000002 0
/-! 129 FactorNets.trees -/
def C129 : am_K := fun as h K => am_a1 as (fun v0 => am_oc 11 0 v0 ((SV h 5) ∧ (∀ (h' : am_H), SQa (fun x9 => 478 ≤ x9 ∧ x9 ≤ 497) h h' → K (some (mB (ifc (0 < (h 6 0)) (dtm ((h 6 0) - 1) ((h 6 0) - 1).toNat 0 (mxl (nr h 7 0)) 1) (-2)))) (h'))))
theorem W129 {d : Nat} (H : ∀  (h : am_H) (K : Option am_V → am_H → Prop), (SV h 5) ∧ (∀ (h' : am_H), SQa (fun x9 => 478 ≤ x9 ∧ x9 ≤ 497) h h' → K (some (mB (ifc (0 < (h 6 0)) (dtm ((h 6 0) - 1) ((h 6 0) - 1).toNat 0 (mxl (nr h 7 0)) 1) (-2)))) (h')) → am_AT d 129 0 [some (mR 1 11 0 0), none, none, none] h K) : am_CS d 129 C129 := by
  refine am_CS_of (T := tb129) (mL := 4) (rk := 1) rfl (fun as h K hC => ?_)
  obtain ⟨v0, rfl, hC0⟩ := am_a1_e hC
  obtain ⟨e0, hC1⟩ := am_oc_e hC0
  subst e0
  refine ⟨Nat.le_of_ble_eq_true rfl, ?_⟩
  exact H  h K hC1
theorem T129_0 {R : Option am_V → am_H → Prop} {h : am_H} (t : ((¬ h 6 0 = 0) → (am_AT 4 129 31 [some (mR 1 11 0 0), some (mI ((h 6 0) - 1)), some (mI 0), none] h R)) ∧ ((h 6 0 = 0) → (R (some (mB (-2))) h))) : am_AT 4 129 0 [some (mR 1 11 0 0), none, none, none] h R :=
  am_T (d := 3) (m := 129) (T := tb129) (mL := 4) (rk := 1) (cuts := [(31, [1, 2, 2, 0]), (38, [1, 2, 2, 2])]) (l := [(23, C23), (182, C182), (317, C317)]) rfl ⟨am_CS_d (by decide) C23_ok, am_CS_d (by decide) C182_ok, am_CS_d (by decide) C317_ok, trivial⟩ 18 (And.intro (fun c1 => (t).1 c1) (fun c1 => (t).2 c1))
theorem T129_31 {R : Option am_V → am_H → Prop} {h : am_H} {x1 : Int} {x2 : Int} (t : (R32 x2) ∧ ((R32 x1) ∧ (((x1 ≤ x2) → ((R32 x1) ∧ (((0 ≤ x1 ∧ x1 ≤ 20) ∧ RM h (477 : Int) x1) ∧ (∀ (h' : am_H), ((∀ x9 i9, ¬ ((477 : Int) < x9 ∧ x9 ≤ (477 : Int) + 20) → h' x9 i9 = h x9 i9)) → ((R32 (dtm x1 x1.toNat 0 (mxh h (477 : Int)) 1)) ∧ (R (some (mB (dtm x1 x1.toNat 0 (mxh h (477 : Int)) 1))) h')))))) ∧ ((x2 < x1) → (am_AT 4 129 38 [some (mR 1 11 0 0), some (mI x1), some (mI x2), some (mI 0)] h R))))) : am_AT 4 129 31 [some (mR 1 11 0 0), some (mI x1), some (mI x2), none] h R :=
  am_T (d := 3) (m := 129) (T := tb129) (mL := 4) (rk := 1) (cuts := [(31, [1, 2, 2, 0]), (38, [1, 2, 2, 2])]) (l := [(23, C23), (182, C182), (317, C317)]) rfl ⟨am_CS_d (by decide) C23_ok, am_CS_d (by decide) C182_ok, am_CS_d (by decide) C317_ok, trivial⟩ 13 (And.intro (t).1 (And.intro ((t).2).1 (And.intro (fun c2 => And.intro ((((t).2).2).1 c2).1 (And.intro (((((t).2).2).1 c2).2).1 (fun z1_0 z1_1 => And.intro (((((((t).2).2).1 c2).2).2) z1_0 z1_1).1 ((((((((t).2).2).1 c2).2).2) z1_0 z1_1).2)))) (fun c2 => (((t).2).2).2 c2))))
theorem T129_38 {R : Option am_V → am_H → Prop} {h : am_H} {x1 : Int} {x2 : Int} {x3 : Int} (t : (R32 x3) ∧ ((R32 x1) ∧ (((x1 ≤ x3) → ((0 ≤ x2 ∧ x2 < 20) ∧ ((0 ≤ x2 ∧ x2 < 20) ∧ ((0 ≤ (h 7 x2) ∧ (h 7 x2) < 2147483648) ∧ ((0 ≤ x2 ∧ x2 < 20) ∧ (am_AT 4 129 31 [some (mR 1 11 0 0), some (mI x1), some (mI (x2 + 1)), none] (am_up h (478 + x2) x2 (iPop (h 7 x2))) R)))))) ∧ ((x3 < x1) → ((0 ≤ x2 ∧ x2 < 20) ∧ ((R32 x2) ∧ ((R32 x3) ∧ (((0 ≤ x2 ∧ x2 < 20) ∧ (0 ≤ x3 ∧ x3 < 32)) ∧ (((¬ (bit (h 7 x2) x3)) → ((0 ≤ x3 ∧ x3 < 20) ∧ (am_AT 4 129 38 [some (mR 1 11 0 0), some (mI x1), some (mI x2), some (mI (x3 + 1))] (am_up h (478 + x2) x3 0) R))) ∧ ((bit (h 7 x2) x3) → ((0 ≤ x3 ∧ x3 < 20) ∧ (am_AT 4 129 38 [some (mR 1 11 0 0), some (mI x1), some (mI x2), some (mI (x3 + 1))] (am_up h (478 + x2) x3 1000002) R)))))))))))) : am_AT 4 129 38 [some (mR 1 11 0 0), some (mI x1), some (mI x2), some (mI x3)] h R :=
  am_T (d := 3) (m := 129) (T := tb129) (mL := 4) (rk := 1) (cuts := [(31, [1, 2, 2, 0]), (38, [1, 2, 2, 2])]) (l := [(23, C23), (182, C182), (317, C317)]) rfl ⟨am_CS_d (by decide) C23_ok, am_CS_d (by decide) C182_ok, am_CS_d (by decide) C317_ok, trivial⟩ 24 (And.intro (t).1 (And.intro ((t).2).1 (And.intro (fun c3 => And.intro ((((t).2).2).1 c3).1 (And.intro (((((t).2).2).1 c3).2).1 (And.intro ((((((t).2).2).1 c3).2).2).1 (And.intro (((((((t).2).2).1 c3).2).2).2).1 ((((((((t).2).2).1 c3).2).2).2).2))))) (fun c3 => And.intro ((((t).2).2).2 c3).1 (And.intro (((((t).2).2).2 c3).2).1 (And.intro ((((((t).2).2).2 c3).2).2).1 (And.intro (((((((t).2).2).2 c3).2).2).2).1 (And.intro (fun c4 => And.intro (((((((((t).2).2).2 c3).2).2).2).2).1 c4).1 ((((((((((t).2).2).2 c3).2).2).2).2).1 c4).2)) (fun c4 => And.intro (((((((((t).2).2).2 c3).2).2).2).2).2 c4).1 ((((((((((t).2).2).2 c3).2).2).2).2).2 c4).2))))))))))
theorem L129b {K : Option am_V → am_H → Prop} {h : am_H} (H : SV h 5) (s : ∀ y, 0 ≤ y → y < 20 → S20 (h 7 y)) {i : Int} (hi : 0 ≤ i ∧ i < h 6 0 - 1) (nx : ∀ g : am_H, TMX h g (h 6 0 - 1) (i + 1) 0 → am_AT 4 129 31 [some (mR 1 11 0 0), some (mI (h 6 0 - 1)), some (mI (i + 1)), none] g K) : ∀ j, ∀ g : am_H, 0 ≤ j → j ≤ h 6 0 - 1 → TMX h g (h 6 0 - 1) i j → am_AT 4 129 38 [some (mR 1 11 0 0), some (mI (h 6 0 - 1)), some (mI i), some (mI j)] g K := by
  have hn := (SV5_N H).1.2.1
  refine lp (h 6 0 - 1) (fun j ih g j0 j1 G => ?_)
  have e7 : g 7 i = h 7 i := G.1 _ _ (by omega)
  have si := s i hi.1 (by omega)
  have s1 := si.1
  have s2 := si.2
  have ea : bit (g 7 i) j ↔ ad (nr h 7 0) i j := by rw [e7]; unfold ad; rw [nr_in0 hi.1 (by omega)]
  have stp : j < h 6 0 - 1 → ∀ v, v = ifc (ad (nr h 7 0) i j) 1000002 0 → TMX h (am_up g (478 + i) j v) (h 6 0 - 1) i (j + 1) := fun a v hv => by
    refine ⟨fun x k b => by rw [am_up_ne (by omega)]; exact G.1 x k b, fun p p0 p1 q q0 q1 => by rw [am_up_ne (by omega)]; exact G.2.1 p p0 p1 q q0 q1, fun q q0 q1 => ?_⟩
    by_cases e : q = j
    · rw [e, am_up_eq]; exact hv
    · rw [am_up_n2 (by omega)]; exact G.2.2 q q0 (by omega)
  refine T129_38 ⟨by omega, ⟨by omega, ⟨fun c1 => ⟨by omega, ⟨by omega, ⟨by rw [e7]; omega, ⟨by omega, ?_⟩⟩⟩⟩, fun c1 => ⟨by omega, ⟨by omega, ⟨by omega, ⟨by omega, ⟨fun c2 => ⟨by omega, ?_⟩, fun c2 => ⟨by omega, ?_⟩⟩⟩⟩⟩⟩⟩⟩⟩
  · refine nx _ ⟨fun x k b => by rw [am_up_ne (by omega)]; exact G.1 x k b, fun p p0 p1 q q0 q1 => ?_, fun q a b => by omega⟩
    by_cases e : p = i
    · subst e
      by_cases e2 : q = p
      · rw [e2, am_up_eq, e7]
        unfold mxl
        rw [ifc_t rfl, nr_in0 p0 (by omega)]
      · rw [am_up_n2 (by omega), G.2.2 q q0 (by omega)]
        unfold mxl
        rw [ifc_f (c := p = q) (fun u => e2 u.symm)]
    · rw [am_up_ne (by omega)]; exact G.2.1 p p0 (by omega) q q0 q1
  · exact ih (by omega) _ (by omega) (by omega) (stp (by omega) 0 (ifc_f (fun u => c2 (ea.mpr u))).symm)
  · exact ih (by omega) _ (by omega) (by omega) (stp (by omega) 1000002 (ifc_t (ea.mp c2)).symm)
theorem L129 {K : Option am_V → am_H → Prop} {h : am_H} (H : SV h 5) (s : ∀ y, 0 ≤ y → y < 20 → S20 (h 7 y)) (h0 : 0 < h 6 0) (hK : ∀ h', SQa (fun x9 => 478 ≤ x9 ∧ x9 ≤ 497) h h' → K (some (mB (dtm (h 6 0 - 1) (h 6 0 - 1).toNat 0 (mxl (nr h 7 0)) 1))) h') : ∀ i, ∀ g : am_H, 0 ≤ i → i ≤ h 6 0 - 1 → TMX h g (h 6 0 - 1) i 0 → am_AT 4 129 31 [some (mR 1 11 0 0), some (mI (h 6 0 - 1)), some (mI i), none] g K := by
  have hn := (SV5_N H).1.2.1
  refine lp (h 6 0 - 1) (fun i ih g i0 i1 G => ?_)
  have mq : h 6 0 - 1 ≤ i → MEQ (h 6 0 - 1) (mxh g 477) (mxl (nr h 7 0)) := fun a r k r0 r1 k0 k1 => by
    show g (477 + 1 + r) k = _
    rw [show (477 : Int) + 1 + r = 478 + r by omega]
    exact G.2.1 r r0 (by omega) k k0 k1
  have mr : MRg (h 6 0 - 1) (mxl (nr h 7 0)) := fun r k r0 r1 k0 k1 => by
    unfold mxl
    by_cases e : r = k
    · rw [ifc_t e]
      have := iPop_le20 (nr_S20 s r)
      omega
    · rw [ifc_f e]
      by_cases e2 : ad (nr h 7 0) r k
      · rw [ifc_t e2]; omega
      · rw [ifc_f e2]; omega
  have dr := dtm_r (h 6 0 - 1).toNat 0 1 (mxl (nr h 7 0)) (by omega) (by omega) (by omega) mr
  have dq : h 6 0 - 1 ≤ i → dtm (h 6 0 - 1) (h 6 0 - 1).toNat 0 (mxh g 477) 1 = dtm (h 6 0 - 1) (h 6 0 - 1).toNat 0 (mxl (nr h 7 0)) 1 := fun a => dtm_cg _ _ _ _ _ (by omega) (by omega) (mq a)
  refine T129_31 ⟨by omega, ⟨by omega, ⟨fun c1 => ⟨by omega, ⟨⟨by omega, MR_q (mq (by omega)) mr⟩, fun h' q2 => ⟨by rw [dq (by omega)]; unfold R32; omega, ?_⟩⟩⟩, fun c1 => ?_⟩⟩⟩
  · rw [dq (by omega)]
    exact hK h' (SQa_fr (h' := h) (SQa_of (SQ_rf H)) (fun x k a => by rw [q2 x k (by omega)]; exact G.1 x k a) (fun x a => by omega))
  · exact L129b H s ⟨i0, by omega⟩ (fun g' G' => ih (by omega) g' (by omega) (by omega) G') 0 g (by omega) (by omega) ⟨G.1, G.2.1, fun q a b => by omega⟩
theorem C129_ok : am_CS 4 129 C129 := W129 (fun h K hb => am_AT_ok (fun hw _ => by
  have hn := (SV5_N hb.1).1.1
  refine T129_0 ⟨fun c1 => ?_, fun c1 => ?_⟩
  · exact L129 hb.1 (SV5_R hb.1 hw) (by omega) (fun h' G => am_rB (hb.2 h' G) (ifc_t (by omega))) 0 h (by omega) (by omega) ⟨fun _ _ _ => rfl, fun p a b => by omega, fun q a b => by omega⟩
  · exact am_rB (hb.2 h (SQa_of (SQ_rf hb.1))) (ifc_f (by omega))))
