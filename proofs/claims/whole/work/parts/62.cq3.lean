/-! 134 FactorNets.nearer -/
def C134 : am_K := fun as h K => am_a3 as (fun v0 v1 v2 => am_oc 11 0 v0 (am_n v1 (fun k => am_n v2 (fun w => (SV h 5) ∧ (∀ (h' : am_H), SQ h h' 5 → K (some (mB (ifc ((0 ≤ k ∧ k < nl (nr h 7 0)) ∧ (0 ≤ w ∧ w ≤ 2)) (nea (h 6 0) (nr h 7 0) k w) (-2)))) (h'))))))
theorem W134 {d : Nat} (H : ∀ (k : Int) (w : Int) (h : am_H) (K : Option am_V → am_H → Prop), (SV h 5) ∧ (∀ (h' : am_H), SQ h h' 5 → K (some (mB (ifc ((0 ≤ k ∧ k < nl (nr h 7 0)) ∧ (0 ≤ w ∧ w ≤ 2)) (nea (h 6 0) (nr h 7 0) k w) (-2)))) (h')) → am_AT d 134 0 [some (mR 1 11 0 0), some (mB k), some (mB w), none, none, none, none] h K) : am_CS d 134 C134 := by
  refine am_CS_of (T := tb134) (mL := 7) (rk := 1) rfl (fun as h K hC => ?_)
  obtain ⟨v0, v1, v2, rfl, hC0⟩ := am_a3_e hC
  obtain ⟨e0, hC1⟩ := am_oc_e hC0
  subst e0
  obtain ⟨k, rfl, hC2⟩ := am_n_e hC1
  obtain ⟨w, rfl, hC3⟩ := am_n_e hC2
  refine ⟨Nat.le_of_ble_eq_true rfl, ?_⟩
  exact H k w h K hC3
theorem T134_0 {R : Option am_V → am_H → Prop} {h : am_H} {k : Int} {w : Int} (t : (SV h 5) ∧ (∀ (h' : am_H), (SQ h h' 5 ∧ (0 ≤ k → h' 5 5 = 1)) → (((¬ (0 ≤ k ∧ k < nl (nr h 7 0))) → (R (some (mB (-2))) h')) ∧ ((0 ≤ k ∧ k < nl (nr h 7 0)) → (((w < 0) → (R (some (mB (-2))) h')) ∧ ((0 ≤ w) → (((w ≤ 2) → ((SV h' (5 : Int)) ∧ (∀ (h'_1 : am_H), (SQ h' h'_1 (5 : Int) ∧ h'_1 (5 : Int) 5 = 1) → ((0 ≤ k ∧ k < 190) ∧ ((SV h'_1 (5 : Int)) ∧ (∀ (h'_2 : am_H), (SQ h'_1 h'_2 (5 : Int) ∧ h'_2 (5 : Int) 5 = 1) → ((0 ≤ k ∧ k < 190) ∧ ((SV h'_2 (5 : Int)) ∧ (∀ (h'_3 : am_H), (SQ h'_2 h'_3 (5 : Int) ∧ h'_3 (5 : Int) 4 = 1) → (((NT (h'_3 6 0) (nr h'_3 7 0) ∧ CN (h'_3 6 0) (nr h'_3 7 0) ∧ MT h'_3 (8 : Int) (h'_3 6 0) (nr h'_3 7 0)) ∧ ad (nr h'_3 7 0) (h'_1 52 k) (h'_2 53 k)) ∧ ((SV h'_3 (5 : Int)) ∧ (∀ (h'_4 : am_H), (SQ h'_3 h'_4 (5 : Int) ∧ h'_4 (5 : Int) 4 = 1) → (((NT (h'_4 6 0) (nr h'_4 7 0) ∧ CN (h'_4 6 0) (nr h'_4 7 0) ∧ MT h'_4 (8 : Int) (h'_4 6 0) (nr h'_4 7 0)) ∧ ad (nr h'_4 7 0) (h'_2 53 k) (h'_1 52 k)) ∧ (((¬ w = 2) → (((¬ w = 0) → (R (some (mB (clo (h'_4 6 0) (nr h'_4 7 0) (h'_2 53 k) (h'_1 52 k)))) h'_4)) ∧ ((w = 0) → (R (some (mB (clo (h'_3 6 0) (nr h'_3 7 0) (h'_1 52 k) (h'_2 53 k)))) h'_4)))) ∧ ((w = 2) → ((0 ≤ h'_4 (6 : Int) 0 ∧ h'_4 (6 : Int) 0 ≤ 30) ∧ (R (some (mB (iAnd (iShl 1 (h'_4 (6 : Int) 0) - 1) (iXor (iOr (clo (h'_3 6 0) (nr h'_3 7 0) (h'_1 52 k) (h'_2 53 k)) (clo (h'_4 6 0) (nr h'_4 7 0) (h'_2 53 k) (h'_1 52 k))) (-1))))) h'_4))))))))))))))))) ∧ ((2 < w) → (R (some (mB (-2))) h'))))))))) : am_AT 5 134 0 [some (mR 1 11 0 0), some (mB k), some (mB w), none, none, none, none] h R :=
  am_T (d := 4) (m := 134) (T := tb134) (mL := 7) (rk := 1) (cuts := []) (l := [(17, C17), (22, C22), (88, C88b), (89, C89b), (158, C158)]) rfl ⟨am_CS_d (by decide) C17_ok, am_CS_d (by decide) C22_ok, am_CS_d (by decide) C88b_ok, am_CS_d (by decide) C89b_ok, am_CS_d (by decide) C158_ok, trivial⟩ 55 (And.intro (rfl) (And.intro (t).1 (fun z1_0 z1_1 => And.intro (fun c1 => (((t).2) z1_0 z1_1).1 c1) (fun c1 => And.intro (fun c2 => ((((t).2) z1_0 z1_1).2 c1).1 c2) (fun c2 => And.intro (fun c3 => And.intro ((((((t).2) z1_0 z1_1).2 c1).2 c2).1 c3).1 (fun z2_0 z2_1 => And.intro ((((((((t).2) z1_0 z1_1).2 c1).2 c2).1 c3).2) z2_0 z2_1).1 (And.intro (((((((((t).2) z1_0 z1_1).2 c1).2 c2).1 c3).2) z2_0 z2_1).2).1 (fun z3_0 z3_1 => And.intro (((((((((((t).2) z1_0 z1_1).2 c1).2 c2).1 c3).2) z2_0 z2_1).2).2) z3_0 z3_1).1 (And.intro ((((((((((((t).2) z1_0 z1_1).2 c1).2 c2).1 c3).2) z2_0 z2_1).2).2) z3_0 z3_1).2).1 (fun z4_0 z4_1 => And.intro ((((((((((((((t).2) z1_0 z1_1).2 c1).2 c2).1 c3).2) z2_0 z2_1).2).2) z3_0 z3_1).2).2) z4_0 z4_1).1 (And.intro (((((((((((((((t).2) z1_0 z1_1).2 c1).2 c2).1 c3).2) z2_0 z2_1).2).2) z3_0 z3_1).2).2) z4_0 z4_1).2).1 (fun z5_0 z5_1 => And.intro (((((((((((((((((t).2) z1_0 z1_1).2 c1).2 c2).1 c3).2) z2_0 z2_1).2).2) z3_0 z3_1).2).2) z4_0 z4_1).2).2) z5_0 z5_1).1 (And.intro (fun c4 => And.intro (fun c5 => (((((((((((((((((((t).2) z1_0 z1_1).2 c1).2 c2).1 c3).2) z2_0 z2_1).2).2) z3_0 z3_1).2).2) z4_0 z4_1).2).2) z5_0 z5_1).2).1 c4).1 c5) (fun c5 => (((((((((((((((((((t).2) z1_0 z1_1).2 c1).2 c2).1 c3).2) z2_0 z2_1).2).2) z3_0 z3_1).2).2) z4_0 z4_1).2).2) z5_0 z5_1).2).1 c4).2 c5)) (fun c4 => And.intro (((((((((((((((((((t).2) z1_0 z1_1).2 c1).2 c2).1 c3).2) z2_0 z2_1).2).2) z3_0 z3_1).2).2) z4_0 z4_1).2).2) z5_0 z5_1).2).2 c4).1 ((((((((((((((((((((t).2) z1_0 z1_1).2 c1).2 c2).1 c3).2) z2_0 z2_1).2).2) z3_0 z3_1).2).2) z4_0 z4_1).2).2) z5_0 z5_1).2).2 c4).2))))))))))) (fun c3 => (((((t).2) z1_0 z1_1).2 c1).2 c2).2 c3))))))
theorem nea_f {h h1 h2 h3 : am_H} (H : SV h 5) (q1 : SQ h h1 5) (q2 : SQ h1 h2 5) (q3 : SQ h2 h3 5) (z1 : h1 5 5 = 1) (z2 : h2 5 5 = 1) {k : Int} (hk : 0 ≤ k ∧ k < nl (nr h 7 0)) : (h1 52 k = lo (nr h 7 0) k ∧ h2 53 k = hi (nr h 7 0) k) ∧ ad (nr h 7 0) (lo (nr h 7 0) k) (hi (nr h 7 0) k) ∧ ad (nr h 7 0) (hi (nr h 7 0) k) (lo (nr h 7 0) k) := by
  have n1 := (SQ5_n q1).1
  have n2 := (SQ5_n (SQ_tr q1 q2)).1
  have a1 := (SV5_L q1.1 z1).2.1
  have a2 := (SV5_L q2.1 z2).2.1
  rw [n1] at a1
  rw [n2] at a2
  have l := (lo_n (SV5_N H).1 hk.1 hk.2).2.2.2
  exact ⟨⟨(a1 k hk.1 hk.2).1, (a2 k hk.1 hk.2).2⟩, l, NT_sym (SV5_N H).1 _ _ l⟩
theorem C134_ok : am_CS 5 134 C134 := W134 (fun k w h K hb => by
  have hN := (SV5_N hb.1).1
  have hC := (SV5_N hb.1).2
  have hn1 := hN.1
  have hn2 := hN.2.1
  have hnl := nl_r (nr h 7 0)
  refine T134_0 ⟨hb.1, fun h' q1 => ⟨fun c2 => ?_, fun c2 => ⟨fun c3 => ?_, fun c3 => ⟨fun c4 => ⟨q1.1.1, fun h'_1 q5 => ⟨by omega, ⟨q5.1.1, fun h'_2 q6 => ⟨by omega, ⟨q6.1.1, fun h'_3 q7 => ⟨by
    have f := nea_f hb.1 (SQ_tr q1.1 q5.1) q6.1 q7.1 q5.2 q6.2 c2
    refine ⟨SV5_MC q7.1.1 q7.2, ?_⟩
    rw [f.1.1, f.1.2, (SQ5_n (SQ_tr q1.1 (SQ_tr q5.1 (SQ_tr q6.1 q7.1)))).1]
    exact f.2.1, ⟨q7.1.1, fun h'_4 q8 => ⟨by
    have f := nea_f hb.1 (SQ_tr q1.1 q5.1) q6.1 q7.1 q5.2 q6.2 c2
    refine ⟨SV5_MC q8.1.1 q8.2, ?_⟩
    rw [f.1.1, f.1.2, (SQ5_n (SQ_tr q1.1 (SQ_tr q5.1 (SQ_tr q6.1 (SQ_tr q7.1 q8.1))))).1]
    exact f.2.2, ⟨fun c9 => ⟨fun c10 => ?_, fun c10 => ?_⟩, fun c9 => ⟨by have := SQ5_n (SQ_tr q1.1 (SQ_tr q5.1 (SQ_tr q6.1 (SQ_tr q7.1 q8.1)))); omega, ?_⟩⟩⟩⟩⟩⟩⟩⟩⟩⟩, fun c4 => ?_⟩⟩⟩⟩
  · have e := hb.2 h' q1.1
    rw [ifc_f (fun z => c2 z.1)] at e
    exact e
  · have e := hb.2 h' q1.1
    rw [ifc_f (by omega)] at e
    exact e
  · have f := nea_f hb.1 (SQ_tr q1.1 q5.1) q6.1 q7.1 q5.2 q6.2 c2
    have t4 := SQ_tr q1.1 (SQ_tr q5.1 (SQ_tr q6.1 (SQ_tr q7.1 q8.1)))
    have e := hb.2 h'_4 t4
    rw [ifc_t (by omega)] at e
    unfold nea at e
    rw [if_neg c10, if_pos (by omega)] at e
    rw [f.1.1, f.1.2, (SQ5_n t4).1, (SQ5_n t4).2]
    exact e
  · have f := nea_f hb.1 (SQ_tr q1.1 q5.1) q6.1 q7.1 q5.2 q6.2 c2
    have t3 := SQ_tr q1.1 (SQ_tr q5.1 (SQ_tr q6.1 q7.1))
    have t4 := SQ_tr q1.1 (SQ_tr q5.1 (SQ_tr q6.1 (SQ_tr q7.1 q8.1)))
    have e := hb.2 h'_4 t4
    rw [ifc_t (by omega)] at e
    unfold nea at e
    rw [if_pos c10] at e
    rw [f.1.1, f.1.2, (SQ5_n t3).1, (SQ5_n t3).2]
    exact e
  · have f := nea_f hb.1 (SQ_tr q1.1 q5.1) q6.1 q7.1 q5.2 q6.2 c2
    have t3 := SQ_tr q1.1 (SQ_tr q5.1 (SQ_tr q6.1 q7.1))
    have t4 := SQ_tr q1.1 (SQ_tr q5.1 (SQ_tr q6.1 (SQ_tr q7.1 q8.1)))
    have e := hb.2 h'_4 t4
    rw [ifc_t (by omega)] at e
    unfold nea at e
    rw [if_neg (by omega), if_neg (by omega)] at e
    rw [f.1.1, f.1.2, (SQ5_n t3).1, (SQ5_n t3).2, (SQ5_n t4).1, (SQ5_n t4).2]
    refine am_rB e (mkb_eq (rg_and _ _) (fun p => ?_)).symm
    rw [bt_and, bt_not, bt_or, bt_all hn1 (by omega)]
    unfold clo
    rw [bt_mk, bt_mk]
    constructor
    · rintro ⟨a, -, -, b⟩
      refine ⟨by omega, a.2, ?_⟩
      refine Classical.byContradiction fun q => b ?_
      by_cases c : ds (ad (nr h 7 0)) (lo (nr h 7 0) k) p < ds (ad (nr h 7 0)) (hi (nr h 7 0) k) p
      · exact Or.inl ⟨by omega, a.2, c⟩
      · exact Or.inr ⟨by omega, a.2, by omega⟩
    · rintro ⟨a, b, d⟩
      refine ⟨⟨a.1, b⟩, a.1, by omega, fun q => ?_⟩
      rcases q with q | q
      · have := q.2.2; omega
      · have := q.2.2; omega
  · have e := hb.2 h' q1.1
    rw [ifc_f (by omega)] at e
    exact e)
/-! 169 FactorNets.intervals -/
def C169 : am_K := fun as h K => am_a3 as (fun v0 v1 v2 => am_oc 11 0 v0 (am_n v1 (fun p => am_n v2 (fun x => (SV h 5 ∧ (0 ≤ p ∧ p < (h 6 0)) ∧ S20 x ∧ (∀ k, bit x k → k < (h 6 0))) ∧ (∀ (h' : am_H), SQ h h' 5 → K (some (mB (mkb (fun q => ∃ k, bit x k ∧ bit (amd (h 6 0) (nr h 7 0) p k) q)))) (h'))))))
theorem W169 {d : Nat} (H : ∀ (p : Int) (x : Int) (h : am_H) (K : Option am_V → am_H → Prop), (SV h 5 ∧ (0 ≤ p ∧ p < (h 6 0)) ∧ S20 x ∧ (∀ k, bit x k → k < (h 6 0))) ∧ (∀ (h' : am_H), SQ h h' 5 → K (some (mB (mkb (fun q => ∃ k, bit x k ∧ bit (amd (h 6 0) (nr h 7 0) p k) q)))) (h')) → am_AT d 169 0 [some (mR 1 11 0 0), some (mB p), some (mB x), none, none] h K) : am_CS d 169 C169 := by
  refine am_CS_of (T := tb169) (mL := 5) (rk := 1) rfl (fun as h K hC => ?_)
  obtain ⟨v0, v1, v2, rfl, hC0⟩ := am_a3_e hC
  obtain ⟨e0, hC1⟩ := am_oc_e hC0
  subst e0
  obtain ⟨p, rfl, hC2⟩ := am_n_e hC1
  obtain ⟨x, rfl, hC3⟩ := am_n_e hC2
  refine ⟨Nat.le_of_ble_eq_true rfl, ?_⟩
  exact H p x h K hC3
theorem T169_0 {R : Option am_V → am_H → Prop} {h : am_H} {p : Int} {x : Int} (t : am_AT 5 169 5 [some (mR 1 11 0 0), some (mB p), some (mB x), some (mI 0), some (mI 0)] h R) : am_AT 5 169 0 [some (mR 1 11 0 0), some (mB p), some (mB x), none, none] h R :=
  am_T (d := 4) (m := 169) (T := tb169) (mL := 5) (rk := 1) (cuts := [(5, [1, 1, 1, 2, 2])]) (l := [(16, C16), (88, C88b)]) rfl ⟨am_CS_d (by decide) C16_ok, am_CS_d (by decide) C88b_ok, trivial⟩ 8 (t)
theorem T169_5 {R : Option am_V → am_H → Prop} {h : am_H} {p : Int} {x : Int} {x3 : Int} {x4 : Int} (t : (R32 x4) ∧ (((h 6 0 ≤ x4) → ((R32 x3) ∧ (R (some (mB x3)) h))) ∧ ((x4 < h 6 0) → (((iAnd (iShr x x4) 1 = 0) → (am_AT 5 169 5 [some (mR 1 11 0 0), some (mB p), some (mB x), some (mI x3), some (mI (x4 + 1))] h R)) ∧ ((¬ iAnd (iShr x x4) 1 = 0) → ((SV h (5 : Int)) ∧ (∀ (h' : am_H), (SQ h h' (5 : Int) ∧ h' (5 : Int) 4 = 1) → ((R32 x4) ∧ (((NT (h' 6 0) (nr h' 7 0) ∧ CN (h' 6 0) (nr h' 7 0) ∧ MT h' (8 : Int) (h' 6 0) (nr h' 7 0)) ∧ (0 ≤ p ∧ p < h' 6 0) ∧ (0 ≤ x4 ∧ x4 < h' 6 0)) ∧ (am_AT 5 169 5 [some (mR 1 11 0 0), some (mB p), some (mB x), some (mI (iOr x3 (amd (h' 6 0) (nr h' 7 0) p x4))), some (mI (x4 + 1))] h' R)))))))))) : am_AT 5 169 5 [some (mR 1 11 0 0), some (mB p), some (mB x), some (mI x3), some (mI x4)] h R :=
  am_T (d := 4) (m := 169) (T := tb169) (mL := 5) (rk := 1) (cuts := [(5, [1, 1, 1, 2, 2])]) (l := [(16, C16), (88, C88b)]) rfl ⟨am_CS_d (by decide) C16_ok, am_CS_d (by decide) C88b_ok, trivial⟩ 27 (And.intro (t).1 (And.intro (fun c6 => And.intro (((t).2).1 c6).1 ((((t).2).1 c6).2)) (fun c6 => And.intro (fun c7 => (((t).2).2 c6).1 c7) (fun c7 => And.intro ((((t).2).2 c6).2 c7).1 (fun z6_0 z6_1 => And.intro ((((((t).2).2 c6).2 c7).2) z6_0 z6_1).1 (And.intro (((((((t).2).2 c6).2 c7).2) z6_0 z6_1).2).1 ((((((((t).2).2 c6).2 c7).2) z6_0 z6_1).2).2)))))))
theorem L169 {K : Option am_V → am_H → Prop} {h : am_H} (H : SV h 5) {p x : Int} (hp : 0 ≤ p ∧ p < h 6 0) (hx : ∀ k, bit x k → k < h 6 0) (hK : ∀ h', SQ h h' 5 → K (some (mB (mkb (fun q => ∃ k, bit x k ∧ bit (amd (h 6 0) (nr h 7 0) p k) q)))) h') : ∀ i z (hh : am_H), SQ h hh 5 → 0 ≤ i → i ≤ h 6 0 → S20 z → (∀ q, bit z q ↔ ∃ k, k < i ∧ bit x k ∧ bit (amd (h 6 0) (nr h 7 0) p k) q) → am_AT 5 169 5 [some (mR 1 11 0 0), some (mB p), some (mB x), some (mI z), some (mI i)] hh K := by
  have hN := (SV5_N H).1
  have hC := (SV5_N H).2
  have hn1 := hN.1
  have hn2 := hN.2.1
  refine lp (h 6 0) (fun i ih z hh Q i0 i1 hz hbz => ?_)
  have en := (SQ5_n Q).2
  have er := (SQ5_n Q).1
  have hz1 := hz.1
  have hz2 := hz.2
  refine T169_5 ⟨by omega, ⟨fun c1 => ⟨by omega, ?_⟩, fun c1 => ⟨fun c2 => ?_, fun c2 => ⟨Q.1, fun h' q3 => ⟨by omega, ⟨⟨SV5_MC q3.1.1 q3.2, by have e := SQ5_n (SQ_tr Q q3.1); omega, by have e := SQ5_n (SQ_tr Q q3.1); omega⟩, ?_⟩⟩⟩⟩⟩⟩
  · refine am_rB (hK hh Q) (mkb_eq (by omega) (fun q => ?_)).symm
    rw [hbz]
    constructor
    · rintro ⟨k, a, b, d⟩
      exact ⟨S20_in (S20_amd _ _) d, k, b, d⟩
    · rintro ⟨-, k, b, d⟩
      have := hx k b
      exact ⟨k, by omega, b, d⟩
  · have hb : ¬ bit x i := (bt_has0 i0 (by omega)).mp c2
    refine ih (by omega) z hh Q (by omega) (by omega) hz (fun q => ?_)
    rw [hbz]
    constructor
    · rintro ⟨k, a, b⟩
      exact ⟨k, by omega, b⟩
    · rintro ⟨k, a, b⟩
      have : k ≠ i := fun e => hb (e ▸ b.1)
      exact ⟨k, by omega, b⟩
  · have hb : bit x i := Classical.byContradiction fun q => c2 ((bt_has0 i0 (by omega)).mpr q)
    have e := SQ5_n (SQ_tr Q q3.1)
    rw [e.1, e.2]
    refine ih (by omega) _ h' (SQ_tr Q q3.1) (by omega) (by omega) (S20_or hz (S20_amd _ _)) (fun q => ?_)
    rw [bt_or, hbz]
    constructor
    · rintro (⟨k, a, b⟩ | a)
      · exact ⟨k, by omega, b⟩
      · exact ⟨i, by omega, hb, a⟩
    · rintro ⟨k, a, b, d⟩
      by_cases e2 : k = i
      · rw [e2] at d
        exact Or.inr d
      · exact Or.inl ⟨k, by omega, b, d⟩
theorem C169_ok : am_CS 5 169 C169 := W169 (fun p x h K hb => T169_0 (by
  obtain ⟨⟨H, hp, -, hx⟩, hK⟩ := hb
  exact L169 H hp hx hK 0 0 h (SQ_rf H) (by omega) (SV5_N H).1.1 S20_0 (fun q => ⟨fun z => absurd z bt_zero, fun ⟨k, a, b, _⟩ => by have := b.1; omega⟩)))
/-! 139 FactorNets.hull -/
def C139 : am_K := fun as h K => am_a2 as (fun v0 v1 => am_oc 11 0 v0 (am_n v1 (fun st => (SV h 5) ∧ (∀ (h' : am_H), SQ h h' 5 → K (some (mB (ifc (st ≠ 0 ∧ ∀ k, bit st k → k < (h 6 0)) (hul (h 6 0) (nr h 7 0) st) (-2)))) (h')))))
theorem W139 {d : Nat} (H : ∀ (st : Int) (h : am_H) (K : Option am_V → am_H → Prop), (SV h 5) ∧ (∀ (h' : am_H), SQ h h' 5 → K (some (mB (ifc (st ≠ 0 ∧ ∀ k, bit st k → k < (h 6 0)) (hul (h 6 0) (nr h 7 0) st) (-2)))) (h')) → am_AT d 139 0 [some (mR 1 11 0 0), some (mB st), none, none, none, none] h K) : am_CS d 139 C139 := by
  refine am_CS_of (T := tb139) (mL := 6) (rk := 1) rfl (fun as h K hC => ?_)
  obtain ⟨v0, v1, rfl, hC0⟩ := am_a2_e hC
  obtain ⟨e0, hC1⟩ := am_oc_e hC0
  subst e0
  obtain ⟨st, rfl, hC2⟩ := am_n_e hC1
  refine ⟨Nat.le_of_ble_eq_true rfl, ?_⟩
  exact H st h K hC2
theorem T139_0 {R : Option am_V → am_H → Prop} {h : am_H} {st : Int} (t : ((st = 0) → (R (some (mB (-2))) h)) ∧ ((¬ st = 0) → ((0 ≤ h (6 : Int) 0 ∧ h (6 : Int) 0 ≤ 30) ∧ (((iAnd st (iXor (iShl 1 (h (6 : Int) 0) - 1) (-1)) = 0) → (am_AT 6 139 31 [some (mR 1 11 0 0), none, some (mI st), some (mI 0), some (mI 0), none] h R)) ∧ ((¬ iAnd st (iXor (iShl 1 (h (6 : Int) 0) - 1) (-1)) = 0) → (R (some (mB (-2))) h)))))) : am_AT 6 139 0 [some (mR 1 11 0 0), some (mB st), none, none, none, none] h R :=
  am_T (d := 5) (m := 139) (T := tb139) (mL := 6) (rk := 1) (cuts := [(31, [1, 0, 2, 2, 2, 0])]) (l := [(22, C22), (169, C169), (177, C177)]) rfl ⟨am_CS_d (by decide) C22_ok, am_CS_d (by decide) C169_ok, am_CS_d (by decide) C177_ok, trivial⟩ 21 (And.intro (fun c8 => (t).1 c8) (fun c8 => And.intro ((t).2 c8).1 (And.intro (fun c9 => (((t).2 c8).2).1 c9) (fun c9 => (((t).2 c8).2).2 c9))))
theorem T139_31 {R : Option am_V → am_H → Prop} {h : am_H} {x2 : Int} {x3 : Int} {x4 : Int} (t : (R32 x4) ∧ (((20 ≤ x4) → ((R32 x2) ∧ (R (some (mB x2)) h))) ∧ ((x4 < 20) → ((R32 x2) ∧ ((R32 x3) ∧ (((x2 = x3) → ((R32 x2) ∧ (R (some (mB x2)) h))) ∧ ((¬ x2 = x3) → ((0 < (iAnd x2 (iXor x3 (-1))) ∧ (iAnd x2 (iXor x3 (-1))) < 2147483648) ∧ ((R32 x3) ∧ ((SV h 5 ∧ (0 ≤ (iLow (iAnd x2 (iXor x3 (-1)))) ∧ (iLow (iAnd x2 (iXor x3 (-1)))) < (h 6 0)) ∧ S20 x3 ∧ (∀ k, bit x3 k → k < (h 6 0))) ∧ (∀ (h' : am_H), (SQ h h' 5) → (am_AT 6 139 31 [some (mR 1 11 0 0), none, some (mI (iOr x2 (mkb (fun q => ∃ k, bit x3 k ∧ bit (amd (h 6 0) (nr h 7 0) (iLow (iAnd x2 (iXor x3 (-1)))) k) q)))), some (mI (iOr x3 (iShl 1 (iLow (iAnd x2 (iXor x3 (-1))))))), some (mI (x4 + 1)), none] h' R)))))))))))) : am_AT 6 139 31 [some (mR 1 11 0 0), none, some (mI x2), some (mI x3), some (mI x4), none] h R :=
  am_T (d := 5) (m := 139) (T := tb139) (mL := 6) (rk := 1) (cuts := [(31, [1, 0, 2, 2, 2, 0])]) (l := [(22, C22), (169, C169), (177, C177)]) rfl ⟨am_CS_d (by decide) C22_ok, am_CS_d (by decide) C169_ok, am_CS_d (by decide) C177_ok, trivial⟩ 32 (And.intro (t).1 (And.intro (fun c10 => And.intro (((t).2).1 c10).1 ((((t).2).1 c10).2)) (fun c10 => And.intro (((t).2).2 c10).1 (And.intro ((((t).2).2 c10).2).1 (And.intro (fun c11 => And.intro ((((((t).2).2 c10).2).2).1 c11).1 (((((((t).2).2 c10).2).2).1 c11).2)) (fun c11 => And.intro ((((((t).2).2 c10).2).2).2 c11).1 (And.intro (((((((t).2).2 c10).2).2).2 c11).2).1 (And.intro (rfl) (And.intro ((((((((t).2).2 c10).2).2).2 c11).2).2).1 (fun z7_0 z7_1 => (((((((((t).2).2 c10).2).2).2 c11).2).2).2) z7_0 z7_1))))))))))
theorem L139 {K : Option am_V → am_H → Prop} {h : am_H} (H : SV h 5) {st : Int} (hst : S20 st ∧ ∀ k, bit st k → k < h 6 0) (hK : ∀ h', SQ h h' 5 → K (some (mB (hul (h 6 0) (nr h 7 0) st))) h') : ∀ i x y (hh : am_H), SQ h hh 5 → 0 ≤ i → S20 x → S20 y → (∀ k, bit st k → bit x k) → (∀ k, bit y k → bit x k) → (∀ k, bit x k → k < h 6 0) → (∀ k, bit x k → ∀ S : Int → Prop, (∀ k, bit st k → S k) → cvx (h 6 0) (nr h 7 0) S → S k) → (∀ a b, bit y a → bit y b → ∀ k, bit (amd (h 6 0) (nr h 7 0) a b) k → bit x k) → i ≤ ct (bit y) 20 → am_AT 6 139 31 [some (mR 1 11 0 0), none, some (mI x), some (mI y), some (mI i), none] hh K := by
  have hN := (SV5_N H).1
  have hC := (SV5_N H).2
  have hn1 := hN.1
  have hn2 := hN.2.1
  refine lp 20 (fun i ih x y hh Q i0 hx hy hsx hyx hxn hxh hcl hct => ?_)
  have en := (SQ5_n Q).2
  have er := (SQ5_n Q).1
  have hx1 := hx.1
  have hx2 := hx.2
  have hy1 := hy.1
  have hy2 := hy.2
  have hcl2 := ct_le (bit y) 20
  have fin : x = y → K (some (mB x)) hh := fun e => by
    refine am_rB (hK hh Q) (mkb_eq (by omega) (fun j => ⟨fun z => ⟨S20_in hx z, hxh j z⟩, fun z => ?_⟩)).symm
    exact z.2 (fun k => bit x k) hsx (fun a b ha hb k hk => hcl a b (e ▸ ha) (e ▸ hb) k hk)
  have hlow : ¬ x = y → S20 (iAnd x (iXor y (-1))) ∧ iAnd x (iXor y (-1)) ≠ 0 ∧ (∀ k, bit (iAnd x (iXor y (-1))) k ↔ bit x k ∧ ¬ bit y k) := fun e => by
    have hb : ∀ k, bit (iAnd x (iXor y (-1))) k ↔ bit x k ∧ ¬ bit y k := fun k => by
      rw [bt_and, bt_not]
      exact ⟨fun q => ⟨q.1, q.2.2.2⟩, fun q => ⟨q.1, q.1.1, bt_lt q.1, q.2⟩⟩
    refine ⟨S20_and hx, fun q => e (bt_ext (by omega) (by omega) (fun k _ _ => ⟨fun z => ?_, hyx k⟩)), hb⟩
    refine Classical.byContradiction fun z2 => ?_
    have := (hb k).mpr ⟨z, z2⟩
    rw [q] at this
    exact bt_zero this
  refine T139_31 ⟨by omega, ⟨fun c1 => ⟨by omega, ?_⟩, fun c1 => ⟨by omega, ⟨by omega, ⟨fun c2 => ⟨by omega, ?_⟩, fun c2 => ⟨S20_pos (hlow c2).1 (hlow c2).2.1, ⟨by omega, ⟨⟨Q.1, by have s := hlow c2; have l := S20_low s.1 s.2.1; have := hxn _ ((s.2.2 _).mp l.1).1; omega, hy, fun k hk => by have := hxn k (hyx k hk); omega⟩, fun h' q3 => ?_⟩⟩⟩⟩⟩⟩⟩⟩
  · refine fin (bt_ext (by omega) (by omega) (fun k k0 k1 => ⟨fun z => ?_, hyx k⟩))
    have := S20_in hx z
    exact ct_full (P := bit y) 20 (by omega) k this.1 this.2
  · exact fin c2
  · obtain ⟨s1, s2, s3⟩ := hlow c2
    obtain ⟨l1, l2, l3, l4⟩ := S20_low s1 s2
    have l5 := (s3 _).mp l1
    have l6 := hxn _ l5.1
    have eA : ∀ k, bit (amd (h 6 0) (nr h 7 0) (iLow (iAnd x (iXor y (-1)))) (iLow (iAnd x (iXor y (-1))))) k → bit x k := fun k hk => by
      rw [amd_self hN hC ⟨l3, l6⟩ hk]
      exact l5.1
    rw [er, en]
    refine ih c1 _ _ h' (SQ_tr Q q3) (by omega) (S20_or hx (S20_mk _)) (S20_or hy (S20_1 l3 l4)) (fun k hk => bt_or.mpr (Or.inl (hsx k hk))) (fun k hk => ?_) (fun k hk => ?_) (fun k hk S hS hv => ?_) (fun a b ha hb k hk => ?_) ?_
    · rcases bt_or.mp hk with q | q
      · exact bt_or.mpr (Or.inl (hyx k q))
      · rw [bt_1 l3 (by omega)] at q
        rw [q]
        exact bt_or.mpr (Or.inl l5.1)
    · rcases bt_or.mp hk with q | q
      · exact hxn k q
      · obtain ⟨-, k2, -, q2⟩ := bt_mk.mp q
        exact (amd_n q2).2
    · rcases bt_or.mp hk with q | q
      · exact hxh k q S hS hv
      · obtain ⟨-, k2, q1, q2⟩ := bt_mk.mp q
        exact hv _ _ (hxh _ l5.1 S hS hv) (hxh _ (hyx _ q1) S hS hv) k q2
    · rw [bt_or] at ha hb
      rw [bt_1 l3 (by omega)] at ha hb
      rcases ha with ha | ha
      · rcases hb with hb | hb
        · exact bt_or.mpr (Or.inl (hcl a b ha hb k hk))
        · rw [hb, amd_sym hN] at hk
          exact bt_or.mpr (Or.inr (bt_mk.mpr ⟨S20_in (S20_amd _ _) hk, a, ha, hk⟩))
      · rcases hb with hb | hb
        · rw [ha] at hk
          exact bt_or.mpr (Or.inr (bt_mk.mpr ⟨S20_in (S20_amd _ _) hk, b, hb, hk⟩))
        · rw [ha, hb] at hk
          exact bt_or.mpr (Or.inl (eA k hk))
    · have e := ct_add (P := bit y) (Q := bit (iOr y (iShl 1 (iLow (iAnd x (iXor y (-1))))))) 20 l3 l4 l5.2 (fun k => by rw [bt_or, bt_1 l3 (by omega)])
      omega
theorem hst_iff {n st : Int} (h0 : 0 ≤ n ∧ n ≤ 20) : iAnd st (iXor (iShl 1 n - 1) (-1)) = 0 ↔ ∀ k, bit st k → k < n := by
  have hb : ∀ k, bit (iAnd st (iXor (iShl 1 n - 1) (-1))) k ↔ bit st k ∧ ¬ k < n := fun k => by
    rw [bt_and, bt_not, bt_all h0.1 (by omega)]
    exact ⟨fun q => ⟨q.1, fun z => q.2.2.2 ⟨q.1.1, z⟩⟩, fun q => ⟨q.1, q.1.1, bt_lt q.1, fun z => q.2 z.2⟩⟩
  constructor
  · intro e k hk
    refine Classical.byContradiction fun q => ?_
    have := (hb k).mpr ⟨hk, q⟩
    rw [e] at this
    exact bt_zero this
  · intro q
    refine bt_ext (rg_and _ _) (by omega) (fun k _ _ => ⟨fun z => absurd (q k ((hb k).mp z).1) ((hb k).mp z).2, fun z => absurd z bt_zero⟩)
theorem C139_ok : am_CS 6 139 C139 := W139 (fun st h K hb => am_AT_ok (fun _ hl => by
  have hN := (SV5_N hb.1).1
  have hn1 := hN.1
  have hn2 := hN.2.1
  have hr : R32 st := hl 1 _ rfl rfl
  refine T139_0 ⟨fun c1 => ?_, fun c1 => ⟨by omega, ⟨fun c2 => ?_, fun c2 => ?_⟩⟩⟩
  · exact am_rB (hb.2 h (SQ_rf hb.1)) (ifc_f (fun q => q.1 c1))
  · have hst := (hst_iff ⟨hn1, hn2⟩).mp c2
    refine L139 hb.1 ⟨S20_of hr (fun k hk => by have := hst k hk; omega), hst⟩ (fun h' q => ?_) 0 st 0 h (SQ_rf hb.1) (by omega) (S20_of hr (fun k hk => by have := hst k hk; omega)) S20_0 (fun k => id) (fun k q => absurd q bt_zero) hst (fun k hk S hS _ => hS k hk) (fun a b q => absurd q bt_zero) (ct_le _ 20).1
    have e := hb.2 h' q
    rw [ifc_t ⟨c1, hst⟩] at e
    exact e
  · exact am_rB (hb.2 h (SQ_rf hb.1)) (ifc_f (fun q => c2 ((hst_iff ⟨hn1, hn2⟩).mpr q.2)))))
/-! 170 FactorNets.middle -/
def C170 : am_K := fun as h K => am_a4 as (fun v0 v1 v2 v3 => am_oc 11 0 v0 (am_n v1 (fun a => am_n v2 (fun b => am_n v3 (fun e => (SV h 5 ∧ (0 ≤ a ∧ a < (h 6 0)) ∧ (0 ≤ b ∧ b < (h 6 0)) ∧ (0 ≤ e ∧ e < (h 6 0))) ∧ (∀ (h' : am_H), SQ h h' 5 → K (some (mB (med (h 6 0) (nr h 7 0) a b e))) (h')))))))
theorem W170 {d : Nat} (H : ∀ (a : Int) (b : Int) (e : Int) (h : am_H) (K : Option am_V → am_H → Prop), (SV h 5 ∧ (0 ≤ a ∧ a < (h 6 0)) ∧ (0 ≤ b ∧ b < (h 6 0)) ∧ (0 ≤ e ∧ e < (h 6 0))) ∧ (∀ (h' : am_H), SQ h h' 5 → K (some (mB (med (h 6 0) (nr h 7 0) a b e))) (h')) → am_AT d 170 0 [some (mR 1 11 0 0), some (mB a), some (mB b), some (mB e), none] h K) : am_CS d 170 C170 := by
  refine am_CS_of (T := tb170) (mL := 5) (rk := 1) rfl (fun as h K hC => ?_)
  obtain ⟨v0, v1, v2, v3, rfl, hC0⟩ := am_a4_e hC
  obtain ⟨e0, hC1⟩ := am_oc_e hC0
  subst e0
  obtain ⟨a, rfl, hC2⟩ := am_n_e hC1
  obtain ⟨b, rfl, hC3⟩ := am_n_e hC2
  obtain ⟨e, rfl, hC4⟩ := am_n_e hC3
  refine ⟨Nat.le_of_ble_eq_true rfl, ?_⟩
  exact H a b e h K hC4
theorem T170_0 {R : Option am_V → am_H → Prop} {h : am_H} {a : Int} {b : Int} {e : Int} (t : (SV h (5 : Int)) ∧ (∀ (h' : am_H), (SQ h h' (5 : Int) ∧ h' (5 : Int) 4 = 1) → (((NT (h' 6 0) (nr h' 7 0) ∧ CN (h' 6 0) (nr h' 7 0) ∧ MT h' (8 : Int) (h' 6 0) (nr h' 7 0)) ∧ (0 ≤ a ∧ a < h' 6 0) ∧ (0 ≤ b ∧ b < h' 6 0)) ∧ (((NT (h' 6 0) (nr h' 7 0) ∧ CN (h' 6 0) (nr h' 7 0) ∧ MT h' (8 : Int) (h' 6 0) (nr h' 7 0)) ∧ (0 ≤ b ∧ b < h' 6 0) ∧ (0 ≤ e ∧ e < h' 6 0)) ∧ (((NT (h' 6 0) (nr h' 7 0) ∧ CN (h' 6 0) (nr h' 7 0) ∧ MT h' (8 : Int) (h' 6 0) (nr h' 7 0)) ∧ (0 ≤ e ∧ e < h' 6 0) ∧ (0 ≤ a ∧ a < h' 6 0)) ∧ (R (some (mB (iAnd (iAnd (amd (h' 6 0) (nr h' 7 0) a b) (amd (h' 6 0) (nr h' 7 0) b e)) (amd (h' 6 0) (nr h' 7 0) e a)))) h')))))) : am_AT 5 170 0 [some (mR 1 11 0 0), some (mB a), some (mB b), some (mB e), none] h R :=
  am_T (d := 4) (m := 170) (T := tb170) (mL := 5) (rk := 1) (cuts := []) (l := [(16, C16), (88, C88b)]) rfl ⟨am_CS_d (by decide) C16_ok, am_CS_d (by decide) C88b_ok, trivial⟩ 23 (And.intro (t).1 (fun z8_0 z8_1 => And.intro (((t).2) z8_0 z8_1).1 (And.intro ((((t).2) z8_0 z8_1).2).1 (And.intro (((((t).2) z8_0 z8_1).2).2).1 ((((((t).2) z8_0 z8_1).2).2).2)))))
theorem C170_ok : am_CS 5 170 C170 := W170 (fun a b e h K hb => by
  obtain ⟨⟨H, ha, hb, he⟩, hK⟩ := hb
  refine T170_0 ⟨H, fun h' q1 => ⟨⟨SV5_MC q1.1.1 q1.2, by have := SQ5_n q1.1; omega, by have := SQ5_n q1.1; omega⟩, ⟨⟨SV5_MC q1.1.1 q1.2, by have := SQ5_n q1.1; omega, by have := SQ5_n q1.1; omega⟩, ⟨⟨SV5_MC q1.1.1 q1.2, by have := SQ5_n q1.1; omega, by have := SQ5_n q1.1; omega⟩, ?_⟩⟩⟩⟩
  · have n1 := SQ5_n q1.1
    rw [n1.1, n1.2, amd_sym (SV5_N H).1 e a]
    exact hK h' q1.1)
/-! 140 FactorNets.median -/
def C140 : am_K := fun as h K => am_a4 as (fun v0 v1 v2 v3 => am_oc 11 0 v0 (am_n v1 (fun a => am_n v2 (fun b => am_n v3 (fun e => (SV h 5) ∧ (∀ (h' : am_H), SQ h h' 5 → K (some (mB (ifc ((0 ≤ a ∧ a < (h 6 0)) ∧ (0 ≤ b ∧ b < (h 6 0)) ∧ (0 ≤ e ∧ e < (h 6 0))) (med (h 6 0) (nr h 7 0) a b e) (-2)))) (h')))))))
theorem W140 {d : Nat} (H : ∀ (a : Int) (b : Int) (e : Int) (h : am_H) (K : Option am_V → am_H → Prop), (SV h 5) ∧ (∀ (h' : am_H), SQ h h' 5 → K (some (mB (ifc ((0 ≤ a ∧ a < (h 6 0)) ∧ (0 ≤ b ∧ b < (h 6 0)) ∧ (0 ≤ e ∧ e < (h 6 0))) (med (h 6 0) (nr h 7 0) a b e) (-2)))) (h')) → am_AT d 140 0 [some (mR 1 11 0 0), some (mB a), some (mB b), some (mB e)] h K) : am_CS d 140 C140 := by
  refine am_CS_of (T := tb140) (mL := 4) (rk := 1) rfl (fun as h K hC => ?_)
  obtain ⟨v0, v1, v2, v3, rfl, hC0⟩ := am_a4_e hC
  obtain ⟨e0, hC1⟩ := am_oc_e hC0
  subst e0
  obtain ⟨a, rfl, hC2⟩ := am_n_e hC1
  obtain ⟨b, rfl, hC3⟩ := am_n_e hC2
  obtain ⟨e, rfl, hC4⟩ := am_n_e hC3
  refine ⟨Nat.le_of_ble_eq_true rfl, ?_⟩
  exact H a b e h K hC4
theorem T140_0 {R : Option am_V → am_H → Prop} {h : am_H} {a : Int} {b : Int} {e : Int} (t : ((¬ (((0 ≤ a ∧ a < (h 6 0)) ∧ (0 ≤ b ∧ b < (h 6 0))))) → (R (some (mB (-2))) h)) ∧ ((((0 ≤ a ∧ a < (h 6 0)) ∧ (0 ≤ b ∧ b < (h 6 0)))) → (((¬ (0 ≤ e ∧ e < (h 6 0))) → (R (some (mB (-2))) h)) ∧ ((0 ≤ e ∧ e < (h 6 0)) → ((SV h 5 ∧ (0 ≤ a ∧ a < (h 6 0)) ∧ (0 ≤ b ∧ b < (h 6 0)) ∧ (0 ≤ e ∧ e < (h 6 0))) ∧ (∀ (h' : am_H), (SQ h h' 5) → (R (some (mB (med (h 6 0) (nr h 7 0) a b e))) h'))))))) : am_AT 6 140 0 [some (mR 1 11 0 0), some (mB a), some (mB b), some (mB e)] h R :=
  am_T (d := 5) (m := 140) (T := tb140) (mL := 4) (rk := 1) (cuts := []) (l := [(156, C156), (157, C157), (170, C170)]) rfl ⟨am_CS_d (by decide) C156_ok, am_CS_d (by decide) C157_ok, am_CS_d (by decide) C170_ok, trivial⟩ 20 (And.intro (rfl) (And.intro (fun c12 => (t).1 c12) (fun c12 => And.intro (rfl) (And.intro (fun c13 => ((t).2 c12).1 c13) (fun c13 => And.intro (rfl) (And.intro (((t).2 c12).2 c13).1 (fun z9_0 z9_1 => ((((t).2 c12).2 c13).2) z9_0 z9_1)))))))
theorem C140_ok : am_CS 6 140 C140 := W140 (fun a b e h K hb => by
  refine T140_0 ⟨fun c1 => ?_, fun c1 => ⟨fun c2 => ?_, fun c2 => ⟨⟨hb.1, c1.1, c1.2, c2⟩, fun h' q3 => ?_⟩⟩⟩
  · exact am_rB (hb.2 h (SQ_rf hb.1)) (ifc_f (fun q => c1 ⟨q.1, q.2.1⟩))
  · exact am_rB (hb.2 h (SQ_rf hb.1)) (ifc_f (fun q => c2 q.2.2))
  · exact am_rB (hb.2 h' q3) (ifc_t ⟨c1.1, c1.2, c2⟩))
/-! 141 FactorNets.medians -/
def C141 : am_K := fun as h K => am_a1 as (fun v0 => am_oc 11 0 v0 ((SV h 5) ∧ (∀ (h' : am_H), SQ h h' 5 → K (some (mB (ifc (0 < (h 6 0)) (ifc (∀ a b e, 0 ≤ e → e < b → b < a → a < (h 6 0) → iPop (med (h 6 0) (nr h 7 0) a b e) = 1) 1 0) (-2)))) (h'))))
theorem W141 {d : Nat} (H : ∀  (h : am_H) (K : Option am_V → am_H → Prop), (SV h 5) ∧ (∀ (h' : am_H), SQ h h' 5 → K (some (mB (ifc (0 < (h 6 0)) (ifc (∀ a b e, 0 ≤ e → e < b → b < a → a < (h 6 0) → iPop (med (h 6 0) (nr h 7 0) a b e) = 1) 1 0) (-2)))) (h')) → am_AT d 141 0 [some (mR 1 11 0 0), none, none, none] h K) : am_CS d 141 C141 := by
  refine am_CS_of (T := tb141) (mL := 4) (rk := 1) rfl (fun as h K hC => ?_)
  obtain ⟨v0, rfl, hC0⟩ := am_a1_e hC
  obtain ⟨e0, hC1⟩ := am_oc_e hC0
  subst e0
  refine ⟨Nat.le_of_ble_eq_true rfl, ?_⟩
  exact H  h K hC1
theorem T141_0 {R : Option am_V → am_H → Prop} {h : am_H} (t : ((¬ h 6 0 = 0) → (am_AT 6 141 18 [some (mR 1 11 0 0), some (mI 0), none, none] h R)) ∧ ((h 6 0 = 0) → (R (some (mB (-2))) h))) : am_AT 6 141 0 [some (mR 1 11 0 0), none, none, none] h R :=
  am_T (d := 5) (m := 141) (T := tb141) (mL := 4) (rk := 1) (cuts := [(18, [1, 2, 0, 0]), (34, [1, 2, 2, 0]), (41, [1, 2, 2, 2])]) (l := [(170, C170), (317, C317)]) rfl ⟨am_CS_d (by decide) C170_ok, am_CS_d (by decide) C317_ok, trivial⟩ 11 (And.intro (fun c14 => (t).1 c14) (fun c14 => (t).2 c14))
theorem T141_18 {R : Option am_V → am_H → Prop} {h : am_H} {x1 : Int} (t : (R32 x1) ∧ (((h 6 0 ≤ x1) → (R (some (mB 1)) h)) ∧ ((x1 < h 6 0) → (am_AT 6 141 34 [some (mR 1 11 0 0), some (mI x1), some (mI 0), none] h R)))) : am_AT 6 141 18 [some (mR 1 11 0 0), some (mI x1), none, none] h R :=
  am_T (d := 5) (m := 141) (T := tb141) (mL := 4) (rk := 1) (cuts := [(18, [1, 2, 0, 0]), (34, [1, 2, 2, 0]), (41, [1, 2, 2, 2])]) (l := [(170, C170), (317, C317)]) rfl ⟨am_CS_d (by decide) C170_ok, am_CS_d (by decide) C317_ok, trivial⟩ 12 (And.intro (t).1 (And.intro (fun c15 => ((t).2).1 c15) (fun c15 => ((t).2).2 c15)))
theorem T141_34 {R : Option am_V → am_H → Prop} {h : am_H} {x1 : Int} {x2 : Int} (t : (R32 x2) ∧ ((R32 x1) ∧ (((x1 ≤ x2) → (am_AT 6 141 18 [some (mR 1 11 0 0), some (mI (x1 + 1)), none, none] h R)) ∧ ((x2 < x1) → (am_AT 6 141 41 [some (mR 1 11 0 0), some (mI x1), some (mI x2), some (mI 0)] h R))))) : am_AT 6 141 34 [some (mR 1 11 0 0), some (mI x1), some (mI x2), none] h R :=
  am_T (d := 5) (m := 141) (T := tb141) (mL := 4) (rk := 1) (cuts := [(18, [1, 2, 0, 0]), (34, [1, 2, 2, 0]), (41, [1, 2, 2, 2])]) (l := [(170, C170), (317, C317)]) rfl ⟨am_CS_d (by decide) C170_ok, am_CS_d (by decide) C317_ok, trivial⟩ 9 (And.intro (t).1 (And.intro ((t).2).1 (And.intro (fun c16 => (((t).2).2).1 c16) (fun c16 => (((t).2).2).2 c16))))
theorem T141_41 {R : Option am_V → am_H → Prop} {h : am_H} {x1 : Int} {x2 : Int} {x3 : Int} (t : (R32 x3) ∧ ((R32 x2) ∧ (((x2 ≤ x3) → (am_AT 6 141 34 [some (mR 1 11 0 0), some (mI x1), some (mI (x2 + 1)), none] h R)) ∧ ((x3 < x2) → ((R32 x1) ∧ ((R32 x2) ∧ ((R32 x3) ∧ ((SV h 5 ∧ (0 ≤ x1 ∧ x1 < (h 6 0)) ∧ (0 ≤ x2 ∧ x2 < (h 6 0)) ∧ (0 ≤ x3 ∧ x3 < (h 6 0))) ∧ (∀ (h' : am_H), (SQ h h' 5) → ((0 ≤ (med (h 6 0) (nr h 7 0) x1 x2 x3) ∧ (med (h 6 0) (nr h 7 0) x1 x2 x3) < 2147483648) ∧ (((iPop (med (h 6 0) (nr h 7 0) x1 x2 x3) = 1) → (am_AT 6 141 41 [some (mR 1 11 0 0), some (mI x1), some (mI x2), some (mI (x3 + 1))] h' R)) ∧ ((¬ iPop (med (h 6 0) (nr h 7 0) x1 x2 x3) = 1) → (R (some (mB 0)) h'))))))))))))) : am_AT 6 141 41 [some (mR 1 11 0 0), some (mI x1), some (mI x2), some (mI x3)] h R :=
  am_T (d := 5) (m := 141) (T := tb141) (mL := 4) (rk := 1) (cuts := [(18, [1, 2, 0, 0]), (34, [1, 2, 2, 0]), (41, [1, 2, 2, 2])]) (l := [(170, C170), (317, C317)]) rfl ⟨am_CS_d (by decide) C170_ok, am_CS_d (by decide) C317_ok, trivial⟩ 17 (And.intro (t).1 (And.intro ((t).2).1 (And.intro (fun c17 => (((t).2).2).1 c17) (fun c17 => And.intro ((((t).2).2).2 c17).1 (And.intro (((((t).2).2).2 c17).2).1 (And.intro ((((((t).2).2).2 c17).2).2).1 (And.intro (rfl) (And.intro (((((((t).2).2).2 c17).2).2).2).1 (fun z10_0 z10_1 => And.intro (((((((((t).2).2).2 c17).2).2).2).2) z10_0 z10_1).1 (And.intro (fun c18 => ((((((((((t).2).2).2 c17).2).2).2).2) z10_0 z10_1).2).1 c18) (fun c18 => ((((((((((t).2).2).2 c17).2).2).2).2) z10_0 z10_1).2).2 c18)))))))))))
theorem L141 {K : Option am_V → am_H → Prop} {h : am_H} (H : SV h 5) (hK1 : ∀ h', SQ h h' 5 → (∀ a b e, 0 ≤ e → e < b → b < a → a < h 6 0 → iPop (med (h 6 0) (nr h 7 0) a b e) = 1) → K (some (mB 1)) h') (hK0 : ∀ h', SQ h h' 5 → (¬ ∀ a b e, 0 ≤ e → e < b → b < a → a < h 6 0 → iPop (med (h 6 0) (nr h 7 0) a b e) = 1) → K (some (mB 0)) h') : ∀ a (hh : am_H), SQ h hh 5 → 0 ≤ a → a ≤ h 6 0 → (∀ a' b e, 0 ≤ e → e < b → b < a' → a' < a → iPop (med (h 6 0) (nr h 7 0) a' b e) = 1) → am_AT 6 141 18 [some (mR 1 11 0 0), some (mI a), none, none] hh K := by
  have hN := (SV5_N H).1
  have hC := (SV5_N H).2
  have hn1 := hN.1
  have hn2 := hN.2.1
  refine lp (h 6 0) (fun a ih hh Q a0 a1 f => ?_)
  have en := (SQ5_n Q).2
  have er := (SQ5_n Q).1
  refine T141_18 ⟨by omega, ⟨fun c1 => ?_, fun c1 => ?_⟩⟩
  · exact hK1 hh Q (fun a' b e e0 e1 e2 e3 => f a' b e e0 e1 e2 (by omega))
  · have L2 : ∀ b (g : am_H), SQ h g 5 → 0 ≤ b → b ≤ a → (∀ b' e, 0 ≤ e → e < b' → b' < b → iPop (med (h 6 0) (nr h 7 0) a b' e) = 1) → am_AT 6 141 34 [some (mR 1 11 0 0), some (mI a), some (mI b), none] g K := by
      refine lp a (fun b ih2 g G b0 b1 f2 => ?_)
      refine T141_34 ⟨by omega, ⟨by omega, ⟨fun c1 => ?_, fun c1 => ?_⟩⟩⟩
      · refine ih (by omega) g G (by omega) (by omega) (fun a' b' e e0 e1 e2 e3 => ?_)
        by_cases q : a' = a
        · rw [q]
          exact f2 b' e e0 e1 (by omega)
        · exact f a' b' e e0 e1 e2 (by omega)
      · have L3 : ∀ e (g : am_H), SQ h g 5 → 0 ≤ e → e ≤ b → (∀ e', 0 ≤ e' → e' < e → iPop (med (h 6 0) (nr h 7 0) a b e') = 1) → am_AT 6 141 41 [some (mR 1 11 0 0), some (mI a), some (mI b), some (mI e)] g K := by
          refine lp b (fun e ih3 g G e0 e1 f3 => ?_)
          have n3 := SQ5_n G
          refine T141_41 ⟨by omega, ⟨by omega, ⟨fun c1 => ?_, fun c1 => ⟨by omega, ⟨by omega, ⟨by omega, ⟨⟨G.1, by omega, by omega, by omega⟩, fun h' q2 => ⟨by have := @S20_med (g 6 0) (nr g 7 0) a b e; exact ⟨this.1, by have := this.2; omega⟩, ⟨fun c3 => ?_, fun c3 => ?_⟩⟩⟩⟩⟩⟩⟩⟩⟩
          · refine ih2 (by omega) g G (by omega) (by omega) (fun b' e' q0 q1 q2 => ?_)
            by_cases q : b' = b
            · rw [q]
              exact f3 e' q0 (by omega)
            · exact f2 b' e' q0 q1 (by omega)
          · rw [n3.1, n3.2] at c3
            refine ih3 (by omega) h' (SQ_tr G q2) (by omega) (by omega) (fun e' q0 q1 => ?_)
            by_cases q : e' = e
            · rw [q]; exact c3
            · exact f3 e' q0 (by omega)
          · rw [n3.1, n3.2] at c3
            exact hK0 h' (SQ_tr G q2) (fun q => c3 (q a b e e0 (by omega) (by omega) (by omega)))
        exact L3 0 g G (by omega) b0 (fun e' q0 q1 => by omega)
    exact L2 0 hh Q (by omega) a0 (fun b' e q0 q1 q2 => by omega)
theorem C141_ok : am_CS 6 141 C141 := W141 (fun h K hb => by
  have hn1 := (SV5_N hb.1).1.1
  refine T141_0 ⟨fun c1 => ?_, fun c1 => ?_⟩
  · refine L141 hb.1 (fun h' q z => ?_) (fun h' q z => ?_) 0 h (SQ_rf hb.1) (by omega) hn1 (fun a b e _ _ _ _ => by omega)
    · have e := hb.2 h' q
      rw [ifc_t (by omega), ifc_t z] at e
      exact e
    · have e := hb.2 h' q
      rw [ifc_t (by omega), ifc_f z] at e
      exact e
  · exact am_rB (hb.2 h (SQ_rf hb.1)) (ifc_f (by omega)))
