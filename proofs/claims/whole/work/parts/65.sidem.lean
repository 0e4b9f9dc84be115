/-! 167 FactorNets.breakInPieces -/
def C167 : am_K := fun as h K => am_a2 as (fun v0 v1 => am_oc 11 0 v0 (am_n v1 (fun s => (SV h 5) ∧ (∀ (h' : am_H), SQa (fun x => 472 ≤ x ∧ x ≤ 475) h h' ∧ h' 5 6 = 1 ∧ PCS h' (h 6 0) (uc (nr h 7 0) s) → K (none) (h')))))
theorem W167 {d : Nat} (H : ∀ (s : Int) (h : am_H) (K : Option am_V → am_H → Prop), (SV h 5) ∧ (∀ (h' : am_H), SQa (fun x => 472 ≤ x ∧ x ≤ 475) h h' ∧ h' 5 6 = 1 ∧ PCS h' (h 6 0) (uc (nr h 7 0) s) → K (none) (h')) → am_AT d 167 0 [some (mR 1 11 0 0), some (mB s), none, none, none, none, none] h K) : am_CS d 167 C167 := by
  refine am_CS_of (T := tb167) (mL := 7) (rk := 0) rfl (fun as h K hC => ?_)
  obtain ⟨v0, v1, rfl, hC0⟩ := am_a2_e hC
  obtain ⟨e0, hC1⟩ := am_oc_e hC0
  subst e0
  obtain ⟨s, rfl, hC2⟩ := am_n_e hC1
  refine ⟨Nat.le_of_ble_eq_true rfl, ?_⟩
  exact H s h K hC2
theorem T167_0 {R : Option am_V → am_H → Prop} {h : am_H} {s : Int} (t : (SV h (5 : Int)) ∧ (∀ (h' : am_H), (SQ h h' (5 : Int) ∧ h' (5 : Int) 6 = 1) → (am_AT 6 167 31 [some (mR 1 11 0 0), some (mB s), some (mR 1 9 0 75), some (mI 0), none, none, none] (am_cp h' 7 0 475 0 20) R))) : am_AT 6 167 0 [some (mR 1 11 0 0), some (mB s), none, none, none, none, none] h R :=
  am_T (d := 5) (m := 167) (T := tb167) (mL := 7) (rk := 0) (cuts := [(31, [1, 1, 1, 2, 0, 0, 0]), (141, [1, 0, 0, 2, 2, 2, 0])]) (l := [(19, C19), (90, C90b), (178, C178), (179, C179)]) rfl ⟨am_CS_d (by decide) C19_ok, am_CS_d (by decide) C90b_ok, am_CS_d (by decide) C178_ok, am_CS_d (by decide) C179_ok, trivial⟩ 20 (And.intro (t).1 (fun z1_0 z1_1 => And.intro (⟨by decide, by decide, by decide, by decide, by decide⟩) (((t).2) z1_0 z1_1)))
theorem T167_31 {R : Option am_V → am_H → Prop} {h : am_H} {s : Int} {x3 : Int} (t : (R32 x3) ∧ (((h 51 0 ≤ x3) → (am_AT 6 167 141 [some (mR 1 11 0 0), none, none, some (mI 0), some (mI 0), some (mI 0), none] h R)) ∧ ((x3 < h 51 0) → ((0 ≤ x3 ∧ x3 < 190) ∧ (((¬ h 76 x3 = s) → (am_AT 6 167 31 [some (mR 1 11 0 0), some (mB s), some (mR 1 9 0 75), some (mI (x3 + 1)), none, none, none] h R)) ∧ ((h 76 x3 = s) → ((0 ≤ x3 ∧ x3 < 190) ∧ ((0 ≤ h 52 x3 ∧ h 52 x3 < 20) ∧ ((0 ≤ x3 ∧ x3 < 190) ∧ ((0 ≤ h 52 x3 ∧ h 52 x3 < 20) ∧ ((0 ≤ x3 ∧ x3 < 190) ∧ ((0 ≤ h 53 x3 ∧ h 53 x3 < 20) ∧ ((0 ≤ x3 ∧ x3 < 190) ∧ ((0 ≤ h 53 x3 ∧ h 53 x3 < 20) ∧ (am_AT 6 167 31 [some (mR 1 11 0 0), some (mB s), some (mR 1 9 0 75), some (mI (x3 + 1)), none, none, none] (am_up (am_up h 475 (h 52 x3) (iAnd (h 475 (h 52 x3)) (iXor (iShl 1 (h 53 x3)) (-1)))) 475 (h 53 x3) (iAnd ((am_up h 475 (h 52 x3) (iAnd (h 475 (h 52 x3)) (iXor (iShl 1 (h 53 x3)) (-1)))) 475 (h 53 x3)) (iXor (iShl 1 (h 52 x3)) (-1)))) R))))))))))))))) : am_AT 6 167 31 [some (mR 1 11 0 0), some (mB s), some (mR 1 9 0 75), some (mI x3), none, none, none] h R :=
  am_T (d := 5) (m := 167) (T := tb167) (mL := 7) (rk := 0) (cuts := [(31, [1, 1, 1, 2, 0, 0, 0]), (141, [1, 0, 0, 2, 2, 2, 0])]) (l := [(19, C19), (90, C90b), (178, C178), (179, C179)]) rfl ⟨am_CS_d (by decide) C19_ok, am_CS_d (by decide) C90b_ok, am_CS_d (by decide) C178_ok, am_CS_d (by decide) C179_ok, trivial⟩ 62 (And.intro (t).1 (And.intro (fun c1 => ((t).2).1 c1) (fun c1 => And.intro (((t).2).2 c1).1 (And.intro (fun c2 => ((((t).2).2 c1).2).1 c2) (fun c2 => And.intro (((((t).2).2 c1).2).2 c2).1 (And.intro ((((((t).2).2 c1).2).2 c2).2).1 (And.intro (((((((t).2).2 c1).2).2 c2).2).2).1 (And.intro ((((((((t).2).2 c1).2).2 c2).2).2).2).1 (And.intro (((((((((t).2).2 c1).2).2 c2).2).2).2).2).1 (And.intro ((((((((((t).2).2 c1).2).2 c2).2).2).2).2).2).1 (And.intro (((((((((((t).2).2 c1).2).2 c2).2).2).2).2).2).2).1 (And.intro ((((((((((((t).2).2 c1).2).2 c2).2).2).2).2).2).2).2).1 (((((((((((((t).2).2 c1).2).2 c2).2).2).2).2).2).2).2).2)))))))))))))
theorem T167_141 {R : Option am_V → am_H → Prop} {h : am_H} {x3 : Int} {x4 : Int} {x5 : Int} (t : (R32 x5) ∧ (((h 6 0 ≤ x5) → ((R32 x4) ∧ (R none (h_fl (am_up h (472 : Int) 0 x4) 473 20 0)))) ∧ ((x5 < h 6 0) → (((¬ iAnd (iShr x3 x5) 1 = 0) → (am_AT 6 167 141 [some (mR 1 11 0 0), none, none, some (mI x3), some (mI x4), some (mI (x5 + 1)), none] h R)) ∧ ((iAnd (iShr x3 x5) 1 = 0) → ((R32 x5) ∧ (((0 ≤ x5 ∧ x5 < 20) ∧ (∀ p, 0 ≤ p → p < 20 → S20 (h (475 : Int) p))) ∧ ((R32 x4) ∧ (am_AT 6 167 141 [some (mR 1 11 0 0), none, none, some (mI (iOr x3 (mkb (rc (ad (nr h (475 : Int) 0)) x5)))), some (mI (x4 + 1)), some (mI (x5 + 1)), none] (h_mk h (474 : Int) (mkb (rc (ad (nr h (475 : Int) 0)) x5)) x4) R))))))))) : am_AT 6 167 141 [some (mR 1 11 0 0), none, none, some (mI x3), some (mI x4), some (mI x5), none] h R :=
  am_T (d := 5) (m := 167) (T := tb167) (mL := 7) (rk := 0) (cuts := [(31, [1, 1, 1, 2, 0, 0, 0]), (141, [1, 0, 0, 2, 2, 2, 0])]) (l := [(19, C19), (90, C90b), (178, C178), (179, C179)]) rfl ⟨am_CS_d (by decide) C19_ok, am_CS_d (by decide) C90b_ok, am_CS_d (by decide) C178_ok, am_CS_d (by decide) C179_ok, trivial⟩ 33 (And.intro (t).1 (And.intro (fun c3 => And.intro (((t).2).1 c3).1 ((((t).2).1 c3).2)) (fun c3 => And.intro (fun c4 => (((t).2).2 c3).1 c4) (fun c4 => And.intro ((((t).2).2 c3).2 c4).1 (And.intro (((((t).2).2 c3).2 c4).2).1 (And.intro ((((((t).2).2 c3).2 c4).2).2).1 (((((((t).2).2 c3).2 c4).2).2).2)))))))
theorem lno_iff {n : Int} {r : Int → Int} (hN : NT n r) {k p q : Int} (k0 : 0 ≤ k) (k1 : k < nl r) (h : ad r p q) : lno r p q = k ↔ (p = lo r k ∧ q = hi r k) ∨ (p = hi r k ∧ q = lo r k) := by
  have h1 := lno_ok hN h
  have h2 := lno_lo hN k0 k1
  have h3 := (lo_n hN k0 k1).2.2.1
  have h4 := (hN.2.2 _ _ h).2.2.1
  constructor
  · intro e
    rw [e] at h1
    omega
  · rintro (⟨a, b⟩ | ⟨a, b⟩)
    · rw [a, b]; exact h2
    · rw [a, b, lno_sym hN]; exact h2
theorem L167b {K : Option am_V → am_H → Prop} {h : am_H} (H : SV h 5) {s : Int} (hK : ∀ h', SQa (fun x => 472 ≤ x ∧ x ≤ 475) h h' ∧ h' 5 6 = 1 ∧ PCS h' (h 6 0) (uc (nr h 7 0) s) → K none h') {h1 : am_H} (Q1 : SQa (fun x => 472 ≤ x ∧ x ≤ 475) h h1) (z6 : h1 5 6 = 1) (hr475 : ad (nr h1 475 0) = uc (nr h 7 0) s) (hS : ∀ p, 0 ≤ p → p < 20 → S20 (h1 475 p)) : ∀ p z (hh : am_H), 0 ≤ p → p ≤ h 6 0 → (∀ x i, x ≠ 474 → hh x i = h1 x i) → S20 z → (∀ q, bit z q ↔ (0 ≤ q ∧ q < 20) ∧ fst (uc (nr h 7 0) s) q < p) → (∀ q, 0 ≤ q → q < h 6 0 → fst (uc (nr h 7 0) s) q < p → hh 474 q = lab (uc (nr h 7 0) s) q) → am_AT 6 167 141 [some (mR 1 11 0 0), none, none, some (mI z), some (mI (ct (fun j => fst (uc (nr h 7 0) s) j = j) p.toNat)), some (mI p), none] hh K := by
  have hN := (SV5_N H).1
  have hC := (SV5_N H).2
  have hn1 := hN.1
  have hn2 := hN.2.1
  have hs := uc_sym (s := s) hN
  refine lp (h 6 0) (fun p ih z hh p0 p1 f1 hz hbz f2 => ?_)
  have en : hh 6 0 = h 6 0 := by rw [f1 _ _ (by omega)]; exact Q1.2.2.1.2
  have hct := ct_le (fun j => fst (uc (nr h 7 0) s) j = j) p.toNat
  have er : ad (nr hh 475 0) = uc (nr h 7 0) s := by rw [nr_fr2 (fun i => f1 475 i (by omega))]; exact hr475
  have hfp := fst_ok hs p0
  refine T167_141 ⟨by omega, ⟨fun c1 => ⟨by omega, ?_⟩, fun c1 => ⟨fun c2 => ?_, fun c2 => ⟨by omega, ⟨⟨by omega, fun q q0 q1 => by rw [f1 _ _ (by omega)]; exact hS q q0 q1⟩, ⟨by omega, ?_⟩⟩⟩⟩⟩⟩
  · refine hK _ ⟨SQa_fr (h' := h1) Q1 (fun x i hx => ?_) (fun x hx => by omega), ?_, ?_, fun q q0 q1 => ?_, fun i i0 i1 => h_fl_in i0 i1⟩
    · rw [h_fl_ne (by omega), am_up_ne (by omega)]
      exact f1 x i (by omega)
    · rw [h_fl_ne (by omega), am_up_ne (by omega), f1 _ _ (by omega)]
      exact z6
    · rw [h_fl_ne (by omega), am_up_eq, show p = h 6 0 by omega]
      rfl
    · rw [h_fl_ne (by omega), am_up_ne (by omega)]
      have := fst_ok hs q0
      exact f2 q q0 q1 (by omega)
  · have hb : bit z p := Classical.byContradiction fun w => c2 ((bt_has0 p0 (by omega)).mpr w)
    have hf := ((hbz p).mp hb).2
    have := ih (by omega) z hh (by omega) (by omega) f1 hz (fun q => ?_) (fun q q0 q1 hq => ?_)
    · rw [ct_to p0, am_b_f (by omega), Int.add_zero] at this
      exact this
    · rw [hbz]
      refine ⟨fun w => ⟨w.1, by omega⟩, fun w => ⟨w.1, ?_⟩⟩
      have w2 : fst (uc (nr h 7 0) s) q ≠ p := fun e => by
        have := fst_fst hs w.1.1
        rw [e] at this
        omega
      omega
    · have w2 : fst (uc (nr h 7 0) s) q ≠ p := fun e => by
        have := fst_fst hs q0
        rw [e] at this
        omega
      exact f2 q q0 q1 (by omega)
  · have hb : ¬ bit z p := (bt_has0 p0 (by omega)).mp c2
    have hf : fst (uc (nr h 7 0) s) p = p := by
      have : ¬ fst (uc (nr h 7 0) s) p < p := fun w => hb ((hbz p).mpr ⟨by omega, w⟩)
      omega
    rw [er]
    have hrc : ∀ q, 0 ≤ q → (rc (uc (nr h 7 0) s) p q ↔ fst (uc (nr h 7 0) s) q = p) := fun q q0 => by
      rw [fst_rc hs p0 q0, hf]
      exact ⟨Eq.symm, Eq.symm⟩
    have := ih (by omega) (iOr z (mkb (rc (uc (nr h 7 0) s) p))) (h_mk hh 474 (mkb (rc (uc (nr h 7 0) s) p)) (ct (fun j => fst (uc (nr h 7 0) s) j = j) p.toNat)) (by omega) (by omega) (fun x i hx => by rw [h_mk_n hx]; exact f1 x i hx) (S20_or hz (S20_mk _)) (fun q => ?_) (fun q q0 q1 hq => ?_)
    · rw [ct_to p0, am_b_t hf] at this
      exact this
    · rw [bt_or, bt_mk, hbz]
      constructor
      · rintro (w | w)
        · exact ⟨w.1, by omega⟩
        · have := (hrc q w.1.1).mp w.2
          exact ⟨w.1, by omega⟩
      · rintro ⟨w1, w2⟩
        by_cases e : fst (uc (nr h 7 0) s) q = p
        · exact Or.inr ⟨w1, (hrc q w1.1).mpr e⟩
        · exact Or.inl ⟨w1, by omega⟩
    · by_cases e : fst (uc (nr h 7 0) s) q = p
      · rw [h_mk_t q0 (by omega) (bt_mk.mpr ⟨by omega, (hrc q q0).mpr e⟩)]
        unfold lab
        rw [e]
      · rw [h_mk_f (fun w => e ((hrc q q0).mp (bt_mk.mp w).2))]
        exact f2 q q0 q1 (by omega)
theorem L167 {K : Option am_V → am_H → Prop} {h : am_H} (H : SV h 5) {s : Int} (hK : ∀ h', SQa (fun x => 472 ≤ x ∧ x ≤ 475) h h' ∧ h' 5 6 = 1 ∧ PCS h' (h 6 0) (uc (nr h 7 0) s) → K none h') {h1 : am_H} (Q1 : SQ h h1 5) (z6 : h1 5 6 = 1) : ∀ k (hh : am_H), 0 ≤ k → k ≤ nl (nr h 7 0) → (∀ x i, x ≠ 475 → hh x i = h1 x i) → (∀ p, 0 ≤ p → p < 20 → S20 (hh 475 p)) → (∀ p q, ad (nr hh 475 0) p q ↔ ad (nr h 7 0) p q ∧ ¬ (lab (sdE (nr h 7 0)) (lno (nr h 7 0) p q) = s ∧ lno (nr h 7 0) p q < k)) → am_AT 6 167 31 [some (mR 1 11 0 0), some (mB s), some (mR 1 9 0 75), some (mI k), none, none, none] hh K := by
  have hN := (SV5_N H).1
  have hC := (SV5_N H).2
  have hn1 := hN.1
  have hn2 := hN.2.1
  have hnl := nl_r (nr h 7 0)
  have n1 := SQ5_n Q1
  have hL := SV5_L Q1.1 (SV5_45 Q1.1 z6).2
  have hSO := (SV5_S Q1.1 z6).2.2
  rw [n1.1] at hL hSO
  refine lp (nl (nr h 7 0)) (fun k ih hh k0 k1 f1 fS f2 => ?_)
  have e51 : hh 51 0 = nl (nr h 7 0) := by rw [f1 _ _ (by omega)]; exact hL.1
  have e76 : k < nl (nr h 7 0) → hh 76 k = lab (sdE (nr h 7 0)) k := fun hk => by rw [f1 _ _ (by omega)]; exact (hSO k k0 hk).1
  have e52 : k < nl (nr h 7 0) → (hh 52 k = lo (nr h 7 0) k ∧ hh 53 k = hi (nr h 7 0) k) ∧ (0 ≤ lo (nr h 7 0) k ∧ lo (nr h 7 0) k < 20) ∧ (0 ≤ hi (nr h 7 0) k ∧ hi (nr h 7 0) k < 20) := fun hk => by
    rw [f1 _ _ (by omega), f1 _ _ (by omega)]
    have := lo_n hN k0 hk
    exact ⟨hL.2.1 k k0 hk, by omega, by omega⟩
  refine T167_31 ⟨by omega, ⟨fun c1 => ?_, fun c1 => ⟨by omega, ⟨fun c2 => ?_, fun c2 => ⟨by omega, ⟨by have := e52 (by omega); omega, ⟨by omega, ⟨by have := e52 (by omega); omega, ⟨by omega, ⟨by have := e52 (by omega); omega, ⟨by omega, ⟨by have := e52 (by omega); omega, ?_⟩⟩⟩⟩⟩⟩⟩⟩⟩⟩⟩⟩
  · have hQ : SQa (fun x => 472 ≤ x ∧ x ≤ 475) h hh := SQa_fr (SQa_of Q1) (fun x i hx => f1 x i (by omega)) (fun x hx => by omega)
    refine L167b H hK hQ (by rw [f1 _ _ (by omega)]; exact z6) ?_ fS 0 0 hh (by omega) hn1 (fun x i _ => rfl) S20_0 (fun q => ⟨fun w => absurd w bt_zero, fun w => ?_⟩) (fun q q0 q1 hq => ?_)
    · funext p q
      refine propext ?_
      rw [f2]
      refine ⟨fun w => ⟨w.1, fun e => w.2 ⟨e, ?_⟩⟩, fun w => ⟨w.1, fun e => w.2 e.1⟩⟩
      have := (lno_ok hN w.1).1
      omega
    · have := fst_ok (uc_sym (s := s) hN) w.1.1
      omega
    · have := fst_ok (uc_sym (s := s) hN) q0
      omega
  · refine ih (by omega) hh (by omega) (by omega) f1 fS (fun p q => ?_)
    rw [f2]
    refine and_congr_right (fun hpq => not_congr ⟨fun w => ⟨w.1, by omega⟩, fun w => ⟨w.1, ?_⟩⟩)
    have : lno (nr h 7 0) p q ≠ k := fun e => by
      rw [e] at w
      rw [e76 (by omega)] at c2
      exact c2 w.1
    omega
  · obtain ⟨⟨a1, a2⟩, b1, b2⟩ := e52 (by omega)
    rw [a1, a2]
    have hz := ih (by omega) (h_ul hh 475 (lo (nr h 7 0) k) (hi (nr h 7 0) k)) (by omega) (by omega) (fun x i hx => by rw [h_ul_ne hx]; exact f1 x i hx) (fun p q0 q1 => ?_) (fun p q => ?_)
    · exact hz
    · unfold h_ul
      by_cases c3 : p = hi (nr h 7 0) k
      · rw [c3, am_up_eq]
        by_cases c4 : hi (nr h 7 0) k = lo (nr h 7 0) k
        · rw [c4, am_up_eq]; exact S20_and (S20_and (fS _ (by omega) (by omega)))
        · rw [am_up_ne2 c4]; exact S20_and (fS _ (by omega) (by omega))
      · rw [am_up_ne2 c3]
        by_cases c4 : p = lo (nr h 7 0) k
        · rw [c4, am_up_eq]; exact S20_and (fS _ (by omega) (by omega))
        · rw [am_up_ne2 c4]; exact fS p q0 q1
    · rw [ad_ul b1 b2, f2]
      constructor
      · rintro ⟨⟨w1, w2⟩, w3, w4⟩
        refine ⟨w1, fun e => ?_⟩
        have : lno (nr h 7 0) p q ≠ k := fun e2 => by
          rcases (lno_iff hN k0 (by omega) w1).mp e2 with e3 | e3
          · exact w3 e3
          · exact w4 e3
        exact w2 ⟨e.1, by omega⟩
      · rintro ⟨w1, w2⟩
        have hk : lab (sdE (nr h 7 0)) k = s := by rw [← e76 (by omega)]; exact c2
        exact ⟨⟨w1, fun e => w2 ⟨e.1, by omega⟩⟩, fun e => w2 (by rw [(lno_iff hN k0 (by omega) w1).mpr (Or.inl e)]; exact ⟨hk, by omega⟩), fun e => w2 (by rw [(lno_iff hN k0 (by omega) w1).mpr (Or.inr e)]; exact ⟨hk, by omega⟩)⟩
theorem C167_ok : am_CS 6 167 C167 := W167 (fun s h K hb => am_AT_ok (fun hw _ => by
  have hN := (SV5_N hb.1).1
  have hS := SV5_R hb.1 hw
  refine T167_0 ⟨hb.1, fun h' q1 => ?_⟩
  · have e7 : ∀ i, h' 7 i = h 7 i := fun i => SQ5_f q1.1 _ _ (by omega) (by omega)
    have ec : ∀ p, 0 ≤ p → p < 20 → am_cp h' 7 0 475 0 20 475 p = h 7 p := fun p p0 p1 => by rw [am_cp_in p0 (by omega), e7, show (0 : Int) + (p - 0) = p by omega]
    refine L167 hb.1 hb.2 q1.1 q1.2 0 _ (by omega) (nl_r _).1 (fun x i hx => am_cp_ne hx) (fun p p0 p1 => by rw [ec p p0 p1]; exact hS p p0 p1) (fun p q => ?_)
    have en : nr (am_cp h' 7 0 475 0 20) 475 0 = nr h 7 0 := by
      funext p
      unfold nr
      by_cases c : 0 ≤ p ∧ p < 20
      · rw [if_pos c, if_pos c, Int.zero_add, ec p c.1 c.2]
      · rw [if_neg c, if_neg c]
    rw [en]
    refine ⟨fun w => ⟨w, fun e => ?_⟩, fun w => w.1⟩
    have := (lno_ok hN w).1
    omega))
/-! 168 FactorNets.linkPieces -/
def C168 : am_K := fun as h K => am_a2 as (fun v0 v1 => am_oc 11 0 v0 (am_n v1 (fun s => (SV h 5 ∧ h 5 6 = 1 ∧ PCS h (h 6 0) (uc (nr h 7 0) s)) ∧ (∀ (h' : am_H), (∀ x i, x ≠ 473 → h' x i = h x i) ∧ NT (h 472 0) (nr h' 473 0) ∧ (∀ a b, ad (nr h' 473 0) a b ↔ qE (nr h 7 0) s a b) → K (none) (h')))))
theorem W168 {d : Nat} (H : ∀ (s : Int) (h : am_H) (K : Option am_V → am_H → Prop), (SV h 5 ∧ h 5 6 = 1 ∧ PCS h (h 6 0) (uc (nr h 7 0) s)) ∧ (∀ (h' : am_H), (∀ x i, x ≠ 473 → h' x i = h x i) ∧ NT (h 472 0) (nr h' 473 0) ∧ (∀ a b, ad (nr h' 473 0) a b ↔ qE (nr h 7 0) s a b) → K (none) (h')) → am_AT d 168 0 [some (mR 1 11 0 0), some (mB s), none, none, none] h K) : am_CS d 168 C168 := by
  refine am_CS_of (T := tb168) (mL := 5) (rk := 0) rfl (fun as h K hC => ?_)
  obtain ⟨v0, v1, rfl, hC0⟩ := am_a2_e hC
  obtain ⟨e0, hC1⟩ := am_oc_e hC0
  subst e0
  obtain ⟨s, rfl, hC2⟩ := am_n_e hC1
  refine ⟨Nat.le_of_ble_eq_true rfl, ?_⟩
  exact H s h K hC2
theorem T168_0 {R : Option am_V → am_H → Prop} {h : am_H} {s : Int} (t : am_AT 2 168 2 [some (mR 1 11 0 0), some (mB s), some (mI 0), none, none] h R) : am_AT 2 168 0 [some (mR 1 11 0 0), some (mB s), none, none, none] h R :=
  am_T (d := 1) (m := 168) (T := tb168) (mL := 5) (rk := 0) (cuts := [(2, [1, 1, 2, 0, 0])]) (l := [(24, C24)]) rfl ⟨am_CS_d (by decide) C24_ok, trivial⟩ 6 (t)
theorem T168_2 {R : Option am_V → am_H → Prop} {h : am_H} {s : Int} {x2 : Int} (t : (R32 x2) ∧ (((h 51 0 ≤ x2) → (R none h)) ∧ ((x2 < h 51 0) → ((0 ≤ x2 ∧ x2 < 190) ∧ ((0 ≤ h 52 x2 ∧ h 52 x2 < 20) ∧ ((0 ≤ x2 ∧ x2 < 190) ∧ ((0 ≤ h 53 x2 ∧ h 53 x2 < 20) ∧ ((0 ≤ x2 ∧ x2 < 190) ∧ (((¬ h 76 x2 = s) → (am_AT 2 168 2 [some (mR 1 11 0 0), some (mB s), some (mI (x2 + 1)), none, none] h R)) ∧ ((h 76 x2 = s) → (((h 474 (h 52 x2) = h 474 (h 53 x2)) → (am_AT 2 168 2 [some (mR 1 11 0 0), some (mB s), some (mI (x2 + 1)), none, none] h R)) ∧ ((¬ h 474 (h 52 x2) = h 474 (h 53 x2)) → (((0 ≤ (h 474 (h 52 x2)) ∧ (h 474 (h 52 x2)) < 20) ∧ (0 ≤ (h 474 (h 53 x2)) ∧ (h 474 (h 53 x2)) < 20)) ∧ (am_AT 2 168 2 [some (mR 1 11 0 0), some (mB s), some (mI (x2 + 1)), none, none] (h_lk h 473 (h 474 (h 52 x2)) (h 474 (h 53 x2))) R)))))))))))))) : am_AT 2 168 2 [some (mR 1 11 0 0), some (mB s), some (mI x2), none, none] h R :=
  am_T (d := 1) (m := 168) (T := tb168) (mL := 5) (rk := 0) (cuts := [(2, [1, 1, 2, 0, 0])]) (l := [(24, C24)]) rfl ⟨am_CS_d (by decide) C24_ok, trivial⟩ 48 (And.intro (t).1 (And.intro (fun c5 => ((t).2).1 c5) (fun c5 => And.intro (((t).2).2 c5).1 (And.intro ((((t).2).2 c5).2).1 (And.intro (((((t).2).2 c5).2).2).1 (And.intro ((((((t).2).2 c5).2).2).2).1 (And.intro (((((((t).2).2 c5).2).2).2).2).1 (And.intro (fun c6 => ((((((((t).2).2 c5).2).2).2).2).2).1 c6) (fun c6 => And.intro (fun c7 => (((((((((t).2).2 c5).2).2).2).2).2).2 c6).1 c7) (fun c7 => And.intro ((((((((((t).2).2 c5).2).2).2).2).2).2 c6).2 c7).1 (((((((((((t).2).2 c5).2).2).2).2).2).2 c6).2 c7).2)))))))))))
theorem L168 {K : Option am_V → am_H → Prop} {h : am_H} (H : SV h 5) {s : Int} (z6 : h 5 6 = 1) (hP : PCS h (h 6 0) (uc (nr h 7 0) s)) (hK : ∀ h', (∀ x i, x ≠ 473 → h' x i = h x i) ∧ NT (h 472 0) (nr h' 473 0) ∧ (∀ a b, ad (nr h' 473 0) a b ↔ qE (nr h 7 0) s a b) → K none h') : ∀ k (hh : am_H), 0 ≤ k → k ≤ nl (nr h 7 0) → (∀ x i, x ≠ 473 → hh x i = h x i) → (∀ a b, ad (nr hh 473 0) a b ↔ a ≠ b ∧ ∃ p q, (sc (nr h 7 0) s p q ∧ lno (nr h 7 0) p q < k) ∧ lab (uc (nr h 7 0) s) p = a ∧ lab (uc (nr h 7 0) s) q = b) → am_AT 2 168 2 [some (mR 1 11 0 0), some (mB s), some (mI k), none, none] hh K := by
  have hN := (SV5_N H).1
  have hC := (SV5_N H).2
  have hn1 := hN.1
  have hn2 := hN.2.1
  have hnl := nl_r (nr h 7 0)
  have hL := SV5_L H (SV5_45 H z6).2
  have hSO := (SV5_S H z6).2.2
  have hs := uc_sym (s := s) hN
  have hcl := ncl_rn (E := uc (nr h 7 0) s) hn1
  have hp472 := hP.1
  refine lp (nl (nr h 7 0)) (fun k ih hh k0 k1 f1 f2 => ?_)
  have e51 : hh 51 0 = nl (nr h 7 0) := by rw [f1 _ _ (by omega)]; exact hL.1
  have e76 : k < nl (nr h 7 0) → hh 76 k = lab (sdE (nr h 7 0)) k := fun hk => by rw [f1 _ _ (by omega)]; exact (hSO k k0 hk).1
  have e52 : k < nl (nr h 7 0) → (hh 52 k = lo (nr h 7 0) k ∧ hh 53 k = hi (nr h 7 0) k) ∧ (0 ≤ lo (nr h 7 0) k ∧ lo (nr h 7 0) k < h 6 0) ∧ (0 ≤ hi (nr h 7 0) k ∧ hi (nr h 7 0) k < h 6 0) ∧ ad (nr h 7 0) (lo (nr h 7 0) k) (hi (nr h 7 0) k) := fun hk => by
    rw [f1 _ _ (by omega), f1 _ _ (by omega)]
    have := lo_n hN k0 hk
    exact ⟨hL.2.1 k k0 hk, by omega, by omega, this.2.2.2⟩
  have e74 : k < nl (nr h 7 0) → (hh 474 (hh 52 k) = lab (uc (nr h 7 0) s) (lo (nr h 7 0) k) ∧ hh 474 (hh 53 k) = lab (uc (nr h 7 0) s) (hi (nr h 7 0) k)) ∧ (0 ≤ lab (uc (nr h 7 0) s) (lo (nr h 7 0) k) ∧ lab (uc (nr h 7 0) s) (lo (nr h 7 0) k) < 20) ∧ (0 ≤ lab (uc (nr h 7 0) s) (hi (nr h 7 0) k) ∧ lab (uc (nr h 7 0) s) (hi (nr h 7 0) k) < 20) := fun hk => by
    obtain ⟨⟨a1, a2⟩, b1, b2, -⟩ := e52 hk
    rw [a1, a2, f1 _ _ (by omega), f1 _ _ (by omega), hP.2.1 _ b1.1 b1.2, hP.2.1 _ b2.1 b2.2]
    have w1 := lab_r hs b1.1 b1.2
    have w2 := lab_r hs b2.1 b2.2
    exact ⟨⟨rfl, rfl⟩, by omega, by omega⟩
  have stay : k < nl (nr h 7 0) → (lab (sdE (nr h 7 0)) k = s → lab (uc (nr h 7 0) s) (lo (nr h 7 0) k) = lab (uc (nr h 7 0) s) (hi (nr h 7 0) k)) → am_AT 2 168 2 [some (mR 1 11 0 0), some (mB s), some (mI (k + 1)), none, none] hh K := fun hk hno => by
    refine ih hk hh (by omega) (by omega) f1 (fun a b => ?_)
    rw [f2]
    refine and_congr_right (fun hab => ⟨?_, ?_⟩)
    · rintro ⟨p, q, w1, w2⟩
      exact ⟨p, q, ⟨w1.1, by omega⟩, w2⟩
    · rintro ⟨p, q, w1, w2, w3⟩
      refine ⟨p, q, ⟨w1.1, ?_⟩, w2, w3⟩
      have : lno (nr h 7 0) p q ≠ k := fun e => by
        have e2 := w1.1.2
        rw [e] at e2
        have e3 := hno e2
        rcases (lno_iff hN k0 hk w1.1.1).mp e with e4 | e4
        · rw [e4.1] at w2
          rw [e4.2] at w3
          omega
        · rw [e4.1] at w2
          rw [e4.2] at w3
          omega
      omega
  refine T168_2 ⟨by omega, ⟨fun c1 => ?_, fun c1 => ⟨by omega, ⟨by have := e52 (by omega); omega, ⟨by omega, ⟨by have := e52 (by omega); omega, ⟨by omega, ⟨fun c2 => ?_, fun c2 => ⟨fun c3 => ?_, fun c3 => ⟨by have := e74 (by omega); omega, ?_⟩⟩⟩⟩⟩⟩⟩⟩⟩⟩
  · refine hK hh ⟨f1, ⟨by omega, by omega, fun a b hab => ?_⟩, fun a b => ?_⟩
    · obtain ⟨w1, p, q, w2, w3, w4⟩ := (f2 a b).mp hab
      have w5 := NT_in hN w2.1.1
      have w6 := lab_r hs w5.1.1 w5.1.2
      have w7 := lab_r hs w5.2.1 w5.2.2
      refine ⟨by omega, by omega, w1, (f2 b a).mpr ⟨Ne.symm w1, q, p, ⟨sc_sym hN _ _ w2.1, by rw [lno_sym hN]; exact w2.2⟩, w4, w3⟩⟩
    · rw [f2]
      refine and_congr_right (fun _ => ⟨?_, ?_⟩)
      · rintro ⟨p, q, w1, w2⟩
        exact ⟨p, q, w1.1, w2⟩
      · rintro ⟨p, q, w1, w2⟩
        have := (lno_ok hN w1.1).1
        exact ⟨p, q, ⟨w1, by omega⟩, w2⟩
  · exact stay (by omega) (fun e => absurd (e76 (by omega)) (by rw [e]; exact c2))
  · exact stay (by omega) (fun e => by have := e74 (by omega); omega)
  · obtain ⟨⟨a1, a2⟩, a3, a4⟩ := e74 (by omega)
    obtain ⟨-, -, -, l4⟩ := e52 (by omega)
    rw [a1, a2] at c3 ⊢
    refine ih (by omega) _ (by omega) (by omega) (fun x i hx => by rw [h_lk_ne hx]; exact f1 x i hx) (fun a b => ?_)
    have hk : lab (sdE (nr h 7 0)) k = s := by rw [← e76 (by omega)]; exact c2
    rw [ad_lk a3 a4, f2]
    constructor
    · rintro (⟨w1, p, q, w2, w3⟩ | ⟨w1, w2⟩ | ⟨w1, w2⟩)
      · exact ⟨w1, p, q, ⟨w2.1, by omega⟩, w3⟩
      · refine ⟨by omega, lo (nr h 7 0) k, hi (nr h 7 0) k, ⟨⟨l4, ?_⟩, ?_⟩, w1.symm, w2.symm⟩
        · rw [lno_lo hN k0 (by omega)]; exact hk
        · rw [lno_lo hN k0 (by omega)]; omega
      · refine ⟨by omega, hi (nr h 7 0) k, lo (nr h 7 0) k, ⟨⟨NT_sym hN _ _ l4, ?_⟩, ?_⟩, w1.symm, w2.symm⟩
        · rw [lno_sym hN, lno_lo hN k0 (by omega)]; exact hk
        · rw [lno_sym hN, lno_lo hN k0 (by omega)]; omega
    · rintro ⟨w1, p, q, w2, w3, w4⟩
      by_cases e : lno (nr h 7 0) p q = k
      · rcases (lno_iff hN k0 (by omega) w2.1.1).mp e with e4 | e4
        · rw [e4.1] at w3
          rw [e4.2] at w4
          exact Or.inr (Or.inl ⟨w3.symm, w4.symm⟩)
        · rw [e4.1] at w3
          rw [e4.2] at w4
          exact Or.inr (Or.inr ⟨w3.symm, w4.symm⟩)
      · exact Or.inl ⟨w1, p, q, ⟨w2.1, by omega⟩, w3, w4⟩
theorem C168_ok : am_CS 2 168 C168 := W168 (fun s h K hb => T168_0 (by
  obtain ⟨⟨H, z6, hP⟩, hK⟩ := hb
  refine L168 H z6 hP hK 0 h (by omega) (nl_r _).1 (fun x i _ => rfl) (fun a b => ⟨fun w => ?_, fun ⟨_, p, q, w, _⟩ => ?_⟩)
  · obtain ⟨w1, w2⟩ := ad_nr.mp w
    rw [hP.2.2 a w1.1 w1.2] at w2
    exact absurd w2 bt_zero
  · have := (lno_ok (SV5_N H).1 w.1.1).1
    omega))
/-! 135 FactorNets.quotient -/
def C135 : am_K := fun as h K => am_a2 as (fun v0 v1 => am_oc 11 0 v0 (am_n v1 (fun s => (SV h 5) ∧ (∀ (h' : am_H), SQa (fun x => 472 ≤ x ∧ x ≤ 475) h h' → K (some (mB (ifc (0 ≤ s ∧ s < ncl (sdE (nr h 7 0)) (nl (nr h 7 0))) (ncl (uc (nr h 7 0) s) (h 6 0)) (-2)))) (h')))))
theorem W135 {d : Nat} (H : ∀ (s : Int) (h : am_H) (K : Option am_V → am_H → Prop), (SV h 5) ∧ (∀ (h' : am_H), SQa (fun x => 472 ≤ x ∧ x ≤ 475) h h' → K (some (mB (ifc (0 ≤ s ∧ s < ncl (sdE (nr h 7 0)) (nl (nr h 7 0))) (ncl (uc (nr h 7 0) s) (h 6 0)) (-2)))) (h')) → am_AT d 135 0 [some (mR 1 11 0 0), some (mB s)] h K) : am_CS d 135 C135 := by
  refine am_CS_of (T := tb135) (mL := 2) (rk := 1) rfl (fun as h K hC => ?_)
  obtain ⟨v0, v1, rfl, hC0⟩ := am_a2_e hC
  obtain ⟨e0, hC1⟩ := am_oc_e hC0
  subst e0
  obtain ⟨s, rfl, hC2⟩ := am_n_e hC1
  refine ⟨Nat.le_of_ble_eq_true rfl, ?_⟩
  exact H s h K hC2
theorem T135_0 {R : Option am_V → am_H → Prop} {h : am_H} {s : Int} (t : (SV h 5) ∧ (∀ (h' : am_H), (SQ h h' 5 ∧ (0 ≤ s → h' 5 6 = 1)) → (((0 ≤ s ∧ s < ncl (sdE (nr h 7 0)) (nl (nr h 7 0))) → ((SV h' 5) ∧ (∀ (h'_1 : am_H), (SQa (fun x => 472 ≤ x ∧ x ≤ 475) h' h'_1 ∧ h'_1 5 6 = 1 ∧ PCS h'_1 (h' 6 0) (uc (nr h' 7 0) s)) → (R (some (mB ((h'_1) 472 0))) h'_1)))) ∧ ((¬ (0 ≤ s ∧ s < ncl (sdE (nr h 7 0)) (nl (nr h 7 0)))) → (R (some (mB (-2))) h'))))) : am_AT 7 135 0 [some (mR 1 11 0 0), some (mB s)] h R :=
  am_T (d := 6) (m := 135) (T := tb135) (mL := 2) (rk := 1) (cuts := []) (l := [(160, C160), (167, C167)]) rfl ⟨am_CS_d (by decide) C160_ok, am_CS_d (by decide) C167_ok, trivial⟩ 15 (And.intro (rfl) (And.intro (t).1 (fun z2_0 z2_1 => And.intro (fun c8 => And.intro (rfl) (And.intro ((((t).2) z2_0 z2_1).1 c8).1 (fun z3_0 z3_1 => (((((t).2) z2_0 z2_1).1 c8).2) z3_0 z3_1))) (fun c8 => (((t).2) z2_0 z2_1).2 c8))))
theorem C135_ok : am_CS 7 135 C135 := W135 (fun s h K hb => by
  refine T135_0 ⟨hb.1, fun h' q1 => ⟨fun c2 => ⟨q1.1.1, fun h'_1 q3 => ?_⟩, fun c2 => ?_⟩⟩
  · have e := SQ5_n q1.1
    have p := q3.2.2.1
    rw [e.1, e.2] at p
    exact am_rB (hb.2 h'_1 (SQa_tr (SQa_of q1.1) q3.1)) (by rw [ifc_t c2, p])
  · exact am_rB (hb.2 h' (SQa_of q1.1)) (ifc_f c2))
/-! 136 FactorNets.place -/
def C136 : am_K := fun as h K => am_a3 as (fun v0 v1 v2 => am_oc 11 0 v0 (am_n v1 (fun p => am_n v2 (fun s => (SV h 5) ∧ (∀ (h' : am_H), SQa (fun x => 472 ≤ x ∧ x ≤ 475) h h' → K (some (mB (ifc ((0 ≤ p ∧ p < (h 6 0)) ∧ (0 ≤ s ∧ s < ncl (sdE (nr h 7 0)) (nl (nr h 7 0)))) (lab (uc (nr h 7 0) s) p) (-2)))) (h'))))))
theorem W136 {d : Nat} (H : ∀ (p : Int) (s : Int) (h : am_H) (K : Option am_V → am_H → Prop), (SV h 5) ∧ (∀ (h' : am_H), SQa (fun x => 472 ≤ x ∧ x ≤ 475) h h' → K (some (mB (ifc ((0 ≤ p ∧ p < (h 6 0)) ∧ (0 ≤ s ∧ s < ncl (sdE (nr h 7 0)) (nl (nr h 7 0)))) (lab (uc (nr h 7 0) s) p) (-2)))) (h')) → am_AT d 136 0 [some (mR 1 11 0 0), some (mB p), some (mB s)] h K) : am_CS d 136 C136 := by
  refine am_CS_of (T := tb136) (mL := 3) (rk := 1) rfl (fun as h K hC => ?_)
  obtain ⟨v0, v1, v2, rfl, hC0⟩ := am_a3_e hC
  obtain ⟨e0, hC1⟩ := am_oc_e hC0
  subst e0
  obtain ⟨p, rfl, hC2⟩ := am_n_e hC1
  obtain ⟨s, rfl, hC3⟩ := am_n_e hC2
  refine ⟨Nat.le_of_ble_eq_true rfl, ?_⟩
  exact H p s h K hC3
theorem T136_0 {R : Option am_V → am_H → Prop} {h : am_H} {p : Int} {s : Int} (t : ((¬ (0 ≤ p ∧ p < (h 6 0))) → (R (some (mB (-2))) h)) ∧ ((0 ≤ p ∧ p < (h 6 0)) → ((SV h 5) ∧ (∀ (h' : am_H), (SQ h h' 5 ∧ (0 ≤ s → h' 5 6 = 1)) → (((0 ≤ s ∧ s < ncl (sdE (nr h 7 0)) (nl (nr h 7 0))) → ((SV h' 5) ∧ (∀ (h'_1 : am_H), (SQa (fun x => 472 ≤ x ∧ x ≤ 475) h' h'_1 ∧ h'_1 5 6 = 1 ∧ PCS h'_1 (h' 6 0) (uc (nr h' 7 0) s)) → ((0 ≤ p ∧ p < 20) ∧ (R (some (mB (h'_1 474 p))) h'_1))))) ∧ ((¬ (0 ≤ s ∧ s < ncl (sdE (nr h 7 0)) (nl (nr h 7 0)))) → (R (some (mB (-2))) h'))))))) : am_AT 7 136 0 [some (mR 1 11 0 0), some (mB p), some (mB s)] h R :=
  am_T (d := 6) (m := 136) (T := tb136) (mL := 3) (rk := 1) (cuts := []) (l := [(156, C156), (160, C160), (167, C167)]) rfl ⟨am_CS_d (by decide) C156_ok, am_CS_d (by decide) C160_ok, am_CS_d (by decide) C167_ok, trivial⟩ 20 (And.intro (rfl) (And.intro (fun c9 => (t).1 c9) (fun c9 => And.intro (rfl) (And.intro ((t).2 c9).1 (fun z4_0 z4_1 => And.intro (fun c10 => And.intro (rfl) (And.intro (((((t).2 c9).2) z4_0 z4_1).1 c10).1 (fun z5_0 z5_1 => And.intro (((((((t).2 c9).2) z4_0 z4_1).1 c10).2) z5_0 z5_1).1 ((((((((t).2 c9).2) z4_0 z4_1).1 c10).2) z5_0 z5_1).2)))) (fun c10 => ((((t).2 c9).2) z4_0 z4_1).2 c10))))))
theorem C136_ok : am_CS 7 136 C136 := W136 (fun p s h K hb => by
  have hn2 := (SV5_N hb.1).1.2.1
  refine T136_0 ⟨fun c1 => ?_, fun c1 => ⟨hb.1, fun h' q2 => ⟨fun c3 => ⟨q2.1.1, fun h'_1 q4 => ⟨by omega, ?_⟩⟩, fun c3 => ?_⟩⟩⟩
  · exact am_rB (hb.2 h (SQa_of (SQ_rf hb.1))) (ifc_f (fun z => c1 z.1))
  · have e := SQ5_n q2.1
    have w := q4.2.2.2.1 p c1.1 (by omega)
    rw [e.1] at w
    exact am_rB (hb.2 h'_1 (SQa_tr (SQa_of q2.1) q4.1)) (by rw [ifc_t ⟨c1, c3⟩, w])
  · exact am_rB (hb.2 h' (SQa_of q2.1)) (ifc_f (fun z => c3 z.2)))
/-! 137 FactorNets.sideFar -/
def C137 : am_K := fun as h K => am_a4 as (fun v0 v1 v2 v3 => am_oc 11 0 v0 (am_n v1 (fun s => am_n v2 (fun p => am_n v3 (fun q => (SV h 5) ∧ (∀ (h' : am_H), SQa (fun x => 472 ≤ x ∧ x ≤ 475) h h' → K (some (mB (ifc ((0 ≤ s ∧ s < ncl (sdE (nr h 7 0)) (nl (nr h 7 0))) ∧ (0 ≤ p ∧ p < (h 6 0)) ∧ (0 ≤ q ∧ q < (h 6 0))) (ds (qE (nr h 7 0) s) (lab (uc (nr h 7 0) s) p) (lab (uc (nr h 7 0) s) q)) (-2)))) (h')))))))
theorem W137 {d : Nat} (H : ∀ (s : Int) (p : Int) (q : Int) (h : am_H) (K : Option am_V → am_H → Prop), (SV h 5) ∧ (∀ (h' : am_H), SQa (fun x => 472 ≤ x ∧ x ≤ 475) h h' → K (some (mB (ifc ((0 ≤ s ∧ s < ncl (sdE (nr h 7 0)) (nl (nr h 7 0))) ∧ (0 ≤ p ∧ p < (h 6 0)) ∧ (0 ≤ q ∧ q < (h 6 0))) (ds (qE (nr h 7 0) s) (lab (uc (nr h 7 0) s) p) (lab (uc (nr h 7 0) s) q)) (-2)))) (h')) → am_AT d 137 0 [some (mR 1 11 0 0), some (mB s), some (mB p), some (mB q)] h K) : am_CS d 137 C137 := by
  refine am_CS_of (T := tb137) (mL := 4) (rk := 1) rfl (fun as h K hC => ?_)
  obtain ⟨v0, v1, v2, v3, rfl, hC0⟩ := am_a4_e hC
  obtain ⟨e0, hC1⟩ := am_oc_e hC0
  subst e0
  obtain ⟨s, rfl, hC2⟩ := am_n_e hC1
  obtain ⟨p, rfl, hC3⟩ := am_n_e hC2
  obtain ⟨q, rfl, hC4⟩ := am_n_e hC3
  refine ⟨Nat.le_of_ble_eq_true rfl, ?_⟩
  exact H s p q h K hC4
theorem T137_0 {R : Option am_V → am_H → Prop} {h : am_H} {s : Int} {p : Int} {q : Int} (t : (SV h 5) ∧ (∀ (h' : am_H), (SQ h h' 5 ∧ (0 ≤ s → h' 5 6 = 1)) → (((¬ (0 ≤ s ∧ s < ncl (sdE (nr h 7 0)) (nl (nr h 7 0)))) → (R (some (mB (-2))) h')) ∧ ((0 ≤ s ∧ s < ncl (sdE (nr h 7 0)) (nl (nr h 7 0))) → (((((0 ≤ p ∧ p < (h' 6 0)) ∧ (0 ≤ q ∧ q < (h' 6 0)))) → ((SV h' 5) ∧ (∀ (h'_1 : am_H), (SQa (fun x => 472 ≤ x ∧ x ≤ 475) h' h'_1 ∧ h'_1 5 6 = 1 ∧ PCS h'_1 (h' 6 0) (uc (nr h' 7 0) s)) → ((SV h'_1 5 ∧ h'_1 5 6 = 1 ∧ PCS h'_1 (h'_1 6 0) (uc (nr h'_1 7 0) s)) ∧ (∀ (h'_2 : am_H), ((∀ x i, x ≠ 473 → h'_2 x i = h'_1 x i) ∧ NT (h'_1 472 0) (nr h'_2 473 0) ∧ (∀ a b, ad (nr h'_2 473 0) a b ↔ qE (nr h'_1 7 0) s a b)) → ((0 ≤ p ∧ p < 20) ∧ ((0 ≤ q ∧ q < 20) ∧ ((NT (h'_2 (472 : Int) 0) (nr h'_2 473 0) ∧ (0 ≤ (h'_2 474 p) ∧ (h'_2 474 p) < h'_2 (472 : Int) 0) ∧ rc (ad (nr h'_2 473 0)) (h'_2 474 p) (h'_2 474 q)) ∧ (R (some (mB (ds (ad (nr h'_2 473 0)) (h'_2 474 p) (h'_2 474 q)))) h'_2))))))))) ∧ ((¬ (((0 ≤ p ∧ p < (h' 6 0)) ∧ (0 ≤ q ∧ q < (h' 6 0))))) → (R (some (mB (-2))) h'))))))) : am_AT 7 137 0 [some (mR 1 11 0 0), some (mB s), some (mB p), some (mB q)] h R :=
  am_T (d := 6) (m := 137) (T := tb137) (mL := 4) (rk := 1) (cuts := []) (l := [(28, C28), (157, C157), (160, C160), (167, C167), (168, C168)]) rfl ⟨am_CS_d (by decide) C28_ok, am_CS_d (by decide) C157_ok, am_CS_d (by decide) C160_ok, am_CS_d (by decide) C167_ok, am_CS_d (by decide) C168_ok, trivial⟩ 31 (And.intro (rfl) (And.intro (t).1 (fun z6_0 z6_1 => And.intro (fun c11 => (((t).2) z6_0 z6_1).1 c11) (fun c11 => And.intro (rfl) (And.intro (fun c12 => And.intro (rfl) (And.intro (((((t).2) z6_0 z6_1).2 c11).1 c12).1 (fun z7_0 z7_1 => And.intro (rfl) (And.intro (((((((t).2) z6_0 z6_1).2 c11).1 c12).2) z7_0 z7_1).1 (fun z8_0 z8_1 => And.intro (((((((((t).2) z6_0 z6_1).2 c11).1 c12).2) z7_0 z7_1).2) z8_0 z8_1).1 (And.intro ((((((((((t).2) z6_0 z6_1).2 c11).1 c12).2) z7_0 z7_1).2) z8_0 z8_1).2).1 (And.intro (((((((((((t).2) z6_0 z6_1).2 c11).1 c12).2) z7_0 z7_1).2) z8_0 z8_1).2).2).1 ((((((((((((t).2) z6_0 z6_1).2 c11).1 c12).2) z7_0 z7_1).2) z8_0 z8_1).2).2).2)))))))) (fun c12 => ((((t).2) z6_0 z6_1).2 c11).2 c12))))))
theorem sf_c {h h' h1 h2 : am_H} {s p q : Int} (H : SV h 5) (q1 : SQ h h' 5) (q4 : SQa (fun x => 472 ≤ x ∧ x ≤ 475) h' h1 ∧ h1 5 6 = 1 ∧ PCS h1 (h' 6 0) (uc (nr h' 7 0) s)) (q5 : (∀ x i, x ≠ 473 → h2 x i = h1 x i) ∧ NT (h1 472 0) (nr h2 473 0) ∧ (∀ a b, ad (nr h2 473 0) a b ↔ qE (nr h1 7 0) s a b)) (hp : 0 ≤ p ∧ p < h 6 0) (hq : 0 ≤ q ∧ q < h 6 0) : SQa (fun x => 472 ≤ x ∧ x ≤ 475) h h2 ∧ (h2 474 p = lab (uc (nr h 7 0) s) p ∧ h2 474 q = lab (uc (nr h 7 0) s) q) ∧ ad (nr h2 473 0) = qE (nr h 7 0) s ∧ NT (h2 472 0) (nr h2 473 0) ∧ h2 472 0 = ncl (uc (nr h 7 0) s) (h 6 0) := by
  have e := SQ5_n q1
  have e2 := q4.1.2.2.1
  have w := q4.2.2
  rw [e.1, e.2] at w
  have er : nr h1 7 0 = nr h 7 0 := by rw [e2.1, e.1]
  rw [er] at q5
  refine ⟨SQa_fr (SQa_tr (SQa_of q1) q4.1) (fun x i hx => q5.1 x i (by omega)) (fun x hx => by omega), ⟨?_, ?_⟩, ?_, ?_, ?_⟩
  · rw [q5.1 _ _ (by omega)]; exact w.2.1 p hp.1 hp.2
  · rw [q5.1 _ _ (by omega)]; exact w.2.1 q hq.1 hq.2
  · funext a b
    exact propext (q5.2.2 a b)
  · rw [q5.1 _ _ (by omega)]; exact q5.2.1
  · rw [q5.1 _ _ (by omega)]; exact w.1
theorem C137_ok : am_CS 7 137 C137 := W137 (fun s p q h K hb => by
  have hN := (SV5_N hb.1).1
  have hC := (SV5_N hb.1).2
  have hn2 := hN.2.1
  refine T137_0 ⟨hb.1, fun h' q1 => ⟨fun c2 => ?_, fun c2 => ⟨fun c3 => ⟨q1.1.1, fun h'_1 q4 => ⟨⟨q4.1.1, q4.2.1, by rw [q4.1.2.2.1.1, q4.1.2.2.1.2]; exact q4.2.2⟩, fun h'_2 q5 => ⟨by have e := SQ5_n q1.1; omega, ⟨by have e := SQ5_n q1.1; omega, ⟨by
    have e := SQ5_n q1.1
    have w := sf_c hb.1 q1.1 q4 q5 (p := p) (q := q) (by omega) (by omega)
    show NT (h'_2 472 0) (nr h'_2 473 0) ∧ (0 ≤ h'_2 474 p ∧ h'_2 474 p < h'_2 472 0) ∧ rc (ad (nr h'_2 473 0)) (h'_2 474 p) (h'_2 474 q)
    refine ⟨w.2.2.2.1, ?_, ?_⟩
    · rw [w.2.1.1, w.2.2.2.2]; exact lab_r (uc_sym hN) c3.1.1 (by omega)
    · rw [w.2.2.1, w.2.1.1, w.2.1.2]; exact q_rc hN hC (by omega) (by omega), ?_⟩⟩⟩⟩⟩, fun c3 => ?_⟩⟩⟩
  · exact am_rB (hb.2 h' (SQa_of q1.1)) (ifc_f (fun z => c2 z.1))
  · have e := SQ5_n q1.1
    have w := sf_c hb.1 q1.1 q4 q5 (p := p) (q := q) (by omega) (by omega)
    show K (some (mB (ds (ad (nr h'_2 473 0)) (h'_2 474 p) (h'_2 474 q)))) h'_2
    rw [w.2.2.1, w.2.1.1, w.2.1.2]
    exact am_rB (hb.2 h'_2 w.1) (ifc_t ⟨c2, by omega, by omega⟩)
  · have e := SQ5_n q1.1
    exact am_rB (hb.2 h' (SQa_of q1.1)) (ifc_f (fun z => c3 (by omega))))
