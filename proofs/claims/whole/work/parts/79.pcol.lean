/-! ===== parts, and what else a question may change ===== -/
def PQa (A : Int → Prop) (h h' : am_H) : Prop := PI h' ∧ (∀ x i, ¬ (8 < x ∧ x ≤ 78) → ¬ (x = 5 ∧ 4 ≤ i ∧ i ≤ 6) → ¬ (153 ≤ x ∧ x ≤ 170) → ¬ (x = 0 ∧ i = 16) → ¬ A x → h' x i = h x i) ∧ (nr h' 7 0 = nr h 7 0 ∧ h' 6 0 = h 6 0) ∧ (h 5 4 = 1 → h' 5 4 = 1) ∧ (h 5 5 = 1 → h' 5 5 = 1) ∧ (h 5 6 = 1 → h' 5 6 = 1) ∧ (h 0 16 = 1 → h' 0 16 = 1)
theorem PQa_of {A : Int → Prop} {h h' : am_H} (H : PQ h h') : PQa A h h' := ⟨H.1, fun x i a b c d _ => H.2.1 x i a b c d, H.2.2⟩
theorem PQa_tr {A : Int → Prop} {h h' h'' : am_H} (H : PQa A h h') (H2 : PQa A h' h'') : PQa A h h'' := ⟨H2.1, fun x i a b c d e => (H2.2.1 x i a b c d e).trans (H.2.1 x i a b c d e), ⟨H2.2.2.1.1.trans H.2.2.1.1, H2.2.2.1.2.trans H.2.2.1.2⟩, fun q => H2.2.2.2.1 (H.2.2.2.1 q), fun q => H2.2.2.2.2.1 (H.2.2.2.2.1 q), fun q => H2.2.2.2.2.2.1 (H.2.2.2.2.2.1 q), fun q => H2.2.2.2.2.2.2 (H.2.2.2.2.2.2 q)⟩
theorem PI_fr {h h' : am_H} (H : PI h) (e : ∀ x i, ((5 ≤ x ∧ x ≤ 78) ∨ (153 ≤ x ∧ x ≤ 170) ∨ (x = 0 ∧ i = 16)) → h' x i = h x i) : PI h' := by
  have hn := SV5_N H.1
  have e1 : nr h' 7 0 = nr h 7 0 := nr_fr2 (fun i => e _ _ (by omega))
  have e2 : h' 6 0 = h 6 0 := e _ _ (by omega)
  refine ⟨SV_fr5 H.1 (fun x i a b => e x i (by omega)), fun p a b => by rw [e _ _ (by omega)]; exact H.2.1 p a b, fun z => ?_⟩
  rw [e1, e2]
  exact PTS_fr (np_4 hn.1 hn.2) (H.2.2 (by rw [← e _ _ (by omega)]; exact z)) (fun x i a b => e x i (by omega))
theorem PQa_fr {A : Int → Prop} {h h' h'' : am_H} (H : PQa A h h') (e : ∀ x i, ¬ A x → h'' x i = h' x i) (hA : ∀ x, A x → ¬ (5 ≤ x ∧ x ≤ 78) ∧ ¬ (153 ≤ x ∧ x ≤ 170) ∧ x ≠ 0) : PQa A h h'' := by
  have e' : ∀ x i, ((5 ≤ x ∧ x ≤ 78) ∨ (153 ≤ x ∧ x ≤ 170) ∨ (x = 0 ∧ i = 16)) → h'' x i = h' x i := fun x i q => e x i (fun a => by have := hA x a; omega)
  refine ⟨PI_fr H.1 e', fun x i a b c d f => (e x i f).trans (H.2.1 x i a b c d f), ⟨(nr_fr2 (fun i => e' _ _ (by omega))).trans H.2.2.1.1, (e' _ _ (by omega)).trans H.2.2.1.2⟩, fun q => ?_, fun q => ?_, fun q => ?_, fun q => ?_⟩
  · rw [e' _ _ (by omega)]; exact H.2.2.2.1 q
  · rw [e' _ _ (by omega)]; exact H.2.2.2.2.1 q
  · rw [e' _ _ (by omega)]; exact H.2.2.2.2.2.1 q
  · rw [e' _ _ (by omega)]; exact H.2.2.2.2.2.2 q
theorem XT_fg {g : am_H} {x i : Int} (e : x ≠ 79) : am_up (am_up (am_up g (79 : Int) 4 0) (79 : Int) 5 0) (79 : Int) 6 0 x i = g x i := by rw [am_up_ne e, am_up_ne e, am_up_ne e]
theorem XT_nt {n : Int} {r : Int → Int} {k : Int} (hN : NT n r) {r' : Int → Int} (hs : 0 ≤ iPop (lay r k 0) ∧ iPop (lay r k 0) ≤ 20) (h : ∀ a b, ad r' a b ↔ xta r k a b) : NT (iPop (lay r k 0)) r' := ⟨hs.1, hs.2, fun p q e => by
  have w := (h p q).mp e
  exact ⟨w.1.1, w.1.2, xta_ne hN w, (h q p).mpr (xta_sym hN w)⟩⟩
/-! 128 FactorNets.partColours -/
def C128 : am_K := fun as h K => am_a2 as (fun v0 v1 => am_oc 11 0 v0 (am_n v1 (fun k => (PI h) ∧ (∀ (h' : am_H), PQa (fun x9 => (79 ≤ x9 ∧ x9 ≤ 81) ∨ (470 ≤ x9 ∧ x9 ≤ 471)) h h' → K (some (mB (ifc (0 ≤ k ∧ k < (ncl (ptE (nr h 7 0)) (nl (nr h 7 0)))) (chs (bit (lay (nr h 7 0) k 0)) (ad (nr h 7 0))) (-2)))) (h')))))
theorem W128 {d : Nat} (H : ∀ (k : Int) (h : am_H) (K : Option am_V → am_H → Prop), (PI h) ∧ (∀ (h' : am_H), PQa (fun x9 => (79 ≤ x9 ∧ x9 ≤ 81) ∨ (470 ≤ x9 ∧ x9 ≤ 471)) h h' → K (some (mB (ifc (0 ≤ k ∧ k < (ncl (ptE (nr h 7 0)) (nl (nr h 7 0)))) (chs (bit (lay (nr h 7 0) k 0)) (ad (nr h 7 0))) (-2)))) (h')) → am_AT d 128 0 [some (mR 1 11 0 0), some (mB k)] h K) : am_CS d 128 C128 := by
  refine am_CS_of (T := tb128) (mL := 2) (rk := 1) rfl (fun as h K hC => ?_)
  obtain ⟨v0, v1, rfl, hC0⟩ := am_a2_e hC
  obtain ⟨e0, hC1⟩ := am_oc_e hC0
  subst e0
  obtain ⟨k, rfl, hC2⟩ := am_n_e hC1
  refine ⟨Nat.le_of_ble_eq_true rfl, ?_⟩
  exact H k h K hC2
theorem T128_0 {R : Option am_V → am_H → Prop} {h : am_H} {k : Int} (t : (PI h) ∧ (∀ (h' : am_H), (PQ h h' ∧ h' 0 16 = 1) → (((0 ≤ k ∧ k < (ncl (ptE (nr h 7 0)) (nl (nr h 7 0)))) → ((PI h' ∧ h' 0 16 = 1 ∧ (0 ≤ k ∧ k < (ncl (ptE (nr h' 7 0)) (nl (nr h' 7 0)))) ∧ ((80 : Int) = 6 ∨ (80 : Int) = 80)) ∧ (∀ (h'_1 : am_H), ((XTR h' h'_1 (80 : Int) ∧ h'_1 (80 : Int) 0 = iPop (lay (nr h' 7 0) k 0) ∧ (∀ y9, 0 ≤ y9 → y9 < 20 → S20 (h'_1 81 y9)) ∧ ∀ a9 b9, ad (nr h'_1 81 0) a9 b9 ↔ xta (nr h' 7 0) k a9 b9)) → ((((80 : Int) ≠ 470 ∧ (81 : Int) ≠ 471 ∧ (80 : Int) ≠ 471 ∧ (81 : Int) ≠ 470) ∧ (NT ((am_up (am_up (am_up h'_1 (79 : Int) 4 0) (79 : Int) 5 0) (79 : Int) 6 0) (80 : Int) 0) (nr (am_up (am_up (am_up h'_1 (79 : Int) 4 0) (79 : Int) 5 0) (79 : Int) 6 0) 81 0) ∧ (∀ y9, 0 ≤ y9 → y9 < 20 → S20 ((am_up (am_up (am_up h'_1 (79 : Int) 4 0) (79 : Int) 5 0) (79 : Int) 6 0) 81 y9))) ∧ 1 ≤ (am_up (am_up (am_up h'_1 (79 : Int) 4 0) (79 : Int) 5 0) (79 : Int) 6 0) (80 : Int) 0) ∧ (∀ (h'_2 : am_H), ((∀ x9 i9, x9 ≠ 470 → x9 ≠ 471 → h'_2 x9 i9 = (am_up (am_up (am_up h'_1 (79 : Int) 4 0) (79 : Int) 5 0) (79 : Int) 6 0) x9 i9)) → (R (some (mB (chs (fun y9 => 0 ≤ y9 ∧ y9 < (am_up (am_up (am_up h'_1 (79 : Int) 4 0) (79 : Int) 5 0) (79 : Int) 6 0) (80 : Int) 0) (ad (nr (am_up (am_up (am_up h'_1 (79 : Int) 4 0) (79 : Int) 5 0) (79 : Int) 6 0) 81 0))))) h'_2)))))) ∧ ((¬ (0 ≤ k ∧ k < (ncl (ptE (nr h 7 0)) (nl (nr h 7 0))))) → (R (some (mB (-2))) h'))))) : am_AT 26 128 0 [some (mR 1 11 0 0), some (mB k)] h R :=
  am_T (d := 25) (m := 128) (T := tb128) (mL := 2) (rk := 1) (cuts := []) (l := [(34, C34), (45, C45), (87, C87), (159, C159)]) rfl ⟨am_CS_d (by decide) C34_ok, am_CS_d (by decide) C45_ok, am_CS_d (by decide) C87_ok, am_CS_d (by decide) C159_ok, trivial⟩ 25 (And.intro (rfl) (And.intro (t).1 (fun z1_0 z1_1 => And.intro (fun c1 => And.intro (rfl) (And.intro ((((t).2) z1_0 z1_1).1 c1).1 (fun z2_0 z2_1 => And.intro (rfl) (And.intro ((((((t).2) z1_0 z1_1).1 c1).2) z2_0 z2_1).1 (fun z3_0 z3_1 => (((((((t).2) z1_0 z1_1).1 c1).2) z2_0 z2_1).2) z3_0 z3_1))))) (fun c1 => (((t).2) z1_0 z1_1).2 c1))))
theorem C128_ok : am_CS 26 128 C128 := W128 (fun k h K hb => by
  refine T128_0 ⟨hb.1, fun h' q1 => ⟨fun c2 => ⟨by rw [q1.1.2.2.1.1]; exact ⟨q1.1.1, q1.2, c2, Or.inr rfl⟩, fun h'_1 q3 => ⟨by
    have en := q1.1.2.2.1
    have hN := (SV5_N q1.1.1.1).1
    have hC := (SV5_N q1.1.1.1).2
    have ck : 0 ≤ k ∧ k < ncl (ptE (nr h' 7 0)) (nl (nr h' 7 0)) := by rw [en.1]; exact c2
    have s2 := lay_2 hN hC ck
    have f1 : nr (am_up (am_up (am_up h'_1 (79 : Int) 4 0) (79 : Int) 5 0) (79 : Int) 6 0) 81 0 = nr h'_1 81 0 := nr_fr2 (fun i => XT_fg (by omega))
    rw [f1, XT_fg (by omega), q3.2.1]
    exact ⟨by decide, ⟨XT_nt hN (by omega) q3.2.2.2, fun y a b => by rw [XT_fg (by omega)]; exact q3.2.2.1 y a b⟩, by omega⟩, fun h'_2 q4 => ?_⟩⟩, fun c2 => ?_⟩⟩
  · have en := q1.1.2.2.1
    have hN := (SV5_N q1.1.1.1).1
    have hC := (SV5_N q1.1.1.1).2
    have ck : 0 ≤ k ∧ k < ncl (ptE (nr h' 7 0)) (nl (nr h' 7 0)) := by rw [en.1]; exact c2
    have s2 := lay_2 hN hC ck
    have f1 : nr (am_up (am_up (am_up h'_1 (79 : Int) 4 0) (79 : Int) 5 0) (79 : Int) 6 0) 81 0 = nr h'_1 81 0 := nr_fr2 (fun i => XT_fg (by omega))
    have h0 := np_0 hN ck.1 ck.2
    have ea : ad (nr h'_1 81 0) = xta (nr h' 7 0) k := by
      funext a b
      exact propext (q3.2.2.2 a b)
    rw [f1, XT_fg (by omega), q3.2.1, ea, chs_iso hN hC h0, en.1]
    refine am_rB (hb.2 h'_2 (PQa_fr (h' := h') (PQa_of q1.1) (fun x i a => ?_) (fun x a => by omega))) (ifc_t c2)
    rw [q4 x i (by omega) (by omega), XT_fg (by omega)]
    exact q3.1 x i (by omega) (by omega)
  · exact am_rB (hb.2 h' (PQa_of q1.1)) (ifc_f c2))
