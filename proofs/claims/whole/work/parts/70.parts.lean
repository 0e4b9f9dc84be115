/-! ===== the class's parts ===== -/
theorem rc_agree {E F : Int → Int → Prop} {P : Int → Prop} (h1 : ∀ a b, P a → (E a b ↔ F a b)) (h2 : ∀ a b, P a → F a b → P b) {x : Int} (hx : P x) (y : Int) : rc E x y ↔ rc F x y := by
  constructor
  · intro h
    exact (rc_in (P := fun z => P z ∧ rc F x z) (fun a b ha hab => by
      have hf := (h1 a b ha.1).mp hab
      exact ⟨h2 a b ha.1 hf, rc_step ha.2 hf⟩) ⟨hx, rc_refl⟩ h).2
  · intro h
    exact (rc_in (P := fun z => P z ∧ rc E x z) (fun a b ha hab => ⟨h2 a b ha.1 hab, rc_step ha.2 ((h1 a b ha.1).mpr hab)⟩) ⟨hx, rc_refl⟩ h).2
def OT (h : am_H) : Prop := ∀ p, 0 ≤ p → p < 20 → S20 (h 170 p)
def PT1 (h : am_H) (n : Int) (r : Int → Int) (k : Int) : Prop := h 154 k = iPop (lay r k 0) ∧ (∀ i, 0 ≤ i → i < iPop (lay r k 0) → h (161 + k) i = nthb (lay r k 0) i) ∧ (∀ p, 0 ≤ p → p < n → h (166 + k) p = crd r k p)
def PTS (h : am_H) (n : Int) (r : Int → Int) : Prop := h 153 0 = ncl (ptE r) (nl r) ∧ ∀ k, 0 ≤ k → k < ncl (ptE r) (nl r) → (∀ p, 0 ≤ p → p < 20 → h (156 + k) p = mkb (RA r (fun x => x = k) p)) ∧ PT1 h n r k
def PI (h : am_H) : Prop := SV h 5 ∧ OT h ∧ (h 0 16 = 1 → PTS h (h 6 0) (nr h 7 0))
def PQ (h h' : am_H) : Prop := PI h' ∧ (∀ x i, ¬ (8 < x ∧ x ≤ 78) → ¬ (x = 5 ∧ 4 ≤ i ∧ i ≤ 6) → ¬ (153 ≤ x ∧ x ≤ 170) → ¬ (x = 0 ∧ i = 16) → h' x i = h x i) ∧ (nr h' 7 0 = nr h 7 0 ∧ h' 6 0 = h 6 0) ∧ (h 5 4 = 1 → h' 5 4 = 1) ∧ (h 5 5 = 1 → h' 5 5 = 1) ∧ (h 5 6 = 1 → h' 5 6 = 1) ∧ (h 0 16 = 1 → h' 0 16 = 1)
theorem PQ_rf {h : am_H} (H : PI h) : PQ h h := ⟨H, fun _ _ _ _ _ _ => rfl, ⟨rfl, rfl⟩, id, id, id, id⟩
theorem PQ_tr {h h' h'' : am_H} (H : PQ h h') (H2 : PQ h' h'') : PQ h h'' := ⟨H2.1, fun x i a b c d => (H2.2.1 x i a b c d).trans (H.2.1 x i a b c d), ⟨H2.2.2.1.1.trans H.2.2.1.1, H2.2.2.1.2.trans H.2.2.1.2⟩, fun q => H2.2.2.2.1 (H.2.2.2.1 q), fun q => H2.2.2.2.2.1 (H.2.2.2.2.1 q), fun q => H2.2.2.2.2.2.1 (H.2.2.2.2.2.1 q), fun q => H2.2.2.2.2.2.2 (H.2.2.2.2.2.2 q)⟩
theorem PTS_fr {h h' : am_H} {n : Int} {r : Int → Int} (hn : ncl (ptE r) (nl r) ≤ 4) (H : PTS h n r) (e : ∀ x i, 153 ≤ x → x ≤ 169 → h' x i = h x i) : PTS h' n r := by
  refine ⟨by rw [e _ _ (by omega) (by omega)]; exact H.1, fun k k0 k1 => ⟨fun p a b => ?_, ?_, fun i a b => ?_, fun p a b => ?_⟩⟩
  · rw [e _ _ (by omega) (by omega)]; exact (H.2 k k0 k1).1 p a b
  · rw [e _ _ (by omega) (by omega)]; exact (H.2 k k0 k1).2.1
  · rw [e _ _ (by omega) (by omega)]; exact (H.2 k k0 k1).2.2.1 i a b
  · rw [e _ _ (by omega) (by omega)]; exact (H.2 k k0 k1).2.2.2 p a b
theorem PI_sq {h h' : am_H} (H : PI h) (q : SQ h h' 5) : PQ h h' := by
  have hn := SV5_N H.1
  have e := SQ5_n q
  have f := SQ5_f q
  refine ⟨⟨q.1, fun p a b => by rw [f _ _ (by omega) (by omega)]; exact H.2.1 p a b, fun z => ?_⟩, fun x i a b _ _ => f x i a b, e, q.2.2.2.2.1, q.2.2.2.2.2.1, q.2.2.2.2.2.2, fun z => by rw [f _ _ (by omega) (by omega)]; exact z⟩
  rw [e.1, e.2]
  exact PTS_fr (np_4 hn.1 hn.2) (H.2.2 (by rw [← z]; exact (f _ _ (by omega) (by omega)).symm)) (fun x i a b => f _ _ (by omega) (by omega))
theorem PI_p {h : am_H} (H : PI h) (z : h 0 16 = 1) : PTS h (h 6 0) (nr h 7 0) := H.2.2 z
section PP
variable {h : am_H} {n : Int} {r : Int → Int} {k : Int}
theorem PT_ad (hN : NT n r) (hr : ∀ p, 0 ≤ p → p < 20 → h (156 + k) p = mkb (RA r (fun x => x = k) p)) : ad (nr h (156 + k) 0) = RA r (fun x => x = k) := by
  have hn := hN.2.1
  funext p q
  refine propext ?_
  rw [ad_nr]
  constructor
  · rintro ⟨a, b⟩
    rw [hr p a.1 a.2] at b
    exact (bt_mk.mp b).2
  · intro w
    have := RA_in hN w
    refine ⟨by omega, ?_⟩
    rw [hr p (by omega) (by omega)]
    exact bt_mk.mpr ⟨by omega, w⟩
/-- the corner's number, and the corner of that number -/
theorem crd_ok (hN : NT n r) (hC : CN n r) {p : Int} (hp : 0 ≤ p ∧ p < n) : (0 ≤ crd r k p ∧ crd r k p < iPop (lay r k 0)) ∧ nthb (lay r k 0) (crd r k p) = cof r k p := by
  have hn := hN.2.1
  obtain ⟨c1, c2, c3, c4⟩ := cof_ok (k := k) hN hC hp
  have hb : bit (lay r k 0) (cof r k p) := (bt_lay hN ⟨by omega, by omega⟩).mpr c2
  have e1 := ct_to (P := bit (lay r k 0)) c1.1
  rw [am_b_t hb] at e1
  have e2 := ct_mn (bit (lay r k 0)) (cof r k p + 1).toNat (32 - (cof r k p + 1).toNat)
  rw [show (cof r k p + 1).toNat + (32 - (cof r k p + 1).toNat) = 32 by omega] at e2
  have e3 := (ct_le (bit (lay r k 0)) (cof r k p).toNat).1
  refine ⟨⟨e3, ?_⟩, fnd_is c1.1 ⟨hb, rfl⟩ (fun j j0 j1 w => ?_) 20 (by omega)⟩
  · unfold crd iPop
    omega
  · have w1 := ct_to (P := bit (lay r k 0)) j0
    rw [am_b_t w.1] at w1
    have w2 := ct_mn (bit (lay r k 0)) (j + 1).toNat ((cof r k p).toNat - (j + 1).toNat)
    rw [show (j + 1).toNat + ((cof r k p).toNat - (j + 1).toNat) = (cof r k p).toNat by omega] at w2
    have w3 := w.2
    unfold crd at w3
    omega
theorem crd_eq (hN : NT n r) (hC : CN n r) {p q : Int} (hp : 0 ≤ p ∧ p < n) (hq : 0 ≤ q ∧ q < n) : crd r k p = crd r k q ↔ rc (RA r (fun x => ¬ x = k)) p q := by
  have h1 := crd_ok (k := k) hN hC hp
  have h2 := crd_ok (k := k) hN hC hq
  have c1 := cof_ok (k := k) hN hC hp
  have c2 := cof_ok (k := k) hN hC hq
  constructor
  · intro e
    have e2 : cof r k p = cof r k q := by rw [← h1.2, ← h2.2, e]
    rw [e2] at c1
    exact rc_trans c1.2.2.1 (rc_sym (RA_sym hN) c2.2.2.1)
  · intro w
    have e : cof r k p = cof r k q := c2.2.2.2 _ c1.2.1 (rc_trans (rc_sym (RA_sym hN) w) c1.2.2.1)
    unfold crd
    rw [e]
end PP
/-! 40 FactorNets$Parts.learnCorners -/
def C40 : am_K := fun as h K => am_a3 as (fun v0 v1 v2 => am_oc 5 153 v0 (am_oc 3 6 v1 (am_n v2 (fun k => (SV h 5 ∧ OT h ∧ (0 ≤ k ∧ k < 4 ∧ 0 < (h 6 0)) ∧ (∀ p, 0 ≤ p → p < 20 → h (156 + k) p = mkb (RA (nr h 7 0) (fun x => x = k) p))) ∧ (∀ (h' : am_H), (∀ x i, ¬ (x = 154 ∧ i = k) → x ≠ 161 + k → x ≠ 166 + k → x ≠ 170 → h' x i = h x i) ∧ OT h' ∧ PT1 h' (h 6 0) (nr h 7 0) k → K (none) (h'))))))
theorem W40 {d : Nat} (H : ∀ (k : Int) (h : am_H) (K : Option am_V → am_H → Prop), (SV h 5 ∧ OT h ∧ (0 ≤ k ∧ k < 4 ∧ 0 < (h 6 0)) ∧ (∀ p, 0 ≤ p → p < 20 → h (156 + k) p = mkb (RA (nr h 7 0) (fun x => x = k) p))) ∧ (∀ (h' : am_H), (∀ x i, ¬ (x = 154 ∧ i = k) → x ≠ 161 + k → x ≠ 166 + k → x ≠ 170 → h' x i = h x i) ∧ OT h' ∧ PT1 h' (h 6 0) (nr h 7 0) k → K (none) (h')) → am_AT d 40 0 [some (mR 1 5 0 153), some (mR 1 3 0 6), some (mB k), none, none, none] h K) : am_CS d 40 C40 := by
  refine am_CS_of (T := tb40) (mL := 6) (rk := 0) rfl (fun as h K hC => ?_)
  obtain ⟨v0, v1, v2, rfl, hC0⟩ := am_a3_e hC
  obtain ⟨e0, hC1⟩ := am_oc_e hC0
  subst e0
  obtain ⟨e1, hC2⟩ := am_oc_e hC1
  subst e1
  obtain ⟨k, rfl, hC3⟩ := am_n_e hC2
  refine ⟨Nat.le_of_ble_eq_true rfl, ?_⟩
  exact H k h K hC3
theorem T40_0 {R : Option am_V → am_H → Prop} {h : am_H} {k : Int} (t : am_AT 4 40 2 [some (mR 1 5 0 153), some (mR 1 3 0 6), some (mB k), some (mI 0), none, none] h R) : am_AT 4 40 0 [some (mR 1 5 0 153), some (mR 1 3 0 6), some (mB k), none, none, none] h R :=
  am_T (d := 3) (m := 40) (T := tb40) (mL := 6) (rk := 0) (cuts := [(2, [1, 1, 1, 2, 0, 0]), (56, [1, 1, 1, 2, 2, 2])]) (l := [(178, C178), (179, C179)]) rfl ⟨am_CS_d (by decide) C178_ok, am_CS_d (by decide) C179_ok, trivial⟩ 6 (t)
theorem T40_2 {R : Option am_V → am_H → Prop} {h : am_H} {k : Int} {x3 : Int} (t : (R32 x3) ∧ (((h 6 0 ≤ x3) → ((0 ≤ k ∧ k < 4) ∧ (((0 ≤ (0 : Int) ∧ (0 : Int) < 20) ∧ (∀ p, 0 ≤ p → p < 20 → S20 (h (156 + k) p))) ∧ (am_AT 4 40 56 [some (mR 1 5 0 153), some (mR 1 3 0 6), some (mB k), some (mI (mkb (rc (ad (nr h (156 + k) 0)) (0 : Int)))), some (mI 0), some (mI 0)] h R)))) ∧ ((x3 < h 6 0) → ((0 ≤ x3 ∧ x3 < 20) ∧ ((0 ≤ k ∧ k < 4) ∧ ((0 ≤ x3 ∧ x3 < 20) ∧ ((0 ≤ x3 ∧ x3 < 20) ∧ (am_AT 4 40 2 [some (mR 1 5 0 153), some (mR 1 3 0 6), some (mB k), some (mI (x3 + 1)), none, none] (am_up h 170 x3 (iAnd (h 7 x3) (iXor (h (156 + k) x3) (-1)))) R)))))))) : am_AT 4 40 2 [some (mR 1 5 0 153), some (mR 1 3 0 6), some (mB k), some (mI x3), none, none] h R :=
  am_T (d := 3) (m := 40) (T := tb40) (mL := 6) (rk := 0) (cuts := [(2, [1, 1, 1, 2, 0, 0]), (56, [1, 1, 1, 2, 2, 2])]) (l := [(178, C178), (179, C179)]) rfl ⟨am_CS_d (by decide) C178_ok, am_CS_d (by decide) C179_ok, trivial⟩ 27 (And.intro (t).1 (And.intro (fun c1 => And.intro (((t).2).1 c1).1 (And.intro ((((t).2).1 c1).2).1 (((((t).2).1 c1).2).2))) (fun c1 => And.intro (((t).2).2 c1).1 (And.intro ((((t).2).2 c1).2).1 (And.intro (((((t).2).2 c1).2).2).1 (And.intro ((((((t).2).2 c1).2).2).2).1 (((((((t).2).2 c1).2).2).2).2)))))))
theorem T40_56 {R : Option am_V → am_H → Prop} {h : am_H} {k : Int} {x3 : Int} {x4 : Int} {x5 : Int} (t : (R32 x5) ∧ (((h 6 0 ≤ x5) → ((0 ≤ k ∧ k < 4) ∧ ((R32 x4) ∧ (R none (am_up h 154 k x4))))) ∧ ((x5 < h 6 0) → (((iAnd (iShr x3 x5) 1 = 0) → (am_AT 4 40 56 [some (mR 1 5 0 153), some (mR 1 3 0 6), some (mB k), some (mI x3), some (mI x4), some (mI (x5 + 1))] h R)) ∧ ((¬ iAnd (iShr x3 x5) 1 = 0) → ((0 ≤ k ∧ k < 4) ∧ ((0 ≤ x4 ∧ x4 < 20) ∧ ((R32 x5) ∧ ((0 ≤ k ∧ k < 4) ∧ ((R32 x5) ∧ (((0 ≤ x5 ∧ x5 < 20) ∧ (∀ p, 0 ≤ p → p < 20 → S20 ((am_up h (161 + k) x4 x5) (170 : Int) p))) ∧ ((R32 x4) ∧ (am_AT 4 40 56 [some (mR 1 5 0 153), some (mR 1 3 0 6), some (mB k), some (mI x3), some (mI (x4 + 1)), some (mI (x5 + 1))] (h_mk (am_up h (161 + k) x4 x5) (166 + k) (mkb (rc (ad (nr (am_up h (161 + k) x4 x5) (170 : Int) 0)) x5)) x4) R))))))))))))) : am_AT 4 40 56 [some (mR 1 5 0 153), some (mR 1 3 0 6), some (mB k), some (mI x3), some (mI x4), some (mI x5)] h R :=
  am_T (d := 3) (m := 40) (T := tb40) (mL := 6) (rk := 0) (cuts := [(2, [1, 1, 1, 2, 0, 0]), (56, [1, 1, 1, 2, 2, 2])]) (l := [(178, C178), (179, C179)]) rfl ⟨am_CS_d (by decide) C178_ok, am_CS_d (by decide) C179_ok, trivial⟩ 34 (And.intro (t).1 (And.intro (fun c2 => And.intro (((t).2).1 c2).1 (And.intro ((((t).2).1 c2).2).1 (((((t).2).1 c2).2).2))) (fun c2 => And.intro (fun c3 => (((t).2).2 c2).1 c3) (fun c3 => And.intro ((((t).2).2 c2).2 c3).1 (And.intro (((((t).2).2 c2).2 c3).2).1 (And.intro ((((((t).2).2 c2).2 c3).2).2).1 (And.intro (((((((t).2).2 c2).2 c3).2).2).2).1 (And.intro ((((((((t).2).2 c2).2 c3).2).2).2).2).1 (And.intro (((((((((t).2).2 c2).2 c3).2).2).2).2).2).1 (And.intro ((((((((((t).2).2 c2).2 c3).2).2).2).2).2).2).1 (((((((((((t).2).2 c2).2 c3).2).2).2).2).2).2).2)))))))))))
theorem L40b {K : Option am_V → am_H → Prop} {h : am_H} (H : SV h 5) {k : Int} (hk : 0 ≤ k ∧ k < 4) (h0 : 0 < h 6 0) (hK : ∀ h', (∀ x i, ¬ (x = 154 ∧ i = k) → x ≠ 161 + k → x ≠ 166 + k → x ≠ 170 → h' x i = h x i) ∧ OT h' ∧ PT1 h' (h 6 0) (nr h 7 0) k → K none h') {h1 : am_H} (f0 : ∀ x i, x ≠ 170 → h1 x i = h x i) (ho : OT h1) (h170 : ∀ p q, 0 ≤ p → p < h 6 0 → (ad (nr h1 170 0) p q ↔ RA (nr h 7 0) (fun x => ¬ x = k) p q)) : ∀ p (hh : am_H), 0 ≤ p → p ≤ h 6 0 → (∀ x i, x ≠ 161 + k → x ≠ 166 + k → hh x i = h1 x i) → (∀ i, 0 ≤ i → i < ct (bit (lay (nr h 7 0) k 0)) p.toNat → hh (161 + k) i = nthb (lay (nr h 7 0) k 0) i) → (∀ q, 0 ≤ q → q < h 6 0 → cof (nr h 7 0) k q < p → hh (166 + k) q = crd (nr h 7 0) k q) → am_AT 4 40 56 [some (mR 1 5 0 153), some (mR 1 3 0 6), some (mB k), some (mI (lay (nr h 7 0) k 0)), some (mI (ct (bit (lay (nr h 7 0) k 0)) p.toNat)), some (mI p)] hh K := by
  have hN := (SV5_N H).1
  have hC := (SV5_N H).2
  have hn1 := hN.1
  have hn2 := hN.2.1
  have hz : (0 : Int) ≤ 0 ∧ 0 < h 6 0 := ⟨by omega, h0⟩
  refine lp (h 6 0) (fun p ih hh p0 p1 f1 f2 f3 => ?_)
  have en : hh 6 0 = h 6 0 := by rw [f1 _ _ (by omega) (by omega)]; exact f0 _ _ (by omega)
  have hct := ct_le (bit (lay (nr h 7 0) k 0)) p.toNat
  refine T40_56 ⟨by omega, ⟨fun c1 => ⟨by omega, ⟨by omega, ?_⟩⟩, fun c1 => ⟨fun c2 => ?_, fun c2 => ⟨by omega, ⟨by omega, ⟨by omega, ⟨by omega, ⟨by omega, ⟨⟨by omega, fun q a b => by rw [am_up_ne (by omega), f1 _ _ (by omega) (by omega)]; exact ho q a b⟩, ⟨by omega, ?_⟩⟩⟩⟩⟩⟩⟩⟩⟩⟩
  · refine hK _ ⟨fun x i a b c d => ?_, fun q a b => ?_, ?_, fun i a b => ?_, fun q a b => ?_⟩
    · rw [am_up_n2 a, f1 x i b c]; exact f0 x i d
    · rw [am_up_ne (by omega), f1 _ _ (by omega) (by omega)]; exact ho q a b
    · rw [am_up_eq, show p = h 6 0 by omega]
      unfold iPop
      rw [show 32 = (h 6 0).toNat + (32 - (h 6 0).toNat) by omega, ct_ext (h 6 0).toNat _ (fun j hj w => by have := RA_rc hN hz ((bt_lay hN hz).mp w); omega)]
    · rw [am_up_ne (by omega)]
      refine f2 i a ?_
      rw [show p = h 6 0 by omega]
      unfold iPop at b
      rw [show 32 = (h 6 0).toNat + (32 - (h 6 0).toNat) by omega, ct_ext (h 6 0).toNat _ (fun j hj w => by have := RA_rc hN hz ((bt_lay hN hz).mp w); omega)] at b
      exact b
    · rw [am_up_ne (by omega)]
      have := (cof_ok (k := k) hN hC ⟨a, b⟩).1
      exact f3 q a b (by omega)
  · have hb : ¬ bit (lay (nr h 7 0) k 0) p := (bt_has0 p0 (by omega)).mp c2
    have := ih (by omega) hh (by omega) (by omega) f1 (fun i a b => f2 i a (by rw [ct_to p0, am_b_f hb] at b; omega)) (fun q a b d => f3 q a b ?_)
    · rw [ct_to p0, am_b_f hb, Int.add_zero] at this
      exact this
    · have w := cof_ok (k := k) hN hC ⟨a, b⟩
      have : cof (nr h 7 0) k q ≠ p := fun e => hb ((bt_lay hN hz).mpr (by rw [← e]; exact w.2.1))
      omega
  · have hb : bit (lay (nr h 7 0) k 0) p := Classical.byContradiction fun w => c2 ((bt_has0 p0 (by omega)).mpr w)
    have hbr := (bt_lay hN hz).mp hb
    have er : ∀ v, mkb (rc (ad (nr (am_up hh (161 + k) v p) 170 0)) p) = mkb (rc (RA (nr h 7 0) (fun x => ¬ x = k)) p) := fun v => by
      refine mkb_congr (fun y _ _ => ?_)
      refine rc_agree (P := fun z => 0 ≤ z ∧ z < h 6 0) (fun a b ha => ?_) (fun a b _ w => (RA_in hN w).2) ⟨p0, by omega⟩ y
      rw [nr_fr2 (h := h1) (fun i => by rw [am_up_ne (by omega)]; exact f1 _ _ (by omega) (by omega))]
      exact h170 a b ha.1 ha.2
    show am_AT _ _ _ _ (h_mk (am_up hh (161 + k) _ p) (166 + k) (mkb (rc (ad (nr (am_up hh (161 + k) _ p) 170 0)) p)) _) K
    rw [er]
    have hcq : ∀ q, 0 ≤ q → q < h 6 0 → (cof (nr h 7 0) k q = p ↔ rc (RA (nr h 7 0) (fun x => ¬ x = k)) p q) := fun q a b => by
      have w := cof_ok (k := k) hN hC ⟨a, b⟩
      constructor
      · intro e
        rw [← e]
        exact rc_sym (RA_sym hN) w.2.2.1
      · intro e
        exact (w.2.2.2 p hbr (rc_sym (RA_sym hN) e)).symm
    have := ih (by omega) (h_mk (am_up hh (161 + k) (ct (bit (lay (nr h 7 0) k 0)) p.toNat) p) (166 + k) (mkb (rc (RA (nr h 7 0) (fun x => ¬ x = k)) p)) (ct (bit (lay (nr h 7 0) k 0)) p.toNat)) (by omega) (by omega) (fun x i a b => by rw [h_mk_n b, am_up_ne a]; exact f1 x i a b) (fun i a b => ?_) (fun q a b d => ?_)
    · rw [ct_to p0, am_b_t hb] at this
      exact this
    · rw [h_mk_n (by omega)]
      rw [ct_to p0, am_b_t hb] at b
      by_cases e : i = ct (bit (lay (nr h 7 0) k 0)) p.toNat
      · rw [e, am_up_eq]
        refine (fnd_is p0 ⟨hb, rfl⟩ (fun j j0 j1 w => ?_) 20 (by omega)).symm
        have w1 := ct_to (P := bit (lay (nr h 7 0) k 0)) j0
        rw [am_b_t w.1] at w1
        have w2 := ct_mn (bit (lay (nr h 7 0) k 0)) (j + 1).toNat (p.toNat - (j + 1).toNat)
        rw [show (j + 1).toNat + (p.toNat - (j + 1).toNat) = p.toNat by omega] at w2
        have := w.2
        omega
      · rw [am_up_ne2 e]
        exact f2 i a (by omega)
    · by_cases e : cof (nr h 7 0) k q = p
      · rw [h_mk_t a (by omega) (bt_mk.mpr ⟨by omega, (hcq q a b).mp e⟩)]
        unfold crd
        rw [e]
      · rw [h_mk_f (fun w => e ((hcq q a b).mpr (bt_mk.mp w).2)), am_up_ne (by omega)]
        exact f3 q a b (by omega)
theorem L40 {K : Option am_V → am_H → Prop} {h : am_H} (H : SV h 5) (hR : ∀ p, 0 ≤ p → p < 20 → S20 (h 7 p)) (ho : OT h) {k : Int} (hk : 0 ≤ k ∧ k < 4) (h0 : 0 < h 6 0) (hr : ∀ p, 0 ≤ p → p < 20 → h (156 + k) p = mkb (RA (nr h 7 0) (fun x => x = k) p)) (hK : ∀ h', (∀ x i, ¬ (x = 154 ∧ i = k) → x ≠ 161 + k → x ≠ 166 + k → x ≠ 170 → h' x i = h x i) ∧ OT h' ∧ PT1 h' (h 6 0) (nr h 7 0) k → K none h') : ∀ p (hh : am_H), 0 ≤ p → p ≤ h 6 0 → (∀ x i, x ≠ 170 → hh x i = h x i) → OT hh → (∀ q, 0 ≤ q → q < p → hh 170 q = iAnd (h 7 q) (iXor (h (156 + k) q) (-1))) → am_AT 4 40 2 [some (mR 1 5 0 153), some (mR 1 3 0 6), some (mB k), some (mI p), none, none] hh K := by
  have hN := (SV5_N H).1
  have hC := (SV5_N H).2
  have hn1 := hN.1
  have hn2 := hN.2.1
  have had := PT_ad hN hr
  refine lp (h 6 0) (fun p ih hh p0 p1 f1 f2 f3 => ?_)
  have en : hh 6 0 = h 6 0 := f1 _ _ (by omega)
  refine T40_2 ⟨by omega, ⟨fun c1 => ⟨by omega, ⟨⟨by omega, fun p a b => by rw [f1 _ _ (by omega), hr p a b]; exact S20_mk _⟩, ?_⟩⟩, fun c1 => ⟨by omega, ⟨by omega, ⟨by omega, ⟨by omega, ?_⟩⟩⟩⟩⟩⟩
  · rw [nr_fr2 (fun i => f1 (156 + k) i (by omega)), had]
    refine L40b H hk h0 hK f1 f2 (fun a b ha hb => ?_) 0 hh (by omega) hn1 (fun x i _ _ => rfl) (fun i a b => ?_) (fun q a b d => ?_)
    · rw [ad_nr, f3 a ha (by omega), hr a ha (by omega), bt_and, bt_not, bt_mk]
      unfold RA ad
      rw [nr_in0 ha (by omega)]
      constructor
      · rintro ⟨-, w1, -, -, w2⟩
        have w4 := S20_in (hR a ha (by omega)) w1
        exact ⟨w1, fun e => w2 ⟨w4, w1, e⟩⟩
      · rintro ⟨w1, w2⟩
        exact ⟨by omega, w1, w1.1, bt_lt w1, fun e => w2 e.2.2⟩
    · rw [show ct (bit (lay (nr h 7 0) k 0)) (0 : Int).toNat = 0 from rfl] at b
      omega
    · have := (cof_ok (k := k) hN hC ⟨a, b⟩).1
      omega
  · refine ih (by omega) _ (by omega) (by omega) (fun x i hx => by rw [am_up_ne hx]; exact f1 x i hx) (fun q a b => ?_) (fun q a b => ?_)
    · by_cases e : q = p
      · rw [e, am_up_eq, f1 _ _ (by omega)]
        exact S20_and (hR p p0 (by omega))
      · rw [am_up_ne2 e]; exact f2 q a b
    · by_cases e : q = p
      · rw [e, am_up_eq, f1 _ _ (by omega), f1 _ _ (by omega)]
      · rw [am_up_ne2 e]; exact f3 q a (by omega)
theorem C40_ok : am_CS 4 40 C40 := W40 (fun k h K hb => am_AT_ok (fun hw _ => T40_0 (by
  obtain ⟨⟨H, ho, hk, hr⟩, hK⟩ := hb
  exact L40 H (SV5_R H hw) ho ⟨hk.1, hk.2.1⟩ hk.2.2 hr hK 0 h (by omega) (SV5_N H).1.1 (fun x i _ => rfl) ho (fun q a b => by omega))))
/-! 39 FactorNets$Parts.learn -/
def C39 : am_K := fun as h K => am_a3 as (fun v0 v1 v2 => am_oc 5 153 v0 (am_oc 10 5 v1 (am_oc 9 75 v2 ((SV h 5 ∧ OT h ∧ h 5 6 = 1) ∧ (∀ (h' : am_H), (∀ x i, ¬ (153 ≤ x ∧ x ≤ 170) → h' x i = h x i) ∧ OT h' ∧ PTS h' (h 6 0) (nr h 7 0) → K (none) (h'))))))
theorem W39 {d : Nat} (H : ∀  (h : am_H) (K : Option am_V → am_H → Prop), (SV h 5 ∧ OT h ∧ h 5 6 = 1) ∧ (∀ (h' : am_H), (∀ x i, ¬ (153 ≤ x ∧ x ≤ 170) → h' x i = h x i) ∧ OT h' ∧ PTS h' (h 6 0) (nr h 7 0) → K (none) (h')) → am_AT d 39 0 [some (mR 1 5 0 153), some (mR 1 10 0 5), some (mR 1 9 0 75), none, none] h K) : am_CS d 39 C39 := by
  refine am_CS_of (T := tb39) (mL := 5) (rk := 0) rfl (fun as h K hC => ?_)
  obtain ⟨v0, v1, v2, rfl, hC0⟩ := am_a3_e hC
  obtain ⟨e0, hC1⟩ := am_oc_e hC0
  subst e0
  obtain ⟨e1, hC2⟩ := am_oc_e hC1
  subst e1
  obtain ⟨e2, hC3⟩ := am_oc_e hC2
  subst e2
  refine ⟨Nat.le_of_ble_eq_true rfl, ?_⟩
  exact H  h K hC3
theorem T39_0 {R : Option am_V → am_H → Prop} {h : am_H} (t : am_AT 5 39 14 [some (mR 1 5 0 153), some (mR 1 10 0 5), some (mR 1 9 0 75), some (mI 0), none] (am_up h 153 0 (min 4 (h 75 1))) R) : am_AT 5 39 0 [some (mR 1 5 0 153), some (mR 1 10 0 5), some (mR 1 9 0 75), none, none] h R :=
  am_T (d := 4) (m := 39) (T := tb39) (mL := 5) (rk := 0) (cuts := [(14, [1, 1, 1, 2, 0]), (40, [1, 1, 1, 2, 0]), (134, [1, 1, 0, 2, 0])]) (l := [(40, C40), (319, C319)]) rfl ⟨am_CS_d (by decide) C40_ok, am_CS_d (by decide) C319_ok, trivial⟩ 12 (t)
theorem T39_14 {R : Option am_V → am_H → Prop} {h : am_H} {x3 : Int} (t : (R32 x3) ∧ (((h 153 0 ≤ x3) → (am_AT 5 39 40 [some (mR 1 5 0 153), some (mR 1 10 0 5), some (mR 1 9 0 75), some (mI 0), none] h R)) ∧ ((x3 < h 153 0) → ((0 ≤ x3 ∧ x3 < 4) ∧ (am_AT 5 39 14 [some (mR 1 5 0 153), some (mR 1 10 0 5), some (mR 1 9 0 75), some (mI (x3 + 1)), none] (h_fl h (156 + x3) 20 (0 : Int)) R))))) : am_AT 5 39 14 [some (mR 1 5 0 153), some (mR 1 10 0 5), some (mR 1 9 0 75), some (mI x3), none] h R :=
  am_T (d := 4) (m := 39) (T := tb39) (mL := 5) (rk := 0) (cuts := [(14, [1, 1, 1, 2, 0]), (40, [1, 1, 1, 2, 0]), (134, [1, 1, 0, 2, 0])]) (l := [(40, C40), (319, C319)]) rfl ⟨am_CS_d (by decide) C40_ok, am_CS_d (by decide) C319_ok, trivial⟩ 16 (And.intro (t).1 (And.intro (fun c4 => ((t).2).1 c4) (fun c4 => And.intro (((t).2).2 c4).1 ((((t).2).2 c4).2))))
theorem T39_40 {R : Option am_V → am_H → Prop} {h : am_H} {x3 : Int} (t : (R32 x3) ∧ (((h 51 0 ≤ x3) → (am_AT 5 39 134 [some (mR 1 5 0 153), some (mR 1 10 0 5), none, some (mI 0), none] h R)) ∧ ((x3 < h 51 0) → ((0 ≤ x3 ∧ x3 < 190) ∧ (((4 ≤ h 77 x3) → (am_AT 5 39 40 [some (mR 1 5 0 153), some (mR 1 10 0 5), some (mR 1 9 0 75), some (mI (x3 + 1)), none] h R)) ∧ ((h 77 x3 < 4) → ((0 ≤ x3 ∧ x3 < 190) ∧ ((0 ≤ h 77 x3 ∧ h 77 x3 < 4) ∧ ((0 ≤ x3 ∧ x3 < 190) ∧ ((0 ≤ h 52 x3 ∧ h 52 x3 < 20) ∧ ((0 ≤ x3 ∧ x3 < 190) ∧ ((0 ≤ h 52 x3 ∧ h 52 x3 < 20) ∧ ((0 ≤ x3 ∧ x3 < 190) ∧ ((0 ≤ (am_up h (156 + (h 77 x3)) (h 52 x3) (iOr (h (156 + (h 77 x3)) (h 52 x3)) (iShl 1 (h 53 x3)))) 53 x3 ∧ (am_up h (156 + (h 77 x3)) (h 52 x3) (iOr (h (156 + (h 77 x3)) (h 52 x3)) (iShl 1 (h 53 x3)))) 53 x3 < 20) ∧ ((0 ≤ x3 ∧ x3 < 190) ∧ ((0 ≤ (am_up h (156 + (h 77 x3)) (h 52 x3) (iOr (h (156 + (h 77 x3)) (h 52 x3)) (iShl 1 (h 53 x3)))) 53 x3 ∧ (am_up h (156 + (h 77 x3)) (h 52 x3) (iOr (h (156 + (h 77 x3)) (h 52 x3)) (iShl 1 (h 53 x3)))) 53 x3 < 20) ∧ (am_AT 5 39 40 [some (mR 1 5 0 153), some (mR 1 10 0 5), some (mR 1 9 0 75), some (mI (x3 + 1)), none] (am_up (am_up h (156 + (h 77 x3)) (h 52 x3) (iOr (h (156 + (h 77 x3)) (h 52 x3)) (iShl 1 (h 53 x3)))) (156 + (h 77 x3)) ((am_up h (156 + (h 77 x3)) (h 52 x3) (iOr (h (156 + (h 77 x3)) (h 52 x3)) (iShl 1 (h 53 x3)))) 53 x3) (iOr ((am_up h (156 + (h 77 x3)) (h 52 x3) (iOr (h (156 + (h 77 x3)) (h 52 x3)) (iShl 1 (h 53 x3)))) (156 + (h 77 x3)) ((am_up h (156 + (h 77 x3)) (h 52 x3) (iOr (h (156 + (h 77 x3)) (h 52 x3)) (iShl 1 (h 53 x3)))) 53 x3)) (iShl 1 ((am_up h (156 + (h 77 x3)) (h 52 x3) (iOr (h (156 + (h 77 x3)) (h 52 x3)) (iShl 1 (h 53 x3)))) 52 x3)))) R))))))))))))))))) : am_AT 5 39 40 [some (mR 1 5 0 153), some (mR 1 10 0 5), some (mR 1 9 0 75), some (mI x3), none] h R :=
  am_T (d := 4) (m := 39) (T := tb39) (mL := 5) (rk := 0) (cuts := [(14, [1, 1, 1, 2, 0]), (40, [1, 1, 1, 2, 0]), (134, [1, 1, 0, 2, 0])]) (l := [(40, C40), (319, C319)]) rfl ⟨am_CS_d (by decide) C40_ok, am_CS_d (by decide) C319_ok, trivial⟩ 59 (And.intro (t).1 (And.intro (fun c5 => ((t).2).1 c5) (fun c5 => And.intro (((t).2).2 c5).1 (And.intro (fun c6 => ((((t).2).2 c5).2).1 c6) (fun c6 => And.intro (((((t).2).2 c5).2).2 c6).1 (And.intro ((((((t).2).2 c5).2).2 c6).2).1 (And.intro (((((((t).2).2 c5).2).2 c6).2).2).1 (And.intro ((((((((t).2).2 c5).2).2 c6).2).2).2).1 (And.intro (((((((((t).2).2 c5).2).2 c6).2).2).2).2).1 (And.intro ((((((((((t).2).2 c5).2).2 c6).2).2).2).2).2).1 (And.intro (((((((((((t).2).2 c5).2).2 c6).2).2).2).2).2).2).1 (And.intro ((((((((((((t).2).2 c5).2).2 c6).2).2).2).2).2).2).2).1 (And.intro (((((((((((((t).2).2 c5).2).2 c6).2).2).2).2).2).2).2).2).1 (And.intro ((((((((((((((t).2).2 c5).2).2 c6).2).2).2).2).2).2).2).2).2).1 (((((((((((((((t).2).2 c5).2).2 c6).2).2).2).2).2).2).2).2).2).2)))))))))))))))
theorem T39_134 {R : Option am_V → am_H → Prop} {h : am_H} {x3 : Int} (t : (R32 x3) ∧ (((h 153 0 ≤ x3) → (R none h)) ∧ ((x3 < h 153 0) → ((R32 x3) ∧ ((SV h 5 ∧ OT h ∧ (0 ≤ x3 ∧ x3 < 4 ∧ 0 < (h 6 0)) ∧ (∀ p, 0 ≤ p → p < 20 → h (156 + x3) p = mkb (RA (nr h 7 0) (fun x => x = x3) p))) ∧ (∀ (h' : am_H), ((∀ x i, ¬ (x = 154 ∧ i = x3) → x ≠ 161 + x3 → x ≠ 166 + x3 → x ≠ 170 → h' x i = h x i) ∧ OT h' ∧ PT1 h' (h 6 0) (nr h 7 0) x3) → (am_AT 5 39 134 [some (mR 1 5 0 153), some (mR 1 10 0 5), none, some (mI (x3 + 1)), none] h' R))))))) : am_AT 5 39 134 [some (mR 1 5 0 153), some (mR 1 10 0 5), none, some (mI x3), none] h R :=
  am_T (d := 4) (m := 39) (T := tb39) (mL := 5) (rk := 0) (cuts := [(14, [1, 1, 1, 2, 0]), (40, [1, 1, 1, 2, 0]), (134, [1, 1, 0, 2, 0])]) (l := [(40, C40), (319, C319)]) rfl ⟨am_CS_d (by decide) C40_ok, am_CS_d (by decide) C319_ok, trivial⟩ 15 (And.intro (t).1 (And.intro (fun c7 => ((t).2).1 c7) (fun c7 => And.intro (((t).2).2 c7).1 (And.intro (rfl) (And.intro (rfl) (And.intro ((((t).2).2 c7).2).1 (fun z1_0 z1_1 => (((((t).2).2 c7).2).2) z1_0 z1_1)))))))
theorem L39c {K : Option am_V → am_H → Prop} {h : am_H} (H : SV h 5) (hK : ∀ h', (∀ x i, ¬ (153 ≤ x ∧ x ≤ 170) → h' x i = h x i) ∧ OT h' ∧ PTS h' (h 6 0) (nr h 7 0) → K none h') : ∀ k (hh : am_H), 0 ≤ k → k ≤ ncl (ptE (nr h 7 0)) (nl (nr h 7 0)) → (∀ x i, ¬ (153 ≤ x ∧ x ≤ 170) → hh x i = h x i) → OT hh → hh 153 0 = ncl (ptE (nr h 7 0)) (nl (nr h 7 0)) → (∀ j, 0 ≤ j → j < ncl (ptE (nr h 7 0)) (nl (nr h 7 0)) → ∀ p, 0 ≤ p → p < 20 → hh (156 + j) p = mkb (RA (nr h 7 0) (fun x => x = j) p)) → (∀ j, 0 ≤ j → j < k → PT1 hh (h 6 0) (nr h 7 0) j) → am_AT 5 39 134 [some (mR 1 5 0 153), some (mR 1 10 0 5), none, some (mI k), none] hh K := by
  have hN := (SV5_N H).1
  have hC := (SV5_N H).2
  have hn1 := hN.1
  have hn2 := hN.2.1
  have h4 := np_4 hN hC
  refine lp (ncl (ptE (nr h 7 0)) (nl (nr h 7 0))) (fun k ih hh k0 k1 f1 fo f2 f3 f4 => ?_)
  have en : hh 6 0 = h 6 0 := f1 _ _ (by omega)
  have er : nr hh 7 0 = nr h 7 0 := nr_fr2 (fun i => f1 _ _ (by omega))
  refine T39_134 ⟨by omega, ⟨fun c1 => ?_, fun c1 => ⟨by omega, ⟨⟨SV_fr5 H (fun x i a b => f1 _ _ (by omega)), fo, ⟨k0, by omega, by have := np_0 hN k0 (by omega); omega⟩, fun p a b => by rw [er]; exact f3 k k0 (by omega) p a b⟩, fun h' q2 => ?_⟩⟩⟩⟩
  · exact hK hh ⟨f1, fo, f2, fun j a b => ⟨f3 j a b, f4 j a (by omega)⟩⟩
  · rw [en, er] at q2
    refine ih (by omega) h' (by omega) (by omega) (fun x i hx => by rw [q2.1 x i (by omega) (by omega) (by omega) (by omega)]; exact f1 x i hx) q2.2.1 (by rw [q2.1 _ _ (by omega) (by omega) (by omega) (by omega)]; exact f2) (fun j a b p c d => by rw [q2.1 _ _ (by omega) (by omega) (by omega) (by omega)]; exact f3 j a b p c d) (fun j a b => ?_)
    by_cases e : j = k
    · rw [e]; exact q2.2.2
    · have w := f4 j a (by omega)
      exact ⟨by rw [q2.1 _ _ (by omega) (by omega) (by omega) (by omega)]; exact w.1, fun i c d => by rw [q2.1 _ _ (by omega) (by omega) (by omega) (by omega)]; exact w.2.1 i c d, fun p c d => by rw [q2.1 _ _ (by omega) (by omega) (by omega) (by omega)]; exact w.2.2 p c d⟩
theorem L39b {K : Option am_V → am_H → Prop} {h : am_H} (H : SV h 5) (z6 : h 5 6 = 1) (hK : ∀ h', (∀ x i, ¬ (153 ≤ x ∧ x ≤ 170) → h' x i = h x i) ∧ OT h' ∧ PTS h' (h 6 0) (nr h 7 0) → K none h') : ∀ l (hh : am_H), 0 ≤ l → l ≤ nl (nr h 7 0) → (∀ x i, ¬ (153 ≤ x ∧ x ≤ 170) → hh x i = h x i) → OT hh → hh 153 0 = ncl (ptE (nr h 7 0)) (nl (nr h 7 0)) → (∀ j, 0 ≤ j → j < ncl (ptE (nr h 7 0)) (nl (nr h 7 0)) → (∀ p, 0 ≤ p → p < 20 → S20 (hh (156 + j) p)) ∧ ∀ p q, ad (nr hh (156 + j) 0) p q ↔ RA (nr h 7 0) (fun x => x = j) p q ∧ lno (nr h 7 0) p q < l) → am_AT 5 39 40 [some (mR 1 5 0 153), some (mR 1 10 0 5), some (mR 1 9 0 75), some (mI l), none] hh K := by
  have hN := (SV5_N H).1
  have hC := (SV5_N H).2
  have hn1 := hN.1
  have hn2 := hN.2.1
  have h4 := np_4 hN hC
  have hnl := nl_r (nr h 7 0)
  have hL := SV5_L H (SV5_45 H z6).2
  have hSO := (SV5_S H z6).2.2
  refine lp (nl (nr h 7 0)) (fun l ih hh l0 l1 f1 fo f2 f3 => ?_)
  have e51 : hh 51 0 = nl (nr h 7 0) := by rw [f1 _ _ (by omega)]; exact hL.1
  have e77 : l < nl (nr h 7 0) → hh 77 l = lab (ptE (nr h 7 0)) l ∧ (0 ≤ lab (ptE (nr h 7 0)) l ∧ lab (ptE (nr h 7 0)) l < ncl (ptE (nr h 7 0)) (nl (nr h 7 0))) := fun hl => ⟨by rw [f1 _ _ (by omega)]; exact (hSO l l0 hl).2, lab_r (ptE_sym hN) l0 hl⟩
  have e52 : l < nl (nr h 7 0) → (hh 52 l = lo (nr h 7 0) l ∧ hh 53 l = hi (nr h 7 0) l) ∧ (0 ≤ lo (nr h 7 0) l ∧ lo (nr h 7 0) l < 20) ∧ (0 ≤ hi (nr h 7 0) l ∧ hi (nr h 7 0) l < 20) ∧ ad (nr h 7 0) (lo (nr h 7 0) l) (hi (nr h 7 0) l) := fun hl => by
    rw [f1 _ _ (by omega), f1 _ _ (by omega)]
    have := lo_n hN l0 hl
    exact ⟨hL.2.1 l l0 hl, by omega, by omega, this.2.2.2⟩
  have e53 : ∀ a i v, 153 ≤ a → am_up hh a i v 53 l = hh 53 l := fun a i v ha => am_up_ne (by omega)
  refine T39_40 ⟨by omega, ⟨fun c1 => ?_, fun c1 => ⟨by omega, ⟨fun c2 => ?_, fun c2 => ⟨by omega, ⟨by have := e77 (by omega); omega, ⟨by omega, ⟨by have := e52 (by omega); omega, ⟨by omega, ⟨by have := e52 (by omega); omega, ⟨by omega, ⟨by have w := e77 (by omega); have := e52 (by omega); rw [e53 _ _ _ (by omega)]; omega, ⟨by omega, ⟨by have w := e77 (by omega); have := e52 (by omega); rw [e53 _ _ _ (by omega)]; omega, ?_⟩⟩⟩⟩⟩⟩⟩⟩⟩⟩⟩⟩⟩⟩
  · refine L39c H hK 0 hh (by omega) (ncl_r _ _).1 f1 fo f2 (fun j a b p c d => ?_) (fun j a b => by omega)
    have w := f3 j a b
    have w1 := w.1 p c d
    refine mkb_eq (by have := w1.1; have := w1.2; omega) (fun q => ?_)
    have w2 := w.2 p q
    rw [ad_nr] at w2
    constructor
    · intro y
      exact ⟨S20_in w1 y, (w2.mp ⟨⟨c, d⟩, y⟩).1⟩
    · intro y
      have := (lno_ok hN y.2.1).1
      exact (w2.mpr ⟨y.2, by omega⟩).2
  · exfalso; have := e77 (by omega); omega
  · obtain ⟨k1, k2⟩ := e77 (by omega)
    obtain ⟨⟨a1, a2⟩, b1, b2, b3⟩ := e52 (by omega)
    simp (disch := omega) only [am_up_ne]
    rw [k1, a1, a2]
    generalize hkk : lab (ptE (nr h 7 0)) l = kk at *
    have hz := ih (by omega) (h_lk hh (156 + kk) (lo (nr h 7 0) l) (hi (nr h 7 0) l)) (by omega) (by omega) (fun x i hx => by rw [h_lk_ne (by omega)]; exact f1 x i hx) (fun p c d => by rw [h_lk_ne (by omega)]; exact fo p c d) (by rw [h_lk_ne (by omega)]; exact f2) (fun j c d => ?_)
    · exact hz
    · by_cases e : j = kk
      · rw [e]
        have w := f3 kk k2.1 k2.2
        refine ⟨fun p p0 p1 => ?_, fun p q => ?_⟩
        · unfold h_lk
          by_cases c3 : p = hi (nr h 7 0) l
          · rw [c3, am_up_eq]
            by_cases c4 : hi (nr h 7 0) l = lo (nr h 7 0) l
            · rw [c4, am_up_eq]; exact S20_or (S20_or (w.1 _ (by omega) (by omega)) (S20_1 (by omega) (by omega))) (S20_1 (by omega) (by omega))
            · rw [am_up_ne2 c4]; exact S20_or (w.1 _ (by omega) (by omega)) (S20_1 (by omega) (by omega))
          · rw [am_up_ne2 c3]
            by_cases c4 : p = lo (nr h 7 0) l
            · rw [c4, am_up_eq]; exact S20_or (w.1 _ (by omega) (by omega)) (S20_1 (by omega) (by omega))
            · rw [am_up_ne2 c4]; exact w.1 p p0 p1
        · rw [ad_lk b1 b2, w.2]
          constructor
          · rintro (y | ⟨y1, y2⟩ | ⟨y1, y2⟩)
            · exact ⟨y.1, by omega⟩
            · rw [y1, y2]
              exact ⟨⟨b3, by unfold pl; rw [lno_lo hN l0 (by omega)]; exact hkk⟩, by rw [lno_lo hN l0 (by omega)]; omega⟩
            · rw [y1, y2]
              exact ⟨⟨NT_sym hN _ _ b3, by unfold pl; rw [lno_sym hN, lno_lo hN l0 (by omega)]; exact hkk⟩, by rw [lno_sym hN, lno_lo hN l0 (by omega)]; omega⟩
          · rintro ⟨y1, y2⟩
            by_cases e2 : lno (nr h 7 0) p q = l
            · exact Or.inr ((lno_iff hN l0 (by omega) y1.1).mp e2)
            · exact Or.inl ⟨y1, by omega⟩
      · have w := f3 j c d
        have ec : ∀ i, h_lk hh (156 + kk) (lo (nr h 7 0) l) (hi (nr h 7 0) l) (156 + j) i = hh (156 + j) i := fun i => h_lk_ne (by omega)
        refine ⟨fun p p0 p1 => by rw [ec]; exact w.1 p p0 p1, fun p q => ?_⟩
        rw [nr_fr2 ec, w.2]
        refine and_congr_right (fun y => ⟨fun y2 => by omega, fun y2 => ?_⟩)
        have : lno (nr h 7 0) p q ≠ l := fun e2 => by
          have y3 := y.2
          unfold pl at y3
          rw [e2, hkk] at y3
          omega
        omega
theorem L39 {K : Option am_V → am_H → Prop} {h : am_H} (H : SV h 5) (z6 : h 5 6 = 1) (hK : ∀ h', (∀ x i, ¬ (153 ≤ x ∧ x ≤ 170) → h' x i = h x i) ∧ OT h' ∧ PTS h' (h 6 0) (nr h 7 0) → K none h') : ∀ k (hh : am_H), 0 ≤ k → k ≤ ncl (ptE (nr h 7 0)) (nl (nr h 7 0)) → (∀ x i, ¬ (153 ≤ x ∧ x ≤ 170) → hh x i = h x i) → OT hh → hh 153 0 = ncl (ptE (nr h 7 0)) (nl (nr h 7 0)) → (∀ j, 0 ≤ j → j < k → ∀ p, 0 ≤ p → p < 20 → hh (156 + j) p = 0) → am_AT 5 39 14 [some (mR 1 5 0 153), some (mR 1 10 0 5), some (mR 1 9 0 75), some (mI k), none] hh K := by
  have hN := (SV5_N H).1
  have hC := (SV5_N H).2
  have hn1 := hN.1
  have hn2 := hN.2.1
  have h4 := np_4 hN hC
  refine lp (ncl (ptE (nr h 7 0)) (nl (nr h 7 0))) (fun k ih hh k0 k1 f1 fo f2 f3 => ?_)
  refine T39_14 ⟨by omega, ⟨fun c1 => ?_, fun c1 => ⟨by omega, ?_⟩⟩⟩
  · refine L39b H z6 hK 0 hh (by omega) (nl_r _).1 f1 fo f2 (fun j a b => ⟨fun p c d => by rw [f3 j a (by omega) p c d]; exact S20_0, fun p q => ⟨fun w => ?_, fun w => ?_⟩⟩)
    · obtain ⟨w1, w2⟩ := ad_nr.mp w
      rw [f3 j a (by omega) p w1.1 w1.2] at w2
      exact absurd w2 bt_zero
    · have := (lno_ok hN w.1.1).1
      omega
  · refine ih (by omega) _ (by omega) (by omega) (fun x i hx => by rw [h_fl_ne (by omega)]; exact f1 x i hx) (fun p c d => by rw [h_fl_ne (by omega)]; exact fo p c d) (by rw [h_fl_ne (by omega)]; exact f2) (fun j a b p c d => ?_)
    by_cases e : j = k
    · rw [e, h_fl_in c d]
    · rw [h_fl_ne (by omega)]; exact f3 j a (by omega) p c d
theorem C39_ok : am_CS 5 39 C39 := W39 (fun h K hb => T39_0 (by
  obtain ⟨⟨H, ho, z6⟩, hK⟩ := hb
  have h4 := np_4 (SV5_N H).1 (SV5_N H).2
  have e := (SV5_S H z6).2.1
  refine L39 H z6 hK 0 _ (by omega) (ncl_r _ _).1 (fun x i hx => am_up_ne (by omega)) (fun p c d => by rw [am_up_ne (by omega)]; exact ho p c d) (by rw [am_up_eq]; omega) (fun j a b => by omega)))
/-! 154 FactorNets.learnParts -/
def C154 : am_K := fun as h K => am_a1 as (fun v0 => am_oc 11 0 v0 ((PI h) ∧ (∀ (h' : am_H), PQ h h' ∧ h' 0 16 = 1 → K (none) (h'))))
theorem W154 {d : Nat} (H : ∀  (h : am_H) (K : Option am_V → am_H → Prop), (PI h) ∧ (∀ (h' : am_H), PQ h h' ∧ h' 0 16 = 1 → K (none) (h')) → am_AT d 154 0 [some (mR 1 11 0 0)] h K) : am_CS d 154 C154 := by
  refine am_CS_of (T := tb154) (mL := 1) (rk := 0) rfl (fun as h K hC => ?_)
  obtain ⟨v0, rfl, hC0⟩ := am_a1_e hC
  obtain ⟨e0, hC1⟩ := am_oc_e hC0
  subst e0
  refine ⟨Nat.le_of_ble_eq_true rfl, ?_⟩
  exact H  h K hC1
theorem T154_0 {R : Option am_V → am_H → Prop} {h : am_H} (t : ((¬ h 0 16 = 0) → (R none h)) ∧ ((h 0 16 = 0) → ((SV h (5 : Int)) ∧ (∀ (h' : am_H), (SQ h h' (5 : Int) ∧ h' (5 : Int) 6 = 1) → ((SV h' 5 ∧ OT h' ∧ h' 5 6 = 1) ∧ (∀ (h'_1 : am_H), ((∀ x i, ¬ (153 ≤ x ∧ x ≤ 170) → h'_1 x i = h' x i) ∧ OT h'_1 ∧ PTS h'_1 (h' 6 0) (nr h' 7 0)) → (R none (am_up h'_1 0 16 1)))))))) : am_AT 6 154 0 [some (mR 1 11 0 0)] h R :=
  am_T (d := 5) (m := 154) (T := tb154) (mL := 1) (rk := 0) (cuts := []) (l := [(39, C39), (90, C90b)]) rfl ⟨am_CS_d (by decide) C39_ok, am_CS_d (by decide) C90b_ok, trivial⟩ 19 (And.intro (fun c8 => (t).1 c8) (fun c8 => And.intro ((t).2 c8).1 (fun z2_0 z2_1 => And.intro (rfl) (And.intro (rfl) (And.intro (rfl) (And.intro ((((t).2 c8).2) z2_0 z2_1).1 (fun z3_0 z3_1 => And.intro (Or.inr rfl) ((((((t).2 c8).2) z2_0 z2_1).2) z3_0 z3_1))))))))
theorem C154_ok : am_CS 6 154 C154 := W154 (fun h K hb => am_AT_ok (fun hw hl => by
  obtain ⟨H, hK⟩ := hb
  refine T154_0 ⟨fun c1 => ?_, fun c1 => ⟨H.1, fun h' q2 => ⟨⟨q2.1.1, fun p a b => by rw [SQ5_f q2.1 _ _ (by omega) (by omega)]; exact H.2.1 p a b, q2.2⟩, fun h'_1 q3 => ?_⟩⟩⟩
  · have e : h 0 16 = 1 := by
      have : h 0 16 = 0 ∨ h 0 16 = 1 := wf_b 11 16 hw (hl 0 _ rfl) rfl rfl
      omega
    exact hK h ⟨PQ_rf H, e⟩
  · have e := SQ5_n q2.1
    have f := SQ5_f q2.1
    rw [e.1, e.2] at q3
    have f2 : ∀ x i, ¬ (153 ≤ x ∧ x ≤ 170) → ¬ (x = 0 ∧ i = 16) → am_up h'_1 0 16 1 x i = h' x i := fun x i a b => by rw [am_up_n2 b]; exact q3.1 x i a
    have er : nr (am_up h'_1 0 16 1) 7 0 = nr h 7 0 := by rw [← e.1]; exact nr_fr2 (fun i => f2 _ _ (by omega) (by omega))
    have en : am_up h'_1 0 16 1 6 0 = h 6 0 := by rw [← e.2]; exact f2 _ _ (by omega) (by omega)
    have hn := SV5_N H.1
    refine hK _ ⟨⟨⟨SV_fr5 q2.1.1 (fun x i a b => f2 _ _ (by omega) (by omega)), fun p a b => by rw [am_up_ne (by omega)]; exact q3.2.1 p a b, fun _ => ?_⟩, fun x i a b c d => by rw [f2 x i c d]; exact f x i a b, ⟨er, en⟩, fun z => ?_, fun z => ?_, fun z => ?_, fun _ => am_up_eq⟩, am_up_eq⟩
    · rw [er, en]
      exact PTS_fr (np_4 hn.1 hn.2) q3.2.2 (fun x i a b => am_up_ne (by omega))
    · rw [f2 _ _ (by omega) (by omega)]; exact q2.1.2.2.2.2.1 z
    · rw [f2 _ _ (by omega) (by omega)]; exact q2.1.2.2.2.2.2.1 z
    · rw [f2 _ _ (by omega) (by omega)]; exact q2.2))
/-! 159 FactorNets.isPart -/
def C159 : am_K := fun as h K => am_a2 as (fun v0 v1 => am_oc 11 0 v0 (am_n v1 (fun k => (PI h) ∧ (∀ (h' : am_H), PQ h h' ∧ h' 0 16 = 1 → K (some (mP (0 ≤ k ∧ k < (ncl (ptE (nr h 7 0)) (nl (nr h 7 0)))))) (h')))))
theorem W159 {d : Nat} (H : ∀ (k : Int) (h : am_H) (K : Option am_V → am_H → Prop), (PI h) ∧ (∀ (h' : am_H), PQ h h' ∧ h' 0 16 = 1 → K (some (mP (0 ≤ k ∧ k < (ncl (ptE (nr h 7 0)) (nl (nr h 7 0)))))) (h')) → am_AT d 159 0 [some (mR 1 11 0 0), some (mB k)] h K) : am_CS d 159 C159 := by
  refine am_CS_of (T := tb159) (mL := 2) (rk := 4) rfl (fun as h K hC => ?_)
  obtain ⟨v0, v1, rfl, hC0⟩ := am_a2_e hC
  obtain ⟨e0, hC1⟩ := am_oc_e hC0
  subst e0
  obtain ⟨k, rfl, hC2⟩ := am_n_e hC1
  refine ⟨Nat.le_of_ble_eq_true rfl, ?_⟩
  exact H k h K hC2
theorem T159_0 {R : Option am_V → am_H → Prop} {h : am_H} {k : Int} (t : (PI h) ∧ (∀ (h' : am_H), (PQ h h' ∧ h' 0 16 = 1) → (((k < 0) → (R (some (mP ((0 : Int) = 1))) h')) ∧ ((0 ≤ k) → (((h' 153 0 ≤ k) → (R (some (mP ((0 : Int) = 1))) h')) ∧ ((k < h' 153 0) → (R (some (mP ((1 : Int) = 1))) h'))))))) : am_AT 7 159 0 [some (mR 1 11 0 0), some (mB k)] h R :=
  am_T (d := 6) (m := 159) (T := tb159) (mL := 2) (rk := 4) (cuts := []) (l := [(154, C154)]) rfl ⟨am_CS_d (by decide) C154_ok, trivial⟩ 16 (And.intro (rfl) (And.intro (t).1 (fun z4_0 z4_1 => And.intro (fun c9 => And.intro (Or.inl rfl) ((((t).2) z4_0 z4_1).1 c9)) (fun c9 => And.intro (fun c10 => And.intro (Or.inl rfl) (((((t).2) z4_0 z4_1).2 c9).1 c10)) (fun c10 => And.intro (Or.inr rfl) (((((t).2) z4_0 z4_1).2 c9).2 c10))))))
theorem C159_ok : am_CS 7 159 C159 := W159 (fun k h K hb => by
  refine T159_0 ⟨hb.1, fun h' q1 => ⟨fun c2 => ?_, fun c2 => ⟨fun c3 => ?_, fun c3 => ?_⟩⟩⟩
  · exact am_rb0 (hb.2 h' q1) (by omega)
  · have e := (PI_p q1.1.1 q1.2).1
    rw [q1.1.2.2.1.1] at e
    exact am_rb0 (hb.2 h' q1) (by omega)
  · have e := (PI_p q1.1.1 q1.2).1
    rw [q1.1.2.2.1.1] at e
    exact am_rb1 (hb.2 h' q1) (by omega))
/-! 107 FactorNets.layer -/
def C107 : am_K := fun as h K => am_a3 as (fun v0 v1 v2 => am_oc 11 0 v0 (am_n v1 (fun p => am_n v2 (fun k => (PI h) ∧ (∀ (h' : am_H), PQ h h' → K (some (mB (ifc ((0 ≤ p ∧ p < (h 6 0)) ∧ (0 ≤ k ∧ k < (ncl (ptE (nr h 7 0)) (nl (nr h 7 0))))) (lay (nr h 7 0) k p) (-2)))) (h'))))))
theorem W107 {d : Nat} (H : ∀ (p : Int) (k : Int) (h : am_H) (K : Option am_V → am_H → Prop), (PI h) ∧ (∀ (h' : am_H), PQ h h' → K (some (mB (ifc ((0 ≤ p ∧ p < (h 6 0)) ∧ (0 ≤ k ∧ k < (ncl (ptE (nr h 7 0)) (nl (nr h 7 0))))) (lay (nr h 7 0) k p) (-2)))) (h')) → am_AT d 107 0 [some (mR 1 11 0 0), some (mB p), some (mB k)] h K) : am_CS d 107 C107 := by
  refine am_CS_of (T := tb107) (mL := 3) (rk := 1) rfl (fun as h K hC => ?_)
  obtain ⟨v0, v1, v2, rfl, hC0⟩ := am_a3_e hC
  obtain ⟨e0, hC1⟩ := am_oc_e hC0
  subst e0
  obtain ⟨p, rfl, hC2⟩ := am_n_e hC1
  obtain ⟨k, rfl, hC3⟩ := am_n_e hC2
  refine ⟨Nat.le_of_ble_eq_true rfl, ?_⟩
  exact H p k h K hC3
theorem T107_0 {R : Option am_V → am_H → Prop} {h : am_H} {p : Int} {k : Int} (t : ((¬ (0 ≤ p ∧ p < (h 6 0))) → (R (some (mB (-2))) h)) ∧ ((0 ≤ p ∧ p < (h 6 0)) → ((PI h) ∧ (∀ (h' : am_H), (PQ h h' ∧ h' 0 16 = 1) → (((¬ (0 ≤ k ∧ k < (ncl (ptE (nr h 7 0)) (nl (nr h 7 0))))) → (R (some (mB (-2))) h')) ∧ ((0 ≤ k ∧ k < (ncl (ptE (nr h 7 0)) (nl (nr h 7 0)))) → ((0 ≤ k ∧ k < 4) ∧ (((0 ≤ p ∧ p < 20) ∧ (∀ p, 0 ≤ p → p < 20 → S20 (h' (156 + k) p))) ∧ (R (some (mB (mkb (rc (ad (nr h' (156 + k) 0)) p)))) h'))))))))) : am_AT 8 107 0 [some (mR 1 11 0 0), some (mB p), some (mB k)] h R :=
  am_T (d := 7) (m := 107) (T := tb107) (mL := 3) (rk := 1) (cuts := []) (l := [(156, C156), (159, C159), (178, C178)]) rfl ⟨am_CS_d (by decide) C156_ok, am_CS_d (by decide) C159_ok, am_CS_d (by decide) C178_ok, trivial⟩ 21 (And.intro (rfl) (And.intro (fun c11 => (t).1 c11) (fun c11 => And.intro (rfl) (And.intro ((t).2 c11).1 (fun z5_0 z5_1 => And.intro (fun c12 => ((((t).2 c11).2) z5_0 z5_1).1 c12) (fun c12 => And.intro (((((t).2 c11).2) z5_0 z5_1).2 c12).1 (And.intro ((((((t).2 c11).2) z5_0 z5_1).2 c12).2).1 (((((((t).2 c11).2) z5_0 z5_1).2 c12).2).2))))))))
theorem C107_ok : am_CS 8 107 C107 := W107 (fun p k h K hb => by
  have hN := (SV5_N hb.1.1).1
  have hC := (SV5_N hb.1.1).2
  have hn2 := hN.2.1
  have h4 := np_4 hN hC
  refine T107_0 ⟨fun c1 => ?_, fun c1 => ⟨hb.1, fun h' q2 => ⟨fun c3 => ?_, fun c3 => ⟨by omega, ⟨by
    have e := q2.1.2.2.1
    have w := (PI_p q2.1.1 q2.2).2
    rw [e.1, e.2] at w
    exact ⟨by omega, fun q a b => by rw [(w k c3.1 c3.2).1 q a b]; exact S20_mk _⟩, ?_⟩⟩⟩⟩⟩
  · exact am_rB (hb.2 h (PQ_rf hb.1)) (ifc_f (fun z => c1 z.1))
  · exact am_rB (hb.2 h' q2.1) (ifc_f (fun z => c3 z.2))
  · have e := q2.1.2.2.1
    have w := (PI_p q2.1.1 q2.2).2
    rw [e.1, e.2] at w
    rw [PT_ad hN (w k c3.1 c3.2).1]
    exact am_rB (hb.2 h' q2.1) (ifc_t ⟨c1, c3⟩))
/-! 108 FactorNets.size -/
def C108 : am_K := fun as h K => am_a2 as (fun v0 v1 => am_oc 11 0 v0 (am_n v1 (fun k => (PI h) ∧ (∀ (h' : am_H), PQ h h' → K (some (mB (ifc (0 ≤ k ∧ k < (ncl (ptE (nr h 7 0)) (nl (nr h 7 0)))) (iPop (lay (nr h 7 0) k 0)) (-2)))) (h')))))
theorem W108 {d : Nat} (H : ∀ (k : Int) (h : am_H) (K : Option am_V → am_H → Prop), (PI h) ∧ (∀ (h' : am_H), PQ h h' → K (some (mB (ifc (0 ≤ k ∧ k < (ncl (ptE (nr h 7 0)) (nl (nr h 7 0)))) (iPop (lay (nr h 7 0) k 0)) (-2)))) (h')) → am_AT d 108 0 [some (mR 1 11 0 0), some (mB k)] h K) : am_CS d 108 C108 := by
  refine am_CS_of (T := tb108) (mL := 2) (rk := 1) rfl (fun as h K hC => ?_)
  obtain ⟨v0, v1, rfl, hC0⟩ := am_a2_e hC
  obtain ⟨e0, hC1⟩ := am_oc_e hC0
  subst e0
  obtain ⟨k, rfl, hC2⟩ := am_n_e hC1
  refine ⟨Nat.le_of_ble_eq_true rfl, ?_⟩
  exact H k h K hC2
theorem T108_0 {R : Option am_V → am_H → Prop} {h : am_H} {k : Int} (t : (PI h) ∧ (∀ (h' : am_H), (PQ h h' ∧ h' 0 16 = 1) → (((¬ (0 ≤ k ∧ k < (ncl (ptE (nr h 7 0)) (nl (nr h 7 0))))) → (R (some (mB (-2))) h')) ∧ ((0 ≤ k ∧ k < (ncl (ptE (nr h 7 0)) (nl (nr h 7 0)))) → ((0 ≤ k ∧ k < 4) ∧ (R (some (mB (h' 154 k))) h')))))) : am_AT 8 108 0 [some (mR 1 11 0 0), some (mB k)] h R :=
  am_T (d := 7) (m := 108) (T := tb108) (mL := 2) (rk := 1) (cuts := []) (l := [(159, C159)]) rfl ⟨am_CS_d (by decide) C159_ok, trivial⟩ 15 (And.intro (rfl) (And.intro (t).1 (fun z6_0 z6_1 => And.intro (fun c13 => (((t).2) z6_0 z6_1).1 c13) (fun c13 => And.intro ((((t).2) z6_0 z6_1).2 c13).1 (((((t).2) z6_0 z6_1).2 c13).2)))))
theorem C108_ok : am_CS 8 108 C108 := W108 (fun k h K hb => by
  have h4 := np_4 (SV5_N hb.1.1).1 (SV5_N hb.1.1).2
  refine T108_0 ⟨hb.1, fun h' q1 => ⟨fun c2 => ?_, fun c2 => ⟨by omega, ?_⟩⟩⟩
  · exact am_rB (hb.2 h' q1.1) (ifc_f c2)
  · have e := q1.1.2.2.1
    have w := (PI_p q1.1.1 q1.2).2
    rw [e.1, e.2] at w
    exact am_rB (hb.2 h' q1.1) (by rw [ifc_t c2, (w k c2.1 c2.2).2.1]))
/-! 109 FactorNets.corner -/
def C109 : am_K := fun as h K => am_a3 as (fun v0 v1 v2 => am_oc 11 0 v0 (am_n v1 (fun k => am_n v2 (fun i => (PI h) ∧ (∀ (h' : am_H), PQ h h' → K (some (mB (ifc ((0 ≤ k ∧ k < (ncl (ptE (nr h 7 0)) (nl (nr h 7 0)))) ∧ 0 ≤ i) (nthb (lay (nr h 7 0) k 0) i) (-2)))) (h'))))))
theorem W109 {d : Nat} (H : ∀ (k : Int) (i : Int) (h : am_H) (K : Option am_V → am_H → Prop), (PI h) ∧ (∀ (h' : am_H), PQ h h' → K (some (mB (ifc ((0 ≤ k ∧ k < (ncl (ptE (nr h 7 0)) (nl (nr h 7 0)))) ∧ 0 ≤ i) (nthb (lay (nr h 7 0) k 0) i) (-2)))) (h')) → am_AT d 109 0 [some (mR 1 11 0 0), some (mB k), some (mB i)] h K) : am_CS d 109 C109 := by
  refine am_CS_of (T := tb109) (mL := 3) (rk := 1) rfl (fun as h K hC => ?_)
  obtain ⟨v0, v1, v2, rfl, hC0⟩ := am_a3_e hC
  obtain ⟨e0, hC1⟩ := am_oc_e hC0
  subst e0
  obtain ⟨k, rfl, hC2⟩ := am_n_e hC1
  obtain ⟨i, rfl, hC3⟩ := am_n_e hC2
  refine ⟨Nat.le_of_ble_eq_true rfl, ?_⟩
  exact H k i h K hC3
theorem T109_0 {R : Option am_V → am_H → Prop} {h : am_H} {k : Int} {i : Int} (t : (PI h) ∧ (∀ (h' : am_H), (PQ h h' ∧ h' 0 16 = 1) → (((¬ (0 ≤ k ∧ k < (ncl (ptE (nr h 7 0)) (nl (nr h 7 0))))) → (R (some (mB (-2))) h')) ∧ ((0 ≤ k ∧ k < (ncl (ptE (nr h 7 0)) (nl (nr h 7 0)))) → (((0 ≤ i) → ((0 ≤ k ∧ k < 4) ∧ (((h' 154 k ≤ i) → (R (some (mB (-1))) h')) ∧ ((i < h' 154 k) → ((0 ≤ k ∧ k < 4) ∧ ((0 ≤ i ∧ i < 20) ∧ (R (some (mB (h' (161 + k) i))) h'))))))) ∧ ((i < 0) → (R (some (mB (-2))) h'))))))) : am_AT 8 109 0 [some (mR 1 11 0 0), some (mB k), some (mB i)] h R :=
  am_T (d := 7) (m := 109) (T := tb109) (mL := 3) (rk := 1) (cuts := []) (l := [(159, C159)]) rfl ⟨am_CS_d (by decide) C159_ok, trivial⟩ 26 (And.intro (rfl) (And.intro (t).1 (fun z7_0 z7_1 => And.intro (fun c14 => (((t).2) z7_0 z7_1).1 c14) (fun c14 => And.intro (fun c15 => And.intro (((((t).2) z7_0 z7_1).2 c14).1 c15).1 (And.intro (fun c16 => ((((((t).2) z7_0 z7_1).2 c14).1 c15).2).1 c16) (fun c16 => And.intro (((((((t).2) z7_0 z7_1).2 c14).1 c15).2).2 c16).1 (And.intro ((((((((t).2) z7_0 z7_1).2 c14).1 c15).2).2 c16).2).1 (((((((((t).2) z7_0 z7_1).2 c14).1 c15).2).2 c16).2).2))))) (fun c15 => ((((t).2) z7_0 z7_1).2 c14).2 c15)))))
theorem nthb_no {x i : Int} (hx : S20 x) (h : iPop x ≤ i) : nthb x i = -1 := by
  refine fnd_no 20 (fun p p0 p1 w => ?_)
  have e1 := ct_to (P := bit x) p0
  rw [am_b_t w.1] at e1
  have e2 := ct_mn (bit x) (p + 1).toNat (32 - (p + 1).toNat)
  rw [show (p + 1).toNat + (32 - (p + 1).toNat) = 32 by omega] at e2
  have := w.2
  unfold iPop at h
  omega
theorem C109_ok : am_CS 8 109 C109 := W109 (fun k i h K hb => by
  have h4 := np_4 (SV5_N hb.1.1).1 (SV5_N hb.1.1).2
  have hp20 : iPop (lay (nr h 7 0) k 0) ≤ 20 := by rw [iPop_20 (S20_lay k 0)]; exact (ct_le _ 20).2
  refine T109_0 ⟨hb.1, fun h' q1 => ⟨fun c2 => ?_, fun c2 => ⟨fun c3 => ⟨by omega, ⟨fun c4 => ?_, fun c4 => ⟨by omega, ⟨by
    have e := q1.1.2.2.1
    have w := (PI_p q1.1.1 q1.2).2
    rw [e.1, e.2] at w
    rw [(w k c2.1 c2.2).2.1] at c4
    omega, ?_⟩⟩⟩⟩, fun c3 => ?_⟩⟩⟩
  · exact am_rB (hb.2 h' q1.1) (ifc_f (fun z => c2 z.1))
  · have e := q1.1.2.2.1
    have w := (PI_p q1.1.1 q1.2).2
    rw [e.1, e.2] at w
    rw [(w k c2.1 c2.2).2.1] at c4
    exact am_rB (hb.2 h' q1.1) (by rw [ifc_t ⟨c2, c3⟩, nthb_no (S20_lay k 0) c4])
  · have e := q1.1.2.2.1
    have w := (PI_p q1.1.1 q1.2).2
    rw [e.1, e.2] at w
    rw [(w k c2.1 c2.2).2.1] at c4
    exact am_rB (hb.2 h' q1.1) (by rw [ifc_t ⟨c2, c3⟩, (w k c2.1 c2.2).2.2.1 i c3 c4])
  · exact am_rB (hb.2 h' q1.1) (ifc_f (by omega)))
/-! 110 FactorNets.at -/
def C110 : am_K := fun as h K => am_a3 as (fun v0 v1 v2 => am_oc 11 0 v0 (am_n v1 (fun p => am_n v2 (fun k => (PI h) ∧ (∀ (h' : am_H), PQ h h' → K (some (mB (ifc ((0 ≤ p ∧ p < (h 6 0)) ∧ (0 ≤ k ∧ k < (ncl (ptE (nr h 7 0)) (nl (nr h 7 0))))) (crd (nr h 7 0) k p) (-2)))) (h'))))))
theorem W110 {d : Nat} (H : ∀ (p : Int) (k : Int) (h : am_H) (K : Option am_V → am_H → Prop), (PI h) ∧ (∀ (h' : am_H), PQ h h' → K (some (mB (ifc ((0 ≤ p ∧ p < (h 6 0)) ∧ (0 ≤ k ∧ k < (ncl (ptE (nr h 7 0)) (nl (nr h 7 0))))) (crd (nr h 7 0) k p) (-2)))) (h')) → am_AT d 110 0 [some (mR 1 11 0 0), some (mB p), some (mB k)] h K) : am_CS d 110 C110 := by
  refine am_CS_of (T := tb110) (mL := 3) (rk := 1) rfl (fun as h K hC => ?_)
  obtain ⟨v0, v1, v2, rfl, hC0⟩ := am_a3_e hC
  obtain ⟨e0, hC1⟩ := am_oc_e hC0
  subst e0
  obtain ⟨p, rfl, hC2⟩ := am_n_e hC1
  obtain ⟨k, rfl, hC3⟩ := am_n_e hC2
  refine ⟨Nat.le_of_ble_eq_true rfl, ?_⟩
  exact H p k h K hC3
theorem T110_0 {R : Option am_V → am_H → Prop} {h : am_H} {p : Int} {k : Int} (t : ((¬ (0 ≤ p ∧ p < (h 6 0))) → (R (some (mB (-2))) h)) ∧ ((0 ≤ p ∧ p < (h 6 0)) → ((PI h) ∧ (∀ (h' : am_H), (PQ h h' ∧ h' 0 16 = 1) → (((¬ (0 ≤ k ∧ k < (ncl (ptE (nr h 7 0)) (nl (nr h 7 0))))) → (R (some (mB (-2))) h')) ∧ ((0 ≤ k ∧ k < (ncl (ptE (nr h 7 0)) (nl (nr h 7 0)))) → ((0 ≤ k ∧ k < 4) ∧ ((0 ≤ p ∧ p < 20) ∧ (R (some (mB (h' (166 + k) p))) h'))))))))) : am_AT 8 110 0 [some (mR 1 11 0 0), some (mB p), some (mB k)] h R :=
  am_T (d := 7) (m := 110) (T := tb110) (mL := 3) (rk := 1) (cuts := []) (l := [(156, C156), (159, C159)]) rfl ⟨am_CS_d (by decide) C156_ok, am_CS_d (by decide) C159_ok, trivial⟩ 21 (And.intro (rfl) (And.intro (fun c17 => (t).1 c17) (fun c17 => And.intro (rfl) (And.intro ((t).2 c17).1 (fun z8_0 z8_1 => And.intro (fun c18 => ((((t).2 c17).2) z8_0 z8_1).1 c18) (fun c18 => And.intro (((((t).2 c17).2) z8_0 z8_1).2 c18).1 (And.intro ((((((t).2 c17).2) z8_0 z8_1).2 c18).2).1 (((((((t).2 c17).2) z8_0 z8_1).2 c18).2).2))))))))
theorem C110_ok : am_CS 8 110 C110 := W110 (fun p k h K hb => by
  have hn2 := (SV5_N hb.1.1).1.2.1
  have h4 := np_4 (SV5_N hb.1.1).1 (SV5_N hb.1.1).2
  refine T110_0 ⟨fun c1 => ?_, fun c1 => ⟨hb.1, fun h' q2 => ⟨fun c3 => ?_, fun c3 => ⟨by omega, ⟨by omega, ?_⟩⟩⟩⟩⟩
  · exact am_rB (hb.2 h (PQ_rf hb.1)) (ifc_f (fun z => c1 z.1))
  · exact am_rB (hb.2 h' q2.1) (ifc_f (fun z => c3 z.2))
  · have e := q2.1.2.2.1
    have w := (PI_p q2.1.1 q2.2).2
    rw [e.1, e.2] at w
    exact am_rB (hb.2 h' q2.1) (by rw [ifc_t ⟨c1, c3⟩, (w k c3.1 c3.2).2.2.2 p c1.1 c1.2]))
/-! 111 FactorNets.moved -/
def C111 : am_K := fun as h K => am_a4 as (fun v0 v1 v2 v3 => am_oc 11 0 v0 (am_n v1 (fun p => am_n v2 (fun k => am_n v3 (fun q => (PI h) ∧ (∀ (h' : am_H), PQ h h' → K (some (mB (ifc ((0 ≤ p ∧ p < (h 6 0)) ∧ (0 ≤ q ∧ q < (h 6 0)) ∧ (0 ≤ k ∧ k < (ncl (ptE (nr h 7 0)) (nl (nr h 7 0))))) (mvd (nr h 7 0) k p q) (-2)))) (h')))))))
theorem W111 {d : Nat} (H : ∀ (p : Int) (k : Int) (q : Int) (h : am_H) (K : Option am_V → am_H → Prop), (PI h) ∧ (∀ (h' : am_H), PQ h h' → K (some (mB (ifc ((0 ≤ p ∧ p < (h 6 0)) ∧ (0 ≤ q ∧ q < (h 6 0)) ∧ (0 ≤ k ∧ k < (ncl (ptE (nr h 7 0)) (nl (nr h 7 0))))) (mvd (nr h 7 0) k p q) (-2)))) (h')) → am_AT d 111 0 [some (mR 1 11 0 0), some (mB p), some (mB k), some (mB q), none, none, none] h K) : am_CS d 111 C111 := by
  refine am_CS_of (T := tb111) (mL := 7) (rk := 1) rfl (fun as h K hC => ?_)
  obtain ⟨v0, v1, v2, v3, rfl, hC0⟩ := am_a4_e hC
  obtain ⟨e0, hC1⟩ := am_oc_e hC0
  subst e0
  obtain ⟨p, rfl, hC2⟩ := am_n_e hC1
  obtain ⟨k, rfl, hC3⟩ := am_n_e hC2
  obtain ⟨q, rfl, hC4⟩ := am_n_e hC3
  refine ⟨Nat.le_of_ble_eq_true rfl, ?_⟩
  exact H p k q h K hC4
theorem T111_0 {R : Option am_V → am_H → Prop} {h : am_H} {p : Int} {k : Int} {q : Int} (t : ((¬ (((0 ≤ p ∧ p < (h 6 0)) ∧ (0 ≤ q ∧ q < (h 6 0))))) → (R (some (mB (-2))) h)) ∧ ((((0 ≤ p ∧ p < (h 6 0)) ∧ (0 ≤ q ∧ q < (h 6 0)))) → ((PI h) ∧ (∀ (h' : am_H), (PQ h h' ∧ h' 0 16 = 1) → (((0 ≤ k ∧ k < (ncl (ptE (nr h 7 0)) (nl (nr h 7 0)))) → ((0 ≤ k ∧ k < 4) ∧ (((0 ≤ p ∧ p < 20) ∧ (∀ p, 0 ≤ p → p < 20 → S20 (h' (156 + k) p))) ∧ (am_AT 8 111 38 [some (mR 1 11 0 0), none, some (mB k), some (mB q), some (mI (mkb (rc (ad (nr h' (156 + k) 0)) p))), some (mI 0), none] h' R)))) ∧ ((¬ (0 ≤ k ∧ k < (ncl (ptE (nr h 7 0)) (nl (nr h 7 0))))) → (R (some (mB (-2))) h'))))))) : am_AT 8 111 0 [some (mR 1 11 0 0), some (mB p), some (mB k), some (mB q), none, none, none] h R :=
  am_T (d := 7) (m := 111) (T := tb111) (mL := 7) (rk := 1) (cuts := [(38, [1, 0, 1, 1, 2, 2, 0])]) (l := [(157, C157), (159, C159), (178, C178)]) rfl ⟨am_CS_d (by decide) C157_ok, am_CS_d (by decide) C159_ok, am_CS_d (by decide) C178_ok, trivial⟩ 23 (And.intro (rfl) (And.intro (fun c19 => (t).1 c19) (fun c19 => And.intro (rfl) (And.intro ((t).2 c19).1 (fun z9_0 z9_1 => And.intro (fun c20 => And.intro (((((t).2 c19).2) z9_0 z9_1).1 c20).1 (And.intro ((((((t).2 c19).2) z9_0 z9_1).1 c20).2).1 (((((((t).2 c19).2) z9_0 z9_1).1 c20).2).2))) (fun c20 => ((((t).2 c19).2) z9_0 z9_1).2 c20))))))
theorem T111_38 {R : Option am_V → am_H → Prop} {h : am_H} {k : Int} {q : Int} {x4 : Int} {x5 : Int} (t : (R32 x5) ∧ (((h 6 0 ≤ x5) → (R (some (mB (-2))) h)) ∧ ((x5 < h 6 0) → ((0 ≤ k ∧ k < 4) ∧ ((0 ≤ x5 ∧ x5 < 20) ∧ ((0 ≤ k ∧ k < 4) ∧ ((0 ≤ q ∧ q < 20) ∧ (((¬ h (166 + k) x5 = h (166 + k) q) → (am_AT 8 111 38 [some (mR 1 11 0 0), none, some (mB k), some (mB q), some (mI x4), some (mI (x5 + 1)), none] h R)) ∧ ((h (166 + k) x5 = h (166 + k) q) → (((iAnd (iShr x4 x5) 1 = 0) → (am_AT 8 111 38 [some (mR 1 11 0 0), none, some (mB k), some (mB q), some (mI x4), some (mI (x5 + 1)), none] h R)) ∧ ((¬ iAnd (iShr x4 x5) 1 = 0) → ((R32 x5) ∧ (R (some (mB x5)) h))))))))))))) : am_AT 8 111 38 [some (mR 1 11 0 0), none, some (mB k), some (mB q), some (mI x4), some (mI x5), none] h R :=
  am_T (d := 7) (m := 111) (T := tb111) (mL := 7) (rk := 1) (cuts := [(38, [1, 0, 1, 1, 2, 2, 0])]) (l := [(157, C157), (159, C159), (178, C178)]) rfl ⟨am_CS_d (by decide) C157_ok, am_CS_d (by decide) C159_ok, am_CS_d (by decide) C178_ok, trivial⟩ 38 (And.intro (t).1 (And.intro (fun c21 => ((t).2).1 c21) (fun c21 => And.intro (((t).2).2 c21).1 (And.intro ((((t).2).2 c21).2).1 (And.intro (((((t).2).2 c21).2).2).1 (And.intro ((((((t).2).2 c21).2).2).2).1 (And.intro (fun c22 => And.intro (fun _ => (((((((t).2).2 c21).2).2).2).2).1 c22) (fun c => absurd c (by decide))) (fun c22 => And.intro (fun c => absurd c (by decide)) (fun _ => And.intro (fun c23 => ((((((((t).2).2 c21).2).2).2).2).2 c22).1 c23) (fun c23 => And.intro (((((((((t).2).2 c21).2).2).2).2).2 c22).2 c23).1 ((((((((((t).2).2 c21).2).2).2).2).2 c22).2 c23).2)))))))))))
theorem L111 {K : Option am_V → am_H → Prop} {g : am_H} {n : Int} {r : Int → Int} {p k q : Int} (hn : g 6 0 = n) (hN : NT n r) (hC : CN n r) (hp : 0 ≤ p ∧ p < n) (hq : 0 ≤ q ∧ q < n) (hk : 0 ≤ k ∧ k < 4) (hw : ∀ p, 0 ≤ p → p < n → g (166 + k) p = crd r k p) (hK : K (some (mB (mvd r k p q))) g) : ∀ i, 0 ≤ i → i ≤ n → i ≤ mvd r k p q → am_AT 8 111 38 [some (mR 1 11 0 0), none, some (mB k), some (mB q), some (mI (lay r k p)), some (mI i), none] g K := by
  have hn2 := hN.2.1
  obtain ⟨m1, m2, m3, m4⟩ := mvd_ok (k := k) hN hC hp hq
  refine lp n (fun i ih i0 i1 him => ?_)
  have eq := hw q hq.1 hq.2
  have nx : i < n → ¬ (crd r k i = crd r k q ∧ bit (lay r k p) i) → am_AT 8 111 38 [some (mR 1 11 0 0), none, some (mB k), some (mB q), some (mI (lay r k p)), some (mI (i + 1)), none] g K := fun hi hno => by
    refine ih hi (by omega) (by omega) ?_
    have : i ≠ mvd r k p q := fun e => hno ⟨?_, ?_⟩
    · omega
    · rw [e, crd_eq hN hC m1 hq]; exact rc_sym (RA_sym hN) m3
    · rw [e]; exact (bt_lay hN hp).mpr m2
  refine T111_38 ⟨by omega, ⟨fun c1 => ?_, fun c1 => ⟨by omega, ⟨by omega, ⟨by omega, ⟨by omega, ⟨fun c2 => ?_, fun c2 => ⟨fun c3 => ?_, fun c3 => ⟨by omega, ?_⟩⟩⟩⟩⟩⟩⟩⟩⟩
  · exfalso; omega
  · rw [hw i i0 (by omega), eq] at c2
    exact nx (by omega) (fun z => c2 z.1)
  · exact nx (by omega) (fun z => (bt_has0 i0 (by omega)).mp c3 z.2)
  · rw [hw i i0 (by omega), eq] at c2
    have hb : bit (lay r k p) i := Classical.byContradiction fun w => c3 ((bt_has0 i0 (by omega)).mpr w)
    refine am_rB hK (m4 i ((bt_lay hN hp).mp hb) ?_).symm
    exact rc_sym (RA_sym hN) ((crd_eq hN hC ⟨i0, by omega⟩ hq).mp c2)
theorem C111_ok : am_CS 8 111 C111 := W111 (fun p k q h K hb => by
  have hN := (SV5_N hb.1.1).1
  have hC := (SV5_N hb.1.1).2
  have hn2 := hN.2.1
  have h4 := np_4 hN hC
  refine T111_0 ⟨fun c1 => ?_, fun c1 => ⟨hb.1, fun h' q2 => ⟨fun c3 => ⟨by omega, ⟨by
    have e := q2.1.2.2.1
    have w := (PI_p q2.1.1 q2.2).2
    rw [e.1, e.2] at w
    exact ⟨by omega, fun q a b => by rw [(w k c3.1 c3.2).1 q a b]; exact S20_mk _⟩, ?_⟩⟩, fun c3 => ?_⟩⟩⟩
  · exact am_rB (hb.2 h (PQ_rf hb.1)) (ifc_f (fun z => c1 ⟨z.1, z.2.1⟩))
  · have e := q2.1.2.2.1
    have w := (PI_p q2.1.1 q2.2).2
    rw [e.1, e.2] at w
    rw [PT_ad hN (w k c3.1 c3.2).1]
    refine L111 e.2 hN hC c1.1 c1.2 (by omega) (w k c3.1 c3.2).2.2.2 (am_rB (hb.2 h' q2.1) (ifc_t ⟨c1.1, c1.2, c3⟩)) 0 (by omega) (by omega) ?_
    exact (mvd_ok hN hC c1.1 c1.2).1.1
  · exact am_rB (hb.2 h' q2.1) (ifc_f (fun z => c3 z.2.2)))
/-! 164 FactorNets.stepsInPart -/
def C164 : am_K := fun as h K => am_a4 as (fun v0 v1 v2 v3 => am_oc 11 0 v0 (am_n v1 (fun k => am_n v2 (fun p => am_n v3 (fun q => (PI h ∧ h 0 16 = 1 ∧ (0 ≤ k ∧ k < (ncl (ptE (nr h 7 0)) (nl (nr h 7 0)))) ∧ (0 ≤ p ∧ p < (h 6 0)) ∧ (0 ≤ q ∧ q < (h 6 0))) ∧ (∀ (h' : am_H), PQ h h' → K (some (mB (ds (ad (nr h 7 0)) (cof (nr h 7 0) k p) (cof (nr h 7 0) k q)))) (h')))))))
theorem W164 {d : Nat} (H : ∀ (k : Int) (p : Int) (q : Int) (h : am_H) (K : Option am_V → am_H → Prop), (PI h ∧ h 0 16 = 1 ∧ (0 ≤ k ∧ k < (ncl (ptE (nr h 7 0)) (nl (nr h 7 0)))) ∧ (0 ≤ p ∧ p < (h 6 0)) ∧ (0 ≤ q ∧ q < (h 6 0))) ∧ (∀ (h' : am_H), PQ h h' → K (some (mB (ds (ad (nr h 7 0)) (cof (nr h 7 0) k p) (cof (nr h 7 0) k q)))) (h')) → am_AT d 164 0 [some (mR 1 11 0 0), some (mB k), some (mB p), some (mB q), none, none] h K) : am_CS d 164 C164 := by
  refine am_CS_of (T := tb164) (mL := 6) (rk := 1) rfl (fun as h K hC => ?_)
  obtain ⟨v0, v1, v2, v3, rfl, hC0⟩ := am_a4_e hC
  obtain ⟨e0, hC1⟩ := am_oc_e hC0
  subst e0
  obtain ⟨k, rfl, hC2⟩ := am_n_e hC1
  obtain ⟨p, rfl, hC3⟩ := am_n_e hC2
  obtain ⟨q, rfl, hC4⟩ := am_n_e hC3
  refine ⟨Nat.le_of_ble_eq_true rfl, ?_⟩
  exact H k p q h K hC4
theorem T164_0 {R : Option am_V → am_H → Prop} {h : am_H} {k : Int} {p : Int} {q : Int} (t : (0 ≤ k ∧ k < 4) ∧ ((0 ≤ k ∧ k < 4) ∧ ((0 ≤ p ∧ p < 20) ∧ ((0 ≤ h (166 + k) p ∧ h (166 + k) p < 20) ∧ ((0 ≤ k ∧ k < 4) ∧ ((0 ≤ k ∧ k < 4) ∧ ((0 ≤ q ∧ q < 20) ∧ ((0 ≤ h (166 + k) q ∧ h (166 + k) q < 20) ∧ ((SV h (5 : Int)) ∧ (∀ (h' : am_H), (SQ h h' (5 : Int) ∧ h' (5 : Int) 4 = 1) → ((0 ≤ h (161 + k) (h (166 + k) p) ∧ h (161 + k) (h (166 + k) p) < 20) ∧ ((0 ≤ h (161 + k) (h (166 + k) q) ∧ h (161 + k) (h (166 + k) q) < 20) ∧ (R (some (mB (h' (10 + (h (161 + k) (h (166 + k) p))) (h (161 + k) (h (166 + k) q))))) h'))))))))))))) : am_AT 5 164 0 [some (mR 1 11 0 0), some (mB k), some (mB p), some (mB q), none, none] h R :=
  am_T (d := 4) (m := 164) (T := tb164) (mL := 6) (rk := 1) (cuts := []) (l := [(88, C88b)]) rfl ⟨am_CS_d (by decide) C88b_ok, trivial⟩ 41 (And.intro (t).1 (And.intro ((t).2).1 (And.intro (((t).2).2).1 (And.intro ((((t).2).2).2).1 (And.intro (((((t).2).2).2).2).1 (And.intro ((((((t).2).2).2).2).2).1 (And.intro (((((((t).2).2).2).2).2).2).1 (And.intro ((((((((t).2).2).2).2).2).2).2).1 (And.intro (((((((((t).2).2).2).2).2).2).2).2).1 (fun z10_0 z10_1 => And.intro (((((((((((t).2).2).2).2).2).2).2).2).2) z10_0 z10_1).1 (And.intro ((((((((((((t).2).2).2).2).2).2).2).2).2) z10_0 z10_1).2).1 (((((((((((((t).2).2).2).2).2).2).2).2).2) z10_0 z10_1).2).2))))))))))))
theorem st_c {h : am_H} (H : PI h) (z : h 0 16 = 1) {k p : Int} (hk : 0 ≤ k ∧ k < ncl (ptE (nr h 7 0)) (nl (nr h 7 0))) (hp : 0 ≤ p ∧ p < h 6 0) : (0 ≤ h (166 + k) p ∧ h (166 + k) p < 20) ∧ h (161 + k) (h (166 + k) p) = cof (nr h 7 0) k p ∧ (0 ≤ cof (nr h 7 0) k p ∧ cof (nr h 7 0) k p < h 6 0) := by
  have hN := (SV5_N H.1).1
  have hC := (SV5_N H.1).2
  have w := (PI_p H z).2 k hk.1 hk.2
  have c := crd_ok (k := k) hN hC hp
  have hp20 : iPop (lay (nr h 7 0) k 0) ≤ 20 := by rw [iPop_20 (S20_lay k 0)]; exact (ct_le _ 20).2
  rw [w.2.2.2 p hp.1 hp.2, w.2.2.1 _ c.1.1 c.1.2, c.2]
  exact ⟨by omega, rfl, (cof_ok hN hC hp).1⟩
theorem C164_ok : am_CS 5 164 C164 := W164 (fun k p q h K hb => by
  obtain ⟨⟨H, z, hk, hp, hq⟩, hK⟩ := hb
  have hN := (SV5_N H.1).1
  have hn2 := hN.2.1
  have h4 := np_4 hN (SV5_N H.1).2
  have a := st_c H z hk hp
  have b := st_c H z hk hq
  refine T164_0 ⟨by omega, ⟨by omega, ⟨by omega, ⟨by omega, ⟨by omega, ⟨by omega, ⟨by omega, ⟨by omega, ⟨H.1, fun h' q1 => ⟨by omega, ⟨by omega, ?_⟩⟩⟩⟩⟩⟩⟩⟩⟩⟩⟩
  · have e := SQ5_n q1.1
    rw [a.2.1, b.2.1]
    have w := SV5_d q1.1.1 q1.2 (a := cof (nr h 7 0) k p) (p := cof (nr h 7 0) k q) (by omega) (by omega)
    rw [e.1] at w
    exact am_rB (hK h' (PI_sq H q1.1)) w.symm)
/-! 112 FactorNets.partFar -/
def C112 : am_K := fun as h K => am_a4 as (fun v0 v1 v2 v3 => am_oc 11 0 v0 (am_n v1 (fun k => am_n v2 (fun p => am_n v3 (fun q => (PI h) ∧ (∀ (h' : am_H), PQ h h' → K (some (mB (ifc ((0 ≤ k ∧ k < (ncl (ptE (nr h 7 0)) (nl (nr h 7 0)))) ∧ (0 ≤ p ∧ p < (h 6 0)) ∧ (0 ≤ q ∧ q < (h 6 0))) (ds (ad (nr h 7 0)) (cof (nr h 7 0) k p) (cof (nr h 7 0) k q)) (-2)))) (h')))))))
theorem W112 {d : Nat} (H : ∀ (k : Int) (p : Int) (q : Int) (h : am_H) (K : Option am_V → am_H → Prop), (PI h) ∧ (∀ (h' : am_H), PQ h h' → K (some (mB (ifc ((0 ≤ k ∧ k < (ncl (ptE (nr h 7 0)) (nl (nr h 7 0)))) ∧ (0 ≤ p ∧ p < (h 6 0)) ∧ (0 ≤ q ∧ q < (h 6 0))) (ds (ad (nr h 7 0)) (cof (nr h 7 0) k p) (cof (nr h 7 0) k q)) (-2)))) (h')) → am_AT d 112 0 [some (mR 1 11 0 0), some (mB k), some (mB p), some (mB q)] h K) : am_CS d 112 C112 := by
  refine am_CS_of (T := tb112) (mL := 4) (rk := 1) rfl (fun as h K hC => ?_)
  obtain ⟨v0, v1, v2, v3, rfl, hC0⟩ := am_a4_e hC
  obtain ⟨e0, hC1⟩ := am_oc_e hC0
  subst e0
  obtain ⟨k, rfl, hC2⟩ := am_n_e hC1
  obtain ⟨p, rfl, hC3⟩ := am_n_e hC2
  obtain ⟨q, rfl, hC4⟩ := am_n_e hC3
  refine ⟨Nat.le_of_ble_eq_true rfl, ?_⟩
  exact H k p q h K hC4
theorem T112_0 {R : Option am_V → am_H → Prop} {h : am_H} {k : Int} {p : Int} {q : Int} (t : (PI h) ∧ (∀ (h' : am_H), (PQ h h' ∧ h' 0 16 = 1) → (((¬ (0 ≤ k ∧ k < (ncl (ptE (nr h 7 0)) (nl (nr h 7 0))))) → (R (some (mB (-2))) h')) ∧ ((0 ≤ k ∧ k < (ncl (ptE (nr h 7 0)) (nl (nr h 7 0)))) → (((¬ (((0 ≤ p ∧ p < (h' 6 0)) ∧ (0 ≤ q ∧ q < (h' 6 0))))) → (R (some (mB (-2))) h')) ∧ ((((0 ≤ p ∧ p < (h' 6 0)) ∧ (0 ≤ q ∧ q < (h' 6 0)))) → ((PI h' ∧ h' 0 16 = 1 ∧ (0 ≤ k ∧ k < (ncl (ptE (nr h' 7 0)) (nl (nr h' 7 0)))) ∧ (0 ≤ p ∧ p < (h' 6 0)) ∧ (0 ≤ q ∧ q < (h' 6 0))) ∧ (∀ (h'_1 : am_H), (PQ h' h'_1) → (R (some (mB (ds (ad (nr h' 7 0)) (cof (nr h' 7 0) k p) (cof (nr h' 7 0) k q)))) h'_1))))))))) : am_AT 8 112 0 [some (mR 1 11 0 0), some (mB k), some (mB p), some (mB q)] h R :=
  am_T (d := 7) (m := 112) (T := tb112) (mL := 4) (rk := 1) (cuts := []) (l := [(157, C157), (159, C159), (164, C164)]) rfl ⟨am_CS_d (by decide) C157_ok, am_CS_d (by decide) C159_ok, am_CS_d (by decide) C164_ok, trivial⟩ 20 (And.intro (rfl) (And.intro (t).1 (fun z11_0 z11_1 => And.intro (fun c24 => (((t).2) z11_0 z11_1).1 c24) (fun c24 => And.intro (rfl) (And.intro (fun c25 => ((((t).2) z11_0 z11_1).2 c24).1 c25) (fun c25 => And.intro (rfl) (And.intro (((((t).2) z11_0 z11_1).2 c24).2 c25).1 (fun z12_0 z12_1 => ((((((t).2) z11_0 z11_1).2 c24).2 c25).2) z12_0 z12_1))))))))
theorem C112_ok : am_CS 8 112 C112 := W112 (fun k p q h K hb => by
  refine T112_0 ⟨hb.1, fun h' q1 => ⟨fun c2 => ?_, fun c2 => ⟨fun c3 => ?_, fun c3 => ⟨⟨q1.1.1, q1.2, by rw [q1.1.2.2.1.1]; exact c2, c3.1, c3.2⟩, fun h'_1 q4 => ?_⟩⟩⟩⟩
  · exact am_rB (hb.2 h' q1.1) (ifc_f (fun z => c2 z.1))
  · have e := q1.1.2.2.1
    exact am_rB (hb.2 h' q1.1) (ifc_f (fun z => c3 (by omega)))
  · have e := q1.1.2.2.1
    rw [e.1]
    exact am_rB (hb.2 h'_1 (PQ_tr q1.1 q4)) (ifc_t ⟨c2, by omega, by omega⟩))
