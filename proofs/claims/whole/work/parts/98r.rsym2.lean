/-! ===== the reference's questions about symmetries ===== -/
def RFr (h g : am_H) : Prop := ∀ x i, ¬ (588 ≤ x ∧ x ≤ 596) → ¬ (x = 571 ∧ i = 30) → g x i = h x i
theorem RFr_q {h h' g : am_H} (q : LD h h') (F : RFr h' g) : RQ h g := LD_fr q (fun x i a => F x i (by unfold PR at a; omega) (by unfold PR at a; omega))
theorem RFr_l {h g : am_H} (H : NT (h 572 0) (nr h 572 2) ∧ CN (h 572 0) (nr h 572 2) ∧ RLd h (h 572 0) (nr h 572 2)) (F : RFr h g) : (NT (g 572 0) (nr g 572 2) ∧ CN (g 572 0) (nr g 572 2) ∧ RLd g (g 572 0) (nr g 572 2)) ∧ g 572 0 = h 572 0 ∧ nr g 572 2 = nr h 572 2 := Lda_f2 H (fun x i a => F x i (by omega) (by omega))
theorem lay_not (r : Int → Int) (k : Int) : mkb (rc (RA r (fun x => ¬ (x = k ↔ ((0 : Int) = 1)))) 0) = lay r k 0 := by
  have e : (fun x => ¬ (x = k ↔ ((0 : Int) = 1))) = (fun x => x = k) := by
    funext x
    exact propext ⟨fun w => Classical.byContradiction fun z => w ⟨fun a => absurd a z, fun a => by omega⟩, fun a w => by have := w.mp a; omega⟩
  unfold lay
  rw [e]
theorem TK_r {h g : am_H} {a b e f : Int} (R : RLS h g) (W : ∀ i, 0 ≤ i → i < 20 → g 590 i = -1) (hn : h 572 0 ≤ 20) (ha : 0 ≤ a ∧ a < h 572 0) (hb : 0 ≤ b) (he : 0 ≤ e ∧ e < h 572 0) (hf : 0 ≤ f) (hc : a = e → b = f) : KLD (am_up (am_up g 590 a b) 590 e f) ∧ (isW (am_up (am_up g 590 a b) 590 e f) ↔ tkA (h 572 0) (ds (ad (nr h 572 2))) a b e f) := by
  have kf := KLD_fr R.2.1 (g := am_up (am_up g 590 a b) 590 e f) (fun x i u _ _ => by rw [am_up_ne u, am_up_ne u])
  have wa : am_up (am_up g 590 a b) 590 e f 590 a = b := by
    by_cases z : a = e
    · rw [z, am_up_eq, hc z]
    · rw [am_up_ne2 z, am_up_eq]
  refine ⟨kf.1, ?_⟩
  rw [isW_sm kf.1.2, kf.2.1, kf.2.2, R.2.2.1]
  constructor
  · rintro ⟨x, F, w⟩
    have w1 := w a ha.1 ha.2
    have w2 := w e he.1 he.2
    rw [wa] at w1
    rw [am_up_eq] at w2
    exact ⟨x, AU_dc R.2.2.2 F, (w1.resolve_left (by omega)).symm, (w2.resolve_left (by omega)).symm⟩
  · rintro ⟨x, F, w1, w2⟩
    refine ⟨x, AU_dc (fun p q u v => (R.2.2.2 p q u v).symm) F, fun i u v => ?_⟩
    by_cases z : i = a
    · right; rw [z, wa, w1]
    · by_cases y : i = e
      · right; rw [y, am_up_eq, w2]
      · left; rw [am_up_ne2 y, am_up_ne2 z]; exact W i u (by omega)
def MVI (h g : am_H) (k i : Int) : Prop := RLS h g ∧ (∃ f, AU (h 572 0) (ds (ad (nr h 572 2))) f ∧ ∀ j, 0 ≤ j → j < i → f j = mvf (h 572 0) (ds (ad (nr h 572 2))) k j) ∧ ∀ j, 0 ≤ j → j < i → g 596 j = mvf (h 572 0) (ds (ad (nr h 572 2))) k j
theorem RLS_f2 {h g g' : am_H} (R : RLS h g) (e : ∀ x i, x ≠ 590 → x ≠ 595 → x ≠ 596 → g' x i = g x i) : RLS h g' := by
  have k := KLD_fr R.2.1 e
  exact ⟨fun x i a b => (e x i (by omega) (by omega) (by omega)).trans (R.1 x i a b), k.1, k.2.1.trans R.2.2.1, by rw [k.2.2]; exact R.2.2.2⟩
theorem MVI_fr {h g g' : am_H} {k i : Int} (H : MVI h g k i) (e : ∀ x j, x ≠ 590 → x ≠ 595 → g' x j = g x j) : MVI h g' k i := ⟨RLS_f2 H.1 (fun x j a b _ => e x j a b), H.2.1, fun j a b => by rw [e _ _ (by omega) (by omega)]; exact H.2.2 j a b⟩
theorem MVI_p {h g : am_H} {k i : Int} (H : MVI h g k i) (t : Int) : PFX (g 571 30) (fD g 588) (g 596) i t ↔ PFX (h 572 0) (ds (ad (nr h 572 2))) (mvf (h 572 0) (ds (ad (nr h 572 2))) k) i t := by
  rw [H.1.2.2.1, PFX_cg H.2.2]
  exact ⟨fun ⟨f, F, a⟩ => ⟨f, AU_dc H.1.2.2.2 F, a⟩, fun ⟨f, F, a⟩ => ⟨f, AU_dc (fun p q u v => (H.1.2.2.2 p q u v).symm) F, a⟩⟩
theorem MVI_m {h g : am_H} {k i : Int} (H : MVI h g k i) (hi : i ≤ h 572 0) : ∀ j, 0 ≤ j → j < i → g 596 j ≠ -1 := fun j a b => by
  obtain ⟨f, F, w⟩ := H.2.1
  rw [H.2.2 j a b, ← w j a b]
  have := F.1 j a (by omega)
  omega
theorem LSa_n {s : Int} {D : Int → Int → Int} (M : DM s D) {p : Int} (hp : 0 ≤ p ∧ p < s) : nthb (mkb (orbA s D p)) 0 = p ↔ LSa s D p := by
  have hs := M.1
  have bp : bit (mkb (orbA s D p)) p := bt_mk.mpr ⟨by omega, orbA_rf p⟩
  have l := ct_lt_20 (S20_mk _) bp
  constructor
  · intro e
    have a := nthb_at (S20_mk (orbA s D p)) (i := 0) (by omega) (by omega)
    rw [e] at a
    refine ⟨hp.2, fun y y0 y1 o => ?_⟩
    have := ct_pos (P := bit (mkb (orbA s D p))) (n := p.toNat) y0 (by omega) (bt_mk.mpr ⟨by omega, orbA_sym M ⟨y0, by omega⟩ o⟩)
    omega
  · intro w
    have a := nthb_ct (x := mkb (orbA s D p)) (by omega) bp
    rw [ct_none p.toNat (fun j hj b => w.2 j (by omega) (by omega) (orbA_sym M hp (bt_mk.mp b).2))] at a
    exact a
/-! 270 FactorNetsModel.allSymmetries -/
def C270 : am_K := fun as h K => am_a1 as (fun v0 => am_oc 12 571 v0 ((RIv h) ∧ (∀ (h' : am_H), RQ h h' → K (some (mK (ifc (0 < (h 572 0)) (lvr (h 572 0) (ds (ad (nr h 572 2))) (h 572 0).toNat) (-2)))) (h'))))
theorem W270 {d : Nat} (H : ∀  (h : am_H) (K : Option am_V → am_H → Prop), (RIv h) ∧ (∀ (h' : am_H), RQ h h' → K (some (mK (ifc (0 < (h 572 0)) (lvr (h 572 0) (ds (ad (nr h 572 2))) (h 572 0).toNat) (-2)))) (h')) → am_AT d 270 0 [some (mR 1 12 0 571)] h K) : am_CS d 270 C270 := by
  refine am_CS_of (T := tb270) (mL := 1) (rk := 2) rfl (fun as h K hC => ?_)
  obtain ⟨v0, rfl, hC0⟩ := am_a1_e hC
  obtain ⟨e0, hC1⟩ := am_oc_e hC0
  subst e0
  refine ⟨Nat.le_of_ble_eq_true rfl, ?_⟩
  exact H  h K hC1
theorem T270_0 {R : Option am_V → am_H → Prop} {h : am_H} (t : ((0 < h 572 0) → ((RIv h) ∧ (∀ (h' : am_H), (LD h h') → (((NT (h' 572 0) (nr h' 572 2) ∧ CN (h' 572 0) (nr h' 572 2) ∧ RLd h' (h' 572 0) (nr h' 572 2))) ∧ (∀ (h'_1 : am_H), (RLS h' h'_1) → (R (some (mK (lvr (h' 572 0) (ds (ad (nr h' 572 2))) (h' 572 0).toNat))) h'_1)))))) ∧ ((¬ (0 < h 572 0)) → (R (some (mK (-2))) h))) : am_AT 28 270 0 [some (mR 1 12 0 571)] h R :=
  am_T (d := 27) (m := 270) (T := tb270) (mL := 1) (rk := 2) (cuts := []) (l := [(209, C209), (220, C220), (269, C269)]) rfl ⟨am_CS_d (by decide) C209_ok, am_CS_d (by decide) C220_ok, am_CS_d (by decide) C269_ok, trivial⟩ 12 (And.intro (rfl) (And.intro (fun c1 => And.intro (rfl) (And.intro ((t).1 c1).1 (fun z1_0 z1_1 => And.intro (rfl) (And.intro ((((t).1 c1).2) z1_0 z1_1).1 (fun z2_0 z2_1 => (((((t).1 c1).2) z1_0 z1_1).2) z2_0 z2_1))))) (fun c1 => (t).2 c1)))
theorem C270_ok : am_CS 28 270 C270 := W270 (fun h K hb => by
  refine T270_0 ⟨fun c1 => ⟨hb.1, fun h' q2 => ⟨⟨q2.2.2.2.2.1.1, q2.2.2.2.2.1.2.1, q2.2.2.2.2.2⟩, fun h'_1 q3 => ?_⟩⟩, fun c1 => ?_⟩
  · refine am_rK (hb.2 h'_1 (RFr_q q2 q3.1)) ?_
    rw [ifc_t c1, q2.2.1, q2.2.2.1]
  · exact am_rK (hb.2 h (RQ_rf hb.1)) (ifc_f c1))
/-! 272 FactorNetsModel.orbit -/
def C272 : am_K := fun as h K => am_a2 as (fun v0 v1 => am_oc 12 571 v0 (am_n v1 (fun p => (RIv h) ∧ (∀ (h' : am_H), RQ h h' → K (some (mB (ifc (0 ≤ p ∧ p < (h 572 0)) (mkb (orbA (h 572 0) (ds (ad (nr h 572 2))) p)) (-2)))) (h')))))
theorem W272 {d : Nat} (H : ∀ (p : Int) (h : am_H) (K : Option am_V → am_H → Prop), (RIv h) ∧ (∀ (h' : am_H), RQ h h' → K (some (mB (ifc (0 ≤ p ∧ p < (h 572 0)) (mkb (orbA (h 572 0) (ds (ad (nr h 572 2))) p)) (-2)))) (h')) → am_AT d 272 0 [some (mR 1 12 0 571), some (mB p)] h K) : am_CS d 272 C272 := by
  refine am_CS_of (T := tb272) (mL := 2) (rk := 1) rfl (fun as h K hC => ?_)
  obtain ⟨v0, v1, rfl, hC0⟩ := am_a2_e hC
  obtain ⟨e0, hC1⟩ := am_oc_e hC0
  subst e0
  obtain ⟨p, rfl, hC2⟩ := am_n_e hC1
  refine ⟨Nat.le_of_ble_eq_true rfl, ?_⟩
  exact H p h K hC2
theorem T272_0 {R : Option am_V → am_H → Prop} {h : am_H} {p : Int} (t : (RIv h) ∧ (∀ (h' : am_H), (LD h h') → ((h' 572 0 ≤ 20 ∧ 0 ≤ h' 572 0) ∧ (((¬ (0 ≤ p ∧ p < h' 572 0)) → (R (some (mB (-2))) h')) ∧ ((0 ≤ p ∧ p < h' 572 0) → (((NT (h' 572 0) (nr h' 572 2) ∧ CN (h' 572 0) (nr h' 572 2) ∧ RLd h' (h' 572 0) (nr h' 572 2)) ∧ (0 ≤ p ∧ p < (h' 572 0))) ∧ (∀ (h'_1 : am_H), (RLS h' h'_1) → (R (some (mB (mkb (orbA (h' 572 0) (ds (ad (nr h' 572 2))) p)))) h'_1)))))))) : am_AT 27 272 0 [some (mR 1 12 0 571), some (mB p)] h R :=
  am_T (d := 26) (m := 272) (T := tb272) (mL := 2) (rk := 1) (cuts := []) (l := [(210, C210), (220, C220), (271, C271)]) rfl ⟨am_CS_d (by decide) C210_ok, am_CS_d (by decide) C220_ok, am_CS_d (by decide) C271_ok, trivial⟩ 15 (And.intro (rfl) (And.intro (t).1 (fun z3_0 z3_1 => And.intro (rfl) (And.intro (((t).2) z3_0 z3_1).1 (And.intro (fun c2 => ((((t).2) z3_0 z3_1).2).1 c2) (fun c2 => And.intro (rfl) (And.intro (((((t).2) z3_0 z3_1).2).2 c2).1 (fun z4_0 z4_1 => ((((((t).2) z3_0 z3_1).2).2 c2).2) z4_0 z4_1))))))))
theorem C272_ok : am_CS 27 272 C272 := W272 (fun p h K hb => by
  refine T272_0 ⟨hb.1, fun h' q1 => ⟨⟨q1.2.2.2.2.1.1.2.1, q1.2.2.2.2.1.1.1⟩, ⟨fun c2 => ?_, fun c2 => ⟨⟨⟨q1.2.2.2.2.1.1, q1.2.2.2.2.1.2.1, q1.2.2.2.2.2⟩, c2⟩, fun h'_1 q3 => ?_⟩⟩⟩⟩
  · rw [q1.2.2.1] at c2
    exact am_rB (hb.2 h' (LD_q q1)) (ifc_f c2)
  · refine am_rB (hb.2 h'_1 (RFr_q q1 q3.1)) ?_
    rw [q1.2.2.1] at c2
    rw [ifc_t c2, q1.2.1, q1.2.2.1])
/-! 268 FactorNetsModel.symmetries -/
def C268 : am_K := fun as h K => am_a2 as (fun v0 v1 => am_oc 12 571 v0 (am_n v1 (fun k => (RIv h) ∧ (∀ (h' : am_H), RQ h h' → K (some (mK (ifc (0 ≤ k ∧ k < ncl (ptE (nr h 572 2)) (nl (nr h 572 2))) (lvr (iPop (lay (nr h 572 2) k 0)) (lyD (nr h 572 2) k) (iPop (lay (nr h 572 2) k 0)).toNat) (-2)))) (h')))))
theorem W268 {d : Nat} (H : ∀ (k : Int) (h : am_H) (K : Option am_V → am_H → Prop), (RIv h) ∧ (∀ (h' : am_H), RQ h h' → K (some (mK (ifc (0 ≤ k ∧ k < ncl (ptE (nr h 572 2)) (nl (nr h 572 2))) (lvr (iPop (lay (nr h 572 2) k 0)) (lyD (nr h 572 2) k) (iPop (lay (nr h 572 2) k 0)).toNat) (-2)))) (h')) → am_AT d 268 0 [some (mR 1 12 0 571), some (mB k)] h K) : am_CS d 268 C268 := by
  refine am_CS_of (T := tb268) (mL := 2) (rk := 2) rfl (fun as h K hC => ?_)
  obtain ⟨v0, v1, rfl, hC0⟩ := am_a2_e hC
  obtain ⟨e0, hC1⟩ := am_oc_e hC0
  subst e0
  obtain ⟨k, rfl, hC2⟩ := am_n_e hC1
  refine ⟨Nat.le_of_ble_eq_true rfl, ?_⟩
  exact H k h K hC2
theorem T268_0 {R : Option am_V → am_H → Prop} {h : am_H} {k : Int} (t : (RIv h) ∧ (∀ (h' : am_H), (LD h h') → (((0 ≤ k ∧ k < ncl (ptE (nr h 572 2)) (nl (nr h 572 2))) → (((NT (h' 572 0) (nr h' 572 2) ∧ CN (h' 572 0) (nr h' 572 2) ∧ RLd h' (h' 572 0) (nr h' 572 2)) ∧ (0 ≤ (0 : Int) ∧ (0 : Int) < (h' 572 0))) ∧ (((NT (h' 572 0) (nr h' 572 2) ∧ CN (h' 572 0) (nr h' 572 2) ∧ RLd h' (h' 572 0) (nr h' 572 2)) ∧ S20 (mkb (rc (RA (nr h' 572 2) (fun x => ¬ (x = k ↔ ((0 : Int) = 1)))) (0 : Int))) ∧ (∀ y9, bit (mkb (rc (RA (nr h' 572 2) (fun x => ¬ (x = k ↔ ((0 : Int) = 1)))) (0 : Int))) y9 → y9 < (h' 572 0))) ∧ (∀ (h'_1 : am_H), (LSM h' h'_1 (mkb (rc (RA (nr h' 572 2) (fun x => ¬ (x = k ↔ ((0 : Int) = 1)))) (0 : Int)))) → ((KLD h'_1 ∧ (-1 ≤ (-1 : Int) ∧ (-1 : Int) < (h'_1 571 30))) ∧ (∀ (h'_2 : am_H), ((∀ x9 i9, x9 ≠ 590 → x9 ≠ 595 → h'_2 x9 i9 = h'_1 x9 i9)) → (R (some (mK (lvr (h'_1 571 30) (fD h'_1 588) ((h'_1 571 30) - 1 - (-1 : Int)).toNat))) h'_2))))))) ∧ ((¬ (0 ≤ k ∧ k < ncl (ptE (nr h 572 2)) (nl (nr h 572 2)))) → (R (some (mK (-2))) h'))))) : am_AT 27 268 0 [some (mR 1 12 0 571), some (mB k)] h R :=
  am_T (d := 26) (m := 268) (T := tb268) (mL := 2) (rk := 2) (cuts := []) (l := [(222, C222), (237, C237), (264, C264), (265, C265)]) rfl ⟨am_CS_d (by decide) C222_ok, am_CS_d (by decide) C237_ok, am_CS_d (by decide) C264_ok, am_CS_d (by decide) C265_ok, trivial⟩ 19 (And.intro (rfl) (And.intro (t).1 (fun z5_0 z5_1 => And.intro (fun c3 => And.intro (rfl) (And.intro (Or.inl rfl) (And.intro ((((t).2) z5_0 z5_1).1 c3).1 (And.intro (rfl) (And.intro (((((t).2) z5_0 z5_1).1 c3).2).1 (fun z6_0 z6_1 => And.intro (rfl) (And.intro (((((((t).2) z5_0 z5_1).1 c3).2).2) z6_0 z6_1).1 (fun z7_0 z7_1 => ((((((((t).2) z5_0 z5_1).1 c3).2).2) z6_0 z6_1).2) z7_0 z7_1)))))))) (fun c3 => (((t).2) z5_0 z5_1).2 c3))))
theorem C268_ok : am_CS 27 268 C268 := W268 (fun k h K hb => by
  refine T268_0 ⟨hb.1, fun h' q1 => ⟨fun c2 => ⟨by
    have hN := q1.2.2.2.2.1.1
    have hp := np_0 (n := h' 572 0) (r := nr h' 572 2) hN (k := k) c2.1 (by rw [q1.2.1]; exact c2.2)
    exact ⟨⟨q1.2.2.2.2.1.1, q1.2.2.2.2.1.2.1, q1.2.2.2.2.2⟩, by omega, hp⟩, ⟨by
    have hN := q1.2.2.2.2.1.1
    have hp := np_0 (n := h' 572 0) (r := nr h' 572 2) hN (k := k) c2.1 (by rw [q1.2.1]; exact c2.2)
    rw [lay_not]
    exact ⟨⟨q1.2.2.2.2.1.1, q1.2.2.2.2.1.2.1, q1.2.2.2.2.2⟩, S20_mk _, fun y z => (RA_rc hN ⟨by omega, hp⟩ ((bt_lay hN ⟨by omega, hp⟩).mp z)).2⟩, fun h'_1 q3 => ⟨by
    have z := q3.2.2.1
    have l := iPop_le20 (S20_mk (rc (RA (nr h' 572 2) (fun x => ¬ (x = k ↔ ((0 : Int) = 1)))) (0 : Int)))
    exact ⟨q3.2.1, by omega, by rw [z]; omega⟩, fun h'_2 q4 => ?_⟩⟩⟩, fun c2 => ?_⟩⟩
  · rw [lay_not] at q3
    have n1 := q3.2.2.1
    refine am_rK (hb.2 h'_2 (RFr_q q1 (fun x i a b => (q4 x i (by omega) (by omega)).trans (q3.1 x i (by omega) b)))) ?_
    rw [ifc_t c2, n1, q1.2.1, show (iPop (lay (nr h 572 2) k 0) - 1 - (-1)).toNat = (iPop (lay (nr h 572 2) k 0)).toNat by omega]
    have dd := q3.2.2.2.1
    rw [q1.2.1] at dd
    exact (lvr_dc dd _).symm
  · exact am_rK (hb.2 h' (LD_q q1)) (ifc_f c2))
/-! 273 FactorNetsModel.takes -/
def C273 : am_K := fun as h K => am_a5 as (fun v0 v1 v2 v3 v4 => am_oc 12 571 v0 (am_n v1 (fun a => am_n v2 (fun b => am_n v3 (fun e => am_n v4 (fun f => (RIv h) ∧ (∀ (h' : am_H), RQ h h' → K (some (mB (ifc (((0 ≤ a ∧ a < (h 572 0)) ∧ (0 ≤ b ∧ b < (h 572 0))) ∧ (0 ≤ e ∧ e < (h 572 0)) ∧ (0 ≤ f ∧ f < (h 572 0))) (am_b (tkA (h 572 0) (ds (ad (nr h 572 2))) a b e f)) (-2)))) (h'))))))))
theorem W273 {d : Nat} (H : ∀ (a : Int) (b : Int) (e : Int) (f : Int) (h : am_H) (K : Option am_V → am_H → Prop), (RIv h) ∧ (∀ (h' : am_H), RQ h h' → K (some (mB (ifc (((0 ≤ a ∧ a < (h 572 0)) ∧ (0 ≤ b ∧ b < (h 572 0))) ∧ (0 ≤ e ∧ e < (h 572 0)) ∧ (0 ≤ f ∧ f < (h 572 0))) (am_b (tkA (h 572 0) (ds (ad (nr h 572 2))) a b e f)) (-2)))) (h')) → am_AT d 273 0 [some (mR 1 12 0 571), some (mB a), some (mB b), some (mB e), some (mB f)] h K) : am_CS d 273 C273 := by
  refine am_CS_of (T := tb273) (mL := 5) (rk := 1) rfl (fun as h K hC => ?_)
  obtain ⟨v0, v1, v2, v3, v4, rfl, hC0⟩ := am_a5_e hC
  obtain ⟨e0, hC1⟩ := am_oc_e hC0
  subst e0
  obtain ⟨a, rfl, hC2⟩ := am_n_e hC1
  obtain ⟨b, rfl, hC3⟩ := am_n_e hC2
  obtain ⟨e, rfl, hC4⟩ := am_n_e hC3
  obtain ⟨f, rfl, hC5⟩ := am_n_e hC4
  refine ⟨Nat.le_of_ble_eq_true rfl, ?_⟩
  exact H a b e f h K hC5
theorem T273_0 {R : Option am_V → am_H → Prop} {h : am_H} {a : Int} {b : Int} {e : Int} {f : Int} (t : (RIv h) ∧ (∀ (h' : am_H), (LD h h') → (((¬ ((0 ≤ a ∧ a < (h 572 0)) ∧ (0 ≤ b ∧ b < (h 572 0)))) → (R (some (mB (-2))) h')) ∧ (((0 ≤ a ∧ a < (h 572 0)) ∧ (0 ≤ b ∧ b < (h 572 0))) → ((RIv h') ∧ (∀ (h'_1 : am_H), (LD h' h'_1) → ((((0 ≤ e ∧ e < (h' 572 0)) ∧ (0 ≤ f ∧ f < (h' 572 0))) → (((¬ a = e) → ((0 ≤ (h'_1 572 0) ∧ (h'_1 572 0) ≤ 20) ∧ (((NT (h'_1 572 0) (nr h'_1 572 2) ∧ CN (h'_1 572 0) (nr h'_1 572 2) ∧ RLd h'_1 (h'_1 572 0) (nr h'_1 572 2)) ∧ S20 (iShl 1 (h'_1 572 0) - 1) ∧ (∀ y9, bit (iShl 1 (h'_1 572 0) - 1) y9 → y9 < (h'_1 572 0))) ∧ (∀ (h'_2 : am_H), (LSM h'_1 h'_2 (iShl 1 (h'_1 572 0) - 1)) → ((0 ≤ a ∧ a < 20) ∧ ((0 ≤ e ∧ e < 20) ∧ ((GS (am_up (am_up h'_2 590 a b) 590 e f) ∧ KND (am_up (am_up h'_2 590 a b) 590 e f) ∧ SPH (am_up (am_up h'_2 590 a b) 590 e f)) ∧ (∀ (h'_3 : am_H), ((∀ x9 i9, x9 ≠ 595 → h'_3 x9 i9 = (am_up (am_up h'_2 590 a b) 590 e f) x9 i9)) → (((¬ (isW (am_up (am_up h'_2 590 a b) 590 e f))) → (R (some (mB 0)) h'_3)) ∧ ((isW (am_up (am_up h'_2 590 a b) 590 e f)) → (R (some (mB 1)) h'_3))))))))))) ∧ ((a = e) → (((b = f) → ((0 ≤ (h'_1 572 0) ∧ (h'_1 572 0) ≤ 20) ∧ (((NT (h'_1 572 0) (nr h'_1 572 2) ∧ CN (h'_1 572 0) (nr h'_1 572 2) ∧ RLd h'_1 (h'_1 572 0) (nr h'_1 572 2)) ∧ S20 (iShl 1 (h'_1 572 0) - 1) ∧ (∀ y9, bit (iShl 1 (h'_1 572 0) - 1) y9 → y9 < (h'_1 572 0))) ∧ (∀ (h'_2 : am_H), (LSM h'_1 h'_2 (iShl 1 (h'_1 572 0) - 1)) → ((0 ≤ a ∧ a < 20) ∧ ((0 ≤ e ∧ e < 20) ∧ ((GS (am_up (am_up h'_2 590 a b) 590 e f) ∧ KND (am_up (am_up h'_2 590 a b) 590 e f) ∧ SPH (am_up (am_up h'_2 590 a b) 590 e f)) ∧ (∀ (h'_3 : am_H), ((∀ x9 i9, x9 ≠ 595 → h'_3 x9 i9 = (am_up (am_up h'_2 590 a b) 590 e f) x9 i9)) → (((¬ (isW (am_up (am_up h'_2 590 a b) 590 e f))) → (R (some (mB 0)) h'_3)) ∧ ((isW (am_up (am_up h'_2 590 a b) 590 e f)) → (R (some (mB 1)) h'_3))))))))))) ∧ ((¬ b = f) → (R (some (mB 0)) h'_1)))))) ∧ ((¬ ((0 ≤ e ∧ e < (h' 572 0)) ∧ (0 ≤ f ∧ f < (h' 572 0)))) → (R (some (mB (-2))) h'_1))))))))) : am_AT 26 273 0 [some (mR 1 12 0 571), some (mB a), some (mB b), some (mB e), some (mB f)] h R :=
  am_T (d := 25) (m := 273) (T := tb273) (mL := 5) (rk := 1) (cuts := []) (l := [(224, C224), (261, C261), (265, C265), (266, C266)]) rfl ⟨am_CS_d (by decide) C224_ok, am_CS_d (by decide) C261_ok, am_CS_d (by decide) C265_ok, am_CS_d (by decide) C266_ok, trivial⟩ 40 (And.intro (rfl) (And.intro (t).1 (fun z8_0 z8_1 => And.intro (fun c4 => (((t).2) z8_0 z8_1).1 c4) (fun c4 => And.intro (rfl) (And.intro ((((t).2) z8_0 z8_1).2 c4).1 (fun z9_0 z9_1 => And.intro (fun c5 => And.intro (fun c6 => And.intro (rfl) (And.intro ((((((((t).2) z8_0 z8_1).2 c4).2) z9_0 z9_1).1 c5).1 c6).1 (And.intro (rfl) (And.intro (((((((((t).2) z8_0 z8_1).2 c4).2) z9_0 z9_1).1 c5).1 c6).2).1 (fun z10_0 z10_1 => And.intro (((((((((((t).2) z8_0 z8_1).2 c4).2) z9_0 z9_1).1 c5).1 c6).2).2) z10_0 z10_1).1 (And.intro ((((((((((((t).2) z8_0 z8_1).2 c4).2) z9_0 z9_1).1 c5).1 c6).2).2) z10_0 z10_1).2).1 (And.intro (rfl) (And.intro (((((((((((((t).2) z8_0 z8_1).2 c4).2) z9_0 z9_1).1 c5).1 c6).2).2) z10_0 z10_1).2).2).1 (fun z11_0 z11_1 => And.intro (fun c7 => (((((((((((((((t).2) z8_0 z8_1).2 c4).2) z9_0 z9_1).1 c5).1 c6).2).2) z10_0 z10_1).2).2).2) z11_0 z11_1).1 c7) (fun c7 => (((((((((((((((t).2) z8_0 z8_1).2 c4).2) z9_0 z9_1).1 c5).1 c6).2).2) z10_0 z10_1).2).2).2) z11_0 z11_1).2 c7)))))))))) (fun c6 => And.intro (fun c8 => And.intro (rfl) (And.intro (((((((((t).2) z8_0 z8_1).2 c4).2) z9_0 z9_1).1 c5).2 c6).1 c8).1 (And.intro (rfl) (And.intro ((((((((((t).2) z8_0 z8_1).2 c4).2) z9_0 z9_1).1 c5).2 c6).1 c8).2).1 (fun z12_0 z12_1 => And.intro ((((((((((((t).2) z8_0 z8_1).2 c4).2) z9_0 z9_1).1 c5).2 c6).1 c8).2).2) z12_0 z12_1).1 (And.intro (((((((((((((t).2) z8_0 z8_1).2 c4).2) z9_0 z9_1).1 c5).2 c6).1 c8).2).2) z12_0 z12_1).2).1 (And.intro (rfl) (And.intro ((((((((((((((t).2) z8_0 z8_1).2 c4).2) z9_0 z9_1).1 c5).2 c6).1 c8).2).2) z12_0 z12_1).2).2).1 (fun z13_0 z13_1 => And.intro (fun c9 => ((((((((((((((((t).2) z8_0 z8_1).2 c4).2) z9_0 z9_1).1 c5).2 c6).1 c8).2).2) z12_0 z12_1).2).2).2) z13_0 z13_1).1 c9) (fun c9 => ((((((((((((((((t).2) z8_0 z8_1).2 c4).2) z9_0 z9_1).1 c5).2 c6).1 c8).2).2) z12_0 z12_1).2).2).2) z13_0 z13_1).2 c9)))))))))) (fun c8 => ((((((((t).2) z8_0 z8_1).2 c4).2) z9_0 z9_1).1 c5).2 c6).2 c8))) (fun c5 => ((((((t).2) z8_0 z8_1).2 c4).2) z9_0 z9_1).2 c5)))))))
theorem C273_ok : am_CS 26 273 C273 := W273 (fun a b e f h K hb => by
  refine T273_0 ⟨hb.1, fun h' q1 => ⟨fun c2 => ?_, fun c2 => ⟨q1.2.2.2.2.1, fun h'_1 q3 => ⟨fun c4 => ⟨fun c5 => ⟨⟨q3.2.2.2.2.1.1.1, q3.2.2.2.2.1.1.2.1⟩, ⟨by
    have hm : 0 ≤ h'_1 572 0 ∧ h'_1 572 0 ≤ 20 := ⟨q3.2.2.2.2.1.1.1, q3.2.2.2.2.1.1.2.1⟩
    exact ⟨⟨q3.2.2.2.2.1.1, q3.2.2.2.2.1.2.1, q3.2.2.2.2.2⟩, S20_all hm.1 hm.2, fun y z => ((bt_all hm.1 (by omega)).mp z).2⟩, fun h'_2 q6 => ⟨by have := hb.1.1.2.1; omega, ⟨by have := q1.2.2.2.2.1.1.2.1; omega, ⟨by
    have LDD : LD h h'_1 := LD_tr q1 q3
    have en := LDD.2.2.1
    have er := LDD.2.1
    have E : (0 ≤ e ∧ e < h 572 0) ∧ (0 ≤ f ∧ f < h 572 0) := by rw [← q1.2.2.1]; exact c4
    have hm : 0 ≤ h'_1 572 0 ∧ h'_1 572 0 ≤ 20 := ⟨q3.2.2.2.2.1.1.1, q3.2.2.2.2.1.1.2.1⟩
    have LA := LSM_all hm q6
    exact (TK_r (b := b) (f := f) LA.1 LA.2 hm.2 (by rw [en]; exact c2.1) (by omega) (by rw [en]; exact E.1) (by omega) (fun z => absurd z c5)).1.1
, fun h'_3 q7 => ⟨fun c8 => ?_, fun c8 => ?_⟩⟩⟩⟩⟩⟩, fun c5 => ⟨fun c6 => ⟨⟨q3.2.2.2.2.1.1.1, q3.2.2.2.2.1.1.2.1⟩, ⟨by
    have hm : 0 ≤ h'_1 572 0 ∧ h'_1 572 0 ≤ 20 := ⟨q3.2.2.2.2.1.1.1, q3.2.2.2.2.1.1.2.1⟩
    exact ⟨⟨q3.2.2.2.2.1.1, q3.2.2.2.2.1.2.1, q3.2.2.2.2.2⟩, S20_all hm.1 hm.2, fun y z => ((bt_all hm.1 (by omega)).mp z).2⟩, fun h'_2 q7 => ⟨by have := hb.1.1.2.1; omega, ⟨by have := q1.2.2.2.2.1.1.2.1; omega, ⟨by
    have LDD : LD h h'_1 := LD_tr q1 q3
    have en := LDD.2.2.1
    have er := LDD.2.1
    have E : (0 ≤ e ∧ e < h 572 0) ∧ (0 ≤ f ∧ f < h 572 0) := by rw [← q1.2.2.1]; exact c4
    have hm : 0 ≤ h'_1 572 0 ∧ h'_1 572 0 ≤ 20 := ⟨q3.2.2.2.2.1.1.1, q3.2.2.2.2.1.1.2.1⟩
    have LA := LSM_all hm q7
    exact (TK_r (b := b) (f := f) LA.1 LA.2 hm.2 (by rw [en]; exact c2.1) (by omega) (by rw [en]; exact E.1) (by omega) (fun _ => c6)).1.1
, fun h'_3 q8 => ⟨fun c9 => ?_, fun c9 => ?_⟩⟩⟩⟩⟩⟩, fun c6 => ?_⟩⟩, fun c4 => ?_⟩⟩⟩⟩
  · exact am_rB (hb.2 h' (LD_q q1)) (ifc_f (fun z => c2 z.1))
  · have LDD : LD h h'_1 := LD_tr q1 q3
    have en := LDD.2.2.1
    have er := LDD.2.1
    have E : (0 ≤ e ∧ e < h 572 0) ∧ (0 ≤ f ∧ f < h 572 0) := by rw [← q1.2.2.1]; exact c4
    have hm : 0 ≤ h'_1 572 0 ∧ h'_1 572 0 ≤ 20 := ⟨q3.2.2.2.2.1.1.1, q3.2.2.2.2.1.1.2.1⟩
    have LA := LSM_all hm q6
    have t := TK_r (b := b) (f := f) LA.1 LA.2 hm.2 (by rw [en]; exact c2.1) (by omega) (by rw [en]; exact E.1) (by omega) (fun z => absurd z c5)
    rw [t.2, en, er] at c8
    refine am_rB (hb.2 h'_3 (RFr_q LDD (fun x i u v => by rw [q7 x i (by omega), am_up_ne (by omega), am_up_ne (by omega)]; exact LA.1.1 x i u v))) ?_
    rw [ifc_t ⟨c2, E⟩]
    rw [am_b_f c8]
  · have LDD : LD h h'_1 := LD_tr q1 q3
    have en := LDD.2.2.1
    have er := LDD.2.1
    have E : (0 ≤ e ∧ e < h 572 0) ∧ (0 ≤ f ∧ f < h 572 0) := by rw [← q1.2.2.1]; exact c4
    have hm : 0 ≤ h'_1 572 0 ∧ h'_1 572 0 ≤ 20 := ⟨q3.2.2.2.2.1.1.1, q3.2.2.2.2.1.1.2.1⟩
    have LA := LSM_all hm q6
    have t := TK_r (b := b) (f := f) LA.1 LA.2 hm.2 (by rw [en]; exact c2.1) (by omega) (by rw [en]; exact E.1) (by omega) (fun z => absurd z c5)
    rw [t.2, en, er] at c8
    refine am_rB (hb.2 h'_3 (RFr_q LDD (fun x i u v => by rw [q7 x i (by omega), am_up_ne (by omega), am_up_ne (by omega)]; exact LA.1.1 x i u v))) ?_
    rw [ifc_t ⟨c2, E⟩]
    rw [am_b_t c8]
  · have LDD : LD h h'_1 := LD_tr q1 q3
    have en := LDD.2.2.1
    have er := LDD.2.1
    have E : (0 ≤ e ∧ e < h 572 0) ∧ (0 ≤ f ∧ f < h 572 0) := by rw [← q1.2.2.1]; exact c4
    have hm : 0 ≤ h'_1 572 0 ∧ h'_1 572 0 ≤ 20 := ⟨q3.2.2.2.2.1.1.1, q3.2.2.2.2.1.1.2.1⟩
    have LA := LSM_all hm q7
    have t := TK_r (b := b) (f := f) LA.1 LA.2 hm.2 (by rw [en]; exact c2.1) (by omega) (by rw [en]; exact E.1) (by omega) (fun _ => c6)
    rw [t.2, en, er] at c9
    refine am_rB (hb.2 h'_3 (RFr_q LDD (fun x i u v => by rw [q8 x i (by omega), am_up_ne (by omega), am_up_ne (by omega)]; exact LA.1.1 x i u v))) ?_
    rw [ifc_t ⟨c2, E⟩]
    rw [am_b_f c9]
  · have LDD : LD h h'_1 := LD_tr q1 q3
    have en := LDD.2.2.1
    have er := LDD.2.1
    have E : (0 ≤ e ∧ e < h 572 0) ∧ (0 ≤ f ∧ f < h 572 0) := by rw [← q1.2.2.1]; exact c4
    have hm : 0 ≤ h'_1 572 0 ∧ h'_1 572 0 ≤ 20 := ⟨q3.2.2.2.2.1.1.1, q3.2.2.2.2.1.1.2.1⟩
    have LA := LSM_all hm q7
    have t := TK_r (b := b) (f := f) LA.1 LA.2 hm.2 (by rw [en]; exact c2.1) (by omega) (by rw [en]; exact E.1) (by omega) (fun _ => c6)
    rw [t.2, en, er] at c9
    refine am_rB (hb.2 h'_3 (RFr_q LDD (fun x i u v => by rw [q8 x i (by omega), am_up_ne (by omega), am_up_ne (by omega)]; exact LA.1.1 x i u v))) ?_
    rw [ifc_t ⟨c2, E⟩]
    rw [am_b_t c9]
  · have LDD : LD h h'_1 := LD_tr q1 q3
    have en := LDD.2.2.1
    have er := LDD.2.1
    have E : (0 ≤ e ∧ e < h 572 0) ∧ (0 ≤ f ∧ f < h 572 0) := by rw [← q1.2.2.1]; exact c4
    have hm : 0 ≤ h'_1 572 0 ∧ h'_1 572 0 ≤ 20 := ⟨q3.2.2.2.2.1.1.1, q3.2.2.2.2.1.1.2.1⟩
    refine am_rB (hb.2 h'_1 (LD_q LDD)) ?_
    rw [ifc_t ⟨c2, E⟩, am_b_f]
    rintro ⟨g, G, u, v⟩
    rw [c5] at u
    exact c6 (u.symm.trans v)
  · refine am_rB (hb.2 h'_1 (LD_q (LD_tr q1 q3))) (ifc_f (fun z => c4 ?_))
    rw [q1.2.2.1]
    exact z.2)
/-! 276 FactorNetsModel.fixers -/
def C276 : am_K := fun as h K => am_a2 as (fun v0 v1 => am_oc 12 571 v0 (am_n v1 (fun p => (RIv h) ∧ (∀ (h' : am_H), RQ h h' → K (some (mK (ifc (0 ≤ p ∧ p < (h 572 0)) (Int.tdiv (lvr (h 572 0) (ds (ad (nr h 572 2))) (h 572 0).toNat) (iPop (mkb (orbA (h 572 0) (ds (ad (nr h 572 2))) p)))) (-2)))) (h')))))
theorem W276 {d : Nat} (H : ∀ (p : Int) (h : am_H) (K : Option am_V → am_H → Prop), (RIv h) ∧ (∀ (h' : am_H), RQ h h' → K (some (mK (ifc (0 ≤ p ∧ p < (h 572 0)) (Int.tdiv (lvr (h 572 0) (ds (ad (nr h 572 2))) (h 572 0).toNat) (iPop (mkb (orbA (h 572 0) (ds (ad (nr h 572 2))) p)))) (-2)))) (h')) → am_AT d 276 0 [some (mR 1 12 0 571), some (mB p)] h K) : am_CS d 276 C276 := by
  refine am_CS_of (T := tb276) (mL := 2) (rk := 2) rfl (fun as h K hC => ?_)
  obtain ⟨v0, v1, rfl, hC0⟩ := am_a2_e hC
  obtain ⟨e0, hC1⟩ := am_oc_e hC0
  subst e0
  obtain ⟨p, rfl, hC2⟩ := am_n_e hC1
  refine ⟨Nat.le_of_ble_eq_true rfl, ?_⟩
  exact H p h K hC2
theorem T276_0 {R : Option am_V → am_H → Prop} {h : am_H} {p : Int} (t : (RIv h) ∧ (∀ (h' : am_H), (LD h h') → ((h' 572 0 ≤ 20 ∧ 0 ≤ h' 572 0) ∧ (((¬ (0 ≤ p ∧ p < h' 572 0)) → (R (some (mK (-2))) h')) ∧ ((0 ≤ p ∧ p < h' 572 0) → (((NT (h' 572 0) (nr h' 572 2) ∧ CN (h' 572 0) (nr h' 572 2) ∧ RLd h' (h' 572 0) (nr h' 572 2))) ∧ (∀ (h'_1 : am_H), (RLS h' h'_1) → (((NT (h'_1 572 0) (nr h'_1 572 2) ∧ CN (h'_1 572 0) (nr h'_1 572 2) ∧ RLd h'_1 (h'_1 572 0) (nr h'_1 572 2)) ∧ (0 ≤ p ∧ p < (h'_1 572 0))) ∧ (∀ (h'_2 : am_H), (RLS h'_1 h'_2) → ((0 ≤ (mkb (orbA (h'_1 572 0) (ds (ad (nr h'_1 572 2))) p)) ∧ (mkb (orbA (h'_1 572 0) (ds (ad (nr h'_1 572 2))) p)) < 2147483648) ∧ ((¬ iPop (mkb (orbA (h'_1 572 0) (ds (ad (nr h'_1 572 2))) p)) = 0) ∧ ((R64 (Int.tdiv (lvr (h' 572 0) (ds (ad (nr h' 572 2))) (h' 572 0).toNat) (iPop (mkb (orbA (h'_1 572 0) (ds (ad (nr h'_1 572 2))) p))))) ∧ (R (some (mK (Int.tdiv (lvr (h' 572 0) (ds (ad (nr h' 572 2))) (h' 572 0).toNat) (iPop (mkb (orbA (h'_1 572 0) (ds (ad (nr h'_1 572 2))) p)))))) h'_2))))))))))))) : am_AT 28 276 0 [some (mR 1 12 0 571), some (mB p)] h R :=
  am_T (d := 27) (m := 276) (T := tb276) (mL := 2) (rk := 2) (cuts := []) (l := [(210, C210), (220, C220), (269, C269), (271, C271), (317, C317)]) rfl ⟨am_CS_d (by decide) C210_ok, am_CS_d (by decide) C220_ok, am_CS_d (by decide) C269_ok, am_CS_d (by decide) C271_ok, am_CS_d (by decide) C317_ok, trivial⟩ 20 (And.intro (rfl) (And.intro (t).1 (fun z14_0 z14_1 => And.intro (rfl) (And.intro (((t).2) z14_0 z14_1).1 (And.intro (fun c10 => ((((t).2) z14_0 z14_1).2).1 c10) (fun c10 => And.intro (rfl) (And.intro (((((t).2) z14_0 z14_1).2).2 c10).1 (fun z15_0 z15_1 => And.intro (rfl) (And.intro (((((((t).2) z14_0 z14_1).2).2 c10).2) z15_0 z15_1).1 (fun z16_0 z16_1 => And.intro (((((((((t).2) z14_0 z14_1).2).2 c10).2) z15_0 z15_1).2) z16_0 z16_1).1 (And.intro ((((((((((t).2) z14_0 z14_1).2).2 c10).2) z15_0 z15_1).2) z16_0 z16_1).2).1 (And.intro (((((((((((t).2) z14_0 z14_1).2).2 c10).2) z15_0 z15_1).2) z16_0 z16_1).2).2).1 ((((((((((((t).2) z14_0 z14_1).2).2 c10).2) z15_0 z15_1).2) z16_0 z16_1).2).2).2)))))))))))))
theorem C276_ok : am_CS 28 276 C276 := W276 (fun p h K hb => by
  have ps : ∀ h' g, LD h h' → RLS h' g → (0 ≤ p ∧ p < h' 572 0) → ((NT (g 572 0) (nr g 572 2) ∧ CN (g 572 0) (nr g 572 2) ∧ RLd g (g 572 0) (nr g 572 2)) ∧ g 572 0 = h 572 0 ∧ nr g 572 2 = nr h 572 2) ∧ (h' 572 0 = h 572 0 ∧ nr h' 572 2 = nr h 572 2) ∧ 1 ≤ iPop (mkb (orbA (h 572 0) (ds (ad (nr h 572 2))) p)) ∧ 1 ≤ lvr (h 572 0) (ds (ad (nr h 572 2))) (h 572 0).toNat ∧ lvr (h 572 0) (ds (ad (nr h 572 2))) (h 572 0).toNat ≤ 2432902008176640000 := fun h' g q1 q3 c => by
    have w := RFr_l (g := g) ⟨q1.2.2.2.2.1.1, q1.2.2.2.2.1.2.1, q1.2.2.2.2.2⟩ q3.1
    rw [q1.2.1, q1.2.2.1] at w
    have M : DM (h 572 0) (ds (ad (nr h 572 2))) := by rw [← w.2.1, ← w.2.2]; exact DM_ds w.1.1 w.1.2.1
    have hm := M.1
    rw [q1.2.2.1] at c
    have a := ct_pos (P := orbA (h 572 0) (ds (ad (nr h 572 2))) p) (n := 20) c.1 (by omega) (orbA_rf p)
    exact ⟨w, ⟨q1.2.2.1, q1.2.1⟩, by rw [iPop_mk]; omega, lvr_64 (D := ds (ad (nr h 572 2))) M (m := (h 572 0).toNat) (by omega)⟩
  refine T276_0 ⟨hb.1, fun h' q1 => ⟨⟨q1.2.2.2.2.1.1.2.1, q1.2.2.2.2.1.1.1⟩, ⟨fun c2 => ?_, fun c2 => ⟨⟨q1.2.2.2.2.1.1, q1.2.2.2.2.1.2.1, q1.2.2.2.2.2⟩, fun h'_1 q3 => ⟨by
    have w := ps h' h'_1 q1 q3 c2
    refine ⟨w.1.1, ?_⟩
    rw [w.1.2.1, ← q1.2.2.1]
    exact c2, fun h'_2 q4 => ⟨by have := mkb_c (orbA (h'_1 572 0) (ds (ad (nr h'_1 572 2))) p); omega, ⟨by
    have w := ps h' h'_1 q1 q3 c2
    rw [w.1.2.1, w.1.2.2]
    omega, ⟨by
    have w := ps h' h'_1 q1 q3 c2
    rw [w.1.2.1, w.1.2.2, w.2.1.1, w.2.1.2]
    have a := Int.tdiv_nonneg (a := lvr (h 572 0) (ds (ad (nr h 572 2))) (h 572 0).toNat) (b := iPop (mkb (orbA (h 572 0) (ds (ad (nr h 572 2))) p))) (by omega) (by omega)
    have b := Int.tdiv_le_self (a := lvr (h 572 0) (ds (ad (nr h 572 2))) (h 572 0).toNat) (iPop (mkb (orbA (h 572 0) (ds (ad (nr h 572 2))) p))) (by omega)
    unfold R64
    omega, ?_⟩⟩⟩⟩⟩⟩⟩⟩
  · rw [q1.2.2.1] at c2
    exact am_rK (hb.2 h' (LD_q q1)) (ifc_f c2)
  · have w := ps h' h'_1 q1 q3 c2
    refine am_rK (hb.2 h'_2 (RFr_q q1 (fun x i u v => (q4.1 x i u v).trans (q3.1 x i u v)))) ?_
    rw [q1.2.2.1] at c2
    rw [ifc_t c2, w.1.2.1, w.1.2.2, w.2.1.1, w.2.1.2])
/-! 277 FactorNetsModel.orbits -/
def C277 : am_K := fun as h K => am_a1 as (fun v0 => am_oc 12 571 v0 ((RIv h) ∧ (∀ (h' : am_H), RQ h h' → K (some (mB (ifc (0 < (h 572 0)) (ct (LSa (h 572 0) (ds (ad (nr h 572 2)))) 20) (-2)))) (h'))))
theorem W277 {d : Nat} (H : ∀  (h : am_H) (K : Option am_V → am_H → Prop), (RIv h) ∧ (∀ (h' : am_H), RQ h h' → K (some (mB (ifc (0 < (h 572 0)) (ct (LSa (h 572 0) (ds (ad (nr h 572 2)))) 20) (-2)))) (h')) → am_AT d 277 0 [some (mR 1 12 0 571), none, none] h K) : am_CS d 277 C277 := by
  refine am_CS_of (T := tb277) (mL := 3) (rk := 1) rfl (fun as h K hC => ?_)
  obtain ⟨v0, rfl, hC0⟩ := am_a1_e hC
  obtain ⟨e0, hC1⟩ := am_oc_e hC0
  subst e0
  refine ⟨Nat.le_of_ble_eq_true rfl, ?_⟩
  exact H  h K hC1
theorem T277_0 {R : Option am_V → am_H → Prop} {h : am_H} (t : ((0 < h 572 0) → ((RIv h) ∧ (∀ (h' : am_H), (LD h h') → (am_AT 27 277 18 [some (mR 1 12 0 571), some (mI 0), some (mI 0)] h' R)))) ∧ ((¬ (0 < h 572 0)) → (R (some (mB (-2))) h))) : am_AT 27 277 0 [some (mR 1 12 0 571), none, none] h R :=
  am_T (d := 26) (m := 277) (T := tb277) (mL := 3) (rk := 1) (cuts := [(18, [1, 2, 2])]) (l := [(209, C209), (220, C220), (240, C240), (271, C271)]) rfl ⟨am_CS_d (by decide) C209_ok, am_CS_d (by decide) C220_ok, am_CS_d (by decide) C240_ok, am_CS_d (by decide) C271_ok, trivial⟩ 13 (And.intro (rfl) (And.intro (fun c11 => And.intro (rfl) (And.intro ((t).1 c11).1 (fun z17_0 z17_1 => (((t).1 c11).2) z17_0 z17_1))) (fun c11 => (t).2 c11)))
theorem T277_18 {R : Option am_V → am_H → Prop} {h : am_H} {x1 : Int} {x2 : Int} (t : (R32 x2) ∧ (((h 572 0 ≤ x2) → ((R32 x1) ∧ (R (some (mB x1)) h))) ∧ ((x2 < h 572 0) → ((R32 x2) ∧ (((NT (h 572 0) (nr h 572 2) ∧ CN (h 572 0) (nr h 572 2) ∧ RLd h (h 572 0) (nr h 572 2)) ∧ (0 ≤ x2 ∧ x2 < (h 572 0))) ∧ (∀ (h' : am_H), (RLS h h') → ((0 ≤ (0 : Int)) ∧ ((R32 x2) ∧ (((¬ nthb (mkb (orbA (h 572 0) (ds (ad (nr h 572 2))) x2)) (0 : Int) = x2) → (am_AT 27 277 18 [some (mR 1 12 0 571), some (mI (x1 + 0)), some (mI (x2 + 1))] h' R)) ∧ ((nthb (mkb (orbA (h 572 0) (ds (ad (nr h 572 2))) x2)) (0 : Int) = x2) → (am_AT 27 277 18 [some (mR 1 12 0 571), some (mI (x1 + 1)), some (mI (x2 + 1))] h' R))))))))))) : am_AT 27 277 18 [some (mR 1 12 0 571), some (mI x1), some (mI x2)] h R :=
  am_T (d := 26) (m := 277) (T := tb277) (mL := 3) (rk := 1) (cuts := [(18, [1, 2, 2])]) (l := [(209, C209), (220, C220), (240, C240), (271, C271)]) rfl ⟨am_CS_d (by decide) C209_ok, am_CS_d (by decide) C220_ok, am_CS_d (by decide) C240_ok, am_CS_d (by decide) C271_ok, trivial⟩ 24 (And.intro (⟨by decide, by decide⟩) (And.intro (t).1 (And.intro (fun c12 => And.intro (((t).2).1 c12).1 ((((t).2).1 c12).2)) (fun c12 => And.intro (((t).2).2 c12).1 (And.intro (rfl) (And.intro ((((t).2).2 c12).2).1 (fun z18_0 z18_1 => And.intro ((((((t).2).2 c12).2).2) z18_0 z18_1).1 (And.intro (((((((t).2).2 c12).2).2) z18_0 z18_1).2).1 (And.intro (fun c13 => ((((((((t).2).2 c12).2).2) z18_0 z18_1).2).2).1 c13) (fun c13 => ((((((((t).2).2 c12).2).2) z18_0 z18_1).2).2).2 c13))))))))))
theorem L277 {K : Option am_V → am_H → Prop} {h : am_H} (L : NT (h 572 0) (nr h 572 2) ∧ CN (h 572 0) (nr h 572 2) ∧ RLd h (h 572 0) (nr h 572 2)) (hK : ∀ g, RFr h g → K (some (mB (ct (LSa (h 572 0) (ds (ad (nr h 572 2)))) 20))) g) : ∀ i, ∀ g : am_H, 0 ≤ i → i ≤ h 572 0 → RFr h g → am_AT 27 277 18 [some (mR 1 12 0 571), some (mI (ct (LSa (h 572 0) (ds (ad (nr h 572 2)))) i.toNat)), some (mI i)] g K := by
  have M : DM (h 572 0) (ds (ad (nr h 572 2))) := DM_ds L.1 L.2.1
  have hm := M.1
  refine lp (h 572 0) (fun i ih g i0 i1 F => ?_)
  have w := RFr_l L F
  have cl := ct_le (LSa (h 572 0) (ds (ad (nr h 572 2)))) i.toNat
  refine T277_18 ⟨by omega, ⟨fun c1 => ⟨by unfold R32; omega, ?_⟩, fun c1 => ⟨by omega, ⟨⟨w.1, by rw [w.2.1] at c1 ⊢; omega⟩, fun h' q2 => ⟨by omega, ⟨by omega, ⟨fun c3 => ?_, fun c3 => ?_⟩⟩⟩⟩⟩⟩⟩
  · rw [w.2.1] at c1
    have e : ct (LSa (h 572 0) (ds (ad (nr h 572 2)))) i.toNat = ct (LSa (h 572 0) (ds (ad (nr h 572 2)))) 20 := by
      have := ct_ext (P := (LSa (h 572 0) (ds (ad (nr h 572 2))))) i.toNat (20 - i.toNat) (fun k a b => by have := b.1; omega)
      rw [show i.toNat + (20 - i.toNat) = 20 by omega] at this
      exact this.symm
    exact am_rB (hK g F) e.symm
  · rw [w.2.1] at c1
    rw [w.2.1, w.2.2, LSa_n M ⟨i0, c1⟩] at c3
    have e := ct_to (P := (LSa (h 572 0) (ds (ad (nr h 572 2))))) i0
    rw [am_b_f c3] at e
    have nn := ih c1 h' (by omega) (by omega) (fun x i u v => (q2.1 x i u v).trans (F x i u v))
    rw [e] at nn
    exact nn
  · rw [w.2.1] at c1
    rw [w.2.1, w.2.2, LSa_n M ⟨i0, c1⟩] at c3
    have e := ct_to (P := (LSa (h 572 0) (ds (ad (nr h 572 2))))) i0
    rw [am_b_t c3] at e
    have nn := ih c1 h' (by omega) (by omega) (fun x i u v => (q2.1 x i u v).trans (F x i u v))
    rw [e] at nn
    exact nn
theorem C277_ok : am_CS 27 277 C277 := W277 (fun h K hb => by
  refine T277_0 ⟨fun c1 => ⟨hb.1, fun h' q2 => ?_⟩, fun c1 => ?_⟩
  · have L : NT (h' 572 0) (nr h' 572 2) ∧ CN (h' 572 0) (nr h' 572 2) ∧ RLd h' (h' 572 0) (nr h' 572 2) := ⟨q2.2.2.2.2.1.1, q2.2.2.2.2.1.2.1, q2.2.2.2.2.2⟩
    refine L277 L (fun g F => am_rB (hb.2 g (RFr_q q2 F)) ?_) 0 h' (by omega) L.1.1 (fun _ _ _ _ => rfl)
    rw [ifc_t c1, q2.2.1, q2.2.2.1]
  · exact am_rB (hb.2 h (RQ_rf hb.1)) (ifc_f c1))
/-! 275 FactorNetsModel.moves -/
def C275 : am_K := fun as h K => am_a3 as (fun v0 v1 v2 => am_oc 12 571 v0 (am_j v1 (fun k => am_n v2 (fun p => (RIv h) ∧ (∀ (h' : am_H), RQ h h' → K (some (mB (ifc ((0 ≤ p ∧ p < (h 572 0)) ∧ 0 ≤ k) (ifc (k < lvr (h 572 0) (ds (ad (nr h 572 2))) (h 572 0).toNat) (mvf (h 572 0) (ds (ad (nr h 572 2))) k p) (-1)) (-2)))) (h'))))))
theorem W275 {d : Nat} (H : ∀ (k : Int) (p : Int) (h : am_H) (K : Option am_V → am_H → Prop), (RIv h) ∧ (∀ (h' : am_H), RQ h h' → K (some (mB (ifc ((0 ≤ p ∧ p < (h 572 0)) ∧ 0 ≤ k) (ifc (k < lvr (h 572 0) (ds (ad (nr h 572 2))) (h 572 0).toNat) (mvf (h 572 0) (ds (ad (nr h 572 2))) k p) (-1)) (-2)))) (h')) → am_AT d 275 0 [some (mR 1 12 0 571), some (mK k), none, some (mB p), none, none, none, none, none, none] h K) : am_CS d 275 C275 := by
  refine am_CS_of (T := tb275) (mL := 10) (rk := 1) rfl (fun as h K hC => ?_)
  obtain ⟨v0, v1, v2, rfl, hC0⟩ := am_a3_e hC
  obtain ⟨e0, hC1⟩ := am_oc_e hC0
  subst e0
  obtain ⟨k, rfl, hC2⟩ := am_j_e hC1
  obtain ⟨p, rfl, hC3⟩ := am_n_e hC2
  refine ⟨Nat.le_of_ble_eq_true rfl, ?_⟩
  exact H k p h K hC3
theorem T275_0 {R : Option am_V → am_H → Prop} {h : am_H} {k : Int} {p : Int} (t : (RIv h) ∧ (∀ (h' : am_H), (LD h h') → ((h' 572 0 ≤ 20 ∧ 0 ≤ h' 572 0) ∧ (((¬ (0 ≤ p ∧ p < h' 572 0)) → (R (some (mB (-2))) h')) ∧ ((0 ≤ p ∧ p < h' 572 0) → (((0 ≤ k) → (((NT (h' 572 0) (nr h' 572 2) ∧ CN (h' 572 0) (nr h' 572 2) ∧ RLd h' (h' 572 0) (nr h' 572 2))) ∧ (∀ (h'_1 : am_H), (RLS h' h'_1) → (((k < lvr (h' 572 0) (ds (ad (nr h' 572 2))) (h' 572 0).toNat) → (am_AT 28 275 38 [some (mR 1 12 0 571), none, none, some (mB p), some (mJ k), none, some (mI 0), none, none, none] h'_1 R)) ∧ ((lvr (h' 572 0) (ds (ad (nr h' 572 2))) (h' 572 0).toNat ≤ k) → (R (some (mB (-1))) h'_1)))))) ∧ ((k < 0) → (R (some (mB (-2))) h')))))))) : am_AT 28 275 0 [some (mR 1 12 0 571), some (mK k), none, some (mB p), none, none, none, none, none, none] h R :=
  am_T (d := 27) (m := 275) (T := tb275) (mL := 10) (rk := 1) (cuts := [(38, [1, 0, 0, 1, 2, 0, 2, 0, 0, 0]), (55, [1, 0, 0, 1, 2, 0, 2, 2, 0, 2])]) (l := [(210, C210), (220, C220), (264, C264), (269, C269), (274, C274)]) rfl ⟨am_CS_d (by decide) C210_ok, am_CS_d (by decide) C220_ok, am_CS_d (by decide) C264_ok, am_CS_d (by decide) C269_ok, am_CS_d (by decide) C274_ok, trivial⟩ 23 (And.intro (rfl) (And.intro (t).1 (fun z19_0 z19_1 => And.intro (rfl) (And.intro (((t).2) z19_0 z19_1).1 (And.intro (fun c14 => ((((t).2) z19_0 z19_1).2).1 c14) (fun c14 => And.intro (fun c15 => And.intro (rfl) (And.intro ((((((t).2) z19_0 z19_1).2).2 c14).1 c15).1 (fun z20_0 z20_1 => And.intro (fun c16 => ((((((((t).2) z19_0 z19_1).2).2 c14).1 c15).2) z20_0 z20_1).1 c16) (fun c16 => ((((((((t).2) z19_0 z19_1).2).2 c14).1 c15).2) z20_0 z20_1).2 c16)))) (fun c15 => (((((t).2) z19_0 z19_1).2).2 c14).2 c15)))))))
theorem T275_38 {R : Option am_V → am_H → Prop} {h : am_H} {p : Int} {x4 : Int} {x6 : Int} (t : (R32 x6) ∧ (((p < x6) → ((0 ≤ p ∧ p < 20) ∧ (R (some (mB (h 596 p))) h))) ∧ ((x6 ≤ p) → ((R32 x6) ∧ ((KLD h ∧ (-1 ≤ x6 ∧ x6 < (h 571 30))) ∧ (∀ (h' : am_H), ((∀ x9 i9, x9 ≠ 590 → x9 ≠ 595 → h' x9 i9 = h x9 i9)) → (am_AT 28 275 55 [some (mR 1 12 0 571), none, none, some (mB p), some (mJ x4), none, some (mI x6), some (mJ (lvr (h 571 30) (fD h 588) ((h 571 30) - 1 - x6).toNat)), none, some (mI 0)] h' R))))))) : am_AT 28 275 38 [some (mR 1 12 0 571), none, none, some (mB p), some (mJ x4), none, some (mI x6), none, none, none] h R :=
  am_T (d := 27) (m := 275) (T := tb275) (mL := 10) (rk := 1) (cuts := [(38, [1, 0, 0, 1, 2, 0, 2, 0, 0, 0]), (55, [1, 0, 0, 1, 2, 0, 2, 2, 0, 2])]) (l := [(210, C210), (220, C220), (264, C264), (269, C269), (274, C274)]) rfl ⟨am_CS_d (by decide) C210_ok, am_CS_d (by decide) C220_ok, am_CS_d (by decide) C264_ok, am_CS_d (by decide) C269_ok, am_CS_d (by decide) C274_ok, trivial⟩ 13 (And.intro (t).1 (And.intro (fun c17 => And.intro (((t).2).1 c17).1 ((((t).2).1 c17).2)) (fun c17 => And.intro (((t).2).2 c17).1 (And.intro (rfl) (And.intro ((((t).2).2 c17).2).1 (fun z21_0 z21_1 => (((((t).2).2 c17).2).2) z21_0 z21_1))))))
theorem T275_55 {R : Option am_V → am_H → Prop} {h : am_H} {p : Int} {x4 : Int} {x6 : Int} {x7 : Int} {x9 : Int} (t : (R32 x6) ∧ ((R32 x9) ∧ ((KLD h ∧ (0 ≤ x6 ∧ x6 < (h 571 30)) ∧ 0 ≤ x9 ∧ (∀ j9, 0 ≤ j9 → j9 < x6 → h 596 j9 ≠ -1)) ∧ (∀ (h' : am_H), ((∀ x9 i9, x9 ≠ 590 → x9 ≠ 595 → h' x9 i9 = h x9 i9)) → (((¬ (PFX (h 571 30) (fD h 588) (h 596) x6 x9)) → ((R32 x6) ∧ ((R32 x9) ∧ ((KLD h' ∧ (0 ≤ x6 ∧ x6 < (h' 571 30)) ∧ 0 ≤ x9 ∧ (∀ j9, 0 ≤ j9 → j9 < x6 → h' 596 j9 ≠ -1)) ∧ (∀ (h'_1 : am_H), ((∀ x9 i9, x9 ≠ 590 → x9 ≠ 595 → h'_1 x9 i9 = h' x9 i9)) → (((¬ (PFX (h' 571 30) (fD h' 588) (h' 596) x6 x9)) → (am_AT 28 275 55 [some (mR 1 12 0 571), none, none, some (mB p), some (mJ (x4 - 0)), none, some (mI x6), some (mJ x7), none, some (mI (x9 + 1))] h'_1 R)) ∧ ((PFX (h' 571 30) (fD h' 588) (h' 596) x6 x9) → (am_AT 28 275 55 [some (mR 1 12 0 571), none, none, some (mB p), some (mJ (x4 - x7)), none, some (mI x6), some (mJ x7), none, some (mI (x9 + 1))] h'_1 R)))))))) ∧ ((PFX (h 571 30) (fD h 588) (h 596) x6 x9) → ((R64 x4) ∧ ((R64 x7) ∧ (((x4 < x7) → ((0 ≤ x6 ∧ x6 < 20) ∧ ((R32 x9) ∧ (am_AT 28 275 38 [some (mR 1 12 0 571), none, none, some (mB p), some (mJ x4), none, some (mI (x6 + 1)), none, none, none] (am_up h' 596 x6 x9) R)))) ∧ ((x7 ≤ x4) → ((R32 x6) ∧ ((R32 x9) ∧ ((KLD h' ∧ (0 ≤ x6 ∧ x6 < (h' 571 30)) ∧ 0 ≤ x9 ∧ (∀ j9, 0 ≤ j9 → j9 < x6 → h' 596 j9 ≠ -1)) ∧ (∀ (h'_1 : am_H), ((∀ x9 i9, x9 ≠ 590 → x9 ≠ 595 → h'_1 x9 i9 = h' x9 i9)) → (((¬ (PFX (h' 571 30) (fD h' 588) (h' 596) x6 x9)) → (am_AT 28 275 55 [some (mR 1 12 0 571), none, none, some (mB p), some (mJ (x4 - 0)), none, some (mI x6), some (mJ x7), none, some (mI (x9 + 1))] h'_1 R)) ∧ ((PFX (h' 571 30) (fD h' 588) (h' 596) x6 x9) → (am_AT 28 275 55 [some (mR 1 12 0 571), none, none, some (mB p), some (mJ (x4 - x7)), none, some (mI x6), some (mJ x7), none, some (mI (x9 + 1))] h'_1 R))))))))))))))))) : am_AT 28 275 55 [some (mR 1 12 0 571), none, none, some (mB p), some (mJ x4), none, some (mI x6), some (mJ x7), none, some (mI x9)] h R :=
  am_T (d := 27) (m := 275) (T := tb275) (mL := 10) (rk := 1) (cuts := [(38, [1, 0, 0, 1, 2, 0, 2, 0, 0, 0]), (55, [1, 0, 0, 1, 2, 0, 2, 2, 0, 2])]) (l := [(210, C210), (220, C220), (264, C264), (269, C269), (274, C274)]) rfl ⟨am_CS_d (by decide) C210_ok, am_CS_d (by decide) C220_ok, am_CS_d (by decide) C264_ok, am_CS_d (by decide) C269_ok, am_CS_d (by decide) C274_ok, trivial⟩ 25 (And.intro (t).1 (And.intro ((t).2).1 (And.intro (rfl) (And.intro (((t).2).2).1 (fun z22_0 z22_1 => And.intro (fun c18 => And.intro ((((((t).2).2).2) z22_0 z22_1).1 c18).1 (And.intro (((((((t).2).2).2) z22_0 z22_1).1 c18).2).1 (And.intro (rfl) (And.intro ((((((((t).2).2).2) z22_0 z22_1).1 c18).2).2).1 (fun z23_0 z23_1 => And.intro (fun c19 => ((((((((((t).2).2).2) z22_0 z22_1).1 c18).2).2).2) z23_0 z23_1).1 c19) (fun c19 => ((((((((((t).2).2).2) z22_0 z22_1).1 c18).2).2).2) z23_0 z23_1).2 c19)))))) (fun c18 => And.intro ((((((t).2).2).2) z22_0 z22_1).2 c18).1 (And.intro (((((((t).2).2).2) z22_0 z22_1).2 c18).2).1 (And.intro (fun c20 => And.intro (((((((((t).2).2).2) z22_0 z22_1).2 c18).2).2).1 c20).1 (And.intro ((((((((((t).2).2).2) z22_0 z22_1).2 c18).2).2).1 c20).2).1 (((((((((((t).2).2).2) z22_0 z22_1).2 c18).2).2).1 c20).2).2))) (fun c20 => And.intro (((((((((t).2).2).2) z22_0 z22_1).2 c18).2).2).2 c20).1 (And.intro ((((((((((t).2).2).2) z22_0 z22_1).2 c18).2).2).2 c20).2).1 (And.intro (rfl) (And.intro (((((((((((t).2).2).2) z22_0 z22_1).2 c18).2).2).2 c20).2).2).1 (fun z24_0 z24_1 => And.intro (fun c21 => (((((((((((((t).2).2).2) z22_0 z22_1).2 c18).2).2).2 c20).2).2).2) z24_0 z24_1).1 c21) (fun c21 => (((((((((((((t).2).2).2) z22_0 z22_1).2 c18).2).2).2 c20).2).2).2) z24_0 z24_1).2 c21))))))))))))))
theorem L275b {K : Option am_V → am_H → Prop} {h : am_H} {k p : Int} (M : DM (h 572 0) (ds (ad (nr h 572 2)))) (hk : 0 ≤ k ∧ k < lvr (h 572 0) (ds (ad (nr h 572 2))) (h 572 0).toNat) (hp : 0 ≤ p ∧ p < (h 572 0)) (hK : ∀ g, RFr h g → K (some (mB (mvf (h 572 0) (ds (ad (nr h 572 2))) k p))) g) {i : Int} (hi : 0 ≤ i ∧ i ≤ p) (nx : ∀ g : am_H, MVI h g k (i + 1) → am_AT 28 275 38 [some (mR 1 12 0 571), none, none, some (mB p), some (mJ (mrs (h 572 0) (ds (ad (nr h 572 2))) k (i + 1).toNat)), none, some (mI (i + 1)), none, none, none] g K) : ∀ to, ∀ g : am_H, 0 ≤ to → MVI h g k i → ct (PFX (h 572 0) (ds (ad (nr h 572 2))) (mvf (h 572 0) (ds (ad (nr h 572 2))) k) i) to.toNat ≤ (mrs (h 572 0) (ds (ad (nr h 572 2))) k i.toNat) / (lvr (h 572 0) (ds (ad (nr h 572 2))) ((h 572 0) - 1 - i).toNat) → am_AT 28 275 55 [some (mR 1 12 0 571), none, none, some (mB p), some (mJ ((mrs (h 572 0) (ds (ad (nr h 572 2))) k i.toNat) - ct (PFX (h 572 0) (ds (ad (nr h 572 2))) (mvf (h 572 0) (ds (ad (nr h 572 2))) k) i) to.toNat * (lvr (h 572 0) (ds (ad (nr h 572 2))) ((h 572 0) - 1 - i).toNat))), none, some (mI i), some (mJ (lvr (h 572 0) (ds (ad (nr h 572 2))) ((h 572 0) - 1 - i).toNat)), none, some (mI to)] g K := by
  have hs := M.1
  have er := lvr_64 (D := (ds (ad (nr h 572 2)))) M (m := ((h 572 0) - 1 - i).toNat) (by omega)
  have mr : 0 ≤ (mrs (h 572 0) (ds (ad (nr h 572 2))) k i.toNat) ∧ (mrs (h 572 0) (ds (ad (nr h 572 2))) k i.toNat) < lvr (h 572 0) (ds (ad (nr h 572 2))) ((h 572 0) - i).toNat := by
    have := mrs_r M hk i.toNat (by omega)
    rw [show ((i.toNat : Nat) : Int) = i by omega] at this
    exact this
  have ml := lvr_64 (D := (ds (ad (nr h 572 2)))) M (m := ((h 572 0) - i).toNat) (by omega)
  refine lp 20 (fun to ih g t0 H cl => ?_)
  have hs1 := H.1.2.2.1
  have dv := Int.ediv_mul_le (mrs (h 572 0) (ds (ad (nr h 572 2))) k i.toNat) (show (lvr (h 572 0) (ds (ad (nr h 572 2))) ((h 572 0) - 1 - i).toNat) ≠ 0 by omega)
  have cp : ct (PFX (h 572 0) (ds (ad (nr h 572 2))) (mvf (h 572 0) (ds (ad (nr h 572 2))) k) i) 20 = ct (orbS (h 572 0) (ds (ad (nr h 572 2))) i) 20 := by
    obtain ⟨f, F, w⟩ := H.2.1
    exact PFX_ct M F ⟨hi.1, by omega⟩ w
  have il : (mrs (h 572 0) (ds (ad (nr h 572 2))) k i.toNat) / (lvr (h 572 0) (ds (ad (nr h 572 2))) ((h 572 0) - 1 - i).toNat) < ct (PFX (h 572 0) (ds (ad (nr h 572 2))) (mvf (h 572 0) (ds (ad (nr h 572 2))) k) i) 20 := by
    rw [cp]
    refine Int.ediv_lt_of_lt_mul (by omega) ?_
    have := mr.2
    rw [lvr_S ⟨hi.1, by omega⟩] at this
    exact this
  have t20 : to < 20 := Classical.byContradiction fun z => by
    have m := ct_mn (PFX (h 572 0) (ds (ad (nr h 572 2))) (mvf (h 572 0) (ds (ad (nr h 572 2))) k) i) 20 (to.toNat - 20)
    rw [show 20 + (to.toNat - 20) = to.toNat by omega] at m
    omega
  have c0 := (ct_le (PFX (h 572 0) (ds (ad (nr h 572 2))) (mvf (h 572 0) (ds (ad (nr h 572 2))) k) i) to.toNat).1
  have cm := Int.mul_le_mul_of_nonneg_right cl (show 0 ≤ (lvr (h 572 0) (ds (ad (nr h 572 2))) ((h 572 0) - 1 - i).toNat) by omega)
  have cn := Int.mul_nonneg c0 (show 0 ≤ (lvr (h 572 0) (ds (ad (nr h 572 2))) ((h 572 0) - 1 - i).toNat) by omega)
  have km := MVI_m H (by omega)
  refine T275_55 ⟨by omega, ⟨by omega, ⟨by rw [hs1]; exact ⟨H.1.2.1, by omega, t0, km⟩, fun h' q1 => ⟨fun c2 => ⟨by omega, ⟨by omega, ⟨by
    have H1 := MVI_fr H (g' := h') q1
    rw [H1.1.2.2.1]
    exact ⟨H1.1.2.1, by omega, t0, MVI_m H1 (by omega)⟩, fun h'_1 q3 => ⟨fun c4 => ?_, fun c4 => ?_⟩⟩⟩⟩, fun c2 => ⟨by unfold R64; omega, ⟨by unfold R64; omega, ⟨fun c3 => ⟨by omega, ⟨by omega, ?_⟩⟩, fun c3 => ⟨by omega, ⟨by omega, ⟨by
    have H1 := MVI_fr H (g' := h') q1
    rw [H1.1.2.2.1]
    exact ⟨H1.1.2.1, by omega, t0, MVI_m H1 (by omega)⟩, fun h'_1 q4 => ⟨fun c5 => ?_, fun c5 => ?_⟩⟩⟩⟩⟩⟩⟩⟩⟩⟩⟩
  · have H1 := MVI_fr H (g' := h') q1
    rw [MVI_p H] at c2
    have cc : ct (PFX (h 572 0) (ds (ad (nr h 572 2))) (mvf (h 572 0) (ds (ad (nr h 572 2))) k) i) (to + 1).toNat = ct (PFX (h 572 0) (ds (ad (nr h 572 2))) (mvf (h 572 0) (ds (ad (nr h 572 2))) k) i) to.toNat := by rw [ct_to t0, am_b_f c2]; omega
    have nn := ih t20 h'_1 (by omega) (MVI_fr H1 q3) (by rw [cc]; exact cl)
    rw [cc] at nn
    rw [Int.sub_zero]
    exact nn
  · have H1 := MVI_fr H (g' := h') q1
    rw [MVI_p H] at c2
    rw [MVI_p H1] at c4
    exact absurd c4 c2
  · rw [MVI_p H] at c2
    have lt : (mrs (h 572 0) (ds (ad (nr h 572 2))) k i.toNat) < (ct (PFX (h 572 0) (ds (ad (nr h 572 2))) (mvf (h 572 0) (ds (ad (nr h 572 2))) k) i) to.toNat + 1) * (lvr (h 572 0) (ds (ad (nr h 572 2))) ((h 572 0) - 1 - i).toNat) := by rw [Int.add_mul, Int.one_mul]; omega
    have l2 := Int.ediv_lt_of_lt_mul (show 0 < (lvr (h 572 0) (ds (ad (nr h 572 2))) ((h 572 0) - 1 - i).toNat) by omega) lt
    have ce : ct (PFX (h 572 0) (ds (ad (nr h 572 2))) (mvf (h 572 0) (ds (ad (nr h 572 2))) k) i) to.toNat = (mrs (h 572 0) (ds (ad (nr h 572 2))) k i.toNat) / (lvr (h 572 0) (ds (ad (nr h 572 2))) ((h 572 0) - 1 - i).toNat) := by omega
    have bm : bit (mkb (PFX (h 572 0) (ds (ad (nr h 572 2))) (mvf (h 572 0) (ds (ad (nr h 572 2))) k) i)) to := bt_mk.mpr ⟨⟨t0, t20⟩, c2⟩
    have cb : ct (bit (mkb (PFX (h 572 0) (ds (ad (nr h 572 2))) (mvf (h 572 0) (ds (ad (nr h 572 2))) k) i))) to.toNat = ct (PFX (h 572 0) (ds (ad (nr h 572 2))) (mvf (h 572 0) (ds (ad (nr h 572 2))) k) i) to.toNat := ct_congr _ (fun j hj => ⟨fun w => (bt_mk.mp w).2, fun w => bt_mk.mpr ⟨by omega, w⟩⟩)
    have te : mvf (h 572 0) (ds (ad (nr h 572 2))) k i = to := by
      rw [mvf_eq hi.1, ← ce, ← cb]
      exact nthb_ct ⟨t0, t20⟩ bm
    have re : (mrs (h 572 0) (ds (ad (nr h 572 2))) k i.toNat) - ct (PFX (h 572 0) (ds (ad (nr h 572 2))) (mvf (h 572 0) (ds (ad (nr h 572 2))) k) i) to.toNat * (lvr (h 572 0) (ds (ad (nr h 572 2))) ((h 572 0) - 1 - i).toNat) = mrs (h 572 0) (ds (ad (nr h 572 2))) k (i + 1).toNat := by
      rw [mrs_S hi.1, ce, Int.emod_def, Int.mul_comm (lvr (h 572 0) (ds (ad (nr h 572 2))) ((h 572 0) - 1 - i).toNat)]
    rw [re]
    refine nx _ ⟨RLS_f2 H.1 (fun x j a b c => by rw [am_up_ne c]; exact q1 x j a b), ?_, fun j a b => ?_⟩
    · obtain ⟨f, F, w, e⟩ := c2
      refine ⟨f, F, fun j a b => ?_⟩
      by_cases z : j = i
      · rw [z, te, e]
      · exact w j a (by omega)
    · by_cases z : j = i
      · rw [z, am_up_eq, te]
      · rw [am_up_ne2 z, q1 _ _ (by omega) (by omega)]; exact H.2.2 j a (by omega)
  · have H1 := MVI_fr H (g' := h') q1
    rw [MVI_p H] at c2
    rw [MVI_p H1] at c5
    exact absurd c2 c5
  · have H1 := MVI_fr H (g' := h') q1
    rw [MVI_p H] at c2
    have cc : ct (PFX (h 572 0) (ds (ad (nr h 572 2))) (mvf (h 572 0) (ds (ad (nr h 572 2))) k) i) (to + 1).toNat = ct (PFX (h 572 0) (ds (ad (nr h 572 2))) (mvf (h 572 0) (ds (ad (nr h 572 2))) k) i) to.toNat + 1 := by rw [ct_to t0, am_b_t c2]
    have le : (ct (PFX (h 572 0) (ds (ad (nr h 572 2))) (mvf (h 572 0) (ds (ad (nr h 572 2))) k) i) to.toNat + 1) * (lvr (h 572 0) (ds (ad (nr h 572 2))) ((h 572 0) - 1 - i).toNat) ≤ (mrs (h 572 0) (ds (ad (nr h 572 2))) k i.toNat) := by rw [Int.add_mul, Int.one_mul]; omega
    have l2 := Int.le_ediv_of_mul_le (show 0 < (lvr (h 572 0) (ds (ad (nr h 572 2))) ((h 572 0) - 1 - i).toNat) by omega) le
    have nn := ih t20 h'_1 (by omega) (MVI_fr H1 q4) (by rw [cc]; exact l2)
    rw [cc, Int.add_mul, Int.one_mul] at nn
    rw [Int.sub_sub]
    exact nn
theorem L275 {K : Option am_V → am_H → Prop} {h : am_H} {k p : Int} (M : DM (h 572 0) (ds (ad (nr h 572 2)))) (hk : 0 ≤ k ∧ k < lvr (h 572 0) (ds (ad (nr h 572 2))) (h 572 0).toNat) (hp : 0 ≤ p ∧ p < (h 572 0)) (hK : ∀ g, RFr h g → K (some (mB (mvf (h 572 0) (ds (ad (nr h 572 2))) k p))) g) : ∀ i, ∀ g : am_H, 0 ≤ i → i ≤ p + 1 → MVI h g k i → am_AT 28 275 38 [some (mR 1 12 0 571), none, none, some (mB p), some (mJ (mrs (h 572 0) (ds (ad (nr h 572 2))) k (i).toNat)), none, some (mI (i)), none, none, none] g K := by
  have hs := M.1
  refine lp (p + 1) (fun i ih g i0 i1 H => ?_)
  have hs1 := H.1.2.2.1
  refine T275_38 ⟨by omega, ⟨fun c1 => ⟨by omega, ?_⟩, fun c1 => ⟨by omega, ⟨by rw [hs1]; exact ⟨H.1.2.1, by omega, by omega⟩, fun h' q2 => ?_⟩⟩⟩⟩
  · rw [H.2.2 p hp.1 (by omega)]
    exact hK g H.1.1
  · have nn := L275b M hk hp hK ⟨i0, c1⟩ (fun g' H' => ih (by omega) g' (by omega) (by omega) H') 0 h' (by omega) (MVI_fr H q2) (by
      show (0 : Int) ≤ _
      have er := lvr_64 (D := (ds (ad (nr h 572 2)))) M (m := ((h 572 0) - 1 - i).toNat) (by omega)
      have mr := mrs_r M hk i.toNat (by omega)
      exact Int.ediv_nonneg mr.1 (by omega))
    rw [show ct (PFX (h 572 0) (ds (ad (nr h 572 2))) (mvf (h 572 0) (ds (ad (nr h 572 2))) k) i) (0 : Int).toNat = 0 from rfl, Int.zero_mul, Int.sub_zero] at nn
    rw [hs1, lvr_dc H.1.2.2.2]
    exact nn
theorem C275_ok : am_CS 28 275 C275 := W275 (fun k p h K hb => by
  refine T275_0 ⟨hb.1, fun h' q1 => ⟨⟨q1.2.2.2.2.1.1.2.1, q1.2.2.2.2.1.1.1⟩, ⟨fun c2 => ?_, fun c2 => ⟨fun c3 => ⟨⟨q1.2.2.2.2.1.1, q1.2.2.2.2.1.2.1, q1.2.2.2.2.2⟩, fun h'_1 q4 => ⟨fun c5 => ?_, fun c5 => ?_⟩⟩, fun c3 => ?_⟩⟩⟩⟩
  · rw [q1.2.2.1] at c2
    exact am_rB (hb.2 h' (LD_q q1)) (ifc_f (fun z => c2 z.1))
  · have M : DM (h' 572 0) (ds (ad (nr h' 572 2))) := DM_ds q1.2.2.2.2.1.1 q1.2.2.2.2.1.2.1
    refine L275 M ⟨c3, c5⟩ c2 (fun g F => am_rB (hb.2 g (RFr_q q1 F)) ?_) 0 h'_1 (by omega) (by omega) ⟨q4, ⟨fun x => x, AU_id _ _, fun j a b => by omega⟩, fun j a b => by omega⟩
    rw [q1.2.1, q1.2.2.1] at c5
    rw [q1.2.2.1] at c2
    rw [ifc_t ⟨c2, c3⟩, ifc_t c5, q1.2.1, q1.2.2.1]
  · refine am_rB (hb.2 h'_1 (RFr_q q1 q4.1)) ?_
    rw [q1.2.1, q1.2.2.1] at c5
    rw [q1.2.2.1] at c2
    rw [ifc_t ⟨c2, c3⟩, ifc_f (by omega)]
  · exact am_rB (hb.2 h' (LD_q q1)) (ifc_f (fun z => by omega)))
