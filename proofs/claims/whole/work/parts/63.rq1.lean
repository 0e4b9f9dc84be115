/-! ===== the reference's queries ===== -/
def Lda (g : am_H) : Prop := NT (g 572 0) (nr g 572 2) ∧ CN (g 572 0) (nr g 572 2) ∧ RLd g (g 572 0) (nr g 572 2)
theorem LD_a {h h' : am_H} (q : LD h h') : Lda h' := ⟨q.2.2.2.2.1.1, q.2.2.2.2.1.2.1, q.2.2.2.2.2⟩
theorem RQ_rf {h : am_H} (H : RIv h) : RQ h h := ⟨fun _ _ _ => rfl, H⟩
theorem ct_ss {P Q : Int → Prop} {a : Int} (n : Nat) (h0 : 0 ≤ a) (h1 : a < n) (hp : ¬ P a) (hq : Q a) (h : ∀ k, P k → Q k) : ct P n + 1 ≤ ct Q n := by
  have e := ct_add (P := P) (Q := fun k => P k ∨ k = a) n h0 h1 hp (fun k => Iff.rfl)
  have e2 := ct_mono (P := fun k => P k ∨ k = a) (Q := Q) n (fun k _ q => q.elim (h k) (fun z => by rw [z]; exact hq))
  omega
/-- one more point is gathered, or not -/
theorem gat_f {P : Int → Prop} {z i : Int} (hz : S20 z) (hb : ∀ p, bit z p ↔ (0 ≤ p ∧ p < i) ∧ P p) (hp : ¬ P i) : ∀ p, bit (iOr z 0) p ↔ (0 ≤ p ∧ p < i + 1) ∧ P p := fun p => by
  rw [bt_or0 hz, hb]
  refine ⟨fun q => ⟨by omega, q.2⟩, fun q => ⟨?_, q.2⟩⟩
  have : p ≠ i := fun e => hp (e ▸ q.2)
  omega
theorem gat_t {P : Int → Prop} {z i : Int} (i0 : 0 ≤ i) (i1 : i < 20) (hb : ∀ p, bit z p ↔ (0 ≤ p ∧ p < i) ∧ P p) (hp : P i) : ∀ p, bit (iOr z (iShl 1 i)) p ↔ (0 ≤ p ∧ p < i + 1) ∧ P p := fun p => by
  rw [bt_or, bt_1 i0 (by omega), hb]
  constructor
  · rintro (q | q)
    · exact ⟨by omega, q.2⟩
    · rw [q]; exact ⟨by omega, hp⟩
  · rintro ⟨q1, q2⟩
    by_cases e : p = i
    · exact Or.inr e
    · exact Or.inl ⟨by omega, q2⟩
theorem S20_or0 {z : Int} (hz : S20 z) : S20 (iOr z 0) := S20_or hz S20_0
/-! 236 FactorNetsModel.first -/
def C236 : am_K := fun as h K => am_a2 as (fun v0 v1 => am_oc 12 571 v0 (am_n v1 (fun part => (RIv h) ∧ (∀ (h' : am_H), RQ h h' → K (some (mB (ifc (0 < (h 572 0) ∧ 0 ≤ part) (fnd (fun k => lab (ptE (nr h 572 2)) k = part) (nl (nr h 572 2)).toNat) (-2)))) (h')))))
theorem W236 {d : Nat} (H : ∀ (part : Int) (h : am_H) (K : Option am_V → am_H → Prop), (RIv h) ∧ (∀ (h' : am_H), RQ h h' → K (some (mB (ifc (0 < (h 572 0) ∧ 0 ≤ part) (fnd (fun k => lab (ptE (nr h 572 2)) k = part) (nl (nr h 572 2)).toNat) (-2)))) (h')) → am_AT d 236 0 [some (mR 1 12 0 571), some (mB part), none] h K) : am_CS d 236 C236 := by
  refine am_CS_of (T := tb236) (mL := 3) (rk := 1) rfl (fun as h K hC => ?_)
  obtain ⟨v0, v1, rfl, hC0⟩ := am_a2_e hC
  obtain ⟨e0, hC1⟩ := am_oc_e hC0
  subst e0
  obtain ⟨part, rfl, hC2⟩ := am_n_e hC1
  refine ⟨Nat.le_of_ble_eq_true rfl, ?_⟩
  exact H part h K hC2
theorem T236_0 {R : Option am_V → am_H → Prop} {h : am_H} {part : Int} (t : ((¬ (0 < h 572 0)) → (R (some (mB (-2))) h)) ∧ ((0 < h 572 0) → (((0 ≤ part) → ((RIv h) ∧ (∀ (h' : am_H), (LD h h') → (am_AT 5 236 20 [some (mR 1 12 0 571), some (mB part), some (mI 0)] h' R)))) ∧ ((part < 0) → (R (some (mB (-2))) h))))) : am_AT 5 236 0 [some (mR 1 12 0 571), some (mB part), none] h R :=
  am_T (d := 4) (m := 236) (T := tb236) (mL := 3) (rk := 1) (cuts := [(20, [1, 1, 2])]) (l := [(209, C209), (220, C220)]) rfl ⟨am_CS_d (by decide) C209_ok, am_CS_d (by decide) C220_ok, trivial⟩ 13 (And.intro (rfl) (And.intro (fun c1 => (t).1 c1) (fun c1 => And.intro (fun c2 => And.intro (rfl) (And.intro (((t).2 c1).1 c2).1 (fun z1_0 z1_1 => ((((t).2 c1).1 c2).2) z1_0 z1_1))) (fun c2 => ((t).2 c1).2 c2))))
theorem T236_20 {R : Option am_V → am_H → Prop} {h : am_H} {part : Int} {x2 : Int} (t : (R32 x2) ∧ (((h 571 21 ≤ x2) → (R (some (mB (-1))) h)) ∧ ((x2 < h 571 21) → ((0 ≤ x2 ∧ x2 < 190) ∧ (((¬ h 583 x2 = part) → (am_AT 5 236 20 [some (mR 1 12 0 571), some (mB part), some (mI (x2 + 1))] h R)) ∧ ((h 583 x2 = part) → ((R32 x2) ∧ (R (some (mB x2)) h)))))))) : am_AT 5 236 20 [some (mR 1 12 0 571), some (mB part), some (mI x2)] h R :=
  am_T (d := 4) (m := 236) (T := tb236) (mL := 3) (rk := 1) (cuts := [(20, [1, 1, 2])]) (l := [(209, C209), (220, C220)]) rfl ⟨am_CS_d (by decide) C209_ok, am_CS_d (by decide) C220_ok, trivial⟩ 16 (And.intro (t).1 (And.intro (fun c3 => ((t).2).1 c3) (fun c3 => And.intro (((t).2).2 c3).1 (And.intro (fun c4 => ((((t).2).2 c3).2).1 c4) (fun c4 => And.intro (((((t).2).2 c3).2).2 c4).1 ((((((t).2).2 c3).2).2 c4).2))))))
theorem L236 {K : Option am_V → am_H → Prop} {g : am_H} (H : Lda g) {part : Int} (hK : K (some (mB (fnd (fun k => lab (ptE (nr g 572 2)) k = part) (nl (nr g 572 2)).toNat))) g) : ∀ i, 0 ≤ i → i ≤ nl (nr g 572 2) → (∀ j, 0 ≤ j → j < i → lab (ptE (nr g 572 2)) j ≠ part) → am_AT 5 236 20 [some (mR 1 12 0 571), some (mB part), some (mI i)] g K := by
  obtain ⟨hN, hC, hD⟩ := H
  have hn1 := hN.1
  have hn2 := hN.2.1
  have hnl := nl_r (nr g 572 2)
  have hL := hD.2.1.1
  have hS := hD.2.2.2.2
  refine lp (nl (nr g 572 2)) (fun i ih i0 i1 hno => ?_)
  refine T236_20 ⟨by omega, ⟨fun c1 => ?_, fun c1 => ⟨by omega, ⟨fun c2 => ?_, fun c2 => ⟨by omega, ?_⟩⟩⟩⟩⟩
  · exact am_rB hK (fnd_no _ (fun j a b => hno j a (by omega)))
  · refine ih (by omega) (by omega) (by omega) (fun j a b => ?_)
    by_cases e : j = i
    · rw [e, ← (hS i i0 (by omega)).1]
      exact c2
    · exact hno j a (by omega)
  · refine am_rB hK (fnd_is i0 ?_ hno _ (by omega))
    rw [← (hS i i0 (by omega)).1]
    exact c2
theorem C236_ok : am_CS 5 236 C236 := W236 (fun part h K hb => by
  refine T236_0 ⟨fun c1 => ?_, fun c1 => ⟨fun c2 => ⟨hb.1, fun h' q3 => ?_⟩, fun c2 => ?_⟩⟩
  · exact am_rB (hb.2 h (RQ_rf hb.1)) (ifc_f (fun q => c1 q.1))
  · refine L236 (LD_a q3) ?_ 0 (by omega) (nl_r _).1 (fun j a b => by omega)
    have e := hb.2 h' (LD_q q3)
    rw [ifc_t ⟨c1, c2⟩, ← q3.2.1] at e
    exact e
  · exact am_rB (hb.2 h (RQ_rf hb.1)) (ifc_f (by omega)))
/-! 278 FactorNetsModel.shell -/
def C278 : am_K := fun as h K => am_a3 as (fun v0 v1 v2 => am_oc 12 571 v0 (am_n v1 (fun p => am_n v2 (fun dd => (RIv h) ∧ (∀ (h' : am_H), RQ h h' → K (some (mB (ifc ((0 ≤ p ∧ p < (h 572 0)) ∧ 0 ≤ dd) (mkb (fun q => q < (h 572 0) ∧ ds (ad (nr h 572 2)) p q = dd)) (-2)))) (h'))))))
theorem W278 {d : Nat} (H : ∀ (p : Int) (dd : Int) (h : am_H) (K : Option am_V → am_H → Prop), (RIv h) ∧ (∀ (h' : am_H), RQ h h' → K (some (mB (ifc ((0 ≤ p ∧ p < (h 572 0)) ∧ 0 ≤ dd) (mkb (fun q => q < (h 572 0) ∧ ds (ad (nr h 572 2)) p q = dd)) (-2)))) (h')) → am_AT d 278 0 [some (mR 1 12 0 571), some (mB p), some (mB dd), none, none] h K) : am_CS d 278 C278 := by
  refine am_CS_of (T := tb278) (mL := 5) (rk := 1) rfl (fun as h K hC => ?_)
  obtain ⟨v0, v1, v2, rfl, hC0⟩ := am_a3_e hC
  obtain ⟨e0, hC1⟩ := am_oc_e hC0
  subst e0
  obtain ⟨p, rfl, hC2⟩ := am_n_e hC1
  obtain ⟨dd, rfl, hC3⟩ := am_n_e hC2
  refine ⟨Nat.le_of_ble_eq_true rfl, ?_⟩
  exact H p dd h K hC3
theorem T278_0 {R : Option am_V → am_H → Prop} {h : am_H} {p : Int} {dd : Int} (t : (RIv h) ∧ (∀ (h' : am_H), (LD h h') → ((h' 572 0 ≤ 20 ∧ 0 ≤ h' 572 0) ∧ (((¬ (0 ≤ p ∧ p < h' 572 0)) → (R (some (mB (-2))) h')) ∧ ((0 ≤ p ∧ p < h' 572 0) → (((0 ≤ dd) → (am_AT 5 278 24 [some (mR 1 12 0 571), some (mB p), some (mB dd), some (mI 0), some (mI 0)] h' R)) ∧ ((dd < 0) → (R (some (mB (-2))) h')))))))) : am_AT 5 278 0 [some (mR 1 12 0 571), some (mB p), some (mB dd), none, none] h R :=
  am_T (d := 4) (m := 278) (T := tb278) (mL := 5) (rk := 1) (cuts := [(24, [1, 1, 1, 2, 2])]) (l := [(210, C210), (212, C212), (220, C220)]) rfl ⟨am_CS_d (by decide) C210_ok, am_CS_d (by decide) C212_ok, am_CS_d (by decide) C220_ok, trivial⟩ 16 (And.intro (rfl) (And.intro (t).1 (fun z2_0 z2_1 => And.intro (rfl) (And.intro (((t).2) z2_0 z2_1).1 (And.intro (fun c5 => ((((t).2) z2_0 z2_1).2).1 c5) (fun c5 => And.intro (fun c6 => (((((t).2) z2_0 z2_1).2).2 c5).1 c6) (fun c6 => (((((t).2) z2_0 z2_1).2).2 c5).2 c6)))))))
theorem T278_24 {R : Option am_V → am_H → Prop} {h : am_H} {p : Int} {dd : Int} {x3 : Int} {x4 : Int} (t : (R32 x4) ∧ (((h 572 0 ≤ x4) → ((R32 x3) ∧ (R (some (mB x3)) h))) ∧ ((x4 < h 572 0) → ((R32 x4) ∧ (((0 ≤ p ∧ p < 20) ∧ (0 ≤ x4 ∧ x4 < 20)) ∧ (((¬ h 580 (20 * p + x4) = dd) → (am_AT 5 278 24 [some (mR 1 12 0 571), some (mB p), some (mB dd), some (mI (iOr x3 0)), some (mI (x4 + 1))] h R)) ∧ ((h 580 (20 * p + x4) = dd) → (am_AT 5 278 24 [some (mR 1 12 0 571), some (mB p), some (mB dd), some (mI (iOr x3 (iShl 1 x4))), some (mI (x4 + 1))] h R)))))))) : am_AT 5 278 24 [some (mR 1 12 0 571), some (mB p), some (mB dd), some (mI x3), some (mI x4)] h R :=
  am_T (d := 4) (m := 278) (T := tb278) (mL := 5) (rk := 1) (cuts := [(24, [1, 1, 1, 2, 2])]) (l := [(210, C210), (212, C212), (220, C220)]) rfl ⟨am_CS_d (by decide) C210_ok, am_CS_d (by decide) C212_ok, am_CS_d (by decide) C220_ok, trivial⟩ 25 (And.intro (⟨by decide, by decide⟩) (And.intro (t).1 (And.intro (fun c7 => And.intro (((t).2).1 c7).1 ((((t).2).1 c7).2)) (fun c7 => And.intro (((t).2).2 c7).1 (And.intro (rfl) (And.intro ((((t).2).2 c7).2).1 (And.intro (fun c8 => (((((t).2).2 c7).2).2).1 c8) (fun c8 => (((((t).2).2 c7).2).2).2 c8))))))))
theorem L278 {K : Option am_V → am_H → Prop} {g : am_H} (H : Lda g) {p dd : Int} (hp : 0 ≤ p ∧ p < g 572 0) (hK : K (some (mB (mkb (fun q => q < g 572 0 ∧ ds (ad (nr g 572 2)) p q = dd)))) g) : ∀ i z, 0 ≤ i → i ≤ g 572 0 → S20 z → (∀ q, bit z q ↔ (0 ≤ q ∧ q < i) ∧ ds (ad (nr g 572 2)) p q = dd) → am_AT 5 278 24 [some (mR 1 12 0 571), some (mB p), some (mB dd), some (mI z), some (mI i)] g K := by
  obtain ⟨hN, hC, hD⟩ := H
  have hn1 := hN.1
  have hn2 := hN.2.1
  refine lp (g 572 0) (fun i ih z i0 i1 hz hbz => ?_)
  have hz1 := hz.1
  have hz2 := hz.2
  have hf : i < g 572 0 → g 580 (20 * p + i) = ds (ad (nr g 572 2)) p i := fun hi => hD.1 p i (by omega) (by omega) (by omega) (by omega)
  refine T278_24 ⟨by omega, ⟨fun c1 => ⟨by omega, ?_⟩, fun c1 => ⟨by omega, ⟨by omega, ⟨fun c2 => ?_, fun c2 => ?_⟩⟩⟩⟩⟩
  · refine am_rB hK (mkb_eq (by omega) (fun q => ?_)).symm
    rw [hbz]
    exact ⟨fun q => ⟨by omega, by omega, q.2⟩, fun q => ⟨by omega, q.2.2⟩⟩
  · rw [hf (by omega)] at c2
    exact ih (by omega) _ (by omega) (by omega) (S20_or0 hz) (gat_f hz hbz c2)
  · rw [hf (by omega)] at c2
    exact ih (by omega) _ (by omega) (by omega) (S20_or hz (S20_1 i0 (by omega))) (gat_t i0 (by omega) hbz c2)
theorem C278_ok : am_CS 5 278 C278 := W278 (fun p dd h K hb => by
  have hn := hb.1.1
  have hn1 := hn.1
  have hn2 := hn.2.1
  refine T278_0 ⟨hb.1, fun h' q1 => ⟨by have e := q1.2.2.1; omega, ⟨fun c2 => ?_, fun c2 => ⟨fun c3 => ?_, fun c3 => ?_⟩⟩⟩⟩
  · have e := q1.2.2.1
    exact am_rB (hb.2 h' (LD_q q1)) (ifc_f (by omega))
  · have e := q1.2.2.1
    refine L278 (LD_a q1) c2 ?_ 0 0 (by omega) (by omega) S20_0 (fun q => ⟨fun z => absurd z bt_zero, fun z => by omega⟩)
    have e2 := hb.2 h' (LD_q q1)
    rw [ifc_t (by omega), ← q1.2.1, ← q1.2.2.1] at e2
    exact e2
  · exact am_rB (hb.2 h' (LD_q q1)) (ifc_f (by omega)))
/-! 279 FactorNetsModel.pairs -/
def C279 : am_K := fun as h K => am_a2 as (fun v0 v1 => am_oc 12 571 v0 (am_n v1 (fun dd => (RIv h) ∧ (∀ (h' : am_H), RQ h h' → K (some (mB (ifc (0 < (h 572 0) ∧ 0 ≤ dd) (prs (h 572 0) (nr h 572 2) dd) (-2)))) (h')))))
theorem W279 {d : Nat} (H : ∀ (dd : Int) (h : am_H) (K : Option am_V → am_H → Prop), (RIv h) ∧ (∀ (h' : am_H), RQ h h' → K (some (mB (ifc (0 < (h 572 0) ∧ 0 ≤ dd) (prs (h 572 0) (nr h 572 2) dd) (-2)))) (h')) → am_AT d 279 0 [some (mR 1 12 0 571), some (mB dd), none, none, none] h K) : am_CS d 279 C279 := by
  refine am_CS_of (T := tb279) (mL := 5) (rk := 1) rfl (fun as h K hC => ?_)
  obtain ⟨v0, v1, rfl, hC0⟩ := am_a2_e hC
  obtain ⟨e0, hC1⟩ := am_oc_e hC0
  subst e0
  obtain ⟨dd, rfl, hC2⟩ := am_n_e hC1
  refine ⟨Nat.le_of_ble_eq_true rfl, ?_⟩
  exact H dd h K hC2
theorem T279_0 {R : Option am_V → am_H → Prop} {h : am_H} {dd : Int} (t : ((¬ (0 < h 572 0)) → (R (some (mB (-2))) h)) ∧ ((0 < h 572 0) → (((0 ≤ dd) → ((RIv h) ∧ (∀ (h' : am_H), (LD h h') → (am_AT 5 279 22 [some (mR 1 12 0 571), some (mB dd), some (mI 0), some (mI 0), none] h' R)))) ∧ ((dd < 0) → (R (some (mB (-2))) h))))) : am_AT 5 279 0 [some (mR 1 12 0 571), some (mB dd), none, none, none] h R :=
  am_T (d := 4) (m := 279) (T := tb279) (mL := 5) (rk := 1) (cuts := [(22, [1, 1, 2, 2, 0]), (35, [1, 1, 2, 2, 2])]) (l := [(209, C209), (212, C212), (220, C220)]) rfl ⟨am_CS_d (by decide) C209_ok, am_CS_d (by decide) C212_ok, am_CS_d (by decide) C220_ok, trivial⟩ 15 (And.intro (rfl) (And.intro (fun c9 => (t).1 c9) (fun c9 => And.intro (fun c10 => And.intro (rfl) (And.intro (((t).2 c9).1 c10).1 (fun z3_0 z3_1 => ((((t).2 c9).1 c10).2) z3_0 z3_1))) (fun c10 => ((t).2 c9).2 c10))))
theorem T279_22 {R : Option am_V → am_H → Prop} {h : am_H} {dd : Int} {x2 : Int} {x3 : Int} (t : (R32 x3) ∧ (((h 572 0 ≤ x3) → ((R32 x2) ∧ (R (some (mB x2)) h))) ∧ ((x3 < h 572 0) → (am_AT 5 279 35 [some (mR 1 12 0 571), some (mB dd), some (mI x2), some (mI x3), some (mI 0)] h R)))) : am_AT 5 279 22 [some (mR 1 12 0 571), some (mB dd), some (mI x2), some (mI x3), none] h R :=
  am_T (d := 4) (m := 279) (T := tb279) (mL := 5) (rk := 1) (cuts := [(22, [1, 1, 2, 2, 0]), (35, [1, 1, 2, 2, 2])]) (l := [(209, C209), (212, C212), (220, C220)]) rfl ⟨am_CS_d (by decide) C209_ok, am_CS_d (by decide) C212_ok, am_CS_d (by decide) C220_ok, trivial⟩ 12 (And.intro (⟨by decide, by decide⟩) (And.intro (t).1 (And.intro (fun c11 => And.intro (((t).2).1 c11).1 ((((t).2).1 c11).2)) (fun c11 => ((t).2).2 c11))))
theorem T279_35 {R : Option am_V → am_H → Prop} {h : am_H} {dd : Int} {x2 : Int} {x3 : Int} {x4 : Int} (t : (R32 x4) ∧ ((R32 x3) ∧ (((x3 ≤ x4) → (am_AT 5 279 22 [some (mR 1 12 0 571), some (mB dd), some (mI x2), some (mI (x3 + 1)), none] h R)) ∧ ((x4 < x3) → ((R32 x3) ∧ ((R32 x4) ∧ (((0 ≤ x3 ∧ x3 < 20) ∧ (0 ≤ x4 ∧ x4 < 20)) ∧ (((¬ h 580 (20 * x3 + x4) = dd) → (am_AT 5 279 35 [some (mR 1 12 0 571), some (mB dd), some (mI (x2 + 0)), some (mI x3), some (mI (x4 + 1))] h R)) ∧ ((h 580 (20 * x3 + x4) = dd) → (am_AT 5 279 35 [some (mR 1 12 0 571), some (mB dd), some (mI (x2 + 1)), some (mI x3), some (mI (x4 + 1))] h R)))))))))) : am_AT 5 279 35 [some (mR 1 12 0 571), some (mB dd), some (mI x2), some (mI x3), some (mI x4)] h R :=
  am_T (d := 4) (m := 279) (T := tb279) (mL := 5) (rk := 1) (cuts := [(22, [1, 1, 2, 2, 0]), (35, [1, 1, 2, 2, 2])]) (l := [(209, C209), (212, C212), (220, C220)]) rfl ⟨am_CS_d (by decide) C209_ok, am_CS_d (by decide) C212_ok, am_CS_d (by decide) C220_ok, trivial⟩ 20 (And.intro (t).1 (And.intro ((t).2).1 (And.intro (fun c12 => (((t).2).2).1 c12) (fun c12 => And.intro ((((t).2).2).2 c12).1 (And.intro (((((t).2).2).2 c12).2).1 (And.intro (rfl) (And.intro ((((((t).2).2).2 c12).2).2).1 (And.intro (fun c13 => (((((((t).2).2).2 c12).2).2).2).1 c13) (fun c13 => (((((((t).2).2).2 c12).2).2).2).2 c13)))))))))
theorem L279 {K : Option am_V → am_H → Prop} {g : am_H} (H : Lda g) {dd : Int} (hK : K (some (mB (prs (g 572 0) (nr g 572 2) dd))) g) : ∀ i, 0 ≤ i → i ≤ g 572 0 → am_AT 5 279 22 [some (mR 1 12 0 571), some (mB dd), some (mI (sm (fun a => ct (fun b => ds (ad (nr g 572 2)) a b = dd) a.toNat) i.toNat)), some (mI i), none] g K := by
  obtain ⟨hN, hC, hD⟩ := H
  have hn1 := hN.1
  have hn2 := hN.2.1
  refine lp (g 572 0) (fun i ih i0 i1 => ?_)
  have hsm := sm_rg (f := fun a => ct (fun b => ds (ad (nr g 572 2)) a b = dd) a.toNat) (m := 20) i.toNat (fun k hk => by have := ct_le (fun b => ds (ad (nr g 572 2)) k b = dd) (k : Int).toNat; omega)
  refine T279_22 ⟨by omega, ⟨fun c1 => ⟨by omega, ?_⟩, fun c1 => ?_⟩⟩
  · rw [show i = g 572 0 by omega]
    exact hK
  · have L2 : ∀ j, 0 ≤ j → j ≤ i → am_AT 5 279 35 [some (mR 1 12 0 571), some (mB dd), some (mI (sm (fun a => ct (fun b => ds (ad (nr g 572 2)) a b = dd) a.toNat) i.toNat + ct (fun b => ds (ad (nr g 572 2)) i b = dd) j.toNat)), some (mI i), some (mI j)] g K := by
      refine lp i (fun j ih2 j0 j1 => ?_)
      have hf : j < i → g 580 (20 * i + j) = ds (ad (nr g 572 2)) i j := fun hi => hD.1 i j (by omega) (by omega) (by omega) (by omega)
      refine T279_35 ⟨by omega, ⟨by omega, ⟨fun c1 => ?_, fun c1 => ⟨by omega, ⟨by omega, ⟨by omega, ⟨fun c2 => ?_, fun c2 => ?_⟩⟩⟩⟩⟩⟩⟩
      · rw [show j = i by omega]
        have := ih (by omega) (by omega) (by omega)
        rw [sm_to i0] at this
        exact this
      · rw [hf (by omega)] at c2
        have := ih2 (by omega) (by omega) (by omega)
        rw [ct_to j0, am_b_f c2, ← Int.add_assoc] at this
        exact this
      · rw [hf (by omega)] at c2
        have := ih2 (by omega) (by omega) (by omega)
        rw [ct_to j0, am_b_t c2, ← Int.add_assoc] at this
        exact this
    have := L2 0 (by omega) i0
    rw [show ct (fun b => ds (ad (nr g 572 2)) i b = dd) (0 : Int).toNat = 0 from rfl, Int.add_zero] at this
    exact this
theorem C279_ok : am_CS 5 279 C279 := W279 (fun dd h K hb => by
  refine T279_0 ⟨fun c1 => ?_, fun c1 => ⟨fun c2 => ⟨hb.1, fun h' q3 => ?_⟩, fun c2 => ?_⟩⟩
  · exact am_rB (hb.2 h (RQ_rf hb.1)) (ifc_f (fun q => c1 q.1))
  · refine L279 (LD_a q3) ?_ 0 (by omega) (LD_a q3).1.1
    have e := hb.2 h' (LD_q q3)
    rw [ifc_t ⟨c1, c2⟩, ← q3.2.1, ← q3.2.2.1] at e
    exact e
  · exact am_rB (hb.2 h (RQ_rf hb.1)) (ifc_f (by omega)))
/-! 280 FactorNetsModel.farthest -/
def C280 : am_K := fun as h K => am_a2 as (fun v0 v1 => am_oc 12 571 v0 (am_n v1 (fun p => ((NT (h 572 0) (nr h 572 2) ∧ CN (h 572 0) (nr h 572 2) ∧ RLd h (h 572 0) (nr h 572 2)) ∧ (0 ≤ p ∧ p < (h 572 0))) ∧ (K (some (mB (ecc (h 572 0) (nr h 572 2) p))) h))))
theorem W280 {d : Nat} (H : ∀ (p : Int) (h : am_H) (K : Option am_V → am_H → Prop), ((NT (h 572 0) (nr h 572 2) ∧ CN (h 572 0) (nr h 572 2) ∧ RLd h (h 572 0) (nr h 572 2)) ∧ (0 ≤ p ∧ p < (h 572 0))) ∧ (K (some (mB (ecc (h 572 0) (nr h 572 2) p))) h) → am_AT d 280 0 [some (mR 1 12 0 571), some (mB p), none, none] h K) : am_CS d 280 C280 := by
  refine am_CS_of (T := tb280) (mL := 4) (rk := 1) rfl (fun as h K hC => ?_)
  obtain ⟨v0, v1, rfl, hC0⟩ := am_a2_e hC
  obtain ⟨e0, hC1⟩ := am_oc_e hC0
  subst e0
  obtain ⟨p, rfl, hC2⟩ := am_n_e hC1
  refine ⟨Nat.le_of_ble_eq_true rfl, ?_⟩
  exact H p h K hC2
theorem T280_0 {R : Option am_V → am_H → Prop} {h : am_H} {p : Int} (t : am_AT 2 280 4 [some (mR 1 12 0 571), some (mB p), some (mI 0), some (mI 0)] h R) : am_AT 2 280 0 [some (mR 1 12 0 571), some (mB p), none, none] h R :=
  am_T (d := 1) (m := 280) (T := tb280) (mL := 4) (rk := 1) (cuts := [(4, [1, 1, 2, 2])]) (l := [(212, C212)]) rfl ⟨am_CS_d (by decide) C212_ok, trivial⟩ 8 (t)
theorem T280_4 {R : Option am_V → am_H → Prop} {h : am_H} {p : Int} {x2 : Int} {x3 : Int} (t : (R32 x3) ∧ (((h 572 0 ≤ x3) → ((R32 x2) ∧ (R (some (mB x2)) h))) ∧ ((x3 < h 572 0) → ((R32 x3) ∧ (((0 ≤ p ∧ p < 20) ∧ (0 ≤ x3 ∧ x3 < 20)) ∧ ((R32 x2) ∧ (am_AT 2 280 4 [some (mR 1 12 0 571), some (mB p), some (mI (max x2 (h 580 (20 * p + x3)))), some (mI (x3 + 1))] h R))))))) : am_AT 2 280 4 [some (mR 1 12 0 571), some (mB p), some (mI x2), some (mI x3)] h R :=
  am_T (d := 1) (m := 280) (T := tb280) (mL := 4) (rk := 1) (cuts := [(4, [1, 1, 2, 2])]) (l := [(212, C212)]) rfl ⟨am_CS_d (by decide) C212_ok, trivial⟩ 19 (And.intro (⟨by decide, by decide⟩) (And.intro (t).1 (And.intro (fun c14 => And.intro (((t).2).1 c14).1 ((((t).2).1 c14).2)) (fun c14 => And.intro (((t).2).2 c14).1 (And.intro (rfl) (And.intro ((((t).2).2 c14).2).1 (And.intro (((((t).2).2 c14).2).2).1 ((((((t).2).2 c14).2).2).2))))))))
theorem L280 {K : Option am_V → am_H → Prop} {g : am_H} (H : Lda g) {p : Int} (hp : 0 ≤ p ∧ p < g 572 0) (hK : K (some (mB (ecc (g 572 0) (nr g 572 2) p))) g) : ∀ i, 0 ≤ i → i ≤ g 572 0 → am_AT 2 280 4 [some (mR 1 12 0 571), some (mB p), some (mI (mxn (fun q => ds (ad (nr g 572 2)) p q) i.toNat)), some (mI i)] g K := by
  obtain ⟨hN, hC, hD⟩ := H
  have hn1 := hN.1
  have hn2 := hN.2.1
  refine lp (g 572 0) (fun i ih i0 i1 => ?_)
  have hm1 := mxn_le (f := fun q => ds (ad (nr g 572 2)) p q) (m := 19) (by omega) i.toNat (fun k a b => by have := ds_r hN hC hp (b := k) (by omega); omega)
  have hm2 := (mxn_ge (f := fun q => ds (ad (nr g 572 2)) p q) i.toNat).1
  refine T280_4 ⟨by omega, ⟨fun c1 => ⟨by omega, ?_⟩, fun c1 => ⟨by omega, ⟨by omega, ⟨by omega, ?_⟩⟩⟩⟩⟩
  · rw [show i = g 572 0 by omega]
    exact hK
  · have hf : g 580 (20 * p + i) = ds (ad (nr g 572 2)) p i := hD.1 p i (by omega) (by omega) (by omega) (by omega)
    rw [hf]
    have := ih (by omega) (by omega) (by omega)
    rw [show (i + 1).toNat = i.toNat + 1 by omega, mxn_succ, Int.toNat_of_nonneg i0] at this
    exact this
theorem C280_ok : am_CS 2 280 C280 := W280 (fun p h K hb => T280_0 (L280 hb.1.1 hb.1.2 hb.2 0 (by omega) hb.1.1.1.1))
/-! 281 FactorNetsModel.width -/
def C281 : am_K := fun as h K => am_a1 as (fun v0 => am_oc 12 571 v0 ((RIv h) ∧ (∀ (h' : am_H), RQ h h' → K (some (mB (ifc (0 < (h 572 0)) (mxn (fun p => ecc (h 572 0) (nr h 572 2) p) (h 572 0).toNat) (-2)))) (h'))))
theorem W281 {d : Nat} (H : ∀  (h : am_H) (K : Option am_V → am_H → Prop), (RIv h) ∧ (∀ (h' : am_H), RQ h h' → K (some (mB (ifc (0 < (h 572 0)) (mxn (fun p => ecc (h 572 0) (nr h 572 2) p) (h 572 0).toNat) (-2)))) (h')) → am_AT d 281 0 [some (mR 1 12 0 571), none, none] h K) : am_CS d 281 C281 := by
  refine am_CS_of (T := tb281) (mL := 3) (rk := 1) rfl (fun as h K hC => ?_)
  obtain ⟨v0, rfl, hC0⟩ := am_a1_e hC
  obtain ⟨e0, hC1⟩ := am_oc_e hC0
  subst e0
  refine ⟨Nat.le_of_ble_eq_true rfl, ?_⟩
  exact H  h K hC1
theorem T281_0 {R : Option am_V → am_H → Prop} {h : am_H} (t : ((0 < h 572 0) → ((RIv h) ∧ (∀ (h' : am_H), (LD h h') → (am_AT 5 281 18 [some (mR 1 12 0 571), some (mI 0), some (mI 0)] h' R)))) ∧ ((¬ (0 < h 572 0)) → (R (some (mB (-2))) h))) : am_AT 5 281 0 [some (mR 1 12 0 571), none, none] h R :=
  am_T (d := 4) (m := 281) (T := tb281) (mL := 3) (rk := 1) (cuts := [(18, [1, 2, 2])]) (l := [(209, C209), (220, C220), (280, C280)]) rfl ⟨am_CS_d (by decide) C209_ok, am_CS_d (by decide) C220_ok, am_CS_d (by decide) C280_ok, trivial⟩ 13 (And.intro (rfl) (And.intro (fun c15 => And.intro (rfl) (And.intro ((t).1 c15).1 (fun z4_0 z4_1 => (((t).1 c15).2) z4_0 z4_1))) (fun c15 => (t).2 c15)))
theorem T281_18 {R : Option am_V → am_H → Prop} {h : am_H} {x1 : Int} {x2 : Int} (t : (R32 x2) ∧ (((h 572 0 ≤ x2) → ((R32 x1) ∧ (R (some (mB x1)) h))) ∧ ((x2 < h 572 0) → ((R32 x2) ∧ (((NT (h 572 0) (nr h 572 2) ∧ CN (h 572 0) (nr h 572 2) ∧ RLd h (h 572 0) (nr h 572 2)) ∧ (0 ≤ x2 ∧ x2 < (h 572 0))) ∧ ((R32 x1) ∧ (am_AT 5 281 18 [some (mR 1 12 0 571), some (mI (max x1 (ecc (h 572 0) (nr h 572 2) x2))), some (mI (x2 + 1))] h R))))))) : am_AT 5 281 18 [some (mR 1 12 0 571), some (mI x1), some (mI x2)] h R :=
  am_T (d := 4) (m := 281) (T := tb281) (mL := 3) (rk := 1) (cuts := [(18, [1, 2, 2])]) (l := [(209, C209), (220, C220), (280, C280)]) rfl ⟨am_CS_d (by decide) C209_ok, am_CS_d (by decide) C220_ok, am_CS_d (by decide) C280_ok, trivial⟩ 18 (And.intro (⟨by decide, by decide⟩) (And.intro (t).1 (And.intro (fun c16 => And.intro (((t).2).1 c16).1 ((((t).2).1 c16).2)) (fun c16 => And.intro (((t).2).2 c16).1 (And.intro (rfl) (And.intro ((((t).2).2 c16).2).1 (And.intro (((((t).2).2 c16).2).2).1 ((((((t).2).2 c16).2).2).2))))))))
theorem L281 {K : Option am_V → am_H → Prop} {g : am_H} (H : Lda g) (hK : K (some (mB (mxn (fun p => ecc (g 572 0) (nr g 572 2) p) (g 572 0).toNat))) g) : ∀ i, 0 ≤ i → i ≤ g 572 0 → am_AT 5 281 18 [some (mR 1 12 0 571), some (mI (mxn (fun p => ecc (g 572 0) (nr g 572 2) p) i.toNat)), some (mI i)] g K := by
  obtain ⟨hN, hC, hD⟩ := H
  have hn1 := hN.1
  have hn2 := hN.2.1
  refine lp (g 572 0) (fun i ih i0 i1 => ?_)
  have hm1 := mxn_le (f := fun p => ecc (g 572 0) (nr g 572 2) p) (m := 19) (by omega) i.toNat (fun k a b => by have := ecc_r hN hC (p := k) (by omega); omega)
  have hm2 := (mxn_ge (f := fun p => ecc (g 572 0) (nr g 572 2) p) i.toNat).1
  refine T281_18 ⟨by omega, ⟨fun c1 => ⟨by omega, ?_⟩, fun c1 => ⟨by omega, ⟨⟨⟨hN, hC, hD⟩, by omega⟩, ⟨by omega, ?_⟩⟩⟩⟩⟩
  · rw [show i = g 572 0 by omega]
    exact hK
  · have := ih (by omega) (by omega) (by omega)
    rw [show (i + 1).toNat = i.toNat + 1 by omega, mxn_succ, Int.toNat_of_nonneg i0] at this
    exact this
theorem C281_ok : am_CS 5 281 C281 := W281 (fun h K hb => by
  refine T281_0 ⟨fun c1 => ⟨hb.1, fun h' q2 => ?_⟩, fun c1 => ?_⟩
  · refine L281 (LD_a q2) ?_ 0 (by omega) (LD_a q2).1.1
    have e := hb.2 h' (LD_q q2)
    rw [ifc_t c1, ← q2.2.1, ← q2.2.2.1] at e
    exact e
  · exact am_rB (hb.2 h (RQ_rf hb.1)) (ifc_f c1))
/-! 282 FactorNetsModel.wiener -/
def C282 : am_K := fun as h K => am_a1 as (fun v0 => am_oc 12 571 v0 ((RIv h) ∧ (∀ (h' : am_H), RQ h h' → K (some (mB (ifc (0 < (h 572 0)) (wnr (h 572 0) (nr h 572 2)) (-2)))) (h'))))
theorem W282 {d : Nat} (H : ∀  (h : am_H) (K : Option am_V → am_H → Prop), (RIv h) ∧ (∀ (h' : am_H), RQ h h' → K (some (mB (ifc (0 < (h 572 0)) (wnr (h 572 0) (nr h 572 2)) (-2)))) (h')) → am_AT d 282 0 [some (mR 1 12 0 571), none, none, none] h K) : am_CS d 282 C282 := by
  refine am_CS_of (T := tb282) (mL := 4) (rk := 1) rfl (fun as h K hC => ?_)
  obtain ⟨v0, rfl, hC0⟩ := am_a1_e hC
  obtain ⟨e0, hC1⟩ := am_oc_e hC0
  subst e0
  refine ⟨Nat.le_of_ble_eq_true rfl, ?_⟩
  exact H  h K hC1
theorem T282_0 {R : Option am_V → am_H → Prop} {h : am_H} (t : ((0 < h 572 0) → ((RIv h) ∧ (∀ (h' : am_H), (LD h h') → (am_AT 5 282 18 [some (mR 1 12 0 571), some (mI 0), some (mI 0), none] h' R)))) ∧ ((¬ (0 < h 572 0)) → (R (some (mB (-2))) h))) : am_AT 5 282 0 [some (mR 1 12 0 571), none, none, none] h R :=
  am_T (d := 4) (m := 282) (T := tb282) (mL := 4) (rk := 1) (cuts := [(18, [1, 2, 2, 0]), (30, [1, 2, 2, 2])]) (l := [(209, C209), (212, C212), (220, C220)]) rfl ⟨am_CS_d (by decide) C209_ok, am_CS_d (by decide) C212_ok, am_CS_d (by decide) C220_ok, trivial⟩ 13 (And.intro (rfl) (And.intro (fun c17 => And.intro (rfl) (And.intro ((t).1 c17).1 (fun z5_0 z5_1 => (((t).1 c17).2) z5_0 z5_1))) (fun c17 => (t).2 c17)))
theorem T282_18 {R : Option am_V → am_H → Prop} {h : am_H} {x1 : Int} {x2 : Int} (t : (R32 x2) ∧ (((h 572 0 ≤ x2) → ((R32 x1) ∧ (R (some (mB x1)) h))) ∧ ((x2 < h 572 0) → (am_AT 5 282 30 [some (mR 1 12 0 571), some (mI x1), some (mI x2), some (mI 0)] h R)))) : am_AT 5 282 18 [some (mR 1 12 0 571), some (mI x1), some (mI x2), none] h R :=
  am_T (d := 4) (m := 282) (T := tb282) (mL := 4) (rk := 1) (cuts := [(18, [1, 2, 2, 0]), (30, [1, 2, 2, 2])]) (l := [(209, C209), (212, C212), (220, C220)]) rfl ⟨am_CS_d (by decide) C209_ok, am_CS_d (by decide) C212_ok, am_CS_d (by decide) C220_ok, trivial⟩ 12 (And.intro (⟨by decide, by decide⟩) (And.intro (t).1 (And.intro (fun c18 => And.intro (((t).2).1 c18).1 ((((t).2).1 c18).2)) (fun c18 => ((t).2).2 c18))))
theorem T282_30 {R : Option am_V → am_H → Prop} {h : am_H} {x1 : Int} {x2 : Int} {x3 : Int} (t : (R32 x3) ∧ ((R32 x2) ∧ (((x2 ≤ x3) → (am_AT 5 282 18 [some (mR 1 12 0 571), some (mI x1), some (mI (x2 + 1)), none] h R)) ∧ ((x3 < x2) → ((R32 x2) ∧ ((R32 x3) ∧ (((0 ≤ x2 ∧ x2 < 20) ∧ (0 ≤ x3 ∧ x3 < 20)) ∧ (am_AT 5 282 30 [some (mR 1 12 0 571), some (mI (x1 + (h 580 (20 * x2 + x3)))), some (mI x2), some (mI (x3 + 1))] h R)))))))) : am_AT 5 282 30 [some (mR 1 12 0 571), some (mI x1), some (mI x2), some (mI x3)] h R :=
  am_T (d := 4) (m := 282) (T := tb282) (mL := 4) (rk := 1) (cuts := [(18, [1, 2, 2, 0]), (30, [1, 2, 2, 2])]) (l := [(209, C209), (212, C212), (220, C220)]) rfl ⟨am_CS_d (by decide) C209_ok, am_CS_d (by decide) C212_ok, am_CS_d (by decide) C220_ok, trivial⟩ 16 (And.intro (t).1 (And.intro ((t).2).1 (And.intro (fun c19 => (((t).2).2).1 c19) (fun c19 => And.intro ((((t).2).2).2 c19).1 (And.intro (((((t).2).2).2 c19).2).1 (And.intro (rfl) (And.intro ((((((t).2).2).2 c19).2).2).1 (((((((t).2).2).2 c19).2).2).2))))))))
theorem L282 {K : Option am_V → am_H → Prop} {g : am_H} (H : Lda g) (hK : K (some (mB (wnr (g 572 0) (nr g 572 2)))) g) : ∀ i, 0 ≤ i → i ≤ g 572 0 → am_AT 5 282 18 [some (mR 1 12 0 571), some (mI (sm (fun a => sm (fun b => ds (ad (nr g 572 2)) a b) a.toNat) i.toNat)), some (mI i), none] g K := by
  obtain ⟨hN, hC, hD⟩ := H
  have hn1 := hN.1
  have hn2 := hN.2.1
  refine lp (g 572 0) (fun i ih i0 i1 => ?_)
  have hsm := sm_rg (f := fun a => sm (fun b => ds (ad (nr g 572 2)) a b) a.toNat) (m := 400) i.toNat (fun k hk => by
    have := sm_rg (f := fun b => ds (ad (nr g 572 2)) k b) (m := 20) (k : Int).toNat (fun j hj => by have := ds_r hN hC (a := k) (b := j) (by omega) (by omega); omega)
    omega)
  refine T282_18 ⟨by omega, ⟨fun c1 => ⟨by omega, ?_⟩, fun c1 => ?_⟩⟩
  · rw [show i = g 572 0 by omega]
    exact hK
  · have L2 : ∀ j, 0 ≤ j → j ≤ i → am_AT 5 282 30 [some (mR 1 12 0 571), some (mI (sm (fun a => sm (fun b => ds (ad (nr g 572 2)) a b) a.toNat) i.toNat + sm (fun b => ds (ad (nr g 572 2)) i b) j.toNat)), some (mI i), some (mI j)] g K := by
      refine lp i (fun j ih2 j0 j1 => ?_)
      refine T282_30 ⟨by omega, ⟨by omega, ⟨fun c1 => ?_, fun c1 => ⟨by omega, ⟨by omega, ⟨by omega, ?_⟩⟩⟩⟩⟩⟩
      · rw [show j = i by omega]
        have := ih (by omega) (by omega) (by omega)
        rw [sm_to i0] at this
        exact this
      · have hf : g 580 (20 * i + j) = ds (ad (nr g 572 2)) i j := hD.1 i j (by omega) (by omega) (by omega) (by omega)
        have := ih2 (by omega) (by omega) (by omega)
        rw [sm_to j0, ← Int.add_assoc] at this
        rw [hf]
        exact this
    have := L2 0 (by omega) i0
    rw [show sm (fun b => ds (ad (nr g 572 2)) i b) (0 : Int).toNat = 0 from rfl, Int.add_zero] at this
    exact this
theorem C282_ok : am_CS 5 282 C282 := W282 (fun h K hb => by
  refine T282_0 ⟨fun c1 => ⟨hb.1, fun h' q2 => ?_⟩, fun c1 => ?_⟩
  · refine L282 (LD_a q2) ?_ 0 (by omega) (LD_a q2).1.1
    have e := hb.2 h' (LD_q q2)
    rw [ifc_t c1, ← q2.2.1, ← q2.2.2.1] at e
    exact e
  · exact am_rB (hb.2 h (RQ_rf hb.1)) (ifc_f c1))
/-! 283 FactorNetsModel.centre -/
def C283 : am_K := fun as h K => am_a1 as (fun v0 => am_oc 12 571 v0 ((RIv h) ∧ (∀ (h' : am_H), RQ h h' → K (some (mB (ifc (0 < (h 572 0)) (cen (h 572 0) (nr h 572 2)) (-2)))) (h'))))
theorem W283 {d : Nat} (H : ∀  (h : am_H) (K : Option am_V → am_H → Prop), (RIv h) ∧ (∀ (h' : am_H), RQ h h' → K (some (mB (ifc (0 < (h 572 0)) (cen (h 572 0) (nr h 572 2)) (-2)))) (h')) → am_AT d 283 0 [some (mR 1 12 0 571), none, none, none, none] h K) : am_CS d 283 C283 := by
  refine am_CS_of (T := tb283) (mL := 5) (rk := 1) rfl (fun as h K hC => ?_)
  obtain ⟨v0, rfl, hC0⟩ := am_a1_e hC
  obtain ⟨e0, hC1⟩ := am_oc_e hC0
  subst e0
  refine ⟨Nat.le_of_ble_eq_true rfl, ?_⟩
  exact H  h K hC1
theorem T283_0 {R : Option am_V → am_H → Prop} {h : am_H} (t : ((0 < h 572 0) → ((RIv h) ∧ (∀ (h' : am_H), (LD h h') → (am_AT 5 283 22 [some (mR 1 12 0 571), some (mI 1000), some (mI 0), some (mI 0), none] h' R)))) ∧ ((¬ (0 < h 572 0)) → (R (some (mB (-2))) h))) : am_AT 5 283 0 [some (mR 1 12 0 571), none, none, none, none] h R :=
  am_T (d := 4) (m := 283) (T := tb283) (mL := 5) (rk := 1) (cuts := [(22, [1, 2, 2, 2, 0])]) (l := [(209, C209), (220, C220), (280, C280)]) rfl ⟨am_CS_d (by decide) C209_ok, am_CS_d (by decide) C220_ok, am_CS_d (by decide) C280_ok, trivial⟩ 15 (And.intro (rfl) (And.intro (fun c20 => And.intro (rfl) (And.intro ((t).1 c20).1 (fun z6_0 z6_1 => (((t).1 c20).2) z6_0 z6_1))) (fun c20 => (t).2 c20)))
theorem T283_22 {R : Option am_V → am_H → Prop} {h : am_H} {x1 : Int} {x2 : Int} {x3 : Int} (t : (R32 x3) ∧ (((h 572 0 ≤ x3) → ((R32 x2) ∧ (R (some (mB x2)) h))) ∧ ((x3 < h 572 0) → ((R32 x3) ∧ (((NT (h 572 0) (nr h 572 2) ∧ CN (h 572 0) (nr h 572 2) ∧ RLd h (h 572 0) (nr h 572 2)) ∧ (0 ≤ x3 ∧ x3 < (h 572 0))) ∧ ((R32 x1) ∧ (((x1 ≤ ecc (h 572 0) (nr h 572 2) x3) → ((R32 x1) ∧ (((¬ ecc (h 572 0) (nr h 572 2) x3 = x1) → ((R32 x1) ∧ (am_AT 5 283 22 [some (mR 1 12 0 571), some (mI (min x1 (ecc (h 572 0) (nr h 572 2) x3))), some (mI x2), some (mI (x3 + 1)), none] h R))) ∧ ((ecc (h 572 0) (nr h 572 2) x3 = x1) → ((R32 x1) ∧ (am_AT 5 283 22 [some (mR 1 12 0 571), some (mI (min x1 (ecc (h 572 0) (nr h 572 2) x3))), some (mI (iOr x2 (iShl 1 x3))), some (mI (x3 + 1)), none] h R)))))) ∧ ((ecc (h 572 0) (nr h 572 2) x3 < x1) → ((R32 x1) ∧ (am_AT 5 283 22 [some (mR 1 12 0 571), some (mI (min x1 (ecc (h 572 0) (nr h 572 2) x3))), some (mI (iShl 1 x3)), some (mI (x3 + 1)), none] h R)))))))))) : am_AT 5 283 22 [some (mR 1 12 0 571), some (mI x1), some (mI x2), some (mI x3), none] h R :=
  am_T (d := 4) (m := 283) (T := tb283) (mL := 5) (rk := 1) (cuts := [(22, [1, 2, 2, 2, 0])]) (l := [(209, C209), (220, C220), (280, C280)]) rfl ⟨am_CS_d (by decide) C209_ok, am_CS_d (by decide) C220_ok, am_CS_d (by decide) C280_ok, trivial⟩ 33 (And.intro (⟨by decide, by decide⟩) (And.intro (t).1 (And.intro (fun c21 => And.intro (((t).2).1 c21).1 ((((t).2).1 c21).2)) (fun c21 => And.intro (((t).2).2 c21).1 (And.intro (rfl) (And.intro ((((t).2).2 c21).2).1 (And.intro (((((t).2).2 c21).2).2).1 (And.intro (fun c22 => And.intro (((((((t).2).2 c21).2).2).2).1 c22).1 (And.intro (fun c23 => And.intro (((((((((t).2).2 c21).2).2).2).1 c22).2).1 c23).1 ((((((((((t).2).2 c21).2).2).2).1 c22).2).1 c23).2)) (fun c23 => And.intro (((((((((t).2).2 c21).2).2).2).1 c22).2).2 c23).1 ((((((((((t).2).2 c21).2).2).2).1 c22).2).2 c23).2)))) (fun c22 => And.intro (((((((t).2).2 c21).2).2).2).2 c22).1 ((((((((t).2).2 c21).2).2).2).2 c22).2))))))))))
theorem L283 {K : Option am_V → am_H → Prop} {g : am_H} (H : Lda g) (hK : K (some (mB (cen (g 572 0) (nr g 572 2)))) g) : ∀ i x z, 0 ≤ i → i ≤ g 572 0 → (0 ≤ x ∧ x ≤ 1000) → S20 z → (∀ p, 0 ≤ p → p < i → x ≤ ecc (g 572 0) (nr g 572 2) p) → (0 < i → ∃ p, (0 ≤ p ∧ p < i) ∧ ecc (g 572 0) (nr g 572 2) p = x) → (∀ p, bit z p ↔ (0 ≤ p ∧ p < i) ∧ ecc (g 572 0) (nr g 572 2) p = x) → (i = 0 → x = 1000) → am_AT 5 283 22 [some (mR 1 12 0 571), some (mI x), some (mI z), some (mI i), none] g K := by
  obtain ⟨hN, hC, hD⟩ := H
  have hn1 := hN.1
  have hn2 := hN.2.1
  refine lp (g 572 0) (fun i ih x z i0 i1 hx hz h1 h2 h3 h4 => ?_)
  have hz1 := hz.1
  have hz2 := hz.2
  have he : i < g 572 0 → 0 ≤ ecc (g 572 0) (nr g 572 2) i ∧ ecc (g 572 0) (nr g 572 2) i < 20 := fun hi => ecc_r hN hC ⟨i0, hi⟩
  refine T283_22 ⟨by omega, ⟨fun c1 => ⟨by omega, ?_⟩, fun c1 => ⟨by omega, ⟨⟨⟨hN, hC, hD⟩, by omega⟩, ⟨by omega, ⟨fun c2 => ⟨by omega, ⟨fun c3 => ⟨by omega, ?_⟩, fun c3 => ⟨by omega, ?_⟩⟩⟩, fun c2 => ⟨by omega, ?_⟩⟩⟩⟩⟩⟩⟩
  · refine am_rB hK (mkb_eq (by omega) (fun p => ?_)).symm
    rw [h3]
    constructor
    · rintro ⟨q1, q2⟩
      exact ⟨by omega, by omega, fun q a b => by have := h1 q a (by omega); omega⟩
    · rintro ⟨q1, q2, q3⟩
      refine ⟨by omega, ?_⟩
      obtain ⟨p', a, b⟩ := h2 (by omega)
      have h5 := q3 p' a.1 (by omega)
      have h6 := h1 p q1.1 (by omega)
      omega
  · rw [show min x (ecc (g 572 0) (nr g 572 2) i) = x by omega]
    refine ih (by omega) x z (by omega) (by omega) hx hz (fun p a b => ?_) (fun _ => ?_) (fun p => ?_) (by omega)
    · by_cases e5 : p = i
      · rw [e5]; exact c2
      · exact h1 p a (by omega)
    · by_cases e5 : i = 0
      · have h7 := he (by omega)
        have h8 := h4 e5
        omega
      · obtain ⟨p, a, b⟩ := h2 (by omega)
        exact ⟨p, by omega, b⟩
    · rw [h3]
      refine ⟨fun q => ⟨by omega, q.2⟩, fun q => ⟨?_, q.2⟩⟩
      have : p ≠ i := fun e5 => c3 (e5 ▸ q.2)
      omega
  · rw [show min x (ecc (g 572 0) (nr g 572 2) i) = x by omega]
    refine ih (by omega) x _ (by omega) (by omega) hx (S20_or hz (S20_1 i0 (by omega))) (fun p a b => ?_) (fun _ => ⟨i, by omega, c3⟩) (gat_t (P := fun p => ecc (g 572 0) (nr g 572 2) p = x) i0 (by omega) h3 c3) (by omega)
    by_cases e5 : p = i
    · rw [e5]; omega
    · exact h1 p a (by omega)
  · have h7 := he (by omega)
    rw [show min x (ecc (g 572 0) (nr g 572 2) i) = ecc (g 572 0) (nr g 572 2) i by omega]
    refine ih (by omega) (ecc (g 572 0) (nr g 572 2) i) _ (by omega) (by omega) (by omega) (S20_1 i0 (by omega)) (fun p a b => ?_) (fun _ => ⟨i, by omega, rfl⟩) (fun p => ?_) (by omega)
    · by_cases e5 : p = i
      · rw [e5]; omega
      · have := h1 p a (by omega); omega
    · rw [bt_1 i0 (by omega)]
      constructor
      · rintro q
        rw [q]; exact ⟨by omega, rfl⟩
      · rintro ⟨q1, q2⟩
        by_cases e5 : p = i
        · exact e5
        · have := h1 p q1.1 (by omega); omega
theorem C283_ok : am_CS 5 283 C283 := W283 (fun h K hb => by
  refine T283_0 ⟨fun c1 => ⟨hb.1, fun h' q2 => ?_⟩, fun c1 => ?_⟩
  · refine L283 (LD_a q2) ?_ 0 1000 0 (by omega) (LD_a q2).1.1 (by omega) S20_0 (fun p a b => by omega) (fun q => by omega) (fun p => ⟨fun q => absurd q bt_zero, fun q => by omega⟩) (fun _ => rfl)
    have e := hb.2 h' (LD_q q2)
    rw [ifc_t c1, ← q2.2.1, ← q2.2.2.1] at e
    exact e
  · exact am_rB (hb.2 h (RQ_rf hb.1)) (ifc_f c1))
/-! 291 FactorNetsModel.nearer -/
def C291 : am_K := fun as h K => am_a3 as (fun v0 v1 v2 => am_oc 12 571 v0 (am_n v1 (fun k => am_n v2 (fun w => (RIv h) ∧ (∀ (h' : am_H), RQ h h' → K (some (mB (ifc ((0 ≤ k ∧ k < nl (nr h 572 2)) ∧ (0 ≤ w ∧ w ≤ 2)) (nea (h 572 0) (nr h 572 2) k w) (-2)))) (h'))))))
theorem W291 {d : Nat} (H : ∀ (k : Int) (w : Int) (h : am_H) (K : Option am_V → am_H → Prop), (RIv h) ∧ (∀ (h' : am_H), RQ h h' → K (some (mB (ifc ((0 ≤ k ∧ k < nl (nr h 572 2)) ∧ (0 ≤ w ∧ w ≤ 2)) (nea (h 572 0) (nr h 572 2) k w) (-2)))) (h')) → am_AT d 291 0 [some (mR 1 12 0 571), some (mB k), some (mB w), none, none, none] h K) : am_CS d 291 C291 := by
  refine am_CS_of (T := tb291) (mL := 6) (rk := 1) rfl (fun as h K hC => ?_)
  obtain ⟨v0, v1, v2, rfl, hC0⟩ := am_a3_e hC
  obtain ⟨e0, hC1⟩ := am_oc_e hC0
  subst e0
  obtain ⟨k, rfl, hC2⟩ := am_n_e hC1
  obtain ⟨w, rfl, hC3⟩ := am_n_e hC2
  refine ⟨Nat.le_of_ble_eq_true rfl, ?_⟩
  exact H k w h K hC3
theorem T291_0 {R : Option am_V → am_H → Prop} {h : am_H} {k : Int} {w : Int} (t : (RIv h) ∧ (∀ (h' : am_H), (LD h h') → (((¬ (0 ≤ k ∧ k < nl (nr h 572 2))) → (R (some (mB (-2))) h')) ∧ ((0 ≤ k ∧ k < nl (nr h 572 2)) → ((((0 : Int) ≤ w ∧ w ≤ (2 : Int)) → (am_AT 6 291 28 [some (mR 1 12 0 571), some (mB k), some (mB w), some (mI 0), some (mI 0), none] h' R)) ∧ ((¬ ((0 : Int) ≤ w ∧ w ≤ (2 : Int))) → (R (some (mB (-2))) h'))))))) : am_AT 6 291 0 [some (mR 1 12 0 571), some (mB k), some (mB w), none, none, none] h R :=
  am_T (d := 5) (m := 291) (T := tb291) (mL := 6) (rk := 1) (cuts := [(28, [1, 1, 1, 2, 2, 0])]) (l := [(187, C187), (212, C212), (221, C221)]) rfl ⟨am_CS_d (by decide) C187_ok, am_CS_d (by decide) C212_ok, am_CS_d (by decide) C221_ok, trivial⟩ 18 (And.intro (rfl) (And.intro (t).1 (fun z7_0 z7_1 => And.intro (fun c24 => (((t).2) z7_0 z7_1).1 c24) (fun c24 => And.intro (fun c25 => ((((t).2) z7_0 z7_1).2 c24).1 c25) (fun c25 => ((((t).2) z7_0 z7_1).2 c24).2 c25)))))
theorem T291_28 {R : Option am_V → am_H → Prop} {h : am_H} {k : Int} {w : Int} {x3 : Int} {x4 : Int} (t : (R32 x4) ∧ (((h 572 0 ≤ x4) → ((R32 x3) ∧ (R (some (mB x3)) h))) ∧ ((x4 < h 572 0) → ((0 ≤ k ∧ k < 190) ∧ ((R32 x4) ∧ (((0 ≤ x4 ∧ x4 < 20) ∧ (0 ≤ (h 581 k) ∧ (h 581 k) < 20)) ∧ ((0 ≤ k ∧ k < 190) ∧ ((R32 x4) ∧ (((0 ≤ x4 ∧ x4 < 20) ∧ (0 ≤ (h 582 k) ∧ (h 582 k) < 20)) ∧ (((¬ w = 0) → (((¬ w = 1) → ((R32 ((h 580 (20 * x4 + (h 581 k))) - (h 580 (20 * x4 + (h 582 k))))) ∧ (((¬ (h 580 (20 * x4 + (h 581 k))) - (h 580 (20 * x4 + (h 582 k))) = 0) → (am_AT 6 291 28 [some (mR 1 12 0 571), some (mB k), some (mB w), some (mI (iOr x3 0)), some (mI (x4 + 1)), none] h R)) ∧ (((h 580 (20 * x4 + (h 581 k))) - (h 580 (20 * x4 + (h 582 k))) = 0) → (am_AT 6 291 28 [some (mR 1 12 0 571), some (mB k), some (mB w), some (mI (iOr x3 (iShl 1 x4))), some (mI (x4 + 1)), none] h R))))) ∧ ((w = 1) → ((R32 ((h 580 (20 * x4 + (h 581 k))) - (h 580 (20 * x4 + (h 582 k))))) ∧ ((((h 580 (20 * x4 + (h 581 k))) - (h 580 (20 * x4 + (h 582 k))) ≤ 0) → (am_AT 6 291 28 [some (mR 1 12 0 571), some (mB k), some (mB w), some (mI (iOr x3 0)), some (mI (x4 + 1)), none] h R)) ∧ ((0 < (h 580 (20 * x4 + (h 581 k))) - (h 580 (20 * x4 + (h 582 k)))) → (am_AT 6 291 28 [some (mR 1 12 0 571), some (mB k), some (mB w), some (mI (iOr x3 (iShl 1 x4))), some (mI (x4 + 1)), none] h R))))))) ∧ ((w = 0) → ((R32 ((h 580 (20 * x4 + (h 581 k))) - (h 580 (20 * x4 + (h 582 k))))) ∧ (((0 ≤ (h 580 (20 * x4 + (h 581 k))) - (h 580 (20 * x4 + (h 582 k)))) → (am_AT 6 291 28 [some (mR 1 12 0 571), some (mB k), some (mB w), some (mI (iOr x3 0)), some (mI (x4 + 1)), none] h R)) ∧ (((h 580 (20 * x4 + (h 581 k))) - (h 580 (20 * x4 + (h 582 k))) < 0) → (am_AT 6 291 28 [some (mR 1 12 0 571), some (mB k), some (mB w), some (mI (iOr x3 (iShl 1 x4))), some (mI (x4 + 1)), none] h R))))))))))))))) : am_AT 6 291 28 [some (mR 1 12 0 571), some (mB k), some (mB w), some (mI x3), some (mI x4), none] h R :=
  am_T (d := 5) (m := 291) (T := tb291) (mL := 6) (rk := 1) (cuts := [(28, [1, 1, 1, 2, 2, 0])]) (l := [(187, C187), (212, C212), (221, C221)]) rfl ⟨am_CS_d (by decide) C187_ok, am_CS_d (by decide) C212_ok, am_CS_d (by decide) C221_ok, trivial⟩ 43 (And.intro (⟨by decide, by decide⟩) (And.intro (t).1 (And.intro (fun c26 => And.intro (((t).2).1 c26).1 ((((t).2).1 c26).2)) (fun c26 => And.intro (((t).2).2 c26).1 (And.intro ((((t).2).2 c26).2).1 (And.intro (rfl) (And.intro (((((t).2).2 c26).2).2).1 (And.intro ((((((t).2).2 c26).2).2).2).1 (And.intro (((((((t).2).2 c26).2).2).2).2).1 (And.intro (rfl) (And.intro ((((((((t).2).2 c26).2).2).2).2).2).1 (And.intro (fun c27 => And.intro (fun c28 => And.intro (((((((((((t).2).2 c26).2).2).2).2).2).2).1 c27).1 c28).1 (And.intro (fun c29 => ((((((((((((t).2).2 c26).2).2).2).2).2).2).1 c27).1 c28).2).1 c29) (fun c29 => ((((((((((((t).2).2 c26).2).2).2).2).2).2).1 c27).1 c28).2).2 c29))) (fun c28 => And.intro (((((((((((t).2).2 c26).2).2).2).2).2).2).1 c27).2 c28).1 (And.intro (fun c30 => ((((((((((((t).2).2 c26).2).2).2).2).2).2).1 c27).2 c28).2).1 c30) (fun c30 => ((((((((((((t).2).2 c26).2).2).2).2).2).2).1 c27).2 c28).2).2 c30)))) (fun c27 => And.intro ((((((((((t).2).2 c26).2).2).2).2).2).2).2 c27).1 (And.intro (fun c31 => (((((((((((t).2).2 c26).2).2).2).2).2).2).2 c27).2).1 c31) (fun c31 => (((((((((((t).2).2 c26).2).2).2).2).2).2).2 c27).2).2 c31)))))))))))))))
def NeP (r : Int → Int) (k w p : Int) : Prop := if w = 0 then ds (ad r) (lo r k) p < ds (ad r) (hi r k) p else if w = 1 then ds (ad r) (hi r k) p < ds (ad r) (lo r k) p else ds (ad r) (lo r k) p = ds (ad r) (hi r k) p
theorem nea_p {n : Int} {r : Int → Int} {k w : Int} : nea n r k w = mkb (fun p => p < n ∧ NeP r k w p) := by
  unfold nea NeP
  by_cases c : w = 0
  · rw [if_pos c]
    exact mkb_congr (fun p _ _ => by rw [if_pos c])
  · rw [if_neg c]
    by_cases c2 : w = 1
    · rw [if_pos c2]
      exact mkb_congr (fun p _ _ => by rw [if_neg c, if_pos c2])
    · rw [if_neg c2]
      exact mkb_congr (fun p _ _ => by rw [if_neg c, if_neg c2])
theorem L291 {K : Option am_V → am_H → Prop} {g : am_H} (H : Lda g) {k w : Int} (hk : 0 ≤ k ∧ k < nl (nr g 572 2)) (hK : K (some (mB (nea (g 572 0) (nr g 572 2) k w))) g) : ∀ i z, 0 ≤ i → i ≤ g 572 0 → S20 z → (∀ q, bit z q ↔ (0 ≤ q ∧ q < i) ∧ NeP (nr g 572 2) k w q) → am_AT 6 291 28 [some (mR 1 12 0 571), some (mB k), some (mB w), some (mI z), some (mI i), none] g K := by
  obtain ⟨hN, hC, hD⟩ := H
  have hn1 := hN.1
  have hn2 := hN.2.1
  have hnl := nl_r (nr g 572 2)
  obtain ⟨a1, a2⟩ := hD.2.1.2 k hk.1 hk.2
  obtain ⟨p1, p2, -, -⟩ := lo_n hN hk.1 hk.2
  refine lp (g 572 0) (fun i ih z i0 i1 hz hbz => ?_)
  have hz1 := hz.1
  have hz2 := hz.2
  have hf : i < g 572 0 → g 580 (20 * i + g 581 k) - g 580 (20 * i + g 582 k) = ds (ad (nr g 572 2)) (lo (nr g 572 2) k) i - ds (ad (nr g 572 2)) (hi (nr g 572 2) k) i := fun hi => by
    rw [a1, a2, hD.1 i _ (by omega) (by omega) (by omega) (by omega), hD.1 i _ (by omega) (by omega) (by omega) (by omega), ds_comm (NT_sym hN) (a := i), ds_comm (NT_sym hN) (a := i)]
  have hr : i < g 572 0 → R32 (g 580 (20 * i + g 581 k) - g 580 (20 * i + g 582 k)) := fun hi => by
    rw [hf hi]
    have := ds_r hN hC p1 (b := i) ⟨i0, hi⟩
    have := ds_r hN hC p2 (b := i) ⟨i0, hi⟩
    omega
  refine T291_28 ⟨by omega, ⟨fun c1 => ⟨by omega, ?_⟩, fun c1 => ⟨by omega, ⟨by omega, ⟨by omega, ⟨by omega, ⟨by omega, ⟨by omega, ⟨fun c2 => ⟨fun c3 => ⟨hr (by omega), ⟨fun c4 => ?_, fun c4 => ?_⟩⟩, fun c3 => ⟨hr (by omega), ⟨fun c4 => ?_, fun c4 => ?_⟩⟩⟩, fun c2 => ⟨hr (by omega), ⟨fun c3 => ?_, fun c3 => ?_⟩⟩⟩⟩⟩⟩⟩⟩⟩⟩⟩
  · refine am_rB hK ?_
    rw [nea_p]
    refine (mkb_eq (by omega) (fun q => ?_)).symm
    rw [hbz]
    exact ⟨fun q => ⟨by omega, by omega, q.2⟩, fun q => ⟨by omega, q.2.2⟩⟩
  · rw [hf (by omega)] at c4
    exact ih (by omega) _ (by omega) (by omega) (S20_or0 hz) (gat_f hz hbz (by unfold NeP; rw [if_neg c2, if_neg c3]; omega))
  · rw [hf (by omega)] at c4
    exact ih (by omega) _ (by omega) (by omega) (S20_or hz (S20_1 i0 (by omega))) (gat_t i0 (by omega) hbz (by unfold NeP; rw [if_neg c2, if_neg c3]; omega))
  · rw [hf (by omega)] at c4
    exact ih (by omega) _ (by omega) (by omega) (S20_or0 hz) (gat_f hz hbz (by unfold NeP; rw [if_neg c2, if_pos c3]; omega))
  · rw [hf (by omega)] at c4
    exact ih (by omega) _ (by omega) (by omega) (S20_or hz (S20_1 i0 (by omega))) (gat_t i0 (by omega) hbz (by unfold NeP; rw [if_neg c2, if_pos c3]; omega))
  · rw [hf (by omega)] at c3
    exact ih (by omega) _ (by omega) (by omega) (S20_or0 hz) (gat_f hz hbz (by unfold NeP; rw [if_pos c2]; omega))
  · rw [hf (by omega)] at c3
    exact ih (by omega) _ (by omega) (by omega) (S20_or hz (S20_1 i0 (by omega))) (gat_t i0 (by omega) hbz (by unfold NeP; rw [if_pos c2]; omega))
theorem C291_ok : am_CS 6 291 C291 := W291 (fun k w h K hb => by
  refine T291_0 ⟨hb.1, fun h' q1 => ⟨fun c2 => ?_, fun c2 => ⟨fun c3 => ?_, fun c3 => ?_⟩⟩⟩
  · exact am_rB (hb.2 h' (LD_q q1)) (ifc_f (fun q => c2 q.1))
  · refine L291 (LD_a q1) (by rw [q1.2.1]; exact c2) ?_ 0 0 (by omega) (LD_a q1).1.1 S20_0 (fun q => ⟨fun z => absurd z bt_zero, fun z => by omega⟩)
    have e := hb.2 h' (LD_q q1)
    rw [ifc_t ⟨c2, c3⟩, ← q1.2.1, ← q1.2.2.1] at e
    exact e
  · exact am_rB (hb.2 h' (LD_q q1)) (ifc_f (fun q => c3 q.2)))
/-! 266 FactorNetsModel.allBits -/
def C266 : am_K := fun as h K => am_a1 as (fun v0 => am_oc 12 571 v0 ((0 ≤ (h 572 0) ∧ (h 572 0) ≤ 20) ∧ (K (some (mB (iShl 1 (h 572 0) - 1))) h)))
theorem W266 {d : Nat} (H : ∀  (h : am_H) (K : Option am_V → am_H → Prop), (0 ≤ (h 572 0) ∧ (h 572 0) ≤ 20) ∧ (K (some (mB (iShl 1 (h 572 0) - 1))) h) → am_AT d 266 0 [some (mR 1 12 0 571)] h K) : am_CS d 266 C266 := by
  refine am_CS_of (T := tb266) (mL := 1) (rk := 1) rfl (fun as h K hC => ?_)
  obtain ⟨v0, rfl, hC0⟩ := am_a1_e hC
  obtain ⟨e0, hC1⟩ := am_oc_e hC0
  subst e0
  refine ⟨Nat.le_of_ble_eq_true rfl, ?_⟩
  exact H  h K hC1
theorem T266_0 {R : Option am_V → am_H → Prop} {h : am_H} (t : (R32 ((iShl 1 (h 572 0)) - 1)) ∧ (R (some (mB ((iShl 1 (h 572 0)) - 1))) h)) : am_AT 1 266 0 [some (mR 1 12 0 571)] h R :=
  am_T (d := 0) (m := 266) (T := tb266) (mL := 1) (rk := 1) (cuts := []) (l := []) rfl trivial 13 (And.intro (⟨by decide, by decide⟩) (And.intro (t).1 ((t).2)))
theorem C266_ok : am_CS 1 266 C266 := W266 (fun h K hb => T266_0 ⟨by have := bt_all_r hb.1.1 (by omega); omega, hb.2⟩)
/-! 297 FactorNetsModel.hull -/
def C297 : am_K := fun as h K => am_a2 as (fun v0 v1 => am_oc 12 571 v0 (am_n v1 (fun st => (RIv h) ∧ (∀ (h' : am_H), RQ h h' → K (some (mB (ifc (st ≠ 0 ∧ ∀ k, bit st k → k < (h 572 0)) (hul (h 572 0) (nr h 572 2) st) (-2)))) (h')))))
theorem W297 {d : Nat} (H : ∀ (st : Int) (h : am_H) (K : Option am_V → am_H → Prop), (RIv h) ∧ (∀ (h' : am_H), RQ h h' → K (some (mB (ifc (st ≠ 0 ∧ ∀ k, bit st k → k < (h 572 0)) (hul (h 572 0) (nr h 572 2) st) (-2)))) (h')) → am_AT d 297 0 [some (mR 1 12 0 571), some (mB st), none, none, none, none] h K) : am_CS d 297 C297 := by
  refine am_CS_of (T := tb297) (mL := 6) (rk := 1) rfl (fun as h K hC => ?_)
  obtain ⟨v0, v1, rfl, hC0⟩ := am_a2_e hC
  obtain ⟨e0, hC1⟩ := am_oc_e hC0
  subst e0
  obtain ⟨st, rfl, hC2⟩ := am_n_e hC1
  refine ⟨Nat.le_of_ble_eq_true rfl, ?_⟩
  exact H st h K hC2
theorem T297_0 {R : Option am_V → am_H → Prop} {h : am_H} {st : Int} (t : (RIv h) ∧ (∀ (h' : am_H), (LD h h') → (((¬ (0 < h' 572 0)) → (R (some (mB (-2))) h')) ∧ ((0 < h' 572 0) → ((0 ≤ (h' 572 0) ∧ (h' 572 0) ≤ 20) ∧ ((((1 : Int) ≤ st ∧ st ≤ (iShl 1 (h' 572 0) - 1)) → (am_AT 5 297 32 [some (mR 1 12 0 571), none, some (mI st), some (mI 0), none, none] h' R)) ∧ ((¬ ((1 : Int) ≤ st ∧ st ≤ (iShl 1 (h' 572 0) - 1))) → (R (some (mB (-2))) h')))))))) : am_AT 5 297 0 [some (mR 1 12 0 571), some (mB st), none, none, none, none] h R :=
  am_T (d := 4) (m := 297) (T := tb297) (mL := 6) (rk := 1) (cuts := [(32, [1, 0, 2, 2, 0, 0]), (42, [1, 0, 2, 2, 2, 0]), (56, [1, 0, 2, 2, 2, 2])]) (l := [(187, C187), (188, C188), (209, C209), (220, C220), (232, C232), (266, C266)]) rfl ⟨am_CS_d (by decide) C187_ok, am_CS_d (by decide) C188_ok, am_CS_d (by decide) C209_ok, am_CS_d (by decide) C220_ok, am_CS_d (by decide) C232_ok, am_CS_d (by decide) C266_ok, trivial⟩ 21 (And.intro (rfl) (And.intro (t).1 (fun z8_0 z8_1 => And.intro (rfl) (And.intro (fun c32 => (((t).2) z8_0 z8_1).1 c32) (fun c32 => And.intro (rfl) (And.intro ((((t).2) z8_0 z8_1).2 c32).1 (And.intro (fun c33 => (((((t).2) z8_0 z8_1).2 c32).2).1 c33) (fun c33 => (((((t).2) z8_0 z8_1).2 c32).2).2 c33))))))))
theorem T297_32 {R : Option am_V → am_H → Prop} {h : am_H} {x2 : Int} {x3 : Int} (t : (R32 x2) ∧ ((R32 x3) ∧ (((x2 = x3) → ((R32 x2) ∧ (R (some (mB x2)) h))) ∧ ((¬ x2 = x3) → (am_AT 5 297 42 [some (mR 1 12 0 571), none, some (mI x2), some (mI x2), some (mI 0), none] h R))))) : am_AT 5 297 32 [some (mR 1 12 0 571), none, some (mI x2), some (mI x3), none, none] h R :=
  am_T (d := 4) (m := 297) (T := tb297) (mL := 6) (rk := 1) (cuts := [(32, [1, 0, 2, 2, 0, 0]), (42, [1, 0, 2, 2, 2, 0]), (56, [1, 0, 2, 2, 2, 2])]) (l := [(187, C187), (188, C188), (209, C209), (220, C220), (232, C232), (266, C266)]) rfl ⟨am_CS_d (by decide) C187_ok, am_CS_d (by decide) C188_ok, am_CS_d (by decide) C209_ok, am_CS_d (by decide) C220_ok, am_CS_d (by decide) C232_ok, am_CS_d (by decide) C266_ok, trivial⟩ 11 (And.intro (t).1 (And.intro ((t).2).1 (And.intro (fun c34 => And.intro ((((t).2).2).1 c34).1 (((((t).2).2).1 c34).2)) (fun c34 => (((t).2).2).2 c34))))
theorem T297_42 {R : Option am_V → am_H → Prop} {h : am_H} {x2 : Int} {x3 : Int} {x4 : Int} (t : (R32 x4) ∧ (((h 572 0 ≤ x4) → (am_AT 5 297 32 [some (mR 1 12 0 571), none, some (mI x2), some (mI x3), none, none] h R)) ∧ ((x4 < h 572 0) → (am_AT 5 297 56 [some (mR 1 12 0 571), none, some (mI x2), some (mI x3), some (mI x4), some (mI 0)] h R)))) : am_AT 5 297 42 [some (mR 1 12 0 571), none, some (mI x2), some (mI x3), some (mI x4), none] h R :=
  am_T (d := 4) (m := 297) (T := tb297) (mL := 6) (rk := 1) (cuts := [(32, [1, 0, 2, 2, 0, 0]), (42, [1, 0, 2, 2, 2, 0]), (56, [1, 0, 2, 2, 2, 2])]) (l := [(187, C187), (188, C188), (209, C209), (220, C220), (232, C232), (266, C266)]) rfl ⟨am_CS_d (by decide) C187_ok, am_CS_d (by decide) C188_ok, am_CS_d (by decide) C209_ok, am_CS_d (by decide) C220_ok, am_CS_d (by decide) C232_ok, am_CS_d (by decide) C266_ok, trivial⟩ 12 (And.intro (⟨by decide, by decide⟩) (And.intro (t).1 (And.intro (fun c35 => ((t).2).1 c35) (fun c35 => ((t).2).2 c35))))
theorem T297_56 {R : Option am_V → am_H → Prop} {h : am_H} {x2 : Int} {x3 : Int} {x4 : Int} {x5 : Int} (t : (R32 x5) ∧ ((R32 x4) ∧ (((x4 ≤ x5) → (am_AT 5 297 42 [some (mR 1 12 0 571), none, some (mI x2), some (mI x3), some (mI (x4 + 1)), none] h R)) ∧ ((x5 < x4) → ((R32 x3) ∧ ((R32 x4) ∧ ((0 ≤ x4 ∧ x4 < 32) ∧ (((¬ (bit x3 x4)) → (am_AT 5 297 56 [some (mR 1 12 0 571), none, some (mI (iOr x2 0)), some (mI x3), some (mI x4), some (mI (x5 + 1))] h R)) ∧ ((bit x3 x4) → ((R32 x3) ∧ ((R32 x5) ∧ ((0 ≤ x5 ∧ x5 < 32) ∧ (((¬ (bit x3 x5)) → (am_AT 5 297 56 [some (mR 1 12 0 571), none, some (mI (iOr x2 0)), some (mI x3), some (mI x4), some (mI (x5 + 1))] h R)) ∧ ((bit x3 x5) → ((R32 x4) ∧ ((R32 x5) ∧ (((NT (h 572 0) (nr h 572 2) ∧ CN (h 572 0) (nr h 572 2) ∧ RLd h (h 572 0) (nr h 572 2)) ∧ ((0 ≤ x4 ∧ x4 < (h 572 0)) ∧ (0 ≤ x5 ∧ x5 < (h 572 0)))) ∧ (am_AT 5 297 56 [some (mR 1 12 0 571), none, some (mI (iOr x2 (amd (h 572 0) (nr h 572 2) x4 x5))), some (mI x3), some (mI x4), some (mI (x5 + 1))] h R)))))))))))))))))) : am_AT 5 297 56 [some (mR 1 12 0 571), none, some (mI x2), some (mI x3), some (mI x4), some (mI x5)] h R :=
  am_T (d := 4) (m := 297) (T := tb297) (mL := 6) (rk := 1) (cuts := [(32, [1, 0, 2, 2, 0, 0]), (42, [1, 0, 2, 2, 2, 0]), (56, [1, 0, 2, 2, 2, 2])]) (l := [(187, C187), (188, C188), (209, C209), (220, C220), (232, C232), (266, C266)]) rfl ⟨am_CS_d (by decide) C187_ok, am_CS_d (by decide) C188_ok, am_CS_d (by decide) C209_ok, am_CS_d (by decide) C220_ok, am_CS_d (by decide) C232_ok, am_CS_d (by decide) C266_ok, trivial⟩ 25 (And.intro (t).1 (And.intro ((t).2).1 (And.intro (fun c36 => (((t).2).2).1 c36) (fun c36 => And.intro ((((t).2).2).2 c36).1 (And.intro (((((t).2).2).2 c36).2).1 (And.intro ((((((t).2).2).2 c36).2).2).1 (And.intro (fun c37 => (((((((t).2).2).2 c36).2).2).2).1 c37) (fun c37 => And.intro ((((((((t).2).2).2 c36).2).2).2).2 c37).1 (And.intro (((((((((t).2).2).2 c36).2).2).2).2 c37).2).1 (And.intro ((((((((((t).2).2).2 c36).2).2).2).2 c37).2).2).1 (And.intro (fun c38 => (((((((((((t).2).2).2 c36).2).2).2).2 c37).2).2).2).1 c38) (fun c38 => And.intro ((((((((((((t).2).2).2 c36).2).2).2).2 c37).2).2).2).2 c38).1 (And.intro (((((((((((((t).2).2).2 c36).2).2).2).2 c37).2).2).2).2 c38).2).1 (And.intro (rfl) (And.intro ((((((((((((((t).2).2).2 c36).2).2).2).2 c37).2).2).2).2 c38).2).2).1 (((((((((((((((t).2).2).2 c36).2).2).2).2 c37).2).2).2).2 c38).2).2).2))))))))))))))))
theorem L297 {K : Option am_V → am_H → Prop} {g : am_H} (H : Lda g) {st : Int} (hK : K (some (mB (hul (g 572 0) (nr g 572 2) st))) g) : ∀ q : Int × Int, S20 q.1 → S20 q.2 → (∀ k, bit st k → bit q.1 k) → (∀ k, bit q.2 k → bit q.1 k) → (∀ k, bit q.1 k → k < g 572 0) → (∀ k, bit q.1 k → ∀ S : Int → Prop, (∀ k, bit st k → S k) → cvx (g 572 0) (nr g 572 2) S → S k) → (∀ a b, b < a → bit q.2 a → bit q.2 b → ∀ k, bit (amd (g 572 0) (nr g 572 2) a b) k → bit q.1 k) → am_AT 5 297 32 [some (mR 1 12 0 571), none, some (mI q.1), some (mI q.2), none, none] g K := by
  obtain ⟨hN, hC, hD⟩ := H
  have hn1 := hN.1
  have hn2 := hN.2.1
  refine lpm (fun q : Int × Int => (2 * (20 - ct (bit q.1) 20)).toNat + if q.1 = q.2 then 0 else 1) (fun q ih hx hy hsx hyx hxn hxh hcl => ?_)
  obtain ⟨x, y⟩ := q
  have hx1 := hx.1
  have hx2 := hx.2
  have hy1 := hy.1
  have hy2 := hy.2
  refine T297_32 ⟨by omega, ⟨by omega, ⟨fun c1 => ⟨by omega, ?_⟩, fun c1_0 => ?_⟩⟩⟩
  · have e : x = y := c1
    refine am_rB hK (mkb_eq (by omega) (fun j => ⟨fun z => ⟨S20_in hx z, hxh j z⟩, fun z => ?_⟩)).symm
    refine z.2 (fun k => bit x k) hsx (fun a b ha hb k hk => ?_)
    by_cases c2 : b < a
    · exact hcl a b c2 (e ▸ ha) (e ▸ hb) k hk
    · by_cases c3 : a < b
      · rw [amd_sym hN] at hk
        exact hcl b a c3 (e ▸ hb) (e ▸ ha) k hk
      · have e3 : b = a := by omega
        rw [e3] at hk
        rw [amd_self hN hC ⟨ha.1, hxn a ha⟩ hk]
        exact ha
  · have LA : ∀ a w, 0 ≤ a → a ≤ g 572 0 → S20 w → (∀ k, bit w k ↔ bit x k ∨ ∃ a' b, (0 ≤ b ∧ b < a' ∧ a' < a) ∧ bit x a' ∧ bit x b ∧ bit (amd (g 572 0) (nr g 572 2) a' b) k) → am_AT 5 297 42 [some (mR 1 12 0 571), none, some (mI w), some (mI x), some (mI a), none] g K := by
      refine lp (g 572 0) (fun a ih2 w a0 a1 hw hbw => ?_)
      refine T297_42 ⟨by omega, ⟨fun c1_1 => ?_, fun c1_1 => ?_⟩⟩
      · have hsub : ∀ k, bit x k → bit w k := fun k hk => (hbw k).mpr (Or.inl hk)
        refine ih (w, x) ?_ hw hx (fun k hk => hsub k (hsx k hk)) hsub (fun k hk => ?_) (fun k hk S hS hv => ?_) (fun a' b hab ha hb k hk => ?_)
        · show (2 * (20 - ct (bit w) 20)).toNat + (if w = x then 0 else 1) < (2 * (20 - ct (bit x) 20)).toNat + (if x = y then 0 else 1)
          have q1 := ct_le (bit x) 20
          have q2 := ct_le (bit w) 20
          have q3 : ¬ x = y := c1_0
          rw [if_neg q3]
          by_cases c : w = x
          · rw [if_pos c, c]; omega
          · rw [if_neg c]
            have : ∃ k, bit w k ∧ ¬ bit x k := Classical.byContradiction fun z => c (bt_ext (by have := hw.1; have := hw.2; omega) (by omega) (fun k _ _ => ⟨fun z2 => Classical.byContradiction fun z3 => z ⟨k, z2, z3⟩, hsub k⟩))
            obtain ⟨k, k1, k2⟩ := this
            have k3 := S20_in hw k1
            have := ct_ss (P := bit x) (Q := bit w) 20 k3.1 k3.2 k2 k1 hsub
            omega
        · rcases (hbw k).mp hk with z | ⟨a', b, -, -, -, z⟩
          · exact hxn k z
          · exact (amd_n z).2
        · rcases (hbw k).mp hk with z | ⟨a', b, -, z1, z2, z⟩
          · exact hxh k z S hS hv
          · exact hv a' b (hxh a' z1 S hS hv) (hxh b z2 S hS hv) k z
        · have := hxn a' ha
          exact (hbw k).mpr (Or.inr ⟨a', b, ⟨hb.1, hab, by omega⟩, ha, hb, hk⟩)
      · have LB : ∀ b w, 0 ≤ b → b ≤ a → S20 w → (∀ k, bit w k ↔ bit x k ∨ ∃ a' b', ((0 ≤ b' ∧ b' < a' ∧ a' < a) ∨ (0 ≤ b' ∧ b' < b ∧ a' = a)) ∧ bit x a' ∧ bit x b' ∧ bit (amd (g 572 0) (nr g 572 2) a' b') k) → am_AT 5 297 56 [some (mR 1 12 0 571), none, some (mI w), some (mI x), some (mI a), some (mI b)] g K := by
          refine lp a (fun b ih3 w b0 b1 hw hbw => ?_)
          have stay : b < a → ¬ (bit x a ∧ bit x b) → am_AT 5 297 56 [some (mR 1 12 0 571), none, some (mI (iOr w 0)), some (mI x), some (mI a), some (mI (b + 1))] g K := fun hba hno => by
            rw [bt_or0 hw]
            refine ih3 hba w (by omega) (by omega) hw (fun k => ?_)
            rw [hbw]
            refine or_congr Iff.rfl ⟨?_, ?_⟩
            · rintro ⟨a', b', z, z2⟩
              exact ⟨a', b', by omega, z2⟩
            · rintro ⟨a', b', z, z2, z3, z4⟩
              have : ¬ (a' = a ∧ b' = b) := fun e => hno ⟨e.1 ▸ z2, e.2 ▸ z3⟩
              exact ⟨a', b', by omega, z2, z3, z4⟩
          refine T297_56 ⟨by omega, ⟨by omega, ⟨fun c1_1 => ?_, fun c1_1 => ⟨by omega, ⟨by omega, ⟨by omega, ⟨fun c2 => ?_, fun c2 => ⟨by omega, ⟨by omega, ⟨by omega, ⟨fun c3 => ?_, fun c3 => ⟨by omega, ⟨by omega, ⟨⟨⟨hN, hC, hD⟩, by omega, by omega⟩, ?_⟩⟩⟩⟩⟩⟩⟩⟩⟩⟩⟩⟩⟩⟩
          · refine ih2 (by omega) w (by omega) (by omega) hw (fun k => ?_)
            rw [hbw]
            refine or_congr Iff.rfl ⟨?_, ?_⟩
            · rintro ⟨a', b', z, z2⟩
              exact ⟨a', b', by omega, z2⟩
            · rintro ⟨a', b', z, z2⟩
              exact ⟨a', b', by omega, z2⟩
          · exact stay (by omega) (fun z => c2 z.1)
          · exact stay (by omega) (fun z => c3 z.2)
          · refine ih3 (by omega) _ (by omega) (by omega) (S20_or hw (S20_amd _ _)) (fun k => ?_)
            rw [bt_or, hbw]
            constructor
            · rintro ((z | ⟨a', b', z, z2⟩) | z)
              · exact Or.inl z
              · exact Or.inr ⟨a', b', by omega, z2⟩
              · exact Or.inr ⟨a, b, Or.inr ⟨b0, by omega, rfl⟩, c2, c3, z⟩
            · rintro (z | ⟨a', b', z, z2, z3, z4⟩)
              · exact Or.inl (Or.inl z)
              · by_cases e : a' = a ∧ b' = b
                · rw [e.1, e.2] at z4
                  exact Or.inr z4
                · exact Or.inl (Or.inr ⟨a', b', by omega, z2, z3, z4⟩)
        refine LB 0 w (by omega) a0 hw (fun k => ?_)
        rw [hbw]
        refine or_congr Iff.rfl ⟨?_, ?_⟩
        · rintro ⟨a', b', z, z2⟩
          exact ⟨a', b', by omega, z2⟩
        · rintro ⟨a', b', z, z2⟩
          exact ⟨a', b', by omega, z2⟩
    refine LA 0 x (by omega) hn1 hx (fun k => ⟨Or.inl, fun z => z.elim id (fun ⟨a', b, z1, _⟩ => by omega)⟩)
theorem hst_in {n st : Int} (h0 : 0 < n ∧ n ≤ 20) (hr : R32 st) : ((1 : Int) ≤ st ∧ st ≤ iShl 1 n - 1) ↔ (st ≠ 0 ∧ ∀ k, bit st k → k < n) := by
  have hp : iShl 1 n = 2 ^ n.toNat := bt_pow (by omega) (by omega)
  constructor
  · rintro ⟨a, b⟩
    refine ⟨by omega, fun k hk => ?_⟩
    have := bt_in (n := n.toNat) (x := st) (by omega) (by rw [← hp]; omega) (by omega) hk
    omega
  · rintro ⟨a, b⟩
    have := bt_set (x := st) (n := n.toNat) hr (by omega) (fun k hk => by have := b k hk; omega)
    rw [← hp] at this
    omega
theorem C297_ok : am_CS 5 297 C297 := W297 (fun st h K hb => am_AT_ok (fun _ hl => by
  have hn1 := hb.1.1.1
  have hn2 := hb.1.1.2.1
  have hr : R32 st := hl 1 _ rfl rfl
  refine T297_0 ⟨hb.1, fun h' q1 => ⟨fun c2 => ?_, fun c2 => ⟨by have e := q1.2.2.1; omega, ⟨fun c3 => ?_, fun c3 => ?_⟩⟩⟩⟩
  · have e := q1.2.2.1
    refine am_rB (hb.2 h' (LD_q q1)) (ifc_f (fun z => ?_))
    obtain ⟨k, hk⟩ := bt_some hr z.1
    have := z.2 k hk
    have := hk.1
    omega
  · have e := q1.2.2.1
    have hst := (hst_in (by omega) hr).mp c3
    refine L297 (LD_a q1) ?_ (st, 0) (S20_of hr (fun k hk => by have := hst.2 k hk; omega)) S20_0 (fun k => id) (fun k z => absurd z bt_zero) hst.2 (fun k hk S hS _ => hS k hk) (fun a b _ z => absurd z bt_zero)
    have e2 := hb.2 h' (LD_q q1)
    rw [← q1.2.1, ← q1.2.2.1, ifc_t hst] at e2
    exact e2
  · have e := q1.2.2.1
    refine am_rB (hb.2 h' (LD_q q1)) (ifc_f (fun z => c3 ((hst_in (by omega) hr).mpr ?_)))
    rw [e]
    exact z))
/-! 298 FactorNetsModel.medianOf -/
def C298 : am_K := fun as h K => am_a4 as (fun v0 v1 v2 v3 => am_oc 12 571 v0 (am_n v1 (fun a => am_n v2 (fun b => am_n v3 (fun e => ((NT (h 572 0) (nr h 572 2) ∧ CN (h 572 0) (nr h 572 2) ∧ RLd h (h 572 0) (nr h 572 2)) ∧ (0 ≤ a ∧ a < (h 572 0)) ∧ (0 ≤ b ∧ b < (h 572 0)) ∧ (0 ≤ e ∧ e < (h 572 0))) ∧ (K (some (mB (med (h 572 0) (nr h 572 2) a b e))) h))))))
theorem W298 {d : Nat} (H : ∀ (a : Int) (b : Int) (e : Int) (h : am_H) (K : Option am_V → am_H → Prop), ((NT (h 572 0) (nr h 572 2) ∧ CN (h 572 0) (nr h 572 2) ∧ RLd h (h 572 0) (nr h 572 2)) ∧ (0 ≤ a ∧ a < (h 572 0)) ∧ (0 ≤ b ∧ b < (h 572 0)) ∧ (0 ≤ e ∧ e < (h 572 0))) ∧ (K (some (mB (med (h 572 0) (nr h 572 2) a b e))) h) → am_AT d 298 0 [some (mR 1 12 0 571), some (mB a), some (mB b), some (mB e)] h K) : am_CS d 298 C298 := by
  refine am_CS_of (T := tb298) (mL := 4) (rk := 1) rfl (fun as h K hC => ?_)
  obtain ⟨v0, v1, v2, v3, rfl, hC0⟩ := am_a4_e hC
  obtain ⟨e0, hC1⟩ := am_oc_e hC0
  subst e0
  obtain ⟨a, rfl, hC2⟩ := am_n_e hC1
  obtain ⟨b, rfl, hC3⟩ := am_n_e hC2
  obtain ⟨e, rfl, hC4⟩ := am_n_e hC3
  refine ⟨Nat.le_of_ble_eq_true rfl, ?_⟩
  exact H a b e h K hC4
theorem T298_0 {R : Option am_V → am_H → Prop} {h : am_H} {a : Int} {b : Int} {e : Int} (t : ((NT (h 572 0) (nr h 572 2) ∧ CN (h 572 0) (nr h 572 2) ∧ RLd h (h 572 0) (nr h 572 2)) ∧ ((0 ≤ a ∧ a < (h 572 0)) ∧ (0 ≤ b ∧ b < (h 572 0)))) ∧ (((NT (h 572 0) (nr h 572 2) ∧ CN (h 572 0) (nr h 572 2) ∧ RLd h (h 572 0) (nr h 572 2)) ∧ ((0 ≤ b ∧ b < (h 572 0)) ∧ (0 ≤ e ∧ e < (h 572 0)))) ∧ (((NT (h 572 0) (nr h 572 2) ∧ CN (h 572 0) (nr h 572 2) ∧ RLd h (h 572 0) (nr h 572 2)) ∧ ((0 ≤ a ∧ a < (h 572 0)) ∧ (0 ≤ e ∧ e < (h 572 0)))) ∧ (R (some (mB (iAnd (iAnd (amd (h 572 0) (nr h 572 2) a b) (amd (h 572 0) (nr h 572 2) b e)) (amd (h 572 0) (nr h 572 2) a e)))) h)))) : am_AT 3 298 0 [some (mR 1 12 0 571), some (mB a), some (mB b), some (mB e)] h R :=
  am_T (d := 2) (m := 298) (T := tb298) (mL := 4) (rk := 1) (cuts := []) (l := [(232, C232)]) rfl ⟨am_CS_d (by decide) C232_ok, trivial⟩ 19 (And.intro (rfl) (And.intro (t).1 (And.intro (rfl) (And.intro ((t).2).1 (And.intro (rfl) (And.intro (((t).2).2).1 ((((t).2).2).2)))))))
theorem C298_ok : am_CS 3 298 C298 := W298 (fun a b e h K hb => T298_0 ⟨⟨hb.1.1, hb.1.2.1, hb.1.2.2.1⟩, ⟨hb.1.1, hb.1.2.2⟩, ⟨hb.1.1, hb.1.2.1, hb.1.2.2.2⟩, hb.2⟩)
/-! 299 FactorNetsModel.median -/
def C299 : am_K := fun as h K => am_a4 as (fun v0 v1 v2 v3 => am_oc 12 571 v0 (am_n v1 (fun a => am_n v2 (fun b => am_n v3 (fun e => (RIv h) ∧ (∀ (h' : am_H), RQ h h' → K (some (mB (ifc ((0 ≤ a ∧ a < (h 572 0)) ∧ (0 ≤ b ∧ b < (h 572 0)) ∧ (0 ≤ e ∧ e < (h 572 0))) (med (h 572 0) (nr h 572 2) a b e) (-2)))) (h')))))))
theorem W299 {d : Nat} (H : ∀ (a : Int) (b : Int) (e : Int) (h : am_H) (K : Option am_V → am_H → Prop), (RIv h) ∧ (∀ (h' : am_H), RQ h h' → K (some (mB (ifc ((0 ≤ a ∧ a < (h 572 0)) ∧ (0 ≤ b ∧ b < (h 572 0)) ∧ (0 ≤ e ∧ e < (h 572 0))) (med (h 572 0) (nr h 572 2) a b e) (-2)))) (h')) → am_AT d 299 0 [some (mR 1 12 0 571), some (mB a), some (mB b), some (mB e)] h K) : am_CS d 299 C299 := by
  refine am_CS_of (T := tb299) (mL := 4) (rk := 1) rfl (fun as h K hC => ?_)
  obtain ⟨v0, v1, v2, v3, rfl, hC0⟩ := am_a4_e hC
  obtain ⟨e0, hC1⟩ := am_oc_e hC0
  subst e0
  obtain ⟨a, rfl, hC2⟩ := am_n_e hC1
  obtain ⟨b, rfl, hC3⟩ := am_n_e hC2
  obtain ⟨e, rfl, hC4⟩ := am_n_e hC3
  refine ⟨Nat.le_of_ble_eq_true rfl, ?_⟩
  exact H a b e h K hC4
theorem T299_0 {R : Option am_V → am_H → Prop} {h : am_H} {a : Int} {b : Int} {e : Int} (t : (RIv h) ∧ (∀ (h' : am_H), (LD h h') → (((¬ ((0 ≤ a ∧ a < (h 572 0)) ∧ (0 ≤ b ∧ b < (h 572 0)))) → (R (some (mB (-2))) h')) ∧ (((0 ≤ a ∧ a < (h 572 0)) ∧ (0 ≤ b ∧ b < (h 572 0))) → ((h' 572 0 ≤ 20 ∧ 0 ≤ h' 572 0) ∧ (((¬ (0 ≤ e ∧ e < h' 572 0)) → (R (some (mB (-2))) h')) ∧ ((0 ≤ e ∧ e < h' 572 0) → (((NT (h' 572 0) (nr h' 572 2) ∧ CN (h' 572 0) (nr h' 572 2) ∧ RLd h' (h' 572 0) (nr h' 572 2)) ∧ (0 ≤ a ∧ a < (h' 572 0)) ∧ (0 ≤ b ∧ b < (h' 572 0)) ∧ (0 ≤ e ∧ e < (h' 572 0))) ∧ (R (some (mB (med (h' 572 0) (nr h' 572 2) a b e))) h'))))))))) : am_AT 6 299 0 [some (mR 1 12 0 571), some (mB a), some (mB b), some (mB e)] h R :=
  am_T (d := 5) (m := 299) (T := tb299) (mL := 4) (rk := 1) (cuts := []) (l := [(210, C210), (224, C224), (298, C298)]) rfl ⟨am_CS_d (by decide) C210_ok, am_CS_d (by decide) C224_ok, am_CS_d (by decide) C298_ok, trivial⟩ 20 (And.intro (rfl) (And.intro (t).1 (fun z9_0 z9_1 => And.intro (fun c39 => (((t).2) z9_0 z9_1).1 c39) (fun c39 => And.intro (rfl) (And.intro ((((t).2) z9_0 z9_1).2 c39).1 (And.intro (fun c40 => (((((t).2) z9_0 z9_1).2 c39).2).1 c40) (fun c40 => And.intro (rfl) (And.intro ((((((t).2) z9_0 z9_1).2 c39).2).2 c40).1 (((((((t).2) z9_0 z9_1).2 c39).2).2 c40).2)))))))))
theorem C299_ok : am_CS 6 299 C299 := W299 (fun a b e h K hb => by
  have hn1 := hb.1.1.1
  have hn2 := hb.1.1.2.1
  refine T299_0 ⟨hb.1, fun h' q1 => ⟨fun c2 => ?_, fun c2 => ⟨by have e1 := q1.2.2.1; omega, ⟨fun c3 => ?_, fun c3 => ⟨⟨LD_a q1, by have e1 := q1.2.2.1; omega, by have e1 := q1.2.2.1; omega, by have e1 := q1.2.2.1; omega⟩, ?_⟩⟩⟩⟩⟩
  · exact am_rB (hb.2 h' (LD_q q1)) (ifc_f (fun z => c2 ⟨z.1, z.2.1⟩))
  · have e1 := q1.2.2.1
    exact am_rB (hb.2 h' (LD_q q1)) (ifc_f (fun z => c3 (by omega)))
  · have e1 := q1.2.2.1
    exact am_rB (hb.2 h' (LD_q q1)) (by rw [ifc_t (by omega), q1.2.1, q1.2.2.1]))
/-! 300 FactorNetsModel.medians -/
def C300 : am_K := fun as h K => am_a1 as (fun v0 => am_oc 12 571 v0 ((RIv h) ∧ (∀ (h' : am_H), RQ h h' → K (some (mB (ifc (0 < (h 572 0)) (ifc (∀ a b e, 0 ≤ e → e < b → b < a → a < (h 572 0) → iPop (med (h 572 0) (nr h 572 2) a b e) = 1) 1 0) (-2)))) (h'))))
theorem W300 {d : Nat} (H : ∀  (h : am_H) (K : Option am_V → am_H → Prop), (RIv h) ∧ (∀ (h' : am_H), RQ h h' → K (some (mB (ifc (0 < (h 572 0)) (ifc (∀ a b e, 0 ≤ e → e < b → b < a → a < (h 572 0) → iPop (med (h 572 0) (nr h 572 2) a b e) = 1) 1 0) (-2)))) (h')) → am_AT d 300 0 [some (mR 1 12 0 571), none, none, none] h K) : am_CS d 300 C300 := by
  refine am_CS_of (T := tb300) (mL := 4) (rk := 1) rfl (fun as h K hC => ?_)
  obtain ⟨v0, rfl, hC0⟩ := am_a1_e hC
  obtain ⟨e0, hC1⟩ := am_oc_e hC0
  subst e0
  refine ⟨Nat.le_of_ble_eq_true rfl, ?_⟩
  exact H  h K hC1
theorem T300_0 {R : Option am_V → am_H → Prop} {h : am_H} (t : ((0 < h 572 0) → ((RIv h) ∧ (∀ (h' : am_H), (LD h h') → (am_AT 5 300 16 [some (mR 1 12 0 571), some (mI 0), none, none] h' R)))) ∧ ((¬ (0 < h 572 0)) → (R (some (mB (-2))) h))) : am_AT 5 300 0 [some (mR 1 12 0 571), none, none, none] h R :=
  am_T (d := 4) (m := 300) (T := tb300) (mL := 4) (rk := 1) (cuts := [(16, [1, 2, 0, 0]), (28, [1, 2, 2, 0]), (35, [1, 2, 2, 2])]) (l := [(209, C209), (220, C220), (298, C298), (317, C317)]) rfl ⟨am_CS_d (by decide) C209_ok, am_CS_d (by decide) C220_ok, am_CS_d (by decide) C298_ok, am_CS_d (by decide) C317_ok, trivial⟩ 11 (And.intro (rfl) (And.intro (fun c41 => And.intro (rfl) (And.intro ((t).1 c41).1 (fun z10_0 z10_1 => (((t).1 c41).2) z10_0 z10_1))) (fun c41 => (t).2 c41)))
theorem T300_16 {R : Option am_V → am_H → Prop} {h : am_H} {x1 : Int} (t : (R32 x1) ∧ (((h 572 0 ≤ x1) → (R (some (mB 1)) h)) ∧ ((x1 < h 572 0) → (am_AT 5 300 28 [some (mR 1 12 0 571), some (mI x1), some (mI 0), none] h R)))) : am_AT 5 300 16 [some (mR 1 12 0 571), some (mI x1), none, none] h R :=
  am_T (d := 4) (m := 300) (T := tb300) (mL := 4) (rk := 1) (cuts := [(16, [1, 2, 0, 0]), (28, [1, 2, 2, 0]), (35, [1, 2, 2, 2])]) (l := [(209, C209), (220, C220), (298, C298), (317, C317)]) rfl ⟨am_CS_d (by decide) C209_ok, am_CS_d (by decide) C220_ok, am_CS_d (by decide) C298_ok, am_CS_d (by decide) C317_ok, trivial⟩ 12 (And.intro (⟨by decide, by decide⟩) (And.intro (t).1 (And.intro (fun c42 => ((t).2).1 c42) (fun c42 => ((t).2).2 c42))))
theorem T300_28 {R : Option am_V → am_H → Prop} {h : am_H} {x1 : Int} {x2 : Int} (t : (R32 x2) ∧ ((R32 x1) ∧ (((x1 ≤ x2) → (am_AT 5 300 16 [some (mR 1 12 0 571), some (mI (x1 + 1)), none, none] h R)) ∧ ((x2 < x1) → (am_AT 5 300 35 [some (mR 1 12 0 571), some (mI x1), some (mI x2), some (mI 0)] h R))))) : am_AT 5 300 28 [some (mR 1 12 0 571), some (mI x1), some (mI x2), none] h R :=
  am_T (d := 4) (m := 300) (T := tb300) (mL := 4) (rk := 1) (cuts := [(16, [1, 2, 0, 0]), (28, [1, 2, 2, 0]), (35, [1, 2, 2, 2])]) (l := [(209, C209), (220, C220), (298, C298), (317, C317)]) rfl ⟨am_CS_d (by decide) C209_ok, am_CS_d (by decide) C220_ok, am_CS_d (by decide) C298_ok, am_CS_d (by decide) C317_ok, trivial⟩ 9 (And.intro (t).1 (And.intro ((t).2).1 (And.intro (fun c43 => (((t).2).2).1 c43) (fun c43 => (((t).2).2).2 c43))))
theorem T300_35 {R : Option am_V → am_H → Prop} {h : am_H} {x1 : Int} {x2 : Int} {x3 : Int} (t : (R32 x3) ∧ ((R32 x2) ∧ (((x2 ≤ x3) → (am_AT 5 300 28 [some (mR 1 12 0 571), some (mI x1), some (mI (x2 + 1)), none] h R)) ∧ ((x3 < x2) → ((R32 x1) ∧ ((R32 x2) ∧ ((R32 x3) ∧ (((NT (h 572 0) (nr h 572 2) ∧ CN (h 572 0) (nr h 572 2) ∧ RLd h (h 572 0) (nr h 572 2)) ∧ (0 ≤ x1 ∧ x1 < (h 572 0)) ∧ (0 ≤ x2 ∧ x2 < (h 572 0)) ∧ (0 ≤ x3 ∧ x3 < (h 572 0))) ∧ ((0 ≤ (med (h 572 0) (nr h 572 2) x1 x2 x3) ∧ (med (h 572 0) (nr h 572 2) x1 x2 x3) < 2147483648) ∧ (((iPop (med (h 572 0) (nr h 572 2) x1 x2 x3) = 1) → (am_AT 5 300 35 [some (mR 1 12 0 571), some (mI x1), some (mI x2), some (mI (x3 + 1))] h R)) ∧ ((¬ iPop (med (h 572 0) (nr h 572 2) x1 x2 x3) = 1) → (R (some (mB 0)) h)))))))))))) : am_AT 5 300 35 [some (mR 1 12 0 571), some (mI x1), some (mI x2), some (mI x3)] h R :=
  am_T (d := 4) (m := 300) (T := tb300) (mL := 4) (rk := 1) (cuts := [(16, [1, 2, 0, 0]), (28, [1, 2, 2, 0]), (35, [1, 2, 2, 2])]) (l := [(209, C209), (220, C220), (298, C298), (317, C317)]) rfl ⟨am_CS_d (by decide) C209_ok, am_CS_d (by decide) C220_ok, am_CS_d (by decide) C298_ok, am_CS_d (by decide) C317_ok, trivial⟩ 17 (And.intro (t).1 (And.intro ((t).2).1 (And.intro (fun c44 => (((t).2).2).1 c44) (fun c44 => And.intro ((((t).2).2).2 c44).1 (And.intro (((((t).2).2).2 c44).2).1 (And.intro ((((((t).2).2).2 c44).2).2).1 (And.intro (rfl) (And.intro (((((((t).2).2).2 c44).2).2).2).1 (And.intro ((((((((t).2).2).2 c44).2).2).2).2).1 (And.intro (fun c45 => (((((((((t).2).2).2 c44).2).2).2).2).2).1 c45) (fun c45 => (((((((((t).2).2).2 c44).2).2).2).2).2).2 c45)))))))))))
theorem L300 {K : Option am_V → am_H → Prop} {g : am_H} (H : Lda g) (hK1 : (∀ a b e, 0 ≤ e → e < b → b < a → a < g 572 0 → iPop (med (g 572 0) (nr g 572 2) a b e) = 1) → K (some (mB 1)) g) (hK0 : (¬ ∀ a b e, 0 ≤ e → e < b → b < a → a < g 572 0 → iPop (med (g 572 0) (nr g 572 2) a b e) = 1) → K (some (mB 0)) g) : ∀ a, 0 ≤ a → a ≤ g 572 0 → (∀ a' b e, 0 ≤ e → e < b → b < a' → a' < a → iPop (med (g 572 0) (nr g 572 2) a' b e) = 1) → am_AT 5 300 16 [some (mR 1 12 0 571), some (mI a), none, none] g K := by
  obtain ⟨hN, hC, hD⟩ := H
  have hn1 := hN.1
  have hn2 := hN.2.1
  refine lp (g 572 0) (fun a ih a0 a1 f => ?_)
  refine T300_16 ⟨by omega, ⟨fun c1 => ?_, fun c1 => ?_⟩⟩
  · exact hK1 (fun a' b e e0 e1 e2 e3 => f a' b e e0 e1 e2 (by omega))
  · have L2 : ∀ b, 0 ≤ b → b ≤ a → (∀ b' e, 0 ≤ e → e < b' → b' < b → iPop (med (g 572 0) (nr g 572 2) a b' e) = 1) → am_AT 5 300 28 [some (mR 1 12 0 571), some (mI a), some (mI b), none] g K := by
      refine lp a (fun b ih2 b0 b1 f2 => ?_)
      refine T300_28 ⟨by omega, ⟨by omega, ⟨fun c1 => ?_, fun c1 => ?_⟩⟩⟩
      · refine ih (by omega) (by omega) (by omega) (fun a' b' e e0 e1 e2 e3 => ?_)
        by_cases q : a' = a
        · rw [q]
          exact f2 b' e e0 e1 (by omega)
        · exact f a' b' e e0 e1 e2 (by omega)
      · have L3 : ∀ e, 0 ≤ e → e ≤ b → (∀ e', 0 ≤ e' → e' < e → iPop (med (g 572 0) (nr g 572 2) a b e') = 1) → am_AT 5 300 35 [some (mR 1 12 0 571), some (mI a), some (mI b), some (mI e)] g K := by
          refine lp b (fun e ih3 e0 e1 f3 => ?_)
          refine T300_35 ⟨by omega, ⟨by omega, ⟨fun c1 => ?_, fun c1 => ⟨by omega, ⟨by omega, ⟨by omega, ⟨⟨⟨hN, hC, hD⟩, by omega, by omega, by omega⟩, ⟨by have := @S20_med (g 572 0) (nr g 572 2) a b e; exact ⟨this.1, by have := this.2; omega⟩, ⟨fun c2 => ?_, fun c2 => ?_⟩⟩⟩⟩⟩⟩⟩⟩⟩
          · refine ih2 (by omega) (by omega) (by omega) (fun b' e' q0 q1 q2 => ?_)
            by_cases q : b' = b
            · rw [q]
              exact f3 e' q0 (by omega)
            · exact f2 b' e' q0 q1 (by omega)
          · refine ih3 (by omega) (by omega) (by omega) (fun e' q0 q1 => ?_)
            by_cases q : e' = e
            · rw [q]; exact c2
            · exact f3 e' q0 (by omega)
          · exact hK0 (fun q => c2 (q a b e e0 (by omega) (by omega) (by omega)))
        exact L3 0 (by omega) b0 (fun e' q0 q1 => by omega)
    exact L2 0 (by omega) a0 (fun b' e q0 q1 q2 => by omega)
theorem C300_ok : am_CS 5 300 C300 := W300 (fun h K hb => by
  refine T300_0 ⟨fun c1 => ⟨hb.1, fun h' q2 => ?_⟩, fun c1 => ?_⟩
  · have e := hb.2 h' (LD_q q2)
    rw [ifc_t c1, ← q2.2.1, ← q2.2.2.1] at e
    refine L300 (LD_a q2) (fun z => ?_) (fun z => ?_) 0 (by omega) (LD_a q2).1.1 (fun a b e _ _ _ _ => by omega)
    · rw [ifc_t z] at e
      exact e
    · rw [ifc_f z] at e
      exact e
  · exact am_rB (hb.2 h (RQ_rf hb.1)) (ifc_f c1))
