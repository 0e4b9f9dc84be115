/-! ===== a survey ===== -/
def SV (h : am_H) (o : Int) : Prop := (NT (h (o + 1) 0) (nr h (o + 2) 0) ∧ CN (h (o + 1) 0) (nr h (o + 2) 0)) ∧ 0 ≤ o ∧ (h o 4 = 1 → MT h (o + 3) (h (o + 1) 0) (nr h (o + 2) 0)) ∧ (h o 5 = 1 → LN h (o + 46) (h (o + 1) 0) (nr h (o + 2) 0)) ∧ (h o 6 = 1 → SO h (o + 70) (nr h (o + 2) 0) ∧ h o 4 = 1 ∧ h o 5 = 1)
def SQ (h h' : am_H) (o : Int) : Prop := SV h' o ∧ (∀ x i, ¬ (o + 3 < x ∧ x ≤ o + 73) → ¬ (x = o ∧ 4 ≤ i ∧ i ≤ 6) → h' x i = h x i) ∧ nr h' (o + 2) 0 = nr h (o + 2) 0 ∧ h' (o + 1) 0 = h (o + 1) 0 ∧ (h o 4 = 1 → h' o 4 = 1) ∧ (h o 5 = 1 → h' o 5 = 1) ∧ (h o 6 = 1 → h' o 6 = 1)
theorem SQ_rf {h : am_H} {o : Int} (H : SV h o) : SQ h h o := ⟨H, fun _ _ _ _ => rfl, rfl, rfl, id, id, id⟩
theorem SQ_tr {h h' h'' : am_H} {o : Int} (H : SQ h h' o) (H2 : SQ h' h'' o) : SQ h h'' o := ⟨H2.1, fun x i a b => (H2.2.1 x i a b).trans (H.2.1 x i a b), H2.2.2.1.trans H.2.2.1, H2.2.2.2.1.trans H.2.2.2.1, fun q => H2.2.2.2.2.1 (H.2.2.2.2.1 q), fun q => H2.2.2.2.2.2.1 (H.2.2.2.2.2.1 q), fun q => H2.2.2.2.2.2.2 (H.2.2.2.2.2.2 q)⟩
theorem SV_q {h h' : am_H} {o : Int} (H : SV h o) (f : ∀ x i, ¬ (o + 3 < x ∧ x ≤ o + 73) → ¬ (x = o ∧ 4 ≤ i ∧ i ≤ 6) → h' x i = h x i) (h4 : h o 4 = 1 → h' o 4 = 1) (h5 : h o 5 = 1 → h' o 5 = 1) (h6 : h o 6 = 1 → h' o 6 = 1) (m4 : h' o 4 = 1 → MT h' (o + 3) (h (o + 1) 0) (nr h (o + 2) 0)) (m5 : h' o 5 = 1 → LN h' (o + 46) (h (o + 1) 0) (nr h (o + 2) 0)) (m6 : h' o 6 = 1 → SO h' (o + 70) (nr h (o + 2) 0) ∧ h' o 4 = 1 ∧ h' o 5 = 1) : SQ h h' o := by
  have e1 : nr h' (o + 2) 0 = nr h (o + 2) 0 := nr_fr2 (fun i => f _ _ (by omega) (by omega))
  have e2 : h' (o + 1) 0 = h (o + 1) 0 := f _ _ (by omega) (by omega)
  refine ⟨?_, f, e1, e2, h4, h5, h6⟩
  unfold SV
  rw [e1, e2]
  exact ⟨H.1, H.2.1, m4, m5, m6⟩
def C88b : am_K := fun as h K => am_a1 as (fun v0 => am_o 10 v0 (fun o => (SV h o) ∧ (∀ (h' : am_H), SQ h h' o ∧ h' o 4 = 1 → K (some (mR 1 2 0 ((o + 3)))) (h'))))
def C89b : am_K := fun as h K => am_a1 as (fun v0 => am_o 10 v0 (fun o => (SV h o) ∧ (∀ (h' : am_H), SQ h h' o ∧ h' o 5 = 1 → K (some (mR 1 1 0 ((o + 46)))) (h'))))
def C90b : am_K := fun as h K => am_a1 as (fun v0 => am_o 10 v0 (fun o => (SV h o) ∧ (∀ (h' : am_H), SQ h h' o ∧ h' o 6 = 1 → K (some (mR 1 9 0 ((o + 70)))) (h'))))
theorem C88b_ok : am_CS 4 88 C88b := fun as h K hb => by
  obtain ⟨v0, rfl, hC0⟩ := am_a1_e hb
  obtain ⟨o, rfl, hS, hK⟩ := am_o_e hC0
  refine C88_ok _ h K (show _ ∧ _ from ⟨⟨hS.1, hS.2.1, hS.2.2.1⟩, fun h' q => hK h' ⟨?_, q.2.1⟩⟩)
  have hn := hS.1.1.2.1
  refine SV_q hS (fun x i a b => q.1 x i (by omega) (by omega)) (fun _ => q.2.1) (fun z => by rw [q.1 _ _ (by omega) (by omega)]; exact z) (fun z => by rw [q.1 _ _ (by omega) (by omega)]; exact z) (fun _ => q.2.2) (fun z => LN_fr hn (hS.2.2.2.1 (by rw [← z]; exact (q.1 _ _ (by omega) (by omega)).symm)) (fun x i a b => q.1 _ _ (by omega) (by omega))) (fun z => ?_)
  obtain ⟨s1, s2, s3⟩ := hS.2.2.2.2 (by rw [← z]; exact (q.1 _ _ (by omega) (by omega)).symm)
  exact ⟨SO_fr s1 (fun x i a b => q.1 _ _ (by omega) (by omega)), q.2.1, by rw [q.1 _ _ (by omega) (by omega)]; exact s3⟩
theorem C89b_ok : am_CS 3 89 C89b := fun as h K hb => by
  obtain ⟨v0, rfl, hC0⟩ := am_a1_e hb
  obtain ⟨o, rfl, hS, hK⟩ := am_o_e hC0
  refine C89_ok _ h K (show _ ∧ _ from ⟨⟨hS.1.1, hS.2.1, hS.2.2.2.1⟩, fun h' q => hK h' ⟨?_, q.2.1⟩⟩)
  have hn := hS.1.1.2.1
  refine SV_q hS (fun x i a b => q.1 x i (by omega) (by omega)) (fun z => by rw [q.1 _ _ (by omega) (by omega)]; exact z) (fun _ => q.2.1) (fun z => by rw [q.1 _ _ (by omega) (by omega)]; exact z) (fun z => MT_fr hn (hS.2.2.1 (by rw [← z]; exact (q.1 _ _ (by omega) (by omega)).symm)) (fun x i a b => q.1 _ _ (by omega) (by omega))) (fun _ => q.2.2) (fun z => ?_)
  obtain ⟨s1, s2, s3⟩ := hS.2.2.2.2 (by rw [← z]; exact (q.1 _ _ (by omega) (by omega)).symm)
  exact ⟨SO_fr s1 (fun x i a b => q.1 _ _ (by omega) (by omega)), by rw [q.1 _ _ (by omega) (by omega)]; exact s2, q.2.1⟩
theorem C90b_ok : am_CS 5 90 C90b := fun as h K hb => by
  obtain ⟨v0, rfl, hC0⟩ := am_a1_e hb
  obtain ⟨o, rfl, hS, hK⟩ := am_o_e hC0
  refine C90_ok _ h K (show _ ∧ _ from ⟨⟨hS.1, hS.2.1, hS.2.2.1, hS.2.2.2.1, hS.2.2.2.2⟩, fun h' q => hK h' ⟨?_, q.2.1.2.2⟩⟩)
  exact SV_q hS (fun x i a b => q.1 x i (by omega) (by omega)) (fun _ => q.2.1.1) (fun _ => q.2.1.2.1) (fun _ => q.2.1.2.2) (fun _ => q.2.2.1) (fun _ => q.2.2.2.1) (fun _ => ⟨q.2.2.2.2, q.2.1.1, q.2.1.2.1⟩)
section S5
variable {h h' : am_H}
theorem SV5_N (H : SV h 5) : NT (h 6 0) (nr h 7 0) ∧ CN (h 6 0) (nr h 7 0) := H.1
theorem SV5_M (H : SV h 5) (e : h 5 4 = 1) : MT h 8 (h 6 0) (nr h 7 0) := H.2.2.1 e
theorem SV5_d (H : SV h 5) (e : h 5 4 = 1) {a p : Int} (ha : 0 ≤ a ∧ a < h 6 0) (hp : 0 ≤ p ∧ p < h 6 0) : h (10 + a) p = ds (ad (nr h 7 0)) a p := (SV5_M H e a ha.1 ha.2).1 p hp.1 hp.2
theorem SV5_s (H : SV h 5) (e : h 5 4 = 1) {a d : Int} (ha : 0 ≤ a ∧ a < h 6 0) (hd : 0 ≤ d ∧ d < 20) : h (31 + a) d = shl (nr h 7 0) a d := (SV5_M H e a ha.1 ha.2).2 d hd.1 hd.2
theorem SV5_L (H : SV h 5) (e : h 5 5 = 1) : h 51 0 = nl (nr h 7 0) ∧ (∀ k, 0 ≤ k → k < nl (nr h 7 0) → h 52 k = lo (nr h 7 0) k ∧ h 53 k = hi (nr h 7 0) k) ∧ (∀ a b, 0 ≤ a → a < h 6 0 → 0 ≤ b → b < h 6 0 → h (55 + a) b = lno (nr h 7 0) a b) := H.2.2.2.1 e
theorem SV5_S (H : SV h 5) (e : h 5 6 = 1) : h 75 0 = ncl (sdE (nr h 7 0)) (nl (nr h 7 0)) ∧ h 75 1 = ncl (ptE (nr h 7 0)) (nl (nr h 7 0)) ∧ ∀ k, 0 ≤ k → k < nl (nr h 7 0) → h 76 k = lab (sdE (nr h 7 0)) k ∧ h 77 k = lab (ptE (nr h 7 0)) k := (H.2.2.2.2 e).1
theorem SV5_45 (H : SV h 5) (e : h 5 6 = 1) : h 5 4 = 1 ∧ h 5 5 = 1 := (H.2.2.2.2 e).2
theorem SQ5_n (H : SQ h h' 5) : nr h' 7 0 = nr h 7 0 ∧ h' 6 0 = h 6 0 := ⟨H.2.2.1, H.2.2.2.1⟩
theorem SQ5_f (H : SQ h h' 5) (x i : Int) (a : ¬ (8 < x ∧ x ≤ 78)) (b : ¬ (x = 5 ∧ 4 ≤ i ∧ i ≤ 6)) : h' x i = h x i := H.2.1 x i a b
theorem wf_7 (hw : am_wf h) : ∀ p, 0 ≤ p → p < 20 → R32 (h 7 p) := wf_i (n := 20) (m := 0) 7 hw (by decide +kernel)
theorem SV5_R (H : SV h 5) (hw : am_wf h) : ∀ p, 0 ≤ p → p < 20 → S20 (h 7 p) := NT_S20 (SV5_N H).1 (wf_7 hw)
end S5
/-! twice as many ends as lines -/
theorem sm_add (f g : Int → Int) : ∀ n : Nat, sm (fun k => f k + g k) n = sm f n + sm g n
  | 0 => rfl
  | n + 1 => by
    rw [sm_succ, sm_succ, sm_succ, sm_add f g n]
    omega
theorem sm_0 : ∀ n : Nat, sm (fun _ => 0) n = 0
  | 0 => rfl
  | n + 1 => by rw [sm_succ, sm_0 n]; rfl
theorem ct_sm (P : Int → Prop) : ∀ n : Nat, ct P n = sm (fun k => am_b (P k)) n
  | 0 => rfl
  | n + 1 => by rw [ct_succ, sm_succ, ct_sm P n]
theorem sm_swap (f : Int → Int → Int) (m : Nat) : ∀ n : Nat, sm (fun a => sm (fun b => f a b) m) n = sm (fun b => sm (fun a => f a b) n) m
  | 0 => (sm_0 m).symm
  | n + 1 => by
    rw [sm_succ, sm_swap f m n, ← sm_add]
    rfl
theorem sm_ext {f : Int → Int} (m : Nat) : ∀ j : Nat, (∀ k : Int, (m : Int) ≤ k → f k = 0) → sm f (m + j) = sm f m
  | 0, _ => rfl
  | j + 1, h => by
    rw [show m + (j + 1) = (m + j) + 1 by omega, sm_succ, sm_ext m j h, h _ (by omega)]
    omega
theorem ends {n : Int} {r : Int → Int} (hN : NT n r) : sm (fun p => ct (ad r p) 20) 20 = 2 * nl r := by
  have e1 : ∀ p, ct (ad r p) 20 = up r p + ct (fun b => b < p ∧ ad r p b) 20 := fun p => by
    unfold up
    rw [ct_sm, ct_sm, ct_sm, ← sm_add]
    refine sm_congr 20 (fun b _ _ => ?_)
    by_cases h : ad r p b
    · have := (hN.2.2 _ _ h).2.2.1
      by_cases c : p < b
      · rw [am_b_t h, am_b_t ⟨c, h⟩, am_b_f (fun q => by omega)]; rfl
      · rw [am_b_t h, am_b_f (fun q => by omega), am_b_t ⟨by omega, h⟩]; rfl
    · rw [am_b_f h, am_b_f (fun q => h q.2), am_b_f (fun q => h q.2)]; rfl
  have e2 : sm (fun p => ct (ad r p) 20) 20 = nl r + sm (fun p => ct (fun b => b < p ∧ ad r p b) 20) 20 := by
    unfold nl
    rw [← sm_add]
    exact sm_congr 20 (fun p _ _ => e1 p)
  have e3 : sm (fun p => ct (fun b => b < p ∧ ad r p b) 20) 20 = nl r := by
    unfold nl
    rw [sm_congr (f := fun p => ct (fun b => b < p ∧ ad r p b) 20) (g := fun p => sm (fun b => am_b (b < p ∧ ad r p b)) 20) 20 (fun p _ _ => ct_sm _ 20), sm_swap]
    refine sm_congr 20 (fun b _ _ => ?_)
    unfold up
    rw [ct_sm]
    refine sm_congr 20 (fun p _ _ => ?_)
    rw [show (b < p ∧ ad r p b) = (b < p ∧ ad r b p) from propext ⟨fun q => ⟨q.1, NT_sym hN _ _ q.2⟩, fun q => ⟨q.1, NT_sym hN _ _ q.2⟩⟩]
  omega
theorem iPop_20 {x : Int} (hx : S20 x) : iPop x = ct (bit x) 20 := by
  unfold iPop
  rw [show 32 = 20 + 12 from rfl, ct_ext 20 12 (fun k hk q => by have := S20_in hx q; omega)]
theorem line_cnt {n q : Int} {h : am_H} (hN : NT n (nr h q 0)) (hR : ∀ p, 0 ≤ p → p < 20 → S20 (h q p)) : Int.tdiv (sm (fun p => iPop (h q p)) n.toNat) 2 = nl (nr h q 0) := by
  have h1 := hN.1
  have h2 := hN.2.1
  have e1 : sm (fun p => iPop (h q p)) n.toNat = sm (fun p => ct (ad (nr h q 0) p) 20) n.toNat := sm_congr _ (fun p p0 p1 => by
    rw [iPop_20 (hR p p0 (by omega))]
    refine ct_congr 20 (fun k hk => ?_)
    rw [ad_nr]
    exact ⟨fun z => ⟨by omega, z⟩, fun z => z.2⟩)
  have e2 := sm_ext (f := fun p => ct (ad (nr h q 0) p) 20) n.toNat (20 - n.toNat) (fun k hk => ct_none 20 (fun j hj z => by have := (NT_in hN z).1; omega))
  rw [show n.toNat + (20 - n.toNat) = 20 by omega, ends hN] at e2
  rw [e1, ← e2]
  exact Int.mul_tdiv_cancel_left _ (by decide)
/-! 156 FactorNets.isPoint -/
def C156 : am_K := fun as h K => am_a2 as (fun v0 v1 => am_oc 11 0 v0 (am_n v1 (fun p => K (some (mP (0 ≤ p ∧ p < (h 6 0)))) h)))
theorem W156 {d : Nat} (H : ∀ (p : Int) (h : am_H) (K : Option am_V → am_H → Prop), K (some (mP (0 ≤ p ∧ p < (h 6 0)))) h → am_AT d 156 0 [some (mR 1 11 0 0), some (mB p)] h K) : am_CS d 156 C156 := by
  refine am_CS_of (T := tb156) (mL := 2) (rk := 4) rfl (fun as h K hC => ?_)
  obtain ⟨v0, v1, rfl, hC0⟩ := am_a2_e hC
  obtain ⟨e0, hC1⟩ := am_oc_e hC0
  subst e0
  obtain ⟨p, rfl, hC2⟩ := am_n_e hC1
  refine ⟨Nat.le_of_ble_eq_true rfl, ?_⟩
  exact H p h K hC2
theorem T156_0 {R : Option am_V → am_H → Prop} {h : am_H} {p : Int} (t : R (some (mP (0 ≤ p ∧ p < h (6 : Int) 0))) h) : am_AT 2 156 0 [some (mR 1 11 0 0), some (mB p)] h R :=
  am_T (d := 1) (m := 156) (T := tb156) (mL := 2) (rk := 4) (cuts := []) (l := [(21, C21)]) rfl ⟨am_CS_d (by decide) C21_ok, trivial⟩ 10 (t)
theorem C156_ok : am_CS 2 156 C156 := W156 (fun p h K hb => T156_0 hb)
/-! 157 FactorNets.arePoints -/
def C157 : am_K := fun as h K => am_a3 as (fun v0 v1 v2 => am_oc 11 0 v0 (am_n v1 (fun p => am_n v2 (fun q => K (some (mP (((0 ≤ p ∧ p < (h 6 0)) ∧ (0 ≤ q ∧ q < (h 6 0)))))) h))))
theorem W157 {d : Nat} (H : ∀ (p : Int) (q : Int) (h : am_H) (K : Option am_V → am_H → Prop), K (some (mP (((0 ≤ p ∧ p < (h 6 0)) ∧ (0 ≤ q ∧ q < (h 6 0)))))) h → am_AT d 157 0 [some (mR 1 11 0 0), some (mB p), some (mB q)] h K) : am_CS d 157 C157 := by
  refine am_CS_of (T := tb157) (mL := 3) (rk := 4) rfl (fun as h K hC => ?_)
  obtain ⟨v0, v1, v2, rfl, hC0⟩ := am_a3_e hC
  obtain ⟨e0, hC1⟩ := am_oc_e hC0
  subst e0
  obtain ⟨p, rfl, hC2⟩ := am_n_e hC1
  obtain ⟨q, rfl, hC3⟩ := am_n_e hC2
  refine ⟨Nat.le_of_ble_eq_true rfl, ?_⟩
  exact H p q h K hC3
theorem T157_0 {R : Option am_V → am_H → Prop} {h : am_H} {p : Int} {q : Int} (t : ((¬ (0 ≤ p ∧ p < h (6 : Int) 0)) → (R (some (mP ((0 : Int) = 1))) h)) ∧ ((0 ≤ p ∧ p < h (6 : Int) 0) → (((¬ (0 ≤ q ∧ q < h (6 : Int) 0)) → (R (some (mP ((0 : Int) = 1))) h)) ∧ ((0 ≤ q ∧ q < h (6 : Int) 0) → (R (some (mP ((1 : Int) = 1))) h))))) : am_AT 2 157 0 [some (mR 1 11 0 0), some (mB p), some (mB q)] h R :=
  am_T (d := 1) (m := 157) (T := tb157) (mL := 3) (rk := 4) (cuts := []) (l := [(21, C21)]) rfl ⟨am_CS_d (by decide) C21_ok, trivial⟩ 19 (And.intro (fun c1 => And.intro (Or.inl rfl) ((t).1 c1)) (fun c1 => And.intro (fun c2 => And.intro (Or.inl rfl) (((t).2 c1).1 c2)) (fun c2 => And.intro (Or.inr rfl) (((t).2 c1).2 c2))))
theorem C157_ok : am_CS 2 157 C157 := W157 (fun p q h K hb => T157_0 ⟨fun c => am_rb0 hb (fun z => c z.1), fun c => ⟨fun c2 => am_rb0 hb (fun z => c2 z.2), fun c2 => am_rb1 hb ⟨c, c2⟩⟩⟩)
/-! 158 FactorNets.isLine -/
def C158 : am_K := fun as h K => am_a2 as (fun v0 v1 => am_oc 11 0 v0 (am_n v1 (fun k => (SV h 5) ∧ (∀ (h' : am_H), SQ h h' 5 ∧ (0 ≤ k → h' 5 5 = 1) → K (some (mP (0 ≤ k ∧ k < nl (nr h 7 0)))) (h')))))
theorem W158 {d : Nat} (H : ∀ (k : Int) (h : am_H) (K : Option am_V → am_H → Prop), (SV h 5) ∧ (∀ (h' : am_H), SQ h h' 5 ∧ (0 ≤ k → h' 5 5 = 1) → K (some (mP (0 ≤ k ∧ k < nl (nr h 7 0)))) (h')) → am_AT d 158 0 [some (mR 1 11 0 0), some (mB k)] h K) : am_CS d 158 C158 := by
  refine am_CS_of (T := tb158) (mL := 2) (rk := 4) rfl (fun as h K hC => ?_)
  obtain ⟨v0, v1, rfl, hC0⟩ := am_a2_e hC
  obtain ⟨e0, hC1⟩ := am_oc_e hC0
  subst e0
  obtain ⟨k, rfl, hC2⟩ := am_n_e hC1
  refine ⟨Nat.le_of_ble_eq_true rfl, ?_⟩
  exact H k h K hC2
theorem T158_0 {R : Option am_V → am_H → Prop} {h : am_H} {k : Int} (t : ((k < 0) → (R (some (mP ((0 : Int) = 1))) h)) ∧ ((0 ≤ k) → ((SV h (5 : Int)) ∧ (∀ (h' : am_H), (SQ h h' (5 : Int) ∧ h' (5 : Int) 5 = 1) → (((h' 51 0 ≤ k) → (R (some (mP ((0 : Int) = 1))) h')) ∧ ((k < h' 51 0) → (R (some (mP ((1 : Int) = 1))) h'))))))) : am_AT 4 158 0 [some (mR 1 11 0 0), some (mB k)] h R :=
  am_T (d := 3) (m := 158) (T := tb158) (mL := 2) (rk := 4) (cuts := []) (l := [(89, C89b)]) rfl ⟨am_CS_d (by decide) C89b_ok, trivial⟩ 15 (And.intro (fun c3 => And.intro (Or.inl rfl) ((t).1 c3)) (fun c3 => And.intro ((t).2 c3).1 (fun z1_0 z1_1 => And.intro (fun c4 => And.intro (Or.inl rfl) (((((t).2 c3).2) z1_0 z1_1).1 c4)) (fun c4 => And.intro (Or.inr rfl) (((((t).2 c3).2) z1_0 z1_1).2 c4)))))
theorem C158_ok : am_CS 4 158 C158 := W158 (fun k h K hb => by
  refine T158_0 ⟨fun c1 => ?_, fun c1 => ⟨hb.1, fun h' q2 => ⟨fun c3 => ?_, fun c3 => ?_⟩⟩⟩
  · exact am_rb0 (hb.2 h ⟨SQ_rf hb.1, fun z => by omega⟩) (by omega)
  · have e := (SV5_L q2.1.1 q2.2).1
    rw [(SQ5_n q2.1).1] at e
    exact am_rb0 (hb.2 h' ⟨q2.1, fun _ => q2.2⟩) (by omega)
  · have e := (SV5_L q2.1.1 q2.2).1
    rw [(SQ5_n q2.1).1] at e
    exact am_rb1 (hb.2 h' ⟨q2.1, fun _ => q2.2⟩) (by omega))
/-! 160 FactorNets.isSide -/
def C160 : am_K := fun as h K => am_a2 as (fun v0 v1 => am_oc 11 0 v0 (am_n v1 (fun k => (SV h 5) ∧ (∀ (h' : am_H), SQ h h' 5 ∧ (0 ≤ k → h' 5 6 = 1) → K (some (mP (0 ≤ k ∧ k < ncl (sdE (nr h 7 0)) (nl (nr h 7 0))))) (h')))))
theorem W160 {d : Nat} (H : ∀ (k : Int) (h : am_H) (K : Option am_V → am_H → Prop), (SV h 5) ∧ (∀ (h' : am_H), SQ h h' 5 ∧ (0 ≤ k → h' 5 6 = 1) → K (some (mP (0 ≤ k ∧ k < ncl (sdE (nr h 7 0)) (nl (nr h 7 0))))) (h')) → am_AT d 160 0 [some (mR 1 11 0 0), some (mB k)] h K) : am_CS d 160 C160 := by
  refine am_CS_of (T := tb160) (mL := 2) (rk := 4) rfl (fun as h K hC => ?_)
  obtain ⟨v0, v1, rfl, hC0⟩ := am_a2_e hC
  obtain ⟨e0, hC1⟩ := am_oc_e hC0
  subst e0
  obtain ⟨k, rfl, hC2⟩ := am_n_e hC1
  refine ⟨Nat.le_of_ble_eq_true rfl, ?_⟩
  exact H k h K hC2
theorem T160_0 {R : Option am_V → am_H → Prop} {h : am_H} {k : Int} (t : ((k < 0) → (R (some (mP ((0 : Int) = 1))) h)) ∧ ((0 ≤ k) → ((SV h (5 : Int)) ∧ (∀ (h' : am_H), (SQ h h' (5 : Int) ∧ h' (5 : Int) 6 = 1) → (((h' 75 0 ≤ k) → (R (some (mP ((0 : Int) = 1))) h')) ∧ ((k < h' 75 0) → (R (some (mP ((1 : Int) = 1))) h'))))))) : am_AT 6 160 0 [some (mR 1 11 0 0), some (mB k)] h R :=
  am_T (d := 5) (m := 160) (T := tb160) (mL := 2) (rk := 4) (cuts := []) (l := [(90, C90b)]) rfl ⟨am_CS_d (by decide) C90b_ok, trivial⟩ 15 (And.intro (fun c5 => And.intro (Or.inl rfl) ((t).1 c5)) (fun c5 => And.intro ((t).2 c5).1 (fun z2_0 z2_1 => And.intro (fun c6 => And.intro (Or.inl rfl) (((((t).2 c5).2) z2_0 z2_1).1 c6)) (fun c6 => And.intro (Or.inr rfl) (((((t).2 c5).2) z2_0 z2_1).2 c6)))))
theorem C160_ok : am_CS 6 160 C160 := W160 (fun k h K hb => by
  refine T160_0 ⟨fun c1 => ?_, fun c1 => ⟨hb.1, fun h' q2 => ⟨fun c3 => ?_, fun c3 => ?_⟩⟩⟩
  · exact am_rb0 (hb.2 h ⟨SQ_rf hb.1, fun z => by omega⟩) (by omega)
  · have e := (SV5_S q2.1.1 q2.2).1
    rw [(SQ5_n q2.1).1] at e
    exact am_rb0 (hb.2 h' ⟨q2.1, fun _ => q2.2⟩) (by omega)
  · have e := (SV5_S q2.1.1 q2.2).1
    rw [(SQ5_n q2.1).1] at e
    exact am_rb1 (hb.2 h' ⟨q2.1, fun _ => q2.2⟩) (by omega))
/-! 97 FactorNets.count -/
def C97 : am_K := fun as h K => am_a2 as (fun v0 v1 => am_oc 11 0 v0 (am_n v1 (fun w => (SV h 5) ∧ (∀ (h' : am_H), SQ h h' 5 → K (some (mB (if w = 0 then (h 6 0) else if w = 1 then nl (nr h 7 0) else if w = 2 then h 171 0 else if w = 3 then ncl (ptE (nr h 7 0)) (nl (nr h 7 0)) else if w = 4 then ncl (sdE (nr h 7 0)) (nl (nr h 7 0)) else if w = 5 then h 171 1 else if w = 6 then h 1 1 else if w = 7 then h 0 15 else -1))) (h')))))
theorem W97 {d : Nat} (H : ∀ (w : Int) (h : am_H) (K : Option am_V → am_H → Prop), (SV h 5) ∧ (∀ (h' : am_H), SQ h h' 5 → K (some (mB (if w = 0 then (h 6 0) else if w = 1 then nl (nr h 7 0) else if w = 2 then h 171 0 else if w = 3 then ncl (ptE (nr h 7 0)) (nl (nr h 7 0)) else if w = 4 then ncl (sdE (nr h 7 0)) (nl (nr h 7 0)) else if w = 5 then h 171 1 else if w = 6 then h 1 1 else if w = 7 then h 0 15 else -1))) (h')) → am_AT d 97 0 [some (mR 1 11 0 0), some (mB w)] h K) : am_CS d 97 C97 := by
  refine am_CS_of (T := tb97) (mL := 2) (rk := 1) rfl (fun as h K hC => ?_)
  obtain ⟨v0, v1, rfl, hC0⟩ := am_a2_e hC
  obtain ⟨e0, hC1⟩ := am_oc_e hC0
  subst e0
  obtain ⟨w, rfl, hC2⟩ := am_n_e hC1
  refine ⟨Nat.le_of_ble_eq_true rfl, ?_⟩
  exact H w h K hC2
theorem T97_0 {R : Option am_V → am_H → Prop} {h : am_H} {w : Int} (t : ((w < 0 ∨ 7 < w) → (R (some (mB (-1))) h)) ∧ (((w = 0) → (R (some (mB (h 6 0))) h)) ∧ (((w = 1) → (((0 ≤ h (6 : Int) 0 ∧ h (6 : Int) 0 ≤ 20) ∧ (∀ p, 0 ≤ p → p < 20 → S20 (h 7 p))) ∧ (R (some (mB (Int.tdiv (sm (fun p => iPop (h 7 p)) (h (6 : Int) 0).toNat) 2))) h))) ∧ (((w = 2) → (R (some (mB (h 171 0))) h)) ∧ (((w = 3) → ((SV h (5 : Int)) ∧ (∀ (h' : am_H), (SQ h h' (5 : Int) ∧ h' (5 : Int) 6 = 1) → (R (some (mB (h' 75 1))) h')))) ∧ (((w = 4) → ((SV h (5 : Int)) ∧ (∀ (h' : am_H), (SQ h h' (5 : Int) ∧ h' (5 : Int) 6 = 1) → (R (some (mB (h' 75 0))) h')))) ∧ (((w = 5) → (R (some (mB (h 171 1))) h)) ∧ (((w = 6) → (R (some (mB (h 1 1))) h)) ∧ (((w = 7) → (R (some (mB (h 0 15))) h)) ∧ True))))))))) : am_AT 6 97 0 [some (mR 1 11 0 0), some (mB w)] h R :=
  am_T (d := 5) (m := 97) (T := tb97) (mL := 2) (rk := 1) (cuts := []) (l := [(26, C26), (90, C90b)]) rfl ⟨am_CS_d (by decide) C26_ok, am_CS_d (by decide) C90b_ok, trivial⟩ 11 (And.intro (fun c7 => (t).1 c7) (And.intro (fun c7 => ((t).2).1 c7) (And.intro (fun c7 => And.intro ((((t).2).2).1 c7).1 (((((t).2).2).1 c7).2)) (And.intro (fun c7 => ((((t).2).2).2).1 c7) (And.intro (fun c7 => And.intro ((((((t).2).2).2).2).1 c7).1 (fun z3_0 z3_1 => (((((((t).2).2).2).2).1 c7).2) z3_0 z3_1)) (And.intro (fun c7 => And.intro (((((((t).2).2).2).2).2).1 c7).1 (fun z4_0 z4_1 => ((((((((t).2).2).2).2).2).1 c7).2) z4_0 z4_1)) (And.intro (fun c7 => (((((((t).2).2).2).2).2).2).1 c7) (And.intro (fun c7 => ((((((((t).2).2).2).2).2).2).2).1 c7) (And.intro (fun c7 => (((((((((t).2).2).2).2).2).2).2).2).1 c7) (trivial))))))))))
theorem C97_ok : am_CS 6 97 C97 := W97 (fun w h K hb => am_AT_ok (fun hw _ => by
  have hN := (SV5_N hb.1).1
  have hn1 := hN.1
  have hn2 := hN.2.1
  have hR := SV5_R hb.1 hw
  refine T97_0 ⟨fun c1 => ?_, fun c1 => ?_, fun c1 => ⟨⟨⟨hn1, hn2⟩, hR⟩, ?_⟩, fun c1 => ?_, fun c1 => ⟨hb.1, fun h' q2 => ?_⟩, fun c1 => ⟨hb.1, fun h' q2 => ?_⟩, fun c1 => ?_, fun c1 => ?_, fun c1 => ?_, trivial⟩
  · have e := hb.2 h (SQ_rf hb.1)
    rw [if_neg (by omega), if_neg (by omega), if_neg (by omega), if_neg (by omega), if_neg (by omega), if_neg (by omega), if_neg (by omega), if_neg (by omega)] at e
    exact e
  · have e := hb.2 h (SQ_rf hb.1)
    rw [if_pos c1] at e
    exact e
  · have e := hb.2 h (SQ_rf hb.1)
    rw [if_neg (by omega), if_pos c1, ← line_cnt hN hR] at e
    exact e
  · have e := hb.2 h (SQ_rf hb.1)
    rw [if_neg (by omega), if_neg (by omega), if_pos c1] at e
    exact e
  · have e := hb.2 h' q2.1
    rw [if_neg (by omega), if_neg (by omega), if_neg (by omega), if_pos c1] at e
    refine am_rB e ?_
    rw [(SV5_S q2.1.1 q2.2).2.1, (SQ5_n q2.1).1]
  · have e := hb.2 h' q2.1
    rw [if_neg (by omega), if_neg (by omega), if_neg (by omega), if_neg (by omega), if_pos c1] at e
    refine am_rB e ?_
    rw [(SV5_S q2.1.1 q2.2).1, (SQ5_n q2.1).1]
  · have e := hb.2 h (SQ_rf hb.1)
    rw [if_neg (by omega), if_neg (by omega), if_neg (by omega), if_neg (by omega), if_neg (by omega), if_pos c1] at e
    exact e
  · have e := hb.2 h (SQ_rf hb.1)
    rw [if_neg (by omega), if_neg (by omega), if_neg (by omega), if_neg (by omega), if_neg (by omega), if_neg (by omega), if_pos c1] at e
    exact e
  · have e := hb.2 h (SQ_rf hb.1)
    rw [if_neg (by omega), if_neg (by omega), if_neg (by omega), if_neg (by omega), if_neg (by omega), if_neg (by omega), if_neg (by omega), if_pos c1] at e
    exact e))
/-! 98 FactorNets.line -/
def C98 : am_K := fun as h K => am_a3 as (fun v0 v1 v2 => am_oc 11 0 v0 (am_n v1 (fun k => am_n v2 (fun w => (SV h 5) ∧ (∀ (h' : am_H), SQ h h' 5 → K (some (mB (ifc ((0 ≤ k ∧ k < nl (nr h 7 0)) ∧ (0 ≤ w ∧ w ≤ 3)) (if w = 0 then lo (nr h 7 0) k else if w = 1 then hi (nr h 7 0) k else if w = 2 then lab (ptE (nr h 7 0)) k else lab (sdE (nr h 7 0)) k) (-2)))) (h'))))))
theorem W98 {d : Nat} (H : ∀ (k : Int) (w : Int) (h : am_H) (K : Option am_V → am_H → Prop), (SV h 5) ∧ (∀ (h' : am_H), SQ h h' 5 → K (some (mB (ifc ((0 ≤ k ∧ k < nl (nr h 7 0)) ∧ (0 ≤ w ∧ w ≤ 3)) (if w = 0 then lo (nr h 7 0) k else if w = 1 then hi (nr h 7 0) k else if w = 2 then lab (ptE (nr h 7 0)) k else lab (sdE (nr h 7 0)) k) (-2)))) (h')) → am_AT d 98 0 [some (mR 1 11 0 0), some (mB k), some (mB w)] h K) : am_CS d 98 C98 := by
  refine am_CS_of (T := tb98) (mL := 3) (rk := 1) rfl (fun as h K hC => ?_)
  obtain ⟨v0, v1, v2, rfl, hC0⟩ := am_a3_e hC
  obtain ⟨e0, hC1⟩ := am_oc_e hC0
  subst e0
  obtain ⟨k, rfl, hC2⟩ := am_n_e hC1
  obtain ⟨w, rfl, hC3⟩ := am_n_e hC2
  refine ⟨Nat.le_of_ble_eq_true rfl, ?_⟩
  exact H k w h K hC3
theorem T98_0 {R : Option am_V → am_H → Prop} {h : am_H} {k : Int} {w : Int} (t : (SV h 5) ∧ (∀ (h' : am_H), (SQ h h' 5 ∧ (0 ≤ k → h' 5 5 = 1)) → (((0 ≤ k ∧ k < nl (nr h 7 0)) → (((w < 0 ∨ 3 < w) → (R (some (mB (-2))) h')) ∧ (((w = 0) → ((SV h' (5 : Int)) ∧ (∀ (h'_1 : am_H), (SQ h' h'_1 (5 : Int) ∧ h'_1 (5 : Int) 5 = 1) → ((0 ≤ k ∧ k < 190) ∧ (R (some (mB (h'_1 52 k))) h'_1))))) ∧ (((w = 1) → ((SV h' (5 : Int)) ∧ (∀ (h'_1 : am_H), (SQ h' h'_1 (5 : Int) ∧ h'_1 (5 : Int) 5 = 1) → ((0 ≤ k ∧ k < 190) ∧ (R (some (mB (h'_1 53 k))) h'_1))))) ∧ (((w = 2) → ((SV h' (5 : Int)) ∧ (∀ (h'_1 : am_H), (SQ h' h'_1 (5 : Int) ∧ h'_1 (5 : Int) 6 = 1) → ((0 ≤ k ∧ k < 190) ∧ (R (some (mB (h'_1 77 k))) h'_1))))) ∧ (((w = 3) → ((SV h' (5 : Int)) ∧ (∀ (h'_1 : am_H), (SQ h' h'_1 (5 : Int) ∧ h'_1 (5 : Int) 6 = 1) → ((0 ≤ k ∧ k < 190) ∧ (R (some (mB (h'_1 76 k))) h'_1))))) ∧ True)))))) ∧ ((¬ (0 ≤ k ∧ k < nl (nr h 7 0))) → (R (some (mB (-2))) h'))))) : am_AT 6 98 0 [some (mR 1 11 0 0), some (mB k), some (mB w)] h R :=
  am_T (d := 5) (m := 98) (T := tb98) (mL := 3) (rk := 1) (cuts := []) (l := [(89, C89b), (90, C90b), (158, C158)]) rfl ⟨am_CS_d (by decide) C89b_ok, am_CS_d (by decide) C90b_ok, am_CS_d (by decide) C158_ok, trivial⟩ 17 (And.intro (rfl) (And.intro (t).1 (fun z5_0 z5_1 => And.intro (fun c8 => And.intro (fun c9 => ((((t).2) z5_0 z5_1).1 c8).1 c9) (And.intro (fun c9 => And.intro ((((((t).2) z5_0 z5_1).1 c8).2).1 c9).1 (fun z6_0 z6_1 => And.intro ((((((((t).2) z5_0 z5_1).1 c8).2).1 c9).2) z6_0 z6_1).1 (((((((((t).2) z5_0 z5_1).1 c8).2).1 c9).2) z6_0 z6_1).2))) (And.intro (fun c9 => And.intro (((((((t).2) z5_0 z5_1).1 c8).2).2).1 c9).1 (fun z7_0 z7_1 => And.intro (((((((((t).2) z5_0 z5_1).1 c8).2).2).1 c9).2) z7_0 z7_1).1 ((((((((((t).2) z5_0 z5_1).1 c8).2).2).1 c9).2) z7_0 z7_1).2))) (And.intro (fun c9 => And.intro ((((((((t).2) z5_0 z5_1).1 c8).2).2).2).1 c9).1 (fun z8_0 z8_1 => And.intro ((((((((((t).2) z5_0 z5_1).1 c8).2).2).2).1 c9).2) z8_0 z8_1).1 (((((((((((t).2) z5_0 z5_1).1 c8).2).2).2).1 c9).2) z8_0 z8_1).2))) (And.intro (fun c9 => And.intro (((((((((t).2) z5_0 z5_1).1 c8).2).2).2).2).1 c9).1 (fun z9_0 z9_1 => And.intro (((((((((((t).2) z5_0 z5_1).1 c8).2).2).2).2).1 c9).2) z9_0 z9_1).1 ((((((((((((t).2) z5_0 z5_1).1 c8).2).2).2).2).1 c9).2) z9_0 z9_1).2))) (trivial)))))) (fun c8 => (((t).2) z5_0 z5_1).2 c8))))
theorem C98_ok : am_CS 6 98 C98 := W98 (fun k w h K hb => by
  have hnl := nl_r (nr h 7 0)
  refine T98_0 ⟨hb.1, fun h' q1 => ⟨fun c2 => ⟨fun c3 => ?_, fun c3 => ⟨q1.1.1, fun h'_1 q4 => ⟨by omega, ?_⟩⟩, fun c3 => ⟨q1.1.1, fun h'_1 q4 => ⟨by omega, ?_⟩⟩, fun c3 => ⟨q1.1.1, fun h'_1 q4 => ⟨by omega, ?_⟩⟩, fun c3 => ⟨q1.1.1, fun h'_1 q4 => ⟨by omega, ?_⟩⟩, trivial⟩, fun c2 => ?_⟩⟩
  · have e := hb.2 h' q1.1
    rw [ifc_f (by omega)] at e
    exact e
  · have e := hb.2 h'_1 (SQ_tr q1.1 q4.1)
    rw [ifc_t ⟨c2, by omega⟩, if_pos c3] at e
    have e3 := SQ5_n (SQ_tr q1.1 q4.1)
    have e2 := (SV5_L q4.1.1 q4.2).2.1
    rw [e3.1] at e2
    exact am_rB e (e2 k c2.1 c2.2).1.symm
  · have e := hb.2 h'_1 (SQ_tr q1.1 q4.1)
    rw [ifc_t ⟨c2, by omega⟩, if_neg (by omega), if_pos c3] at e
    have e3 := SQ5_n (SQ_tr q1.1 q4.1)
    have e2 := (SV5_L q4.1.1 q4.2).2.1
    rw [e3.1] at e2
    exact am_rB e (e2 k c2.1 c2.2).2.symm
  · have e := hb.2 h'_1 (SQ_tr q1.1 q4.1)
    rw [ifc_t ⟨c2, by omega⟩, if_neg (by omega), if_neg (by omega), if_pos c3] at e
    have e3 := SQ5_n (SQ_tr q1.1 q4.1)
    have e2 := (SV5_S q4.1.1 q4.2).2.2
    rw [e3.1] at e2
    exact am_rB e (e2 k c2.1 c2.2).2.symm
  · have e := hb.2 h'_1 (SQ_tr q1.1 q4.1)
    rw [ifc_t ⟨c2, by omega⟩, if_neg (by omega), if_neg (by omega), if_neg (by omega)] at e
    have e3 := SQ5_n (SQ_tr q1.1 q4.1)
    have e2 := (SV5_S q4.1.1 q4.2).2.2
    rw [e3.1] at e2
    exact am_rB e (e2 k c2.1 c2.2).1.symm
  · have e := hb.2 h' q1.1
    rw [ifc_f (fun z => c2 z.1)] at e
    exact e)
/-! 99 FactorNets.between -/
def C99 : am_K := fun as h K => am_a3 as (fun v0 v1 v2 => am_oc 11 0 v0 (am_n v1 (fun p => am_n v2 (fun q => (SV h 5) ∧ (∀ (h' : am_H), SQ h h' 5 → K (some (mB (ifc ((0 ≤ p ∧ p < (h 6 0)) ∧ (0 ≤ q ∧ q < (h 6 0))) (lno (nr h 7 0) p q) (-2)))) (h'))))))
theorem W99 {d : Nat} (H : ∀ (p : Int) (q : Int) (h : am_H) (K : Option am_V → am_H → Prop), (SV h 5) ∧ (∀ (h' : am_H), SQ h h' 5 → K (some (mB (ifc ((0 ≤ p ∧ p < (h 6 0)) ∧ (0 ≤ q ∧ q < (h 6 0))) (lno (nr h 7 0) p q) (-2)))) (h')) → am_AT d 99 0 [some (mR 1 11 0 0), some (mB p), some (mB q)] h K) : am_CS d 99 C99 := by
  refine am_CS_of (T := tb99) (mL := 3) (rk := 1) rfl (fun as h K hC => ?_)
  obtain ⟨v0, v1, v2, rfl, hC0⟩ := am_a3_e hC
  obtain ⟨e0, hC1⟩ := am_oc_e hC0
  subst e0
  obtain ⟨p, rfl, hC2⟩ := am_n_e hC1
  obtain ⟨q, rfl, hC3⟩ := am_n_e hC2
  refine ⟨Nat.le_of_ble_eq_true rfl, ?_⟩
  exact H p q h K hC3
theorem T99_0 {R : Option am_V → am_H → Prop} {h : am_H} {p : Int} {q : Int} (t : ((¬ (((0 ≤ p ∧ p < (h 6 0)) ∧ (0 ≤ q ∧ q < (h 6 0))))) → (R (some (mB (-2))) h)) ∧ ((((0 ≤ p ∧ p < (h 6 0)) ∧ (0 ≤ q ∧ q < (h 6 0)))) → ((SV h (5 : Int)) ∧ (∀ (h' : am_H), (SQ h h' (5 : Int) ∧ h' (5 : Int) 5 = 1) → ((0 ≤ p ∧ p < 20) ∧ ((0 ≤ q ∧ q < 20) ∧ (R (some (mB (h' (55 + p) q))) h'))))))) : am_AT 4 99 0 [some (mR 1 11 0 0), some (mB p), some (mB q)] h R :=
  am_T (d := 3) (m := 99) (T := tb99) (mL := 3) (rk := 1) (cuts := []) (l := [(89, C89b), (157, C157)]) rfl ⟨am_CS_d (by decide) C89b_ok, am_CS_d (by decide) C157_ok, trivial⟩ 19 (And.intro (rfl) (And.intro (fun c10 => (t).1 c10) (fun c10 => And.intro ((t).2 c10).1 (fun z10_0 z10_1 => And.intro ((((t).2 c10).2) z10_0 z10_1).1 (And.intro (((((t).2 c10).2) z10_0 z10_1).2).1 ((((((t).2 c10).2) z10_0 z10_1).2).2))))))
theorem C99_ok : am_CS 4 99 C99 := W99 (fun p q h K hb => by
  have hn2 := (SV5_N hb.1).1.2.1
  refine T99_0 ⟨fun c1 => ?_, fun c1 => ⟨hb.1, fun h' q2 => ⟨by omega, ⟨by omega, ?_⟩⟩⟩⟩
  · exact am_rB (hb.2 h (SQ_rf hb.1)) (ifc_f c1)
  · refine am_rB (hb.2 h' q2.1) ?_
    have e := SQ5_n q2.1
    rw [ifc_t c1, (SV5_L q2.1.1 q2.2).2.2 p q c1.1.1 (by omega) c1.2.1 (by omega), e.1])
/-! 100 FactorNets.beside -/
def C100 : am_K := fun as h K => am_a2 as (fun v0 v1 => am_oc 11 0 v0 (am_n v1 (fun p => (SV h 5) ∧ (K (some (mB (ifc (0 ≤ p ∧ p < (h 6 0)) ((nr h 7 0) p) (-2)))) h))))
theorem W100 {d : Nat} (H : ∀ (p : Int) (h : am_H) (K : Option am_V → am_H → Prop), (SV h 5) ∧ (K (some (mB (ifc (0 ≤ p ∧ p < (h 6 0)) ((nr h 7 0) p) (-2)))) h) → am_AT d 100 0 [some (mR 1 11 0 0), some (mB p)] h K) : am_CS d 100 C100 := by
  refine am_CS_of (T := tb100) (mL := 2) (rk := 1) rfl (fun as h K hC => ?_)
  obtain ⟨v0, v1, rfl, hC0⟩ := am_a2_e hC
  obtain ⟨e0, hC1⟩ := am_oc_e hC0
  subst e0
  obtain ⟨p, rfl, hC2⟩ := am_n_e hC1
  refine ⟨Nat.le_of_ble_eq_true rfl, ?_⟩
  exact H p h K hC2
theorem T100_0 {R : Option am_V → am_H → Prop} {h : am_H} {p : Int} (t : ((¬ (0 ≤ p ∧ p < (h 6 0))) → (R (some (mB (-2))) h)) ∧ ((0 ≤ p ∧ p < (h 6 0)) → ((0 ≤ p ∧ p < 20) ∧ (R (some (mB (h 7 p))) h)))) : am_AT 3 100 0 [some (mR 1 11 0 0), some (mB p)] h R :=
  am_T (d := 2) (m := 100) (T := tb100) (mL := 2) (rk := 1) (cuts := []) (l := [(156, C156)]) rfl ⟨am_CS_d (by decide) C156_ok, trivial⟩ 16 (And.intro (rfl) (And.intro (fun c11 => (t).1 c11) (fun c11 => And.intro ((t).2 c11).1 (((t).2 c11).2))))
theorem C100_ok : am_CS 3 100 C100 := W100 (fun p h K hb => by
  have hn2 := (SV5_N hb.1).1.2.1
  refine T100_0 ⟨fun c1 => ?_, fun c1 => ⟨by omega, ?_⟩⟩
  · exact am_rB hb.2 (ifc_f c1)
  · exact am_rB hb.2 (by rw [ifc_t c1, nr_in0 c1.1 (by omega)]))
/-! 101 FactorNets.far -/
def C101 : am_K := fun as h K => am_a3 as (fun v0 v1 v2 => am_oc 11 0 v0 (am_n v1 (fun p => am_n v2 (fun q => (SV h 5) ∧ (∀ (h' : am_H), SQ h h' 5 → K (some (mB (ifc ((0 ≤ p ∧ p < (h 6 0)) ∧ (0 ≤ q ∧ q < (h 6 0))) (ds (ad (nr h 7 0)) p q) (-2)))) (h'))))))
theorem W101 {d : Nat} (H : ∀ (p : Int) (q : Int) (h : am_H) (K : Option am_V → am_H → Prop), (SV h 5) ∧ (∀ (h' : am_H), SQ h h' 5 → K (some (mB (ifc ((0 ≤ p ∧ p < (h 6 0)) ∧ (0 ≤ q ∧ q < (h 6 0))) (ds (ad (nr h 7 0)) p q) (-2)))) (h')) → am_AT d 101 0 [some (mR 1 11 0 0), some (mB p), some (mB q)] h K) : am_CS d 101 C101 := by
  refine am_CS_of (T := tb101) (mL := 3) (rk := 1) rfl (fun as h K hC => ?_)
  obtain ⟨v0, v1, v2, rfl, hC0⟩ := am_a3_e hC
  obtain ⟨e0, hC1⟩ := am_oc_e hC0
  subst e0
  obtain ⟨p, rfl, hC2⟩ := am_n_e hC1
  obtain ⟨q, rfl, hC3⟩ := am_n_e hC2
  refine ⟨Nat.le_of_ble_eq_true rfl, ?_⟩
  exact H p q h K hC3
theorem T101_0 {R : Option am_V → am_H → Prop} {h : am_H} {p : Int} {q : Int} (t : ((¬ (((0 ≤ p ∧ p < (h 6 0)) ∧ (0 ≤ q ∧ q < (h 6 0))))) → (R (some (mB (-2))) h)) ∧ ((((0 ≤ p ∧ p < (h 6 0)) ∧ (0 ≤ q ∧ q < (h 6 0)))) → ((SV h (5 : Int)) ∧ (∀ (h' : am_H), (SQ h h' (5 : Int) ∧ h' (5 : Int) 4 = 1) → ((0 ≤ p ∧ p < 20) ∧ ((0 ≤ q ∧ q < 20) ∧ (R (some (mB (h' (10 + p) q))) h'))))))) : am_AT 5 101 0 [some (mR 1 11 0 0), some (mB p), some (mB q)] h R :=
  am_T (d := 4) (m := 101) (T := tb101) (mL := 3) (rk := 1) (cuts := []) (l := [(88, C88b), (157, C157)]) rfl ⟨am_CS_d (by decide) C88b_ok, am_CS_d (by decide) C157_ok, trivial⟩ 19 (And.intro (rfl) (And.intro (fun c12 => (t).1 c12) (fun c12 => And.intro ((t).2 c12).1 (fun z11_0 z11_1 => And.intro ((((t).2 c12).2) z11_0 z11_1).1 (And.intro (((((t).2 c12).2) z11_0 z11_1).2).1 ((((((t).2 c12).2) z11_0 z11_1).2).2))))))
theorem C101_ok : am_CS 5 101 C101 := W101 (fun p q h K hb => by
  have hn2 := (SV5_N hb.1).1.2.1
  refine T101_0 ⟨fun c1 => ?_, fun c1 => ⟨hb.1, fun h' q2 => ⟨by omega, ⟨by omega, ?_⟩⟩⟩⟩
  · exact am_rB (hb.2 h (SQ_rf hb.1)) (ifc_f c1)
  · refine am_rB (hb.2 h' q2.1) ?_
    have e := SQ5_n q2.1
    rw [ifc_t c1, SV5_d q2.1.1 q2.2 (by omega) (by omega), e.1])
/-! 103 FactorNets.amid -/
def C103 : am_K := fun as h K => am_a3 as (fun v0 v1 v2 => am_oc 11 0 v0 (am_n v1 (fun p => am_n v2 (fun q => (SV h 5) ∧ (∀ (h' : am_H), SQ h h' 5 → K (some (mB (ifc ((0 ≤ p ∧ p < (h 6 0)) ∧ (0 ≤ q ∧ q < (h 6 0))) (amd (h 6 0) (nr h 7 0) p q) (-2)))) (h'))))))
theorem W103 {d : Nat} (H : ∀ (p : Int) (q : Int) (h : am_H) (K : Option am_V → am_H → Prop), (SV h 5) ∧ (∀ (h' : am_H), SQ h h' 5 → K (some (mB (ifc ((0 ≤ p ∧ p < (h 6 0)) ∧ (0 ≤ q ∧ q < (h 6 0))) (amd (h 6 0) (nr h 7 0) p q) (-2)))) (h')) → am_AT d 103 0 [some (mR 1 11 0 0), some (mB p), some (mB q)] h K) : am_CS d 103 C103 := by
  refine am_CS_of (T := tb103) (mL := 3) (rk := 1) rfl (fun as h K hC => ?_)
  obtain ⟨v0, v1, v2, rfl, hC0⟩ := am_a3_e hC
  obtain ⟨e0, hC1⟩ := am_oc_e hC0
  subst e0
  obtain ⟨p, rfl, hC2⟩ := am_n_e hC1
  obtain ⟨q, rfl, hC3⟩ := am_n_e hC2
  refine ⟨Nat.le_of_ble_eq_true rfl, ?_⟩
  exact H p q h K hC3
theorem T103_0 {R : Option am_V → am_H → Prop} {h : am_H} {p : Int} {q : Int} (t : ((¬ (((0 ≤ p ∧ p < (h 6 0)) ∧ (0 ≤ q ∧ q < (h 6 0))))) → (R (some (mB (-2))) h)) ∧ ((((0 ≤ p ∧ p < (h 6 0)) ∧ (0 ≤ q ∧ q < (h 6 0)))) → ((SV h (5 : Int)) ∧ (∀ (h' : am_H), (SQ h h' (5 : Int) ∧ h' (5 : Int) 4 = 1) → (((NT (h' 6 0) (nr h' 7 0) ∧ CN (h' 6 0) (nr h' 7 0) ∧ MT h' (8 : Int) (h' 6 0) (nr h' 7 0)) ∧ (0 ≤ p ∧ p < h' 6 0) ∧ (0 ≤ q ∧ q < h' 6 0)) ∧ (R (some (mB (amd (h' 6 0) (nr h' 7 0) p q))) h')))))) : am_AT 5 103 0 [some (mR 1 11 0 0), some (mB p), some (mB q)] h R :=
  am_T (d := 4) (m := 103) (T := tb103) (mL := 3) (rk := 1) (cuts := []) (l := [(16, C16), (88, C88b), (157, C157)]) rfl ⟨am_CS_d (by decide) C16_ok, am_CS_d (by decide) C88b_ok, am_CS_d (by decide) C157_ok, trivial⟩ 17 (And.intro (rfl) (And.intro (fun c13 => (t).1 c13) (fun c13 => And.intro ((t).2 c13).1 (fun z12_0 z12_1 => And.intro ((((t).2 c13).2) z12_0 z12_1).1 (((((t).2 c13).2) z12_0 z12_1).2)))))
theorem C103_ok : am_CS 5 103 C103 := W103 (fun p q h K hb => by
  refine T103_0 ⟨fun c1 => ?_, fun c1 => ⟨hb.1, fun h' q2 => ⟨by have e := SQ5_n q2.1; exact ⟨⟨(SV5_N q2.1.1).1, (SV5_N q2.1.1).2, SV5_M q2.1.1 q2.2⟩, by omega, by omega⟩, ?_⟩⟩⟩
  · exact am_rB (hb.2 h (SQ_rf hb.1)) (ifc_f c1)
  · refine am_rB (hb.2 h' q2.1) ?_
    have e := SQ5_n q2.1
    rw [ifc_t c1, e.1, e.2])
/-! 125 FactorNets.shell -/
def C125 : am_K := fun as h K => am_a3 as (fun v0 v1 v2 => am_oc 11 0 v0 (am_n v1 (fun p => am_n v2 (fun dd => (SV h 5) ∧ (∀ (h' : am_H), SQ h h' 5 → K (some (mB (ifc ((0 ≤ p ∧ p < (h 6 0)) ∧ 0 ≤ dd) (mkb (fun q => q < (h 6 0) ∧ ds (ad (nr h 7 0)) p q = dd)) (-2)))) (h'))))))
theorem W125 {d : Nat} (H : ∀ (p : Int) (dd : Int) (h : am_H) (K : Option am_V → am_H → Prop), (SV h 5) ∧ (∀ (h' : am_H), SQ h h' 5 → K (some (mB (ifc ((0 ≤ p ∧ p < (h 6 0)) ∧ 0 ≤ dd) (mkb (fun q => q < (h 6 0) ∧ ds (ad (nr h 7 0)) p q = dd)) (-2)))) (h')) → am_AT d 125 0 [some (mR 1 11 0 0), some (mB p), some (mB dd)] h K) : am_CS d 125 C125 := by
  refine am_CS_of (T := tb125) (mL := 3) (rk := 1) rfl (fun as h K hC => ?_)
  obtain ⟨v0, v1, v2, rfl, hC0⟩ := am_a3_e hC
  obtain ⟨e0, hC1⟩ := am_oc_e hC0
  subst e0
  obtain ⟨p, rfl, hC2⟩ := am_n_e hC1
  obtain ⟨dd, rfl, hC3⟩ := am_n_e hC2
  refine ⟨Nat.le_of_ble_eq_true rfl, ?_⟩
  exact H p dd h K hC3
theorem T125_0 {R : Option am_V → am_H → Prop} {h : am_H} {p : Int} {dd : Int} (t : ((¬ (0 ≤ p ∧ p < (h 6 0))) → (R (some (mB (-2))) h)) ∧ ((0 ≤ p ∧ p < (h 6 0)) → (((0 ≤ dd) → (((20 ≤ dd) → (R (some (mB 0)) h)) ∧ ((dd < 20) → ((SV h (5 : Int)) ∧ (∀ (h' : am_H), (SQ h h' (5 : Int) ∧ h' (5 : Int) 4 = 1) → ((0 ≤ p ∧ p < 20) ∧ ((0 ≤ dd ∧ dd < 20) ∧ (R (some (mB (h' (31 + p) dd))) h')))))))) ∧ ((dd < 0) → (R (some (mB (-2))) h))))) : am_AT 5 125 0 [some (mR 1 11 0 0), some (mB p), some (mB dd)] h R :=
  am_T (d := 4) (m := 125) (T := tb125) (mL := 3) (rk := 1) (cuts := []) (l := [(88, C88b), (156, C156)]) rfl ⟨am_CS_d (by decide) C88b_ok, am_CS_d (by decide) C156_ok, trivial⟩ 23 (And.intro (rfl) (And.intro (fun c14 => (t).1 c14) (fun c14 => And.intro (fun c15 => And.intro (fun c16 => (((t).2 c14).1 c15).1 c16) (fun c16 => And.intro ((((t).2 c14).1 c15).2 c16).1 (fun z13_0 z13_1 => And.intro ((((((t).2 c14).1 c15).2 c16).2) z13_0 z13_1).1 (And.intro (((((((t).2 c14).1 c15).2 c16).2) z13_0 z13_1).2).1 ((((((((t).2 c14).1 c15).2 c16).2) z13_0 z13_1).2).2))))) (fun c15 => ((t).2 c14).2 c15))))
theorem C125_ok : am_CS 5 125 C125 := W125 (fun p d h K hb => by
  obtain ⟨hN, hC⟩ := SV5_N hb.1
  have hn2 := hN.2.1
  refine T125_0 ⟨fun c1 => ?_, fun c1 => ⟨fun c2 => ⟨fun c3 => ?_, fun c3 => ⟨hb.1, fun h' q4 => ⟨by omega, ⟨by omega, ?_⟩⟩⟩⟩, fun c2 => ?_⟩⟩
  · exact am_rB (hb.2 h (SQ_rf hb.1)) (ifc_f (fun z => c1 z.1))
  · refine am_rB (hb.2 h (SQ_rf hb.1)) ?_
    rw [ifc_t ⟨c1, c2⟩]
    symm
    refine mkb_eq (by omega) (fun j => ⟨fun z => absurd z bt_zero, fun z => ?_⟩)
    have := ds_r hN hC c1 (b := j) (by omega)
    omega
  · refine am_rB (hb.2 h' q4.1) ?_
    have e := SQ5_n q4.1
    rw [ifc_t ⟨c1, c2⟩, SV5_s q4.1.1 q4.2 (by omega) (by omega), e.1]
    symm
    refine mkb_eq (by have := @S20_shl (nr h 7 0) p d; have h1 := this.1; have h2 := this.2; omega) (fun j => ?_)
    rw [shl_ds hN hC c1 c2]
    exact ⟨fun z => ⟨by omega, by omega, z.2⟩, fun z => ⟨by omega, z.2.2⟩⟩
  · exact am_rB (hb.2 h (SQ_rf hb.1)) (ifc_f (by omega)))
/-! 104 FactorNets.theta -/
def C104 : am_K := fun as h K => am_a3 as (fun v0 v1 v2 => am_oc 11 0 v0 (am_n v1 (fun k => am_n v2 (fun l => (SV h 5) ∧ (∀ (h' : am_H), SQ h h' 5 → K (some (mB (ifc ((0 ≤ k ∧ k < nl (nr h 7 0)) ∧ (0 ≤ l ∧ l < nl (nr h 7 0))) (ifc (thet (nr h 7 0) k l) 1 0) (-2)))) (h'))))))
theorem W104 {d : Nat} (H : ∀ (k : Int) (l : Int) (h : am_H) (K : Option am_V → am_H → Prop), (SV h 5) ∧ (∀ (h' : am_H), SQ h h' 5 → K (some (mB (ifc ((0 ≤ k ∧ k < nl (nr h 7 0)) ∧ (0 ≤ l ∧ l < nl (nr h 7 0))) (ifc (thet (nr h 7 0) k l) 1 0) (-2)))) (h')) → am_AT d 104 0 [some (mR 1 11 0 0), some (mB k), some (mB l), none, none, none, none, none] h K) : am_CS d 104 C104 := by
  refine am_CS_of (T := tb104) (mL := 8) (rk := 1) rfl (fun as h K hC => ?_)
  obtain ⟨v0, v1, v2, rfl, hC0⟩ := am_a3_e hC
  obtain ⟨e0, hC1⟩ := am_oc_e hC0
  subst e0
  obtain ⟨k, rfl, hC2⟩ := am_n_e hC1
  obtain ⟨l, rfl, hC3⟩ := am_n_e hC2
  refine ⟨Nat.le_of_ble_eq_true rfl, ?_⟩
  exact H k l h K hC3
theorem T104_0 {R : Option am_V → am_H → Prop} {h : am_H} {k : Int} {l : Int} (t : (SV h 5) ∧ (∀ (h' : am_H), (SQ h h' 5 ∧ (0 ≤ k → h' 5 5 = 1)) → (((¬ (0 ≤ k ∧ k < nl (nr h 7 0))) → (R (some (mB (-2))) h')) ∧ ((0 ≤ k ∧ k < nl (nr h 7 0)) → ((SV h' 5) ∧ (∀ (h'_1 : am_H), (SQ h' h'_1 5 ∧ (0 ≤ l → h'_1 5 5 = 1)) → (((0 ≤ l ∧ l < nl (nr h' 7 0)) → ((SV h'_1 (5 : Int)) ∧ (∀ (h'_2 : am_H), (SQ h'_1 h'_2 (5 : Int) ∧ h'_2 (5 : Int) 5 = 1) → ((SV h'_2 (5 : Int)) ∧ (∀ (h'_3 : am_H), (SQ h'_2 h'_3 (5 : Int) ∧ h'_3 (5 : Int) 4 = 1) → ((0 ≤ k ∧ k < 190) ∧ ((0 ≤ h'_3 52 k ∧ h'_3 52 k < 20) ∧ ((SV h'_3 (5 : Int)) ∧ (∀ (h'_4 : am_H), (SQ h'_3 h'_4 (5 : Int) ∧ h'_4 (5 : Int) 4 = 1) → ((0 ≤ k ∧ k < 190) ∧ ((0 ≤ h'_4 53 k ∧ h'_4 53 k < 20) ∧ ((0 ≤ l ∧ l < 190) ∧ ((0 ≤ h'_4 52 l ∧ h'_4 52 l < 20) ∧ ((0 ≤ l ∧ l < 190) ∧ ((0 ≤ h'_4 53 l ∧ h'_4 53 l < 20) ∧ ((0 ≤ l ∧ l < 190) ∧ ((0 ≤ h'_4 53 l ∧ h'_4 53 l < 20) ∧ ((0 ≤ l ∧ l < 190) ∧ ((0 ≤ h'_4 52 l ∧ h'_4 52 l < 20) ∧ ((R32 ((h'_4 (10 + (h'_3 52 k)) (h'_4 52 l)) + (h'_4 (10 + (h'_4 53 k)) (h'_4 53 l)))) ∧ ((R32 ((h'_4 (10 + (h'_3 52 k)) (h'_4 53 l)) + (h'_4 (10 + (h'_4 53 k)) (h'_4 52 l)))) ∧ ((((h'_4 (10 + (h'_3 52 k)) (h'_4 52 l)) + (h'_4 (10 + (h'_4 53 k)) (h'_4 53 l)) = (h'_4 (10 + (h'_3 52 k)) (h'_4 53 l)) + (h'_4 (10 + (h'_4 53 k)) (h'_4 52 l))) → (R (some (mB 0)) h'_4)) ∧ ((¬ (h'_4 (10 + (h'_3 52 k)) (h'_4 52 l)) + (h'_4 (10 + (h'_4 53 k)) (h'_4 53 l)) = (h'_4 (10 + (h'_3 52 k)) (h'_4 53 l)) + (h'_4 (10 + (h'_4 53 k)) (h'_4 52 l))) → (R (some (mB 1)) h'_4)))))))))))))))))))))))) ∧ ((¬ (0 ≤ l ∧ l < nl (nr h' 7 0))) → (R (some (mB (-2))) h'_1))))))))) : am_AT 5 104 0 [some (mR 1 11 0 0), some (mB k), some (mB l), none, none, none, none, none] h R :=
  am_T (d := 4) (m := 104) (T := tb104) (mL := 8) (rk := 1) (cuts := []) (l := [(88, C88b), (89, C89b), (158, C158)]) rfl ⟨am_CS_d (by decide) C88b_ok, am_CS_d (by decide) C89b_ok, am_CS_d (by decide) C158_ok, trivial⟩ 70 (And.intro (rfl) (And.intro (t).1 (fun z14_0 z14_1 => And.intro (fun c17 => (((t).2) z14_0 z14_1).1 c17) (fun c17 => And.intro (rfl) (And.intro ((((t).2) z14_0 z14_1).2 c17).1 (fun z15_0 z15_1 => And.intro (fun c18 => And.intro (((((((t).2) z14_0 z14_1).2 c17).2) z15_0 z15_1).1 c18).1 (fun z16_0 z16_1 => And.intro (((((((((t).2) z14_0 z14_1).2 c17).2) z15_0 z15_1).1 c18).2) z16_0 z16_1).1 (fun z17_0 z17_1 => And.intro (((((((((((t).2) z14_0 z14_1).2 c17).2) z15_0 z15_1).1 c18).2) z16_0 z16_1).2) z17_0 z17_1).1 (And.intro ((((((((((((t).2) z14_0 z14_1).2 c17).2) z15_0 z15_1).1 c18).2) z16_0 z16_1).2) z17_0 z17_1).2).1 (And.intro (((((((((((((t).2) z14_0 z14_1).2 c17).2) z15_0 z15_1).1 c18).2) z16_0 z16_1).2) z17_0 z17_1).2).2).1 (fun z18_0 z18_1 => And.intro (((((((((((((((t).2) z14_0 z14_1).2 c17).2) z15_0 z15_1).1 c18).2) z16_0 z16_1).2) z17_0 z17_1).2).2).2) z18_0 z18_1).1 (And.intro ((((((((((((((((t).2) z14_0 z14_1).2 c17).2) z15_0 z15_1).1 c18).2) z16_0 z16_1).2) z17_0 z17_1).2).2).2) z18_0 z18_1).2).1 (And.intro (((((((((((((((((t).2) z14_0 z14_1).2 c17).2) z15_0 z15_1).1 c18).2) z16_0 z16_1).2) z17_0 z17_1).2).2).2) z18_0 z18_1).2).2).1 (And.intro ((((((((((((((((((t).2) z14_0 z14_1).2 c17).2) z15_0 z15_1).1 c18).2) z16_0 z16_1).2) z17_0 z17_1).2).2).2) z18_0 z18_1).2).2).2).1 (And.intro (((((((((((((((((((t).2) z14_0 z14_1).2 c17).2) z15_0 z15_1).1 c18).2) z16_0 z16_1).2) z17_0 z17_1).2).2).2) z18_0 z18_1).2).2).2).2).1 (And.intro ((((((((((((((((((((t).2) z14_0 z14_1).2 c17).2) z15_0 z15_1).1 c18).2) z16_0 z16_1).2) z17_0 z17_1).2).2).2) z18_0 z18_1).2).2).2).2).2).1 (And.intro (((((((((((((((((((((t).2) z14_0 z14_1).2 c17).2) z15_0 z15_1).1 c18).2) z16_0 z16_1).2) z17_0 z17_1).2).2).2) z18_0 z18_1).2).2).2).2).2).2).1 (And.intro ((((((((((((((((((((((t).2) z14_0 z14_1).2 c17).2) z15_0 z15_1).1 c18).2) z16_0 z16_1).2) z17_0 z17_1).2).2).2) z18_0 z18_1).2).2).2).2).2).2).2).1 (And.intro (((((((((((((((((((((((t).2) z14_0 z14_1).2 c17).2) z15_0 z15_1).1 c18).2) z16_0 z16_1).2) z17_0 z17_1).2).2).2) z18_0 z18_1).2).2).2).2).2).2).2).2).1 (And.intro ((((((((((((((((((((((((t).2) z14_0 z14_1).2 c17).2) z15_0 z15_1).1 c18).2) z16_0 z16_1).2) z17_0 z17_1).2).2).2) z18_0 z18_1).2).2).2).2).2).2).2).2).2).1 (And.intro (((((((((((((((((((((((((t).2) z14_0 z14_1).2 c17).2) z15_0 z15_1).1 c18).2) z16_0 z16_1).2) z17_0 z17_1).2).2).2) z18_0 z18_1).2).2).2).2).2).2).2).2).2).2).1 (And.intro ((((((((((((((((((((((((((t).2) z14_0 z14_1).2 c17).2) z15_0 z15_1).1 c18).2) z16_0 z16_1).2) z17_0 z17_1).2).2).2) z18_0 z18_1).2).2).2).2).2).2).2).2).2).2).2).1 (And.intro (fun c19 => (((((((((((((((((((((((((((t).2) z14_0 z14_1).2 c17).2) z15_0 z15_1).1 c18).2) z16_0 z16_1).2) z17_0 z17_1).2).2).2) z18_0 z18_1).2).2).2).2).2).2).2).2).2).2).2).2).1 c19) (fun c19 => (((((((((((((((((((((((((((t).2) z14_0 z14_1).2 c17).2) z15_0 z15_1).1 c18).2) z16_0 z16_1).2) z17_0 z17_1).2).2).2) z18_0 z18_1).2).2).2).2).2).2).2).2).2).2).2).2).2 c19))))))))))))))))))) (fun c18 => ((((((t).2) z14_0 z14_1).2 c17).2) z15_0 z15_1).2 c18)))))))
theorem th_c {h h2 h3 h4 : am_H} (H : SV h 5) (q2 : SQ h h2 5) (q3 : SQ h2 h3 5) (q4 : SQ h3 h4 5) (z2 : h2 5 5 = 1) (z3 : h3 5 4 = 1) (z4 : h4 5 4 = 1) {k l : Int} (hk : 0 ≤ k ∧ k < nl (nr h 7 0)) (hl : 0 ≤ l ∧ l < nl (nr h 7 0)) : ((0 ≤ h3 52 k ∧ h3 52 k < 20) ∧ (0 ≤ h4 53 k ∧ h4 53 k < 20) ∧ (0 ≤ h4 52 l ∧ h4 52 l < 20) ∧ (0 ≤ h4 53 l ∧ h4 53 l < 20)) ∧ (h4 (10 + h3 52 k) (h4 52 l) = ds (ad (nr h 7 0)) (lo (nr h 7 0) k) (lo (nr h 7 0) l) ∧ h4 (10 + h4 53 k) (h4 53 l) = ds (ad (nr h 7 0)) (hi (nr h 7 0) k) (hi (nr h 7 0) l) ∧ h4 (10 + h3 52 k) (h4 53 l) = ds (ad (nr h 7 0)) (lo (nr h 7 0) k) (hi (nr h 7 0) l) ∧ h4 (10 + h4 53 k) (h4 52 l) = ds (ad (nr h 7 0)) (hi (nr h 7 0) k) (lo (nr h 7 0) l)) ∧ (∀ a b, (0 ≤ a ∧ a < h 6 0) → (0 ≤ b ∧ b < h 6 0) → 0 ≤ ds (ad (nr h 7 0)) a b ∧ ds (ad (nr h 7 0)) a b < 20) ∧ ((0 ≤ lo (nr h 7 0) k ∧ lo (nr h 7 0) k < h 6 0) ∧ (0 ≤ hi (nr h 7 0) k ∧ hi (nr h 7 0) k < h 6 0) ∧ (0 ≤ lo (nr h 7 0) l ∧ lo (nr h 7 0) l < h 6 0) ∧ (0 ≤ hi (nr h 7 0) l ∧ hi (nr h 7 0) l < h 6 0)) := by
  obtain ⟨hN, hC⟩ := SV5_N H
  have hn := hN.2.1
  have t3 := SQ_tr q2 q3
  have t4 := SQ_tr t3 q4
  have n3 := SQ5_n t3
  have n4 := SQ5_n t4
  have m3 := (SV5_L t3.1 (q3.2.2.2.2.2.1 z2)).2.1
  have m4 := (SV5_L t4.1 (q4.2.2.2.2.2.1 (q3.2.2.2.2.2.1 z2))).2.1
  rw [n3.1] at m3
  rw [n4.1] at m4
  obtain ⟨a1, a2⟩ := m3 k hk.1 hk.2
  obtain ⟨b1, b2⟩ := m4 k hk.1 hk.2
  obtain ⟨b3, b4⟩ := m4 l hl.1 hl.2
  obtain ⟨p1, p2, -, -⟩ := lo_n hN hk.1 hk.2
  obtain ⟨p3, p4, -, -⟩ := lo_n hN hl.1 hl.2
  have hd : ∀ a b, (0 ≤ a ∧ a < h 6 0) → (0 ≤ b ∧ b < h 6 0) → h4 (10 + a) b = ds (ad (nr h 7 0)) a b := fun a b ha hb => by
    have := SV5_d t4.1 z4 (a := a) (p := b) (by omega) (by omega)
    rw [n4.1] at this
    exact this
  rw [a1, b2, b3, b4]
  exact ⟨⟨by omega, by omega, by omega, by omega⟩, ⟨hd _ _ p1 p3, hd _ _ p2 p4, hd _ _ p1 p4, hd _ _ p2 p3⟩, fun a b ha hb => by have := ds_r hN hC ha hb; omega, p1, p2, p3, p4⟩
theorem C104_ok : am_CS 5 104 C104 := W104 (fun k l h K hb => by
  have hnl := nl_r (nr h 7 0)
  refine T104_0 ⟨hb.1, fun h' q1 => ⟨fun c2 => ?_, fun c2 => ⟨q1.1.1, fun h'_1 q3 => ⟨fun c4 => ⟨q3.1.1, fun h'_2 q5 => ⟨q5.1.1, fun h'_3 q6 => ⟨by omega, ⟨by rw [(SQ5_n q1.1).1] at c4; have e5 := SV5_L q6.1.1 (q6.1.2.2.2.2.2.1 q5.2); rw [(SQ5_n (SQ_tr q1.1 (SQ_tr q3.1 (SQ_tr q5.1 q6.1)))).1] at e5; have e6 := lo_n (SV5_N hb.1).1 c2.1 c2.2; have e7 := e5.2.1 k c2.1 c2.2; have e8 := (SV5_N hb.1).1.2.1; omega, ⟨q6.1.1, fun h'_4 q7 => ⟨by omega, ⟨by rw [(SQ5_n q1.1).1] at c4; have t := th_c hb.1 (SQ_tr q1.1 (SQ_tr q3.1 q5.1)) q6.1 q7.1 q5.2 q6.2 q7.2 c2 c4; omega, ⟨by rw [(SQ5_n q1.1).1] at c4; omega, ⟨by rw [(SQ5_n q1.1).1] at c4; have t := th_c hb.1 (SQ_tr q1.1 (SQ_tr q3.1 q5.1)) q6.1 q7.1 q5.2 q6.2 q7.2 c2 c4; omega, ⟨by rw [(SQ5_n q1.1).1] at c4; omega, ⟨by rw [(SQ5_n q1.1).1] at c4; have t := th_c hb.1 (SQ_tr q1.1 (SQ_tr q3.1 q5.1)) q6.1 q7.1 q5.2 q6.2 q7.2 c2 c4; omega, ⟨by rw [(SQ5_n q1.1).1] at c4; omega, ⟨by rw [(SQ5_n q1.1).1] at c4; have t := th_c hb.1 (SQ_tr q1.1 (SQ_tr q3.1 q5.1)) q6.1 q7.1 q5.2 q6.2 q7.2 c2 c4; omega, ⟨by rw [(SQ5_n q1.1).1] at c4; omega, ⟨by rw [(SQ5_n q1.1).1] at c4; have t := th_c hb.1 (SQ_tr q1.1 (SQ_tr q3.1 q5.1)) q6.1 q7.1 q5.2 q6.2 q7.2 c2 c4; omega, ⟨by rw [(SQ5_n q1.1).1] at c4; have t := th_c hb.1 (SQ_tr q1.1 (SQ_tr q3.1 q5.1)) q6.1 q7.1 q5.2 q6.2 q7.2 c2 c4; have t1 := t.2.2.1 _ _ t.2.2.2.1 t.2.2.2.2.2.1; have t2 := t.2.2.1 _ _ t.2.2.2.2.1 t.2.2.2.2.2.2; have t3 := t.2.2.1 _ _ t.2.2.2.1 t.2.2.2.2.2.2; have t4 := t.2.2.1 _ _ t.2.2.2.2.1 t.2.2.2.2.2.1; omega, ⟨by rw [(SQ5_n q1.1).1] at c4; have t := th_c hb.1 (SQ_tr q1.1 (SQ_tr q3.1 q5.1)) q6.1 q7.1 q5.2 q6.2 q7.2 c2 c4; have t1 := t.2.2.1 _ _ t.2.2.2.1 t.2.2.2.2.2.1; have t2 := t.2.2.1 _ _ t.2.2.2.2.1 t.2.2.2.2.2.2; have t3 := t.2.2.1 _ _ t.2.2.2.1 t.2.2.2.2.2.2; have t4 := t.2.2.1 _ _ t.2.2.2.2.1 t.2.2.2.2.2.1; omega, ⟨fun c8 => ?_, fun c8 => ?_⟩⟩⟩⟩⟩⟩⟩⟩⟩⟩⟩⟩⟩⟩⟩⟩⟩⟩, fun c4 => ?_⟩⟩⟩⟩
  · have e := hb.2 h' q1.1
    rw [ifc_f (fun z => c2 z.1)] at e
    exact e
  · rw [(SQ5_n q1.1).1] at c4
    have t := th_c hb.1 (SQ_tr q1.1 (SQ_tr q3.1 q5.1)) q6.1 q7.1 q5.2 q6.2 q7.2 c2 c4
    have e := hb.2 h'_4 (SQ_tr q1.1 (SQ_tr q3.1 (SQ_tr q5.1 (SQ_tr q6.1 q7.1))))
    rw [ifc_t ⟨c2, c4⟩, ifc_f (fun z => z (by omega))] at e
    exact e
  · rw [(SQ5_n q1.1).1] at c4
    have t := th_c hb.1 (SQ_tr q1.1 (SQ_tr q3.1 q5.1)) q6.1 q7.1 q5.2 q6.2 q7.2 c2 c4
    have e := hb.2 h'_4 (SQ_tr q1.1 (SQ_tr q3.1 (SQ_tr q5.1 (SQ_tr q6.1 q7.1))))
    rw [ifc_t ⟨c2, c4⟩, ifc_t (show thet (nr h 7 0) k l from fun z => c8 (by omega))] at e
    exact e
  · rw [(SQ5_n q1.1).1] at c4
    have e := hb.2 h'_1 (SQ_tr q1.1 q3.1)
    rw [ifc_f (fun z => c4 z.2)] at e
    exact e)
