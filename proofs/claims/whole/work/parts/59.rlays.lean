/-! ===== the reference, laid ===== -/
noncomputable def ifc (c : Prop) (x y : Int) : Int := @ite Int c (Classical.propDecidable c) x y
theorem ifc_t {c : Prop} {x y : Int} (h : c) : ifc c x y = x := if_pos h
theorem ifc_f {c : Prop} {x y : Int} (h : ¬ c) : ifc c x y = y := if_neg h
def RS (h : am_H) (r : Int → Int) : Prop := h 571 24 = ncl (ptE r) (nl r) ∧ h 571 25 = ncl (sdE r) (nl r) ∧ ∀ k, 0 ≤ k → k < nl r → h 583 k = lab (ptE r) k ∧ h 584 k = lab (sdE r) k
def RLd (h : am_H) (n : Int) (r : Int → Int) : Prop := RF h n r ∧ RLn h r ∧ RS h r
def RIv (h : am_H) : Prop := NT (h 572 0) (nr h 572 2) ∧ CN (h 572 0) (nr h 572 2) ∧ (h 571 17 = 1 → RLd h (h 572 0) (nr h 572 2))
def PR (x i : Int) : Prop := x < 571 ∨ x = 572 ∨ (574 ≤ x ∧ x ≤ 579) ∨ x = 587 ∨ (x = 571 ∧ (i = 2 ∨ i = 9 ∨ i = 10 ∨ i = 11 ∨ i = 29))
def RQ (h h' : am_H) : Prop := (∀ x i, PR x i → h' x i = h x i) ∧ RIv h'
def LD (h h' : am_H) : Prop := (∀ x i, ¬ (x = 571 ∧ (i = 17 ∨ i = 21 ∨ i = 24 ∨ i = 25)) → ¬ (580 ≤ x ∧ x ≤ 585) → h' x i = h x i) ∧ nr h' 572 2 = nr h 572 2 ∧ h' 572 0 = h 572 0 ∧ h' 571 17 = 1 ∧ RIv h' ∧ RLd h' (h' 572 0) (nr h' 572 2)
theorem LD_q {h h' : am_H} (H : LD h h') : RQ h h' := ⟨fun x i hx => H.1 x i (by unfold PR at hx; omega) (by unfold PR at hx; omega), H.2.2.2.2.1⟩
theorem LD_tr {h h' h'' : am_H} (H : LD h h') (H2 : LD h' h'') : LD h h'' := ⟨fun x i a b => (H2.1 x i a b).trans (H.1 x i a b), H2.2.1.trans H.2.1, H2.2.2.1.trans H.2.2.1, H2.2.2.2⟩
theorem RQ_n {h h' : am_H} (H : RQ h h') : nr h' 572 2 = nr h 572 2 ∧ h' 572 0 = h 572 0 := ⟨nr_fr2 (fun i => H.1 _ _ (by unfold PR; omega)), H.1 _ _ (by unfold PR; omega)⟩
/-- what is neither read by what is laid nor kept may change -/
theorem RQ_fr {h h' h'' : am_H} (H : RQ h h') (e : ∀ x i, (PR x i ∨ (580 ≤ x ∧ x ≤ 584) ∨ (x = 571 ∧ (i = 17 ∨ i = 21 ∨ i = 24 ∨ i = 25))) → h'' x i = h' x i) : RQ h h'' := by
  have e1 : nr h'' 572 2 = nr h' 572 2 := nr_fr2 (fun i => e _ _ (Or.inl (by unfold PR; omega)))
  have e2 : h'' 572 0 = h' 572 0 := e _ _ (Or.inl (by unfold PR; omega))
  have e3 : h'' 571 17 = h' 571 17 := e _ _ (by omega)
  refine ⟨fun x i hx => (e x i (Or.inl hx)).trans (H.1 x i hx), ?_⟩
  obtain ⟨a, b, c⟩ := H.2
  unfold RIv
  rw [e1, e2, e3]
  refine ⟨a, b, fun q => ?_⟩
  obtain ⟨c1, c2, c3⟩ := c q
  refine ⟨RF_fr c1 (fun i => e _ _ (by omega)), RLn_fr c2 (e _ _ (by omega)) (fun i => e _ _ (by omega)) (fun i => e _ _ (by omega)), ?_, ?_, fun k a b => ?_⟩
  · rw [e _ _ (by omega)]; exact c3.1
  · rw [e _ _ (by omega)]; exact c3.2.1
  · rw [e _ _ (by omega), e _ _ (by omega)]; exact c3.2.2 k a b
theorem LD_fr {h h' h'' : am_H} (H : LD h h') (e : ∀ x i, (PR x i ∨ (580 ≤ x ∧ x ≤ 584) ∨ (x = 571 ∧ (i = 17 ∨ i = 21 ∨ i = 24 ∨ i = 25))) → h'' x i = h' x i) : RQ h h'' := RQ_fr (LD_q H) e
theorem bt_or0 {x : Int} (hx : S20 x) : iOr x 0 = x := bt_ext (rg_or _ _) (by have := hx.1; have := hx.2; omega) (fun k _ _ => by rw [bt_or]; exact ⟨fun q => q.elim id (fun q => absurd q bt_zero), Or.inl⟩)
theorem ncl_r (E : Int → Int → Prop) (r : Int → Int) : 0 ≤ ncl E (nl r) ∧ ncl E (nl r) ≤ 190 := by
  have h1 := nl_r r
  have h2 := ct_le (fun j => fst E j = j) (nl r).toNat
  unfold ncl
  omega
/-! 218 FactorNetsModel.joins -/
def C218 : am_K := fun as h K => am_a4 as (fun v0 v1 v2 v3 => am_oc 12 571 v0 (am_r 2 190 0 v1 (fun q => am_n v2 (fun a => am_n v3 (fun b => (0 ≤ h 571 21 ∧ h 571 21 ≤ 190 ∧ q ≠ 571) ∧ (∀ (h' : am_H), (∀ x i, x ≠ q → h' x i = h x i) ∧ (∀ k, 0 ≤ k → k < h 571 21 → h' q k = if h q k = max a b then min a b else h q k) → K (none) (h')))))))
theorem W218 {d : Nat} (H : ∀ (q : Int) (a : Int) (b : Int) (h : am_H) (K : Option am_V → am_H → Prop), (0 ≤ h 571 21 ∧ h 571 21 ≤ 190 ∧ q ≠ 571) ∧ (∀ (h' : am_H), (∀ x i, x ≠ q → h' x i = h x i) ∧ (∀ k, 0 ≤ k → k < h 571 21 → h' q k = if h q k = max a b then min a b else h q k) → K (none) (h')) → am_AT d 218 0 [some (mR 1 12 0 571), some (mR 2 190 0 q), some (mB a), some (mB b), none, none, none] h K) : am_CS d 218 C218 := by
  refine am_CS_of (T := tb218) (mL := 7) (rk := 0) rfl (fun as h K hC => ?_)
  obtain ⟨v0, v1, v2, v3, rfl, hC0⟩ := am_a4_e hC
  obtain ⟨e0, hC1⟩ := am_oc_e hC0
  subst e0
  obtain ⟨q, rfl, hC2⟩ := am_r_e hC1
  obtain ⟨a, rfl, hC3⟩ := am_n_e hC2
  obtain ⟨b, rfl, hC4⟩ := am_n_e hC3
  refine ⟨Nat.le_of_ble_eq_true rfl, ?_⟩
  exact H q a b h K hC4
theorem T218_0 {R : Option am_V → am_H → Prop} {h : am_H} {q : Int} {a : Int} {b : Int} (t : am_AT 1 218 17 [some (mR 1 12 0 571), some (mR 2 190 0 q), none, none, some (mI (min a b)), some (mI (max a b)), some (mI 0)] h R) : am_AT 1 218 0 [some (mR 1 12 0 571), some (mR 2 190 0 q), some (mB a), some (mB b), none, none, none] h R :=
  am_T (d := 0) (m := 218) (T := tb218) (mL := 7) (rk := 0) (cuts := [(17, [1, 1, 0, 0, 2, 2, 2])]) (l := []) rfl trivial 14 (t)
theorem T218_17 {R : Option am_V → am_H → Prop} {h : am_H} {q : Int} {x4 : Int} {x5 : Int} {x6 : Int} (t : (R32 x6) ∧ (((h 571 21 ≤ x6) → (R none h)) ∧ ((x6 < h 571 21) → ((0 ≤ x6 ∧ x6 < 190) ∧ ((R32 x5) ∧ (((¬ h q x6 = x5) → ((0 ≤ x6 ∧ x6 < 190) ∧ ((0 ≤ x6 ∧ x6 < 190) ∧ (am_AT 1 218 17 [some (mR 1 12 0 571), some (mR 2 190 0 q), none, none, some (mI x4), some (mI x5), some (mI (x6 + 1))] (am_up h q x6 (h q x6)) R)))) ∧ ((h q x6 = x5) → ((0 ≤ x6 ∧ x6 < 190) ∧ ((R32 x4) ∧ (am_AT 1 218 17 [some (mR 1 12 0 571), some (mR 2 190 0 q), none, none, some (mI x4), some (mI x5), some (mI (x6 + 1))] (am_up h q x6 x4) R)))))))))) : am_AT 1 218 17 [some (mR 1 12 0 571), some (mR 2 190 0 q), none, none, some (mI x4), some (mI x5), some (mI x6)] h R :=
  am_T (d := 0) (m := 218) (T := tb218) (mL := 7) (rk := 0) (cuts := [(17, [1, 1, 0, 0, 2, 2, 2])]) (l := []) rfl trivial 21 (And.intro (t).1 (And.intro (fun c1 => ((t).2).1 c1) (fun c1 => And.intro (((t).2).2 c1).1 (And.intro ((((t).2).2 c1).2).1 (And.intro (fun c2 => And.intro ((((((t).2).2 c1).2).2).1 c2).1 (And.intro (((((((t).2).2 c1).2).2).1 c2).2).1 ((((((((t).2).2 c1).2).2).1 c2).2).2))) (fun c2 => And.intro ((((((t).2).2 c1).2).2).2 c2).1 (And.intro (((((((t).2).2 c1).2).2).2 c2).2).1 ((((((((t).2).2 c1).2).2).2 c2).2).2))))))))
theorem L218 {K : Option am_V → am_H → Prop} {h : am_H} {q a b : Int} (hn : 0 ≤ h 571 21 ∧ h 571 21 ≤ 190 ∧ q ≠ 571) (hab : R32 (min a b) ∧ R32 (max a b)) (hK : ∀ h' : am_H, (∀ x i, x ≠ q → h' x i = h x i) ∧ (∀ k, 0 ≤ k → k < h 571 21 → h' q k = if h q k = max a b then min a b else h q k) → K none h') : ∀ (i : Int) (hh : am_H), 0 ≤ i → i ≤ h 571 21 → (∀ x i, x ≠ q → hh x i = h x i) → (∀ k, 0 ≤ k → k < h 571 21 → hh q k = if k < i then (if h q k = max a b then min a b else h q k) else h q k) → am_AT 1 218 17 [some (mR 1 12 0 571), some (mR 2 190 0 q), none, none, some (mI (min a b)), some (mI (max a b)), some (mI i)] hh K := by
  refine lp (h 571 21) (fun i ih hh i0 i1 f1 f2 => ?_)
  have e0 : hh 571 21 = h 571 21 := f1 _ _ (Ne.symm hn.2.2)
  refine T218_17 ⟨by omega, ⟨fun c1 => ?_, fun c1 => ⟨by omega, ⟨by omega, ⟨fun c2 => ⟨by omega, ⟨by omega, ?_⟩⟩, fun c2 => ⟨by omega, ⟨by omega, ?_⟩⟩⟩⟩⟩⟩⟩
  · exact hK hh ⟨f1, fun k k0 k1 => by rw [f2 k k0 k1, if_pos (by omega)]⟩
  · rw [am_up_id]
    have e1 := f2 i i0 (by omega)
    rw [if_neg (by omega)] at e1
    refine ih (by omega) hh (by omega) (by omega) f1 (fun k k0 k1 => ?_)
    rw [f2 k k0 k1]
    by_cases e : k = i
    · subst e
      rw [if_neg (by omega), if_pos (by omega), if_neg (by rw [← e1]; exact c2)]
    · by_cases c : k < i
      · rw [if_pos c, if_pos (show k < i + 1 by omega)]
      · rw [if_neg c, if_neg (show ¬ k < i + 1 by omega)]
  · have e1 := f2 i i0 (by omega)
    rw [if_neg (by omega)] at e1
    refine ih (by omega) _ (by omega) (by omega) (fun x j hx => by rw [am_up_ne hx]; exact f1 x j hx) (fun k k0 k1 => ?_)
    by_cases e : k = i
    · subst e
      rw [am_up_eq, if_pos (by omega), if_pos (by rw [← e1]; exact c2)]
    · rw [am_up_ne2 e, f2 k k0 k1]
      by_cases c : k < i
      · rw [if_pos c, if_pos (show k < i + 1 by omega)]
      · rw [if_neg c, if_neg (show ¬ k < i + 1 by omega)]
theorem C218_ok : am_CS 1 218 C218 := W218 (fun q a b h K hb => am_AT_ok (fun _ hl => T218_0 (by
  have ra : R32 a := hl 2 _ rfl rfl
  have rb : R32 b := hl 3 _ rfl rfl
  exact L218 hb.1 (by omega) hb.2 0 h (by omega) hb.1.1 (fun x i _ => rfl) (fun k k0 k1 => by rw [if_neg (by omega)]))))
/-! 217 FactorNetsModel.sets -/
def C217 : am_K := fun as h K => am_a3 as (fun v0 v1 v2 => am_oc 12 571 v0 (am_r 2 190 0 v1 (fun q => am_bo v2 (fun fk => ((NT (h 572 0) (nr h 572 2) ∧ CN (h 572 0) (nr h 572 2) ∧ RF h (h 572 0) (nr h 572 2) ∧ RLn h (nr h 572 2)) ∧ (q = 583 ∨ q = 584)) ∧ (∀ (h' : am_H), (∀ x i, x ≠ q → x ≠ 585 → h' x i = h x i) ∧ (∀ k, 0 ≤ k → k < nl (nr h 572 2) → h' q k = lab (thE (nr h 572 2) fk) k) → K (some (mB (ncl (thE (nr h 572 2) fk) (nl (nr h 572 2))))) (h'))))))
theorem W217 {d : Nat} (H : ∀ (q : Int) (fk : Prop) (h : am_H) (K : Option am_V → am_H → Prop), ((NT (h 572 0) (nr h 572 2) ∧ CN (h 572 0) (nr h 572 2) ∧ RF h (h 572 0) (nr h 572 2) ∧ RLn h (nr h 572 2)) ∧ (q = 583 ∨ q = 584)) ∧ (∀ (h' : am_H), (∀ x i, x ≠ q → x ≠ 585 → h' x i = h x i) ∧ (∀ k, 0 ≤ k → k < nl (nr h 572 2) → h' q k = lab (thE (nr h 572 2) fk) k) → K (some (mB (ncl (thE (nr h 572 2) fk) (nl (nr h 572 2))))) (h')) → am_AT d 217 0 [some (mR 1 12 0 571), some (mR 2 190 0 q), some (mP (fk)), none, none] h K) : am_CS d 217 C217 := by
  refine am_CS_of (T := tb217) (mL := 5) (rk := 1) rfl (fun as h K hC => ?_)
  obtain ⟨v0, v1, v2, rfl, hC0⟩ := am_a3_e hC
  obtain ⟨e0, hC1⟩ := am_oc_e hC0
  subst e0
  obtain ⟨q, rfl, hC2⟩ := am_r_e hC1
  obtain ⟨fk, hb2, hC3⟩ := am_bo_e hC2
  refine ⟨by simp only [am_cats, hb2.2]; exact Nat.le_of_ble_eq_true rfl, ?_⟩
  refine am_AT_sub ?_ (H q fk h K hC3)
  exact am_sb_c am_se (am_sb_c am_se (am_sb_a hb2 (am_sb_r _)))
theorem T217_0 {R : Option am_V → am_H → Prop} {h : am_H} {q : Int} {fk : Prop} (t : am_AT 3 217 2 [some (mR 1 12 0 571), some (mR 2 190 0 q), some (mP (fk)), some (mI 0), none] h R) : am_AT 3 217 0 [some (mR 1 12 0 571), some (mR 2 190 0 q), some (mP (fk)), none, none] h R :=
  am_T (d := 2) (m := 217) (T := tb217) (mL := 5) (rk := 1) (cuts := [(2, [1, 1, 1, 2, 0]), (22, [1, 1, 1, 2, 0]), (33, [1, 1, 1, 2, 2]), (102, [1, 1, 0, 2, 2]), (145, [1, 1, 0, 2, 2])]) (l := [(214, C214), (216, C216), (218, C218)]) rfl ⟨am_CS_d (by decide) C214_ok, am_CS_d (by decide) C216_ok, am_CS_d (by decide) C218_ok, trivial⟩ 6 (t)
theorem T217_2 {R : Option am_V → am_H → Prop} {h : am_H} {q : Int} {fk : Prop} {x3 : Int} (t : (R32 x3) ∧ (((h 571 21 ≤ x3) → (am_AT 3 217 22 [some (mR 1 12 0 571), some (mR 2 190 0 q), some (mP (fk)), some (mI 0), none] h R)) ∧ ((x3 < h 571 21) → ((0 ≤ x3 ∧ x3 < 190) ∧ ((R32 x3) ∧ (am_AT 3 217 2 [some (mR 1 12 0 571), some (mR 2 190 0 q), some (mP (fk)), some (mI (x3 + 1)), none] (am_up h q x3 x3) R)))))) : am_AT 3 217 2 [some (mR 1 12 0 571), some (mR 2 190 0 q), some (mP (fk)), some (mI x3), none] h R :=
  am_T (d := 2) (m := 217) (T := tb217) (mL := 5) (rk := 1) (cuts := [(2, [1, 1, 1, 2, 0]), (22, [1, 1, 1, 2, 0]), (33, [1, 1, 1, 2, 2]), (102, [1, 1, 0, 2, 2]), (145, [1, 1, 0, 2, 2])]) (l := [(214, C214), (216, C216), (218, C218)]) rfl ⟨am_CS_d (by decide) C214_ok, am_CS_d (by decide) C216_ok, am_CS_d (by decide) C218_ok, trivial⟩ 14 (And.intro (t).1 (And.intro (fun c3 => ((t).2).1 c3) (fun c3 => And.intro (((t).2).2 c3).1 (And.intro ((((t).2).2 c3).2).1 (((((t).2).2 c3).2).2)))))
theorem T217_22 {R : Option am_V → am_H → Prop} {h : am_H} {q : Int} {fk : Prop} {x3 : Int} (t : (R32 x3) ∧ (((h 571 21 ≤ x3) → (am_AT 3 217 102 [some (mR 1 12 0 571), some (mR 2 190 0 q), none, some (mI 0), some (mI 0)] h R)) ∧ ((x3 < h 571 21) → (am_AT 3 217 33 [some (mR 1 12 0 571), some (mR 2 190 0 q), some (mP (fk)), some (mI x3), some (mI 0)] h R)))) : am_AT 3 217 22 [some (mR 1 12 0 571), some (mR 2 190 0 q), some (mP (fk)), some (mI x3), none] h R :=
  am_T (d := 2) (m := 217) (T := tb217) (mL := 5) (rk := 1) (cuts := [(2, [1, 1, 1, 2, 0]), (22, [1, 1, 1, 2, 0]), (33, [1, 1, 1, 2, 2]), (102, [1, 1, 0, 2, 2]), (145, [1, 1, 0, 2, 2])]) (l := [(214, C214), (216, C216), (218, C218)]) rfl ⟨am_CS_d (by decide) C214_ok, am_CS_d (by decide) C216_ok, am_CS_d (by decide) C218_ok, trivial⟩ 12 (And.intro (t).1 (And.intro (fun c4 => ((t).2).1 c4) (fun c4 => ((t).2).2 c4)))
theorem T217_33 {R : Option am_V → am_H → Prop} {h : am_H} {q : Int} {fk : Prop} {x3 : Int} {x4 : Int} (t : (R32 x4) ∧ ((R32 x3) ∧ (((x3 ≤ x4) → (am_AT 3 217 22 [some (mR 1 12 0 571), some (mR 2 190 0 q), some (mP (fk)), some (mI (x3 + 1)), none] h R)) ∧ ((x4 < x3) → ((0 ≤ x3 ∧ x3 < 190) ∧ ((0 ≤ x4 ∧ x4 < 190) ∧ (((h q x3 = h q x4) → (am_AT 3 217 33 [some (mR 1 12 0 571), some (mR 2 190 0 q), some (mP (fk)), some (mI x3), some (mI (x4 + 1))] h R)) ∧ ((¬ h q x3 = h q x4) → ((R32 x3) ∧ ((R32 x4) ∧ (((NT (h 572 0) (nr h 572 2) ∧ CN (h 572 0) (nr h 572 2) ∧ RF h (h 572 0) (nr h 572 2) ∧ RLn h (nr h 572 2)) ∧ (0 ≤ x3 ∧ x3 < nl (nr h 572 2)) ∧ (0 ≤ x4 ∧ x4 < nl (nr h 572 2))) ∧ (((thet (nr h 572 2) x3 x4) → ((0 ≤ x3 ∧ x3 < 190) ∧ ((0 ≤ x4 ∧ x4 < 190) ∧ ((0 ≤ h 571 21 ∧ h 571 21 ≤ 190 ∧ q ≠ 571) ∧ (∀ (h' : am_H), ((∀ x i, x ≠ q → h' x i = h x i) ∧ (∀ k, 0 ≤ k → k < h 571 21 → h' q k = if h q k = max (h q x3) (h q x4) then min (h q x3) (h q x4) else h q k)) → (am_AT 3 217 33 [some (mR 1 12 0 571), some (mR 2 190 0 q), some (mP (fk)), some (mI x3), some (mI (x4 + 1))] h' R)))))) ∧ ((¬ (thet (nr h 572 2) x3 x4)) → (((¬ (fk)) → (am_AT 3 217 33 [some (mR 1 12 0 571), some (mR 2 190 0 q), some (mP (fk)), some (mI x3), some (mI (x4 + 1))] h R)) ∧ ((fk) → ((R32 x3) ∧ ((R32 x4) ∧ (((NT (h 572 0) (nr h 572 2) ∧ CN (h 572 0) (nr h 572 2) ∧ RF h (h 572 0) (nr h 572 2) ∧ RLn h (nr h 572 2)) ∧ (0 ≤ x3 ∧ x3 < nl (nr h 572 2)) ∧ (0 ≤ x4 ∧ x4 < nl (nr h 572 2))) ∧ (((¬ (tau (nr h 572 2) x3 x4)) → (am_AT 3 217 33 [some (mR 1 12 0 571), some (mR 2 190 0 q), some (mP (fk)), some (mI x3), some (mI (x4 + 1))] h R)) ∧ ((tau (nr h 572 2) x3 x4) → ((0 ≤ x3 ∧ x3 < 190) ∧ ((0 ≤ x4 ∧ x4 < 190) ∧ ((0 ≤ h 571 21 ∧ h 571 21 ≤ 190 ∧ q ≠ 571) ∧ (∀ (h' : am_H), ((∀ x i, x ≠ q → h' x i = h x i) ∧ (∀ k, 0 ≤ k → k < h 571 21 → h' q k = if h q k = max (h q x3) (h q x4) then min (h q x3) (h q x4) else h q k)) → (am_AT 3 217 33 [some (mR 1 12 0 571), some (mR 2 190 0 q), some (mP (fk)), some (mI x3), some (mI (x4 + 1))] h' R))))))))))))))))))))))))) : am_AT 3 217 33 [some (mR 1 12 0 571), some (mR 2 190 0 q), some (mP (fk)), some (mI x3), some (mI x4)] h R :=
  am_T (d := 2) (m := 217) (T := tb217) (mL := 5) (rk := 1) (cuts := [(2, [1, 1, 1, 2, 0]), (22, [1, 1, 1, 2, 0]), (33, [1, 1, 1, 2, 2]), (102, [1, 1, 0, 2, 2]), (145, [1, 1, 0, 2, 2])]) (l := [(214, C214), (216, C216), (218, C218)]) rfl ⟨am_CS_d (by decide) C214_ok, am_CS_d (by decide) C216_ok, am_CS_d (by decide) C218_ok, trivial⟩ 37 (And.intro (t).1 (And.intro ((t).2).1 (And.intro (fun c5 => (((t).2).2).1 c5) (fun c5 => And.intro ((((t).2).2).2 c5).1 (And.intro (((((t).2).2).2 c5).2).1 (And.intro (fun c6 => ((((((t).2).2).2 c5).2).2).1 c6) (fun c6 => And.intro (((((((t).2).2).2 c5).2).2).2 c6).1 (And.intro ((((((((t).2).2).2 c5).2).2).2 c6).2).1 (And.intro (rfl) (And.intro (((((((((t).2).2).2 c5).2).2).2 c6).2).2).1 (And.intro (fun c7 => And.intro (((((((((((t).2).2).2 c5).2).2).2 c6).2).2).2).1 c7).1 (And.intro ((((((((((((t).2).2).2 c5).2).2).2 c6).2).2).2).1 c7).2).1 (And.intro (rfl) (And.intro (((((((((((((t).2).2).2 c5).2).2).2 c6).2).2).2).1 c7).2).2).1 (fun z1_0 z1_1 => ((((((((((((((t).2).2).2 c5).2).2).2 c6).2).2).2).1 c7).2).2).2) z1_0 z1_1))))) (fun c7 => And.intro (fun c8 => (((((((((((t).2).2).2 c5).2).2).2 c6).2).2).2).2 c7).1 c8) (fun c8 => And.intro ((((((((((((t).2).2).2 c5).2).2).2 c6).2).2).2).2 c7).2 c8).1 (And.intro (((((((((((((t).2).2).2 c5).2).2).2 c6).2).2).2).2 c7).2 c8).2).1 (And.intro (rfl) (And.intro ((((((((((((((t).2).2).2 c5).2).2).2 c6).2).2).2).2 c7).2 c8).2).2).1 (And.intro (fun c9 => (((((((((((((((t).2).2).2 c5).2).2).2 c6).2).2).2).2 c7).2 c8).2).2).2).1 c9) (fun c9 => And.intro ((((((((((((((((t).2).2).2 c5).2).2).2 c6).2).2).2).2 c7).2 c8).2).2).2).2 c9).1 (And.intro (((((((((((((((((t).2).2).2 c5).2).2).2 c6).2).2).2).2 c7).2 c8).2).2).2).2 c9).2).1 (And.intro (rfl) (And.intro ((((((((((((((((((t).2).2).2 c5).2).2).2 c6).2).2).2).2 c7).2 c8).2).2).2).2 c9).2).2).1 (fun z2_0 z2_1 => (((((((((((((((((((t).2).2).2 c5).2).2).2 c6).2).2).2).2 c7).2 c8).2).2).2).2 c9).2).2).2) z2_0 z2_1))))))))))))))))))))))
theorem T217_102 {R : Option am_V → am_H → Prop} {h : am_H} {q : Int} {x3 : Int} {x4 : Int} (t : (R32 x4) ∧ (((h 571 21 ≤ x4) → (am_AT 3 217 145 [some (mR 1 12 0 571), some (mR 2 190 0 q), none, some (mI x3), some (mI 0)] h R)) ∧ ((x4 < h 571 21) → ((0 ≤ x4 ∧ x4 < 190) ∧ ((R32 x3) ∧ ((0 ≤ x4 ∧ x4 < 190) ∧ ((R32 x4) ∧ (((¬ (am_up h 585 x4 x3) q x4 = x4) → (am_AT 3 217 102 [some (mR 1 12 0 571), some (mR 2 190 0 q), none, some (mI (x3 + 0)), some (mI (x4 + 1))] (am_up h 585 x4 x3) R)) ∧ (((am_up h 585 x4 x3) q x4 = x4) → (am_AT 3 217 102 [some (mR 1 12 0 571), some (mR 2 190 0 q), none, some (mI (x3 + 1)), some (mI (x4 + 1))] (am_up h 585 x4 x3) R)))))))))) : am_AT 3 217 102 [some (mR 1 12 0 571), some (mR 2 190 0 q), none, some (mI x3), some (mI x4)] h R :=
  am_T (d := 2) (m := 217) (T := tb217) (mL := 5) (rk := 1) (cuts := [(2, [1, 1, 1, 2, 0]), (22, [1, 1, 1, 2, 0]), (33, [1, 1, 1, 2, 2]), (102, [1, 1, 0, 2, 2]), (145, [1, 1, 0, 2, 2])]) (l := [(214, C214), (216, C216), (218, C218)]) rfl ⟨am_CS_d (by decide) C214_ok, am_CS_d (by decide) C216_ok, am_CS_d (by decide) C218_ok, trivial⟩ 25 (And.intro (t).1 (And.intro (fun c10 => ((t).2).1 c10) (fun c10 => And.intro (((t).2).2 c10).1 (And.intro ((((t).2).2 c10).2).1 (And.intro (((((t).2).2 c10).2).2).1 (And.intro ((((((t).2).2 c10).2).2).2).1 (And.intro (fun c11 => (((((((t).2).2 c10).2).2).2).2).1 c11) (fun c11 => (((((((t).2).2 c10).2).2).2).2).2 c11))))))))
theorem T217_145 {R : Option am_V → am_H → Prop} {h : am_H} {q : Int} {x3 : Int} {x4 : Int} (t : (R32 x4) ∧ (((h 571 21 ≤ x4) → ((R32 x3) ∧ (R (some (mB x3)) h))) ∧ ((x4 < h 571 21) → ((0 ≤ x4 ∧ x4 < 190) ∧ ((0 ≤ h q x4 ∧ h q x4 < 190) ∧ ((0 ≤ x4 ∧ x4 < 190) ∧ (am_AT 3 217 145 [some (mR 1 12 0 571), some (mR 2 190 0 q), none, some (mI x3), some (mI (x4 + 1))] (am_up h q x4 (h 585 (h q x4))) R))))))) : am_AT 3 217 145 [some (mR 1 12 0 571), some (mR 2 190 0 q), none, some (mI x3), some (mI x4)] h R :=
  am_T (d := 2) (m := 217) (T := tb217) (mL := 5) (rk := 1) (cuts := [(2, [1, 1, 1, 2, 0]), (22, [1, 1, 1, 2, 0]), (33, [1, 1, 1, 2, 2]), (102, [1, 1, 0, 2, 2]), (145, [1, 1, 0, 2, 2])]) (l := [(214, C214), (216, C216), (218, C218)]) rfl ⟨am_CS_d (by decide) C214_ok, am_CS_d (by decide) C216_ok, am_CS_d (by decide) C218_ok, trivial⟩ 19 (And.intro (t).1 (And.intro (fun c12 => And.intro (((t).2).1 c12).1 ((((t).2).1 c12).2)) (fun c12 => And.intro (((t).2).2 c12).1 (And.intro ((((t).2).2 c12).2).1 (And.intro (((((t).2).2 c12).2).2).1 ((((((t).2).2 c12).2).2).2))))))
theorem L217 {K : Option am_V → am_H → Prop} {h : am_H} {q : Int} {fk : Prop} {r : Int → Int} (hr : nr h 572 2 = r) (hN : NT (h 572 0) r) (hC : CN (h 572 0) r) (hF : RF h (h 572 0) r) (hL : RLn h r) (hq : q = 583 ∨ q = 584) (hK : ∀ h' : am_H, (∀ x i, x ≠ q → x ≠ 585 → h' x i = h x i) ∧ (∀ k, 0 ≤ k → k < nl r → h' q k = lab (thE r fk) k) → K (some (mB (ncl (thE r fk) (nl r)))) h') : am_AT 3 217 2 [some (mR 1 12 0 571), some (mR 2 190 0 q), some (mP fk), some (mI 0), none] h K := by
  have hnl := nl_r r
  have eL := hL.1
  -- the end
  have A4 : ∀ (f : Int → Int), VF (nl r) f → (∀ x y, (0 ≤ x ∧ x < nl r) → (0 ≤ y ∧ y < nl r) → (f x = f y ↔ rc (thE r fk) x y)) → ∀ (k : Int) (g : am_H), 0 ≤ k → k ≤ nl r → (∀ x i, x ≠ q → x ≠ 585 → g x i = h x i) → (∀ j, 0 ≤ j → j < nl r → g 585 j = ct (fun i => f i = i) j.toNat) → (∀ j, k ≤ j → j < nl r → g q j = f j) → (∀ j, 0 ≤ j → j < k → g q j = lab (thE r fk) j) → am_AT 3 217 145 [some (mR 1 12 0 571), some (mR 2 190 0 q), none, some (mI (ncl (thE r fk) (nl r))), some (mI k)] g K := by
    intro f hV hf
    refine lp (nl r) (fun k ih g k0 k1 g1 g2 g3 g4 => ?_)
    have e0 : g 571 21 = nl r := by rw [g1 _ _ (by omega) (by omega)]; exact eL
    have hnc := ncl_r (thE r fk) r
    have hVk := hV k k0
    refine T217_145 ⟨by omega, ⟨fun c1 => ⟨by omega, ?_⟩, fun c1 => ⟨by omega, ⟨by rw [g3 k (by omega) (by omega)]; have := hVk (by omega); omega, ⟨by omega, ?_⟩⟩⟩⟩⟩
    · exact hK g ⟨g1, fun j j0 j1 => g4 j j0 (by omega)⟩
    · have e1 := g3 k (by omega) (by omega)
      have e2 := hVk (by omega)
      have e3 := g2 (f k) e2.1.1 (by omega)
      rw [e1, e3, lab_of hV hf k k0 (by omega)]
      refine ih (by omega) _ (by omega) (by omega) (fun x i hx1 hx2 => by rw [am_up_ne hx1]; exact g1 x i hx1 hx2) (fun j j0 j1 => by rw [am_up_ne (by omega)]; exact g2 j j0 j1) (fun j j0 j1 => by rw [am_up_ne2 (by omega)]; exact g3 j (by omega) j1) (fun j j0 j1 => ?_)
      by_cases e : j = k
      · rw [e, am_up_eq]
      · rw [am_up_ne2 e]
        exact g4 j j0 (by omega)
  have A3 : ∀ (f : Int → Int), VF (nl r) f → (∀ x y, (0 ≤ x ∧ x < nl r) → (0 ≤ y ∧ y < nl r) → (f x = f y ↔ rc (thE r fk) x y)) → ∀ (k : Int) (g : am_H), 0 ≤ k → k ≤ nl r → (∀ x i, x ≠ q → x ≠ 585 → g x i = h x i) → (∀ j, 0 ≤ j → j < k → g 585 j = ct (fun i => f i = i) j.toNat) → (∀ j, 0 ≤ j → j < nl r → g q j = f j) → am_AT 3 217 102 [some (mR 1 12 0 571), some (mR 2 190 0 q), none, some (mI (ct (fun i => f i = i) k.toNat)), some (mI k)] g K := by
    intro f hV hf
    refine lp (nl r) (fun k ih g k0 k1 g1 g2 g3 => ?_)
    have e0 : g 571 21 = nl r := by rw [g1 _ _ (by omega) (by omega)]; exact eL
    have hct := ct_le (fun i => f i = i) k.toNat
    have nx : k < nl r → ∀ x, x = ct (fun i => f i = i) (k + 1).toNat → am_AT 3 217 102 [some (mR 1 12 0 571), some (mR 2 190 0 q), none, some (mI x), some (mI (k + 1))] (am_up g 585 k (ct (fun i => f i = i) k.toNat)) K := fun hk x hx => by
      rw [hx]
      refine ih hk _ (by omega) (by omega) (fun x i hx1 hx2 => by rw [am_up_ne hx2]; exact g1 x i hx1 hx2) (fun j j0 j1 => ?_) (fun j j0 j1 => by rw [am_up_ne (by omega)]; exact g3 j j0 j1)
      by_cases e : j = k
      · rw [e, am_up_eq]
      · rw [am_up_ne2 e]
        exact g2 j j0 (by omega)
    have e3 : k < nl r → am_up g 585 k (ct (fun i => f i = i) k.toNat) q k = f k := fun hk => by rw [am_up_ne (by omega)]; exact g3 k k0 hk
    refine T217_102 ⟨by omega, ⟨fun c1 => ?_, fun c1 => ⟨by omega, ⟨by omega, ⟨by omega, ⟨by omega, ⟨fun c2 => ?_, fun c2 => ?_⟩⟩⟩⟩⟩⟩⟩
    · have e4 : k = nl r := by omega
      rw [e4, ncl_of hV hf]
      exact A4 f hV hf 0 g (by omega) hnl.1 g1 (fun j j0 j1 => g2 j j0 (by omega)) (fun j j0 j1 => g3 j j0 j1) (fun j j0 j1 => by omega)
    · rw [e3 (by omega)] at c2
      exact nx (by omega) _ (by rw [ct_to k0, am_b_f c2])
    · rw [e3 (by omega)] at c2
      exact nx (by omega) _ (by rw [ct_to k0, am_b_t c2])
  have A2 : ∀ (k : Int) (g : am_H), 0 ≤ k → k ≤ nl r → (∀ x i, x ≠ q → x ≠ 585 → g x i = h x i) → VF (nl r) (g q) → Co (nl r) (fun k => k) (g q) (fun x y => (x < k ∧ y < x) ∧ thE r fk x y) → am_AT 3 217 22 [some (mR 1 12 0 571), some (mR 2 190 0 q), some (mP fk), some (mI k), none] g K := by
    refine lp (nl r) (fun k ih g k0 k1 g1 gV g2 => ?_)
    have e0 : g 571 21 = nl r := by rw [g1 _ _ (by omega) (by omega)]; exact eL
    refine T217_22 ⟨by omega, ⟨fun c1 => ?_, fun c1 => ?_⟩⟩
    · have hf := Co_fin (E := thE r fk) g2 (fun _ _ _ => rfl) (thE_sym hN fk) (fun x y z => z.1) (fun x y hx hy z => z.2) (fun x y z => by
        have h1 := z.1
        by_cases c : y < x
        · exact Or.inl ⟨⟨by omega, c⟩, z⟩
        · by_cases c3 : x < y
          · exact Or.inr (Or.inl ⟨⟨by omega, c3⟩, thE_sym hN fk _ _ z⟩)
          · exact Or.inr (Or.inr (by omega)))
      exact A3 (g q) gV hf 0 g (by omega) hnl.1 g1 (fun j j0 j1 => by omega) (fun j j0 j1 => rfl)
    · have A1 : ∀ (l : Int) (g : am_H), 0 ≤ l → l ≤ k → (∀ x i, x ≠ q → x ≠ 585 → g x i = h x i) → VF (nl r) (g q) → Co (nl r) (fun k => k) (g q) (fun x y => ((x < k ∧ y < x) ∨ (x = k ∧ y < l)) ∧ thE r fk x y) → am_AT 3 217 33 [some (mR 1 12 0 571), some (mR 2 190 0 q), some (mP fk), some (mI k), some (mI l)] g K := by
        refine lp k (fun l ih2 g l0 l1 g1 gV g2 => ?_)
        have e0 : g 571 21 = nl r := by rw [g1 _ _ (by omega) (by omega)]; exact eL
        have er : nr g 572 2 = r := by rw [← hr]; exact nr_fr2 (fun i => g1 _ _ (by omega) (by omega))
        have en : g 572 0 = h 572 0 := g1 _ _ (by omega) (by omega)
        have hRC : l < k → (NT (g 572 0) (nr g 572 2) ∧ CN (g 572 0) (nr g 572 2) ∧ RF g (g 572 0) (nr g 572 2) ∧ RLn g (nr g 572 2)) ∧ (0 ≤ k ∧ k < nl (nr g 572 2)) ∧ (0 ≤ l ∧ l < nl (nr g 572 2)) := fun hlk => by
          rw [er, en]
          exact ⟨⟨hN, hC, RF_fr hF (fun i => g1 _ _ (by omega) (by omega)), RLn_fr hL (g1 _ _ (by omega) (by omega)) (fun i => g1 _ _ (by omega) (by omega)) (fun i => g1 _ _ (by omega) (by omega))⟩, by omega, by omega⟩
        have stay : (thE r fk k l → g q k = g q l) → l < k → am_AT 3 217 33 [some (mR 1 12 0 571), some (mR 2 190 0 q), some (mP fk), some (mI k), some (mI (l + 1))] g K := fun hz hlk => by
          refine ih2 hlk g (by omega) (by omega) g1 gV (Co_trans (B := fun x y => (x = k ∧ y = l) ∧ thE r fk x y) g2 (Co_same (fun _ _ _ => rfl) (fun x y hx hy z => ?_)) (fun x y hx hy => ?_))
          · obtain ⟨⟨rfl, rfl⟩, z2⟩ := z
            exact hz z2
          · constructor
            · rintro ⟨z1, z2⟩
              by_cases c : x = k ∧ y = l
              · exact Or.inr ⟨c, z2⟩
              · exact Or.inl ⟨by omega, z2⟩
            · rintro (⟨z1, z2⟩ | ⟨z1, z2⟩)
              · exact ⟨by omega, z2⟩
              · exact ⟨by omega, z2⟩
        have join : ∀ h' : am_H, thE r fk k l → l < k → (∀ x i, x ≠ q → h' x i = g x i) ∧ (∀ j, 0 ≤ j → j < g 571 21 → h' q j = if g q j = max (g q k) (g q l) then min (g q k) (g q l) else g q j) → am_AT 3 217 33 [some (mR 1 12 0 571), some (mR 2 190 0 q), some (mP fk), some (mI k), some (mI (l + 1))] h' K := fun h' hz hlk hj => by
          have em : ∀ j, 0 ≤ j → j < nl r → h' q j = mrg (g q) k l j := fun j j0 j1 => hj.2 j j0 (by omega)
          refine ih2 hlk h' (by omega) (by omega) (fun x i hx1 hx2 => by rw [hj.1 x i hx1]; exact g1 x i hx1 hx2) (VF_mrg gV hz.1.1 hz.1.2 em) (Co_trans g2 (Co_mrg hz.1.1 hz.1.2 em) (fun x y hx hy => ?_))
          constructor
          · rintro ⟨z1, z2⟩
            by_cases c : x = k ∧ y = l
            · exact Or.inr c
            · exact Or.inl ⟨by omega, z2⟩
          · rintro (⟨z1, z2⟩ | ⟨z1, z2⟩)
            · exact ⟨by omega, z2⟩
            · rw [z1, z2]
              exact ⟨by omega, hz⟩
        refine T217_33 ⟨by omega, ⟨by omega, ⟨fun c1_1 => ?_, fun c1_1 => ⟨by omega, ⟨by omega, ⟨fun c2_1 => ?_, fun c2_1 => ⟨by omega, ⟨by omega, ⟨hRC (by omega), ⟨fun c3 => ⟨by omega, ⟨by omega, ⟨by omega, fun h' q4 => ?_⟩⟩⟩, fun c3 => ⟨fun c4 => ?_, fun c4 => ⟨by omega, ⟨by omega, ⟨hRC (by omega), ⟨fun c5 => ?_, fun c5 => ⟨by omega, ⟨by omega, ⟨by omega, fun h' q6 => ?_⟩⟩⟩⟩⟩⟩⟩⟩⟩⟩⟩⟩⟩⟩⟩⟩⟩⟩
        · refine ih (by omega) g (by omega) (by omega) g1 gV (Co_iff g2 (fun x y hx hy => ⟨fun z => ⟨by omega, z.2⟩, fun z => ⟨by omega, z.2⟩⟩))
        · exact stay (fun _ => c2_1) (by omega)
        · rw [er] at c3
          exact join h' ⟨by omega, Or.inl c3⟩ (by omega) q4
        · rw [er] at c3
          exact stay (fun z => absurd z.2 (fun z => z.elim c3 (fun z => c4 z.1))) (by omega)
        · rw [er] at c3 c5
          exact stay (fun z => absurd z.2 (fun z => z.elim c3 (fun z => c5 z.2))) (by omega)
        · rw [er] at c3 c5
          exact join h' ⟨by omega, Or.inr ⟨c4, c5⟩⟩ (by omega) q6
      refine A1 0 g (by omega) (by omega) g1 gV (Co_iff g2 (fun x y hx hy => ⟨fun z => ⟨by omega, z.2⟩, fun z => ⟨by omega, z.2⟩⟩))
  have A0 : ∀ (k : Int) (g : am_H), 0 ≤ k → k ≤ nl r → (∀ x i, x ≠ q → x ≠ 585 → g x i = h x i) → (∀ j, 0 ≤ j → j < k → g q j = j) → am_AT 3 217 2 [some (mR 1 12 0 571), some (mR 2 190 0 q), some (mP fk), some (mI k), none] g K := by
    refine lp (nl r) (fun k ih g k0 k1 g1 g2 => ?_)
    have e0 : g 571 21 = nl r := by rw [g1 _ _ (by omega) (by omega)]; exact eL
    refine T217_2 ⟨by omega, ⟨fun c1 => ?_, fun c1 => ⟨by omega, ⟨by omega, ?_⟩⟩⟩⟩
    · have g3 : ∀ j, 0 ≤ j → j < nl r → g q j = j := fun j j0 j1 => g2 j j0 (by omega)
      exact A2 0 g (by omega) hnl.1 g1 (fun j j0 j1 => ⟨by rw [g3 j j0 j1]; omega, by rw [g3 j j0 j1, g3 j j0 j1]⟩) (Co_same g3 (fun x y hx hy z => by omega))
    · refine ih (by omega) _ (by omega) (by omega) (fun x i hx1 hx2 => by rw [am_up_ne hx1]; exact g1 x i hx1 hx2) (fun j j0 j1 => ?_)
      by_cases e : j = k
      · rw [e, am_up_eq]
      · rw [am_up_ne2 e]
        exact g2 j j0 (by omega)
  exact A0 0 h (by omega) hnl.1 (fun x i _ _ => rfl) (fun j j0 j1 => by omega)
theorem C217_ok : am_CS 3 217 C217 := W217 (fun q fk h K hb => T217_0 (L217 rfl hb.1.1.1 hb.1.1.2.1 hb.1.1.2.2.1 hb.1.1.2.2.2 hb.1.2 hb.2))
/-! 220 FactorNetsModel.lays -/
def C220 : am_K := fun as h K => am_a1 as (fun v0 => am_oc 12 571 v0 ((RIv h) ∧ (∀ (h' : am_H), LD h h' → K (none) (h'))))
theorem W220 {d : Nat} (H : ∀  (h : am_H) (K : Option am_V → am_H → Prop), (RIv h) ∧ (∀ (h' : am_H), LD h h' → K (none) (h')) → am_AT d 220 0 [some (mR 1 12 0 571)] h K) : am_CS d 220 C220 := by
  refine am_CS_of (T := tb220) (mL := 1) (rk := 0) rfl (fun as h K hC => ?_)
  obtain ⟨v0, rfl, hC0⟩ := am_a1_e hC
  obtain ⟨e0, hC1⟩ := am_oc_e hC0
  subst e0
  refine ⟨Nat.le_of_ble_eq_true rfl, ?_⟩
  exact H  h K hC1
theorem T220_0 {R : Option am_V → am_H → Prop} {h : am_H} (t : ((h 571 17 = 0) → ((NT (h 572 0) (nr h 572 2)) ∧ (∀ (h' : am_H), ((∀ x i, x ≠ 580 → h' x i = h x i) ∧ RF h' (h 572 0) (nr h 572 2)) → ((NT (h' 572 0) (nr h' 572 2)) ∧ (∀ (h'_1 : am_H), ((∀ x i, ¬ (x = 571 ∧ i = 21) → x ≠ 581 → x ≠ 582 → h'_1 x i = h' x i) ∧ RLn h'_1 (nr h' 572 2)) → (((NT (h'_1 572 0) (nr h'_1 572 2) ∧ CN (h'_1 572 0) (nr h'_1 572 2) ∧ RF h'_1 (h'_1 572 0) (nr h'_1 572 2) ∧ RLn h'_1 (nr h'_1 572 2)) ∧ ((583 : Int) = 583 ∨ (583 : Int) = 584)) ∧ (∀ (h'_2 : am_H), ((∀ x i, x ≠ (583 : Int) → x ≠ 585 → h'_2 x i = h'_1 x i) ∧ (∀ k, 0 ≤ k → k < nl (nr h'_1 572 2) → h'_2 (583 : Int) k = lab (thE (nr h'_1 572 2) ((1 : Int) = 1)) k)) → (((NT ((am_up h'_2 571 24 (ncl (thE (nr h'_1 572 2) ((1 : Int) = 1)) (nl (nr h'_1 572 2)))) 572 0) (nr (am_up h'_2 571 24 (ncl (thE (nr h'_1 572 2) ((1 : Int) = 1)) (nl (nr h'_1 572 2)))) 572 2) ∧ CN ((am_up h'_2 571 24 (ncl (thE (nr h'_1 572 2) ((1 : Int) = 1)) (nl (nr h'_1 572 2)))) 572 0) (nr (am_up h'_2 571 24 (ncl (thE (nr h'_1 572 2) ((1 : Int) = 1)) (nl (nr h'_1 572 2)))) 572 2) ∧ RF (am_up h'_2 571 24 (ncl (thE (nr h'_1 572 2) ((1 : Int) = 1)) (nl (nr h'_1 572 2)))) ((am_up h'_2 571 24 (ncl (thE (nr h'_1 572 2) ((1 : Int) = 1)) (nl (nr h'_1 572 2)))) 572 0) (nr (am_up h'_2 571 24 (ncl (thE (nr h'_1 572 2) ((1 : Int) = 1)) (nl (nr h'_1 572 2)))) 572 2) ∧ RLn (am_up h'_2 571 24 (ncl (thE (nr h'_1 572 2) ((1 : Int) = 1)) (nl (nr h'_1 572 2)))) (nr (am_up h'_2 571 24 (ncl (thE (nr h'_1 572 2) ((1 : Int) = 1)) (nl (nr h'_1 572 2)))) 572 2)) ∧ ((584 : Int) = 583 ∨ (584 : Int) = 584)) ∧ (∀ (h'_3 : am_H), ((∀ x i, x ≠ (584 : Int) → x ≠ 585 → h'_3 x i = (am_up h'_2 571 24 (ncl (thE (nr h'_1 572 2) ((1 : Int) = 1)) (nl (nr h'_1 572 2)))) x i) ∧ (∀ k, 0 ≤ k → k < nl (nr (am_up h'_2 571 24 (ncl (thE (nr h'_1 572 2) ((1 : Int) = 1)) (nl (nr h'_1 572 2)))) 572 2) → h'_3 (584 : Int) k = lab (thE (nr (am_up h'_2 571 24 (ncl (thE (nr h'_1 572 2) ((1 : Int) = 1)) (nl (nr h'_1 572 2)))) 572 2) ((0 : Int) = 1)) k)) → (R none (am_up (am_up h'_3 571 25 (ncl (thE (nr (am_up h'_2 571 24 (ncl (thE (nr h'_1 572 2) ((1 : Int) = 1)) (nl (nr h'_1 572 2)))) 572 2) ((0 : Int) = 1)) (nl (nr (am_up h'_2 571 24 (ncl (thE (nr h'_1 572 2) ((1 : Int) = 1)) (nl (nr h'_1 572 2)))) 572 2)))) 571 17 1))))))))))) ∧ ((¬ h 571 17 = 0) → (R none h))) : am_AT 4 220 0 [some (mR 1 12 0 571)] h R :=
  am_T (d := 3) (m := 220) (T := tb220) (mL := 1) (rk := 0) (cuts := []) (l := [(211, C211), (217, C217), (219, C219)]) rfl ⟨am_CS_d (by decide) C211_ok, am_CS_d (by decide) C217_ok, am_CS_d (by decide) C219_ok, trivial⟩ 29 (And.intro (fun c13 => And.intro (rfl) (And.intro ((t).1 c13).1 (fun z3_0 z3_1 => And.intro (rfl) (And.intro ((((t).1 c13).2) z3_0 z3_1).1 (fun z4_0 z4_1 => And.intro (rfl) (And.intro (Or.inr rfl) (And.intro ((((((t).1 c13).2) z3_0 z3_1).2) z4_0 z4_1).1 (fun z5_0 z5_1 => And.intro (rfl) (And.intro (Or.inl rfl) (And.intro ((((((((t).1 c13).2) z3_0 z3_1).2) z4_0 z4_1).2) z5_0 z5_1).1 (fun z6_0 z6_1 => And.intro (Or.inr rfl) ((((((((((t).1 c13).2) z3_0 z3_1).2) z4_0 z4_1).2) z5_0 z5_1).2) z6_0 z6_1)))))))))))) (fun c13 => (t).2 c13))
theorem thE_t (r : Int → Int) : thE r ((1 : Int) = 1) = ptE r := by
  unfold ptE
  rw [eq_self]
theorem thE_f (r : Int → Int) : thE r ((0 : Int) = 1) = sdE r := by
  unfold sdE
  rw [show ((0 : Int) = 1) = False from propext ⟨fun q => by omega, False.elim⟩]
theorem C220_ok : am_CS 4 220 C220 := W220 (fun h K hb => am_AT_ok (fun hw hl => by
  obtain ⟨⟨hN, hC, hI⟩, hK⟩ := hb
  generalize hr : nr h 572 2 = r at *
  generalize hn : h 572 0 = n at *
  have nr1 : ∀ g : am_H, (∀ i, g 572 i = h 572 i) → nr g 572 2 = r := fun g e => by rw [← hr]; exact nr_fr2 e
  refine T220_0 ⟨fun c1 => ⟨by rw [hr, hn]; exact hN, fun h' q2 => ⟨by rw [nr1 h' (fun i => q2.1 _ _ (by omega)), q2.1 _ _ (by omega), hn]; exact hN, fun h'_1 q3 => ⟨by
    have x1 : ∀ i, h' 572 i = h 572 i := fun i => q2.1 _ _ (by omega)
    have x2 : ∀ i, h'_1 572 i = h 572 i := fun i => by rw [q3.1 _ _ (by omega) (by omega) (by omega)]; exact x1 i
    rw [nr1 _ x2, x2 0, hn]
    rw [nr1 _ x1] at q3
    rw [hr] at q2
    exact ⟨⟨hN, hC, RF_fr q2.2 (fun i => q3.1 _ _ (by omega) (by omega) (by omega)), q3.2⟩, by omega⟩, fun h'_2 q4 => ⟨by
    have x1 : ∀ i, h' 572 i = h 572 i := fun i => q2.1 _ _ (by omega)
    have x2 : ∀ i, h'_1 572 i = h 572 i := fun i => by rw [q3.1 _ _ (by omega) (by omega) (by omega)]; exact x1 i
    have x4 : ∀ v i, am_up h'_2 571 24 v 572 i = h 572 i := fun v i => by rw [am_up_ne (by omega), q4.1 _ _ (by omega) (by omega)]; exact x2 i
    rw [nr1 _ (x4 _), x4 _ 0, hn]
    rw [nr1 _ x1] at q3
    rw [hr] at q2
    exact ⟨⟨hN, hC, RF_fr q2.2 (fun i => by rw [am_up_ne (by omega), q4.1 _ _ (by omega) (by omega), q3.1 _ _ (by omega) (by omega) (by omega)]), RLn_fr q3.2 (by rw [am_up_ne2 (by omega), q4.1 _ _ (by omega) (by omega)]) (fun i => by rw [am_up_ne (by omega), q4.1 _ _ (by omega) (by omega)]) (fun i => by rw [am_up_ne (by omega), q4.1 _ _ (by omega) (by omega)])⟩, by omega⟩, fun h'_3 q5 => ?_⟩⟩⟩⟩, fun c1 => ?_⟩
  · have x1 : ∀ i, h' 572 i = h 572 i := fun i => q2.1 _ _ (by omega)
    have x2 : ∀ i, h'_1 572 i = h 572 i := fun i => by rw [q3.1 _ _ (by omega) (by omega) (by omega)]; exact x1 i
    have x3 : ∀ i, h'_2 572 i = h 572 i := fun i => by rw [q4.1 _ _ (by omega) (by omega)]; exact x2 i
    have x4 : ∀ v i, am_up h'_2 571 24 v 572 i = h 572 i := fun v i => by rw [am_up_ne (by omega)]; exact x3 i
    rw [nr1 _ (x4 _), nr1 _ x2, thE_t, thE_f] at q5
    rw [nr1 _ (x4 _), thE_f]
    rw [nr1 _ x2, thE_t] at q4
    rw [nr1 _ x1] at q3
    rw [hr] at q2
    have x5 : ∀ i, h'_3 572 i = h 572 i := fun i => by rw [q5.1 _ _ (by omega) (by omega), am_up_ne (by omega)]; exact x3 i
    have x6 : ∀ v w i, am_up (am_up h'_3 571 25 v) 571 17 w 572 i = h 572 i := fun v w i => by rw [am_up_ne (by omega), am_up_ne (by omega)]; exact x5 i
    have hR : ∀ n' , RLd (am_up (am_up h'_3 571 25 (ncl (sdE r) (nl r))) 571 17 1) n' r := fun n' => by
      refine ⟨fun a b a0 a1 b0 b1 => ?_, RLn_fr q3.2 ?_ (fun i => ?_) (fun i => ?_), ?_, ?_, fun k k0 k1 => ⟨?_, ?_⟩⟩
      · rw [am_up_ne (by omega), am_up_ne (by omega), q5.1 _ _ (by omega) (by omega), am_up_ne (by omega), q4.1 _ _ (by omega) (by omega), q3.1 _ _ (by omega) (by omega) (by omega)]
        exact q2.2 a b a0 a1 b0 b1
      · rw [am_up_ne2 (by omega), am_up_ne2 (by omega), q5.1 _ _ (by omega) (by omega), am_up_ne2 (by omega), q4.1 _ _ (by omega) (by omega)]
      · rw [am_up_ne (by omega), am_up_ne (by omega), q5.1 _ _ (by omega) (by omega), am_up_ne (by omega), q4.1 _ _ (by omega) (by omega)]
      · rw [am_up_ne (by omega), am_up_ne (by omega), q5.1 _ _ (by omega) (by omega), am_up_ne (by omega), q4.1 _ _ (by omega) (by omega)]
      · rw [am_up_ne2 (by omega), am_up_ne2 (by omega), q5.1 _ _ (by omega) (by omega), am_up_eq]
      · rw [am_up_ne2 (by omega), am_up_eq]
      · rw [am_up_ne (by omega), am_up_ne (by omega), q5.1 _ _ (by omega) (by omega), am_up_ne (by omega)]
        exact q4.2 k k0 k1
      · rw [am_up_ne (by omega), am_up_ne (by omega)]
        exact q5.2 k k0 k1
    refine hK _ ⟨fun x i hx1 hx2 => ?_, ?_, ?_, am_up_eq, ?_⟩
    · rw [am_up_n2 (by omega), am_up_n2 (by omega), q5.1 x i (by omega) (by omega), am_up_n2 (by omega), q4.1 x i (by omega) (by omega), q3.1 x i (by omega) (by omega) (by omega), q2.1 x i (by omega)]
    · rw [nr1 _ (x6 _ _), hr]
    · exact x6 _ _ 0
    · unfold RIv
      rw [nr1 _ (x6 _ _), x6 _ _ 0, hn]
      exact ⟨⟨hN, hC, fun _ => hR n⟩, hR n⟩
  · have e4 : h 571 17 = 1 := by
      have : h 571 17 = 0 ∨ h 571 17 = 1 := wf_b 12 17 hw (hl 0 _ rfl) rfl rfl
      omega
    refine hK h ⟨fun x i _ _ => rfl, rfl, rfl, e4, ?_⟩
    unfold RIv
    rw [hr, hn]
    exact ⟨⟨hN, hC, hI⟩, hI e4⟩))
/-! 221 FactorNetsModel.isLine -/
def C221 : am_K := fun as h K => am_a2 as (fun v0 v1 => am_oc 12 571 v0 (am_n v1 (fun k => (RIv h) ∧ (∀ (h' : am_H), LD h h' → K (some (mP (0 ≤ k ∧ k < nl (nr h 572 2)))) (h')))))
theorem W221 {d : Nat} (H : ∀ (k : Int) (h : am_H) (K : Option am_V → am_H → Prop), (RIv h) ∧ (∀ (h' : am_H), LD h h' → K (some (mP (0 ≤ k ∧ k < nl (nr h 572 2)))) (h')) → am_AT d 221 0 [some (mR 1 12 0 571), some (mB k)] h K) : am_CS d 221 C221 := by
  refine am_CS_of (T := tb221) (mL := 2) (rk := 4) rfl (fun as h K hC => ?_)
  obtain ⟨v0, v1, rfl, hC0⟩ := am_a2_e hC
  obtain ⟨e0, hC1⟩ := am_oc_e hC0
  subst e0
  obtain ⟨k, rfl, hC2⟩ := am_n_e hC1
  refine ⟨Nat.le_of_ble_eq_true rfl, ?_⟩
  exact H k h K hC2
theorem T221_0 {R : Option am_V → am_H → Prop} {h : am_H} {k : Int} (t : (RIv h) ∧ (∀ (h' : am_H), (LD h h') → ((R32 ((h' 571 21) - 1)) ∧ (R (some (mP ((0 : Int) ≤ k ∧ k ≤ ((h' 571 21) - 1)))) h')))) : am_AT 5 221 0 [some (mR 1 12 0 571), some (mB k)] h R :=
  am_T (d := 4) (m := 221) (T := tb221) (mL := 2) (rk := 4) (cuts := []) (l := [(187, C187), (220, C220)]) rfl ⟨am_CS_d (by decide) C187_ok, am_CS_d (by decide) C220_ok, trivial⟩ 16 (And.intro (rfl) (And.intro (t).1 (fun z7_0 z7_1 => And.intro (((t).2) z7_0 z7_1).1 ((((t).2) z7_0 z7_1).2))))
theorem C221_ok : am_CS 5 221 C221 := W221 (fun k h K hb => by
  refine T221_0 ⟨hb.1, fun h' q1 => ⟨by have e := q1.2.2.2.2.2.2.1.1; rw [e]; have := nl_r (nr h' 572 2); omega, ?_⟩⟩
  · have e := q1.2.2.2.2.2.2.1.1
    rw [q1.2.1] at e
    rw [e]
    exact am_rb (hb.2 h' q1) ⟨fun z => ⟨z.1, by omega⟩, fun z => ⟨z.1, by omega⟩⟩)
/-! 222 FactorNetsModel.isPart -/
def C222 : am_K := fun as h K => am_a2 as (fun v0 v1 => am_oc 12 571 v0 (am_n v1 (fun k => (RIv h) ∧ (∀ (h' : am_H), LD h h' → K (some (mP (0 ≤ k ∧ k < ncl (ptE (nr h 572 2)) (nl (nr h 572 2))))) (h')))))
theorem W222 {d : Nat} (H : ∀ (k : Int) (h : am_H) (K : Option am_V → am_H → Prop), (RIv h) ∧ (∀ (h' : am_H), LD h h' → K (some (mP (0 ≤ k ∧ k < ncl (ptE (nr h 572 2)) (nl (nr h 572 2))))) (h')) → am_AT d 222 0 [some (mR 1 12 0 571), some (mB k)] h K) : am_CS d 222 C222 := by
  refine am_CS_of (T := tb222) (mL := 2) (rk := 4) rfl (fun as h K hC => ?_)
  obtain ⟨v0, v1, rfl, hC0⟩ := am_a2_e hC
  obtain ⟨e0, hC1⟩ := am_oc_e hC0
  subst e0
  obtain ⟨k, rfl, hC2⟩ := am_n_e hC1
  refine ⟨Nat.le_of_ble_eq_true rfl, ?_⟩
  exact H k h K hC2
theorem T222_0 {R : Option am_V → am_H → Prop} {h : am_H} {k : Int} (t : (RIv h) ∧ (∀ (h' : am_H), (LD h h') → ((R32 ((h' 571 24) - 1)) ∧ (R (some (mP ((0 : Int) ≤ k ∧ k ≤ ((h' 571 24) - 1)))) h')))) : am_AT 5 222 0 [some (mR 1 12 0 571), some (mB k)] h R :=
  am_T (d := 4) (m := 222) (T := tb222) (mL := 2) (rk := 4) (cuts := []) (l := [(187, C187), (220, C220)]) rfl ⟨am_CS_d (by decide) C187_ok, am_CS_d (by decide) C220_ok, trivial⟩ 16 (And.intro (rfl) (And.intro (t).1 (fun z8_0 z8_1 => And.intro (((t).2) z8_0 z8_1).1 ((((t).2) z8_0 z8_1).2))))
theorem C222_ok : am_CS 5 222 C222 := W222 (fun k h K hb => by
  refine T222_0 ⟨hb.1, fun h' q1 => ⟨by have e := q1.2.2.2.2.2.2.2.1; rw [e]; have := ncl_r (ptE (nr h' 572 2)) (nr h' 572 2); omega, ?_⟩⟩
  · have e := q1.2.2.2.2.2.2.2.1
    rw [q1.2.1] at e
    rw [e]
    exact am_rb (hb.2 h' q1) ⟨fun z => ⟨z.1, by omega⟩, fun z => ⟨z.1, by omega⟩⟩)
/-! 223 FactorNetsModel.isSide -/
def C223 : am_K := fun as h K => am_a2 as (fun v0 v1 => am_oc 12 571 v0 (am_n v1 (fun k => (RIv h) ∧ (∀ (h' : am_H), LD h h' → K (some (mP (0 ≤ k ∧ k < ncl (sdE (nr h 572 2)) (nl (nr h 572 2))))) (h')))))
theorem W223 {d : Nat} (H : ∀ (k : Int) (h : am_H) (K : Option am_V → am_H → Prop), (RIv h) ∧ (∀ (h' : am_H), LD h h' → K (some (mP (0 ≤ k ∧ k < ncl (sdE (nr h 572 2)) (nl (nr h 572 2))))) (h')) → am_AT d 223 0 [some (mR 1 12 0 571), some (mB k)] h K) : am_CS d 223 C223 := by
  refine am_CS_of (T := tb223) (mL := 2) (rk := 4) rfl (fun as h K hC => ?_)
  obtain ⟨v0, v1, rfl, hC0⟩ := am_a2_e hC
  obtain ⟨e0, hC1⟩ := am_oc_e hC0
  subst e0
  obtain ⟨k, rfl, hC2⟩ := am_n_e hC1
  refine ⟨Nat.le_of_ble_eq_true rfl, ?_⟩
  exact H k h K hC2
theorem T223_0 {R : Option am_V → am_H → Prop} {h : am_H} {k : Int} (t : (RIv h) ∧ (∀ (h' : am_H), (LD h h') → ((R32 ((h' 571 25) - 1)) ∧ (R (some (mP ((0 : Int) ≤ k ∧ k ≤ ((h' 571 25) - 1)))) h')))) : am_AT 5 223 0 [some (mR 1 12 0 571), some (mB k)] h R :=
  am_T (d := 4) (m := 223) (T := tb223) (mL := 2) (rk := 4) (cuts := []) (l := [(187, C187), (220, C220)]) rfl ⟨am_CS_d (by decide) C187_ok, am_CS_d (by decide) C220_ok, trivial⟩ 16 (And.intro (rfl) (And.intro (t).1 (fun z9_0 z9_1 => And.intro (((t).2) z9_0 z9_1).1 ((((t).2) z9_0 z9_1).2))))
theorem C223_ok : am_CS 5 223 C223 := W223 (fun k h K hb => by
  refine T223_0 ⟨hb.1, fun h' q1 => ⟨by have e := q1.2.2.2.2.2.2.2.2.1; rw [e]; have := ncl_r (sdE (nr h' 572 2)) (nr h' 572 2); omega, ?_⟩⟩
  · have e := q1.2.2.2.2.2.2.2.2.1
    rw [q1.2.1] at e
    rw [e]
    exact am_rb (hb.2 h' q1) ⟨fun z => ⟨z.1, by omega⟩, fun z => ⟨z.1, by omega⟩⟩)
/-! 224 FactorNetsModel.areTwo -/
def C224 : am_K := fun as h K => am_a3 as (fun v0 v1 v2 => am_oc 12 571 v0 (am_n v1 (fun p => am_n v2 (fun q => (RIv h) ∧ (∀ (h' : am_H), LD h h' → K (some (mP ((0 ≤ p ∧ p < (h 572 0)) ∧ (0 ≤ q ∧ q < (h 572 0))))) (h'))))))
theorem W224 {d : Nat} (H : ∀ (p : Int) (q : Int) (h : am_H) (K : Option am_V → am_H → Prop), (RIv h) ∧ (∀ (h' : am_H), LD h h' → K (some (mP ((0 ≤ p ∧ p < (h 572 0)) ∧ (0 ≤ q ∧ q < (h 572 0))))) (h')) → am_AT d 224 0 [some (mR 1 12 0 571), some (mB p), some (mB q)] h K) : am_CS d 224 C224 := by
  refine am_CS_of (T := tb224) (mL := 3) (rk := 4) rfl (fun as h K hC => ?_)
  obtain ⟨v0, v1, v2, rfl, hC0⟩ := am_a3_e hC
  obtain ⟨e0, hC1⟩ := am_oc_e hC0
  subst e0
  obtain ⟨p, rfl, hC2⟩ := am_n_e hC1
  obtain ⟨q, rfl, hC3⟩ := am_n_e hC2
  refine ⟨Nat.le_of_ble_eq_true rfl, ?_⟩
  exact H p q h K hC3
theorem T224_0 {R : Option am_V → am_H → Prop} {h : am_H} {p : Int} {q : Int} (t : (RIv h) ∧ (∀ (h' : am_H), (LD h h') → ((h' 572 0 ≤ 20 ∧ 0 ≤ h' 572 0) ∧ (((¬ (0 ≤ p ∧ p < h' 572 0)) → (R (some (mP ((0 : Int) = 1))) h')) ∧ ((0 ≤ p ∧ p < h' 572 0) → ((h' 572 0 ≤ 20 ∧ 0 ≤ h' 572 0) ∧ (((¬ (0 ≤ q ∧ q < h' 572 0)) → (R (some (mP ((0 : Int) = 1))) h')) ∧ ((0 ≤ q ∧ q < h' 572 0) → (R (some (mP ((1 : Int) = 1))) h'))))))))) : am_AT 5 224 0 [some (mR 1 12 0 571), some (mB p), some (mB q)] h R :=
  am_T (d := 4) (m := 224) (T := tb224) (mL := 3) (rk := 4) (cuts := []) (l := [(210, C210), (220, C220)]) rfl ⟨am_CS_d (by decide) C210_ok, am_CS_d (by decide) C220_ok, trivial⟩ 17 (And.intro (rfl) (And.intro (t).1 (fun z10_0 z10_1 => And.intro (rfl) (And.intro (((t).2) z10_0 z10_1).1 (And.intro (fun c14 => And.intro (Or.inl rfl) (((((t).2) z10_0 z10_1).2).1 c14)) (fun c14 => And.intro (rfl) (And.intro (((((t).2) z10_0 z10_1).2).2 c14).1 (And.intro (fun c15 => And.intro (Or.inl rfl) (((((((t).2) z10_0 z10_1).2).2 c14).2).1 c15)) (fun c15 => And.intro (Or.inr rfl) (((((((t).2) z10_0 z10_1).2).2 c14).2).2 c15))))))))))
theorem C224_ok : am_CS 5 224 C224 := W224 (fun p q h K hb => by
  have hN := hb.1.1
  have hn1 := hN.1
  have hn2 := hN.2.1
  refine T224_0 ⟨hb.1, fun h' q1 => ⟨by have e := q1.2.2.1; omega, ⟨fun c2 => ?_, fun c2 => ⟨by have e := q1.2.2.1; omega, ⟨fun c3 => ?_, fun c3 => ?_⟩⟩⟩⟩⟩
  · have e := q1.2.2.1
    exact am_rb0 (hb.2 h' q1) (fun z => c2 (by omega))
  · have e := q1.2.2.1
    exact am_rb0 (hb.2 h' q1) (fun z => c3 (by omega))
  · have e := q1.2.2.1
    exact am_rb1 (hb.2 h' q1) (by omega))
/-! 225 FactorNetsModel.count -/
def C225 : am_K := fun as h K => am_a2 as (fun v0 v1 => am_oc 12 571 v0 (am_n v1 (fun w => (RIv h) ∧ (∀ (h' : am_H), RQ h h' → K (some (mB (if w = 0 then (h 572 0) else if w = 1 then nl (nr h 572 2) else if w = 2 then h 572 1 else if w = 3 then ncl (ptE (nr h 572 2)) (nl (nr h 572 2)) else if w = 4 then ncl (sdE (nr h 572 2)) (nl (nr h 572 2)) else if w = 5 then h 571 2 else if w = 6 then h 571 9 else if w = 7 then h 571 29 else -1))) (h')))))
theorem W225 {d : Nat} (H : ∀ (w : Int) (h : am_H) (K : Option am_V → am_H → Prop), (RIv h) ∧ (∀ (h' : am_H), RQ h h' → K (some (mB (if w = 0 then (h 572 0) else if w = 1 then nl (nr h 572 2) else if w = 2 then h 572 1 else if w = 3 then ncl (ptE (nr h 572 2)) (nl (nr h 572 2)) else if w = 4 then ncl (sdE (nr h 572 2)) (nl (nr h 572 2)) else if w = 5 then h 571 2 else if w = 6 then h 571 9 else if w = 7 then h 571 29 else -1))) (h')) → am_AT d 225 0 [some (mR 1 12 0 571), some (mB w)] h K) : am_CS d 225 C225 := by
  refine am_CS_of (T := tb225) (mL := 2) (rk := 1) rfl (fun as h K hC => ?_)
  obtain ⟨v0, v1, rfl, hC0⟩ := am_a2_e hC
  obtain ⟨e0, hC1⟩ := am_oc_e hC0
  subst e0
  obtain ⟨w, rfl, hC2⟩ := am_n_e hC1
  refine ⟨Nat.le_of_ble_eq_true rfl, ?_⟩
  exact H w h K hC2
theorem T225_0 {R : Option am_V → am_H → Prop} {h : am_H} {w : Int} (t : (RIv h) ∧ (∀ (h' : am_H), (LD h h') → (((w < 0 ∨ 7 < w) → (R (some (mB (-1))) h')) ∧ (((w = 0) → (R (some (mB (h' 572 0))) h')) ∧ (((w = 1) → (R (some (mB (h' 571 21))) h')) ∧ (((w = 2) → (R (some (mB (h' 572 1))) h')) ∧ (((w = 3) → (R (some (mB (h' 571 24))) h')) ∧ (((w = 4) → (R (some (mB (h' 571 25))) h')) ∧ (((w = 5) → (R (some (mB (h' 571 2))) h')) ∧ (((w = 6) → (R (some (mB (h' 571 9))) h')) ∧ (((w = 7) → (R (some (mB (h' 571 29))) h')) ∧ True))))))))))) : am_AT 5 225 0 [some (mR 1 12 0 571), some (mB w)] h R :=
  am_T (d := 4) (m := 225) (T := tb225) (mL := 2) (rk := 1) (cuts := []) (l := [(220, C220)]) rfl ⟨am_CS_d (by decide) C220_ok, trivial⟩ 13 (And.intro (rfl) (And.intro (t).1 (fun z11_0 z11_1 => And.intro (fun c16 => (((t).2) z11_0 z11_1).1 c16) (And.intro (fun c16 => And.intro (⟨by decide, by decide⟩) (((((t).2) z11_0 z11_1).2).1 c16)) (And.intro (fun c16 => (((((t).2) z11_0 z11_1).2).2).1 c16) (And.intro (fun c16 => And.intro (⟨by decide, by decide⟩) (((((((t).2) z11_0 z11_1).2).2).2).1 c16)) (And.intro (fun c16 => (((((((t).2) z11_0 z11_1).2).2).2).2).1 c16) (And.intro (fun c16 => ((((((((t).2) z11_0 z11_1).2).2).2).2).2).1 c16) (And.intro (fun c16 => (((((((((t).2) z11_0 z11_1).2).2).2).2).2).2).1 c16) (And.intro (fun c16 => ((((((((((t).2) z11_0 z11_1).2).2).2).2).2).2).2).1 c16) (And.intro (fun c16 => (((((((((((t).2) z11_0 z11_1).2).2).2).2).2).2).2).2).1 c16) (trivial))))))))))))
theorem C225_ok : am_CS 5 225 C225 := W225 (fun w h K hb => by
  refine T225_0 ⟨hb.1, fun h' q1 => ⟨fun c2 => ?_, fun c2 => ?_, fun c2 => ?_, fun c2 => ?_, fun c2 => ?_, fun c2 => ?_, fun c2 => ?_, fun c2 => ?_, fun c2 => ?_, trivial⟩⟩
  · have e := hb.2 h' (LD_q q1)
    rw [if_neg (by omega), if_neg (by omega), if_neg (by omega), if_neg (by omega), if_neg (by omega), if_neg (by omega), if_neg (by omega), if_neg (by omega)] at e
    exact e
  · have e := hb.2 h' (LD_q q1)
    rw [if_pos c2] at e
    exact am_rB e q1.2.2.1.symm
  · have e := hb.2 h' (LD_q q1)
    rw [if_neg (by omega), if_pos c2] at e
    refine am_rB e ?_
    rw [q1.2.2.2.2.2.2.1.1, q1.2.1]
  · have e := hb.2 h' (LD_q q1)
    rw [if_neg (by omega), if_neg (by omega), if_pos c2] at e
    exact am_rB e (q1.1 _ _ (by omega) (by omega)).symm
  · have e := hb.2 h' (LD_q q1)
    rw [if_neg (by omega), if_neg (by omega), if_neg (by omega), if_pos c2] at e
    refine am_rB e ?_
    rw [q1.2.2.2.2.2.2.2.1, q1.2.1]
  · have e := hb.2 h' (LD_q q1)
    rw [if_neg (by omega), if_neg (by omega), if_neg (by omega), if_neg (by omega), if_pos c2] at e
    refine am_rB e ?_
    rw [q1.2.2.2.2.2.2.2.2.1, q1.2.1]
  · have e := hb.2 h' (LD_q q1)
    rw [if_neg (by omega), if_neg (by omega), if_neg (by omega), if_neg (by omega), if_neg (by omega), if_pos c2] at e
    exact am_rB e (q1.1 _ _ (by omega) (by omega)).symm
  · have e := hb.2 h' (LD_q q1)
    rw [if_neg (by omega), if_neg (by omega), if_neg (by omega), if_neg (by omega), if_neg (by omega), if_neg (by omega), if_pos c2] at e
    exact am_rB e (q1.1 _ _ (by omega) (by omega)).symm
  · have e := hb.2 h' (LD_q q1)
    rw [if_neg (by omega), if_neg (by omega), if_neg (by omega), if_neg (by omega), if_neg (by omega), if_neg (by omega), if_neg (by omega), if_pos c2] at e
    exact am_rB e (q1.1 _ _ (by omega) (by omega)).symm)
/-! 226 FactorNetsModel.line -/
def C226 : am_K := fun as h K => am_a3 as (fun v0 v1 v2 => am_oc 12 571 v0 (am_n v1 (fun k => am_n v2 (fun w => (RIv h) ∧ (∀ (h' : am_H), RQ h h' → K (some (mB (ifc ((0 ≤ k ∧ k < nl (nr h 572 2)) ∧ (0 ≤ w ∧ w ≤ 3)) (if w = 0 then lo (nr h 572 2) k else if w = 1 then hi (nr h 572 2) k else if w = 2 then lab (ptE (nr h 572 2)) k else lab (sdE (nr h 572 2)) k) (-2)))) (h'))))))
theorem W226 {d : Nat} (H : ∀ (k : Int) (w : Int) (h : am_H) (K : Option am_V → am_H → Prop), (RIv h) ∧ (∀ (h' : am_H), RQ h h' → K (some (mB (ifc ((0 ≤ k ∧ k < nl (nr h 572 2)) ∧ (0 ≤ w ∧ w ≤ 3)) (if w = 0 then lo (nr h 572 2) k else if w = 1 then hi (nr h 572 2) k else if w = 2 then lab (ptE (nr h 572 2)) k else lab (sdE (nr h 572 2)) k) (-2)))) (h')) → am_AT d 226 0 [some (mR 1 12 0 571), some (mB k), some (mB w)] h K) : am_CS d 226 C226 := by
  refine am_CS_of (T := tb226) (mL := 3) (rk := 1) rfl (fun as h K hC => ?_)
  obtain ⟨v0, v1, v2, rfl, hC0⟩ := am_a3_e hC
  obtain ⟨e0, hC1⟩ := am_oc_e hC0
  subst e0
  obtain ⟨k, rfl, hC2⟩ := am_n_e hC1
  obtain ⟨w, rfl, hC3⟩ := am_n_e hC2
  refine ⟨Nat.le_of_ble_eq_true rfl, ?_⟩
  exact H k w h K hC3
theorem T226_0 {R : Option am_V → am_H → Prop} {h : am_H} {k : Int} {w : Int} (t : (RIv h) ∧ (∀ (h' : am_H), (LD h h') → (((¬ (0 ≤ k ∧ k < nl (nr h 572 2))) → (R (some (mB (-2))) h')) ∧ ((0 ≤ k ∧ k < nl (nr h 572 2)) → ((((0 : Int) ≤ w ∧ w ≤ (3 : Int)) → (((¬ w = 0) → (((¬ w = 1) → (((¬ w = 2) → ((0 ≤ k ∧ k < 190) ∧ (R (some (mB (h' 584 k))) h'))) ∧ ((w = 2) → ((0 ≤ k ∧ k < 190) ∧ (R (some (mB (h' 583 k))) h'))))) ∧ ((w = 1) → ((0 ≤ k ∧ k < 190) ∧ (R (some (mB (h' 582 k))) h'))))) ∧ ((w = 0) → ((0 ≤ k ∧ k < 190) ∧ (R (some (mB (h' 581 k))) h'))))) ∧ ((¬ ((0 : Int) ≤ w ∧ w ≤ (3 : Int))) → (R (some (mB (-2))) h'))))))) : am_AT 6 226 0 [some (mR 1 12 0 571), some (mB k), some (mB w)] h R :=
  am_T (d := 5) (m := 226) (T := tb226) (mL := 3) (rk := 1) (cuts := []) (l := [(187, C187), (221, C221)]) rfl ⟨am_CS_d (by decide) C187_ok, am_CS_d (by decide) C221_ok, trivial⟩ 28 (And.intro (rfl) (And.intro (t).1 (fun z12_0 z12_1 => And.intro (fun c17 => (((t).2) z12_0 z12_1).1 c17) (fun c17 => And.intro (fun c18 => And.intro (fun c19 => And.intro (fun c20 => And.intro (fun c21 => And.intro ((((((((t).2) z12_0 z12_1).2 c17).1 c18).1 c19).1 c20).1 c21).1 (((((((((t).2) z12_0 z12_1).2 c17).1 c18).1 c19).1 c20).1 c21).2)) (fun c21 => And.intro ((((((((t).2) z12_0 z12_1).2 c17).1 c18).1 c19).1 c20).2 c21).1 (((((((((t).2) z12_0 z12_1).2 c17).1 c18).1 c19).1 c20).2 c21).2))) (fun c20 => And.intro (((((((t).2) z12_0 z12_1).2 c17).1 c18).1 c19).2 c20).1 ((((((((t).2) z12_0 z12_1).2 c17).1 c18).1 c19).2 c20).2))) (fun c19 => And.intro ((((((t).2) z12_0 z12_1).2 c17).1 c18).2 c19).1 (((((((t).2) z12_0 z12_1).2 c17).1 c18).2 c19).2))) (fun c18 => ((((t).2) z12_0 z12_1).2 c17).2 c18)))))
theorem C226_ok : am_CS 6 226 C226 := W226 (fun k w h K hb => by
  have hnl := nl_r (nr h 572 2)
  refine T226_0 ⟨hb.1, fun h' q1 => ⟨fun c2 => ?_, fun c2 => ⟨fun c3 => ⟨fun c4 => ⟨fun c5 => ⟨fun c6 => ⟨by omega, ?_⟩, fun c6 => ⟨by omega, ?_⟩⟩, fun c5 => ⟨by omega, ?_⟩⟩, fun c4 => ⟨by omega, ?_⟩⟩, fun c3 => ?_⟩⟩⟩
  · have e := hb.2 h' (LD_q q1)
    rw [ifc_f (fun z => c2 z.1)] at e
    exact e
  · have e := hb.2 h' (LD_q q1)
    rw [ifc_t ⟨c2, c3⟩, if_neg c4, if_neg c5, if_neg c6] at e
    refine am_rB e ?_
    have e2 := q1.2.2.2.2.2.2.2.2.2
    rw [q1.2.1] at e2
    exact (e2 k c2.1 c2.2).2.symm
  · have e := hb.2 h' (LD_q q1)
    rw [ifc_t ⟨c2, c3⟩, if_neg c4, if_neg c5, if_pos c6] at e
    refine am_rB e ?_
    have e2 := q1.2.2.2.2.2.2.2.2.2
    rw [q1.2.1] at e2
    exact (e2 k c2.1 c2.2).1.symm
  · have e := hb.2 h' (LD_q q1)
    rw [ifc_t ⟨c2, c3⟩, if_neg c4, if_pos c5] at e
    refine am_rB e ?_
    have e2 := q1.2.2.2.2.2.2.1.2
    rw [q1.2.1] at e2
    exact (e2 k c2.1 c2.2).2.symm
  · have e := hb.2 h' (LD_q q1)
    rw [ifc_t ⟨c2, c3⟩, if_pos c4] at e
    refine am_rB e ?_
    have e2 := q1.2.2.2.2.2.2.1.2
    rw [q1.2.1] at e2
    exact (e2 k c2.1 c2.2).1.symm
  · have e := hb.2 h' (LD_q q1)
    rw [ifc_f (fun z => c3 z.2)] at e
    exact e)
/-! 228 FactorNetsModel.between -/
def C228 : am_K := fun as h K => am_a3 as (fun v0 v1 v2 => am_oc 12 571 v0 (am_n v1 (fun p => am_n v2 (fun q => (RIv h) ∧ (∀ (h' : am_H), RQ h h' → K (some (mB (ifc ((0 ≤ p ∧ p < (h 572 0)) ∧ (0 ≤ q ∧ q < (h 572 0))) (lno (nr h 572 2) p q) (-2)))) (h'))))))
theorem W228 {d : Nat} (H : ∀ (p : Int) (q : Int) (h : am_H) (K : Option am_V → am_H → Prop), (RIv h) ∧ (∀ (h' : am_H), RQ h h' → K (some (mB (ifc ((0 ≤ p ∧ p < (h 572 0)) ∧ (0 ≤ q ∧ q < (h 572 0))) (lno (nr h 572 2) p q) (-2)))) (h')) → am_AT d 228 0 [some (mR 1 12 0 571), some (mB p), some (mB q)] h K) : am_CS d 228 C228 := by
  refine am_CS_of (T := tb228) (mL := 3) (rk := 1) rfl (fun as h K hC => ?_)
  obtain ⟨v0, v1, v2, rfl, hC0⟩ := am_a3_e hC
  obtain ⟨e0, hC1⟩ := am_oc_e hC0
  subst e0
  obtain ⟨p, rfl, hC2⟩ := am_n_e hC1
  obtain ⟨q, rfl, hC3⟩ := am_n_e hC2
  refine ⟨Nat.le_of_ble_eq_true rfl, ?_⟩
  exact H p q h K hC3
theorem T228_0 {R : Option am_V → am_H → Prop} {h : am_H} {p : Int} {q : Int} (t : (RIv h) ∧ (∀ (h' : am_H), (LD h h') → (((¬ ((0 ≤ p ∧ p < (h 572 0)) ∧ (0 ≤ q ∧ q < (h 572 0)))) → (R (some (mB (-2))) h')) ∧ (((0 ≤ p ∧ p < (h 572 0)) ∧ (0 ≤ q ∧ q < (h 572 0))) → ((NT (h' 572 0) (nr h' 572 2) ∧ RLn h' (nr h' 572 2) ∧ (0 ≤ p ∧ p < h' 572 0) ∧ (0 ≤ q ∧ q < h' 572 0)) ∧ (R (some (mB (lno (nr h' 572 2) p q))) h')))))) : am_AT 6 228 0 [some (mR 1 12 0 571), some (mB p), some (mB q)] h R :=
  am_T (d := 5) (m := 228) (T := tb228) (mL := 3) (rk := 1) (cuts := []) (l := [(224, C224), (227, C227)]) rfl ⟨am_CS_d (by decide) C224_ok, am_CS_d (by decide) C227_ok, trivial⟩ 15 (And.intro (rfl) (And.intro (t).1 (fun z13_0 z13_1 => And.intro (fun c22 => (((t).2) z13_0 z13_1).1 c22) (fun c22 => And.intro (rfl) (And.intro ((((t).2) z13_0 z13_1).2 c22).1 (((((t).2) z13_0 z13_1).2 c22).2))))))
theorem C228_ok : am_CS 6 228 C228 := W228 (fun p q h K hb => by
  refine T228_0 ⟨hb.1, fun h' q1 => ⟨fun c2 => ?_, fun c2 => ⟨by have e := q1.2.2.1; exact ⟨q1.2.2.2.2.1.1, q1.2.2.2.2.2.2.1, by omega, by omega⟩, ?_⟩⟩⟩
  · have e := hb.2 h' (LD_q q1)
    rw [ifc_f c2] at e
    exact e
  · have e := hb.2 h' (LD_q q1)
    rw [ifc_t c2, ← q1.2.1] at e
    exact e)
/-! 229 FactorNetsModel.beside -/
def C229 : am_K := fun as h K => am_a2 as (fun v0 v1 => am_oc 12 571 v0 (am_n v1 (fun p => (RIv h) ∧ (K (some (mB (ifc (0 ≤ p ∧ p < (h 572 0)) ((nr h 572 2) p) (-2)))) h))))
theorem W229 {d : Nat} (H : ∀ (p : Int) (h : am_H) (K : Option am_V → am_H → Prop), (RIv h) ∧ (K (some (mB (ifc (0 ≤ p ∧ p < (h 572 0)) ((nr h 572 2) p) (-2)))) h) → am_AT d 229 0 [some (mR 1 12 0 571), some (mB p)] h K) : am_CS d 229 C229 := by
  refine am_CS_of (T := tb229) (mL := 2) (rk := 1) rfl (fun as h K hC => ?_)
  obtain ⟨v0, v1, rfl, hC0⟩ := am_a2_e hC
  obtain ⟨e0, hC1⟩ := am_oc_e hC0
  subst e0
  obtain ⟨p, rfl, hC2⟩ := am_n_e hC1
  refine ⟨Nat.le_of_ble_eq_true rfl, ?_⟩
  exact H p h K hC2
theorem T229_0 {R : Option am_V → am_H → Prop} {h : am_H} {p : Int} (t : (h 572 0 ≤ 20 ∧ 0 ≤ h 572 0) ∧ (((¬ (0 ≤ p ∧ p < h 572 0)) → (R (some (mB (-2))) h)) ∧ ((0 ≤ p ∧ p < h 572 0) → ((0 ≤ 2 + p ∧ 2 + p < 22) ∧ (R (some (mB (h 572 (2 + p)))) h))))) : am_AT 3 229 0 [some (mR 1 12 0 571), some (mB p)] h R :=
  am_T (d := 2) (m := 229) (T := tb229) (mL := 2) (rk := 1) (cuts := []) (l := [(210, C210)]) rfl ⟨am_CS_d (by decide) C210_ok, trivial⟩ 16 (And.intro (rfl) (And.intro (t).1 (And.intro (fun c23 => ((t).2).1 c23) (fun c23 => And.intro (((t).2).2 c23).1 ((((t).2).2 c23).2)))))
theorem C229_ok : am_CS 3 229 C229 := W229 (fun p h K hb => by
  have hn1 := hb.1.1.1
  have hn2 := hb.1.1.2.1
  refine T229_0 ⟨by omega, ⟨fun c1 => ?_, fun c1 => ⟨by omega, ?_⟩⟩⟩
  · exact am_rB hb.2 (ifc_f c1)
  · exact am_rB hb.2 (by rw [ifc_t c1, nr_in c1.1 (by omega)]))
/-! 230 FactorNetsModel.far -/
def C230 : am_K := fun as h K => am_a3 as (fun v0 v1 v2 => am_oc 12 571 v0 (am_n v1 (fun p => am_n v2 (fun q => (RIv h) ∧ (∀ (h' : am_H), RQ h h' → K (some (mB (ifc ((0 ≤ p ∧ p < (h 572 0)) ∧ (0 ≤ q ∧ q < (h 572 0))) (ds (ad (nr h 572 2)) p q) (-2)))) (h'))))))
theorem W230 {d : Nat} (H : ∀ (p : Int) (q : Int) (h : am_H) (K : Option am_V → am_H → Prop), (RIv h) ∧ (∀ (h' : am_H), RQ h h' → K (some (mB (ifc ((0 ≤ p ∧ p < (h 572 0)) ∧ (0 ≤ q ∧ q < (h 572 0))) (ds (ad (nr h 572 2)) p q) (-2)))) (h')) → am_AT d 230 0 [some (mR 1 12 0 571), some (mB p), some (mB q)] h K) : am_CS d 230 C230 := by
  refine am_CS_of (T := tb230) (mL := 3) (rk := 1) rfl (fun as h K hC => ?_)
  obtain ⟨v0, v1, v2, rfl, hC0⟩ := am_a3_e hC
  obtain ⟨e0, hC1⟩ := am_oc_e hC0
  subst e0
  obtain ⟨p, rfl, hC2⟩ := am_n_e hC1
  obtain ⟨q, rfl, hC3⟩ := am_n_e hC2
  refine ⟨Nat.le_of_ble_eq_true rfl, ?_⟩
  exact H p q h K hC3
theorem T230_0 {R : Option am_V → am_H → Prop} {h : am_H} {p : Int} {q : Int} (t : (RIv h) ∧ (∀ (h' : am_H), (LD h h') → (((¬ ((0 ≤ p ∧ p < (h 572 0)) ∧ (0 ≤ q ∧ q < (h 572 0)))) → (R (some (mB (-2))) h')) ∧ (((0 ≤ p ∧ p < (h 572 0)) ∧ (0 ≤ q ∧ q < (h 572 0))) → (((0 ≤ p ∧ p < 20) ∧ (0 ≤ q ∧ q < 20)) ∧ (R (some (mB (h' 580 (20 * p + q)))) h')))))) : am_AT 6 230 0 [some (mR 1 12 0 571), some (mB p), some (mB q)] h R :=
  am_T (d := 5) (m := 230) (T := tb230) (mL := 3) (rk := 1) (cuts := []) (l := [(212, C212), (224, C224)]) rfl ⟨am_CS_d (by decide) C212_ok, am_CS_d (by decide) C224_ok, trivial⟩ 15 (And.intro (rfl) (And.intro (t).1 (fun z14_0 z14_1 => And.intro (fun c24 => (((t).2) z14_0 z14_1).1 c24) (fun c24 => And.intro (rfl) (And.intro ((((t).2) z14_0 z14_1).2 c24).1 (((((t).2) z14_0 z14_1).2 c24).2))))))
theorem C230_ok : am_CS 6 230 C230 := W230 (fun p q h K hb => by
  have hn2 := hb.1.1.2.1
  refine T230_0 ⟨hb.1, fun h' q1 => ⟨fun c2 => ?_, fun c2 => ⟨by omega, ?_⟩⟩⟩
  · have e := hb.2 h' (LD_q q1)
    rw [ifc_f c2] at e
    exact e
  · have e := hb.2 h' (LD_q q1)
    rw [ifc_t c2, ← q1.2.1, ← q1.2.2.2.2.2.1 p q (by omega) (by omega) (by omega) (by omega)] at e
    exact e)
/-! 232 FactorNetsModel.amidOf -/
def C232 : am_K := fun as h K => am_a3 as (fun v0 v1 v2 => am_oc 12 571 v0 (am_n v1 (fun a => am_n v2 (fun b => ((NT (h 572 0) (nr h 572 2) ∧ CN (h 572 0) (nr h 572 2) ∧ RLd h (h 572 0) (nr h 572 2)) ∧ ((0 ≤ a ∧ a < (h 572 0)) ∧ (0 ≤ b ∧ b < (h 572 0)))) ∧ (K (some (mB (amd (h 572 0) (nr h 572 2) a b))) h)))))
theorem W232 {d : Nat} (H : ∀ (a : Int) (b : Int) (h : am_H) (K : Option am_V → am_H → Prop), ((NT (h 572 0) (nr h 572 2) ∧ CN (h 572 0) (nr h 572 2) ∧ RLd h (h 572 0) (nr h 572 2)) ∧ ((0 ≤ a ∧ a < (h 572 0)) ∧ (0 ≤ b ∧ b < (h 572 0)))) ∧ (K (some (mB (amd (h 572 0) (nr h 572 2) a b))) h) → am_AT d 232 0 [some (mR 1 12 0 571), some (mB a), some (mB b), none, none] h K) : am_CS d 232 C232 := by
  refine am_CS_of (T := tb232) (mL := 5) (rk := 1) rfl (fun as h K hC => ?_)
  obtain ⟨v0, v1, v2, rfl, hC0⟩ := am_a3_e hC
  obtain ⟨e0, hC1⟩ := am_oc_e hC0
  subst e0
  obtain ⟨a, rfl, hC2⟩ := am_n_e hC1
  obtain ⟨b, rfl, hC3⟩ := am_n_e hC2
  refine ⟨Nat.le_of_ble_eq_true rfl, ?_⟩
  exact H a b h K hC3
theorem T232_0 {R : Option am_V → am_H → Prop} {h : am_H} {a : Int} {b : Int} (t : am_AT 2 232 5 [some (mR 1 12 0 571), some (mB a), some (mB b), some (mI 0), some (mI 0)] h R) : am_AT 2 232 0 [some (mR 1 12 0 571), some (mB a), some (mB b), none, none] h R :=
  am_T (d := 1) (m := 232) (T := tb232) (mL := 5) (rk := 1) (cuts := [(5, [1, 1, 1, 2, 2])]) (l := [(212, C212)]) rfl ⟨am_CS_d (by decide) C212_ok, trivial⟩ 8 (t)
theorem T232_5 {R : Option am_V → am_H → Prop} {h : am_H} {a : Int} {b : Int} {x3 : Int} {x4 : Int} (t : (R32 x4) ∧ (((h 572 0 ≤ x4) → ((R32 x3) ∧ (R (some (mB x3)) h))) ∧ ((x4 < h 572 0) → ((R32 x4) ∧ (((0 ≤ a ∧ a < 20) ∧ (0 ≤ x4 ∧ x4 < 20)) ∧ ((R32 x4) ∧ (((0 ≤ x4 ∧ x4 < 20) ∧ (0 ≤ b ∧ b < 20)) ∧ (((0 ≤ a ∧ a < 20) ∧ (0 ≤ b ∧ b < 20)) ∧ ((R32 ((h 580 (20 * a + x4)) + (h 580 (20 * x4 + b)))) ∧ (((¬ (h 580 (20 * a + x4)) + (h 580 (20 * x4 + b)) = h 580 (20 * a + b)) → (am_AT 2 232 5 [some (mR 1 12 0 571), some (mB a), some (mB b), some (mI (iOr x3 0)), some (mI (x4 + 1))] h R)) ∧ (((h 580 (20 * a + x4)) + (h 580 (20 * x4 + b)) = h 580 (20 * a + b)) → (am_AT 2 232 5 [some (mR 1 12 0 571), some (mB a), some (mB b), some (mI (iOr x3 (iShl 1 x4))), some (mI (x4 + 1))] h R)))))))))))) : am_AT 2 232 5 [some (mR 1 12 0 571), some (mB a), some (mB b), some (mI x3), some (mI x4)] h R :=
  am_T (d := 1) (m := 232) (T := tb232) (mL := 5) (rk := 1) (cuts := [(5, [1, 1, 1, 2, 2])]) (l := [(212, C212)]) rfl ⟨am_CS_d (by decide) C212_ok, trivial⟩ 33 (And.intro (⟨by decide, by decide⟩) (And.intro (t).1 (And.intro (fun c25 => And.intro (((t).2).1 c25).1 ((((t).2).1 c25).2)) (fun c25 => And.intro (((t).2).2 c25).1 (And.intro (rfl) (And.intro ((((t).2).2 c25).2).1 (And.intro (((((t).2).2 c25).2).2).1 (And.intro (rfl) (And.intro ((((((t).2).2 c25).2).2).2).1 (And.intro (rfl) (And.intro (((((((t).2).2 c25).2).2).2).2).1 (And.intro ((((((((t).2).2 c25).2).2).2).2).2).1 (And.intro (fun c26 => (((((((((t).2).2 c25).2).2).2).2).2).2).1 c26) (fun c26 => (((((((((t).2).2 c25).2).2).2).2).2).2).2 c26))))))))))))))
theorem L232 {K : Option am_V → am_H → Prop} {h : am_H} {a b n : Int} {r : Int → Int} (hn : h 572 0 = n) (hN : NT n r) (hC : CN n r) (hF : RF h n r) (ha : 0 ≤ a ∧ a < n) (hb : 0 ≤ b ∧ b < n) (hK : K (some (mB (amd n r a b))) h) : ∀ i z, 0 ≤ i → i ≤ n → S20 z → (∀ p, bit z p ↔ (0 ≤ p ∧ p < i) ∧ ds (ad r) a p + ds (ad r) p b = ds (ad r) a b) → am_AT 2 232 5 [some (mR 1 12 0 571), some (mB a), some (mB b), some (mI z), some (mI i)] h K := by
  have hn1 := hN.1
  have hn2 := hN.2.1
  refine lp n (fun i ih z i0 i1 hz hbz => ?_)
  have hz1 := hz.1
  have hz2 := hz.2
  have d3 : h 580 (20 * a + b) = ds (ad r) a b := hF _ _ (by omega) (by omega) (by omega) (by omega)
  have d12 : i < n → (h 580 (20 * a + i) = ds (ad r) a i ∧ h 580 (20 * i + b) = ds (ad r) i b) ∧ (0 ≤ ds (ad r) a i ∧ ds (ad r) a i < n) ∧ (0 ≤ ds (ad r) i b ∧ ds (ad r) i b < n) := fun hi => ⟨⟨hF _ _ (by omega) (by omega) (by omega) (by omega), hF _ _ (by omega) (by omega) (by omega) (by omega)⟩, ds_r hN hC ha ⟨i0, hi⟩, ds_r hN hC ⟨i0, hi⟩ hb⟩
  refine T232_5 ⟨by omega, ⟨fun c1 => ⟨by omega, ?_⟩, fun c1 => ⟨by omega, ⟨by omega, ⟨by omega, ⟨by omega, ⟨by omega, ⟨by have d := d12 (by omega); omega, ⟨fun c2 => ?_, fun c2 => ?_⟩⟩⟩⟩⟩⟩⟩⟩⟩
  · refine am_rB hK (mkb_eq (by omega) (fun j => ?_)).symm
    rw [hbz]
    exact ⟨fun q => ⟨by omega, by omega, q.2⟩, fun q => ⟨by omega, q.2.2⟩⟩
  · have d := d12 (by omega)
    rw [bt_or0 hz]
    refine ih (by omega) z (by omega) (by omega) hz (fun p => ?_)
    rw [hbz]
    refine ⟨fun q => ⟨by omega, q.2⟩, fun q => ⟨?_, q.2⟩⟩
    have : p ≠ i := fun e => by
      rw [e] at q
      have := q.2
      omega
    omega
  · have d := d12 (by omega)
    refine ih (by omega) _ (by omega) (by omega) (S20_or hz (S20_1 i0 (by omega))) (fun p => ?_)
    rw [bt_or, bt_1 i0 (by omega), hbz]
    constructor
    · rintro (q | q)
      · exact ⟨by omega, q.2⟩
      · rw [q]
        exact ⟨by omega, by omega⟩
    · rintro ⟨q1, q2⟩
      by_cases e : p = i
      · exact Or.inr e
      · exact Or.inl ⟨by omega, q2⟩
theorem C232_ok : am_CS 2 232 C232 := W232 (fun a b h K hb => T232_0 (by
  obtain ⟨⟨⟨hN, hC, hL⟩, ha, hb⟩, hK⟩ := hb
  exact L232 rfl hN hC hL.1 ha hb hK 0 0 (by omega) hN.1 S20_0 (fun p => ⟨fun q => absurd q bt_zero, fun q => by omega⟩)))
/-! 233 FactorNetsModel.amid -/
def C233 : am_K := fun as h K => am_a3 as (fun v0 v1 v2 => am_oc 12 571 v0 (am_n v1 (fun p => am_n v2 (fun q => (RIv h) ∧ (∀ (h' : am_H), RQ h h' → K (some (mB (ifc ((0 ≤ p ∧ p < (h 572 0)) ∧ (0 ≤ q ∧ q < (h 572 0))) (amd (h 572 0) (nr h 572 2) p q) (-2)))) (h'))))))
theorem W233 {d : Nat} (H : ∀ (p : Int) (q : Int) (h : am_H) (K : Option am_V → am_H → Prop), (RIv h) ∧ (∀ (h' : am_H), RQ h h' → K (some (mB (ifc ((0 ≤ p ∧ p < (h 572 0)) ∧ (0 ≤ q ∧ q < (h 572 0))) (amd (h 572 0) (nr h 572 2) p q) (-2)))) (h')) → am_AT d 233 0 [some (mR 1 12 0 571), some (mB p), some (mB q)] h K) : am_CS d 233 C233 := by
  refine am_CS_of (T := tb233) (mL := 3) (rk := 1) rfl (fun as h K hC => ?_)
  obtain ⟨v0, v1, v2, rfl, hC0⟩ := am_a3_e hC
  obtain ⟨e0, hC1⟩ := am_oc_e hC0
  subst e0
  obtain ⟨p, rfl, hC2⟩ := am_n_e hC1
  obtain ⟨q, rfl, hC3⟩ := am_n_e hC2
  refine ⟨Nat.le_of_ble_eq_true rfl, ?_⟩
  exact H p q h K hC3
theorem T233_0 {R : Option am_V → am_H → Prop} {h : am_H} {p : Int} {q : Int} (t : (RIv h) ∧ (∀ (h' : am_H), (LD h h') → (((¬ ((0 ≤ p ∧ p < (h 572 0)) ∧ (0 ≤ q ∧ q < (h 572 0)))) → (R (some (mB (-2))) h')) ∧ (((0 ≤ p ∧ p < (h 572 0)) ∧ (0 ≤ q ∧ q < (h 572 0))) → (((NT (h' 572 0) (nr h' 572 2) ∧ CN (h' 572 0) (nr h' 572 2) ∧ RLd h' (h' 572 0) (nr h' 572 2)) ∧ ((0 ≤ p ∧ p < (h' 572 0)) ∧ (0 ≤ q ∧ q < (h' 572 0)))) ∧ (R (some (mB (amd (h' 572 0) (nr h' 572 2) p q))) h')))))) : am_AT 6 233 0 [some (mR 1 12 0 571), some (mB p), some (mB q)] h R :=
  am_T (d := 5) (m := 233) (T := tb233) (mL := 3) (rk := 1) (cuts := []) (l := [(224, C224), (232, C232)]) rfl ⟨am_CS_d (by decide) C224_ok, am_CS_d (by decide) C232_ok, trivial⟩ 15 (And.intro (rfl) (And.intro (t).1 (fun z15_0 z15_1 => And.intro (fun c27 => (((t).2) z15_0 z15_1).1 c27) (fun c27 => And.intro (rfl) (And.intro ((((t).2) z15_0 z15_1).2 c27).1 (((((t).2) z15_0 z15_1).2 c27).2))))))
theorem C233_ok : am_CS 6 233 C233 := W233 (fun p q h K hb => by
  refine T233_0 ⟨hb.1, fun h' q1 => ⟨fun c2 => ?_, fun c2 => ⟨by have e := q1.2.2.1; exact ⟨⟨q1.2.2.2.2.1.1, q1.2.2.2.2.1.2.1, q1.2.2.2.2.2⟩, by omega, by omega⟩, ?_⟩⟩⟩
  · have e := hb.2 h' (LD_q q1)
    rw [ifc_f c2] at e
    exact e
  · have e := hb.2 h' (LD_q q1)
    rw [ifc_t c2, ← q1.2.1, ← q1.2.2.1] at e
    exact e)
/-! 234 FactorNetsModel.theta -/
def C234 : am_K := fun as h K => am_a3 as (fun v0 v1 v2 => am_oc 12 571 v0 (am_n v1 (fun k => am_n v2 (fun l => (RIv h) ∧ (∀ (h' : am_H), RQ h h' → K (some (mB (ifc ((0 ≤ k ∧ k < nl (nr h 572 2)) ∧ (0 ≤ l ∧ l < nl (nr h 572 2))) (ifc (thet (nr h 572 2) k l) 1 0) (-2)))) (h'))))))
theorem W234 {d : Nat} (H : ∀ (k : Int) (l : Int) (h : am_H) (K : Option am_V → am_H → Prop), (RIv h) ∧ (∀ (h' : am_H), RQ h h' → K (some (mB (ifc ((0 ≤ k ∧ k < nl (nr h 572 2)) ∧ (0 ≤ l ∧ l < nl (nr h 572 2))) (ifc (thet (nr h 572 2) k l) 1 0) (-2)))) (h')) → am_AT d 234 0 [some (mR 1 12 0 571), some (mB k), some (mB l)] h K) : am_CS d 234 C234 := by
  refine am_CS_of (T := tb234) (mL := 3) (rk := 1) rfl (fun as h K hC => ?_)
  obtain ⟨v0, v1, v2, rfl, hC0⟩ := am_a3_e hC
  obtain ⟨e0, hC1⟩ := am_oc_e hC0
  subst e0
  obtain ⟨k, rfl, hC2⟩ := am_n_e hC1
  obtain ⟨l, rfl, hC3⟩ := am_n_e hC2
  refine ⟨Nat.le_of_ble_eq_true rfl, ?_⟩
  exact H k l h K hC3
theorem T234_0 {R : Option am_V → am_H → Prop} {h : am_H} {k : Int} {l : Int} (t : (RIv h) ∧ (∀ (h' : am_H), (LD h h') → (((¬ (0 ≤ k ∧ k < nl (nr h 572 2))) → (R (some (mB (-2))) h')) ∧ ((0 ≤ k ∧ k < nl (nr h 572 2)) → ((RIv h') ∧ (∀ (h'_1 : am_H), (LD h' h'_1) → (((0 ≤ l ∧ l < nl (nr h' 572 2)) → (((NT (h'_1 572 0) (nr h'_1 572 2) ∧ CN (h'_1 572 0) (nr h'_1 572 2) ∧ RF h'_1 (h'_1 572 0) (nr h'_1 572 2) ∧ RLn h'_1 (nr h'_1 572 2)) ∧ (0 ≤ k ∧ k < nl (nr h'_1 572 2)) ∧ (0 ≤ l ∧ l < nl (nr h'_1 572 2))) ∧ (((¬ (thet (nr h'_1 572 2) k l)) → (R (some (mB 0)) h'_1)) ∧ ((thet (nr h'_1 572 2) k l) → (R (some (mB 1)) h'_1))))) ∧ ((¬ (0 ≤ l ∧ l < nl (nr h' 572 2))) → (R (some (mB (-2))) h'_1))))))))) : am_AT 6 234 0 [some (mR 1 12 0 571), some (mB k), some (mB l)] h R :=
  am_T (d := 5) (m := 234) (T := tb234) (mL := 3) (rk := 1) (cuts := []) (l := [(214, C214), (221, C221)]) rfl ⟨am_CS_d (by decide) C214_ok, am_CS_d (by decide) C221_ok, trivial⟩ 20 (And.intro (rfl) (And.intro (t).1 (fun z16_0 z16_1 => And.intro (fun c28 => (((t).2) z16_0 z16_1).1 c28) (fun c28 => And.intro (rfl) (And.intro ((((t).2) z16_0 z16_1).2 c28).1 (fun z17_0 z17_1 => And.intro (fun c29 => And.intro (rfl) (And.intro (((((((t).2) z16_0 z16_1).2 c28).2) z17_0 z17_1).1 c29).1 (And.intro (fun c30 => ((((((((t).2) z16_0 z16_1).2 c28).2) z17_0 z17_1).1 c29).2).1 c30) (fun c30 => ((((((((t).2) z16_0 z16_1).2 c28).2) z17_0 z17_1).1 c29).2).2 c30)))) (fun c29 => ((((((t).2) z16_0 z16_1).2 c28).2) z17_0 z17_1).2 c29)))))))
theorem C234_ok : am_CS 6 234 C234 := W234 (fun k l h K hb => by
  refine T234_0 ⟨hb.1, fun h' q1 => ⟨fun c2 => ?_, fun c2 => ⟨q1.2.2.2.2.1, fun h'_1 q3 => ⟨fun c4 => ⟨by
    rw [q1.2.1] at c4
    rw [(LD_tr q1 q3).2.1, (LD_tr q1 q3).2.2.1]
    have hv := (LD_tr q1 q3).2.2.2.2
    rw [(LD_tr q1 q3).2.1, (LD_tr q1 q3).2.2.1] at hv
    exact ⟨⟨hb.1.1, hb.1.2.1, hv.2.1, hv.2.2.1⟩, c2, c4⟩, ⟨fun c5 => ?_, fun c5 => ?_⟩⟩, fun c4 => ?_⟩⟩⟩⟩
  · have e := hb.2 h' (LD_q q1)
    rw [ifc_f (fun z => c2 z.1)] at e
    exact e
  · have e := hb.2 h'_1 (LD_q (LD_tr q1 q3))
    rw [q1.2.1] at c4
    rw [ifc_t ⟨c2, c4⟩, ← (LD_tr q1 q3).2.1, ifc_f c5] at e
    exact e
  · have e := hb.2 h'_1 (LD_q (LD_tr q1 q3))
    rw [q1.2.1] at c4
    rw [ifc_t ⟨c2, c4⟩, ← (LD_tr q1 q3).2.1, ifc_t c5] at e
    exact e
  · have e := hb.2 h'_1 (LD_q (LD_tr q1 q3))
    rw [q1.2.1] at c4
    rw [ifc_f (fun z => c4 z.2)] at e
    exact e)
/-! 235 FactorNetsModel.tau -/
def C235 : am_K := fun as h K => am_a3 as (fun v0 v1 v2 => am_oc 12 571 v0 (am_n v1 (fun k => am_n v2 (fun l => (RIv h) ∧ (∀ (h' : am_H), RQ h h' → K (some (mB (ifc ((0 ≤ k ∧ k < nl (nr h 572 2)) ∧ (0 ≤ l ∧ l < nl (nr h 572 2))) (ifc (tau (nr h 572 2) k l) 1 0) (-2)))) (h'))))))
theorem W235 {d : Nat} (H : ∀ (k : Int) (l : Int) (h : am_H) (K : Option am_V → am_H → Prop), (RIv h) ∧ (∀ (h' : am_H), RQ h h' → K (some (mB (ifc ((0 ≤ k ∧ k < nl (nr h 572 2)) ∧ (0 ≤ l ∧ l < nl (nr h 572 2))) (ifc (tau (nr h 572 2) k l) 1 0) (-2)))) (h')) → am_AT d 235 0 [some (mR 1 12 0 571), some (mB k), some (mB l)] h K) : am_CS d 235 C235 := by
  refine am_CS_of (T := tb235) (mL := 3) (rk := 1) rfl (fun as h K hC => ?_)
  obtain ⟨v0, v1, v2, rfl, hC0⟩ := am_a3_e hC
  obtain ⟨e0, hC1⟩ := am_oc_e hC0
  subst e0
  obtain ⟨k, rfl, hC2⟩ := am_n_e hC1
  obtain ⟨l, rfl, hC3⟩ := am_n_e hC2
  refine ⟨Nat.le_of_ble_eq_true rfl, ?_⟩
  exact H k l h K hC3
theorem T235_0 {R : Option am_V → am_H → Prop} {h : am_H} {k : Int} {l : Int} (t : (RIv h) ∧ (∀ (h' : am_H), (LD h h') → (((¬ (0 ≤ k ∧ k < nl (nr h 572 2))) → (R (some (mB (-2))) h')) ∧ ((0 ≤ k ∧ k < nl (nr h 572 2)) → ((RIv h') ∧ (∀ (h'_1 : am_H), (LD h' h'_1) → (((0 ≤ l ∧ l < nl (nr h' 572 2)) → (((NT (h'_1 572 0) (nr h'_1 572 2) ∧ CN (h'_1 572 0) (nr h'_1 572 2) ∧ RF h'_1 (h'_1 572 0) (nr h'_1 572 2) ∧ RLn h'_1 (nr h'_1 572 2)) ∧ (0 ≤ k ∧ k < nl (nr h'_1 572 2)) ∧ (0 ≤ l ∧ l < nl (nr h'_1 572 2))) ∧ (((¬ (tau (nr h'_1 572 2) k l)) → (R (some (mB 0)) h'_1)) ∧ ((tau (nr h'_1 572 2) k l) → (R (some (mB 1)) h'_1))))) ∧ ((¬ (0 ≤ l ∧ l < nl (nr h' 572 2))) → (R (some (mB (-2))) h'_1))))))))) : am_AT 6 235 0 [some (mR 1 12 0 571), some (mB k), some (mB l)] h R :=
  am_T (d := 5) (m := 235) (T := tb235) (mL := 3) (rk := 1) (cuts := []) (l := [(216, C216), (221, C221)]) rfl ⟨am_CS_d (by decide) C216_ok, am_CS_d (by decide) C221_ok, trivial⟩ 20 (And.intro (rfl) (And.intro (t).1 (fun z18_0 z18_1 => And.intro (fun c31 => (((t).2) z18_0 z18_1).1 c31) (fun c31 => And.intro (rfl) (And.intro ((((t).2) z18_0 z18_1).2 c31).1 (fun z19_0 z19_1 => And.intro (fun c32 => And.intro (rfl) (And.intro (((((((t).2) z18_0 z18_1).2 c31).2) z19_0 z19_1).1 c32).1 (And.intro (fun c33 => ((((((((t).2) z18_0 z18_1).2 c31).2) z19_0 z19_1).1 c32).2).1 c33) (fun c33 => ((((((((t).2) z18_0 z18_1).2 c31).2) z19_0 z19_1).1 c32).2).2 c33)))) (fun c32 => ((((((t).2) z18_0 z18_1).2 c31).2) z19_0 z19_1).2 c32)))))))
theorem C235_ok : am_CS 6 235 C235 := W235 (fun k l h K hb => by
  refine T235_0 ⟨hb.1, fun h' q1 => ⟨fun c2 => ?_, fun c2 => ⟨q1.2.2.2.2.1, fun h'_1 q3 => ⟨fun c4 => ⟨by
    rw [q1.2.1] at c4
    rw [(LD_tr q1 q3).2.1, (LD_tr q1 q3).2.2.1]
    have hv := (LD_tr q1 q3).2.2.2.2
    rw [(LD_tr q1 q3).2.1, (LD_tr q1 q3).2.2.1] at hv
    exact ⟨⟨hb.1.1, hb.1.2.1, hv.2.1, hv.2.2.1⟩, c2, c4⟩, ⟨fun c5 => ?_, fun c5 => ?_⟩⟩, fun c4 => ?_⟩⟩⟩⟩
  · have e := hb.2 h' (LD_q q1)
    rw [ifc_f (fun z => c2 z.1)] at e
    exact e
  · have e := hb.2 h'_1 (LD_q (LD_tr q1 q3))
    rw [q1.2.1] at c4
    rw [ifc_t ⟨c2, c4⟩, ← (LD_tr q1 q3).2.1, ifc_f c5] at e
    exact e
  · have e := hb.2 h'_1 (LD_q (LD_tr q1 q3))
    rw [q1.2.1] at c4
    rw [ifc_t ⟨c2, c4⟩, ← (LD_tr q1 q3).2.1, ifc_t c5] at e
    exact e
  · have e := hb.2 h'_1 (LD_q (LD_tr q1 q3))
    rw [q1.2.1] at c4
    rw [ifc_f (fun z => c4 z.2)] at e
    exact e)
