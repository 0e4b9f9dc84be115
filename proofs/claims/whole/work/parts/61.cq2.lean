/-! ===== what queries answer ===== -/
noncomputable def fnd (P : Int → Prop) : Nat → Int
  | 0 => -1
  | m + 1 => if fnd P m ≠ -1 then fnd P m else ifc (P (m : Int)) (m : Int) (-1)
theorem fnd_no {P : Int → Prop} : ∀ m : Nat, (∀ k : Int, 0 ≤ k → k < m → ¬ P k) → fnd P m = -1
  | 0, _ => rfl
  | m + 1, h => by
    have e := fnd_no m (fun k a b => h k a (by omega))
    show (if fnd P m ≠ -1 then fnd P m else ifc (P (m : Int)) (m : Int) (-1)) = -1
    rw [if_neg (fun q => q e), ifc_f (h m (by omega) (by omega))]
theorem fnd_is {P : Int → Prop} {k : Int} (h0 : 0 ≤ k) (hp : P k) (hn : ∀ j, 0 ≤ j → j < k → ¬ P j) : ∀ m : Nat, k < m → fnd P m = k
  | 0, h => by omega
  | m + 1, h => by
    show (if fnd P m ≠ -1 then fnd P m else ifc (P (m : Int)) (m : Int) (-1)) = k
    by_cases c : k < (m : Int)
    · rw [fnd_is h0 hp hn m c, if_pos (by omega)]
    · have e : k = (m : Int) := by omega
      rw [if_neg (fun q => q (fnd_no m (fun j a b => hn j a (by omega)))), ← e, ifc_t hp]
noncomputable def ecc (n : Int) (r : Int → Int) (p : Int) : Int := mxn (fun q => ds (ad r) p q) n.toNat
noncomputable def wnr (n : Int) (r : Int → Int) : Int := sm (fun a => sm (fun b => ds (ad r) a b) a.toNat) n.toNat
noncomputable def prs (n : Int) (r : Int → Int) (d : Int) : Int := sm (fun a => ct (fun b => ds (ad r) a b = d) a.toNat) n.toNat
noncomputable def cen (n : Int) (r : Int → Int) : Int := mkb (fun p => p < n ∧ ∀ q, 0 ≤ q → q < n → ecc n r p ≤ ecc n r q)
noncomputable def nea (n : Int) (r : Int → Int) (k w : Int) : Int := if w = 0 then clo n r (lo r k) (hi r k) else if w = 1 then clo n r (hi r k) (lo r k) else mkb (fun p => p < n ∧ ds (ad r) (lo r k) p = ds (ad r) (hi r k) p)
def cvx (n : Int) (r : Int → Int) (S : Int → Prop) : Prop := ∀ a b, S a → S b → ∀ p, bit (amd n r a b) p → S p
noncomputable def hul (n : Int) (r : Int → Int) (x : Int) : Int := mkb (fun p => ∀ S : Int → Prop, (∀ k, bit x k → S k) → cvx n r S → S p)
noncomputable def med (n : Int) (r : Int → Int) (a b e : Int) : Int := iAnd (iAnd (amd n r a b) (amd n r b e)) (amd n r a e)
section QS
variable {n : Int} {r : Int → Int}
theorem amd_sym (hN : NT n r) (a b : Int) : amd n r a b = amd n r b a := mkb_congr (fun p _ _ => by
  rw [ds_comm (NT_sym hN) (a := a) (b := p), ds_comm (NT_sym hN) (a := p) (b := b), ds_comm (NT_sym hN) (a := a) (b := b)]
  exact ⟨fun q => ⟨q.1, by omega⟩, fun q => ⟨q.1, by omega⟩⟩)
theorem amd_n {a b p : Int} (h : bit (amd n r a b) p) : 0 ≤ p ∧ p < n := ⟨(bt_mk.mp h).1.1, (bt_mk.mp h).2.1⟩
theorem amd_self (hN : NT n r) (hC : CN n r) {a p : Int} (ha : 0 ≤ a ∧ a < n) (h : bit (amd n r a a) p) : p = a := by
  have h1 := amd_n h
  have h2 := (bt_mk.mp h).2.2
  have h3 := CN_rc hN hC ha h1
  have h4 := ds_nn h3
  rw [ds_0, ds_comm (NT_sym hN) (a := p) (b := a)] at h2
  exact (ds_z h3 (by omega)).symm
theorem S20_amd (a b : Int) : S20 (amd n r a b) := S20_mk _
theorem S20_med (a b e : Int) : S20 (med n r a b e) := S20_and (S20_and (S20_amd a b))
theorem ecc_r (hN : NT n r) (hC : CN n r) {p : Int} (hp : 0 ≤ p ∧ p < n) : 0 ≤ ecc n r p ∧ ecc n r p < 20 := by
  have h1 := hN.2.1
  have h2 := mxn_le (f := fun q => ds (ad r) p q) (m := 19) (by omega) n.toNat (fun k a b => by have := ds_r hN hC hp (b := k) (by omega); omega)
  have h3 := (mxn_ge (f := fun q => ds (ad r) p q) n.toNat).1
  unfold ecc
  omega
theorem ct_ltP {P : Int → Prop} {p : Nat} (m : Nat) (h : p ≤ m) : ct (fun q => q < (p : Int) ∧ P q) m = ct P p := by
  obtain ⟨j, rfl⟩ : ∃ j, m = p + j := ⟨m - p, by omega⟩
  rw [ct_ext p j (fun k hk q => by have := q.1; omega)]
  exact ct_congr p (fun k hk => ⟨fun q => q.2, fun q => ⟨by omega, q⟩⟩)
theorem prs2 (hN : NT n r) (hC : CN n r) {d : Int} (hd : 0 < d) : sm (fun p => ct (fun q => (0 ≤ q ∧ q < n) ∧ ds (ad r) p q = d) 20) n.toNat = 2 * prs n r d := by
  have h1 := hN.1
  have h2 := hN.2.1
  have a1 : ∀ p : Int, 0 ≤ p → p < n → ct (fun q => (0 ≤ q ∧ q < n) ∧ ds (ad r) p q = d) 20 = ct (fun q => q < p ∧ ds (ad r) p q = d) n.toNat + ct (fun q => p < q ∧ ds (ad r) p q = d) n.toNat := fun p p0 p1 => by
    have e0 : ct (fun q => (0 ≤ q ∧ q < n) ∧ ds (ad r) p q = d) 20 = ct (fun q => ds (ad r) p q = d) n.toNat := by
      have := ct_ltP (P := fun q => ds (ad r) p q = d) (p := n.toNat) 20 (by omega)
      rw [← this]
      exact ct_congr 20 (fun k hk => ⟨fun q => ⟨by omega, q.2⟩, fun q => ⟨by omega, q.2⟩⟩)
    rw [e0, ct_sm, ct_sm, ct_sm, ← sm_add]
    refine sm_congr _ (fun q q0 q1 => ?_)
    by_cases h : ds (ad r) p q = d
    · have hne : p ≠ q := fun e => by
        rw [e, ds_0] at h
        omega
      by_cases c : q < p
      · rw [am_b_t h, am_b_t ⟨c, h⟩, am_b_f (fun z => by omega)]; rfl
      · rw [am_b_t h, am_b_f (fun z => by omega), am_b_t ⟨by omega, h⟩]; rfl
    · rw [am_b_f h, am_b_f (fun z => h z.2), am_b_f (fun z => h z.2)]; rfl
  have a2 : sm (fun p => ct (fun q => q < p ∧ ds (ad r) p q = d) n.toNat) n.toNat = prs n r d := sm_congr _ (fun p p0 p1 => by
    have := ct_ltP (P := fun q => ds (ad r) p q = d) (p := p.toNat) n.toNat (by omega)
    rw [Int.toNat_of_nonneg p0] at this
    exact this)
  have a3 : sm (fun p => ct (fun q => p < q ∧ ds (ad r) p q = d) n.toNat) n.toNat = prs n r d := by
    rw [← a2, sm_congr (f := fun p => ct (fun q => p < q ∧ ds (ad r) p q = d) n.toNat) (g := fun p => sm (fun q => am_b (p < q ∧ ds (ad r) p q = d)) n.toNat) _ (fun p _ _ => ct_sm _ _), sm_swap]
    refine sm_congr _ (fun q _ _ => ?_)
    rw [ct_sm]
    refine sm_congr _ (fun p _ _ => ?_)
    rw [ds_comm (NT_sym hN) (a := p) (b := q)]
  rw [sm_congr n.toNat (fun p p0 p1 => a1 p p0 (by omega)), sm_add, a2, a3]
  omega
theorem prs_0 (hN : NT n r) (hC : CN n r) {d : Int} (hd : d = 0 ∨ 20 ≤ d) : prs n r d = 0 := by
  have h1 := hN.1
  have h2 := hN.2.1
  unfold prs
  rw [sm_congr (g := fun _ => 0) _ (fun a a0 a1 => ct_none _ (fun b hb q => ?_)), sm_0]
  have hb2 : 0 ≤ (b : Int) ∧ (b : Int) < n := by omega
  have hr := ds_r hN hC (a := a) (b := b) (by omega) hb2
  rcases hd with e | e
  · rw [e] at q
    have := ds_z (CN_rc hN hC (a := a) (b := b) (by omega) hb2) q
    omega
  · omega
end QS
theorem SV5_MC {h : am_H} (H : SV h 5) (e : h 5 4 = 1) : NT (h 6 0) (nr h 7 0) ∧ CN (h 6 0) (nr h 7 0) ∧ MT h 8 (h 6 0) (nr h 7 0) := ⟨(SV5_N H).1, (SV5_N H).2, SV5_M H e⟩
/-! 106 FactorNets.first -/
def C106 : am_K := fun as h K => am_a2 as (fun v0 v1 => am_oc 11 0 v0 (am_n v1 (fun part => (SV h 5) ∧ (∀ (h' : am_H), SQ h h' 5 → K (some (mB (ifc (0 < (h 6 0) ∧ 0 ≤ part) (fnd (fun k => lab (ptE (nr h 7 0)) k = part) (nl (nr h 7 0)).toNat) (-2)))) (h')))))
theorem W106 {d : Nat} (H : ∀ (part : Int) (h : am_H) (K : Option am_V → am_H → Prop), (SV h 5) ∧ (∀ (h' : am_H), SQ h h' 5 → K (some (mB (ifc (0 < (h 6 0) ∧ 0 ≤ part) (fnd (fun k => lab (ptE (nr h 7 0)) k = part) (nl (nr h 7 0)).toNat) (-2)))) (h')) → am_AT d 106 0 [some (mR 1 11 0 0), some (mB part), none, none] h K) : am_CS d 106 C106 := by
  refine am_CS_of (T := tb106) (mL := 4) (rk := 1) rfl (fun as h K hC => ?_)
  obtain ⟨v0, v1, rfl, hC0⟩ := am_a2_e hC
  obtain ⟨e0, hC1⟩ := am_oc_e hC0
  subst e0
  obtain ⟨part, rfl, hC2⟩ := am_n_e hC1
  refine ⟨Nat.le_of_ble_eq_true rfl, ?_⟩
  exact H part h K hC2
theorem T106_0 {R : Option am_V → am_H → Prop} {h : am_H} {part : Int} (t : ((h 6 0 = 0) → (R (some (mB (-2))) h)) ∧ ((¬ h 6 0 = 0) → (((0 ≤ part) → ((SV h (5 : Int)) ∧ (∀ (h' : am_H), (SQ h h' (5 : Int) ∧ h' (5 : Int) 6 = 1) → (am_AT 6 106 30 [some (mR 1 11 0 0), some (mB part), some (mR 1 9 0 75), some (mI 0)] h' R)))) ∧ ((part < 0) → (R (some (mB (-2))) h))))) : am_AT 6 106 0 [some (mR 1 11 0 0), some (mB part), none, none] h R :=
  am_T (d := 5) (m := 106) (T := tb106) (mL := 4) (rk := 1) (cuts := [(30, [1, 1, 1, 2])]) (l := [(90, C90b)]) rfl ⟨am_CS_d (by decide) C90b_ok, trivial⟩ 17 (And.intro (fun c1 => (t).1 c1) (fun c1 => And.intro (fun c2 => And.intro (((t).2 c1).1 c2).1 (fun z1_0 z1_1 => ((((t).2 c1).1 c2).2) z1_0 z1_1)) (fun c2 => ((t).2 c1).2 c2)))
theorem T106_30 {R : Option am_V → am_H → Prop} {h : am_H} {part : Int} {x3 : Int} (t : (R32 x3) ∧ (((h 51 0 ≤ x3) → (R (some (mB (-1))) h)) ∧ ((x3 < h 51 0) → ((0 ≤ x3 ∧ x3 < 190) ∧ (((¬ h 77 x3 = part) → (am_AT 6 106 30 [some (mR 1 11 0 0), some (mB part), some (mR 1 9 0 75), some (mI (x3 + 1))] h R)) ∧ ((h 77 x3 = part) → ((R32 x3) ∧ (R (some (mB x3)) h)))))))) : am_AT 6 106 30 [some (mR 1 11 0 0), some (mB part), some (mR 1 9 0 75), some (mI x3)] h R :=
  am_T (d := 5) (m := 106) (T := tb106) (mL := 4) (rk := 1) (cuts := [(30, [1, 1, 1, 2])]) (l := [(90, C90b)]) rfl ⟨am_CS_d (by decide) C90b_ok, trivial⟩ 18 (And.intro (t).1 (And.intro (fun c3 => ((t).2).1 c3) (fun c3 => And.intro (((t).2).2 c3).1 (And.intro (fun c4 => ((((t).2).2 c3).2).1 c4) (fun c4 => And.intro (((((t).2).2 c3).2).2 c4).1 ((((((t).2).2 c3).2).2 c4).2))))))
theorem L106 {K : Option am_V → am_H → Prop} {h : am_H} (H : SV h 5) {part : Int} (hK : ∀ h', SQ h h' 5 → K (some (mB (fnd (fun k => lab (ptE (nr h 7 0)) k = part) (nl (nr h 7 0)).toNat))) h') {hh : am_H} (Q : SQ h hh 5) (z : hh 5 6 = 1) : ∀ i, 0 ≤ i → i ≤ nl (nr h 7 0) → (∀ j, 0 ≤ j → j < i → lab (ptE (nr h 7 0)) j ≠ part) → am_AT 6 106 30 [some (mR 1 11 0 0), some (mB part), some (mR 1 9 0 75), some (mI i)] hh K := by
  have hN := (SV5_N H).1
  have hC := (SV5_N H).2
  have hn1 := hN.1
  have hn2 := hN.2.1
  have en := (SQ5_n Q).2
  have er := (SQ5_n Q).1
  have hnl := nl_r (nr h 7 0)
  have hL := (SV5_L Q.1 (SV5_45 Q.1 z).2).1
  have hS := (SV5_S Q.1 z).2.2
  rw [er] at hL hS
  refine lp (nl (nr h 7 0)) (fun i ih i0 i1 hno => ?_)
  refine T106_30 ⟨by omega, ⟨fun c1 => ?_, fun c1 => ⟨by omega, ⟨fun c2 => ?_, fun c2 => ⟨by omega, ?_⟩⟩⟩⟩⟩
  · exact am_rB (hK hh Q) (fnd_no _ (fun j a b => hno j a (by omega)))
  · refine ih (by omega) (by omega) (by omega) (fun j a b => ?_)
    by_cases e : j = i
    · rw [e, ← (hS i i0 (by omega)).2]
      exact c2
    · exact hno j a (by omega)
  · refine am_rB (hK hh Q) (fnd_is i0 ?_ hno _ (by omega))
    rw [← (hS i i0 (by omega)).2]
    exact c2
theorem C106_ok : am_CS 6 106 C106 := W106 (fun part h K hb => by
  have hn1 := (SV5_N hb.1).1.1
  refine T106_0 ⟨fun c1 => ?_, fun c1 => ⟨fun c2 => ⟨hb.1, fun h' q3 => ?_⟩, fun c2 => ?_⟩⟩
  · exact am_rB (hb.2 h (SQ_rf hb.1)) (ifc_f (by omega))
  · refine L106 hb.1 (fun h' q => ?_) q3.1 q3.2 0 (by omega) (nl_r _).1 (fun j a b => by omega)
    have e := hb.2 h' q
    rw [ifc_t (by omega)] at e
    exact e
  · exact am_rB (hb.2 h (SQ_rf hb.1)) (ifc_f (by omega)))
/-! 126 FactorNets.pairs -/
def C126 : am_K := fun as h K => am_a2 as (fun v0 v1 => am_oc 11 0 v0 (am_n v1 (fun dd => (SV h 5) ∧ (∀ (h' : am_H), SQ h h' 5 → K (some (mB (ifc (0 < (h 6 0) ∧ 0 ≤ dd) (prs (h 6 0) (nr h 7 0) dd) (-2)))) (h')))))
theorem W126 {d : Nat} (H : ∀ (dd : Int) (h : am_H) (K : Option am_V → am_H → Prop), (SV h 5) ∧ (∀ (h' : am_H), SQ h h' 5 → K (some (mB (ifc (0 < (h 6 0) ∧ 0 ≤ dd) (prs (h 6 0) (nr h 7 0) dd) (-2)))) (h')) → am_AT d 126 0 [some (mR 1 11 0 0), some (mB dd), none, none] h K) : am_CS d 126 C126 := by
  refine am_CS_of (T := tb126) (mL := 4) (rk := 1) rfl (fun as h K hC => ?_)
  obtain ⟨v0, v1, rfl, hC0⟩ := am_a2_e hC
  obtain ⟨e0, hC1⟩ := am_oc_e hC0
  subst e0
  obtain ⟨dd, rfl, hC2⟩ := am_n_e hC1
  refine ⟨Nat.le_of_ble_eq_true rfl, ?_⟩
  exact H dd h K hC2
theorem T126_0 {R : Option am_V → am_H → Prop} {h : am_H} {dd : Int} (t : ((h 6 0 = 0) → (R (some (mB (-2))) h)) ∧ ((¬ h 6 0 = 0) → (((0 ≤ dd) → (((dd = 0) → (R (some (mB 0)) h)) ∧ ((¬ dd = 0) → (((dd < 20) → (am_AT 5 126 36 [some (mR 1 11 0 0), some (mB dd), some (mI 0), some (mI 0)] h R)) ∧ ((20 ≤ dd) → (R (some (mB 0)) h)))))) ∧ ((dd < 0) → (R (some (mB (-2))) h))))) : am_AT 5 126 0 [some (mR 1 11 0 0), some (mB dd), none, none] h R :=
  am_T (d := 4) (m := 126) (T := tb126) (mL := 4) (rk := 1) (cuts := [(36, [1, 1, 2, 2])]) (l := [(88, C88b), (317, C317)]) rfl ⟨am_CS_d (by decide) C88b_ok, am_CS_d (by decide) C317_ok, trivial⟩ 20 (And.intro (fun c5 => (t).1 c5) (fun c5 => And.intro (fun c6 => And.intro (fun c7 => (((t).2 c5).1 c6).1 c7) (fun c7 => And.intro (fun c8 => ((((t).2 c5).1 c6).2 c7).1 c8) (fun c8 => ((((t).2 c5).1 c6).2 c7).2 c8))) (fun c6 => ((t).2 c5).2 c6)))
theorem T126_36 {R : Option am_V → am_H → Prop} {h : am_H} {dd : Int} {x2 : Int} {x3 : Int} (t : (R32 x3) ∧ (((h 6 0 ≤ x3) → ((R32 x2) ∧ ((R32 (Int.tdiv x2 2)) ∧ (R (some (mB (Int.tdiv x2 2))) h)))) ∧ ((x3 < h 6 0) → ((SV h (5 : Int)) ∧ (∀ (h' : am_H), (SQ h h' (5 : Int) ∧ h' (5 : Int) 4 = 1) → ((0 ≤ x3 ∧ x3 < 20) ∧ ((0 ≤ dd ∧ dd < 20) ∧ ((0 ≤ (h' (31 + x3) dd) ∧ (h' (31 + x3) dd) < 2147483648) ∧ (am_AT 5 126 36 [some (mR 1 11 0 0), some (mB dd), some (mI (x2 + (iPop (h' (31 + x3) dd)))), some (mI (x3 + 1))] h' R))))))))) : am_AT 5 126 36 [some (mR 1 11 0 0), some (mB dd), some (mI x2), some (mI x3)] h R :=
  am_T (d := 4) (m := 126) (T := tb126) (mL := 4) (rk := 1) (cuts := [(36, [1, 1, 2, 2])]) (l := [(88, C88b), (317, C317)]) rfl ⟨am_CS_d (by decide) C88b_ok, am_CS_d (by decide) C317_ok, trivial⟩ 24 (And.intro (t).1 (And.intro (fun c9 => And.intro (((t).2).1 c9).1 (And.intro (by decide) (And.intro ((((t).2).1 c9).2).1 (((((t).2).1 c9).2).2)))) (fun c9 => And.intro (((t).2).2 c9).1 (fun z2_0 z2_1 => And.intro (((((t).2).2 c9).2) z2_0 z2_1).1 (And.intro ((((((t).2).2 c9).2) z2_0 z2_1).2).1 (And.intro (((((((t).2).2 c9).2) z2_0 z2_1).2).2).1 ((((((((t).2).2 c9).2) z2_0 z2_1).2).2).2)))))))
theorem L126 {K : Option am_V → am_H → Prop} {h : am_H} (H : SV h 5) {dd : Int} (hd : 0 < dd ∧ dd < 20) (hK : ∀ h', SQ h h' 5 → K (some (mB (prs (h 6 0) (nr h 7 0) dd))) h') : ∀ i (hh : am_H), SQ h hh 5 → 0 ≤ i → i ≤ h 6 0 → am_AT 5 126 36 [some (mR 1 11 0 0), some (mB dd), some (mI (sm (fun p => ct (fun q => (0 ≤ q ∧ q < h 6 0) ∧ ds (ad (nr h 7 0)) p q = dd) 20) i.toNat)), some (mI i)] hh K := by
  have hN := (SV5_N H).1
  have hC := (SV5_N H).2
  have hn1 := hN.1
  have hn2 := hN.2.1
  refine lp (h 6 0) (fun i ih hh Q i0 i1 => ?_)
  have en := (SQ5_n Q).2
  have er := (SQ5_n Q).1
  have hsm := sm_rg (f := fun p => ct (fun q => (0 ≤ q ∧ q < h 6 0) ∧ ds (ad (nr h 7 0)) p q = dd) 20) (m := 20) i.toNat (fun k hk => ct_le _ 20)
  have hdv : 0 ≤ Int.tdiv (sm (fun p => ct (fun q => (0 ≤ q ∧ q < h 6 0) ∧ ds (ad (nr h 7 0)) p q = dd) 20) i.toNat) 2 ∧ Int.tdiv (sm (fun p => ct (fun q => (0 ≤ q ∧ q < h 6 0) ∧ ds (ad (nr h 7 0)) p q = dd) 20) i.toNat) 2 ≤ sm (fun p => ct (fun q => (0 ≤ q ∧ q < h 6 0) ∧ ds (ad (nr h 7 0)) p q = dd) 20) i.toNat := ⟨Int.tdiv_nonneg hsm.1 (by omega), Int.tdiv_le_self _ hsm.1⟩
  have hsh : ∀ h', SQ hh h' 5 → h' 5 4 = 1 → i < h 6 0 → h' (31 + i) dd = shl (nr h 7 0) i dd := fun h' q z hi => by
    have e := SQ5_n (SQ_tr Q q)
    have := SV5_s q.1 z (a := i) (d := dd) (by omega) (by omega)
    rw [e.1] at this
    exact this
  refine T126_36 ⟨by omega, ⟨fun c1 => ⟨by omega, ⟨by omega, ?_⟩⟩, fun c1 => ⟨Q.1, fun h' q2 => ⟨by omega, ⟨by omega, ⟨by rw [hsh h' q2.1 q2.2 (by omega)]; have := @S20_shl (nr h 7 0) i dd; exact ⟨this.1, by have := this.2; omega⟩, ?_⟩⟩⟩⟩⟩⟩
  · refine am_rB (hK hh Q) ?_
    rw [show i = h 6 0 by omega, prs2 hN hC hd.1]
    exact (Int.mul_tdiv_cancel_left _ (by decide)).symm
  · have := ih (by omega) h' (SQ_tr Q q2.1) (by omega) (by omega)
    rw [sm_to i0] at this
    rw [hsh h' q2.1 q2.2 (by omega), iPop_20 S20_shl, ct_congr (Q := fun q => (0 ≤ q ∧ q < h 6 0) ∧ ds (ad (nr h 7 0)) i q = dd) 20 (fun k hk => shl_ds hN hC ⟨i0, by omega⟩ (by omega))]
    exact this
theorem C126_ok : am_CS 5 126 C126 := W126 (fun dd h K hb => by
  have hN := (SV5_N hb.1).1
  have hC := (SV5_N hb.1).2
  have hn1 := hN.1
  refine T126_0 ⟨fun c1 => ?_, fun c1 => ⟨fun c2 => ⟨fun c3 => ?_, fun c3 => ⟨fun c4 => ?_, fun c4 => ?_⟩⟩, fun c2 => ?_⟩⟩
  · exact am_rB (hb.2 h (SQ_rf hb.1)) (ifc_f (by omega))
  · exact am_rB (hb.2 h (SQ_rf hb.1)) (by rw [ifc_t (by omega), prs_0 hN hC (by omega)])
  · refine L126 hb.1 (by omega) (fun h' q => ?_) 0 h (SQ_rf hb.1) (by omega) hn1
    have e := hb.2 h' q
    rw [ifc_t (by omega)] at e
    exact e
  · exact am_rB (hb.2 h (SQ_rf hb.1)) (by rw [ifc_t (by omega), prs_0 hN hC (by omega)])
  · exact am_rB (hb.2 h (SQ_rf hb.1)) (ifc_f (by omega)))
/-! 130 FactorNets.width -/
def C130 : am_K := fun as h K => am_a1 as (fun v0 => am_oc 11 0 v0 ((SV h 5) ∧ (∀ (h' : am_H), SQ h h' 5 → K (some (mB (ifc (0 < (h 6 0)) (mxn (fun p => ecc (h 6 0) (nr h 7 0) p) (h 6 0).toNat) (-2)))) (h'))))
theorem W130 {d : Nat} (H : ∀  (h : am_H) (K : Option am_V → am_H → Prop), (SV h 5) ∧ (∀ (h' : am_H), SQ h h' 5 → K (some (mB (ifc (0 < (h 6 0)) (mxn (fun p => ecc (h 6 0) (nr h 7 0) p) (h 6 0).toNat) (-2)))) (h')) → am_AT d 130 0 [some (mR 1 11 0 0), none, none] h K) : am_CS d 130 C130 := by
  refine am_CS_of (T := tb130) (mL := 3) (rk := 1) rfl (fun as h K hC => ?_)
  obtain ⟨v0, rfl, hC0⟩ := am_a1_e hC
  obtain ⟨e0, hC1⟩ := am_oc_e hC0
  subst e0
  refine ⟨Nat.le_of_ble_eq_true rfl, ?_⟩
  exact H  h K hC1
theorem T130_0 {R : Option am_V → am_H → Prop} {h : am_H} (t : ((¬ h 6 0 = 0) → (am_AT 5 130 20 [some (mR 1 11 0 0), some (mI 0), some (mI 0)] h R)) ∧ ((h 6 0 = 0) → (R (some (mB (-2))) h))) : am_AT 5 130 0 [some (mR 1 11 0 0), none, none] h R :=
  am_T (d := 4) (m := 130) (T := tb130) (mL := 3) (rk := 1) (cuts := [(20, [1, 2, 2])]) (l := [(15, C15), (88, C88b)]) rfl ⟨am_CS_d (by decide) C15_ok, am_CS_d (by decide) C88b_ok, trivial⟩ 13 (And.intro (fun c10 => (t).1 c10) (fun c10 => (t).2 c10))
theorem T130_20 {R : Option am_V → am_H → Prop} {h : am_H} {x1 : Int} {x2 : Int} (t : (R32 x2) ∧ (((h 6 0 ≤ x2) → ((R32 x1) ∧ (R (some (mB x1)) h))) ∧ ((x2 < h 6 0) → ((SV h (5 : Int)) ∧ (∀ (h' : am_H), (SQ h h' (5 : Int) ∧ h' (5 : Int) 4 = 1) → ((R32 x2) ∧ (((NT (h' 6 0) (nr h' 7 0) ∧ CN (h' 6 0) (nr h' 7 0) ∧ MT h' (8 : Int) (h' 6 0) (nr h' 7 0)) ∧ (0 ≤ x2 ∧ x2 < h' 6 0)) ∧ ((R32 x1) ∧ (am_AT 5 130 20 [some (mR 1 11 0 0), some (mI (max x1 (mxn (fun q => ds (ad (nr h' 7 0)) x2 q) (h' 6 0).toNat))), some (mI (x2 + 1))] h' R))))))))) : am_AT 5 130 20 [some (mR 1 11 0 0), some (mI x1), some (mI x2)] h R :=
  am_T (d := 4) (m := 130) (T := tb130) (mL := 3) (rk := 1) (cuts := [(20, [1, 2, 2])]) (l := [(15, C15), (88, C88b)]) rfl ⟨am_CS_d (by decide) C15_ok, am_CS_d (by decide) C88b_ok, trivial⟩ 20 (And.intro (t).1 (And.intro (fun c11 => And.intro (((t).2).1 c11).1 ((((t).2).1 c11).2)) (fun c11 => And.intro (((t).2).2 c11).1 (fun z3_0 z3_1 => And.intro (((((t).2).2 c11).2) z3_0 z3_1).1 (And.intro ((((((t).2).2 c11).2) z3_0 z3_1).2).1 (And.intro (((((((t).2).2 c11).2) z3_0 z3_1).2).2).1 ((((((((t).2).2 c11).2) z3_0 z3_1).2).2).2)))))))
theorem L130 {K : Option am_V → am_H → Prop} {h : am_H} (H : SV h 5) (hK : ∀ h', SQ h h' 5 → K (some (mB (mxn (fun p => ecc (h 6 0) (nr h 7 0) p) (h 6 0).toNat))) h') : ∀ i (hh : am_H), SQ h hh 5 → 0 ≤ i → i ≤ h 6 0 → am_AT 5 130 20 [some (mR 1 11 0 0), some (mI (mxn (fun p => ecc (h 6 0) (nr h 7 0) p) i.toNat)), some (mI i)] hh K := by
  have hN := (SV5_N H).1
  have hC := (SV5_N H).2
  have hn1 := hN.1
  have hn2 := hN.2.1
  refine lp (h 6 0) (fun i ih hh Q i0 i1 => ?_)
  have en := (SQ5_n Q).2
  have er := (SQ5_n Q).1
  have hm1 := mxn_le (f := fun p => ecc (h 6 0) (nr h 7 0) p) (m := 19) (by omega) i.toNat (fun k a b => by have := ecc_r hN hC (p := k) (by omega); omega)
  have hm2 := (mxn_ge (f := fun p => ecc (h 6 0) (nr h 7 0) p) i.toNat).1
  refine T130_20 ⟨by omega, ⟨fun c1 => ⟨by omega, ?_⟩, fun c1 => ⟨Q.1, fun h' q2 => ⟨by omega, ⟨⟨SV5_MC q2.1.1 q2.2, by have e := SQ5_n (SQ_tr Q q2.1); omega⟩, ⟨by omega, ?_⟩⟩⟩⟩⟩⟩
  · rw [show i = h 6 0 by omega]
    exact hK hh Q
  · have e := SQ5_n (SQ_tr Q q2.1)
    have := ih (by omega) h' (SQ_tr Q q2.1) (by omega) (by omega)
    rw [show (i + 1).toNat = i.toNat + 1 by omega, mxn_succ, Int.toNat_of_nonneg i0] at this
    rw [e.1, e.2]
    exact this
theorem C130_ok : am_CS 5 130 C130 := W130 (fun h K hb => by
  have hn1 := (SV5_N hb.1).1.1
  refine T130_0 ⟨fun c1 => ?_, fun c1 => ?_⟩
  · refine L130 hb.1 (fun h' q => ?_) 0 h (SQ_rf hb.1) (by omega) hn1
    have e := hb.2 h' q
    rw [ifc_t (by omega)] at e
    exact e
  · exact am_rB (hb.2 h (SQ_rf hb.1)) (ifc_f (by omega)))
/-! 131 FactorNets.wiener -/
def C131 : am_K := fun as h K => am_a1 as (fun v0 => am_oc 11 0 v0 ((SV h 5) ∧ (∀ (h' : am_H), SQ h h' 5 → K (some (mB (ifc (0 < (h 6 0)) (wnr (h 6 0) (nr h 7 0)) (-2)))) (h'))))
theorem W131 {d : Nat} (H : ∀  (h : am_H) (K : Option am_V → am_H → Prop), (SV h 5) ∧ (∀ (h' : am_H), SQ h h' 5 → K (some (mB (ifc (0 < (h 6 0)) (wnr (h 6 0) (nr h 7 0)) (-2)))) (h')) → am_AT d 131 0 [some (mR 1 11 0 0), none, none, none] h K) : am_CS d 131 C131 := by
  refine am_CS_of (T := tb131) (mL := 4) (rk := 1) rfl (fun as h K hC => ?_)
  obtain ⟨v0, rfl, hC0⟩ := am_a1_e hC
  obtain ⟨e0, hC1⟩ := am_oc_e hC0
  subst e0
  refine ⟨Nat.le_of_ble_eq_true rfl, ?_⟩
  exact H  h K hC1
theorem T131_0 {R : Option am_V → am_H → Prop} {h : am_H} (t : ((¬ h 6 0 = 0) → (am_AT 5 131 20 [some (mR 1 11 0 0), some (mI 0), some (mI 0), none] h R)) ∧ ((h 6 0 = 0) → (R (some (mB (-2))) h))) : am_AT 5 131 0 [some (mR 1 11 0 0), none, none, none] h R :=
  am_T (d := 4) (m := 131) (T := tb131) (mL := 4) (rk := 1) (cuts := [(20, [1, 2, 2, 0]), (36, [1, 2, 2, 2])]) (l := [(88, C88b)]) rfl ⟨am_CS_d (by decide) C88b_ok, trivial⟩ 13 (And.intro (fun c12 => (t).1 c12) (fun c12 => (t).2 c12))
theorem T131_20 {R : Option am_V → am_H → Prop} {h : am_H} {x1 : Int} {x2 : Int} (t : (R32 x2) ∧ (((h 6 0 ≤ x2) → ((R32 x1) ∧ (R (some (mB x1)) h))) ∧ ((x2 < h 6 0) → (am_AT 5 131 36 [some (mR 1 11 0 0), some (mI x1), some (mI x2), some (mI 0)] h R)))) : am_AT 5 131 20 [some (mR 1 11 0 0), some (mI x1), some (mI x2), none] h R :=
  am_T (d := 4) (m := 131) (T := tb131) (mL := 4) (rk := 1) (cuts := [(20, [1, 2, 2, 0]), (36, [1, 2, 2, 2])]) (l := [(88, C88b)]) rfl ⟨am_CS_d (by decide) C88b_ok, trivial⟩ 12 (And.intro (t).1 (And.intro (fun c13 => And.intro (((t).2).1 c13).1 ((((t).2).1 c13).2)) (fun c13 => ((t).2).2 c13)))
theorem T131_36 {R : Option am_V → am_H → Prop} {h : am_H} {x1 : Int} {x2 : Int} {x3 : Int} (t : (R32 x3) ∧ ((R32 x2) ∧ (((x2 ≤ x3) → (am_AT 5 131 20 [some (mR 1 11 0 0), some (mI x1), some (mI (x2 + 1)), none] h R)) ∧ ((x3 < x2) → ((SV h (5 : Int)) ∧ (∀ (h' : am_H), (SQ h h' (5 : Int) ∧ h' (5 : Int) 4 = 1) → ((0 ≤ x2 ∧ x2 < 20) ∧ ((0 ≤ x3 ∧ x3 < 20) ∧ (am_AT 5 131 36 [some (mR 1 11 0 0), some (mI (x1 + (h' (10 + x2) x3))), some (mI x2), some (mI (x3 + 1))] h' R))))))))) : am_AT 5 131 36 [some (mR 1 11 0 0), some (mI x1), some (mI x2), some (mI x3)] h R :=
  am_T (d := 4) (m := 131) (T := tb131) (mL := 4) (rk := 1) (cuts := [(20, [1, 2, 2, 0]), (36, [1, 2, 2, 2])]) (l := [(88, C88b)]) rfl ⟨am_CS_d (by decide) C88b_ok, trivial⟩ 20 (And.intro (t).1 (And.intro ((t).2).1 (And.intro (fun c14 => (((t).2).2).1 c14) (fun c14 => And.intro ((((t).2).2).2 c14).1 (fun z4_0 z4_1 => And.intro ((((((t).2).2).2 c14).2) z4_0 z4_1).1 (And.intro (((((((t).2).2).2 c14).2) z4_0 z4_1).2).1 ((((((((t).2).2).2 c14).2) z4_0 z4_1).2).2)))))))
theorem L131 {K : Option am_V → am_H → Prop} {h : am_H} (H : SV h 5) (hK : ∀ h', SQ h h' 5 → K (some (mB (wnr (h 6 0) (nr h 7 0)))) h') : ∀ i (hh : am_H), SQ h hh 5 → 0 ≤ i → i ≤ h 6 0 → am_AT 5 131 20 [some (mR 1 11 0 0), some (mI (sm (fun a => sm (fun b => ds (ad (nr h 7 0)) a b) a.toNat) i.toNat)), some (mI i), none] hh K := by
  have hN := (SV5_N H).1
  have hC := (SV5_N H).2
  have hn1 := hN.1
  have hn2 := hN.2.1
  refine lp (h 6 0) (fun i ih hh Q i0 i1 => ?_)
  have en := (SQ5_n Q).2
  have er := (SQ5_n Q).1
  have hsm := sm_rg (f := fun a => sm (fun b => ds (ad (nr h 7 0)) a b) a.toNat) (m := 400) i.toNat (fun k hk => by
    have := sm_rg (f := fun b => ds (ad (nr h 7 0)) k b) (m := 20) (k : Int).toNat (fun j hj => by have := ds_r hN hC (a := k) (b := j) (by omega) (by omega); omega)
    omega)
  refine T131_20 ⟨by omega, ⟨fun c1 => ⟨by omega, ?_⟩, fun c1 => ?_⟩⟩
  · rw [show i = h 6 0 by omega]
    exact hK hh Q
  · have L2 : ∀ j (g : am_H), SQ h g 5 → 0 ≤ j → j ≤ i → am_AT 5 131 36 [some (mR 1 11 0 0), some (mI (sm (fun a => sm (fun b => ds (ad (nr h 7 0)) a b) a.toNat) i.toNat + sm (fun b => ds (ad (nr h 7 0)) i b) j.toNat)), some (mI i), some (mI j)] g K := by
      refine lp i (fun j ih2 g G j0 j1 => ?_)
      refine T131_36 ⟨by omega, ⟨by omega, ⟨fun c1 => ?_, fun c1 => ⟨G.1, fun h' q2 => ⟨by omega, ⟨by omega, ?_⟩⟩⟩⟩⟩⟩
      · rw [show j = i by omega]
        have := ih (by omega) g G (by omega) (by omega)
        rw [sm_to i0] at this
        exact this
      · have e := SQ5_n (SQ_tr G q2.1)
        have e2 := SV5_d q2.1.1 q2.2 (a := i) (p := j) (by omega) (by omega)
        rw [e.1] at e2
        have := ih2 (by omega) h' (SQ_tr G q2.1) (by omega) (by omega)
        rw [sm_to j0, ← Int.add_assoc] at this
        rw [e2]
        exact this
    have := L2 0 hh Q (by omega) i0
    rw [show sm (fun b => ds (ad (nr h 7 0)) i b) (0 : Int).toNat = 0 from rfl, Int.add_zero] at this
    exact this
theorem C131_ok : am_CS 5 131 C131 := W131 (fun h K hb => by
  have hn1 := (SV5_N hb.1).1.1
  refine T131_0 ⟨fun c1 => ?_, fun c1 => ?_⟩
  · refine L131 hb.1 (fun h' q => ?_) 0 h (SQ_rf hb.1) (by omega) hn1
    have e := hb.2 h' q
    rw [ifc_t (by omega)] at e
    exact e
  · exact am_rB (hb.2 h (SQ_rf hb.1)) (ifc_f (by omega)))
/-! 132 FactorNets.centre -/
def C132 : am_K := fun as h K => am_a1 as (fun v0 => am_oc 11 0 v0 ((SV h 5) ∧ (∀ (h' : am_H), SQ h h' 5 → K (some (mB (ifc (0 < (h 6 0)) (cen (h 6 0) (nr h 7 0)) (-2)))) (h'))))
theorem W132 {d : Nat} (H : ∀  (h : am_H) (K : Option am_V → am_H → Prop), (SV h 5) ∧ (∀ (h' : am_H), SQ h h' 5 → K (some (mB (ifc (0 < (h 6 0)) (cen (h 6 0) (nr h 7 0)) (-2)))) (h')) → am_AT d 132 0 [some (mR 1 11 0 0), none, none, none, none] h K) : am_CS d 132 C132 := by
  refine am_CS_of (T := tb132) (mL := 5) (rk := 1) rfl (fun as h K hC => ?_)
  obtain ⟨v0, rfl, hC0⟩ := am_a1_e hC
  obtain ⟨e0, hC1⟩ := am_oc_e hC0
  subst e0
  refine ⟨Nat.le_of_ble_eq_true rfl, ?_⟩
  exact H  h K hC1
theorem T132_0 {R : Option am_V → am_H → Prop} {h : am_H} (t : ((¬ h 6 0 = 0) → (am_AT 5 132 23 [some (mR 1 11 0 0), some (mI 20), some (mI 0), some (mI 0), none] h R)) ∧ ((h 6 0 = 0) → (R (some (mB (-2))) h))) : am_AT 5 132 0 [some (mR 1 11 0 0), none, none, none, none] h R :=
  am_T (d := 4) (m := 132) (T := tb132) (mL := 5) (rk := 1) (cuts := [(23, [1, 2, 2, 2, 0])]) (l := [(15, C15), (88, C88b)]) rfl ⟨am_CS_d (by decide) C15_ok, am_CS_d (by decide) C88b_ok, trivial⟩ 15 (And.intro (fun c15 => (t).1 c15) (fun c15 => (t).2 c15))
theorem T132_23 {R : Option am_V → am_H → Prop} {h : am_H} {x1 : Int} {x2 : Int} {x3 : Int} (t : (R32 x3) ∧ (((h 6 0 ≤ x3) → ((R32 x2) ∧ (R (some (mB x2)) h))) ∧ ((x3 < h 6 0) → ((SV h (5 : Int)) ∧ (∀ (h' : am_H), (SQ h h' (5 : Int) ∧ h' (5 : Int) 4 = 1) → ((R32 x3) ∧ (((NT (h' 6 0) (nr h' 7 0) ∧ CN (h' 6 0) (nr h' 7 0) ∧ MT h' (8 : Int) (h' 6 0) (nr h' 7 0)) ∧ (0 ≤ x3 ∧ x3 < h' 6 0)) ∧ ((R32 x1) ∧ (((x1 ≤ mxn (fun q => ds (ad (nr h' 7 0)) x3 q) (h' 6 0).toNat) → ((R32 x1) ∧ (((¬ mxn (fun q => ds (ad (nr h' 7 0)) x3 q) (h' 6 0).toNat = x1) → (am_AT 5 132 23 [some (mR 1 11 0 0), some (mI x1), some (mI x2), some (mI (x3 + 1)), none] h' R)) ∧ ((mxn (fun q => ds (ad (nr h' 7 0)) x3 q) (h' 6 0).toNat = x1) → (am_AT 5 132 23 [some (mR 1 11 0 0), some (mI x1), some (mI (iOr x2 (iShl 1 x3))), some (mI (x3 + 1)), none] h' R))))) ∧ ((mxn (fun q => ds (ad (nr h' 7 0)) x3 q) (h' 6 0).toNat < x1) → (((¬ mxn (fun q => ds (ad (nr h' 7 0)) x3 q) (h' 6 0).toNat = mxn (fun q => ds (ad (nr h' 7 0)) x3 q) (h' 6 0).toNat) → (am_AT 5 132 23 [some (mR 1 11 0 0), some (mI (mxn (fun q => ds (ad (nr h' 7 0)) x3 q) (h' 6 0).toNat)), some (mI 0), some (mI (x3 + 1)), none] h' R)) ∧ ((mxn (fun q => ds (ad (nr h' 7 0)) x3 q) (h' 6 0).toNat = mxn (fun q => ds (ad (nr h' 7 0)) x3 q) (h' 6 0).toNat) → (am_AT 5 132 23 [some (mR 1 11 0 0), some (mI (mxn (fun q => ds (ad (nr h' 7 0)) x3 q) (h' 6 0).toNat)), some (mI (iOr 0 (iShl 1 x3))), some (mI (x3 + 1)), none] h' R))))))))))))) : am_AT 5 132 23 [some (mR 1 11 0 0), some (mI x1), some (mI x2), some (mI x3), none] h R :=
  am_T (d := 4) (m := 132) (T := tb132) (mL := 5) (rk := 1) (cuts := [(23, [1, 2, 2, 2, 0])]) (l := [(15, C15), (88, C88b)]) rfl ⟨am_CS_d (by decide) C15_ok, am_CS_d (by decide) C88b_ok, trivial⟩ 34 (And.intro (t).1 (And.intro (fun c16 => And.intro (((t).2).1 c16).1 ((((t).2).1 c16).2)) (fun c16 => And.intro (((t).2).2 c16).1 (fun z5_0 z5_1 => And.intro (((((t).2).2 c16).2) z5_0 z5_1).1 (And.intro ((((((t).2).2 c16).2) z5_0 z5_1).2).1 (And.intro (((((((t).2).2 c16).2) z5_0 z5_1).2).2).1 (And.intro (fun c17 => And.intro (((((((((t).2).2 c16).2) z5_0 z5_1).2).2).2).1 c17).1 (And.intro (fun c18 => ((((((((((t).2).2 c16).2) z5_0 z5_1).2).2).2).1 c17).2).1 c18) (fun c18 => ((((((((((t).2).2 c16).2) z5_0 z5_1).2).2).2).1 c17).2).2 c18))) (fun c17 => And.intro (fun c19 => (((((((((t).2).2 c16).2) z5_0 z5_1).2).2).2).2 c17).1 c19) (fun c19 => (((((((((t).2).2 c16).2) z5_0 z5_1).2).2).2).2 c17).2 c19)))))))))
theorem L132 {K : Option am_V → am_H → Prop} {h : am_H} (H : SV h 5) (hK : ∀ h', SQ h h' 5 → K (some (mB (cen (h 6 0) (nr h 7 0)))) h') : ∀ i x z (hh : am_H), SQ h hh 5 → 0 ≤ i → i ≤ h 6 0 → (0 ≤ x ∧ x ≤ 20) → S20 z → (∀ p, 0 ≤ p → p < i → x ≤ ecc (h 6 0) (nr h 7 0) p) → (0 < i → ∃ p, (0 ≤ p ∧ p < i) ∧ ecc (h 6 0) (nr h 7 0) p = x) → (∀ p, bit z p ↔ (0 ≤ p ∧ p < i) ∧ ecc (h 6 0) (nr h 7 0) p = x) → (i = 0 → x = 20) → am_AT 5 132 23 [some (mR 1 11 0 0), some (mI x), some (mI z), some (mI i), none] hh K := by
  have hN := (SV5_N H).1
  have hC := (SV5_N H).2
  have hn1 := hN.1
  have hn2 := hN.2.1
  refine lp (h 6 0) (fun i ih x z hh Q i0 i1 hx hz h1 h2 h3 h4 => ?_)
  have en := (SQ5_n Q).2
  have er := (SQ5_n Q).1
  have hz1 := hz.1
  have hz2 := hz.2
  have he : i < h 6 0 → 0 ≤ ecc (h 6 0) (nr h 7 0) i ∧ ecc (h 6 0) (nr h 7 0) i < 20 := fun hi => ecc_r hN hC ⟨i0, hi⟩
  refine T132_23 ⟨by omega, ⟨fun c1 => ⟨by omega, ?_⟩, fun c1 => ⟨Q.1, fun h' q2 => ⟨by omega, ⟨⟨SV5_MC q2.1.1 q2.2, by have e := SQ5_n (SQ_tr Q q2.1); omega⟩, ⟨by omega, ⟨fun c3 => ⟨by omega, ⟨fun c4 => ?_, fun c4 => ?_⟩⟩, fun c3 => ⟨fun c4 => ?_, fun c4 => ?_⟩⟩⟩⟩⟩⟩⟩⟩
  · refine am_rB (hK hh Q) (mkb_eq (by omega) (fun p => ?_)).symm
    rw [h3]
    constructor
    · rintro ⟨q1, q2⟩
      exact ⟨by omega, by omega, fun q a b => by have := h1 q a (by omega); omega⟩
    · rintro ⟨q1, q2, q3⟩
      refine ⟨by omega, ?_⟩
      obtain ⟨p', a, b⟩ := h2 (by omega)
      have h5 := q3 p' a.1 (by omega)
      have h6 := h1 p q1.1 (by omega)
      omega
  · have e := SQ5_n (SQ_tr Q q2.1)
    rw [e.1, e.2] at c3 c4
    have c3' : x ≤ ecc (h 6 0) (nr h 7 0) i := c3
    have c4' : ¬ ecc (h 6 0) (nr h 7 0) i = x := c4
    refine ih (by omega) x z h' (SQ_tr Q q2.1) (by omega) (by omega) hx hz (fun p a b => ?_) (fun _ => ?_) (fun p => ?_) (by omega)
    · by_cases e5 : p = i
      · rw [e5]; exact c3'
      · exact h1 p a (by omega)
    · by_cases e5 : i = 0
      · have h7 := he (by omega)
        have h8 := h4 e5
        omega
      · obtain ⟨p, a, b⟩ := h2 (by omega)
        exact ⟨p, by omega, b⟩
    · rw [h3]
      refine ⟨fun q => ⟨by omega, q.2⟩, fun q => ⟨?_, q.2⟩⟩
      have : p ≠ i := fun e5 => c4' (e5 ▸ q.2)
      omega
  · have e := SQ5_n (SQ_tr Q q2.1)
    rw [e.1, e.2] at c3 c4
    have c4' : ecc (h 6 0) (nr h 7 0) i = x := c4
    refine ih (by omega) x _ h' (SQ_tr Q q2.1) (by omega) (by omega) hx (S20_or hz (S20_1 i0 (by omega))) (fun p a b => ?_) (fun _ => ⟨i, by omega, c4'⟩) (fun p => ?_) (by omega)
    · by_cases e5 : p = i
      · rw [e5]; omega
      · exact h1 p a (by omega)
    · rw [bt_or, bt_1 i0 (by omega), h3]
      constructor
      · rintro (q | q)
        · exact ⟨by omega, q.2⟩
        · rw [q]; exact ⟨by omega, c4'⟩
      · rintro ⟨q1, q2⟩
        by_cases e5 : p = i
        · exact Or.inr e5
        · exact Or.inl ⟨by omega, q2⟩
  · exact absurd rfl c4
  · have e := SQ5_n (SQ_tr Q q2.1)
    rw [e.1, e.2] at c3
    rw [e.1, e.2]
    have c3' : ecc (h 6 0) (nr h 7 0) i < x := c3
    have h7 := he (by omega)
    refine ih (by omega) (ecc (h 6 0) (nr h 7 0) i) _ h' (SQ_tr Q q2.1) (by omega) (by omega) (by omega) (S20_or S20_0 (S20_1 i0 (by omega))) (fun p a b => ?_) (fun _ => ⟨i, by omega, rfl⟩) (fun p => ?_) (by omega)
    · by_cases e5 : p = i
      · rw [e5]; omega
      · have := h1 p a (by omega); omega
    · rw [bt_or, bt_1 i0 (by omega)]
      constructor
      · rintro (q | q)
        · exact absurd q bt_zero
        · rw [q]; exact ⟨by omega, rfl⟩
      · rintro ⟨q1, q2⟩
        by_cases e5 : p = i
        · exact Or.inr e5
        · have := h1 p q1.1 (by omega); omega
theorem C132_ok : am_CS 5 132 C132 := W132 (fun h K hb => by
  have hn1 := (SV5_N hb.1).1.1
  refine T132_0 ⟨fun c1 => ?_, fun c1 => ?_⟩
  · refine L132 hb.1 (fun h' q => ?_) 0 20 0 h (SQ_rf hb.1) (by omega) hn1 (by omega) S20_0 (fun p a b => by omega) (fun q => by omega) (fun p => ⟨fun q => absurd q bt_zero, fun q => by omega⟩) (fun _ => rfl)
    have e := hb.2 h' q
    rw [ifc_t (by omega)] at e
    exact e
  · exact am_rB (hb.2 h (SQ_rf hb.1)) (ifc_f (by omega)))
