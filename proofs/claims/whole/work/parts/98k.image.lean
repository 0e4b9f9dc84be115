/-! ===== the k-th symmetry ===== -/
def PFX (s : Int) (D : Int → Int → Int) (c : Int → Int) (p to : Int) : Prop := ∃ f, AU s D f ∧ (∀ j, 0 ≤ j → j < p → f j = c j) ∧ f p = to
theorem PFX_cg {s : Int} {D : Int → Int → Int} {c c' : Int → Int} {p to : Int} (e : ∀ j, 0 ≤ j → j < p → c j = c' j) : PFX s D c p to ↔ PFX s D c' p to := ⟨fun ⟨f, F, a, b⟩ => ⟨f, F, fun j x y => (a j x y).trans (e j x y), b⟩, fun ⟨f, F, a, b⟩ => ⟨f, F, fun j x y => (a j x y).trans (e j x y).symm, b⟩⟩
noncomputable def mrs (s : Int) (D : Int → Int → Int) (k : Int) : Nat → Int
  | 0 => k
  | p + 1 => mrs s D k p % lvr s D (s - 1 - p).toNat
noncomputable def mch (s : Int) (D : Int → Int → Int) (k : Int) : Nat → Int → Int
  | 0 => fun _ => 0
  | p + 1 => up1 (mch s D k p) p (nthb (mkb (PFX s D (mch s D k p) p)) (mrs s D k p / lvr s D (s - 1 - p).toNat))
noncomputable def mvf (s : Int) (D : Int → Int → Int) (k p : Int) : Int := mch s D k (p.toNat + 1) p
theorem mch_st {s : Int} {D : Int → Int → Int} {k : Int} {j : Int} (h0 : 0 ≤ j) : ∀ m : Nat, mch s D k (j.toNat + 1 + m) j = mvf s D k j
  | 0 => rfl
  | m + 1 => by
    rw [← mch_st h0 m]
    show up1 (mch s D k (j.toNat + 1 + m)) ((j.toNat + 1 + m : Nat) : Int) _ j = _
    exact up1_ne (by omega)
theorem mvf_eq {s : Int} {D : Int → Int → Int} {k : Int} {p : Int} (h0 : 0 ≤ p) : mvf s D k p = nthb (mkb (PFX s D (mvf s D k) p)) (mrs s D k p.toNat / lvr s D (s - 1 - p).toNat) := by
  have e : ((p.toNat : Nat) : Int) = p := by omega
  have w : mvf s D k p = up1 (mch s D k p.toNat) ((p.toNat : Nat) : Int) (nthb (mkb (PFX s D (mch s D k p.toNat) ((p.toNat : Nat) : Int))) (mrs s D k p.toNat / lvr s D (s - 1 - ((p.toNat : Nat) : Int)).toNat)) p := rfl
  rw [w, e, up1_eq]
  congr 1
  refine mkb_congr (fun j _ _ => PFX_cg (fun i a b => ?_))
  have := mch_st (s := s) (D := D) (k := k) a (p.toNat - i.toNat - 1)
  rw [show i.toNat + 1 + (p.toNat - i.toNat - 1) = p.toNat by omega] at this
  exact this
theorem mrs_S {s : Int} {D : Int → Int → Int} {k : Int} {p : Int} (h0 : 0 ≤ p) : mrs s D k (p + 1).toNat = mrs s D k p.toNat % lvr s D (s - 1 - p).toNat := by
  rw [show (p + 1).toNat = p.toNat + 1 by omega]
  show mrs s D k p.toNat % lvr s D (s - 1 - ((p.toNat : Nat) : Int)).toNat = _
  rw [show ((p.toNat : Nat) : Int) = p by omega]
theorem lvr_S {s : Int} {D : Int → Int → Int} {p : Int} (h : 0 ≤ p ∧ p < s) : lvr s D (s - p).toNat = ct (orbS s D p) 20 * lvr s D (s - 1 - p).toNat := by
  rw [show (s - p).toNat = (s - 1 - p).toNat + 1 by omega]
  show ct (orbS s D (s - (((s - 1 - p).toNat + 1 : Nat) : Int))) 20 * _ = _
  rw [show s - (((s - 1 - p).toNat + 1 : Nat) : Int) = p by omega]
theorem mrs_r {s : Int} {D : Int → Int → Int} {k : Int} (M : DM s D) (hk : 0 ≤ k ∧ k < lvr s D s.toNat) : ∀ p : Nat, (p : Int) ≤ s → 0 ≤ mrs s D k p ∧ mrs s D k p < lvr s D (s - p).toNat
  | 0, _ => by rw [show (s - ((0 : Nat) : Int)).toNat = s.toNat by omega]; exact hk
  | p + 1, h => by
    have l := (lvr_64 (D := D) M (m := (s - 1 - p).toNat) (by omega)).1
    rw [show (s - ((p + 1 : Nat) : Int)).toNat = (s - 1 - p).toNat by omega]
    exact ⟨Int.emod_nonneg _ (by omega), Int.emod_lt_of_pos _ (by omega)⟩
/-- the places for p behind a symmetry's first images -/
theorem PFX_img {s : Int} {D : Int → Int → Int} (M : DM s D) {g c : Int → Int} (G : AU s D g) {p : Int} (hp : 0 ≤ p ∧ p < s) (e : ∀ j, 0 ≤ j → j < p → g j = c j) (y : Int) : PFX s D c p y ↔ ∃ x, (0 ≤ x ∧ x < s) ∧ orbS s D p x ∧ g x = y := by
  constructor
  · rintro ⟨f, F, a, b⟩
    obtain ⟨v, V, v1, v2⟩ := AU_inv M G
    have r := F.1 p hp.1 hp.2
    refine ⟨v y, by rw [← b]; exact V.1 _ r.1 r.2, ⟨fun z => v (f z), AU_comp V F, fun j u w => ?_, by show v (f p) = v y; rw [b]⟩, by rw [← b]; exact v2 _ r.1 r.2⟩
    show v (f j) = j
    rw [a j u w, ← e j u w]
    exact v1 j u (by omega)
  · rintro ⟨x, hx, ⟨f, F, a, b⟩, q⟩
    exact ⟨fun z => g (f z), AU_comp G F, fun j u w => by show g (f j) = c j; rw [a j u w]; exact e j u w, by show g (f p) = y; rw [b]; exact q⟩
theorem PFX_ct {s : Int} {D : Int → Int → Int} (M : DM s D) {g c : Int → Int} (G : AU s D g) {p : Int} (hp : 0 ≤ p ∧ p < s) (e : ∀ j, 0 ≤ j → j < p → g j = c j) : ct (PFX s D c p) 20 = ct (orbS s D p) 20 := by
  have l := M.1
  have a := ct_rel (P := orbS s D p) (Q := PFX s D c p) (T := fun x y => (0 ≤ x ∧ x < s) ∧ g x = y) (n := 20) (fun x _ _ w => by
    have r := orbS_r M hp w
    have q := G.1 x (by omega) (by omega)
    exact ⟨g x, by omega, (PFX_img M G hp e _).mpr ⟨x, by omega, w, rfl⟩, by omega, rfl⟩) (fun x z y _ _ u v => AU_inj M G u.1 v.1 (u.2.trans v.2.symm))
  have b := ct_rel (P := PFX s D c p) (Q := orbS s D p) (T := fun y x => (0 ≤ x ∧ x < s) ∧ g x = y) (n := 20) (fun y _ _ w => by
    obtain ⟨x, hx, o, q⟩ := (PFX_img M G hp e y).mp w
    exact ⟨x, by omega, o, hx, q⟩) (fun x z y _ _ u v => u.2.symm.trans v.2)
  omega
def TKF (h g : am_H) (o p to : Int) : Prop := ∃ w, AU (h (am_sv o + 1) 0) (svD h (am_sv o)) w ∧ (∀ j, 0 ≤ j → j < p → w j = j) ∧ w p = to ∧ ∀ x, 0 ≤ x → x < h (am_sv o + 1) 0 → g (o + 109) x = h (o + 109) (w x)
def TKI (h g : am_H) (o p to pl i : Int) : Prop := (∀ x j, x ≠ o + 109 → x ≠ o + 110 → g x j = h x j) ∧ (i ≤ 19 ∧ trc h o p (19 - i).toNat pl) ∧ (0 ≤ pl ∧ pl < 20) ∧ ∃ w, AU (h (am_sv o + 1) 0) (svD h (am_sv o)) w ∧ (∀ j, 0 ≤ j → j < p → w j = j) ∧ w pl = to ∧ ∀ x, 0 ≤ x → x < h (am_sv o + 1) 0 → g (o + 109) x = h (o + 109) (w x)
theorem ct_st {P : Int → Prop} {a b : Int} (h0 : 0 ≤ a) (hp : P a) (l : a < b) : ct P a.toNat < ct P b.toNat := by
  have e := ct_to (P := P) h0
  have m := ct_mn P (a + 1).toNat (b.toNat - (a + 1).toNat)
  rw [show (a + 1).toNat + (b.toNat - (a + 1).toNat) = b.toNat by omega] at m
  have v : am_b (P a) = 1 := if_pos hp
  omega
/-- the lowest that is left, once i are taken away -/
def CLRn (im left i : Int) : Prop := S20 left ∧ ∀ y, bit left y ↔ bit im y ∧ i ≤ ct (bit im) y.toNat
theorem CLRn_s {im left i : Int} (hs : S20 im) (C : CLRn im left i) (h0 : 0 ≤ i) (h1 : i < iPop im) : left ≠ 0 ∧ iLow left = nthb im i ∧ CLRn im (iAnd left (left - 1)) (i + 1) := by
  have nb := nthb_in hs h0 h1
  have na := nthb_at hs h0 h1
  have bl : bit left (nthb im i) := (C.2 _).mpr ⟨nb.1, by omega⟩
  have nz : left ≠ 0 := fun z => bt_zero (z ▸ bl)
  have lw := S20_low C.1 nz
  have ps := S20_pos C.1 nz
  have lb := (C.2 _).mp lw.1
  have e : iLow left = nthb im i := by
    have a := lw.2.1 _ bl
    refine Classical.byContradiction fun ne => ?_
    -- a lower bit has a lesser count
    have st := ct_st (P := bit im) lw.2.2.1 lb.1 (show iLow left < nthb im i by omega)
    omega
  refine ⟨nz, e, S20_and C.1, fun y => ?_⟩
  rw [bt_clr ps.1 ps.2, C.2, e]
  constructor
  · rintro ⟨⟨a, b⟩, ne⟩
    refine ⟨a, Classical.byContradiction fun z => ne ?_⟩
    have q := nthb_ct (S20_in hs a) a
    rw [show ct (bit im) y.toNat = i by omega] at q
    exact q.symm
  · rintro ⟨a, b⟩
    refine ⟨⟨a, by omega⟩, fun z => ?_⟩
    rw [z] at b
    omega
/-! 8 FactorNets$Chain.takeFirst -/
def C8 : am_K := fun as h K => am_a3 as (fun v0 v1 v2 => am_o 0 v0 (fun o => am_n v1 (fun p => am_n v2 (fun to => (HO0 o ∧ SVM h (am_sv o) ∧ GOK h o 0 ∧ (0 ≤ p ∧ p < (h (am_sv o + 1) 0)) ∧ (0 ≤ to ∧ to < (h (am_sv o + 1) 0)) ∧ S20 (h (o + 66) p) ∧ trc h o p 19 to) ∧ (∀ (h' : am_H), ((∀ x9 i9, x9 ≠ o + 109 → x9 ≠ o + 110 → h' x9 i9 = h x9 i9) ∧ TKF h h' o p to) → K (none) (h'))))))
theorem W8 {d : Nat} (H : ∀ (o : Int) (p : Int) (to : Int) (h : am_H) (K : Option am_V → am_H → Prop), (HO0 o ∧ SVM h (am_sv o) ∧ GOK h o 0 ∧ (0 ≤ p ∧ p < (h (am_sv o + 1) 0)) ∧ (0 ≤ to ∧ to < (h (am_sv o + 1) 0)) ∧ S20 (h (o + 66) p) ∧ trc h o p 19 to) ∧ (∀ (h' : am_H), ((∀ x9 i9, x9 ≠ o + 109 → x9 ≠ o + 110 → h' x9 i9 = h x9 i9) ∧ TKF h h' o p to) → K (none) (h')) → am_AT d 8 0 [some (mR 1 0 0 o), some (mB p), some (mB to), none, none, none, none] h K) : am_CS d 8 C8 := by
  refine am_CS_of (T := tb8) (mL := 7) (rk := 0) rfl (fun as h K hC => ?_)
  obtain ⟨v0, v1, v2, rfl, hC0⟩ := am_a3_e hC
  obtain ⟨o, rfl, hC1⟩ := am_o_e hC0
  obtain ⟨p, rfl, hC2⟩ := am_n_e hC1
  obtain ⟨to, rfl, hC3⟩ := am_n_e hC2
  refine ⟨Nat.le_of_ble_eq_true rfl, ?_⟩
  exact H o p to h K hC3
theorem T8_0 {R : Option am_V → am_H → Prop} {h : am_H} {o : Int} {p : Int} {to : Int} (t : am_AT 1 8 5 [some (mR 1 0 0 o), some (mB p), none, some (mI to), some (mI 0), none, none] h R) : am_AT 1 8 0 [some (mR 1 0 0 o), some (mB p), some (mB to), none, none, none, none] h R :=
  am_T (d := 0) (m := 8) (T := tb8) (mL := 7) (rk := 0) (cuts := [(5, [1, 1, 0, 2, 2, 0, 0]), (35, [1, 1, 0, 2, 2, 1, 2])]) (l := []) rfl trivial 8 (t)
theorem T8_5 {R : Option am_V → am_H → Prop} {h : am_H} {o : Int} {p : Int} {x3 : Int} {x4 : Int} (t : (R32 x4) ∧ (((20 ≤ x4) → (R none h)) ∧ ((x4 < 20) → ((R32 x3) ∧ (((x3 = p) → (R none h)) ∧ ((¬ x3 = p) → ((0 ≤ p ∧ p < 20) ∧ ((0 ≤ x3 ∧ x3 < 20) ∧ ((0 ≤ h (((o + 67) + 1) + p) x3 ∧ h (((o + 67) + 1) + p) x3 < 64) ∧ (am_AT 1 8 35 [some (mR 1 0 0 o), some (mB p), none, some (mI x3), some (mI x4), some (mR 2 20 0 (((o + 1) + 1) + (h (((o + 67) + 1) + p) x3))), some (mI 0)] h R)))))))))) : am_AT 1 8 5 [some (mR 1 0 0 o), some (mB p), none, some (mI x3), some (mI x4), none, none] h R :=
  am_T (d := 0) (m := 8) (T := tb8) (mL := 7) (rk := 0) (cuts := [(5, [1, 1, 0, 2, 2, 0, 0]), (35, [1, 1, 0, 2, 2, 1, 2])]) (l := []) rfl trivial 22 (And.intro (t).1 (And.intro (fun c1 => ((t).2).1 c1) (fun c1 => And.intro (((t).2).2 c1).1 (And.intro (fun c2 => ((((t).2).2 c1).2).1 c2) (fun c2 => And.intro (((((t).2).2 c1).2).2 c2).1 (And.intro ((((((t).2).2 c1).2).2 c2).2).1 (And.intro (((((((t).2).2 c1).2).2 c2).2).2).1 ((((((((t).2).2 c1).2).2 c2).2).2).2))))))))
theorem T8_35 {R : Option am_V → am_H → Prop} {h : am_H} {o : Int} {p : Int} {x3 : Int} {x4 : Int} {a5 : Int} {x6 : Int} (t : (R32 x6) ∧ (((h ((am_sv o) + 1) 0 ≤ x6) → ((0 ≤ p ∧ p < 20) ∧ ((0 ≤ x3 ∧ x3 < 20) ∧ (am_AT 1 8 5 [some (mR 1 0 0 o), some (mB p), none, some (mI ((am_cp h (o + 110) 0 (o + 109) 0 20) (((o + 88) + 1) + p) x3)), some (mI (x4 + 1)), none, none] (am_cp h (o + 110) 0 (o + 109) 0 20) R)))) ∧ ((x6 < h ((am_sv o) + 1) 0) → ((0 ≤ x6 ∧ x6 < 20) ∧ ((0 ≤ h a5 x6 ∧ h a5 x6 < 20) ∧ ((0 ≤ x6 ∧ x6 < 20) ∧ (am_AT 1 8 35 [some (mR 1 0 0 o), some (mB p), none, some (mI x3), some (mI x4), some (mR 2 20 0 a5), some (mI (x6 + 1))] (am_up h (o + 110) x6 (h (o + 109) (h a5 x6))) R))))))) : am_AT 1 8 35 [some (mR 1 0 0 o), some (mB p), none, some (mI x3), some (mI x4), some (mR 2 20 0 a5), some (mI x6)] h R :=
  am_T (d := 0) (m := 8) (T := tb8) (mL := 7) (rk := 0) (cuts := [(5, [1, 1, 0, 2, 2, 0, 0]), (35, [1, 1, 0, 2, 2, 1, 2])]) (l := []) rfl trivial 27 (And.intro (t).1 (And.intro (fun c3 => And.intro (⟨by decide, by decide, by decide, by decide, by decide⟩) (And.intro (((t).2).1 c3).1 (And.intro ((((t).2).1 c3).2).1 (((((t).2).1 c3).2).2)))) (fun c3 => And.intro (((t).2).2 c3).1 (And.intro ((((t).2).2 c3).2).1 (And.intro (((((t).2).2 c3).2).2).1 ((((((t).2).2 c3).2).2).2))))))
theorem L8b {K : Option am_V → am_H → Prop} {h : am_H} {o p to : Int} (ho : HO0 o) (S : SVM h (am_sv o)) (G : GOK h o 0) (hp : 0 ≤ p ∧ p < h (am_sv o + 1) 0) (sp : S20 (h (o + 66) p)) (hK : ∀ h', (∀ x9 i9, x9 ≠ o + 109 → x9 ≠ o + 110 → h' x9 i9 = h x9 i9) ∧ TKF h h' o p to → K none h') {pl i : Int} {g : am_H} (T : TKI h g o p to pl i) (L : LNK h o p pl) (hi : 0 ≤ i ∧ i < 19) (tr : trc h o p (19 - (i + 1)).toNat (h (o + 89 + p) pl)) (nx : ∀ g', TKI h g' o p to (h (o + 89 + p) pl) (i + 1) → am_AT 1 8 5 [some (mR 1 0 0 o), some (mB p), none, some (mI (h (o + 89 + p) pl)), some (mI (i + 1)), none, none] g' K) : ∀ x, ∀ g' : am_H, 0 ≤ x → x ≤ h (am_sv o + 1) 0 → (∀ y j, y ≠ o + 109 → y ≠ o + 110 → g' y j = h y j) → (∀ j, g' (o + 109) j = g (o + 109) j) → (∀ y, 0 ≤ y → y < x → g' (o + 110) y = g (o + 109) (h (o + 2 + h (o + 68 + p) pl) y)) → am_AT 1 8 35 [some (mR 1 0 0 o), some (mB p), none, some (mI pl), some (mI i), some (mR 2 20 0 (o + 2 + h (o + 68 + p) pl)), some (mI x)] g' K := by
  have ho' := ho
  unfold HO0 at ho'
  have hn := S.1.2.1
  have gl := G.1
  have L1 := L.1
  have A := (G.2 _ L1.1 L1.2).1
  refine lp (h (am_sv o + 1) 0) (fun x ih g' x0 x1 F I E => ?_)
  have en : g' (am_sv o + 1) 0 = h (am_sv o + 1) 0 := F _ _ (by omega) (by omega)
  have eg : ∀ y, g' (o + 2 + h (o + 68 + p) pl) y = h (o + 2 + h (o + 68 + p) pl) y := fun y => F _ _ (by omega) (by omega)
  refine T8_35 ⟨by omega, ⟨fun c1 => ⟨by omega, ⟨T.2.2.1, ?_⟩⟩, fun c1 => ⟨by omega, ⟨by rw [en] at c1; rw [eg]; have r := A.1 x x0 c1; omega, ⟨by omega, ?_⟩⟩⟩⟩⟩
  · rw [en] at c1
    rw [show o + 88 + 1 + p = o + 89 + p by omega, am_cp_ne (by omega), F _ _ (by omega) (by omega)]
    obtain ⟨f1, f2, f3, w, W, w1, w2, w3⟩ := T
    refine nx _ ⟨fun y j a b => by rw [am_cp_ne a]; exact F y j a b, ⟨by omega, tr⟩, ?_, fun z => w (h (o + 2 + h (o + 68 + p) pl) z), AU_comp W A, fun j a b => ?_, ?_, fun y a b => ?_⟩
    · exact S20_in sp L.2.1
    · show w (h _ j) = j
      rw [L.2.2.2 j a b]
      exact w1 j a b
    · show w (h _ _) = to
      rw [L.2.2.1]
      exact w2
    · rw [am_cp_0 a (by omega), E y a (by omega)]
      have r := A.1 y a b
      exact w3 _ r.1 r.2
  · rw [en] at c1
    refine ih c1 _ (by omega) (by omega) (fun y j a b => by rw [am_up_ne b]; exact F y j a b) (fun j => by rw [am_up_ne (by omega)]; exact I j) (fun y a b => ?_)
    by_cases z : y = x
    · rw [z, am_up_eq, eg, I]
    · rw [am_up_ne2 z]
      exact E y a (by omega)
theorem L8 {K : Option am_V → am_H → Prop} {h : am_H} {o p to : Int} (ho : HO0 o) (S : SVM h (am_sv o)) (G : GOK h o 0) (hp : 0 ≤ p ∧ p < h (am_sv o + 1) 0) (sp : S20 (h (o + 66) p)) (hK : ∀ h', (∀ x9 i9, x9 ≠ o + 109 → x9 ≠ o + 110 → h' x9 i9 = h x9 i9) ∧ TKF h h' o p to → K none h') : ∀ i, ∀ (g : am_H) pl, 0 ≤ i → TKI h g o p to pl i → am_AT 1 8 5 [some (mR 1 0 0 o), some (mB p), none, some (mI pl), some (mI i), none, none] g K := by
  have ho' := ho
  unfold HO0 at ho'
  have hn := S.1.2.1
  have gl := G.1
  refine lp 20 (fun i ih g pl i0 T => ?_)
  have F := T.1
  have pr := T.2.2.1
  have i19 := T.2.1.1
  have e1 : g (o + 68 + p) pl = h (o + 68 + p) pl := F _ _ (by omega) (by omega)
  have lk : ¬ pl = p → i < 19 ∧ LNK h o p pl ∧ trc h o p (19 - (i + 1)).toNat (h (o + 89 + p) pl) := fun z => by
    have t := T.2.1
    cases q : (19 - i).toNat with
    | zero => rw [q] at t; exact absurd t.2 z
    | succ m =>
      rw [q] at t
      rcases t.2 with w | w
      · exact absurd w z
      · rw [show (19 - (i + 1)).toNat = m by omega]
        exact ⟨by omega, w⟩
  refine T8_5 ⟨by omega, ⟨fun c1 => ?_, fun c1 => ⟨by omega, ⟨fun c2 => ?_, fun c2 => ⟨by omega, ⟨by omega, ⟨by
    have l := (lk c2).2.1.1
    rw [show o + 67 + 1 + p = o + 68 + p by omega, e1]
    omega, ?_⟩⟩⟩⟩⟩⟩⟩
  · have := T.2.1.1
    omega
  · obtain ⟨f1, f2, f3, w, W, w1, w2, w3⟩ := T
    exact hK g ⟨F, w, W, w1, by rw [← c2]; exact w2, w3⟩
  · have l := lk c2
    rw [show o + 1 + 1 + g (o + 67 + 1 + p) pl = o + 2 + h (o + 68 + p) pl by rw [show o + 67 + 1 + p = o + 68 + p by omega, e1]; omega]
    exact L8b ho S G hp sp hK T l.2.1 ⟨i0, l.1⟩ l.2.2 (fun g' T' => ih c1 g' _ (by omega) T') 0 g (by omega) S.1.1 F (fun _ => rfl) (fun y a b => by omega)
theorem C8_ok : am_CS 1 8 C8 := W8 (fun o p to h K hb => by
  obtain ⟨⟨ho, S, G, hp, ht, sp, tr⟩, hK⟩ := hb
  have hn := S.1.2.1
  exact T8_0 (L8 ho S G hp sp hK 0 h to (by omega) ⟨fun _ _ _ _ => rfl, ⟨by omega, tr⟩, by omega, fun x => x, AU_id _ _, fun _ _ _ => rfl, rfl, fun _ _ _ => rfl⟩))
/-! 9 FactorNets$Chain.imagesOf -/
def C9 : am_K := fun as h K => am_a2 as (fun v0 v1 => am_o 0 v0 (fun o => am_n v1 (fun st => ((0 ≤ (h (am_sv o + 1) 0) ∧ (h (am_sv o + 1) 0) ≤ 20) ∧ (∀ x9, 0 ≤ x9 → x9 < (h (am_sv o + 1) 0) → 0 ≤ h (o + 109) x9 ∧ h (o + 109) x9 < 20)) ∧ (K (some (mB (mkb (fun y9 => ∃ x9, (0 ≤ x9 ∧ x9 < (h (am_sv o + 1) 0)) ∧ bit st x9 ∧ h (o + 109) x9 = y9)))) h))))
theorem W9 {d : Nat} (H : ∀ (o : Int) (st : Int) (h : am_H) (K : Option am_V → am_H → Prop), ((0 ≤ (h (am_sv o + 1) 0) ∧ (h (am_sv o + 1) 0) ≤ 20) ∧ (∀ x9, 0 ≤ x9 → x9 < (h (am_sv o + 1) 0) → 0 ≤ h (o + 109) x9 ∧ h (o + 109) x9 < 20)) ∧ (K (some (mB (mkb (fun y9 => ∃ x9, (0 ≤ x9 ∧ x9 < (h (am_sv o + 1) 0)) ∧ bit st x9 ∧ h (o + 109) x9 = y9)))) h) → am_AT d 9 0 [some (mR 1 0 0 o), some (mB st), none, none] h K) : am_CS d 9 C9 := by
  refine am_CS_of (T := tb9) (mL := 4) (rk := 1) rfl (fun as h K hC => ?_)
  obtain ⟨v0, v1, rfl, hC0⟩ := am_a2_e hC
  obtain ⟨o, rfl, hC1⟩ := am_o_e hC0
  obtain ⟨st, rfl, hC2⟩ := am_n_e hC1
  refine ⟨Nat.le_of_ble_eq_true rfl, ?_⟩
  exact H o st h K hC2
theorem T9_0 {R : Option am_V → am_H → Prop} {h : am_H} {o : Int} {st : Int} (t : am_AT 1 9 4 [some (mR 1 0 0 o), some (mB st), some (mI 0), some (mI 0)] h R) : am_AT 1 9 0 [some (mR 1 0 0 o), some (mB st), none, none] h R :=
  am_T (d := 0) (m := 9) (T := tb9) (mL := 4) (rk := 1) (cuts := [(4, [1, 1, 2, 2])]) (l := []) rfl trivial 8 (t)
theorem T9_4 {R : Option am_V → am_H → Prop} {h : am_H} {o : Int} {st : Int} {x2 : Int} {x3 : Int} (t : (R32 x3) ∧ (((h ((am_sv o) + 1) 0 ≤ x3) → ((R32 x2) ∧ (R (some (mB x2)) h))) ∧ ((x3 < h ((am_sv o) + 1) 0) → (((iAnd (iShr st x3) 1 = 0) → (am_AT 1 9 4 [some (mR 1 0 0 o), some (mB st), some (mI x2), some (mI (x3 + 1))] h R)) ∧ ((¬ iAnd (iShr st x3) 1 = 0) → ((0 ≤ x3 ∧ x3 < 20) ∧ (am_AT 1 9 4 [some (mR 1 0 0 o), some (mB st), some (mI (iOr x2 (iShl 1 (h (o + 109) x3)))), some (mI (x3 + 1))] h R))))))) : am_AT 1 9 4 [some (mR 1 0 0 o), some (mB st), some (mI x2), some (mI x3)] h R :=
  am_T (d := 0) (m := 9) (T := tb9) (mL := 4) (rk := 1) (cuts := [(4, [1, 1, 2, 2])]) (l := []) rfl trivial 27 (And.intro (t).1 (And.intro (fun c4 => And.intro (((t).2).1 c4).1 ((((t).2).1 c4).2)) (fun c4 => And.intro (fun c5 => (((t).2).2 c4).1 c5) (fun c5 => And.intro ((((t).2).2 c4).2 c5).1 (((((t).2).2 c4).2 c5).2)))))
theorem L9 {K : Option am_V → am_H → Prop} {h : am_H} {o st : Int} (hn : 0 ≤ h (am_sv o + 1) 0 ∧ h (am_sv o + 1) 0 ≤ 20) (hi : ∀ x9, 0 ≤ x9 → x9 < h (am_sv o + 1) 0 → 0 ≤ h (o + 109) x9 ∧ h (o + 109) x9 < 20) (hK : K (some (mB (mkb (fun y9 => ∃ x9, (0 ≤ x9 ∧ x9 < h (am_sv o + 1) 0) ∧ bit st x9 ∧ h (o + 109) x9 = y9)))) h) : ∀ i, 0 ≤ i → i ≤ h (am_sv o + 1) 0 → am_AT 1 9 4 [some (mR 1 0 0 o), some (mB st), some (mI (mkb (fun y9 => ∃ x9, (0 ≤ x9 ∧ x9 < i) ∧ bit st x9 ∧ h (o + 109) x9 = y9))), some (mI i)] h K := by
  refine lp (h (am_sv o + 1) 0) (fun i ih i0 i1 => ?_)
  have mr := mkb_r (fun y9 => ∃ x9, (0 ≤ x9 ∧ x9 < i) ∧ bit st x9 ∧ h (o + 109) x9 = y9)
  refine T9_4 ⟨by omega, ⟨fun c1 => ⟨mr, ?_⟩, fun c1 => ⟨fun c2 => ?_, fun c2 => ⟨by omega, ?_⟩⟩⟩⟩
  · rw [show i = h (am_sv o + 1) 0 by omega]
    exact hK
  · rw [bt_has0 i0 (by omega)] at c2
    have e : mkb (fun y9 => ∃ x9, (0 ≤ x9 ∧ x9 < (i + 1)) ∧ bit st x9 ∧ h (o + 109) x9 = y9) = mkb (fun y9 => ∃ x9, (0 ≤ x9 ∧ x9 < i) ∧ bit st x9 ∧ h (o + 109) x9 = y9) := mkb_congr (fun j _ _ => ⟨fun ⟨x, a, b, d⟩ => ⟨x, by
      have : x ≠ i := fun z => c2 (z ▸ b)
      omega, b, d⟩, fun ⟨x, a, b, d⟩ => ⟨x, by omega, b, d⟩⟩)
    have := ih c1 (by omega) (by omega)
    rw [e] at this
    exact this
  · rw [bt_has0 i0 (by omega)] at c2
    have hr := hi i i0 c1
    have e : iOr (mkb (fun y9 => ∃ x9, (0 ≤ x9 ∧ x9 < i) ∧ bit st x9 ∧ h (o + 109) x9 = y9)) (iShl 1 (h (o + 109) i)) = mkb (fun y9 => ∃ x9, (0 ≤ x9 ∧ x9 < (i + 1)) ∧ bit st x9 ∧ h (o + 109) x9 = y9) := mkb_eq (rg_or _ _) (fun j => by
      rw [bt_or, bt_mk, bt_1 hr.1 (by omega)]
      constructor
      · rintro (⟨a, x, b, d⟩ | a)
        · exact ⟨a, x, by omega, d⟩
        · exact ⟨by omega, i, by omega, Classical.not_not.mp c2, a.symm⟩
      · rintro ⟨a, x, b, d, e⟩
        by_cases z : x = i
        · right; rw [← e, z]
        · left; exact ⟨a, x, by omega, d, e⟩)
    rw [e]
    exact ih c1 (by omega) (by omega)
theorem C9_ok : am_CS 1 9 C9 := W9 (fun o st h K hb => T9_0 (by
  have := L9 (st := st) hb.1.1 hb.1.2 hb.2 0 (by omega) hb.1.1.1
  rw [show mkb (fun y9 => ∃ x9, (0 ≤ x9 ∧ x9 < 0) ∧ bit st x9 ∧ h (o + 109) x9 = y9) = 0 from (mkb_eq (by unfold R32; omega) (fun j => ⟨fun w => absurd w bt_zero, fun w => by
    obtain ⟨x, a, _⟩ := w.2
    omega⟩)).symm] at this
  exact this))
/-! 10 FactorNets$Chain.sourceOf -/
def C10 : am_K := fun as h K => am_a3 as (fun v0 v1 v2 => am_o 0 v0 (fun o => am_n v1 (fun im => am_j v2 (fun ix => ((0 ≤ (h (am_sv o + 1) 0) ∧ (h (am_sv o + 1) 0) ≤ 20) ∧ S20 im ∧ (0 ≤ ix ∧ ix < iPop im) ∧ ∃ x9, (0 ≤ x9 ∧ x9 < (h (am_sv o + 1) 0)) ∧ h (o + 109) x9 = nthb im ix) ∧ (∀ (s9 : Int), (0 ≤ s9 ∧ s9 < (h (am_sv o + 1) 0)) ∧ h (o + 109) s9 = nthb im ix → K (some (mB (s9))) h)))))
theorem W10 {d : Nat} (H : ∀ (o : Int) (im : Int) (ix : Int) (h : am_H) (K : Option am_V → am_H → Prop), ((0 ≤ (h (am_sv o + 1) 0) ∧ (h (am_sv o + 1) 0) ≤ 20) ∧ S20 im ∧ (0 ≤ ix ∧ ix < iPop im) ∧ ∃ x9, (0 ≤ x9 ∧ x9 < (h (am_sv o + 1) 0)) ∧ h (o + 109) x9 = nthb im ix) ∧ (∀ (s9 : Int), (0 ≤ s9 ∧ s9 < (h (am_sv o + 1) 0)) ∧ h (o + 109) s9 = nthb im ix → K (some (mB (s9))) h) → am_AT d 10 0 [some (mR 1 0 0 o), some (mB im), some (mK ix), none, none, none, none] h K) : am_CS d 10 C10 := by
  refine am_CS_of (T := tb10) (mL := 7) (rk := 1) rfl (fun as h K hC => ?_)
  obtain ⟨v0, v1, v2, rfl, hC0⟩ := am_a3_e hC
  obtain ⟨o, rfl, hC1⟩ := am_o_e hC0
  obtain ⟨im, rfl, hC2⟩ := am_n_e hC1
  obtain ⟨ix, rfl, hC3⟩ := am_j_e hC2
  refine ⟨Nat.le_of_ble_eq_true rfl, ?_⟩
  exact H o im ix h K hC3
theorem T10_0 {R : Option am_V → am_H → Prop} {h : am_H} {o : Int} {im : Int} {ix : Int} (t : am_AT 3 10 6 [some (mR 1 0 0 o), none, some (mK ix), none, some (mI im), some (mI 0), none] h R) : am_AT 3 10 0 [some (mR 1 0 0 o), some (mB im), some (mK ix), none, none, none, none] h R :=
  am_T (d := 2) (m := 10) (T := tb10) (mL := 7) (rk := 1) (cuts := [(6, [1, 0, 1, 0, 2, 2, 0]), (46, [1, 0, 0, 0, 0, 2, 2])]) (l := [(177, C177)]) rfl ⟨am_CS_d (by decide) C177_ok, trivial⟩ 8 (t)
theorem T10_6 {R : Option am_V → am_H → Prop} {h : am_H} {o : Int} {ix : Int} {x4 : Int} {x5 : Int} (t : (R32 x5) ∧ (((20 ≤ x5) → ((R32 x4) ∧ ((0 < x4 ∧ x4 < 2147483648) ∧ (am_AT 3 10 46 [some (mR 1 0 0 o), none, none, none, none, some (mI (iLow x4)), some (mI 0)] h R)))) ∧ ((x5 < 20) → ((R32 x5) ∧ (((ix ≤ x5) → ((R32 x4) ∧ ((0 < x4 ∧ x4 < 2147483648) ∧ (am_AT 3 10 46 [some (mR 1 0 0 o), none, none, none, none, some (mI (iLow x4)), some (mI 0)] h R)))) ∧ ((x5 < ix) → (am_AT 3 10 6 [some (mR 1 0 0 o), none, some (mK ix), none, some (mI (iAnd x4 (x4 - 1))), some (mI (x5 + 1)), none] h R))))))) : am_AT 3 10 6 [some (mR 1 0 0 o), none, some (mK ix), none, some (mI x4), some (mI x5), none] h R :=
  am_T (d := 2) (m := 10) (T := tb10) (mL := 7) (rk := 1) (cuts := [(6, [1, 0, 1, 0, 2, 2, 0]), (46, [1, 0, 0, 0, 0, 2, 2])]) (l := [(177, C177)]) rfl ⟨am_CS_d (by decide) C177_ok, trivial⟩ 20 (And.intro (t).1 (And.intro (fun c6 => And.intro (((t).2).1 c6).1 (And.intro ((((t).2).1 c6).2).1 (((((t).2).1 c6).2).2))) (fun c6 => And.intro (((t).2).2 c6).1 (And.intro (fun c7 => And.intro (((((t).2).2 c6).2).1 c7).1 (And.intro ((((((t).2).2 c6).2).1 c7).2).1 (((((((t).2).2 c6).2).1 c7).2).2))) (fun c7 => ((((t).2).2 c6).2).2 c7)))))
theorem T10_46 {R : Option am_V → am_H → Prop} {h : am_H} {o : Int} {x5 : Int} {x6 : Int} (t : (R32 x6) ∧ (((h ((am_sv o) + 1) 0 ≤ x6) → (R (some (mB 0)) h)) ∧ ((x6 < h ((am_sv o) + 1) 0) → ((0 ≤ x6 ∧ x6 < 20) ∧ ((R32 x5) ∧ (((¬ h (o + 109) x6 = x5) → (am_AT 3 10 46 [some (mR 1 0 0 o), none, none, none, none, some (mI x5), some (mI (x6 + 1))] h R)) ∧ ((h (o + 109) x6 = x5) → ((R32 x6) ∧ (R (some (mB x6)) h))))))))) : am_AT 3 10 46 [some (mR 1 0 0 o), none, none, none, none, some (mI x5), some (mI x6)] h R :=
  am_T (d := 2) (m := 10) (T := tb10) (mL := 7) (rk := 1) (cuts := [(6, [1, 0, 1, 0, 2, 2, 0]), (46, [1, 0, 0, 0, 0, 2, 2])]) (l := [(177, C177)]) rfl ⟨am_CS_d (by decide) C177_ok, trivial⟩ 18 (And.intro (t).1 (And.intro (fun c8 => ((t).2).1 c8) (fun c8 => And.intro (((t).2).2 c8).1 (And.intro ((((t).2).2 c8).2).1 (And.intro (fun c9 => (((((t).2).2 c8).2).2).1 c9) (fun c9 => And.intro ((((((t).2).2 c8).2).2).2 c9).1 (((((((t).2).2 c8).2).2).2 c9).2)))))))
theorem L10b {K : Option am_V → am_H → Prop} {h : am_H} {o im ix : Int} (hn : 0 ≤ h (am_sv o + 1) 0 ∧ h (am_sv o + 1) 0 ≤ 20) (hK : ∀ s9, (0 ≤ s9 ∧ s9 < h (am_sv o + 1) 0) ∧ h (o + 109) s9 = nthb im ix → K (some (mB s9)) h) (ne : ∃ x9, (0 ≤ x9 ∧ x9 < h (am_sv o + 1) 0) ∧ h (o + 109) x9 = nthb im ix) (hr : R32 (nthb im ix)) : ∀ i, 0 ≤ i → i ≤ h (am_sv o + 1) 0 → (∀ j, 0 ≤ j → j < i → h (o + 109) j ≠ nthb im ix) → am_AT 3 10 46 [some (mR 1 0 0 o), none, none, none, none, some (mI (nthb im ix)), some (mI i)] h K := by
  refine lp (h (am_sv o + 1) 0) (fun i ih i0 i1 B => ?_)
  refine T10_46 ⟨by omega, ⟨fun c1 => ?_, fun c1 => ⟨by omega, ⟨hr, ⟨fun c2 => ?_, fun c2 => ⟨by omega, ?_⟩⟩⟩⟩⟩⟩
  · obtain ⟨x, a, b⟩ := ne
    exact absurd b (B x a.1 (by omega))
  · refine ih c1 (by omega) (by omega) (fun j a b => ?_)
    by_cases z : j = i
    · rw [z]; exact c2
    · exact B j a (by omega)
  · exact hK i ⟨⟨i0, c1⟩, c2⟩
theorem L10 {K : Option am_V → am_H → Prop} {h : am_H} {o im ix : Int} (hn : 0 ≤ h (am_sv o + 1) 0 ∧ h (am_sv o + 1) 0 ≤ 20) (hK : ∀ s9, (0 ≤ s9 ∧ s9 < h (am_sv o + 1) 0) ∧ h (o + 109) s9 = nthb im ix → K (some (mB s9)) h) (hs : S20 im) (hx : 0 ≤ ix ∧ ix < iPop im) (ne : ∃ x9, (0 ≤ x9 ∧ x9 < h (am_sv o + 1) 0) ∧ h (o + 109) x9 = nthb im ix) : ∀ i, ∀ left, 0 ≤ i → i ≤ ix → CLRn im left i → am_AT 3 10 6 [some (mR 1 0 0 o), none, some (mK ix), none, some (mI left), some (mI i), none] h K := by
  have l20 := iPop_le20 hs
  have nr := nthb_in hs hx.1 hx.2
  have hr : R32 (nthb im ix) := by unfold R32; omega
  refine lp ix (fun i ih left i0 i1 C => ?_)
  have cs := CLRn_s hs C i0 (by omega)
  have ps := S20_pos C.1 cs.1
  refine T10_6 ⟨by omega, ⟨fun c1 => ⟨by unfold R32; omega, ⟨by omega, ?_⟩⟩, fun c1 => ⟨by omega, ⟨fun c2 => ⟨by unfold R32; omega, ⟨by omega, ?_⟩⟩, fun c2 => ?_⟩⟩⟩⟩
  · omega
  · rw [cs.2.1, show i = ix by omega]
    exact L10b hn hK ne hr 0 (by omega) hn.1 (fun j a b => by omega)
  · exact ih c2 _ (by omega) (by omega) cs.2.2
theorem C10_ok : am_CS 3 10 C10 := W10 (fun o im ix h K hb => by
  obtain ⟨⟨hn, hs, hx, ne⟩, hK⟩ := hb
  exact T10_0 (L10 hn hK hs hx ne 0 im (by omega) hx.1 ⟨hs, fun y => ⟨fun w => ⟨w, (ct_le _ _).1⟩, fun w => w.1⟩⟩))
/-! 7 FactorNets$Chain.imageBy -/
def C7 : am_K := fun as h K => am_a3 as (fun v0 v1 v2 => am_o 0 v0 (fun o => am_j v1 (fun k => am_n v2 (fun p => (CHF h o ∧ (0 ≤ k ∧ k < h o 0) ∧ (0 ≤ p ∧ p < (h (am_sv o + 1) 0))) ∧ (∀ (h' : am_H), (∀ x9 i9, x9 ≠ o + 109 → x9 ≠ o + 110 → h' x9 i9 = h x9 i9) → K (some (mB (mvf (h (am_sv o + 1) 0) (svD h (am_sv o)) k p))) (h'))))))
theorem W7 {d : Nat} (H : ∀ (o : Int) (k : Int) (p : Int) (h : am_H) (K : Option am_V → am_H → Prop), (CHF h o ∧ (0 ≤ k ∧ k < h o 0) ∧ (0 ≤ p ∧ p < (h (am_sv o + 1) 0))) ∧ (∀ (h' : am_H), (∀ x9 i9, x9 ≠ o + 109 → x9 ≠ o + 110 → h' x9 i9 = h x9 i9) → K (some (mB (mvf (h (am_sv o + 1) 0) (svD h (am_sv o)) k p))) (h')) → am_AT d 7 0 [some (mR 1 0 0 o), some (mK k), none, some (mB p), none, none, none, none, none, none, none] h K) : am_CS d 7 C7 := by
  refine am_CS_of (T := tb7) (mL := 11) (rk := 1) rfl (fun as h K hC => ?_)
  obtain ⟨v0, v1, v2, rfl, hC0⟩ := am_a3_e hC
  obtain ⟨o, rfl, hC1⟩ := am_o_e hC0
  obtain ⟨k, rfl, hC2⟩ := am_j_e hC1
  obtain ⟨p, rfl, hC3⟩ := am_n_e hC2
  refine ⟨Nat.le_of_ble_eq_true rfl, ?_⟩
  exact H o k p h K hC3
theorem T7_0 {R : Option am_V → am_H → Prop} {h : am_H} {o : Int} {k : Int} {p : Int} (t : am_AT 4 7 3 [some (mR 1 0 0 o), some (mK k), none, some (mB p), some (mI 0), none, none, none, none, none, none] h R) : am_AT 4 7 0 [some (mR 1 0 0 o), some (mK k), none, some (mB p), none, none, none, none, none, none, none] h R :=
  am_T (d := 3) (m := 7) (T := tb7) (mL := 11) (rk := 1) (cuts := [(3, [1, 1, 0, 1, 2, 0, 0, 0, 0, 0, 0]), (37, [1, 0, 0, 1, 2, 0, 2, 0, 2, 0, 0])]) (l := [(8, C8), (9, C9), (10, C10), (317, C317)]) rfl ⟨am_CS_d (by decide) C8_ok, am_CS_d (by decide) C9_ok, am_CS_d (by decide) C10_ok, am_CS_d (by decide) C317_ok, trivial⟩ 6 (t)
theorem T7_3 {R : Option am_V → am_H → Prop} {h : am_H} {o : Int} {k : Int} {p : Int} {x4 : Int} (t : (R32 x4) ∧ (((20 ≤ x4) → (am_AT 4 7 37 [some (mR 1 0 0 o), none, none, some (mB p), some (mJ k), none, some (mJ (h o 0)), none, some (mI 0), none, none] h R)) ∧ ((x4 < 20) → ((0 ≤ x4 ∧ x4 < 20) ∧ ((R32 x4) ∧ (am_AT 4 7 3 [some (mR 1 0 0 o), some (mK k), none, some (mB p), some (mI (x4 + 1)), none, none, none, none, none, none] (am_up h (o + 109) x4 x4) R)))))) : am_AT 4 7 3 [some (mR 1 0 0 o), some (mK k), none, some (mB p), some (mI x4), none, none, none, none, none, none] h R :=
  am_T (d := 3) (m := 7) (T := tb7) (mL := 11) (rk := 1) (cuts := [(3, [1, 1, 0, 1, 2, 0, 0, 0, 0, 0, 0]), (37, [1, 0, 0, 1, 2, 0, 2, 0, 2, 0, 0])]) (l := [(8, C8), (9, C9), (10, C10), (317, C317)]) rfl ⟨am_CS_d (by decide) C8_ok, am_CS_d (by decide) C9_ok, am_CS_d (by decide) C10_ok, am_CS_d (by decide) C317_ok, trivial⟩ 14 (And.intro (t).1 (And.intro (fun c10 => ((t).2).1 c10) (fun c10 => And.intro (((t).2).2 c10).1 (And.intro ((((t).2).2 c10).2).1 (((((t).2).2 c10).2).2)))))
theorem T7_37 {R : Option am_V → am_H → Prop} {h : am_H} {o : Int} {p : Int} {x4 : Int} {x6 : Int} {x8 : Int} (t : (R32 x8) ∧ (((p < x8) → ((0 ≤ p ∧ p < 20) ∧ (R (some (mB (h (o + 109) p))) h))) ∧ ((x8 ≤ p) → ((0 ≤ x8 ∧ x8 < 20) ∧ ((0 ≤ (h (o + 66) x8) ∧ (h (o + 66) x8) < 2147483648) ∧ ((R64 x6) ∧ ((¬ max 1 (iPop (h (o + 66) x8)) = 0) ∧ ((R64 (Int.tdiv x6 (max 1 (iPop (h (o + 66) x8))))) ∧ ((R64 x4) ∧ ((¬ max 1 (Int.tdiv x6 (max 1 (iPop (h (o + 66) x8)))) = 0) ∧ ((0 ≤ x8 ∧ x8 < 20) ∧ (((0 ≤ (h (am_sv o + 1) 0) ∧ (h (am_sv o + 1) 0) ≤ 20) ∧ (∀ x9, 0 ≤ x9 → x9 < (h (am_sv o + 1) 0) → 0 ≤ h (o + 109) x9 ∧ h (o + 109) x9 < 20)) ∧ ((R64 (Int.tdiv x4 (max 1 (Int.tdiv x6 (max 1 (iPop (h (o + 66) x8))))))) ∧ (((0 ≤ (h (am_sv o + 1) 0) ∧ (h (am_sv o + 1) 0) ≤ 20) ∧ S20 (mkb (fun y9 => ∃ x9, (0 ≤ x9 ∧ x9 < (h (am_sv o + 1) 0)) ∧ bit (h (o + 66) x8) x9 ∧ h (o + 109) x9 = y9)) ∧ (0 ≤ (Int.tdiv x4 (max 1 (Int.tdiv x6 (max 1 (iPop (h (o + 66) x8)))))) ∧ (Int.tdiv x4 (max 1 (Int.tdiv x6 (max 1 (iPop (h (o + 66) x8)))))) < iPop (mkb (fun y9 => ∃ x9, (0 ≤ x9 ∧ x9 < (h (am_sv o + 1) 0)) ∧ bit (h (o + 66) x8) x9 ∧ h (o + 109) x9 = y9))) ∧ ∃ x9, (0 ≤ x9 ∧ x9 < (h (am_sv o + 1) 0)) ∧ h (o + 109) x9 = nthb (mkb (fun y9 => ∃ x9, (0 ≤ x9 ∧ x9 < (h (am_sv o + 1) 0)) ∧ bit (h (o + 66) x8) x9 ∧ h (o + 109) x9 = y9)) (Int.tdiv x4 (max 1 (Int.tdiv x6 (max 1 (iPop (h (o + 66) x8))))))) ∧ (∀ (s9 : Int), ((0 ≤ s9 ∧ s9 < (h (am_sv o + 1) 0)) ∧ h (o + 109) s9 = nthb (mkb (fun y9 => ∃ x9, (0 ≤ x9 ∧ x9 < (h (am_sv o + 1) 0)) ∧ bit (h (o + 66) x8) x9 ∧ h (o + 109) x9 = y9)) (Int.tdiv x4 (max 1 (Int.tdiv x6 (max 1 (iPop (h (o + 66) x8))))))) → ((R32 x8) ∧ ((HO0 o ∧ SVM h (am_sv o) ∧ GOK h o 0 ∧ (0 ≤ x8 ∧ x8 < (h (am_sv o + 1) 0)) ∧ (0 ≤ s9 ∧ s9 < (h (am_sv o + 1) 0)) ∧ S20 (h (o + 66) x8) ∧ trc h o x8 19 s9) ∧ (∀ (h' : am_H), (((∀ x9 i9, x9 ≠ o + 109 → x9 ≠ o + 110 → h' x9 i9 = h x9 i9) ∧ TKF h h' o x8 s9)) → (am_AT 4 7 37 [some (mR 1 0 0 o), none, none, some (mB p), some (mJ (x4 - ((Int.tdiv x4 (max 1 (Int.tdiv x6 (max 1 (iPop (h (o + 66) x8)))))) * (Int.tdiv x6 (max 1 (iPop (h (o + 66) x8))))))), none, some (mJ (Int.tdiv x6 (max 1 (iPop (h (o + 66) x8))))), none, some (mI (x8 + 1)), none, none] h' R))))))))))))))))))) : am_AT 4 7 37 [some (mR 1 0 0 o), none, none, some (mB p), some (mJ x4), none, some (mJ x6), none, some (mI x8), none, none] h R :=
  am_T (d := 3) (m := 7) (T := tb7) (mL := 11) (rk := 1) (cuts := [(3, [1, 1, 0, 1, 2, 0, 0, 0, 0, 0, 0]), (37, [1, 0, 0, 1, 2, 0, 2, 0, 2, 0, 0])]) (l := [(8, C8), (9, C9), (10, C10), (317, C317)]) rfl ⟨am_CS_d (by decide) C8_ok, am_CS_d (by decide) C9_ok, am_CS_d (by decide) C10_ok, am_CS_d (by decide) C317_ok, trivial⟩ 44 (And.intro (t).1 (And.intro (fun c11 => And.intro (((t).2).1 c11).1 ((((t).2).1 c11).2)) (fun c11 => And.intro (((t).2).2 c11).1 (And.intro ((((t).2).2 c11).2).1 (And.intro (((((t).2).2 c11).2).2).1 (And.intro ((((((t).2).2 c11).2).2).2).1 (And.intro (((((((t).2).2 c11).2).2).2).2).1 (And.intro ((((((((t).2).2 c11).2).2).2).2).2).1 (And.intro (((((((((t).2).2 c11).2).2).2).2).2).2).1 (And.intro ((((((((((t).2).2 c11).2).2).2).2).2).2).2).1 (And.intro (((((((((((t).2).2 c11).2).2).2).2).2).2).2).2).1 (And.intro ((((((((((((t).2).2 c11).2).2).2).2).2).2).2).2).2).1 (And.intro (((((((((((((t).2).2 c11).2).2).2).2).2).2).2).2).2).2).1 (fun z1_0 z1_1 => And.intro (((((((((((((((t).2).2 c11).2).2).2).2).2).2).2).2).2).2).2) z1_0 z1_1).1 (And.intro ((((((((((((((((t).2).2 c11).2).2).2).2).2).2).2).2).2).2).2) z1_0 z1_1).2).1 (fun z2_0 z2_1 => (((((((((((((((((t).2).2 c11).2).2).2).2).2).2).2).2).2).2).2) z1_0 z1_1).2).2) z2_0 z2_1))))))))))))))))
theorem L7 {K : Option am_V → am_H → Prop} {h : am_H} {o k p : Int} (C : CHF h o) (hk : 0 ≤ k ∧ k < h o 0) (hp : 0 ≤ p ∧ p < h (am_sv o + 1) 0) (hK : ∀ h', (∀ x9 i9, x9 ≠ o + 109 → x9 ≠ o + 110 → h' x9 i9 = h x9 i9) → K (some (mB (mvf (h (am_sv o + 1) 0) (svD h (am_sv o)) k p))) h') : ∀ i, ∀ g : am_H, 0 ≤ i → i ≤ p + 1 → (∀ x j, x ≠ o + 109 → x ≠ o + 110 → g x j = h x j) → AU (h (am_sv o + 1) 0) (svD h (am_sv o)) (g (o + 109)) → (∀ j, 0 ≤ j → j < i → g (o + 109) j = mvf (h (am_sv o + 1) 0) (svD h (am_sv o)) k j) → am_AT 4 7 37 [some (mR 1 0 0 o), none, none, some (mB p), some (mJ (mrs (h (am_sv o + 1) 0) (svD h (am_sv o)) k i.toNat)), none, some (mJ (lvr (h (am_sv o + 1) 0) (svD h (am_sv o)) ((h (am_sv o + 1) 0) - i).toNat)), none, some (mI i), none, none] g K := by
  obtain ⟨ho, S, G, PL, O⟩ := id C
  have ho' := ho
  unfold HO0 at ho'
  have hn := S.1.2.1
  have hn0 := S.1.1
  have M : DM (h (am_sv o + 1) 0) (svD h (am_sv o)) := DM_ds S.1 S.2.1
  refine lp (p + 1) (fun i ih g i0 i1 F A E => ?_)
  have sf := SVM_fr S (g := g) (fun x j a b => F x j (by omega) (by omega))
  have eD : svD g (am_sv o) = svD h (am_sv o) := by unfold svD; rw [sf.2.2]
  have en := sf.2.1
  have e66 : g (o + 66) i = h (o + 66) i := F _ _ (by omega) (by omega)
  have pl : i ≤ p → h (o + 66) i = mkb (orbS (h (am_sv o + 1) 0) (svD h (am_sv o)) i) := fun z => (PL i i0 (by omega)).1
  have pop : i ≤ p → iPop (g (o + 66) i) = ct (orbS (h (am_sv o + 1) 0) (svD h (am_sv o)) i) 20 := fun z => by rw [e66, pl z, iPop_mk]
  have oc : i ≤ p → 1 ≤ ct (orbS (h (am_sv o + 1) 0) (svD h (am_sv o)) i) 20 := fun z => (orb_ct (D := (svD h (am_sv o))) M (k := i) ⟨i0, by omega⟩).1
  have mx : i ≤ p → max 1 (iPop (g (o + 66) i)) = ct (orbS (h (am_sv o + 1) 0) (svD h (am_sv o)) i) 20 := fun z => by rw [pop z]; have := oc z; omega
  have lw := (lvr_64 (D := (svD h (am_sv o))) M (m := ((h (am_sv o + 1) 0) - 1 - i).toNat) (by omega))
  have lw1 : i ≤ p → 1 ≤ lvr (h (am_sv o + 1) 0) (svD h (am_sv o)) ((h (am_sv o + 1) 0) - i).toNat ∧ lvr (h (am_sv o + 1) 0) (svD h (am_sv o)) ((h (am_sv o + 1) 0) - i).toNat ≤ 2432902008176640000 := fun z => lvr_64 (D := (svD h (am_sv o))) M (m := ((h (am_sv o + 1) 0) - i).toNat) (by omega)
  have ea : i ≤ p → Int.tdiv (lvr (h (am_sv o + 1) 0) (svD h (am_sv o)) ((h (am_sv o + 1) 0) - i).toNat) (max 1 (iPop (g (o + 66) i))) = lvr (h (am_sv o + 1) 0) (svD h (am_sv o)) ((h (am_sv o + 1) 0) - 1 - i).toNat := fun z => by
    have := oc z
    rw [mx z, lvr_S ⟨i0, by omega⟩, Int.tdiv_eq_ediv_of_nonneg (Int.mul_nonneg (by omega) (by omega)), Int.mul_ediv_cancel_left _ (by omega)]
  have mx2 : i ≤ p → max 1 (lvr (h (am_sv o + 1) 0) (svD h (am_sv o)) ((h (am_sv o + 1) 0) - 1 - i).toNat) = lvr (h (am_sv o + 1) 0) (svD h (am_sv o)) ((h (am_sv o + 1) 0) - 1 - i).toNat := fun z => by omega
  have hk' : 0 ≤ k ∧ k < lvr (h (am_sv o + 1) 0) (svD h (am_sv o)) (h (am_sv o + 1) 0).toNat := by rw [← O]; exact hk
  have mr : i ≤ p → 0 ≤ mrs (h (am_sv o + 1) 0) (svD h (am_sv o)) k i.toNat ∧ mrs (h (am_sv o + 1) 0) (svD h (am_sv o)) k i.toNat < lvr (h (am_sv o + 1) 0) (svD h (am_sv o)) ((h (am_sv o + 1) 0) - i).toNat := fun z => by
    have := mrs_r M hk' i.toNat (by omega)
    rw [show ((i.toNat : Nat) : Int) = i by omega] at this
    exact this
  have ix : i ≤ p → Int.tdiv (mrs (h (am_sv o + 1) 0) (svD h (am_sv o)) k i.toNat) (max 1 (Int.tdiv (lvr (h (am_sv o + 1) 0) (svD h (am_sv o)) ((h (am_sv o + 1) 0) - i).toNat) (max 1 (iPop (g (o + 66) i))))) = mrs (h (am_sv o + 1) 0) (svD h (am_sv o)) k i.toNat / lvr (h (am_sv o + 1) 0) (svD h (am_sv o)) ((h (am_sv o + 1) 0) - 1 - i).toNat := fun z => by
    rw [ea z, mx2 z, Int.tdiv_eq_ediv_of_nonneg (mr z).1]
  have ir : i ≤ p → 0 ≤ mrs (h (am_sv o + 1) 0) (svD h (am_sv o)) k i.toNat / lvr (h (am_sv o + 1) 0) (svD h (am_sv o)) ((h (am_sv o + 1) 0) - 1 - i).toNat ∧ mrs (h (am_sv o + 1) 0) (svD h (am_sv o)) k i.toNat / lvr (h (am_sv o + 1) 0) (svD h (am_sv o)) ((h (am_sv o + 1) 0) - 1 - i).toNat < ct (orbS (h (am_sv o + 1) 0) (svD h (am_sv o)) i) 20 := fun z => by
    refine ⟨Int.ediv_nonneg (mr z).1 (by omega), Int.ediv_lt_of_lt_mul (by omega) ?_⟩
    have := (mr z).2
    rw [lvr_S ⟨i0, by omega⟩] at this
    exact this
  have im : i ≤ p → mkb (fun y9 => ∃ x9, (0 ≤ x9 ∧ x9 < (h (am_sv o + 1) 0)) ∧ bit (g (o + 66) i) x9 ∧ g (o + 109) x9 = y9) = mkb (PFX (h (am_sv o + 1) 0) (svD h (am_sv o)) (mvf (h (am_sv o + 1) 0) (svD h (am_sv o)) k) i) := fun z => mkb_congr (fun j _ _ => by
    rw [PFX_img M A ⟨i0, by omega⟩ E j]
    have bb : ∀ x, (0 ≤ x ∧ x < (h (am_sv o + 1) 0)) → (bit (g (o + 66) i) x ↔ orbS (h (am_sv o + 1) 0) (svD h (am_sv o)) i x) := fun x hx => by
      rw [e66, pl z, bt_mk]
      exact ⟨fun w => w.2, fun w => ⟨by omega, w⟩⟩
    exact ⟨fun ⟨x, a, b, c⟩ => ⟨x, a, (bb x a).mp b, c⟩, fun ⟨x, a, b, c⟩ => ⟨x, a, (bb x a).mpr b, c⟩⟩)
  have ipx : i ≤ p → iPop (mkb (PFX (h (am_sv o + 1) 0) (svD h (am_sv o)) (mvf (h (am_sv o + 1) 0) (svD h (am_sv o)) k) i)) = ct (orbS (h (am_sv o + 1) 0) (svD h (am_sv o)) i) 20 := fun z => by rw [iPop_mk]; exact PFX_ct M A ⟨i0, by omega⟩ E
  have nb : i ≤ p → ∃ x9, (0 ≤ x9 ∧ x9 < (h (am_sv o + 1) 0)) ∧ orbS (h (am_sv o + 1) 0) (svD h (am_sv o)) i x9 ∧ g (o + 109) x9 = mvf (h (am_sv o + 1) 0) (svD h (am_sv o)) k i := fun z => by
    have w := nthb_in (S20_mk (PFX (h (am_sv o + 1) 0) (svD h (am_sv o)) (mvf (h (am_sv o + 1) 0) (svD h (am_sv o)) k) i)) (ir z).1 (by rw [ipx z]; exact (ir z).2)
    rw [← mvf_eq i0, bt_mk, PFX_img M A ⟨i0, by omega⟩ E] at w
    exact w.1.2
  refine T7_37 ⟨by omega, ⟨fun c1 => ⟨by omega, ?_⟩, fun c1 => ⟨by omega, ⟨by
    rw [e66, pl c1]
    have := mkb_c (orbS (h (am_sv o + 1) 0) (svD h (am_sv o)) i)
    omega, ⟨by have := lw1 c1; unfold R64; omega, ⟨by have := oc c1; rw [mx c1]; omega, ⟨by rw [ea c1]; unfold R64; omega, ⟨by have := lw1 c1; have := mr c1; unfold R64; omega, ⟨by rw [ea c1, mx2 c1]; omega, ⟨by omega, ⟨by
    rw [en]
    exact ⟨by omega, fun x a b => by have := A.1 x a b; omega⟩, ⟨by
    rw [ix c1]
    have := ir c1
    have := ct_le (orbS (h (am_sv o + 1) 0) (svD h (am_sv o)) i) 20
    unfold R64
    omega, ⟨by
    rw [en, im c1, ix c1, ← mvf_eq i0, ipx c1]
    obtain ⟨x, a, b, d⟩ := nb c1
    exact ⟨by omega, S20_mk _, ir c1, x, a, d⟩, fun s9 q2 => ⟨by omega, ⟨by
    rw [en, im c1, ix c1, ← mvf_eq i0] at q2
    obtain ⟨x, a, b, d⟩ := nb c1
    have xe : s9 = x := AU_inj M A q2.1 a (q2.2.trans d.symm)
    have G2 : GOK g o 0 := by
      unfold GOK
      rw [en, eD, F o 4 (by omega) (by omega)]
      have gl := G.1
      refine ⟨G.1, fun j u v => ?_⟩
      rw [show g (o + 2 + j) = h (o + 2 + j) from funext fun y => F _ _ (by omega) (by omega)]
      exact G.2 j u v
    rw [en, e66, xe, pl c1]
    refine ⟨ho, sf.1, G2, ⟨i0, by omega⟩, a, S20_mk _, ?_⟩
    have gl := G.1
    refine trc_fr (h := h) (fun y _ => ⟨F _ _ (by omega) (by omega), F _ _ (by omega) (by omega)⟩) (fun y u => by rw [e66]; exact u) (fun j u v y => F _ _ (by omega) (by omega)) (by rw [F o 4 (by omega) (by omega)]; omega) 19 x ?_ ((PL i i0 (by omega)).2 x b)
    rw [pl c1, bt_mk]
    exact ⟨by omega, b⟩, fun h' q3 => ?_⟩⟩⟩⟩⟩⟩⟩⟩⟩⟩⟩⟩⟩⟩⟩
  · rw [E p hp.1 (by omega)]
    exact hK g F
  · rw [en, im c1, ix c1, ← mvf_eq i0] at q2
    rw [ix c1, ea c1]
    obtain ⟨f3, w, W, w1, w2, w3⟩ := q3
    rw [en, eD] at W
    rw [en] at w3
    have nx := ih (by omega) h' (by omega) (by omega) (fun x j a b => (f3 x j a b).trans (F x j a b)) (AU_cg (AU_comp A W) (fun x a b => w3 x a b)) (fun j a b => ?_)
    · rw [mrs_S i0, show ((h (am_sv o + 1) 0) - (i + 1)).toNat = ((h (am_sv o + 1) 0) - 1 - i).toNat by omega] at nx
      have e : mrs (h (am_sv o + 1) 0) (svD h (am_sv o)) k i.toNat - mrs (h (am_sv o + 1) 0) (svD h (am_sv o)) k i.toNat / lvr (h (am_sv o + 1) 0) (svD h (am_sv o)) ((h (am_sv o + 1) 0) - 1 - i).toNat * lvr (h (am_sv o + 1) 0) (svD h (am_sv o)) ((h (am_sv o + 1) 0) - 1 - i).toNat = mrs (h (am_sv o + 1) 0) (svD h (am_sv o)) k i.toNat % lvr (h (am_sv o + 1) 0) (svD h (am_sv o)) ((h (am_sv o + 1) 0) - 1 - i).toNat := by
        rw [Int.emod_def, Int.mul_comm (lvr (h (am_sv o + 1) 0) (svD h (am_sv o)) ((h (am_sv o + 1) 0) - 1 - i).toNat)]
      rw [e]
      exact nx
    · rw [w3 j a (by omega)]
      by_cases z : j = i
      · rw [z, w2]
        exact q2.2
      · rw [w1 j a (by omega)]
        exact E j a (by omega)
theorem L7a {K : Option am_V → am_H → Prop} {h : am_H} {o k p : Int} (C : CHF h o) (hk : 0 ≤ k ∧ k < h o 0) (hp : 0 ≤ p ∧ p < h (am_sv o + 1) 0) (hK : ∀ h', (∀ x9 i9, x9 ≠ o + 109 → x9 ≠ o + 110 → h' x9 i9 = h x9 i9) → K (some (mB (mvf (h (am_sv o + 1) 0) (svD h (am_sv o)) k p))) h') : ∀ i, ∀ g : am_H, 0 ≤ i → i ≤ 20 → (∀ x j, x ≠ o + 109 → x ≠ o + 110 → g x j = h x j) → (∀ j, 0 ≤ j → j < i → g (o + 109) j = j) → am_AT 4 7 3 [some (mR 1 0 0 o), some (mK k), none, some (mB p), some (mI i), none, none, none, none, none, none] g K := by
  have hn := C.2.1.1.2.1
  have ho' := C.1
  unfold HO0 at ho'
  refine lp 20 (fun i ih g i0 i1 F E => ?_)
  refine T7_3 ⟨by omega, ⟨fun c1 => ?_, fun c1 => ⟨by omega, ⟨by omega, ?_⟩⟩⟩⟩
  · have w := L7 C hk hp hK 0 g (by omega) (by omega) F (AU_cg (AU_id _ _) (fun x a b => E x a (by omega))) (fun j a b => by omega)
    rw [F o 0 (by omega) (by omega), C.2.2.2.2]
    rw [show ((h (am_sv o + 1) 0) - 0).toNat = (h (am_sv o + 1) 0).toNat by omega] at w
    exact w
  · refine ih c1 _ (by omega) (by omega) (fun x j a b => by rw [am_up_ne a]; exact F x j a b) (fun j a b => ?_)
    by_cases z : j = i
    · rw [z, am_up_eq]
    · rw [am_up_ne2 z]; exact E j a (by omega)
theorem C7_ok : am_CS 4 7 C7 := W7 (fun o k p h K hb => T7_0 (L7a hb.1.1 hb.1.2.1 hb.1.2.2 hb.2 0 h (by omega) (by omega) (fun _ _ _ _ => rfl) (fun j a b => by omega)))
