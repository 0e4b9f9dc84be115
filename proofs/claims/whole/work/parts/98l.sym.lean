/-! ===== the class's questions about symmetries ===== -/
def orbA (s : Int) (D : Int → Int → Int) (p y : Int) : Prop := ∃ f, AU s D f ∧ f p = y
def tkA (s : Int) (D : Int → Int → Int) (a b c d : Int) : Prop := ∃ f, AU s D f ∧ f a = b ∧ f c = d
def LSa (s : Int) (D : Int → Int → Int) (x : Int) : Prop := x < s ∧ ∀ y, 0 ≤ y → y < x → ¬ orbA s D y x
theorem orbA_sym {s : Int} {D : Int → Int → Int} (M : DM s D) {x y : Int} (hx : 0 ≤ x ∧ x < s) (h : orbA s D x y) : orbA s D y x := by
  obtain ⟨f, F, e⟩ := h
  obtain ⟨v, V, v1, v2⟩ := AU_inv M F
  exact ⟨v, V, by rw [← e]; exact v1 x hx.1 hx.2⟩
theorem orbA_tr {s : Int} {D : Int → Int → Int} {x y z : Int} (h : orbA s D x y) (h2 : orbA s D y z) : orbA s D x z := by
  obtain ⟨f, F, e⟩ := h
  obtain ⟨g, G, e2⟩ := h2
  exact ⟨fun x => g (f x), AU_comp G F, by show g (f x) = z; rw [e]; exact e2⟩
theorem orbA_in {s : Int} {D : Int → Int → Int} {x y : Int} (hx : 0 ≤ x ∧ x < s) (h : orbA s D x y) : 0 ≤ y ∧ y < s := by
  obtain ⟨f, F, e⟩ := h
  rw [← e]
  exact F.1 x hx.1 hx.2
theorem orbA_rf {s : Int} {D : Int → Int → Int} (x : Int) : orbA s D x x := ⟨fun x => x, AU_id s D, rfl⟩
def CHX (h : am_H) : Prop := h 5 4 = 1 ∧ CHF h 196 ∧ KIN h 307
def CHI (h : am_H) : Prop := h 0 17 = 1 → CHX h
def CQ (h g : am_H) : Prop := SV g 5 ∧ (∀ x i, ¬ (8 < x ∧ x ≤ 78) → ¬ (x = 5 ∧ 4 ≤ i ∧ i ≤ 6) → ¬ (196 ≤ x ∧ x ≤ 332) → ¬ (x = 0 ∧ i = 17) → g x i = h x i) ∧ (nr g 7 0 = nr h 7 0 ∧ g 6 0 = h 6 0) ∧ ((h 5 4 = 1 → g 5 4 = 1) ∧ (h 5 5 = 1 → g 5 5 = 1) ∧ (h 5 6 = 1 → g 5 6 = 1)) ∧ CHI g
theorem CQ_rf {h : am_H} (S : SV h 5) (C : CHI h) : CQ h h := ⟨S, fun _ _ _ _ _ _ => rfl, ⟨rfl, rfl⟩, ⟨id, id, id⟩, C⟩
theorem CQ_tr {h g k : am_H} (A : CQ h g) (B : CQ g k) : CQ h k := ⟨B.1, fun x i a b c d => (B.2.1 x i a b c d).trans (A.2.1 x i a b c d), ⟨B.2.2.1.1.trans A.2.2.1.1, B.2.2.1.2.trans A.2.2.1.2⟩, ⟨fun q => B.2.2.2.1.1 (A.2.2.2.1.1 q), fun q => B.2.2.2.1.2.1 (A.2.2.2.1.2.1 q), fun q => B.2.2.2.1.2.2 (A.2.2.2.1.2.2 q)⟩, B.2.2.2.2⟩
theorem sv196 : am_sv 196 = 5 := by decide
theorem sv307 : am_sv 307 = 5 := by decide
theorem CHX_fr {h g : am_H} (C : CHX h) (S : SV g 5) (e4 : h 5 4 = 1 → g 5 4 = 1) (en : g 6 0 = h 6 0) (er : nr g 7 0 = nr h 7 0) (e : ∀ x i, 196 ≤ x → x ≤ 332 → x ≠ 305 → x ≠ 306 → x ≠ 308 → ¬ (310 ≤ x ∧ x ≤ 330) → g x i = h x i) : CHX g := by
  obtain ⟨f4, ⟨ho, SS, G, PL, O⟩, KN⟩ := C
  have eD : svD g 5 = svD h 5 := by unfold svD; rw [show (5 : Int) + 2 = 7 by omega, er]
  have s1 : (5 : Int) + 1 = 6 := by omega
  have hn := S.1.1.2.1
  rw [s1, en] at hn
  have gl := G.1
  rw [sv196] at SS
  unfold GOK at G
  rw [sv196, s1] at G
  have M : DM (h 6 0) (svD h 5) := DM_ds SS.1 SS.2.1
  have S2 : SVM g 5 := ⟨S.1.1, S.1.2, S.2.2.1 (e4 f4)⟩
  refine ⟨e4 f4, ⟨ho, by rw [sv196]; exact S2, ?_, fun p a b => ?_, ?_⟩, ?_⟩
  · unfold GOK
    rw [sv196, s1, en, eD, e 196 4 (by omega) (by omega) (by omega) (by omega) (by omega) (by omega)]
    refine ⟨G.1, fun i a b => ?_⟩
    rw [show g (196 + 2 + i) = h (196 + 2 + i) from funext fun x => e _ _ (by omega) (by omega) (by omega) (by omega) (by omega) (by omega)]
    exact G.2 i a b
  · rw [sv196, s1, en] at b
    have L := PL p a (by rw [sv196, s1]; exact b)
    unfold PLD at L ⊢
    rw [sv196, s1] at L ⊢
    rw [en, eD, e (196 + 66) p (by omega) (by omega) (by omega) (by omega) (by omega) (by omega)]
    refine ⟨L.1, fun to w => trc_fr (h := h) (fun x _ => ⟨e _ _ (by omega) (by omega) (by omega) (by omega) (by omega) (by omega), e _ _ (by omega) (by omega) (by omega) (by omega) (by omega) (by omega)⟩) (fun x q => by rw [e (196 + 66) p (by omega) (by omega) (by omega) (by omega) (by omega) (by omega)]; exact q) (fun i u v x => e _ _ (by omega) (by omega) (by omega) (by omega) (by omega) (by omega)) (by rw [e 196 4 (by omega) (by omega) (by omega) (by omega) (by omega) (by omega)]; omega) 19 to ?_ (L.2 to w)⟩
    rw [L.1, bt_mk]
    have r := orbS_r M ⟨a, b⟩ w
    exact ⟨by omega, w⟩
  · rw [sv196, s1, en, eD, e 196 0 (by omega) (by omega) (by omega) (by omega) (by omega) (by omega)]
    rw [sv196, s1] at O
    exact O
  · unfold KIN at KN ⊢
    rw [sv307, s1] at KN ⊢
    rw [en, eD, show g (307 + 24) = h (307 + 24) from funext fun x => e _ _ (by omega) (by omega) (by omega) (by omega) (by omega) (by omega)]
    exact KN
theorem CHI_fr {h g : am_H} (C : CHI h) (e17 : g 0 17 = h 0 17) (S : SV g 5) (e4 : h 5 4 = 1 → g 5 4 = 1) (en : g 6 0 = h 6 0) (er : nr g 7 0 = nr h 7 0) (e : ∀ x i, 196 ≤ x → x ≤ 332 → x ≠ 305 → x ≠ 306 → x ≠ 308 → ¬ (310 ≤ x ∧ x ≤ 330) → g x i = h x i) : CHI g := fun z => CHX_fr (C (by rw [← e17]; exact z)) S e4 en er e
theorem CHI_5 {h : am_H} (C : CHI h) (z : h 0 17 = 1) : (HO0 196 ∧ SVM h (am_sv 196) ∧ GOK h 196 0) ∧ h 196 0 = lvr (h 6 0) (ds (ad (nr h 7 0))) (h 6 0).toNat ∧ DM (h 6 0) (ds (ad (nr h 7 0))) ∧ ∀ p, (0 ≤ p ∧ p < h 6 0) → mkb (fun y9 => ∃ x9, bit (iShl 1 p) x9 ∧ rc (GE h 196) x9 y9) = mkb (orbA (h 6 0) (ds (ad (nr h 7 0))) p) := by
  obtain ⟨f4, CF, KN⟩ := C z
  have CF2 := CF
  obtain ⟨ho, SS, G, PL, O⟩ := CF
  have s1 : (5 : Int) + 1 = 6 := by omega
  have eD : svD h 5 = ds (ad (nr h 7 0)) := by unfold svD; rw [show (5 : Int) + 2 = 7 by omega]
  have O2 := O
  rw [sv196, s1, eD] at O2
  have S2 := SS
  rw [sv196] at S2
  have M : DM (h 6 0) (ds (ad (nr h 7 0))) := DM_ds S2.1 S2.2.1
  refine ⟨⟨ho, SS, G⟩, O2, M, fun p hp => mkb_congr (fun j _ _ => ?_)⟩
  have hn := M.1
  have gn := fun y => GEN CF2 (x := p) (y := y) (by rw [sv196, s1]; exact hp)
  rw [sv196, s1, eD] at gn
  constructor
  · rintro ⟨x, a, b⟩
    rw [bt_1 hp.1 (by omega)] at a
    rw [a] at b
    exact (gn j).mp b
  · intro w
    exact ⟨p, (bt_1 hp.1 (by omega)).mpr rfl, (gn j).mpr w⟩
/-! 155 FactorNets.learnChain -/
def C155 : am_K := fun as h K => am_a1 as (fun v0 => am_oc 11 0 v0 ((SV h 5 ∧ CHI h) ∧ (∀ (h' : am_H), CQ h h' ∧ h' 0 17 = 1 → K (some (mR 1 0 0 (196))) (h'))))
theorem W155 {d : Nat} (H : ∀  (h : am_H) (K : Option am_V → am_H → Prop), (SV h 5 ∧ CHI h) ∧ (∀ (h' : am_H), CQ h h' ∧ h' 0 17 = 1 → K (some (mR 1 0 0 (196))) (h')) → am_AT d 155 0 [some (mR 1 11 0 0)] h K) : am_CS d 155 C155 := by
  refine am_CS_of (T := tb155) (mL := 1) (rk := 3) rfl (fun as h K hC => ?_)
  obtain ⟨v0, rfl, hC0⟩ := am_a1_e hC
  obtain ⟨e0, hC1⟩ := am_oc_e hC0
  subst e0
  refine ⟨Nat.le_of_ble_eq_true rfl, ?_⟩
  exact H  h K hC1
theorem T155_0 {R : Option am_V → am_H → Prop} {h : am_H} (t : ((¬ h 0 17 = 0) → (R (some (mR 1 0 0 196)) h)) ∧ ((h 0 17 = 0) → ((HO0 (196 : Int) ∧ SV h (am_sv (196 : Int))) ∧ (∀ (h' : am_H), (CHL h h' (196 : Int) ∧ CHF h' (196 : Int) ∧ KIN h' ((196 : Int) + 111)) → (R (some (mR 1 0 0 196)) (am_up h' 0 17 1)))))) : am_AT 28 155 0 [some (mR 1 11 0 0)] h R :=
  am_T (d := 27) (m := 155) (T := tb155) (mL := 1) (rk := 3) (cuts := []) (l := [(1, C1)]) rfl ⟨am_CS_d (by decide) C1_ok, trivial⟩ 16 (And.intro (fun c1 => (t).1 c1) (fun c1 => And.intro ((t).2 c1).1 (fun z1_0 z1_1 => And.intro (Or.inr rfl) ((((t).2 c1).2) z1_0 z1_1))))
theorem C155_ok : am_CS 28 155 C155 := W155 (fun h K hb => am_AT_ok (fun hw hl => by
  obtain ⟨⟨S, C⟩, hK⟩ := hb
  refine T155_0 ⟨fun c1 => ?_, fun c1 => ⟨by rw [sv196]; exact ⟨Or.inl ⟨rfl, sv196⟩, S⟩, fun h' q2 => ?_⟩⟩
  · have e : h 0 17 = 1 := by
      have : h 0 17 = 0 ∨ h 0 17 = 1 := wf_b 11 17 hw (hl 0 _ rfl) rfl rfl
      omega
    exact hK h ⟨CQ_rf S C, e⟩
  · obtain ⟨L, CF, KN⟩ := q2
    unfold CHL at L
    rw [sv196] at L
    have f : ∀ x i, ¬ (x = 0 ∧ i = 17) → am_up h' 0 17 1 x i = h' x i := fun x i a => am_up_n2 a
    have er : nr (am_up h' 0 17 1) 7 0 = nr h' 7 0 := nr_fr2 (fun i => f _ _ (by omega))
    have SG : SV (am_up h' 0 17 1) 5 := SV_fra L.1 (fun x i a b => f x i (by omega))
    have CX : CHX h' := ⟨L.2.2.2.2.2, CF, by rw [show (307 : Int) = 196 + 111 by omega]; exact KN⟩
    have CC : CHI (am_up h' 0 17 1) := fun _ => CHX_fr CX SG (fun z => by rw [f _ _ (by omega)]; exact z) (f _ _ (by omega)) er (fun x i a b _ _ _ _ => f x i (by omega))
    refine hK _ ⟨⟨SG, fun x i a b c d => (f x i d).trans (L.2.1 x i (by omega) (by omega) (by omega)), ⟨er.trans L.2.2.1, (f _ _ (by omega)).trans L.2.2.2.1⟩, ?_, CC⟩, am_up_eq⟩
    rw [f _ 4 (by omega), f _ 5 (by omega), f _ 6 (by omega)]
    exact L.2.2.2.2.1))
/-! 119 FactorNets.allSymmetries -/
def C119 : am_K := fun as h K => am_a1 as (fun v0 => am_oc 11 0 v0 ((SV h 5 ∧ CHI h) ∧ (∀ (h' : am_H), CQ h h' → K (some (mK (ifc (0 < (h 6 0)) (lvr (h 6 0) (ds (ad (nr h 7 0))) (h 6 0).toNat) (-2)))) (h'))))
theorem W119 {d : Nat} (H : ∀  (h : am_H) (K : Option am_V → am_H → Prop), (SV h 5 ∧ CHI h) ∧ (∀ (h' : am_H), CQ h h' → K (some (mK (ifc (0 < (h 6 0)) (lvr (h 6 0) (ds (ad (nr h 7 0))) (h 6 0).toNat) (-2)))) (h')) → am_AT d 119 0 [some (mR 1 11 0 0)] h K) : am_CS d 119 C119 := by
  refine am_CS_of (T := tb119) (mL := 1) (rk := 2) rfl (fun as h K hC => ?_)
  obtain ⟨v0, rfl, hC0⟩ := am_a1_e hC
  obtain ⟨e0, hC1⟩ := am_oc_e hC0
  subst e0
  refine ⟨Nat.le_of_ble_eq_true rfl, ?_⟩
  exact H  h K hC1
theorem T119_0 {R : Option am_V → am_H → Prop} {h : am_H} (t : ((h 6 0 ≤ 0) → (R (some (mK (-2))) h)) ∧ ((0 < h 6 0) → ((SV h 5 ∧ CHI h) ∧ (∀ (h' : am_H), (CQ h h' ∧ h' 0 17 = 1) → (R (some (mK (h' 196 0))) h'))))) : am_AT 29 119 0 [some (mR 1 11 0 0)] h R :=
  am_T (d := 28) (m := 119) (T := tb119) (mL := 1) (rk := 2) (cuts := []) (l := [(155, C155)]) rfl ⟨am_CS_d (by decide) C155_ok, trivial⟩ 14 (And.intro (fun c2 => (t).1 c2) (fun c2 => And.intro (rfl) (And.intro ((t).2 c2).1 (fun z2_0 z2_1 => (((t).2 c2).2) z2_0 z2_1))))
theorem C119_ok : am_CS 29 119 C119 := W119 (fun h K hb => by
  obtain ⟨⟨S, C⟩, hK⟩ := hb
  refine T119_0 ⟨fun c1 => ?_, fun c1 => ⟨⟨S, C⟩, fun h' q2 => ?_⟩⟩
  · exact am_rK (hK h (CQ_rf S C)) (ifc_f (by omega))
  · have w := CHI_5 q2.1.2.2.2.2 q2.2
    refine am_rK (hK h' q2.1) ?_
    rw [ifc_t c1, w.2.1, q2.1.2.2.1.1, q2.1.2.2.1.2])
/-! 120 FactorNets.orbit -/
def C120 : am_K := fun as h K => am_a2 as (fun v0 v1 => am_oc 11 0 v0 (am_n v1 (fun p => (SV h 5 ∧ CHI h) ∧ (∀ (h' : am_H), CQ h h' → K (some (mB (ifc (0 ≤ p ∧ p < (h 6 0)) (mkb (orbA (h 6 0) (ds (ad (nr h 7 0))) p)) (-2)))) (h')))))
theorem W120 {d : Nat} (H : ∀ (p : Int) (h : am_H) (K : Option am_V → am_H → Prop), (SV h 5 ∧ CHI h) ∧ (∀ (h' : am_H), CQ h h' → K (some (mB (ifc (0 ≤ p ∧ p < (h 6 0)) (mkb (orbA (h 6 0) (ds (ad (nr h 7 0))) p)) (-2)))) (h')) → am_AT d 120 0 [some (mR 1 11 0 0), some (mB p)] h K) : am_CS d 120 C120 := by
  refine am_CS_of (T := tb120) (mL := 2) (rk := 1) rfl (fun as h K hC => ?_)
  obtain ⟨v0, v1, rfl, hC0⟩ := am_a2_e hC
  obtain ⟨e0, hC1⟩ := am_oc_e hC0
  subst e0
  obtain ⟨p, rfl, hC2⟩ := am_n_e hC1
  refine ⟨Nat.le_of_ble_eq_true rfl, ?_⟩
  exact H p h K hC2
theorem T120_0 {R : Option am_V → am_H → Prop} {h : am_H} {p : Int} (t : ((¬ (0 ≤ p ∧ p < (h 6 0))) → (R (some (mB (-2))) h)) ∧ ((0 ≤ p ∧ p < (h 6 0)) → ((SV h 5 ∧ CHI h) ∧ (∀ (h' : am_H), (CQ h h' ∧ h' 0 17 = 1) → ((HO0 (196 : Int) ∧ SVM h' (am_sv (196 : Int)) ∧ GOK h' (196 : Int) 0 ∧ (S20 (iShl 1 p) ∧ ∀ y9, bit (iShl 1 p) y9 → y9 < (h' (am_sv (196 : Int) + 1) 0))) ∧ (R (some (mB (mkb (fun y9 => ∃ x9, bit (iShl 1 p) x9 ∧ rc (GE h' (196 : Int)) x9 y9)))) h')))))) : am_AT 29 120 0 [some (mR 1 11 0 0), some (mB p)] h R :=
  am_T (d := 28) (m := 120) (T := tb120) (mL := 2) (rk := 1) (cuts := []) (l := [(6, C6), (155, C155), (156, C156)]) rfl ⟨am_CS_d (by decide) C6_ok, am_CS_d (by decide) C155_ok, am_CS_d (by decide) C156_ok, trivial⟩ 16 (And.intro (rfl) (And.intro (fun c3 => (t).1 c3) (fun c3 => And.intro (rfl) (And.intro ((t).2 c3).1 (fun z3_0 z3_1 => And.intro ((((t).2 c3).2) z3_0 z3_1).1 (((((t).2 c3).2) z3_0 z3_1).2))))))
theorem C120_ok : am_CS 29 120 C120 := W120 (fun p h K hb => by
  obtain ⟨⟨S, C⟩, hK⟩ := hb
  refine T120_0 ⟨fun c1 => ?_, fun c1 => ⟨⟨S, C⟩, fun h' q2 => ⟨by
    have w := CHI_5 q2.1.2.2.2.2 q2.2
    have en := q2.1.2.2.1.2
    have hn := w.2.2.1.1
    rw [sv196, show (5 : Int) + 1 = 6 by omega]
    refine ⟨w.1.1, by have := w.1.2.1; rw [sv196] at this; exact this, w.1.2.2, S20_1 c1.1 (by omega), fun y b => ?_⟩
    rw [bt_1 c1.1 (by omega)] at b
    rw [b, en]
    exact c1.2, ?_⟩⟩⟩
  · exact am_rB (hK h (CQ_rf S C)) (ifc_f c1)
  · have w := CHI_5 q2.1.2.2.2.2 q2.2
    refine am_rB (hK h' q2.1) ?_
    rw [ifc_t c1, w.2.2.2 p (by rw [q2.1.2.2.1.2]; exact c1), q2.1.2.2.1.1, q2.1.2.2.1.2])
/-! 122 FactorNets.moves -/
def C122 : am_K := fun as h K => am_a3 as (fun v0 v1 v2 => am_oc 11 0 v0 (am_j v1 (fun k => am_n v2 (fun p => (SV h 5 ∧ CHI h) ∧ (∀ (h' : am_H), CQ h h' → K (some (mB (ifc ((0 ≤ p ∧ p < (h 6 0)) ∧ 0 ≤ k) (ifc (k < lvr (h 6 0) (ds (ad (nr h 7 0))) (h 6 0).toNat) (mvf (h 6 0) (ds (ad (nr h 7 0))) k p) (-1)) (-2)))) (h'))))))
theorem W122 {d : Nat} (H : ∀ (k : Int) (p : Int) (h : am_H) (K : Option am_V → am_H → Prop), (SV h 5 ∧ CHI h) ∧ (∀ (h' : am_H), CQ h h' → K (some (mB (ifc ((0 ≤ p ∧ p < (h 6 0)) ∧ 0 ≤ k) (ifc (k < lvr (h 6 0) (ds (ad (nr h 7 0))) (h 6 0).toNat) (mvf (h 6 0) (ds (ad (nr h 7 0))) k p) (-1)) (-2)))) (h')) → am_AT d 122 0 [some (mR 1 11 0 0), some (mK k), none, some (mB p)] h K) : am_CS d 122 C122 := by
  refine am_CS_of (T := tb122) (mL := 4) (rk := 1) rfl (fun as h K hC => ?_)
  obtain ⟨v0, v1, v2, rfl, hC0⟩ := am_a3_e hC
  obtain ⟨e0, hC1⟩ := am_oc_e hC0
  subst e0
  obtain ⟨k, rfl, hC2⟩ := am_j_e hC1
  obtain ⟨p, rfl, hC3⟩ := am_n_e hC2
  refine ⟨Nat.le_of_ble_eq_true rfl, ?_⟩
  exact H k p h K hC3
theorem T122_0 {R : Option am_V → am_H → Prop} {h : am_H} {k : Int} {p : Int} (t : ((¬ (0 ≤ p ∧ p < (h 6 0))) → (R (some (mB (-2))) h)) ∧ ((0 ≤ p ∧ p < (h 6 0)) → (((0 ≤ k) → ((SV h 5 ∧ CHI h) ∧ (∀ (h' : am_H), (CQ h h' ∧ h' 0 17 = 1) → (((h' 196 0 ≤ k) → (R (some (mB (-1))) h')) ∧ ((k < h' 196 0) → ((CHF h' (196 : Int) ∧ (0 ≤ k ∧ k < h' (196 : Int) 0) ∧ (0 ≤ p ∧ p < (h' (am_sv (196 : Int) + 1) 0))) ∧ (∀ (h'_1 : am_H), ((∀ x9 i9, x9 ≠ (196 : Int) + 109 → x9 ≠ (196 : Int) + 110 → h'_1 x9 i9 = h' x9 i9)) → (R (some (mB (mvf (h' (am_sv (196 : Int) + 1) 0) (svD h' (am_sv (196 : Int))) k p))) h'_1)))))))) ∧ ((k < 0) → (R (some (mB (-2))) h))))) : am_AT 29 122 0 [some (mR 1 11 0 0), some (mK k), none, some (mB p)] h R :=
  am_T (d := 28) (m := 122) (T := tb122) (mL := 4) (rk := 1) (cuts := []) (l := [(7, C7), (155, C155), (156, C156)]) rfl ⟨am_CS_d (by decide) C7_ok, am_CS_d (by decide) C155_ok, am_CS_d (by decide) C156_ok, trivial⟩ 25 (And.intro (rfl) (And.intro (fun c4 => (t).1 c4) (fun c4 => And.intro (fun c5 => And.intro (rfl) (And.intro (((t).2 c4).1 c5).1 (fun z4_0 z4_1 => And.intro (fun c6 => (((((t).2 c4).1 c5).2) z4_0 z4_1).1 c6) (fun c6 => And.intro ((((((t).2 c4).1 c5).2) z4_0 z4_1).2 c6).1 (fun z5_0 z5_1 => (((((((t).2 c4).1 c5).2) z4_0 z4_1).2 c6).2) z5_0 z5_1))))) (fun c5 => ((t).2 c4).2 c5))))
theorem C122_ok : am_CS 29 122 C122 := W122 (fun k p h K hb => by
  obtain ⟨⟨S, C⟩, hK⟩ := hb
  refine T122_0 ⟨fun c1 => ?_, fun c1 => ⟨fun c2 => ⟨⟨S, C⟩, fun h' q3 => ⟨fun c4 => ?_, fun c4 => ⟨by
    have en := q3.1.2.2.1.2
    rw [sv196, show (5 : Int) + 1 = 6 by omega, en]
    exact ⟨(q3.1.2.2.2.2 q3.2).2.1, ⟨c2, c4⟩, c1⟩, fun h'_1 q5 => ?_⟩⟩⟩, fun c2 => ?_⟩⟩
  · exact am_rB (hK h (CQ_rf S C)) (ifc_f (fun z => c1 z.1))
  · have w := CHI_5 q3.1.2.2.2.2 q3.2
    refine am_rB (hK h' q3.1) ?_
    rw [w.2.1, q3.1.2.2.1.1, q3.1.2.2.1.2] at c4
    rw [ifc_t ⟨c1, c2⟩, ifc_f (by omega)]
  · have w := CHI_5 q3.1.2.2.2.2 q3.2
    have fr : ∀ x i, x ≠ 305 → x ≠ 306 → h'_1 x i = h' x i := fun x i a b => q5 x i (by omega) (by omega)
    have er : nr h'_1 7 0 = nr h' 7 0 := nr_fr2 (fun i => fr _ _ (by omega) (by omega))
    have SG : SV h'_1 5 := SV_fra q3.1.1 (fun x i a b => fr x i (by omega) (by omega))
    have Q : CQ h' h'_1 := ⟨SG, fun x i a b c d => fr x i (by omega) (by omega), ⟨er, fr _ _ (by omega) (by omega)⟩, by rw [fr 5 4 (by omega) (by omega), fr 5 5 (by omega) (by omega), fr 5 6 (by omega) (by omega)]; exact ⟨id, id, id⟩, CHI_fr q3.1.2.2.2.2 (fr _ _ (by omega) (by omega)) SG (fun z => by rw [fr _ _ (by omega) (by omega)]; exact z) (fr _ _ (by omega) (by omega)) er (fun x i _ _ a b _ _ => fr x i a b)⟩
    refine am_rB (hK h'_1 (CQ_tr q3.1 Q)) ?_
    rw [w.2.1, q3.1.2.2.1.1, q3.1.2.2.1.2] at c4
    rw [ifc_t ⟨c1, c2⟩, ifc_t c4, sv196, show (5 : Int) + 1 = 6 by omega]
    unfold svD
    rw [show (5 : Int) + 2 = 7 by omega, q3.1.2.2.1.1, q3.1.2.2.1.2]
  · exact am_rB (hK h (CQ_rf S C)) (ifc_f (fun z => by omega)))
/-! 123 FactorNets.fixers -/
def C123 : am_K := fun as h K => am_a2 as (fun v0 v1 => am_oc 11 0 v0 (am_n v1 (fun p => (SV h 5 ∧ CHI h) ∧ (∀ (h' : am_H), CQ h h' → K (some (mK (ifc (0 ≤ p ∧ p < (h 6 0)) (Int.tdiv (lvr (h 6 0) (ds (ad (nr h 7 0))) (h 6 0).toNat) (iPop (mkb (orbA (h 6 0) (ds (ad (nr h 7 0))) p)))) (-2)))) (h')))))
theorem W123 {d : Nat} (H : ∀ (p : Int) (h : am_H) (K : Option am_V → am_H → Prop), (SV h 5 ∧ CHI h) ∧ (∀ (h' : am_H), CQ h h' → K (some (mK (ifc (0 ≤ p ∧ p < (h 6 0)) (Int.tdiv (lvr (h 6 0) (ds (ad (nr h 7 0))) (h 6 0).toNat) (iPop (mkb (orbA (h 6 0) (ds (ad (nr h 7 0))) p)))) (-2)))) (h')) → am_AT d 123 0 [some (mR 1 11 0 0), some (mB p), none] h K) : am_CS d 123 C123 := by
  refine am_CS_of (T := tb123) (mL := 3) (rk := 2) rfl (fun as h K hC => ?_)
  obtain ⟨v0, v1, rfl, hC0⟩ := am_a2_e hC
  obtain ⟨e0, hC1⟩ := am_oc_e hC0
  subst e0
  obtain ⟨p, rfl, hC2⟩ := am_n_e hC1
  refine ⟨Nat.le_of_ble_eq_true rfl, ?_⟩
  exact H p h K hC2
theorem T123_0 {R : Option am_V → am_H → Prop} {h : am_H} {p : Int} (t : ((0 ≤ p ∧ p < (h 6 0)) → ((SV h 5 ∧ CHI h) ∧ (∀ (h' : am_H), (CQ h h' ∧ h' 0 17 = 1) → ((HO0 (196 : Int) ∧ SVM h' (am_sv (196 : Int)) ∧ GOK h' (196 : Int) 0 ∧ (S20 (iShl 1 p) ∧ ∀ y9, bit (iShl 1 p) y9 → y9 < (h' (am_sv (196 : Int) + 1) 0))) ∧ ((0 ≤ (mkb (fun y9 => ∃ x9, bit (iShl 1 p) x9 ∧ rc (GE h' (196 : Int)) x9 y9)) ∧ (mkb (fun y9 => ∃ x9, bit (iShl 1 p) x9 ∧ rc (GE h' (196 : Int)) x9 y9)) < 2147483648) ∧ ((¬ max 1 (iPop (mkb (fun y9 => ∃ x9, bit (iShl 1 p) x9 ∧ rc (GE h' (196 : Int)) x9 y9))) = 0) ∧ ((R64 (Int.tdiv (h' 196 0) (max 1 (iPop (mkb (fun y9 => ∃ x9, bit (iShl 1 p) x9 ∧ rc (GE h' (196 : Int)) x9 y9)))))) ∧ (R (some (mK (Int.tdiv (h' 196 0) (max 1 (iPop (mkb (fun y9 => ∃ x9, bit (iShl 1 p) x9 ∧ rc (GE h' (196 : Int)) x9 y9))))))) h')))))))) ∧ ((¬ (0 ≤ p ∧ p < (h 6 0))) → (R (some (mK (-2))) h))) : am_AT 29 123 0 [some (mR 1 11 0 0), some (mB p), none] h R :=
  am_T (d := 28) (m := 123) (T := tb123) (mL := 3) (rk := 2) (cuts := []) (l := [(6, C6), (155, C155), (156, C156), (317, C317)]) rfl ⟨am_CS_d (by decide) C6_ok, am_CS_d (by decide) C155_ok, am_CS_d (by decide) C156_ok, am_CS_d (by decide) C317_ok, trivial⟩ 25 (And.intro (rfl) (And.intro (fun c7 => And.intro (rfl) (And.intro ((t).1 c7).1 (fun z6_0 z6_1 => And.intro ((((t).1 c7).2) z6_0 z6_1).1 (And.intro (((((t).1 c7).2) z6_0 z6_1).2).1 (And.intro ((((((t).1 c7).2) z6_0 z6_1).2).2).1 (And.intro (((((((t).1 c7).2) z6_0 z6_1).2).2).2).1 ((((((((t).1 c7).2) z6_0 z6_1).2).2).2).2))))))) (fun c7 => (t).2 c7)))
theorem C123_ok : am_CS 29 123 C123 := W123 (fun p h K hb => by
  obtain ⟨⟨S, C⟩, hK⟩ := hb
  have ps : ∀ g, CQ h g ∧ g 0 17 = 1 → (0 ≤ p ∧ p < h 6 0) → mkb (fun y9 => ∃ x9, bit (iShl 1 p) x9 ∧ rc (GE g 196) x9 y9) = mkb (orbA (h 6 0) (ds (ad (nr h 7 0))) p) ∧ 1 ≤ iPop (mkb (orbA (h 6 0) (ds (ad (nr h 7 0))) p)) ∧ g 196 0 = lvr (h 6 0) (ds (ad (nr h 7 0))) (h 6 0).toNat ∧ 1 ≤ g 196 0 ∧ g 196 0 ≤ 2432902008176640000 := fun g q c1 => by
    have w := CHI_5 q.1.2.2.2.2 q.2
    rw [q.1.2.2.1.1, q.1.2.2.1.2] at w
    have hn := w.2.2.1.1
    have a := ct_pos (P := orbA (h 6 0) (ds (ad (nr h 7 0))) p) (n := 20) c1.1 (by omega) (orbA_rf p)
    have l := lvr_64 (D := ds (ad (nr h 7 0))) w.2.2.1 (m := (h 6 0).toNat) (by omega)
    exact ⟨w.2.2.2 p c1, by rw [iPop_mk]; omega, w.2.1, by rw [w.2.1]; exact l⟩
  refine T123_0 ⟨fun c1 => ⟨⟨S, C⟩, fun h' q2 => ⟨by
    have w := CHI_5 q2.1.2.2.2.2 q2.2
    have en := q2.1.2.2.1.2
    have hn := w.2.2.1.1
    rw [sv196, show (5 : Int) + 1 = 6 by omega]
    refine ⟨w.1.1, by have := w.1.2.1; rw [sv196] at this; exact this, w.1.2.2, S20_1 c1.1 (by omega), fun y b => ?_⟩
    rw [bt_1 c1.1 (by omega)] at b
    rw [b, en]
    exact c1.2, ⟨by
    have := mkb_c (fun y9 => ∃ x9, bit (iShl 1 p) x9 ∧ rc (GE h' 196) x9 y9)
    omega, ⟨by omega, ⟨by
    have w := ps h' q2 c1
    have a := Int.tdiv_nonneg (a := h' 196 0) (b := max 1 (iPop (mkb (fun y9 => ∃ x9, bit (iShl 1 p) x9 ∧ rc (GE h' 196) x9 y9)))) (by omega) (by omega)
    have b := Int.tdiv_le_self (a := h' 196 0) (max 1 (iPop (mkb (fun y9 => ∃ x9, bit (iShl 1 p) x9 ∧ rc (GE h' 196) x9 y9)))) (by omega)
    unfold R64
    omega, ?_⟩⟩⟩⟩⟩, fun c1 => ?_⟩
  · have w := ps h' q2 c1
    refine am_rK (hK h' q2.1) ?_
    rw [ifc_t c1, w.1, w.2.2.1, show max 1 (iPop (mkb (orbA (h 6 0) (ds (ad (nr h 7 0))) p))) = iPop (mkb (orbA (h 6 0) (ds (ad (nr h 7 0))) p)) by have := w.2.1; omega]
  · exact am_rK (hK h (CQ_rf S C)) (ifc_f c1))
/-! 124 FactorNets.orbits -/
def C124 : am_K := fun as h K => am_a1 as (fun v0 => am_oc 11 0 v0 ((SV h 5 ∧ CHI h) ∧ (∀ (h' : am_H), CQ h h' → K (some (mB (ifc (0 < (h 6 0)) (ct (LSa (h 6 0) (ds (ad (nr h 7 0)))) 20) (-2)))) (h'))))
theorem W124 {d : Nat} (H : ∀  (h : am_H) (K : Option am_V → am_H → Prop), (SV h 5 ∧ CHI h) ∧ (∀ (h' : am_H), CQ h h' → K (some (mB (ifc (0 < (h 6 0)) (ct (LSa (h 6 0) (ds (ad (nr h 7 0)))) 20) (-2)))) (h')) → am_AT d 124 0 [some (mR 1 11 0 0), none, none, none] h K) : am_CS d 124 C124 := by
  refine am_CS_of (T := tb124) (mL := 4) (rk := 1) rfl (fun as h K hC => ?_)
  obtain ⟨v0, rfl, hC0⟩ := am_a1_e hC
  obtain ⟨e0, hC1⟩ := am_oc_e hC0
  subst e0
  refine ⟨Nat.le_of_ble_eq_true rfl, ?_⟩
  exact H  h K hC1
theorem T124_0 {R : Option am_V → am_H → Prop} {h : am_H} (t : ((¬ h 6 0 = 0) → ((SV h 5 ∧ CHI h) ∧ (∀ (h' : am_H), (CQ h h' ∧ h' 0 17 = 1) → (am_AT 29 124 27 [some (mR 1 11 0 0), some (mI 0), some (mI 0), some (mI 0)] h' R)))) ∧ ((h 6 0 = 0) → (R (some (mB (-2))) h))) : am_AT 29 124 0 [some (mR 1 11 0 0), none, none, none] h R :=
  am_T (d := 28) (m := 124) (T := tb124) (mL := 4) (rk := 1) (cuts := [(27, [1, 2, 2, 2])]) (l := [(6, C6), (155, C155)]) rfl ⟨am_CS_d (by decide) C6_ok, am_CS_d (by decide) C155_ok, trivial⟩ 18 (And.intro (fun c8 => And.intro (rfl) (And.intro ((t).1 c8).1 (fun z7_0 z7_1 => (((t).1 c8).2) z7_0 z7_1))) (fun c8 => (t).2 c8))
theorem T124_27 {R : Option am_V → am_H → Prop} {h : am_H} {x1 : Int} {x2 : Int} {x3 : Int} (t : (R32 x3) ∧ (((h 6 0 ≤ x3) → ((R32 x1) ∧ (R (some (mB x1)) h))) ∧ ((x3 < h 6 0) → (((¬ iAnd (iShr x2 x3) 1 = 0) → (am_AT 29 124 27 [some (mR 1 11 0 0), some (mI x1), some (mI x2), some (mI (x3 + 1))] h R)) ∧ ((iAnd (iShr x2 x3) 1 = 0) → ((HO0 (196 : Int) ∧ SVM h (am_sv (196 : Int)) ∧ GOK h (196 : Int) 0 ∧ (S20 (iShl 1 x3) ∧ ∀ y9, bit (iShl 1 x3) y9 → y9 < (h (am_sv (196 : Int) + 1) 0))) ∧ (am_AT 29 124 27 [some (mR 1 11 0 0), some (mI (x1 + 1)), some (mI (iOr x2 (mkb (fun y9 => ∃ x9, bit (iShl 1 x3) x9 ∧ rc (GE h (196 : Int)) x9 y9)))), some (mI (x3 + 1))] h R))))))) : am_AT 29 124 27 [some (mR 1 11 0 0), some (mI x1), some (mI x2), some (mI x3)] h R :=
  am_T (d := 28) (m := 124) (T := tb124) (mL := 4) (rk := 1) (cuts := [(27, [1, 2, 2, 2])]) (l := [(6, C6), (155, C155)]) rfl ⟨am_CS_d (by decide) C6_ok, am_CS_d (by decide) C155_ok, trivial⟩ 28 (And.intro (t).1 (And.intro (fun c9 => And.intro (((t).2).1 c9).1 ((((t).2).1 c9).2)) (fun c9 => And.intro (fun c10 => (((t).2).2 c9).1 c10) (fun c10 => And.intro ((((t).2).2 c9).2 c10).1 (((((t).2).2 c9).2 c10).2)))))
theorem L124 {K : Option am_V → am_H → Prop} {h : am_H} (C : CHI h) (z : h 0 17 = 1) (hK : K (some (mB (ct (LSa (h 6 0) (ds (ad (nr h 7 0)))) 20))) h) : ∀ i, ∀ seen, 0 ≤ i → i ≤ h 6 0 → (S20 seen ∧ ∀ x, 0 ≤ x → x < h 6 0 → (bit seen x ↔ ∃ y, (0 ≤ y ∧ y < i) ∧ orbA (h 6 0) (ds (ad (nr h 7 0))) y x)) → am_AT 29 124 27 [some (mR 1 11 0 0), some (mI (ct (LSa (h 6 0) (ds (ad (nr h 7 0)))) i.toNat)), some (mI seen), some (mI i)] h K := by
  have w := CHI_5 C z
  have hn := w.2.2.1.1
  refine lp (h 6 0) (fun i ih seen i0 i1 B => ?_)
  have cl := ct_le (LSa (h 6 0) (ds (ad (nr h 7 0)))) i.toNat
  have ls : i < h 6 0 → (iAnd (iShr seen i) 1 = 0 ↔ LSa (h 6 0) (ds (ad (nr h 7 0))) i) := fun c => by
    rw [bt_has0 i0 (by omega), B.2 i i0 c]
    constructor
    · intro n
      exact ⟨c, fun y a b q => n ⟨y, ⟨a, b⟩, q⟩⟩
    · rintro n ⟨y, a, q⟩
      exact n.2 y a.1 a.2 q
  refine T124_27 ⟨by omega, ⟨fun c1 => ⟨by unfold R32; omega, ?_⟩, fun c1 => ⟨fun c2 => ?_, fun c2 => ⟨by
    rw [sv196, show (5 : Int) + 1 = 6 by omega]
    refine ⟨w.1.1, by have := w.1.2.1; rw [sv196] at this; exact this, w.1.2.2, S20_1 i0 (by omega), fun y b => ?_⟩
    rw [bt_1 i0 (by omega)] at b
    rw [b]
    exact c1, ?_⟩⟩⟩⟩
  · have e : ct (LSa (h 6 0) (ds (ad (nr h 7 0)))) i.toNat = ct (LSa (h 6 0) (ds (ad (nr h 7 0)))) 20 := by
      have := ct_ext (P := LSa (h 6 0) (ds (ad (nr h 7 0)))) i.toNat (20 - i.toNat) (fun k a b => by have := b.1; omega)
      rw [show i.toNat + (20 - i.toNat) = 20 by omega] at this
      exact this.symm
    exact am_rB hK e.symm
  · rw [ls c1] at c2
    have e := ct_to (P := LSa (h 6 0) (ds (ad (nr h 7 0)))) i0
    rw [am_b_f c2] at e
    have nx := ih c1 seen (by omega) (by omega) ⟨B.1, fun x a b => ?_⟩
    · rw [e, Int.add_zero] at nx
      exact nx
    · rw [B.2 x a b]
      constructor
      · rintro ⟨y, hy, q⟩
        exact ⟨y, by omega, q⟩
      · rintro ⟨y, hy, q⟩
        by_cases v : y = i
        · have : ∃ y2, (0 ≤ y2 ∧ y2 < i) ∧ orbA (h 6 0) (ds (ad (nr h 7 0))) y2 i := Classical.byContradiction fun no => c2 ⟨c1, fun y2 u1 u2 q2 => no ⟨y2, ⟨u1, u2⟩, q2⟩⟩
          obtain ⟨y2, hy2, q2⟩ := this
          exact ⟨y2, hy2, orbA_tr q2 (v ▸ q)⟩
        · exact ⟨y, by omega, q⟩
  · rw [ls c1] at c2
    have e := ct_to (P := LSa (h 6 0) (ds (ad (nr h 7 0)))) i0
    rw [am_b_t c2] at e
    rw [w.2.2.2 i ⟨i0, c1⟩]
    have nx := ih c1 (iOr seen (mkb (orbA (h 6 0) (ds (ad (nr h 7 0))) i))) (by omega) (by omega) ⟨S20_or B.1 (S20_mk _), fun x a b => ?_⟩
    · rw [e] at nx
      exact nx
    · rw [bt_or, bt_mk, B.2 x a b]
      constructor
      · rintro (⟨y, hy, q⟩ | q)
        · exact ⟨y, by omega, q⟩
        · exact ⟨i, by omega, q.2⟩
      · rintro ⟨y, hy, q⟩
        by_cases v : y = i
        · right; exact ⟨by omega, v ▸ q⟩
        · left; exact ⟨y, by omega, q⟩
theorem C124_ok : am_CS 29 124 C124 := W124 (fun h K hb => by
  obtain ⟨⟨S, C⟩, hK⟩ := hb
  have hn := S.1.1.1
  rw [show (5 : Int) + 1 = 6 by omega] at hn
  refine T124_0 ⟨fun c1 => ⟨⟨S, C⟩, fun h' q2 => ?_⟩, fun c1 => ?_⟩
  · have w := CHI_5 q2.1.2.2.2.2 q2.2
    have hm := w.2.2.1.1
    refine L124 q2.1.2.2.2.2 q2.2 ?_ 0 0 (by omega) hm.1 ⟨S20_0, fun x a b => ⟨fun q => absurd q bt_zero, fun ⟨y, q, _⟩ => by omega⟩⟩
    refine am_rB (hK h' q2.1) ?_
    rw [ifc_t (by omega), q2.1.2.2.1.1, q2.1.2.2.1.2]
  · exact am_rB (hK h (CQ_rf S C)) (ifc_f (by omega)))
