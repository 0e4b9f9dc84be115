/-! ===== the chain is learnt from the last point down ===== -/
def LSt (E : Int → Int → Prop) (n x : Int) : Prop := x < n ∧ ∀ y, 0 ≤ y → y < x → ¬ rc E y x
theorem LS_ex {E : Int → Int → Prop} {n : Int} (hi : ∀ x y, (0 ≤ x ∧ x < n) → rc E x y → 0 ≤ y ∧ y < n) (sy : ∀ x y, (0 ≤ x ∧ x < n) → rc E x y → rc E y x) : ∀ m : Nat, ∀ p : Int, (0 ≤ p ∧ p < n) → p < m → ∃ y, (0 ≤ y ∧ y < n) ∧ rc E p y ∧ LSt E n y
  | 0, p, a, b => absurd b (by omega)
  | m + 1, p, a, b => by
    by_cases c : ∃ y, (0 ≤ y ∧ y < p) ∧ rc E y p
    · obtain ⟨y, hy, r⟩ := c
      obtain ⟨z, hz, r2, l⟩ := LS_ex hi sy m y ⟨hy.1, by omega⟩ (by omega)
      exact ⟨z, hz, rc_trans (sy y p ⟨hy.1, by omega⟩ r) r2, l⟩
    · exact ⟨p, a, rc_refl, a.2, fun y h0 h1 r => c ⟨y, ⟨h0, h1⟩, r⟩⟩
/-- two classes become one: one least the fewer -/
theorem LS_less {E E' : Int → Int → Prop} {n p to : Int} (hn : n ≤ 20) (mo : ∀ x y, E x y → E' x y) (hi : ∀ x y, (0 ≤ x ∧ x < n) → rc E x y → 0 ≤ y ∧ y < n) (sy : ∀ x y, (0 ≤ x ∧ x < n) → rc E x y → rc E y x) (sy' : ∀ x y, (0 ≤ x ∧ x < n) → rc E' x y → rc E' y x) (hp : 0 ≤ p ∧ p < n) (ht : 0 ≤ to ∧ to < n) (no : ¬ rc E p to) (e : rc E' p to) : ct (LSt E' n) 20 + 1 ≤ ct (LSt E n) 20 := by
  obtain ⟨a, ha, ra, la⟩ := LS_ex hi sy (p + 1).toNat p hp (by omega)
  obtain ⟨b, hb, rb, lb⟩ := LS_ex hi sy (to + 1).toNat to ht (by omega)
  have ne : a ≠ b := fun z => no (rc_trans ra (z ▸ sy to b ht rb))
  have ab : rc E' a b := rc_trans (rc_trans (rc_mono mo (sy p a hp ra)) e) (rc_mono mo rb)
  have ba := sy' a b ha ab
  have sub : ∀ k, LSt E' n k → LSt E n k := fun k w => ⟨w.1, fun y h0 h1 r => w.2 y h0 h1 (rc_mono mo r)⟩
  by_cases c : a < b
  · exact ct_ss 20 hb.1 (by omega) (fun w => w.2 a ha.1 c ab) lb sub
  · exact ct_ss 20 ha.1 (by omega) (fun w => w.2 b hb.1 (by omega) ba) la sub
theorem SV_fra {h h' : am_H} {v : Int} (H : SV h v) (e : ∀ x i, v ≤ x → x ≤ v + 73 → h' x i = h x i) : SV h' v := by
  have e1 : nr h' (v + 2) 0 = nr h (v + 2) 0 := nr_fr2 (fun i => e _ _ (by omega) (by omega))
  have e2 : h' (v + 1) 0 = h (v + 1) 0 := e _ _ (by omega) (by omega)
  have hn := H.1.1.2.1
  unfold SV
  rw [e1, e2, e v 4 (by omega) (by omega), e v 5 (by omega) (by omega), e v 6 (by omega) (by omega)]
  exact ⟨H.1, H.2.1, fun q => MT_fr hn (H.2.2.1 q) (fun x i a b => e _ _ (by omega) (by omega)), fun q => LN_fr hn (H.2.2.2.1 q) (fun x i a b => e _ _ (by omega) (by omega)), fun q => ⟨SO_fr (H.2.2.2.2 q).1 (fun x i a b => e _ _ (by omega) (by omega)), (H.2.2.2.2 q).2⟩⟩
def CHS (h : am_H) (o k : Int) : Prop := HO0 o ∧ SVM h (am_sv o) ∧ KIN h (o + 111) ∧ GOK h o k ∧ h o 4 + ct (LSt (GE h o) (h (am_sv o + 1) 0)) 20 ≤ h (am_sv o + 1) 0
def CHQ (h g : am_H) (o : Int) : Prop := ∀ x i, ¬ (x = o ∧ i = 4) → ¬ (o + 2 ≤ x ∧ x ≤ o + 136) → g x i = h x i
def PLD (h : am_H) (o p : Int) : Prop := h (o + 66) p = mkb (orbS (h (am_sv o + 1) 0) (svD h (am_sv o)) p) ∧ ∀ to, orbS (h (am_sv o + 1) 0) (svD h (am_sv o)) p to → trc h o p 19 to
def CHL (h g : am_H) (o : Int) : Prop := SV g (am_sv o) ∧ (∀ x i, ¬ (am_sv o + 3 < x ∧ x ≤ am_sv o + 73) → ¬ (x = am_sv o ∧ 4 ≤ i ∧ i ≤ 6) → ¬ (o ≤ x ∧ x ≤ o + 136) → g x i = h x i) ∧ nr g (am_sv o + 2) 0 = nr h (am_sv o + 2) 0 ∧ g (am_sv o + 1) 0 = h (am_sv o + 1) 0 ∧ ((h (am_sv o) 4 = 1 → g (am_sv o) 4 = 1) ∧ (h (am_sv o) 5 = 1 → g (am_sv o) 5 = 1) ∧ (h (am_sv o) 6 = 1 → g (am_sv o) 6 = 1)) ∧ g (am_sv o) 4 = 1
def CHF (h : am_H) (o : Int) : Prop := HO0 o ∧ SVM h (am_sv o) ∧ GOK h o 0 ∧ (∀ p, 0 ≤ p → p < h (am_sv o + 1) 0 → PLD h o p) ∧ h o 0 = lvr (h (am_sv o + 1) 0) (svD h (am_sv o)) (h (am_sv o + 1) 0).toNat
/-- what stands while one point's places are learnt -/
def CFR (h g : am_H) (o p : Int) : Prop := h o 4 ≤ g o 4 ∧ ∀ x i, ¬ (x = o ∧ i = 4) → ¬ (o + 2 + h o 4 ≤ x ∧ x < o + 66) → ¬ (x = o + 66 ∧ i = p) → x ≠ o + 68 + p → x ≠ o + 89 + p → x ≠ o + 112 → ¬ (o + 114 ≤ x ∧ x ≤ o + 134) → g x i = h x i
theorem CFR_tr {h g k : am_H} {o p : Int} (A : CFR h g o p) (B : CFR g k o p) : CFR h k o p := ⟨Int.le_trans A.1 B.1, fun x i a b c d e f z => (B.2 x i a (fun w => b (by have := A.1; omega)) c d e f z).trans (A.2 x i a b c d e f z)⟩
theorem CFR_f {h g : am_H} {o p : Int} (ho : HO0 o) (hg : 0 ≤ h o 4 ∧ h o 4 ≤ 64) (hp : 0 ≤ p ∧ p < 20) (S : SVM h (am_sv o)) (F : CFR h g o p) : SVM g (am_sv o) ∧ g (am_sv o + 1) 0 = h (am_sv o + 1) 0 ∧ svD g (am_sv o) = svD h (am_sv o) ∧ (KIN h (o + 111) → KIN g (o + 111)) ∧ ∀ i, 0 ≤ i → i < h o 4 → ∀ x, g (o + 2 + i) x = h (o + 2 + i) x := by
  have o8 := HO0_8 ho
  have ho' := ho
  unfold HO0 at ho'
  have s := SVM_fr S (g := g) (fun x i a b => F.2 x i (by omega) (by omega) (by omega) (by omega) (by omega) (by omega) (by omega))
  have e : svD g (am_sv o) = svD h (am_sv o) := by unfold svD; rw [s.2.2]
  refine ⟨s.1, s.2.1, e, fun K => ?_, fun i a b x => F.2 _ _ (by omega) (by omega) (by omega) (by omega) (by omega) (by omega) (by omega)⟩
  unfold KIN at K ⊢
  rw [o8.2, s.2.1, e]
  rw [o8.2] at K
  intro y a b
  rw [F.2 (o + 111 + 24) y (by omega) (by omega) (by omega) (by omega) (by omega) (by omega) (by omega)]
  exact K y a b
/-- a generator more -/
theorem AG_ok {h : am_H} {o p to : Int} (ho : HO0 o) (hp : 0 ≤ p ∧ p < h (am_sv o + 1) 0) (S : SVM h (am_sv o)) (G : GOK h o p) (l : h o 4 < 64) (A : AU (h (am_sv o + 1) 0) (svD h (am_sv o)) (h (o + 112))) (fx : ∀ j, 0 ≤ j → j < p → h (o + 112) j = j) (e : h (o + 112) p = to) {g : am_H} (eg : g = am_up (am_cp h (o + 112) 0 (o + 2 + h o 4) 0 20) o 4 (h o 4 + 1)) : (∀ x i, ¬ (x = o ∧ i = 4) → x ≠ o + 2 + h o 4 → g x i = h x i) ∧ g o 4 = h o 4 + 1 ∧ CFR h g o p ∧ GOK g o p ∧ (∀ x y, GE h o x y → GE g o x y) ∧ GE g o p to := by
  have ho' := ho
  unfold HO0 at ho'
  have hn := S.1.2.1
  have hg := G.1
  have e1 : ∀ x i, ¬ (x = o ∧ i = 4) → x ≠ o + 2 + h o 4 → g x i = h x i := fun x i a b => by rw [eg, am_up_n2 a, am_cp_ne b]
  have e2 : g o 4 = h o 4 + 1 := by rw [eg, am_up_eq]
  have e3 : ∀ i, 0 ≤ i → i < 20 → g (o + 2 + h o 4) i = h (o + 112) i := fun i a b => by rw [eg, am_up_n2 (by omega), am_cp_0 a b]
  have F : CFR h g o p := ⟨by omega, fun x i a b _ _ _ _ _ => e1 x i a (by omega)⟩
  have f := CFR_f ho G.1 ⟨hp.1, by omega⟩ S F
  refine ⟨e1, e2, F, ⟨by omega, fun i a b => ?_⟩, fun x y w => ?_, ⟨h o 4, by omega, by rw [e3 p hp.1 (by omega)]; exact e⟩⟩
  · rw [f.2.1, f.2.2.1]
    by_cases z : i = h o 4
    · rw [z]
      exact ⟨AU_cg A (fun q c d => e3 q c (by omega)), fun j c d => by rw [e3 j c (by omega)]; exact fx j c d⟩
    · have w := G.2 i a (by omega)
      have fe : g (o + 2 + i) = h (o + 2 + i) := funext fun x => f.2.2.2.2 i a (by omega) x
      rw [fe]
      exact w
  · obtain ⟨i, hi, v⟩ := w
    exact ⟨i, by omega, by rw [f.2.2.2.2 i hi.1 hi.2]; exact v⟩
/-- p's places so far, and who is known not to be one -/
def LPI (h g : am_H) (o p to fl : Int) : Prop := CFR h g o p ∧ GOK g o p ∧ g o 4 + ct (LSt (GE g o) (h (am_sv o + 1) 0)) 20 ≤ h (am_sv o + 1) 0 ∧ PLI g o p ∧ g (o + 66) p = mkb (rc (GE g o) p) ∧ (S20 fl ∧ ∀ y, bit fl y → ¬ orbS (h (am_sv o + 1) 0) (svD h (am_sv o)) p y) ∧ ∀ y, y < to → orbS (h (am_sv o + 1) 0) (svD h (am_sv o)) p y → bit (g (o + 66) p) y
/-- what a symmetry that holds the lesser points takes out of an orbit was never in it -/
theorem orbS_st {n : Int} {D : Int → Int → Int} (M : DM n D) {p x y : Int} (hp : 0 ≤ p ∧ p < n) {u : Int → Int} (U : AU n D u) (fu : ∀ j, 0 ≤ j → j < p → u j = j) (hx : 0 ≤ x ∧ x < n) (e : u x = y) (h : orbS n D p y) : orbS n D p x := by
  obtain ⟨f, F, ff, ef⟩ := h
  obtain ⟨v, V, v1, v2⟩ := AU_inv M U
  refine ⟨fun z => v (f z), AU_comp V F, fun j a b => ?_, ?_⟩
  · show v (f j) = j
    rw [ff j a b]
    have w := v1 j a (by omega)
    rw [fu j a b] at w
    exact w
  · show v (f p) = x
    rw [ef, ← e]
    exact v1 x hx.1 hx.2
theorem PLD_of {h g : am_H} {o p : Int} (ho : HO0 o) (S : SVM h (am_sv o)) (hg : 0 ≤ h o 4 ∧ h o 4 ≤ 64) (hp : 0 ≤ p ∧ p < h (am_sv o + 1) 0) {fl to : Int} (hto : h (am_sv o + 1) 0 ≤ to) (L : LPI h g o p to fl) : PLD g o p := by
  obtain ⟨F, G, C, I, P, _, A⟩ := L
  have hn := S.1.2.1
  have f := CFR_f ho hg ⟨hp.1, by omega⟩ S F
  have M : DM (h (am_sv o + 1) 0) (svD h (am_sv o)) := DM_ds S.1 S.2.1
  have up : ∀ y, bit (g (o + 66) p) y → orbS (h (am_sv o + 1) 0) (svD h (am_sv o)) p y := fun y b => by
    obtain ⟨u, U, fu, e⟩ := GE_u G (by rw [f.2.1]; omega) (I.2.2 y b).2.1
    rw [f.2.1, f.2.2.1] at U
    exact ⟨u, U, fu, e⟩
  have dn : ∀ y, orbS (h (am_sv o + 1) 0) (svD h (am_sv o)) p y → bit (g (o + 66) p) y := fun y w => A y (by have := orbS_r M hp w; omega) w
  unfold PLD
  rw [f.2.1, f.2.2.1]
  refine ⟨mkb_eq (by have := I.1.1; have := I.1.2; unfold R32; omega) (fun j => ⟨fun w => ⟨S20_in I.1 w, up j w⟩, fun w => dn j w.2⟩), fun to w => ?_⟩
  have t := (I.2.2 to (dn to w)).2.2
  have l := iPop_le20 I.1
  have z := trc_le _ (19 - (iPop (g (o + 66) p) - 1).toNat) to t
  rw [show (iPop (g (o + 66) p) - 1).toNat + (19 - (iPop (g (o + 66) p) - 1).toNat) = 19 by omega] at z
  exact z
theorem PLD_fr {h g : am_H} {o p y : Int} (ho : HO0 o) (S : SVM h (am_sv o)) (hg : 0 ≤ h o 4 ∧ h o 4 ≤ 64) (hp : 0 ≤ p ∧ p < h (am_sv o + 1) 0) (F : CFR h g o p) (hy : p < y ∧ y < h (am_sv o + 1) 0) (L : PLD h o y) : PLD g o y := by
  have hn := S.1.2.1
  have ho' := ho
  unfold HO0 at ho'
  have M : DM (h (am_sv o + 1) 0) (svD h (am_sv o)) := DM_ds S.1 S.2.1
  have f := CFR_f ho hg ⟨hp.1, by omega⟩ S F
  have e1 : g (o + 66) y = h (o + 66) y := F.2 _ _ (by omega) (by omega) (by omega) (by omega) (by omega) (by omega) (by omega)
  unfold PLD
  rw [f.2.1, f.2.2.1, e1]
  refine ⟨L.1, fun to w => trc_fr (fun x _ => ⟨F.2 _ _ (by omega) (by omega) (by omega) (by omega) (by omega) (by omega) (by omega), F.2 _ _ (by omega) (by omega) (by omega) (by omega) (by omega) (by omega) (by omega)⟩) (fun x b => by rw [e1]; exact b) f.2.2.2.2 F.1 19 to ?_ (L.2 to w)⟩
  rw [L.1, bt_mk]
  have r := orbS_r M ⟨by omega, hy.2⟩ w
  exact ⟨by omega, w⟩
/-- at the start of p only p itself -/
theorem LPI_0 {h g : am_H} {o p : Int} (C : CHS h o (p + 1)) (hp : 0 ≤ p ∧ p < h (am_sv o + 1) 0) (eg : g = am_up h (o + 66) p (iShl 1 p)) : LPI h g o p (p + 1) 0 := by
  obtain ⟨ho, S, K, G, ctl⟩ := C
  have hn := S.1.2.1
  have ho' := ho
  unfold HO0 at ho'
  have M : DM (h (am_sv o + 1) 0) (svD h (am_sv o)) := DM_ds S.1 S.2.1
  have e1 : ∀ x i, ¬ (x = o + 66 ∧ i = p) → g x i = h x i := fun x i a => by rw [eg, am_up_n2 a]
  have e2 : g (o + 66) p = iShl 1 p := by rw [eg, am_up_eq]
  have F : CFR h g o p := ⟨by rw [e1 o 4 (by omega)]; omega, fun x i _ _ a _ _ _ _ => e1 x i a⟩
  have f := CFR_f ho G.1 ⟨hp.1, by omega⟩ S F
  have e4 : g o 4 = h o 4 := e1 o 4 (by omega)
  have eE : GE g o = GE h o := GE_fr f.2.2.2.2 e4
  have G2 : GOK g o p := by
    unfold GOK
    rw [f.2.1, f.2.2.1, e4]
    refine ⟨G.1, fun i a b => ?_⟩
    have fe : g (o + 2 + i) = h (o + 2 + i) := funext fun x => f.2.2.2.2 i a (by omega) x
    rw [fe]
    exact ⟨(G.2 i a b).1, fun j c d => (G.2 i a b).2 j c (by omega)⟩
  have pz : ∀ y, rc (GE h o) p y → y = p := fun y w => rc_in (P := fun z => z = p) (fun a b ha ⟨i, hi, v⟩ => by rw [ha] at v; rw [← v]; exact (G.2 i hi.1 hi.2).2 p hp.1 (by omega)) rfl w
  have b1 : ∀ y, bit (iShl 1 p) y ↔ y = p := fun y => bt_1 hp.1 (by omega)
  refine ⟨F, G2, by rw [e4, eE]; exact ctl, ⟨by rw [e2]; exact S20_1 hp.1 (by omega), by rw [e2]; exact (b1 p).mpr rfl, fun to b => ?_⟩, ?_, ⟨S20_0, fun y w => absurd w bt_zero⟩, fun y a w => ?_⟩
  · rw [e2, b1] at b
    rw [b, f.2.1]
    refine ⟨hp.2, rc_refl, ?_⟩
    have : ∀ m : Nat, trc g o p m p := fun m => by
      cases m with
      | zero => rfl
      | succ m => exact Or.inl rfl
    exact this _
  · rw [e2, eE]
    refine mkb_eq (rg_shl _ _) (fun j => ?_)
    rw [b1]
    exact ⟨fun z => ⟨by omega, by rw [z]; exact rc_refl⟩, fun z => pz j z.2⟩
  · have r := orbS_r M hp w
    rw [e2, b1]
    omega
/-- p is taken on: one generator more, and all that it brings -/
theorem LPI_add {h g k2 k3 : am_H} {o p to fl : Int} (ho : HO0 o) (S : SVM h (am_sv o)) (hp : 0 ≤ p ∧ p < h (am_sv o + 1) 0) (L : LPI h g o p to fl) (hg : 0 ≤ h o 4 ∧ h o 4 ≤ 64) (ht : to < h (am_sv o + 1) 0) (ht0 : p < to) (nb : ¬ bit (g (o + 66) p) to) (hl : g o 4 < 64) (A : AU (h (am_sv o + 1) 0) (svD h (am_sv o)) (g (o + 112))) (fx : ∀ j, 0 ≤ j → j < p → g (o + 112) j = j) (e : g (o + 112) p = to) (ek : k2 = am_up (am_cp g (o + 112) 0 (o + 2 + g o 4) 0 20) o 4 (g o 4 + 1)) : (SVM k2 (am_sv o) ∧ GOK k2 o p ∧ (0 ≤ p ∧ p < k2 (am_sv o + 1) 0) ∧ PLI k2 o p) ∧ (PLQ k2 k3 o p ∧ PLI k3 o p ∧ k3 (o + 66) p = mkb (rc (GE k2 o) p) → LPI h k3 o p (to + 1) fl) := by
  obtain ⟨F, G, C, I, P, Fl, Al⟩ := L
  have hn := S.1.2.1
  have ho' := ho
  unfold HO0 at ho'
  have M : DM (h (am_sv o + 1) 0) (svD h (am_sv o)) := DM_ds S.1 S.2.1
  have f := CFR_f ho hg ⟨hp.1, by omega⟩ S F
  have hg1 := G.1
  have ag := AG_ok (to := to) ho (by rw [f.2.1]; exact hp) f.1 G hl (by rw [f.2.1, f.2.2.1]; exact A) fx e ek
  obtain ⟨a1, a2, a3, a4, a5, a6⟩ := ag
  have f2 := CFR_f ho hg1 ⟨hp.1, by omega⟩ f.1 a3
  have s66 : k2 (o + 66) p = g (o + 66) p := a1 _ _ (by omega) (by omega)
  have I2 : PLI k2 o p := by
    unfold PLI
    rw [s66, f2.2.1]
    refine ⟨I.1, I.2.1, fun t b => ⟨(I.2.2 t b).1, rc_mono a5 (I.2.2 t b).2.1, ?_⟩⟩
    exact trc_fr (fun x _ => ⟨a1 _ _ (by omega) (by omega), a1 _ _ (by omega) (by omega)⟩) (fun x b => by rw [s66]; exact b) f2.2.2.2.2 (by omega) _ t b (I.2.2 t b).2.2
  refine ⟨⟨f2.1, a4, by rw [f2.2.1, f.2.1]; exact hp, I2⟩, fun ⟨q1, q2, q3⟩ => ?_⟩
  have F2 : CFR h k2 o p := CFR_tr F a3
  have pq := PLQ_f ho ⟨hp.1, by omega⟩ (by omega) q1
  have F3 : CFR h k3 o p := by
    refine CFR_tr F2 ⟨by rw [pq.2.1]; omega, fun x i _ _ a b c _ _ => q1 x i a b c⟩
  have ff2 := CFR_f ho hg ⟨hp.1, by omega⟩ S F2
  have ff3 := CFR_f ho hg ⟨hp.1, by omega⟩ S F3
  have G3 : GOK k3 o p := by
    unfold GOK
    rw [ff3.2.1, ff3.2.2.1, pq.2.1]
    refine ⟨a4.1, fun i a b => ?_⟩
    have fe : k3 (o + 2 + i) = k2 (o + 2 + i) := funext fun x => pq.1 i a b x
    have w := a4.2 i a b
    rw [ff2.2.1, ff2.2.2.1] at w
    rw [fe]
    exact w
  have eE := pq.2.2.2
  have no : ¬ rc (GE g o) p to := fun w => nb (by rw [P, bt_mk]; exact ⟨by omega, w⟩)
  have DMg : DM (g (am_sv o + 1) 0) (svD g (am_sv o)) := by rw [f.2.1, f.2.2.1]; exact M
  have DM2 : DM (k2 (am_sv o + 1) 0) (svD k2 (am_sv o)) := by rw [ff2.2.1, ff2.2.2.1]; exact M
  have lss := LS_less (E := GE g o) (E' := GE k2 o) (n := h (am_sv o + 1) 0) (p := p) (to := to) hn a5 (fun x y hx w => by have := GE_rc G (by rw [f.2.1]; exact hx) w; rw [f.2.1] at this; exact this) (fun x y hx w => GE_sym DMg G (by rw [f.2.1]; exact hx) w) (fun x y hx w => GE_sym DM2 a4 (by rw [ff2.2.1]; exact hx) w) hp (by omega) no (rc_1 a6)
  refine ⟨F3, G3, by rw [eE, pq.2.1, a2]; omega, q2, by rw [eE]; exact q3, Fl, fun y a w => ?_⟩
  rw [q3, bt_mk]
  have r := orbS_r M hp w
  refine ⟨by omega, ?_⟩
  by_cases z : y = to
  · rw [z]; exact rc_1 a6
  · have b := Al y (by omega) w
    rw [P, bt_mk] at b
    exact rc_mono a5 b.2
theorem LPI_step {h g : am_H} {o p to fl fl' : Int} (L : LPI h g o p to fl) (hf : S20 fl' ∧ ∀ y, bit fl' y → ¬ orbS (h (am_sv o + 1) 0) (svD h (am_sv o)) p y) (ht : orbS (h (am_sv o + 1) 0) (svD h (am_sv o)) p to → bit (g (o + 66) p) to) : LPI h g o p (to + 1) fl' := by
  obtain ⟨F, G, C, I, P, Fl, Al⟩ := L
  refine ⟨F, G, C, I, P, hf, fun y a w => ?_⟩
  by_cases z : y = to
  · rw [z] at w ⊢; exact ht w
  · exact Al y (by omega) w
/-- the search leaves all this as it was -/
theorem LPI_fr {h g g' : am_H} {o p to fl : Int} (ho : HO0 o) (S : SVM h (am_sv o)) (hp : 0 ≤ p ∧ p < h (am_sv o + 1) 0) (hg : 0 ≤ h o 4 ∧ h o 4 ≤ 64) (L : LPI h g o p to fl) (e : ∀ x i, x ≠ o + 112 → ¬ (o + 114 ≤ x ∧ x ≤ o + 134) → g' x i = g x i) : LPI h g' o p to fl ∧ GE g' o = GE g o := by
  obtain ⟨F, G, C, I, P, Fl, Al⟩ := L
  have hn := S.1.2.1
  have ho' := ho
  unfold HO0 at ho'
  have hg1 := G.1
  have f := CFR_f ho hg ⟨hp.1, by omega⟩ S F
  have F1 : CFR g g' o p := ⟨by rw [e o 4 (by omega) (by omega)]; omega, fun x i _ _ _ _ _ a b => e x i a b⟩
  have F2 := CFR_tr F F1
  have f2 := CFR_f ho hg ⟨hp.1, by omega⟩ S F2
  have f1 := CFR_f ho hg1 ⟨hp.1, by omega⟩ f.1 F1
  have e4 : g' o 4 = g o 4 := e o 4 (by omega) (by omega)
  have eE : GE g' o = GE g o := GE_fr f1.2.2.2.2 e4
  have s66 : g' (o + 66) p = g (o + 66) p := e _ _ (by omega) (by omega)
  refine ⟨⟨F2, ?_, by rw [eE, e4]; exact C, ?_, by rw [eE, s66]; exact P, Fl, by rw [s66]; exact Al⟩, eE⟩
  · unfold GOK
    rw [f2.2.1, f2.2.2.1, e4]
    refine ⟨G.1, fun i a b => ?_⟩
    have w := G.2 i a b
    rw [f.2.1, f.2.2.1] at w
    have fe : g' (o + 2 + i) = g (o + 2 + i) := funext fun x => f1.2.2.2.2 i a b x
    rw [fe]
    exact w
  · unfold PLI
    rw [s66, eE, f1.2.1]
    refine ⟨I.1, I.2.1, fun t b => ⟨(I.2.2 t b).1, (I.2.2 t b).2.1, ?_⟩⟩
    exact trc_fr (fun x _ => ⟨e _ _ (by omega) (by omega), e _ _ (by omega) (by omega)⟩) (fun x b => by rw [s66]; exact b) f1.2.2.2.2 (by omega) _ t b (I.2.2 t b).2.2
/-- the chain does not look at the order that it kept -/
theorem CH_0 {h g : am_H} {o : Int} (ho : HO0 o) (e : ∀ x i, ¬ (x = o ∧ i = 0) → g x i = h x i) : g (am_sv o + 1) 0 = h (am_sv o + 1) 0 ∧ svD g (am_sv o) = svD h (am_sv o) ∧ (∀ k, CHS h o k → CHS g o k) ∧ (∀ y, (0 ≤ y ∧ y < h (am_sv o + 1) 0) → DM (h (am_sv o + 1) 0) (svD h (am_sv o)) → PLD h o y → PLD g o y) := by
  have o8 := HO0_8 ho
  have ho' := ho
  unfold HO0 at ho'
  have e1 : g (am_sv o + 1) 0 = h (am_sv o + 1) 0 := e _ _ (by omega)
  have er : ∀ x, x ≠ o → g x = h x := fun x a => funext fun i => e x i (fun z => a z.1)
  have e2 : svD g (am_sv o) = svD h (am_sv o) := by unfold svD; rw [nr_fr2 (fun i => e _ _ (by omega))]
  have e4 : g o 4 = h o 4 := e _ _ (by omega)
  refine ⟨e1, e2, fun k C => ?_, fun y hy hr L => ?_⟩
  · obtain ⟨_, S, K, G, cl⟩ := C
    have eE : GE g o = GE h o := GE_fr (fun i a b x => by rw [er _ (by omega)]) e4
    refine ⟨ho, (SVM_fr S (g := g) (fun x i a b => e x i (by omega))).1, ?_, ?_, by rw [e4, eE, e1]; exact cl⟩
    · unfold KIN at K ⊢
      rw [o8.2] at K ⊢
      rw [e1, e2, er (o + 111 + 24) (by omega)]
      exact K
    · unfold GOK
      rw [e1, e2, e4]
      exact ⟨G.1, fun i a b => by rw [er (o + 2 + i) (by omega)]; exact G.2 i a b⟩
  · unfold PLD at L ⊢
    rw [e1, e2, er (o + 66) (by omega)]
    refine ⟨L.1, fun to w => ?_⟩
    refine trc_fr (h := h) (fun x _ => by rw [er (o + 68 + y) (by omega), er (o + 89 + y) (by omega)]; exact ⟨rfl, rfl⟩) (fun x b => by rw [er (o + 66) (by omega)]; exact b) (fun i a b x => by rw [er (o + 2 + i) (by omega)]) (by omega) 19 to ?_ (L.2 to w)
    rw [L.1, bt_mk]
    have r := orbS_r hr hy w
    have := hr.1
    exact ⟨by omega, w⟩
/-- what the generators do is all that symmetries do -/
theorem GEN_k {h : am_H} {o : Int} (C : CHF h o) : ∀ m : Nat, ∀ k : Int, k = h (am_sv o + 1) 0 - m → 0 ≤ k → ∀ f, AU (h (am_sv o + 1) 0) (svD h (am_sv o)) f → (∀ j, 0 ≤ j → j < k → f j = j) → ∀ x, 0 ≤ x → x < h (am_sv o + 1) 0 → rc (GE h o) x (f x)
  | 0, k, ek, _, f, _, fx, x, a, b => by rw [fx x a (by omega)]; exact rc_refl
  | m + 1, k, ek, hk, f, F, fx, x, a, b => by
    obtain ⟨ho, S, G, PL, _⟩ := id C
    have M : DM (h (am_sv o + 1) 0) (svD h (am_sv o)) := DM_ds S.1 S.2.1
    have T := (PL k hk (by omega)).2 (f k) ⟨f, F, fx, rfl⟩
    have key : ∀ (q : Nat) (to : Int), trc h o k q to → ∀ f, AU (h (am_sv o + 1) 0) (svD h (am_sv o)) f → (∀ j, 0 ≤ j → j < k → f j = j) → f k = to → ∀ x, 0 ≤ x → x < h (am_sv o + 1) 0 → rc (GE h o) x (f x) := fun q => by
      have base : ∀ f, AU (h (am_sv o + 1) 0) (svD h (am_sv o)) f → (∀ j, 0 ≤ j → j < k → f j = j) → f k = k → ∀ x, 0 ≤ x → x < h (am_sv o + 1) 0 → rc (GE h o) x (f x) := fun f F fx e => GEN_k C m (k + 1) (by omega) (by omega) f F (fun j c d => by
        by_cases z : j = k
        · rw [z]; exact e
        · exact fx j c (by omega))
      induction q with
      | zero => exact fun to t f F fx e => base f F fx (e.trans t)
      | succ q ih =>
        intro to t f F fx e x a b
        rcases t with t | ⟨⟨L1, L2, L3, L4⟩, t⟩
        · exact base f F fx (e.trans t) x a b
        · have A := (G.2 _ L1.1 L1.2).1
          obtain ⟨v, V, v1, v2⟩ := AU_inv M A
          have hpl := (PL k hk (by omega)).1
          have fr : 0 ≤ h (o + 89 + k) to ∧ h (o + 89 + k) to < h (am_sv o + 1) 0 := by
            rw [hpl, bt_mk] at L2
            have r := orbS_r M ⟨hk, by omega⟩ L2.2
            omega
          have w := ih _ t (fun z => v (f z)) (AU_comp V F) (fun j c d => by
            show v (f j) = j
            rw [fx j c d]
            have y := v1 j c (by omega)
            rw [L4 j c d] at y
            exact y) (by
            show v (f k) = _
            rw [e]
            have y := v1 _ fr.1 fr.2
            rw [L3] at y
            exact y) x a b
          have fr2 := F.1 x a b
          exact rc_step w ⟨_, L1, v2 _ fr2.1 fr2.2⟩
    exact key 19 _ T f F fx rfl x a b
theorem GEN {h : am_H} {o : Int} (C : CHF h o) {x y : Int} (hx : 0 ≤ x ∧ x < h (am_sv o + 1) 0) : rc (GE h o) x y ↔ ∃ f, AU (h (am_sv o + 1) 0) (svD h (am_sv o)) f ∧ f x = y := by
  have hn := C.2.1.1.1
  constructor
  · intro w
    obtain ⟨u, U, _, e⟩ := GE_u C.2.2.1 ⟨by omega, hn⟩ w
    exact ⟨u, U, e⟩
  · rintro ⟨f, F, e⟩
    rw [← e]
    exact GEN_k C (h (am_sv o + 1) 0).toNat 0 (by omega) (by omega) f F (fun j a b => by omega) x hx.1 hx.2
/-! 2 FactorNets$Chain.learnPlaces -/
def C2 : am_K := fun as h K => am_a2 as (fun v0 v1 => am_o 0 v0 (fun o => am_n v1 (fun p => (CHS h o (p + 1) ∧ (0 ≤ p ∧ p < (h (am_sv o + 1) 0))) ∧ (∀ (h' : am_H), CHQ h h' o ∧ CHS h' o p ∧ PLD h' o p ∧ (∀ y9, p < y9 → y9 < (h (am_sv o + 1) 0) → PLD h o y9 → PLD h' o y9) → K (none) (h')))))
theorem W2 {d : Nat} (H : ∀ (o : Int) (p : Int) (h : am_H) (K : Option am_V → am_H → Prop), (CHS h o (p + 1) ∧ (0 ≤ p ∧ p < (h (am_sv o + 1) 0))) ∧ (∀ (h' : am_H), CHQ h h' o ∧ CHS h' o p ∧ PLD h' o p ∧ (∀ y9, p < y9 → y9 < (h (am_sv o + 1) 0) → PLD h o y9 → PLD h' o y9) → K (none) (h')) → am_AT d 2 0 [some (mR 1 0 0 o), some (mB p), none, none] h K) : am_CS d 2 C2 := by
  refine am_CS_of (T := tb2) (mL := 4) (rk := 0) rfl (fun as h K hC => ?_)
  obtain ⟨v0, v1, rfl, hC0⟩ := am_a2_e hC
  obtain ⟨o, rfl, hC1⟩ := am_o_e hC0
  obtain ⟨p, rfl, hC2⟩ := am_n_e hC1
  refine ⟨Nat.le_of_ble_eq_true rfl, ?_⟩
  exact H o p h K hC2
theorem T2_0 {R : Option am_V → am_H → Prop} {h : am_H} {o : Int} {p : Int} (t : (0 ≤ p ∧ p < 20) ∧ (am_AT 26 2 15 [some (mR 1 0 0 o), some (mB p), some (mI 0), some (mI (p + 1))] (am_up h (o + 66) p (iShl 1 p)) R)) : am_AT 26 2 0 [some (mR 1 0 0 o), some (mB p), none, none] h R :=
  am_T (d := 25) (m := 2) (T := tb2) (mL := 4) (rk := 0) (cuts := [(15, [1, 1, 2, 2])]) (l := [(3, C3), (4, C4), (5, C5), (6, C6)]) rfl ⟨am_CS_d (by decide) C3_ok, am_CS_d (by decide) C4_ok, am_CS_d (by decide) C5_ok, am_CS_d (by decide) C6_ok, trivial⟩ 17 (And.intro (t).1 ((t).2))
theorem T2_15 {R : Option am_V → am_H → Prop} {h : am_H} {o : Int} {p : Int} {x2 : Int} {x3 : Int} (t : (R32 x3) ∧ (((h ((am_sv o) + 1) 0 ≤ x3) → (R none h)) ∧ ((x3 < h ((am_sv o) + 1) 0) → ((0 ≤ p ∧ p < 20) ∧ (((¬ iAnd (iShr (iOr (h (o + 66) p) x2) x3) 1 = 0) → (am_AT 26 2 15 [some (mR 1 0 0 o), some (mB p), some (mI x2), some (mI (x3 + 1))] h R)) ∧ ((iAnd (iShr (iOr (h (o + 66) p) x2) x3) 1 = 0) → ((R32 x3) ∧ ((HO0 o ∧ SVM h (am_sv o) ∧ KIN h (o + 111) ∧ (0 ≤ p ∧ p < (h (am_sv o + 1) 0)) ∧ (0 ≤ x3 ∧ x3 < (h (am_sv o + 1) 0))) ∧ (∀ (h' : am_H), (((∀ x9 i9, x9 ≠ o + 112 → ¬ (o + 114 ≤ x9 ∧ x9 ≤ o + 134) → h' x9 i9 = h x9 i9) ∧ (orbS (h (am_sv o + 1) 0) (svD h (am_sv o)) p x3 → AU (h (am_sv o + 1) 0) (svD h (am_sv o)) (h' (o + 112)) ∧ (∀ j9, 0 ≤ j9 → j9 < p → h' (o + 112) j9 = j9) ∧ h' (o + 112) p = x3))) → (((¬ (orbS (h (am_sv o + 1) 0) (svD h (am_sv o)) p x3)) → ((HO0 o ∧ SVM h' (am_sv o) ∧ GOK h' o 0 ∧ (S20 (iShl 1 x3) ∧ ∀ y9, bit (iShl 1 x3) y9 → y9 < (h' (am_sv o + 1) 0))) ∧ (am_AT 26 2 15 [some (mR 1 0 0 o), some (mB p), some (mI (iOr x2 (mkb (fun y9 => ∃ x9, bit (iShl 1 x3) x9 ∧ rc (GE h' o) x9 y9)))), some (mI (x3 + 1))] h' R))) ∧ ((orbS (h (am_sv o + 1) 0) (svD h (am_sv o)) p x3) → ((0 ≤ h' o 4 ∧ h' o 4 < 64) ∧ ((HO0 o ∧ SVM (am_up (am_cp h' (o + 112) 0 (o + 2 + h' o 4) 0 20) o 4 (h' o 4 + 1)) (am_sv o) ∧ GOK (am_up (am_cp h' (o + 112) 0 (o + 2 + h' o 4) 0 20) o 4 (h' o 4 + 1)) o p ∧ (0 ≤ p ∧ p < ((am_up (am_cp h' (o + 112) 0 (o + 2 + h' o 4) 0 20) o 4 (h' o 4 + 1)) (am_sv o + 1) 0)) ∧ PLI (am_up (am_cp h' (o + 112) 0 (o + 2 + h' o 4) 0 20) o 4 (h' o 4 + 1)) o p) ∧ (∀ (h'_1 : am_H), (PLQ (am_up (am_cp h' (o + 112) 0 (o + 2 + h' o 4) 0 20) o 4 (h' o 4 + 1)) h'_1 o p ∧ PLI h'_1 o p ∧ h'_1 (o + 66) p = mkb (rc (GE (am_up (am_cp h' (o + 112) 0 (o + 2 + h' o 4) 0 20) o 4 (h' o 4 + 1)) o) p)) → (am_AT 26 2 15 [some (mR 1 0 0 o), some (mB p), some (mI x2), some (mI (x3 + 1))] h'_1 R))))))))))))))) : am_AT 26 2 15 [some (mR 1 0 0 o), some (mB p), some (mI x2), some (mI x3)] h R :=
  am_T (d := 25) (m := 2) (T := tb2) (mL := 4) (rk := 0) (cuts := [(15, [1, 1, 2, 2])]) (l := [(3, C3), (4, C4), (5, C5), (6, C6)]) rfl ⟨am_CS_d (by decide) C3_ok, am_CS_d (by decide) C4_ok, am_CS_d (by decide) C5_ok, am_CS_d (by decide) C6_ok, trivial⟩ 36 (And.intro (t).1 (And.intro (fun c1 => ((t).2).1 c1) (fun c1 => And.intro (((t).2).2 c1).1 (And.intro (fun c2 => ((((t).2).2 c1).2).1 c2) (fun c2 => And.intro (((((t).2).2 c1).2).2 c2).1 (And.intro ((((((t).2).2 c1).2).2 c2).2).1 (fun z1_0 z1_1 => And.intro (fun c3 => And.intro (((((((((t).2).2 c1).2).2 c2).2).2) z1_0 z1_1).1 c3).1 ((((((((((t).2).2 c1).2).2 c2).2).2) z1_0 z1_1).1 c3).2)) (fun c3 => And.intro (((((((((t).2).2 c1).2).2 c2).2).2) z1_0 z1_1).2 c3).1 (And.intro ((((((((((t).2).2 c1).2).2 c2).2).2) z1_0 z1_1).2 c3).2).1 (fun z2_0 z2_1 => (((((((((((t).2).2 c1).2).2 c2).2).2) z1_0 z1_1).2 c3).2).2) z2_0 z2_1))))))))))
theorem L2 {K : Option am_V → am_H → Prop} {h : am_H} {o p : Int} (C : CHS h o (p + 1)) (hp : 0 ≤ p ∧ p < h (am_sv o + 1) 0) (hK : ∀ h', CHQ h h' o ∧ CHS h' o p ∧ PLD h' o p ∧ (∀ y9, p < y9 → y9 < h (am_sv o + 1) 0 → PLD h o y9 → PLD h' o y9) → K none h') : ∀ to, ∀ (g : am_H) fl, p < to → to ≤ h (am_sv o + 1) 0 → LPI h g o p to fl → am_AT 26 2 15 [some (mR 1 0 0 o), some (mB p), some (mI fl), some (mI to)] g K := by
  obtain ⟨ho, S, kn, G0, ctl⟩ := id C
  have ho' := ho
  unfold HO0 at ho'
  have hn := S.1.2.1
  have M : DM (h (am_sv o + 1) 0) (svD h (am_sv o)) := DM_ds S.1 S.2.1
  refine lp (h (am_sv o + 1) 0) (fun to ih g fl t0 t1 L => ?_)
  have F := L.1
  have f := CFR_f ho G0.1 ⟨hp.1, by omega⟩ S F
  have I := L.2.2.2.1
  have Fl := L.2.2.2.2.2.1
  have bb : to < h (am_sv o + 1) 0 → (iAnd (iShr (iOr (g (o + 66) p) fl) to) 1 = 0 ↔ ¬ (bit (g (o + 66) p) to ∨ bit fl to)) := fun z => by
    rw [bt_has0 (by omega) (by omega), bt_or]
  have gl : ∀ q fl', LPI h q o p to fl' → 0 ≤ q o 4 ∧ q o 4 < 64 := fun q fl' w => by
    have a := w.2.1.1
    have b := w.2.2.1
    have c := (ct_le (LSt (GE q o) (h (am_sv o + 1) 0)) 20).1
    omega
  refine T2_15 ⟨by omega, ⟨fun c1 => ?_, fun c1 => ⟨by omega, ⟨fun c2 => ?_, fun c2 => ⟨by omega, ⟨by rw [f.2.1] at c1 ⊢; exact ⟨ho, f.1, f.2.2.2.1 kn, hp, by omega, c1⟩, fun h' q3 => ⟨fun c4 => ⟨by
    rw [f.2.1] at c1
    have w := LPI_fr (g' := h') ho S hp G0.1 L q3.1
    have f2 := CFR_f ho G0.1 ⟨hp.1, by omega⟩ S w.1.1
    refine ⟨ho, f2.1, GOK_le w.1.2.1 hp.1, S20_1 (by omega) (by omega), fun y b => ?_⟩
    rw [bt_1 (by omega) (by omega)] at b
    rw [f2.2.1, b]
    exact c1, ?_⟩, fun c4 => ⟨gl h' fl (LPI_fr (g' := h') ho S hp G0.1 L q3.1).1, ⟨by
    rw [f.2.1] at c1
    rw [bb c1] at c2
    rw [f.2.1, f.2.2.1] at c4 q3
    have w := LPI_fr (g' := h') ho S hp G0.1 L q3.1
    have z := q3.2 c4
    have s66 : h' (o + 66) p = g (o + 66) p := q3.1 _ _ (by omega) (by omega)
    have aa := LPI_add (k3 := h') ho S hp w.1 G0.1 c1 (by omega) (by rw [s66]; exact fun v => c2 (Or.inl v)) (gl h' fl w.1).2 z.1 z.2.1 z.2.2 rfl
    exact ⟨ho, aa.1⟩, fun h'_1 q5 => ?_⟩⟩⟩⟩⟩⟩⟩⟩⟩
  · rw [f.2.1] at c1
    refine hK g ⟨fun x i a b => ?_, ⟨ho, f.1, f.2.2.2.1 kn, L.2.1, by rw [f.2.1]; exact L.2.2.1⟩, PLD_of ho S G0.1 hp c1 L, fun y a b z => PLD_fr ho S G0.1 hp F ⟨a, b⟩ z⟩
    have := G0.1
    exact F.2 x i a (by omega) (by omega) (by omega) (by omega) (by omega) (by omega)
  · rw [f.2.1] at c1
    rw [bb c1] at c2
    refine ih c1 g fl (by omega) (by omega) (LPI_step L Fl (fun w => ?_))
    rcases Classical.not_not.mp c2 with z | z
    · exact z
    · exact absurd w (Fl.2 to z)
  · rw [f.2.1] at c1
    rw [f.2.1, f.2.2.1] at c4
    have w := LPI_fr (g' := h') ho S hp G0.1 L q3.1
    have f2 := CFR_f ho G0.1 ⟨hp.1, by omega⟩ S w.1.1
    refine ih c1 h' _ (by omega) (by omega) (LPI_step w.1 ⟨S20_or Fl.1 (S20_mk _), fun y b z => ?_⟩ (fun z => absurd z c4))
    rcases bt_or.mp b with b | b
    · exact Fl.2 y b z
    · rw [bt_mk] at b
      obtain ⟨x, hx, hr⟩ := b.2
      rw [bt_1 (by omega) (by omega)] at hx
      rw [hx] at hr
      obtain ⟨u, U, fu, e⟩ := GE_u w.1.2.1 (by rw [f2.2.1]; omega) hr
      rw [f2.2.1, f2.2.2.1] at U
      exact c4 (orbS_st M hp U fu ⟨by omega, c1⟩ e z)
  · rw [f.2.1] at c1
    rw [bb c1] at c2
    rw [f.2.1, f.2.2.1] at c4 q3
    have w := LPI_fr (g' := h') ho S hp G0.1 L q3.1
    have z := q3.2 c4
    have s66 : h' (o + 66) p = g (o + 66) p := q3.1 _ _ (by omega) (by omega)
    have aa := LPI_add (k3 := h'_1) ho S hp w.1 G0.1 c1 (by omega) (by rw [s66]; exact fun v => c2 (Or.inl v)) (gl h' fl w.1).2 z.1 z.2.1 z.2.2 rfl
    exact ih c1 h'_1 fl (by omega) (by omega) (aa.2 q5)
theorem C2_ok : am_CS 26 2 C2 := W2 (fun o p h K hb => by
  obtain ⟨⟨C, hp⟩, hK⟩ := hb
  have hn := C.2.1.1.2.1
  exact T2_0 ⟨by omega, L2 C hp hK (p + 1) _ 0 (by omega) (by omega) (LPI_0 C hp rfl)⟩)
/-! 1 FactorNets$Chain.learn -/
def C1 : am_K := fun as h K => am_a1 as (fun v0 => am_o 0 v0 (fun o => (HO0 o ∧ SV h (am_sv o)) ∧ (∀ (h' : am_H), CHL h h' o ∧ CHF h' o ∧ KIN h' (o + 111) → K (none) (h'))))
theorem W1 {d : Nat} (H : ∀ (o : Int) (h : am_H) (K : Option am_V → am_H → Prop), (HO0 o ∧ SV h (am_sv o)) ∧ (∀ (h' : am_H), CHL h h' o ∧ CHF h' o ∧ KIN h' (o + 111) → K (none) (h')) → am_AT d 1 0 [some (mR 1 0 0 o), none] h K) : am_CS d 1 C1 := by
  refine am_CS_of (T := tb1) (mL := 2) (rk := 0) rfl (fun as h K hC => ?_)
  obtain ⟨v0, rfl, hC0⟩ := am_a1_e hC
  obtain ⟨o, rfl, hC1⟩ := am_o_e hC0
  refine ⟨Nat.le_of_ble_eq_true rfl, ?_⟩
  exact H o h K hC1
theorem T1_0 {R : Option am_V → am_H → Prop} {h : am_H} {o : Int} (t : (SV h (am_sv o)) ∧ (∀ (h' : am_H), (SQ h h' (am_sv o) ∧ h' (am_sv o) 4 = 1) → ((HO8 (o + 111) ∧ (NT (h' (am_sv (o + 111) + 1) 0) (nr h' (am_sv (o + 111) + 2) 0) ∧ CN (h' (am_sv (o + 111) + 1) 0) (nr h' (am_sv (o + 111) + 2) 0))) ∧ (∀ (h'_1 : am_H), (KNQ h' h'_1 (o + 111) ∧ KIN h'_1 (o + 111)) → (am_AT 27 1 38 [some (mR 1 0 0 o), some (mI (((am_up (am_up h'_1 o 4 0) o 0 1) ((am_sv o) + 1) 0) - 1))] (am_up (am_up h'_1 o 4 0) o 0 1) R))))) : am_AT 27 1 0 [some (mR 1 0 0 o), none] h R :=
  am_T (d := 26) (m := 1) (T := tb1) (mL := 2) (rk := 0) (cuts := [(38, [1, 2])]) (l := [(2, C2), (69, C69), (88, C88b), (317, C317)]) rfl ⟨am_CS_d (by decide) C2_ok, am_CS_d (by decide) C69_ok, am_CS_d (by decide) C88b_ok, am_CS_d (by decide) C317_ok, trivial⟩ 24 (And.intro (t).1 (fun z3_0 z3_1 => And.intro (((t).2) z3_0 z3_1).1 (fun z4_0 z4_1 => ((((t).2) z3_0 z3_1).2) z4_0 z4_1)))
theorem T1_38 {R : Option am_V → am_H → Prop} {h : am_H} {o : Int} {x1 : Int} (t : (R32 x1) ∧ (((x1 < 0) → (R none h)) ∧ ((0 ≤ x1) → ((R32 x1) ∧ ((CHS h o (x1 + 1) ∧ (0 ≤ x1 ∧ x1 < (h (am_sv o + 1) 0))) ∧ (∀ (h' : am_H), (CHQ h h' o ∧ CHS h' o x1 ∧ PLD h' o x1 ∧ (∀ y9, x1 < y9 → y9 < (h (am_sv o + 1) 0) → PLD h o y9 → PLD h' o y9)) → ((0 ≤ x1 ∧ x1 < 20) ∧ ((0 ≤ (h' (o + 66) x1) ∧ (h' (o + 66) x1) < 2147483648) ∧ ((R64 ((h' o 0) * (iPop (h' (o + 66) x1)))) ∧ (am_AT 27 1 38 [some (mR 1 0 0 o), some (mI (x1 + (-1)))] (am_up h' o 0 ((h' o 0) * (iPop (h' (o + 66) x1)))) R)))))))))) : am_AT 27 1 38 [some (mR 1 0 0 o), some (mI x1)] h R :=
  am_T (d := 26) (m := 1) (T := tb1) (mL := 2) (rk := 0) (cuts := [(38, [1, 2])]) (l := [(2, C2), (69, C69), (88, C88b), (317, C317)]) rfl ⟨am_CS_d (by decide) C2_ok, am_CS_d (by decide) C69_ok, am_CS_d (by decide) C88b_ok, am_CS_d (by decide) C317_ok, trivial⟩ 22 (And.intro (t).1 (And.intro (fun c4 => ((t).2).1 c4) (fun c4 => And.intro (((t).2).2 c4).1 (And.intro ((((t).2).2 c4).2).1 (fun z5_0 z5_1 => And.intro ((((((t).2).2 c4).2).2) z5_0 z5_1).1 (And.intro (((((((t).2).2 c4).2).2) z5_0 z5_1).2).1 (And.intro ((((((((t).2).2 c4).2).2) z5_0 z5_1).2).2).1 (((((((((t).2).2 c4).2).2) z5_0 z5_1).2).2).2))))))))
theorem L1 {K : Option am_V → am_H → Prop} {h : am_H} {o : Int} (ho : HO0 o) (H : SV h (am_sv o)) (hK : ∀ h', CHL h h' o ∧ CHF h' o ∧ KIN h' (o + 111) → K none h') : ∀ p, ∀ g : am_H, -1 ≤ p → p < h (am_sv o + 1) 0 → CHL h g o → CHS g o (p + 1) → (∀ y, p < y → y < h (am_sv o + 1) 0 → PLD g o y) → g o 0 = lvr (h (am_sv o + 1) 0) (svD h (am_sv o)) (h (am_sv o + 1) 0 - 1 - p).toNat → am_AT 27 1 38 [some (mR 1 0 0 o), some (mI p)] g K := by
  have ho' := ho
  unfold HO0 at ho'
  have hn := H.1.1.2.1
  have M : DM (h (am_sv o + 1) 0) (svD h (am_sv o)) := DM_ds H.1.1 H.1.2
  refine lpd 0 (fun p ih g p0 p1 L C D O => ?_)
  have eD : svD g (am_sv o) = svD h (am_sv o) := by unfold svD; rw [L.2.2.1]
  have en := L.2.2.2.1
  -- what a learnt point leaves
  have nx : 0 ≤ p → ∀ h', (CHQ g h' o ∧ CHS h' o p ∧ PLD h' o p ∧ (∀ y9, p < y9 → y9 < g (am_sv o + 1) 0 → PLD g o y9 → PLD h' o y9)) → h' (am_sv o + 1) 0 = h (am_sv o + 1) 0 ∧ svD h' (am_sv o) = svD h (am_sv o) ∧ h' o 0 * iPop (h' (o + 66) p) = lvr (h (am_sv o + 1) 0) (svD h (am_sv o)) (h (am_sv o + 1) 0 - 1 - (p - 1)).toNat ∧ CHL h h' o := fun z h' q => by
    have e1 : h' (am_sv o + 1) 0 = h (am_sv o + 1) 0 := (q.1 _ _ (by omega) (by omega)).trans en
    have e2 : nr h' (am_sv o + 2) 0 = nr g (am_sv o + 2) 0 := nr_fr2 (fun i => q.1 _ _ (by omega) (by omega))
    have e3 : svD h' (am_sv o) = svD h (am_sv o) := by rw [← eD]; unfold svD; rw [e2]
    refine ⟨e1, e3, ?_, ?_⟩
    · rw [q.1 o 0 (by omega) (by omega), O, q.2.2.1.1, e1, e3, iPop_mk, show (h (am_sv o + 1) 0 - 1 - (p - 1)).toNat = (h (am_sv o + 1) 0 - 1 - p).toNat + 1 by omega]
      show _ = ct (orbS _ _ (h (am_sv o + 1) 0 - (((h (am_sv o + 1) 0 - 1 - p).toNat + 1 : Nat) : Int))) 20 * _
      rw [show h (am_sv o + 1) 0 - (((h (am_sv o + 1) 0 - 1 - p).toNat + 1 : Nat) : Int) = p by omega, Int.mul_comm]
    · have qq : ∀ x i, am_sv o ≤ x → x ≤ am_sv o + 73 → h' x i = g x i := fun x i a b => q.1 x i (by omega) (by omega)
      refine ⟨SV_fra L.1 qq, fun x i a b c => (q.1 x i (by omega) (by omega)).trans (L.2.1 x i a b c), e2.trans L.2.2.1, e1, ?_, by rw [qq _ _ (by omega) (by omega)]; exact L.2.2.2.2.2⟩
      rw [qq _ 4 (by omega) (by omega), qq _ 5 (by omega) (by omega), qq _ 6 (by omega) (by omega)]
      exact L.2.2.2.2.1
  refine T1_38 ⟨by omega, ⟨fun c1 => ?_, fun c1 => ⟨by omega, ⟨⟨C, c1, by rw [en]; exact p1⟩, fun h' q2 => ⟨by omega, ⟨by
    rw [q2.2.2.1.1]
    have := mkb_c (orbS (h' (am_sv o + 1) 0) (svD h' (am_sv o)) p)
    omega, ⟨by
    rw [(nx c1 h' q2).2.2.1]
    have := lvr_64 (D := svD h (am_sv o)) M (m := (h (am_sv o + 1) 0 - 1 - (p - 1)).toNat) (by omega)
    unfold R64
    omega, ?_⟩⟩⟩⟩⟩⟩⟩
  · refine hK g ⟨L, ⟨ho, C.2.1, GOK_le C.2.2.2.1 (by omega), fun y a b => D y (by omega) (by omega), ?_⟩, C.2.2.1⟩
    rw [O, en, eD]
    congr 1
    omega
  · have w := nx c1 h' q2
    have e9 := CH_0 (h := h') (g := am_up h' o 0 (h' o 0 * iPop (h' (o + 66) p))) ho (fun x i a => am_up_n2 a)
    refine ih c1 _ (by omega) (by omega) ?_ ?_ ?_ ?_
    · have qq : ∀ x i, x ≠ o → am_up h' o 0 (h' o 0 * iPop (h' (o + 66) p)) x i = h' x i := fun x i a => am_up_ne a
      refine ⟨SV_fra w.2.2.2.1 (fun x i a b => qq x i (by omega)), fun x i a b c => (qq x i (by omega)).trans (w.2.2.2.2.1 x i a b c), (nr_fr2 (fun i => qq _ i (by omega))).trans w.2.2.2.2.2.1, (qq _ _ (by omega)).trans w.2.2.2.2.2.2.1, ?_, by rw [qq _ _ (by omega)]; exact w.2.2.2.2.2.2.2.2⟩
      rw [qq _ 4 (by omega), qq _ 5 (by omega), qq _ 6 (by omega)]
      exact w.2.2.2.2.2.2.2.1
    · rw [show p - 1 + 1 = p by omega]
      exact e9.2.2.1 p q2.2.1
    · intro y a b
      refine e9.2.2.2 y (by rw [w.1]; omega) (by rw [w.1, w.2.1]; exact M) ?_
      by_cases z : y = p
      · rw [z]; exact q2.2.2.1
      · exact q2.2.2.2 y (by omega) (by rw [en]; exact b) (D y (by omega) b)
    · rw [am_up_eq]
      exact w.2.2.1
theorem C1_ok : am_CS 27 1 C1 := W1 (fun o h K hb => by
  obtain ⟨⟨ho, H⟩, hK⟩ := hb
  have o8 := HO0_8 ho
  have ho' := ho
  unfold HO0 at ho'
  have hn := H.1.1.1
  refine T1_0 ⟨H, fun h' q1 => ⟨⟨o8.1, by rw [o8.2]; exact q1.1.1.1⟩, fun h'_1 q2 => ?_⟩⟩
  · have kn := KN_n o8.1 q2.1
    rw [o8.2] at kn
    have g1 : ∀ x i, ¬ (o ≤ x ∧ x ≤ o + 136) → (am_up (am_up h'_1 o 4 0) o 0 1) x i = h' x i := fun x i a => by rw [am_up_ne (by omega), am_up_ne (by omega)]; exact q2.1 x i (by omega) (by omega)
    have en : (am_up (am_up h'_1 o 4 0) o 0 1) (am_sv o + 1) 0 = h (am_sv o + 1) 0 := (g1 _ _ (by omega)).trans q1.1.2.2.2.1
    have er : nr (am_up (am_up h'_1 o 4 0) o 0 1) (am_sv o + 2) 0 = nr h (am_sv o + 2) 0 := (nr_fr2 (fun i => g1 _ _ (by omega))).trans q1.1.2.2.1
    have e4 : (am_up (am_up h'_1 o 4 0) o 0 1) o 4 = 0 := by rw [am_up_n2 (by omega), am_up_eq]
    rw [en]
    refine L1 ho H hK _ _ (by omega) (by omega) ?_ ?_ (fun y a b => by omega) ?_
    · refine ⟨SV_fra q1.1.1 (fun x i a b => g1 x i (by omega)), fun x i a b c => (g1 x i c).trans (q1.1.2.1 x i a b), er, en, ?_, by rw [g1 _ _ (by omega)]; exact q1.2⟩
      rw [g1 _ 4 (by omega), g1 _ 5 (by omega), g1 _ 6 (by omega)]
      exact q1.1.2.2.2.2
    · refine ⟨ho, (SVM_fr (h := h') ⟨q1.1.1.1.1, q1.1.1.1.2, q1.1.1.2.2.1 q1.2⟩ (fun x i a b => g1 x i (by omega))).1, ?_, ⟨by rw [e4]; omega, fun i a b => by rw [e4] at b; omega⟩, ?_⟩
      · have k := q2.2
        unfold KIN at k ⊢
        rw [o8.2] at k ⊢
        rw [kn.1, kn.2.2] at k
        have eD : svD (am_up (am_up h'_1 o 4 0) o 0 1) (am_sv o) = svD h' (am_sv o) := by unfold svD; rw [er, q1.1.2.2.1]
        rw [en, eD]
        rw [q1.1.2.2.2.1] at k
        intro y a b
        rw [am_up_ne (by omega), am_up_ne (by omega)]
        exact k y a b
      · rw [e4, en]
        have a := ct_mono (P := LSt (GE (am_up (am_up h'_1 o 4 0) o 0 1) o) (h (am_sv o + 1) 0)) (Q := fun k => k < h (am_sv o + 1) 0) 20 (fun k _ w => w.1)
        have b := ct_lt (m := h (am_sv o + 1) 0) hn 20
        have c := H.1.1.2.1
        rw [if_pos (by omega)] at b
        omega
    · rw [am_up_eq, show (h (am_sv o + 1) 0 - 1 - (h (am_sv o + 1) 0 - 1)).toNat = 0 by omega]
      rfl)
