/-! ===== the reference: whether all can go ===== -/
def mrow (h : am_H) (dp k : Int) : Int := h 595 (20 * dp + k)
def nrwM (h : am_H) (dp i to k : Int) : Int := iAnd (h 595 (20 * dp + k)) (iAnd (h 594 (20 * to + h 588 (20 * i + k))) (iXor (iShl 1 to) (-1)))
def NWQ (h g : am_H) (dp left i to : Int) : Prop := ∀ k, 0 ≤ k → k < h 571 30 → bit left k → k ≠ i → g 595 (20 * (dp + 1) + k) = nrwM h dp i to k
def NWN (h : am_H) (dp left i to : Int) : Prop := ∃ k, (0 ≤ k ∧ k < h 571 30) ∧ bit left k ∧ k ≠ i ∧ nrwM h dp i to k = 0
theorem nrwM_b {h : am_H} (G : GS h) (SP : SPH h) {dp i to k x : Int} (hi : 0 ≤ i ∧ i < h 571 30) (ht : 0 ≤ to ∧ to < h 571 30) (hk : 0 ≤ k ∧ k < h 571 30) (ne : k ≠ i) (hm : ∀ q, bit (h 595 (20 * dp + k)) q → q < h 571 30) : bit (nrwM h dp i to k) x ↔ bit (h 595 (20 * dp + k)) x ∧ fD h 589 to x = fD h 588 i k := by
  have hs := G.1.1
  have d := (G.1.2 i k hi hk).2.2
  have e := SP to (fD h 588 i k) ht d
  unfold nrwM
  rw [bt_and, bt_less (by omega)]
  show _ ∧ bit (h 594 (20 * to + fD h 588 i k)) x ∧ _ ↔ _
  rw [e, bt_mk]
  constructor
  · intro w
    exact ⟨w.1, w.2.1.2.2⟩
  · intro w
    have r := hm x w.1
    refine ⟨w.1, ⟨⟨w.1.1, by omega⟩, r, w.2⟩, fun z => ?_⟩
    rw [z, (G.2.2 to to ht ht).1.mpr rfl] at w
    exact ne ((G.1.2 i k hi hk).1.mp w.2.symm).symm
def isW (h : am_H) : Prop := ∃ g, ISO (h 571 30) (fD h 588) (fD h 589) g ∧ ∀ i, 0 ≤ i → i < h 571 30 → h 590 i = -1 ∨ h 590 i = g i
def CGP (h : am_H) (i to : Int) : Prop := h 591 i = h 591 (20 + to) ∧ (h 590 i = -1 ∨ h 590 i = to)
theorem isW_ex {h : am_H} (G : GS h) (K : KND h) {M : Int → Int} {op : Int → Prop} (ho : ∀ k, op k ↔ 0 ≤ k ∧ k < h 571 30) (hM : ∀ k, (0 ≤ k ∧ k < h 571 30) → M k = mkb (fun y => y < h 571 30 ∧ CGP h k y)) : EXs (fD h 588) (fD h 589) M op ↔ isW h := by
  have hs := G.1.1
  constructor
  · rintro ⟨g, g1, g2⟩
    have m : ∀ k, (0 ≤ k ∧ k < h 571 30) → (0 ≤ g k ∧ g k < 20) ∧ g k < h 571 30 ∧ CGP h k (g k) := fun k hk => by
      have w := g1 k ((ho k).mpr hk)
      rw [hM k hk, bt_mk] at w
      exact w
    exact ⟨g, ⟨fun p a b => ⟨(m p ⟨a, b⟩).1.1, (m p ⟨a, b⟩).2.1⟩, fun p q a b => g2 p q ((ho p).mpr a) ((ho q).mpr b)⟩, fun i a b => (m i ⟨a, b⟩).2.2.2⟩
  · rintro ⟨g, I, w⟩
    refine ⟨g, fun k a => ?_, fun p q a b => I.2 p q ((ho p).mp a) ((ho q).mp b)⟩
    have hk := (ho k).mp a
    have r := I.1 k hk.1 hk.2
    rw [hM k hk, bt_mk]
    exact ⟨by omega, r.2, K g I k hk.1 hk.2, w k hk.1 hk.2⟩
theorem GS_fr {h g : am_H} (G : GS h) (S : SPH h) (e : ∀ x i, x ≠ 595 → g x i = h x i) : GS g ∧ SPH g ∧ g 571 30 = h 571 30 ∧ fD g 588 = fD h 588 ∧ fD g 589 = fD h 589 := by
  have e1 : g 571 30 = h 571 30 := e _ _ (by omega)
  have e2 : fD g 588 = fD h 588 := by funext i k; exact e _ _ (by omega)
  have e3 : fD g 589 = fD h 589 := by funext i k; exact e _ _ (by omega)
  refine ⟨?_, ?_, e1, e2, e3⟩
  · unfold GS; rw [e1, e2, e3]; exact G
  · unfold SPH; rw [e1, e3, show g 594 = h 594 by funext i; exact e _ _ (by omega)]; exact S
/-! 262 FactorNetsModel.narrows -/
def C262 : am_K := fun as h K => am_a5 as (fun v0 v1 v2 v3 v4 => am_oc 12 571 v0 (am_n v1 (fun dp => am_n v2 (fun left => am_n v3 (fun i => am_n v4 (fun to => (GS h ∧ SPH h ∧ (0 ≤ dp ∧ dp < 20) ∧ (0 ≤ i ∧ i < (h 571 30)) ∧ (0 ≤ to ∧ to < (h 571 30))) ∧ (∀ (h' : am_H) (c9 : Prop), ((∀ x9 i9, ¬ (x9 = 595 ∧ 20 * (dp + 1) ≤ i9) → h' x9 i9 = h x9 i9) ∧ (c9 → NWQ h h' dp left i to) ∧ (¬ c9 → NWN h dp left i to)) → K (some (mP (c9))) (h'))))))))
theorem W262 {d : Nat} (H : ∀ (dp : Int) (left : Int) (i : Int) (to : Int) (h : am_H) (K : Option am_V → am_H → Prop), (GS h ∧ SPH h ∧ (0 ≤ dp ∧ dp < 20) ∧ (0 ≤ i ∧ i < (h 571 30)) ∧ (0 ≤ to ∧ to < (h 571 30))) ∧ (∀ (h' : am_H) (c9 : Prop), ((∀ x9 i9, ¬ (x9 = 595 ∧ 20 * (dp + 1) ≤ i9) → h' x9 i9 = h x9 i9) ∧ (c9 → NWQ h h' dp left i to) ∧ (¬ c9 → NWN h dp left i to)) → K (some (mP (c9))) (h')) → am_AT d 262 0 [some (mR 1 12 0 571), some (mB dp), some (mB left), some (mB i), some (mB to), none, none] h K) : am_CS d 262 C262 := by
  refine am_CS_of (T := tb262) (mL := 7) (rk := 4) rfl (fun as h K hC => ?_)
  obtain ⟨v0, v1, v2, v3, v4, rfl, hC0⟩ := am_a5_e hC
  obtain ⟨e0, hC1⟩ := am_oc_e hC0
  subst e0
  obtain ⟨dp, rfl, hC2⟩ := am_n_e hC1
  obtain ⟨left, rfl, hC3⟩ := am_n_e hC2
  obtain ⟨i, rfl, hC4⟩ := am_n_e hC3
  obtain ⟨to, rfl, hC5⟩ := am_n_e hC4
  refine ⟨Nat.le_of_ble_eq_true rfl, ?_⟩
  exact H dp left i to h K hC5
theorem T262_0 {R : Option am_V → am_H → Prop} {h : am_H} {dp : Int} {left : Int} {i : Int} {to : Int} (t : am_AT 2 262 3 [some (mR 1 12 0 571), some (mB dp), some (mB left), some (mB i), some (mB to), some (mI 0), none] h R) : am_AT 2 262 0 [some (mR 1 12 0 571), some (mB dp), some (mB left), some (mB i), some (mB to), none, none] h R :=
  am_T (d := 1) (m := 262) (T := tb262) (mL := 7) (rk := 4) (cuts := [(3, [1, 1, 1, 1, 1, 2, 0])]) (l := [(188, C188)]) rfl ⟨am_CS_d (by decide) C188_ok, trivial⟩ 6 (t)
theorem T262_3 {R : Option am_V → am_H → Prop} {h : am_H} {dp : Int} {left : Int} {i : Int} {to : Int} {x5 : Int} (t : (R32 x5) ∧ (((h 571 30 ≤ x5) → (R (some (mP ((1 : Int) = 1))) h)) ∧ ((x5 < h 571 30) → ((0 ≤ (20 * dp) + x5 ∧ (20 * dp) + x5 < 420) ∧ ((R32 x5) ∧ ((0 ≤ x5 ∧ x5 < 32) ∧ (((¬ (bit left x5)) → ((0 ≤ (20 * (dp + 1)) + x5 ∧ (20 * (dp + 1)) + x5 < 420) ∧ (am_AT 2 262 3 [some (mR 1 12 0 571), some (mB dp), some (mB left), some (mB i), some (mB to), some (mI (x5 + 1)), none] (am_up h 595 ((20 * (dp + 1)) + x5) (h 595 ((20 * dp) + x5))) R))) ∧ ((bit left x5) → ((R32 x5) ∧ (((x5 = i) → ((0 ≤ (20 * (dp + 1)) + x5 ∧ (20 * (dp + 1)) + x5 < 420) ∧ (am_AT 2 262 3 [some (mR 1 12 0 571), some (mB dp), some (mB left), some (mB i), some (mB to), some (mI (x5 + 1)), none] (am_up h 595 ((20 * (dp + 1)) + x5) (h 595 ((20 * dp) + x5))) R))) ∧ ((¬ x5 = i) → ((0 ≤ (20 * i) + x5 ∧ (20 * i) + x5 < 400) ∧ ((0 ≤ (20 * to) + (h 588 ((20 * i) + x5)) ∧ (20 * to) + (h 588 ((20 * i) + x5)) < 400) ∧ (((¬ iAnd (h 595 ((20 * dp) + x5)) (iAnd (h 594 ((20 * to) + (h 588 ((20 * i) + x5)))) (iXor (iShl 1 to) (-1))) = 0) → ((0 ≤ (20 * (dp + 1)) + x5 ∧ (20 * (dp + 1)) + x5 < 420) ∧ (am_AT 2 262 3 [some (mR 1 12 0 571), some (mB dp), some (mB left), some (mB i), some (mB to), some (mI (x5 + 1)), none] (am_up h 595 ((20 * (dp + 1)) + x5) (iAnd (h 595 ((20 * dp) + x5)) (iAnd (h 594 ((20 * to) + (h 588 ((20 * i) + x5)))) (iXor (iShl 1 to) (-1))))) R))) ∧ ((iAnd (h 595 ((20 * dp) + x5)) (iAnd (h 594 ((20 * to) + (h 588 ((20 * i) + x5)))) (iXor (iShl 1 to) (-1))) = 0) → (R (some (mP ((0 : Int) = 1))) h)))))))))))))))) : am_AT 2 262 3 [some (mR 1 12 0 571), some (mB dp), some (mB left), some (mB i), some (mB to), some (mI x5), none] h R :=
  am_T (d := 1) (m := 262) (T := tb262) (mL := 7) (rk := 4) (cuts := [(3, [1, 1, 1, 1, 1, 2, 0])]) (l := [(188, C188)]) rfl ⟨am_CS_d (by decide) C188_ok, trivial⟩ 63 (And.intro (t).1 (And.intro (fun c1 => And.intro (Or.inr rfl) (((t).2).1 c1)) (fun c1 => And.intro (((t).2).2 c1).1 (And.intro ((((t).2).2 c1).2).1 (And.intro (((((t).2).2 c1).2).2).1 (And.intro (fun c2 => And.intro (((((((t).2).2 c1).2).2).2).1 c2).1 ((((((((t).2).2 c1).2).2).2).1 c2).2)) (fun c2 => And.intro (((((((t).2).2 c1).2).2).2).2 c2).1 (And.intro (fun c3 => And.intro (((((((((t).2).2 c1).2).2).2).2 c2).2).1 c3).1 ((((((((((t).2).2 c1).2).2).2).2 c2).2).1 c3).2)) (fun c3 => And.intro (((((((((t).2).2 c1).2).2).2).2 c2).2).2 c3).1 (And.intro ((((((((((t).2).2 c1).2).2).2).2 c2).2).2 c3).2).1 (And.intro (fun c4 => And.intro ((((((((((((t).2).2 c1).2).2).2).2 c2).2).2 c3).2).2).1 c4).1 (((((((((((((t).2).2 c1).2).2).2).2 c2).2).2 c3).2).2).1 c4).2)) (fun c4 => And.intro (Or.inl rfl) ((((((((((((t).2).2 c1).2).2).2).2 c2).2).2 c3).2).2).2 c4)))))))))))))
theorem L262 {K : Option am_V → am_H → Prop} {h : am_H} {dp left i to : Int} (G : GS h) (SP : SPH h) (hd : 0 ≤ dp ∧ dp < 20) (hi : 0 ≤ i ∧ i < h 571 30) (ht : 0 ≤ to ∧ to < h 571 30) (hK : ∀ (h' : am_H) (c9 : Prop), ((∀ x9 i9, ¬ (x9 = 595 ∧ 20 * (dp + 1) ≤ i9) → h' x9 i9 = h x9 i9) ∧ (c9 → NWQ h h' dp left i to) ∧ (¬ c9 → NWN h dp left i to)) → K (some (mP c9)) h') : ∀ k, ∀ g : am_H, 0 ≤ k → k ≤ h 571 30 → (∀ x9 i9, ¬ (x9 = 595 ∧ 20 * (dp + 1) ≤ i9) → g x9 i9 = h x9 i9) → (∀ y, 0 ≤ y → y < k → bit left y → y ≠ i → g 595 (20 * (dp + 1) + y) = nrwM h dp i to y) → am_AT 2 262 3 [some (mR 1 12 0 571), some (mB dp), some (mB left), some (mB i), some (mB to), some (mI k), none] g K := by
  have hs := G.1.1
  refine lp (h 571 30) (fun k ih g k0 k1 F A => ?_)
  have es : g 571 30 = h 571 30 := F _ _ (by omega)
  have e5 : g 588 (20 * i + k) = h 588 (20 * i + k) := F _ _ (by omega)
  have dr : k < h 571 30 → 0 ≤ h 588 (20 * i + k) ∧ h 588 (20 * i + k) < 20 := fun z => (G.1.2 i k hi ⟨k0, z⟩).2.2
  have en : iAnd (g 595 (20 * dp + k)) (iAnd (g 594 (20 * to + g 588 (20 * i + k))) (iXor (iShl 1 to) (-1))) = nrwM h dp i to k ∨ ¬ k < h 571 30 := by
    by_cases z : k < h 571 30
    · left
      have d := dr z
      unfold nrwM
      rw [e5, F 595 (20 * dp + k) (by omega), F 594 _ (by omega)]
    · exact Or.inr z
  refine T262_3 ⟨by omega, ⟨fun c1 => ?_, fun c1 => ⟨by omega, ⟨by omega, ⟨by omega, ⟨fun c2 => ⟨by omega, ?_⟩, fun c2 => ⟨by omega, ⟨fun c3 => ⟨by omega, ?_⟩, fun c3 => ⟨by omega, ⟨by rw [es] at c1; have d := dr c1; rw [e5]; omega, ⟨fun c4 => ⟨by omega, ?_⟩, fun c4 => ?_⟩⟩⟩⟩⟩⟩⟩⟩⟩⟩⟩
  · rw [es] at c1
    exact hK g _ ⟨F, fun _ y a b => A y a (by omega), fun z => absurd rfl z⟩
  · rw [es] at c1
    refine ih c1 _ (by omega) (by omega) (fun x j z => by rw [am_up_n2 (by omega)]; exact F x j z) (fun y a b u v => ?_)
    by_cases z : y = k
    · rw [z] at u; exact absurd u c2
    · rw [am_up_ne2 (by omega)]; exact A y a (by omega) u v
  · rw [es] at c1
    refine ih c1 _ (by omega) (by omega) (fun x j z => by rw [am_up_n2 (by omega)]; exact F x j z) (fun y a b u v => ?_)
    by_cases z : y = k
    · exact absurd (z.trans c3) v
    · rw [am_up_ne2 (by omega)]; exact A y a (by omega) u v
  · have en := en.resolve_right (fun z => z (by rw [← es]; exact c1))
    rw [en]
    rw [es] at c1
    refine ih c1 _ (by omega) (by omega) (fun x j z => by rw [am_up_n2 (by omega)]; exact F x j z) (fun y a b u v => ?_)
    by_cases z : y = k
    · rw [z, am_up_eq]
    · rw [am_up_ne2 (by omega)]; exact A y a (by omega) u v
  · have en := en.resolve_right (fun z => z (by rw [← es]; exact c1))
    rw [es] at c1
    refine hK g _ ⟨F, fun z => by omega, fun _ => ⟨k, ⟨k0, c1⟩, c2, c3, by rw [← en]; exact c4⟩⟩
theorem C262_ok : am_CS 2 262 C262 := W262 (fun dp left i to h K hb => by
  obtain ⟨⟨G, SP, hd, hi, ht⟩, hK⟩ := hb
  exact T262_0 (L262 G SP hd hi ht hK 0 h (by omega) G.1.1.1 (fun _ _ _ => rfl) (fun y a b => by omega)))
/-! 263 FactorNetsModel.canGoOn -/
def C263 (f : Nat) : am_K := fun as h K => am_a3 as (fun v0 v1 v2 => am_oc 12 571 v0 (am_n v1 (fun dp => am_n v2 (fun left => (GS h ∧ SPH h ∧ (0 ≤ dp ∧ dp + iPop left ≤ 20) ∧ S20 left ∧ (∀ y9, bit left y9 → y9 < (h 571 30) ∧ S20 (h 595 (20 * dp + y9)) ∧ ∀ q9, bit (h 595 (20 * dp + y9)) q9 → q9 < (h 571 30)) ∧ iPop left < f) ∧ (∀ (h' : am_H), (∀ x9 i9, ¬ (x9 = 595 ∧ 20 * (dp + 1) ≤ i9) → h' x9 i9 = h x9 i9) → K (some (mP (EXs (fD h 588) (fD h 589) (mrow h dp) (bit left)))) (h'))))))
theorem W263 {d : Nat} (f : Nat) (H : ∀ (dp : Int) (left : Int) (h : am_H) (K : Option am_V → am_H → Prop), (GS h ∧ SPH h ∧ (0 ≤ dp ∧ dp + iPop left ≤ 20) ∧ S20 left ∧ (∀ y9, bit left y9 → y9 < (h 571 30) ∧ S20 (h 595 (20 * dp + y9)) ∧ ∀ q9, bit (h 595 (20 * dp + y9)) q9 → q9 < (h 571 30)) ∧ iPop left < f) ∧ (∀ (h' : am_H), (∀ x9 i9, ¬ (x9 = 595 ∧ 20 * (dp + 1) ≤ i9) → h' x9 i9 = h x9 i9) → K (some (mP (EXs (fD h 588) (fD h 589) (mrow h dp) (bit left)))) (h')) → am_AT d 263 0 [some (mR 1 12 0 571), some (mB dp), some (mB left), none, none, none] h K) : am_CS d 263 (C263 f) := by
  refine am_CS_of (T := tb263) (mL := 6) (rk := 4) rfl (fun as h K hC => ?_)
  obtain ⟨v0, v1, v2, rfl, hC0⟩ := am_a3_e hC
  obtain ⟨e0, hC1⟩ := am_oc_e hC0
  subst e0
  obtain ⟨dp, rfl, hC2⟩ := am_n_e hC1
  obtain ⟨left, rfl, hC3⟩ := am_n_e hC2
  refine ⟨Nat.le_of_ble_eq_true rfl, ?_⟩
  exact H dp left h K hC3
theorem T263_0 {R : Option am_V → am_H → Prop} {h : am_H} {dp : Int} {left : Int} {d f : Nat} (hd : 2 ≤ d) (hr : am_CS d 263 (C263 f)) (t : ((¬ left = 0) → (am_AT (d + 1) 263 11 [some (mR 1 12 0 571), some (mB dp), some (mB left), some (mI (-1)), some (mI 0), none] h R)) ∧ ((left = 0) → (R (some (mP ((1 : Int) = 1))) h))) : am_AT (d + 1) 263 0 [some (mR 1 12 0 571), some (mB dp), some (mB left), none, none, none] h R :=
  am_T (d := d) (m := 263) (T := tb263) (mL := 6) (rk := 4) (cuts := [(11, [1, 1, 1, 2, 2, 0]), (94, [1, 1, 1, 2, 2, 0])]) (l := [(188, C188), (262, C262), (263, (C263 f)), (317, C317)]) rfl ⟨am_CS_d (Nat.le_trans (by decide) hd) C188_ok, am_CS_d (Nat.le_trans (by decide) hd) C262_ok, hr, am_CS_d (Nat.le_trans (by decide) hd) C317_ok, trivial⟩ 10 (And.intro (fun c5 => (t).1 c5) (fun c5 => And.intro (Or.inr rfl) ((t).2 c5)))
theorem T263_11 {R : Option am_V → am_H → Prop} {h : am_H} {dp : Int} {left : Int} {x3 : Int} {x4 : Int} {d f : Nat} (hd : 2 ≤ d) (hr : am_CS d 263 (C263 f)) (t : (R32 x4) ∧ (((h 571 30 ≤ x4) → (am_AT (d + 1) 263 94 [some (mR 1 12 0 571), some (mB dp), some (mB left), some (mI x3), some (mI 0), none] h R)) ∧ ((x4 < h 571 30) → ((R32 x4) ∧ ((0 ≤ x4 ∧ x4 < 32) ∧ (((¬ (bit left x4)) → (am_AT (d + 1) 263 11 [some (mR 1 12 0 571), some (mB dp), some (mB left), some (mI x3), some (mI (x4 + 1)), none] h R)) ∧ ((bit left x4) → ((R32 x3) ∧ (((x3 = (-1)) → (am_AT (d + 1) 263 11 [some (mR 1 12 0 571), some (mB dp), some (mB left), some (mI x4), some (mI (x4 + 1)), none] h R)) ∧ ((¬ x3 = (-1)) → ((0 ≤ (20 * dp) + x4 ∧ (20 * dp) + x4 < 420) ∧ ((0 ≤ (h 595 ((20 * dp) + x4)) ∧ (h 595 ((20 * dp) + x4)) < 2147483648) ∧ ((0 ≤ (20 * dp) + x3 ∧ (20 * dp) + x3 < 420) ∧ ((0 ≤ (h 595 ((20 * dp) + x3)) ∧ (h 595 ((20 * dp) + x3)) < 2147483648) ∧ (((iPop (h 595 ((20 * dp) + x3)) ≤ iPop (h 595 ((20 * dp) + x4))) → (am_AT (d + 1) 263 11 [some (mR 1 12 0 571), some (mB dp), some (mB left), some (mI x3), some (mI (x4 + 1)), none] h R)) ∧ ((iPop (h 595 ((20 * dp) + x4)) < iPop (h 595 ((20 * dp) + x3))) → (am_AT (d + 1) 263 11 [some (mR 1 12 0 571), some (mB dp), some (mB left), some (mI x4), some (mI (x4 + 1)), none] h R))))))))))))))))) : am_AT (d + 1) 263 11 [some (mR 1 12 0 571), some (mB dp), some (mB left), some (mI x3), some (mI x4), none] h R :=
  am_T (d := d) (m := 263) (T := tb263) (mL := 6) (rk := 4) (cuts := [(11, [1, 1, 1, 2, 2, 0]), (94, [1, 1, 1, 2, 2, 0])]) (l := [(188, C188), (262, C262), (263, (C263 f)), (317, C317)]) rfl ⟨am_CS_d (Nat.le_trans (by decide) hd) C188_ok, am_CS_d (Nat.le_trans (by decide) hd) C262_ok, hr, am_CS_d (Nat.le_trans (by decide) hd) C317_ok, trivial⟩ 44 (And.intro (t).1 (And.intro (fun c6 => ((t).2).1 c6) (fun c6 => And.intro (((t).2).2 c6).1 (And.intro ((((t).2).2 c6).2).1 (And.intro (fun c7 => And.intro (fun _ => (((((t).2).2 c6).2).2).1 c7) (fun c => absurd (a := ¬ (0 : Int) = 0) c (by decide))) (fun c7 => And.intro ((((((t).2).2 c6).2).2).2 c7).1 (And.intro (fun c8 => And.intro (fun c => absurd (a := (1 : Int) = 0) c (by decide)) (fun _ => (((((((t).2).2 c6).2).2).2 c7).2).1 c8)) (fun c8 => And.intro ((((((((t).2).2 c6).2).2).2 c7).2).2 c8).1 (And.intro (((((((((t).2).2 c6).2).2).2 c7).2).2 c8).2).1 (And.intro ((((((((((t).2).2 c6).2).2).2 c7).2).2 c8).2).2).1 (And.intro (((((((((((t).2).2 c6).2).2).2 c7).2).2 c8).2).2).2).1 (And.intro (fun c9 => And.intro (fun _ => ((((((((((((t).2).2 c6).2).2).2 c7).2).2 c8).2).2).2).2).1 c9) (fun c => absurd (a := ¬ (0 : Int) = 0) c (by decide))) (fun c9 => And.intro (fun c => absurd (a := (1 : Int) = 0) c (by decide)) (fun _ => ((((((((((((t).2).2 c6).2).2).2 c7).2).2 c8).2).2).2).2).2 c9))))))))))))))
theorem T263_94 {R : Option am_V → am_H → Prop} {h : am_H} {dp : Int} {left : Int} {x3 : Int} {x4 : Int} {d f : Nat} (hd : 2 ≤ d) (hr : am_CS d 263 (C263 f)) (t : (R32 x4) ∧ (((h 571 30 ≤ x4) → (R (some (mP ((0 : Int) = 1))) h)) ∧ ((x4 < h 571 30) → ((0 ≤ (20 * dp) + x3 ∧ (20 * dp) + x3 < 420) ∧ ((R32 x4) ∧ ((0 ≤ x4 ∧ x4 < 32) ∧ (((¬ (bit (h 595 ((20 * dp) + x3)) x4)) → (am_AT (d + 1) 263 94 [some (mR 1 12 0 571), some (mB dp), some (mB left), some (mI x3), some (mI (x4 + 1)), none] h R)) ∧ ((bit (h 595 ((20 * dp) + x3)) x4) → ((R32 x3) ∧ ((R32 x4) ∧ ((GS h ∧ SPH h ∧ (0 ≤ dp ∧ dp < 20) ∧ (0 ≤ x3 ∧ x3 < (h 571 30)) ∧ (0 ≤ x4 ∧ x4 < (h 571 30))) ∧ (∀ (h' : am_H) (c9 : Prop), (((∀ x9 i9, ¬ (x9 = 595 ∧ 20 * (dp + 1) ≤ i9) → h' x9 i9 = h x9 i9) ∧ (c9 → NWQ h h' dp left x3 x4) ∧ (¬ c9 → NWN h dp left x3 x4))) → (((¬ (c9)) → (am_AT (d + 1) 263 94 [some (mR 1 12 0 571), some (mB dp), some (mB left), some (mI x3), some (mI (x4 + 1)), none] h' R)) ∧ ((c9) → ((R32 (dp + 1)) ∧ ((GS h' ∧ SPH h' ∧ (0 ≤ (dp + 1) ∧ (dp + 1) + iPop (iAnd left (iXor (iShl 1 x3) (-1))) ≤ 20) ∧ S20 (iAnd left (iXor (iShl 1 x3) (-1))) ∧ (∀ y9, bit (iAnd left (iXor (iShl 1 x3) (-1))) y9 → y9 < (h' 571 30) ∧ S20 (h' 595 (20 * (dp + 1) + y9)) ∧ ∀ q9, bit (h' 595 (20 * (dp + 1) + y9)) q9 → q9 < (h' 571 30)) ∧ iPop (iAnd left (iXor (iShl 1 x3) (-1))) < f) ∧ (∀ (h'_1 : am_H), ((∀ x9 i9, ¬ (x9 = 595 ∧ 20 * ((dp + 1) + 1) ≤ i9) → h'_1 x9 i9 = h' x9 i9)) → (((¬ (EXs (fD h' 588) (fD h' 589) (mrow h' (dp + 1)) (bit (iAnd left (iXor (iShl 1 x3) (-1)))))) → (am_AT (d + 1) 263 94 [some (mR 1 12 0 571), some (mB dp), some (mB left), some (mI x3), some (mI (x4 + 1)), none] h'_1 R)) ∧ ((EXs (fD h' 588) (fD h' 589) (mrow h' (dp + 1)) (bit (iAnd left (iXor (iShl 1 x3) (-1))))) → (R (some (mP ((1 : Int) = 1))) h'_1)))))))))))))))))))) : am_AT (d + 1) 263 94 [some (mR 1 12 0 571), some (mB dp), some (mB left), some (mI x3), some (mI x4), none] h R :=
  am_T (d := d) (m := 263) (T := tb263) (mL := 6) (rk := 4) (cuts := [(11, [1, 1, 1, 2, 2, 0]), (94, [1, 1, 1, 2, 2, 0])]) (l := [(188, C188), (262, C262), (263, (C263 f)), (317, C317)]) rfl ⟨am_CS_d (Nat.le_trans (by decide) hd) C188_ok, am_CS_d (Nat.le_trans (by decide) hd) C262_ok, hr, am_CS_d (Nat.le_trans (by decide) hd) C317_ok, trivial⟩ 41 (And.intro (t).1 (And.intro (fun c10 => And.intro (Or.inl rfl) (((t).2).1 c10)) (fun c10 => And.intro (((t).2).2 c10).1 (And.intro ((((t).2).2 c10).2).1 (And.intro (((((t).2).2 c10).2).2).1 (And.intro (fun c11 => ((((((t).2).2 c10).2).2).2).1 c11) (fun c11 => And.intro (((((((t).2).2 c10).2).2).2).2 c11).1 (And.intro ((((((((t).2).2 c10).2).2).2).2 c11).2).1 (And.intro (rfl) (And.intro (((((((((t).2).2 c10).2).2).2).2 c11).2).2).1 (fun z1_0 z1_1 z1_2 => And.intro (fun c12 => (((((((((((t).2).2 c10).2).2).2).2 c11).2).2).2) z1_0 z1_1 z1_2).1 c12) (fun c12 => And.intro ((((((((((((t).2).2 c10).2).2).2).2 c11).2).2).2) z1_0 z1_1 z1_2).2 c12).1 (And.intro (rfl) (And.intro (((((((((((((t).2).2 c10).2).2).2).2 c11).2).2).2) z1_0 z1_1 z1_2).2 c12).2).1 (fun z2_0 z2_1 => And.intro (fun c13 => (((((((((((((((t).2).2 c10).2).2).2).2 c11).2).2).2) z1_0 z1_1 z1_2).2 c12).2).2) z2_0 z2_1).1 c13) (fun c13 => And.intro (Or.inr rfl) ((((((((((((((((t).2).2 c10).2).2).2).2 c11).2).2).2) z1_0 z1_1 z1_2).2 c12).2).2) z2_0 z2_1).2 c13)))))))))))))))))
theorem L263 {d f : Nat} (hd : 2 ≤ d) (hr : am_CS d 263 (C263 f)) {K : Option am_V → am_H → Prop} {h : am_H} {dp left w : Int} (G : GS h) (SP : SPH h) (h2 : 0 ≤ dp ∧ dp + iPop left ≤ 20) (so : S20 left) (hM : ∀ y9, bit left y9 → y9 < h 571 30 ∧ S20 (h 595 (20 * dp + y9)) ∧ ∀ q9, bit (h 595 (20 * dp + y9)) q9 → q9 < h 571 30) (hf : iPop left < (f + 1 : Nat)) (hw : bit left w) (hK : ∀ g : am_H, (∀ x9 i9, ¬ (x9 = 595 ∧ 20 * (dp + 1) ≤ i9) → g x9 i9 = h x9 i9) → K (some (mP (EXs (fD h 588) (fD h 589) (mrow h dp) (bit left)))) g) : ∀ to, ∀ g : am_H, 0 ≤ to → to ≤ h 571 30 → (∀ x9 i9, ¬ (x9 = 595 ∧ 20 * (dp + 1) ≤ i9) → g x9 i9 = h x9 i9) → (∀ t, 0 ≤ t → t < to → bit (h 595 (20 * dp + w)) t → ¬ EXs (fD h 588) (fD h 589) (nrwM h dp w t) (fun k => bit left k ∧ k ≠ w)) → am_AT (d + 1) 263 94 [some (mR 1 12 0 571), some (mB dp), some (mB left), some (mI w), some (mI to), none] g K := by
  have hs := G.1.1
  have w0 := S20_in so hw
  have wn := (hM w hw).1
  have opr : ∀ k, bit left k → 0 ≤ k ∧ k < h 571 30 := fun k z => ⟨(S20_in so z).1, (hM k z).1⟩
  have opm : ∀ k, bit left k → ∀ x, bit (mrow h dp k) x → 0 ≤ x ∧ x < h 571 30 := fun k z x y => ⟨y.1, (hM k z).2.2 x y⟩
  have pl := iPop_less so hw
  have bl : ∀ y, bit (iAnd left (iXor (iShl 1 w) (-1))) y ↔ bit left y ∧ y ≠ w := fun y => bt_less (by omega)
  have pnn := (iPop_le20 (S20_and (y := iXor (iShl 1 w) (-1)) so)).1
  have nb : ∀ t, (0 ≤ t ∧ t < h 571 30) → ∀ k, bit left k → k ≠ w → ∀ x, bit (nrwM h dp w t k) x ↔ bit (mrow h dp k) x ∧ fD h 589 t x = fD h 588 w k := fun t ht k a b x => nrwM_b G SP (opr w hw) ht (opr k a) b (hM k a).2.2
  refine lp (h 571 30) (fun to ih g i0 i1 F NX => ?_)
  have e5 : ∀ x i, x ≠ 595 → g x i = h x i := fun x i z => F x i (by omega)
  have gf := GS_fr G SP e5
  have es := gf.2.2.1
  have em : ∀ y, y < 20 → g 595 (20 * dp + y) = h 595 (20 * dp + y) := fun y z => F _ _ (by omega)
  have enr : ∀ k, 0 ≤ k → k < h 571 30 → to < h 571 30 → nrwM g dp w to k = nrwM h dp w to k := fun k a b c => by
    unfold nrwM
    rw [em k (by omega), e5 588 _ (by omega), e5 594 _ (by omega)]
  -- what a narrowing leaves
  have nw : ∀ (h' : am_H) (c9 : Prop), ((∀ x9 i9, ¬ (x9 = 595 ∧ 20 * (dp + 1) ≤ i9) → h' x9 i9 = g x9 i9) ∧ (c9 → NWQ g h' dp left w to) ∧ (¬ c9 → NWN g dp left w to)) → to < h 571 30 → (∀ x9 i9, ¬ (x9 = 595 ∧ 20 * (dp + 1) ≤ i9) → h' x9 i9 = h x9 i9) ∧ (¬ c9 → ¬ EXs (fD h 588) (fD h 589) (nrwM h dp w to) (fun k => bit left k ∧ k ≠ w)) ∧ (c9 → (GS h' ∧ SPH h' ∧ h' 571 30 = h 571 30) ∧ (∀ y, bit left y → y ≠ w → h' 595 (20 * (dp + 1) + y) = nrwM h dp w to y) ∧ (EXs (fD h' 588) (fD h' 589) (mrow h' (dp + 1)) (bit (iAnd left (iXor (iShl 1 w) (-1)))) ↔ EXs (fD h 588) (fD h 589) (nrwM h dp w to) (fun k => bit left k ∧ k ≠ w))) := fun h' c9 q il => by
    have F' : ∀ x9 i9, ¬ (x9 = 595 ∧ 20 * (dp + 1) ≤ i9) → h' x9 i9 = h x9 i9 := fun x i z => (q.1 x i z).trans (F x i z)
    have gf' := GS_fr G SP (g := h') (fun x i z => F' x i (by omega))
    refine ⟨F', fun nc => ?_, fun c => ?_⟩
    · obtain ⟨k, hk, kb, kn, kz⟩ := q.2.2 nc
      rw [es] at hk
      rw [enr k hk.1 hk.2 il] at kz
      rintro ⟨g1, G1⟩
      have := G1.1 k ⟨kb, kn⟩
      rw [kz] at this
      exact bt_zero this
    · have row : ∀ y, bit left y → y ≠ w → h' 595 (20 * (dp + 1) + y) = nrwM h dp w to y := fun y a b => by
        have r := opr y a
        rw [q.2.1 c y r.1 (by rw [es]; exact r.2) a b, enr y r.1 r.2 il]
      refine ⟨⟨gf'.1, gf'.2.1, gf'.2.2.1⟩, row, ?_⟩
      rw [gf'.2.2.2.1, gf'.2.2.2.2]
      refine EXs_cg bl (fun k a x => ?_)
      unfold mrow
      rw [row k ((bl k).mp a).1 ((bl k).mp a).2]
  refine T263_94 hd hr ⟨by omega, ⟨fun c1 => ?_, fun c1 => ⟨by omega, ⟨by omega, ⟨by omega, ⟨fun c2 => ?_, fun c2 => ⟨by omega, ⟨by omega, ⟨by rw [es] at c1 ⊢; exact ⟨gf.1, gf.2.1, by omega, opr w hw, i0, c1⟩, fun h' c9 q3 => ⟨fun c4 => ?_, fun c4 => ⟨by omega, ⟨by
    rw [es] at c1
    have s := nw h' c9 q3 c1
    have t := s.2.2 c4
    rw [t.1.2.2]
    refine ⟨t.1.1, t.1.2.1, by omega, S20_and so, fun y a => ?_, by omega⟩
    have ab := (bl y).mp a
    rw [t.2.1 y ab.1 ab.2]
    exact ⟨(opr y ab.1).2, S20_and (hM y ab.1).2.1, fun q hq => (hM y ab.1).2.2 q (bt_and.mp hq).1⟩, fun h'_1 q5 => ⟨fun c6 => ?_, fun c6 => ?_⟩⟩⟩⟩⟩⟩⟩⟩⟩⟩⟩⟩⟩
  · rw [es] at c1
    refine am_rb (hK g F) ⟨fun z => ?_, fun z => by omega⟩
    exfalso
    obtain ⟨g1, G1⟩ := z
    have b := G1.1 w hw
    have r := opm w hw _ b
    exact NX (g1 w) r.1 (by omega) b ⟨g1, EX_dn hw (fun k a kw x y => (nb (g1 w) r k a kw x).mpr y) G1 rfl⟩
  · rw [es] at c1
    rw [em w (by omega)] at c2
    refine ih c1 g (by omega) (by omega) F (fun t t0 t1 tb => ?_)
    by_cases e : t = to
    · rw [e] at tb; exact absurd tb c2
    · exact NX t t0 (by omega) tb
  · rw [es] at c1
    have s := nw h' c9 q3 c1
    refine ih c1 h' (by omega) (by omega) s.1 (fun t t0 t1 tb => ?_)
    by_cases e : t = to
    · rw [e]; exact s.2.1 c4
    · exact NX t t0 (by omega) tb
  · rw [es] at c1
    have s := nw h' c9 q3 c1
    refine ih c1 h'_1 (by omega) (by omega) (fun x j z => (q5 x j (by omega)).trans (s.1 x j z)) (fun t t0 t1 tb => ?_)
    by_cases e : t = to
    · rw [e]; exact fun z => c6 ((s.2.2 c4).2.2.mpr z)
    · exact NX t t0 (by omega) tb
  · rw [es] at c1
    rw [em w (by omega)] at c2
    have s := nw h' c9 q3 c1
    obtain ⟨g1, G1⟩ := (s.2.2 c4).2.2.mp c6
    have R1 : EXt (fD h 588) (fD h 589) (mrow h dp) (bit left) (fun k => if k = w then to else g1 k) := EX_up G.1 G.2 opr opm hw c2 (fun k a kw x y => (nb to ⟨i0, c1⟩ k a kw x).mp y) G1 (if_pos rfl) (fun k _ kw => if_neg kw)
    exact am_rb1 (hK h'_1 (fun x j z => (q5 x j (by omega)).trans (s.1 x j z))) ⟨_, R1⟩
theorem L263a {d f : Nat} (hd : 2 ≤ d) (hr : am_CS d 263 (C263 f)) {K : Option am_V → am_H → Prop} {h : am_H} {dp left : Int} (G : GS h) (SP : SPH h) (h2 : 0 ≤ dp ∧ dp + iPop left ≤ 20) (so : S20 left) (hM : ∀ y9, bit left y9 → y9 < h 571 30 ∧ S20 (h 595 (20 * dp + y9)) ∧ ∀ q9, bit (h 595 (20 * dp + y9)) q9 → q9 < h 571 30) (hf : iPop left < (f + 1 : Nat)) (nz : ¬ left = 0) (hK : ∀ g : am_H, (∀ x9 i9, ¬ (x9 = 595 ∧ 20 * (dp + 1) ≤ i9) → g x9 i9 = h x9 i9) → K (some (mP (EXs (fD h 588) (fD h 589) (mrow h dp) (bit left)))) g) : ∀ i, ∀ b : Int, 0 ≤ i → i ≤ h 571 30 → ((b = -1 ∧ ∀ y, bit left y → i ≤ y) ∨ bit left b) → am_AT (d + 1) 263 11 [some (mR 1 12 0 571), some (mB dp), some (mB left), some (mI b), some (mI i), none] h K := by
  have hs := G.1.1
  have ip := iPop_le20 so
  refine lp (h 571 30) (fun i ih b i0 i1 B => ?_)
  have br : -1 ≤ b ∧ b < 20 := by
    rcases B with v | v
    · omega
    · have := S20_in so v; omega
  have b2 : ¬ b = -1 → bit left b := fun z => B.resolve_left (fun w => z w.1)
  have d19 : dp ≤ 19 := by
    have := iPop_less so (S20_low so nz).1
    have : 0 ≤ iPop (iAnd left (iXor (iShl 1 (iLow left)) (-1))) := (ct_le _ 32).1
    omega
  refine T263_11 hd hr ⟨by omega, ⟨fun c1 => ?_, fun c1 => ⟨by omega, ⟨by omega, ⟨fun c2 => ?_, fun c2 => ⟨by omega, ⟨fun c3 => ?_, fun c3 => ⟨by omega, ⟨by have t := (hM i c2).2.1; have := t.1; have := t.2; omega, ⟨by have := b2 c3; have := S20_in so this; omega, ⟨by have t := (hM b (b2 c3)).2.1; have := t.1; have := t.2; omega, ⟨fun c4 => ?_, fun c4 => ?_⟩⟩⟩⟩⟩⟩⟩⟩⟩⟩⟩⟩
  · have hb : bit left b := by
      rcases B with v | v
      · have l := (S20_low so nz).1
        have := v.2 _ l
        have := (hM _ l).1
        omega
      · exact v
    exact L263 hd hr G SP h2 so hM hf hb hK 0 h (by omega) hs.1 (fun _ _ _ => rfl) (fun t a b => by omega)
  · refine ih c1 b (by omega) (by omega) (B.imp (fun v => ⟨v.1, fun y z => ?_⟩) id)
    have := v.2 y z
    have : y ≠ i := fun e => c2 (e ▸ z)
    omega
  · exact ih c1 i (by omega) (by omega) (Or.inr c2)
  · exact ih c1 b (by omega) (by omega) (Or.inr (b2 c3))
  · exact ih c1 i (by omega) (by omega) (Or.inr c2)
theorem C263_ok : ∀ f : Nat, am_CS (f + 3) 263 (C263 f)
  | 0 => W263 0 (fun dp left h K hb => by
    have h1 : 0 ≤ iPop left := (ct_le _ 32).1
    have h2 := hb.1.2.2.2.2.2
    exfalso
    omega)
  | f + 1 => W263 (f + 1) (fun dp left h K hb => by
    obtain ⟨⟨G, SP, h2, so, hM, hf⟩, hK⟩ := hb
    have hr := C263_ok f
    have hd : 2 ≤ f + 3 := by omega
    refine T263_0 hd hr ⟨fun c1 => ?_, fun c1 => ?_⟩
    · exact L263a hd hr G SP h2 so hM hf c1 hK 0 (-1) (by omega) G.1.1.1 (Or.inl ⟨rfl, fun y z => (S20_in so z).1⟩)
    · exact am_rb1 (hK h (fun _ _ _ => rfl)) ⟨fun x => x, fun k a => absurd (c1 ▸ a) bt_zero, fun k l a _ => absurd (c1 ▸ a) bt_zero⟩)
def C263b : am_K := fun as h K => am_a3 as (fun v0 v1 v2 => am_oc 12 571 v0 (am_n v1 (fun dp => am_n v2 (fun left => (GS h ∧ SPH h ∧ (0 ≤ dp ∧ dp + iPop left ≤ 20) ∧ S20 left ∧ (∀ y9, bit left y9 → y9 < (h 571 30) ∧ S20 (h 595 (20 * dp + y9)) ∧ ∀ q9, bit (h 595 (20 * dp + y9)) q9 → q9 < (h 571 30)) ∧ iPop left < 21) ∧ (∀ (h' : am_H), (∀ x9 i9, ¬ (x9 = 595 ∧ 20 * (dp + 1) ≤ i9) → h' x9 i9 = h x9 i9) → K (some (mP (EXs (fD h 588) (fD h 589) (mrow h dp) (bit left)))) (h'))))))
theorem C263b_ok : am_CS 24 263 C263b := C263_ok 21
/-! 261 FactorNetsModel.canGo -/
def C261 : am_K := fun as h K => am_a1 as (fun v0 => am_oc 12 571 v0 ((GS h ∧ KND h ∧ SPH h) ∧ (∀ (h' : am_H), (∀ x9 i9, x9 ≠ 595 → h' x9 i9 = h x9 i9) → K (some (mP (isW h))) (h'))))
theorem W261 {d : Nat} (H : ∀  (h : am_H) (K : Option am_V → am_H → Prop), (GS h ∧ KND h ∧ SPH h) ∧ (∀ (h' : am_H), (∀ x9 i9, x9 ≠ 595 → h' x9 i9 = h x9 i9) → K (some (mP (isW h))) (h')) → am_AT d 261 0 [some (mR 1 12 0 571), none, none] h K) : am_CS d 261 C261 := by
  refine am_CS_of (T := tb261) (mL := 3) (rk := 4) rfl (fun as h K hC => ?_)
  obtain ⟨v0, rfl, hC0⟩ := am_a1_e hC
  obtain ⟨e0, hC1⟩ := am_oc_e hC0
  subst e0
  refine ⟨Nat.le_of_ble_eq_true rfl, ?_⟩
  exact H  h K hC1
theorem T261_0 {R : Option am_V → am_H → Prop} {h : am_H} (t : am_AT 25 261 2 [some (mR 1 12 0 571), some (mI 0), none] h R) : am_AT 25 261 0 [some (mR 1 12 0 571), none, none] h R :=
  am_T (d := 24) (m := 261) (T := tb261) (mL := 3) (rk := 4) (cuts := [(2, [1, 2, 0]), (19, [1, 2, 2])]) (l := [(263, C263b)]) rfl ⟨am_CS_d (by decide) C263b_ok, trivial⟩ 6 (t)
theorem T261_2 {R : Option am_V → am_H → Prop} {h : am_H} {x1 : Int} (t : (R32 x1) ∧ (((h 571 30 ≤ x1) → ((R32 ((iShl 1 (h 571 30)) - 1)) ∧ ((GS h ∧ SPH h ∧ (0 ≤ (0 : Int) ∧ (0 : Int) + iPop ((iShl 1 (h 571 30)) - 1) ≤ 20) ∧ S20 ((iShl 1 (h 571 30)) - 1) ∧ (∀ y9, bit ((iShl 1 (h 571 30)) - 1) y9 → y9 < (h 571 30) ∧ S20 (h 595 (20 * (0 : Int) + y9)) ∧ ∀ q9, bit (h 595 (20 * (0 : Int) + y9)) q9 → q9 < (h 571 30)) ∧ iPop ((iShl 1 (h 571 30)) - 1) < 21) ∧ (∀ (h' : am_H), ((∀ x9 i9, ¬ (x9 = 595 ∧ 20 * ((0 : Int) + 1) ≤ i9) → h' x9 i9 = h x9 i9)) → (R (some (mP (EXs (fD h 588) (fD h 589) (mrow h (0 : Int)) (bit ((iShl 1 (h 571 30)) - 1))))) h'))))) ∧ ((x1 < h 571 30) → ((0 ≤ x1 ∧ x1 < 420) ∧ (am_AT 25 261 19 [some (mR 1 12 0 571), some (mI x1), some (mI 0)] (am_up h 595 x1 0) R))))) : am_AT 25 261 2 [some (mR 1 12 0 571), some (mI x1), none] h R :=
  am_T (d := 24) (m := 261) (T := tb261) (mL := 3) (rk := 4) (cuts := [(2, [1, 2, 0]), (19, [1, 2, 2])]) (l := [(263, C263b)]) rfl ⟨am_CS_d (by decide) C263b_ok, trivial⟩ 18 (And.intro (t).1 (And.intro (fun c14 => And.intro (((t).2).1 c14).1 (And.intro (rfl) (And.intro ((((t).2).1 c14).2).1 (fun z3_0 z3_1 => (((((t).2).1 c14).2).2) z3_0 z3_1)))) (fun c14 => And.intro (((t).2).2 c14).1 ((((t).2).2 c14).2))))
theorem T261_19 {R : Option am_V → am_H → Prop} {h : am_H} {x1 : Int} {x2 : Int} (t : (R32 x2) ∧ (((h 571 30 ≤ x2) → ((0 ≤ x1 ∧ x1 < 420) ∧ (((¬ h 595 x1 = 0) → (am_AT 25 261 2 [some (mR 1 12 0 571), some (mI (x1 + 1)), none] h R)) ∧ ((h 595 x1 = 0) → (R (some (mP ((0 : Int) = 1))) h))))) ∧ ((x2 < h 571 30) → ((0 ≤ x1 ∧ x1 < 420) ∧ ((0 ≤ x1 ∧ x1 < 40) ∧ ((0 ≤ 20 + x2 ∧ 20 + x2 < 40) ∧ (((¬ h 591 x1 = h 591 (20 + x2)) → ((0 ≤ x1 ∧ x1 < 420) ∧ (am_AT 25 261 19 [some (mR 1 12 0 571), some (mI x1), some (mI (x2 + 1))] (am_up h 595 x1 (iOr (h 595 x1) 0)) R))) ∧ ((h 591 x1 = h 591 (20 + x2)) → ((0 ≤ x1 ∧ x1 < 20) ∧ (((h 590 x1 = (-1)) → ((0 ≤ x1 ∧ x1 < 420) ∧ (am_AT 25 261 19 [some (mR 1 12 0 571), some (mI x1), some (mI (x2 + 1))] (am_up h 595 x1 (iOr (h 595 x1) (iShl 1 x2))) R))) ∧ ((¬ h 590 x1 = (-1)) → ((0 ≤ x1 ∧ x1 < 20) ∧ ((R32 x2) ∧ (((¬ h 590 x1 = x2) → ((0 ≤ x1 ∧ x1 < 420) ∧ (am_AT 25 261 19 [some (mR 1 12 0 571), some (mI x1), some (mI (x2 + 1))] (am_up h 595 x1 (iOr (h 595 x1) 0)) R))) ∧ ((h 590 x1 = x2) → ((0 ≤ x1 ∧ x1 < 420) ∧ (am_AT 25 261 19 [some (mR 1 12 0 571), some (mI x1), some (mI (x2 + 1))] (am_up h 595 x1 (iOr (h 595 x1) (iShl 1 x2))) R))))))))))))))))) : am_AT 25 261 19 [some (mR 1 12 0 571), some (mI x1), some (mI x2)] h R :=
  am_T (d := 24) (m := 261) (T := tb261) (mL := 3) (rk := 4) (cuts := [(2, [1, 2, 0]), (19, [1, 2, 2])]) (l := [(263, C263b)]) rfl ⟨am_CS_d (by decide) C263b_ok, trivial⟩ 44 (And.intro (t).1 (And.intro (fun c15 => And.intro (((t).2).1 c15).1 (And.intro (fun c16 => ((((t).2).1 c15).2).1 c16) (fun c16 => And.intro (Or.inl rfl) (((((t).2).1 c15).2).2 c16)))) (fun c15 => And.intro (((t).2).2 c15).1 (And.intro ((((t).2).2 c15).2).1 (And.intro (((((t).2).2 c15).2).2).1 (And.intro (fun c17 => And.intro (((((((t).2).2 c15).2).2).2).1 c17).1 ((((((((t).2).2 c15).2).2).2).1 c17).2)) (fun c17 => And.intro (((((((t).2).2 c15).2).2).2).2 c17).1 (And.intro (fun c18 => And.intro (((((((((t).2).2 c15).2).2).2).2 c17).2).1 c18).1 ((((((((((t).2).2 c15).2).2).2).2 c17).2).1 c18).2)) (fun c18 => And.intro (((((((((t).2).2 c15).2).2).2).2 c17).2).2 c18).1 (And.intro ((((((((((t).2).2 c15).2).2).2).2 c17).2).2 c18).2).1 (And.intro (fun c19 => And.intro ((((((((((((t).2).2 c15).2).2).2).2 c17).2).2 c18).2).2).1 c19).1 (((((((((((((t).2).2 c15).2).2).2).2 c17).2).2 c18).2).2).1 c19).2)) (fun c19 => And.intro ((((((((((((t).2).2 c15).2).2).2).2 c17).2).2 c18).2).2).2 c19).1 (((((((((((((t).2).2 c15).2).2).2).2 c17).2).2 c18).2).2).2 c19).2)))))))))))))
theorem or_00 (x : Int) (hx : R32 x) : iOr x 0 = x := bt_ext (rg_or _ _) hx (fun k _ _ => by
  rw [bt_or]
  exact ⟨fun w => w.elim id (fun z => absurd z bt_zero), Or.inl⟩)
theorem L261b {K : Option am_V → am_H → Prop} {h : am_H} (G : GS h) (KN : KND h) (SP : SPH h) (hK : ∀ h', (∀ x9 i9, x9 ≠ 595 → h' x9 i9 = h x9 i9) → K (some (mP (isW h))) h') {i : Int} (hi : 0 ≤ i ∧ i < h 571 30) (nx : ∀ g : am_H, (∀ x i, x ≠ 595 → g x i = h x i) → (∀ j, 0 ≤ j → j < i + 1 → g 595 j = mkb (fun y => y < h 571 30 ∧ CGP h j y)) → am_AT 25 261 2 [some (mR 1 12 0 571), some (mI (i + 1)), none] g K) : ∀ to, ∀ g : am_H, 0 ≤ to → to ≤ h 571 30 → (∀ x i, x ≠ 595 → g x i = h x i) → (∀ j, 0 ≤ j → j < i → g 595 j = mkb (fun y => y < h 571 30 ∧ CGP h j y)) → g 595 i = mkb (fun y => y < to ∧ CGP h i y) → am_AT 25 261 19 [some (mR 1 12 0 571), some (mI i), some (mI to)] g K := by
  have hs := G.1.1
  refine lp (h 571 30) (fun to ih g t0 t1 F A E => ?_)
  have es : g 571 30 = h 571 30 := F _ _ (by omega)
  have mr := mkb_r (fun y => y < to ∧ CGP h i y)
  refine T261_19 ⟨by omega, ⟨fun c1 => ⟨by omega, ⟨fun c2 => ?_, fun c2 => ?_⟩⟩, fun c1 => ⟨by omega, ⟨by omega, ⟨by omega, ⟨fun c2 => ⟨by omega, ?_⟩, fun c2 => ⟨by omega, ⟨fun c3 => ⟨by omega, ?_⟩, fun c3 => ⟨by omega, ⟨by omega, ⟨fun c4 => ⟨by omega, ?_⟩, fun c4 => ⟨by omega, ?_⟩⟩⟩⟩⟩⟩⟩⟩⟩⟩⟩⟩
  · rw [es] at c1
    rw [show to = h 571 30 by omega] at E
    refine nx g F (fun j a b => ?_)
    by_cases z : j = i
    · rw [z]; exact E
    · exact A j a (by omega)
  · rw [es] at c1
    rw [show to = h 571 30 by omega] at E
    rw [c2] at E
    refine am_rb (hK g F) ⟨fun w => ?_, fun w => by omega⟩
    exfalso
    obtain ⟨f, I, w⟩ := w
    have r := I.1 i hi.1 hi.2
    have b : bit (mkb (fun y => y < h 571 30 ∧ CGP h i y)) (f i) := bt_mk.mpr ⟨by omega, r.2, KN f I i hi.1 hi.2, w i hi.1 hi.2⟩
    rw [← E] at b
    exact bt_zero b
  · rw [es] at c1
    refine ih c1 _ (by omega) (by omega) (fun x i z => by rw [am_up_ne z]; exact F x i z) (fun j a b => by rw [am_up_ne2 (by omega)]; exact A j a b) ?_
    rw [am_up_eq, E]
    rw [or_00 _ mr, mk_no (P := CGP h i) (i := to) (fun w => c2 (by rw [F 591 i (by omega), F 591 (20 + to) (by omega)]; exact w.1))]
  · rw [es] at c1
    refine ih c1 _ (by omega) (by omega) (fun x i z => by rw [am_up_ne z]; exact F x i z) (fun j a b => by rw [am_up_ne2 (by omega)]; exact A j a b) ?_
    rw [am_up_eq, E]
    exact mk_or (P := CGP h i) (i := to) t0 (by omega) ⟨by rw [← F 591 i (by omega), ← F 591 (20 + to) (by omega)]; exact c2, Or.inl (by rw [← F 590 i (by omega)]; exact c3)⟩
  · rw [es] at c1
    refine ih c1 _ (by omega) (by omega) (fun x i z => by rw [am_up_ne z]; exact F x i z) (fun j a b => by rw [am_up_ne2 (by omega)]; exact A j a b) ?_
    rw [am_up_eq, E]
    rw [or_00 _ mr, mk_no (P := CGP h i) (i := to) (fun w => by
      rw [F 590 i (by omega)] at c3 c4
      exact w.2.elim c3 c4)]
  · rw [es] at c1
    refine ih c1 _ (by omega) (by omega) (fun x i z => by rw [am_up_ne z]; exact F x i z) (fun j a b => by rw [am_up_ne2 (by omega)]; exact A j a b) ?_
    rw [am_up_eq, E]
    exact mk_or (P := CGP h i) (i := to) t0 (by omega) ⟨by rw [← F 591 i (by omega), ← F 591 (20 + to) (by omega)]; exact c2, Or.inr (by rw [← F 590 i (by omega)]; exact c4)⟩
theorem L261 {K : Option am_V → am_H → Prop} {h : am_H} (G : GS h) (KN : KND h) (SP : SPH h) (hK : ∀ h', (∀ x9 i9, x9 ≠ 595 → h' x9 i9 = h x9 i9) → K (some (mP (isW h))) h') : ∀ i, ∀ g : am_H, 0 ≤ i → i ≤ h 571 30 → (∀ x i, x ≠ 595 → g x i = h x i) → (∀ j, 0 ≤ j → j < i → g 595 j = mkb (fun y => y < h 571 30 ∧ CGP h j y)) → am_AT 25 261 2 [some (mR 1 12 0 571), some (mI i), none] g K := by
  have hs := G.1.1
  refine lp (h 571 30) (fun i ih g i0 i1 F A => ?_)
  have gf := GS_fr G SP F
  have es := gf.2.2.1
  have sa := S20_all (n := h 571 30) hs.1 hs.2
  have pa := iPop_le20 sa
  refine T261_2 ⟨by omega, ⟨fun c1 => ⟨by rw [es]; have := sa.1; have := sa.2; unfold R32; omega, ⟨by
    rw [es] at c1 ⊢
    refine ⟨gf.1, gf.2.1, by omega, sa, fun y a => ?_, by omega⟩
    have r := (bt_all hs.1 (by omega)).mp a
    rw [show 20 * 0 + y = y by omega, A y r.1 (by omega)]
    exact ⟨r.2, S20_mk _, fun q hq => (bt_mk.mp hq).2.1⟩, fun h' q2 => ?_⟩⟩, fun c1 => ⟨by omega, ?_⟩⟩⟩
  · rw [es] at c1
    rw [es, gf.2.2.2.1, gf.2.2.2.2]
    refine am_rb (hK h' (fun x j z => (q2 x j (by omega)).trans (F x j z))) (isW_ex G KN (fun k => bt_all hs.1 (by omega)) (fun k hk => ?_)).symm
    unfold mrow
    rw [show 20 * 0 + k = k by omega]
    exact A k hk.1 (by omega)
  · rw [es] at c1
    refine L261b G KN SP hK ⟨i0, c1⟩ (fun g' F' A' => ih c1 g' (by omega) (by omega) F' A') 0 _ (by omega) hs.1 (fun x j z => by rw [am_up_ne z]; exact F x j z) (fun j a b => by rw [am_up_ne2 (by omega)]; exact A j a b) ?_
    rw [am_up_eq, mk_0 (P := CGP h i)]
theorem C261_ok : am_CS 25 261 C261 := W261 (fun h K hb => by
  obtain ⟨⟨G, KN, SP⟩, hK⟩ := hb
  exact T261_0 (L261 G KN SP hK 0 h (by omega) G.1.1.1 (fun _ _ _ => rfl) (fun j a b => by omega)))
