/-! ===== the reference: how many, where to ===== -/
theorem Lda_f2 {h h'' : am_H} (H : NT (h 572 0) (nr h 572 2) ∧ CN (h 572 0) (nr h 572 2) ∧ RLd h (h 572 0) (nr h 572 2)) (e : ∀ x i, (x = 572 ∨ (580 ≤ x ∧ x ≤ 584) ∨ (x = 571 ∧ (i = 17 ∨ i = 21 ∨ i = 24 ∨ i = 25))) → h'' x i = h x i) : (NT (h'' 572 0) (nr h'' 572 2) ∧ CN (h'' 572 0) (nr h'' 572 2) ∧ RLd h'' (h'' 572 0) (nr h'' 572 2)) ∧ h'' 572 0 = h 572 0 ∧ nr h'' 572 2 = nr h 572 2 := by
  have e1 : nr h'' 572 2 = nr h 572 2 := nr_fr2 (fun i => e _ _ (by omega))
  have e2 : h'' 572 0 = h 572 0 := e _ _ (by omega)
  obtain ⟨a, b, c1, c2, c3⟩ := H
  rw [e1, e2]
  refine ⟨⟨a, b, RF_fr c1 (fun i => e _ _ (by omega)), RLn_fr c2 (e _ _ (by omega)) (fun i => e _ _ (by omega)) (fun i => e _ _ (by omega)), ?_, ?_, fun k a b => ?_⟩, rfl, rfl⟩
  · rw [e _ _ (by omega)]; exact c3.1
  · rw [e _ _ (by omega)]; exact c3.2.1
  · rw [e _ _ (by omega), e _ _ (by omega)]; exact c3.2.2 k a b
theorem DM_cg {s : Int} {D D' : Int → Int → Int} (M : DM s D) (e : ∀ a b, (0 ≤ a ∧ a < s) → (0 ≤ b ∧ b < s) → D' a b = D a b) : DM s D' := ⟨M.1, fun p q hp hq => by rw [e p q hp hq, e q p hq hp]; exact M.2 p q hp hq⟩
theorem DM_lyd {n : Int} {r : Int → Int} {st : Int} (hN : NT n r) (hC : CN n r) (hs : S20 st) (hb : ∀ y, bit st y → y < n) : DM (iPop st) (lyd r st) := by
  have M := DM_ds hN hC
  have l := iPop_le20 hs
  refine ⟨l, fun p q hp hq => ?_⟩
  have a := nthb_in hs hp.1 hp.2
  have b := nthb_in hs hq.1 hq.2
  have m := M.2 _ _ ⟨a.2.1, hb _ a.1⟩ ⟨b.2.1, hb _ b.1⟩
  refine ⟨⟨fun z => ?_, fun z => by rw [z]; exact ds_0⟩, m.2⟩
  have e := m.1.mp z
  have u := nthb_at hs hp.1 hp.2
  have v := nthb_at hs hq.1 hq.2
  rw [e, v] at u
  exact u.symm
def SM (h : am_H) : Prop := ∀ a b, (0 ≤ a ∧ a < h 571 30) → (0 ≤ b ∧ b < h 571 30) → fD h 589 a b = fD h 588 a b
def KLD (h : am_H) : Prop := (GS h ∧ KND h ∧ SPH h) ∧ SM h
theorem KLD_fr {h g : am_H} (H : KLD h) (e : ∀ x i, x ≠ 590 → x ≠ 595 → x ≠ 596 → g x i = h x i) : KLD g ∧ g 571 30 = h 571 30 ∧ fD g 588 = fD h 588 := by
  have e1 : g 571 30 = h 571 30 := e _ _ (by omega) (by omega) (by omega)
  have e2 : fD g 588 = fD h 588 := by funext i k; exact e _ _ (by omega) (by omega) (by omega)
  have e3 : fD g 589 = fD h 589 := by funext i k; exact e _ _ (by omega) (by omega) (by omega)
  refine ⟨?_, e1, e2⟩
  unfold KLD GS KND SPH SM
  rw [e1, e2, e3, show g 591 = h 591 by funext i; exact e _ _ (by omega) (by omega) (by omega), show g 594 = h 594 by funext i; exact e _ _ (by omega) (by omega) (by omega)]
  exact H
theorem ISO_sm {h : am_H} (S : SM h) (f : Int → Int) : ISO (h 571 30) (fD h 588) (fD h 589) f ↔ AU (h 571 30) (fD h 588) f := by
  constructor
  · intro I
    exact ⟨I.1, fun p q a b => by rw [← S _ _ (I.1 p a.1 a.2) (I.1 q b.1 b.2)]; exact I.2 p q a b⟩
  · intro I
    exact ⟨I.1, fun p q a b => by rw [S _ _ (I.1 p a.1 a.2) (I.1 q b.1 b.2)]; exact I.2 p q a b⟩
theorem isW_sm {h : am_H} (S : SM h) : isW h ↔ ∃ f, AU (h 571 30) (fD h 588) f ∧ ∀ i, 0 ≤ i → i < h 571 30 → h 590 i = -1 ∨ h 590 i = f i := ⟨fun ⟨f, I, w⟩ => ⟨f, (ISO_sm S f).mp I, w⟩, fun ⟨f, I, w⟩ => ⟨f, (ISO_sm S f).mpr I, w⟩⟩
/-- j goes to c j below k, k to 'to', no other is wanted anywhere -/
theorem isW_k {h g : am_H} (H : KLD h) {k to : Int} {c : Int → Int} (hk : 0 ≤ k ∧ k < h 571 30) (ht : 0 ≤ to) (e : ∀ x i, x ≠ 590 → x ≠ 595 → x ≠ 596 → g x i = h x i) (w1 : ∀ j, 0 ≤ j → j < k → g 590 j = c j) (wp : ∀ j, 0 ≤ j → j < k → c j ≠ -1) (w2 : g 590 k = to) (w3 : ∀ j, k < j → j < h 571 30 → g 590 j = -1) : isW g ↔ PFX (h 571 30) (fD h 588) c k to := by
  have kf := KLD_fr H e
  rw [isW_sm kf.1.2, kf.2.1, kf.2.2]
  constructor
  · rintro ⟨f, F, w⟩
    refine ⟨f, F, fun j a b => ?_, ?_⟩
    · have := w j a (by omega)
      rw [w1 j a b] at this
      exact (this.resolve_left (wp j a b)).symm
    · have := w k hk.1 hk.2
      rw [w2] at this
      exact (this.resolve_left (by omega)).symm
  · rintro ⟨f, F, a, b⟩
    refine ⟨f, F, fun j u v => ?_⟩
    by_cases z : j < k
    · right; rw [w1 j u z, a j u z]
    · by_cases y : j = k
      · right; rw [y, w2, b]
      · left; exact w3 j (by omega) v
theorem PFX_id {s : Int} {D : Int → Int → Int} {k to : Int} : PFX s D (fun j => j) k to ↔ orbS s D k to := Iff.rfl
def LSM (h g : am_H) (st : Int) : Prop := (∀ x i, ¬ (588 ≤ x ∧ x ≤ 594) → ¬ (x = 571 ∧ i = 30) → g x i = h x i) ∧ KLD g ∧ g 571 30 = iPop st ∧ (∀ a b, (0 ≤ a ∧ a < iPop st) → (0 ≤ b ∧ b < iPop st) → fD g 588 a b = lyd (nr h 572 2) st a b) ∧ ∀ i, 0 ≤ i → i < 20 → g 590 i = -1
def RLS (h g : am_H) : Prop := (∀ x i, ¬ (588 ≤ x ∧ x ≤ 596) → ¬ (x = 571 ∧ i = 30) → g x i = h x i) ∧ KLD g ∧ g 571 30 = h 572 0 ∧ ∀ a b, (0 ≤ a ∧ a < h 572 0) → (0 ≤ b ∧ b < h 572 0) → fD g 588 a b = ds (ad (nr h 572 2)) a b
theorem nthb_all {n i : Int} (h : n ≤ 20) (hi : 0 ≤ i ∧ i < n) : nthb (iShl 1 n - 1) i = i := by
  have b : ∀ k, bit (iShl 1 n - 1) k ↔ 0 ≤ k ∧ k < n := fun k => bt_all (by omega) (by omega)
  have w := nthb_ct (x := iShl 1 n - 1) (p := i) (by omega) ((b i).mpr hi)
  have e : ct (bit (iShl 1 n - 1)) i.toNat = i := by
    rw [ct_alz i.toNat (fun k a c => (b k).mpr (by omega))]
    omega
  rw [e] at w
  exact w
theorem iPop_all {n : Int} (h : 0 ≤ n ∧ n ≤ 20) : iPop (iShl 1 n - 1) = n := by
  rw [iPop_20 (S20_all h.1 h.2), ct_congr (Q := fun k => k < n) 20 (fun k hk => by rw [bt_all h.1 (by omega)]; exact ⟨fun w => w.2, fun w => ⟨by omega, w⟩⟩), ct_lt h.1, if_pos (by omega)]
theorem LSM_all {h g : am_H} (hn : 0 ≤ h 572 0 ∧ h 572 0 ≤ 20) (L : LSM h g (iShl 1 (h 572 0) - 1)) : RLS h g ∧ ∀ i, 0 ≤ i → i < 20 → g 590 i = -1 := by
  obtain ⟨a, b, c, d, e⟩ := L
  rw [iPop_all hn] at c d
  refine ⟨⟨fun x i u v => a x i (by omega) v, b, c, fun p q hp hq => ?_⟩, e⟩
  rw [d p q hp hq]
  unfold lyd
  rw [nthb_all hn.2 hp, nthb_all hn.2 hq]
/-! 264 FactorNetsModel.leaving -/
def C264 : am_K := fun as h K => am_a2 as (fun v0 v1 => am_oc 12 571 v0 (am_n v1 (fun i => (KLD h ∧ (-1 ≤ i ∧ i < (h 571 30))) ∧ (∀ (h' : am_H), (∀ x9 i9, x9 ≠ 590 → x9 ≠ 595 → h' x9 i9 = h x9 i9) → K (some (mK (lvr (h 571 30) (fD h 588) ((h 571 30) - 1 - i).toNat))) (h')))))
theorem W264 {d : Nat} (H : ∀ (i : Int) (h : am_H) (K : Option am_V → am_H → Prop), (KLD h ∧ (-1 ≤ i ∧ i < (h 571 30))) ∧ (∀ (h' : am_H), (∀ x9 i9, x9 ≠ 590 → x9 ≠ 595 → h' x9 i9 = h x9 i9) → K (some (mK (lvr (h 571 30) (fD h 588) ((h 571 30) - 1 - i).toNat))) (h')) → am_AT d 264 0 [some (mR 1 12 0 571), some (mB i), none, none, none, none, none] h K) : am_CS d 264 C264 := by
  refine am_CS_of (T := tb264) (mL := 7) (rk := 2) rfl (fun as h K hC => ?_)
  obtain ⟨v0, v1, rfl, hC0⟩ := am_a2_e hC
  obtain ⟨e0, hC1⟩ := am_oc_e hC0
  subst e0
  obtain ⟨i, rfl, hC2⟩ := am_n_e hC1
  refine ⟨Nat.le_of_ble_eq_true rfl, ?_⟩
  exact H i h K hC2
theorem T264_0 {R : Option am_V → am_H → Prop} {h : am_H} {i : Int} (t : am_AT 26 264 2 [some (mR 1 12 0 571), some (mB i), some (mI 0), none, none, none, none] h R) : am_AT 26 264 0 [some (mR 1 12 0 571), some (mB i), none, none, none, none, none] h R :=
  am_T (d := 25) (m := 264) (T := tb264) (mL := 7) (rk := 2) (cuts := [(2, [1, 1, 2, 0, 0, 0, 0]), (37, [1, 0, 2, 0, 2, 0, 0]), (52, [1, 0, 2, 0, 2, 2, 2])]) (l := [(261, C261)]) rfl ⟨am_CS_d (by decide) C261_ok, trivial⟩ 6 (t)
theorem T264_2 {R : Option am_V → am_H → Prop} {h : am_H} {i : Int} {x2 : Int} (t : (R32 x2) ∧ (((20 ≤ x2) → (am_AT 26 264 37 [some (mR 1 12 0 571), none, some (mJ 1), none, some (mI (i + 1)), none, none] h R)) ∧ ((x2 < 20) → ((R32 x2) ∧ (((i < x2) → ((0 ≤ x2 ∧ x2 < 20) ∧ (am_AT 26 264 2 [some (mR 1 12 0 571), some (mB i), some (mI (x2 + 1)), none, none, none, none] (am_up h 590 x2 (-1)) R))) ∧ ((x2 ≤ i) → ((0 ≤ x2 ∧ x2 < 20) ∧ ((R32 x2) ∧ (am_AT 26 264 2 [some (mR 1 12 0 571), some (mB i), some (mI (x2 + 1)), none, none, none, none] (am_up h 590 x2 x2) R))))))))) : am_AT 26 264 2 [some (mR 1 12 0 571), some (mB i), some (mI x2), none, none, none, none] h R :=
  am_T (d := 25) (m := 264) (T := tb264) (mL := 7) (rk := 2) (cuts := [(2, [1, 1, 2, 0, 0, 0, 0]), (37, [1, 0, 2, 0, 2, 0, 0]), (52, [1, 0, 2, 0, 2, 2, 2])]) (l := [(261, C261)]) rfl ⟨am_CS_d (by decide) C261_ok, trivial⟩ 18 (And.intro (t).1 (And.intro (fun c1 => ((t).2).1 c1) (fun c1 => And.intro (((t).2).2 c1).1 (And.intro (fun c2 => And.intro (((((t).2).2 c1).2).1 c2).1 ((((((t).2).2 c1).2).1 c2).2)) (fun c2 => And.intro (((((t).2).2 c1).2).2 c2).1 (And.intro ((((((t).2).2 c1).2).2 c2).2).1 (((((((t).2).2 c1).2).2 c2).2).2)))))))
theorem T264_37 {R : Option am_V → am_H → Prop} {h : am_H} {x2 : Int} {x4 : Int} (t : (R32 x4) ∧ (((h 571 30 ≤ x4) → ((R64 x2) ∧ (R (some (mK x2)) h))) ∧ ((x4 < h 571 30) → (am_AT 26 264 52 [some (mR 1 12 0 571), none, some (mJ x2), none, some (mI x4), some (mI 0), some (mI 0)] h R)))) : am_AT 26 264 37 [some (mR 1 12 0 571), none, some (mJ x2), none, some (mI x4), none, none] h R :=
  am_T (d := 25) (m := 264) (T := tb264) (mL := 7) (rk := 2) (cuts := [(2, [1, 1, 2, 0, 0, 0, 0]), (37, [1, 0, 2, 0, 2, 0, 0]), (52, [1, 0, 2, 0, 2, 2, 2])]) (l := [(261, C261)]) rfl ⟨am_CS_d (by decide) C261_ok, trivial⟩ 12 (And.intro (t).1 (And.intro (fun c3 => And.intro (((t).2).1 c3).1 ((((t).2).1 c3).2)) (fun c3 => ((t).2).2 c3)))
theorem T264_52 {R : Option am_V → am_H → Prop} {h : am_H} {x2 : Int} {x4 : Int} {x5 : Int} {x6 : Int} (t : (R32 x6) ∧ (((h 571 30 ≤ x6) → ((0 ≤ x4 ∧ x4 < 20) ∧ ((R32 x4) ∧ ((R32 x5) ∧ (am_AT 26 264 37 [some (mR 1 12 0 571), none, some (mJ (x2 * x5)), none, some (mI (x4 + 1)), none, none] (am_up h 590 x4 x4) R))))) ∧ ((x6 < h 571 30) → ((0 ≤ x4 ∧ x4 < 20) ∧ ((R32 x6) ∧ ((GS (am_up h 590 x4 x6) ∧ KND (am_up h 590 x4 x6) ∧ SPH (am_up h 590 x4 x6)) ∧ (∀ (h' : am_H), ((∀ x9 i9, x9 ≠ 595 → h' x9 i9 = (am_up h 590 x4 x6) x9 i9)) → (((¬ (isW (am_up h 590 x4 x6))) → (am_AT 26 264 52 [some (mR 1 12 0 571), none, some (mJ x2), none, some (mI x4), some (mI (x5 + 0)), some (mI (x6 + 1))] h' R)) ∧ ((isW (am_up h 590 x4 x6)) → (am_AT 26 264 52 [some (mR 1 12 0 571), none, some (mJ x2), none, some (mI x4), some (mI (x5 + 1)), some (mI (x6 + 1))] h' R)))))))))) : am_AT 26 264 52 [some (mR 1 12 0 571), none, some (mJ x2), none, some (mI x4), some (mI x5), some (mI x6)] h R :=
  am_T (d := 25) (m := 264) (T := tb264) (mL := 7) (rk := 2) (cuts := [(2, [1, 1, 2, 0, 0, 0, 0]), (37, [1, 0, 2, 0, 2, 0, 0]), (52, [1, 0, 2, 0, 2, 2, 2])]) (l := [(261, C261)]) rfl ⟨am_CS_d (by decide) C261_ok, trivial⟩ 23 (And.intro (t).1 (And.intro (fun c4 => And.intro (((t).2).1 c4).1 (And.intro ((((t).2).1 c4).2).1 (And.intro (((((t).2).1 c4).2).2).1 ((((((t).2).1 c4).2).2).2)))) (fun c4 => And.intro (((t).2).2 c4).1 (And.intro ((((t).2).2 c4).2).1 (And.intro (rfl) (And.intro (((((t).2).2 c4).2).2).1 (fun z1_0 z1_1 => And.intro (fun c5 => (((((((t).2).2 c4).2).2).2) z1_0 z1_1).1 c5) (fun c5 => (((((((t).2).2 c4).2).2).2) z1_0 z1_1).2 c5))))))))
theorem L264c {K : Option am_V → am_H → Prop} {h : am_H} {i : Int} (H : KLD h) (hi : -1 ≤ i ∧ i < h 571 30) (hK : ∀ h', (∀ x9 i9, x9 ≠ 590 → x9 ≠ 595 → h' x9 i9 = h x9 i9) → K (some (mK (lvr (h 571 30) (fD h 588) (h 571 30 - 1 - i).toNat))) h') {k x2 : Int} (hk : 0 ≤ k ∧ k < h 571 30) (nx : ∀ g : am_H, (∀ x i, x ≠ 590 → x ≠ 595 → g x i = h x i) → (∀ j, 0 ≤ j → j < k + 1 → g 590 j = j) → (∀ j, k < j → j < 20 → g 590 j = -1) → am_AT 26 264 37 [some (mR 1 12 0 571), none, some (mJ (x2 * ct (orbS (h 571 30) (fD h 588) k) 20)), none, some (mI (k + 1)), none, none] g K) : ∀ to, ∀ g : am_H, 0 ≤ to → to ≤ h 571 30 → (∀ x i, x ≠ 590 → x ≠ 595 → g x i = h x i) → (∀ j, 0 ≤ j → j < k → g 590 j = j) → (∀ j, k < j → j < 20 → g 590 j = -1) → am_AT 26 264 52 [some (mR 1 12 0 571), none, some (mJ x2), none, some (mI k), some (mI (ct (orbS (h 571 30) (fD h 588) k) to.toNat)), some (mI to)] g K := by
  have hs := H.1.1.1.1
  have M := H.1.1.1
  refine lp (h 571 30) (fun to ih g t0 t1 F A B => ?_)
  have es : g 571 30 = h 571 30 := F _ _ (by omega) (by omega)
  have cl := ct_le (orbS (h 571 30) (fD h 588) k) to.toNat
  have ow : isW (am_up g 590 k to) ↔ orbS (h 571 30) (fD h 588) k to := isW_k H (c := fun j => j) hk t0 (fun x i a b c => by rw [am_up_ne a]; exact F x i a b) (fun j a b => by rw [am_up_ne2 (by omega)]; exact A j a b) (fun j a b => by omega) am_up_eq (fun j a b => by rw [am_up_ne2 (by omega)]; exact B j a (by omega))
  have fin : ct (orbS (h 571 30) (fD h 588) k) (h 571 30).toNat = ct (orbS (h 571 30) (fD h 588) k) 20 := by
    have := ct_ext (P := (orbS (h 571 30) (fD h 588) k)) (h 571 30).toNat (20 - (h 571 30).toNat) (fun y a b => by have := orbS_r M hk b; omega)
    rw [show (h 571 30).toNat + (20 - (h 571 30).toNat) = 20 by omega] at this
    exact this.symm
  refine T264_52 ⟨by omega, ⟨fun c1 => ⟨by omega, ⟨by omega, ⟨by unfold R32; omega, ?_⟩⟩⟩, fun c1 => ⟨by omega, ⟨by omega, ⟨(KLD_fr H (fun x i a b c => by rw [am_up_ne a]; exact F x i a b)).1.1, fun h' q2 => ⟨fun c3 => ?_, fun c3 => ?_⟩⟩⟩⟩⟩⟩
  · rw [es] at c1
    rw [show to = h 571 30 by omega, fin]
    refine nx _ (fun x i a b => by rw [am_up_ne a]; exact F x i a b) (fun j a b => ?_) (fun j a b => by rw [am_up_ne2 (by omega)]; exact B j a b)
    by_cases z : j = k
    · rw [z, am_up_eq]
    · rw [am_up_ne2 z]; exact A j a (by omega)
  · rw [es] at c1
    rw [ow] at c3
    have e := ct_to (P := orbS (h 571 30) (fD h 588) k) t0
    rw [am_b_f c3] at e
    have nn := ih c1 h' (by omega) (by omega) (fun x i a b => by rw [q2 x i b, am_up_ne a]; exact F x i a b) (fun j a b => by rw [q2 _ _ (by omega), am_up_ne2 (by omega)]; exact A j a b) (fun j a b => by rw [q2 _ _ (by omega), am_up_ne2 (by omega)]; exact B j a b)
    rw [e] at nn
    exact nn
  · rw [es] at c1
    rw [ow] at c3
    have e := ct_to (P := orbS (h 571 30) (fD h 588) k) t0
    rw [am_b_t c3] at e
    have nn := ih c1 h' (by omega) (by omega) (fun x i a b => by rw [q2 x i b, am_up_ne a]; exact F x i a b) (fun j a b => by rw [q2 _ _ (by omega), am_up_ne2 (by omega)]; exact A j a b) (fun j a b => by rw [q2 _ _ (by omega), am_up_ne2 (by omega)]; exact B j a b)
    rw [e] at nn
    exact nn
theorem L264b {K : Option am_V → am_H → Prop} {h : am_H} {i : Int} (H : KLD h) (hi : -1 ≤ i ∧ i < h 571 30) (hK : ∀ h', (∀ x9 i9, x9 ≠ 590 → x9 ≠ 595 → h' x9 i9 = h x9 i9) → K (some (mK (lvr (h 571 30) (fD h 588) (h 571 30 - 1 - i).toNat))) h') : ∀ k, ∀ (g : am_H) (x2 : Int), i < k → k ≤ h 571 30 → (∀ x i, x ≠ 590 → x ≠ 595 → g x i = h x i) → (∀ j, 0 ≤ j → j < k → g 590 j = j) → (∀ j, k ≤ j → j < 20 → g 590 j = -1) → x2 * lvr (h 571 30) (fD h 588) (h 571 30 - k).toNat = lvr (h 571 30) (fD h 588) (h 571 30 - 1 - i).toNat → am_AT 26 264 37 [some (mR 1 12 0 571), none, some (mJ x2), none, some (mI k), none, none] g K := by
  have hs := H.1.1.1.1
  have M := H.1.1.1
  refine lp (h 571 30) (fun k ih g x2 k0 k1 F A B X => ?_)
  have es : g 571 30 = h 571 30 := F _ _ (by omega) (by omega)
  have xe : h 571 30 ≤ k → x2 = lvr (h 571 30) (fD h 588) (h 571 30 - 1 - i).toNat := fun z => by
    rw [show (h 571 30 - k).toNat = 0 by omega] at X
    have : x2 * 1 = _ := X
    omega
  refine T264_37 ⟨by omega, ⟨fun c1 => ⟨by
    rw [es] at c1
    rw [xe c1]
    have := lvr_64 (D := fD h 588) M (m := (h 571 30 - 1 - i).toNat) (by omega)
    unfold R64
    omega, ?_⟩, fun c1 => ?_⟩⟩
  · rw [es] at c1
    rw [xe c1]
    exact hK g F
  · rw [es] at c1
    have nn := L264c H hi hK (x2 := x2) (k := k) ⟨by omega, c1⟩ (fun g' F' A' B' => ih c1 g' _ (by omega) (by omega) F' A' (fun j a b => B' j (by omega) b) ?_) 0 g (by omega) hs.1 F A (fun j a b => B j (by omega) b)
    · exact nn
    · rw [← X, lvr_S (p := k) ⟨by omega, c1⟩, show (h 571 30 - (k + 1)).toNat = (h 571 30 - 1 - k).toNat by omega, Int.mul_assoc]
theorem L264a {K : Option am_V → am_H → Prop} {h : am_H} {i : Int} (H : KLD h) (hi : -1 ≤ i ∧ i < h 571 30) (hK : ∀ h', (∀ x9 i9, x9 ≠ 590 → x9 ≠ 595 → h' x9 i9 = h x9 i9) → K (some (mK (lvr (h 571 30) (fD h 588) (h 571 30 - 1 - i).toNat))) h') : ∀ k, ∀ g : am_H, 0 ≤ k → k ≤ 20 → (∀ x i, x ≠ 590 → x ≠ 595 → g x i = h x i) → (∀ j, 0 ≤ j → j < k → j ≤ i → g 590 j = j) → (∀ j, 0 ≤ j → j < k → i < j → g 590 j = -1) → am_AT 26 264 2 [some (mR 1 12 0 571), some (mB i), some (mI k), none, none, none, none] g K := by
  have hs := H.1.1.1.1
  refine lp 20 (fun k ih g k0 k1 F A B => ?_)
  refine T264_2 ⟨by omega, ⟨fun c1 => ?_, fun c1 => ⟨by omega, ⟨fun c2 => ⟨by omega, ?_⟩, fun c2 => ⟨by omega, ⟨by omega, ?_⟩⟩⟩⟩⟩⟩
  · refine L264b H hi hK (i + 1) g 1 (by omega) (by omega) F (fun j a b => A j a (by omega) (by omega)) (fun j a b => B j (by omega) (by omega) (by omega)) ?_
    rw [Int.one_mul]
    congr 1
    omega
  · refine ih c1 _ (by omega) (by omega) (fun x i a b => by rw [am_up_ne a]; exact F x i a b) (fun j a b c => ?_) (fun j a b c => ?_)
    · by_cases z : j = k
      · omega
      · rw [am_up_ne2 z]; exact A j a (by omega) c
    · by_cases z : j = k
      · rw [z, am_up_eq]
      · rw [am_up_ne2 z]; exact B j a (by omega) c
  · refine ih c1 _ (by omega) (by omega) (fun x i a b => by rw [am_up_ne a]; exact F x i a b) (fun j a b c => ?_) (fun j a b c => ?_)
    · by_cases z : j = k
      · rw [z, am_up_eq]
      · rw [am_up_ne2 z]; exact A j a (by omega) c
    · by_cases z : j = k
      · omega
      · rw [am_up_ne2 z]; exact B j a (by omega) c
theorem C264_ok : am_CS 26 264 C264 := W264 (fun i h K hb => T264_0 (L264a hb.1.1 hb.1.2 hb.2 0 h (by omega) (by omega) (fun _ _ _ _ => rfl) (fun j a b => by omega) (fun j a b => by omega)))
/-! 265 FactorNetsModel.laysSame -/
def C265 : am_K := fun as h K => am_a2 as (fun v0 v1 => am_oc 12 571 v0 (am_n v1 (fun st => ((NT (h 572 0) (nr h 572 2) ∧ CN (h 572 0) (nr h 572 2) ∧ RLd h (h 572 0) (nr h 572 2)) ∧ S20 st ∧ (∀ y9, bit st y9 → y9 < (h 572 0))) ∧ (∀ (h' : am_H), LSM h h' st → K (none) (h')))))
theorem W265 {d : Nat} (H : ∀ (st : Int) (h : am_H) (K : Option am_V → am_H → Prop), ((NT (h 572 0) (nr h 572 2) ∧ CN (h 572 0) (nr h 572 2) ∧ RLd h (h 572 0) (nr h 572 2)) ∧ S20 st ∧ (∀ y9, bit st y9 → y9 < (h 572 0))) ∧ (∀ (h' : am_H), LSM h h' st → K (none) (h')) → am_AT d 265 0 [some (mR 1 12 0 571), some (mB st)] h K) : am_CS d 265 C265 := by
  refine am_CS_of (T := tb265) (mL := 2) (rk := 0) rfl (fun as h K hC => ?_)
  obtain ⟨v0, v1, rfl, hC0⟩ := am_a2_e hC
  obtain ⟨e0, hC1⟩ := am_oc_e hC0
  subst e0
  obtain ⟨st, rfl, hC2⟩ := am_n_e hC1
  refine ⟨Nat.le_of_ble_eq_true rfl, ?_⟩
  exact H st h K hC2
theorem T265_0 {R : Option am_V → am_H → Prop} {h : am_H} {st : Int} (t : ((NT (h 572 0) (nr h 572 2) ∧ CN (h 572 0) (nr h 572 2) ∧ RLd h (h 572 0) (nr h 572 2)) ∧ ((588 : Int) = 588 ∨ (588 : Int) = 589) ∧ S20 st ∧ (∀ y9, bit st y9 → y9 < (h 572 0))) ∧ (∀ (h' : am_H), (((∀ x9 i9, x9 ≠ (588 : Int) → x9 ≠ 590 → ¬ (x9 = 571 ∧ i9 = 30) → h' x9 i9 = h x9 i9) ∧ h' 571 30 = iPop st ∧ (∀ a9 b9, (0 ≤ a9 ∧ a9 < iPop st) → (0 ≤ b9 ∧ b9 < iPop st) → h' (588 : Int) (20 * a9 + b9) = lyd (nr h 572 2) st a9 b9) ∧ (∀ i9, 0 ≤ i9 → i9 < 20 → h' 590 i9 = -1))) → (((NT (h' 572 0) (nr h' 572 2) ∧ CN (h' 572 0) (nr h' 572 2) ∧ RLd h' (h' 572 0) (nr h' 572 2)) ∧ ((589 : Int) = 588 ∨ (589 : Int) = 589) ∧ S20 st ∧ (∀ y9, bit st y9 → y9 < (h' 572 0))) ∧ (∀ (h'_1 : am_H), (((∀ x9 i9, x9 ≠ (589 : Int) → x9 ≠ 590 → ¬ (x9 = 571 ∧ i9 = 30) → h'_1 x9 i9 = h' x9 i9) ∧ h'_1 571 30 = iPop st ∧ (∀ a9 b9, (0 ≤ a9 ∧ a9 < iPop st) → (0 ≤ b9 ∧ b9 < iPop st) → h'_1 (589 : Int) (20 * a9 + b9) = lyd (nr h' 572 2) st a9 b9) ∧ (∀ i9, 0 ≤ i9 → i9 < 20 → h'_1 590 i9 = -1))) → ((GS h'_1) ∧ (∀ (h'_2 : am_H), (((∀ x9 i9, ¬ (591 ≤ x9 ∧ x9 ≤ 594) → h'_2 x9 i9 = h'_1 x9 i9) ∧ KND h'_2 ∧ SPH h'_2)) → (R none h'_2))))))) : am_AT 4 265 0 [some (mR 1 12 0 571), some (mB st)] h R :=
  am_T (d := 3) (m := 265) (T := tb265) (mL := 2) (rk := 0) (cuts := []) (l := [(256, C256), (260, C260)]) rfl ⟨am_CS_d (by decide) C256_ok, am_CS_d (by decide) C260_ok, trivial⟩ 17 (And.intro (rfl) (And.intro (t).1 (fun z2_0 z2_1 => And.intro (rfl) (And.intro (((t).2) z2_0 z2_1).1 (fun z3_0 z3_1 => And.intro (rfl) (And.intro (((((t).2) z2_0 z2_1).2) z3_0 z3_1).1 (fun z4_0 z4_1 => ((((((t).2) z2_0 z2_1).2) z3_0 z3_1).2) z4_0 z4_1)))))))
theorem C265_ok : am_CS 4 265 C265 := W265 (fun st h K hb => by
  obtain ⟨⟨L, hs, hbn⟩, hK⟩ := hb
  have sg : ∀ (h' h'_1 : am_H), ((∀ x9 i9, x9 ≠ (588 : Int) → x9 ≠ 590 → ¬ (x9 = 571 ∧ i9 = 30) → h' x9 i9 = h x9 i9) ∧ h' 571 30 = iPop st ∧ (∀ a9 b9, (0 ≤ a9 ∧ a9 < iPop st) → (0 ≤ b9 ∧ b9 < iPop st) → h' (588 : Int) (20 * a9 + b9) = lyd (nr h 572 2) st a9 b9) ∧ (∀ i9, 0 ≤ i9 → i9 < 20 → h' 590 i9 = -1)) → ((∀ x9 i9, x9 ≠ (589 : Int) → x9 ≠ 590 → ¬ (x9 = 571 ∧ i9 = 30) → h'_1 x9 i9 = h' x9 i9) ∧ h'_1 571 30 = iPop st ∧ (∀ a9 b9, (0 ≤ a9 ∧ a9 < iPop st) → (0 ≤ b9 ∧ b9 < iPop st) → h'_1 (589 : Int) (20 * a9 + b9) = lyd (nr h' 572 2) st a9 b9) ∧ (∀ i9, 0 ≤ i9 → i9 < 20 → h'_1 590 i9 = -1)) → GS h'_1 ∧ SM h'_1 ∧ ∀ a b, (0 ≤ a ∧ a < iPop st) → (0 ≤ b ∧ b < iPop st) → fD h'_1 588 a b = lyd (nr h 572 2) st a b := fun h' h'_1 q1 q2 => by
    have en : nr h' 572 2 = nr h 572 2 := nr_fr2 (fun i => q1.1 _ _ (by omega) (by omega) (by omega))
    have a8 : ∀ a b, (0 ≤ a ∧ a < iPop st) → (0 ≤ b ∧ b < iPop st) → fD h'_1 588 a b = lyd (nr h 572 2) st a b := fun a b u v => (q2.1 _ _ (by omega) (by omega) (by omega)).trans (q1.2.2.1 a b u v)
    have a9 : ∀ a b, (0 ≤ a ∧ a < iPop st) → (0 ≤ b ∧ b < iPop st) → fD h'_1 589 a b = lyd (nr h 572 2) st a b := fun a b u v => by rw [← en]; exact q2.2.2.1 a b u v
    have M := DM_lyd L.1 L.2.1 hs hbn
    refine ⟨?_, ?_, a8⟩
    · unfold GS; rw [q2.2.1]; exact ⟨DM_cg M a8, DM_cg M a9⟩
    · unfold SM; rw [q2.2.1]; exact fun a b u v => (a9 a b u v).trans (a8 a b u v).symm
  refine T265_0 ⟨⟨L, Or.inl rfl, hs, hbn⟩, fun h' q1 => ⟨by
    have w := Lda_f2 L (h'' := h') (fun x i a => q1.1 x i (by omega) (by omega) (by omega))
    exact ⟨w.1, Or.inr rfl, hs, by rw [w.2.1]; exact hbn⟩, fun h'_1 q2 => ⟨(sg h' h'_1 q1 q2).1, fun h'_2 q3 => ?_⟩⟩⟩
  · have s := sg h' h'_1 q1 q2
    have fr : ∀ x i, x ≠ 588 → x ≠ 589 → x ≠ 590 → ¬ (591 ≤ x ∧ x ≤ 594) → ¬ (x = 571 ∧ i = 30) → h'_2 x i = h x i := fun x i a b c d e => (q3.1 x i d).trans ((q2.1 x i b c e).trans (q1.1 x i a c e))
    have e30 : h'_2 571 30 = iPop st := (q3.1 _ _ (by omega)).trans q2.2.1
    have e8 : fD h'_2 588 = fD h'_1 588 := by funext a b; exact q3.1 _ _ (by omega)
    have e9 : fD h'_2 589 = fD h'_1 589 := by funext a b; exact q3.1 _ _ (by omega)
    refine hK h'_2 ⟨fun x i a b => fr x i (by omega) (by omega) (by omega) (by omega) b, ⟨⟨?_, q3.2.1, q3.2.2⟩, ?_⟩, e30, by rw [e8]; exact s.2.2, fun i a b => (q3.1 _ _ (by omega)).trans (q2.2.2.2 i a b)⟩
    · unfold GS; rw [q3.1 571 30 (by omega), e8, e9]; exact s.1
    · unfold SM; rw [q3.1 571 30 (by omega), e8, e9]; exact s.2.1)
/-! 269 FactorNetsModel.allOf -/
def C269 : am_K := fun as h K => am_a1 as (fun v0 => am_oc 12 571 v0 (((NT (h 572 0) (nr h 572 2) ∧ CN (h 572 0) (nr h 572 2) ∧ RLd h (h 572 0) (nr h 572 2))) ∧ (∀ (h' : am_H), RLS h h' → K (some (mK (lvr (h 572 0) (ds (ad (nr h 572 2))) (h 572 0).toNat))) (h'))))
theorem W269 {d : Nat} (H : ∀  (h : am_H) (K : Option am_V → am_H → Prop), ((NT (h 572 0) (nr h 572 2) ∧ CN (h 572 0) (nr h 572 2) ∧ RLd h (h 572 0) (nr h 572 2))) ∧ (∀ (h' : am_H), RLS h h' → K (some (mK (lvr (h 572 0) (ds (ad (nr h 572 2))) (h 572 0).toNat))) (h')) → am_AT d 269 0 [some (mR 1 12 0 571)] h K) : am_CS d 269 C269 := by
  refine am_CS_of (T := tb269) (mL := 1) (rk := 2) rfl (fun as h K hC => ?_)
  obtain ⟨v0, rfl, hC0⟩ := am_a1_e hC
  obtain ⟨e0, hC1⟩ := am_oc_e hC0
  subst e0
  refine ⟨Nat.le_of_ble_eq_true rfl, ?_⟩
  exact H  h K hC1
theorem T269_0 {R : Option am_V → am_H → Prop} {h : am_H} (t : (0 ≤ (h 572 0) ∧ (h 572 0) ≤ 20) ∧ (((NT (h 572 0) (nr h 572 2) ∧ CN (h 572 0) (nr h 572 2) ∧ RLd h (h 572 0) (nr h 572 2)) ∧ S20 (iShl 1 (h 572 0) - 1) ∧ (∀ y9, bit (iShl 1 (h 572 0) - 1) y9 → y9 < (h 572 0))) ∧ (∀ (h' : am_H), (LSM h h' (iShl 1 (h 572 0) - 1)) → ((KLD h' ∧ (-1 ≤ (-1 : Int) ∧ (-1 : Int) < (h' 571 30))) ∧ (∀ (h'_1 : am_H), ((∀ x9 i9, x9 ≠ 590 → x9 ≠ 595 → h'_1 x9 i9 = h' x9 i9)) → (R (some (mK (lvr (h' 571 30) (fD h' 588) ((h' 571 30) - 1 - (-1 : Int)).toNat))) h'_1)))))) : am_AT 27 269 0 [some (mR 1 12 0 571)] h R :=
  am_T (d := 26) (m := 269) (T := tb269) (mL := 1) (rk := 2) (cuts := []) (l := [(264, C264), (265, C265), (266, C266)]) rfl ⟨am_CS_d (by decide) C264_ok, am_CS_d (by decide) C265_ok, am_CS_d (by decide) C266_ok, trivial⟩ 12 (And.intro (rfl) (And.intro (t).1 (And.intro (rfl) (And.intro ((t).2).1 (fun z5_0 z5_1 => And.intro (rfl) (And.intro ((((t).2).2) z5_0 z5_1).1 (fun z6_0 z6_1 => (((((t).2).2) z5_0 z5_1).2) z6_0 z6_1)))))))
theorem C269_ok : am_CS 27 269 C269 := W269 (fun h K hb => by
  have hn : 0 ≤ h 572 0 ∧ h 572 0 ≤ 20 := ⟨hb.1.1.1, hb.1.1.2.1⟩
  refine T269_0 ⟨by omega, ⟨by
    have hn := hb.1.1
    exact ⟨hb.1, S20_all hn.1 hn.2.1, fun y z => ((bt_all hn.1 (by have := hn.2.1; omega)).mp z).2⟩, fun h' q1 => ⟨by
    have w := (LSM_all hn q1).1
    rw [w.2.2.1]
    exact ⟨w.2.1, by omega⟩, fun h'_1 q2 => ?_⟩⟩⟩
  · have w := (LSM_all hn q1).1
    have kf := KLD_fr w.2.1 (g := h'_1) (fun x i a b _ => q2 x i a b)
    refine am_rK (hb.2 h'_1 ⟨fun x i a b => (q2 x i (by omega) (by omega)).trans (w.1 x i a b), kf.1, kf.2.1.trans w.2.2.1, by rw [kf.2.2]; exact w.2.2.2⟩) ?_
    rw [w.2.2.1, show (h 572 0 - 1 - (-1)).toNat = (h 572 0).toNat by omega]
    exact (lvr_dc (fun a b u v => w.2.2.2 a b u v) _).symm)
/-! 271 FactorNetsModel.orbitOf -/
def C271 : am_K := fun as h K => am_a2 as (fun v0 v1 => am_oc 12 571 v0 (am_n v1 (fun p => ((NT (h 572 0) (nr h 572 2) ∧ CN (h 572 0) (nr h 572 2) ∧ RLd h (h 572 0) (nr h 572 2)) ∧ (0 ≤ p ∧ p < (h 572 0))) ∧ (∀ (h' : am_H), RLS h h' → K (some (mB (mkb (orbA (h 572 0) (ds (ad (nr h 572 2))) p)))) (h')))))
theorem W271 {d : Nat} (H : ∀ (p : Int) (h : am_H) (K : Option am_V → am_H → Prop), ((NT (h 572 0) (nr h 572 2) ∧ CN (h 572 0) (nr h 572 2) ∧ RLd h (h 572 0) (nr h 572 2)) ∧ (0 ≤ p ∧ p < (h 572 0))) ∧ (∀ (h' : am_H), RLS h h' → K (some (mB (mkb (orbA (h 572 0) (ds (ad (nr h 572 2))) p)))) (h')) → am_AT d 271 0 [some (mR 1 12 0 571), some (mB p), none, none] h K) : am_CS d 271 C271 := by
  refine am_CS_of (T := tb271) (mL := 4) (rk := 1) rfl (fun as h K hC => ?_)
  obtain ⟨v0, v1, rfl, hC0⟩ := am_a2_e hC
  obtain ⟨e0, hC1⟩ := am_oc_e hC0
  subst e0
  obtain ⟨p, rfl, hC2⟩ := am_n_e hC1
  refine ⟨Nat.le_of_ble_eq_true rfl, ?_⟩
  exact H p h K hC2
theorem T271_0 {R : Option am_V → am_H → Prop} {h : am_H} {p : Int} (t : (0 ≤ (h 572 0) ∧ (h 572 0) ≤ 20) ∧ (((NT (h 572 0) (nr h 572 2) ∧ CN (h 572 0) (nr h 572 2) ∧ RLd h (h 572 0) (nr h 572 2)) ∧ S20 (iShl 1 (h 572 0) - 1) ∧ (∀ y9, bit (iShl 1 (h 572 0) - 1) y9 → y9 < (h 572 0))) ∧ (∀ (h' : am_H), (LSM h h' (iShl 1 (h 572 0) - 1)) → (am_AT 26 271 12 [some (mR 1 12 0 571), some (mB p), some (mI 0), some (mI 0)] h' R)))) : am_AT 26 271 0 [some (mR 1 12 0 571), some (mB p), none, none] h R :=
  am_T (d := 25) (m := 271) (T := tb271) (mL := 4) (rk := 1) (cuts := [(12, [1, 1, 2, 2])]) (l := [(261, C261), (265, C265), (266, C266)]) rfl ⟨am_CS_d (by decide) C261_ok, am_CS_d (by decide) C265_ok, am_CS_d (by decide) C266_ok, trivial⟩ 12 (And.intro (rfl) (And.intro (t).1 (And.intro (rfl) (And.intro ((t).2).1 (fun z7_0 z7_1 => (((t).2).2) z7_0 z7_1)))))
theorem T271_12 {R : Option am_V → am_H → Prop} {h : am_H} {p : Int} {x2 : Int} {x3 : Int} (t : (R32 x3) ∧ (((h 571 30 ≤ x3) → ((R32 x2) ∧ (R (some (mB x2)) h))) ∧ ((x3 < h 571 30) → ((0 ≤ p ∧ p < 20) ∧ ((R32 x3) ∧ ((GS (am_up h 590 p x3) ∧ KND (am_up h 590 p x3) ∧ SPH (am_up h 590 p x3)) ∧ (∀ (h' : am_H), ((∀ x9 i9, x9 ≠ 595 → h' x9 i9 = (am_up h 590 p x3) x9 i9)) → (((¬ (isW (am_up h 590 p x3))) → (am_AT 26 271 12 [some (mR 1 12 0 571), some (mB p), some (mI (iOr x2 0)), some (mI (x3 + 1))] h' R)) ∧ ((isW (am_up h 590 p x3)) → (am_AT 26 271 12 [some (mR 1 12 0 571), some (mB p), some (mI (iOr x2 (iShl 1 x3))), some (mI (x3 + 1))] h' R)))))))))) : am_AT 26 271 12 [some (mR 1 12 0 571), some (mB p), some (mI x2), some (mI x3)] h R :=
  am_T (d := 25) (m := 271) (T := tb271) (mL := 4) (rk := 1) (cuts := [(12, [1, 1, 2, 2])]) (l := [(261, C261), (265, C265), (266, C266)]) rfl ⟨am_CS_d (by decide) C261_ok, am_CS_d (by decide) C265_ok, am_CS_d (by decide) C266_ok, trivial⟩ 25 (And.intro (t).1 (And.intro (fun c6 => And.intro (((t).2).1 c6).1 ((((t).2).1 c6).2)) (fun c6 => And.intro (((t).2).2 c6).1 (And.intro ((((t).2).2 c6).2).1 (And.intro (rfl) (And.intro (((((t).2).2 c6).2).2).1 (fun z8_0 z8_1 => And.intro (fun c7 => (((((((t).2).2 c6).2).2).2) z8_0 z8_1).1 c7) (fun c7 => (((((((t).2).2 c6).2).2).2) z8_0 z8_1).2 c7))))))))
theorem L271 {K : Option am_V → am_H → Prop} {h : am_H} {p : Int} (hn : 0 ≤ h 572 0 ∧ h 572 0 ≤ 20) (hp : 0 ≤ p ∧ p < h 572 0) (hK : ∀ h', RLS h h' → K (some (mB (mkb (orbA (h 572 0) (ds (ad (nr h 572 2))) p)))) h') : ∀ to, ∀ g : am_H, 0 ≤ to → to ≤ h 572 0 → RLS h g → (∀ i, 0 ≤ i → i < 20 → i ≠ p → g 590 i = -1) → am_AT 26 271 12 [some (mR 1 12 0 571), some (mB p), some (mI (mkb (fun y => y < to ∧ orbA (h 572 0) (ds (ad (nr h 572 2))) p y))), some (mI to)] g K := by
  refine lp (h 572 0) (fun to ih g t0 t1 R W => ?_)
  have es := R.2.2.1
  have mr := mkb_r (fun y => y < to ∧ orbA (h 572 0) (ds (ad (nr h 572 2))) p y)
  have kf := KLD_fr R.2.1 (g := am_up g 590 p to) (fun x i a _ _ => am_up_ne a)
  have ow : isW (am_up g 590 p to) ↔ orbA (h 572 0) (ds (ad (nr h 572 2))) p to := by
    rw [isW_sm kf.1.2, kf.2.1, kf.2.2, es]
    constructor
    · rintro ⟨f, F, w⟩
      have := w p hp.1 hp.2
      rw [am_up_eq] at this
      exact ⟨f, AU_dc R.2.2.2 F, (this.resolve_left (by omega)).symm⟩
    · rintro ⟨f, F, w⟩
      refine ⟨f, AU_dc (fun a b u v => (R.2.2.2 a b u v).symm) F, fun i a b => ?_⟩
      by_cases z : i = p
      · right; rw [z, am_up_eq, w]
      · left; rw [am_up_ne2 z]; exact W i a (by omega) z
  have nR : ∀ h', (∀ x9 i9, x9 ≠ 595 → h' x9 i9 = am_up g 590 p to x9 i9) → RLS h h' ∧ ∀ i, 0 ≤ i → i < 20 → i ≠ p → h' 590 i = -1 := fun h' q => by
    have k2 := KLD_fr R.2.1 (g := h') (fun x i a b _ => by rw [q x i b, am_up_ne a])
    exact ⟨⟨fun x i a b => by rw [q x i (by omega), am_up_ne (by omega)]; exact R.1 x i a b, k2.1, k2.2.1.trans es, by rw [k2.2.2]; exact R.2.2.2⟩, fun i a b c => by rw [q _ _ (by omega), am_up_ne2 c]; exact W i a b c⟩
  refine T271_12 ⟨by omega, ⟨fun c1 => ⟨mr, ?_⟩, fun c1 => ⟨by omega, ⟨by omega, ⟨kf.1.1, fun h' q2 => ⟨fun c3 => ?_, fun c3 => ?_⟩⟩⟩⟩⟩⟩
  · rw [es] at c1
    refine am_rB (hK g R) ?_
    refine mkb_congr (fun y _ _ => ⟨fun w => ⟨?_, w⟩, fun w => w.2⟩)
    have := orbA_in hp w
    omega
  · rw [es] at c1
    rw [ow] at c3
    rw [or_00 _ mr, ← mk_no (P := orbA (h 572 0) (ds (ad (nr h 572 2))) p) (i := to) c3]
    exact ih c1 h' (by omega) (by omega) (nR h' q2).1 (nR h' q2).2
  · rw [es] at c1
    rw [ow] at c3
    rw [mk_or (P := orbA (h 572 0) (ds (ad (nr h 572 2))) p) (i := to) t0 (by omega) c3]
    exact ih c1 h' (by omega) (by omega) (nR h' q2).1 (nR h' q2).2
theorem C271_ok : am_CS 26 271 C271 := W271 (fun p h K hb => by
  obtain ⟨⟨L, hp⟩, hK⟩ := hb
  have hn : 0 ≤ h 572 0 ∧ h 572 0 ≤ 20 := ⟨L.1.1, L.1.2.1⟩
  refine T271_0 ⟨by omega, ⟨⟨L, S20_all hn.1 hn.2, fun y z => ((bt_all hn.1 (by omega)).mp z).2⟩, fun h' q1 => ?_⟩⟩
  · have w := LSM_all hn q1
    have nn := L271 hn hp hK 0 h' (by omega) hn.1 w.1 (fun i a b _ => w.2 i a b)
    rw [mk_0 (P := orbA (h 572 0) (ds (ad (nr h 572 2))) p)] at nn
    exact nn)
/-! 274 FactorNetsModel.isPrefix -/
def C274 : am_K := fun as h K => am_a3 as (fun v0 v1 v2 => am_oc 12 571 v0 (am_n v1 (fun i => am_n v2 (fun to => (KLD h ∧ (0 ≤ i ∧ i < (h 571 30)) ∧ 0 ≤ to ∧ (∀ j9, 0 ≤ j9 → j9 < i → h 596 j9 ≠ -1)) ∧ (∀ (h' : am_H), (∀ x9 i9, x9 ≠ 590 → x9 ≠ 595 → h' x9 i9 = h x9 i9) → K (some (mP (PFX (h 571 30) (fD h 588) (h 596) i to))) (h'))))))
theorem W274 {d : Nat} (H : ∀ (i : Int) (to : Int) (h : am_H) (K : Option am_V → am_H → Prop), (KLD h ∧ (0 ≤ i ∧ i < (h 571 30)) ∧ 0 ≤ to ∧ (∀ j9, 0 ≤ j9 → j9 < i → h 596 j9 ≠ -1)) ∧ (∀ (h' : am_H), (∀ x9 i9, x9 ≠ 590 → x9 ≠ 595 → h' x9 i9 = h x9 i9) → K (some (mP (PFX (h 571 30) (fD h 588) (h 596) i to))) (h')) → am_AT d 274 0 [some (mR 1 12 0 571), some (mB i), some (mB to), none] h K) : am_CS d 274 C274 := by
  refine am_CS_of (T := tb274) (mL := 4) (rk := 4) rfl (fun as h K hC => ?_)
  obtain ⟨v0, v1, v2, rfl, hC0⟩ := am_a3_e hC
  obtain ⟨e0, hC1⟩ := am_oc_e hC0
  subst e0
  obtain ⟨i, rfl, hC2⟩ := am_n_e hC1
  obtain ⟨to, rfl, hC3⟩ := am_n_e hC2
  refine ⟨Nat.le_of_ble_eq_true rfl, ?_⟩
  exact H i to h K hC3
theorem T274_0 {R : Option am_V → am_H → Prop} {h : am_H} {i : Int} {to : Int} (t : am_AT 26 274 2 [some (mR 1 12 0 571), some (mB i), some (mB to), some (mI 0)] h R) : am_AT 26 274 0 [some (mR 1 12 0 571), some (mB i), some (mB to), none] h R :=
  am_T (d := 25) (m := 274) (T := tb274) (mL := 4) (rk := 4) (cuts := [(2, [1, 1, 1, 2])]) (l := [(261, C261)]) rfl ⟨am_CS_d (by decide) C261_ok, trivial⟩ 6 (t)
theorem T274_2 {R : Option am_V → am_H → Prop} {h : am_H} {i : Int} {to : Int} {x3 : Int} (t : (R32 x3) ∧ (((20 ≤ x3) → ((0 ≤ i ∧ i < 20) ∧ ((GS (am_up h 590 i to) ∧ KND (am_up h 590 i to) ∧ SPH (am_up h 590 i to)) ∧ (∀ (h' : am_H), ((∀ x9 i9, x9 ≠ 595 → h' x9 i9 = (am_up h 590 i to) x9 i9)) → (R (some (mP (isW (am_up h 590 i to)))) h'))))) ∧ ((x3 < 20) → ((R32 x3) ∧ (((i ≤ x3) → ((0 ≤ x3 ∧ x3 < 20) ∧ (am_AT 26 274 2 [some (mR 1 12 0 571), some (mB i), some (mB to), some (mI (x3 + 1))] (am_up h 590 x3 (-1)) R))) ∧ ((x3 < i) → ((0 ≤ x3 ∧ x3 < 20) ∧ ((0 ≤ x3 ∧ x3 < 20) ∧ (am_AT 26 274 2 [some (mR 1 12 0 571), some (mB i), some (mB to), some (mI (x3 + 1))] (am_up h 590 x3 (h 596 x3)) R))))))))) : am_AT 26 274 2 [some (mR 1 12 0 571), some (mB i), some (mB to), some (mI x3)] h R :=
  am_T (d := 25) (m := 274) (T := tb274) (mL := 4) (rk := 4) (cuts := [(2, [1, 1, 1, 2])]) (l := [(261, C261)]) rfl ⟨am_CS_d (by decide) C261_ok, trivial⟩ 21 (And.intro (t).1 (And.intro (fun c8 => And.intro (((t).2).1 c8).1 (And.intro (rfl) (And.intro ((((t).2).1 c8).2).1 (fun z9_0 z9_1 => (((((t).2).1 c8).2).2) z9_0 z9_1)))) (fun c8 => And.intro (((t).2).2 c8).1 (And.intro (fun c9 => And.intro (((((t).2).2 c8).2).1 c9).1 ((((((t).2).2 c8).2).1 c9).2)) (fun c9 => And.intro (((((t).2).2 c8).2).2 c9).1 (And.intro ((((((t).2).2 c8).2).2 c9).2).1 (((((((t).2).2 c8).2).2 c9).2).2)))))))
theorem L274 {K : Option am_V → am_H → Prop} {h : am_H} {i to : Int} (H : KLD h) (hi : 0 ≤ i ∧ i < h 571 30) (ht : 0 ≤ to) (hc : ∀ j9, 0 ≤ j9 → j9 < i → h 596 j9 ≠ -1) (hK : ∀ h', (∀ x9 i9, x9 ≠ 590 → x9 ≠ 595 → h' x9 i9 = h x9 i9) → K (some (mP (PFX (h 571 30) (fD h 588) (h 596) i to))) h') : ∀ k, ∀ g : am_H, 0 ≤ k → k ≤ 20 → (∀ x i, x ≠ 590 → g x i = h x i) → (∀ j, 0 ≤ j → j < k → j < i → g 590 j = h 596 j) → (∀ j, 0 ≤ j → j < k → i ≤ j → g 590 j = -1) → am_AT 26 274 2 [some (mR 1 12 0 571), some (mB i), some (mB to), some (mI k)] g K := by
  have hs := H.1.1.1.1
  refine lp 20 (fun k ih g k0 k1 F A B => ?_)
  refine T274_2 ⟨by omega, ⟨fun c1 => ⟨by omega, ⟨(KLD_fr H (fun x j a _ _ => by rw [am_up_ne a]; exact F x j a)).1.1, fun h' q2 => ?_⟩⟩, fun c1 => ⟨by omega, ⟨fun c2 => ⟨by omega, ?_⟩, fun c2 => ⟨by omega, ⟨by omega, ?_⟩⟩⟩⟩⟩⟩
  · have fr : ∀ x i, x ≠ 590 → x ≠ 595 → h' x i = h x i := fun x j a b => by rw [q2 x j b, am_up_ne a]; exact F x j a
    refine am_rb (hK h' fr) (isW_k H (c := h 596) hi ht (fun x j a _ _ => by rw [am_up_ne a]; exact F x j a) (fun j a b => by rw [am_up_ne2 (by omega)]; exact A j a (by omega) b) hc am_up_eq (fun j a b => by rw [am_up_ne2 (by omega)]; exact B j (by omega) (by omega) (by omega))).symm
  · refine ih c1 _ (by omega) (by omega) (fun x j a => by rw [am_up_ne a]; exact F x j a) (fun j a b c => ?_) (fun j a b c => ?_)
    · by_cases z : j = k
      · omega
      · rw [am_up_ne2 z]; exact A j a (by omega) c
    · by_cases z : j = k
      · rw [z, am_up_eq]
      · rw [am_up_ne2 z]; exact B j a (by omega) c
  · refine ih c1 _ (by omega) (by omega) (fun x j a => by rw [am_up_ne a]; exact F x j a) (fun j a b c => ?_) (fun j a b c => ?_)
    · by_cases z : j = k
      · rw [z, am_up_eq]; exact F _ _ (by omega)
      · rw [am_up_ne2 z]; exact A j a (by omega) c
    · by_cases z : j = k
      · omega
      · rw [am_up_ne2 z]; exact B j a (by omega) c
theorem C274_ok : am_CS 26 274 C274 := W274 (fun i to h K hb => by
  obtain ⟨⟨H, hi, ht, hc⟩, hK⟩ := hb
  exact T274_0 (L274 H hi ht hc hK 0 h (by omega) (by omega) (fun _ _ _ => rfl) (fun j a b => by omega) (fun j a b => by omega)))
