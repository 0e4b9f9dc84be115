/-! ===== the fewest colours ===== -/
def COL (S : Int → Prop) (E : Int → Int → Prop) (m : Int) : Prop := ext S S E (fun _ => 0) m
noncomputable def chs (S : Int → Prop) (E : Int → Int → Prop) : Int := fnd (fun k => COL S E (k + 1)) 20 + 1
theorem COL_of {S O : Int → Prop} {E : Int → Int → Prop} {col : Int → Int} {m : Int} (h : ∀ p, S p → O p) : ext S O E col m ↔ COL S E m :=
  ext_congr (fun p s => ⟨fun _ => s, fun _ => h p s⟩) (fun p s z => absurd (h p s) z)
theorem COL_n {S : Int → Prop} {E : Int → Int → Prop} {m : Int} (hI : ∀ p q, E p q → p ≠ q) (h : ∀ p, S p → 0 ≤ p ∧ p < m) : COL S E m :=
  ⟨fun p => p, fun p s z => absurd s z, fun p s _ => h p s, fun p q _ _ e _ => hI p q e⟩
theorem COL_mn {S : Int → Prop} {E : Int → Int → Prop} {m m' : Int} (hm : m ≤ m') (H : COL S E m) : COL S E m' := by
  obtain ⟨g, h1, h2, h3⟩ := H
  exact ⟨g, h1, fun p a b => by have := h2 p a b; omega, h3⟩
theorem chs_is {S : Int → Prop} {E : Int → Int → Prop} {k : Int} (h0 : 1 ≤ k) (h1 : k ≤ 20) (h : COL S E k) (hn : ∀ j, 1 ≤ j → j < k → ¬ COL S E j) : chs S E = k := by
  unfold chs
  rw [fnd_is (k := k - 1) (by omega) (by rw [show k - 1 + 1 = k by omega]; exact h) (fun j a b => hn (j + 1) (by omega) (by omega)) 20 (by omega)]
  omega
theorem nthb_at {x i : Int} (hx : S20 x) (h0 : 0 ≤ i) (h1 : i < iPop x) : ct (bit x) (nthb x i).toNat = i := by
  rw [iPop_20 hx] at h1
  obtain ⟨b, b1, b2, b3⟩ := ct_find 20 h0 h1
  have := nthb_ct (x := x) (p := b) (by omega) b3
  rw [show ((b : Int)).toNat = b by omega, b2] at this
  rw [this, show ((b : Int)).toNat = b by omega]
  exact b2
theorem S20_all {n : Int} (h0 : 0 ≤ n) (h1 : n ≤ 20) : S20 (iShl 1 n - 1) := by
  have r := bt_all_r h0 (show n ≤ 30 by omega)
  exact S20_of (by unfold R32; omega) (fun k hk => by have := (bt_all h0 (by omega)).mp hk; omega)
theorem all_fn {n : Int} (h0 : 0 ≤ n) (h1 : n ≤ 20) : bit (iShl 1 n - 1) = fun y => 0 ≤ y ∧ y < n := by
  funext y
  exact propext (bt_all h0 (by omega))
theorem iPop_le20 {x : Int} (hx : S20 x) : 0 ≤ iPop x ∧ iPop x ≤ 20 := by
  rw [iPop_20 hx]
  exact ct_le _ 20
/-! 319 java/util/Arrays.fill -/
def C319b : am_K := fun as h K => am_a2 as (fun v0 v1 => am_r 2 21 0 v0 (fun q => am_n v1 (fun x => K (none) (h_fl h q 21 x))))
theorem W319b {d : Nat} (H : ∀ (q : Int) (x : Int) (h : am_H) (K : Option am_V → am_H → Prop), K (none) (h_fl h q 21 x) → am_AT d 319 0 [some (mR 2 21 0 q), some (mB x), none, none] h K) : am_CS d 319 C319b := by
  refine am_CS_of (T := tb319) (mL := 4) (rk := 0) rfl (fun as h K hC => ?_)
  obtain ⟨v0, v1, rfl, hC0⟩ := am_a2_e hC
  obtain ⟨q, rfl, hC1⟩ := am_r_e hC0
  obtain ⟨x, rfl, hC2⟩ := am_n_e hC1
  refine ⟨Nat.le_of_ble_eq_true rfl, ?_⟩
  exact H q x h K hC2
theorem T319b_0 {R : Option am_V → am_H → Prop} {h : am_H} {q : Int} {x : Int} (t : am_AT 1 319 5 [some (mR 2 21 0 q), some (mB x), some (mI 0), some (mI 21)] h R) : am_AT 1 319 0 [some (mR 2 21 0 q), some (mB x), none, none] h R :=
  am_T (d := 0) (m := 319) (T := tb319) (mL := 4) (rk := 0) (cuts := [(5, [1, 1, 2, 2])]) (l := []) rfl trivial 9 (t)
theorem T319b_5 {R : Option am_V → am_H → Prop} {h : am_H} {q : Int} {x : Int} {x2 : Int} {x3 : Int} (t : (R32 x2) ∧ ((R32 x3) ∧ (((x3 ≤ x2) → (R none h)) ∧ ((x2 < x3) → ((0 ≤ x2 ∧ x2 < 21) ∧ (am_AT 1 319 5 [some (mR 2 21 0 q), some (mB x), some (mI (x2 + 1)), some (mI x3)] (am_up h q x2 x) R)))))) : am_AT 1 319 5 [some (mR 2 21 0 q), some (mB x), some (mI x2), some (mI x3)] h R :=
  am_T (d := 0) (m := 319) (T := tb319) (mL := 4) (rk := 0) (cuts := [(5, [1, 1, 2, 2])]) (l := []) rfl trivial 13 (And.intro (t).1 (And.intro ((t).2).1 (And.intro (fun c1 => (((t).2).2).1 c1) (fun c1 => And.intro ((((t).2).2).2 c1).1 (((((t).2).2).2 c1).2)))))
theorem L319b {K : Option am_V → am_H → Prop} {h : am_H} {q x : Int} (hK : K none (h_fl h q 21 x)) : ∀ (j : Nat) (i : Int), i + j = 21 → 0 ≤ i → am_AT 1 319 5 [some (mR 2 21 0 q), some (mB x), some (mI i), some (mI 21)] (h_fl h q i x) K := by
  intro j
  induction j with
  | zero =>
    intro i e h0
    rw [show i = 21 by omega]
    exact T319b_5 ⟨by omega, by omega, fun _ => hK, fun c => by omega⟩
  | succ j ih =>
    intro i e h0
    exact T319b_5 ⟨by omega, by omega, fun c => by omega, fun c => ⟨by omega, by rw [h_fl1 _ _ _ _ h0]; exact ih (i + 1) (by omega) (by omega)⟩⟩
theorem C319b_ok : am_CS 1 319 C319b := W319b (fun q x h K hb => T319b_0 (by have := L319b hb 21 0 (by omega) (by omega); rw [h_fl0] at this; exact this))
def C35b : am_K := fun as h K => am_a5 as (fun v0 v1 v2 v3 v4 => am_oc 4 470 v0 (am_o 3 v1 (fun o => am_n v2 (fun dp => am_n v3 (fun op => am_n v4 (fun used => ((o ≠ 470 ∧ ((o + 1) : Int) ≠ 471 ∧ o ≠ 471) ∧ (NT (h o 0) (nr h (o + 1) 0) ∧ (∀ y9, 0 ≤ y9 → y9 < 20 → S20 (h (o + 1) y9))) ∧ PNT h (h o 0) op used ∧ (0 ≤ dp ∧ dp + iPop op ≤ 20 ∧ iPop op < 21)) ∧ (∀ (h' : am_H), (∀ x9 i9, x9 ≠ 471 → h' x9 i9 = h x9 i9) ∧ (¬ ext (fun y9 => 0 ≤ y9 ∧ y9 < h o 0) (bit op) (ad (nr h (o + 1) 0)) (colp h) (h 470 1) → h' = h) → K (some (mP (ext (fun y9 => 0 ≤ y9 ∧ y9 < h o 0) (bit op) (ad (nr h (o + 1) 0)) (colp h) (h 470 1)))) (h'))))))))
theorem C35b_ok : am_CS 24 35 C35b := C35_ok 21
/-! 34 FactorNets$Painter.fewest -/
def C34 : am_K := fun as h K => am_a2 as (fun v0 v1 => am_oc 4 470 v0 (am_o 3 v1 (fun o => ((o ≠ 470 ∧ ((o + 1) : Int) ≠ 471 ∧ o ≠ 471 ∧ ((o + 1) : Int) ≠ 470) ∧ (NT (h o 0) (nr h (o + 1) 0) ∧ (∀ y9, 0 ≤ y9 → y9 < 20 → S20 (h (o + 1) y9))) ∧ 1 ≤ h o 0) ∧ (∀ (h' : am_H), (∀ x9 i9, x9 ≠ 470 → x9 ≠ 471 → h' x9 i9 = h x9 i9) → K (some (mB (chs (fun y9 => 0 ≤ y9 ∧ y9 < h o 0) (ad (nr h (o + 1) 0))))) (h')))))
theorem W34 {d : Nat} (H : ∀ (o : Int) (h : am_H) (K : Option am_V → am_H → Prop), ((o ≠ 470 ∧ ((o + 1) : Int) ≠ 471 ∧ o ≠ 471 ∧ ((o + 1) : Int) ≠ 470) ∧ (NT (h o 0) (nr h (o + 1) 0) ∧ (∀ y9, 0 ≤ y9 → y9 < 20 → S20 (h (o + 1) y9))) ∧ 1 ≤ h o 0) ∧ (∀ (h' : am_H), (∀ x9 i9, x9 ≠ 470 → x9 ≠ 471 → h' x9 i9 = h x9 i9) → K (some (mB (chs (fun y9 => 0 ≤ y9 ∧ y9 < h o 0) (ad (nr h (o + 1) 0))))) (h')) → am_AT d 34 0 [some (mR 1 4 0 470), some (mR 1 3 0 o), none] h K) : am_CS d 34 C34 := by
  refine am_CS_of (T := tb34) (mL := 3) (rk := 1) rfl (fun as h K hC => ?_)
  obtain ⟨v0, v1, rfl, hC0⟩ := am_a2_e hC
  obtain ⟨e0, hC1⟩ := am_oc_e hC0
  subst e0
  obtain ⟨o, rfl, hC2⟩ := am_o_e hC1
  refine ⟨Nat.le_of_ble_eq_true rfl, ?_⟩
  exact H o h K hC2
theorem T34_0 {R : Option am_V → am_H → Prop} {h : am_H} {o : Int} (t : am_AT 25 34 2 [some (mR 1 4 0 470), some (mR 1 3 0 o), some (mI 1)] h R) : am_AT 25 34 0 [some (mR 1 4 0 470), some (mR 1 3 0 o), none] h R :=
  am_T (d := 24) (m := 34) (T := tb34) (mL := 3) (rk := 1) (cuts := [(2, [1, 1, 2])]) (l := [(22, C22), (35, C35b), (319, C319b)]) rfl ⟨am_CS_d (by decide) C22_ok, am_CS_d (by decide) C35b_ok, am_CS_d (by decide) C319b_ok, trivial⟩ 6 (t)
theorem T34_2 {R : Option am_V → am_H → Prop} {h : am_H} {o : Int} {x2 : Int} (t : (R32 x2) ∧ (((h o 0 ≤ x2) → (R (some (mB (h o 0))) h)) ∧ ((x2 < h o 0) → ((R32 x2) ∧ ((0 ≤ (am_up (h_fl h (471 : Int) 21 (0 : Int)) 470 1 x2) o 0 ∧ (am_up (h_fl h (471 : Int) 21 (0 : Int)) 470 1 x2) o 0 ≤ 30) ∧ (((o ≠ 470 ∧ ((o + 1) : Int) ≠ 471 ∧ o ≠ 471) ∧ (NT ((am_up (h_fl h (471 : Int) 21 (0 : Int)) 470 1 x2) o 0) (nr (am_up (h_fl h (471 : Int) 21 (0 : Int)) 470 1 x2) (o + 1) 0) ∧ (∀ y9, 0 ≤ y9 → y9 < 20 → S20 ((am_up (h_fl h (471 : Int) 21 (0 : Int)) 470 1 x2) (o + 1) y9))) ∧ PNT (am_up (h_fl h (471 : Int) 21 (0 : Int)) 470 1 x2) ((am_up (h_fl h (471 : Int) 21 (0 : Int)) 470 1 x2) o 0) (iShl 1 ((am_up (h_fl h (471 : Int) 21 (0 : Int)) 470 1 x2) o 0) - 1) (0 : Int) ∧ (0 ≤ (0 : Int) ∧ (0 : Int) + iPop (iShl 1 ((am_up (h_fl h (471 : Int) 21 (0 : Int)) 470 1 x2) o 0) - 1) ≤ 20 ∧ iPop (iShl 1 ((am_up (h_fl h (471 : Int) 21 (0 : Int)) 470 1 x2) o 0) - 1) < 21)) ∧ (∀ (h' : am_H), ((∀ x9 i9, x9 ≠ 471 → h' x9 i9 = (am_up (h_fl h (471 : Int) 21 (0 : Int)) 470 1 x2) x9 i9) ∧ (¬ ext (fun y9 => 0 ≤ y9 ∧ y9 < (am_up (h_fl h (471 : Int) 21 (0 : Int)) 470 1 x2) o 0) (bit (iShl 1 ((am_up (h_fl h (471 : Int) 21 (0 : Int)) 470 1 x2) o 0) - 1)) (ad (nr (am_up (h_fl h (471 : Int) 21 (0 : Int)) 470 1 x2) (o + 1) 0)) (colp (am_up (h_fl h (471 : Int) 21 (0 : Int)) 470 1 x2)) ((am_up (h_fl h (471 : Int) 21 (0 : Int)) 470 1 x2) 470 1) → h' = (am_up (h_fl h (471 : Int) 21 (0 : Int)) 470 1 x2))) → (((¬ (ext (fun y9 => 0 ≤ y9 ∧ y9 < (am_up (h_fl h (471 : Int) 21 (0 : Int)) 470 1 x2) o 0) (bit (iShl 1 ((am_up (h_fl h (471 : Int) 21 (0 : Int)) 470 1 x2) o 0) - 1)) (ad (nr (am_up (h_fl h (471 : Int) 21 (0 : Int)) 470 1 x2) (o + 1) 0)) (colp (am_up (h_fl h (471 : Int) 21 (0 : Int)) 470 1 x2)) ((am_up (h_fl h (471 : Int) 21 (0 : Int)) 470 1 x2) 470 1))) → (am_AT 25 34 2 [some (mR 1 4 0 470), some (mR 1 3 0 o), some (mI (x2 + 1))] h' R)) ∧ ((ext (fun y9 => 0 ≤ y9 ∧ y9 < (am_up (h_fl h (471 : Int) 21 (0 : Int)) 470 1 x2) o 0) (bit (iShl 1 ((am_up (h_fl h (471 : Int) 21 (0 : Int)) 470 1 x2) o 0) - 1)) (ad (nr (am_up (h_fl h (471 : Int) 21 (0 : Int)) 470 1 x2) (o + 1) 0)) (colp (am_up (h_fl h (471 : Int) 21 (0 : Int)) 470 1 x2)) ((am_up (h_fl h (471 : Int) 21 (0 : Int)) 470 1 x2) 470 1)) → ((R32 x2) ∧ (R (some (mB x2)) h'))))))))))) : am_AT 25 34 2 [some (mR 1 4 0 470), some (mR 1 3 0 o), some (mI x2)] h R :=
  am_T (d := 24) (m := 34) (T := tb34) (mL := 3) (rk := 1) (cuts := [(2, [1, 1, 2])]) (l := [(22, C22), (35, C35b), (319, C319b)]) rfl ⟨am_CS_d (by decide) C22_ok, am_CS_d (by decide) C35b_ok, am_CS_d (by decide) C319b_ok, trivial⟩ 25 (And.intro (t).1 (And.intro (fun c2 => ((t).2).1 c2) (fun c2 => And.intro (((t).2).2 c2).1 (And.intro ((((t).2).2 c2).2).1 (And.intro (rfl) (And.intro (((((t).2).2 c2).2).2).1 (fun z1_0 z1_1 => And.intro (fun c3 => (((((((t).2).2 c2).2).2).2) z1_0 z1_1).1 c3) (fun c3 => And.intro ((((((((t).2).2 c2).2).2).2) z1_0 z1_1).2 c3).1 (((((((((t).2).2 c2).2).2).2) z1_0 z1_1).2 c3).2)))))))))
theorem L34 {K : Option am_V → am_H → Prop} {h : am_H} {o : Int} (ho : o ≠ 470 ∧ o + 1 ≠ 471 ∧ o ≠ 471 ∧ o + 1 ≠ 470) (hN : NT (h o 0) (nr h (o + 1) 0)) (hR : ∀ y9, 0 ≤ y9 → y9 < 20 → S20 (h (o + 1) y9)) (h1 : 1 ≤ h o 0) (hK : ∀ h' : am_H, (∀ x9 i9, x9 ≠ 470 → x9 ≠ 471 → h' x9 i9 = h x9 i9) → K (some (mB (chs (fun y9 => 0 ≤ y9 ∧ y9 < h o 0) (ad (nr h (o + 1) 0))))) h') : ∀ c, ∀ g : am_H, 1 ≤ c → c ≤ h o 0 → (∀ x9 i9, x9 ≠ 470 → x9 ≠ 471 → g x9 i9 = h x9 i9) → (∀ j, 1 ≤ j → j < c → ¬ COL (fun y9 => 0 ≤ y9 ∧ y9 < h o 0) (ad (nr h (o + 1) 0)) j) → am_AT 25 34 2 [some (mR 1 4 0 470), some (mR 1 3 0 o), some (mI c)] g K := by
  have hn2 := hN.2.1
  refine lp (h o 0) (fun c ih g c0 c1' f hno => ?_)
  have f0 : (am_up (h_fl g (471 : Int) 21 (0 : Int)) 470 1 c) o 0 = h o 0 := by rw [am_up_ne (by omega), h_fl_ne (by omega)]; exact f _ _ (by omega) (by omega)
  have f1 : nr (am_up (h_fl g (471 : Int) 21 (0 : Int)) 470 1 c) (o + 1) 0 = nr h (o + 1) 0 := nr_fr2 (fun i => by rw [am_up_ne (by omega), h_fl_ne (by omega)]; exact f _ _ (by omega) (by omega))
  have f2 : (am_up (h_fl g (471 : Int) 21 (0 : Int)) 470 1 c) 470 1 = c := am_up_eq
  have f3 : ∀ j, 0 ≤ j → j < 21 → (am_up (h_fl g (471 : Int) 21 (0 : Int)) 470 1 c) 471 j = 0 := fun j a b => by rw [am_up_ne (by omega)]; exact h_fl_in a b
  have g0 : g o 0 = h o 0 := f _ _ (by omega) (by omega)
  have sa := S20_all (n := h o 0) (by omega) hn2
  have pa := iPop_le20 sa
  have ba : ∀ p, bit (iShl 1 (h o 0) - 1) p ↔ 0 ≤ p ∧ p < h o 0 := fun p => bt_all (by omega) (by omega)
  have xe : (ext (fun y9 => 0 ≤ y9 ∧ y9 < (am_up (h_fl g (471 : Int) 21 (0 : Int)) 470 1 c) o 0) (bit (iShl 1 ((am_up (h_fl g (471 : Int) 21 (0 : Int)) 470 1 c) o 0) - 1)) (ad (nr (am_up (h_fl g (471 : Int) 21 (0 : Int)) 470 1 c) (o + 1) 0)) (colp (am_up (h_fl g (471 : Int) 21 (0 : Int)) 470 1 c)) ((am_up (h_fl g (471 : Int) 21 (0 : Int)) 470 1 c) 470 1) ↔ COL (fun y9 => 0 ≤ y9 ∧ y9 < h o 0) (ad (nr h (o + 1) 0)) c) := by
    rw [f0, f1, f2]
    exact COL_of (fun p s => (ba p).mpr s)
  refine T34_2 ⟨by omega, ⟨fun c1 => ?_, fun c1 => ⟨by omega, ⟨by rw [f0]; omega, ⟨by
    rw [f0, f1]
    refine ⟨⟨ho.1, ho.2.1, ho.2.2.1⟩, ⟨hN, fun y a b => by rw [am_up_ne (by omega), h_fl_ne (by omega), f _ _ (by omega) (by omega)]; exact hR y a b⟩, ⟨⟨sa, fun p z => ((ba p).mp z).2⟩, by omega, by rw [f2]; omega, fun j a b => by rw [f3 j a b]; exact S20_0, fun j p a b z => by rw [f3 j a b] at z; exact absurd z bt_zero, fun p a b z => absurd ((ba p).mpr ⟨a, b⟩) z, fun j j' p a b a' b' z z' => by rw [f3 j a b] at z; exact absurd z bt_zero⟩, by omega, by omega, by omega⟩, fun h' q2 => ⟨fun c3 => ?_, fun c3 => ⟨by omega, ?_⟩⟩⟩⟩⟩⟩⟩
  · rw [g0]
    exact am_rB (hK g f) (chs_is h1 hn2 (COL_n (fun p q e => (hN.2.2 p q e).2.2.1) (fun p s => s)) (fun j a b => hno j a (by omega)))
  · rw [q2.2 c3]
    refine ih (by omega) _ (by omega) (by omega) (fun x i a b => by rw [am_up_ne a, h_fl_ne b]; exact f x i a b) (fun j a b => ?_)
    by_cases e : j = c
    · rw [e]; exact fun z => c3 (xe.mpr z)
    · exact hno j a (by omega)
  · exact am_rB (hK h' (fun x i a b => by rw [q2.1 x i b, am_up_ne a, h_fl_ne b]; exact f x i a b)) (chs_is c0 (by omega) (xe.mp c3) hno)
theorem C34_ok : am_CS 25 34 C34 := W34 (fun o h K hb => T34_0 (L34 hb.1.1 hb.1.2.1.1 hb.1.2.1.2 hb.1.2.2 hb.2 1 h (by omega) hb.1.2.2 (fun _ _ _ _ => rfl) (fun j a b => by omega)))
/-! 127 FactorNets.colours -/
def C127 : am_K := fun as h K => am_a1 as (fun v0 => am_oc 11 0 v0 ((SV h 5) ∧ (∀ (h' : am_H), SQa (fun x9 => 470 ≤ x9 ∧ x9 ≤ 471) h h' → K (some (mB (ifc (0 < (h 6 0)) (chs (fun y9 => 0 ≤ y9 ∧ y9 < (h 6 0)) (ad (nr h 7 0))) (-2)))) (h'))))
theorem W127 {d : Nat} (H : ∀  (h : am_H) (K : Option am_V → am_H → Prop), (SV h 5) ∧ (∀ (h' : am_H), SQa (fun x9 => 470 ≤ x9 ∧ x9 ≤ 471) h h' → K (some (mB (ifc (0 < (h 6 0)) (chs (fun y9 => 0 ≤ y9 ∧ y9 < (h 6 0)) (ad (nr h 7 0))) (-2)))) (h')) → am_AT d 127 0 [some (mR 1 11 0 0)] h K) : am_CS d 127 C127 := by
  refine am_CS_of (T := tb127) (mL := 1) (rk := 1) rfl (fun as h K hC => ?_)
  obtain ⟨v0, rfl, hC0⟩ := am_a1_e hC
  obtain ⟨e0, hC1⟩ := am_oc_e hC0
  subst e0
  refine ⟨Nat.le_of_ble_eq_true rfl, ?_⟩
  exact H  h K hC1
theorem T127_0 {R : Option am_V → am_H → Prop} {h : am_H} (t : ((h 6 0 ≤ 0) → (R (some (mB (-2))) h)) ∧ ((0 < h 6 0) → ((((6 : Int) ≠ 470 ∧ (7 : Int) ≠ 471 ∧ (6 : Int) ≠ 471 ∧ (7 : Int) ≠ 470) ∧ (NT (h (6 : Int) 0) (nr h 7 0) ∧ (∀ y9, 0 ≤ y9 → y9 < 20 → S20 (h 7 y9))) ∧ 1 ≤ h (6 : Int) 0) ∧ (∀ (h' : am_H), ((∀ x9 i9, x9 ≠ 470 → x9 ≠ 471 → h' x9 i9 = h x9 i9)) → (R (some (mB (chs (fun y9 => 0 ≤ y9 ∧ y9 < h (6 : Int) 0) (ad (nr h 7 0))))) h'))))) : am_AT 26 127 0 [some (mR 1 11 0 0)] h R :=
  am_T (d := 25) (m := 127) (T := tb127) (mL := 1) (rk := 1) (cuts := []) (l := [(34, C34)]) rfl ⟨am_CS_d (by decide) C34_ok, trivial⟩ 17 (And.intro (fun c4 => (t).1 c4) (fun c4 => And.intro (rfl) (And.intro ((t).2 c4).1 (fun z2_0 z2_1 => (((t).2 c4).2) z2_0 z2_1))))
theorem C127_ok : am_CS 26 127 C127 := W127 (fun h K hb => am_AT_ok (fun hw _ => by
  refine T127_0 ⟨fun c1 => ?_, fun c1 => ⟨⟨by omega, ⟨(SV5_N hb.1).1, SV5_R hb.1 hw⟩, by omega⟩, fun h' q2 => ?_⟩⟩
  · exact am_rB (hb.2 h (SQa_of (SQ_rf hb.1))) (ifc_f (by omega))
  · exact am_rB (hb.2 h' (SQa_fr (h' := h) (SQa_of (SQ_rf hb.1)) (fun x i hx => q2 x i (by omega) (by omega)) (fun x hx => by omega))) (ifc_t c1)))
/-! 284 FactorNetsModel.canColour -/
def C284 (f : Nat) : am_K := fun as h K => am_a5 as (fun v0 v1 v2 v3 v4 => am_oc 12 571 v0 (am_n v1 (fun st => am_n v2 (fun i => am_n v3 (fun used => am_n v4 (fun most => (NT (h 572 0) (nr h 572 2) ∧ S20 st ∧ (0 ≤ i ∧ i ≤ iPop st) ∧ (0 ≤ used ∧ used ≤ 20) ∧ (0 ≤ most ∧ most ≤ 20) ∧ (∀ y9, bit st y9 → ct (bit st) y9.toNat < i → 0 ≤ h 597 y9 ∧ h 597 y9 < used) ∧ iPop st - i < f) ∧ (∀ (h' : am_H), ((∀ x9 i9, x9 ≠ 597 → h' x9 i9 = h x9 i9) ∧ ∀ y9, bit st y9 → ct (bit st) y9.toNat < i → h' 597 y9 = h 597 y9) → K (some (mP (ext (bit st) (fun y9 => bit st y9 ∧ i ≤ ct (bit st) y9.toNat) (ad (nr h 572 2)) (h 597) most))) (h'))))))))
theorem W284 {d : Nat} (f : Nat) (H : ∀ (st : Int) (i : Int) (used : Int) (most : Int) (h : am_H) (K : Option am_V → am_H → Prop), (NT (h 572 0) (nr h 572 2) ∧ S20 st ∧ (0 ≤ i ∧ i ≤ iPop st) ∧ (0 ≤ used ∧ used ≤ 20) ∧ (0 ≤ most ∧ most ≤ 20) ∧ (∀ y9, bit st y9 → ct (bit st) y9.toNat < i → 0 ≤ h 597 y9 ∧ h 597 y9 < used) ∧ iPop st - i < f) ∧ (∀ (h' : am_H), ((∀ x9 i9, x9 ≠ 597 → h' x9 i9 = h x9 i9) ∧ ∀ y9, bit st y9 → ct (bit st) y9.toNat < i → h' 597 y9 = h 597 y9) → K (some (mP (ext (bit st) (fun y9 => bit st y9 ∧ i ≤ ct (bit st) y9.toNat) (ad (nr h 572 2)) (h 597) most))) (h')) → am_AT d 284 0 [some (mR 1 12 0 571), some (mB st), some (mB i), some (mB used), some (mB most), none, none, none, none, none] h K) : am_CS d 284 (C284 f) := by
  refine am_CS_of (T := tb284) (mL := 10) (rk := 4) rfl (fun as h K hC => ?_)
  obtain ⟨v0, v1, v2, v3, v4, rfl, hC0⟩ := am_a5_e hC
  obtain ⟨e0, hC1⟩ := am_oc_e hC0
  subst e0
  obtain ⟨st, rfl, hC2⟩ := am_n_e hC1
  obtain ⟨i, rfl, hC3⟩ := am_n_e hC2
  obtain ⟨used, rfl, hC4⟩ := am_n_e hC3
  obtain ⟨most, rfl, hC5⟩ := am_n_e hC4
  refine ⟨Nat.le_of_ble_eq_true rfl, ?_⟩
  exact H st i used most h K hC5
theorem T284_0 {R : Option am_V → am_H → Prop} {h : am_H} {st : Int} {i : Int} {used : Int} {most : Int} {d f : Nat} (hd : 2 ≤ d) (hr : am_CS d 284 (C284 f)) (t : (0 ≤ i) ∧ (((¬ nthb st i = (-1)) → (am_AT (d + 1) 284 18 [some (mR 1 12 0 571), some (mB st), some (mB i), some (mB used), some (mB most), some (mI (nthb st i)), some (mI 0), none, none, none] h R)) ∧ ((nthb st i = (-1)) → (R (some (mP ((1 : Int) = 1))) h)))) : am_AT (d + 1) 284 0 [some (mR 1 12 0 571), some (mB st), some (mB i), some (mB used), some (mB most), none, none, none, none, none] h R :=
  am_T (d := d) (m := 284) (T := tb284) (mL := 10) (rk := 4) (cuts := [(18, [1, 1, 1, 1, 1, 2, 2, 0, 0, 0]), (37, [1, 1, 1, 1, 1, 2, 2, 2, 2, 0])]) (l := [(198, C198), (240, C240), (284, (C284 f))]) rfl ⟨am_CS_d (Nat.le_trans (by decide) hd) C198_ok, am_CS_d (Nat.le_trans (by decide) hd) C240_ok, hr, trivial⟩ 13 (And.intro (t).1 (And.intro (fun c5 => ((t).2).1 c5) (fun c5 => And.intro (Or.inr rfl) (((t).2).2 c5))))
theorem T284_18 {R : Option am_V → am_H → Prop} {h : am_H} {st : Int} {i : Int} {used : Int} {most : Int} {x5 : Int} {x6 : Int} {d f : Nat} (hd : 2 ≤ d) (hr : am_CS d 284 (C284 f)) (t : (R32 x6) ∧ (((most ≤ x6) → (R (some (mP ((0 : Int) = 1))) h)) ∧ ((x6 < most) → ((R32 x6) ∧ (((used < x6) → (R (some (mP ((0 : Int) = 1))) h)) ∧ ((x6 ≤ used) → (am_AT (d + 1) 284 37 [some (mR 1 12 0 571), some (mB st), some (mB i), some (mB used), some (mB most), some (mI x5), some (mI x6), some (mI 1), some (mI 0), none] h R))))))) : am_AT (d + 1) 284 18 [some (mR 1 12 0 571), some (mB st), some (mB i), some (mB used), some (mB most), some (mI x5), some (mI x6), none, none, none] h R :=
  am_T (d := d) (m := 284) (T := tb284) (mL := 10) (rk := 4) (cuts := [(18, [1, 1, 1, 1, 1, 2, 2, 0, 0, 0]), (37, [1, 1, 1, 1, 1, 2, 2, 2, 2, 0])]) (l := [(198, C198), (240, C240), (284, (C284 f))]) rfl ⟨am_CS_d (Nat.le_trans (by decide) hd) C198_ok, am_CS_d (Nat.le_trans (by decide) hd) C240_ok, hr, trivial⟩ 14 (And.intro (t).1 (And.intro (fun c6 => And.intro (Or.inl rfl) (((t).2).1 c6)) (fun c6 => And.intro (((t).2).2 c6).1 (And.intro (fun c7 => And.intro (Or.inl rfl) (((((t).2).2 c6).2).1 c7)) (fun c7 => ((((t).2).2 c6).2).2 c7)))))
theorem T284_37 {R : Option am_V → am_H → Prop} {h : am_H} {st : Int} {i : Int} {used : Int} {most : Int} {x5 : Int} {x6 : Int} {x7 : Int} {x8 : Int} {d f : Nat} (hd : 2 ≤ d) (hr : am_CS d 284 (C284 f)) (t : (R32 x8) ∧ (((i ≤ x8) → ((R32 x7) ∧ (((¬ x7 = 0) → ((0 ≤ x5 ∧ x5 < 20) ∧ ((R32 x6) ∧ ((R32 (x6 + 1)) ∧ ((R32 (i + 1)) ∧ ((NT ((am_up h 597 x5 x6) 572 0) (nr (am_up h 597 x5 x6) 572 2) ∧ S20 st ∧ (0 ≤ (i + 1) ∧ (i + 1) ≤ iPop st) ∧ (0 ≤ (max used (x6 + 1)) ∧ (max used (x6 + 1)) ≤ 20) ∧ (0 ≤ most ∧ most ≤ 20) ∧ (∀ y9, bit st y9 → ct (bit st) y9.toNat < (i + 1) → 0 ≤ (am_up h 597 x5 x6) 597 y9 ∧ (am_up h 597 x5 x6) 597 y9 < (max used (x6 + 1))) ∧ iPop st - (i + 1) < f) ∧ (∀ (h' : am_H), (((∀ x9 i9, x9 ≠ 597 → h' x9 i9 = (am_up h 597 x5 x6) x9 i9) ∧ ∀ y9, bit st y9 → ct (bit st) y9.toNat < (i + 1) → h' 597 y9 = (am_up h 597 x5 x6) 597 y9)) → (((¬ (ext (bit st) (fun y9 => bit st y9 ∧ (i + 1) ≤ ct (bit st) y9.toNat) (ad (nr (am_up h 597 x5 x6) 572 2)) ((am_up h 597 x5 x6) 597) most)) → (am_AT (d + 1) 284 18 [some (mR 1 12 0 571), some (mB st), some (mB i), some (mB used), some (mB most), some (mI x5), some (mI (x6 + 1)), none, none, none] h' R)) ∧ ((ext (bit st) (fun y9 => bit st y9 ∧ (i + 1) ≤ ct (bit st) y9.toNat) (ad (nr (am_up h 597 x5 x6) 572 2)) ((am_up h 597 x5 x6) 597) most) → (R (some (mP ((1 : Int) = 1))) h')))))))))) ∧ ((x7 = 0) → (am_AT (d + 1) 284 18 [some (mR 1 12 0 571), some (mB st), some (mB i), some (mB used), some (mB most), some (mI x5), some (mI (x6 + 1)), none, none, none] h R))))) ∧ ((x8 < i) → ((R32 x8) ∧ ((0 ≤ x8) ∧ ((R32 x7) ∧ (((x7 = 0) → (am_AT (d + 1) 284 37 [some (mR 1 12 0 571), some (mB st), some (mB i), some (mB used), some (mB most), some (mI x5), some (mI x6), some (mI 0), some (mI (x8 + 1)), none] h R)) ∧ ((¬ x7 = 0) → ((R32 x5) ∧ (((0 ≤ x5 ∧ x5 < 20) ∧ (0 ≤ (nthb st x8) ∧ (nthb st x8) < 32)) ∧ (((¬ (bit (h 572 (2 + x5)) (nthb st x8))) → (am_AT (d + 1) 284 37 [some (mR 1 12 0 571), some (mB st), some (mB i), some (mB used), some (mB most), some (mI x5), some (mI x6), some (mI 1), some (mI (x8 + 1)), none] h R)) ∧ ((bit (h 572 (2 + x5)) (nthb st x8)) → ((0 ≤ nthb st x8 ∧ nthb st x8 < 20) ∧ ((R32 x6) ∧ (((h 597 (nthb st x8) = x6) → (am_AT (d + 1) 284 37 [some (mR 1 12 0 571), some (mB st), some (mB i), some (mB used), some (mB most), some (mI x5), some (mI x6), some (mI 0), some (mI (x8 + 1)), none] h R)) ∧ ((¬ h 597 (nthb st x8) = x6) → (am_AT (d + 1) 284 37 [some (mR 1 12 0 571), some (mB st), some (mB i), some (mB used), some (mB most), some (mI x5), some (mI x6), some (mI 1), some (mI (x8 + 1)), none] h R))))))))))))))))) : am_AT (d + 1) 284 37 [some (mR 1 12 0 571), some (mB st), some (mB i), some (mB used), some (mB most), some (mI x5), some (mI x6), some (mI x7), some (mI x8), none] h R :=
  am_T (d := d) (m := 284) (T := tb284) (mL := 10) (rk := 4) (cuts := [(18, [1, 1, 1, 1, 1, 2, 2, 0, 0, 0]), (37, [1, 1, 1, 1, 1, 2, 2, 2, 2, 0])]) (l := [(198, C198), (240, C240), (284, (C284 f))]) rfl ⟨am_CS_d (Nat.le_trans (by decide) hd) C198_ok, am_CS_d (Nat.le_trans (by decide) hd) C240_ok, hr, trivial⟩ 29 (And.intro (t).1 (And.intro (fun c8 => And.intro (((t).2).1 c8).1 (And.intro (fun c9 => And.intro (((((t).2).1 c8).2).1 c9).1 (And.intro ((((((t).2).1 c8).2).1 c9).2).1 (And.intro (((((((t).2).1 c8).2).1 c9).2).2).1 (And.intro ((((((((t).2).1 c8).2).1 c9).2).2).2).1 (And.intro (rfl) (And.intro (((((((((t).2).1 c8).2).1 c9).2).2).2).2).1 (fun z3_0 z3_1 => And.intro (fun c10 => (((((((((((t).2).1 c8).2).1 c9).2).2).2).2).2) z3_0 z3_1).1 c10) (fun c10 => And.intro (Or.inr rfl) ((((((((((((t).2).1 c8).2).1 c9).2).2).2).2).2) z3_0 z3_1).2 c10))))))))) (fun c9 => ((((t).2).1 c8).2).2 c9))) (fun c8 => And.intro (((t).2).2 c8).1 (And.intro ((((t).2).2 c8).2).1 (And.intro (((((t).2).2 c8).2).2).1 (And.intro (fun c11 => ((((((t).2).2 c8).2).2).2).1 c11) (fun c11 => And.intro (((((((t).2).2 c8).2).2).2).2 c11).1 (And.intro (rfl) (And.intro ((((((((t).2).2 c8).2).2).2).2 c11).2).1 (And.intro (fun c12 => (((((((((t).2).2 c8).2).2).2).2 c11).2).2).1 c12) (fun c12 => And.intro ((((((((((t).2).2 c8).2).2).2).2 c11).2).2).2 c12).1 (And.intro (((((((((((t).2).2 c8).2).2).2).2 c11).2).2).2 c12).2).1 (And.intro (fun c13 => ((((((((((((t).2).2 c8).2).2).2).2 c11).2).2).2 c12).2).2).1 c13) (fun c13 => ((((((((((((t).2).2 c8).2).2).2).2 c11).2).2).2 c12).2).2).2 c13))))))))))))))
theorem L284b {d f : Nat} (hd : 2 ≤ d) (hr : am_CS d 284 (C284 f)) {K : Option am_V → am_H → Prop} {h : am_H} {st i used most : Int} (hN : NT (h 572 0) (nr h 572 2)) (hs : S20 st) (hi : 0 ≤ i ∧ i < iPop st) (hu : 0 ≤ used ∧ used ≤ 20) (hm : 0 ≤ most ∧ most ≤ 20) (hc : ∀ y9, bit st y9 → ct (bit st) y9.toNat < i → 0 ≤ h 597 y9 ∧ h 597 y9 < used) (hf : iPop st - i < (f + 1 : Nat)) (hK : ∀ g : am_H, ((∀ x9 i9, x9 ≠ 597 → g x9 i9 = h x9 i9) ∧ ∀ y9, bit st y9 → ct (bit st) y9.toNat < i → g 597 y9 = h 597 y9) → K (some (mP (ext (bit st) (fun y9 => bit st y9 ∧ i ≤ ct (bit st) y9.toNat) (ad (nr h 572 2)) (h 597) most))) g) {c : Int} (c0 : 0 ≤ c) (cu : c ≤ used) (cm : c < most) (nx : ∀ g : am_H, ((∀ x9 i9, x9 ≠ 597 → g x9 i9 = h x9 i9) ∧ ∀ y9, bit st y9 → ct (bit st) y9.toNat < i → g 597 y9 = h 597 y9) → ¬ exG (bit st) (fun y9 => bit st y9 ∧ i ≤ ct (bit st) y9.toNat) (ad (nr h 572 2)) (h 597) most (nthb st i) c → am_AT (d + 1) 284 18 [some (mR 1 12 0 571), some (mB st), some (mB i), some (mB used), some (mB most), some (mI (nthb st i)), some (mI (c + 1)), none, none, none] g K) {g : am_H} (F : ((∀ x9 i9, x9 ≠ 597 → g x9 i9 = h x9 i9) ∧ ∀ y9, bit st y9 → ct (bit st) y9.toNat < i → g 597 y9 = h 597 y9)) (st0 : ext (bit st) (fun y9 => bit st y9 ∧ i ≤ ct (bit st) y9.toNat) (ad (nr h 572 2)) (h 597) most ↔ exA (bit st) (fun y9 => bit st y9 ∧ i ≤ ct (bit st) y9.toNat) (ad (nr h 572 2)) (h 597) most (nthb st i) used) : ∀ k, ∀ x : Int, 0 ≤ k → k ≤ i → ((x = 1 ∧ ∀ j, 0 ≤ j → j < k → ¬ (ad (nr h 572 2) (nthb st i) (nthb st j) ∧ h 597 (nthb st j) = c)) ∨ (x = 0 ∧ ¬ ∀ j, 0 ≤ j → j < k → ¬ (ad (nr h 572 2) (nthb st i) (nthb st j) ∧ h 597 (nthb st j) = c))) → am_AT (d + 1) 284 37 [some (mR 1 12 0 571), some (mB st), some (mB i), some (mB used), some (mB most), some (mI (nthb st i)), some (mI c), some (mI x), some (mI k), none] g K := by
  have hn2 := hN.2.1
  have pp := iPop_le20 hs
  have pi := nthb_in hs hi.1 hi.2
  have pa := nthb_at hs hi.1 hi.2
  have onl : ∀ y, bit st y → ct (bit st) y.toNat = i → y = nthb st i := fun y a b => by rw [← b, nthb_ct (S20_in hs a) a]
  have f1 : nr (am_up g 597 (nthb st i) c) 572 2 = nr h 572 2 := nr_fr2 (fun j => by rw [am_up_ne (by omega)]; exact F.1 _ _ (by omega))
  have f0 : am_up g 597 (nthb st i) c 572 0 = h 572 0 := by rw [am_up_ne (by omega)]; exact F.1 _ _ (by omega)
  have xe : (ext (bit st) (fun y9 => bit st y9 ∧ (i + 1) ≤ ct (bit st) y9.toNat) (ad (nr (am_up g 597 (nthb st i) c) 572 2)) ((am_up g 597 (nthb st i) c) 597) most ↔ ext (bit st) (fun y9 => (bit st y9 ∧ i ≤ ct (bit st) y9.toNat) ∧ y9 ≠ nthb st i) (ad (nr h 572 2)) (up1 (h 597) (nthb st i) c) most) := by
    rw [f1]
    refine ext_congr (fun y s => ⟨fun z => ⟨⟨s, by have := z.2; omega⟩, fun e => ?_⟩, fun z => ⟨s, ?_⟩⟩) (fun y s z => ?_)
    · have := z.2
      rw [e, pa] at this
      omega
    · have h1 := z.1.2
      have h2 : ct (bit st) y.toNat ≠ i := fun e => z.2 (onl y s e)
      omega
    · by_cases e : y = nthb st i
      · rw [e, am_up_eq, up1_eq]
      · rw [am_up_n2 (fun q => e q.2), up1_ne e]
        have h2 : ct (bit st) y.toNat ≠ i := fun e' => e (onl y s e')
        have h3 : ¬ (i + 1 ≤ ct (bit st) y.toNat) := fun q => z ⟨s, q⟩
        exact F.2 y s (by omega)
  have cond : (∀ j, 0 ≤ j → j < i → ¬ (ad (nr h 572 2) (nthb st i) (nthb st j) ∧ h 597 (nthb st j) = c)) ↔ (∀ q, bit st q → ¬ (bit st q ∧ i ≤ ct (bit st) q.toNat) → ad (nr h 572 2) (nthb st i) q → h 597 q ≠ c) := by
    constructor
    · intro z q a b e w
      have l := ct_lt_20 hs a
      have lt : ct (bit st) q.toNat < i := Classical.byContradiction fun y => b ⟨a, by omega⟩
      have n := nthb_ct (S20_in hs a) a
      refine z _ l.1 lt ?_
      rw [n]
      exact ⟨e, w⟩
    · intro z j a b w
      have nj := nthb_in hs a (show j < iPop st by omega)
      have aj := nthb_at hs a (show j < iPop st by omega)
      refine z _ nj.1 (fun q => ?_) w.1 w.2
      have := q.2
      omega
  refine lp i (fun k ih x k0 k1 hv => ?_)
  have hx : x = 0 ∨ x = 1 := by rcases hv with v | v; exact Or.inr v.1; exact Or.inl v.1
  have nk : k < i → bit st (nthb st k) ∧ (0 ≤ nthb st k ∧ nthb st k < 20) ∧ g 597 (nthb st k) = h 597 (nthb st k) := fun a => by
    have nj := nthb_in hs k0 (show k < iPop st by omega)
    have aj := nthb_at hs k0 (show k < iPop st by omega)
    exact ⟨nj.1, nj.2, F.2 _ nj.1 (by omega)⟩
  have ea : bit (g 572 (2 + nthb st i)) (nthb st k) ↔ ad (nr h 572 2) (nthb st i) (nthb st k) := by
    rw [F.1 _ _ (by omega)]
    unfold ad
    rw [nr_in pi.2.1 pi.2.2]
  have good : k < i → x = 1 → ¬ (ad (nr h 572 2) (nthb st i) (nthb st k) ∧ h 597 (nthb st k) = c) → am_AT (d + 1) 284 37 [some (mR 1 12 0 571), some (mB st), some (mB i), some (mB used), some (mB most), some (mI (nthb st i)), some (mI c), some (mI 1), some (mI (k + 1)), none] g K := fun a b e => by
    refine ih a 1 (by omega) (by omega) (Or.inl ⟨rfl, fun j j0 j1 => ?_⟩)
    by_cases w : j = k
    · rw [w]; exact e
    · rcases hv with v | v
      · exact v.2 j j0 (by omega)
      · omega
  refine T284_37 hd hr ⟨by omega, ⟨fun c1 => ⟨by omega, ⟨fun c2 => ⟨by omega, ⟨by omega, ⟨by omega, ⟨by omega, ⟨by
    rw [f0, f1]
    refine ⟨hN, hs, by omega, by omega, hm, fun y a b => ?_, by omega⟩
    by_cases e : y = nthb st i
    · rw [e, am_up_eq]; omega
    · have h2 : ct (bit st) y.toNat ≠ i := fun e' => e (onl y a e')
      rw [am_up_n2 (fun q => e q.2), F.2 y a (by omega)]
      have := hc y a (by omega)
      omega, fun h' q3 => ⟨fun c4 => ?_, fun c4 => ?_⟩⟩⟩⟩⟩⟩, fun c2 => ?_⟩⟩, fun c1 => ⟨by omega, ⟨by omega, ⟨by omega, ⟨fun c2 => ?_, fun c2 => ⟨by omega, ⟨by have := nk (by omega); omega, ⟨fun c3 => ?_, fun c3 => ⟨by have := nk (by omega); omega, ⟨by omega, ⟨fun c4 => ?_, fun c4 => ?_⟩⟩⟩⟩⟩⟩⟩⟩⟩⟩⟩⟩
  · rw [xe] at c4
    refine nx h' ⟨fun x9 i9 a => by rw [q3.1 x9 i9 a, am_up_ne a]; exact F.1 x9 i9 a, fun y a b => ?_⟩ (fun z => c4 z.2)
    rw [q3.2 y a (by omega), am_up_n2 (fun q => by rw [q.2, pa] at b; omega)]
    exact F.2 y a b
  · rw [xe] at c4
    have v1 : ∀ j, 0 ≤ j → j < i → ¬ (ad (nr h 572 2) (nthb st i) (nthb st j) ∧ h 597 (nthb st j) = c) := by
      rcases hv with v | v
      · exact fun j a b => v.2 j a (by omega)
      · exact absurd v.1 c2
    have w := st0.mpr (exA_i ⟨c0, cu, cm⟩ ⟨cond.mp v1, c4⟩)
    refine am_rb1 (hK h' ⟨fun x9 i9 a => by rw [q3.1 x9 i9 a, am_up_ne a]; exact F.1 x9 i9 a, fun y a b => ?_⟩) w
    rw [q3.2 y a (by omega), am_up_n2 (fun q => by rw [q.2, pa] at b; omega)]
    exact F.2 y a b
  · refine nx g F (fun z => ?_)
    rcases hv with v | v
    · omega
    · exact v.2 (fun j a b => cond.mpr z.1 j a (by omega))
  · refine ih (by omega) 0 (by omega) (by omega) (Or.inr ⟨rfl, fun z => ?_⟩)
    rcases hv with v | v
    · omega
    · exact v.2 (fun j a b => z j a (by omega))
  · exact good (by omega) (by omega) (fun z => c3 (ea.mpr z.1))
  · rw [(nk (by omega)).2.2] at c4
    exact ih (by omega) 0 (by omega) (by omega) (Or.inr ⟨rfl, fun z => z k k0 (by omega) ⟨ea.mp c3, c4⟩⟩)
  · rw [(nk (by omega)).2.2] at c4
    exact good (by omega) (by omega) (fun z => c4 z.2)
theorem L284 {d f : Nat} (hd : 2 ≤ d) (hr : am_CS d 284 (C284 f)) {K : Option am_V → am_H → Prop} {h : am_H} {st i used most : Int} (hN : NT (h 572 0) (nr h 572 2)) (hs : S20 st) (hi : 0 ≤ i ∧ i < iPop st) (hu : 0 ≤ used ∧ used ≤ 20) (hm : 0 ≤ most ∧ most ≤ 20) (hc : ∀ y9, bit st y9 → ct (bit st) y9.toNat < i → 0 ≤ h 597 y9 ∧ h 597 y9 < used) (hf : iPop st - i < (f + 1 : Nat)) (hK : ∀ g : am_H, ((∀ x9 i9, x9 ≠ 597 → g x9 i9 = h x9 i9) ∧ ∀ y9, bit st y9 → ct (bit st) y9.toNat < i → g 597 y9 = h 597 y9) → K (some (mP (ext (bit st) (fun y9 => bit st y9 ∧ i ≤ ct (bit st) y9.toNat) (ad (nr h 572 2)) (h 597) most))) g) : ∀ c, ∀ g : am_H, 0 ≤ c → c ≤ used + 1 → ((∀ x9 i9, x9 ≠ 597 → g x9 i9 = h x9 i9) ∧ ∀ y9, bit st y9 → ct (bit st) y9.toNat < i → g 597 y9 = h 597 y9) → (∀ j, 0 ≤ j → j < c → ¬ exG (bit st) (fun y9 => bit st y9 ∧ i ≤ ct (bit st) y9.toNat) (ad (nr h 572 2)) (h 597) most (nthb st i) j) → am_AT (d + 1) 284 18 [some (mR 1 12 0 571), some (mB st), some (mB i), some (mB used), some (mB most), some (mI (nthb st i)), some (mI c), none, none, none] g K := by
  have pi := nthb_in hs hi.1 hi.2
  have pa := nthb_at hs hi.1 hi.2
  have st0 := ext_step (S := bit st) (O := fun y9 => bit st y9 ∧ i ≤ ct (bit st) y9.toNat) (E := ad (nr h 572 2)) (col := h 597) (m := most) (pt := nthb st i) (u := used) (NT_sym hN) (fun p q e => (hN.2.2 p q e).2.2.1) pi.1 ⟨pi.1, by omega⟩ hu.1 (fun p a b => hc p a (Classical.byContradiction fun y => b ⟨a, by omega⟩))
  refine lp (used + 1) (fun c ih g c0 c1' F hno => ?_)
  refine T284_18 hd hr ⟨by omega, ⟨fun c1 => ?_, fun c1 => ⟨by omega, ⟨fun c2 => ?_, fun c2 => ?_⟩⟩⟩⟩
  · exact am_rb0 (hK g F) (fun z => by
      obtain ⟨j, j1, j2⟩ := st0.mp z
      exact hno j j1.1 (by omega) j2)
  · exact am_rb0 (hK g F) (fun z => by
      obtain ⟨j, j1, j2⟩ := st0.mp z
      exact hno j j1.1 (by omega) j2)
  · refine L284b hd hr hN hs hi hu hm hc hf hK c0 c2 c1 (fun g' F' e => ih (by omega) g' (by omega) (by omega) F' (fun j a b => ?_)) F st0 0 1 (by omega) (by omega) (Or.inl ⟨rfl, fun j a b => by omega⟩)
    by_cases w : j = c
    · rw [w]; exact e
    · exact hno j a (by omega)
theorem C284_ok : ∀ f : Nat, am_CS (f + 3) 284 (C284 f)
  | 0 => W284 0 (fun st i used most h K hb => by
    have h1 := hb.1.2.2.1
    have h2 := hb.1.2.2.2.2.2.2
    exfalso
    omega)
  | f + 1 => W284 (f + 1) (fun st i used most h K hb => by
    obtain ⟨⟨hN, hs, hi, hu, hm, hc, hf⟩, hK⟩ := hb
    have hr := C284_ok f
    have hd : 2 ≤ f + 3 := by omega
    refine T284_0 hd hr ⟨by omega, ⟨fun c1 => ?_, fun c1 => ?_⟩⟩
    · have lt : i < iPop st := Classical.byContradiction fun z => c1 (nthb_no hs (by omega))
      exact L284 hd hr hN hs ⟨hi.1, lt⟩ hu hm hc hf hK 0 h (by omega) (by omega) ⟨fun _ _ _ => rfl, fun _ _ _ => rfl⟩ (fun j a b => by omega)
    · have ge : iPop st ≤ i := Classical.byContradiction fun z => by have := (nthb_in hs hi.1 (by omega)).2; omega
      have no : ∀ p, bit st p → ¬ (bit st p ∧ i ≤ ct (bit st) p.toNat) := fun p a z => by
        have := ct_lt_20 hs a
        have := z.2
        omega
      exact am_rb1 (hK h ⟨fun _ _ _ => rfl, fun _ _ _ => rfl⟩) ⟨h 597, fun _ _ _ => rfl, fun p a b => absurd b (no p a), fun p q a _ _ b => absurd b (no p a)⟩)
def C284b : am_K := fun as h K => am_a5 as (fun v0 v1 v2 v3 v4 => am_oc 12 571 v0 (am_n v1 (fun st => am_n v2 (fun i => am_n v3 (fun used => am_n v4 (fun most => (NT (h 572 0) (nr h 572 2) ∧ S20 st ∧ (0 ≤ i ∧ i ≤ iPop st) ∧ (0 ≤ used ∧ used ≤ 20) ∧ (0 ≤ most ∧ most ≤ 20) ∧ (∀ y9, bit st y9 → ct (bit st) y9.toNat < i → 0 ≤ h 597 y9 ∧ h 597 y9 < used) ∧ iPop st - i < 21) ∧ (∀ (h' : am_H), ((∀ x9 i9, x9 ≠ 597 → h' x9 i9 = h x9 i9) ∧ ∀ y9, bit st y9 → ct (bit st) y9.toNat < i → h' 597 y9 = h 597 y9) → K (some (mP (ext (bit st) (fun y9 => bit st y9 ∧ i ≤ ct (bit st) y9.toNat) (ad (nr h 572 2)) (h 597) most))) (h'))))))))
theorem C284b_ok : am_CS 24 284 C284b := C284_ok 21
/-! 285 FactorNetsModel.coloursOf -/
def C285 : am_K := fun as h K => am_a2 as (fun v0 v1 => am_oc 12 571 v0 (am_n v1 (fun st => (NT (h 572 0) (nr h 572 2) ∧ S20 st) ∧ (∀ (h' : am_H), (∀ x9 i9, x9 ≠ 597 → h' x9 i9 = h x9 i9) → K (some (mB (chs (bit st) (ad (nr h 572 2))))) (h')))))
theorem W285 {d : Nat} (H : ∀ (st : Int) (h : am_H) (K : Option am_V → am_H → Prop), (NT (h 572 0) (nr h 572 2) ∧ S20 st) ∧ (∀ (h' : am_H), (∀ x9 i9, x9 ≠ 597 → h' x9 i9 = h x9 i9) → K (some (mB (chs (bit st) (ad (nr h 572 2))))) (h')) → am_AT d 285 0 [some (mR 1 12 0 571), some (mB st), none] h K) : am_CS d 285 C285 := by
  refine am_CS_of (T := tb285) (mL := 3) (rk := 1) rfl (fun as h K hC => ?_)
  obtain ⟨v0, v1, rfl, hC0⟩ := am_a2_e hC
  obtain ⟨e0, hC1⟩ := am_oc_e hC0
  subst e0
  obtain ⟨st, rfl, hC2⟩ := am_n_e hC1
  refine ⟨Nat.le_of_ble_eq_true rfl, ?_⟩
  exact H st h K hC2
theorem T285_0 {R : Option am_V → am_H → Prop} {h : am_H} {st : Int} (t : am_AT 25 285 2 [some (mR 1 12 0 571), some (mB st), some (mI 1)] h R) : am_AT 25 285 0 [some (mR 1 12 0 571), some (mB st), none] h R :=
  am_T (d := 24) (m := 285) (T := tb285) (mL := 3) (rk := 1) (cuts := [(2, [1, 1, 2])]) (l := [(284, C284b)]) rfl ⟨am_CS_d (by decide) C284b_ok, trivial⟩ 6 (t)
theorem T285_2 {R : Option am_V → am_H → Prop} {h : am_H} {st : Int} {x2 : Int} (t : (R32 x2) ∧ ((NT (h 572 0) (nr h 572 2) ∧ S20 st ∧ (0 ≤ (0 : Int) ∧ (0 : Int) ≤ iPop st) ∧ (0 ≤ (0 : Int) ∧ (0 : Int) ≤ 20) ∧ (0 ≤ x2 ∧ x2 ≤ 20) ∧ (∀ y9, bit st y9 → ct (bit st) y9.toNat < (0 : Int) → 0 ≤ h 597 y9 ∧ h 597 y9 < (0 : Int)) ∧ iPop st - (0 : Int) < 21) ∧ (∀ (h' : am_H), (((∀ x9 i9, x9 ≠ 597 → h' x9 i9 = h x9 i9) ∧ ∀ y9, bit st y9 → ct (bit st) y9.toNat < (0 : Int) → h' 597 y9 = h 597 y9)) → (((ext (bit st) (fun y9 => bit st y9 ∧ (0 : Int) ≤ ct (bit st) y9.toNat) (ad (nr h 572 2)) (h 597) x2) → ((R32 x2) ∧ (R (some (mB x2)) h'))) ∧ ((¬ (ext (bit st) (fun y9 => bit st y9 ∧ (0 : Int) ≤ ct (bit st) y9.toNat) (ad (nr h 572 2)) (h 597) x2)) → (am_AT 25 285 2 [some (mR 1 12 0 571), some (mB st), some (mI (x2 + 1))] h' R)))))) : am_AT 25 285 2 [some (mR 1 12 0 571), some (mB st), some (mI x2)] h R :=
  am_T (d := 24) (m := 285) (T := tb285) (mL := 3) (rk := 1) (cuts := [(2, [1, 1, 2])]) (l := [(284, C284b)]) rfl ⟨am_CS_d (by decide) C284b_ok, trivial⟩ 13 (And.intro (t).1 (And.intro (rfl) (And.intro ((t).2).1 (fun z4_0 z4_1 => And.intro (fun c14 => And.intro (((((t).2).2) z4_0 z4_1).1 c14).1 ((((((t).2).2) z4_0 z4_1).1 c14).2)) (fun c14 => ((((t).2).2) z4_0 z4_1).2 c14)))))
theorem L285 {K : Option am_V → am_H → Prop} {h : am_H} {st : Int} (hN : NT (h 572 0) (nr h 572 2)) (hs : S20 st) (hK : ∀ g : am_H, (∀ x9 i9, x9 ≠ 597 → g x9 i9 = h x9 i9) → K (some (mB (chs (bit st) (ad (nr h 572 2))))) g) : ∀ c, ∀ g : am_H, 1 ≤ c → c ≤ 20 → (∀ x9 i9, x9 ≠ 597 → g x9 i9 = h x9 i9) → (∀ j, 1 ≤ j → j < c → ¬ COL (bit st) (ad (nr h 572 2)) j) → am_AT 25 285 2 [some (mR 1 12 0 571), some (mB st), some (mI c)] g K := by
  have pp := iPop_le20 hs
  have hI : ∀ p q, ad (nr h 572 2) p q → p ≠ q := fun p q e => (hN.2.2 p q e).2.2.1
  refine lp 20 (fun c ih g c0 c1' F hno => ?_)
  have f1 : nr g 572 2 = nr h 572 2 := nr_fr2 (fun j => F _ _ (by omega))
  have f0 : g 572 0 = h 572 0 := F _ _ (by omega)
  have xe : ext (bit st) (fun y9 => bit st y9 ∧ (0 : Int) ≤ ct (bit st) y9.toNat) (ad (nr g 572 2)) (g 597) c ↔ COL (bit st) (ad (nr h 572 2)) c := by
    rw [f1]
    exact COL_of (fun p s => ⟨s, (ct_le _ _).1⟩)
  refine T285_2 ⟨by omega, ⟨by
    rw [f0, f1]
    exact ⟨hN, hs, by omega, by omega, by omega, fun y _ b => by have := (ct_le (bit st) y.toNat).1; omega, by omega⟩, fun h' q1 => ⟨fun c2 => ⟨by omega, ?_⟩, fun c2 => ?_⟩⟩⟩
  · exact am_rB (hK h' (fun x i a => by rw [q1.1 x i a]; exact F x i a)) (chs_is c0 c1' (xe.mp c2) hno)
  · have lt : c < 20 := Classical.byContradiction fun z => c2 (xe.mpr (COL_n hI (fun p s => by have := S20_in hs s; omega)))
    refine ih lt h' (by omega) (by omega) (fun x i a => by rw [q1.1 x i a]; exact F x i a) (fun j a b => ?_)
    by_cases e : j = c
    · rw [e]; exact fun z => c2 (xe.mpr z)
    · exact hno j a (by omega)
theorem C285_ok : am_CS 25 285 C285 := W285 (fun st h K hb => T285_0 (L285 hb.1.1 hb.1.2 hb.2 1 h (by omega) (by omega) (fun _ _ _ => rfl) (fun j a b => by omega)))
/-! 286 FactorNetsModel.colours -/
def C286 : am_K := fun as h K => am_a1 as (fun v0 => am_oc 12 571 v0 ((RIv h) ∧ (∀ (h' : am_H), RQ h h' → K (some (mB (ifc (0 < (h 572 0)) (chs (fun y9 => 0 ≤ y9 ∧ y9 < (h 572 0)) (ad (nr h 572 2))) (-2)))) (h'))))
theorem W286 {d : Nat} (H : ∀  (h : am_H) (K : Option am_V → am_H → Prop), (RIv h) ∧ (∀ (h' : am_H), RQ h h' → K (some (mB (ifc (0 < (h 572 0)) (chs (fun y9 => 0 ≤ y9 ∧ y9 < (h 572 0)) (ad (nr h 572 2))) (-2)))) (h')) → am_AT d 286 0 [some (mR 1 12 0 571)] h K) : am_CS d 286 C286 := by
  refine am_CS_of (T := tb286) (mL := 1) (rk := 1) rfl (fun as h K hC => ?_)
  obtain ⟨v0, rfl, hC0⟩ := am_a1_e hC
  obtain ⟨e0, hC1⟩ := am_oc_e hC0
  subst e0
  refine ⟨Nat.le_of_ble_eq_true rfl, ?_⟩
  exact H  h K hC1
theorem T286_0 {R : Option am_V → am_H → Prop} {h : am_H} (t : ((¬ (0 < h 572 0)) → (R (some (mB (-2))) h)) ∧ ((0 < h 572 0) → ((0 ≤ (h 572 0) ∧ (h 572 0) ≤ 20) ∧ ((NT (h 572 0) (nr h 572 2) ∧ S20 (iShl 1 (h 572 0) - 1)) ∧ (∀ (h' : am_H), ((∀ x9 i9, x9 ≠ 597 → h' x9 i9 = h x9 i9)) → (R (some (mB (chs (bit (iShl 1 (h 572 0) - 1)) (ad (nr h 572 2))))) h')))))) : am_AT 26 286 0 [some (mR 1 12 0 571)] h R :=
  am_T (d := 25) (m := 286) (T := tb286) (mL := 1) (rk := 1) (cuts := []) (l := [(209, C209), (266, C266), (285, C285)]) rfl ⟨am_CS_d (by decide) C209_ok, am_CS_d (by decide) C266_ok, am_CS_d (by decide) C285_ok, trivial⟩ 13 (And.intro (rfl) (And.intro (fun c15 => (t).1 c15) (fun c15 => And.intro (rfl) (And.intro ((t).2 c15).1 (And.intro (rfl) (And.intro (((t).2 c15).2).1 (fun z5_0 z5_1 => ((((t).2 c15).2).2) z5_0 z5_1)))))))
theorem RQ_597 {h g : am_H} (H : RIv h) (f : ∀ x9 i9, x9 ≠ 597 → g x9 i9 = h x9 i9) : RQ h g := RQ_fr (RQ_rf H) (fun x i hx => f x i (by unfold PR at hx; omega))
theorem C286_ok : am_CS 26 286 C286 := W286 (fun h K hb => by
  have hN := hb.1.1
  have hn1 := hN.1
  have hn2 := hN.2.1
  refine T286_0 ⟨fun c1 => ?_, fun c1 => ⟨by omega, ⟨⟨hN, S20_all hn1 hn2⟩, fun h' q2 => ?_⟩⟩⟩
  · exact am_rB (hb.2 h (RQ_rf hb.1)) (ifc_f c1)
  · rw [all_fn hn1 hn2]
    exact am_rB (hb.2 h' (RQ_597 hb.1 q2)) (ifc_t c1))
/-! 287 FactorNetsModel.partColours -/
def C287 : am_K := fun as h K => am_a2 as (fun v0 v1 => am_oc 12 571 v0 (am_n v1 (fun k => (RIv h) ∧ (∀ (h' : am_H), RQ h h' → K (some (mB (ifc (0 ≤ k ∧ k < ncl (ptE (nr h 572 2)) (nl (nr h 572 2))) (chs (bit (lay (nr h 572 2) k 0)) (ad (nr h 572 2))) (-2)))) (h')))))
theorem W287 {d : Nat} (H : ∀ (k : Int) (h : am_H) (K : Option am_V → am_H → Prop), (RIv h) ∧ (∀ (h' : am_H), RQ h h' → K (some (mB (ifc (0 ≤ k ∧ k < ncl (ptE (nr h 572 2)) (nl (nr h 572 2))) (chs (bit (lay (nr h 572 2) k 0)) (ad (nr h 572 2))) (-2)))) (h')) → am_AT d 287 0 [some (mR 1 12 0 571), some (mB k)] h K) : am_CS d 287 C287 := by
  refine am_CS_of (T := tb287) (mL := 2) (rk := 1) rfl (fun as h K hC => ?_)
  obtain ⟨v0, v1, rfl, hC0⟩ := am_a2_e hC
  obtain ⟨e0, hC1⟩ := am_oc_e hC0
  subst e0
  obtain ⟨k, rfl, hC2⟩ := am_n_e hC1
  refine ⟨Nat.le_of_ble_eq_true rfl, ?_⟩
  exact H k h K hC2
theorem T287_0 {R : Option am_V → am_H → Prop} {h : am_H} {k : Int} (t : (RIv h) ∧ (∀ (h' : am_H), (LD h h') → (((¬ (0 ≤ k ∧ k < ncl (ptE (nr h 572 2)) (nl (nr h 572 2)))) → (R (some (mB (-2))) h')) ∧ ((0 ≤ k ∧ k < ncl (ptE (nr h 572 2)) (nl (nr h 572 2))) → (((NT (h' 572 0) (nr h' 572 2) ∧ CN (h' 572 0) (nr h' 572 2) ∧ RLd h' (h' 572 0) (nr h' 572 2)) ∧ (0 ≤ (0 : Int) ∧ (0 : Int) < (h' 572 0))) ∧ ((NT (h' 572 0) (nr h' 572 2) ∧ S20 (mkb (rc (RA (nr h' 572 2) (fun x => ¬ (x = k ↔ ((0 : Int) = 1)))) (0 : Int)))) ∧ (∀ (h'_1 : am_H), ((∀ x9 i9, x9 ≠ 597 → h'_1 x9 i9 = h' x9 i9)) → (R (some (mB (chs (bit (mkb (rc (RA (nr h' 572 2) (fun x => ¬ (x = k ↔ ((0 : Int) = 1)))) (0 : Int)))) (ad (nr h' 572 2))))) h'_1)))))))) : am_AT 26 287 0 [some (mR 1 12 0 571), some (mB k)] h R :=
  am_T (d := 25) (m := 287) (T := tb287) (mL := 2) (rk := 1) (cuts := []) (l := [(222, C222), (237, C237), (285, C285)]) rfl ⟨am_CS_d (by decide) C222_ok, am_CS_d (by decide) C237_ok, am_CS_d (by decide) C285_ok, trivial⟩ 17 (And.intro (rfl) (And.intro (t).1 (fun z6_0 z6_1 => And.intro (fun c16 => (((t).2) z6_0 z6_1).1 c16) (fun c16 => And.intro (rfl) (And.intro (Or.inl rfl) (And.intro ((((t).2) z6_0 z6_1).2 c16).1 (And.intro (rfl) (And.intro (((((t).2) z6_0 z6_1).2 c16).2).1 (fun z7_0 z7_1 => ((((((t).2) z6_0 z6_1).2 c16).2).2) z7_0 z7_1)))))))))
theorem C287_ok : am_CS 26 287 C287 := W287 (fun k h K hb => by
  refine T287_0 ⟨hb.1, fun h' q1 => ⟨fun c2 => ?_, fun c2 => ⟨by
    have A := LD_a q1
    have := np_0 A.1 c2.1 (by rw [q1.2.1]; exact c2.2)
    exact ⟨A, by omega, this⟩, ⟨⟨(LD_a q1).1, S20_mk _⟩, fun h'_1 q3 => ?_⟩⟩⟩⟩
  · exact am_rB (hb.2 h' (LD_q q1)) (ifc_f c2)
  · rw [RA_0, q1.2.1]
    exact am_rB (hb.2 h'_1 (LD_fr q1 (fun x i hx => q3 x i (by unfold PR at hx; omega)))) (ifc_t c2))
