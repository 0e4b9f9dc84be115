/-! ===== a part taken out ===== -/
def xta (r : Int → Int) (k a b : Int) : Prop := ((0 ≤ a ∧ a < iPop (lay r k 0)) ∧ (0 ≤ b ∧ b < iPop (lay r k 0))) ∧ RA r (fun x => x = k) (nthb (lay r k 0) a) (nthb (lay r k 0) b)
def XP (r : Int → Int) (k i j a b : Int) : Prop := xta r k a b ∧ (max a b < i ∨ (max a b = i ∧ min a b < j))
section XTR
variable {n : Int} {r : Int → Int} {k : Int}
theorem xta_sym (hN : NT n r) {a b : Int} (h : xta r k a b) : xta r k b a := ⟨⟨h.1.2, h.1.1⟩, RA_sym hN _ _ h.2⟩
theorem xta_ne (hN : NT n r) {a b : Int} (h : xta r k a b) : a ≠ b := fun e => (hN.2.2 _ _ h.2.1).2.2.1 (by rw [e])
theorem XP_row (hN : NT n r) (i a b : Int) : XP r k i i a b ↔ XP r k (i + 1) 0 a b := by
  unfold XP
  constructor
  · intro w
    have := w.1.1
    exact ⟨w.1, by have := w.2; omega⟩
  · intro w
    have h1 := xta_ne hN w.1
    have h2 := w.1.1
    exact ⟨w.1, by have := w.2; omega⟩
theorem XP_no (hN : NT n r) {i j : Int} (hij : j < i) (h : ¬ xta r k i j) (a b : Int) : XP r k i j a b ↔ XP r k i (j + 1) a b := by
  unfold XP
  constructor
  · intro w
    exact ⟨w.1, by have := w.2; omega⟩
  · intro w
    refine ⟨w.1, ?_⟩
    have h1 : ¬ (a = i ∧ b = j) := fun e => h (by rw [← e.1, ← e.2]; exact w.1)
    have h2 : ¬ (a = j ∧ b = i) := fun e => h (by rw [← e.1, ← e.2]; exact xta_sym hN w.1)
    have h3 := xta_ne hN w.1
    have := w.2
    omega
theorem XP_yes (hN : NT n r) {i j : Int} (hij : j < i) (h : xta r k i j) (a b : Int) : (XP r k i j a b ∨ (a = i ∧ b = j) ∨ (a = j ∧ b = i)) ↔ XP r k i (j + 1) a b := by
  unfold XP
  constructor
  · intro w
    rcases w with w | w | w
    · exact ⟨w.1, by have := w.2; omega⟩
    · rw [w.1, w.2]; exact ⟨h, by omega⟩
    · rw [w.1, w.2]; exact ⟨xta_sym hN h, by omega⟩
  · intro w
    by_cases e : (a = i ∧ b = j) ∨ (a = j ∧ b = i)
    · exact Or.inr e
    · have h3 := xta_ne hN w.1
      exact Or.inl ⟨w.1, by have := w.2; omega⟩
theorem COL_iso (hN : NT n r) (hC : CN n r) (h0 : 0 < n) (m : Int) : COL (fun y => 0 ≤ y ∧ y < iPop (lay r k 0)) (xta r k) m ↔ COL (bit (lay r k 0)) (ad r) m := by
  have sl := S20_lay (r := r) k 0
  have bl : ∀ x, bit (lay r k 0) x ↔ rc (RA r (fun x => x = k)) 0 x := fun x => bt_lay hN ⟨by omega, h0⟩
  constructor
  · rintro ⟨g, -, h2, h3⟩
    refine ⟨fun p => g (ct (bit (lay r k 0)) p.toNat), fun p s z => absurd s z, fun p s _ => ?_, fun p q s t e _ => ?_⟩
    · have := ct_lt_20 sl s
      exact h2 _ this this
    · have hp := ct_lt_20 sl s
      have hq := ct_lt_20 sl t
      have ra : RA r (fun x => x = k) p q := ⟨e, G2a hN hC (rc_trans (rc_sym (RA_sym hN) ((bl p).mp s)) ((bl q).mp t)) e⟩
      refine h3 _ _ hp hq ⟨⟨hp, hq⟩, ?_⟩ hp
      rw [nthb_ct (S20_in sl s) s, nthb_ct (S20_in sl t) t]
      exact ra
  · rintro ⟨g, -, h2, h3⟩
    refine ⟨fun i => g (nthb (lay r k 0) i), fun p s z => absurd s z, fun p s _ => ?_, fun p q s t e _ => ?_⟩
    · have := nthb_in sl s.1 s.2
      exact h2 _ this.1 this.1
    · have hp := nthb_in sl s.1 s.2
      have hq := nthb_in sl t.1 t.2
      exact h3 _ _ hp.1 hq.1 e.2.1 hp.1
theorem chs_iso (hN : NT n r) (hC : CN n r) (h0 : 0 < n) : chs (fun y => 0 ≤ y ∧ y < iPop (lay r k 0)) (xta r k) = chs (bit (lay r k 0)) (ad r) := by
  have e : (fun j => COL (fun y => 0 ≤ y ∧ y < iPop (lay r k 0)) (xta r k) (j + 1)) = (fun j => COL (bit (lay r k 0)) (ad r) (j + 1)) := by
    funext j
    exact propext (COL_iso hN hC h0 (j + 1))
  unfold chs
  rw [e]
end XTR
theorem S20_hlk {h : am_H} {q a b : Int} (ha : 0 ≤ a ∧ a < 20) (hb : 0 ≤ b ∧ b < 20) (H : ∀ y, 0 ≤ y → y < 20 → S20 (h q y)) : ∀ y, 0 ≤ y → y < 20 → S20 (h_lk h q a b q y) := by
  intro y y0 y1
  unfold h_lk
  have k : ∀ y, 0 ≤ y → y < 20 → S20 (am_up h q a (iOr (h q a) (iShl 1 b)) q y) := fun y y0 y1 => by
    by_cases e : y = a
    · rw [e, am_up_eq]; exact S20_or (H a ha.1 ha.2) (S20_1 hb.1 hb.2)
    · rw [am_up_n2 (fun z => e z.2)]; exact H y y0 y1
  by_cases e : y = b
  · rw [e, am_up_eq]; exact S20_or (k b hb.1 hb.2) (S20_1 ha.1 ha.2)
  · rw [am_up_n2 (fun z => e z.2)]; exact k y y0 y1
/-- what an extraction leaves -/
def XTR (h g : am_H) (o : Int) : Prop := (∀ x i, x ≠ o + 1 → ¬ (x = o ∧ i = 0) → g x i = h x i)
/-! 45 FactorNets$Parts.extract -/
def C45 : am_K := fun as h K => am_a3 as (fun v0 v1 v2 => am_oc 5 153 v0 (am_n v1 (fun k => am_o 3 v2 (fun o => (PI h ∧ h 0 16 = 1 ∧ (0 ≤ k ∧ k < (ncl (ptE (nr h 7 0)) (nl (nr h 7 0)))) ∧ (o = 6 ∨ o = 80)) ∧ (∀ (h' : am_H), (XTR h h' o ∧ h' o 0 = iPop (lay (nr h 7 0) k 0) ∧ (∀ y9, 0 ≤ y9 → y9 < 20 → S20 (h' (o + 1) y9)) ∧ ∀ a9 b9, ad (nr h' (o + 1) 0) a9 b9 ↔ xta (nr h 7 0) k a9 b9) → K (none) (h'))))))
theorem W45 {d : Nat} (H : ∀ (k : Int) (o : Int) (h : am_H) (K : Option am_V → am_H → Prop), (PI h ∧ h 0 16 = 1 ∧ (0 ≤ k ∧ k < (ncl (ptE (nr h 7 0)) (nl (nr h 7 0)))) ∧ (o = 6 ∨ o = 80)) ∧ (∀ (h' : am_H), (XTR h h' o ∧ h' o 0 = iPop (lay (nr h 7 0) k 0) ∧ (∀ y9, 0 ≤ y9 → y9 < 20 → S20 (h' (o + 1) y9)) ∧ ∀ a9 b9, ad (nr h' (o + 1) 0) a9 b9 ↔ xta (nr h 7 0) k a9 b9) → K (none) (h')) → am_AT d 45 0 [some (mR 1 5 0 153), some (mB k), some (mR 1 3 0 o), none, none] h K) : am_CS d 45 C45 := by
  refine am_CS_of (T := tb45) (mL := 5) (rk := 0) rfl (fun as h K hC => ?_)
  obtain ⟨v0, v1, v2, rfl, hC0⟩ := am_a3_e hC
  obtain ⟨e0, hC1⟩ := am_oc_e hC0
  subst e0
  obtain ⟨k, rfl, hC2⟩ := am_n_e hC1
  obtain ⟨o, rfl, hC3⟩ := am_o_e hC2
  refine ⟨Nat.le_of_ble_eq_true rfl, ?_⟩
  exact H k o h K hC3
theorem T45_0 {R : Option am_V → am_H → Prop} {h : am_H} {k : Int} {o : Int} (t : (0 ≤ k ∧ k < 4) ∧ (am_AT 3 45 12 [some (mR 1 5 0 153), some (mB k), some (mR 1 3 0 o), some (mI 0), none] (h_fl (am_up h o 0 (h 154 k)) (o + 1) 20 0) R)) : am_AT 3 45 0 [some (mR 1 5 0 153), some (mB k), some (mR 1 3 0 o), none, none] h R :=
  am_T (d := 2) (m := 45) (T := tb45) (mL := 5) (rk := 0) (cuts := [(12, [1, 1, 1, 2, 0]), (25, [1, 1, 1, 2, 2])]) (l := [(19, C19), (24, C24)]) rfl ⟨am_CS_d (by decide) C19_ok, am_CS_d (by decide) C24_ok, trivial⟩ 12 (And.intro (t).1 ((t).2))
theorem T45_12 {R : Option am_V → am_H → Prop} {h : am_H} {k : Int} {o : Int} {x3 : Int} (t : (0 ≤ k ∧ k < 4) ∧ ((R32 x3) ∧ (((h 154 k ≤ x3) → (R none h)) ∧ ((x3 < h 154 k) → (am_AT 3 45 25 [some (mR 1 5 0 153), some (mB k), some (mR 1 3 0 o), some (mI x3), some (mI 0)] h R))))) : am_AT 3 45 12 [some (mR 1 5 0 153), some (mB k), some (mR 1 3 0 o), some (mI x3), none] h R :=
  am_T (d := 2) (m := 45) (T := tb45) (mL := 5) (rk := 0) (cuts := [(12, [1, 1, 1, 2, 0]), (25, [1, 1, 1, 2, 2])]) (l := [(19, C19), (24, C24)]) rfl ⟨am_CS_d (by decide) C19_ok, am_CS_d (by decide) C24_ok, trivial⟩ 12 (And.intro (t).1 (And.intro ((t).2).1 (And.intro (fun c1 => (((t).2).2).1 c1) (fun c1 => (((t).2).2).2 c1))))
theorem T45_25 {R : Option am_V → am_H → Prop} {h : am_H} {k : Int} {o : Int} {x3 : Int} {x4 : Int} (t : (R32 x4) ∧ ((R32 x3) ∧ (((x3 ≤ x4) → (am_AT 3 45 12 [some (mR 1 5 0 153), some (mB k), some (mR 1 3 0 o), some (mI (x3 + 1)), none] h R)) ∧ ((x4 < x3) → ((0 ≤ k ∧ k < 4) ∧ ((0 ≤ k ∧ k < 4) ∧ ((0 ≤ x3 ∧ x3 < 20) ∧ ((0 ≤ h (161 + k) x3 ∧ h (161 + k) x3 < 20) ∧ ((0 ≤ k ∧ k < 4) ∧ ((0 ≤ x4 ∧ x4 < 20) ∧ (((iAnd (iShr (h (156 + k) (h (161 + k) x3)) (h (161 + k) x4)) 1 = 0) → (am_AT 3 45 25 [some (mR 1 5 0 153), some (mB k), some (mR 1 3 0 o), some (mI x3), some (mI (x4 + 1))] h R)) ∧ ((¬ iAnd (iShr (h (156 + k) (h (161 + k) x3)) (h (161 + k) x4)) 1 = 0) → ((R32 x3) ∧ ((R32 x4) ∧ (((0 ≤ x3 ∧ x3 < 20) ∧ (0 ≤ x4 ∧ x4 < 20)) ∧ (am_AT 3 45 25 [some (mR 1 5 0 153), some (mB k), some (mR 1 3 0 o), some (mI x3), some (mI (x4 + 1))] (h_lk h (o + 1) x3 x4) R)))))))))))))))) : am_AT 3 45 25 [some (mR 1 5 0 153), some (mB k), some (mR 1 3 0 o), some (mI x3), some (mI x4)] h R :=
  am_T (d := 2) (m := 45) (T := tb45) (mL := 5) (rk := 0) (cuts := [(12, [1, 1, 1, 2, 0]), (25, [1, 1, 1, 2, 2])]) (l := [(19, C19), (24, C24)]) rfl ⟨am_CS_d (by decide) C19_ok, am_CS_d (by decide) C24_ok, trivial⟩ 34 (And.intro (t).1 (And.intro ((t).2).1 (And.intro (fun c2 => (((t).2).2).1 c2) (fun c2 => And.intro ((((t).2).2).2 c2).1 (And.intro (((((t).2).2).2 c2).2).1 (And.intro ((((((t).2).2).2 c2).2).2).1 (And.intro (((((((t).2).2).2 c2).2).2).2).1 (And.intro ((((((((t).2).2).2 c2).2).2).2).2).1 (And.intro (((((((((t).2).2).2 c2).2).2).2).2).2).1 (And.intro (fun c3 => ((((((((((t).2).2).2 c2).2).2).2).2).2).2).1 c3) (fun c3 => And.intro (((((((((((t).2).2).2 c2).2).2).2).2).2).2).2 c3).1 (And.intro ((((((((((((t).2).2).2 c2).2).2).2).2).2).2).2 c3).2).1 (And.intro (((((((((((((t).2).2).2 c2).2).2).2).2).2).2).2 c3).2).2).1 ((((((((((((((t).2).2).2 c2).2).2).2).2).2).2).2 c3).2).2).2))))))))))))))
theorem L45b {K : Option am_V → am_H → Prop} {h : am_H} {k o : Int} (H : PI h) (z : h 0 16 = 1) (hk : 0 ≤ k ∧ k < ncl (ptE (nr h 7 0)) (nl (nr h 7 0))) (ho : o = 6 ∨ o = 80) {i : Int} (hi : 0 ≤ i ∧ i < iPop (lay (nr h 7 0) k 0)) (nx : ∀ g : am_H, XTR h g o → g o 0 = iPop (lay (nr h 7 0) k 0) → (∀ y9, 0 ≤ y9 → y9 < 20 → S20 (g (o + 1) y9)) → (∀ a9 b9, ad (nr g (o + 1) 0) a9 b9 ↔ XP (nr h 7 0) k (i + 1) 0 a9 b9) → am_AT 3 45 12 [some (mR 1 5 0 153), some (mB k), some (mR 1 3 0 o), some (mI (i + 1)), none] g K) : ∀ j, ∀ g : am_H, 0 ≤ j → j ≤ i → XTR h g o → g o 0 = iPop (lay (nr h 7 0) k 0) → (∀ y9, 0 ≤ y9 → y9 < 20 → S20 (g (o + 1) y9)) → (∀ a9 b9, ad (nr g (o + 1) 0) a9 b9 ↔ XP (nr h 7 0) k i j a9 b9) → am_AT 3 45 25 [some (mR 1 5 0 153), some (mB k), some (mR 1 3 0 o), some (mI i), some (mI j)] g K := by
  have hN := (SV5_N H.1).1
  have hC := (SV5_N H.1).2
  have h4 := np_4 hN hC
  have w := kd_c H z hk
  have s2 := lay_2 hN hC hk
  refine lp i (fun j ih g j0 j1 F e0 sr hx => ?_)
  have f154 : g 154 k = iPop (lay (nr h 7 0) k 0) := by rw [F _ _ (by omega) (by omega)]; exact w.1
  have f161 : ∀ y, 0 ≤ y → y ≤ i → g (161 + k) y = nthb (lay (nr h 7 0) k 0) y := fun y a b => by rw [F _ _ (by omega) (by omega)]; exact w.2.1 y a (by omega)
  have ni : ∀ y, 0 ≤ y → y ≤ i → (0 ≤ nthb (lay (nr h 7 0) k 0) y ∧ nthb (lay (nr h 7 0) k 0) y < 20) := fun y a b => (nthb_in (S20_lay k 0) a (by omega)).2
  have nj := ni j j0 j1
  have nii := ni i hi.1 (by omega)
  have f156 : g (156 + k) (nthb (lay (nr h 7 0) k 0) i) = mkb (RA (nr h 7 0) (fun x => x = k) (nthb (lay (nr h 7 0) k 0) i)) := by rw [F _ _ (by omega) (by omega)]; exact w.2.2 _ nii.1 nii.2
  have cc : j < i → (iAnd (iShr (g (156 + k) (g (161 + k) i)) (g (161 + k) j)) 1 = 0 ↔ ¬ xta (nr h 7 0) k i j) := fun a => by
    rw [f161 i hi.1 (by omega), f161 j j0 j1, f156, bt_has0 nj.1 (by omega), bt_mk]
    exact not_congr ⟨fun u => ⟨⟨hi, j0, by omega⟩, u.2⟩, fun u => ⟨nj, u.2⟩⟩
  refine T45_25 ⟨by omega, ⟨by omega, ⟨fun c1 => ?_, fun c1 => ⟨by omega, ⟨by omega, ⟨by omega, ⟨by rw [f161 i hi.1 (by omega)]; exact nii, ⟨by omega, ⟨by omega, ⟨fun c2 => ?_, fun c2 => ⟨by omega, ⟨by omega, ⟨by omega, ?_⟩⟩⟩⟩⟩⟩⟩⟩⟩⟩⟩⟩⟩
  · refine nx g F e0 sr (fun a b => ?_)
    rw [hx a b, show j = i by omega]
    exact XP_row hN i a b
  · exact ih (by omega) g (by omega) (by omega) F e0 sr (fun a b => (hx a b).trans (XP_no hN (by omega) ((cc (by omega)).mp c2) a b))
  · have y : xta (nr h 7 0) k i j := Classical.byContradiction fun u => c2 ((cc (by omega)).mpr u)
    refine ih (by omega) _ (by omega) (by omega) (fun x i' a b => by rw [h_lk_ne a]; exact F x i' a b) (by rw [h_lk_ne (by omega)]; exact e0) (S20_hlk (by omega) (by omega) sr) (fun a b => ?_)
    rw [ad_lk (by omega) (by omega), hx a b]
    exact XP_yes hN (by omega) y a b
theorem L45 {K : Option am_V → am_H → Prop} {h : am_H} {k o : Int} (H : PI h) (z : h 0 16 = 1) (hk : 0 ≤ k ∧ k < ncl (ptE (nr h 7 0)) (nl (nr h 7 0))) (ho : o = 6 ∨ o = 80) (hK : ∀ g : am_H, (XTR h g o ∧ g o 0 = iPop (lay (nr h 7 0) k 0) ∧ (∀ y9, 0 ≤ y9 → y9 < 20 → S20 (g (o + 1) y9)) ∧ ∀ a9 b9, ad (nr g (o + 1) 0) a9 b9 ↔ xta (nr h 7 0) k a9 b9) → K none g) : ∀ i, ∀ g : am_H, 0 ≤ i → i ≤ iPop (lay (nr h 7 0) k 0) → XTR h g o → g o 0 = iPop (lay (nr h 7 0) k 0) → (∀ y9, 0 ≤ y9 → y9 < 20 → S20 (g (o + 1) y9)) → (∀ a9 b9, ad (nr g (o + 1) 0) a9 b9 ↔ XP (nr h 7 0) k i 0 a9 b9) → am_AT 3 45 12 [some (mR 1 5 0 153), some (mB k), some (mR 1 3 0 o), some (mI i), none] g K := by
  have hN := (SV5_N H.1).1
  have hC := (SV5_N H.1).2
  have h4 := np_4 hN hC
  have w := kd_c H z hk
  have s2 := lay_2 hN hC hk
  refine lp (iPop (lay (nr h 7 0) k 0)) (fun i ih g i0 i1 F e0 sr hx => ?_)
  have f154 : g 154 k = iPop (lay (nr h 7 0) k 0) := by rw [F _ _ (by omega) (by omega)]; exact w.1
  refine T45_12 ⟨by omega, ⟨by omega, ⟨fun c1 => ?_, fun c1 => ?_⟩⟩⟩
  · refine hK g ⟨F, e0, sr, fun a b => ?_⟩
    rw [hx a b]
    constructor
    · intro u; exact u.1
    · intro u
      have := u.1
      exact ⟨u, by omega⟩
  · exact L45b H z hk ho ⟨i0, by omega⟩ (fun g' a b c d => ih (by omega) g' (by omega) (by omega) a b c d) 0 g (by omega) i0 F e0 sr hx
theorem C45_ok : am_CS 3 45 C45 := W45 (fun k o h K hb => by
  obtain ⟨⟨H, z, hk, ho⟩, hK⟩ := hb
  have hN := (SV5_N H.1).1
  have hC := (SV5_N H.1).2
  have h4 := np_4 hN hC
  have w := kd_c H z hk
  have s2 := lay_2 hN hC hk
  refine T45_0 ⟨by omega, ?_⟩
  · refine L45 H z hk ho hK 0 _ (by omega) (by omega) (fun x i a b => by rw [h_fl_ne a, am_up_n2 b]) (by rw [h_fl_ne (by omega), am_up_eq]; exact w.1) (fun y a b => by rw [h_fl_in a b]; exact S20_0) (fun a b => ⟨fun u => ?_, fun u => ?_⟩)
    · obtain ⟨u1, u2⟩ := ad_nr.mp u
      rw [h_fl_in u1.1 u1.2] at u2
      exact absurd u2 bt_zero
    · have h1 := u.2
      have h2 := u.1.1
      omega)
/-! 87 FactorNets$Survey.forget -/
def C87 : am_K := fun as h K => am_a1 as (fun v0 => am_o 10 v0 (fun o => K (none) (am_up (am_up (am_up h o 4 0) o 5 0) o 6 0)))
theorem W87 {d : Nat} (H : ∀ (o : Int) (h : am_H) (K : Option am_V → am_H → Prop), K (none) (am_up (am_up (am_up h o 4 0) o 5 0) o 6 0) → am_AT d 87 0 [some (mR 1 10 0 o)] h K) : am_CS d 87 C87 := by
  refine am_CS_of (T := tb87) (mL := 1) (rk := 0) rfl (fun as h K hC => ?_)
  obtain ⟨v0, rfl, hC0⟩ := am_a1_e hC
  obtain ⟨o, rfl, hC1⟩ := am_o_e hC0
  refine ⟨Nat.le_of_ble_eq_true rfl, ?_⟩
  exact H o h K hC1
theorem T87_0 {R : Option am_V → am_H → Prop} {h : am_H} {o : Int} (t : R none (am_up (am_up (am_up h o 4 0) o 5 0) o 6 0)) : am_AT 1 87 0 [some (mR 1 10 0 o)] h R :=
  am_T (d := 0) (m := 87) (T := tb87) (mL := 1) (rk := 0) (cuts := []) (l := []) rfl trivial 14 (And.intro (Or.inl rfl) (And.intro (Or.inl rfl) (And.intro (Or.inl rfl) (t))))
theorem C87_ok : am_CS 1 87 C87 := W87 (fun o h K hb => T87_0 hb)
