/-! ===== distances ===== -/
noncomputable def shl (r : Int → Int) (a d : Int) : Int := mkb (fun p => sh (ad r) a d.toNat p)
def MR (h : am_H) (m n : Int) (r : Int → Int) (a : Int) : Prop := (∀ p, 0 ≤ p → p < n → h (m + 1 + 1 + a) p = ds (ad r) a p) ∧ (∀ d, 0 ≤ d → d < 20 → h (m + 22 + 1 + a) d = shl r a d)
def MT (h : am_H) (m n : Int) (r : Int → Int) : Prop := ∀ a, 0 ≤ a → a < n → MR h m n r a
theorem MT_fr {h h' : am_H} {m n : Int} {r : Int → Int} (hn : n ≤ 20) (H : MT h m n r) (e : ∀ x i, m < x → x ≤ m + 42 → h' x i = h x i) : MT h' m n r := fun a h0 h1 => ⟨fun p p0 p1 => by rw [e _ _ (by omega) (by omega)]; exact (H a h0 h1).1 p p0 p1, fun d d0 d1 => by rw [e _ _ (by omega) (by omega)]; exact (H a h0 h1).2 d d0 d1⟩
noncomputable def mxn (f : Int → Int) : Nat → Int
  | 0 => 0
  | n + 1 => max (mxn f n) (f (n : Int))
theorem mxn_succ (f : Int → Int) (n : Nat) : mxn f (n + 1) = max (mxn f n) (f (n : Int)) := rfl
theorem mxn_le {f : Int → Int} {m : Int} (h0 : 0 ≤ m) : ∀ n : Nat, (∀ k : Int, 0 ≤ k → k < n → f k ≤ m) → mxn f n ≤ m
  | 0, _ => h0
  | n + 1, h => by
    rw [mxn_succ]
    have h1 := mxn_le h0 n (fun k a b => h k a (by omega))
    have h2 := h n (by omega) (by omega)
    omega
theorem mxn_ge {f : Int → Int} : ∀ n : Nat, 0 ≤ mxn f n ∧ ∀ k : Int, 0 ≤ k → k < n → f k ≤ mxn f n
  | 0 => ⟨Int.le_refl _, fun k a b => by omega⟩
  | n + 1 => by
    have h1 := mxn_ge (f := f) n
    rw [mxn_succ]
    refine ⟨by omega, fun k a b => ?_⟩
    by_cases e : k = (n : Int)
    · subst e; omega
    · have := h1.2 k a (by omega); omega
noncomputable def amd (n : Int) (r : Int → Int) (a b : Int) : Int := mkb (fun p => p < n ∧ ds (ad r) a p + ds (ad r) p b = ds (ad r) a b)
noncomputable def clo (n : Int) (r : Int → Int) (a b : Int) : Int := mkb (fun p => p < n ∧ ds (ad r) a p < ds (ad r) b p)
theorem bt_shl2 {r : Int → Int} {a d p : Int} : bit (shl r a d) p ↔ (0 ≤ p ∧ p < 20) ∧ sh (ad r) a d.toNat p := bt_mk
theorem shl_ds {n : Int} {r : Int → Int} (hN : NT n r) (hC : CN n r) {a d p : Int} (ha : 0 ≤ a ∧ a < n) (hd : 0 ≤ d) : bit (shl r a d) p ↔ (0 ≤ p ∧ p < n) ∧ ds (ad r) a p = d := by
  rw [bt_shl2]
  have := hN.2.1
  constructor
  · rintro ⟨h1, h2⟩
    have h3 := NT_rc hN ha ⟨_, h2.1⟩
    exact ⟨h3, by rw [ds_eq h2]; omega⟩
  · rintro ⟨h1, h2⟩
    exact ⟨by omega, (sh_ds (CN_rc hN hC ha h1)).mpr (by omega)⟩
theorem nr_fr {h h' : am_H} {q q' o : Int} (e0 : q' = q) (e : ∀ i, h' q i = h q i) : nr h' q' o = nr h q o := by
  subst e0
  funext p
  unfold nr
  rw [e]
theorem am_up_n2 {h : am_H} {a i x a' i' : Int} (c : ¬ (a' = a ∧ i' = i)) : am_up h a i x a' i' = h a' i' := if_neg c
theorem wf_b {h : am_H} {o : Int} (c b : Nat) {f : Nat × Nat × Nat × Nat × Int} (hw : am_wf h) (hv : am_ok (mR 1 c 0 o)) (e : am_fld c b = some f) (e2 : f.1 = 2) : h o b = 0 ∨ h o b = 1 := by
  have hv2 : am_vd 1 c 0 o := hv
  rcases hv2 with e3 | e3 | ⟨e3, e4⟩
  · exact absurd e3 (by decide)
  · exact absurd e3.1 (by decide)
  · have := ((hw o.toNat 1 c 0 e4).2.2.2.2 rfl b f e).2.2 e2
    rw [Int.toNat_of_nonneg e3] at this
    exact this
theorem S20_shl {r : Int → Int} {a d : Int} : S20 (shl r a d) := S20_mk _
/-! 14 FactorNets$Metric.learnFrom -/
def C14 : am_K := fun as h K => am_a3 as (fun v0 v1 v2 => am_o 2 v0 (fun m => am_o 3 v1 (fun o => am_n v2 (fun a => ((0 < o ∧ o < m) ∧ (NT (h o 0) (nr h (o + 1) 0) ∧ CN (h o 0) (nr h (o + 1) 0)) ∧ (0 ≤ a ∧ a < h o 0)) ∧ (∀ (h' : am_H), (∀ x i, x ≠ m + 1 + 1 + a → x ≠ m + 22 + 1 + a → h' x i = h x i) ∧ MR h' m (h o 0) (nr h (o + 1) 0) a → K (none) (h'))))))
theorem W14 {d : Nat} (H : ∀ (m : Int) (o : Int) (a : Int) (h : am_H) (K : Option am_V → am_H → Prop), ((0 < o ∧ o < m) ∧ (NT (h o 0) (nr h (o + 1) 0) ∧ CN (h o 0) (nr h (o + 1) 0)) ∧ (0 ≤ a ∧ a < h o 0)) ∧ (∀ (h' : am_H), (∀ x i, x ≠ m + 1 + 1 + a → x ≠ m + 22 + 1 + a → h' x i = h x i) ∧ MR h' m (h o 0) (nr h (o + 1) 0) a → K (none) (h')) → am_AT d 14 0 [some (mR 1 2 0 m), some (mR 1 3 0 o), some (mB a), none, none, none, none, none, none] h K) : am_CS d 14 C14 := by
  refine am_CS_of (T := tb14) (mL := 9) (rk := 0) rfl (fun as h K hC => ?_)
  obtain ⟨v0, v1, v2, rfl, hC0⟩ := am_a3_e hC
  obtain ⟨m, rfl, hC1⟩ := am_o_e hC0
  obtain ⟨o, rfl, hC2⟩ := am_o_e hC1
  obtain ⟨a, rfl, hC3⟩ := am_n_e hC2
  refine ⟨Nat.le_of_ble_eq_true rfl, ?_⟩
  exact H m o a h K hC3
theorem T14_0 {R : Option am_V → am_H → Prop} {h : am_H} {m : Int} {o : Int} {a : Int} (t : (0 ≤ a ∧ a < 20) ∧ (am_AT 3 14 20 [some (mR 1 2 0 m), some (mR 1 3 0 o), some (mB a), some (mI (iShl 1 a)), some (mI (iShl 1 a)), some (mI 0), none, none, none] (h_fl h (((m + 22) + 1) + a) 20 (0 : Int)) R)) : am_AT 3 14 0 [some (mR 1 2 0 m), some (mR 1 3 0 o), some (mB a), none, none, none, none, none, none] h R :=
  am_T (d := 2) (m := 14) (T := tb14) (mL := 9) (rk := 0) (cuts := [(20, [1, 1, 1, 2, 2, 2, 0, 0, 0]), (47, [1, 1, 1, 2, 2, 2, 2, 2, 0])]) (l := [(177, C177), (319, C319)]) rfl ⟨am_CS_d (by decide) C177_ok, am_CS_d (by decide) C319_ok, trivial⟩ 18 (And.intro (t).1 ((t).2))
theorem T14_20 {R : Option am_V → am_H → Prop} {h : am_H} {m : Int} {o : Int} {a : Int} {x3 : Int} {x4 : Int} {x5 : Int} (t : (R32 x5) ∧ (((20 ≤ x5) → (R none h)) ∧ ((x5 < 20) → ((R32 x3) ∧ (((x3 = 0) → (R none h)) ∧ ((¬ x3 = 0) → ((0 ≤ a ∧ a < 20) ∧ ((0 ≤ x5 ∧ x5 < 20) ∧ ((R32 x3) ∧ (am_AT 3 14 47 [some (mR 1 2 0 m), some (mR 1 3 0 o), some (mB a), some (mI x3), some (mI x4), some (mI x5), some (mI 0), some (mI 0), none] (am_up h (((m + 22) + 1) + a) x5 x3) R)))))))))) : am_AT 3 14 20 [some (mR 1 2 0 m), some (mR 1 3 0 o), some (mB a), some (mI x3), some (mI x4), some (mI x5), none, none, none] h R :=
  am_T (d := 2) (m := 14) (T := tb14) (mL := 9) (rk := 0) (cuts := [(20, [1, 1, 1, 2, 2, 2, 0, 0, 0]), (47, [1, 1, 1, 2, 2, 2, 2, 2, 0])]) (l := [(177, C177), (319, C319)]) rfl ⟨am_CS_d (by decide) C177_ok, am_CS_d (by decide) C319_ok, trivial⟩ 20 (And.intro (t).1 (And.intro (fun c1 => ((t).2).1 c1) (fun c1 => And.intro (((t).2).2 c1).1 (And.intro (fun c2 => ((((t).2).2 c1).2).1 c2) (fun c2 => And.intro (((((t).2).2 c1).2).2 c2).1 (And.intro ((((((t).2).2 c1).2).2 c2).2).1 (And.intro (((((((t).2).2 c1).2).2 c2).2).2).1 ((((((((t).2).2 c1).2).2 c2).2).2).2))))))))
theorem T14_47 {R : Option am_V → am_H → Prop} {h : am_H} {m : Int} {o : Int} {a : Int} {x3 : Int} {x4 : Int} {x5 : Int} {x6 : Int} {x7 : Int} (t : (R32 x7) ∧ (((20 ≤ x7) → (am_AT 3 14 20 [some (mR 1 2 0 m), some (mR 1 3 0 o), some (mB a), some (mI (iAnd x6 (iXor x4 (-1)))), some (mI (iOr x4 (iAnd x6 (iXor x4 (-1))))), some (mI (x5 + 1)), none, none, none] h R)) ∧ ((x7 < 20) → ((R32 x3) ∧ (((x3 = 0) → (am_AT 3 14 20 [some (mR 1 2 0 m), some (mR 1 3 0 o), some (mB a), some (mI (iAnd x6 (iXor x4 (-1)))), some (mI (iOr x4 (iAnd x6 (iXor x4 (-1))))), some (mI (x5 + 1)), none, none, none] h R)) ∧ ((¬ x3 = 0) → ((R32 x3) ∧ ((0 < x3 ∧ x3 < 2147483648) ∧ ((0 ≤ a ∧ a < 20) ∧ ((0 ≤ iLow x3 ∧ iLow x3 < 20) ∧ ((R32 x5) ∧ ((0 ≤ iLow x3 ∧ iLow x3 < 20) ∧ (am_AT 3 14 47 [some (mR 1 2 0 m), some (mR 1 3 0 o), some (mB a), some (mI (iAnd x3 (x3 - 1))), some (mI x4), some (mI x5), some (mI (iOr x6 ((am_up h (((m + 1) + 1) + a) (iLow x3) x5) (o + 1) (iLow x3)))), some (mI (x7 + 1)), none] (am_up h (((m + 1) + 1) + a) (iLow x3) x5) R))))))))))))) : am_AT 3 14 47 [some (mR 1 2 0 m), some (mR 1 3 0 o), some (mB a), some (mI x3), some (mI x4), some (mI x5), some (mI x6), some (mI x7), none] h R :=
  am_T (d := 2) (m := 14) (T := tb14) (mL := 9) (rk := 0) (cuts := [(20, [1, 1, 1, 2, 2, 2, 0, 0, 0]), (47, [1, 1, 1, 2, 2, 2, 2, 2, 0])]) (l := [(177, C177), (319, C319)]) rfl ⟨am_CS_d (by decide) C177_ok, am_CS_d (by decide) C319_ok, trivial⟩ 34 (And.intro (t).1 (And.intro (fun c3 => ((t).2).1 c3) (fun c3 => And.intro (((t).2).2 c3).1 (And.intro (fun c4 => ((((t).2).2 c3).2).1 c4) (fun c4 => And.intro (((((t).2).2 c3).2).2 c4).1 (And.intro ((((((t).2).2 c3).2).2 c4).2).1 (And.intro (((((((t).2).2 c3).2).2 c4).2).2).1 (And.intro ((((((((t).2).2 c3).2).2 c4).2).2).2).1 (And.intro (((((((((t).2).2 c3).2).2 c4).2).2).2).2).1 (And.intro ((((((((((t).2).2 c3).2).2 c4).2).2).2).2).2).1 (((((((((((t).2).2 c3).2).2 c4).2).2).2).2).2).2)))))))))))
theorem L14 {K : Option am_V → am_H → Prop} {h : am_H} {m o a : Int} (ho : 0 < o ∧ o < m) (hN : NT (h o 0) (nr h (o + 1) 0)) (hC : CN (h o 0) (nr h (o + 1) 0)) (hR : ∀ p, 0 ≤ p → p < 20 → S20 (h (o + 1) p)) (ha : 0 ≤ a ∧ a < h o 0) (hK : ∀ h', (∀ x i, x ≠ m + 1 + 1 + a → x ≠ m + 22 + 1 + a → h' x i = h x i) ∧ MR h' m (h o 0) (nr h (o + 1) 0) a → K none h') : ∀ (d y z : Int) (hh : am_H), 0 ≤ d → d ≤ 20 → y = shl (nr h (o + 1) 0) a d → S20 z → (∀ p, bit z p ↔ ∃ e : Nat, (e : Int) ≤ d ∧ sh (ad (nr h (o + 1) 0)) a e p) → (∀ x i, x ≠ m + 1 + 1 + a → x ≠ m + 22 + 1 + a → hh x i = h x i) → (∀ (e : Nat) p, (e : Int) < d → sh (ad (nr h (o + 1) 0)) a e p → hh (m + 1 + 1 + a) p = (e : Int)) → (∀ e, 0 ≤ e → e < 20 → hh (m + 22 + 1 + a) e = if e < d then shl (nr h (o + 1) 0) a e else 0) → am_AT 3 14 20 [some (mR 1 2 0 m), some (mR 1 3 0 o), some (mB a), some (mI y), some (mI z), some (mI d), none, none, none] hh K := by
  have hn1 := hN.1
  have hn2 := hN.2.1
  have fin : ∀ (d : Int) (hh : am_H), 0 ≤ d → (∀ (e : Nat) p, d ≤ (e : Int) → ¬ sh (ad (nr h (o + 1) 0)) a e p) → (∀ x i, x ≠ m + 1 + 1 + a → x ≠ m + 22 + 1 + a → hh x i = h x i) → (∀ (e : Nat) p, (e : Int) < d → sh (ad (nr h (o + 1) 0)) a e p → hh (m + 1 + 1 + a) p = (e : Int)) → (∀ e, 0 ≤ e → e < 20 → hh (m + 22 + 1 + a) e = if e < d then shl (nr h (o + 1) 0) a e else 0) → K none hh := by
    intro d hh d0 hno h1 h2 h3
    refine hK hh ⟨h1, fun p p0 p1 => ?_, fun e e0 e1 => ?_⟩
    · obtain ⟨e, he, ed⟩ := ds_sh (CN_rc hN hC ha ⟨p0, p1⟩)
      rw [ed]
      exact h2 e p (Classical.byContradiction fun q => hno e p (by omega) he) he
    · rw [h3 e e0 e1]
      by_cases q : e < d
      · rw [if_pos q]
      · rw [if_neg q]
        symm
        rw [S20_z S20_shl]
        intro k hk
        exact hno e.toNat k (by omega) (bt_shl2.mp hk).2
  refine lp 20 (fun d ih y z hh d0 d1 hy hz hbz f1 f2 f3 => ?_)
  have hy2 : S20 y := by rw [hy]; exact S20_shl
  have hy3 := hy2.1
  have hy4 := hy2.2
  refine T14_20 ⟨by omega, ⟨fun c1 => ?_, fun c1 => ⟨by omega, ⟨fun c2 => ?_, fun c2 => ⟨by omega, ⟨by omega, ⟨by omega, ?_⟩⟩⟩⟩⟩⟩⟩
  · exact fin d hh d0 (fun e p he hs => by have := NT_lt hN ha hs; omega) f1 f2 f3
  · refine fin d hh d0 (fun e p he hs => ?_) f1 f2 f3
    obtain ⟨c, hc⟩ := sh_lv hs d.toNat (by omega)
    have hc2 := NT_rc hN ha ⟨_, hc.1⟩
    have : bit y c := by rw [hy]; exact bt_shl2.mpr ⟨by omega, hc⟩
    rw [c2] at this
    exact bt_zero this
  · have nx : ∀ (z2 x6 : Int) (hh2 : am_H), S20 x6 → (∀ k, bit x6 k ↔ ∃ p, sh (ad (nr h (o + 1) 0)) a d.toNat p ∧ ad (nr h (o + 1) 0) p k) → z2 = z → (∀ x i, x ≠ m + 1 + 1 + a → x ≠ m + 22 + 1 + a → hh2 x i = h x i) → (∀ (e : Nat) p, (e : Int) < d + 1 → sh (ad (nr h (o + 1) 0)) a e p → hh2 (m + 1 + 1 + a) p = (e : Int)) → (∀ e, 0 ≤ e → e < 20 → hh2 (m + 22 + 1 + a) e = if e < d + 1 then shl (nr h (o + 1) 0) a e else 0) → am_AT 3 14 20 [some (mR 1 2 0 m), some (mR 1 3 0 o), some (mB a), some (mI (iAnd x6 (iXor z2 (-1)))), some (mI (iOr z2 (iAnd x6 (iXor z2 (-1))))), some (mI (d + 1)), none, none, none] hh2 K := by
      intro z2 x6 hh2 h6 hb6 ez g1 g2 g3
      subst ez
      have hb : ∀ k, bit (iAnd x6 (iXor z2 (-1))) k ↔ sh (ad (nr h (o + 1) 0)) a (d + 1).toNat k := by
        intro k
        rw [bt_and, bt_not, hb6, hbz, show (d + 1).toNat = d.toNat + 1 by omega, sh_s]
        constructor
        · rintro ⟨h7, -, -, h8⟩
          exact ⟨h7, fun e he hs => h8 ⟨e, by omega, hs⟩⟩
        · rintro ⟨h7, h8⟩
          have h9 := S20_in h6 ((hb6 k).mpr h7)
          exact ⟨h7, h9.1, by omega, fun q => by obtain ⟨e, a1, a2⟩ := q; exact h8 e (by omega) a2⟩
      have hs6 : S20 (iAnd x6 (iXor z2 (-1))) := S20_and h6
      refine ih c1 _ _ hh2 (by omega) (by omega) (mkb_eq (rg_and _ _) (fun k => ?_)) (S20_or hz hs6) (fun p => ?_) g1 g2 g3
      · rw [hb k]
        exact ⟨fun q => ⟨S20_in hs6 ((hb k).mpr q), q⟩, fun q => q.2⟩
      · rw [bt_or, hbz, hb]
        constructor
        · rintro (⟨e, a1, a2⟩ | a2)
          · exact ⟨e, by omega, a2⟩
          · exact ⟨(d + 1).toNat, by omega, a2⟩
        · rintro ⟨e, a1, a2⟩
          by_cases q : (e : Int) ≤ d
          · exact Or.inl ⟨e, q, a2⟩
          · have : e = (d + 1).toNat := by omega
            subst this
            exact Or.inr a2
    have L : ∀ (i x3 x6 : Int) (hh2 : am_H), 0 ≤ i → S20 x3 → S20 x6 → (∀ p, bit x3 p → bit y p) → (∀ k, bit x6 k ↔ ∃ p, (bit y p ∧ ¬ bit x3 p) ∧ ad (nr h (o + 1) 0) p k) → i ≤ ct (fun p => bit y p ∧ ¬ bit x3 p) 20 → (∀ x i, x ≠ m + 1 + 1 + a → x ≠ m + 22 + 1 + a → hh2 x i = h x i) → (∀ (e : Nat) p, (e : Int) < d → sh (ad (nr h (o + 1) 0)) a e p → hh2 (m + 1 + 1 + a) p = (e : Int)) → (∀ p, bit y p → ¬ bit x3 p → hh2 (m + 1 + 1 + a) p = d) → (∀ e, 0 ≤ e → e < 20 → hh2 (m + 22 + 1 + a) e = if e < d + 1 then shl (nr h (o + 1) 0) a e else 0) → am_AT 3 14 47 [some (mR 1 2 0 m), some (mR 1 3 0 o), some (mB a), some (mI x3), some (mI z), some (mI d), some (mI x6), some (mI i), none] hh2 K := by
      refine lp 20 (fun i ih2 x3 x6 hh2 i0 h3 h6 h3y hb6 hct g1 g2 g2b g3 => ?_)
      have h31 := h3.1
      have h32 := h3.2
      have hcl2 := ct_le (fun p => bit y p ∧ ¬ bit x3 p) 20
      have ex : (∀ p, ¬ bit x3 p) → am_AT 3 14 20 [some (mR 1 2 0 m), some (mR 1 3 0 o), some (mB a), some (mI (iAnd x6 (iXor z (-1)))), some (mI (iOr z (iAnd x6 (iXor z (-1))))), some (mI (d + 1)), none, none, none] hh2 K := fun hno => by
        refine nx z x6 hh2 h6 (fun k => ?_) rfl g1 (fun e p he hs => ?_) g3
        · rw [hb6]
          constructor
          · rintro ⟨p, a1, a2⟩
            have a3 := a1.1
            rw [hy] at a3
            exact ⟨p, (bt_shl2.mp a3).2, a2⟩
          · rintro ⟨p, a1, a2⟩
            have a3 := NT_rc hN ha ⟨_, a1.1⟩
            exact ⟨p, ⟨by rw [hy]; exact bt_shl2.mpr ⟨by omega, a1⟩, hno p⟩, a2⟩
        · by_cases q : (e : Int) < d
          · exact g2 e p q hs
          · have e2 : e = d.toNat := by omega
            subst e2
            have a3 := NT_rc hN ha ⟨_, hs.1⟩
            rw [g2b p (by rw [hy]; exact bt_shl2.mpr ⟨by omega, hs⟩) (hno p)]
            omega
      refine T14_47 ⟨by omega, ⟨fun c1 => ?_, fun c1 => ⟨by omega, ⟨fun c2 => ?_, fun c2 => ⟨by omega, ⟨by omega, ⟨by omega, ⟨(S20_low h3 c2).2.2, ⟨by omega, ⟨(S20_low h3 c2).2.2, ?_⟩⟩⟩⟩⟩⟩⟩⟩⟩⟩
      · exact ex (fun p hp => (ct_full (P := fun p => bit y p ∧ ¬ bit x3 p) 20 (by omega) p (S20_in h3 hp).1 (S20_in h3 hp).2).2 hp)
      · exact ex (fun p hp => by rw [c2] at hp; exact bt_zero hp)
      · obtain ⟨l1, l2, l3, l4⟩ := S20_low h3 c2
        have by' : ∀ k, bit (iAnd x3 (x3 - 1)) k ↔ bit x3 k ∧ k ≠ iLow x3 := fun k => bt_clr (S20_pos h3 c2).1 (S20_pos h3 c2).2
        have er : am_up hh2 (m + 1 + 1 + a) (iLow x3) d (o + 1) (iLow x3) = h (o + 1) (iLow x3) := by
          rw [am_up_ne (by omega), g1 _ _ (by omega) (by omega)]
        rw [er]
        refine ih2 c1 _ _ _ (by omega) (S20_and h3) (S20_or h6 (hR _ l3 l4)) (fun p hp => h3y p ((by' p).mp hp).1) (fun k => ?_) ?_ (fun x i hx1 hx2 => ?_) (fun e p he hs => ?_) (fun p hp hn => ?_) (fun e e0 e1 => ?_)
        · rw [bt_or, hb6]
          constructor
          · rintro (⟨p, a1, a2⟩ | a2)
            · exact ⟨p, ⟨a1.1, fun q => a1.2 ((by' p).mp q).1⟩, a2⟩
            · exact ⟨iLow x3, ⟨h3y _ l1, fun q => ((by' _).mp q).2 rfl⟩, ad_nr.mpr ⟨⟨l3, l4⟩, a2⟩⟩
          · rintro ⟨p, a1, a2⟩
            by_cases e : p = iLow x3
            · subst e
              exact Or.inr (ad_nr.mp a2).2
            · exact Or.inl ⟨p, ⟨a1.1, fun q => a1.2 ((by' p).mpr ⟨q, e⟩)⟩, a2⟩
        · have e := ct_add (P := fun p => bit y p ∧ ¬ bit x3 p) (Q := fun p => bit y p ∧ ¬ bit (iAnd x3 (x3 - 1)) p) (a := iLow x3) 20 l3 l4 (fun q => q.2 l1) (fun k => by
            rw [by']
            constructor
            · rintro ⟨a1, a2⟩
              by_cases e : k = iLow x3
              · exact Or.inr e
              · exact Or.inl ⟨a1, fun q => a2 ⟨q, e⟩⟩
            · rintro (⟨a1, a2⟩ | rfl)
              · exact ⟨a1, fun q => a2 q.1⟩
              · exact ⟨h3y _ l1, fun q => q.2 rfl⟩)
          omega
        · rw [am_up_ne hx1]
          exact g1 x i hx1 hx2
        · by_cases e2 : p = iLow x3
          · exfalso
            have a3 := h3y _ l1
            rw [hy] at a3
            have := sh_un hs (e2 ▸ (bt_shl2.mp a3).2)
            omega
          · rw [am_up_ne2 e2]
            exact g2 e p he hs
        · by_cases e2 : p = iLow x3
          · subst e2
            rw [am_up_eq]
          · rw [am_up_ne2 e2]
            exact g2b p hp (fun q => hn ((by' p).mpr ⟨q, e2⟩))
        · rw [am_up_ne (by omega)]
          exact g3 e e0 e1
    refine L 0 y 0 _ (by omega) hy2 S20_0 (fun p => id) (fun k => ⟨fun q => absurd q bt_zero, fun q => by obtain ⟨p, a1, -⟩ := q; exact absurd a1.1 a1.2⟩) (ct_le _ 20).1 (fun x i hx1 hx2 => by rw [am_up_ne hx2]; exact f1 x i hx1 hx2) (fun e p he hs => by rw [am_up_ne (by omega)]; exact f2 e p he hs) (fun p hp hn => absurd hp hn) (fun e e0 e1 => ?_)
    by_cases q : e = d
    · subst q
      rw [am_up_eq, if_pos (by omega), hy]
    · rw [am_up_ne2 q, f3 e e0 e1]
      by_cases q2 : e < d
      · rw [if_pos q2, if_pos (by omega)]
      · rw [if_neg q2, if_neg (by omega)]
theorem C14_ok : am_CS 3 14 C14 := W14 (fun m o a h K hb => am_AT_ok (fun hw hl => by
  obtain ⟨⟨ho, ⟨hN, hC⟩, ha⟩, hK⟩ := hb
  have hn2 := hN.2.1
  refine T14_0 ⟨by omega, ?_⟩
  · refine L14 ho hN hC (NT_S20 hN (wf_rows hw (hl 1 _ rfl))) ha hK 0 _ _ _ (by omega) (by omega) ?_ (S20_1 ha.1 (by omega)) (fun p => ?_) (fun x i hx1 hx2 => h_fl_ne hx2) (fun e p he => by omega) (fun e e0 e1 => ?_)
    · refine mkb_eq (rg_shl _ _) (fun j => ?_)
      rw [bt_1 ha.1 (by omega), show (0 : Int).toNat = 0 from rfl, sh_0]
      exact ⟨fun q => ⟨by omega, q⟩, fun q => q.2⟩
    · rw [bt_1 ha.1 (by omega)]
      constructor
      · intro q
        exact ⟨0, by omega, sh_0.mpr q⟩
      · rintro ⟨e, a1, a2⟩
        have : e = 0 := by omega
        subst this
        exact sh_0.mp a2
    · rw [h_fl_in e0 e1, if_neg (by omega)]))
/-! 15 FactorNets$Metric.reachOf -/
def C15 : am_K := fun as h K => am_a2 as (fun v0 v1 => am_o 2 v0 (fun m => am_n v1 (fun a => ((NT (h (m - 2) 0) (nr h (m - 1) 0) ∧ CN (h (m - 2) 0) (nr h (m - 1) 0) ∧ MT h m (h (m - 2) 0) (nr h (m - 1) 0)) ∧ (0 ≤ a ∧ a < h (m - 2) 0)) ∧ (K (some (mB (mxn (fun q => ds (ad (nr h (m - 1) 0)) a q) (h (m - 2) 0).toNat))) h))))
theorem W15 {d : Nat} (H : ∀ (m : Int) (a : Int) (h : am_H) (K : Option am_V → am_H → Prop), ((NT (h (m - 2) 0) (nr h (m - 1) 0) ∧ CN (h (m - 2) 0) (nr h (m - 1) 0) ∧ MT h m (h (m - 2) 0) (nr h (m - 1) 0)) ∧ (0 ≤ a ∧ a < h (m - 2) 0)) ∧ (K (some (mB (mxn (fun q => ds (ad (nr h (m - 1) 0)) a q) (h (m - 2) 0).toNat))) h) → am_AT d 15 0 [some (mR 1 2 0 m), some (mB a), none] h K) : am_CS d 15 C15 := by
  refine am_CS_of (T := tb15) (mL := 3) (rk := 1) rfl (fun as h K hC => ?_)
  obtain ⟨v0, v1, rfl, hC0⟩ := am_a2_e hC
  obtain ⟨m, rfl, hC1⟩ := am_o_e hC0
  obtain ⟨a, rfl, hC2⟩ := am_n_e hC1
  refine ⟨Nat.le_of_ble_eq_true rfl, ?_⟩
  exact H m a h K hC2
theorem T15_0 {R : Option am_V → am_H → Prop} {h : am_H} {m : Int} {a : Int} (t : am_AT 1 15 3 [some (mR 1 2 0 m), some (mB a), some (mI 19)] h R) : am_AT 1 15 0 [some (mR 1 2 0 m), some (mB a), none] h R :=
  am_T (d := 0) (m := 15) (T := tb15) (mL := 3) (rk := 1) (cuts := [(3, [1, 1, 2])]) (l := []) rfl trivial 6 (t)
theorem T15_3 {R : Option am_V → am_H → Prop} {h : am_H} {m : Int} {a : Int} {x2 : Int} (t : (R32 x2) ∧ (((x2 ≤ 0) → (R (some (mB 0)) h)) ∧ ((0 < x2) → ((0 ≤ a ∧ a < 20) ∧ ((0 ≤ x2 ∧ x2 < 20) ∧ (((h (((m + 22) + 1) + a) x2 = 0) → (am_AT 1 15 3 [some (mR 1 2 0 m), some (mB a), some (mI (x2 + (-1)))] h R)) ∧ ((¬ h (((m + 22) + 1) + a) x2 = 0) → ((R32 x2) ∧ (R (some (mB x2)) h))))))))) : am_AT 1 15 3 [some (mR 1 2 0 m), some (mB a), some (mI x2)] h R :=
  am_T (d := 0) (m := 15) (T := tb15) (mL := 3) (rk := 1) (cuts := [(3, [1, 1, 2])]) (l := []) rfl trivial 15 (And.intro (t).1 (And.intro (fun c5 => ((t).2).1 c5) (fun c5 => And.intro (((t).2).2 c5).1 (And.intro ((((t).2).2 c5).2).1 (And.intro (fun c6 => (((((t).2).2 c5).2).2).1 c6) (fun c6 => And.intro ((((((t).2).2 c5).2).2).2 c6).1 (((((((t).2).2 c5).2).2).2 c6).2)))))))
theorem L15 {K : Option am_V → am_H → Prop} {h : am_H} {m a n : Int} {r : Int → Int} (hN : NT n r) (hC : CN n r) (hM : MT h m n r) (ha : 0 ≤ a ∧ a < n) (hK : K (some (mB (mxn (fun q => ds (ad r) a q) n.toNat))) h) : ∀ d, d < 20 → 0 ≤ d → (∀ p, 0 ≤ p → p < n → ds (ad r) a p ≤ d) → am_AT 1 15 3 [some (mR 1 2 0 m), some (mB a), some (mI d)] h K := by
  have hn1 := hN.1
  have hn2 := hN.2.1
  refine lpd 1 (fun d ih d0 d1 hd => ?_)
  refine T15_3 ⟨by omega, ⟨fun c1 => ?_, fun c1 => ⟨by omega, ⟨by omega, ⟨fun c2 => ?_, fun c2 => ⟨by omega, ?_⟩⟩⟩⟩⟩⟩
  · have e : d = 0 := by omega
    subst e
    refine am_rB hK ?_
    have h1 := mxn_le (f := fun q => ds (ad r) a q) (Int.le_refl 0) n.toNat (fun k k0 k1 => hd k k0 (by omega))
    have h2 := (mxn_ge (f := fun q => ds (ad r) a q) n.toNat).1
    omega
  · refine ih (by omega) (by omega) (by omega) (fun p p0 p1 => ?_)
    have h1 := hd p p0 p1
    have h2 : ds (ad r) a p ≠ d := fun e => by
      have h3 := (shl_ds hN hC (d := d) ha (by omega)).mpr ⟨⟨p0, p1⟩, e⟩
      rw [← (hM a ha.1 ha.2).2 d (by omega) d0, c2] at h3
      exact bt_zero h3
    omega
  · refine am_rB hK ?_
    obtain ⟨k, hk⟩ := bt_some (x := h (m + 22 + 1 + a) d) (by rw [(hM a ha.1 ha.2).2 d (by omega) d0]; have h4 := @S20_shl r a d; have h5 := h4.1; have h6 := h4.2; omega) c2
    rw [(hM a ha.1 ha.2).2 d (by omega) d0, shl_ds hN hC ha (by omega)] at hk
    have h1 := mxn_le (f := fun q => ds (ad r) a q) (m := d) (by omega) n.toNat (fun k k0 k1 => hd k k0 (by omega))
    have h2 := (mxn_ge (f := fun q => ds (ad r) a q) n.toNat).2 k hk.1.1 (by omega)
    omega
theorem C15_ok : am_CS 1 15 C15 := W15 (fun m a h K hb => T15_0 (by
  obtain ⟨⟨⟨hN, hC, hM⟩, ha⟩, hK⟩ := hb
  have hn2 := hN.2.1
  exact L15 hN hC hM ha hK 19 (by omega) (by omega) (fun p p0 p1 => by have := ds_r hN hC ha ⟨p0, p1⟩; omega)))
/-! 16 FactorNets$Metric.interval -/
def C16 : am_K := fun as h K => am_a3 as (fun v0 v1 v2 => am_o 2 v0 (fun m => am_n v1 (fun a => am_n v2 (fun b => ((NT (h (m - 2) 0) (nr h (m - 1) 0) ∧ CN (h (m - 2) 0) (nr h (m - 1) 0) ∧ MT h m (h (m - 2) 0) (nr h (m - 1) 0)) ∧ (0 ≤ a ∧ a < h (m - 2) 0) ∧ (0 ≤ b ∧ b < h (m - 2) 0)) ∧ (K (some (mB (amd (h (m - 2) 0) (nr h (m - 1) 0) a b))) h)))))
theorem W16 {d : Nat} (H : ∀ (m : Int) (a : Int) (b : Int) (h : am_H) (K : Option am_V → am_H → Prop), ((NT (h (m - 2) 0) (nr h (m - 1) 0) ∧ CN (h (m - 2) 0) (nr h (m - 1) 0) ∧ MT h m (h (m - 2) 0) (nr h (m - 1) 0)) ∧ (0 ≤ a ∧ a < h (m - 2) 0) ∧ (0 ≤ b ∧ b < h (m - 2) 0)) ∧ (K (some (mB (amd (h (m - 2) 0) (nr h (m - 1) 0) a b))) h) → am_AT d 16 0 [some (mR 1 2 0 m), some (mB a), some (mB b), none, none, none] h K) : am_CS d 16 C16 := by
  refine am_CS_of (T := tb16) (mL := 6) (rk := 1) rfl (fun as h K hC => ?_)
  obtain ⟨v0, v1, v2, rfl, hC0⟩ := am_a3_e hC
  obtain ⟨m, rfl, hC1⟩ := am_o_e hC0
  obtain ⟨a, rfl, hC2⟩ := am_n_e hC1
  obtain ⟨b, rfl, hC3⟩ := am_n_e hC2
  refine ⟨Nat.le_of_ble_eq_true rfl, ?_⟩
  exact H m a b h K hC3
theorem T16_0 {R : Option am_V → am_H → Prop} {h : am_H} {m : Int} {a : Int} {b : Int} (t : (0 ≤ a ∧ a < 20) ∧ ((0 ≤ b ∧ b < 20) ∧ (am_AT 1 16 15 [some (mR 1 2 0 m), some (mB a), some (mB b), some (mI (h (((m + 1) + 1) + a) b)), some (mI 0), some (mI 0)] h R))) : am_AT 1 16 0 [some (mR 1 2 0 m), some (mB a), some (mB b), none, none, none] h R :=
  am_T (d := 0) (m := 16) (T := tb16) (mL := 6) (rk := 1) (cuts := [(15, [1, 1, 1, 2, 2, 2])]) (l := []) rfl trivial 15 (And.intro (t).1 (And.intro ((t).2).1 (((t).2).2)))
theorem T16_15 {R : Option am_V → am_H → Prop} {h : am_H} {m : Int} {a : Int} {b : Int} {x3 : Int} {x4 : Int} {x5 : Int} (t : (R32 x5) ∧ ((R32 x3) ∧ (((x3 < x5) → ((R32 x4) ∧ (R (some (mB x4)) h))) ∧ ((x5 ≤ x3) → ((0 ≤ a ∧ a < 20) ∧ ((0 ≤ x5 ∧ x5 < 20) ∧ ((0 ≤ b ∧ b < 20) ∧ ((0 ≤ x3 - x5 ∧ x3 - x5 < 20) ∧ (am_AT 1 16 15 [some (mR 1 2 0 m), some (mB a), some (mB b), some (mI x3), some (mI (iOr x4 (iAnd (h (((m + 22) + 1) + a) x5) (h (((m + 22) + 1) + b) (x3 - x5))))), some (mI (x5 + 1))] h R))))))))) : am_AT 1 16 15 [some (mR 1 2 0 m), some (mB a), some (mB b), some (mI x3), some (mI x4), some (mI x5)] h R :=
  am_T (d := 0) (m := 16) (T := tb16) (mL := 6) (rk := 1) (cuts := [(15, [1, 1, 1, 2, 2, 2])]) (l := []) rfl trivial 27 (And.intro (t).1 (And.intro ((t).2).1 (And.intro (fun c7 => And.intro ((((t).2).2).1 c7).1 (((((t).2).2).1 c7).2)) (fun c7 => And.intro ((((t).2).2).2 c7).1 (And.intro (((((t).2).2).2 c7).2).1 (And.intro ((((((t).2).2).2 c7).2).2).1 (And.intro (((((((t).2).2).2 c7).2).2).2).1 ((((((((t).2).2).2 c7).2).2).2).2))))))))
theorem L16 {K : Option am_V → am_H → Prop} {h : am_H} {m a b n : Int} {r : Int → Int} (hN : NT n r) (hC : CN n r) (hM : MT h m n r) (ha : 0 ≤ a ∧ a < n) (hb : 0 ≤ b ∧ b < n) (hK : K (some (mB (amd n r a b))) h) : ∀ d z, 0 ≤ d → d ≤ ds (ad r) a b + 1 → S20 z → (∀ p, bit z p ↔ (0 ≤ p ∧ p < n) ∧ ds (ad r) a p < d ∧ ds (ad r) a p + ds (ad r) p b = ds (ad r) a b) → am_AT 1 16 15 [some (mR 1 2 0 m), some (mB a), some (mB b), some (mI (ds (ad r) a b)), some (mI z), some (mI d)] h K := by
  have hn1 := hN.1
  have hn2 := hN.2.1
  have hD := ds_r hN hC ha hb
  refine lp (ds (ad r) a b + 1) (fun d ih z d0 d1 hz hbz => ?_)
  have hz1 := hz.1
  have hz2 := hz.2
  refine T16_15 ⟨by omega, ⟨by omega, ⟨fun c1 => ⟨by omega, ?_⟩, fun c1 => ⟨by omega, ⟨by omega, ⟨by omega, ⟨by omega, ?_⟩⟩⟩⟩⟩⟩⟩
  · refine am_rB hK (mkb_eq (by omega) (fun j => ?_)).symm
    rw [hbz]
    constructor
    · rintro ⟨h1, h2, h3⟩
      exact ⟨by omega, by omega, h3⟩
    · rintro ⟨h1, h2, h3⟩
      have h4 := ds_r hN hC ⟨h1.1, h2⟩ hb
      exact ⟨⟨h1.1, h2⟩, by omega, h3⟩
  · rw [(hM a ha.1 ha.2).2 d (by omega) (by omega), (hM b hb.1 hb.2).2 (ds (ad r) a b - d) (by omega) (by omega)]
    refine ih (by omega) _ (by omega) (by omega) (S20_or hz (S20_and S20_shl)) (fun p => ?_)
    rw [bt_or, bt_and, hbz, shl_ds hN hC ha (by omega), shl_ds hN hC hb (by omega)]
    constructor
    · rintro (⟨h1, h2, h3⟩ | ⟨⟨h1, h2⟩, -, h3⟩)
      · exact ⟨h1, by omega, h3⟩
      · rw [ds_comm (NT_sym hN)] at h3
        exact ⟨h1, by omega, by omega⟩
    · rintro ⟨h1, h2, h3⟩
      by_cases q : ds (ad r) a p < d
      · exact Or.inl ⟨h1, q, h3⟩
      · refine Or.inr ⟨⟨h1, by omega⟩, h1, ?_⟩
        rw [ds_comm (NT_sym hN)]
        omega
theorem C16_ok : am_CS 1 16 C16 := W16 (fun m a b h K hb => by
  obtain ⟨⟨⟨hN, hC, hM⟩, ha, hb⟩, hK⟩ := hb
  have hn2 := hN.2.1
  refine T16_0 ⟨by omega, ⟨by omega, ?_⟩⟩
  · rw [(hM a ha.1 ha.2).1 b hb.1 hb.2]
    exact L16 hN hC hM ha hb hK 0 0 (by omega) (by have := ds_r hN hC ha hb; omega) S20_0 (fun p => ⟨fun q => absurd q bt_zero, fun q => by have := ds_r hN hC ha q.1; omega⟩))
/-! 17 FactorNets$Metric.closer -/
def C17 : am_K := fun as h K => am_a3 as (fun v0 v1 v2 => am_o 2 v0 (fun m => am_n v1 (fun a => am_n v2 (fun b => ((NT (h (m - 2) 0) (nr h (m - 1) 0) ∧ CN (h (m - 2) 0) (nr h (m - 1) 0) ∧ MT h m (h (m - 2) 0) (nr h (m - 1) 0)) ∧ ad (nr h (m - 1) 0) a b) ∧ (K (some (mB (clo (h (m - 2) 0) (nr h (m - 1) 0) a b))) h)))))
theorem W17 {d : Nat} (H : ∀ (m : Int) (a : Int) (b : Int) (h : am_H) (K : Option am_V → am_H → Prop), ((NT (h (m - 2) 0) (nr h (m - 1) 0) ∧ CN (h (m - 2) 0) (nr h (m - 1) 0) ∧ MT h m (h (m - 2) 0) (nr h (m - 1) 0)) ∧ ad (nr h (m - 1) 0) a b) ∧ (K (some (mB (clo (h (m - 2) 0) (nr h (m - 1) 0) a b))) h) → am_AT d 17 0 [some (mR 1 2 0 m), some (mB a), some (mB b), none, none] h K) : am_CS d 17 C17 := by
  refine am_CS_of (T := tb17) (mL := 5) (rk := 1) rfl (fun as h K hC => ?_)
  obtain ⟨v0, v1, v2, rfl, hC0⟩ := am_a3_e hC
  obtain ⟨m, rfl, hC1⟩ := am_o_e hC0
  obtain ⟨a, rfl, hC2⟩ := am_n_e hC1
  obtain ⟨b, rfl, hC3⟩ := am_n_e hC2
  refine ⟨Nat.le_of_ble_eq_true rfl, ?_⟩
  exact H m a b h K hC3
theorem T17_0 {R : Option am_V → am_H → Prop} {h : am_H} {m : Int} {a : Int} {b : Int} (t : am_AT 1 17 5 [some (mR 1 2 0 m), some (mB a), some (mB b), some (mI 0), some (mI 0)] h R) : am_AT 1 17 0 [some (mR 1 2 0 m), some (mB a), some (mB b), none, none] h R :=
  am_T (d := 0) (m := 17) (T := tb17) (mL := 5) (rk := 1) (cuts := [(5, [1, 1, 1, 2, 2])]) (l := []) rfl trivial 8 (t)
theorem T17_5 {R : Option am_V → am_H → Prop} {h : am_H} {m : Int} {a : Int} {b : Int} {x3 : Int} {x4 : Int} (t : (R32 x4) ∧ (((19 ≤ x4) → ((R32 x3) ∧ (R (some (mB x3)) h))) ∧ ((x4 < 19) → ((0 ≤ a ∧ a < 20) ∧ ((0 ≤ x4 ∧ x4 < 20) ∧ (((h (((m + 22) + 1) + a) x4 = 0) → ((R32 x3) ∧ (R (some (mB x3)) h))) ∧ ((¬ h (((m + 22) + 1) + a) x4 = 0) → ((0 ≤ a ∧ a < 20) ∧ ((0 ≤ x4 ∧ x4 < 20) ∧ ((0 ≤ b ∧ b < 20) ∧ ((0 ≤ x4 + 1 ∧ x4 + 1 < 20) ∧ (am_AT 1 17 5 [some (mR 1 2 0 m), some (mB a), some (mB b), some (mI (iOr x3 (iAnd (h (((m + 22) + 1) + a) x4) (h (((m + 22) + 1) + b) (x4 + 1))))), some (mI (x4 + 1))] h R)))))))))))) : am_AT 1 17 5 [some (mR 1 2 0 m), some (mB a), some (mB b), some (mI x3), some (mI x4)] h R :=
  am_T (d := 0) (m := 17) (T := tb17) (mL := 5) (rk := 1) (cuts := [(5, [1, 1, 1, 2, 2])]) (l := []) rfl trivial 34 (And.intro (t).1 (And.intro (fun c8 => And.intro (((t).2).1 c8).1 ((((t).2).1 c8).2)) (fun c8 => And.intro (((t).2).2 c8).1 (And.intro ((((t).2).2 c8).2).1 (And.intro (fun c9 => And.intro ((((((t).2).2 c8).2).2).1 c9).1 (((((((t).2).2 c8).2).2).1 c9).2)) (fun c9 => And.intro ((((((t).2).2 c8).2).2).2 c9).1 (And.intro (((((((t).2).2 c8).2).2).2 c9).2).1 (And.intro ((((((((t).2).2 c8).2).2).2 c9).2).2).1 (And.intro (((((((((t).2).2 c8).2).2).2 c9).2).2).2).1 ((((((((((t).2).2 c8).2).2).2 c9).2).2).2).2))))))))))
theorem ds_adj {n : Int} {r : Int → Int} (hN : NT n r) (hC : CN n r) {a b p : Int} (hab : ad r a b) (hp : 0 ≤ p ∧ p < n) : ds (ad r) a p ≤ ds (ad r) b p + 1 := by
  have h1 := NT_in hN hab
  have h2 := ds_tri (CN_rc hN hC h1.1 h1.2) (CN_rc hN hC h1.2 hp)
  rw [ds_1 hab (hN.2.2 _ _ hab).2.2.1] at h2
  omega
theorem L17 {K : Option am_V → am_H → Prop} {h : am_H} {m a b n : Int} {r : Int → Int} (hN : NT n r) (hC : CN n r) (hM : MT h m n r) (hab : ad r a b) (hK : K (some (mB (clo n r a b))) h) : ∀ d z, 0 ≤ d → d ≤ 19 → S20 z → (∀ p, bit z p ↔ (0 ≤ p ∧ p < n) ∧ ds (ad r) a p < d ∧ ds (ad r) a p < ds (ad r) b p) → am_AT 1 17 5 [some (mR 1 2 0 m), some (mB a), some (mB b), some (mI z), some (mI d)] h K := by
  have hn1 := hN.1
  have hn2 := hN.2.1
  have hab1 := NT_in hN hab
  have ha := hab1.1
  have hb := hab1.2
  have fin : ∀ (d : Int) z, S20 z → (∀ p, bit z p ↔ (0 ≤ p ∧ p < n) ∧ ds (ad r) a p < d ∧ ds (ad r) a p < ds (ad r) b p) → (∀ p, 0 ≤ p → p < n → ds (ad r) a p < ds (ad r) b p → ds (ad r) a p < d) → K (some (mB z)) h := fun d z hz hbz hno => by
    refine am_rB hK (mkb_eq (by have := hz.1; have := hz.2; omega) (fun j => ?_)).symm
    rw [hbz]
    constructor
    · rintro ⟨h1, h2, h3⟩
      exact ⟨by omega, by omega, h3⟩
    · rintro ⟨h1, h2, h3⟩
      exact ⟨⟨h1.1, h2⟩, hno j h1.1 h2 h3, h3⟩
  refine lp 19 (fun d ih z d0 d1 hz hbz => ?_)
  have hz1 := hz.1
  have hz2 := hz.2
  refine T17_5 ⟨by omega, ⟨fun c1 => ⟨by omega, ?_⟩, fun c1 => ⟨by omega, ⟨by omega, ⟨fun c2 => ⟨by omega, ?_⟩, fun c2 => ⟨by omega, ⟨by omega, ⟨by omega, ⟨by omega, ?_⟩⟩⟩⟩⟩⟩⟩⟩⟩
  · refine fin d z hz hbz (fun p p0 p1 hp => ?_)
    have := ds_r hN hC hb ⟨p0, p1⟩
    omega
  · refine fin d z hz hbz (fun p p0 p1 hp => ?_)
    refine Classical.byContradiction fun q => ?_
    obtain ⟨e, he, ee⟩ := ds_sh (CN_rc hN hC ha ⟨p0, p1⟩)
    obtain ⟨x, hx⟩ := sh_lv he d.toNat (by omega)
    have hx2 := NT_rc hN ha ⟨_, hx.1⟩
    have : bit (shl r a d) x := bt_shl2.mpr ⟨by omega, hx⟩
    rw [← (hM a ha.1 ha.2).2 d d0 (by omega), c2] at this
    exact bt_zero this
  · rw [(hM a ha.1 ha.2).2 d (by omega) (by omega), (hM b hb.1 hb.2).2 (d + 1) (by omega) (by omega)]
    refine ih (by omega) _ (by omega) (by omega) (S20_or hz (S20_and S20_shl)) (fun p => ?_)
    rw [bt_or, bt_and, hbz, shl_ds hN hC ha (by omega), shl_ds hN hC hb (by omega)]
    constructor
    · rintro (⟨h1, h2, h3⟩ | ⟨⟨h1, h2⟩, -, h3⟩)
      · exact ⟨h1, by omega, h3⟩
      · exact ⟨h1, by omega, by omega⟩
    · rintro ⟨h1, h2, h3⟩
      by_cases q : ds (ad r) a p < d
      · exact Or.inl ⟨h1, q, h3⟩
      · have := ds_adj hN hC (NT_sym hN _ _ hab) h1
        exact Or.inr ⟨⟨h1, by omega⟩, h1, by omega⟩
theorem C17_ok : am_CS 1 17 C17 := W17 (fun m a b h K hb => T17_0 (by
  obtain ⟨⟨⟨hN, hC, hM⟩, hab⟩, hK⟩ := hb
  exact L17 hN hC hM hab hK 0 0 (by omega) (by omega) S20_0 (fun p => ⟨fun q => absurd q bt_zero, fun q => by have := ds_r hN hC (NT_in hN hab).1 q.1; omega⟩)))
/-! 88 FactorNets$Survey.measured -/
def C88 : am_K := fun as h K => am_a1 as (fun v0 => am_o 10 v0 (fun o => ((NT (h (o + 1) 0) (nr h (o + 2) 0) ∧ CN (h (o + 1) 0) (nr h (o + 2) 0)) ∧ 0 ≤ o ∧ (h o 4 = 1 → MT h (o + 3) (h (o + 1) 0) (nr h (o + 2) 0))) ∧ (∀ (h' : am_H), (∀ x i, ¬ (o + 3 < x ∧ x ≤ o + 45) → ¬ (x = o ∧ i = 4) → h' x i = h x i) ∧ h' o 4 = 1 ∧ MT h' (o + 3) (h (o + 1) 0) (nr h (o + 2) 0) → K (some (mR 1 2 0 ((o + 3)))) (h'))))
theorem W88 {d : Nat} (H : ∀ (o : Int) (h : am_H) (K : Option am_V → am_H → Prop), ((NT (h (o + 1) 0) (nr h (o + 2) 0) ∧ CN (h (o + 1) 0) (nr h (o + 2) 0)) ∧ 0 ≤ o ∧ (h o 4 = 1 → MT h (o + 3) (h (o + 1) 0) (nr h (o + 2) 0))) ∧ (∀ (h' : am_H), (∀ x i, ¬ (o + 3 < x ∧ x ≤ o + 45) → ¬ (x = o ∧ i = 4) → h' x i = h x i) ∧ h' o 4 = 1 ∧ MT h' (o + 3) (h (o + 1) 0) (nr h (o + 2) 0) → K (some (mR 1 2 0 ((o + 3)))) (h')) → am_AT d 88 0 [some (mR 1 10 0 o), none] h K) : am_CS d 88 C88 := by
  refine am_CS_of (T := tb88) (mL := 2) (rk := 3) rfl (fun as h K hC => ?_)
  obtain ⟨v0, rfl, hC0⟩ := am_a1_e hC
  obtain ⟨o, rfl, hC1⟩ := am_o_e hC0
  refine ⟨Nat.le_of_ble_eq_true rfl, ?_⟩
  exact H o h K hC1
theorem T88_0 {R : Option am_V → am_H → Prop} {h : am_H} {o : Int} (t : ((¬ h o 4 = 0) → (R (some (mR 1 2 0 (o + 3))) h)) ∧ ((h o 4 = 0) → (am_AT 4 88 9 [some (mR 1 10 0 o), some (mI 0)] h R))) : am_AT 4 88 0 [some (mR 1 10 0 o), none] h R :=
  am_T (d := 3) (m := 88) (T := tb88) (mL := 2) (rk := 3) (cuts := [(9, [1, 2])]) (l := [(14, C14)]) rfl ⟨am_CS_d (by decide) C14_ok, trivial⟩ 10 (And.intro (fun c10 => (t).1 c10) (fun c10 => (t).2 c10))
theorem T88_9 {R : Option am_V → am_H → Prop} {h : am_H} {o : Int} {x1 : Int} (t : (R32 x1) ∧ (((h (o + 1) 0 ≤ x1) → (R (some (mR 1 2 0 (o + 3))) (am_up h o 4 1))) ∧ ((x1 < h (o + 1) 0) → ((R32 x1) ∧ (((0 < (o + 1) ∧ (o + 1) < (o + 3)) ∧ (NT (h (o + 1) 0) (nr h ((o + 1) + 1) 0) ∧ CN (h (o + 1) 0) (nr h ((o + 1) + 1) 0)) ∧ (0 ≤ x1 ∧ x1 < h (o + 1) 0)) ∧ (∀ (h' : am_H), ((∀ x i, x ≠ (o + 3) + 1 + 1 + x1 → x ≠ (o + 3) + 22 + 1 + x1 → h' x i = h x i) ∧ MR h' (o + 3) (h (o + 1) 0) (nr h ((o + 1) + 1) 0) x1) → (am_AT 4 88 9 [some (mR 1 10 0 o), some (mI (x1 + 1))] h' R))))))) : am_AT 4 88 9 [some (mR 1 10 0 o), some (mI x1)] h R :=
  am_T (d := 3) (m := 88) (T := tb88) (mL := 2) (rk := 3) (cuts := [(9, [1, 2])]) (l := [(14, C14)]) rfl ⟨am_CS_d (by decide) C14_ok, trivial⟩ 17 (And.intro (t).1 (And.intro (fun c11 => And.intro (Or.inr rfl) (((t).2).1 c11)) (fun c11 => And.intro (((t).2).2 c11).1 (And.intro ((((t).2).2 c11).2).1 (fun z1_0 z1_1 => (((((t).2).2 c11).2).2) z1_0 z1_1)))))
theorem L88 {K : Option am_V → am_H → Prop} {h : am_H} {o : Int} (h0 : 0 ≤ o) (hN : NT (h (o + 1) 0) (nr h (o + 2) 0)) (hC : CN (h (o + 1) 0) (nr h (o + 2) 0)) (hK : ∀ h' : am_H, (∀ x i, ¬ (o + 3 < x ∧ x ≤ o + 45) → ¬ (x = o ∧ i = 4) → h' x i = h x i) ∧ h' o 4 = 1 ∧ MT h' (o + 3) (h (o + 1) 0) (nr h (o + 2) 0) → K (some (mR 1 2 0 (o + 3))) h') : ∀ (a : Int) (hh : am_H), 0 ≤ a → a ≤ h (o + 1) 0 → (∀ x i, ¬ (o + 3 < x ∧ x ≤ o + 45) → hh x i = h x i) → (∀ b, 0 ≤ b → b < a → MR hh (o + 3) (h (o + 1) 0) (nr h (o + 2) 0) b) → am_AT 4 88 9 [some (mR 1 10 0 o), some (mI a)] hh K := by
  have hn1 := hN.1
  have hn2 := hN.2.1
  refine lp (h (o + 1) 0) (fun a ih hh a0 a1 f1 f2 => ?_)
  have e1 : hh (o + 1) 0 = h (o + 1) 0 := f1 _ _ (by omega)
  have e2 : nr hh (o + 1 + 1) 0 = nr h (o + 2) 0 := nr_fr (by omega) (fun i => f1 _ _ (by omega))
  refine T88_9 ⟨by omega, ⟨fun c1 => ?_, fun c1 => ⟨by omega, ⟨⟨by omega, by rw [e1, e2]; exact ⟨hN, hC⟩, by omega⟩, fun h' q2 => ?_⟩⟩⟩⟩
  · refine hK _ ⟨fun x i hx1 hx2 => ?_, am_up_eq, fun b b0 b1 => ?_⟩
    · rw [am_up_n2 hx2]
      exact f1 x i hx1
    · have hM := f2 b b0 (by omega)
      exact ⟨fun p p0 p1 => by rw [am_up_ne (by omega)]; exact hM.1 p p0 p1, fun d d0 d1 => by rw [am_up_ne (by omega)]; exact hM.2 d d0 d1⟩
  · rw [e1, e2] at q2
    refine ih (by omega) h' (by omega) (by omega) (fun x i hx => ?_) (fun b b0 b1 => ?_)
    · rw [q2.1 x i (by omega) (by omega)]
      exact f1 x i hx
    · by_cases e : b = a
      · subst e
        exact q2.2
      · have hM := f2 b b0 (by omega)
        exact ⟨fun p p0 p1 => by rw [q2.1 _ _ (by omega) (by omega)]; exact hM.1 p p0 p1, fun d d0 d1 => by rw [q2.1 _ _ (by omega) (by omega)]; exact hM.2 d d0 d1⟩
theorem C88_ok : am_CS 4 88 C88 := W88 (fun o h K hb => am_AT_ok (fun hw hl => by
  obtain ⟨⟨⟨hN, hC⟩, h0, hM⟩, hK⟩ := hb
  refine T88_0 ⟨fun c1 => ?_, fun c1 => ?_⟩
  · have e4 : h o 4 = 1 := by
      have : h o 4 = 0 ∨ h o 4 = 1 := wf_b 10 4 hw (hl 0 _ rfl) rfl rfl
      omega
    exact hK h ⟨fun x i _ _ => rfl, e4, hM e4⟩
  · exact L88 h0 hN hC hK 0 h (by omega) hN.1 (fun x i _ => rfl) (fun b b0 b1 => by omega)))
