/-! ===== the reference's distances ===== -/
def RF (h : am_H) (n : Int) (r : Int → Int) : Prop := ∀ a b, 0 ≤ a → a < 20 → 0 ≤ b → b < 20 → h 580 (20 * a + b) = ds (ad r) a b
theorem RF_fr {h h' : am_H} {n : Int} {r : Int → Int} (H : RF h n r) (e : ∀ i, h' 580 i = h 580 i) : RF h' n r := fun a b a0 a1 b0 b1 => by rw [e]; exact H a b a0 a1 b0 b1
theorem NT_lt2 {n : Int} {r : Int → Int} (h : NT n r) {a b : Int} (ha : 0 ≤ a ∧ a < 20) {d : Nat} (e : sh (ad r) a d b) : d < 20 ∧ (0 ≤ b ∧ b < 20) := by
  have hn := h.2.1
  refine ⟨sh_lt (n := 20) (fun x y _ q => by have := (NT_in h q).2; omega) (by omega) e, ?_⟩
  exact wk_in (P := fun x => 0 ≤ x ∧ x < 20) (fun x y _ q => by have := (NT_in h q).2; omega) ha e.1
theorem ad_mem {h : am_H} {p k : Int} (h0 : 0 ≤ p) (h1 : p < 20) : ad (nr h 572 2) p k ↔ bit (h 572 (2 + p)) k := by
  unfold ad
  rw [nr_in h0 h1]
theorem S20_mem {n : Int} {h : am_H} (H : NT n (nr h 572 2)) (hr : ∀ p, 0 ≤ p → p < 22 → R32 (h 572 p)) (p : Int) (h0 : 0 ≤ p) (h1 : p < 20) : S20 (h 572 (2 + p)) :=
  S20_of (hr _ (by omega) (by omega)) (fun k hk => by
    have := (NT_in H ((ad_mem h0 h1).mpr hk)).2
    have := H.2.1
    omega)
theorem am_up_id {h : am_H} {q i : Int} : am_up h q i (h q i) = h := by
  funext a j
  by_cases c : a = q ∧ j = i
  · rw [c.1, c.2, am_up_eq]
  · rw [am_up_n2 c]
theorem wf_i {h : am_H} {n m : Nat} (q : Nat) (hw : am_wf h) (e : am_LY[q]? = some (2, n, m)) : ∀ p, 0 ≤ p → p < (n : Int) → R32 (h q p) := by
  intro p h0 h1
  have := (hw q 2 n m e).1 rfl p.toNat (by omega)
  rw [Int.toNat_of_nonneg h0] at this
  exact this
theorem wf_mem {h : am_H} (hw : am_wf h) : ∀ p, 0 ≤ p → p < 22 → R32 (h 572 p) := wf_i (n := 22) (m := 0) 572 hw (by decide +kernel)
/-! 211 FactorNetsModel.laysFar -/
def C211 : am_K := fun as h K => am_a1 as (fun v0 => am_oc 12 571 v0 ((NT (h 572 0) (nr h 572 2)) ∧ (∀ (h' : am_H), (∀ x i, x ≠ 580 → h' x i = h x i) ∧ RF h' (h 572 0) (nr h 572 2) → K (none) (h'))))
theorem W211 {d : Nat} (H : ∀  (h : am_H) (K : Option am_V → am_H → Prop), (NT (h 572 0) (nr h 572 2)) ∧ (∀ (h' : am_H), (∀ x i, x ≠ 580 → h' x i = h x i) ∧ RF h' (h 572 0) (nr h 572 2) → K (none) (h')) → am_AT d 211 0 [some (mR 1 12 0 571), none, none, none, none, none, none] h K) : am_CS d 211 C211 := by
  refine am_CS_of (T := tb211) (mL := 7) (rk := 0) rfl (fun as h K hC => ?_)
  obtain ⟨v0, rfl, hC0⟩ := am_a1_e hC
  obtain ⟨e0, hC1⟩ := am_oc_e hC0
  subst e0
  refine ⟨Nat.le_of_ble_eq_true rfl, ?_⟩
  exact H  h K hC1
theorem T211_0 {R : Option am_V → am_H → Prop} {h : am_H} (t : am_AT 2 211 2 [some (mR 1 12 0 571), some (mI 0), none, none, none, none, none] h R) : am_AT 2 211 0 [some (mR 1 12 0 571), none, none, none, none, none, none] h R :=
  am_T (d := 1) (m := 211) (T := tb211) (mL := 7) (rk := 0) (cuts := [(2, [1, 2, 0, 0, 0, 0, 0]), (17, [1, 2, 2, 2, 2, 0, 0]), (58, [1, 2, 2, 2, 2, 0, 0]), (68, [1, 2, 2, 2, 2, 2, 2]), (127, [1, 2, 2, 2, 2, 0, 2])]) (l := [(188, C188)]) rfl ⟨am_CS_d (by decide) C188_ok, trivial⟩ 6 (t)
theorem T211_2 {R : Option am_V → am_H → Prop} {h : am_H} {x1 : Int} (t : (R32 x1) ∧ (((20 ≤ x1) → (R none h)) ∧ ((x1 < 20) → (am_AT 2 211 17 [some (mR 1 12 0 571), some (mI x1), some (mI (iShl 1 x1)), some (mI (iShl 1 x1)), some (mI 0), none, none] h R)))) : am_AT 2 211 2 [some (mR 1 12 0 571), some (mI x1), none, none, none, none, none] h R :=
  am_T (d := 1) (m := 211) (T := tb211) (mL := 7) (rk := 0) (cuts := [(2, [1, 2, 0, 0, 0, 0, 0]), (17, [1, 2, 2, 2, 2, 0, 0]), (58, [1, 2, 2, 2, 2, 0, 0]), (68, [1, 2, 2, 2, 2, 2, 2]), (127, [1, 2, 2, 2, 2, 0, 2])]) (l := [(188, C188)]) rfl ⟨am_CS_d (by decide) C188_ok, trivial⟩ 15 (And.intro (t).1 (And.intro (fun c1 => ((t).2).1 c1) (fun c1 => ((t).2).2 c1)))
theorem T211_17 {R : Option am_V → am_H → Prop} {h : am_H} {x1 : Int} {x2 : Int} {x3 : Int} {x4 : Int} (t : (R32 x4) ∧ (((20 ≤ x4) → (am_AT 2 211 58 [some (mR 1 12 0 571), some (mI x1), some (mI x2), some (mI x3), some (mI 1), none, none] h R)) ∧ ((x4 < 20) → ((R32 x1) ∧ ((R32 x4) ∧ (((¬ x1 = x4) → ((0 ≤ (20 * x1) + x4 ∧ (20 * x1) + x4 < 400) ∧ (am_AT 2 211 17 [some (mR 1 12 0 571), some (mI x1), some (mI x2), some (mI x3), some (mI (x4 + 1)), none, none] (am_up h 580 ((20 * x1) + x4) 1000) R))) ∧ ((x1 = x4) → ((0 ≤ (20 * x1) + x4 ∧ (20 * x1) + x4 < 400) ∧ (am_AT 2 211 17 [some (mR 1 12 0 571), some (mI x1), some (mI x2), some (mI x3), some (mI (x4 + 1)), none, none] (am_up h 580 ((20 * x1) + x4) 0) R))))))))) : am_AT 2 211 17 [some (mR 1 12 0 571), some (mI x1), some (mI x2), some (mI x3), some (mI x4), none, none] h R :=
  am_T (d := 1) (m := 211) (T := tb211) (mL := 7) (rk := 0) (cuts := [(2, [1, 2, 0, 0, 0, 0, 0]), (17, [1, 2, 2, 2, 2, 0, 0]), (58, [1, 2, 2, 2, 2, 0, 0]), (68, [1, 2, 2, 2, 2, 2, 2]), (127, [1, 2, 2, 2, 2, 0, 2])]) (l := [(188, C188)]) rfl ⟨am_CS_d (by decide) C188_ok, trivial⟩ 22 (And.intro (t).1 (And.intro (fun c2 => ((t).2).1 c2) (fun c2 => And.intro (((t).2).2 c2).1 (And.intro ((((t).2).2 c2).2).1 (And.intro (fun c3 => And.intro ((((((t).2).2 c2).2).2).1 c3).1 (((((((t).2).2 c2).2).2).1 c3).2)) (fun c3 => And.intro ((((((t).2).2 c2).2).2).2 c3).1 (((((((t).2).2 c2).2).2).2 c3).2)))))))
theorem T211_58 {R : Option am_V → am_H → Prop} {h : am_H} {x1 : Int} {x2 : Int} {x3 : Int} {x4 : Int} (t : (R32 x3) ∧ (((x3 = 0) → (am_AT 2 211 2 [some (mR 1 12 0 571), some (mI (x1 + 1)), none, none, none, none, none] h R)) ∧ ((¬ x3 = 0) → (am_AT 2 211 68 [some (mR 1 12 0 571), some (mI x1), some (mI x2), some (mI x3), some (mI x4), some (mI 0), some (mI 0)] h R)))) : am_AT 2 211 58 [some (mR 1 12 0 571), some (mI x1), some (mI x2), some (mI x3), some (mI x4), none, none] h R :=
  am_T (d := 1) (m := 211) (T := tb211) (mL := 7) (rk := 0) (cuts := [(2, [1, 2, 0, 0, 0, 0, 0]), (17, [1, 2, 2, 2, 2, 0, 0]), (58, [1, 2, 2, 2, 2, 0, 0]), (68, [1, 2, 2, 2, 2, 2, 2]), (127, [1, 2, 2, 2, 2, 0, 2])]) (l := [(188, C188)]) rfl ⟨am_CS_d (by decide) C188_ok, trivial⟩ 10 (And.intro (t).1 (And.intro (fun c4 => ((t).2).1 c4) (fun c4 => ((t).2).2 c4)))
theorem T211_68 {R : Option am_V → am_H → Prop} {h : am_H} {x1 : Int} {x2 : Int} {x3 : Int} {x4 : Int} {x5 : Int} {x6 : Int} (t : (R32 x6) ∧ (((h 572 0 ≤ x6) → (am_AT 2 211 127 [some (mR 1 12 0 571), some (mI x1), some (mI (iOr x2 x5)), some (mI (iAnd x5 (iXor x2 (-1)))), some (mI x4), none, some (mI 0)] h R)) ∧ ((x6 < h 572 0) → ((R32 x3) ∧ ((R32 x6) ∧ ((0 ≤ x6 ∧ x6 < 32) ∧ (((¬ (bit x3 x6)) → (am_AT 2 211 68 [some (mR 1 12 0 571), some (mI x1), some (mI x2), some (mI x3), some (mI x4), some (mI (iOr x5 0)), some (mI (x6 + 1))] h R)) ∧ ((bit x3 x6) → ((0 ≤ 2 + x6 ∧ 2 + x6 < 22) ∧ (am_AT 2 211 68 [some (mR 1 12 0 571), some (mI x1), some (mI x2), some (mI x3), some (mI x4), some (mI (iOr x5 (h 572 (2 + x6)))), some (mI (x6 + 1))] h R)))))))))) : am_AT 2 211 68 [some (mR 1 12 0 571), some (mI x1), some (mI x2), some (mI x3), some (mI x4), some (mI x5), some (mI x6)] h R :=
  am_T (d := 1) (m := 211) (T := tb211) (mL := 7) (rk := 0) (cuts := [(2, [1, 2, 0, 0, 0, 0, 0]), (17, [1, 2, 2, 2, 2, 0, 0]), (58, [1, 2, 2, 2, 2, 0, 0]), (68, [1, 2, 2, 2, 2, 2, 2]), (127, [1, 2, 2, 2, 2, 0, 2])]) (l := [(188, C188)]) rfl ⟨am_CS_d (by decide) C188_ok, trivial⟩ 26 (And.intro (⟨by decide, by decide⟩) (And.intro (t).1 (And.intro (fun c5 => ((t).2).1 c5) (fun c5 => And.intro (((t).2).2 c5).1 (And.intro ((((t).2).2 c5).2).1 (And.intro (((((t).2).2 c5).2).2).1 (And.intro (fun c6 => ((((((t).2).2 c5).2).2).2).1 c6) (fun c6 => And.intro (((((((t).2).2 c5).2).2).2).2 c6).1 ((((((((t).2).2 c5).2).2).2).2 c6).2)))))))))
theorem T211_127 {R : Option am_V → am_H → Prop} {h : am_H} {x1 : Int} {x2 : Int} {x3 : Int} {x4 : Int} {x6 : Int} (t : (R32 x6) ∧ (((h 572 0 ≤ x6) → (am_AT 2 211 58 [some (mR 1 12 0 571), some (mI x1), some (mI x2), some (mI x3), some (mI (x4 + 1)), none, none] h R)) ∧ ((x6 < h 572 0) → ((R32 x3) ∧ ((R32 x6) ∧ ((0 ≤ x6 ∧ x6 < 32) ∧ (((¬ (bit x3 x6)) → ((0 ≤ (20 * x1) + x6 ∧ (20 * x1) + x6 < 400) ∧ ((0 ≤ (20 * x1) + x6 ∧ (20 * x1) + x6 < 400) ∧ (am_AT 2 211 127 [some (mR 1 12 0 571), some (mI x1), some (mI x2), some (mI x3), some (mI x4), none, some (mI (x6 + 1))] (am_up h 580 ((20 * x1) + x6) (h 580 ((20 * x1) + x6))) R)))) ∧ ((bit x3 x6) → ((0 ≤ (20 * x1) + x6 ∧ (20 * x1) + x6 < 400) ∧ ((R32 x4) ∧ (am_AT 2 211 127 [some (mR 1 12 0 571), some (mI x1), some (mI x2), some (mI x3), some (mI x4), none, some (mI (x6 + 1))] (am_up h 580 ((20 * x1) + x6) x4) R))))))))))) : am_AT 2 211 127 [some (mR 1 12 0 571), some (mI x1), some (mI x2), some (mI x3), some (mI x4), none, some (mI x6)] h R :=
  am_T (d := 1) (m := 211) (T := tb211) (mL := 7) (rk := 0) (cuts := [(2, [1, 2, 0, 0, 0, 0, 0]), (17, [1, 2, 2, 2, 2, 0, 0]), (58, [1, 2, 2, 2, 2, 0, 0]), (68, [1, 2, 2, 2, 2, 2, 2]), (127, [1, 2, 2, 2, 2, 0, 2])]) (l := [(188, C188)]) rfl ⟨am_CS_d (by decide) C188_ok, trivial⟩ 32 (And.intro (⟨by decide, by decide⟩) (And.intro (t).1 (And.intro (fun c7 => ((t).2).1 c7) (fun c7 => And.intro (((t).2).2 c7).1 (And.intro ((((t).2).2 c7).2).1 (And.intro (((((t).2).2 c7).2).2).1 (And.intro (fun c8 => And.intro (((((((t).2).2 c7).2).2).2).1 c8).1 (And.intro ((((((((t).2).2 c7).2).2).2).1 c8).2).1 (((((((((t).2).2 c7).2).2).2).1 c8).2).2))) (fun c8 => And.intro (((((((t).2).2 c7).2).2).2).2 c8).1 (And.intro ((((((((t).2).2 c7).2).2).2).2 c8).2).1 (((((((((t).2).2 c7).2).2).2).2 c8).2).2))))))))))
theorem L211 {K : Option am_V → am_H → Prop} {h : am_H} (hN : NT (h 572 0) (nr h 572 2)) (hR : ∀ p, 0 ≤ p → p < 20 → S20 (h 572 (2 + p))) (hK : ∀ h' : am_H, (∀ x i, x ≠ 580 → h' x i = h x i) ∧ RF h' (h 572 0) (nr h 572 2) → K none h') : ∀ (a : Int) (hh : am_H), 0 ≤ a → a ≤ 20 → (∀ x i, x ≠ 580 → hh x i = h x i) → (∀ x b, 0 ≤ x → x < a → 0 ≤ b → b < 20 → hh 580 (20 * x + b) = ds (ad (nr h 572 2)) x b) → am_AT 2 211 2 [some (mR 1 12 0 571), some (mI a), none, none, none, none, none] hh K := by
  have hn1 := hN.1
  have hn2 := hN.2.1
  generalize hr : nr h 572 2 = r at *
  refine lp 20 (fun a ih hh a0 a1 f1 f2 => ?_)
  refine T211_2 ⟨by omega, ⟨fun c1 => ?_, fun c1 => ?_⟩⟩
  · exact hK hh ⟨f1, fun x b x0 x1 b0 b1 => f2 x b x0 (by omega) b0 b1⟩
  · have LD : ∀ (d z y : Int) (g : am_H), 1 ≤ d → d ≤ 21 → S20 z → (∀ p, bit z p ↔ ∃ e : Nat, (e : Int) < d ∧ sh (ad r) a e p) → S20 y → (∀ p, bit y p ↔ sh (ad r) a (d - 1).toNat p) → (∀ x i, x ≠ 580 → g x i = h x i) → (∀ x b, 0 ≤ x → x < a → 0 ≤ b → b < 20 → g 580 (20 * x + b) = ds (ad r) x b) → (∀ b, 0 ≤ b → b < 20 → g 580 (20 * a + b) = @ite Int (∃ e : Nat, (e : Int) < d ∧ sh (ad r) a e b) (Classical.propDecidable _) (ds (ad r) a b) 1000) → am_AT 2 211 58 [some (mR 1 12 0 571), some (mI a), some (mI z), some (mI y), some (mI d), none, none] g K := by
      refine lp 21 (fun d ihd z y g d0 d1 hz hbz hy hby g1 g2 g3 => ?_)
      have hy1 := hy.1
      have hy2 := hy.2
      refine T211_58 ⟨by omega, ⟨fun c1_1 => ?_, fun c1_1 => ?_⟩⟩
      · refine ih c1 g (by omega) (by omega) g1 (fun x b x0 x1 b0 b1 => ?_)
        by_cases q : x = a
        · subst q
          rw [g3 b b0 b1]
          by_cases q2 : ∃ e : Nat, (e : Int) < d ∧ sh (ad r) x e b
          · rw [if_pos q2]
          · rw [if_neg q2, ds_far]
            rintro hrc
            obtain ⟨e, he⟩ := sh_ex hrc
            by_cases q3 : (e : Int) < d
            · exact q2 ⟨e, q3, he⟩
            · obtain ⟨w, hw⟩ := sh_lv he (d - 1).toNat (by omega)
              have := (hby w).mpr hw
              rw [c1_1] at this
              exact bt_zero this
        · exact g2 x b x0 (by omega) b0 b1
      · have hdl : d - 1 < 20 := by
          obtain ⟨k, hk⟩ := bt_some (x := y) (by omega) c1_1
          have := (NT_lt2 hN ⟨a0, c1⟩ ((hby k).mp hk)).1
          omega
        have L5 : ∀ (p w : Int), 0 ≤ p → p ≤ h 572 0 → S20 w → (∀ k, bit w k ↔ ∃ q, (0 ≤ q ∧ q < p) ∧ bit y q ∧ ad r q k) → am_AT 2 211 68 [some (mR 1 12 0 571), some (mI a), some (mI z), some (mI y), some (mI d), some (mI w), some (mI p)] g K := by
          refine lp (h 572 0) (fun p ih5 w p0 p1 hw hbw => ?_)
          have e1 : g 572 0 = h 572 0 := g1 _ _ (by omega)
          refine T211_68 ⟨by omega, ⟨fun c1_0 => ?_, fun c1_0 => ⟨by omega, ⟨by omega, ⟨by omega, ⟨fun c2_0 => ?_, fun c2_0 => ⟨by omega, ?_⟩⟩⟩⟩⟩⟩⟩
          · have hb2 : ∀ k, bit (iAnd w (iXor z (-1))) k ↔ sh (ad r) a d.toNat k := by
              intro k
              rw [bt_and, bt_not, hbw, hbz, show d.toNat = (d - 1).toNat + 1 by omega, sh_s]
              constructor
              · rintro ⟨⟨q, q1, q2, q3⟩, -, -, h8⟩
                exact ⟨⟨q, (hby q).mp q2, q3⟩, fun e he hs => h8 ⟨e, by omega, hs⟩⟩
              · rintro ⟨⟨q, q2, q3⟩, h8⟩
                have q4 := NT_in hN q3
                exact ⟨⟨q, by omega, (hby q).mpr q2, q3⟩, by omega, by omega, fun ⟨e, a1, a2⟩ => h8 e (by omega) a2⟩
            have hw2 : S20 (iAnd w (iXor z (-1))) := S20_and hw
            have hw3 := hw2.1
            have hw4 := hw2.2
            have L6 : ∀ (p : Int) (f : am_H), 0 ≤ p → p ≤ h 572 0 → (∀ x i, x ≠ 580 → f x i = h x i) → (∀ x b, 0 ≤ x → x < a → 0 ≤ b → b < 20 → f 580 (20 * x + b) = ds (ad r) x b) → (∀ b, 0 ≤ b → b < 20 → f 580 (20 * a + b) = @ite Int ((∃ e : Nat, (e : Int) < d ∧ sh (ad r) a e b) ∨ (b < p ∧ sh (ad r) a d.toNat b)) (Classical.propDecidable _) (ds (ad r) a b) 1000) → am_AT 2 211 127 [some (mR 1 12 0 571), some (mI a), some (mI (iOr z w)), some (mI (iAnd w (iXor z (-1)))), some (mI d), none, some (mI p)] f K := by
              refine lp (h 572 0) (fun p ih6 f p0 p1 k1 k2 k3 => ?_)
              have e2 : f 572 0 = h 572 0 := k1 _ _ (by omega)
              refine T211_127 ⟨by omega, ⟨fun c1_2 => ?_, fun c1_2 => ⟨by omega, ⟨by omega, ⟨by omega, ⟨fun c2_1 => ⟨by omega, ⟨by omega, ?_⟩⟩, fun c2_1 => ⟨by omega, ⟨by omega, ?_⟩⟩⟩⟩⟩⟩⟩⟩
              · refine ihd (by omega) _ _ f (by omega) (by omega) (S20_or hz hw) (fun k => ?_) hw2 (fun k => ?_) k1 k2 (fun b b0 b1 => ?_)
                · rw [bt_or, hbz, hbw]
                  constructor
                  · rintro (⟨e, a1, a2⟩ | ⟨q, q1, q2, q3⟩)
                    · exact ⟨e, by omega, a2⟩
                    · have q4 := (hby q).mp q2
                      obtain ⟨e, a1, a2⟩ := sh_le (show wk (ad r) ((d - 1).toNat + 1) a k from ⟨q, q4.1, q3⟩)
                      exact ⟨e, by omega, a2⟩
                  · rintro ⟨e, a1, a2⟩
                    by_cases q : (e : Int) < d
                    · exact Or.inl ⟨e, q, a2⟩
                    · have : e = (d - 1).toNat + 1 := by omega
                      subst this
                      obtain ⟨⟨q, q2, q3⟩, -⟩ := sh_s.mp a2
                      have q4 := NT_in hN q3
                      exact Or.inr ⟨q, by omega, (hby q).mpr q2, q3⟩
                · rw [hb2, show (d + 1 - 1).toNat = d.toNat by omega]
                · rw [k3 b b0 b1]
                  by_cases q : ∃ e : Nat, (e : Int) < d + 1 ∧ sh (ad r) a e b
                  · rw [if_pos q]
                    by_cases q2 : (∃ e : Nat, (e : Int) < d ∧ sh (ad r) a e b) ∨ (b < p ∧ sh (ad r) a d.toNat b)
                    · rw [if_pos q2]
                    · exfalso
                      obtain ⟨e, a1, a2⟩ := q
                      by_cases q3 : (e : Int) < d
                      · exact q2 (Or.inl ⟨e, q3, a2⟩)
                      · have q4 : e = d.toNat := by omega
                        subst q4
                        have q5 : 0 ≤ b ∧ b < h 572 0 := by
                          rw [show d.toNat = (d - 1).toNat + 1 by omega] at a2
                          obtain ⟨⟨q, -, q6⟩, -⟩ := sh_s.mp a2
                          exact (NT_in hN q6).2
                        exact q2 (Or.inr ⟨by omega, a2⟩)
                  · rw [if_neg q, if_neg]
                    rintro (⟨e, a1, a2⟩ | ⟨-, a2⟩)
                    · exact q ⟨e, by omega, a2⟩
                    · exact q ⟨d.toNat, by omega, a2⟩
              · have e3 : am_up f 580 (20 * a + p) (f 580 (20 * a + p)) = f := am_up_id
                rw [e3]
                refine ih6 (by omega) f (by omega) (by omega) k1 k2 (fun b b0 b1 => ?_)
                rw [k3 b b0 b1]
                have hnp : ¬ sh (ad r) a d.toNat p := fun q => c2_1 ((hb2 p).mpr q)
                congr 1
                refine propext ⟨fun q => q.imp id (fun q => ⟨by omega, q.2⟩), fun q => q.imp id (fun q => ⟨?_, q.2⟩)⟩
                have : b ≠ p := fun e => hnp (e ▸ q.2)
                omega
              · have hsp : sh (ad r) a d.toNat p := (hb2 p).mp c2_1
                refine ih6 (by omega) _ (by omega) (by omega) (fun x i hx => ?_) (fun x b x0 x1 b0 b1 => ?_) (fun b b0 b1 => ?_)
                · rw [am_up_ne hx]
                  exact k1 x i hx
                · rw [am_up_ne2 (by omega)]
                  exact k2 x b x0 x1 b0 b1
                · by_cases q : b = p
                  · subst q
                    rw [am_up_eq, if_pos (Or.inr ⟨by omega, hsp⟩), ds_eq hsp]
                    omega
                  · rw [am_up_ne2 (by omega), k3 b b0 b1]
                    congr 1
                    exact propext ⟨fun q => q.imp id (fun q => ⟨by omega, q.2⟩), fun q2 => q2.imp id (fun q2 => ⟨by omega, q2.2⟩)⟩
            refine L6 0 g (by omega) hn1 g1 g2 (fun b b0 b1 => ?_)
            rw [g3 b b0 b1]
            congr 1
            exact propext ⟨Or.inl, fun q => q.elim id (fun q => by omega)⟩
          · have hnp : ¬ bit y p := c2_0
            have e5 : iOr w 0 = w := bt_ext (rg_or _ _) (by have := hw.1; have := hw.2; omega) (fun k _ _ => by rw [bt_or]; exact ⟨fun q => q.elim id (fun q => absurd q bt_zero), Or.inl⟩)
            rw [e5]
            refine ih5 (by omega) w (by omega) (by omega) hw (fun k => ?_)
            rw [hbw]
            constructor
            · rintro ⟨q, q1, q2⟩
              exact ⟨q, by omega, q2⟩
            · rintro ⟨q, q1, q2⟩
              have : q ≠ p := fun e => hnp (e ▸ q2.1)
              exact ⟨q, by omega, q2⟩
          · have e6 : g 572 (2 + p) = h 572 (2 + p) := g1 _ _ (by omega)
            rw [e6]
            refine ih5 (by omega) _ (by omega) (by omega) (S20_or hw (hR p p0 (by omega))) (fun k => ?_)
            rw [bt_or, hbw]
            constructor
            · rintro (⟨q, q1, q2⟩ | q)
              · exact ⟨q, by omega, q2⟩
              · exact ⟨p, by omega, c2_0, by rw [← hr, ad_mem p0 (by omega)]; exact q⟩
            · rintro ⟨q, q1, q2, q3⟩
              by_cases e : q = p
              · subst e
                refine Or.inr ?_
                rw [← hr, ad_mem p0 (by omega)] at q3
                exact q3
              · exact Or.inl ⟨q, by omega, q2, q3⟩
        exact L5 0 0 (by omega) hn1 S20_0 (fun k => ⟨fun q => absurd q bt_zero, fun ⟨q, q1, q2⟩ => by omega⟩)
    have L1 : ∀ (b : Int) (g : am_H), 0 ≤ b → b ≤ 20 → (∀ x i, x ≠ 580 → g x i = h x i) → (∀ x y, 0 ≤ x → x < a → 0 ≤ y → y < 20 → g 580 (20 * x + y) = ds (ad r) x y) → (∀ y, 0 ≤ y → y < b → g 580 (20 * a + y) = if a = y then 0 else 1000) → am_AT 2 211 17 [some (mR 1 12 0 571), some (mI a), some (mI (iShl 1 a)), some (mI (iShl 1 a)), some (mI b), none, none] g K := by
      refine lp 20 (fun b ihb g b0 b1 g1 g2 g3 => ?_)
      refine T211_17 ⟨by omega, ⟨fun c1_3 => ?_, fun c1_3 => ⟨by omega, ⟨by omega, ⟨fun c2 => ⟨by omega, ?_⟩, fun c2 => ⟨by omega, ?_⟩⟩⟩⟩⟩⟩
      · refine LD 1 _ _ g (by omega) (by omega) (S20_1 a0 c1) (fun p => ?_) (S20_1 a0 c1) (fun p => ?_) g1 g2 (fun y y0 y1 => ?_)
        · rw [bt_1 a0 (by omega)]
          constructor
          · intro q
            exact ⟨0, by omega, sh_0.mpr q⟩
          · rintro ⟨e, a1, a2⟩
            have : e = 0 := by omega
            subst this
            exact sh_0.mp a2
        · rw [bt_1 a0 (by omega), show ((1 : Int) - 1).toNat = 0 from rfl, sh_0]
        · rw [g3 y y0 (by omega)]
          by_cases q : a = y
          · subst q
            rw [if_pos rfl, if_pos ⟨0, by omega, sh_0.mpr rfl⟩, ds_0]
          · rw [if_neg q, if_neg]
            rintro ⟨e, a1, a2⟩
            have : e = 0 := by omega
            subst this
            exact q (sh_0.mp a2).symm
      · refine ihb c1_3 _ (by omega) (by omega) (fun x i hx => by rw [am_up_ne hx]; exact g1 x i hx) (fun x y x0 x1 y0 y1 => by rw [am_up_ne2 (by omega)]; exact g2 x y x0 x1 y0 y1) (fun y y0 y1 => ?_)
        by_cases q : y = b
        · subst q
          rw [am_up_eq, if_neg c2]
        · rw [am_up_ne2 (by omega)]
          exact g3 y y0 (by omega)
      · refine ihb c1_3 _ (by omega) (by omega) (fun x i hx => by rw [am_up_ne hx]; exact g1 x i hx) (fun x y x0 x1 y0 y1 => by rw [am_up_ne2 (by omega)]; exact g2 x y x0 x1 y0 y1) (fun y y0 y1 => ?_)
        by_cases q : y = b
        · subst q
          rw [am_up_eq, if_pos c2]
        · rw [am_up_ne2 (by omega)]
          exact g3 y y0 (by omega)
    exact L1 0 hh (by omega) (by omega) f1 f2 (fun y y0 y1 => by omega)
theorem C211_ok : am_CS 2 211 C211 := W211 (fun h K hb => am_AT_ok (fun hw hl => T211_0 (L211 hb.1 (S20_mem hb.1 (wf_mem hw)) hb.2 0 h (by omega) (by omega) (fun x i _ => rfl) (fun x b x0 x1 => by omega))))
/-! 212 FactorNetsModel.farOf -/
def C212 : am_K := fun as h K => am_a3 as (fun v0 v1 v2 => am_oc 12 571 v0 (am_n v1 (fun a => am_n v2 (fun b => ((0 ≤ a ∧ a < 20) ∧ (0 ≤ b ∧ b < 20)) ∧ (K (some (mB (h 580 (20 * a + b)))) h)))))
theorem W212 {d : Nat} (H : ∀ (a : Int) (b : Int) (h : am_H) (K : Option am_V → am_H → Prop), ((0 ≤ a ∧ a < 20) ∧ (0 ≤ b ∧ b < 20)) ∧ (K (some (mB (h 580 (20 * a + b)))) h) → am_AT d 212 0 [some (mR 1 12 0 571), some (mB a), some (mB b)] h K) : am_CS d 212 C212 := by
  refine am_CS_of (T := tb212) (mL := 3) (rk := 1) rfl (fun as h K hC => ?_)
  obtain ⟨v0, v1, v2, rfl, hC0⟩ := am_a3_e hC
  obtain ⟨e0, hC1⟩ := am_oc_e hC0
  subst e0
  obtain ⟨a, rfl, hC2⟩ := am_n_e hC1
  obtain ⟨b, rfl, hC3⟩ := am_n_e hC2
  refine ⟨Nat.le_of_ble_eq_true rfl, ?_⟩
  exact H a b h K hC3
theorem T212_0 {R : Option am_V → am_H → Prop} {h : am_H} {a : Int} {b : Int} (t : (0 ≤ (20 * a) + b ∧ (20 * a) + b < 400) ∧ (R (some (mB (h 580 ((20 * a) + b)))) h)) : am_AT 1 212 0 [some (mR 1 12 0 571), some (mB a), some (mB b)] h R :=
  am_T (d := 0) (m := 212) (T := tb212) (mL := 3) (rk := 1) (cuts := []) (l := []) rfl trivial 13 (And.intro (t).1 ((t).2))
theorem C212_ok : am_CS 1 212 C212 := W212 (fun a b h K hb => T212_0 ⟨by omega, hb.2⟩)
/-! 213 FactorNetsModel.isWhole -/
def C213 : am_K := fun as h K => am_a1 as (fun v0 => am_oc 12 571 v0 ((NT (h 572 0) (nr h 572 2)) ∧ (∀ (h' : am_H), (∀ x i, x ≠ 580 → h' x i = h x i) ∧ RF h' (h 572 0) (nr h 572 2) → K (some (mP (CN (h 572 0) (nr h 572 2)))) (h'))))
theorem W213 {d : Nat} (H : ∀  (h : am_H) (K : Option am_V → am_H → Prop), (NT (h 572 0) (nr h 572 2)) ∧ (∀ (h' : am_H), (∀ x i, x ≠ 580 → h' x i = h x i) ∧ RF h' (h 572 0) (nr h 572 2) → K (some (mP (CN (h 572 0) (nr h 572 2)))) (h')) → am_AT d 213 0 [some (mR 1 12 0 571), none] h K) : am_CS d 213 C213 := by
  refine am_CS_of (T := tb213) (mL := 2) (rk := 4) rfl (fun as h K hC => ?_)
  obtain ⟨v0, rfl, hC0⟩ := am_a1_e hC
  obtain ⟨e0, hC1⟩ := am_oc_e hC0
  subst e0
  refine ⟨Nat.le_of_ble_eq_true rfl, ?_⟩
  exact H  h K hC1
theorem T213_0 {R : Option am_V → am_H → Prop} {h : am_H} (t : (NT (h 572 0) (nr h 572 2)) ∧ (∀ (h' : am_H), ((∀ x i, x ≠ 580 → h' x i = h x i) ∧ RF h' (h 572 0) (nr h 572 2)) → (am_AT 3 213 6 [some (mR 1 12 0 571), some (mI 0)] h' R))) : am_AT 3 213 0 [some (mR 1 12 0 571), none] h R :=
  am_T (d := 2) (m := 213) (T := tb213) (mL := 2) (rk := 4) (cuts := [(6, [1, 2])]) (l := [(211, C211), (212, C212)]) rfl ⟨am_CS_d (by decide) C211_ok, am_CS_d (by decide) C212_ok, trivial⟩ 8 (And.intro (rfl) (And.intro (t).1 (fun z1_0 z1_1 => ((t).2) z1_0 z1_1)))
theorem T213_6 {R : Option am_V → am_H → Prop} {h : am_H} {x1 : Int} (t : (R32 x1) ∧ (((h 572 0 ≤ x1) → (R (some (mP ((1 : Int) = 1))) h)) ∧ ((x1 < h 572 0) → ((R32 x1) ∧ (((0 ≤ (0 : Int) ∧ (0 : Int) < 20) ∧ (0 ≤ x1 ∧ x1 < 20)) ∧ (((h 580 (20 * (0 : Int) + x1) < 1000) → (am_AT 3 213 6 [some (mR 1 12 0 571), some (mI (x1 + 1))] h R)) ∧ ((1000 ≤ h 580 (20 * (0 : Int) + x1)) → (R (some (mP ((0 : Int) = 1))) h)))))))) : am_AT 3 213 6 [some (mR 1 12 0 571), some (mI x1)] h R :=
  am_T (d := 2) (m := 213) (T := tb213) (mL := 2) (rk := 4) (cuts := [(6, [1, 2])]) (l := [(211, C211), (212, C212)]) rfl ⟨am_CS_d (by decide) C211_ok, am_CS_d (by decide) C212_ok, trivial⟩ 18 (And.intro (⟨by decide, by decide⟩) (And.intro (t).1 (And.intro (fun c9 => And.intro (Or.inr rfl) (((t).2).1 c9)) (fun c9 => And.intro (((t).2).2 c9).1 (And.intro (rfl) (And.intro ((((t).2).2 c9).2).1 (And.intro (fun c10 => (((((t).2).2 c9).2).2).1 c10) (fun c10 => And.intro (Or.inl rfl) ((((((t).2).2 c9).2).2).2 c10)))))))))
theorem L213 {K : Option am_V → am_H → Prop} {h : am_H} {n : Int} {r : Int → Int} (hn : h 572 0 = n) (hN : NT n r) (hF : RF h n r) (hK : K (some (mP (CN n r))) h) : ∀ i, 0 ≤ i → i ≤ n → (∀ p, 0 ≤ p → p < i → rc (ad r) 0 p) → am_AT 3 213 6 [some (mR 1 12 0 571), some (mI i)] h K := by
  have hn1 := hN.1
  have hn2 := hN.2.1
  refine lp n (fun i ih i0 i1 hc => ?_)
  refine T213_6 ⟨by omega, ⟨fun c1 => ?_, fun c1 => ⟨by omega, ⟨by omega, ⟨fun c2 => ?_, fun c2 => ?_⟩⟩⟩⟩⟩
  · exact am_rb1 hK (fun p p0 p1 => hc p p0 (by omega))
  · refine ih (by omega) (by omega) (by omega) (fun p p0 p1 => ?_)
    by_cases q : p = i
    · subst q
      rw [hF 0 p (by omega) (by omega) i0 (by omega)] at c2
      refine Classical.byContradiction fun z => ?_
      rw [ds_far z] at c2
      omega
    · exact hc p p0 (by omega)
  · refine am_rb0 hK (fun z => ?_)
    rw [hF 0 i (by omega) (by omega) i0 (by omega)] at c2
    have := ds_r hN z (a := 0) (b := i) (by omega) (by omega)
    omega
theorem C213_ok : am_CS 3 213 C213 := W213 (fun h K hb => T213_0 ⟨hb.1, fun h' q => L213 (n := h 572 0) (q.1 _ _ (by omega)) hb.1 q.2 (hb.2 h' q) 0 (by omega) hb.1.1 (fun p p0 p1 => by omega)⟩)
/-! 209 FactorNetsModel.is -/
def C209 : am_K := fun as h K => am_a1 as (fun v0 => am_oc 12 571 v0 (K (some (mP (0 < h 572 0))) h))
theorem W209 {d : Nat} (H : ∀  (h : am_H) (K : Option am_V → am_H → Prop), K (some (mP (0 < h 572 0))) h → am_AT d 209 0 [some (mR 1 12 0 571)] h K) : am_CS d 209 C209 := by
  refine am_CS_of (T := tb209) (mL := 1) (rk := 4) rfl (fun as h K hC => ?_)
  obtain ⟨v0, rfl, hC0⟩ := am_a1_e hC
  obtain ⟨e0, hC1⟩ := am_oc_e hC0
  subst e0
  refine ⟨Nat.le_of_ble_eq_true rfl, ?_⟩
  exact H  h K hC1
theorem T209_0 {R : Option am_V → am_H → Prop} {h : am_H} (t : ((h 572 0 ≤ 0) → (R (some (mP ((0 : Int) = 1))) h)) ∧ ((0 < h 572 0) → (R (some (mP ((1 : Int) = 1))) h))) : am_AT 1 209 0 [some (mR 1 12 0 571)] h R :=
  am_T (d := 0) (m := 209) (T := tb209) (mL := 1) (rk := 4) (cuts := []) (l := []) rfl trivial 12 (And.intro (⟨by decide, by decide⟩) (And.intro (fun c11 => And.intro (Or.inl rfl) ((t).1 c11)) (fun c11 => And.intro (Or.inr rfl) ((t).2 c11))))
theorem C209_ok : am_CS 1 209 C209 := W209 (fun h K hb => T209_0 ⟨fun c => am_rb0 hb (by omega), fun c => am_rb1 hb c⟩)
/-! 210 FactorNetsModel.isPoint -/
def C210 : am_K := fun as h K => am_a2 as (fun v0 v1 => am_oc 12 571 v0 (am_n v1 (fun p => (h 572 0 ≤ 20 ∧ 0 ≤ h 572 0) ∧ (K (some (mP (0 ≤ p ∧ p < h 572 0))) h))))
theorem W210 {d : Nat} (H : ∀ (p : Int) (h : am_H) (K : Option am_V → am_H → Prop), (h 572 0 ≤ 20 ∧ 0 ≤ h 572 0) ∧ (K (some (mP (0 ≤ p ∧ p < h 572 0))) h) → am_AT d 210 0 [some (mR 1 12 0 571), some (mB p)] h K) : am_CS d 210 C210 := by
  refine am_CS_of (T := tb210) (mL := 2) (rk := 4) rfl (fun as h K hC => ?_)
  obtain ⟨v0, v1, rfl, hC0⟩ := am_a2_e hC
  obtain ⟨e0, hC1⟩ := am_oc_e hC0
  subst e0
  obtain ⟨p, rfl, hC2⟩ := am_n_e hC1
  refine ⟨Nat.le_of_ble_eq_true rfl, ?_⟩
  exact H p h K hC2
theorem T210_0 {R : Option am_V → am_H → Prop} {h : am_H} {p : Int} (t : (R32 ((h 572 0) - 1)) ∧ (R (some (mP ((0 : Int) ≤ p ∧ p ≤ ((h 572 0) - 1)))) h)) : am_AT 2 210 0 [some (mR 1 12 0 571), some (mB p)] h R :=
  am_T (d := 1) (m := 210) (T := tb210) (mL := 2) (rk := 4) (cuts := []) (l := [(187, C187)]) rfl ⟨am_CS_d (by decide) C187_ok, trivial⟩ 16 (And.intro (⟨by decide, by decide⟩) (And.intro (t).1 ((t).2)))
theorem C210_ok : am_CS 2 210 C210 := W210 (fun p h K hb => T210_0 ⟨by omega, am_rb hb.2 ⟨fun q => ⟨q.1, by omega⟩, fun q => ⟨q.1, by omega⟩⟩⟩)
/-- over against one another -/
def thet (r : Int → Int) (k l : Int) : Prop := ds (ad r) (lo r k) (lo r l) + ds (ad r) (hi r k) (hi r l) ≠ ds (ad r) (lo r k) (hi r l) + ds (ad r) (hi r k) (lo r l)
/-- the common point -/
noncomputable def jnt (r : Int → Int) (k l : Int) : Int := if k = l then -1 else if lo r k = lo r l ∨ lo r k = hi r l then lo r k else if hi r k = lo r l ∨ hi r k = hi r l then hi r k else -1
/-- they fork -/
def tau (r : Int → Int) (k l : Int) : Prop := jnt r k l ≠ -1 ∧ ∀ x, (ad r (lo r k + hi r k - jnt r k l) x ∧ ad r (lo r l + hi r l - jnt r k l) x) ↔ x = jnt r k l
/-! 214 FactorNetsModel.isTheta -/
def C214 : am_K := fun as h K => am_a3 as (fun v0 v1 v2 => am_oc 12 571 v0 (am_n v1 (fun k => am_n v2 (fun l => ((NT (h 572 0) (nr h 572 2) ∧ CN (h 572 0) (nr h 572 2) ∧ RF h (h 572 0) (nr h 572 2) ∧ RLn h (nr h 572 2)) ∧ (0 ≤ k ∧ k < nl (nr h 572 2)) ∧ (0 ≤ l ∧ l < nl (nr h 572 2))) ∧ (K (some (mP (thet (nr h 572 2) k l))) h)))))
theorem W214 {d : Nat} (H : ∀ (k : Int) (l : Int) (h : am_H) (K : Option am_V → am_H → Prop), ((NT (h 572 0) (nr h 572 2) ∧ CN (h 572 0) (nr h 572 2) ∧ RF h (h 572 0) (nr h 572 2) ∧ RLn h (nr h 572 2)) ∧ (0 ≤ k ∧ k < nl (nr h 572 2)) ∧ (0 ≤ l ∧ l < nl (nr h 572 2))) ∧ (K (some (mP (thet (nr h 572 2) k l))) h) → am_AT d 214 0 [some (mR 1 12 0 571), some (mB k), some (mB l)] h K) : am_CS d 214 C214 := by
  refine am_CS_of (T := tb214) (mL := 3) (rk := 4) rfl (fun as h K hC => ?_)
  obtain ⟨v0, v1, v2, rfl, hC0⟩ := am_a3_e hC
  obtain ⟨e0, hC1⟩ := am_oc_e hC0
  subst e0
  obtain ⟨k, rfl, hC2⟩ := am_n_e hC1
  obtain ⟨l, rfl, hC3⟩ := am_n_e hC2
  refine ⟨Nat.le_of_ble_eq_true rfl, ?_⟩
  exact H k l h K hC3
theorem T214_0 {R : Option am_V → am_H → Prop} {h : am_H} {k : Int} {l : Int} (t : (0 ≤ k ∧ k < 190) ∧ ((0 ≤ l ∧ l < 190) ∧ (((0 ≤ (h 581 k) ∧ (h 581 k) < 20) ∧ (0 ≤ (h 581 l) ∧ (h 581 l) < 20)) ∧ ((0 ≤ k ∧ k < 190) ∧ ((0 ≤ l ∧ l < 190) ∧ (((0 ≤ (h 582 k) ∧ (h 582 k) < 20) ∧ (0 ≤ (h 582 l) ∧ (h 582 l) < 20)) ∧ ((0 ≤ k ∧ k < 190) ∧ ((0 ≤ l ∧ l < 190) ∧ (((0 ≤ (h 581 k) ∧ (h 581 k) < 20) ∧ (0 ≤ (h 582 l) ∧ (h 582 l) < 20)) ∧ ((0 ≤ k ∧ k < 190) ∧ ((0 ≤ l ∧ l < 190) ∧ (((0 ≤ (h 582 k) ∧ (h 582 k) < 20) ∧ (0 ≤ (h 581 l) ∧ (h 581 l) < 20)) ∧ ((R32 ((h 580 (20 * (h 581 k) + (h 581 l))) + (h 580 (20 * (h 582 k) + (h 582 l))))) ∧ ((R32 ((h 580 (20 * (h 581 k) + (h 582 l))) + (h 580 (20 * (h 582 k) + (h 581 l))))) ∧ ((((h 580 (20 * (h 581 k) + (h 581 l))) + (h 580 (20 * (h 582 k) + (h 582 l))) = (h 580 (20 * (h 581 k) + (h 582 l))) + (h 580 (20 * (h 582 k) + (h 581 l)))) → (R (some (mP ((0 : Int) = 1))) h)) ∧ ((¬ (h 580 (20 * (h 581 k) + (h 581 l))) + (h 580 (20 * (h 582 k) + (h 582 l))) = (h 580 (20 * (h 581 k) + (h 582 l))) + (h 580 (20 * (h 582 k) + (h 581 l)))) → (R (some (mP ((1 : Int) = 1))) h))))))))))))))))) : am_AT 2 214 0 [some (mR 1 12 0 571), some (mB k), some (mB l)] h R :=
  am_T (d := 1) (m := 214) (T := tb214) (mL := 3) (rk := 4) (cuts := []) (l := [(212, C212)]) rfl ⟨am_CS_d (by decide) C212_ok, trivial⟩ 50 (And.intro (t).1 (And.intro ((t).2).1 (And.intro (rfl) (And.intro (((t).2).2).1 (And.intro ((((t).2).2).2).1 (And.intro (((((t).2).2).2).2).1 (And.intro (rfl) (And.intro ((((((t).2).2).2).2).2).1 (And.intro (((((((t).2).2).2).2).2).2).1 (And.intro ((((((((t).2).2).2).2).2).2).2).1 (And.intro (rfl) (And.intro (((((((((t).2).2).2).2).2).2).2).2).1 (And.intro ((((((((((t).2).2).2).2).2).2).2).2).2).1 (And.intro (((((((((((t).2).2).2).2).2).2).2).2).2).2).1 (And.intro (rfl) (And.intro ((((((((((((t).2).2).2).2).2).2).2).2).2).2).2).1 (And.intro (((((((((((((t).2).2).2).2).2).2).2).2).2).2).2).2).1 (And.intro ((((((((((((((t).2).2).2).2).2).2).2).2).2).2).2).2).2).1 (And.intro (fun c12 => And.intro (Or.inl rfl) ((((((((((((((((t).2).2).2).2).2).2).2).2).2).2).2).2).2).2).1 c12)) (fun c12 => And.intro (Or.inr rfl) ((((((((((((((((t).2).2).2).2).2).2).2).2).2).2).2).2).2).2).2 c12)))))))))))))))))))))
theorem C214_ok : am_CS 2 214 C214 := W214 (fun k l h K hb => by
  obtain ⟨⟨⟨hN, hC, hF, hL⟩, hk, hl⟩, hK⟩ := hb
  generalize nr h 572 2 = r at *
  have hn := nl_r r
  obtain ⟨a1, a2⟩ := hL.2 k hk.1 hk.2
  obtain ⟨b1, b2⟩ := hL.2 l hl.1 hl.2
  obtain ⟨p1, p2, p3, -⟩ := lo_n hN hk.1 hk.2
  obtain ⟨p4, p5, p6, -⟩ := lo_n hN hl.1 hl.2
  have hn2 := hN.2.1
  have d1 : h 580 (20 * h 581 k + h 581 l) = ds (ad r) (lo r k) (lo r l) := by rw [a1, b1]; exact hF _ _ (by omega) (by omega) (by omega) (by omega)
  have d2 : h 580 (20 * h 582 k + h 582 l) = ds (ad r) (hi r k) (hi r l) := by rw [a2, b2]; exact hF _ _ (by omega) (by omega) (by omega) (by omega)
  have d3 : h 580 (20 * h 581 k + h 582 l) = ds (ad r) (lo r k) (hi r l) := by rw [a1, b2]; exact hF _ _ (by omega) (by omega) (by omega) (by omega)
  have d4 : h 580 (20 * h 582 k + h 581 l) = ds (ad r) (hi r k) (lo r l) := by rw [a2, b1]; exact hF _ _ (by omega) (by omega) (by omega) (by omega)
  have r1 := ds_r hN hC p1 p4
  have r2 := ds_r hN hC p2 p5
  have r3 := ds_r hN hC p1 p5
  have r4 := ds_r hN hC p2 p4
  refine T214_0 ⟨by omega, ⟨by omega, ⟨by omega, ⟨by omega, ⟨by omega, ⟨by omega, ⟨by omega, ⟨by omega, ⟨by omega, ⟨by omega, ⟨by omega, ⟨by omega, ⟨by omega, ⟨by omega, ⟨fun c1 => ?_, fun c1 => ?_⟩⟩⟩⟩⟩⟩⟩⟩⟩⟩⟩⟩⟩⟩⟩
  · exact am_rb0 hK (fun q => q (by omega))
  · exact am_rb1 hK (fun q => c1 (by omega)))
/-! 215 FactorNetsModel.joint -/
def C215 : am_K := fun as h K => am_a3 as (fun v0 v1 v2 => am_oc 12 571 v0 (am_n v1 (fun k => am_n v2 (fun l => ((NT (h 572 0) (nr h 572 2) ∧ CN (h 572 0) (nr h 572 2) ∧ RF h (h 572 0) (nr h 572 2) ∧ RLn h (nr h 572 2)) ∧ (0 ≤ k ∧ k < nl (nr h 572 2)) ∧ (0 ≤ l ∧ l < nl (nr h 572 2))) ∧ (K (some (mB (jnt (nr h 572 2) k l))) h)))))
theorem W215 {d : Nat} (H : ∀ (k : Int) (l : Int) (h : am_H) (K : Option am_V → am_H → Prop), ((NT (h 572 0) (nr h 572 2) ∧ CN (h 572 0) (nr h 572 2) ∧ RF h (h 572 0) (nr h 572 2) ∧ RLn h (nr h 572 2)) ∧ (0 ≤ k ∧ k < nl (nr h 572 2)) ∧ (0 ≤ l ∧ l < nl (nr h 572 2))) ∧ (K (some (mB (jnt (nr h 572 2) k l))) h) → am_AT d 215 0 [some (mR 1 12 0 571), some (mB k), some (mB l)] h K) : am_CS d 215 C215 := by
  refine am_CS_of (T := tb215) (mL := 3) (rk := 1) rfl (fun as h K hC => ?_)
  obtain ⟨v0, v1, v2, rfl, hC0⟩ := am_a3_e hC
  obtain ⟨e0, hC1⟩ := am_oc_e hC0
  subst e0
  obtain ⟨k, rfl, hC2⟩ := am_n_e hC1
  obtain ⟨l, rfl, hC3⟩ := am_n_e hC2
  refine ⟨Nat.le_of_ble_eq_true rfl, ?_⟩
  exact H k l h K hC3
theorem T215_0 {R : Option am_V → am_H → Prop} {h : am_H} {k : Int} {l : Int} (t : ((¬ k = l) → ((0 ≤ k ∧ k < 190) ∧ ((0 ≤ l ∧ l < 190) ∧ (((h 581 k = h 581 l) → ((0 ≤ k ∧ k < 190) ∧ (R (some (mB (h 581 k))) h))) ∧ ((¬ h 581 k = h 581 l) → ((0 ≤ k ∧ k < 190) ∧ ((0 ≤ l ∧ l < 190) ∧ (((¬ h 581 k = h 582 l) → ((0 ≤ k ∧ k < 190) ∧ ((0 ≤ l ∧ l < 190) ∧ (((h 582 k = h 581 l) → ((0 ≤ k ∧ k < 190) ∧ (R (some (mB (h 582 k))) h))) ∧ ((¬ h 582 k = h 581 l) → ((0 ≤ k ∧ k < 190) ∧ ((0 ≤ l ∧ l < 190) ∧ (((¬ h 582 k = h 582 l) → (R (some (mB (-1))) h)) ∧ ((h 582 k = h 582 l) → ((0 ≤ k ∧ k < 190) ∧ (R (some (mB (h 582 k))) h))))))))))) ∧ ((h 581 k = h 582 l) → ((0 ≤ k ∧ k < 190) ∧ (R (some (mB (h 581 k))) h))))))))))) ∧ ((k = l) → (R (some (mB (-1))) h))) : am_AT 1 215 0 [some (mR 1 12 0 571), some (mB k), some (mB l)] h R :=
  am_T (d := 0) (m := 215) (T := tb215) (mL := 3) (rk := 1) (cuts := []) (l := []) rfl trivial 49 (And.intro (fun c13 => And.intro ((t).1 c13).1 (And.intro (((t).1 c13).2).1 (And.intro (fun c14 => And.intro (((((t).1 c13).2).2).1 c14).1 ((((((t).1 c13).2).2).1 c14).2)) (fun c14 => And.intro (((((t).1 c13).2).2).2 c14).1 (And.intro ((((((t).1 c13).2).2).2 c14).2).1 (And.intro (fun c15 => And.intro ((((((((t).1 c13).2).2).2 c14).2).2).1 c15).1 (And.intro (((((((((t).1 c13).2).2).2 c14).2).2).1 c15).2).1 (And.intro (fun c16 => And.intro (((((((((((t).1 c13).2).2).2 c14).2).2).1 c15).2).2).1 c16).1 ((((((((((((t).1 c13).2).2).2 c14).2).2).1 c15).2).2).1 c16).2)) (fun c16 => And.intro (((((((((((t).1 c13).2).2).2 c14).2).2).1 c15).2).2).2 c16).1 (And.intro ((((((((((((t).1 c13).2).2).2 c14).2).2).1 c15).2).2).2 c16).2).1 (And.intro (fun c17 => (((((((((((((t).1 c13).2).2).2 c14).2).2).1 c15).2).2).2 c16).2).2).1 c17) (fun c17 => And.intro ((((((((((((((t).1 c13).2).2).2 c14).2).2).1 c15).2).2).2 c16).2).2).2 c17).1 (((((((((((((((t).1 c13).2).2).2 c14).2).2).1 c15).2).2).2 c16).2).2).2 c17).2)))))))) (fun c15 => And.intro ((((((((t).1 c13).2).2).2 c14).2).2).2 c15).1 (((((((((t).1 c13).2).2).2 c14).2).2).2 c15).2)))))))) (fun c13 => (t).2 c13))
theorem C215_ok : am_CS 1 215 C215 := W215 (fun k l h K hb => by
  obtain ⟨⟨⟨hN, hC, hF, hL⟩, hk, hl⟩, hK⟩ := hb
  generalize nr h 572 2 = r at *
  have hn := nl_r r
  obtain ⟨a1, a2⟩ := hL.2 k hk.1 hk.2
  obtain ⟨b1, b2⟩ := hL.2 l hl.1 hl.2
  unfold jnt at hK
  refine T215_0 ⟨fun c1 => ⟨by omega, ⟨by omega, ⟨fun c2 => ⟨by omega, ?_⟩, fun c2 => ⟨by omega, ⟨by omega, ⟨fun c3 => ⟨by omega, ⟨by omega, ⟨fun c4 => ⟨by omega, ?_⟩, fun c4 => ⟨by omega, ⟨by omega, ⟨fun c5 => ?_, fun c5 => ⟨by omega, ?_⟩⟩⟩⟩⟩⟩⟩, fun c3 => ⟨by omega, ?_⟩⟩⟩⟩⟩⟩⟩, fun c1 => ?_⟩
  · rw [if_neg c1, if_pos (by omega)] at hK
    exact am_rB hK (by omega)
  · rw [if_neg c1, if_neg (by omega), if_pos (by omega)] at hK
    exact am_rB hK (by omega)
  · rw [if_neg c1, if_neg (by omega), if_neg (by omega)] at hK
    exact hK
  · rw [if_neg c1, if_neg (by omega), if_pos (by omega)] at hK
    exact am_rB hK (by omega)
  · rw [if_neg c1, if_pos (by omega)] at hK
    exact am_rB hK (by omega)
  · rw [if_pos c1] at hK
    exact hK)
theorem jnt_or (r : Int → Int) (k l : Int) : jnt r k l = -1 ∨ ((jnt r k l = lo r k ∨ jnt r k l = hi r k) ∧ (jnt r k l = lo r l ∨ jnt r k l = hi r l)) := by
  unfold jnt
  by_cases c1 : k = l
  · rw [if_pos c1]; exact Or.inl rfl
  · rw [if_neg c1]
    by_cases c2 : lo r k = lo r l ∨ lo r k = hi r l
    · rw [if_pos c2]; exact Or.inr ⟨Or.inl rfl, c2⟩
    · rw [if_neg c2]
      by_cases c3 : hi r k = lo r l ∨ hi r k = hi r l
      · rw [if_pos c3]; exact Or.inr ⟨Or.inr rfl, c3⟩
      · rw [if_neg c3]; exact Or.inl rfl
/-! 216 FactorNetsModel.isTau -/
def C216 : am_K := fun as h K => am_a3 as (fun v0 v1 v2 => am_oc 12 571 v0 (am_n v1 (fun k => am_n v2 (fun l => ((NT (h 572 0) (nr h 572 2) ∧ CN (h 572 0) (nr h 572 2) ∧ RF h (h 572 0) (nr h 572 2) ∧ RLn h (nr h 572 2)) ∧ (0 ≤ k ∧ k < nl (nr h 572 2)) ∧ (0 ≤ l ∧ l < nl (nr h 572 2))) ∧ (K (some (mP (tau (nr h 572 2) k l))) h)))))
theorem W216 {d : Nat} (H : ∀ (k : Int) (l : Int) (h : am_H) (K : Option am_V → am_H → Prop), ((NT (h 572 0) (nr h 572 2) ∧ CN (h 572 0) (nr h 572 2) ∧ RF h (h 572 0) (nr h 572 2) ∧ RLn h (nr h 572 2)) ∧ (0 ≤ k ∧ k < nl (nr h 572 2)) ∧ (0 ≤ l ∧ l < nl (nr h 572 2))) ∧ (K (some (mP (tau (nr h 572 2) k l))) h) → am_AT d 216 0 [some (mR 1 12 0 571), some (mB k), some (mB l), none, none, none] h K) : am_CS d 216 C216 := by
  refine am_CS_of (T := tb216) (mL := 6) (rk := 4) rfl (fun as h K hC => ?_)
  obtain ⟨v0, v1, v2, rfl, hC0⟩ := am_a3_e hC
  obtain ⟨e0, hC1⟩ := am_oc_e hC0
  subst e0
  obtain ⟨k, rfl, hC2⟩ := am_n_e hC1
  obtain ⟨l, rfl, hC3⟩ := am_n_e hC2
  refine ⟨Nat.le_of_ble_eq_true rfl, ?_⟩
  exact H k l h K hC3
theorem T216_0 {R : Option am_V → am_H → Prop} {h : am_H} {k : Int} {l : Int} (t : ((NT (h 572 0) (nr h 572 2) ∧ CN (h 572 0) (nr h 572 2) ∧ RF h (h 572 0) (nr h 572 2) ∧ RLn h (nr h 572 2)) ∧ (0 ≤ k ∧ k < nl (nr h 572 2)) ∧ (0 ≤ l ∧ l < nl (nr h 572 2))) ∧ (((¬ jnt (nr h 572 2) k l = (-1)) → ((0 ≤ k ∧ k < 190) ∧ ((0 ≤ k ∧ k < 190) ∧ ((0 ≤ l ∧ l < 190) ∧ ((0 ≤ l ∧ l < 190) ∧ ((0 ≤ 2 + (((h 581 k) + (h 582 k)) - (jnt (nr h 572 2) k l)) ∧ 2 + (((h 581 k) + (h 582 k)) - (jnt (nr h 572 2) k l)) < 22) ∧ ((0 ≤ 2 + (((h 581 l) + (h 582 l)) - (jnt (nr h 572 2) k l)) ∧ 2 + (((h 581 l) + (h 582 l)) - (jnt (nr h 572 2) k l)) < 22) ∧ (((¬ iAnd (h 572 (2 + (((h 581 k) + (h 582 k)) - (jnt (nr h 572 2) k l)))) (h 572 (2 + (((h 581 l) + (h 582 l)) - (jnt (nr h 572 2) k l)))) = iShl 1 (jnt (nr h 572 2) k l)) → (R (some (mP ((0 : Int) = 1))) h)) ∧ ((iAnd (h 572 (2 + (((h 581 k) + (h 582 k)) - (jnt (nr h 572 2) k l)))) (h 572 (2 + (((h 581 l) + (h 582 l)) - (jnt (nr h 572 2) k l)))) = iShl 1 (jnt (nr h 572 2) k l)) → (R (some (mP ((1 : Int) = 1))) h)))))))))) ∧ ((jnt (nr h 572 2) k l = (-1)) → (R (some (mP ((0 : Int) = 1))) h)))) : am_AT 2 216 0 [some (mR 1 12 0 571), some (mB k), some (mB l), none, none, none] h R :=
  am_T (d := 1) (m := 216) (T := tb216) (mL := 6) (rk := 4) (cuts := []) (l := [(215, C215)]) rfl ⟨am_CS_d (by decide) C215_ok, trivial⟩ 56 (And.intro (rfl) (And.intro (t).1 (And.intro (fun c18 => And.intro (((t).2).1 c18).1 (And.intro ((((t).2).1 c18).2).1 (And.intro (((((t).2).1 c18).2).2).1 (And.intro ((((((t).2).1 c18).2).2).2).1 (And.intro (((((((t).2).1 c18).2).2).2).2).1 (And.intro ((((((((t).2).1 c18).2).2).2).2).2).1 (And.intro (fun c19 => And.intro (Or.inl rfl) ((((((((((t).2).1 c18).2).2).2).2).2).2).1 c19)) (fun c19 => And.intro (Or.inr rfl) ((((((((((t).2).1 c18).2).2).2).2).2).2).2 c19))))))))) (fun c18 => And.intro (Or.inl rfl) (((t).2).2 c18)))))
theorem C216_ok : am_CS 2 216 C216 := W216 (fun k l h K hb => am_AT_ok (fun hw _ => by
  obtain ⟨⟨⟨hN, hC, hF, hL⟩, hk, hl⟩, hK⟩ := hb
  have hS := S20_mem hN (wf_mem hw)
  have hAd : ∀ p k, 0 ≤ p → p < 20 → (ad (nr h 572 2) p k ↔ bit (h 572 (2 + p)) k) := fun p k a b => ad_mem a b
  have hn := nl_r (nr h 572 2)
  obtain ⟨a1, a2⟩ := hL.2 k hk.1 hk.2
  obtain ⟨b1, b2⟩ := hL.2 l hl.1 hl.2
  obtain ⟨p1, p2, p3, -⟩ := lo_n hN hk.1 hk.2
  obtain ⟨p4, p5, p6, -⟩ := lo_n hN hl.1 hl.2
  have hn2 := hN.2.1
  have hj := jnt_or (nr h 572 2) k l
  refine T216_0 ⟨⟨⟨hN, hC, hF, hL⟩, hk, hl⟩, ⟨fun c1 => ⟨by omega, ⟨by omega, ⟨by omega, ⟨by omega, ⟨by omega, ⟨by omega, ⟨fun c2 => ?_, fun c2 => ?_⟩⟩⟩⟩⟩⟩⟩, fun c1 => ?_⟩⟩
  · refine am_rb0 hK (fun q => c2 (bt_ext (rg_and _ _) (rg_shl _ _) (fun x x0 x1 => ?_)))
    rw [bt_and, bt_1 (by omega) (by omega), ← q.2 x, a1, a2, b1, b2, hAd _ _ (by omega) (by omega), hAd _ _ (by omega) (by omega)]
  · refine am_rb1 hK ⟨c1, fun x => ?_⟩
    rw [hAd _ _ (by omega) (by omega), hAd _ _ (by omega) (by omega), ← bt_and, ← a1, ← a2, ← b1, ← b2, c2, bt_1 (by omega) (by omega)]
  · exact am_rb0 hK (fun q => q.1 c1)))
