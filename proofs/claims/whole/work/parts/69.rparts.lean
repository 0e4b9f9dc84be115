/-! ===== layers, corners, coordinates ===== -/
noncomputable def nthb (x i : Int) : Int := fnd (fun p => bit x p ∧ ct (bit x) p.toNat = i) 20
noncomputable def lay (r : Int → Int) (k p : Int) : Int := mkb (rc (RA r (fun x => x = k)) p)
noncomputable def lot (r : Int → Int) (k p : Int) : Int := mkb (rc (RA r (fun x => ¬ x = k)) p)
noncomputable def mvd (r : Int → Int) (k p q : Int) : Int := nthb (iAnd (lay r k p) (lot r k q)) 0
noncomputable def cof (r : Int → Int) (k p : Int) : Int := nthb (iAnd (lay r k 0) (lot r k p)) 0
noncomputable def crd (r : Int → Int) (k p : Int) : Int := ct (bit (lay r k 0)) (cof r k p).toNat
noncomputable def plc (n : Int) (r : Int → Int) (k : Int) : Int := ct (fun l => lab (ptE r) l = k ∧ bit (lay r k 0) (lo r l)) (nl r).toNat
theorem RA_0 (r : Int → Int) (k : Int) : RA r (fun x => ¬ (x = k ↔ ((0 : Int) = 1))) = RA r (fun x => x = k) := by
  funext p q
  refine propext ⟨fun z => ⟨z.1, ?_⟩, fun z => ⟨z.1, fun w => ?_⟩⟩
  · refine Classical.byContradiction fun w => z.2 ⟨fun e => absurd e w, fun e => by omega⟩
  · have := w.mp z.2
    omega
theorem RA_1 (r : Int → Int) (k : Int) : RA r (fun x => ¬ (x = k ↔ ((1 : Int) = 1))) = RA r (fun x => ¬ x = k) := by
  funext p q
  refine propext ⟨fun z => ⟨z.1, fun w => z.2 ⟨fun _ => rfl, fun _ => w⟩⟩, fun z => ⟨z.1, fun w => z.2 (w.mpr rfl)⟩⟩
theorem nthb_1 {z x : Int} (hx : 0 ≤ x ∧ x < 20) (h : ∀ k, bit z k ↔ k = x) : nthb z 0 = x := by
  refine fnd_is hx.1 ⟨(h x).mpr rfl, ct_none _ (fun k hk q => ?_)⟩ (fun j j0 j1 q => ?_) 20 hx.2
  · have := (h j).mp q.1
    omega
  · have := (h k).mp q
    omega
section LAY
variable {n : Int} {r : Int → Int}
theorem bt_lay (hN : NT n r) {k p x : Int} (hp : 0 ≤ p ∧ p < n) : bit (lay r k p) x ↔ rc (RA r (fun x => x = k)) p x := by
  have hn := hN.2.1
  unfold lay
  rw [bt_mk]
  exact ⟨fun z => z.2, fun z => ⟨by have := RA_rc hN hp z; omega, z⟩⟩
theorem bt_lot (hN : NT n r) {k p x : Int} (hp : 0 ≤ p ∧ p < n) : bit (lot r k p) x ↔ rc (RA r (fun x => ¬ x = k)) p x := by
  have hn := hN.2.1
  unfold lot
  rw [bt_mk]
  exact ⟨fun z => z.2, fun z => ⟨by have := RA_rc hN hp z; omega, z⟩⟩
/-- where the layer of p by a part meets the others' of q -/
theorem mvd_ok (hN : NT n r) (hC : CN n r) {k p q : Int} (hp : 0 ≤ p ∧ p < n) (hq : 0 ≤ q ∧ q < n) : (0 ≤ mvd r k p q ∧ mvd r k p q < n) ∧ rc (RA r (fun x => x = k)) p (mvd r k p q) ∧ rc (RA r (fun x => ¬ x = k)) q (mvd r k p q) ∧ ∀ x, rc (RA r (fun x => x = k)) p x → rc (RA r (fun x => ¬ x = k)) q x → x = mvd r k p q := by
  have hn := hN.2.1
  obtain ⟨x, x1, x2⟩ := G8 (A := fun x => x = k) hN hC hp hq
  have hx := RA_rc hN hp x1
  have uq : ∀ y, rc (RA r (fun x => x = k)) p y → rc (RA r (fun x => ¬ x = k)) q y → y = x := fun y y1 y2 => G8u (A := fun x => x = k) hN hC hp y1 (rc_sym (RA_sym hN) y2) x1 x2
  have e : mvd r k p q = x := by
    unfold mvd
    refine nthb_1 (by omega) (fun y => ?_)
    rw [bt_and, bt_lay hN hp, bt_lot hN hq]
    exact ⟨fun w => uq y w.1 w.2, fun w => by rw [w]; exact ⟨x1, rc_sym (RA_sym hN) x2⟩⟩
  rw [e]
  exact ⟨hx, x1, rc_sym (RA_sym hN) x2, uq⟩
theorem cof_mvd (r : Int → Int) (k p : Int) : cof r k p = mvd r k 0 p := rfl
theorem cof_ok (hN : NT n r) (hC : CN n r) {k p : Int} (hp : 0 ≤ p ∧ p < n) : (0 ≤ cof r k p ∧ cof r k p < n) ∧ rc (RA r (fun x => x = k)) 0 (cof r k p) ∧ rc (RA r (fun x => ¬ x = k)) p (cof r k p) ∧ ∀ x, rc (RA r (fun x => x = k)) 0 x → rc (RA r (fun x => ¬ x = k)) p x → x = cof r k p := mvd_ok hN hC ⟨by omega, by omega⟩ hp
theorem S20_lay (k p : Int) : S20 (lay r k p) := S20_mk _
theorem np_0 (hN : NT n r) {k : Int} (h0 : 0 ≤ k) (h1 : k < ncl (ptE r) (nl r)) : 0 < n := by
  obtain ⟨p, q, h2, -⟩ := pl_sur hN h0 h1
  have := (NT_in hN h2).1
  omega
end LAY
/-! 237 FactorNetsModel.reach -/
def C237 : am_K := fun as h K => am_a4 as (fun v0 v1 v2 v3 => am_oc 12 571 v0 (am_n v1 (fun p => am_n v2 (fun k => am_bo v3 (fun ot => ((NT (h 572 0) (nr h 572 2) ∧ CN (h 572 0) (nr h 572 2) ∧ RLd h (h 572 0) (nr h 572 2)) ∧ (0 ≤ p ∧ p < (h 572 0))) ∧ (K (some (mB (mkb (rc (RA (nr h 572 2) (fun x => ¬ (x = k ↔ ot))) p)))) h))))))
theorem W237 {d : Nat} (H : ∀ (p : Int) (k : Int) (ot : Prop) (h : am_H) (K : Option am_V → am_H → Prop), ((NT (h 572 0) (nr h 572 2) ∧ CN (h 572 0) (nr h 572 2) ∧ RLd h (h 572 0) (nr h 572 2)) ∧ (0 ≤ p ∧ p < (h 572 0))) ∧ (K (some (mB (mkb (rc (RA (nr h 572 2) (fun x => ¬ (x = k ↔ ot))) p)))) h) → am_AT d 237 0 [some (mR 1 12 0 571), some (mB p), some (mB k), some (mP (ot)), none, none, none] h K) : am_CS d 237 C237 := by
  refine am_CS_of (T := tb237) (mL := 7) (rk := 1) rfl (fun as h K hC => ?_)
  obtain ⟨v0, v1, v2, v3, rfl, hC0⟩ := am_a4_e hC
  obtain ⟨e0, hC1⟩ := am_oc_e hC0
  subst e0
  obtain ⟨p, rfl, hC2⟩ := am_n_e hC1
  obtain ⟨k, rfl, hC3⟩ := am_n_e hC2
  obtain ⟨ot, hb3, hC4⟩ := am_bo_e hC3
  refine ⟨by simp only [am_cats, hb3.2]; exact Nat.le_of_ble_eq_true rfl, ?_⟩
  refine am_AT_sub ?_ (H p k ot h K hC4)
  exact am_sb_c am_se (am_sb_c am_se (am_sb_c am_se (am_sb_a hb3 (am_sb_r _))))
theorem T237_0 {R : Option am_V → am_H → Prop} {h : am_H} {p : Int} {k : Int} {ot : Prop} (t : am_AT 2 237 8 [some (mR 1 12 0 571), none, some (mB k), some (mP (ot)), some (mI (iShl 1 p)), some (mI 0), none] h R) : am_AT 2 237 0 [some (mR 1 12 0 571), some (mB p), some (mB k), some (mP (ot)), none, none, none] h R :=
  am_T (d := 1) (m := 237) (T := tb237) (mL := 7) (rk := 1) (cuts := [(8, [1, 0, 1, 1, 2, 2, 0]), (22, [1, 0, 1, 1, 2, 2, 2])]) (l := [(188, C188)]) rfl ⟨am_CS_d (by decide) C188_ok, trivial⟩ 10 (t)
theorem T237_8 {R : Option am_V → am_H → Prop} {h : am_H} {k : Int} {ot : Prop} {x4 : Int} {x5 : Int} (t : (R32 x4) ∧ ((R32 x5) ∧ (((x4 = x5) → ((R32 x4) ∧ (R (some (mB x4)) h))) ∧ ((¬ x4 = x5) → (am_AT 2 237 22 [some (mR 1 12 0 571), none, some (mB k), some (mP (ot)), some (mI x4), some (mI x4), some (mI 0)] h R))))) : am_AT 2 237 8 [some (mR 1 12 0 571), none, some (mB k), some (mP (ot)), some (mI x4), some (mI x5), none] h R :=
  am_T (d := 1) (m := 237) (T := tb237) (mL := 7) (rk := 1) (cuts := [(8, [1, 0, 1, 1, 2, 2, 0]), (22, [1, 0, 1, 1, 2, 2, 2])]) (l := [(188, C188)]) rfl ⟨am_CS_d (by decide) C188_ok, trivial⟩ 11 (And.intro (t).1 (And.intro ((t).2).1 (And.intro (fun c1 => And.intro ((((t).2).2).1 c1).1 (((((t).2).2).1 c1).2)) (fun c1 => (((t).2).2).2 c1))))
theorem T237_22 {R : Option am_V → am_H → Prop} {h : am_H} {k : Int} {ot : Prop} {x4 : Int} {x5 : Int} {x6 : Int} (t : (R32 x6) ∧ (((h 571 21 ≤ x6) → (am_AT 2 237 8 [some (mR 1 12 0 571), none, some (mB k), some (mP (ot)), some (mI x4), some (mI x5), none] h R)) ∧ ((x6 < h 571 21) → ((0 ≤ x6 ∧ x6 < 190) ∧ (((¬ h 583 x6 = k) → (((0 = am_b (ot)) → (am_AT 2 237 22 [some (mR 1 12 0 571), none, some (mB k), some (mP (ot)), some (mI x4), some (mI x5), some (mI (x6 + 1))] h R)) ∧ ((¬ 0 = am_b (ot)) → ((0 ≤ x6 ∧ x6 < 190) ∧ ((R32 x4) ∧ ((0 ≤ (h 581 x6) ∧ (h 581 x6) < 32) ∧ (((bit x4 (h 581 x6)) → ((0 ≤ x6 ∧ x6 < 190) ∧ ((0 ≤ x6 ∧ x6 < 190) ∧ (am_AT 2 237 22 [some (mR 1 12 0 571), none, some (mB k), some (mP (ot)), some (mI (iOr x4 (iOr (iShl 1 (h 581 x6)) (iShl 1 (h 582 x6))))), some (mI x5), some (mI (x6 + 1))] h R)))) ∧ ((¬ (bit x4 (h 581 x6))) → ((0 ≤ x6 ∧ x6 < 190) ∧ ((R32 x4) ∧ ((0 ≤ (h 582 x6) ∧ (h 582 x6) < 32) ∧ (((¬ (bit x4 (h 582 x6))) → (am_AT 2 237 22 [some (mR 1 12 0 571), none, some (mB k), some (mP (ot)), some (mI x4), some (mI x5), some (mI (x6 + 1))] h R)) ∧ ((bit x4 (h 582 x6)) → ((0 ≤ x6 ∧ x6 < 190) ∧ ((0 ≤ x6 ∧ x6 < 190) ∧ (am_AT 2 237 22 [some (mR 1 12 0 571), none, some (mB k), some (mP (ot)), some (mI (iOr x4 (iOr (iShl 1 (h 581 x6)) (iShl 1 (h 582 x6))))), some (mI x5), some (mI (x6 + 1))] h R)))))))))))))))) ∧ ((h 583 x6 = k) → (((1 = am_b (ot)) → (am_AT 2 237 22 [some (mR 1 12 0 571), none, some (mB k), some (mP (ot)), some (mI x4), some (mI x5), some (mI (x6 + 1))] h R)) ∧ ((¬ 1 = am_b (ot)) → ((0 ≤ x6 ∧ x6 < 190) ∧ ((R32 x4) ∧ ((0 ≤ (h 581 x6) ∧ (h 581 x6) < 32) ∧ (((bit x4 (h 581 x6)) → ((0 ≤ x6 ∧ x6 < 190) ∧ ((0 ≤ x6 ∧ x6 < 190) ∧ (am_AT 2 237 22 [some (mR 1 12 0 571), none, some (mB k), some (mP (ot)), some (mI (iOr x4 (iOr (iShl 1 (h 581 x6)) (iShl 1 (h 582 x6))))), some (mI x5), some (mI (x6 + 1))] h R)))) ∧ ((¬ (bit x4 (h 581 x6))) → ((0 ≤ x6 ∧ x6 < 190) ∧ ((R32 x4) ∧ ((0 ≤ (h 582 x6) ∧ (h 582 x6) < 32) ∧ (((¬ (bit x4 (h 582 x6))) → (am_AT 2 237 22 [some (mR 1 12 0 571), none, some (mB k), some (mP (ot)), some (mI x4), some (mI x5), some (mI (x6 + 1))] h R)) ∧ ((bit x4 (h 582 x6)) → ((0 ≤ x6 ∧ x6 < 190) ∧ ((0 ≤ x6 ∧ x6 < 190) ∧ (am_AT 2 237 22 [some (mR 1 12 0 571), none, some (mB k), some (mP (ot)), some (mI (iOr x4 (iOr (iShl 1 (h 581 x6)) (iShl 1 (h 582 x6))))), some (mI x5), some (mI (x6 + 1))] h R))))))))))))))))))))) : am_AT 2 237 22 [some (mR 1 12 0 571), none, some (mB k), some (mP (ot)), some (mI x4), some (mI x5), some (mI x6)] h R :=
  am_T (d := 1) (m := 237) (T := tb237) (mL := 7) (rk := 1) (cuts := [(8, [1, 0, 1, 1, 2, 2, 0]), (22, [1, 0, 1, 1, 2, 2, 2])]) (l := [(188, C188)]) rfl ⟨am_CS_d (by decide) C188_ok, trivial⟩ 50 (And.intro (t).1 (And.intro (fun c2 => ((t).2).1 c2) (fun c2 => And.intro (((t).2).2 c2).1 (And.intro (fun c3 => And.intro (fun c4 => (((((t).2).2 c2).2).1 c3).1 c4) (fun c4 => And.intro ((((((t).2).2 c2).2).1 c3).2 c4).1 (And.intro (((((((t).2).2 c2).2).1 c3).2 c4).2).1 (And.intro ((((((((t).2).2 c2).2).1 c3).2 c4).2).2).1 (And.intro (fun c5 => And.intro ((((((((((t).2).2 c2).2).1 c3).2 c4).2).2).2).1 c5).1 (And.intro (((((((((((t).2).2 c2).2).1 c3).2 c4).2).2).2).1 c5).2).1 ((((((((((((t).2).2 c2).2).1 c3).2 c4).2).2).2).1 c5).2).2))) (fun c5 => And.intro ((((((((((t).2).2 c2).2).1 c3).2 c4).2).2).2).2 c5).1 (And.intro (((((((((((t).2).2 c2).2).1 c3).2 c4).2).2).2).2 c5).2).1 (And.intro ((((((((((((t).2).2 c2).2).1 c3).2 c4).2).2).2).2 c5).2).2).1 (And.intro (fun c6 => (((((((((((((t).2).2 c2).2).1 c3).2 c4).2).2).2).2 c5).2).2).2).1 c6) (fun c6 => And.intro ((((((((((((((t).2).2 c2).2).1 c3).2 c4).2).2).2).2 c5).2).2).2).2 c6).1 (And.intro (((((((((((((((t).2).2 c2).2).1 c3).2 c4).2).2).2).2 c5).2).2).2).2 c6).2).1 ((((((((((((((((t).2).2 c2).2).1 c3).2 c4).2).2).2).2 c5).2).2).2).2 c6).2).2)))))))))))) (fun c3 => And.intro (fun c7 => (((((t).2).2 c2).2).2 c3).1 c7) (fun c7 => And.intro ((((((t).2).2 c2).2).2 c3).2 c7).1 (And.intro (((((((t).2).2 c2).2).2 c3).2 c7).2).1 (And.intro ((((((((t).2).2 c2).2).2 c3).2 c7).2).2).1 (And.intro (fun c8 => And.intro ((((((((((t).2).2 c2).2).2 c3).2 c7).2).2).2).1 c8).1 (And.intro (((((((((((t).2).2 c2).2).2 c3).2 c7).2).2).2).1 c8).2).1 ((((((((((((t).2).2 c2).2).2 c3).2 c7).2).2).2).1 c8).2).2))) (fun c8 => And.intro ((((((((((t).2).2 c2).2).2 c3).2 c7).2).2).2).2 c8).1 (And.intro (((((((((((t).2).2 c2).2).2 c3).2 c7).2).2).2).2 c8).2).1 (And.intro ((((((((((((t).2).2 c2).2).2 c3).2 c7).2).2).2).2 c8).2).2).1 (And.intro (fun c9 => (((((((((((((t).2).2 c2).2).2 c3).2 c7).2).2).2).2 c8).2).2).2).1 c9) (fun c9 => And.intro ((((((((((((((t).2).2 c2).2).2 c3).2 c7).2).2).2).2 c8).2).2).2).2 c9).1 (And.intro (((((((((((((((t).2).2 c2).2).2 c3).2 c7).2).2).2).2 c8).2).2).2).2 c9).2).1 ((((((((((((((((t).2).2 c2).2).2 c3).2 c7).2).2).2).2 c8).2).2).2).2 c9).2).2))))))))))))))))
theorem am_b_0 {p : Prop} : (0 : Int) = am_b p ↔ ¬ p := by
  by_cases h : p
  · rw [am_b_t h]; exact ⟨fun e => by omega, fun e => absurd h e⟩
  · rw [am_b_f h]; exact ⟨fun _ => h, fun _ => rfl⟩
theorem am_b_1 {p : Prop} : (1 : Int) = am_b p ↔ p := by
  by_cases h : p
  · rw [am_b_t h]; exact ⟨fun _ => h, fun _ => rfl⟩
  · rw [am_b_f h]; exact ⟨fun e => by omega, fun e => absurd e h⟩
theorem L237 {K : Option am_V → am_H → Prop} {g : am_H} (H : Lda g) {p k : Int} {ot : Prop} (hp : 0 ≤ p ∧ p < g 572 0) (hK : K (some (mB (mkb (rc (RA (nr g 572 2) (fun x => ¬ (x = k ↔ ot))) p)))) g) : ∀ z : Int × Int, S20 z.1 → S20 z.2 → bit z.1 p → (∀ x, bit z.2 x → bit z.1 x) → (∀ x, bit z.1 x → rc (RA (nr g 572 2) (fun x => ¬ (x = k ↔ ot))) p x) → (∀ a b, RA (nr g 572 2) (fun x => ¬ (x = k ↔ ot)) a b → bit z.2 a → bit z.1 b) → am_AT 2 237 8 [some (mR 1 12 0 571), none, some (mB k), some (mP ot), some (mI z.1), some (mI z.2), none] g K := by
  obtain ⟨hN, hC, hD⟩ := H
  have hn1 := hN.1
  have hn2 := hN.2.1
  have hnl := nl_r (nr g 572 2)
  obtain ⟨hF, hL, hS⟩ := hD
  have e21 := hL.1
  refine lpm (fun q : Int × Int => (2 * (20 - ct (bit q.1) 20)).toNat + if q.1 = q.2 then 0 else 1) (fun z ih hx hy hpx hyx hrc hcl => ?_)
  obtain ⟨x, y⟩ := z
  have hx : S20 x := hx
  have hy : S20 y := hy
  have hpx : bit x p := hpx
  have hyx : ∀ w, bit y w → bit x w := hyx
  have hrc : ∀ w, bit x w → rc (RA (nr g 572 2) (fun x => ¬ (x = k ↔ ot))) p w := hrc
  have hcl : ∀ a b, RA (nr g 572 2) (fun x => ¬ (x = k ↔ ot)) a b → bit y a → bit x b := hcl
  show am_AT 2 237 8 [some (mR 1 12 0 571), none, some (mB k), some (mP ot), some (mI x), some (mI y), none] g K
  have hx1 := hx.1
  have hx2 := hx.2
  have hy1 := hy.1
  have hy2 := hy.2
  refine T237_8 ⟨by omega, ⟨by omega, ⟨fun c1 => ⟨by omega, ?_⟩, fun c1_0 => ?_⟩⟩⟩
  · refine am_rB hK (mkb_eq (by omega) (fun j => ⟨fun w => ⟨S20_in hx w, hrc j w⟩, fun w => ?_⟩)).symm
    exact rc_in (P := fun w => bit x w) (fun a b ha hab => hcl a b hab (by rw [← c1]; exact ha)) hpx w.2
  · have L2 : ∀ (l w : Int), 0 ≤ l → l ≤ nl (nr g 572 2) → S20 w → (∀ q, bit x q → bit w q) → (∀ q, bit w q → rc (RA (nr g 572 2) (fun x => ¬ (x = k ↔ ot))) p q) → (∀ j, 0 ≤ j → j < l → ¬ (lab (ptE (nr g 572 2)) j = k ↔ ot) → (bit x (lo (nr g 572 2) j) ∨ bit x (hi (nr g 572 2) j)) → bit w (lo (nr g 572 2) j) ∧ bit w (hi (nr g 572 2) j)) → am_AT 2 237 22 [some (mR 1 12 0 571), none, some (mB k), some (mP ot), some (mI w), some (mI x), some (mI l)] g K := by
      refine lp (nl (nr g 572 2)) (fun l ihl w l0 l1 hw hxw hwr hwc => ?_)
      have hw1 := hw.1
      have hw2 := hw.2
      have e83 : l < nl (nr g 572 2) → g 583 l = lab (ptE (nr g 572 2)) l := fun hl => (hS.2.2 l l0 hl).1
      have e81 : l < nl (nr g 572 2) → (g 581 l = lo (nr g 572 2) l ∧ g 582 l = hi (nr g 572 2) l) ∧ (0 ≤ lo (nr g 572 2) l ∧ lo (nr g 572 2) l < g 572 0) ∧ (0 ≤ hi (nr g 572 2) l ∧ hi (nr g 572 2) l < g 572 0) ∧ lo (nr g 572 2) l < hi (nr g 572 2) l ∧ ad (nr g 572 2) (lo (nr g 572 2) l) (hi (nr g 572 2) l) := fun hl => ⟨hL.2 l l0 hl, lo_n hN l0 hl⟩
      have stay : l < nl (nr g 572 2) → (¬ (lab (ptE (nr g 572 2)) l = k ↔ ot) → ¬ bit w (lo (nr g 572 2) l) ∧ ¬ bit w (hi (nr g 572 2) l)) → am_AT 2 237 22 [some (mR 1 12 0 571), none, some (mB k), some (mP ot), some (mI w), some (mI x), some (mI (l + 1))] g K := fun hl hno => by
        refine ihl hl w (by omega) (by omega) hw hxw hwr (fun j j0 j1 hj hb => ?_)
        by_cases e : j = l
        · rw [e] at hj hb
          have := hno hj
          exact absurd hb (fun q => q.elim (fun q => this.1 (hxw _ q)) (fun q => this.2 (hxw _ q)))
        · exact hwc j j0 (by omega) hj hb
      have grow : l < nl (nr g 572 2) → ¬ (lab (ptE (nr g 572 2)) l = k ↔ ot) → (bit w (lo (nr g 572 2) l) ∨ bit w (hi (nr g 572 2) l)) → am_AT 2 237 22 [some (mR 1 12 0 571), none, some (mB k), some (mP ot), some (mI (iOr w (iOr (iShl 1 (lo (nr g 572 2) l)) (iShl 1 (hi (nr g 572 2) l))))), some (mI x), some (mI (l + 1))] g K := fun hl hk hb => by
        obtain ⟨-, a1, a2, a3, a4⟩ := e81 hl
        have hE : RA (nr g 572 2) (fun x => ¬ (x = k ↔ ot)) (lo (nr g 572 2) l) (hi (nr g 572 2) l) := ⟨a4, by unfold pl; rw [lno_lo hN l0 hl]; exact hk⟩
        have bw : ∀ q, bit (iOr w (iOr (iShl 1 (lo (nr g 572 2) l)) (iShl 1 (hi (nr g 572 2) l)))) q ↔ bit w q ∨ q = lo (nr g 572 2) l ∨ q = hi (nr g 572 2) l := fun q => by
          rw [bt_or, bt_or, bt_1 a1.1 (by omega), bt_1 a2.1 (by omega)]
        refine ihl hl _ (by omega) (by omega) (S20_or hw (S20_or (S20_1 a1.1 (by omega)) (S20_1 a2.1 (by omega)))) (fun q hq => (bw q).mpr (Or.inl (hxw q hq))) (fun q hq => ?_) (fun j j0 j1 hj hb2 => ?_)
        · rcases (bw q).mp hq with z | z | z
          · exact hwr q z
          · rw [z]
            rcases hb with b | b
            · exact hwr _ b
            · exact rc_step (hwr _ b) (RA_sym hN _ _ hE)
          · rw [z]
            rcases hb with b | b
            · exact rc_step (hwr _ b) hE
            · exact hwr _ b
        · rw [bw, bw]
          by_cases e : j = l
          · rw [e]
            exact ⟨Or.inr (Or.inl rfl), Or.inr (Or.inr rfl)⟩
          · have := hwc j j0 (by omega) hj hb2
            exact ⟨Or.inl this.1, Or.inl this.2⟩
      refine T237_22 ⟨by omega, ⟨fun c1_1 => ?_, fun c1_1 => ⟨by omega, ⟨fun c2 => ⟨fun c3 => ?_, fun c3 => ⟨by omega, ⟨by omega, ⟨by have := e81 (by omega); omega, ⟨fun c4 => ⟨by omega, ⟨by omega, ?_⟩⟩, fun c4 => ⟨by omega, ⟨by omega, ⟨by have := e81 (by omega); omega, ⟨fun c5 => ?_, fun c5 => ⟨by omega, ⟨by omega, ?_⟩⟩⟩⟩⟩⟩⟩⟩⟩⟩⟩, fun c2 => ⟨fun c3 => ?_, fun c3 => ⟨by omega, ⟨by omega, ⟨by have := e81 (by omega); omega, ⟨fun c4 => ⟨by omega, ⟨by omega, ?_⟩⟩, fun c4 => ⟨by omega, ⟨by omega, ⟨by have := e81 (by omega); omega, ⟨fun c5 => ?_, fun c5 => ⟨by omega, ⟨by omega, ?_⟩⟩⟩⟩⟩⟩⟩⟩⟩⟩⟩⟩⟩⟩⟩
      · refine ih (w, x) ?_ hw hx (hxw p hpx) hxw hwr (fun a b hab ha => ?_)
        · show (2 * (20 - ct (bit w) 20)).toNat + (if w = x then 0 else 1) < (2 * (20 - ct (bit x) 20)).toNat + (if x = y then 0 else 1)
          have q1 := ct_le (bit x) 20
          have q2 := ct_le (bit w) 20
          rw [if_neg c1_0]
          by_cases c : w = x
          · rw [if_pos c, c]; omega
          · rw [if_neg c]
            have : ∃ q, bit w q ∧ ¬ bit x q := Classical.byContradiction fun z => c (bt_ext (by omega) (by omega) (fun q _ _ => ⟨fun z2 => Classical.byContradiction fun z3 => z ⟨q, z2, z3⟩, hxw q⟩))
            obtain ⟨q, k1, k2⟩ := this
            have k3 := S20_in hw k1
            have := ct_ss (P := bit x) (Q := bit w) 20 k3.1 k3.2 k2 k1 hxw
            omega
        · have ha : bit x a := ha
          have l1 := lno_ok hN hab.1
          have l2 := hwc _ l1.1.1 (by omega) hab.2
          rw [l1.2.1, l1.2.2] at l2
          show bit w b
          by_cases c : a < b
          · rw [show min a b = a by omega, show max a b = b by omega] at l2
            exact (l2 (Or.inl ha)).2
          · rw [show min a b = b by omega, show max a b = a by omega] at l2
            exact (l2 (Or.inr ha)).1
      · exact stay (by omega) (fun z => absurd ⟨fun e => absurd (e83 (by omega)) (fun q => c2 (by rw [q]; exact e)), fun e => absurd e (am_b_0.mp c3)⟩ z)
      · have a := (e81 (by omega)).1
        rw [a.1] at c4
        rw [a.1, a.2]
        exact grow (by omega) (fun e => c3 (am_b_0.mpr (fun w => c2 (by rw [e83 (by omega)]; exact e.mpr w)))) (Or.inl c4)
      · have a := (e81 (by omega)).1
        rw [a.1] at c4
        rw [a.2] at c5
        exact stay (by omega) (fun _ => ⟨c4, c5⟩)
      · have a := (e81 (by omega)).1
        rw [a.2] at c5
        rw [a.1, a.2]
        exact grow (by omega) (fun e => c3 (am_b_0.mpr (fun w => c2 (by rw [e83 (by omega)]; exact e.mpr w)))) (Or.inr c5)
      · exact stay (by omega) (fun z => absurd ⟨fun _ => am_b_1.mp c3, fun _ => by rw [← e83 (by omega)]; exact c2⟩ z)
      · have a := (e81 (by omega)).1
        rw [a.1] at c4
        rw [a.1, a.2]
        exact grow (by omega) (fun e => c3 (am_b_1.mpr (e.mp (by rw [← e83 (by omega)]; exact c2)))) (Or.inl c4)
      · have a := (e81 (by omega)).1
        rw [a.1] at c4
        rw [a.2] at c5
        exact stay (by omega) (fun _ => ⟨c4, c5⟩)
      · have a := (e81 (by omega)).1
        rw [a.2] at c5
        rw [a.1, a.2]
        exact grow (by omega) (fun e => c3 (am_b_1.mpr (e.mp (by rw [← e83 (by omega)]; exact c2)))) (Or.inr c5)
    exact L2 0 x (by omega) hnl.1 hx (fun q => id) hrc (fun j j0 j1 => by omega)
theorem C237_ok : am_CS 2 237 C237 := W237 (fun p k ot h K hb => T237_0 (by
  obtain ⟨⟨H, hp⟩, hK⟩ := hb
  have hn2 := H.1.2.1
  exact L237 H hp hK (_, 0) (S20_1 hp.1 (by omega)) S20_0 ((bt_1 hp.1 (by omega)).mpr rfl) (fun x z => absurd z bt_zero) (fun x z => by rw [(bt_1 hp.1 (by omega)).mp z]; exact rc_refl) (fun a b _ z => absurd z bt_zero)))
/-! 240 FactorNetsModel.nth -/
def C240 : am_K := fun as h K => am_a2 as (fun v0 v1 => am_n v0 (fun x => am_n v1 (fun i => (0 ≤ i) ∧ (K (some (mB (nthb x i))) h))))
theorem W240 {d : Nat} (H : ∀ (x : Int) (i : Int) (h : am_H) (K : Option am_V → am_H → Prop), (0 ≤ i) ∧ (K (some (mB (nthb x i))) h) → am_AT d 240 0 [some (mB x), some (mB i), none, none] h K) : am_CS d 240 C240 := by
  refine am_CS_of (T := tb240) (mL := 4) (rk := 1) rfl (fun as h K hC => ?_)
  obtain ⟨v0, v1, rfl, hC0⟩ := am_a2_e hC
  obtain ⟨x, rfl, hC1⟩ := am_n_e hC0
  obtain ⟨i, rfl, hC2⟩ := am_n_e hC1
  refine ⟨Nat.le_of_ble_eq_true rfl, ?_⟩
  exact H x i h K hC2
theorem T240_0 {R : Option am_V → am_H → Prop} {h : am_H} {x : Int} {i : Int} (t : am_AT 2 240 4 [some (mB x), none, some (mI i), some (mI 0)] h R) : am_AT 2 240 0 [some (mB x), some (mB i), none, none] h R :=
  am_T (d := 1) (m := 240) (T := tb240) (mL := 4) (rk := 1) (cuts := [(4, [1, 0, 2, 2])]) (l := [(188, C188)]) rfl ⟨am_CS_d (by decide) C188_ok, trivial⟩ 8 (t)
theorem T240_4 {R : Option am_V → am_H → Prop} {h : am_H} {x : Int} {x2 : Int} {x3 : Int} (t : (R32 x3) ∧ (((20 ≤ x3) → (R (some (mB (-1))) h)) ∧ ((x3 < 20) → ((R32 x3) ∧ ((0 ≤ x3 ∧ x3 < 32) ∧ (((¬ (bit x x3)) → ((R32 x3) ∧ ((0 ≤ x3 ∧ x3 < 32) ∧ (((¬ (bit x x3)) → (am_AT 2 240 4 [some (mB x), none, some (mI (x2 - 0)), some (mI (x3 + 1))] h R)) ∧ ((bit x x3) → (am_AT 2 240 4 [some (mB x), none, some (mI (x2 - 1)), some (mI (x3 + 1))] h R)))))) ∧ ((bit x x3) → ((R32 x2) ∧ (((¬ x2 = 0) → ((R32 x3) ∧ ((0 ≤ x3 ∧ x3 < 32) ∧ (((¬ (bit x x3)) → (am_AT 2 240 4 [some (mB x), none, some (mI (x2 - 0)), some (mI (x3 + 1))] h R)) ∧ ((bit x x3) → (am_AT 2 240 4 [some (mB x), none, some (mI (x2 - 1)), some (mI (x3 + 1))] h R)))))) ∧ ((x2 = 0) → ((R32 x3) ∧ (R (some (mB x3)) h)))))))))))) : am_AT 2 240 4 [some (mB x), none, some (mI x2), some (mI x3)] h R :=
  am_T (d := 1) (m := 240) (T := tb240) (mL := 4) (rk := 1) (cuts := [(4, [1, 0, 2, 2])]) (l := [(188, C188)]) rfl ⟨am_CS_d (by decide) C188_ok, trivial⟩ 24 (And.intro (t).1 (And.intro (fun c10 => ((t).2).1 c10) (fun c10 => And.intro (((t).2).2 c10).1 (And.intro ((((t).2).2 c10).2).1 (And.intro (fun c11 => And.intro ((((((t).2).2 c10).2).2).1 c11).1 (And.intro (((((((t).2).2 c10).2).2).1 c11).2).1 (And.intro (fun c12 => ((((((((t).2).2 c10).2).2).1 c11).2).2).1 c12) (fun c12 => ((((((((t).2).2 c10).2).2).1 c11).2).2).2 c12)))) (fun c11 => And.intro ((((((t).2).2 c10).2).2).2 c11).1 (And.intro (fun c13 => And.intro ((((((((t).2).2 c10).2).2).2 c11).2).1 c13).1 (And.intro (((((((((t).2).2 c10).2).2).2 c11).2).1 c13).2).1 (And.intro (fun c14 => ((((((((((t).2).2 c10).2).2).2 c11).2).1 c13).2).2).1 c14) (fun c14 => ((((((((((t).2).2 c10).2).2).2 c11).2).1 c13).2).2).2 c14)))) (fun c13 => And.intro ((((((((t).2).2 c10).2).2).2 c11).2).2 c13).1 (((((((((t).2).2 c10).2).2).2 c11).2).2 c13).2)))))))))
theorem L240 {K : Option am_V → am_H → Prop} {h : am_H} {x i : Int} (hi : 0 ≤ i ∧ i < 2147483648) (hK : K (some (mB (nthb x i))) h) : ∀ p, 0 ≤ p → p ≤ 20 → (∀ j, 0 ≤ j → j < p → ¬ (bit x j ∧ ct (bit x) j.toNat = i)) → am_AT 2 240 4 [some (mB x), none, some (mI (i - ct (bit x) p.toNat)), some (mI p)] h K := by
  refine lp 20 (fun p ih p0 p1 hno => ?_)
  have hct := ct_le (bit x) p.toNat
  have nx : p < 20 → ∀ v, v = i - ct (bit x) (p + 1).toNat → ¬ (bit x p ∧ ct (bit x) p.toNat = i) → am_AT 2 240 4 [some (mB x), none, some (mI v), some (mI (p + 1))] h K := fun hp v hv hn => by
    rw [hv]
    refine ih hp (by omega) (by omega) (fun j j0 j1 => ?_)
    by_cases e : j = p
    · rw [e]; exact hn
    · exact hno j j0 (by omega)
  refine T240_4 ⟨by omega, ⟨fun c1 => ?_, fun c1 => ⟨by omega, ⟨by omega, ⟨fun c2 => ⟨by omega, ⟨by omega, ⟨fun c3 => ?_, fun c3 => ?_⟩⟩⟩, fun c2 => ⟨by omega, ⟨fun c3 => ⟨by omega, ⟨by omega, ⟨fun c4 => ?_, fun c4 => ?_⟩⟩⟩, fun c3 => ⟨by omega, ?_⟩⟩⟩⟩⟩⟩⟩⟩
  · exact am_rB hK (fnd_no 20 (fun j a b => hno j a (by omega)))
  · exact nx (by omega) _ (by rw [ct_to p0, am_b_f c2]; omega) (fun q => c2 q.1)
  · exact absurd c3 c2
  · exact absurd c2 c4
  · exact nx (by omega) _ (by rw [ct_to p0, am_b_t c2]; omega) (fun q => c3 (by omega))
  · exact am_rB hK (fnd_is p0 ⟨c2, by omega⟩ hno 20 (by omega))
theorem C240_ok : am_CS 2 240 C240 := W240 (fun x i h K hb => am_AT_ok (fun _ hl => T240_0 (by
  have hr : R32 i := hl 1 _ rfl rfl
  have := L240 (x := x) (i := i) (by omega) hb.2 0 (by omega) (by omega) (fun j j0 j1 => by omega)
  rw [show ct (bit x) (0 : Int).toNat = 0 from rfl, Int.sub_zero] at this
  exact this)))
/-! 238 FactorNetsModel.layer -/
def C238 : am_K := fun as h K => am_a3 as (fun v0 v1 v2 => am_oc 12 571 v0 (am_n v1 (fun p => am_n v2 (fun k => (RIv h) ∧ (∀ (h' : am_H), RQ h h' → K (some (mB (ifc ((0 ≤ p ∧ p < (h 572 0)) ∧ (0 ≤ k ∧ k < ncl (ptE (nr h 572 2)) (nl (nr h 572 2)))) (lay (nr h 572 2) k p) (-2)))) (h'))))))
theorem W238 {d : Nat} (H : ∀ (p : Int) (k : Int) (h : am_H) (K : Option am_V → am_H → Prop), (RIv h) ∧ (∀ (h' : am_H), RQ h h' → K (some (mB (ifc ((0 ≤ p ∧ p < (h 572 0)) ∧ (0 ≤ k ∧ k < ncl (ptE (nr h 572 2)) (nl (nr h 572 2)))) (lay (nr h 572 2) k p) (-2)))) (h')) → am_AT d 238 0 [some (mR 1 12 0 571), some (mB p), some (mB k)] h K) : am_CS d 238 C238 := by
  refine am_CS_of (T := tb238) (mL := 3) (rk := 1) rfl (fun as h K hC => ?_)
  obtain ⟨v0, v1, v2, rfl, hC0⟩ := am_a3_e hC
  obtain ⟨e0, hC1⟩ := am_oc_e hC0
  subst e0
  obtain ⟨p, rfl, hC2⟩ := am_n_e hC1
  obtain ⟨k, rfl, hC3⟩ := am_n_e hC2
  refine ⟨Nat.le_of_ble_eq_true rfl, ?_⟩
  exact H p k h K hC3
theorem T238_0 {R : Option am_V → am_H → Prop} {h : am_H} {p : Int} {k : Int} (t : (RIv h) ∧ (∀ (h' : am_H), (LD h h') → (((¬ (0 ≤ k ∧ k < ncl (ptE (nr h 572 2)) (nl (nr h 572 2)))) → (R (some (mB (-2))) h')) ∧ ((0 ≤ k ∧ k < ncl (ptE (nr h 572 2)) (nl (nr h 572 2))) → ((h' 572 0 ≤ 20 ∧ 0 ≤ h' 572 0) ∧ (((¬ (0 ≤ p ∧ p < h' 572 0)) → (R (some (mB (-2))) h')) ∧ ((0 ≤ p ∧ p < h' 572 0) → (((NT (h' 572 0) (nr h' 572 2) ∧ CN (h' 572 0) (nr h' 572 2) ∧ RLd h' (h' 572 0) (nr h' 572 2)) ∧ (0 ≤ p ∧ p < (h' 572 0))) ∧ (R (some (mB (mkb (rc (RA (nr h' 572 2) (fun x => ¬ (x = k ↔ ((0 : Int) = 1)))) p)))) h'))))))))) : am_AT 6 238 0 [some (mR 1 12 0 571), some (mB p), some (mB k)] h R :=
  am_T (d := 5) (m := 238) (T := tb238) (mL := 3) (rk := 1) (cuts := []) (l := [(210, C210), (222, C222), (237, C237)]) rfl ⟨am_CS_d (by decide) C210_ok, am_CS_d (by decide) C222_ok, am_CS_d (by decide) C237_ok, trivial⟩ 19 (And.intro (rfl) (And.intro (t).1 (fun z1_0 z1_1 => And.intro (fun c15 => (((t).2) z1_0 z1_1).1 c15) (fun c15 => And.intro (rfl) (And.intro ((((t).2) z1_0 z1_1).2 c15).1 (And.intro (fun c16 => (((((t).2) z1_0 z1_1).2 c15).2).1 c16) (fun c16 => And.intro (rfl) (And.intro (Or.inl rfl) (And.intro ((((((t).2) z1_0 z1_1).2 c15).2).2 c16).1 (((((((t).2) z1_0 z1_1).2 c15).2).2 c16).2))))))))))
theorem C238_ok : am_CS 6 238 C238 := W238 (fun p k h K hb => by
  have hn1 := hb.1.1.1
  have hn2 := hb.1.1.2.1
  refine T238_0 ⟨hb.1, fun h' q1 => ⟨fun c2 => ?_, fun c2 => ⟨by have e := q1.2.2.1; omega, ⟨fun c3 => ?_, fun c3 => ⟨⟨LD_a q1, c3⟩, ?_⟩⟩⟩⟩⟩
  · exact am_rB (hb.2 h' (LD_q q1)) (ifc_f (fun z => c2 z.2))
  · have e := q1.2.2.1
    exact am_rB (hb.2 h' (LD_q q1)) (ifc_f (fun z => c3 (by omega)))
  · have e := q1.2.2.1
    rw [RA_0, q1.2.1]
    exact am_rB (hb.2 h' (LD_q q1)) (ifc_t ⟨by omega, c2⟩))
/-! 239 FactorNetsModel.size -/
def C239 : am_K := fun as h K => am_a2 as (fun v0 v1 => am_oc 12 571 v0 (am_n v1 (fun k => (RIv h) ∧ (∀ (h' : am_H), RQ h h' → K (some (mB (ifc (0 ≤ k ∧ k < ncl (ptE (nr h 572 2)) (nl (nr h 572 2))) (iPop (lay (nr h 572 2) k 0)) (-2)))) (h')))))
theorem W239 {d : Nat} (H : ∀ (k : Int) (h : am_H) (K : Option am_V → am_H → Prop), (RIv h) ∧ (∀ (h' : am_H), RQ h h' → K (some (mB (ifc (0 ≤ k ∧ k < ncl (ptE (nr h 572 2)) (nl (nr h 572 2))) (iPop (lay (nr h 572 2) k 0)) (-2)))) (h')) → am_AT d 239 0 [some (mR 1 12 0 571), some (mB k)] h K) : am_CS d 239 C239 := by
  refine am_CS_of (T := tb239) (mL := 2) (rk := 1) rfl (fun as h K hC => ?_)
  obtain ⟨v0, v1, rfl, hC0⟩ := am_a2_e hC
  obtain ⟨e0, hC1⟩ := am_oc_e hC0
  subst e0
  obtain ⟨k, rfl, hC2⟩ := am_n_e hC1
  refine ⟨Nat.le_of_ble_eq_true rfl, ?_⟩
  exact H k h K hC2
theorem T239_0 {R : Option am_V → am_H → Prop} {h : am_H} {k : Int} (t : (RIv h) ∧ (∀ (h' : am_H), (LD h h') → (((¬ (0 ≤ k ∧ k < ncl (ptE (nr h 572 2)) (nl (nr h 572 2)))) → (R (some (mB (-2))) h')) ∧ ((0 ≤ k ∧ k < ncl (ptE (nr h 572 2)) (nl (nr h 572 2))) → (((NT (h' 572 0) (nr h' 572 2) ∧ CN (h' 572 0) (nr h' 572 2) ∧ RLd h' (h' 572 0) (nr h' 572 2)) ∧ (0 ≤ (0 : Int) ∧ (0 : Int) < (h' 572 0))) ∧ ((0 ≤ (mkb (rc (RA (nr h' 572 2) (fun x => ¬ (x = k ↔ ((0 : Int) = 1)))) (0 : Int))) ∧ (mkb (rc (RA (nr h' 572 2) (fun x => ¬ (x = k ↔ ((0 : Int) = 1)))) (0 : Int))) < 2147483648) ∧ (R (some (mB (iPop (mkb (rc (RA (nr h' 572 2) (fun x => ¬ (x = k ↔ ((0 : Int) = 1)))) (0 : Int)))))) h'))))))) : am_AT 6 239 0 [some (mR 1 12 0 571), some (mB k)] h R :=
  am_T (d := 5) (m := 239) (T := tb239) (mL := 2) (rk := 1) (cuts := []) (l := [(222, C222), (237, C237), (317, C317)]) rfl ⟨am_CS_d (by decide) C222_ok, am_CS_d (by decide) C237_ok, am_CS_d (by decide) C317_ok, trivial⟩ 16 (And.intro (rfl) (And.intro (t).1 (fun z2_0 z2_1 => And.intro (fun c17 => (((t).2) z2_0 z2_1).1 c17) (fun c17 => And.intro (rfl) (And.intro (Or.inl rfl) (And.intro ((((t).2) z2_0 z2_1).2 c17).1 (And.intro (((((t).2) z2_0 z2_1).2 c17).2).1 ((((((t).2) z2_0 z2_1).2 c17).2).2))))))))
theorem C239_ok : am_CS 6 239 C239 := W239 (fun k h K hb => by
  refine T239_0 ⟨hb.1, fun h' q1 => ⟨fun c2 => ?_, fun c2 => ⟨⟨LD_a q1, by have e := q1.2.2.1; have := np_0 hb.1.1 c2.1 c2.2; omega⟩, ⟨by have := mkb_c (rc (RA (nr h' 572 2) (fun x => ¬ (x = k ↔ ((0 : Int) = 1)))) 0); omega, ?_⟩⟩⟩⟩
  · exact am_rB (hb.2 h' (LD_q q1)) (ifc_f c2)
  · rw [RA_0, q1.2.1]
    exact am_rB (hb.2 h' (LD_q q1)) (ifc_t c2))
/-! 241 FactorNetsModel.corner -/
def C241 : am_K := fun as h K => am_a3 as (fun v0 v1 v2 => am_oc 12 571 v0 (am_n v1 (fun k => am_n v2 (fun i => (RIv h) ∧ (∀ (h' : am_H), RQ h h' → K (some (mB (ifc ((0 ≤ k ∧ k < ncl (ptE (nr h 572 2)) (nl (nr h 572 2))) ∧ 0 ≤ i) (nthb (lay (nr h 572 2) k 0) i) (-2)))) (h'))))))
theorem W241 {d : Nat} (H : ∀ (k : Int) (i : Int) (h : am_H) (K : Option am_V → am_H → Prop), (RIv h) ∧ (∀ (h' : am_H), RQ h h' → K (some (mB (ifc ((0 ≤ k ∧ k < ncl (ptE (nr h 572 2)) (nl (nr h 572 2))) ∧ 0 ≤ i) (nthb (lay (nr h 572 2) k 0) i) (-2)))) (h')) → am_AT d 241 0 [some (mR 1 12 0 571), some (mB k), some (mB i)] h K) : am_CS d 241 C241 := by
  refine am_CS_of (T := tb241) (mL := 3) (rk := 1) rfl (fun as h K hC => ?_)
  obtain ⟨v0, v1, v2, rfl, hC0⟩ := am_a3_e hC
  obtain ⟨e0, hC1⟩ := am_oc_e hC0
  subst e0
  obtain ⟨k, rfl, hC2⟩ := am_n_e hC1
  obtain ⟨i, rfl, hC3⟩ := am_n_e hC2
  refine ⟨Nat.le_of_ble_eq_true rfl, ?_⟩
  exact H k i h K hC3
theorem T241_0 {R : Option am_V → am_H → Prop} {h : am_H} {k : Int} {i : Int} (t : (RIv h) ∧ (∀ (h' : am_H), (LD h h') → (((¬ (0 ≤ k ∧ k < ncl (ptE (nr h 572 2)) (nl (nr h 572 2)))) → (R (some (mB (-2))) h')) ∧ ((0 ≤ k ∧ k < ncl (ptE (nr h 572 2)) (nl (nr h 572 2))) → (((i < 0) → (R (some (mB (-2))) h')) ∧ ((0 ≤ i) → (((NT (h' 572 0) (nr h' 572 2) ∧ CN (h' 572 0) (nr h' 572 2) ∧ RLd h' (h' 572 0) (nr h' 572 2)) ∧ (0 ≤ (0 : Int) ∧ (0 : Int) < (h' 572 0))) ∧ ((0 ≤ i) ∧ (R (some (mB (nthb (mkb (rc (RA (nr h' 572 2) (fun x => ¬ (x = k ↔ ((0 : Int) = 1)))) (0 : Int))) i))) h'))))))))) : am_AT 6 241 0 [some (mR 1 12 0 571), some (mB k), some (mB i)] h R :=
  am_T (d := 5) (m := 241) (T := tb241) (mL := 3) (rk := 1) (cuts := []) (l := [(222, C222), (237, C237), (240, C240)]) rfl ⟨am_CS_d (by decide) C222_ok, am_CS_d (by decide) C237_ok, am_CS_d (by decide) C240_ok, trivial⟩ 19 (And.intro (rfl) (And.intro (t).1 (fun z3_0 z3_1 => And.intro (fun c18 => (((t).2) z3_0 z3_1).1 c18) (fun c18 => And.intro (fun c19 => ((((t).2) z3_0 z3_1).2 c18).1 c19) (fun c19 => And.intro (rfl) (And.intro (Or.inl rfl) (And.intro (((((t).2) z3_0 z3_1).2 c18).2 c19).1 (And.intro ((((((t).2) z3_0 z3_1).2 c18).2 c19).2).1 (((((((t).2) z3_0 z3_1).2 c18).2 c19).2).2)))))))))
theorem C241_ok : am_CS 6 241 C241 := W241 (fun k i h K hb => by
  refine T241_0 ⟨hb.1, fun h' q1 => ⟨fun c2 => ?_, fun c2 => ⟨fun c3 => ?_, fun c3 => ⟨⟨LD_a q1, by have e := q1.2.2.1; have := np_0 hb.1.1 c2.1 c2.2; omega⟩, ⟨by omega, ?_⟩⟩⟩⟩⟩
  · exact am_rB (hb.2 h' (LD_q q1)) (ifc_f (fun z => c2 z.1))
  · exact am_rB (hb.2 h' (LD_q q1)) (ifc_f (by omega))
  · rw [RA_0, q1.2.1]
    exact am_rB (hb.2 h' (LD_q q1)) (ifc_t ⟨c2, c3⟩))
/-! 242 FactorNetsModel.cornerOf -/
def C242 : am_K := fun as h K => am_a3 as (fun v0 v1 v2 => am_oc 12 571 v0 (am_n v1 (fun p => am_n v2 (fun k => ((NT (h 572 0) (nr h 572 2) ∧ CN (h 572 0) (nr h 572 2) ∧ RLd h (h 572 0) (nr h 572 2)) ∧ (0 ≤ p ∧ p < (h 572 0)) ∧ (0 ≤ k ∧ k < ncl (ptE (nr h 572 2)) (nl (nr h 572 2)))) ∧ (K (some (mB (cof (nr h 572 2) k p))) h)))))
theorem W242 {d : Nat} (H : ∀ (p : Int) (k : Int) (h : am_H) (K : Option am_V → am_H → Prop), ((NT (h 572 0) (nr h 572 2) ∧ CN (h 572 0) (nr h 572 2) ∧ RLd h (h 572 0) (nr h 572 2)) ∧ (0 ≤ p ∧ p < (h 572 0)) ∧ (0 ≤ k ∧ k < ncl (ptE (nr h 572 2)) (nl (nr h 572 2)))) ∧ (K (some (mB (cof (nr h 572 2) k p))) h) → am_AT d 242 0 [some (mR 1 12 0 571), some (mB p), some (mB k)] h K) : am_CS d 242 C242 := by
  refine am_CS_of (T := tb242) (mL := 3) (rk := 1) rfl (fun as h K hC => ?_)
  obtain ⟨v0, v1, v2, rfl, hC0⟩ := am_a3_e hC
  obtain ⟨e0, hC1⟩ := am_oc_e hC0
  subst e0
  obtain ⟨p, rfl, hC2⟩ := am_n_e hC1
  obtain ⟨k, rfl, hC3⟩ := am_n_e hC2
  refine ⟨Nat.le_of_ble_eq_true rfl, ?_⟩
  exact H p k h K hC3
theorem T242_0 {R : Option am_V → am_H → Prop} {h : am_H} {p : Int} {k : Int} (t : ((NT (h 572 0) (nr h 572 2) ∧ CN (h 572 0) (nr h 572 2) ∧ RLd h (h 572 0) (nr h 572 2)) ∧ (0 ≤ (0 : Int) ∧ (0 : Int) < (h 572 0))) ∧ (((NT (h 572 0) (nr h 572 2) ∧ CN (h 572 0) (nr h 572 2) ∧ RLd h (h 572 0) (nr h 572 2)) ∧ (0 ≤ p ∧ p < (h 572 0))) ∧ ((0 ≤ (0 : Int)) ∧ (R (some (mB (nthb (iAnd (mkb (rc (RA (nr h 572 2) (fun x => ¬ (x = k ↔ ((0 : Int) = 1)))) (0 : Int))) (mkb (rc (RA (nr h 572 2) (fun x => ¬ (x = k ↔ ((1 : Int) = 1)))) p))) (0 : Int)))) h)))) : am_AT 3 242 0 [some (mR 1 12 0 571), some (mB p), some (mB k)] h R :=
  am_T (d := 2) (m := 242) (T := tb242) (mL := 3) (rk := 1) (cuts := []) (l := [(237, C237), (240, C240)]) rfl ⟨am_CS_d (by decide) C237_ok, am_CS_d (by decide) C240_ok, trivial⟩ 18 (And.intro (rfl) (And.intro (Or.inl rfl) (And.intro (t).1 (And.intro (rfl) (And.intro (Or.inr rfl) (And.intro ((t).2).1 (And.intro (((t).2).2).1 ((((t).2).2).2))))))))
theorem C242_ok : am_CS 3 242 C242 := W242 (fun p k h K hb => by
  refine T242_0 ⟨⟨hb.1.1, by have := hb.1.2.1; omega⟩, ⟨⟨hb.1.1, hb.1.2.1⟩, ⟨by omega, ?_⟩⟩⟩
  · rw [RA_0, RA_1]
    exact hb.2)
/-! 243 FactorNetsModel.at -/
def C243 : am_K := fun as h K => am_a3 as (fun v0 v1 v2 => am_oc 12 571 v0 (am_n v1 (fun p => am_n v2 (fun k => (RIv h) ∧ (∀ (h' : am_H), RQ h h' → K (some (mB (ifc ((0 ≤ p ∧ p < (h 572 0)) ∧ (0 ≤ k ∧ k < ncl (ptE (nr h 572 2)) (nl (nr h 572 2)))) (crd (nr h 572 2) k p) (-2)))) (h'))))))
theorem W243 {d : Nat} (H : ∀ (p : Int) (k : Int) (h : am_H) (K : Option am_V → am_H → Prop), (RIv h) ∧ (∀ (h' : am_H), RQ h h' → K (some (mB (ifc ((0 ≤ p ∧ p < (h 572 0)) ∧ (0 ≤ k ∧ k < ncl (ptE (nr h 572 2)) (nl (nr h 572 2)))) (crd (nr h 572 2) k p) (-2)))) (h')) → am_AT d 243 0 [some (mR 1 12 0 571), some (mB p), some (mB k)] h K) : am_CS d 243 C243 := by
  refine am_CS_of (T := tb243) (mL := 3) (rk := 1) rfl (fun as h K hC => ?_)
  obtain ⟨v0, v1, v2, rfl, hC0⟩ := am_a3_e hC
  obtain ⟨e0, hC1⟩ := am_oc_e hC0
  subst e0
  obtain ⟨p, rfl, hC2⟩ := am_n_e hC1
  obtain ⟨k, rfl, hC3⟩ := am_n_e hC2
  refine ⟨Nat.le_of_ble_eq_true rfl, ?_⟩
  exact H p k h K hC3
theorem T243_0 {R : Option am_V → am_H → Prop} {h : am_H} {p : Int} {k : Int} (t : (RIv h) ∧ (∀ (h' : am_H), (LD h h') → (((¬ (0 ≤ k ∧ k < ncl (ptE (nr h 572 2)) (nl (nr h 572 2)))) → (R (some (mB (-2))) h')) ∧ ((0 ≤ k ∧ k < ncl (ptE (nr h 572 2)) (nl (nr h 572 2))) → ((h' 572 0 ≤ 20 ∧ 0 ≤ h' 572 0) ∧ (((0 ≤ p ∧ p < h' 572 0) → (((NT (h' 572 0) (nr h' 572 2) ∧ CN (h' 572 0) (nr h' 572 2) ∧ RLd h' (h' 572 0) (nr h' 572 2)) ∧ (0 ≤ (0 : Int) ∧ (0 : Int) < (h' 572 0))) ∧ (((NT (h' 572 0) (nr h' 572 2) ∧ CN (h' 572 0) (nr h' 572 2) ∧ RLd h' (h' 572 0) (nr h' 572 2)) ∧ (0 ≤ p ∧ p < (h' 572 0)) ∧ (0 ≤ k ∧ k < ncl (ptE (nr h' 572 2)) (nl (nr h' 572 2)))) ∧ ((0 ≤ (iAnd (mkb (rc (RA (nr h' 572 2) (fun x => ¬ (x = k ↔ ((0 : Int) = 1)))) (0 : Int))) ((iShl 1 (cof (nr h' 572 2) k p)) - 1)) ∧ (iAnd (mkb (rc (RA (nr h' 572 2) (fun x => ¬ (x = k ↔ ((0 : Int) = 1)))) (0 : Int))) ((iShl 1 (cof (nr h' 572 2) k p)) - 1)) < 2147483648) ∧ (R (some (mB (iPop (iAnd (mkb (rc (RA (nr h' 572 2) (fun x => ¬ (x = k ↔ ((0 : Int) = 1)))) (0 : Int))) ((iShl 1 (cof (nr h' 572 2) k p)) - 1))))) h'))))) ∧ ((¬ (0 ≤ p ∧ p < h' 572 0)) → (R (some (mB (-2))) h')))))))) : am_AT 6 243 0 [some (mR 1 12 0 571), some (mB p), some (mB k)] h R :=
  am_T (d := 5) (m := 243) (T := tb243) (mL := 3) (rk := 1) (cuts := []) (l := [(210, C210), (222, C222), (237, C237), (242, C242), (317, C317)]) rfl ⟨am_CS_d (by decide) C210_ok, am_CS_d (by decide) C222_ok, am_CS_d (by decide) C237_ok, am_CS_d (by decide) C242_ok, am_CS_d (by decide) C317_ok, trivial⟩ 28 (And.intro (rfl) (And.intro (t).1 (fun z4_0 z4_1 => And.intro (fun c20 => (((t).2) z4_0 z4_1).1 c20) (fun c20 => And.intro (rfl) (And.intro ((((t).2) z4_0 z4_1).2 c20).1 (And.intro (fun c21 => And.intro (rfl) (And.intro (Or.inl rfl) (And.intro ((((((t).2) z4_0 z4_1).2 c20).2).1 c21).1 (And.intro (rfl) (And.intro (((((((t).2) z4_0 z4_1).2 c20).2).1 c21).2).1 (And.intro ((((((((t).2) z4_0 z4_1).2 c20).2).1 c21).2).2).1 (((((((((t).2) z4_0 z4_1).2 c20).2).1 c21).2).2).2))))))) (fun c21 => (((((t).2) z4_0 z4_1).2 c20).2).2 c21)))))))
theorem iPop_cut {x c : Int} (hx : S20 x) (hc : 0 ≤ c ∧ c < 20) : iPop (iAnd x (iShl 1 c - 1)) = ct (bit x) c.toNat := by
  rw [iPop_20 (S20_and hx)]
  have e := ct_ltP (P := bit x) (p := c.toNat) 20 (by omega)
  rw [← e]
  refine ct_congr 20 (fun k hk => ?_)
  rw [bt_and, bt_all hc.1 (by omega)]
  exact ⟨fun q => ⟨by omega, q.1⟩, fun q => ⟨q.2, by omega⟩⟩
theorem C243_ok : am_CS 6 243 C243 := W243 (fun p k h K hb => by
  have hn1 := hb.1.1.1
  have hn2 := hb.1.1.2.1
  refine T243_0 ⟨hb.1, fun h' q1 => ⟨fun c2 => ?_, fun c2 => ⟨by have e := q1.2.2.1; omega, ⟨fun c3 => ⟨⟨LD_a q1, by omega⟩, ⟨⟨LD_a q1, c3, by rw [q1.2.1]; exact c2⟩, ⟨by have w := S20_and (y := iShl 1 (cof (nr h' 572 2) k p) - 1) (S20_mk (rc (RA (nr h' 572 2) (fun x => ¬ (x = k ↔ ((0 : Int) = 1)))) 0)); exact ⟨w.1, by have := w.2; omega⟩, ?_⟩⟩⟩, fun c3 => ?_⟩⟩⟩⟩
  · exact am_rB (hb.2 h' (LD_q q1)) (ifc_f (fun z => c2 z.2))
  · have e := q1.2.2.1
    have hc := cof_ok (k := k) hb.1.1 hb.1.2.1 (p := p) (by omega)
    have e2 := hb.2 h' (LD_q q1)
    rw [ifc_t ⟨by omega, c2⟩] at e2
    rw [RA_0, q1.2.1]
    refine am_rB e2 ?_
    unfold crd
    exact (iPop_cut (S20_lay k 0) (by omega)).symm
  · have e := q1.2.2.1
    exact am_rB (hb.2 h' (LD_q q1)) (ifc_f (fun z => c3 (by omega))))
/-! 244 FactorNetsModel.movedOf -/
def C244 : am_K := fun as h K => am_a4 as (fun v0 v1 v2 v3 => am_oc 12 571 v0 (am_n v1 (fun p => am_n v2 (fun k => am_n v3 (fun q => ((NT (h 572 0) (nr h 572 2) ∧ CN (h 572 0) (nr h 572 2) ∧ RLd h (h 572 0) (nr h 572 2)) ∧ (0 ≤ p ∧ p < (h 572 0)) ∧ (0 ≤ q ∧ q < (h 572 0)) ∧ (0 ≤ k ∧ k < ncl (ptE (nr h 572 2)) (nl (nr h 572 2)))) ∧ (K (some (mB (mvd (nr h 572 2) k p q))) h))))))
theorem W244 {d : Nat} (H : ∀ (p : Int) (k : Int) (q : Int) (h : am_H) (K : Option am_V → am_H → Prop), ((NT (h 572 0) (nr h 572 2) ∧ CN (h 572 0) (nr h 572 2) ∧ RLd h (h 572 0) (nr h 572 2)) ∧ (0 ≤ p ∧ p < (h 572 0)) ∧ (0 ≤ q ∧ q < (h 572 0)) ∧ (0 ≤ k ∧ k < ncl (ptE (nr h 572 2)) (nl (nr h 572 2)))) ∧ (K (some (mB (mvd (nr h 572 2) k p q))) h) → am_AT d 244 0 [some (mR 1 12 0 571), some (mB p), some (mB k), some (mB q)] h K) : am_CS d 244 C244 := by
  refine am_CS_of (T := tb244) (mL := 4) (rk := 1) rfl (fun as h K hC => ?_)
  obtain ⟨v0, v1, v2, v3, rfl, hC0⟩ := am_a4_e hC
  obtain ⟨e0, hC1⟩ := am_oc_e hC0
  subst e0
  obtain ⟨p, rfl, hC2⟩ := am_n_e hC1
  obtain ⟨k, rfl, hC3⟩ := am_n_e hC2
  obtain ⟨q, rfl, hC4⟩ := am_n_e hC3
  refine ⟨Nat.le_of_ble_eq_true rfl, ?_⟩
  exact H p k q h K hC4
theorem T244_0 {R : Option am_V → am_H → Prop} {h : am_H} {p : Int} {k : Int} {q : Int} (t : ((NT (h 572 0) (nr h 572 2) ∧ CN (h 572 0) (nr h 572 2) ∧ RLd h (h 572 0) (nr h 572 2)) ∧ (0 ≤ p ∧ p < (h 572 0))) ∧ (((NT (h 572 0) (nr h 572 2) ∧ CN (h 572 0) (nr h 572 2) ∧ RLd h (h 572 0) (nr h 572 2)) ∧ (0 ≤ q ∧ q < (h 572 0))) ∧ ((0 ≤ (0 : Int)) ∧ (R (some (mB (nthb (iAnd (mkb (rc (RA (nr h 572 2) (fun x => ¬ (x = k ↔ ((0 : Int) = 1)))) p)) (mkb (rc (RA (nr h 572 2) (fun x => ¬ (x = k ↔ ((1 : Int) = 1)))) q))) (0 : Int)))) h)))) : am_AT 3 244 0 [some (mR 1 12 0 571), some (mB p), some (mB k), some (mB q)] h R :=
  am_T (d := 2) (m := 244) (T := tb244) (mL := 4) (rk := 1) (cuts := []) (l := [(237, C237), (240, C240)]) rfl ⟨am_CS_d (by decide) C237_ok, am_CS_d (by decide) C240_ok, trivial⟩ 18 (And.intro (rfl) (And.intro (Or.inl rfl) (And.intro (t).1 (And.intro (rfl) (And.intro (Or.inr rfl) (And.intro ((t).2).1 (And.intro (((t).2).2).1 ((((t).2).2).2))))))))
theorem C244_ok : am_CS 3 244 C244 := W244 (fun p k q h K hb => by
  refine T244_0 ⟨⟨hb.1.1, hb.1.2.1⟩, ⟨⟨hb.1.1, hb.1.2.2.1⟩, ⟨by omega, ?_⟩⟩⟩
  · rw [RA_0, RA_1]
    exact hb.2)
/-! 245 FactorNetsModel.moved -/
def C245 : am_K := fun as h K => am_a4 as (fun v0 v1 v2 v3 => am_oc 12 571 v0 (am_n v1 (fun p => am_n v2 (fun k => am_n v3 (fun q => (RIv h) ∧ (∀ (h' : am_H), RQ h h' → K (some (mB (ifc ((0 ≤ p ∧ p < (h 572 0)) ∧ (0 ≤ q ∧ q < (h 572 0)) ∧ (0 ≤ k ∧ k < ncl (ptE (nr h 572 2)) (nl (nr h 572 2)))) (mvd (nr h 572 2) k p q) (-2)))) (h')))))))
theorem W245 {d : Nat} (H : ∀ (p : Int) (k : Int) (q : Int) (h : am_H) (K : Option am_V → am_H → Prop), (RIv h) ∧ (∀ (h' : am_H), RQ h h' → K (some (mB (ifc ((0 ≤ p ∧ p < (h 572 0)) ∧ (0 ≤ q ∧ q < (h 572 0)) ∧ (0 ≤ k ∧ k < ncl (ptE (nr h 572 2)) (nl (nr h 572 2)))) (mvd (nr h 572 2) k p q) (-2)))) (h')) → am_AT d 245 0 [some (mR 1 12 0 571), some (mB p), some (mB k), some (mB q)] h K) : am_CS d 245 C245 := by
  refine am_CS_of (T := tb245) (mL := 4) (rk := 1) rfl (fun as h K hC => ?_)
  obtain ⟨v0, v1, v2, v3, rfl, hC0⟩ := am_a4_e hC
  obtain ⟨e0, hC1⟩ := am_oc_e hC0
  subst e0
  obtain ⟨p, rfl, hC2⟩ := am_n_e hC1
  obtain ⟨k, rfl, hC3⟩ := am_n_e hC2
  obtain ⟨q, rfl, hC4⟩ := am_n_e hC3
  refine ⟨Nat.le_of_ble_eq_true rfl, ?_⟩
  exact H p k q h K hC4
theorem T245_0 {R : Option am_V → am_H → Prop} {h : am_H} {p : Int} {k : Int} {q : Int} (t : (RIv h) ∧ (∀ (h' : am_H), (LD h h') → (((¬ (0 ≤ k ∧ k < ncl (ptE (nr h 572 2)) (nl (nr h 572 2)))) → (R (some (mB (-2))) h')) ∧ ((0 ≤ k ∧ k < ncl (ptE (nr h 572 2)) (nl (nr h 572 2))) → ((RIv h') ∧ (∀ (h'_1 : am_H), (LD h' h'_1) → (((¬ ((0 ≤ p ∧ p < (h' 572 0)) ∧ (0 ≤ q ∧ q < (h' 572 0)))) → (R (some (mB (-2))) h'_1)) ∧ (((0 ≤ p ∧ p < (h' 572 0)) ∧ (0 ≤ q ∧ q < (h' 572 0))) → (((NT (h'_1 572 0) (nr h'_1 572 2) ∧ CN (h'_1 572 0) (nr h'_1 572 2) ∧ RLd h'_1 (h'_1 572 0) (nr h'_1 572 2)) ∧ (0 ≤ p ∧ p < (h'_1 572 0)) ∧ (0 ≤ q ∧ q < (h'_1 572 0)) ∧ (0 ≤ k ∧ k < ncl (ptE (nr h'_1 572 2)) (nl (nr h'_1 572 2)))) ∧ (R (some (mB (mvd (nr h'_1 572 2) k p q))) h'_1)))))))))) : am_AT 6 245 0 [some (mR 1 12 0 571), some (mB p), some (mB k), some (mB q)] h R :=
  am_T (d := 5) (m := 245) (T := tb245) (mL := 4) (rk := 1) (cuts := []) (l := [(222, C222), (224, C224), (244, C244)]) rfl ⟨am_CS_d (by decide) C222_ok, am_CS_d (by decide) C224_ok, am_CS_d (by decide) C244_ok, trivial⟩ 20 (And.intro (rfl) (And.intro (t).1 (fun z5_0 z5_1 => And.intro (fun c22 => (((t).2) z5_0 z5_1).1 c22) (fun c22 => And.intro (rfl) (And.intro ((((t).2) z5_0 z5_1).2 c22).1 (fun z6_0 z6_1 => And.intro (fun c23 => ((((((t).2) z5_0 z5_1).2 c22).2) z6_0 z6_1).1 c23) (fun c23 => And.intro (rfl) (And.intro (((((((t).2) z5_0 z5_1).2 c22).2) z6_0 z6_1).2 c23).1 ((((((((t).2) z5_0 z5_1).2 c22).2) z6_0 z6_1).2 c23).2)))))))))
theorem C245_ok : am_CS 6 245 C245 := W245 (fun p k q h K hb => by
  refine T245_0 ⟨hb.1, fun h' q1 => ⟨fun c2 => ?_, fun c2 => ⟨q1.2.2.2.2.1, fun h'_1 q3 => ⟨fun c4 => ?_, fun c4 => ⟨⟨LD_a q3, by have := q3.2.2.1; omega, by have := q3.2.2.1; omega, by rw [(LD_tr q1 q3).2.1]; exact c2⟩, ?_⟩⟩⟩⟩⟩
  · exact am_rB (hb.2 h' (LD_q q1)) (ifc_f (fun z => c2 z.2.2))
  · have e := q1.2.2.1
    exact am_rB (hb.2 h'_1 (LD_q (LD_tr q1 q3))) (ifc_f (fun z => c4 (by omega)))
  · have e := q1.2.2.1
    rw [(LD_tr q1 q3).2.1]
    exact am_rB (hb.2 h'_1 (LD_q (LD_tr q1 q3))) (ifc_t ⟨by omega, by omega, c2⟩))
/-! 246 FactorNetsModel.partFar -/
def C246 : am_K := fun as h K => am_a4 as (fun v0 v1 v2 v3 => am_oc 12 571 v0 (am_n v1 (fun k => am_n v2 (fun p => am_n v3 (fun q => (RIv h) ∧ (∀ (h' : am_H), RQ h h' → K (some (mB (ifc ((0 ≤ k ∧ k < ncl (ptE (nr h 572 2)) (nl (nr h 572 2))) ∧ (0 ≤ p ∧ p < (h 572 0)) ∧ (0 ≤ q ∧ q < (h 572 0))) (ds (ad (nr h 572 2)) (cof (nr h 572 2) k p) (cof (nr h 572 2) k q)) (-2)))) (h')))))))
theorem W246 {d : Nat} (H : ∀ (k : Int) (p : Int) (q : Int) (h : am_H) (K : Option am_V → am_H → Prop), (RIv h) ∧ (∀ (h' : am_H), RQ h h' → K (some (mB (ifc ((0 ≤ k ∧ k < ncl (ptE (nr h 572 2)) (nl (nr h 572 2))) ∧ (0 ≤ p ∧ p < (h 572 0)) ∧ (0 ≤ q ∧ q < (h 572 0))) (ds (ad (nr h 572 2)) (cof (nr h 572 2) k p) (cof (nr h 572 2) k q)) (-2)))) (h')) → am_AT d 246 0 [some (mR 1 12 0 571), some (mB k), some (mB p), some (mB q)] h K) : am_CS d 246 C246 := by
  refine am_CS_of (T := tb246) (mL := 4) (rk := 1) rfl (fun as h K hC => ?_)
  obtain ⟨v0, v1, v2, v3, rfl, hC0⟩ := am_a4_e hC
  obtain ⟨e0, hC1⟩ := am_oc_e hC0
  subst e0
  obtain ⟨k, rfl, hC2⟩ := am_n_e hC1
  obtain ⟨p, rfl, hC3⟩ := am_n_e hC2
  obtain ⟨q, rfl, hC4⟩ := am_n_e hC3
  refine ⟨Nat.le_of_ble_eq_true rfl, ?_⟩
  exact H k p q h K hC4
theorem T246_0 {R : Option am_V → am_H → Prop} {h : am_H} {k : Int} {p : Int} {q : Int} (t : (RIv h) ∧ (∀ (h' : am_H), (LD h h') → (((¬ (0 ≤ k ∧ k < ncl (ptE (nr h 572 2)) (nl (nr h 572 2)))) → (R (some (mB (-2))) h')) ∧ ((0 ≤ k ∧ k < ncl (ptE (nr h 572 2)) (nl (nr h 572 2))) → ((RIv h') ∧ (∀ (h'_1 : am_H), (LD h' h'_1) → (((¬ ((0 ≤ p ∧ p < (h' 572 0)) ∧ (0 ≤ q ∧ q < (h' 572 0)))) → (R (some (mB (-2))) h'_1)) ∧ (((0 ≤ p ∧ p < (h' 572 0)) ∧ (0 ≤ q ∧ q < (h' 572 0))) → (((NT (h'_1 572 0) (nr h'_1 572 2) ∧ CN (h'_1 572 0) (nr h'_1 572 2) ∧ RLd h'_1 (h'_1 572 0) (nr h'_1 572 2)) ∧ (0 ≤ p ∧ p < (h'_1 572 0)) ∧ (0 ≤ k ∧ k < ncl (ptE (nr h'_1 572 2)) (nl (nr h'_1 572 2)))) ∧ (((NT (h'_1 572 0) (nr h'_1 572 2) ∧ CN (h'_1 572 0) (nr h'_1 572 2) ∧ RLd h'_1 (h'_1 572 0) (nr h'_1 572 2)) ∧ (0 ≤ q ∧ q < (h'_1 572 0)) ∧ (0 ≤ k ∧ k < ncl (ptE (nr h'_1 572 2)) (nl (nr h'_1 572 2)))) ∧ (((0 ≤ (cof (nr h'_1 572 2) k p) ∧ (cof (nr h'_1 572 2) k p) < 20) ∧ (0 ≤ (cof (nr h'_1 572 2) k q) ∧ (cof (nr h'_1 572 2) k q) < 20)) ∧ (R (some (mB (h'_1 580 (20 * (cof (nr h'_1 572 2) k p) + (cof (nr h'_1 572 2) k q))))) h'_1)))))))))))) : am_AT 6 246 0 [some (mR 1 12 0 571), some (mB k), some (mB p), some (mB q)] h R :=
  am_T (d := 5) (m := 246) (T := tb246) (mL := 4) (rk := 1) (cuts := []) (l := [(212, C212), (222, C222), (224, C224), (242, C242)]) rfl ⟨am_CS_d (by decide) C212_ok, am_CS_d (by decide) C222_ok, am_CS_d (by decide) C224_ok, am_CS_d (by decide) C242_ok, trivial⟩ 25 (And.intro (rfl) (And.intro (t).1 (fun z7_0 z7_1 => And.intro (fun c24 => (((t).2) z7_0 z7_1).1 c24) (fun c24 => And.intro (rfl) (And.intro ((((t).2) z7_0 z7_1).2 c24).1 (fun z8_0 z8_1 => And.intro (fun c25 => ((((((t).2) z7_0 z7_1).2 c24).2) z8_0 z8_1).1 c25) (fun c25 => And.intro (rfl) (And.intro (((((((t).2) z7_0 z7_1).2 c24).2) z8_0 z8_1).2 c25).1 (And.intro (rfl) (And.intro ((((((((t).2) z7_0 z7_1).2 c24).2) z8_0 z8_1).2 c25).2).1 (And.intro (rfl) (And.intro (((((((((t).2) z7_0 z7_1).2 c24).2) z8_0 z8_1).2 c25).2).2).1 ((((((((((t).2) z7_0 z7_1).2 c24).2) z8_0 z8_1).2 c25).2).2).2)))))))))))))
theorem C246_ok : am_CS 6 246 C246 := W246 (fun k p q h K hb => by
  have hn2 := hb.1.1.2.1
  refine T246_0 ⟨hb.1, fun h' q1 => ⟨fun c2 => ?_, fun c2 => ⟨q1.2.2.2.2.1, fun h'_1 q3 => ⟨fun c4 => ?_, fun c4 => ⟨⟨LD_a q3, by have := q3.2.2.1; omega, by rw [(LD_tr q1 q3).2.1]; exact c2⟩, ⟨⟨LD_a q3, by have := q3.2.2.1; omega, by rw [(LD_tr q1 q3).2.1]; exact c2⟩, ⟨by have e := q1.2.2.1; rw [(LD_tr q1 q3).2.1]; have hc := cof_ok (k := k) hb.1.1 hb.1.2.1 (p := p) (by omega); have hd := cof_ok (k := k) hb.1.1 hb.1.2.1 (p := q) (by omega); omega, ?_⟩⟩⟩⟩⟩⟩⟩
  · exact am_rB (hb.2 h' (LD_q q1)) (ifc_f (fun z => c2 z.1))
  · have e := q1.2.2.1
    exact am_rB (hb.2 h'_1 (LD_q (LD_tr q1 q3))) (ifc_f (fun z => c4 (by omega)))
  · have e := q1.2.2.1
    have hc := cof_ok (k := k) hb.1.1 hb.1.2.1 (p := p) (by omega)
    have hd := cof_ok (k := k) hb.1.1 hb.1.2.1 (p := q) (by omega)
    have t := LD_tr q1 q3
    have hF := t.2.2.2.2.2.1
    rw [t.2.1] at hF ⊢
    rw [hF _ _ (by omega) (by omega) (by omega) (by omega)]
    exact am_rB (hb.2 h'_1 (LD_q t)) (ifc_t ⟨c2, by omega, by omega⟩))
/-! 247 FactorNetsModel.linesOf -/
def C247 : am_K := fun as h K => am_a2 as (fun v0 v1 => am_oc 12 571 v0 (am_n v1 (fun k => ((NT (h 572 0) (nr h 572 2) ∧ CN (h 572 0) (nr h 572 2) ∧ RLd h (h 572 0) (nr h 572 2)) ∧ 0 < (h 572 0)) ∧ (K (some (mB (plc (h 572 0) (nr h 572 2) k))) h))))
theorem W247 {d : Nat} (H : ∀ (k : Int) (h : am_H) (K : Option am_V → am_H → Prop), ((NT (h 572 0) (nr h 572 2) ∧ CN (h 572 0) (nr h 572 2) ∧ RLd h (h 572 0) (nr h 572 2)) ∧ 0 < (h 572 0)) ∧ (K (some (mB (plc (h 572 0) (nr h 572 2) k))) h) → am_AT d 247 0 [some (mR 1 12 0 571), some (mB k), none, none, none] h K) : am_CS d 247 C247 := by
  refine am_CS_of (T := tb247) (mL := 5) (rk := 1) rfl (fun as h K hC => ?_)
  obtain ⟨v0, v1, rfl, hC0⟩ := am_a2_e hC
  obtain ⟨e0, hC1⟩ := am_oc_e hC0
  subst e0
  obtain ⟨k, rfl, hC2⟩ := am_n_e hC1
  refine ⟨Nat.le_of_ble_eq_true rfl, ?_⟩
  exact H k h K hC2
theorem T247_0 {R : Option am_V → am_H → Prop} {h : am_H} {k : Int} (t : ((NT (h 572 0) (nr h 572 2) ∧ CN (h 572 0) (nr h 572 2) ∧ RLd h (h 572 0) (nr h 572 2)) ∧ (0 ≤ (0 : Int) ∧ (0 : Int) < (h 572 0))) ∧ (am_AT 3 247 13 [some (mR 1 12 0 571), some (mB k), some (mI (mkb (rc (RA (nr h 572 2) (fun x => ¬ (x = k ↔ ((0 : Int) = 1)))) (0 : Int)))), some (mI 0), some (mI 0)] h R)) : am_AT 3 247 0 [some (mR 1 12 0 571), some (mB k), none, none, none] h R :=
  am_T (d := 2) (m := 247) (T := tb247) (mL := 5) (rk := 1) (cuts := [(13, [1, 1, 2, 2, 2])]) (l := [(188, C188), (237, C237)]) rfl ⟨am_CS_d (by decide) C188_ok, am_CS_d (by decide) C237_ok, trivial⟩ 14 (And.intro (rfl) (And.intro (Or.inl rfl) (And.intro (t).1 ((t).2))))
theorem T247_13 {R : Option am_V → am_H → Prop} {h : am_H} {k : Int} {x2 : Int} {x3 : Int} {x4 : Int} (t : (R32 x4) ∧ (((h 571 21 ≤ x4) → ((R32 x3) ∧ (R (some (mB x3)) h))) ∧ ((x4 < h 571 21) → ((0 ≤ x4 ∧ x4 < 190) ∧ (((¬ h 583 x4 = k) → (am_AT 3 247 13 [some (mR 1 12 0 571), some (mB k), some (mI x2), some (mI (x3 + 0)), some (mI (x4 + 1))] h R)) ∧ ((h 583 x4 = k) → ((0 ≤ x4 ∧ x4 < 190) ∧ ((R32 x2) ∧ ((0 ≤ (h 581 x4) ∧ (h 581 x4) < 32) ∧ (((¬ (bit x2 (h 581 x4))) → (am_AT 3 247 13 [some (mR 1 12 0 571), some (mB k), some (mI x2), some (mI (x3 + 0)), some (mI (x4 + 1))] h R)) ∧ ((bit x2 (h 581 x4)) → (am_AT 3 247 13 [some (mR 1 12 0 571), some (mB k), some (mI x2), some (mI (x3 + 1)), some (mI (x4 + 1))] h R)))))))))))) : am_AT 3 247 13 [some (mR 1 12 0 571), some (mB k), some (mI x2), some (mI x3), some (mI x4)] h R :=
  am_T (d := 2) (m := 247) (T := tb247) (mL := 5) (rk := 1) (cuts := [(13, [1, 1, 2, 2, 2])]) (l := [(188, C188), (237, C237)]) rfl ⟨am_CS_d (by decide) C188_ok, am_CS_d (by decide) C237_ok, trivial⟩ 28 (And.intro (t).1 (And.intro (fun c26 => And.intro (((t).2).1 c26).1 ((((t).2).1 c26).2)) (fun c26 => And.intro (((t).2).2 c26).1 (And.intro (fun c27 => ((((t).2).2 c26).2).1 c27) (fun c27 => And.intro (((((t).2).2 c26).2).2 c27).1 (And.intro ((((((t).2).2 c26).2).2 c27).2).1 (And.intro (((((((t).2).2 c26).2).2 c27).2).2).1 (And.intro (fun c28 => ((((((((t).2).2 c26).2).2 c27).2).2).2).1 c28) (fun c28 => ((((((((t).2).2 c26).2).2 c27).2).2).2).2 c28)))))))))
theorem L247 {K : Option am_V → am_H → Prop} {g : am_H} (H : Lda g) {k : Int} (hK : K (some (mB (plc (g 572 0) (nr g 572 2) k))) g) : ∀ l, 0 ≤ l → l ≤ nl (nr g 572 2) → am_AT 3 247 13 [some (mR 1 12 0 571), some (mB k), some (mI (lay (nr g 572 2) k 0)), some (mI (ct (fun l => lab (ptE (nr g 572 2)) l = k ∧ bit (lay (nr g 572 2) k 0) (lo (nr g 572 2) l)) l.toNat)), some (mI l)] g K := by
  obtain ⟨hN, hC, hD⟩ := H
  have hn1 := hN.1
  have hn2 := hN.2.1
  have hnl := nl_r (nr g 572 2)
  obtain ⟨hF, hL, hS⟩ := hD
  have e21 := hL.1
  have hly := @S20_lay (nr g 572 2) k 0
  have hly1 := hly.1
  have hly2 := hly.2
  refine lp (nl (nr g 572 2)) (fun l ih l0 l1 => ?_)
  have hct := ct_le (fun l => lab (ptE (nr g 572 2)) l = k ∧ bit (lay (nr g 572 2) k 0) (lo (nr g 572 2) l)) l.toNat
  have e83 : l < nl (nr g 572 2) → g 583 l = lab (ptE (nr g 572 2)) l := fun hl => (hS.2.2 l l0 hl).1
  have e81 : l < nl (nr g 572 2) → g 581 l = lo (nr g 572 2) l ∧ (0 ≤ lo (nr g 572 2) l ∧ lo (nr g 572 2) l < g 572 0) := fun hl => ⟨(hL.2 l l0 hl).1, (lo_n hN l0 hl).1⟩
  refine T247_13 ⟨by omega, ⟨fun c1 => ⟨by omega, ?_⟩, fun c1 => ⟨by omega, ⟨fun c2 => ?_, fun c2 => ⟨by omega, ⟨by omega, ⟨by have := e81 (by omega); omega, ⟨fun c3 => ?_, fun c3 => ?_⟩⟩⟩⟩⟩⟩⟩⟩
  · rw [show l = nl (nr g 572 2) by omega]
    exact hK
  · have := ih (by omega) (by omega) (by omega)
    rw [ct_to l0, am_b_f (fun z => c2 (by rw [e83 (by omega)]; exact z.1))] at this
    exact this
  · have := ih (by omega) (by omega) (by omega)
    rw [ct_to l0, am_b_f (fun z => c3 (by rw [(e81 (by omega)).1]; exact z.2))] at this
    exact this
  · have := ih (by omega) (by omega) (by omega)
    rw [ct_to l0, am_b_t ⟨by rw [← e83 (by omega)]; exact c2, by rw [← (e81 (by omega)).1]; exact c3⟩] at this
    exact this
theorem C247_ok : am_CS 3 247 C247 := W247 (fun k h K hb => by
  refine T247_0 ⟨⟨hb.1.1, by have := hb.1.2; omega⟩, ?_⟩
  · rw [RA_0]
    exact L247 hb.1.1 hb.2 0 (by omega) (nl_r _).1)
