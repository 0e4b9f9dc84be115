/-! ===== the route ===== -/
noncomputable def dk (r : Int → Int) (k p q : Int) : Int := ds (ad r) (cof r k p) (cof r k q)
noncomputable def nxt (n : Int) (r : Int → Int) (k p q : Int) : Int := fnd (fun x => RA r (fun y => y = k) p x ∧ dk r k x q < dk r k p q) n.toNat
noncomputable def rtk (n : Int) (r : Int → Int) (k q : Int) : Nat → Int × Int → Int × Int
  | 0, z => z
  | f + 1, z => if z.2 ≤ 0 ∨ dk r k z.1 q ≤ 0 then z else rtk n r k q f (nxt n r k z.1 q, z.2 - 1)
noncomputable def rta (n : Int) (r : Int → Int) (p q i : Int) : Nat → Int × Int
  | 0 => (p, i)
  | m + 1 => rtk n r m q 20 (rta n r p q i m)
noncomputable def rout (n : Int) (r : Int → Int) (p q i : Int) : Int := ifc ((rta n r p q i (ncl (ptE r) (nl r)).toNat).2 = 0) (rta n r p q i (ncl (ptE r) (nl r)).toNat).1 (-1)
theorem fnd_ex {P : Int → Prop} : ∀ m : Nat, (∃ x : Int, (0 ≤ x ∧ x < m) ∧ P x) → (0 ≤ fnd P m ∧ fnd P m < m) ∧ P (fnd P m) ∧ ∀ j, 0 ≤ j → j < fnd P m → ¬ P j := by
  intro m ⟨x, hx, hp⟩
  have G : ∀ k : Nat, ∀ y : Int, y = k → P y → ∃ z, (0 ≤ z ∧ z ≤ y) ∧ P z ∧ ∀ j, 0 ≤ j → j < z → ¬ P j := by
    intro k
    induction k using Nat.strongRecOn with
    | _ k ih =>
      intro y hy hpy
      by_cases e : ∃ j, (0 ≤ j ∧ j < y) ∧ P j
      · obtain ⟨j, hj, hpj⟩ := e
        obtain ⟨z, z1, z2, z3⟩ := ih j.toNat (by omega) j (by omega) hpj
        exact ⟨z, by omega, z2, z3⟩
      · exact ⟨y, by omega, hpy, fun j a b w => e ⟨j, ⟨a, b⟩, w⟩⟩
  obtain ⟨z, z1, z2, z3⟩ := G x.toNat x (by omega) hp
  rw [fnd_is z1.1 z2 z3 m (by omega)]
  exact ⟨by omega, z2, z3⟩
section ROUTE
variable {n : Int} {r : Int → Int} {k p q : Int}
theorem dk_r (hN : NT n r) (hC : CN n r) (hp : 0 ≤ p ∧ p < n) (hq : 0 ≤ q ∧ q < n) : 0 ≤ dk r k p q ∧ dk r k p q < n := ds_r hN hC (cof_ok hN hC hp).1 (cof_ok hN hC hq).1
theorem dk_mv (hN : NT n r) (hC : CN n r) (hp : 0 ≤ p ∧ p < n) (hq : 0 ≤ q ∧ q < n) : ds (ad r) p (mvd r k p q) = dk r k p q := by
  have a := cof_ok (k := k) hN hC hp
  have b := cof_ok (k := k) hN hC hq
  have m := mvd_ok (k := k) hN hC hp hq
  exact G9 (A := fun x => x = k) (B := fun x => ¬ x = k) hN hC (fun x e w => w e) hp m.2.1 (rc_trans (rc_sym (RA_sym hN) a.2.1) b.2.1) a.2.2.1 (rc_trans (rc_sym (RA_sym hN) m.2.2.1) b.2.2.1)
theorem mvd_st (hN : NT n r) (hC : CN n r) (hp : 0 ≤ p ∧ p < n) (hq : 0 ≤ q ∧ q < n) {x : Int} (hx : RA r (fun y => y = k) p x) : mvd r k x q = mvd r k p q := by
  have m := mvd_ok (k := k) hN hC hp hq
  exact ((mvd_ok (k := k) hN hC (RA_in hN hx).2 hq).2.2.2 _ (rc_trans (rc_1 (RA_sym hN _ _ hx)) m.2.1) m.2.2.1).symm
theorem dk_0 (hN : NT n r) (hC : CN n r) (hp : 0 ≤ p ∧ p < n) (hq : 0 ≤ q ∧ q < n) : p = mvd r k p q ↔ dk r k p q ≤ 0 := by
  have m := mvd_ok (k := k) hN hC hp hq
  rw [← dk_mv hN hC hp hq]
  constructor
  · intro e
    rw [← e, ds_0]
    omega
  · intro e
    have w := CN_rc hN hC hp m.1
    have := ds_nn w
    exact ds_z w (by omega)
theorem nxt_ok (hN : NT n r) (hC : CN n r) (hp : 0 ≤ p ∧ p < n) (hq : 0 ≤ q ∧ q < n) (h0 : 0 < dk r k p q) : (0 ≤ nxt n r k p q ∧ nxt n r k p q < n) ∧ (RA r (fun y => y = k) p (nxt n r k p q) ∧ dk r k (nxt n r k p q) q < dk r k p q) ∧ ∀ j, 0 ≤ j → j < nxt n r k p q → ¬ (RA r (fun y => y = k) p j ∧ dk r k j q < dk r k p q) := by
  have m := mvd_ok (k := k) hN hC hp hq
  have e := dk_mv (k := k) hN hC hp hq
  obtain ⟨x, x1, x2⟩ := wk_fst (E := RA r (fun y => y = k)) (d := (dk r k p q).toNat - 1) (a := p) (b := mvd r k p q) (by
    rw [show (dk r k p q).toNat - 1 + 1 = (dk r k p q).toNat by omega]
    exact G2 hN hC hp _ _ m.2.1 (by omega))
  have hx := (RA_in hN x1).2
  have e2 := dk_mv (k := k) hN hC hx hq
  rw [mvd_st hN hC hp hq x1] at e2
  have e3 := ds_wk (wk_mono (F := ad r) (fun _ _ z => z.1) x2)
  have := fnd_ex (P := fun x => RA r (fun y => y = k) p x ∧ dk r k x q < dk r k p q) n.toNat ⟨x, by omega, x1, by omega⟩
  rw [show ((n.toNat : Nat) : Int) = n by omega] at this
  exact this
theorem nxt_ref (hN : NT n r) (hC : CN n r) (hp : 0 ≤ p ∧ p < n) (hq : 0 ≤ q ∧ q < n) : fnd (fun x => RA r (fun y => y = k) p x ∧ ds (ad r) x (mvd r k p q) < ds (ad r) p (mvd r k p q)) n.toNat = nxt n r k p q := by
  have e : (fun x => RA r (fun y => y = k) p x ∧ ds (ad r) x (mvd r k p q) < ds (ad r) p (mvd r k p q)) = (fun x => RA r (fun y => y = k) p x ∧ dk r k x q < dk r k p q) := by
    funext x
    refine propext (and_congr_right fun w => ?_)
    rw [dk_mv hN hC hp hq, ← mvd_st hN hC hp hq w, dk_mv hN hC (RA_in hN w).2 hq]
  unfold nxt
  rw [e]
theorem rtk_0 {f : Nat} {l : Int} (h : l ≤ 0) : rtk n r k q f (p, l) = (p, l) := by
  cases f with
  | zero => rfl
  | succ f => exact if_pos (Or.inl h)
theorem rtk_1 {f : Nat} {l : Int} (h : dk r k p q ≤ 0) : rtk n r k q f (p, l) = (p, l) := by
  cases f with
  | zero => rfl
  | succ f => exact if_pos (Or.inr h)
theorem rtk_2 {f : Nat} {l : Int} (h : 0 < l) (h2 : 0 < dk r k p q) : rtk n r k q (f + 1) (p, l) = rtk n r k q f (nxt n r k p q, l + -1) := by
  have e : ¬ (l ≤ 0 ∨ dk r k p q ≤ 0) := by omega
  exact if_neg e
theorem rta_s {i : Int} {m : Int} (h : 0 ≤ m) : rta n r p q i (m + 1).toNat = rtk n r m q 20 (rta n r p q i m.toNat) := by
  rw [show (m + 1).toNat = m.toNat + 1 by omega]
  show rtk n r ((m.toNat : Nat) : Int) q 20 _ = _
  rw [show ((m.toNat : Nat) : Int) = m by omega]
end ROUTE
/-! 165 FactorNets.nextInPart -/
def C165 : am_K := fun as h K => am_a4 as (fun v0 v1 v2 v3 => am_oc 11 0 v0 (am_n v1 (fun k => am_n v2 (fun p => am_n v3 (fun q => (PI h ∧ h 0 16 = 1 ∧ (0 ≤ k ∧ k < (ncl (ptE (nr h 7 0)) (nl (nr h 7 0)))) ∧ (0 ≤ p ∧ p < (h 6 0)) ∧ (0 ≤ q ∧ q < (h 6 0)) ∧ 0 < dk (nr h 7 0) k p q) ∧ (∀ (h' : am_H), PQ h h' → K (some (mB (nxt (h 6 0) (nr h 7 0) k p q))) (h')))))))
theorem W165 {d : Nat} (H : ∀ (k : Int) (p : Int) (q : Int) (h : am_H) (K : Option am_V → am_H → Prop), (PI h ∧ h 0 16 = 1 ∧ (0 ≤ k ∧ k < (ncl (ptE (nr h 7 0)) (nl (nr h 7 0)))) ∧ (0 ≤ p ∧ p < (h 6 0)) ∧ (0 ≤ q ∧ q < (h 6 0)) ∧ 0 < dk (nr h 7 0) k p q) ∧ (∀ (h' : am_H), PQ h h' → K (some (mB (nxt (h 6 0) (nr h 7 0) k p q))) (h')) → am_AT d 165 0 [some (mR 1 11 0 0), some (mB k), some (mB p), some (mB q), none, none, none] h K) : am_CS d 165 C165 := by
  refine am_CS_of (T := tb165) (mL := 7) (rk := 1) rfl (fun as h K hC => ?_)
  obtain ⟨v0, v1, v2, v3, rfl, hC0⟩ := am_a4_e hC
  obtain ⟨e0, hC1⟩ := am_oc_e hC0
  subst e0
  obtain ⟨k, rfl, hC2⟩ := am_n_e hC1
  obtain ⟨p, rfl, hC3⟩ := am_n_e hC2
  obtain ⟨q, rfl, hC4⟩ := am_n_e hC3
  refine ⟨Nat.le_of_ble_eq_true rfl, ?_⟩
  exact H k p q h K hC4
theorem T165_0 {R : Option am_V → am_H → Prop} {h : am_H} {k : Int} {p : Int} {q : Int} (t : (PI h ∧ h 0 16 = 1 ∧ (0 ≤ k ∧ k < (ncl (ptE (nr h 7 0)) (nl (nr h 7 0)))) ∧ (0 ≤ p ∧ p < (h 6 0)) ∧ (0 ≤ q ∧ q < (h 6 0))) ∧ (∀ (h' : am_H), (PQ h h') → (am_AT 6 165 12 [some (mR 1 11 0 0), some (mB k), some (mB p), some (mB q), some (mI (ds (ad (nr h 7 0)) (cof (nr h 7 0) k p) (cof (nr h 7 0) k q))), some (mI 0), none] h' R))) : am_AT 6 165 0 [some (mR 1 11 0 0), some (mB k), some (mB p), some (mB q), none, none, none] h R :=
  am_T (d := 5) (m := 165) (T := tb165) (mL := 7) (rk := 1) (cuts := [(12, [1, 1, 1, 1, 2, 2, 0])]) (l := [(164, C164)]) rfl ⟨am_CS_d (by decide) C164_ok, trivial⟩ 12 (And.intro (rfl) (And.intro (t).1 (fun z1_0 z1_1 => ((t).2) z1_0 z1_1)))
theorem T165_12 {R : Option am_V → am_H → Prop} {h : am_H} {k : Int} {p : Int} {q : Int} {x4 : Int} {x5 : Int} (t : (R32 x5) ∧ (((h 6 0 ≤ x5) → (R (some (mB p)) h)) ∧ ((x5 < h 6 0) → ((0 ≤ k ∧ k < 4) ∧ ((0 ≤ p ∧ p < 20) ∧ (((iAnd (iShr (h (156 + k) p) x5) 1 = 0) → (am_AT 6 165 12 [some (mR 1 11 0 0), some (mB k), some (mB p), some (mB q), some (mI x4), some (mI (x5 + 1)), none] h R)) ∧ ((¬ iAnd (iShr (h (156 + k) p) x5) 1 = 0) → ((R32 x5) ∧ ((PI h ∧ h 0 16 = 1 ∧ (0 ≤ k ∧ k < (ncl (ptE (nr h 7 0)) (nl (nr h 7 0)))) ∧ (0 ≤ x5 ∧ x5 < (h 6 0)) ∧ (0 ≤ q ∧ q < (h 6 0))) ∧ (∀ (h' : am_H), (PQ h h') → ((R32 x4) ∧ (((x4 ≤ ds (ad (nr h 7 0)) (cof (nr h 7 0) k x5) (cof (nr h 7 0) k q)) → (am_AT 6 165 12 [some (mR 1 11 0 0), some (mB k), some (mB p), some (mB q), some (mI x4), some (mI (x5 + 1)), none] h' R)) ∧ ((ds (ad (nr h 7 0)) (cof (nr h 7 0) k x5) (cof (nr h 7 0) k q) < x4) → ((R32 x5) ∧ (R (some (mB x5)) h'))))))))))))))) : am_AT 6 165 12 [some (mR 1 11 0 0), some (mB k), some (mB p), some (mB q), some (mI x4), some (mI x5), none] h R :=
  am_T (d := 5) (m := 165) (T := tb165) (mL := 7) (rk := 1) (cuts := [(12, [1, 1, 1, 1, 2, 2, 0])]) (l := [(164, C164)]) rfl ⟨am_CS_d (by decide) C164_ok, trivial⟩ 36 (And.intro (t).1 (And.intro (fun c1 => ((t).2).1 c1) (fun c1 => And.intro (((t).2).2 c1).1 (And.intro ((((t).2).2 c1).2).1 (And.intro (fun c2 => And.intro (fun _ => (((((t).2).2 c1).2).2).1 c2) (fun c => absurd c (by decide))) (fun c2 => And.intro (fun c => absurd c (by decide)) (fun _ => And.intro ((((((t).2).2 c1).2).2).2 c2).1 (And.intro (rfl) (And.intro (((((((t).2).2 c1).2).2).2 c2).2).1 (fun z2_0 z2_1 => And.intro (((((((((t).2).2 c1).2).2).2 c2).2).2) z2_0 z2_1).1 (And.intro (fun c3 => ((((((((((t).2).2 c1).2).2).2 c2).2).2) z2_0 z2_1).2).1 c3) (fun c3 => And.intro (((((((((((t).2).2 c1).2).2).2 c2).2).2) z2_0 z2_1).2).2 c3).1 ((((((((((((t).2).2 c1).2).2).2 c2).2).2) z2_0 z2_1).2).2 c3).2)))))))))))))
theorem L165 {K : Option am_V → am_H → Prop} {h : am_H} {k p q : Int} (hk : 0 ≤ k ∧ k < ncl (ptE (nr h 7 0)) (nl (nr h 7 0))) (hp : 0 ≤ p ∧ p < h 6 0) (hq : 0 ≤ q ∧ q < h 6 0) (h0 : 0 < dk (nr h 7 0) k p q) (hN : NT (h 6 0) (nr h 7 0)) (hC : CN (h 6 0) (nr h 7 0)) (hK : ∀ h', PQ h h' → K (some (mB (nxt (h 6 0) (nr h 7 0) k p q))) h') : ∀ i, ∀ g : am_H, 0 ≤ i → i ≤ h 6 0 → i ≤ nxt (h 6 0) (nr h 7 0) k p q → PQ h g → g 0 16 = 1 → am_AT 6 165 12 [some (mR 1 11 0 0), some (mB k), some (mB p), some (mB q), some (mI (ds (ad (nr h 7 0)) (cof (nr h 7 0) k p) (cof (nr h 7 0) k q))), some (mI i), none] g K := by
  have hn2 := hN.2.1
  have h4 := np_4 hN hC
  have hnx := nxt_ok hN hC hp hq h0
  have hd := dk_r (k := k) hN hC hp hq
  refine lp (h 6 0) (fun i ih g i0 i1 i2 G z => ?_)
  have e := G.2.2.1
  have w := ((PI_p G.1 z).2 k hk.1 (by rw [e.1]; exact hk.2)).1 p (by omega) (by omega)
  rw [e.1] at w
  have hb : i < h 6 0 → (bit (g (156 + k) p) i ↔ RA (nr h 7 0) (fun x => x = k) p i) := fun hi => by
    rw [w, bt_mk]
    exact ⟨fun a => a.2, fun a => ⟨by omega, a⟩⟩
  have nx : i < h 6 0 → ∀ g', PQ g g' → ¬ (RA (nr h 7 0) (fun x => x = k) p i ∧ dk (nr h 7 0) k i q < dk (nr h 7 0) k p q) → am_AT 6 165 12 [some (mR 1 11 0 0), some (mB k), some (mB p), some (mB q), some (mI (ds (ad (nr h 7 0)) (cof (nr h 7 0) k p) (cof (nr h 7 0) k q))), some (mI (i + 1)), none] g' K := fun hi g' G' hno => by
    have : i ≠ nxt (h 6 0) (nr h 7 0) k p q := fun e => hno (by rw [e]; exact hnx.2.1)
    exact ih hi g' (by omega) (by omega) (by omega) (PQ_tr G G') (G'.2.2.2.2.2.2 z)
  refine T165_12 ⟨by omega, ⟨fun c1 => ?_, fun c1 => ⟨by omega, ⟨by omega, ⟨fun c2 => ?_, fun c2 => ⟨by omega, ⟨by rw [e.1, e.2]; exact ⟨G.1, z, hk, by omega, hq⟩, fun h' q3 => ⟨by
    unfold dk at hd
    unfold R32
    omega, ⟨fun c4 => ?_, fun c4 => ⟨by omega, ?_⟩⟩⟩⟩⟩⟩⟩⟩⟩⟩
  · omega
  · exact nx (by omega) g (PQ_rf G.1) (fun a => (bt_has0 i0 (by omega)).mp c2 ((hb (by omega)).mpr a.1))
  · rw [e.1] at c4
    refine nx (by omega) h' q3 (fun a => ?_)
    have := a.2
    unfold dk at this
    omega
  · rw [e.1] at c4
    have b := (hb (by omega)).mp (Classical.byContradiction fun u => c2 ((bt_has0 i0 (by omega)).mpr u))
    refine am_rB (hK h' (PQ_tr G q3)) ?_
    have : ¬ i < nxt (h 6 0) (nr h 7 0) k p q := fun u => hnx.2.2 i i0 u ⟨b, c4⟩
    omega
theorem C165_ok : am_CS 6 165 C165 := W165 (fun k p q h K hb => by
  obtain ⟨⟨H, z, hk, hp, hq, h0⟩, hK⟩ := hb
  have hN := (SV5_N H.1).1
  have hC := (SV5_N H.1).2
  refine T165_0 ⟨⟨H, z, hk, hp, hq⟩, fun h' q1 => ?_⟩
  · exact L165 hk hp hq h0 hN hC hK 0 h' (by omega) (by omega) (nxt_ok hN hC hp hq h0).1.1 q1 (q1.2.2.2.2.2.2 z))
/-! 117 FactorNets.route -/
def C117 : am_K := fun as h K => am_a4 as (fun v0 v1 v2 v3 => am_oc 11 0 v0 (am_n v1 (fun p => am_n v2 (fun q => am_n v3 (fun i => (PI h) ∧ (∀ (h' : am_H), PQ h h' → K (some (mB (ifc ((0 ≤ p ∧ p < (h 6 0)) ∧ (0 ≤ q ∧ q < (h 6 0)) ∧ 0 ≤ i) (rout (h 6 0) (nr h 7 0) p q i) (-2)))) (h')))))))
theorem W117 {d : Nat} (H : ∀ (p : Int) (q : Int) (i : Int) (h : am_H) (K : Option am_V → am_H → Prop), (PI h) ∧ (∀ (h' : am_H), PQ h h' → K (some (mB (ifc ((0 ≤ p ∧ p < (h 6 0)) ∧ (0 ≤ q ∧ q < (h 6 0)) ∧ 0 ≤ i) (rout (h 6 0) (nr h 7 0) p q i) (-2)))) (h')) → am_AT d 117 0 [some (mR 1 11 0 0), some (mB p), some (mB q), some (mB i), none, none, none, none] h K) : am_CS d 117 C117 := by
  refine am_CS_of (T := tb117) (mL := 8) (rk := 1) rfl (fun as h K hC => ?_)
  obtain ⟨v0, v1, v2, v3, rfl, hC0⟩ := am_a4_e hC
  obtain ⟨e0, hC1⟩ := am_oc_e hC0
  subst e0
  obtain ⟨p, rfl, hC2⟩ := am_n_e hC1
  obtain ⟨q, rfl, hC3⟩ := am_n_e hC2
  obtain ⟨i, rfl, hC4⟩ := am_n_e hC3
  refine ⟨Nat.le_of_ble_eq_true rfl, ?_⟩
  exact H p q i h K hC4
theorem T117_0 {R : Option am_V → am_H → Prop} {h : am_H} {p : Int} {q : Int} {i : Int} (t : ((¬ (((0 ≤ p ∧ p < (h 6 0)) ∧ (0 ≤ q ∧ q < (h 6 0))))) → (R (some (mB (-2))) h)) ∧ ((((0 ≤ p ∧ p < (h 6 0)) ∧ (0 ≤ q ∧ q < (h 6 0)))) → (((0 ≤ i) → ((PI h) ∧ (∀ (h' : am_H), (PQ h h' ∧ h' 0 16 = 1) → (am_AT 7 117 29 [some (mR 1 11 0 0), none, some (mB q), none, some (mI p), some (mI i), some (mI 0), none] h' R)))) ∧ ((i < 0) → (R (some (mB (-2))) h))))) : am_AT 7 117 0 [some (mR 1 11 0 0), some (mB p), some (mB q), some (mB i), none, none, none, none] h R :=
  am_T (d := 6) (m := 117) (T := tb117) (mL := 8) (rk := 1) (cuts := [(29, [1, 0, 1, 0, 2, 2, 2, 0]), (44, [1, 0, 1, 0, 2, 2, 2, 2])]) (l := [(154, C154), (157, C157), (164, C164), (165, C165)]) rfl ⟨am_CS_d (by decide) C154_ok, am_CS_d (by decide) C157_ok, am_CS_d (by decide) C164_ok, am_CS_d (by decide) C165_ok, trivial⟩ 19 (And.intro (rfl) (And.intro (fun c4 => (t).1 c4) (fun c4 => And.intro (fun c5 => And.intro (rfl) (And.intro (((t).2 c4).1 c5).1 (fun z3_0 z3_1 => ((((t).2 c4).1 c5).2) z3_0 z3_1))) (fun c5 => ((t).2 c4).2 c5))))
theorem T117_29 {R : Option am_V → am_H → Prop} {h : am_H} {q : Int} {x4 : Int} {x5 : Int} {x6 : Int} (t : (R32 x6) ∧ (((h 153 0 ≤ x6) → ((R32 x5) ∧ (((¬ x5 = 0) → (R (some (mB (-1))) h)) ∧ ((x5 = 0) → ((R32 x4) ∧ (R (some (mB x4)) h)))))) ∧ ((x6 < h 153 0) → (am_AT 7 117 44 [some (mR 1 11 0 0), none, some (mB q), none, some (mI x4), some (mI x5), some (mI x6), some (mI 0)] h R)))) : am_AT 7 117 29 [some (mR 1 11 0 0), none, some (mB q), none, some (mI x4), some (mI x5), some (mI x6), none] h R :=
  am_T (d := 6) (m := 117) (T := tb117) (mL := 8) (rk := 1) (cuts := [(29, [1, 0, 1, 0, 2, 2, 2, 0]), (44, [1, 0, 1, 0, 2, 2, 2, 2])]) (l := [(154, C154), (157, C157), (164, C164), (165, C165)]) rfl ⟨am_CS_d (by decide) C154_ok, am_CS_d (by decide) C157_ok, am_CS_d (by decide) C164_ok, am_CS_d (by decide) C165_ok, trivial⟩ 14 (And.intro (t).1 (And.intro (fun c6 => And.intro (((t).2).1 c6).1 (And.intro (fun c7 => ((((t).2).1 c6).2).1 c7) (fun c7 => And.intro (((((t).2).1 c6).2).2 c7).1 ((((((t).2).1 c6).2).2 c7).2)))) (fun c6 => ((t).2).2 c6)))
theorem T117_44 {R : Option am_V → am_H → Prop} {h : am_H} {q : Int} {x4 : Int} {x5 : Int} {x6 : Int} {x7 : Int} (t : (R32 x7) ∧ (((20 ≤ x7) → (am_AT 7 117 29 [some (mR 1 11 0 0), none, some (mB q), none, some (mI x4), some (mI x5), some (mI (x6 + 1)), none] h R)) ∧ ((x7 < 20) → ((R32 x5) ∧ (((x5 ≤ 0) → (am_AT 7 117 29 [some (mR 1 11 0 0), none, some (mB q), none, some (mI x4), some (mI x5), some (mI (x6 + 1)), none] h R)) ∧ ((0 < x5) → ((R32 x6) ∧ ((R32 x4) ∧ ((PI h ∧ h 0 16 = 1 ∧ (0 ≤ x6 ∧ x6 < (ncl (ptE (nr h 7 0)) (nl (nr h 7 0)))) ∧ (0 ≤ x4 ∧ x4 < (h 6 0)) ∧ (0 ≤ q ∧ q < (h 6 0))) ∧ (∀ (h' : am_H), (PQ h h') → (((ds (ad (nr h 7 0)) (cof (nr h 7 0) x6 x4) (cof (nr h 7 0) x6 q) ≤ 0) → (am_AT 7 117 29 [some (mR 1 11 0 0), none, some (mB q), none, some (mI x4), some (mI x5), some (mI (x6 + 1)), none] h' R)) ∧ ((0 < ds (ad (nr h 7 0)) (cof (nr h 7 0) x6 x4) (cof (nr h 7 0) x6 q)) → ((R32 x6) ∧ ((R32 x4) ∧ ((PI h' ∧ h' 0 16 = 1 ∧ (0 ≤ x6 ∧ x6 < (ncl (ptE (nr h' 7 0)) (nl (nr h' 7 0)))) ∧ (0 ≤ x4 ∧ x4 < (h' 6 0)) ∧ (0 ≤ q ∧ q < (h' 6 0)) ∧ 0 < dk (nr h' 7 0) x6 x4 q) ∧ (∀ (h'_1 : am_H), (PQ h' h'_1) → (am_AT 7 117 44 [some (mR 1 11 0 0), none, some (mB q), none, some (mI (nxt (h' 6 0) (nr h' 7 0) x6 x4 q)), some (mI (x5 + (-1))), some (mI x6), some (mI (x7 + 1))] h'_1 R))))))))))))))))) : am_AT 7 117 44 [some (mR 1 11 0 0), none, some (mB q), none, some (mI x4), some (mI x5), some (mI x6), some (mI x7)] h R :=
  am_T (d := 6) (m := 117) (T := tb117) (mL := 8) (rk := 1) (cuts := [(29, [1, 0, 1, 0, 2, 2, 2, 0]), (44, [1, 0, 1, 0, 2, 2, 2, 2])]) (l := [(154, C154), (157, C157), (164, C164), (165, C165)]) rfl ⟨am_CS_d (by decide) C154_ok, am_CS_d (by decide) C157_ok, am_CS_d (by decide) C164_ok, am_CS_d (by decide) C165_ok, trivial⟩ 24 (And.intro (t).1 (And.intro (fun c8 => ((t).2).1 c8) (fun c8 => And.intro (((t).2).2 c8).1 (And.intro (fun c9 => ((((t).2).2 c8).2).1 c9) (fun c9 => And.intro (((((t).2).2 c8).2).2 c9).1 (And.intro ((((((t).2).2 c8).2).2 c9).2).1 (And.intro (rfl) (And.intro (((((((t).2).2 c8).2).2 c9).2).2).1 (fun z4_0 z4_1 => And.intro (fun c10 => (((((((((t).2).2 c8).2).2 c9).2).2).2) z4_0 z4_1).1 c10) (fun c10 => And.intro ((((((((((t).2).2 c8).2).2 c9).2).2).2) z4_0 z4_1).2 c10).1 (And.intro (((((((((((t).2).2 c8).2).2 c9).2).2).2) z4_0 z4_1).2 c10).2).1 (And.intro (rfl) (And.intro ((((((((((((t).2).2 c8).2).2 c9).2).2).2) z4_0 z4_1).2 c10).2).2).1 (fun z5_0 z5_1 => (((((((((((((t).2).2 c8).2).2 c9).2).2).2) z4_0 z4_1).2 c10).2).2).2) z5_0 z5_1))))))))))))))
/-! 254 FactorNetsModel.stepOn -/
def C254 : am_K := fun as h K => am_a4 as (fun v0 v1 v2 v3 => am_oc 12 571 v0 (am_n v1 (fun p => am_n v2 (fun k => am_n v3 (fun q => ((NT (h 572 0) (nr h 572 2) ∧ CN (h 572 0) (nr h 572 2) ∧ RLd h (h 572 0) (nr h 572 2)) ∧ (0 ≤ p ∧ p < (h 572 0)) ∧ (0 ≤ q ∧ q < (h 572 0))) ∧ (K (some (mB (fnd (fun x => RA (nr h 572 2) (fun y => y = k) p x ∧ ds (ad (nr h 572 2)) x q < ds (ad (nr h 572 2)) p q) (h 572 0).toNat))) h))))))
theorem W254 {d : Nat} (H : ∀ (p : Int) (k : Int) (q : Int) (h : am_H) (K : Option am_V → am_H → Prop), ((NT (h 572 0) (nr h 572 2) ∧ CN (h 572 0) (nr h 572 2) ∧ RLd h (h 572 0) (nr h 572 2)) ∧ (0 ≤ p ∧ p < (h 572 0)) ∧ (0 ≤ q ∧ q < (h 572 0))) ∧ (K (some (mB (fnd (fun x => RA (nr h 572 2) (fun y => y = k) p x ∧ ds (ad (nr h 572 2)) x q < ds (ad (nr h 572 2)) p q) (h 572 0).toNat))) h) → am_AT d 254 0 [some (mR 1 12 0 571), some (mB p), some (mB k), some (mB q), none] h K) : am_CS d 254 C254 := by
  refine am_CS_of (T := tb254) (mL := 5) (rk := 1) rfl (fun as h K hC => ?_)
  obtain ⟨v0, v1, v2, v3, rfl, hC0⟩ := am_a4_e hC
  obtain ⟨e0, hC1⟩ := am_oc_e hC0
  subst e0
  obtain ⟨p, rfl, hC2⟩ := am_n_e hC1
  obtain ⟨k, rfl, hC3⟩ := am_n_e hC2
  obtain ⟨q, rfl, hC4⟩ := am_n_e hC3
  refine ⟨Nat.le_of_ble_eq_true rfl, ?_⟩
  exact H p k q h K hC4
theorem T254_0 {R : Option am_V → am_H → Prop} {h : am_H} {p : Int} {k : Int} {q : Int} (t : am_AT 3 254 3 [some (mR 1 12 0 571), some (mB p), some (mB k), some (mB q), some (mI 0)] h R) : am_AT 3 254 0 [some (mR 1 12 0 571), some (mB p), some (mB k), some (mB q), none] h R :=
  am_T (d := 2) (m := 254) (T := tb254) (mL := 5) (rk := 1) (cuts := [(3, [1, 1, 1, 1, 2])]) (l := [(198, C198), (212, C212), (227, C227)]) rfl ⟨am_CS_d (by decide) C198_ok, am_CS_d (by decide) C212_ok, am_CS_d (by decide) C227_ok, trivial⟩ 6 (t)
theorem T254_3 {R : Option am_V → am_H → Prop} {h : am_H} {p : Int} {k : Int} {q : Int} {x4 : Int} (t : (R32 x4) ∧ (((h 572 0 ≤ x4) → (R (some (mB (-1))) h)) ∧ ((x4 < h 572 0) → ((R32 x4) ∧ (((0 ≤ p ∧ p < 20) ∧ (0 ≤ x4 ∧ x4 < 32)) ∧ (((¬ (bit (h 572 (2 + p)) x4)) → (am_AT 3 254 3 [some (mR 1 12 0 571), some (mB p), some (mB k), some (mB q), some (mI (x4 + 1))] h R)) ∧ ((bit (h 572 (2 + p)) x4) → ((R32 x4) ∧ ((NT (h 572 0) (nr h 572 2) ∧ RLn h (nr h 572 2) ∧ (0 ≤ p ∧ p < h 572 0) ∧ (0 ≤ x4 ∧ x4 < h 572 0)) ∧ ((0 ≤ lno (nr h 572 2) p x4 ∧ lno (nr h 572 2) p x4 < 190) ∧ (((¬ h 583 (lno (nr h 572 2) p x4) = k) → (am_AT 3 254 3 [some (mR 1 12 0 571), some (mB p), some (mB k), some (mB q), some (mI (x4 + 1))] h R)) ∧ ((h 583 (lno (nr h 572 2) p x4) = k) → ((R32 x4) ∧ (((0 ≤ x4 ∧ x4 < 20) ∧ (0 ≤ q ∧ q < 20)) ∧ (((0 ≤ p ∧ p < 20) ∧ (0 ≤ q ∧ q < 20)) ∧ (((h 580 (20 * p + q) ≤ h 580 (20 * x4 + q)) → (am_AT 3 254 3 [some (mR 1 12 0 571), some (mB p), some (mB k), some (mB q), some (mI (x4 + 1))] h R)) ∧ ((h 580 (20 * x4 + q) < h 580 (20 * p + q)) → ((R32 x4) ∧ (R (some (mB x4)) h))))))))))))))))))) : am_AT 3 254 3 [some (mR 1 12 0 571), some (mB p), some (mB k), some (mB q), some (mI x4)] h R :=
  am_T (d := 2) (m := 254) (T := tb254) (mL := 5) (rk := 1) (cuts := [(3, [1, 1, 1, 1, 2])]) (l := [(198, C198), (212, C212), (227, C227)]) rfl ⟨am_CS_d (by decide) C198_ok, am_CS_d (by decide) C212_ok, am_CS_d (by decide) C227_ok, trivial⟩ 35 (And.intro (⟨by decide, by decide⟩) (And.intro (t).1 (And.intro (fun c11 => ((t).2).1 c11) (fun c11 => And.intro (((t).2).2 c11).1 (And.intro (rfl) (And.intro ((((t).2).2 c11).2).1 (And.intro (fun c12 => (((((t).2).2 c11).2).2).1 c12) (fun c12 => And.intro ((((((t).2).2 c11).2).2).2 c12).1 (And.intro (rfl) (And.intro (((((((t).2).2 c11).2).2).2 c12).2).1 (And.intro ((((((((t).2).2 c11).2).2).2 c12).2).2).1 (And.intro (fun c13 => (((((((((t).2).2 c11).2).2).2 c12).2).2).2).1 c13) (fun c13 => And.intro ((((((((((t).2).2 c11).2).2).2 c12).2).2).2).2 c13).1 (And.intro (rfl) (And.intro (((((((((((t).2).2 c11).2).2).2 c12).2).2).2).2 c13).2).1 (And.intro (rfl) (And.intro ((((((((((((t).2).2 c11).2).2).2 c12).2).2).2).2 c13).2).2).1 (And.intro (fun c14 => (((((((((((((t).2).2 c11).2).2).2 c12).2).2).2).2 c13).2).2).2).1 c14) (fun c14 => And.intro ((((((((((((((t).2).2 c11).2).2).2 c12).2).2).2).2 c13).2).2).2).2 c14).1 (((((((((((((((t).2).2 c11).2).2).2 c12).2).2).2).2 c13).2).2).2).2 c14).2))))))))))))))))))))
theorem L254 {K : Option am_V → am_H → Prop} {g : am_H} (H : Lda g) {p k q : Int} (hp : 0 ≤ p ∧ p < g 572 0) (hq : 0 ≤ q ∧ q < g 572 0) (hK : K (some (mB (fnd (fun x => RA (nr g 572 2) (fun y => y = k) p x ∧ ds (ad (nr g 572 2)) x q < ds (ad (nr g 572 2)) p q) (g 572 0).toNat))) g) : ∀ i, 0 ≤ i → i ≤ g 572 0 → (∀ j, 0 ≤ j → j < i → ¬ (RA (nr g 572 2) (fun y => y = k) p j ∧ ds (ad (nr g 572 2)) j q < ds (ad (nr g 572 2)) p q)) → am_AT 3 254 3 [some (mR 1 12 0 571), some (mB p), some (mB k), some (mB q), some (mI i)] g K := by
  obtain ⟨hN, hC, hD⟩ := H
  have hn1 := hN.1
  have hn2 := hN.2.1
  refine lp (g 572 0) (fun i ih i0 i1 hno => ?_)
  have hf : i < g 572 0 → g 580 (20 * i + q) = ds (ad (nr g 572 2)) i q := fun hi => hD.1 i q (by omega) (by omega) (by omega) (by omega)
  have hf2 : g 580 (20 * p + q) = ds (ad (nr g 572 2)) p q := hD.1 p q (by omega) (by omega) (by omega) (by omega)
  have ha : bit (g 572 (2 + p)) i ↔ ad (nr g 572 2) p i := by unfold ad; rw [nr_in hp.1 (by omega)]
  have hl : ad (nr g 572 2) p i → g 583 (lno (nr g 572 2) p i) = pl (nr g 572 2) p i ∧ (0 ≤ lno (nr g 572 2) p i ∧ lno (nr g 572 2) p i < nl (nr g 572 2)) := fun w => ⟨(hD.2.2.2.2 _ (lno_ok hN w).1.1 (lno_ok hN w).1.2).1, (lno_ok hN w).1⟩
  have hnl := nl_r (nr g 572 2)
  have nx : i < g 572 0 → ¬ (RA (nr g 572 2) (fun y => y = k) p i ∧ ds (ad (nr g 572 2)) i q < ds (ad (nr g 572 2)) p q) → am_AT 3 254 3 [some (mR 1 12 0 571), some (mB p), some (mB k), some (mB q), some (mI (i + 1))] g K := fun hi hn => ih hi (by omega) (by omega) (fun j a b => by
    by_cases e : j = i
    · rw [e]; exact hn
    · exact hno j a (by omega))
  refine T254_3 ⟨by omega, ⟨fun c1 => ?_, fun c1 => ⟨by omega, ⟨by omega, ⟨fun c2 => ?_, fun c2 => ⟨by omega, ⟨⟨hN, hD.2.1, by omega, by omega⟩, ⟨by have := hl (ha.mp c2); omega, ⟨fun c3 => ?_, fun c3 => ⟨by omega, ⟨by omega, ⟨by omega, ⟨fun c4 => ?_, fun c4 => ⟨by omega, ?_⟩⟩⟩⟩⟩⟩⟩⟩⟩⟩⟩⟩⟩⟩
  · exact am_rB hK (fnd_no _ (fun j a b => hno j a (by omega)))
  · exact nx (by omega) (fun a => c2 (ha.mpr a.1.1))
  · exact nx (by omega) (fun a => c3 ((hl a.1.1).1.trans a.1.2))
  · rw [hf (by omega), hf2] at c4
    exact nx (by omega) (fun a => by have := a.2; omega)
  · rw [hf (by omega), hf2] at c4
    rw [(hl (ha.mp c2)).1] at c3
    exact am_rB hK (fnd_is i0 ⟨⟨ha.mp c2, c3⟩, c4⟩ hno _ (by omega))
theorem C254_ok : am_CS 3 254 C254 := W254 (fun p k q h K hb => T254_0 (L254 hb.1.1 hb.1.2.1 hb.1.2.2 hb.2 0 (by omega) (by have := hb.1.1.1.1; omega) (fun j a b => by omega)))
/-! 255 FactorNetsModel.route -/
def C255 : am_K := fun as h K => am_a4 as (fun v0 v1 v2 v3 => am_oc 12 571 v0 (am_n v1 (fun p => am_n v2 (fun q => am_n v3 (fun i => (RIv h) ∧ (∀ (h' : am_H), RQ h h' → K (some (mB (ifc ((0 ≤ p ∧ p < (h 572 0)) ∧ (0 ≤ q ∧ q < (h 572 0)) ∧ 0 ≤ i) (rout (h 572 0) (nr h 572 2) p q i) (-2)))) (h')))))))
theorem W255 {d : Nat} (H : ∀ (p : Int) (q : Int) (i : Int) (h : am_H) (K : Option am_V → am_H → Prop), (RIv h) ∧ (∀ (h' : am_H), RQ h h' → K (some (mB (ifc ((0 ≤ p ∧ p < (h 572 0)) ∧ (0 ≤ q ∧ q < (h 572 0)) ∧ 0 ≤ i) (rout (h 572 0) (nr h 572 2) p q i) (-2)))) (h')) → am_AT d 255 0 [some (mR 1 12 0 571), some (mB p), some (mB q), some (mB i), none, none, none, none] h K) : am_CS d 255 C255 := by
  refine am_CS_of (T := tb255) (mL := 8) (rk := 1) rfl (fun as h K hC => ?_)
  obtain ⟨v0, v1, v2, v3, rfl, hC0⟩ := am_a4_e hC
  obtain ⟨e0, hC1⟩ := am_oc_e hC0
  subst e0
  obtain ⟨p, rfl, hC2⟩ := am_n_e hC1
  obtain ⟨q, rfl, hC3⟩ := am_n_e hC2
  obtain ⟨i, rfl, hC4⟩ := am_n_e hC3
  refine ⟨Nat.le_of_ble_eq_true rfl, ?_⟩
  exact H p q i h K hC4
theorem T255_0 {R : Option am_V → am_H → Prop} {h : am_H} {p : Int} {q : Int} {i : Int} (t : (RIv h) ∧ (∀ (h' : am_H), (LD h h') → (((¬ ((0 ≤ p ∧ p < (h 572 0)) ∧ (0 ≤ q ∧ q < (h 572 0)))) → (R (some (mB (-2))) h')) ∧ (((0 ≤ p ∧ p < (h 572 0)) ∧ (0 ≤ q ∧ q < (h 572 0))) → (((0 ≤ i) → (am_AT 6 255 25 [some (mR 1 12 0 571), none, some (mB q), none, some (mI p), some (mI i), some (mI 0), none] h' R)) ∧ ((i < 0) → (R (some (mB (-2))) h'))))))) : am_AT 6 255 0 [some (mR 1 12 0 571), some (mB p), some (mB q), some (mB i), none, none, none, none] h R :=
  am_T (d := 5) (m := 255) (T := tb255) (mL := 8) (rk := 1) (cuts := [(25, [1, 0, 1, 0, 2, 2, 2, 0]), (45, [1, 0, 1, 0, 2, 2, 2, 2])]) (l := [(224, C224), (244, C244), (254, C254)]) rfl ⟨am_CS_d (by decide) C224_ok, am_CS_d (by decide) C244_ok, am_CS_d (by decide) C254_ok, trivial⟩ 17 (And.intro (rfl) (And.intro (t).1 (fun z6_0 z6_1 => And.intro (fun c15 => (((t).2) z6_0 z6_1).1 c15) (fun c15 => And.intro (fun c16 => ((((t).2) z6_0 z6_1).2 c15).1 c16) (fun c16 => ((((t).2) z6_0 z6_1).2 c15).2 c16)))))
theorem T255_25 {R : Option am_V → am_H → Prop} {h : am_H} {q : Int} {x4 : Int} {x5 : Int} {x6 : Int} (t : (R32 x6) ∧ (((h 571 24 ≤ x6) → ((R32 x5) ∧ (((x5 ≤ 0) → ((R32 x4) ∧ (R (some (mB x4)) h))) ∧ ((0 < x5) → (R (some (mB (-1))) h))))) ∧ ((x6 < h 571 24) → ((R32 x4) ∧ ((R32 x6) ∧ (((NT (h 572 0) (nr h 572 2) ∧ CN (h 572 0) (nr h 572 2) ∧ RLd h (h 572 0) (nr h 572 2)) ∧ (0 ≤ x4 ∧ x4 < (h 572 0)) ∧ (0 ≤ q ∧ q < (h 572 0)) ∧ (0 ≤ x6 ∧ x6 < ncl (ptE (nr h 572 2)) (nl (nr h 572 2)))) ∧ (am_AT 6 255 45 [some (mR 1 12 0 571), none, some (mB q), none, some (mI x4), some (mI x5), some (mI x6), some (mI (mvd (nr h 572 2) x6 x4 q))] h R))))))) : am_AT 6 255 25 [some (mR 1 12 0 571), none, some (mB q), none, some (mI x4), some (mI x5), some (mI x6), none] h R :=
  am_T (d := 5) (m := 255) (T := tb255) (mL := 8) (rk := 1) (cuts := [(25, [1, 0, 1, 0, 2, 2, 2, 0]), (45, [1, 0, 1, 0, 2, 2, 2, 2])]) (l := [(224, C224), (244, C244), (254, C254)]) rfl ⟨am_CS_d (by decide) C224_ok, am_CS_d (by decide) C244_ok, am_CS_d (by decide) C254_ok, trivial⟩ 14 (And.intro (t).1 (And.intro (fun c17 => And.intro (((t).2).1 c17).1 (And.intro (fun c18 => And.intro (((((t).2).1 c17).2).1 c18).1 ((((((t).2).1 c17).2).1 c18).2)) (fun c18 => ((((t).2).1 c17).2).2 c18))) (fun c17 => And.intro (((t).2).2 c17).1 (And.intro ((((t).2).2 c17).2).1 (And.intro (rfl) (And.intro (((((t).2).2 c17).2).2).1 ((((((t).2).2 c17).2).2).2)))))))
theorem T255_45 {R : Option am_V → am_H → Prop} {h : am_H} {q : Int} {x4 : Int} {x5 : Int} {x6 : Int} {x7 : Int} (t : (R32 x4) ∧ ((R32 x7) ∧ (((x4 = x7) → (am_AT 6 255 25 [some (mR 1 12 0 571), none, some (mB q), none, some (mI x4), some (mI x5), some (mI (x6 + 1)), none] h R)) ∧ ((¬ x4 = x7) → ((R32 x5) ∧ (((x5 ≤ 0) → (am_AT 6 255 25 [some (mR 1 12 0 571), none, some (mB q), none, some (mI x4), some (mI x5), some (mI (x6 + 1)), none] h R)) ∧ ((0 < x5) → ((R32 x4) ∧ ((R32 x6) ∧ ((R32 x7) ∧ (((NT (h 572 0) (nr h 572 2) ∧ CN (h 572 0) (nr h 572 2) ∧ RLd h (h 572 0) (nr h 572 2)) ∧ (0 ≤ x4 ∧ x4 < (h 572 0)) ∧ (0 ≤ x7 ∧ x7 < (h 572 0))) ∧ (am_AT 6 255 45 [some (mR 1 12 0 571), none, some (mB q), none, some (mI (fnd (fun x => RA (nr h 572 2) (fun y => y = x6) x4 x ∧ ds (ad (nr h 572 2)) x x7 < ds (ad (nr h 572 2)) x4 x7) (h 572 0).toNat)), some (mI (x5 + (-1))), some (mI x6), some (mI x7)] h R)))))))))))) : am_AT 6 255 45 [some (mR 1 12 0 571), none, some (mB q), none, some (mI x4), some (mI x5), some (mI x6), some (mI x7)] h R :=
  am_T (d := 5) (m := 255) (T := tb255) (mL := 8) (rk := 1) (cuts := [(25, [1, 0, 1, 0, 2, 2, 2, 0]), (45, [1, 0, 1, 0, 2, 2, 2, 2])]) (l := [(224, C224), (244, C244), (254, C254)]) rfl ⟨am_CS_d (by decide) C224_ok, am_CS_d (by decide) C244_ok, am_CS_d (by decide) C254_ok, trivial⟩ 17 (And.intro (t).1 (And.intro ((t).2).1 (And.intro (fun c19 => (((t).2).2).1 c19) (fun c19 => And.intro ((((t).2).2).2 c19).1 (And.intro (fun c20 => (((((t).2).2).2 c19).2).1 c20) (fun c20 => And.intro ((((((t).2).2).2 c19).2).2 c20).1 (And.intro (((((((t).2).2).2 c19).2).2 c20).2).1 (And.intro ((((((((t).2).2).2 c19).2).2 c20).2).2).1 (And.intro (rfl) (And.intro (((((((((t).2).2).2 c19).2).2 c20).2).2).2).1 ((((((((((t).2).2).2 c19).2).2 c20).2).2).2).2)))))))))))
theorem L117b {K : Option am_V → am_H → Prop} {h : am_H} {q : Int} (hq : 0 ≤ q ∧ q < h 6 0) (hN : NT (h 6 0) (nr h 7 0)) (hC : CN (h 6 0) (nr h 7 0)) {k : Int} (hk : 0 ≤ k ∧ k < ncl (ptE (nr h 7 0)) (nl (nr h 7 0))) {Z : Int × Int} (hK : ∀ h', PQ h h' → h' 0 16 = 1 → (0 ≤ Z.1 ∧ Z.1 < h 6 0) → (0 ≤ Z.2 ∧ Z.2 < 2147483648) → am_AT 7 117 29 [some (mR 1 11 0 0), none, some (mB q), none, some (mI Z.1), some (mI Z.2), some (mI (k + 1)), none] h' K) : ∀ (f : Nat) (g : am_H) (p l : Int), f ≤ 20 → (0 ≤ p ∧ p < h 6 0) → (0 ≤ l ∧ l < 2147483648) → PQ h g → g 0 16 = 1 → rtk (h 6 0) (nr h 7 0) k q f (p, l) = Z → am_AT 7 117 44 [some (mR 1 11 0 0), none, some (mB q), none, some (mI p), some (mI l), some (mI k), some (mI (20 - f))] g K := by
  have hn2 := hN.2.1
  have h4 := np_4 hN hC
  intro f
  induction f with
  | zero =>
    intro g p l _ hp hl G z e
    cases e
    refine T117_44 ⟨by omega, ⟨fun c1 => ?_, fun c1 => ⟨by omega, ⟨fun c2 => ?_, fun c2 => ⟨by omega, ⟨by omega, ⟨by omega, fun h' q3 => ⟨fun c4 => ?_, fun c4 => ⟨by omega, ⟨by omega, ⟨by omega, fun h'_1 q5 => ?_⟩⟩⟩⟩⟩⟩⟩⟩⟩⟩⟩
    · exact hK g G z hp hl
    · exfalso; omega
    · exfalso; omega
    · exfalso; omega
  | succ f ih =>
    intro g p l hf hp hl G z e
    have en := G.2.2.1
    refine T117_44 ⟨by omega, ⟨fun c1 => ?_, fun c1 => ⟨by omega, ⟨fun c2 => ?_, fun c2 => ⟨by omega, ⟨by omega, ⟨by rw [en.1, en.2]; exact ⟨G.1, z, hk, hp, hq⟩, fun h' q3 => ⟨fun c4 => ?_, fun c4 => ⟨by omega, ⟨by omega, ⟨by
      have en2 := (PQ_tr G q3).2.2.1
      rw [en2.1, en2.2]
      rw [en.1] at c4
      exact ⟨q3.1, q3.2.2.2.2.2.2 z, hk, hp, hq, c4⟩, fun h'_1 q5 => ?_⟩⟩⟩⟩⟩⟩⟩⟩⟩⟩⟩
    · exfalso; omega
    · have e := (rtk_0 c2).symm.trans e
      cases e
      exact hK g G z hp hl
    · rw [en.1] at c4
      have e := (rtk_1 c4).symm.trans e
      cases e
      exact hK h' (PQ_tr G q3) (q3.2.2.2.2.2.2 z) hp hl
    · rw [en.1] at c4
      have e := (rtk_2 c2 c4).symm.trans e
      have en2 := (PQ_tr G q3).2.2.1
      rw [en2.1, en2.2]
      have hx := nxt_ok hN hC hp hq c4
      have := ih h'_1 _ (l + -1) (by omega) hx.1 (by omega) (PQ_tr G (PQ_tr q3 q5)) (q5.2.2.2.2.2.2 (q3.2.2.2.2.2.2 z)) e
      rw [show (20 : Int) - ((f : Nat) : Int) = 20 - ((f + 1 : Nat) : Int) + 1 by omega] at this
      exact this
theorem L117 {K : Option am_V → am_H → Prop} {h : am_H} {p q i : Int} (hq : 0 ≤ q ∧ q < h 6 0) (hN : NT (h 6 0) (nr h 7 0)) (hC : CN (h 6 0) (nr h 7 0)) (hK : ∀ h', PQ h h' → K (some (mB (rout (h 6 0) (nr h 7 0) p q i))) h') : ∀ k, ∀ g : am_H, 0 ≤ k → k ≤ ncl (ptE (nr h 7 0)) (nl (nr h 7 0)) → PQ h g → g 0 16 = 1 → ∀ z1 z2, (z1, z2) = rta (h 6 0) (nr h 7 0) p q i k.toNat → (0 ≤ z1 ∧ z1 < h 6 0) → (0 ≤ z2 ∧ z2 < 2147483648) → am_AT 7 117 29 [some (mR 1 11 0 0), none, some (mB q), none, some (mI z1), some (mI z2), some (mI k), none] g K := by
  have hn2 := hN.2.1
  have h4 := np_4 hN hC
  refine lp (ncl (ptE (nr h 7 0)) (nl (nr h 7 0))) (fun k ih g k0 k1 G z z1 z2 hz hz1 hz2 => ?_)
  have e := (PI_p G.1 z).1
  rw [G.2.2.1.1] at e
  have out : ncl (ptE (nr h 7 0)) (nl (nr h 7 0)) ≤ k → rout (h 6 0) (nr h 7 0) p q i = ifc (z2 = 0) z1 (-1) := fun a => by
    unfold rout
    rw [show ncl (ptE (nr h 7 0)) (nl (nr h 7 0)) = k by omega, ← hz]
  refine T117_29 ⟨by omega, ⟨fun c1 => ⟨by omega, ⟨fun c2 => ?_, fun c2 => ⟨by omega, ?_⟩⟩⟩, fun c1 => ?_⟩⟩
  · exact am_rB (hK g G) (by rw [out (by omega), ifc_f c2])
  · exact am_rB (hK g G) (by rw [out (by omega), ifc_t c2])
  · have := L117b (K := K) hq hN hC ⟨k0, by omega⟩ (Z := rta (h 6 0) (nr h 7 0) p q i (k + 1).toNat) (fun h' G' z' a b => ih (by omega) h' (by omega) (by omega) G' z' _ _ rfl a b) 20 g z1 z2 (by omega) hz1 hz2 G z (by rw [rta_s k0, hz])
    exact this
theorem C117_ok : am_CS 7 117 C117 := W117 (fun p q i h K hb => am_AT_ok (fun _ hl => by
  have hi : R32 i := hl 3 _ rfl rfl
  refine T117_0 ⟨fun c1 => ?_, fun c1 => ⟨fun c2 => ⟨hb.1, fun h' q3 => ?_⟩, fun c2 => ?_⟩⟩
  · exact am_rB (hb.2 h (PQ_rf hb.1)) (ifc_f (fun z => c1 ⟨z.1, z.2.1⟩))
  · have hN := (SV5_N hb.1.1).1
    have hC := (SV5_N hb.1.1).2
    exact L117 c1.2 hN hC (fun h' G => am_rB (hb.2 h' G) (ifc_t ⟨c1.1, c1.2, c2⟩)) 0 h' (by omega) (ncl_r _ _).1 q3.1 q3.2 p i rfl c1.1 (by omega)
  · exact am_rB (hb.2 h (PQ_rf hb.1)) (ifc_f (by omega))))
theorem L255b {K : Option am_V → am_H → Prop} {g : am_H} (H : Lda g) {q : Int} (hq : 0 ≤ q ∧ q < g 572 0) {k : Int} (hk : 0 ≤ k ∧ k < ncl (ptE (nr g 572 2)) (nl (nr g 572 2))) {Z : Int × Int} (hK : (0 ≤ Z.1 ∧ Z.1 < g 572 0) → (0 ≤ Z.2 ∧ Z.2 < 2147483648) → am_AT 6 255 25 [some (mR 1 12 0 571), none, some (mB q), none, some (mI Z.1), some (mI Z.2), some (mI (k + 1)), none] g K) : ∀ (f : Nat) (p l : Int), dk (nr g 572 2) k p q ≤ f → (0 ≤ p ∧ p < g 572 0) → (0 ≤ l ∧ l < 2147483648) → rtk (g 572 0) (nr g 572 2) k q f (p, l) = Z → am_AT 6 255 45 [some (mR 1 12 0 571), none, some (mB q), none, some (mI p), some (mI l), some (mI k), some (mI (mvd (nr g 572 2) k p q))] g K := by
  obtain ⟨hN, hC, hD⟩ := H
  have hn1 := hN.1
  have hn2 := hN.2.1
  have h4 := np_4 hN hC
  intro f
  induction f with
  | zero =>
    intro p l hd hp hl e
    cases e
    have m := mvd_ok (k := k) hN hC hp hq
    have d0 := dk_0 (k := k) hN hC hp hq
    refine T255_45 ⟨by omega, ⟨by omega, ⟨fun c1 => ?_, fun c1 => ⟨by omega, ⟨fun c2 => ?_, fun c2 => ⟨by omega, ⟨by omega, ⟨by omega, ⟨⟨⟨hN, hC, hD⟩, hp, m.1⟩, ?_⟩⟩⟩⟩⟩⟩⟩⟩⟩
    · exact hK hp hl
    · exact absurd (d0.mpr (by omega)) c1
    · exact absurd (d0.mpr (by omega)) c1
  | succ f ih =>
    intro p l hd hp hl e
    have m := mvd_ok (k := k) hN hC hp hq
    have d0 := dk_0 (k := k) hN hC hp hq
    refine T255_45 ⟨by omega, ⟨by omega, ⟨fun c1 => ?_, fun c1 => ⟨by omega, ⟨fun c2 => ?_, fun c2 => ⟨by omega, ⟨by omega, ⟨by omega, ⟨⟨⟨hN, hC, hD⟩, hp, m.1⟩, ?_⟩⟩⟩⟩⟩⟩⟩⟩⟩
    · have e := (rtk_1 (d0.mp c1)).symm.trans e
      cases e
      exact hK hp hl
    · have e := (rtk_0 c2).symm.trans e
      cases e
      exact hK hp hl
    · have c : 0 < dk (nr g 572 2) k p q := Classical.byContradiction fun w => c1 (d0.mpr (by omega))
      have e := (rtk_2 c2 c).symm.trans e
      have hx := nxt_ok hN hC hp hq c
      rw [nxt_ref hN hC hp hq, ← mvd_st hN hC hp hq hx.2.1.1]
      exact ih _ (l + -1) (by omega) hx.1 (by omega) e
theorem L255 {K : Option am_V → am_H → Prop} {g : am_H} (H : Lda g) {p q i : Int} (hq : 0 ≤ q ∧ q < g 572 0) (hK : K (some (mB (rout (g 572 0) (nr g 572 2) p q i))) g) : ∀ k, 0 ≤ k → k ≤ ncl (ptE (nr g 572 2)) (nl (nr g 572 2)) → ∀ z1 z2, (z1, z2) = rta (g 572 0) (nr g 572 2) p q i k.toNat → (0 ≤ z1 ∧ z1 < g 572 0) → (0 ≤ z2 ∧ z2 < 2147483648) → am_AT 6 255 25 [some (mR 1 12 0 571), none, some (mB q), none, some (mI z1), some (mI z2), some (mI k), none] g K := by
  have HH := H
  obtain ⟨hN, hC, hD⟩ := H
  have hn1 := hN.1
  have hn2 := hN.2.1
  have h4 := np_4 hN hC
  have e := hD.2.2.1
  refine lp (ncl (ptE (nr g 572 2)) (nl (nr g 572 2))) (fun k ih k0 k1 z1 z2 hz hz1 hz2 => ?_)
  have out : ncl (ptE (nr g 572 2)) (nl (nr g 572 2)) ≤ k → rout (g 572 0) (nr g 572 2) p q i = ifc (z2 = 0) z1 (-1) := fun a => by
    unfold rout
    rw [show ncl (ptE (nr g 572 2)) (nl (nr g 572 2)) = k by omega, ← hz]
  refine T255_25 ⟨by omega, ⟨fun c1 => ⟨by omega, ⟨fun c2 => ⟨by omega, ?_⟩, fun c2 => ?_⟩⟩, fun c1 => ⟨by omega, ⟨by omega, ⟨⟨HH, hz1, hq, k0, by omega⟩, ?_⟩⟩⟩⟩⟩
  · exact am_rB hK (by rw [out (by omega), ifc_t (by omega)])
  · exact am_rB hK (by rw [out (by omega), ifc_f (by omega)])
  · have hd := dk_r (k := k) hN hC hz1 hq
    refine L255b HH hq ⟨k0, by omega⟩ (Z := rta (g 572 0) (nr g 572 2) p q i (k + 1).toNat) (fun a b => ih (by omega) (by omega) (by omega) _ _ rfl a b) 20 z1 z2 (by omega) hz1 hz2 ?_
    rw [rta_s k0, hz]
theorem C255_ok : am_CS 6 255 C255 := W255 (fun p q i h K hb => am_AT_ok (fun _ hl => by
  have hi : R32 i := hl 3 _ rfl rfl
  refine T255_0 ⟨hb.1, fun h' q1 => ⟨fun c2 => ?_, fun c2 => ⟨fun c3 => ?_, fun c3 => ?_⟩⟩⟩
  · exact am_rB (hb.2 h' (LD_q q1)) (ifc_f (fun z => c2 ⟨z.1, z.2.1⟩))
  · have en := q1.2
    refine L255 (LD_a q1) (by rw [en.2.1]; exact c2.2) ?_ 0 (by omega) (ncl_r _ _).1 p i rfl (by rw [en.2.1]; exact c2.1) (by omega)
    rw [en.1, en.2.1]
    exact am_rB (hb.2 h' (LD_q q1)) (ifc_t ⟨c2.1, c2.2, c3⟩)
  · exact am_rB (hb.2 h' (LD_q q1)) (ifc_f (by omega))))
