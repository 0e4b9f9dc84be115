/-! ===== the numbers of shortest ways ===== -/
noncomputable def wy (n : Int) (r : Int → Int) (a : Int) : Nat → Int → Int
  | 0, _ => 1
  | d + 1, p => sm (fun v => ifc (ad r p v ∧ ds (ad r) a v = d) (wy n r a d v) 0) n.toNat
theorem two_ge (m : Nat) : (m : Int) + 1 ≤ 2 ^ m := by
  induction m with
  | zero => decide
  | succ m ih => rw [Int.pow_succ]; omega
theorem sm_ifc_le {P Q : Int → Prop} {f : Int → Int} {B : Int} (hB : 0 ≤ B) (hPQ : ∀ v, P v → Q v) (hf : ∀ v, 0 ≤ f v ∧ f v ≤ B) : ∀ m : Nat, 0 ≤ sm (fun v => ifc (P v) (f v) 0) m ∧ sm (fun v => ifc (P v) (f v) 0) m ≤ ct Q m * B
  | 0 => by
    show 0 ≤ (0 : Int) ∧ (0 : Int) ≤ 0 * B
    omega
  | m + 1 => by
    have ih := sm_ifc_le hB hPQ hf m
    rw [sm_succ, ct_succ, Int.add_mul]
    have hv := hf (m : Int)
    by_cases e : P (m : Int)
    · rw [ifc_t e, am_b_t (hPQ _ e)]
      omega
    · rw [ifc_f e]
      by_cases e2 : Q (m : Int)
      · rw [am_b_t e2]; omega
      · rw [am_b_f e2]; omega
theorem ct_lt_succ (f : Int → Int) (d : Nat) : ∀ m : Nat, ct (fun v => f v < ((d + 1 : Nat) : Int)) m = ct (fun v => f v < (d : Int)) m + ct (fun v => f v = (d : Int)) m
  | 0 => rfl
  | m + 1 => by
    rw [ct_succ, ct_succ, ct_succ, ct_lt_succ f d m]
    by_cases e : f m < (d : Int)
    · rw [am_b_t (show f (m : Int) < ((d + 1 : Nat) : Int) by omega), am_b_t e, am_b_f (show ¬ f (m : Int) = (d : Int) by omega)]; omega
    · by_cases e2 : f m = (d : Int)
      · rw [am_b_t (show f (m : Int) < ((d + 1 : Nat) : Int) by omega), am_b_f e, am_b_t e2]; omega
      · rw [am_b_f (show ¬ f (m : Int) < ((d + 1 : Nat) : Int) by omega), am_b_f e, am_b_f e2]; omega
theorem wy_b (n : Int) (r : Int → Int) (a : Int) : ∀ (d : Nat) (p : Int), 0 ≤ wy n r a d p ∧ wy n r a d p ≤ 2 ^ (ct (fun v => ds (ad r) a v < (d : Int)) n.toNat).toNat
  | 0, _ => by
    show 0 ≤ (1 : Int) ∧ (1 : Int) ≤ _
    have := two_ge (ct (fun v => ds (ad r) a v < ((0 : Nat) : Int)) n.toNat).toNat
    omega
  | d + 1, p => by
    have h1 := ct_le (fun v => ds (ad r) a v < (d : Int)) n.toNat
    have h2 := ct_le (fun v => ds (ad r) a v = (d : Int)) n.toNat
    have h3 := two_ge (ct (fun v => ds (ad r) a v < (d : Int)) n.toNat).toNat
    have h4 := two_ge (ct (fun v => ds (ad r) a v = (d : Int)) n.toNat).toNat
    have h := sm_ifc_le (P := fun v => ad r p v ∧ ds (ad r) a v = d) (Q := fun v => ds (ad r) a v = d) (f := fun v => wy n r a d v) (B := 2 ^ (ct (fun v => ds (ad r) a v < (d : Int)) n.toNat).toNat) (by omega) (fun v w => w.2) (fun v => wy_b n r a d v) n.toNat
    refine ⟨h.1, Int.le_trans h.2 ?_⟩
    rw [ct_lt_succ, show (ct (fun v => ds (ad r) a v < (d : Int)) n.toNat + ct (fun v => ds (ad r) a v = (d : Int)) n.toNat).toNat = (ct (fun v => ds (ad r) a v < (d : Int)) n.toNat).toNat + (ct (fun v => ds (ad r) a v = (d : Int)) n.toNat).toNat by omega, Int.pow_add, Int.mul_comm]
    exact Int.mul_le_mul_of_nonneg_left (by omega) (by omega)
theorem pow_mn {a b : Nat} (h : a ≤ b) : (2 : Int) ^ a ≤ 2 ^ b := by
  obtain ⟨c, rfl⟩ := Nat.le.dest h
  rw [Int.pow_add]
  have h1 := two_ge a
  have h2 := two_ge c
  have := Int.mul_le_mul_of_nonneg_left (show (1 : Int) ≤ 2 ^ c by omega) (show (0 : Int) ≤ 2 ^ a by omega)
  omega
theorem wy_20 {n : Int} (hn : n ≤ 20) (r : Int → Int) (a : Int) (d : Nat) (p : Int) : 0 ≤ wy n r a d p ∧ wy n r a d p ≤ 1048576 := by
  have h := wy_b n r a d p
  have h1 := ct_le (fun v => ds (ad r) a v < (d : Int)) n.toNat
  have h2 := pow_mn (show (ct (fun v => ds (ad r) a v < (d : Int)) n.toNat).toNat ≤ 20 by omega)
  have h3 : (2 : Int) ^ 20 = 1048576 := by decide
  omega
theorem shl_d {n : Int} {r : Int → Int} (hN : NT n r) (hC : CN n r) {a p d : Int} (ha : 0 ≤ a ∧ a < n) (hp : 0 ≤ p ∧ p < n) (hd : 0 ≤ d) : bit (shl r a d) p ↔ ds (ad r) a p = d := by
  have hn := hN.2.1
  rw [bt_shl2]
  constructor
  · intro w
    rw [ds_eq w.2]
    omega
  · intro w
    obtain ⟨e, s, es⟩ := ds_sh (CN_rc hN hC ha hp)
    rw [show d.toNat = e by omega]
    exact ⟨by omega, s⟩
/-- the value that belongs to a point -/
noncomputable def wyp (n : Int) (r : Int → Int) (a p : Int) : Int := wy n r a (ds (ad r) a p).toNat p
theorem wyp_0 {n : Int} {r : Int → Int} {a p : Int} (h : ds (ad r) a p = 0) : wyp n r a p = 1 := by
  unfold wyp
  rw [h]
  rfl
theorem wyp_s {n : Int} {r : Int → Int} {a p d : Int} (hd : 0 < d) (h : ds (ad r) a p = d) : wyp n r a p = sm (fun v => ifc (ad r p v ∧ ds (ad r) a v = d - 1) (wyp n r a v) 0) n.toNat := by
  unfold wyp
  rw [h, show d.toNat = (d - 1).toNat + 1 by omega]
  refine sm_congr _ (fun k _ _ => ?_)
  rw [show (((d - 1).toNat : Nat) : Int) = d - 1 by omega]
  by_cases e : ad r p k ∧ ds (ad r) a k = d - 1
  · rw [ifc_t e, ifc_t e, e.2]
  · rw [ifc_f e, ifc_f e]
theorem wyp_20 {n : Int} (hn : n ≤ 20) (r : Int → Int) (a p : Int) : 0 ≤ wyp n r a p ∧ wyp n r a p ≤ 1048576 := wy_20 hn r a _ p
theorem ifc_r {c : Prop} {x B : Int} (h : 0 ≤ x ∧ x ≤ B) : 0 ≤ ifc c x 0 ∧ ifc c x 0 ≤ B := by
  by_cases e : c
  · rw [ifc_t e]; exact h
  · rw [ifc_f e]; omega
/-! 163 FactorNets.tallyOf -/
def C163 : am_K := fun as h K => am_a2 as (fun v0 v1 => am_oc 11 0 v0 (am_n v1 (fun st => ((0 ≤ (h 6 0) ∧ (h 6 0) ≤ 20) ∧ (∀ y9, 0 ≤ y9 → y9 < 20 → 0 ≤ h 476 y9 ∧ h 476 y9 ≤ 1125899906842624)) ∧ (K (some (mK (sm (fun y9 => ifc (bit st y9) (h 476 y9) 0) (h 6 0).toNat))) h))))
theorem W163 {d : Nat} (H : ∀ (st : Int) (h : am_H) (K : Option am_V → am_H → Prop), ((0 ≤ (h 6 0) ∧ (h 6 0) ≤ 20) ∧ (∀ y9, 0 ≤ y9 → y9 < 20 → 0 ≤ h 476 y9 ∧ h 476 y9 ≤ 1125899906842624)) ∧ (K (some (mK (sm (fun y9 => ifc (bit st y9) (h 476 y9) 0) (h 6 0).toNat))) h) → am_AT d 163 0 [some (mR 1 11 0 0), some (mB st), none, none, none] h K) : am_CS d 163 C163 := by
  refine am_CS_of (T := tb163) (mL := 5) (rk := 2) rfl (fun as h K hC => ?_)
  obtain ⟨v0, v1, rfl, hC0⟩ := am_a2_e hC
  obtain ⟨e0, hC1⟩ := am_oc_e hC0
  subst e0
  obtain ⟨st, rfl, hC2⟩ := am_n_e hC1
  refine ⟨Nat.le_of_ble_eq_true rfl, ?_⟩
  exact H st h K hC2
theorem T163_0 {R : Option am_V → am_H → Prop} {h : am_H} {st : Int} (t : am_AT 1 163 5 [some (mR 1 11 0 0), some (mB st), some (mJ 0), none, some (mI 0)] h R) : am_AT 1 163 0 [some (mR 1 11 0 0), some (mB st), none, none, none] h R :=
  am_T (d := 0) (m := 163) (T := tb163) (mL := 5) (rk := 2) (cuts := [(5, [1, 1, 2, 0, 2])]) (l := []) rfl trivial 8 (t)
theorem T163_5 {R : Option am_V → am_H → Prop} {h : am_H} {st : Int} {x2 : Int} {x4 : Int} (t : (R32 x4) ∧ (((h 6 0 ≤ x4) → ((R64 x2) ∧ (R (some (mK x2)) h))) ∧ ((x4 < h 6 0) → (((iAnd (iShr st x4) 1 = 0) → (am_AT 1 163 5 [some (mR 1 11 0 0), some (mB st), some (mJ x2), none, some (mI (x4 + 1))] h R)) ∧ ((¬ iAnd (iShr st x4) 1 = 0) → ((0 ≤ x4 ∧ x4 < 20) ∧ (am_AT 1 163 5 [some (mR 1 11 0 0), some (mB st), some (mJ (x2 + (h 476 x4))), none, some (mI (x4 + 1))] h R))))))) : am_AT 1 163 5 [some (mR 1 11 0 0), some (mB st), some (mJ x2), none, some (mI x4)] h R :=
  am_T (d := 0) (m := 163) (T := tb163) (mL := 5) (rk := 2) (cuts := [(5, [1, 1, 2, 0, 2])]) (l := []) rfl trivial 25 (And.intro (t).1 (And.intro (fun c1 => And.intro (((t).2).1 c1).1 ((((t).2).1 c1).2)) (fun c1 => And.intro (fun c2 => (((t).2).2 c1).1 c2) (fun c2 => And.intro ((((t).2).2 c1).2 c2).1 (((((t).2).2 c1).2 c2).2)))))
theorem L163 {K : Option am_V → am_H → Prop} {g : am_H} {st : Int} (hn : 0 ≤ g 6 0 ∧ g 6 0 ≤ 20) (hb : ∀ q, 0 ≤ q → q < 20 → 0 ≤ g 476 q ∧ g 476 q ≤ 1125899906842624) (hK : K (some (mK (sm (fun y9 => ifc (bit st y9) (g 476 y9) 0) (g 6 0).toNat))) g) : ∀ i, 0 ≤ i → i ≤ g 6 0 → am_AT 1 163 5 [some (mR 1 11 0 0), some (mB st), some (mJ (sm (fun y9 => ifc (bit st y9) (g 476 y9) 0) i.toNat)), none, some (mI i)] g K := by
  refine lp (g 6 0) (fun i ih i0 i1 => ?_)
  have hr := sm_rg (f := fun y9 => ifc (bit st y9) (g 476 y9) 0) (m := 1125899906842624) i.toNat (fun k hk => ifc_r (hb k (by omega) (by omega)))
  have e : sm (fun y9 => ifc (bit st y9) (g 476 y9) 0) (i + 1).toNat = sm (fun y9 => ifc (bit st y9) (g 476 y9) 0) i.toNat + ifc (bit st i) (g 476 i) 0 := sm_to i0
  refine T163_5 ⟨by omega, ⟨fun c1 => ⟨by omega, ?_⟩, fun c1 => ⟨fun c2 => ?_, fun c2 => ⟨by omega, ?_⟩⟩⟩⟩
  · rw [show i = g 6 0 by omega]
    exact hK
  · rw [ifc_f ((bt_has0 i0 (by omega)).mp c2), Int.add_zero] at e
    rw [← e]
    exact ih (by omega) (by omega) (by omega)
  · rw [ifc_t (Classical.byContradiction fun u => c2 ((bt_has0 i0 (by omega)).mpr u))] at e
    rw [← e]
    exact ih (by omega) (by omega) (by omega)
theorem C163_ok : am_CS 1 163 C163 := W163 (fun st h K hb => T163_0 (L163 hb.1.1 hb.1.2 hb.2 0 (by omega) (by omega)))
/-! 162 FactorNets.tallyShell -/
def C162 : am_K := fun as h K => am_a3 as (fun v0 v1 v2 => am_oc 11 0 v0 (am_n v1 (fun s => am_n v2 (fun b => ((0 ≤ (h 6 0) ∧ (h 6 0) ≤ 20) ∧ (∀ y9, 0 ≤ y9 → y9 < 20 → 0 ≤ h 476 y9 ∧ h 476 y9 ≤ 1099511627776) ∧ (∀ x9, bit b x9 → ¬ bit s x9)) ∧ (∀ (h' : am_H), ((∀ x9 i9, x9 ≠ 476 → h' x9 i9 = h x9 i9) ∧ ∀ w9, 0 ≤ w9 → w9 < 20 → h' 476 w9 = ifc (w9 < (h 6 0) ∧ bit s w9) (sm (fun y9 => ifc (bit (iAnd (h 7 w9) b) y9) (h 476 y9) 0) (h 6 0).toNat) (h 476 w9)) → K (none) (h'))))))
theorem W162 {d : Nat} (H : ∀ (s : Int) (b : Int) (h : am_H) (K : Option am_V → am_H → Prop), ((0 ≤ (h 6 0) ∧ (h 6 0) ≤ 20) ∧ (∀ y9, 0 ≤ y9 → y9 < 20 → 0 ≤ h 476 y9 ∧ h 476 y9 ≤ 1099511627776) ∧ (∀ x9, bit b x9 → ¬ bit s x9)) ∧ (∀ (h' : am_H), ((∀ x9 i9, x9 ≠ 476 → h' x9 i9 = h x9 i9) ∧ ∀ w9, 0 ≤ w9 → w9 < 20 → h' 476 w9 = ifc (w9 < (h 6 0) ∧ bit s w9) (sm (fun y9 => ifc (bit (iAnd (h 7 w9) b) y9) (h 476 y9) 0) (h 6 0).toNat) (h 476 w9)) → K (none) (h')) → am_AT d 162 0 [some (mR 1 11 0 0), some (mB s), some (mB b), none] h K) : am_CS d 162 C162 := by
  refine am_CS_of (T := tb162) (mL := 4) (rk := 0) rfl (fun as h K hC => ?_)
  obtain ⟨v0, v1, v2, rfl, hC0⟩ := am_a3_e hC
  obtain ⟨e0, hC1⟩ := am_oc_e hC0
  subst e0
  obtain ⟨s, rfl, hC2⟩ := am_n_e hC1
  obtain ⟨b, rfl, hC3⟩ := am_n_e hC2
  refine ⟨Nat.le_of_ble_eq_true rfl, ?_⟩
  exact H s b h K hC3
theorem T162_0 {R : Option am_V → am_H → Prop} {h : am_H} {s : Int} {b : Int} (t : am_AT 2 162 2 [some (mR 1 11 0 0), some (mB s), some (mB b), some (mI 0)] h R) : am_AT 2 162 0 [some (mR 1 11 0 0), some (mB s), some (mB b), none] h R :=
  am_T (d := 1) (m := 162) (T := tb162) (mL := 4) (rk := 0) (cuts := [(2, [1, 1, 1, 2])]) (l := [(163, C163)]) rfl ⟨am_CS_d (by decide) C163_ok, trivial⟩ 6 (t)
theorem T162_2 {R : Option am_V → am_H → Prop} {h : am_H} {s : Int} {b : Int} {x3 : Int} (t : (R32 x3) ∧ (((h 6 0 ≤ x3) → (R none h)) ∧ ((x3 < h 6 0) → (((iAnd (iShr s x3) 1 = 0) → (am_AT 2 162 2 [some (mR 1 11 0 0), some (mB s), some (mB b), some (mI (x3 + 1))] h R)) ∧ ((¬ iAnd (iShr s x3) 1 = 0) → ((0 ≤ x3 ∧ x3 < 20) ∧ (((0 ≤ (h 6 0) ∧ (h 6 0) ≤ 20) ∧ (∀ y9, 0 ≤ y9 → y9 < 20 → 0 ≤ h 476 y9 ∧ h 476 y9 ≤ 1125899906842624)) ∧ ((0 ≤ x3 ∧ x3 < 20) ∧ (am_AT 2 162 2 [some (mR 1 11 0 0), some (mB s), some (mB b), some (mI (x3 + 1))] (am_up h 476 x3 (sm (fun y9 => ifc (bit (iAnd (h 7 x3) b) y9) (h 476 y9) 0) (h 6 0).toNat)) R))))))))) : am_AT 2 162 2 [some (mR 1 11 0 0), some (mB s), some (mB b), some (mI x3)] h R :=
  am_T (d := 1) (m := 162) (T := tb162) (mL := 4) (rk := 0) (cuts := [(2, [1, 1, 1, 2])]) (l := [(163, C163)]) rfl ⟨am_CS_d (by decide) C163_ok, trivial⟩ 32 (And.intro (t).1 (And.intro (fun c3 => ((t).2).1 c3) (fun c3 => And.intro (fun c4 => (((t).2).2 c3).1 c4) (fun c4 => And.intro ((((t).2).2 c3).2 c4).1 (And.intro (rfl) (And.intro (((((t).2).2 c3).2 c4).2).1 (And.intro ((((((t).2).2 c3).2 c4).2).2).1 (((((((t).2).2 c3).2 c4).2).2).2))))))))
theorem L162 {K : Option am_V → am_H → Prop} {h : am_H} {s b : Int} (hn : 0 ≤ h 6 0 ∧ h 6 0 ≤ 20) (hb : ∀ q, 0 ≤ q → q < 20 → 0 ≤ h 476 q ∧ h 476 q ≤ 1099511627776) (hd : ∀ x, bit b x → ¬ bit s x) (hK : ∀ h' : am_H, ((∀ x9 i9, x9 ≠ 476 → h' x9 i9 = h x9 i9) ∧ ∀ w9, 0 ≤ w9 → w9 < 20 → h' 476 w9 = ifc (w9 < h 6 0 ∧ bit s w9) (sm (fun y9 => ifc (bit (iAnd (h 7 w9) b) y9) (h 476 y9) 0) (h 6 0).toNat) (h 476 w9)) → K none h') : ∀ i, ∀ g : am_H, 0 ≤ i → i ≤ h 6 0 → (∀ x9 i9, x9 ≠ 476 → g x9 i9 = h x9 i9) → (∀ w9, 0 ≤ w9 → w9 < 20 → g 476 w9 = ifc (w9 < i ∧ bit s w9) (sm (fun y9 => ifc (bit (iAnd (h 7 w9) b) y9) (h 476 y9) 0) (h 6 0).toNat) (h 476 w9)) → am_AT 2 162 2 [some (mR 1 11 0 0), some (mB s), some (mB b), some (mI i)] g K := by
  have hS : ∀ w, 0 ≤ sm (fun y9 => ifc (bit (iAnd (h 7 w) b) y9) (h 476 y9) 0) (h 6 0).toNat ∧ sm (fun y9 => ifc (bit (iAnd (h 7 w) b) y9) (h 476 y9) 0) (h 6 0).toNat ≤ 20 * 1099511627776 := fun w => by
    have := sm_rg (f := fun y9 => ifc (bit (iAnd (h 7 w) b) y9) (h 476 y9) 0) (m := 1099511627776) (h 6 0).toNat (fun k hk => ifc_r (hb k (by omega) (by omega)))
    omega
  refine lp (h 6 0) (fun i ih g i0 i1 f1 f2 => ?_)
  have e6 : g 6 0 = h 6 0 := f1 _ _ (by omega)
  have hg : ∀ q, 0 ≤ q → q < 20 → 0 ≤ g 476 q ∧ g 476 q ≤ 1125899906842624 := fun q a c => by
    rw [f2 q a c]
    have h1 := hS q
    have h2 := hb q a c
    by_cases e : q < i ∧ bit s q
    · rw [ifc_t e]; omega
    · rw [ifc_f e]; omega
  refine T162_2 ⟨by omega, ⟨fun c1 => ?_, fun c1 => ⟨fun c2 => ?_, fun c2 => ⟨by omega, ⟨⟨by omega, hg⟩, ⟨by omega, ?_⟩⟩⟩⟩⟩⟩
  · refine hK g ⟨f1, fun w a c => ?_⟩
    rw [f2 w a c, show i = h 6 0 by omega]
  · refine ih (by omega) g (by omega) (by omega) f1 (fun w a c => ?_)
    rw [f2 w a c]
    have nb := (bt_has0 i0 (by omega)).mp c2
    by_cases e : w < i ∧ bit s w
    · rw [ifc_t e, ifc_t ⟨by omega, e.2⟩]
    · rw [ifc_f e, ifc_f (fun z => e ⟨by
        have : w ≠ i := fun u => nb (u ▸ z.2)
        omega, z.2⟩)]
  · have yb : bit s i := Classical.byContradiction fun u => c2 ((bt_has0 i0 (by omega)).mpr u)
    have ev : sm (fun y9 => ifc (bit (iAnd (g 7 i) b) y9) (g 476 y9) 0) (g 6 0).toNat = sm (fun y9 => ifc (bit (iAnd (h 7 i) b) y9) (h 476 y9) 0) (h 6 0).toNat := by
      rw [e6, f1 7 i (by omega)]
      refine sm_congr _ (fun k k0 k1 => ?_)
      by_cases e : bit (iAnd (h 7 i) b) k
      · rw [ifc_t e, ifc_t e, f2 k k0 (by omega), ifc_f (fun z => hd k (bt_and.mp e).2 z.2)]
      · rw [ifc_f e, ifc_f e]
    rw [ev]
    refine ih (by omega) _ (by omega) (by omega) (fun x j hx => by rw [am_up_ne hx]; exact f1 x j hx) (fun w a c => ?_)
    by_cases e : w = i
    · rw [e, am_up_eq, ifc_t ⟨by omega, yb⟩]
    · rw [am_up_n2 (by omega), f2 w a c]
      by_cases e3 : w < i ∧ bit s w
      · rw [ifc_t e3, ifc_t ⟨by omega, e3.2⟩]
      · rw [ifc_f e3, ifc_f (fun z => e3 ⟨by omega, z.2⟩)]
theorem C162_ok : am_CS 2 162 C162 := W162 (fun s b h K hb => T162_0 (L162 hb.1.1 hb.1.2.1 hb.1.2.2 hb.2 0 h (by omega) (by omega) (fun _ _ _ => rfl) (fun w a c => by rw [ifc_f (by omega)])))
/-! 102 FactorNets.ways -/
def C102 : am_K := fun as h K => am_a3 as (fun v0 v1 v2 => am_oc 11 0 v0 (am_n v1 (fun p => am_n v2 (fun q => (SV h 5) ∧ (∀ (h' : am_H), SQa (fun x9 => x9 = 476) h h' → K (some (mK (ifc ((0 ≤ p ∧ p < (h 6 0)) ∧ (0 ≤ q ∧ q < (h 6 0))) (wyp (h 6 0) (nr h 7 0) p q) (-2)))) (h'))))))
theorem W102 {d : Nat} (H : ∀ (p : Int) (q : Int) (h : am_H) (K : Option am_V → am_H → Prop), (SV h 5) ∧ (∀ (h' : am_H), SQa (fun x9 => x9 = 476) h h' → K (some (mK (ifc ((0 ≤ p ∧ p < (h 6 0)) ∧ (0 ≤ q ∧ q < (h 6 0))) (wyp (h 6 0) (nr h 7 0) p q) (-2)))) (h')) → am_AT d 102 0 [some (mR 1 11 0 0), some (mB p), some (mB q), none, none] h K) : am_CS d 102 C102 := by
  refine am_CS_of (T := tb102) (mL := 5) (rk := 2) rfl (fun as h K hC => ?_)
  obtain ⟨v0, v1, v2, rfl, hC0⟩ := am_a3_e hC
  obtain ⟨e0, hC1⟩ := am_oc_e hC0
  subst e0
  obtain ⟨p, rfl, hC2⟩ := am_n_e hC1
  obtain ⟨q, rfl, hC3⟩ := am_n_e hC2
  refine ⟨Nat.le_of_ble_eq_true rfl, ?_⟩
  exact H p q h K hC3
theorem T102_0 {R : Option am_V → am_H → Prop} {h : am_H} {p : Int} {q : Int} (t : ((((0 ≤ p ∧ p < (h 6 0)) ∧ (0 ≤ q ∧ q < (h 6 0)))) → ((SV h (5 : Int)) ∧ (∀ (h' : am_H), (SQ h h' (5 : Int) ∧ h' (5 : Int) 4 = 1) → ((0 ≤ p ∧ p < 20) ∧ (am_AT 5 102 39 [some (mR 1 11 0 0), some (mB p), some (mB q), some (mR 1 2 0 8), some (mI 1)] (am_up (h_fl h' (476 : Int) 20 (0 : Int)) 476 p 1) R))))) ∧ ((¬ (((0 ≤ p ∧ p < (h 6 0)) ∧ (0 ≤ q ∧ q < (h 6 0))))) → (R (some (mK (-2))) h))) : am_AT 5 102 0 [some (mR 1 11 0 0), some (mB p), some (mB q), none, none] h R :=
  am_T (d := 4) (m := 102) (T := tb102) (mL := 5) (rk := 2) (cuts := [(39, [1, 1, 1, 1, 2])]) (l := [(88, C88b), (157, C157), (162, C162), (318, C318)]) rfl ⟨am_CS_d (by decide) C88b_ok, am_CS_d (by decide) C157_ok, am_CS_d (by decide) C162_ok, am_CS_d (by decide) C318_ok, trivial⟩ 24 (And.intro (rfl) (And.intro (fun c5 => And.intro ((t).1 c5).1 (fun z1_0 z1_1 => And.intro ((((t).1 c5).2) z1_0 z1_1).1 (((((t).1 c5).2) z1_0 z1_1).2))) (fun c5 => (t).2 c5)))
theorem T102_39 {R : Option am_V → am_H → Prop} {h : am_H} {p : Int} {q : Int} {x4 : Int} (t : (0 ≤ p ∧ p < 20) ∧ ((0 ≤ q ∧ q < 20) ∧ ((R32 x4) ∧ (((h (10 + p) q < x4) → ((0 ≤ q ∧ q < 20) ∧ (R (some (mK (h 476 q))) h))) ∧ ((x4 ≤ h (10 + p) q) → ((0 ≤ p ∧ p < 20) ∧ ((0 ≤ x4 ∧ x4 < 20) ∧ ((0 ≤ p ∧ p < 20) ∧ ((0 ≤ x4 - 1 ∧ x4 - 1 < 20) ∧ (((0 ≤ (h 6 0) ∧ (h 6 0) ≤ 20) ∧ (∀ y9, 0 ≤ y9 → y9 < 20 → 0 ≤ h 476 y9 ∧ h 476 y9 ≤ 1099511627776) ∧ (∀ x9, bit (h (31 + p) (x4 - 1)) x9 → ¬ bit (h (31 + p) x4) x9)) ∧ (∀ (h' : am_H), (((∀ x9 i9, x9 ≠ 476 → h' x9 i9 = h x9 i9) ∧ ∀ w9, 0 ≤ w9 → w9 < 20 → h' 476 w9 = ifc (w9 < (h 6 0) ∧ bit (h (31 + p) x4) w9) (sm (fun y9 => ifc (bit (iAnd (h 7 w9) (h (31 + p) (x4 - 1))) y9) (h 476 y9) 0) (h 6 0).toNat) (h 476 w9))) → (am_AT 5 102 39 [some (mR 1 11 0 0), some (mB p), some (mB q), some (mR 1 2 0 8), some (mI (x4 + 1))] h' R)))))))))))) : am_AT 5 102 39 [some (mR 1 11 0 0), some (mB p), some (mB q), some (mR 1 2 0 8), some (mI x4)] h R :=
  am_T (d := 4) (m := 102) (T := tb102) (mL := 5) (rk := 2) (cuts := [(39, [1, 1, 1, 1, 2])]) (l := [(88, C88b), (157, C157), (162, C162), (318, C318)]) rfl ⟨am_CS_d (by decide) C88b_ok, am_CS_d (by decide) C157_ok, am_CS_d (by decide) C162_ok, am_CS_d (by decide) C318_ok, trivial⟩ 30 (And.intro (t).1 (And.intro ((t).2).1 (And.intro (((t).2).2).1 (And.intro (fun c6 => And.intro (((((t).2).2).2).1 c6).1 ((((((t).2).2).2).1 c6).2)) (fun c6 => And.intro (((((t).2).2).2).2 c6).1 (And.intro ((((((t).2).2).2).2 c6).2).1 (And.intro (((((((t).2).2).2).2 c6).2).2).1 (And.intro ((((((((t).2).2).2).2 c6).2).2).2).1 (And.intro (rfl) (And.intro (((((((((t).2).2).2).2 c6).2).2).2).2).1 (fun z2_0 z2_1 => ((((((((((t).2).2).2).2 c6).2).2).2).2).2) z2_0 z2_1)))))))))))
theorem L102 {K : Option am_V → am_H → Prop} {h : am_H} (H : SV h 5) {p q : Int} (hp : 0 ≤ p ∧ p < h 6 0) (hq : 0 ≤ q ∧ q < h 6 0) (hK : ∀ h', SQa (fun x9 => x9 = 476) h h' → K (some (mK (wyp (h 6 0) (nr h 7 0) p q))) h') : ∀ d, ∀ g : am_H, 1 ≤ d → d ≤ 20 → SQa (fun x9 => x9 = 476) h g → g 5 4 = 1 → (∀ w, 0 ≤ w → w < 20 → g 476 w = ifc (w < h 6 0 ∧ ds (ad (nr h 7 0)) p w < d) (wyp (h 6 0) (nr h 7 0) p w) 0) → am_AT 5 102 39 [some (mR 1 11 0 0), some (mB p), some (mB q), some (mR 1 2 0 8), some (mI d)] g K := by
  have hN := (SV5_N H).1
  have hC := (SV5_N H).2
  have hn1 := hN.1
  have hn2 := hN.2.1
  have hdq := ds_r hN hC hp hq
  refine lp 20 (fun d ih g d0 d1 G z f => ?_)
  have e := G.2.2.1
  have hdd := SV5_d G.1 z (a := p) (p := q) (by omega) (by omega)
  rw [e.1] at hdd
  have hs : ∀ j, 0 ≤ j → j < 20 → g (31 + p) j = shl (nr h 7 0) p j := fun j a c => by
    rw [SV5_s G.1 z (by omega) ⟨a, c⟩, e.1]
  have hb : ∀ w, 0 ≤ w → w < 20 → 0 ≤ g 476 w ∧ g 476 w ≤ 1099511627776 := fun w a c => by
    rw [f w a c]
    have := wyp_20 hn2 (nr h 7 0) p w
    exact ifc_r (by omega)
  refine T102_39 ⟨by omega, ⟨by omega, ⟨by omega, ⟨fun c1 => ⟨by omega, ?_⟩, fun c1 => ⟨by omega, ⟨by omega, ⟨by omega, ⟨by omega, ⟨⟨by omega, hb, fun x w1 w2 => by
    rw [hs _ (by omega) (by omega), bt_shl2] at w1 w2
    have h1 := ds_eq w1.2
    have h2 := ds_eq w2.2
    omega⟩, fun h' q2 => ?_⟩⟩⟩⟩⟩⟩⟩⟩⟩
  · exact am_rK (hK g G) (by rw [f q (by omega) (by omega), ifc_t ⟨by omega, by omega⟩])
  · refine ih (by omega) h' (by omega) (by omega) (SQa_fr (h' := g) G (fun x i hx => q2.1 x i hx) (fun x hx => by omega)) (by rw [q2.1 _ _ (by omega)]; exact z) (fun w a c => ?_)
    have h6 : g 6 0 = h 6 0 := e.2
    rw [q2.2 w a c, h6, hs d (by omega) (by omega), hs (d - 1) (by omega) (by omega)]
    by_cases wn : w < h 6 0
    · have sd := shl_d (d := d) hN hC hp (p := w) (by omega) (by omega)
      by_cases ed : ds (ad (nr h 7 0)) p w = d
      · rw [ifc_t ⟨wn, sd.mpr ed⟩, ifc_t ⟨wn, by omega⟩, wyp_s (by omega) ed]
        refine sm_congr _ (fun v v0 v1 => ?_)
        have sv := shl_d (d := d - 1) hN hC hp (p := v) (by omega) (by omega)
        have ea : bit (g 7 w) v ↔ ad (nr h 7 0) w v := by
          rw [← e.1]
          unfold ad
          rw [nr_in0 a c]
        by_cases ev : ad (nr h 7 0) w v ∧ ds (ad (nr h 7 0)) p v = d - 1
        · rw [ifc_t ev, ifc_t (bt_and.mpr ⟨ea.mpr ev.1, sv.mpr ev.2⟩), f v v0 (by omega), ifc_t ⟨by omega, by omega⟩]
        · rw [ifc_f ev, ifc_f (fun u => ev ⟨ea.mp (bt_and.mp u).1, sv.mp (bt_and.mp u).2⟩)]
      · rw [ifc_f (fun u => ed (sd.mp u.2)), f w a c]
        by_cases e3 : ds (ad (nr h 7 0)) p w < d
        · rw [ifc_t ⟨wn, e3⟩, ifc_t ⟨wn, by omega⟩]
        · rw [ifc_f (fun u => e3 u.2), ifc_f (fun u => by have := u.2; omega)]
    · rw [ifc_f (fun u => wn u.1), f w a c, ifc_f (fun u => wn u.1), ifc_f (fun u => wn u.1)]
theorem C102_ok : am_CS 5 102 C102 := W102 (fun p q h K hb => by
  have hN := (SV5_N hb.1).1
  have hC := (SV5_N hb.1).2
  have hn2 := hN.2.1
  refine T102_0 ⟨fun c1 => ⟨hb.1, fun h' q2 => ⟨by omega, ?_⟩⟩, fun c1 => ?_⟩
  · have e := SQ5_n q2.1
    refine L102 hb.1 c1.1 c1.2 (fun h' G => am_rK (hb.2 h' G) (ifc_t c1)) 1 _ (by omega) (by omega) (SQa_fr (h' := h') (SQa_of q2.1) (fun x i hx => by rw [am_up_ne hx, h_fl_ne hx]) (fun x hx => by omega)) (by rw [am_up_ne (by omega), h_fl_ne (by omega)]; exact q2.2) (fun w a c => ?_)
    by_cases ew : w = p
    · rw [ew, am_up_eq, ifc_t ⟨by omega, by rw [ds_0]; omega⟩, wyp_0 ds_0]
    · rw [am_up_n2 (by omega), h_fl_in a c, ifc_f (fun u => ?_)]
      have w1 := CN_rc hN hC c1.1 (b := w) (by omega)
      have w2 := ds_nn w1
      exact ew (ds_z w1 (by omega)).symm
  · exact am_rK (hb.2 h (SQa_of (SQ_rf hb.1))) (ifc_f c1))
/-! 231 FactorNetsModel.ways -/
def C231 : am_K := fun as h K => am_a3 as (fun v0 v1 v2 => am_oc 12 571 v0 (am_n v1 (fun p => am_n v2 (fun q => (RIv h) ∧ (∀ (h' : am_H), RQ h h' → K (some (mK (ifc ((0 ≤ p ∧ p < (h 572 0)) ∧ (0 ≤ q ∧ q < (h 572 0))) (wyp (h 572 0) (nr h 572 2) p q) (-2)))) (h'))))))
theorem W231 {d : Nat} (H : ∀ (p : Int) (q : Int) (h : am_H) (K : Option am_V → am_H → Prop), (RIv h) ∧ (∀ (h' : am_H), RQ h h' → K (some (mK (ifc ((0 ≤ p ∧ p < (h 572 0)) ∧ (0 ≤ q ∧ q < (h 572 0))) (wyp (h 572 0) (nr h 572 2) p q) (-2)))) (h')) → am_AT d 231 0 [some (mR 1 12 0 571), some (mB p), some (mB q), none, none, none] h K) : am_CS d 231 C231 := by
  refine am_CS_of (T := tb231) (mL := 6) (rk := 2) rfl (fun as h K hC => ?_)
  obtain ⟨v0, v1, v2, rfl, hC0⟩ := am_a3_e hC
  obtain ⟨e0, hC1⟩ := am_oc_e hC0
  subst e0
  obtain ⟨p, rfl, hC2⟩ := am_n_e hC1
  obtain ⟨q, rfl, hC3⟩ := am_n_e hC2
  refine ⟨Nat.le_of_ble_eq_true rfl, ?_⟩
  exact H p q h K hC3
theorem T231_0 {R : Option am_V → am_H → Prop} {h : am_H} {p : Int} {q : Int} (t : (RIv h) ∧ (∀ (h' : am_H), (LD h h') → ((((0 ≤ p ∧ p < (h 572 0)) ∧ (0 ≤ q ∧ q < (h 572 0))) → (am_AT 6 231 15 [some (mR 1 12 0 571), some (mB p), some (mB q), some (mI 0), none, none] h' R)) ∧ ((¬ ((0 ≤ p ∧ p < (h 572 0)) ∧ (0 ≤ q ∧ q < (h 572 0)))) → (R (some (mK (-2))) h'))))) : am_AT 6 231 0 [some (mR 1 12 0 571), some (mB p), some (mB q), none, none, none] h R :=
  am_T (d := 5) (m := 231) (T := tb231) (mL := 6) (rk := 2) (cuts := [(15, [1, 1, 1, 2, 0, 0]), (24, [1, 1, 1, 2, 2, 0]), (68, [1, 1, 1, 2, 2, 2])]) (l := [(198, C198), (212, C212), (224, C224)]) rfl ⟨am_CS_d (by decide) C198_ok, am_CS_d (by decide) C212_ok, am_CS_d (by decide) C224_ok, trivial⟩ 11 (And.intro (rfl) (And.intro (t).1 (fun z3_0 z3_1 => And.intro (fun c7 => (((t).2) z3_0 z3_1).1 c7) (fun c7 => (((t).2) z3_0 z3_1).2 c7))))
theorem T231_15 {R : Option am_V → am_H → Prop} {h : am_H} {p : Int} {q : Int} {x3 : Int} (t : (R32 x3) ∧ (((20 ≤ x3) → ((0 ≤ q ∧ q < 20) ∧ (R (some (mK (h 586 q))) h))) ∧ ((x3 < 20) → (am_AT 6 231 24 [some (mR 1 12 0 571), some (mB p), some (mB q), some (mI x3), some (mI 0), none] h R)))) : am_AT 6 231 15 [some (mR 1 12 0 571), some (mB p), some (mB q), some (mI x3), none, none] h R :=
  am_T (d := 5) (m := 231) (T := tb231) (mL := 6) (rk := 2) (cuts := [(15, [1, 1, 1, 2, 0, 0]), (24, [1, 1, 1, 2, 2, 0]), (68, [1, 1, 1, 2, 2, 2])]) (l := [(198, C198), (212, C212), (224, C224)]) rfl ⟨am_CS_d (by decide) C198_ok, am_CS_d (by decide) C212_ok, am_CS_d (by decide) C224_ok, trivial⟩ 12 (And.intro (t).1 (And.intro (fun c8 => And.intro (((t).2).1 c8).1 ((((t).2).1 c8).2)) (fun c8 => ((t).2).2 c8)))
theorem T231_24 {R : Option am_V → am_H → Prop} {h : am_H} {p : Int} {q : Int} {x3 : Int} {x4 : Int} (t : (R32 x4) ∧ (((h 572 0 ≤ x4) → (am_AT 6 231 15 [some (mR 1 12 0 571), some (mB p), some (mB q), some (mI (x3 + 1)), none, none] h R)) ∧ ((x4 < h 572 0) → ((R32 x4) ∧ (((0 ≤ p ∧ p < 20) ∧ (0 ≤ x4 ∧ x4 < 20)) ∧ ((R32 x3) ∧ (((h 580 (20 * p + x4) = x3) → ((R32 x3) ∧ (((¬ x3 = 0) → ((0 ≤ x4 ∧ x4 < 20) ∧ (am_AT 6 231 68 [some (mR 1 12 0 571), some (mB p), some (mB q), some (mI x3), some (mI x4), some (mI 0)] (am_up h 586 x4 0) R))) ∧ ((x3 = 0) → ((0 ≤ x4 ∧ x4 < 20) ∧ (am_AT 6 231 68 [some (mR 1 12 0 571), some (mB p), some (mB q), some (mI x3), some (mI x4), some (mI 0)] (am_up h 586 x4 1) R)))))) ∧ ((¬ h 580 (20 * p + x4) = x3) → (am_AT 6 231 24 [some (mR 1 12 0 571), some (mB p), some (mB q), some (mI x3), some (mI (x4 + 1)), none] h R))))))))) : am_AT 6 231 24 [some (mR 1 12 0 571), some (mB p), some (mB q), some (mI x3), some (mI x4), none] h R :=
  am_T (d := 5) (m := 231) (T := tb231) (mL := 6) (rk := 2) (cuts := [(15, [1, 1, 1, 2, 0, 0]), (24, [1, 1, 1, 2, 2, 0]), (68, [1, 1, 1, 2, 2, 2])]) (l := [(198, C198), (212, C212), (224, C224)]) rfl ⟨am_CS_d (by decide) C198_ok, am_CS_d (by decide) C212_ok, am_CS_d (by decide) C224_ok, trivial⟩ 26 (And.intro (⟨by decide, by decide⟩) (And.intro (t).1 (And.intro (fun c9 => ((t).2).1 c9) (fun c9 => And.intro (((t).2).2 c9).1 (And.intro (rfl) (And.intro ((((t).2).2 c9).2).1 (And.intro (((((t).2).2 c9).2).2).1 (And.intro (fun c10 => And.intro (((((((t).2).2 c9).2).2).2).1 c10).1 (And.intro (fun c11 => And.intro (((((((((t).2).2 c9).2).2).2).1 c10).2).1 c11).1 ((((((((((t).2).2 c9).2).2).2).1 c10).2).1 c11).2)) (fun c11 => And.intro (((((((((t).2).2 c9).2).2).2).1 c10).2).2 c11).1 ((((((((((t).2).2 c9).2).2).2).1 c10).2).2 c11).2)))) (fun c10 => ((((((t).2).2 c9).2).2).2).2 c10)))))))))
theorem T231_68 {R : Option am_V → am_H → Prop} {h : am_H} {p : Int} {q : Int} {x3 : Int} {x4 : Int} {x5 : Int} (t : (R32 x5) ∧ (((h 572 0 ≤ x5) → (am_AT 6 231 24 [some (mR 1 12 0 571), some (mB p), some (mB q), some (mI x3), some (mI (x4 + 1)), none] h R)) ∧ ((x5 < h 572 0) → ((0 ≤ x4 ∧ x4 < 20) ∧ ((R32 x4) ∧ ((R32 x5) ∧ (((0 ≤ x4 ∧ x4 < 20) ∧ (0 ≤ x5 ∧ x5 < 32)) ∧ (((¬ (bit (h 572 (2 + x4)) x5)) → ((0 ≤ x4 ∧ x4 < 20) ∧ ((R64 ((h 586 x4) + 0)) ∧ (am_AT 6 231 68 [some (mR 1 12 0 571), some (mB p), some (mB q), some (mI x3), some (mI x4), some (mI (x5 + 1))] (am_up h 586 x4 ((h 586 x4) + 0)) R)))) ∧ ((bit (h 572 (2 + x4)) x5) → ((R32 x5) ∧ (((0 ≤ p ∧ p < 20) ∧ (0 ≤ x5 ∧ x5 < 20)) ∧ ((R32 (x3 - 1)) ∧ (((¬ h 580 (20 * p + x5) = x3 - 1) → ((0 ≤ x4 ∧ x4 < 20) ∧ ((R64 ((h 586 x4) + 0)) ∧ (am_AT 6 231 68 [some (mR 1 12 0 571), some (mB p), some (mB q), some (mI x3), some (mI x4), some (mI (x5 + 1))] (am_up h 586 x4 ((h 586 x4) + 0)) R)))) ∧ ((h 580 (20 * p + x5) = x3 - 1) → ((0 ≤ x5 ∧ x5 < 20) ∧ ((0 ≤ x4 ∧ x4 < 20) ∧ ((R64 ((h 586 x4) + (h 586 x5))) ∧ (am_AT 6 231 68 [some (mR 1 12 0 571), some (mB p), some (mB q), some (mI x3), some (mI x4), some (mI (x5 + 1))] (am_up h 586 x4 ((h 586 x4) + (h 586 x5))) R)))))))))))))))))) : am_AT 6 231 68 [some (mR 1 12 0 571), some (mB p), some (mB q), some (mI x3), some (mI x4), some (mI x5)] h R :=
  am_T (d := 5) (m := 231) (T := tb231) (mL := 6) (rk := 2) (cuts := [(15, [1, 1, 1, 2, 0, 0]), (24, [1, 1, 1, 2, 2, 0]), (68, [1, 1, 1, 2, 2, 2])]) (l := [(198, C198), (212, C212), (224, C224)]) rfl ⟨am_CS_d (by decide) C198_ok, am_CS_d (by decide) C212_ok, am_CS_d (by decide) C224_ok, trivial⟩ 37 (And.intro (⟨by decide, by decide⟩) (And.intro (t).1 (And.intro (fun c12 => ((t).2).1 c12) (fun c12 => And.intro (((t).2).2 c12).1 (And.intro ((((t).2).2 c12).2).1 (And.intro (((((t).2).2 c12).2).2).1 (And.intro (rfl) (And.intro ((((((t).2).2 c12).2).2).2).1 (And.intro (fun c13 => And.intro ((((((((t).2).2 c12).2).2).2).2).1 c13).1 (And.intro (((((((((t).2).2 c12).2).2).2).2).1 c13).2).1 ((((((((((t).2).2 c12).2).2).2).2).1 c13).2).2))) (fun c13 => And.intro ((((((((t).2).2 c12).2).2).2).2).2 c13).1 (And.intro (rfl) (And.intro (((((((((t).2).2 c12).2).2).2).2).2 c13).2).1 (And.intro ((((((((((t).2).2 c12).2).2).2).2).2 c13).2).2).1 (And.intro (fun c14 => And.intro ((((((((((((t).2).2 c12).2).2).2).2).2 c13).2).2).2).1 c14).1 (And.intro (((((((((((((t).2).2 c12).2).2).2).2).2 c13).2).2).2).1 c14).2).1 ((((((((((((((t).2).2 c12).2).2).2).2).2 c13).2).2).2).1 c14).2).2))) (fun c14 => And.intro ((((((((((((t).2).2 c12).2).2).2).2).2 c13).2).2).2).2 c14).1 (And.intro (((((((((((((t).2).2 c12).2).2).2).2).2 c13).2).2).2).2 c14).2).1 (And.intro ((((((((((((((t).2).2 c12).2).2).2).2).2 c13).2).2).2).2 c14).2).2).1 (((((((((((((((t).2).2 c12).2).2).2).2).2 c13).2).2).2).2 c14).2).2).2))))))))))))))))))
/-- what a point's number is while its neighbours are being added -/
noncomputable def wyj (n : Int) (r : Int → Int) (a d w j : Int) : Int := ifc (d = 0) 1 0 + sm (fun v => ifc (ad r w v ∧ ds (ad r) a v = d - 1) (wyp n r a v) 0) j.toNat
theorem wyj_0 (n : Int) (r : Int → Int) (a d w : Int) : wyj n r a d w 0 = ifc (d = 0) 1 0 := by
  show _ + (0 : Int) = _
  omega
theorem wyj_s {n : Int} {r : Int → Int} {a d w j : Int} (h : 0 ≤ j) : wyj n r a d w (j + 1) = wyj n r a d w j + ifc (ad r w j ∧ ds (ad r) a j = d - 1) (wyp n r a j) 0 := by
  have e : sm (fun v => ifc (ad r w v ∧ ds (ad r) a v = d - 1) (wyp n r a v) 0) (j + 1).toNat = sm (fun v => ifc (ad r w v ∧ ds (ad r) a v = d - 1) (wyp n r a v) 0) j.toNat + ifc (ad r w j ∧ ds (ad r) a j = d - 1) (wyp n r a j) 0 := sm_to h
  unfold wyj
  omega
theorem wyj_r {n : Int} (hn : n ≤ 20) {r : Int → Int} {a d w j : Int} (h : 0 ≤ j ∧ j ≤ 20) : 0 ≤ wyj n r a d w j ∧ wyj n r a d w j ≤ 30000000 := by
  have e1 := sm_rg (f := fun v => ifc (ad r w v ∧ ds (ad r) a v = d - 1) (wyp n r a v) 0) (m := 1048576) j.toNat (fun k hk => ifc_r (wyp_20 hn r a k))
  have e2 := ifc_r (c := d = 0) (x := 1) (B := 1) (by omega)
  unfold wyj
  omega
theorem wyj_n {n : Int} {r : Int → Int} (hN : NT n r) (hC : CN n r) {a d w : Int} (ha : 0 ≤ a ∧ a < n) (hw : 0 ≤ w ∧ w < n) (h : ds (ad r) a w = d) : wyj n r a d w n = wyp n r a w := by
  have h0 := (ds_r hN hC ha hw).1
  unfold wyj
  by_cases e : d = 0
  · rw [ifc_t e, wyp_0 (by omega), sm_congr (g := fun _ => 0) _ (fun k k0 k1 => ifc_f (fun u => by
      have := (ds_r hN hC ha (b := k) (by omega)).1
      omega)), sm_0]
    rfl
  · rw [ifc_f e, wyp_s (d := d) (by omega) h, Int.zero_add]
def WYS (h g : am_H) (p d i : Int) : Prop := (∀ x j, x ≠ 586 → g x j = h x j) ∧ ∀ w, 0 ≤ w → w < h 572 0 → (ds (ad (nr h 572 2)) p w < d ∨ ds (ad (nr h 572 2)) p w = d ∧ w < i) → g 586 w = wyp (h 572 0) (nr h 572 2) p w
theorem L231c {K : Option am_V → am_H → Prop} {h : am_H} (H : Lda h) {p q : Int} (hp : 0 ≤ p ∧ p < h 572 0) (hq : 0 ≤ q ∧ q < h 572 0) {d i : Int} (hd : 0 ≤ d ∧ d < 20) (hi : 0 ≤ i ∧ i < h 572 0) (he : ds (ad (nr h 572 2)) p i = d) (hK : ∀ g, WYS h g p d (i + 1) → am_AT 6 231 24 [some (mR 1 12 0 571), some (mB p), some (mB q), some (mI d), some (mI (i + 1)), none] g K) : ∀ j, ∀ g : am_H, 0 ≤ j → j ≤ h 572 0 → WYS h g p d i → g 586 i = wyj (h 572 0) (nr h 572 2) p d i j → am_AT 6 231 68 [some (mR 1 12 0 571), some (mB p), some (mB q), some (mI d), some (mI i), some (mI j)] g K := by
  obtain ⟨hN, hC, hD⟩ := H
  have hn1 := hN.1
  have hn2 := hN.2.1
  refine lp (h 572 0) (fun j ih g j0 j1 W ev => ?_)
  have en : g 572 0 = h 572 0 := W.1 _ _ (by omega)
  have ef : j < h 572 0 → g 580 (20 * p + j) = ds (ad (nr h 572 2)) p j := fun a => by
    rw [W.1 _ _ (by omega)]
    exact hD.1 p j (by omega) (by omega) (by omega) (by omega)
  have ea : bit (g 572 (2 + i)) j ↔ ad (nr h 572 2) i j := by
    rw [W.1 _ _ (by omega)]
    unfold ad
    rw [nr_in hi.1 (by omega)]
  have hr := wyj_r hn2 (r := nr h 572 2) (a := p) (d := d) (w := i) (j := j) (by omega)
  have es := wyj_s (n := h 572 0) (r := nr h 572 2) (a := p) (d := d) (w := i) j0
  have nx : j < h 572 0 → ∀ v, v = ifc (ad (nr h 572 2) i j ∧ ds (ad (nr h 572 2)) p j = d - 1) (wyp (h 572 0) (nr h 572 2) p j) 0 → am_AT 6 231 68 [some (mR 1 12 0 571), some (mB p), some (mB q), some (mI d), some (mI i), some (mI (j + 1))] (am_up g 586 i (g 586 i + v)) K := fun hj v hv => by
    refine ih hj _ (by omega) (by omega) ⟨fun x k hx => by rw [am_up_ne hx]; exact W.1 x k hx, fun w a b c => ?_⟩ (by rw [am_up_eq, ev, hv, es])
    have : w ≠ i := fun u => by rw [u] at c; omega
    rw [am_up_n2 (by omega)]
    exact W.2 w a b c
  have vj : j < h 572 0 → ds (ad (nr h 572 2)) p j = d - 1 → g 586 j = wyp (h 572 0) (nr h 572 2) p j := fun a b => W.2 j j0 a (Or.inl (by omega))
  have hv := wyp_20 hn2 (nr h 572 2) p j
  refine T231_68 ⟨by omega, ⟨fun c1 => ?_, fun c1 => ⟨by omega, ⟨by omega, ⟨by omega, ⟨by omega, ⟨fun c2 => ⟨by omega, ⟨by omega, ?_⟩⟩, fun c2 => ⟨by omega, ⟨by omega, ⟨by omega, ⟨fun c3 => ⟨by omega, ⟨by omega, ?_⟩⟩, fun c3 => ⟨by omega, ⟨by omega, ⟨by
    rw [ef (by omega)] at c3
    have := vj (by omega) c3
    omega, ?_⟩⟩⟩⟩⟩⟩⟩⟩⟩⟩⟩⟩⟩⟩
  · refine hK g ⟨W.1, fun w a b c => ?_⟩
    by_cases e : w = i
    · rw [e, ev, show j = h 572 0 by omega]
      exact wyj_n hN hC hp hi he
    · exact W.2 w a b (by omega)
  · exact nx (by omega) 0 (ifc_f (fun u => c2 (ea.mpr u.1))).symm
  · rw [ef (by omega)] at c3
    exact nx (by omega) 0 (ifc_f (fun u => c3 u.2)).symm
  · rw [ef (by omega)] at c3
    rw [vj (by omega) c3]
    exact nx (by omega) _ (ifc_t ⟨ea.mp c2, c3⟩).symm
theorem L231b {K : Option am_V → am_H → Prop} {h : am_H} (H : Lda h) {p q : Int} (hp : 0 ≤ p ∧ p < h 572 0) (hq : 0 ≤ q ∧ q < h 572 0) {d : Int} (hd : 0 ≤ d ∧ d < 20) (hK : ∀ g, WYS h g p (d + 1) 0 → am_AT 6 231 15 [some (mR 1 12 0 571), some (mB p), some (mB q), some (mI (d + 1)), none, none] g K) : ∀ i, ∀ g : am_H, 0 ≤ i → i ≤ h 572 0 → WYS h g p d i → am_AT 6 231 24 [some (mR 1 12 0 571), some (mB p), some (mB q), some (mI d), some (mI i), none] g K := by
  have HH := H
  obtain ⟨hN, hC, hD⟩ := H
  have hn1 := hN.1
  have hn2 := hN.2.1
  refine lp (h 572 0) (fun i ih g i0 i1 W => ?_)
  have en : g 572 0 = h 572 0 := W.1 _ _ (by omega)
  have ef : i < h 572 0 → g 580 (20 * p + i) = ds (ad (nr h 572 2)) p i := fun a => by
    rw [W.1 _ _ (by omega)]
    exact hD.1 p i (by omega) (by omega) (by omega) (by omega)
  have go : i < h 572 0 → ds (ad (nr h 572 2)) p i = d → ∀ v, v = ifc (d = 0) 1 0 → am_AT 6 231 68 [some (mR 1 12 0 571), some (mB p), some (mB q), some (mI d), some (mI i), some (mI 0)] (am_up g 586 i v) K := fun hi he v hv => by
    refine L231c HH hp hq hd ⟨i0, hi⟩ he (fun g' W' => ih hi g' (by omega) (by omega) W') 0 _ (by omega) (by omega) ⟨fun x k hx => by rw [am_up_ne hx]; exact W.1 x k hx, fun w a b c => ?_⟩ (by rw [am_up_eq, wyj_0, hv])
    have : w ≠ i := fun u => by rw [u] at c; omega
    rw [am_up_n2 (by omega)]
    exact W.2 w a b c
  refine T231_24 ⟨by omega, ⟨fun c1 => ?_, fun c1 => ⟨by omega, ⟨by omega, ⟨by omega, ⟨fun c2 => ⟨by omega, ⟨fun c3 => ⟨by omega, ?_⟩, fun c3 => ⟨by omega, ?_⟩⟩⟩, fun c2 => ?_⟩⟩⟩⟩⟩⟩
  · exact hK g ⟨W.1, fun w a b c => W.2 w a b (by omega)⟩
  · rw [ef (by omega)] at c2
    exact go (by omega) c2 0 (ifc_f c3).symm
  · rw [ef (by omega)] at c2
    exact go (by omega) c2 1 (ifc_t c3).symm
  · rw [ef (by omega)] at c2
    refine ih (by omega) g (by omega) (by omega) ⟨W.1, fun w a b c => W.2 w a b ?_⟩
    by_cases e : w = i
    · subst e
      omega
    · omega
theorem L231 {K : Option am_V → am_H → Prop} {h : am_H} (H : Lda h) {p q : Int} (hp : 0 ≤ p ∧ p < h 572 0) (hq : 0 ≤ q ∧ q < h 572 0) (hK : ∀ g : am_H, (∀ x j, x ≠ 586 → g x j = h x j) → K (some (mK (wyp (h 572 0) (nr h 572 2) p q))) g) : ∀ d, ∀ g : am_H, 0 ≤ d → d ≤ 20 → WYS h g p d 0 → am_AT 6 231 15 [some (mR 1 12 0 571), some (mB p), some (mB q), some (mI d), none, none] g K := by
  have hn2 := H.1.2.1
  have hdq := ds_r H.1 H.2.1 hp hq
  refine lp 20 (fun d ih g d0 d1 W => ?_)
  refine T231_15 ⟨by omega, ⟨fun c1 => ⟨by omega, ?_⟩, fun c1 => ?_⟩⟩
  · exact am_rK (hK g W.1) (W.2 q hq.1 hq.2 (Or.inl (by omega))).symm
  · exact L231b H hp hq ⟨d0, by omega⟩ (fun g' W' => ih (by omega) g' (by omega) (by omega) W') 0 g (by omega) (by omega) W
theorem C231_ok : am_CS 6 231 C231 := W231 (fun p q h K hb => by
  refine T231_0 ⟨hb.1, fun h' q1 => ⟨fun c2 => ?_, fun c2 => ?_⟩⟩
  · have en := q1.2
    refine L231 (LD_a q1) (by rw [en.2.1]; exact c2.1) (by rw [en.2.1]; exact c2.2) (fun g f => ?_) 0 h' (by omega) (by omega) ⟨fun _ _ _ => rfl, fun w a b c => ?_⟩
    · rw [en.1, en.2.1]
      exact am_rK (hb.2 g (LD_fr q1 (fun x i hx => f x i (by unfold PR at hx; omega)))) (ifc_t c2)
    · have := (ds_r (LD_a q1).1 (LD_a q1).2.1 (a := p) (b := w) (by rw [en.2.1]; exact c2.1) ⟨a, b⟩).1
      omega
  · exact am_rK (hb.2 h' (LD_q q1)) (ifc_f c2))
