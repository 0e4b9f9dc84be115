/-! ===== the line whose loss leaves the most parts ===== -/
theorem omg_r : ∀ n : Nat, n ≤ 20 → 1 ≤ n → 0 ≤ omg n ∧ omg n ≤ 10 := by decide +kernel
theorem fac_le {a b m : Nat} (h : a * b ≤ 20) (hb : m ≤ b) (k : Nat) (hk : 20 < (k + 1) * m) : a ≤ k := by
  refine Classical.byContradiction fun c => ?_
  have := Nat.mul_le_mul (show k + 1 ≤ a by omega) hb
  omega
theorem np_omg {n : Int} {r : Int → Int} (hN : NT n r) (hC : CN n r) (h0 : 0 < n) : npt r ≤ omg n := by
  have hn := hN.2.1
  have e := n_prd hN hC h0
  have h4 := np_4 hN hC
  have hm := (ncl_r (ptE r) r).1
  have h2 := fun i (a : (0 : Int) ≤ i) (b : i < ncl (ptE r) (nl r)) => sz_2 hN hC h0 i a b
  have hr := omg_r n.toNat (by omega) (by omega)
  rw [show ((n.toNat : Nat) : Int) = n by omega] at hr
  unfold npt
  generalize hF : (fun i => lsz r (fun x => x = i) 0) = F at e
  have h3 : ∀ i : Int, 0 ≤ i → i < ncl (ptE r) (nl r) → 2 ≤ F i := fun i a b => by rw [← hF]; exact h2 i a b
  have c : ncl (ptE r) (nl r) = 0 ∨ ncl (ptE r) (nl r) = 1 ∨ ncl (ptE r) (nl r) = 2 ∨ ncl (ptE r) (nl r) = 3 ∨ ncl (ptE r) (nl r) = 4 := by omega
  rcases c with c | c | c | c | c
  · omega
  · rw [c] at e h3 ⊢
    have f0 := h3 0 (by omega) (by omega)
    have e' : n = 1 * F 0 := e
    have := omg_p1 n.toNat (by omega) (by omega)
    rw [show ((n.toNat : Nat) : Int) = n by omega] at this
    exact this
  · rw [c] at e h3 ⊢
    obtain ⟨a, ha⟩ := Int.eq_ofNat_of_zero_le (show 0 ≤ F 0 by have := h3 0 (by omega) (by omega); omega)
    obtain ⟨b, hb⟩ := Int.eq_ofNat_of_zero_le (show 0 ≤ F 1 by have := h3 1 (by omega) (by omega); omega)
    have f0 := h3 0 (by omega) (by omega)
    have f1 := h3 1 (by omega) (by omega)
    have e' : n = 1 * F 0 * F 1 := e
    rw [ha, hb, Int.one_mul] at e'
    have e2 : n = ((a * b : Nat) : Int) := by rw [e']; exact (Int.natCast_mul a b).symm
    have l : a * b ≤ 20 := by omega
    have := omg_p2 a (fac_le l (show 2 ≤ b by omega) 10 (by omega)) b (fac_le (by rw [Nat.mul_comm]; exact l) (show 2 ≤ a by omega) 10 (by omega)) (by omega) (by omega) l
    rw [← e2] at this
    exact this
  · rw [c] at e h3 ⊢
    obtain ⟨a, ha⟩ := Int.eq_ofNat_of_zero_le (show 0 ≤ F 0 by have := h3 0 (by omega) (by omega); omega)
    obtain ⟨b, hb⟩ := Int.eq_ofNat_of_zero_le (show 0 ≤ F 1 by have := h3 1 (by omega) (by omega); omega)
    obtain ⟨d, hd⟩ := Int.eq_ofNat_of_zero_le (show 0 ≤ F 2 by have := h3 2 (by omega) (by omega); omega)
    have f0 := h3 0 (by omega) (by omega)
    have f1 := h3 1 (by omega) (by omega)
    have f2 := h3 2 (by omega) (by omega)
    have e' : n = 1 * F 0 * F 1 * F 2 := e
    rw [ha, hb, hd, Int.one_mul] at e'
    have e2 : n = ((a * b * d : Nat) : Int) := by rw [e', Int.natCast_mul, Int.natCast_mul]
    have l : a * b * d ≤ 20 := by omega
    have ab : 4 ≤ a * b := Nat.mul_le_mul (show 2 ≤ a by omega) (show 2 ≤ b by omega)
    have ad' : 4 ≤ a * d := Nat.mul_le_mul (show 2 ≤ a by omega) (show 2 ≤ d by omega)
    have bd : 4 ≤ b * d := Nat.mul_le_mul (show 2 ≤ b by omega) (show 2 ≤ d by omega)
    have := omg_p3 a (Nat.lt_succ_of_le (fac_le (by rw [← Nat.mul_assoc]; exact l) bd 5 (by omega))) b (Nat.lt_succ_of_le (fac_le (by rw [Nat.mul_left_comm, ← Nat.mul_assoc]; exact l) ad' 5 (by omega))) d (Nat.lt_succ_of_le (fac_le (by rw [Nat.mul_comm]; exact l) ab 5 (by omega))) ⟨by omega, by omega, by omega, l⟩
    rw [← e2] at this
    exact this
  · rw [c] at e h3 ⊢
    have f0 := h3 0 (by omega) (by omega)
    have f1 := h3 1 (by omega) (by omega)
    have f2 := h3 2 (by omega) (by omega)
    have f3 := h3 3 (by omega) (by omega)
    have b0 : 2 * prd F 0 ≤ prd F 1 := prd_dbl 0 (fun i a b => h3 i a (by omega))
    have b1 : 2 * prd F 1 ≤ prd F 2 := prd_dbl 1 (fun i a b => h3 i a (by omega))
    have b2 : 2 * prd F 2 ≤ prd F 3 := prd_dbl 2 (fun i a b => h3 i a (by omega))
    have z0 : prd F 0 = 1 := rfl
    have e' : n = prd F 3 * F 3 := e
    have p3 : 2 * prd F 3 ≤ n := by
      have := Int.mul_le_mul_of_nonneg_left f3 (show 0 ≤ prd F 3 by omega)
      omega
    have g1 : prd F 1 = 1 * F 0 := rfl
    have g2 : prd F 2 = prd F 1 * F 1 := rfl
    have g3 : prd F 3 = prd F 2 * F 2 := rfl
    have k1 : prd F 1 = 2 := by omega
    rw [k1] at g2
    have k2 : prd F 2 = 4 := by omega
    rw [k2] at g3
    have k3 : prd F 3 = 8 := by omega
    rw [k3] at e'
    rw [show n = 16 by omega, omg_16]
    omega
noncomputable def amx (f : Int → Int) : Nat → Int × Int
  | 0 => (-1, -1)
  | k + 1 => if (amx f k).2 < f k then ((k : Int), f k) else amx f k
noncomputable def lst (n : Int) (r : Int → Int) : Int := (amx (wow n r) (nl r).toNat).1
theorem amx_s {f : Int → Int} {i : Int} (h : 0 ≤ i) : amx f (i + 1).toNat = if (amx f i.toNat).2 < f i then (i, f i) else amx f i.toNat := by
  rw [show (i + 1).toNat = i.toNat + 1 by omega]
  show (if (amx f i.toNat).2 < f (i.toNat : Nat) then (((i.toNat : Nat) : Int), f (i.toNat : Nat)) else amx f i.toNat) = _
  rw [show ((i.toNat : Nat) : Int) = i by omega]
theorem amx_stop {f : Int → Int} {B : Int} (hf : ∀ k, f k ≤ B) {m : Nat} (h : B ≤ (amx f m).2) : ∀ j : Nat, amx f (m + j) = amx f m
  | 0 => rfl
  | j + 1 => by
    have ih := amx_stop hf h j
    show (if (amx f (m + j)).2 < f ((m + j : Nat) : Int) then _ else amx f (m + j)) = _
    rw [ih, if_neg (by have := hf ((m + j : Nat) : Int); omega)]
theorem amx_r {f : Int → Int} {B : Int} (hf : ∀ k, f k ≤ B) (hB : -1 ≤ B) : ∀ m : Nat, (-1 ≤ (amx f m).1 ∧ (amx f m).1 < (m : Int)) ∧ (-1 ≤ (amx f m).2 ∧ (amx f m).2 ≤ B)
  | 0 => by
    show (-1 ≤ (-1 : Int) ∧ (-1 : Int) < 0) ∧ (-1 ≤ (-1 : Int) ∧ (-1 : Int) ≤ B)
    omega
  | m + 1 => by
    have ih := amx_r hf hB m
    show (-1 ≤ (if (amx f m).2 < f m then ((m : Int), f m) else amx f m).1 ∧ (if (amx f m).2 < f m then ((m : Int), f m) else amx f m).1 < ((m + 1 : Nat) : Int)) ∧ (-1 ≤ (if (amx f m).2 < f m then ((m : Int), f m) else amx f m).2 ∧ (if (amx f m).2 < f m then ((m : Int), f m) else amx f m).2 ≤ B)
    have hk := hf (m : Int)
    by_cases e : (amx f m).2 < f m
    · rw [if_pos e]
      show (-1 ≤ (m : Int) ∧ (m : Int) < ((m + 1 : Nat) : Int)) ∧ (-1 ≤ f m ∧ f m ≤ B)
      omega
    · rw [if_neg e]
      omega
theorem wow_le {n : Int} {r : Int → Int} (hN : NT n r) (h0 : 0 < n) (l : Int) : wow n r l ≤ omg n := by
  have hr := omg_r n.toNat (by have := hN.2.1; omega) (by omega)
  rw [show ((n.toNat : Nat) : Int) = n by omega] at hr
  unfold wow
  by_cases e : CN n (wo r (lo r l) (hi r l))
  · rw [ifc_t e]; exact np_omg (NT_wo hN _ _) e h0
  · rw [ifc_f e]; omega
def LSI (h : am_H) : Prop := h 0 18 = -2 ∨ h 0 18 = lst (h 6 0) (nr h 7 0)
def SQl (h h' : am_H) : Prop := SV h' 5 ∧ (∀ x i, ¬ (8 < x ∧ x ≤ 78) → ¬ (x = 5 ∧ 4 ≤ i ∧ i ≤ 6) → ¬ (79 ≤ x ∧ x ≤ 152) → ¬ (x = 0 ∧ i = 18) → h' x i = h x i) ∧ (nr h' 7 0 = nr h 7 0 ∧ h' 6 0 = h 6 0) ∧ LSI h' ∧ (h 5 4 = 1 → h' 5 4 = 1)
/-! 172 FactorNets.findLoosest -/
def C172 : am_K := fun as h K => am_a1 as (fun v0 => am_oc 11 0 v0 ((SV h 5 ∧ 0 < (h 6 0)) ∧ (∀ (h' : am_H), SQa (fun x9 => 79 ≤ x9 ∧ x9 ≤ 152) h h' → K (some (mB (lst (h 6 0) (nr h 7 0)))) (h'))))
theorem W172 {d : Nat} (H : ∀  (h : am_H) (K : Option am_V → am_H → Prop), (SV h 5 ∧ 0 < (h 6 0)) ∧ (∀ (h' : am_H), SQa (fun x9 => 79 ≤ x9 ∧ x9 ≤ 152) h h' → K (some (mB (lst (h 6 0) (nr h 7 0)))) (h')) → am_AT d 172 0 [some (mR 1 11 0 0), none, none, none, none, none] h K) : am_CS d 172 C172 := by
  refine am_CS_of (T := tb172) (mL := 6) (rk := 1) rfl (fun as h K hC => ?_)
  obtain ⟨v0, rfl, hC0⟩ := am_a1_e hC
  obtain ⟨e0, hC1⟩ := am_oc_e hC0
  subst e0
  refine ⟨Nat.le_of_ble_eq_true rfl, ?_⟩
  exact H  h K hC1
theorem T172_0 {R : Option am_V → am_H → Prop} {h : am_H} (t : (0 ≤ (h 6 0) ∧ (h 6 0) ≤ 20) ∧ (am_AT 7 172 21 [some (mR 1 11 0 0), some (mI (omg (h 6 0))), some (mI (-1)), some (mI (-1)), some (mI 0), none] h R)) : am_AT 7 172 0 [some (mR 1 11 0 0), none, none, none, none, none] h R :=
  am_T (d := 6) (m := 172) (T := tb172) (mL := 6) (rk := 1) (cuts := [(21, [1, 2, 2, 2, 2, 0])]) (l := [(89, C89b), (171, C171), (181, C181)]) rfl ⟨am_CS_d (by decide) C89b_ok, am_CS_d (by decide) C171_ok, am_CS_d (by decide) C181_ok, trivial⟩ 16 (And.intro (t).1 ((t).2))
theorem T172_21 {R : Option am_V → am_H → Prop} {h : am_H} {x1 : Int} {x2 : Int} {x3 : Int} {x4 : Int} (t : (SV h (5 : Int)) ∧ (∀ (h' : am_H), (SQ h h' (5 : Int) ∧ h' (5 : Int) 5 = 1) → ((R32 x4) ∧ (((h' 51 0 ≤ x4) → ((R32 x3) ∧ (R (some (mB x3)) h'))) ∧ ((x4 < h' 51 0) → ((R32 x2) ∧ ((R32 x1) ∧ (((x1 ≤ x2) → ((R32 x3) ∧ (R (some (mB x3)) h'))) ∧ ((x2 < x1) → ((R32 x4) ∧ ((SV h' 5 ∧ h' 5 5 = 1 ∧ (0 ≤ x4 ∧ x4 < nl (nr h' 7 0))) ∧ (∀ (h'_1 : am_H), (SQa (fun x9 => 79 ≤ x9 ∧ x9 ≤ 152) h' h'_1) → ((R32 x2) ∧ (((wow (h' 6 0) (nr h' 7 0) x4 ≤ x2) → (am_AT 7 172 21 [some (mR 1 11 0 0), some (mI x1), some (mI x2), some (mI x3), some (mI (x4 + 1)), none] h'_1 R)) ∧ ((x2 < wow (h' 6 0) (nr h' 7 0) x4) → (am_AT 7 172 21 [some (mR 1 11 0 0), some (mI x1), some (mI (wow (h' 6 0) (nr h' 7 0) x4)), some (mI x4), some (mI (x4 + 1)), none] h'_1 R)))))))))))))))) : am_AT 7 172 21 [some (mR 1 11 0 0), some (mI x1), some (mI x2), some (mI x3), some (mI x4), none] h R :=
  am_T (d := 6) (m := 172) (T := tb172) (mL := 6) (rk := 1) (cuts := [(21, [1, 2, 2, 2, 2, 0])]) (l := [(89, C89b), (171, C171), (181, C181)]) rfl ⟨am_CS_d (by decide) C89b_ok, am_CS_d (by decide) C171_ok, am_CS_d (by decide) C181_ok, trivial⟩ 26 (And.intro (t).1 (fun z1_0 z1_1 => And.intro (((t).2) z1_0 z1_1).1 (And.intro (fun c1 => And.intro (((((t).2) z1_0 z1_1).2).1 c1).1 ((((((t).2) z1_0 z1_1).2).1 c1).2)) (fun c1 => And.intro (((((t).2) z1_0 z1_1).2).2 c1).1 (And.intro ((((((t).2) z1_0 z1_1).2).2 c1).2).1 (And.intro (fun c2 => And.intro ((((((((t).2) z1_0 z1_1).2).2 c1).2).2).1 c2).1 (((((((((t).2) z1_0 z1_1).2).2 c1).2).2).1 c2).2)) (fun c2 => And.intro ((((((((t).2) z1_0 z1_1).2).2 c1).2).2).2 c2).1 (And.intro (rfl) (And.intro (((((((((t).2) z1_0 z1_1).2).2 c1).2).2).2 c2).2).1 (fun z2_0 z2_1 => And.intro (((((((((((t).2) z1_0 z1_1).2).2 c1).2).2).2 c2).2).2) z2_0 z2_1).1 (And.intro (fun c3 => ((((((((((((t).2) z1_0 z1_1).2).2 c1).2).2).2 c2).2).2) z2_0 z2_1).2).1 c3) (fun c3 => ((((((((((((t).2) z1_0 z1_1).2).2 c1).2).2).2 c2).2).2) z2_0 z2_1).2).2 c3))))))))))))
theorem L172 {K : Option am_V → am_H → Prop} {h : am_H} (H : SV h 5) (h0 : 0 < h 6 0) (hK : ∀ h', SQa (fun x9 => 79 ≤ x9 ∧ x9 ≤ 152) h h' → K (some (mB (lst (h 6 0) (nr h 7 0)))) h') : ∀ i, ∀ g : am_H, 0 ≤ i → i ≤ nl (nr h 7 0) → SQa (fun x9 => 79 ≤ x9 ∧ x9 ≤ 152) h g → ∀ b f, f = (amx (wow (h 6 0) (nr h 7 0)) i.toNat).1 → b = (amx (wow (h 6 0) (nr h 7 0)) i.toNat).2 → am_AT 7 172 21 [some (mR 1 11 0 0), some (mI (omg (h 6 0))), some (mI b), some (mI f), some (mI i), none] g K := by
  have hN := (SV5_N H).1
  have hn := hN.2.1
  have nlr := nl_r (nr h 7 0)
  have hr := omg_r (h 6 0).toNat (by omega) (by omega)
  rw [show (((h 6 0).toNat : Nat) : Int) = h 6 0 by omega] at hr
  have hf := wow_le hN h0
  refine lp (nl (nr h 7 0)) (fun i ih g i0 i1 G b f ef eb => ?_)
  have r := amx_r hf (by omega) i.toNat
  rw [← ef, ← eb] at r
  have es := amx_s (f := wow (h 6 0) (nr h 7 0)) i0
  rw [← eb] at es
  refine T172_21 ⟨G.1, fun h' q1 => ⟨by omega, ⟨fun c2 => ⟨by omega, ?_⟩, fun c2 => ⟨by omega, ⟨by omega, ⟨fun c3 => ⟨by omega, ?_⟩, fun c3 => ⟨by omega, ⟨by
    have Q := SQa_tr G (SQa_of q1.1)
    have e := (SV5_L q1.1.1 q1.2).1
    exact ⟨q1.1.1, q1.2, by omega⟩, fun h'_1 q4 => ⟨by omega, ⟨fun c5 => ?_, fun c5 => ?_⟩⟩⟩⟩⟩⟩⟩⟩⟩⟩
  · have Q := SQa_tr G (SQa_of q1.1)
    have e := (SV5_L q1.1.1 q1.2).1
    rw [Q.2.2.1.1] at e
    refine am_rB (hK h' Q) ?_
    unfold lst
    rw [ef, show nl (nr h 7 0) = i by omega]
  · have Q := SQa_tr G (SQa_of q1.1)
    refine am_rB (hK h' Q) ?_
    unfold lst
    have st := amx_stop hf (m := i.toNat) (by omega) ((nl (nr h 7 0)).toNat - i.toNat)
    rw [show i.toNat + ((nl (nr h 7 0)).toNat - i.toNat) = (nl (nr h 7 0)).toNat by omega] at st
    rw [st, ef]
  · have Q := SQa_tr G (SQa_of q1.1)
    have e := (SV5_L q1.1.1 q1.2).1
    rw [Q.2.2.1.1] at e
    rw [Q.2.2.1.1, Q.2.2.1.2] at c5
    rw [if_neg (by omega)] at es
    exact ih (by omega) h'_1 (by omega) (by omega) (SQa_tr Q q4) b f (by rw [es]; exact ef) (by rw [es]; exact eb)
  · have Q := SQa_tr G (SQa_of q1.1)
    have e := (SV5_L q1.1.1 q1.2).1
    rw [Q.2.2.1.1] at e
    rw [Q.2.2.1.1, Q.2.2.1.2] at c5 ⊢
    rw [if_pos (by omega)] at es
    exact ih (by omega) h'_1 (by omega) (by omega) (SQa_tr Q q4) _ _ (by rw [es]) (by rw [es])
theorem C172_ok : am_CS 7 172 C172 := W172 (fun h K hb => by
  have hN := (SV5_N hb.1.1).1
  have hn := hN.2.1
  have nlr := nl_r (nr h 7 0)
  refine T172_0 ⟨by omega, ?_⟩
  · exact L172 hb.1.1 hb.1.2 hb.2 0 h (by omega) (by omega) (SQa_of (SQ_rf hb.1.1)) (-1) (-1) rfl rfl)
/-! 144 FactorNets.loosest -/
def C144 : am_K := fun as h K => am_a1 as (fun v0 => am_oc 11 0 v0 ((SV h 5 ∧ LSI h) ∧ (∀ (h' : am_H), SQl h h' → K (some (mB (ifc (0 < (h 6 0)) (lst (h 6 0) (nr h 7 0)) (-2)))) (h'))))
theorem W144 {d : Nat} (H : ∀  (h : am_H) (K : Option am_V → am_H → Prop), (SV h 5 ∧ LSI h) ∧ (∀ (h' : am_H), SQl h h' → K (some (mB (ifc (0 < (h 6 0)) (lst (h 6 0) (nr h 7 0)) (-2)))) (h')) → am_AT d 144 0 [some (mR 1 11 0 0)] h K) : am_CS d 144 C144 := by
  refine am_CS_of (T := tb144) (mL := 1) (rk := 1) rfl (fun as h K hC => ?_)
  obtain ⟨v0, rfl, hC0⟩ := am_a1_e hC
  obtain ⟨e0, hC1⟩ := am_oc_e hC0
  subst e0
  refine ⟨Nat.le_of_ble_eq_true rfl, ?_⟩
  exact H  h K hC1
theorem T144_0 {R : Option am_V → am_H → Prop} {h : am_H} (t : ((¬ h 6 0 = 0) → (((¬ h 0 18 = (-2)) → (R (some (mB (h 0 18))) h)) ∧ ((h 0 18 = (-2)) → ((SV h 5 ∧ 0 < (h 6 0)) ∧ (∀ (h' : am_H), (SQa (fun x9 => 79 ≤ x9 ∧ x9 ≤ 152) h h') → (R (some (mB ((am_up h' 0 18 (lst (h 6 0) (nr h 7 0))) 0 18))) (am_up h' 0 18 (lst (h 6 0) (nr h 7 0))))))))) ∧ ((h 6 0 = 0) → (R (some (mB (-2))) h))) : am_AT 8 144 0 [some (mR 1 11 0 0)] h R :=
  am_T (d := 7) (m := 144) (T := tb144) (mL := 1) (rk := 1) (cuts := []) (l := [(172, C172)]) rfl ⟨am_CS_d (by decide) C172_ok, trivial⟩ 20 (And.intro (fun c4 => And.intro (fun c5 => ((t).1 c4).1 c5) (fun c5 => And.intro (rfl) (And.intro (((t).1 c4).2 c5).1 (fun z3_0 z3_1 => ((((t).1 c4).2 c5).2) z3_0 z3_1)))) (fun c4 => (t).2 c4))
theorem C144_ok : am_CS 8 144 C144 := W144 (fun h K hb => by
  obtain ⟨⟨H, L⟩, hK⟩ := hb
  have hn := (SV5_N H).1.1
  have rf : SQl h h := ⟨H, fun _ _ _ _ _ _ => rfl, ⟨rfl, rfl⟩, L, id⟩
  refine T144_0 ⟨fun c1 => ⟨fun c2 => ?_, fun c2 => ⟨⟨H, by omega⟩, fun h' q3 => ?_⟩⟩, fun c1 => ?_⟩
  · refine am_rB (hK h rf) ?_
    rw [ifc_t (by omega)]
    rcases L with e | e
    · exact absurd e c2
    · exact e.symm
  · rw [am_up_eq]
    have e1 : nr (am_up h' 0 18 (lst (h 6 0) (nr h 7 0))) 7 0 = nr h 7 0 := by rw [← q3.2.2.1.1]; exact nr_fr2 (fun i => am_up_ne (by omega))
    have e2 : am_up h' 0 18 (lst (h 6 0) (nr h 7 0)) 6 0 = h 6 0 := by rw [← q3.2.2.1.2]; exact am_up_ne (by omega)
    refine am_rB (hK _ ⟨SV_fr5 q3.1 (fun x i a b => am_up_ne (by omega)), fun x i a b c d => by rw [am_up_n2 d]; exact q3.2.1 x i a b c, ⟨e1, e2⟩, Or.inr ?_, fun z => by rw [am_up_ne (by omega)]; exact q3.2.2.2.1 z⟩) (ifc_t (by omega))
    rw [am_up_eq, e1, e2]
  · exact am_rB (hK h rf) (ifc_f (by omega)))
/-! 305 FactorNetsModel.loosest -/
def C305 : am_K := fun as h K => am_a1 as (fun v0 => am_oc 12 571 v0 ((RIv h) ∧ (∀ (h' : am_H), RQ h h' → K (some (mB (ifc (0 < (h 572 0)) (lst (h 572 0) (nr h 572 2)) (-2)))) (h'))))
theorem W305 {d : Nat} (H : ∀  (h : am_H) (K : Option am_V → am_H → Prop), (RIv h) ∧ (∀ (h' : am_H), RQ h h' → K (some (mB (ifc (0 < (h 572 0)) (lst (h 572 0) (nr h 572 2)) (-2)))) (h')) → am_AT d 305 0 [some (mR 1 12 0 571), none, none, none, none, none] h K) : am_CS d 305 C305 := by
  refine am_CS_of (T := tb305) (mL := 6) (rk := 1) rfl (fun as h K hC => ?_)
  obtain ⟨v0, rfl, hC0⟩ := am_a1_e hC
  obtain ⟨e0, hC1⟩ := am_oc_e hC0
  subst e0
  refine ⟨Nat.le_of_ble_eq_true rfl, ?_⟩
  exact H  h K hC1
theorem T305_0 {R : Option am_V → am_H → Prop} {h : am_H} (t : ((0 < h 572 0) → ((RIv h) ∧ (∀ (h' : am_H), (LD h h') → (am_AT 7 305 26 [some (mR 1 12 0 571), some (mI (h' 571 21)), some (mI (-1)), some (mI (-1)), some (mI 0), none] h' R)))) ∧ ((¬ (0 < h 572 0)) → (R (some (mB (-2))) h))) : am_AT 7 305 0 [some (mR 1 12 0 571), none, none, none, none, none] h R :=
  am_T (d := 6) (m := 305) (T := tb305) (mL := 6) (rk := 1) (cuts := [(26, [1, 2, 2, 2, 2, 0])]) (l := [(209, C209), (220, C220), (302, C302)]) rfl ⟨am_CS_d (by decide) C209_ok, am_CS_d (by decide) C220_ok, am_CS_d (by decide) C302_ok, trivial⟩ 18 (And.intro (rfl) (And.intro (fun c6 => And.intro (rfl) (And.intro ((t).1 c6).1 (fun z4_0 z4_1 => (((t).1 c6).2) z4_0 z4_1))) (fun c6 => (t).2 c6)))
theorem T305_26 {R : Option am_V → am_H → Prop} {h : am_H} {x1 : Int} {x2 : Int} {x3 : Int} {x4 : Int} (t : (R32 x4) ∧ ((R32 x1) ∧ (((x1 ≤ x4) → ((R32 x2) ∧ (R (some (mB x2)) h))) ∧ ((x4 < x1) → ((RIv h) ∧ (∀ (h' : am_H), (LD h h') → ((0 ≤ x4 ∧ x4 < 190) ∧ ((0 ≤ x4 ∧ x4 < 190) ∧ ((RIv h' ∧ ad (nr h' 572 2) (h' 581 x4) (h' 582 x4)) ∧ (∀ (h'_1 : am_H), (RQ h' h'_1) → ((R32 x3) ∧ (((ifc (CN (h' 572 0) (wo (nr h' 572 2) (h' 581 x4) (h' 582 x4))) (npt (wo (nr h' 572 2) (h' 581 x4) (h' 582 x4))) (-1) ≤ x3) → (am_AT 7 305 26 [some (mR 1 12 0 571), some (mI x1), some (mI x2), some (mI x3), some (mI (x4 + 1)), none] h'_1 R)) ∧ ((x3 < ifc (CN (h' 572 0) (wo (nr h' 572 2) (h' 581 x4) (h' 582 x4))) (npt (wo (nr h' 572 2) (h' 581 x4) (h' 582 x4))) (-1)) → (am_AT 7 305 26 [some (mR 1 12 0 571), some (mI x1), some (mI x4), some (mI (ifc (CN (h' 572 0) (wo (nr h' 572 2) (h' 581 x4) (h' 582 x4))) (npt (wo (nr h' 572 2) (h' 581 x4) (h' 582 x4))) (-1))), some (mI (x4 + 1)), none] h'_1 R)))))))))))))) : am_AT 7 305 26 [some (mR 1 12 0 571), some (mI x1), some (mI x2), some (mI x3), some (mI x4), none] h R :=
  am_T (d := 6) (m := 305) (T := tb305) (mL := 6) (rk := 1) (cuts := [(26, [1, 2, 2, 2, 2, 0])]) (l := [(209, C209), (220, C220), (302, C302)]) rfl ⟨am_CS_d (by decide) C209_ok, am_CS_d (by decide) C220_ok, am_CS_d (by decide) C302_ok, trivial⟩ 29 (And.intro (t).1 (And.intro ((t).2).1 (And.intro (fun c7 => And.intro ((((t).2).2).1 c7).1 (((((t).2).2).1 c7).2)) (fun c7 => And.intro (rfl) (And.intro ((((t).2).2).2 c7).1 (fun z5_0 z5_1 => And.intro ((((((t).2).2).2 c7).2) z5_0 z5_1).1 (And.intro (((((((t).2).2).2 c7).2) z5_0 z5_1).2).1 (And.intro (rfl) (And.intro ((((((((t).2).2).2 c7).2) z5_0 z5_1).2).2).1 (fun z6_0 z6_1 => And.intro ((((((((((t).2).2).2 c7).2) z5_0 z5_1).2).2).2) z6_0 z6_1).1 (And.intro (fun c8 => (((((((((((t).2).2).2 c7).2) z5_0 z5_1).2).2).2) z6_0 z6_1).2).1 c8) (fun c8 => (((((((((((t).2).2).2 c7).2) z5_0 z5_1).2).2).2) z6_0 z6_1).2).2 c8))))))))))))
theorem L305 {K : Option am_V → am_H → Prop} {h : am_H} (H : RIv h) (h0 : 0 < h 572 0) (hK : ∀ h', RQ h h' → K (some (mB (lst (h 572 0) (nr h 572 2)))) h') : ∀ i, ∀ g : am_H, 0 ≤ i → i ≤ nl (nr h 572 2) → RQ h g → ∀ f b, f = (amx (wow (h 572 0) (nr h 572 2)) i.toNat).1 → b = (amx (wow (h 572 0) (nr h 572 2)) i.toNat).2 → am_AT 7 305 26 [some (mR 1 12 0 571), some (mI (nl (nr h 572 2))), some (mI f), some (mI b), some (mI i), none] g K := by
  have hN := H.1
  have hn := hN.2.1
  have nlr := nl_r (nr h 572 2)
  have hr := omg_r (h 572 0).toNat (by omega) (by omega)
  rw [show (((h 572 0).toNat : Nat) : Int) = h 572 0 by omega] at hr
  have hf := wow_le hN h0
  refine lp (nl (nr h 572 2)) (fun i ih g i0 i1 G f b ef eb => ?_)
  have r := amx_r hf (by omega) i.toNat
  rw [← ef, ← eb] at r
  have es := amx_s (f := wow (h 572 0) (nr h 572 2)) i0
  rw [← eb] at es
  have ln : ∀ h', LD g h' → i < nl (nr h 572 2) → h' 581 i = lo (nr h 572 2) i ∧ h' 582 i = hi (nr h 572 2) i ∧ nr h' 572 2 = nr h 572 2 ∧ h' 572 0 = h 572 0 := fun h' q2 a => by
    have en := RQ_n (RQ_tr G (LD_q q2))
    have L := (LD_a q2).2.2.2.1.2 i i0 (by rw [en.1]; exact a)
    rw [en.1] at L
    exact ⟨L.1, L.2, en.1, en.2⟩
  refine T305_26 ⟨by omega, ⟨by omega, ⟨fun c1 => ⟨by omega, ?_⟩, fun c1 => ⟨G.2, fun h' q2 => ⟨by omega, ⟨by omega, ⟨by
    have l := ln h' q2 (by omega)
    rw [l.1, l.2.1, l.2.2.1]
    exact ⟨q2.2.2.2.2.1, (lo_ok i0 (by omega)).2.1⟩, fun h'_1 q3 => ⟨by omega, ⟨fun c4 => ?_, fun c4 => ?_⟩⟩⟩⟩⟩⟩⟩⟩⟩
  · refine am_rB (hK g G) ?_
    unfold lst
    rw [ef, show nl (nr h 572 2) = i by omega]
  · have l := ln h' q2 (by omega)
    rw [l.1, l.2.1, l.2.2.1, l.2.2.2] at c4
    rw [if_neg (by unfold wow; omega)] at es
    exact ih (by omega) h'_1 (by omega) (by omega) (RQ_tr G (RQ_tr (LD_q q2) q3)) f b (by rw [es]; exact ef) (by rw [es]; exact eb)
  · have l := ln h' q2 (by omega)
    rw [l.1, l.2.1, l.2.2.1, l.2.2.2] at c4 ⊢
    rw [if_pos (by unfold wow; omega)] at es
    exact ih (by omega) h'_1 (by omega) (by omega) (RQ_tr G (RQ_tr (LD_q q2) q3)) _ _ (by rw [es]) (by rw [es]; rfl)
theorem C305_ok : am_CS 7 305 C305 := W305 (fun h K hb => by
  have nlr := nl_r (nr h 572 2)
  refine T305_0 ⟨fun c1 => ⟨hb.1, fun h' q2 => ?_⟩, fun c1 => ?_⟩
  · have e := (LD_a q2).2.2.2.1.1
    rw [q2.2.1] at e
    rw [e]
    exact L305 hb.1 c1 (fun h' G => am_rB (hb.2 h' G) (ifc_t c1)) 0 h' (by omega) (by omega) (LD_q q2) (-1) (-1) rfl rfl
  · exact am_rB (hb.2 h (RQ_rf hb.1)) (ifc_f c1))
