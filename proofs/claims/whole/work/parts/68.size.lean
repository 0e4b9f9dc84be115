/-! ===== how large parts are ===== -/
noncomputable def prd (f : Int → Int) : Nat → Int
  | 0 => 1
  | m + 1 => prd f m * f (m : Int)
theorem prd_succ (f : Int → Int) (m : Nat) : prd f (m + 1) = prd f m * f (m : Int) := rfl
theorem lsz_congr {r : Int → Int} {A B : Int → Prop} (h : ∀ p q, ad r p q → (A (pl r p q) ↔ B (pl r p q))) (u : Int) : lsz r A u = lsz r B u := by
  have e : RA r A = RA r B := by
    funext p q
    exact propext ⟨fun z => ⟨z.1, (h p q z.1).mp z.2⟩, fun z => ⟨z.1, (h p q z.1).mpr z.2⟩⟩
  unfold lsz
  rw [e]
section SZ
variable {n : Int} {r : Int → Int}
theorem pl_r (hN : NT n r) {p q : Int} (h : ad r p q) : 0 ≤ pl r p q ∧ pl r p q < ncl (ptE r) (nl r) := by
  have k := lno_ok hN h
  exact lab_r (ptE_sym hN) k.1.1 k.1.2
/-- each part has a line -/
theorem pl_sur (hN : NT n r) {k : Int} (h0 : 0 ≤ k) (h1 : k < ncl (ptE r) (nl r)) : ∃ p q, ad r p q ∧ pl r p q = k := by
  obtain ⟨l, l1, l2⟩ := lab_sur h0 h1
  have a := lo_n hN l1.1 l1.2
  exact ⟨lo r l, hi r l, a.2.2.2, by unfold pl; rw [lno_lo hN l1.1 l1.2]; exact l2⟩
theorem lsz_prd (hN : NT n r) (hC : CN n r) {u : Int} (hu : 0 ≤ u ∧ u < n) : ∀ j : Nat, lsz r (fun x => x < (j : Int)) u = prd (fun i => lsz r (fun x => x = i) u) j
  | 0 => by
    have hn := hN.2.1
    show lsz r _ u = 1
    have e : ct (rc (RA r (fun x => x < ((0 : Nat) : Int))) u) 20 = ct (fun _ => False) 20 + 1 := by
      refine ct_add2 (a := u) 20 hu.1 (by omega) id (fun k _ _ => ⟨fun z => Or.inr ?_, fun z => z.elim False.elim (fun z => by rw [z]; exact rc_refl)⟩)
      exact (rc_in (P := fun x => x = u) (fun a b _ hab => by have := pl_r hN hab.1; have h2 : pl r a b < ((0 : Nat) : Int) := hab.2; omega) rfl z)
    rw [ct_none 20 (P := fun _ => False) (fun _ _ => id)] at e
    exact e
  | j + 1 => by
    rw [prd_succ, ← lsz_prd hN hC hu j, ← lsz_mul hN hC (A := fun x => x < (j : Int)) (B := fun x => x = (j : Int)) (fun x a b => by omega) hu]
    exact lsz_congr (fun p q _ => ⟨fun z => by omega, fun z => by omega⟩) u
/-- as many points as the parts' multiplied -/
theorem n_prd (hN : NT n r) (hC : CN n r) (h0 : 0 < n) : n = prd (fun i => lsz r (fun x => x = i) 0) (ncl (ptE r) (nl r)).toNat := by
  have hm := (ncl_r (ptE r) r).1
  rw [← lsz_prd hN hC ⟨by omega, h0⟩, lsz_congr (B := fun _ => True) (fun p q h => ⟨fun _ => trivial, fun _ => by have := pl_r hN h; omega⟩) 0]
  exact (lsz_all hN hC (fun _ => trivial) ⟨by omega, h0⟩).symm
theorem prd_ge {f : Int → Int} : ∀ m : Nat, (∀ i : Int, 0 ≤ i → i < m → 2 ≤ f i) → 1 ≤ prd f m
  | 0, _ => Int.le_refl _
  | m + 1, h => by
    have h1 := prd_ge m (fun i a b => h i a (by omega))
    have h2 := h m (by omega) (by omega)
    have h3 : prd f m * 2 ≤ prd f m * f m := Int.mul_le_mul_of_nonneg_left h2 (by omega)
    rw [prd_succ]
    omega
theorem prd_dbl {f : Int → Int} (m : Nat) (h : ∀ i : Int, 0 ≤ i → i < (m + 1 : Nat) → 2 ≤ f i) : 2 * prd f m ≤ prd f (m + 1) := by
  have h1 := prd_ge m (fun i a b => h i a (by omega))
  have h2 := h m (by omega) (by omega)
  have h3 : prd f m * 2 ≤ prd f m * f m := Int.mul_le_mul_of_nonneg_left h2 (by omega)
  rw [prd_succ]
  omega
theorem sz_2 (hN : NT n r) (hC : CN n r) (h0 : 0 < n) (i : Int) (i0 : 0 ≤ i) (i1 : i < ncl (ptE r) (nl r)) : 2 ≤ lsz r (fun x => x = i) 0 := by
  obtain ⟨p, q, h1, h2⟩ := pl_sur hN i0 i1
  exact lsz_2 (A := fun x => x = i) hN hC h1 h2 ⟨by omega, h0⟩
/-- at most four parts -/
theorem np_4 (hN : NT n r) (hC : CN n r) : ncl (ptE r) (nl r) ≤ 4 := by
  have hn := hN.2.1
  have hm := (ncl_r (ptE r) r).1
  by_cases h0 : 0 < n
  · refine Classical.byContradiction fun c => ?_
    have e := n_prd hN hC h0
    have h2 := fun i (a : (0 : Int) ≤ i) (b : i < ((ncl (ptE r) (nl r)).toNat : Int)) => sz_2 hN hC h0 i a (by omega)
    generalize hm' : (ncl (ptE r) (nl r)).toNat = m at *
    obtain ⟨j, rfl⟩ : ∃ j, m = j + 5 := ⟨m - 5, by omega⟩
    generalize hF : (fun i => lsz r (fun x => x = i) 0) = F at *
    have h3 : ∀ i : Int, 0 ≤ i → i < ((j + 5 : Nat) : Int) → 2 ≤ F i := fun i a b => by rw [← hF]; exact h2 i a b
    have b0 := prd_ge (f := F) j (fun i a b => h3 i a (by omega))
    have b1 : 2 * prd F j ≤ prd F (j + 1) := prd_dbl j (fun i a b => h3 i a (by omega))
    have b2 : 2 * prd F (j + 1) ≤ prd F (j + 2) := prd_dbl (j + 1) (fun i a b => h3 i a (by omega))
    have b3 : 2 * prd F (j + 2) ≤ prd F (j + 3) := prd_dbl (j + 2) (fun i a b => h3 i a (by omega))
    have b4 : 2 * prd F (j + 3) ≤ prd F (j + 4) := prd_dbl (j + 3) (fun i a b => h3 i a (by omega))
    have b5 : 2 * prd F (j + 4) ≤ prd F (j + 5) := prd_dbl (j + 4) (fun i a b => h3 i a (by omega))
    omega
  · refine Classical.byContradiction fun c => ?_
    obtain ⟨p, q, h1, -⟩ := pl_sur hN (k := 0) (by omega) (by omega)
    have := (NT_in hN h1).1
    omega
/-- a net of two points or more has a part -/
theorem np_1 (hN : NT n r) (hC : CN n r) (h : 2 ≤ n) : 1 ≤ ncl (ptE r) (nl r) := by
  have hr := CN_rc hN hC (a := 0) (b := 1) (by omega) (by omega)
  obtain ⟨c, h1, -⟩ := ds_last hr (by omega)
  have := pl_r hN h1
  omega
theorem lsz_same (hN : NT n r) {A : Int → Prop} {u w : Int} (h : rc (RA r A) u w) : lsz r A u = lsz r A w := ct_congr 20 (fun k _ => ⟨fun z => rc_trans (rc_sym (RA_sym hN) h) z, fun z => rc_trans h z⟩)
theorem lsz_const (hN : NT n r) (hC : CN n r) {A : Int → Prop} {p q : Int} (hp : 0 ≤ p ∧ p < n) (hq : 0 ≤ q ∧ q < n) : lsz r A p = lsz r A q := by
  obtain ⟨x, x1, x2⟩ := G8 (A := A) hN hC hp hq
  rw [lsz_same hN x1]
  exact lsz_eq (B := fun z => ¬ A z) hN hC (fun x a b => b a) (RA_rc hN hp x1) x2
/-- two parts or more: composite, and not too many lines -/
theorem np_2 (hN : NT n r) (hC : CN n r) (h : 2 ≤ ncl (ptE r) (nl r)) : ∃ a b, 2 ≤ a ∧ 2 ≤ b ∧ n = a * b ∧ 4 * nl r ≤ n * n := by
  have hn1 := hN.1
  have hn2 := hN.2.1
  obtain ⟨p0, q0, h1, h2⟩ := pl_sur hN (k := 0) (by omega) (by omega)
  obtain ⟨p1, q1, h3, h4⟩ := pl_sur hN (k := 1) (by omega) (by omega)
  have h0 : 0 < n := by have := (NT_in hN h1).1; omega
  have z : (0 : Int) ≤ 0 ∧ 0 < n := ⟨by omega, h0⟩
  have ha := lsz_2 (A := fun x => x = 0) hN hC h1 h2 z
  have hb := lsz_2 (A := fun x => ¬ x = 0) hN hC h3 (by rw [h4]; omega) z
  have hab : n = lsz r (fun x => x = 0) 0 * lsz r (fun x => ¬ x = 0) 0 := by
    rw [← lsz_mul hN hC (fun x a b => b a) z]
    exact (lsz_all hN hC (fun x => Classical.em _) z).symm
  generalize hA : lsz r (fun x => x = 0) 0 = a at *
  generalize hB : lsz r (fun x => ¬ x = 0) 0 = b at *
  have deg : ∀ (A : Int → Prop) (p : Int), 0 ≤ p → p < n → ct (RA r A p) 20 + 1 ≤ lsz r A 0 := fun A p hp0 hp1 => by
    rw [lsz_const hN hC z ⟨hp0, hp1⟩]
    exact ct_ss (P := RA r A p) (Q := rc (RA r A) p) 20 hp0 (by omega) (fun w => (hN.2.2 _ _ w.1).2.2.1 rfl) rc_refl (fun k w => rc_1 w)
  have hd : ∀ p : Int, 0 ≤ p → p < n → ct (ad r p) 20 ≤ a + b - 2 := fun p hp0 hp1 => by
    have d1 := deg (fun x => x = 0) p hp0 hp1
    have d2 := deg (fun x => ¬ x = 0) p hp0 hp1
    have e : ct (ad r p) 20 = ct (RA r (fun x => x = 0) p) 20 + ct (RA r (fun x => ¬ x = 0) p) 20 := by
      rw [ct_sm, ct_sm, ct_sm, ← sm_add]
      refine sm_congr 20 (fun q _ _ => ?_)
      by_cases w : ad r p q
      · by_cases w2 : pl r p q = 0
        · rw [am_b_t w, am_b_t ⟨w, w2⟩, am_b_f (fun y => y.2 w2)]; rfl
        · rw [am_b_t w, am_b_f (fun y => w2 y.2), am_b_t ⟨w, w2⟩]; rfl
      · rw [am_b_f w, am_b_f (fun y => w y.1), am_b_f (fun y => w y.1)]; rfl
    omega
  have e1 := ends hN
  have e2 := sm_ext (f := fun p => ct (ad r p) 20) n.toNat (20 - n.toNat) (fun k hk => ct_none 20 (fun j hj w => by have := (NT_in hN w).1; omega))
  rw [show n.toNat + (20 - n.toNat) = 20 by omega, e1] at e2
  have e3 := sm_mono (f := fun p => ct (ad r p) 20) (g := fun _ => a + b - 2) n.toNat (fun k k0 k1 => hd k k0 (by omega))
  rw [sm_const, Int.toNat_of_nonneg hn1] at e3
  have e4 : 0 ≤ (a - 2) * (b - 2) := Int.mul_nonneg (by omega) (by omega)
  have e5 : (a - 2) * (b - 2) = a * b - 2 * (a + b - 2) := by
    rw [Int.sub_mul, Int.mul_sub, Int.mul_sub]
    omega
  have e6 : 2 * (n * (a + b - 2)) ≤ n * n := by
    have w : n * (2 * (a + b - 2)) ≤ n * n := Int.mul_le_mul_of_nonneg_left (by omega) hn1
    have w2 : n * (2 * (a + b - 2)) = 2 * (n * (a + b - 2)) := by rw [← Int.mul_assoc, Int.mul_comm n 2, Int.mul_assoc]
    omega
  exact ⟨a, b, ha, hb, hab, by omega⟩
end SZ
/-! prime factors -/
def pfI (f : Int) : Nat → Int → Int → Int × Int
  | 0, r, c => (r, c)
  | k + 1, r, c => if Int.tmod r f = 0 then pfI f k (Int.tdiv r f) (c + 1) else (r, c)
def pfO : Nat → Int → Int → Int → Int
  | 0, _, _, c => c
  | k + 1, f, r, c => pfO k (f + 1) (pfI f 5 r c).1 (pfI f 5 r c).2
def omg (n : Int) : Int := pfO 19 2 n 0
theorem omg_1 : ∀ n : Nat, n < 21 → ∀ a : Nat, a < 21 → ∀ b : Nat, b < 21 → ¬ (omg n = 1 ∧ 2 ≤ a ∧ 2 ≤ b ∧ n = a * b) := by decide +kernel
theorem omg_p1 : ∀ n : Nat, n ≤ 20 → 2 ≤ n → 1 ≤ omg n := by decide +kernel
theorem omg_p2 : ∀ a : Nat, a ≤ 10 → ∀ b : Nat, b ≤ 10 → 2 ≤ a → 2 ≤ b → a * b ≤ 20 → 2 ≤ omg ((a * b : Nat) : Int) := by decide +kernel
theorem omg_p3 : ∀ a : Nat, a < 6 → ∀ b : Nat, b < 6 → ∀ c : Nat, c < 6 → (2 ≤ a ∧ 2 ≤ b ∧ 2 ≤ c ∧ a * b * c ≤ 20) → 3 ≤ omg ((a * b * c : Nat) : Int) := by decide +kernel
theorem omg_16 : omg 16 = 4 := by decide +kernel
/-! 181 FactorNets.primeFactors -/
def C181 : am_K := fun as h K => am_a1 as (fun v0 => am_n v0 (fun n => (0 ≤ n ∧ n ≤ 20) ∧ (K (some (mB (omg n))) h)))
theorem W181 {d : Nat} (H : ∀ (n : Int) (h : am_H) (K : Option am_V → am_H → Prop), (0 ≤ n ∧ n ≤ 20) ∧ (K (some (mB (omg n))) h) → am_AT d 181 0 [some (mB n), none, none, none, none] h K) : am_CS d 181 C181 := by
  refine am_CS_of (T := tb181) (mL := 5) (rk := 1) rfl (fun as h K hC => ?_)
  obtain ⟨v0, rfl, hC0⟩ := am_a1_e hC
  obtain ⟨n, rfl, hC1⟩ := am_n_e hC0
  refine ⟨Nat.le_of_ble_eq_true rfl, ?_⟩
  exact H n h K hC1
theorem T181_0 {R : Option am_V → am_H → Prop} {h : am_H} {n : Int} (t : am_AT 1 181 6 [none, some (mI 0), some (mI n), some (mI 2), none] h R) : am_AT 1 181 0 [some (mB n), none, none, none, none] h R :=
  am_T (d := 0) (m := 181) (T := tb181) (mL := 5) (rk := 1) (cuts := [(6, [0, 2, 2, 2, 0]), (15, [0, 2, 2, 2, 2])]) (l := []) rfl trivial 10 (t)
theorem T181_6 {R : Option am_V → am_H → Prop} {h : am_H} {x1 : Int} {x2 : Int} {x3 : Int} (t : (R32 x3) ∧ (((20 < x3) → ((R32 x1) ∧ (R (some (mB x1)) h))) ∧ ((x3 ≤ 20) → (am_AT 1 181 15 [none, some (mI x1), some (mI x2), some (mI x3), some (mI 0)] h R)))) : am_AT 1 181 6 [none, some (mI x1), some (mI x2), some (mI x3), none] h R :=
  am_T (d := 0) (m := 181) (T := tb181) (mL := 5) (rk := 1) (cuts := [(6, [0, 2, 2, 2, 0]), (15, [0, 2, 2, 2, 2])]) (l := []) rfl trivial 9 (And.intro (t).1 (And.intro (fun c1 => And.intro (((t).2).1 c1).1 ((((t).2).1 c1).2)) (fun c1 => ((t).2).2 c1)))
theorem T181_15 {R : Option am_V → am_H → Prop} {h : am_H} {x1 : Int} {x2 : Int} {x3 : Int} {x4 : Int} (t : (R32 x4) ∧ (((5 ≤ x4) → (am_AT 1 181 6 [none, some (mI x1), some (mI x2), some (mI (x3 + 1)), none] h R)) ∧ ((x4 < 5) → ((R32 x2) ∧ ((R32 x3) ∧ ((¬ x3 = 0) ∧ (((¬ Int.tmod x2 x3 = 0) → (am_AT 1 181 6 [none, some (mI x1), some (mI x2), some (mI (x3 + 1)), none] h R)) ∧ ((Int.tmod x2 x3 = 0) → ((R32 x2) ∧ ((R32 x3) ∧ ((¬ x3 = 0) ∧ (am_AT 1 181 15 [none, some (mI (x1 + 1)), some (mI (Int.tdiv x2 x3)), some (mI x3), some (mI (x4 + 1))] h R)))))))))))) : am_AT 1 181 15 [none, some (mI x1), some (mI x2), some (mI x3), some (mI x4)] h R :=
  am_T (d := 0) (m := 181) (T := tb181) (mL := 5) (rk := 1) (cuts := [(6, [0, 2, 2, 2, 0]), (15, [0, 2, 2, 2, 2])]) (l := []) rfl trivial 18 (And.intro (t).1 (And.intro (fun c2 => ((t).2).1 c2) (fun c2 => And.intro (((t).2).2 c2).1 (And.intro ((((t).2).2 c2).2).1 (And.intro (((((t).2).2 c2).2).2).1 (And.intro (fun c3 => ((((((t).2).2 c2).2).2).2).1 c3) (fun c3 => And.intro (((((((t).2).2 c2).2).2).2).2 c3).1 (And.intro ((((((((t).2).2 c2).2).2).2).2 c3).2).1 (And.intro (((((((((t).2).2 c2).2).2).2).2 c3).2).2).1 ((((((((((t).2).2 c2).2).2).2).2 c3).2).2).2))))))))))
theorem tdiv_r {x f : Int} (h0 : 0 ≤ x) (hf : 2 ≤ f) : 0 ≤ Int.tdiv x f ∧ Int.tdiv x f ≤ x := ⟨Int.tdiv_nonneg h0 (by omega), Int.tdiv_le_self _ h0⟩
theorem L181 {K : Option am_V → am_H → Prop} {h : am_H} {N : Int} (hK : K (some (mB N)) h) : ∀ (k : Nat) (f r c : Int), f = 21 - k → 2 ≤ f → (0 ≤ r ∧ r ≤ 20) → (0 ≤ c ∧ c + 5 * k ≤ 200) → pfO k f r c = N → am_AT 1 181 6 [none, some (mI c), some (mI r), some (mI f), none] h K := by
  intro k
  induction k with
  | zero =>
    intro f r c hf h2 hr hc hN
    have e : c = N := hN
    refine T181_6 ⟨by omega, ⟨fun c1 => ⟨by omega, ?_⟩, fun c1 => ?_⟩⟩
    · rw [e]
      exact hK
    · exfalso; omega
  | succ k ih =>
    intro f r c hf h2 hr hc hN
    have L2 : ∀ (j : Nat) (i r' c' : Int), i = 5 - j → (0 ≤ r' ∧ r' ≤ 20) → (0 ≤ c' ∧ c' + j + 5 * k ≤ 200) → pfI f j r' c' = pfI f 5 r c → am_AT 1 181 15 [none, some (mI c'), some (mI r'), some (mI f), some (mI i)] h K := by
      intro j
      induction j with
      | zero =>
        intro i r' c' hi hr' hc' he
        have e : (r', c') = pfI f 5 r c := he
        refine T181_15 ⟨by omega, ⟨fun c1 => ?_, fun c1 => ⟨by omega, ⟨by omega, ⟨by omega, ⟨fun c2 => ?_, fun c2 => ⟨by omega, ⟨by omega, ⟨by omega, ?_⟩⟩⟩⟩⟩⟩⟩⟩⟩
        · refine ih (f + 1) r' c' (by omega) (by omega) hr' (by omega) ?_
          have e2 : pfO (k + 1) f r c = pfO k (f + 1) (pfI f 5 r c).1 (pfI f 5 r c).2 := rfl
          rw [← hN, e2, ← e]
        · exfalso; omega
        · exfalso; omega
      | succ j ihj =>
        intro i r' c' hi hr' hc' he
        have td := tdiv_r hr'.1 h2
        refine T181_15 ⟨by omega, ⟨fun c1 => ?_, fun c1 => ⟨by omega, ⟨by omega, ⟨by omega, ⟨fun c2 => ?_, fun c2 => ⟨by omega, ⟨by omega, ⟨by omega, ?_⟩⟩⟩⟩⟩⟩⟩⟩⟩
        · exfalso; omega
        · have e : (r', c') = pfI f 5 r c := by
            rw [← he]
            show _ = if Int.tmod r' f = 0 then pfI f j (Int.tdiv r' f) (c' + 1) else (r', c')
            rw [if_neg c2]
          refine ih (f + 1) r' c' (by omega) (by omega) hr' (by omega) ?_
          have e2 : pfO (k + 1) f r c = pfO k (f + 1) (pfI f 5 r c).1 (pfI f 5 r c).2 := rfl
          rw [← hN, e2, ← e]
        · refine ihj (i + 1) _ (c' + 1) (by omega) (by omega) (by omega) ?_
          rw [← he]
          show _ = if Int.tmod r' f = 0 then pfI f j (Int.tdiv r' f) (c' + 1) else (r', c')
          rw [if_pos c2]
    refine T181_6 ⟨by omega, ⟨fun c1 => ⟨by omega, ?_⟩, fun c1 => ?_⟩⟩
    · exfalso; omega
    · exact L2 5 0 r c (by omega) hr (by omega) rfl
theorem C181_ok : am_CS 1 181 C181 := W181 (fun n h K hb => T181_0 (L181 hb.2 19 2 n 0 (by omega) (by omega) hb.1 (by omega) rfl))
theorem np_one {n : Int} {r : Int → Int} (hN : NT n r) (hC : CN n r) (h2 : 2 ≤ n) (h : n * n < nl r * 4 ∨ omg n = 1) : ncl (ptE r) (nl r) = 1 := by
  have h1 := np_1 hN hC h2
  have hn2 := hN.2.1
  refine Classical.byContradiction fun q => ?_
  obtain ⟨a, b, a2, b2, e, e2⟩ := np_2 hN hC (by omega)
  rcases h with h | h
  · omega
  · have ha : a * 2 ≤ a * b := Int.mul_le_mul_of_nonneg_left b2 (by omega)
    have hb : 2 * b ≤ a * b := Int.mul_le_mul_of_nonneg_right a2 (by omega)
    refine omg_1 n.toNat (by omega) a.toNat (by omega) b.toNat (by omega) ⟨by rw [Int.toNat_of_nonneg (by omega)]; exact h, by omega, by omega, ?_⟩
    have e3 : ((n.toNat : Nat) : Int) = ((a.toNat * b.toNat : Nat) : Int) := by
      rw [Int.natCast_mul, Int.toNat_of_nonneg (by omega), Int.toNat_of_nonneg (by omega), Int.toNat_of_nonneg (by omega)]
      exact e
    exact_mod_cast e3
/-! 91 FactorNets$Survey.partCount -/
def C91 : am_K := fun as h K => am_a1 as (fun v0 => am_o 10 v0 (fun o => (SV h o ∧ 2 ≤ h (o + 1) 0 ∧ h o 6 = 0) ∧ (∀ (h' : am_H), SQ h h' o → K (some (mB (ncl (ptE (nr h (o + 2) 0)) (nl (nr h (o + 2) 0))))) (h'))))
theorem W91 {d : Nat} (H : ∀ (o : Int) (h : am_H) (K : Option am_V → am_H → Prop), (SV h o ∧ 2 ≤ h (o + 1) 0 ∧ h o 6 = 0) ∧ (∀ (h' : am_H), SQ h h' o → K (some (mB (ncl (ptE (nr h (o + 2) 0)) (nl (nr h (o + 2) 0))))) (h')) → am_AT d 91 0 [some (mR 1 10 0 o)] h K) : am_CS d 91 C91 := by
  refine am_CS_of (T := tb91) (mL := 1) (rk := 1) rfl (fun as h K hC => ?_)
  obtain ⟨v0, rfl, hC0⟩ := am_a1_e hC
  obtain ⟨o, rfl, hC1⟩ := am_o_e hC0
  refine ⟨Nat.le_of_ble_eq_true rfl, ?_⟩
  exact H o h K hC1
theorem T91_0 {R : Option am_V → am_H → Prop} {h : am_H} {o : Int} (t : ((0 ≤ h (o + 1) 0 ∧ h (o + 1) 0 ≤ 20) ∧ (∀ p, 0 ≤ p → p < 20 → S20 (h ((o + 1) + 1) p))) ∧ ((R32 ((Int.tdiv (sm (fun p => iPop (h ((o + 1) + 1) p)) (h (o + 1) 0).toNat) 2) * 4)) ∧ ((R32 ((h (o + 1) 0) * (h (o + 1) 0))) ∧ ((((h (o + 1) 0) * (h (o + 1) 0) < (Int.tdiv (sm (fun p => iPop (h ((o + 1) + 1) p)) (h (o + 1) 0).toNat) 2) * 4) → (R (some (mB 1)) h)) ∧ (((Int.tdiv (sm (fun p => iPop (h ((o + 1) + 1) p)) (h (o + 1) 0).toNat) 2) * 4 ≤ (h (o + 1) 0) * (h (o + 1) 0)) → ((0 ≤ (h (o + 1) 0) ∧ (h (o + 1) 0) ≤ 20) ∧ (((¬ omg (h (o + 1) 0) = 1) → (((NT (h (o + 1) 0) (nr h (o + 2) 0) ∧ CN (h (o + 1) 0) (nr h (o + 2) 0)) ∧ 0 ≤ o ∧ (h o 4 = 1 → MT h (o + 3) (h (o + 1) 0) (nr h (o + 2) 0))) ∧ (∀ (h' : am_H), ((∀ x i, ¬ (o + 3 < x ∧ x ≤ o + 45) → ¬ (x = o ∧ i = 4) → h' x i = h x i) ∧ h' o 4 = 1 ∧ MT h' (o + 3) (h (o + 1) 0) (nr h (o + 2) 0)) → ((NT (h' (o + 1) 0) (nr h' (o + 2) 0) ∧ 0 ≤ o ∧ (h' o 5 = 1 → LN h' (o + 46) (h' (o + 1) 0) (nr h' (o + 2) 0))) ∧ (∀ (h'_1 : am_H), ((∀ x i, ¬ (o + 46 ≤ x ∧ x ≤ o + 69) → ¬ (x = o ∧ i = 5) → h'_1 x i = h' x i) ∧ h'_1 o 5 = 1 ∧ LN h'_1 (o + 46) (h' (o + 1) 0) (nr h' (o + 2) 0)) → ((((o + 3) = (o + 1) + 2 ∧ (o + 46) = (o + 1) + 45 ∧ (o + 70) = (o + 1) + 69 ∧ 0 < (o + 1)) ∧ (NT (h'_1 (o + 1) 0) (nr h'_1 ((o + 1) + 1) 0) ∧ CN (h'_1 (o + 1) 0) (nr h'_1 ((o + 1) + 1) 0) ∧ MT h'_1 (o + 3) (h'_1 (o + 1) 0) (nr h'_1 ((o + 1) + 1) 0) ∧ LN h'_1 (o + 46) (h'_1 (o + 1) 0) (nr h'_1 ((o + 1) + 1) 0))) ∧ (∀ (h'_2 : am_H), ((∀ x i, ¬ ((o + 70) ≤ x ∧ x ≤ (o + 70) + 3) → h'_2 x i = h'_1 x i)) → (R (some (mB (ncl (ptE (nr h'_1 ((o + 1) + 1) 0)) (nl (nr h'_1 ((o + 1) + 1) 0))))) h'_2)))))))) ∧ ((omg (h (o + 1) 0) = 1) → (R (some (mB 1)) h))))))))) : am_AT 5 91 0 [some (mR 1 10 0 o)] h R :=
  am_T (d := 4) (m := 91) (T := tb91) (mL := 1) (rk := 1) (cuts := []) (l := [(26, C26), (79, C79), (88, C88), (89, C89), (181, C181)]) rfl ⟨am_CS_d (by decide) C26_ok, am_CS_d (by decide) C79_ok, am_CS_d (by decide) C88_ok, am_CS_d (by decide) C89_ok, am_CS_d (by decide) C181_ok, trivial⟩ 33 (And.intro (t).1 (And.intro ((t).2).1 (And.intro (((t).2).2).1 (And.intro (fun c4 => ((((t).2).2).2).1 c4) (fun c4 => And.intro (((((t).2).2).2).2 c4).1 (And.intro (fun c5 => And.intro (((((((t).2).2).2).2 c4).2).1 c5).1 (fun z1_0 z1_1 => And.intro (((((((((t).2).2).2).2 c4).2).1 c5).2) z1_0 z1_1).1 (fun z2_0 z2_1 => And.intro (((((((((((t).2).2).2).2 c4).2).1 c5).2) z1_0 z1_1).2) z2_0 z2_1).1 (fun z3_0 z3_1 => ((((((((((((t).2).2).2).2 c4).2).1 c5).2) z1_0 z1_1).2) z2_0 z2_1).2) z3_0 z3_1)))) (fun c5 => ((((((t).2).2).2).2 c4).2).2 c5)))))))
theorem wf_sv {h : am_H} {o : Int} (hw : am_wf h) (hv : am_ok (mR 1 10 0 o)) : ∀ p, 0 ≤ p → p < 20 → R32 (h (o + 1 + 1) p) := by
  have H : ∀ q : Nat, q < 602 → am_LY[q]? = some (1, 10, 0) → am_LY[q + 1]? = some (1, 3, 0) := by decide +kernel
  have hv2 : am_vd 1 10 0 o := hv
  rcases hv2 with e | e | ⟨e0, e⟩
  · exact absurd e (by decide)
  · exact absurd e.1 (by decide)
  · have e2 := H o.toNat (am_LY_lt e) e
    exact wf_rows hw (show am_vd 1 3 0 (o + 1) from Or.inr (Or.inr ⟨by omega, by rw [show (o + 1).toNat = o.toNat + 1 by omega]; exact e2⟩))
theorem C91_ok : am_CS 5 91 C91 := W91 (fun o h K hb => am_AT_ok (fun hw hl => by
  obtain ⟨⟨H, h2, h6⟩, hK⟩ := hb
  obtain ⟨⟨hN, hC⟩, h0, hM, hL, hS⟩ := id H
  have hn2 := hN.2.1
  have e2 : ∀ g : am_H, nr g (o + 1 + 1) 0 = nr g (o + 2) 0 := fun g => nr_fr (by omega) (fun i => rfl)
  have hN' : NT (h (o + 1) 0) (nr h (o + 1 + 1) 0) := by rw [e2]; exact hN
  have hR := NT_S20 hN' (wf_sv hw (hl 0 _ rfl))
  have elc : Int.tdiv (sm (fun p => iPop (h (o + 1 + 1) p)) (h (o + 1) 0).toNat) 2 = nl (nr h (o + 2) 0) := by rw [line_cnt hN' hR, e2]
  have hnl := nl_r (nr h (o + 2) 0)
  have hsq : 0 ≤ h (o + 1) 0 * h (o + 1) 0 ∧ h (o + 1) 0 * h (o + 1) 0 ≤ 400 := by
    have a1 : h (o + 1) 0 * h (o + 1) 0 ≤ 20 * h (o + 1) 0 := Int.mul_le_mul_of_nonneg_right hn2 (by omega)
    exact ⟨Int.mul_nonneg (by omega) (by omega), by omega⟩
  refine T91_0 ⟨⟨by omega, hR⟩, ⟨by rw [elc]; omega, ⟨by omega, ⟨fun c1 => ?_, fun c1 => ⟨by omega, ⟨fun c2 => ⟨⟨⟨hN, hC⟩, h0, hM⟩, fun h' q3 => ⟨by rw [show nr h' (o + 2) 0 = nr h (o + 2) 0 from nr_fr2 (fun i => q3.1 _ _ (by omega) (by omega)), show h' (o + 1) 0 = h (o + 1) 0 from q3.1 _ _ (by omega) (by omega)]; exact ⟨hN, h0, fun e5 => LN_fr hn2 (hL (by rw [← e5]; exact (q3.1 _ _ (by omega) (by omega)).symm)) (fun x i hx1 hx2 => q3.1 _ _ (by omega) (by omega))⟩, fun h'_1 q4 => ⟨⟨by omega, by rw [e2, show nr h'_1 (o + 2) 0 = nr h (o + 2) 0 from (nr_fr2 (fun i => q4.1 _ _ (by omega) (by omega))).trans (nr_fr2 (fun i => q3.1 _ _ (by omega) (by omega))), show h'_1 (o + 1) 0 = h (o + 1) 0 from (q4.1 _ _ (by omega) (by omega)).trans (q3.1 _ _ (by omega) (by omega))]; exact ⟨hN, hC, MT_fr hn2 q3.2.2 (fun x i hx1 hx2 => q4.1 _ _ (by omega) (by omega)), by have := q4.2.2; rw [show nr h' (o + 2) 0 = nr h (o + 2) 0 from nr_fr2 (fun i => q3.1 _ _ (by omega) (by omega)), show h' (o + 1) 0 = h (o + 1) 0 from q3.1 _ _ (by omega) (by omega)] at this; exact this⟩⟩, fun h'_2 q5 => ?_⟩⟩⟩, fun c2 => ?_⟩⟩⟩⟩⟩⟩
  · rw [elc] at c1
    exact am_rB (hK h (SQ_rf H)) (np_one hN hC h2 (Or.inl c1))
  · rw [e2]
    have r1 : nr h'_1 (o + 2) 0 = nr h (o + 2) 0 := (nr_fr2 (fun i => q4.1 _ _ (by omega) (by omega))).trans (nr_fr2 (fun i => q3.1 _ _ (by omega) (by omega)))
    rw [r1]
    have n1 : h' (o + 1) 0 = h (o + 1) 0 := q3.1 _ _ (by omega) (by omega)
    have r0 : nr h' (o + 2) 0 = nr h (o + 2) 0 := nr_fr2 (fun i => q3.1 _ _ (by omega) (by omega))
    rw [r0, n1] at q4
    have f4 : h'_2 o 4 = 1 := by rw [q5 _ _ (by omega), q4.1 _ _ (by omega) (by omega)]; exact q3.2.1
    have f5 : h'_2 o 5 = 1 := by rw [q5 _ _ (by omega)]; exact q4.2.1
    have f6 : h'_2 o 6 = h o 6 := by rw [q5 _ _ (by omega), q4.1 _ _ (by omega) (by omega), q3.1 _ _ (by omega) (by omega)]
    refine hK h'_2 (SV_q H (fun x i a b => ?_) (fun _ => f4) (fun _ => f5) (fun z => by omega) (fun _ => ?_) (fun _ => ?_) (fun z => by omega))
    · rw [q5 _ _ (by omega), q4.1 _ _ (by omega) (by omega), q3.1 _ _ (by omega) (by omega)]
    · exact MT_fr hn2 q3.2.2 (fun x i a b => by rw [q5 _ _ (by omega), q4.1 _ _ (by omega) (by omega)])
    · exact LN_fr hn2 q4.2.2 (fun x i a b => q5 _ _ (by omega))
  · exact am_rB (hK h (SQ_rf H)) (np_one hN hC h2 (Or.inr c2))))
