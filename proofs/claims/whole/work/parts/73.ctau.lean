/-! ===== two lines of the first test ===== -/
section TAU
variable {n : Int} {r : Int → Int}
theorem lhi_eq (hN : NT n r) {k l : Int} (hk : 0 ≤ k ∧ k < nl r) (hl : 0 ≤ l ∧ l < nl r) (h1 : lo r k = lo r l) (h2 : hi r k = hi r l) : k = l := by
  rw [← lno_lo hN hk.1 hk.2, ← lno_lo hN hl.1 hl.2, h1, h2]
theorem tau_c (hN : NT n r) {k l : Int} (hk : 0 ≤ k ∧ k < nl r) (hl : 0 ≤ l ∧ l < nl r) (hne : k ≠ l) {p : Int} (h1 : p = lo r k ∨ p = hi r k) (h2 : p = lo r l ∨ p = hi r l) : lo r k + hi r k - p ≠ lo r l + hi r l - p ∧ lo r k + hi r k - p ≠ p ∧ lo r l + hi r l - p ≠ p ∧ (tau r k l ↔ ∀ x, (ad r (lo r k + hi r k - p) x ∧ ad r (lo r l + hi r l - p) x) ↔ x = p) := by
  obtain ⟨a1, a2, -⟩ := lo_ok hk.1 hk.2
  obtain ⟨b1, b2, -⟩ := lo_ok hl.1 hl.2
  have ne : lo r k + hi r k - p ≠ lo r l + hi r l - p := fun e => hne (lhi_eq hN hk hl (by omega) (by omega))
  refine ⟨ne, by omega, by omega, ?_⟩
  rw [tau_iff hN hk hl]
  have A : ad r p (lo r k + hi r k - p) ∧ lno r p (lo r k + hi r k - p) = k := by
    rcases h1 with e | e
    · rw [e, show lo r k + hi r k - lo r k = hi r k by omega]
      exact ⟨a2, lno_lo hN hk.1 hk.2⟩
    · rw [e, show lo r k + hi r k - hi r k = lo r k by omega]
      exact ⟨NT_sym hN _ _ a2, by rw [lno_sym hN]; exact lno_lo hN hk.1 hk.2⟩
  have B : ad r p (lo r l + hi r l - p) ∧ lno r p (lo r l + hi r l - p) = l := by
    rcases h2 with e | e
    · rw [e, show lo r l + hi r l - lo r l = hi r l by omega]
      exact ⟨b2, lno_lo hN hl.1 hl.2⟩
    · rw [e, show lo r l + hi r l - hi r l = lo r l by omega]
      exact ⟨NT_sym hN _ _ b2, by rw [lno_sym hN]; exact lno_lo hN hl.1 hl.2⟩
  constructor
  · rintro ⟨p', a', b', w1, w2, w3, w4, w5, w6⟩
    have e1 := (lno_ok hN w2).2
    have e2 := (lno_ok hN w3).2
    rw [w4] at e1
    rw [w5] at e2
    have ep : p' = p := by omega
    subst ep
    have ea : lo r k + hi r k - p' = a' := by omega
    have eb : lo r l + hi r l - p' = b' := by omega
    rw [ea, eb]
    exact w6
  · intro w
    exact ⟨p, _, _, ne, A.1, B.1, A.2, B.2, w⟩
theorem tau_m (hN : NT n r) {k l : Int} (hk : 0 ≤ k ∧ k < nl r) (hl : 0 ≤ l ∧ l < nl r) (hne : k ≠ l) {O T : Int} (hO : O = iOr (iShl 1 (lo r k)) (iShl 1 (hi r k))) (hT : T = iOr (iShl 1 (lo r l)) (iShl 1 (hi r l))) : (iAnd O T = 0 → ¬ tau r k l) ∧ (¬ iAnd O T = 0 → (0 < iAnd O (iXor (iAnd O T) (-1)) ∧ iAnd O (iXor (iAnd O T) (-1)) < 2147483648) ∧ (0 ≤ iLow (iAnd O (iXor (iAnd O T) (-1))) ∧ iLow (iAnd O (iXor (iAnd O T) (-1))) < 20) ∧ (0 < iAnd T (iXor (iAnd O T) (-1)) ∧ iAnd T (iXor (iAnd O T) (-1)) < 2147483648) ∧ (0 ≤ iLow (iAnd T (iXor (iAnd O T) (-1))) ∧ iLow (iAnd T (iXor (iAnd O T) (-1))) < 20) ∧ (tau r k l ↔ iAnd (r (iLow (iAnd O (iXor (iAnd O T) (-1))))) (r (iLow (iAnd T (iXor (iAnd O T) (-1))))) = iAnd O T)) := by
  obtain ⟨a1, a2, -⟩ := lo_ok hk.1 hk.2
  obtain ⟨b1, b2, -⟩ := lo_ok hl.1 hl.2
  have sO : S20 O := by rw [hO]; exact S20_or (S20_1 (by omega) (by omega)) (S20_1 (by omega) (by omega))
  have sT : S20 T := by rw [hT]; exact S20_or (S20_1 (by omega) (by omega)) (S20_1 (by omega) (by omega))
  have bO : ∀ x, bit O x ↔ x = lo r k ∨ x = hi r k := fun x => by rw [hO, bt_or, bt_1 (by omega) (by omega), bt_1 (by omega) (by omega)]
  have bT : ∀ x, bit T x ↔ x = lo r l ∨ x = hi r l := fun x => by rw [hT, bt_or, bt_1 (by omega) (by omega), bt_1 (by omega) (by omega)]
  have sS : S20 (iAnd O T) := S20_and sO
  constructor
  · intro z w
    obtain ⟨p, a, b, w1, w2, w3, w4, w5, w6⟩ := (tau_iff hN hk hl).mp w
    have e1 := (lno_ok hN w2).2
    have e2 := (lno_ok hN w3).2
    rw [w4] at e1
    rw [w5] at e2
    exact (S20_z sS).mp z p (bt_and.mpr ⟨(bO p).mpr (by omega), (bT p).mpr (by omega)⟩)
  · intro z
    have lw := S20_low sS z
    obtain ⟨p, hp⟩ : ∃ p, bit (iAnd O T) p := ⟨_, lw.1⟩
    have h1 := (bO p).mp (bt_and.mp hp).1
    have h2 := (bT p).mp (bt_and.mp hp).2
    obtain ⟨t1, t2, t3, t4⟩ := tau_c hN hk hl hne h1 h2
    have bS : ∀ x, bit (iAnd O T) x ↔ x = p := fun x => by
      rw [bt_and, bO, bT]
      omega
    have one : ∀ {X a : Int}, S20 X → (0 ≤ a ∧ a < 20) → (∀ x, bit X x ↔ x = p ∨ x = a) → a ≠ p → (0 < iAnd X (iXor (iAnd O T) (-1)) ∧ iAnd X (iXor (iAnd O T) (-1)) < 2147483648) ∧ iLow (iAnd X (iXor (iAnd O T) (-1))) = a := fun {X a} sX ha bX hap => by
      have s := S20_and (y := iXor (iAnd O T) (-1)) sX
      have b : ∀ x, bit (iAnd X (iXor (iAnd O T) (-1))) x ↔ x = a := fun x => by
        rw [bt_and, bX, bt_not, bS]
        omega
      have nz : iAnd X (iXor (iAnd O T) (-1)) ≠ 0 := fun e => (S20_z s).mp e a ((b a).mpr rfl)
      have w := S20_low s nz
      have := s.1
      have := s.2
      exact ⟨by omega, (b _).mp w.1⟩
    have oA := one (a := lo r k + hi r k - p) sO (by omega) (fun x => by rw [bO]; omega) t2
    have oB := one (a := lo r l + hi r l - p) sT (by omega) (fun x => by rw [bT]; omega) t3
    refine ⟨oA.1, by rw [oA.2]; omega, oB.1, by rw [oB.2]; omega, ?_⟩
    rw [oA.2, oB.2, t4]
    constructor
    · intro w
      refine bt_ext (rg_and _ _) (rg_and _ _) (fun x _ _ => ?_)
      rw [bS, bt_and]
      exact w x
    · intro w x
      rw [← bS x, ← w, bt_and]
      exact Iff.rfl
end TAU
/-! 105 FactorNets.tau -/
def C105 : am_K := fun as h K => am_a3 as (fun v0 v1 v2 => am_oc 11 0 v0 (am_n v1 (fun k => am_n v2 (fun l => (SV h 5) ∧ (∀ (h' : am_H), SQ h h' 5 → K (some (mB (ifc ((0 ≤ k ∧ k < nl (nr h 7 0)) ∧ (0 ≤ l ∧ l < nl (nr h 7 0))) (ifc (tau (nr h 7 0) k l) 1 0) (-2)))) (h'))))))
theorem W105 {d : Nat} (H : ∀ (k : Int) (l : Int) (h : am_H) (K : Option am_V → am_H → Prop), (SV h 5) ∧ (∀ (h' : am_H), SQ h h' 5 → K (some (mB (ifc ((0 ≤ k ∧ k < nl (nr h 7 0)) ∧ (0 ≤ l ∧ l < nl (nr h 7 0))) (ifc (tau (nr h 7 0) k l) 1 0) (-2)))) (h')) → am_AT d 105 0 [some (mR 1 11 0 0), some (mB k), some (mB l), none, none, none, none, none] h K) : am_CS d 105 C105 := by
  refine am_CS_of (T := tb105) (mL := 8) (rk := 1) rfl (fun as h K hC => ?_)
  obtain ⟨v0, v1, v2, rfl, hC0⟩ := am_a3_e hC
  obtain ⟨e0, hC1⟩ := am_oc_e hC0
  subst e0
  obtain ⟨k, rfl, hC2⟩ := am_n_e hC1
  obtain ⟨l, rfl, hC3⟩ := am_n_e hC2
  refine ⟨Nat.le_of_ble_eq_true rfl, ?_⟩
  exact H k l h K hC3
theorem T105_0 {R : Option am_V → am_H → Prop} {h : am_H} {k : Int} {l : Int} (t : (SV h 5) ∧ (∀ (h' : am_H), (SQ h h' 5 ∧ (0 ≤ k → h' 5 5 = 1)) → (((¬ (0 ≤ k ∧ k < nl (nr h 7 0))) → (R (some (mB (-2))) h')) ∧ ((0 ≤ k ∧ k < nl (nr h 7 0)) → ((SV h' 5) ∧ (∀ (h'_1 : am_H), (SQ h' h'_1 5 ∧ (0 ≤ l → h'_1 5 5 = 1)) → (((0 ≤ l ∧ l < nl (nr h' 7 0)) → ((SV h'_1 (5 : Int)) ∧ (∀ (h'_2 : am_H), (SQ h'_1 h'_2 (5 : Int) ∧ h'_2 (5 : Int) 5 = 1) → ((0 ≤ k ∧ k < 190) ∧ ((0 ≤ k ∧ k < 190) ∧ ((0 ≤ l ∧ l < 190) ∧ ((0 ≤ l ∧ l < 190) ∧ (((k = l) → (R (some (mB 0)) h'_2)) ∧ ((¬ k = l) → (((¬ iAnd (iOr (iShl 1 (h'_2 52 k)) (iShl 1 (h'_2 53 k))) (iOr (iShl 1 (h'_2 52 l)) (iShl 1 (h'_2 53 l))) = 0) → ((0 < (iAnd (iOr (iShl 1 (h'_2 52 k)) (iShl 1 (h'_2 53 k))) (iXor (iAnd (iOr (iShl 1 (h'_2 52 k)) (iShl 1 (h'_2 53 k))) (iOr (iShl 1 (h'_2 52 l)) (iShl 1 (h'_2 53 l)))) (-1))) ∧ (iAnd (iOr (iShl 1 (h'_2 52 k)) (iShl 1 (h'_2 53 k))) (iXor (iAnd (iOr (iShl 1 (h'_2 52 k)) (iShl 1 (h'_2 53 k))) (iOr (iShl 1 (h'_2 52 l)) (iShl 1 (h'_2 53 l)))) (-1))) < 2147483648) ∧ ((0 ≤ iLow (iAnd (iOr (iShl 1 (h'_2 52 k)) (iShl 1 (h'_2 53 k))) (iXor (iAnd (iOr (iShl 1 (h'_2 52 k)) (iShl 1 (h'_2 53 k))) (iOr (iShl 1 (h'_2 52 l)) (iShl 1 (h'_2 53 l)))) (-1))) ∧ iLow (iAnd (iOr (iShl 1 (h'_2 52 k)) (iShl 1 (h'_2 53 k))) (iXor (iAnd (iOr (iShl 1 (h'_2 52 k)) (iShl 1 (h'_2 53 k))) (iOr (iShl 1 (h'_2 52 l)) (iShl 1 (h'_2 53 l)))) (-1))) < 20) ∧ ((0 < (iAnd (iOr (iShl 1 (h'_2 52 l)) (iShl 1 (h'_2 53 l))) (iXor (iAnd (iOr (iShl 1 (h'_2 52 k)) (iShl 1 (h'_2 53 k))) (iOr (iShl 1 (h'_2 52 l)) (iShl 1 (h'_2 53 l)))) (-1))) ∧ (iAnd (iOr (iShl 1 (h'_2 52 l)) (iShl 1 (h'_2 53 l))) (iXor (iAnd (iOr (iShl 1 (h'_2 52 k)) (iShl 1 (h'_2 53 k))) (iOr (iShl 1 (h'_2 52 l)) (iShl 1 (h'_2 53 l)))) (-1))) < 2147483648) ∧ ((0 ≤ iLow (iAnd (iOr (iShl 1 (h'_2 52 l)) (iShl 1 (h'_2 53 l))) (iXor (iAnd (iOr (iShl 1 (h'_2 52 k)) (iShl 1 (h'_2 53 k))) (iOr (iShl 1 (h'_2 52 l)) (iShl 1 (h'_2 53 l)))) (-1))) ∧ iLow (iAnd (iOr (iShl 1 (h'_2 52 l)) (iShl 1 (h'_2 53 l))) (iXor (iAnd (iOr (iShl 1 (h'_2 52 k)) (iShl 1 (h'_2 53 k))) (iOr (iShl 1 (h'_2 52 l)) (iShl 1 (h'_2 53 l)))) (-1))) < 20) ∧ (((¬ iAnd (h'_2 7 (iLow (iAnd (iOr (iShl 1 (h'_2 52 k)) (iShl 1 (h'_2 53 k))) (iXor (iAnd (iOr (iShl 1 (h'_2 52 k)) (iShl 1 (h'_2 53 k))) (iOr (iShl 1 (h'_2 52 l)) (iShl 1 (h'_2 53 l)))) (-1))))) (h'_2 7 (iLow (iAnd (iOr (iShl 1 (h'_2 52 l)) (iShl 1 (h'_2 53 l))) (iXor (iAnd (iOr (iShl 1 (h'_2 52 k)) (iShl 1 (h'_2 53 k))) (iOr (iShl 1 (h'_2 52 l)) (iShl 1 (h'_2 53 l)))) (-1))))) = iAnd (iOr (iShl 1 (h'_2 52 k)) (iShl 1 (h'_2 53 k))) (iOr (iShl 1 (h'_2 52 l)) (iShl 1 (h'_2 53 l)))) → (R (some (mB 0)) h'_2)) ∧ ((iAnd (h'_2 7 (iLow (iAnd (iOr (iShl 1 (h'_2 52 k)) (iShl 1 (h'_2 53 k))) (iXor (iAnd (iOr (iShl 1 (h'_2 52 k)) (iShl 1 (h'_2 53 k))) (iOr (iShl 1 (h'_2 52 l)) (iShl 1 (h'_2 53 l)))) (-1))))) (h'_2 7 (iLow (iAnd (iOr (iShl 1 (h'_2 52 l)) (iShl 1 (h'_2 53 l))) (iXor (iAnd (iOr (iShl 1 (h'_2 52 k)) (iShl 1 (h'_2 53 k))) (iOr (iShl 1 (h'_2 52 l)) (iShl 1 (h'_2 53 l)))) (-1))))) = iAnd (iOr (iShl 1 (h'_2 52 k)) (iShl 1 (h'_2 53 k))) (iOr (iShl 1 (h'_2 52 l)) (iShl 1 (h'_2 53 l)))) → (R (some (mB 1)) h'_2)))))))) ∧ ((iAnd (iOr (iShl 1 (h'_2 52 k)) (iShl 1 (h'_2 53 k))) (iOr (iShl 1 (h'_2 52 l)) (iShl 1 (h'_2 53 l))) = 0) → (R (some (mB 0)) h'_2)))))))))))) ∧ ((¬ (0 ≤ l ∧ l < nl (nr h' 7 0))) → (R (some (mB (-2))) h'_1))))))))) : am_AT 5 105 0 [some (mR 1 11 0 0), some (mB k), some (mB l), none, none, none, none, none] h R :=
  am_T (d := 4) (m := 105) (T := tb105) (mL := 8) (rk := 1) (cuts := []) (l := [(89, C89b), (158, C158), (177, C177)]) rfl ⟨am_CS_d (by decide) C89b_ok, am_CS_d (by decide) C158_ok, am_CS_d (by decide) C177_ok, trivial⟩ 83 (And.intro (rfl) (And.intro (t).1 (fun z1_0 z1_1 => And.intro (fun c1 => (((t).2) z1_0 z1_1).1 c1) (fun c1 => And.intro (rfl) (And.intro ((((t).2) z1_0 z1_1).2 c1).1 (fun z2_0 z2_1 => And.intro (fun c2 => And.intro (((((((t).2) z1_0 z1_1).2 c1).2) z2_0 z2_1).1 c2).1 (fun z3_0 z3_1 => And.intro (((((((((t).2) z1_0 z1_1).2 c1).2) z2_0 z2_1).1 c2).2) z3_0 z3_1).1 (And.intro ((((((((((t).2) z1_0 z1_1).2 c1).2) z2_0 z2_1).1 c2).2) z3_0 z3_1).2).1 (And.intro (((((((((((t).2) z1_0 z1_1).2 c1).2) z2_0 z2_1).1 c2).2) z3_0 z3_1).2).2).1 (And.intro ((((((((((((t).2) z1_0 z1_1).2 c1).2) z2_0 z2_1).1 c2).2) z3_0 z3_1).2).2).2).1 (And.intro (fun c3 => (((((((((((((t).2) z1_0 z1_1).2 c1).2) z2_0 z2_1).1 c2).2) z3_0 z3_1).2).2).2).2).1 c3) (fun c3 => And.intro (fun c4 => And.intro (((((((((((((((t).2) z1_0 z1_1).2 c1).2) z2_0 z2_1).1 c2).2) z3_0 z3_1).2).2).2).2).2 c3).1 c4).1 (And.intro ((((((((((((((((t).2) z1_0 z1_1).2 c1).2) z2_0 z2_1).1 c2).2) z3_0 z3_1).2).2).2).2).2 c3).1 c4).2).1 (And.intro (((((((((((((((((t).2) z1_0 z1_1).2 c1).2) z2_0 z2_1).1 c2).2) z3_0 z3_1).2).2).2).2).2 c3).1 c4).2).2).1 (And.intro ((((((((((((((((((t).2) z1_0 z1_1).2 c1).2) z2_0 z2_1).1 c2).2) z3_0 z3_1).2).2).2).2).2 c3).1 c4).2).2).2).1 (And.intro (fun c5 => (((((((((((((((((((t).2) z1_0 z1_1).2 c1).2) z2_0 z2_1).1 c2).2) z3_0 z3_1).2).2).2).2).2 c3).1 c4).2).2).2).2).1 c5) (fun c5 => (((((((((((((((((((t).2) z1_0 z1_1).2 c1).2) z2_0 z2_1).1 c2).2) z3_0 z3_1).2).2).2).2).2 c3).1 c4).2).2).2).2).2 c5)))))) (fun c4 => ((((((((((((((t).2) z1_0 z1_1).2 c1).2) z2_0 z2_1).1 c2).2) z3_0 z3_1).2).2).2).2).2 c3).2 c4)))))))) (fun c2 => ((((((t).2) z1_0 z1_1).2 c1).2) z2_0 z2_1).2 c2)))))))
theorem C105_ok : am_CS 5 105 C105 := W105 (fun k l h K hb => by
  have hn := nl_r (nr h 7 0)
  refine T105_0 ⟨hb.1, fun h' q1 => ⟨fun c2 => ?_, fun c2 => ⟨q1.1.1, fun h'_1 q3 => ⟨fun c4 => ⟨q3.1.1, fun h'_2 q5 => ⟨by omega, ⟨by omega, ⟨by rw [(SQ5_n q1.1).1] at c4; omega, ⟨by rw [(SQ5_n q1.1).1] at c4; omega, ⟨fun c6 => ?_, fun c6 => ⟨fun c7 => ⟨by
    have e := SQ5_n (SQ_tr q1.1 (SQ_tr q3.1 q5.1))
    have L := (SV5_L q5.1.1 q5.2).2.1
    rw [e.1] at L
    rw [(SQ5_n q1.1).1] at c4
    rw [(L k c2.1 c2.2).1, (L k c2.1 c2.2).2, (L l c4.1 c4.2).1, (L l c4.1 c4.2).2] at c7 ⊢
    exact ((tau_m (SV5_N hb.1).1 c2 c4 c6 rfl rfl).2 c7).1, ⟨by
    have e := SQ5_n (SQ_tr q1.1 (SQ_tr q3.1 q5.1))
    have L := (SV5_L q5.1.1 q5.2).2.1
    rw [e.1] at L
    rw [(SQ5_n q1.1).1] at c4
    rw [(L k c2.1 c2.2).1, (L k c2.1 c2.2).2, (L l c4.1 c4.2).1, (L l c4.1 c4.2).2] at c7 ⊢
    exact ((tau_m (SV5_N hb.1).1 c2 c4 c6 rfl rfl).2 c7).2.1, ⟨by
    have e := SQ5_n (SQ_tr q1.1 (SQ_tr q3.1 q5.1))
    have L := (SV5_L q5.1.1 q5.2).2.1
    rw [e.1] at L
    rw [(SQ5_n q1.1).1] at c4
    rw [(L k c2.1 c2.2).1, (L k c2.1 c2.2).2, (L l c4.1 c4.2).1, (L l c4.1 c4.2).2] at c7 ⊢
    exact ((tau_m (SV5_N hb.1).1 c2 c4 c6 rfl rfl).2 c7).2.2.1, ⟨by
    have e := SQ5_n (SQ_tr q1.1 (SQ_tr q3.1 q5.1))
    have L := (SV5_L q5.1.1 q5.2).2.1
    rw [e.1] at L
    rw [(SQ5_n q1.1).1] at c4
    rw [(L k c2.1 c2.2).1, (L k c2.1 c2.2).2, (L l c4.1 c4.2).1, (L l c4.1 c4.2).2] at c7 ⊢
    exact ((tau_m (SV5_N hb.1).1 c2 c4 c6 rfl rfl).2 c7).2.2.2.1, ⟨fun c8 => ?_, fun c8 => ?_⟩⟩⟩⟩⟩, fun c7 => ?_⟩⟩⟩⟩⟩⟩⟩, fun c4 => ?_⟩⟩⟩⟩
  · exact am_rB (hb.2 h' q1.1) (ifc_f (fun z => c2 z.1))
  · have c4' := c4
    rw [(SQ5_n q1.1).1] at c4'
    subst c6
    refine am_rB (hb.2 h'_2 (SQ_tr q1.1 (SQ_tr q3.1 q5.1))) ?_
    rw [ifc_t ⟨c2, c2⟩, ifc_f]
    intro w
    obtain ⟨p, a, b, w1, w2, w3, w4, w5, w6⟩ := (tau_iff (SV5_N hb.1).1 c2 c2).mp w
    have e1 := (lno_ok (SV5_N hb.1).1 w2).2
    have e2 := (lno_ok (SV5_N hb.1).1 w3).2
    rw [w4] at e1
    rw [w5] at e2
    omega
  · have e := SQ5_n (SQ_tr q1.1 (SQ_tr q3.1 q5.1))
    have L := (SV5_L q5.1.1 q5.2).2.1
    rw [e.1] at L
    rw [(SQ5_n q1.1).1] at c4
    rw [(L k c2.1 c2.2).1, (L k c2.1 c2.2).2, (L l c4.1 c4.2).1, (L l c4.1 c4.2).2] at c7 c8
    have w := (tau_m (SV5_N hb.1).1 c2 c4 c6 rfl rfl).2 c7
    rw [← nr_in0 (h := h'_2) (q := 7) w.2.1.1 w.2.1.2, ← nr_in0 (h := h'_2) (q := 7) w.2.2.2.1.1 w.2.2.2.1.2, e.1] at c8
    exact am_rB (hb.2 h'_2 (SQ_tr q1.1 (SQ_tr q3.1 q5.1))) (by rw [ifc_t ⟨c2, c4⟩, ifc_f (fun u => c8 (w.2.2.2.2.mp u))])
  · have e := SQ5_n (SQ_tr q1.1 (SQ_tr q3.1 q5.1))
    have L := (SV5_L q5.1.1 q5.2).2.1
    rw [e.1] at L
    rw [(SQ5_n q1.1).1] at c4
    rw [(L k c2.1 c2.2).1, (L k c2.1 c2.2).2, (L l c4.1 c4.2).1, (L l c4.1 c4.2).2] at c7 c8
    have w := (tau_m (SV5_N hb.1).1 c2 c4 c6 rfl rfl).2 c7
    rw [← nr_in0 (h := h'_2) (q := 7) w.2.1.1 w.2.1.2, ← nr_in0 (h := h'_2) (q := 7) w.2.2.2.1.1 w.2.2.2.1.2, e.1] at c8
    exact am_rB (hb.2 h'_2 (SQ_tr q1.1 (SQ_tr q3.1 q5.1))) (by rw [ifc_t ⟨c2, c4⟩, ifc_t (w.2.2.2.2.mpr c8)])
  · have e := SQ5_n (SQ_tr q1.1 (SQ_tr q3.1 q5.1))
    have L := (SV5_L q5.1.1 q5.2).2.1
    rw [e.1] at L
    rw [(SQ5_n q1.1).1] at c4
    rw [(L k c2.1 c2.2).1, (L k c2.1 c2.2).2, (L l c4.1 c4.2).1, (L l c4.1 c4.2).2] at c7
    exact am_rB (hb.2 h'_2 (SQ_tr q1.1 (SQ_tr q3.1 q5.1))) (by rw [ifc_t ⟨c2, c4⟩, ifc_f ((tau_m (SV5_N hb.1).1 c2 c4 c6 rfl rfl).1 c7)])
  · rw [(SQ5_n q1.1).1] at c4
    exact am_rB (hb.2 h'_1 (SQ_tr q1.1 q3.1)) (ifc_f (fun z => c4 z.2)))
