/-! ===== reaching ===== -/
noncomputable def sm (f : Int → Int) : Nat → Int
  | 0 => 0
  | n + 1 => sm f n + f (n : Int)
theorem sm_succ (f : Int → Int) (n : Nat) : sm f (n + 1) = sm f n + f (n : Int) := rfl
theorem sm_to {f : Int → Int} {i : Int} (h0 : 0 ≤ i) : sm f (i + 1).toNat = sm f i.toNat + f i := by
  rw [show (i + 1).toNat = i.toNat + 1 by omega, sm_succ, Int.toNat_of_nonneg h0]
theorem sm_rg {f : Int → Int} {m : Int} : ∀ n : Nat, (∀ k : Nat, k < n → 0 ≤ f k ∧ f k ≤ m) → 0 ≤ sm f n ∧ sm f n ≤ n * m
  | 0, _ => ⟨Int.le_refl _, by show (0 : Int) ≤ ((0 : Nat) : Int) * m; omega⟩
  | n + 1, h => by
    have h1 := sm_rg n (fun k hk => h k (by omega))
    have h2 := h n (by omega)
    rw [sm_succ, show ((n + 1 : Nat) : Int) * m = (n : Int) * m + m by rw [Int.natCast_add, Int.add_mul]; omega]
    omega
theorem iPop_r (x : Int) : 0 ≤ iPop x ∧ iPop x ≤ 32 := ct_le _ 32
noncomputable def h_mk (h : am_H) (q x k : Int) : am_H := fun a i => @ite Int (a = q ∧ (0 ≤ i ∧ i < 20) ∧ bit x i) (Classical.propDecidable _) k (h a i)
noncomputable def h_mki (h : am_H) (q x k j : Int) : am_H := fun a i => @ite Int (a = q ∧ (0 ≤ i ∧ i < j) ∧ bit x i) (Classical.propDecidable _) k (h a i)
noncomputable def if_up (p : Prop) (h : am_H) (q i x : Int) : am_H := @ite am_H p (Classical.propDecidable p) (am_up h q i x) h
theorem if_up_t {p : Prop} {h : am_H} {q i x : Int} (hp : p) : if_up p h q i x = am_up h q i x := if_pos hp
theorem if_up_f {p : Prop} {h : am_H} {q i x : Int} (hp : ¬ p) : if_up p h q i x = h := if_neg hp
theorem nr_in {h : am_H} {q o p : Int} (h0 : 0 ≤ p) (h1 : p < 20) : nr h q o p = h q (o + p) := if_pos ⟨h0, h1⟩
theorem nr_in0 {h : am_H} {q p : Int} (h0 : 0 ≤ p) (h1 : p < 20) : nr h q 0 p = h q p := by rw [nr_in h0 h1, Int.zero_add]
theorem nr_out {h : am_H} {q o p : Int} (h0 : ¬ (0 ≤ p ∧ p < 20)) : nr h q o p = 0 := if_neg h0
theorem ad_nr {h : am_H} {q p k : Int} : ad (nr h q 0) p k ↔ (0 ≤ p ∧ p < 20) ∧ bit (h q p) k := by
  unfold ad
  by_cases hp : 0 ≤ p ∧ p < 20
  · rw [nr_in0 hp.1 hp.2]
    exact ⟨fun q => ⟨hp, q⟩, fun q => q.2⟩
  · rw [nr_out hp]
    exact ⟨fun q => absurd q bt_zero, fun q => absurd q.1 hp⟩
theorem am_LY_net : ∀ q : Nat, q < 602 → am_LY[q]? = some (1, 3, 0) → am_LY[q + 1]? = some (2, 20, 0) := by decide +kernel
theorem wf_rows {h : am_H} {o : Int} (hw : am_wf h) (hv : am_ok (mR 1 3 0 o)) : ∀ p, 0 ≤ p → p < 20 → R32 (h (o + 1) p) := by
  intro p h0 h1
  have hv2 : am_vd 1 3 0 o := hv
  rcases hv2 with e | e | ⟨e0, e⟩
  · exact absurd e (by decide)
  · exact absurd e.1 (by decide)
  · have e2 := am_LY_net o.toNat (am_LY_lt e) e
    have := (hw (o.toNat + 1) 2 20 0 e2).1 rfl p.toNat (by omega)
    rw [show ((o.toNat + 1 : Nat) : Int) = o + 1 by omega, Int.toNat_of_nonneg h0] at this
    exact this
theorem NT_S20 {n : Int} {h : am_H} {q : Int} (H : NT n (nr h q 0)) (hr : ∀ p, 0 ≤ p → p < 20 → R32 (h q p)) (p : Int) (h0 : 0 ≤ p) (h1 : p < 20) : S20 (h q p) :=
  S20_of (hr p h0 h1) (fun k hk => by
    have := (NT_in H (ad_nr.mpr ⟨⟨h0, h1⟩, hk⟩)).2
    have := H.2.1
    omega)
/-! 178 FactorNets.reach -/
def C178 : am_K := fun as h K => am_a2 as (fun v0 v1 => am_r 2 20 0 v0 (fun q => am_n v1 (fun s => ((0 ≤ s ∧ s < 20) ∧ (∀ p, 0 ≤ p → p < 20 → S20 (h q p))) ∧ (K (some (mB (mkb (rc (ad (nr h q 0)) s)))) h))))
theorem W178 {d : Nat} (H : ∀ (q : Int) (s : Int) (h : am_H) (K : Option am_V → am_H → Prop), ((0 ≤ s ∧ s < 20) ∧ (∀ p, 0 ≤ p → p < 20 → S20 (h q p))) ∧ (K (some (mB (mkb (rc (ad (nr h q 0)) s)))) h) → am_AT d 178 0 [some (mR 2 20 0 q), some (mB s), none, none, none, none] h K) : am_CS d 178 C178 := by
  refine am_CS_of (T := tb178) (mL := 6) (rk := 1) rfl (fun as h K hC => ?_)
  obtain ⟨v0, v1, rfl, hC0⟩ := am_a2_e hC
  obtain ⟨q, rfl, hC1⟩ := am_r_e hC0
  obtain ⟨s, rfl, hC2⟩ := am_n_e hC1
  refine ⟨Nat.le_of_ble_eq_true rfl, ?_⟩
  exact H q s h K hC2
theorem T178_0 {R : Option am_V → am_H → Prop} {h : am_H} {q : Int} {s : Int} (t : am_AT 3 178 9 [some (mR 2 20 0 q), none, some (mI (iShl 1 s)), some (mI (iShl 1 s)), some (mI 0), none] h R) : am_AT 3 178 0 [some (mR 2 20 0 q), some (mB s), none, none, none, none] h R :=
  am_T (d := 2) (m := 178) (T := tb178) (mL := 6) (rk := 1) (cuts := [(9, [1, 0, 2, 2, 2, 0])]) (l := [(177, C177)]) rfl ⟨am_CS_d (by decide) C177_ok, trivial⟩ 12 (t)
theorem T178_9 {R : Option am_V → am_H → Prop} {h : am_H} {q : Int} {x2 : Int} {x3 : Int} {x4 : Int} (t : (R32 x4) ∧ (((20 ≤ x4) → ((R32 x2) ∧ (R (some (mB x2)) h))) ∧ ((x4 < 20) → ((R32 x3) ∧ (((x3 = 0) → ((R32 x2) ∧ (R (some (mB x2)) h))) ∧ ((¬ x3 = 0) → ((R32 x3) ∧ ((0 < x3 ∧ x3 < 2147483648) ∧ ((0 ≤ iLow x3 ∧ iLow x3 < 20) ∧ (am_AT 3 178 9 [some (mR 2 20 0 q), none, some (mI (iOr x2 (iAnd (h q (iLow x3)) (iXor x2 (-1))))), some (mI (iOr (iAnd x3 (x3 - 1)) (iAnd (h q (iLow x3)) (iXor x2 (-1))))), some (mI (x4 + 1)), none] h R)))))))))) : am_AT 3 178 9 [some (mR 2 20 0 q), none, some (mI x2), some (mI x3), some (mI x4), none] h R :=
  am_T (d := 2) (m := 178) (T := tb178) (mL := 6) (rk := 1) (cuts := [(9, [1, 0, 2, 2, 2, 0])]) (l := [(177, C177)]) rfl ⟨am_CS_d (by decide) C177_ok, trivial⟩ 32 (And.intro (t).1 (And.intro (fun c1 => And.intro (((t).2).1 c1).1 ((((t).2).1 c1).2)) (fun c1 => And.intro (((t).2).2 c1).1 (And.intro (fun c2 => And.intro (((((t).2).2 c1).2).1 c2).1 ((((((t).2).2 c1).2).1 c2).2)) (fun c2 => And.intro (((((t).2).2 c1).2).2 c2).1 (And.intro ((((((t).2).2 c1).2).2 c2).2).1 (And.intro (((((((t).2).2 c1).2).2 c2).2).2).1 ((((((((t).2).2 c1).2).2 c2).2).2).2))))))))
theorem L178 {K : Option am_V → am_H → Prop} {h : am_H} {q s : Int} (hs : 0 ≤ s ∧ s < 20) (hr : ∀ p, 0 ≤ p → p < 20 → S20 (h q p)) (hK : K (some (mB (mkb (rc (ad (nr h q 0)) s)))) h) : ∀ i x y, 0 ≤ i → S20 x → S20 y → (∀ p, bit y p → bit x p) → bit x s → (∀ p, bit x p → rc (ad (nr h q 0)) s p) → (∀ p k, bit x p → ¬ bit y p → ad (nr h q 0) p k → bit x k) → i ≤ ct (fun p => bit x p ∧ ¬ bit y p) 20 → am_AT 3 178 9 [some (mR 2 20 0 q), none, some (mI x), some (mI y), some (mI i), none] h K := by
  have fin : ∀ x y, S20 x → (∀ p, ¬ bit y p) → bit x s → (∀ p, bit x p → rc (ad (nr h q 0)) s p) → (∀ p k, bit x p → ¬ bit y p → ad (nr h q 0) p k → bit x k) → x = mkb (rc (ad (nr h q 0)) s) := fun x y hx hy h1 h2 h3 => mkb_eq (by have := hx.1; have := hx.2; omega) (fun j => ⟨fun z => ⟨S20_in hx z, h2 j z⟩, fun z => rc_in (P := fun p => bit x p) (fun a b ha hb => h3 a b ha (hy a) hb) h1 z.2⟩)
  refine lp 20 (fun i ih x y h0 hx hy hyx hxs hrc hcl hct => ?_)
  have hx1 := hx.1
  have hx2 := hx.2
  have hy1 := hy.1
  have hy2 := hy.2
  have hcl2 := ct_le (fun p => bit x p ∧ ¬ bit y p) 20
  refine T178_9 ⟨by omega, ⟨fun c1 => ⟨by omega, ?_⟩, fun c1 => ⟨by omega, ⟨fun c2 => ⟨by omega, ?_⟩, fun c2 => ⟨by omega, ⟨by omega, ⟨(S20_low hy c2).2.2, ?_⟩⟩⟩⟩⟩⟩⟩
  · have e := fin x y hx (fun p hp => (ct_full (P := fun p => bit x p ∧ ¬ bit y p) 20 (by omega) p (S20_in hy hp).1 (S20_in hy hp).2).2 hp) hxs hrc hcl
    exact am_rB hK e.symm
  · have e := fin x y hx (fun p hp => by rw [c2] at hp; exact bt_zero hp) hxs hrc hcl
    exact am_rB hK e.symm
  · obtain ⟨l1, l2, l3, l4⟩ := S20_low hy c2
    have hrl := hr _ l3 l4
    have hz : S20 (iAnd (h q (iLow y)) (iXor x (-1))) := S20_and hrl
    have bz : ∀ k, bit (iAnd (h q (iLow y)) (iXor x (-1))) k ↔ bit (h q (iLow y)) k ∧ ¬ bit x k := fun k => by
      rw [bt_and, bt_not]
      exact ⟨fun q => ⟨q.1, q.2.2.2⟩, fun q => ⟨q.1, q.1.1, bt_lt q.1, q.2⟩⟩
    have by' : ∀ k, bit (iAnd y (y - 1)) k ↔ bit y k ∧ k ≠ iLow y := fun k => bt_clr (S20_pos hy c2).1 (S20_pos hy c2).2
    refine ih c1 _ _ (by omega) (S20_or hx hz) (S20_or (S20_and hy) hz) ?_ (bt_or.mpr (Or.inl hxs)) ?_ ?_ ?_
    · intro p hp
      rcases bt_or.mp hp with a | a
      · exact bt_or.mpr (Or.inl (hyx p ((by' p).mp a).1))
      · exact bt_or.mpr (Or.inr a)
    · intro p hp
      rcases bt_or.mp hp with a | a
      · exact hrc p a
      · exact rc_step (hrc _ (hyx _ l1)) (ad_nr.mpr ⟨⟨l3, l4⟩, ((bz p).mp a).1⟩)
    · intro p k hp hn ha
      have hpx : bit x p := by
        rcases bt_or.mp hp with a | a
        · exact a
        · exact absurd (bt_or.mpr (Or.inr a)) hn
      by_cases e : p = iLow y
      · subst e
        by_cases hk : bit x k
        · exact bt_or.mpr (Or.inl hk)
        · exact bt_or.mpr (Or.inr ((bz k).mpr ⟨(ad_nr.mp ha).2, hk⟩))
      · exact bt_or.mpr (Or.inl (hcl p k hpx (fun z => hn (bt_or.mpr (Or.inl ((by' p).mpr ⟨z, e⟩)))) ha))
    · have e := ct_add (P := fun p => bit x p ∧ ¬ bit y p) (Q := fun p => bit (iOr x (iAnd (h q (iLow y)) (iXor x (-1)))) p ∧ ¬ bit (iOr (iAnd y (y - 1)) (iAnd (h q (iLow y)) (iXor x (-1)))) p) (a := iLow y) 20 l3 l4 (fun z => z.2 l1) (fun k => by
        rw [bt_or, bt_or, bz, by']
        constructor
        · rintro ⟨a, b⟩
          by_cases e : k = iLow y
          · exact Or.inr e
          · refine Or.inl ⟨?_, fun z => b (Or.inl ⟨z, e⟩)⟩
            rcases a with a | a
            · exact a
            · exact absurd (Or.inr a) b
        · rintro (⟨a, b⟩ | rfl)
          · exact ⟨Or.inl a, fun z => z.elim (fun z => b z.1) (fun z => z.2 a)⟩
          · exact ⟨Or.inl (hyx _ l1), fun z => z.elim (fun z => z.2 rfl) (fun z => z.2 (hyx _ l1))⟩)
      omega
theorem C178_ok : am_CS 3 178 C178 := W178 (fun q s h K hb => T178_0 (by
  obtain ⟨⟨hs, hr⟩, hK⟩ := hb
  refine L178 hs hr hK 0 _ _ (by omega) (S20_1 hs.1 hs.2) (S20_1 hs.1 hs.2) (fun p => id) ((bt_1 hs.1 (by omega)).mpr rfl) (fun p hp => ?_) (fun p k hp hn => absurd hp hn) (ct_le _ 20).1
  rw [(bt_1 hs.1 (by omega)).mp hp]
  exact rc_refl))
/-! 179 FactorNets.mark -/
def C179 : am_K := fun as h K => am_a3 as (fun v0 v1 v2 => am_r 2 20 0 v0 (fun q => am_n v1 (fun x => am_n v2 (fun k => K (none) (h_mk h q x k)))))
theorem W179 {d : Nat} (H : ∀ (q : Int) (x : Int) (k : Int) (h : am_H) (K : Option am_V → am_H → Prop), K (none) (h_mk h q x k) → am_AT d 179 0 [some (mR 2 20 0 q), some (mB x), some (mB k), none] h K) : am_CS d 179 C179 := by
  refine am_CS_of (T := tb179) (mL := 4) (rk := 0) rfl (fun as h K hC => ?_)
  obtain ⟨v0, v1, v2, rfl, hC0⟩ := am_a3_e hC
  obtain ⟨q, rfl, hC1⟩ := am_r_e hC0
  obtain ⟨x, rfl, hC2⟩ := am_n_e hC1
  obtain ⟨k, rfl, hC3⟩ := am_n_e hC2
  refine ⟨Nat.le_of_ble_eq_true rfl, ?_⟩
  exact H q x k h K hC3
theorem T179_0 {R : Option am_V → am_H → Prop} {h : am_H} {q : Int} {x : Int} {k : Int} (t : am_AT 1 179 2 [some (mR 2 20 0 q), some (mB x), some (mB k), some (mI 0)] h R) : am_AT 1 179 0 [some (mR 2 20 0 q), some (mB x), some (mB k), none] h R :=
  am_T (d := 0) (m := 179) (T := tb179) (mL := 4) (rk := 0) (cuts := [(2, [1, 1, 1, 2])]) (l := []) rfl trivial 6 (t)
theorem T179_2 {R : Option am_V → am_H → Prop} {h : am_H} {q : Int} {x : Int} {k : Int} {x3 : Int} (t : (R32 x3) ∧ (((20 ≤ x3) → (R none h)) ∧ ((x3 < 20) → (((iAnd (iShr x x3) 1 = 0) → (am_AT 1 179 2 [some (mR 2 20 0 q), some (mB x), some (mB k), some (mI (x3 + 1))] h R)) ∧ ((¬ iAnd (iShr x x3) 1 = 0) → ((0 ≤ x3 ∧ x3 < 20) ∧ (am_AT 1 179 2 [some (mR 2 20 0 q), some (mB x), some (mB k), some (mI (x3 + 1))] (am_up h q x3 k) R))))))) : am_AT 1 179 2 [some (mR 2 20 0 q), some (mB x), some (mB k), some (mI x3)] h R :=
  am_T (d := 0) (m := 179) (T := tb179) (mL := 4) (rk := 0) (cuts := [(2, [1, 1, 1, 2])]) (l := []) rfl trivial 19 (And.intro (t).1 (And.intro (fun c3 => ((t).2).1 c3) (fun c3 => And.intro (fun c4 => (((t).2).2 c3).1 c4) (fun c4 => And.intro ((((t).2).2 c3).2 c4).1 (((((t).2).2 c3).2 c4).2)))))
theorem h_mki_t {h : am_H} {q x k j a i : Int} (c : a = q ∧ (0 ≤ i ∧ i < j) ∧ bit x i) : h_mki h q x k j a i = k := if_pos c
theorem h_mki_f {h : am_H} {q x k j a i : Int} (c : ¬ (a = q ∧ (0 ≤ i ∧ i < j) ∧ bit x i)) : h_mki h q x k j a i = h a i := if_neg c
theorem h_mk_t {h : am_H} {q x k i : Int} (h0 : 0 ≤ i) (h1 : i < 20) (c : bit x i) : h_mk h q x k q i = k := if_pos ⟨rfl, ⟨h0, h1⟩, c⟩
theorem h_mk_f {h : am_H} {q x k a i : Int} (c : ¬ bit x i) : h_mk h q x k a i = h a i := if_neg (fun z => c z.2.2)
theorem h_mk_n {h : am_H} {q x k a i : Int} (c : a ≠ q) : h_mk h q x k a i = h a i := if_neg (fun z => c z.1)
theorem h_mki1 (h : am_H) (q x k i : Int) (h0 : 0 ≤ i) : h_mki h q x k (i + 1) = if_up (bit x i) (h_mki h q x k i) q i k := by
  funext a j
  by_cases c : a = q ∧ (0 ≤ j ∧ j < i + 1) ∧ bit x j
  · rw [h_mki_t c]
    by_cases e2 : j = i
    · subst e2
      rw [if_up_t c.2.2, c.1, am_up_eq]
    · by_cases hb : bit x i
      · rw [if_up_t hb, am_up_ne2 e2, h_mki_t ⟨c.1, ⟨c.2.1.1, by omega⟩, c.2.2⟩]
      · rw [if_up_f hb, h_mki_t ⟨c.1, ⟨c.2.1.1, by omega⟩, c.2.2⟩]
  · rw [h_mki_f c]
    by_cases hb : bit x i
    · rw [if_up_t hb]
      by_cases e : a = q ∧ j = i
      · exact absurd ⟨e.1, by omega, e.2 ▸ hb⟩ c
      · show _ = if a = q ∧ j = i then _ else _
        rw [if_neg e, h_mki_f (fun z => c ⟨z.1, ⟨z.2.1.1, by omega⟩, z.2.2⟩)]
    · rw [if_up_f hb, h_mki_f (fun z => c ⟨z.1, ⟨z.2.1.1, by omega⟩, z.2.2⟩)]
theorem L179 {K : Option am_V → am_H → Prop} {h : am_H} {q x k : Int} (hK : K none (h_mk h q x k)) : ∀ i, 0 ≤ i → i ≤ 20 → am_AT 1 179 2 [some (mR 2 20 0 q), some (mB x), some (mB k), some (mI i)] (h_mki h q x k i) K := by
  refine lp 20 (fun i ih h0 h1 => ?_)
  refine T179_2 ⟨by omega, ⟨fun c1 => ?_, fun c1 => ⟨fun c2 => ?_, fun c2 => ⟨by omega, ?_⟩⟩⟩⟩
  · have e : i = 20 := by omega
    subst e
    exact hK
  · have hb : ¬ bit x i := (bt_has0 h0 (by omega)).mp c2
    have := ih c1 (by omega) (by omega)
    rw [h_mki1 _ _ _ _ _ h0, if_up_f hb] at this
    exact this
  · have hb : bit x i := Classical.byContradiction fun z => c2 ((bt_has0 h0 (by omega)).mpr z)
    have := ih c1 (by omega) (by omega)
    rw [h_mki1 _ _ _ _ _ h0, if_up_t hb] at this
    exact this
theorem C179_ok : am_CS 1 179 C179 := W179 (fun q x k h K hb => T179_0 (by
  have := L179 hb 0 (by omega) (by omega)
  rw [show h_mki h q x k 0 = h from by
    funext a i
    exact if_neg (fun z => by omega)] at this
  exact this))
/-! 26 FactorNets$Net.lineCount -/
def C26 : am_K := fun as h K => am_a1 as (fun v0 => am_o 3 v0 (fun o => ((0 ≤ h o 0 ∧ h o 0 ≤ 20) ∧ (∀ p, 0 ≤ p → p < 20 → S20 (h (o + 1) p))) ∧ (K (some (mB (Int.tdiv (sm (fun p => iPop (h (o + 1) p)) (h o 0).toNat) 2))) h)))
theorem W26 {d : Nat} (H : ∀ (o : Int) (h : am_H) (K : Option am_V → am_H → Prop), ((0 ≤ h o 0 ∧ h o 0 ≤ 20) ∧ (∀ p, 0 ≤ p → p < 20 → S20 (h (o + 1) p))) ∧ (K (some (mB (Int.tdiv (sm (fun p => iPop (h (o + 1) p)) (h o 0).toNat) 2))) h) → am_AT d 26 0 [some (mR 1 3 0 o), none, none] h K) : am_CS d 26 C26 := by
  refine am_CS_of (T := tb26) (mL := 3) (rk := 1) rfl (fun as h K hC => ?_)
  obtain ⟨v0, rfl, hC0⟩ := am_a1_e hC
  obtain ⟨o, rfl, hC1⟩ := am_o_e hC0
  refine ⟨Nat.le_of_ble_eq_true rfl, ?_⟩
  exact H o h K hC1
theorem T26_0 {R : Option am_V → am_H → Prop} {h : am_H} {o : Int} (t : am_AT 2 26 4 [some (mR 1 3 0 o), some (mI 0), some (mI 0)] h R) : am_AT 2 26 0 [some (mR 1 3 0 o), none, none] h R :=
  am_T (d := 1) (m := 26) (T := tb26) (mL := 3) (rk := 1) (cuts := [(4, [1, 2, 2])]) (l := [(317, C317)]) rfl ⟨am_CS_d (by decide) C317_ok, trivial⟩ 8 (t)
theorem T26_4 {R : Option am_V → am_H → Prop} {h : am_H} {o : Int} {x1 : Int} {x2 : Int} (t : (R32 x2) ∧ (((h o 0 ≤ x2) → ((R32 x1) ∧ ((R32 (Int.tdiv x1 2)) ∧ (R (some (mB (Int.tdiv x1 2))) h)))) ∧ ((x2 < h o 0) → ((0 ≤ x2 ∧ x2 < 20) ∧ ((0 ≤ (h (o + 1) x2) ∧ (h (o + 1) x2) < 2147483648) ∧ (am_AT 2 26 4 [some (mR 1 3 0 o), some (mI (x1 + (iPop (h (o + 1) x2)))), some (mI (x2 + 1))] h R)))))) : am_AT 2 26 4 [some (mR 1 3 0 o), some (mI x1), some (mI x2)] h R :=
  am_T (d := 1) (m := 26) (T := tb26) (mL := 3) (rk := 1) (cuts := [(4, [1, 2, 2])]) (l := [(317, C317)]) rfl ⟨am_CS_d (by decide) C317_ok, trivial⟩ 18 (And.intro (t).1 (And.intro (fun c5 => And.intro (((t).2).1 c5).1 (And.intro (by decide) (And.intro ((((t).2).1 c5).2).1 (((((t).2).1 c5).2).2)))) (fun c5 => And.intro (((t).2).2 c5).1 (And.intro ((((t).2).2 c5).2).1 (((((t).2).2 c5).2).2)))))
theorem L26 {K : Option am_V → am_H → Prop} {h : am_H} {o : Int} (hn : 0 ≤ h o 0 ∧ h o 0 ≤ 20) (hr : ∀ p, 0 ≤ p → p < 20 → S20 (h (o + 1) p)) (hK : K (some (mB (Int.tdiv (sm (fun p => iPop (h (o + 1) p)) (h o 0).toNat) 2))) h) : ∀ i, 0 ≤ i → i ≤ h o 0 → am_AT 2 26 4 [some (mR 1 3 0 o), some (mI (sm (fun p => iPop (h (o + 1) p)) i.toNat)), some (mI i)] h K := by
  refine lp (h o 0) (fun i ih h0 h1 => ?_)
  have hsm := sm_rg (f := fun p => iPop (h (o + 1) p)) (m := 32) i.toNat (fun k hk => iPop_r _)
  have hdv : 0 ≤ Int.tdiv (sm (fun p => iPop (h (o + 1) p)) i.toNat) 2 ∧ Int.tdiv (sm (fun p => iPop (h (o + 1) p)) i.toNat) 2 ≤ sm (fun p => iPop (h (o + 1) p)) i.toNat := ⟨Int.tdiv_nonneg hsm.1 (by omega), Int.tdiv_le_self _ hsm.1⟩
  refine T26_4 ⟨by omega, ⟨fun c1 => ⟨by omega, ⟨by omega, ?_⟩⟩, fun c1 => ⟨by omega, ⟨by have := hr i h0 (by omega); exact ⟨this.1, by have := this.2; omega⟩, ?_⟩⟩⟩⟩
  · have e : i = h o 0 := by omega
    rw [e]
    exact hK
  · have := ih c1 (by omega) (by omega)
    rw [sm_to h0] at this
    exact this
theorem C26_ok : am_CS 2 26 C26 := W26 (fun o h K hb => T26_0 (L26 hb.1.1 hb.1.2 hb.2 0 (by omega) hb.1.1.1))
/-! 29 FactorNets$Net.besideAny -/
def C29 : am_K := fun as h K => am_a2 as (fun v0 v1 => am_o 3 v0 (fun o => am_n v1 (fun x => ((0 ≤ h o 0 ∧ h o 0 ≤ 20) ∧ (∀ p, 0 ≤ p → p < 20 → S20 (h (o + 1) p))) ∧ (K (some (mB (mkb (fun k => ∃ p, (0 ≤ p ∧ p < h o 0) ∧ bit x p ∧ bit (h (o + 1) p) k)))) h))))
theorem W29 {d : Nat} (H : ∀ (o : Int) (x : Int) (h : am_H) (K : Option am_V → am_H → Prop), ((0 ≤ h o 0 ∧ h o 0 ≤ 20) ∧ (∀ p, 0 ≤ p → p < 20 → S20 (h (o + 1) p))) ∧ (K (some (mB (mkb (fun k => ∃ p, (0 ≤ p ∧ p < h o 0) ∧ bit x p ∧ bit (h (o + 1) p) k)))) h) → am_AT d 29 0 [some (mR 1 3 0 o), some (mB x), none, none] h K) : am_CS d 29 C29 := by
  refine am_CS_of (T := tb29) (mL := 4) (rk := 1) rfl (fun as h K hC => ?_)
  obtain ⟨v0, v1, rfl, hC0⟩ := am_a2_e hC
  obtain ⟨o, rfl, hC1⟩ := am_o_e hC0
  obtain ⟨x, rfl, hC2⟩ := am_n_e hC1
  refine ⟨Nat.le_of_ble_eq_true rfl, ?_⟩
  exact H o x h K hC2
theorem T29_0 {R : Option am_V → am_H → Prop} {h : am_H} {o : Int} {x : Int} (t : am_AT 1 29 4 [some (mR 1 3 0 o), some (mB x), some (mI 0), some (mI 0)] h R) : am_AT 1 29 0 [some (mR 1 3 0 o), some (mB x), none, none] h R :=
  am_T (d := 0) (m := 29) (T := tb29) (mL := 4) (rk := 1) (cuts := [(4, [1, 1, 2, 2])]) (l := []) rfl trivial 8 (t)
theorem T29_4 {R : Option am_V → am_H → Prop} {h : am_H} {o : Int} {x : Int} {x2 : Int} {x3 : Int} (t : (R32 x3) ∧ (((h o 0 ≤ x3) → ((R32 x2) ∧ (R (some (mB x2)) h))) ∧ ((x3 < h o 0) → (((iAnd (iShr x x3) 1 = 0) → (am_AT 1 29 4 [some (mR 1 3 0 o), some (mB x), some (mI x2), some (mI (x3 + 1))] h R)) ∧ ((¬ iAnd (iShr x x3) 1 = 0) → ((0 ≤ x3 ∧ x3 < 20) ∧ (am_AT 1 29 4 [some (mR 1 3 0 o), some (mB x), some (mI (iOr x2 (h (o + 1) x3))), some (mI (x3 + 1))] h R))))))) : am_AT 1 29 4 [some (mR 1 3 0 o), some (mB x), some (mI x2), some (mI x3)] h R :=
  am_T (d := 0) (m := 29) (T := tb29) (mL := 4) (rk := 1) (cuts := [(4, [1, 1, 2, 2])]) (l := []) rfl trivial 23 (And.intro (t).1 (And.intro (fun c6 => And.intro (((t).2).1 c6).1 ((((t).2).1 c6).2)) (fun c6 => And.intro (fun c7 => (((t).2).2 c6).1 c7) (fun c7 => And.intro ((((t).2).2 c6).2 c7).1 (((((t).2).2 c6).2 c7).2)))))
theorem L29 {K : Option am_V → am_H → Prop} {h : am_H} {o x : Int} (hn : 0 ≤ h o 0 ∧ h o 0 ≤ 20) (hr : ∀ p, 0 ≤ p → p < 20 → S20 (h (o + 1) p)) (hK : K (some (mB (mkb (fun k => ∃ p, (0 ≤ p ∧ p < h o 0) ∧ bit x p ∧ bit (h (o + 1) p) k)))) h) : ∀ i z, 0 ≤ i → i ≤ h o 0 → S20 z → (∀ k, bit z k ↔ ∃ p, (0 ≤ p ∧ p < i) ∧ bit x p ∧ bit (h (o + 1) p) k) → am_AT 1 29 4 [some (mR 1 3 0 o), some (mB x), some (mI z), some (mI i)] h K := by
  refine lp (h o 0) (fun i ih z h0 h1 hz hb => ?_)
  have hz1 := hz.1
  have hz2 := hz.2
  refine T29_4 ⟨by omega, ⟨fun c1 => ⟨by omega, ?_⟩, fun c1 => ⟨fun c2 => ?_, fun c2 => ⟨by omega, ?_⟩⟩⟩⟩
  · have e : i = h o 0 := by omega
    rw [e] at hb
    exact am_rB hK (mkb_eq (by omega) (fun j => by rw [hb]; exact ⟨fun q => ⟨S20_in hz ((hb j).mpr q), q⟩, fun q => q.2⟩)).symm
  · have hx : ¬ bit x i := (bt_has0 h0 (by omega)).mp c2
    refine ih c1 z (by omega) (by omega) hz (fun k => ?_)
    rw [hb]
    constructor
    · rintro ⟨p, a, b⟩
      exact ⟨p, by omega, b⟩
    · rintro ⟨p, a, b, d⟩
      refine ⟨p, ⟨a.1, ?_⟩, b, d⟩
      have : p ≠ i := fun e => hx (e ▸ b)
      omega
  · have hx : bit x i := Classical.byContradiction fun q => c2 ((bt_has0 h0 (by omega)).mpr q)
    refine ih c1 _ (by omega) (by omega) (S20_or hz (hr i h0 (by omega))) (fun k => ?_)
    rw [bt_or, hb]
    constructor
    · rintro (⟨p, a, b⟩ | d)
      · exact ⟨p, by omega, b⟩
      · exact ⟨i, by omega, hx, d⟩
    · rintro ⟨p, a, b, d⟩
      by_cases e : p = i
      · subst e
        exact Or.inr d
      · exact Or.inl ⟨p, by omega, b, d⟩
theorem C29_ok : am_CS 1 29 C29 := W29 (fun o x h K hb => T29_0 (L29 hb.1.1 hb.1.2 hb.2 0 0 (by omega) hb.1.1.1 S20_0 (fun k => ⟨fun q => absurd q bt_zero, fun q => by obtain ⟨p, a, b⟩ := q; omega⟩)))
/-! 27 FactorNets$Net.connected -/
def C27 : am_K := fun as h K => am_a1 as (fun v0 => am_o 3 v0 (fun o => (NT (h o 0) (nr h (o + 1) 0)) ∧ (K (some (mP (0 < h o 0 ∧ CN (h o 0) (nr h (o + 1) 0)))) h)))
theorem W27 {d : Nat} (H : ∀ (o : Int) (h : am_H) (K : Option am_V → am_H → Prop), (NT (h o 0) (nr h (o + 1) 0)) ∧ (K (some (mP (0 < h o 0 ∧ CN (h o 0) (nr h (o + 1) 0)))) h) → am_AT d 27 0 [some (mR 1 3 0 o)] h K) : am_CS d 27 C27 := by
  refine am_CS_of (T := tb27) (mL := 1) (rk := 4) rfl (fun as h K hC => ?_)
  obtain ⟨v0, rfl, hC0⟩ := am_a1_e hC
  obtain ⟨o, rfl, hC1⟩ := am_o_e hC0
  refine ⟨Nat.le_of_ble_eq_true rfl, ?_⟩
  exact H o h K hC1
theorem T27_0 {R : Option am_V → am_H → Prop} {h : am_H} {o : Int} (t : ((h o 0 ≤ 0) → (R (some (mP ((0 : Int) = 1))) h)) ∧ ((0 < h o 0) → (((0 ≤ (0 : Int) ∧ (0 : Int) < 20) ∧ (∀ p, 0 ≤ p → p < 20 → S20 (h (o + 1) p))) ∧ ((0 ≤ h o 0 ∧ h o 0 ≤ 30) ∧ (((¬ mkb (rc (ad (nr h (o + 1) 0)) (0 : Int)) = iShl 1 (h o 0) - 1) → (R (some (mP ((0 : Int) = 1))) h)) ∧ ((mkb (rc (ad (nr h (o + 1) 0)) (0 : Int)) = iShl 1 (h o 0) - 1) → (R (some (mP ((1 : Int) = 1))) h))))))) : am_AT 4 27 0 [some (mR 1 3 0 o)] h R :=
  am_T (d := 3) (m := 27) (T := tb27) (mL := 1) (rk := 4) (cuts := []) (l := [(22, C22), (178, C178)]) rfl ⟨am_CS_d (by decide) C22_ok, am_CS_d (by decide) C178_ok, trivial⟩ 17 (And.intro (fun c8 => And.intro (Or.inl rfl) ((t).1 c8)) (fun c8 => And.intro ((t).2 c8).1 (And.intro (((t).2 c8).2).1 (And.intro (fun c9 => And.intro (Or.inl rfl) (((((t).2 c8).2).2).1 c9)) (fun c9 => And.intro (Or.inr rfl) (((((t).2 c8).2).2).2 c9))))))
theorem CN_iff {n : Int} {r : Int → Int} (h : NT n r) (hp : 0 < n) : mkb (rc (ad r) 0) = iShl 1 n - 1 ↔ CN n r := by
  have h1 := h.2.1
  constructor
  · intro e p h0 hn
    have : bit (iShl 1 n - 1) p := (bt_all (by omega) (by omega)).mpr ⟨h0, hn⟩
    rw [← e] at this
    exact (bt_mk.mp this).2
  · intro hc
    symm
    refine mkb_eq (by have := bt_all_r (n := n) (by omega) (by omega); omega) (fun j => ?_)
    rw [bt_all (by omega) (by omega)]
    exact ⟨fun q => ⟨by omega, hc j q.1 q.2⟩, fun q => NT_rc h (by omega) q.2⟩
theorem am_AT_rows {d m pc : Nat} {lv : am_L} {h : am_H} {R : Option am_V → am_H → Prop} (H : am_wf h → am_AT d m pc lv h R) : am_AT d m pc lv h R := am_AT_ok (fun a _ => H a)
theorem C27_ok : am_CS 4 27 C27 := W27 (fun o h K hb => am_AT_ok (fun hw hl => by
  obtain ⟨hN, hK⟩ := hb
  have hN1 := hN.1
  have hN2 := hN.2.1
  have hR : ∀ p, 0 ≤ p → p < 20 → S20 (h (o + 1) p) := NT_S20 hN (wf_rows hw (hl 0 _ rfl))
  refine T27_0 ⟨fun c1 => ?_, fun c1 => ⟨⟨⟨by omega, by omega⟩, hR⟩, ⟨by omega, ⟨fun c2 => ?_, fun c2 => ?_⟩⟩⟩⟩
  · exact am_rb0 hK (by omega)
  · exact am_rb0 hK (fun q => c2 ((CN_iff hN c1).mpr q.2))
  · exact am_rb1 hK ⟨c1, (CN_iff hN c1).mp c2⟩))
/-! 28 FactorNets$Net.stepsBetween -/
def C28 : am_K := fun as h K => am_a3 as (fun v0 v1 v2 => am_o 3 v0 (fun o => am_n v1 (fun a => am_n v2 (fun b => (NT (h o 0) (nr h (o + 1) 0) ∧ (0 ≤ a ∧ a < h o 0) ∧ rc (ad (nr h (o + 1) 0)) a b) ∧ (K (some (mB (ds (ad (nr h (o + 1) 0)) a b))) h)))))
theorem W28 {d : Nat} (H : ∀ (o : Int) (a : Int) (b : Int) (h : am_H) (K : Option am_V → am_H → Prop), (NT (h o 0) (nr h (o + 1) 0) ∧ (0 ≤ a ∧ a < h o 0) ∧ rc (ad (nr h (o + 1) 0)) a b) ∧ (K (some (mB (ds (ad (nr h (o + 1) 0)) a b))) h) → am_AT d 28 0 [some (mR 1 3 0 o), some (mB a), some (mB b), none, none] h K) : am_CS d 28 C28 := by
  refine am_CS_of (T := tb28) (mL := 5) (rk := 1) rfl (fun as h K hC => ?_)
  obtain ⟨v0, v1, v2, rfl, hC0⟩ := am_a3_e hC
  obtain ⟨o, rfl, hC1⟩ := am_o_e hC0
  obtain ⟨a, rfl, hC2⟩ := am_n_e hC1
  obtain ⟨b, rfl, hC3⟩ := am_n_e hC2
  refine ⟨Nat.le_of_ble_eq_true rfl, ?_⟩
  exact H o a b h K hC3
theorem T28_0 {R : Option am_V → am_H → Prop} {h : am_H} {o : Int} {a : Int} {b : Int} (t : am_AT 2 28 7 [some (mR 1 3 0 o), none, some (mB b), some (mI (iShl 1 a)), some (mI 0)] h R) : am_AT 2 28 0 [some (mR 1 3 0 o), some (mB a), some (mB b), none, none] h R :=
  am_T (d := 1) (m := 28) (T := tb28) (mL := 5) (rk := 1) (cuts := [(7, [1, 0, 1, 2, 2])]) (l := [(29, C29)]) rfl ⟨am_CS_d (by decide) C29_ok, trivial⟩ 10 (t)
theorem T28_7 {R : Option am_V → am_H → Prop} {h : am_H} {o : Int} {b : Int} {x3 : Int} {x4 : Int} (t : (R32 x4) ∧ (((20 ≤ x4) → (R (some (mB (-1))) h)) ∧ ((x4 < 20) → (((iAnd (iShr x3 b) 1 = 0) → ((R32 x3) ∧ (((0 ≤ h o 0 ∧ h o 0 ≤ 20) ∧ (∀ p, 0 ≤ p → p < 20 → S20 (h (o + 1) p))) ∧ (am_AT 2 28 7 [some (mR 1 3 0 o), none, some (mB b), some (mI (iOr x3 (mkb (fun k => ∃ p, (0 ≤ p ∧ p < h o 0) ∧ bit x3 p ∧ bit (h (o + 1) p) k)))), some (mI (x4 + 1))] h R)))) ∧ ((¬ iAnd (iShr x3 b) 1 = 0) → ((R32 x4) ∧ (R (some (mB x4)) h))))))) : am_AT 2 28 7 [some (mR 1 3 0 o), none, some (mB b), some (mI x3), some (mI x4)] h R :=
  am_T (d := 1) (m := 28) (T := tb28) (mL := 5) (rk := 1) (cuts := [(7, [1, 0, 1, 2, 2])]) (l := [(29, C29)]) rfl ⟨am_CS_d (by decide) C29_ok, trivial⟩ 21 (And.intro (t).1 (And.intro (fun c10 => ((t).2).1 c10) (fun c10 => And.intro (fun c11 => And.intro ((((t).2).2 c10).1 c11).1 (And.intro (((((t).2).2 c10).1 c11).2).1 ((((((t).2).2 c10).1 c11).2).2))) (fun c11 => And.intro ((((t).2).2 c10).2 c11).1 (((((t).2).2 c10).2 c11).2)))))
theorem L28 {K : Option am_V → am_H → Prop} {h : am_H} {o a b : Int} (hN : NT (h o 0) (nr h (o + 1) 0)) (hR : ∀ p, 0 ≤ p → p < 20 → S20 (h (o + 1) p)) (ha : 0 ≤ a ∧ a < h o 0) (hb : rc (ad (nr h (o + 1) 0)) a b) (hK : K (some (mB (ds (ad (nr h (o + 1) 0)) a b))) h) : ∀ i z, 0 ≤ i → i ≤ 20 → S20 z → (∀ k, bit z k ↔ ∃ e : Nat, (e : Int) ≤ i ∧ wk (ad (nr h (o + 1) 0)) e a k) → (∀ e : Nat, (e : Int) < i → ¬ wk (ad (nr h (o + 1) 0)) e a b) → am_AT 2 28 7 [some (mR 1 3 0 o), none, some (mB b), some (mI z), some (mI i)] h K := by
  have hbn := NT_rc hN ha hb
  obtain ⟨d, hd, ed⟩ := ds_sh hb
  have hdn := NT_lt hN ha hd
  have hn1 := hN.1
  have hn2 := hN.2.1
  refine lp 20 (fun i ih z h0 h1 hz hbz hno => ?_)
  have hz1 := hz.1
  have hz2 := hz.2
  refine T28_7 ⟨by omega, ⟨fun c1 => ?_, fun c1 => ⟨fun c2 => ⟨by omega, ⟨⟨⟨hn1, hn2⟩, hR⟩, ?_⟩⟩, fun c2 => ⟨by omega, ?_⟩⟩⟩⟩
  · exact absurd hd.1 (hno d (by omega))
  · have hx : ¬ bit z b := (bt_has0 hbn.1 (by omega)).mp c2
    refine ih c1 _ (by omega) (by omega) (S20_or hz (S20_mk _)) (fun k => ?_) (fun e he hw => hx ((hbz b).mpr ⟨e, by omega, hw⟩))
    rw [bt_or, hbz, bt_mk]
    constructor
    · rintro (⟨e, a1, a2⟩ | ⟨-, p, p1, p2, p3⟩)
      · exact ⟨e, by omega, a2⟩
      · obtain ⟨e, a1, a2⟩ := (hbz p).mp p2
        exact ⟨e + 1, by omega, p, a2, ad_nr.mpr ⟨by omega, p3⟩⟩
    · rintro ⟨e, a1, a2⟩
      by_cases q : (e : Int) ≤ i
      · exact Or.inl ⟨e, q, a2⟩
      · cases e with
        | zero => omega
        | succ e =>
          obtain ⟨p, b1, b2⟩ := a2
          have b3 := NT_in hN b2
          exact Or.inr ⟨by omega, p, b3.1, (hbz p).mpr ⟨e, by omega, b1⟩, (ad_nr.mp b2).2⟩
  · have hx : bit z b := Classical.byContradiction fun q => c2 ((bt_has0 hbn.1 (by omega)).mpr q)
    obtain ⟨e, a1, a2⟩ := (hbz b).mp hx
    have e2 : ds (ad (nr h (o + 1) 0)) a b = i := by
      have := ds_wk a2
      rw [ed] at this ⊢
      have : ¬ (d : Int) < i := fun q => hno d q hd.1
      omega
    exact am_rB hK e2
theorem C28_ok : am_CS 2 28 C28 := W28 (fun o a b h K hb => am_AT_ok (fun hw hl => T28_0 (by
  obtain ⟨⟨hN, ha, hc⟩, hK⟩ := hb
  have hn2 := hN.2.1
  refine L28 hN (NT_S20 hN (wf_rows hw (hl 0 _ rfl))) ha hc hK 0 _ (by omega) (by omega) (S20_1 ha.1 (by omega)) (fun k => ?_) (fun e he => by omega)
  rw [bt_1 ha.1 (by omega)]
  constructor
  · rintro rfl
    exact ⟨0, by omega, rfl⟩
  · rintro ⟨e, a1, a2⟩
    have : e = 0 := by omega
    subst this
    exact Eq.symm a2)))
