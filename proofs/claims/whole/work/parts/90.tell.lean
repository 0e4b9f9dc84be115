/-! ===== the text that is told ===== -/
theorem sc_all : ri_Fd.all (fun l => l.all (fun v => match v with | .int u => decide (0 ≤ u.toInt) && decide (u.toInt < 65536) | _ => true)) = true := by decide +kernel
theorem am_sc_r (a i : Int) : 0 ≤ am_sc a i ∧ am_sc a i < 65536 := by
  unfold am_sc
  split
  · rename_i v e
    cases q : ri_Fd[(a - 2999987).toNat]? with
    | none => rw [q] at e; simp at e
    | some l =>
      rw [q] at e
      have h1 := List.all_eq_true.mp sc_all l (List.mem_of_getElem? q)
      have h2 : (decide (0 ≤ v.toInt) && decide (v.toInt < 65536)) = true := List.all_eq_true.mp h1 _ (List.mem_of_getElem? e)
      rw [Bool.and_eq_true] at h2
      exact ⟨of_decide_eq_true h2.1, of_decide_eq_true h2.2⟩
  · omega
def strn (a : Int) (m : Nat) : List Int := (List.range m).map (fun (j : Nat) => am_sc a j)
def strl (a : Int) : List Int := strn a (am_sl a).toNat
theorem strn_s (a : Int) (m : Nat) : strn a (m + 1) = strn a m ++ [am_sc a m] := by
  unfold strn
  rw [List.range_succ, List.map_append]
  rfl
theorem strl_len (a : Int) : (strl a).length = (am_sl a).toNat := by
  unfold strl strn
  rw [List.length_map, List.length_range]
def TW (c k q : Int) (h h' : am_H) (l : List Int) : Prop := (∀ x i, ¬ (x = c ∧ i = k) → x ≠ q → h' x i = h x i) ∧ h' c k = h c k + (l.length : Nat) ∧ (∀ i, i < h c k → h' q i = h q i) ∧ ∀ j : Nat, j < l.length → h' q (h c k + j) = (l[j]?).getD 0
theorem TW_0 {c k q : Int} {h : am_H} : TW c k q h h [] := ⟨fun _ _ _ _ => rfl, by simp, fun _ _ => rfl, fun j a => absurd a (Nat.not_lt_zero _)⟩
theorem TW_1 {c k q s : Int} {h : am_H} (e : c ≠ q) : TW c k q h (am_up (am_up h q (h c k) s) c k (h c k + 1)) [s] := by
  refine ⟨fun x i a b => by rw [am_up_n2 a, am_up_ne b], am_up_eq, fun i a => by rw [am_up_ne (fun z => e z.symm), am_up_ne2 (by omega)], fun j a => ?_⟩
  have : j = 0 := by
    have : [s].length = 1 := rfl
    omega
  subst this
  rw [am_up_ne (fun z => e z.symm), show h c k + ((0 : Nat) : Int) = h c k by omega, am_up_eq]
  rfl
theorem TW_tr {c k q : Int} {h h' h'' : am_H} {l l' : List Int} (A : TW c k q h h' l) (B : TW c k q h' h'' l') : TW c k q h h'' (l ++ l') := by
  have e := A.2.1
  refine ⟨fun x i a b => (B.1 x i a b).trans (A.1 x i a b), ?_, fun i a => ?_, fun j a => ?_⟩
  · rw [B.2.1, e, List.length_append]; omega
  · rw [B.2.2.1 i (by omega)]; exact A.2.2.1 i a
  · rw [List.length_append] at a
    by_cases z : j < l.length
    · rw [B.2.2.1 _ (by omega), A.2.2.2 j z, List.getElem?_append_left z]
    · have w := B.2.2.2 (j - l.length) (by omega)
      rw [e, show h c k + ((l.length : Nat) : Int) + ((j - l.length : Nat) : Int) = h c k + j by omega] at w
      rw [w, List.getElem?_append_right (by omega)]
theorem td_10 {n : Int} (h : 0 ≤ n) : Int.tdiv n 10 = n / 10 := Int.tdiv_eq_ediv_of_nonneg h
theorem td_100 {n : Int} (h : 0 ≤ n) : Int.tdiv n 100 = n / 100 := Int.tdiv_eq_ediv_of_nonneg h
theorem tm_10 {n : Int} (h : 0 ≤ n) : Int.tmod n 10 = n % 10 := Int.tmod_eq_emod_of_nonneg h
theorem tm10_r {n : Int} (h : 0 ≤ n) : 0 ≤ 48 + Int.tmod n 10 ∧ 48 + Int.tmod n 10 < 65536 := by rw [tm_10 h]; omega
def nd3 (n : Int) : Int := if n < 10 then 0 else if n < 100 then 1 else 2
def dgl (n : Int) : List Int := if n < 10 then [48 + Int.tmod n 10] else if n < 100 then [48 + Int.tmod (Int.tdiv n 10) 10, 48 + Int.tmod n 10] else [48 + Int.tmod (Int.tdiv n 100) 10, 48 + Int.tmod (Int.tdiv n 10) 10, 48 + Int.tmod n 10]
theorem dgl_a {n : Int} (h : n < 10) : dgl n = [48 + Int.tmod n 10] := if_pos h
theorem dgl_b {n : Int} (h : 10 ≤ n) (h2 : n < 100) : dgl n = [48 + Int.tmod (Int.tdiv n 10) 10, 48 + Int.tmod n 10] := (if_neg (by omega)).trans (if_pos h2)
theorem dgl_c {n : Int} (h : 100 ≤ n) : dgl n = [48 + Int.tmod (Int.tdiv n 100) 10, 48 + Int.tmod (Int.tdiv n 10) 10, 48 + Int.tmod n 10] := (if_neg (by omega)).trans (if_neg (by omega))
theorem dgl_s {n : Int} (h : 9 < n) (h2 : n < 1000) : dgl (Int.tdiv n 10) ++ [48 + Int.tmod n 10] = dgl n := by
  have e := td_10 (n := n) (by omega)
  by_cases c : n < 100
  · rw [dgl_b (n := n) (by omega) c, dgl_a (n := Int.tdiv n 10) (by omega)]; rfl
  · rw [dgl_c (n := n) (by omega), dgl_b (n := Int.tdiv n 10) (by omega) (by omega), td_100 (n := n) (by omega), td_10 (n := Int.tdiv n 10) (by omega), e, show n / 10 / 10 = n / 100 by omega]; rfl
theorem nd3_r (n : Int) : 0 ≤ nd3 n ∧ nd3 n ≤ 2 := by
  unfold nd3
  by_cases c : n < 10
  · rw [if_pos c]; omega
  · by_cases c2 : n < 100
    · rw [if_neg c, if_pos c2]; omega
    · rw [if_neg c, if_neg c2]; omega
theorem nd3_s {n : Int} (h : 9 < n) (h2 : n < 1000) : nd3 (Int.tdiv n 10) + 1 = nd3 n := by
  have e := td_10 (n := n) (by omega)
  unfold nd3
  by_cases c : n < 100
  · rw [if_pos (by omega), if_neg (by omega), if_pos c]; omega
  · rw [if_neg (by omega), if_pos (by omega), if_neg (by omega), if_neg (by omega)]; omega
theorem dgl_len (n : Int) : ((dgl n).length : Int) = nd3 n + 1 := by
  unfold nd3
  by_cases c : n < 10
  · rw [if_pos c, dgl_a c]; rfl
  · by_cases c2 : n < 100
    · rw [if_neg c, if_pos c2, dgl_b (by omega) c2]; rfl
    · rw [if_neg c, if_neg c2, dgl_c (by omega)]; rfl
theorem sl_0 : am_sl 3000000 = 0 := by decide +kernel
theorem sl_1 : am_sl 3000001 = 1 := by decide +kernel
theorem sl_3 : am_sl 3000003 = 5 := by decide +kernel
theorem sl_6 : am_sl 3000006 = 4 := by decide +kernel
theorem sl_7 : am_sl 3000007 = 3 := by decide +kernel
theorem sl_10 : am_sl 3000010 = 5 := by decide +kernel
theorem sl_12 : am_sl 3000012 = 4 := by decide +kernel
def wdl (x : Int) : List Int := if x = 0 then strl 3000012 else if x = 1 then strl 3000010 else if x = 2 then strl 3000003 else strl 3000006
theorem wdl_len (x : Int) : (wdl x).length ≤ 5 := by
  unfold wdl
  by_cases c : x = 0
  · rw [if_pos c, strl_len, sl_12]; decide
  · by_cases c2 : x = 1
    · rw [if_neg c, if_pos c2, strl_len, sl_10]; decide
    · by_cases c3 : x = 2
      · rw [if_neg c, if_neg c2, if_pos c3, strl_len, sl_3]; decide
      · rw [if_neg c, if_neg c2, if_neg c3, strl_len, sl_6]; decide
noncomputable def ptx (n : Int) (r : Int → Int) (k : Int) : List Int := if knd n r k = 3 then strl 3000001 ++ dgl (plc n r k) else []
noncomputable def ptl (n : Int) (r : Int → Int) (k : Int) : List Int := wdl (knd n r k) ++ (dgl (iPop (lay r k 0)) ++ ptx n r k)
theorem ptx_len (n : Int) (r : Int → Int) (k : Int) : (ptx n r k).length ≤ 4 := by
  unfold ptx
  by_cases c : knd n r k = 3
  · have := dgl_len (plc n r k)
    have := nd3_r (plc n r k)
    have e : (strl 3000001).length = 1 := by rw [strl_len, sl_1]; rfl
    rw [if_pos c, List.length_append]
    omega
  · rw [if_neg c]; exact Nat.zero_le _
theorem ptl_len (n : Int) (r : Int → Int) (k : Int) : (ptl n r k).length ≤ 12 := by
  have := wdl_len (knd n r k)
  have := ptx_len n r k
  have := dgl_len (iPop (lay r k 0))
  have := nd3_r (iPop (lay r k 0))
  unfold ptl
  rw [List.length_append, List.length_append]
  omega
noncomputable def ttk (n : Int) (r : Int → Int) : Nat → List Int
  | 0 => []
  | k + 1 => ttk n r k ++ ((if k = 0 then [] else strl 3000001) ++ ptl n r k)
noncomputable def ttl (n : Int) (r : Int → Int) : List Int := if ncl (ptE r) (nl r) = 0 then strl 3000007 else ttk n r (ncl (ptE r) (nl r)).toNat
theorem ttk_0 {n : Int} {r : Int → Int} : ttk n r (0 + 1 : Nat) = ptl n r 0 := by
  show [] ++ ((if 0 = 0 then [] else strl 3000001) ++ ptl n r ((0 : Nat) : Int)) = _
  rw [if_pos rfl]
  rfl
theorem ttk_s {n : Int} {r : Int → Int} {k : Nat} (h : k ≠ 0) : ttk n r (k + 1) = ttk n r k ++ (strl 3000001 ++ ptl n r k) := by
  show ttk n r k ++ ((if k = 0 then [] else strl 3000001) ++ ptl n r k) = _
  rw [if_neg h]
theorem ttk_len (n : Int) (r : Int → Int) : ∀ k : Nat, (ttk n r k).length ≤ 13 * k
  | 0 => Nat.zero_le _
  | k + 1 => by
    have := ttk_len n r k
    have := ptl_len n r k
    have e : (strl 3000001).length = 1 := by rw [strl_len, sl_1]; rfl
    by_cases z : k = 0
    · subst z; rw [ttk_0]; have := ptl_len n r 0; omega
    · rw [ttk_s z, List.length_append, List.length_append]; omega
def HT (h : am_H) (c k q : Int) (l : List Int) : Prop := h c k = (l.length : Nat) ∧ ∀ j : Nat, j < l.length → h q j = (l[j]?).getD 0
theorem HT_of {c k q : Int} {h h' : am_H} {l : List Int} (A : TW c k q h h' l) (z : h c k = 0) : HT h' c k q l := by
  refine ⟨by rw [A.2.1, z]; omega, fun j a => ?_⟩
  have := A.2.2.2 j a
  rw [z, show (0 : Int) + j = j by omega] at this
  exact this
theorem TW_TW {c k q : Int} {h h1 h' : am_H} {l : List Int} (A : TW c k q h1 h' l) (z : h1 c k = 0) (f : ∀ x i, ¬ (x = c ∧ i = k) → h1 x i = h x i) : (∀ x i, ¬ (x = c ∧ i = k) → x ≠ q → h' x i = h x i) ∧ HT h' c k q l := ⟨fun x i a b => (A.1 x i a b).trans (f x i a), HT_of A z⟩
def TLQ (h h' : am_H) : Prop := PI h' ∧ (∀ x i, ¬ (8 < x ∧ x ≤ 78) → ¬ (x = 5 ∧ 4 ≤ i ∧ i ≤ 6) → ¬ (153 ≤ x ∧ x ≤ 170) → ¬ (x = 0 ∧ (i = 15 ∨ i = 16)) → x ≠ 498 → h' x i = h x i) ∧ (nr h' 7 0 = nr h 7 0 ∧ h' 6 0 = h 6 0) ∧ (0 < h 6 0 → HT h' 0 15 498 (ttl (h 6 0) (nr h 7 0))) ∧ (¬ 0 < h 6 0 → h' 0 15 = h 0 15 ∧ ∀ i, h' 498 i = h 498 i) ∧ (h 5 4 = 1 → h' 5 4 = 1)
def TRQ (h h' : am_H) : Prop := RIv h' ∧ (∀ x i, PR x i → ¬ (x = 571 ∧ i = 29) → x ≠ 587 → h' x i = h x i) ∧ (0 < h 572 0 → HT h' 571 29 587 (ttl (h 572 0) (nr h 572 2))) ∧ (¬ 0 < h 572 0 → h' 571 29 = h 571 29 ∧ ∀ i, h' 587 i = h 587 i)
theorem TW_PI {h g : am_H} {l : List Int} (H : PI h) (A : TW 0 15 498 h g l) : PI g := PI_fr H (fun x i a => A.1 x i (by omega) (by omega))
theorem TW_n {h g : am_H} {l : List Int} (A : TW 0 15 498 h g l) : nr g 7 0 = nr h 7 0 ∧ g 6 0 = h 6 0 ∧ g 0 16 = h 0 16 ∧ g 153 0 = h 153 0 ∧ ∀ k, g 154 k = h 154 k :=
  ⟨nr_fr2 (fun i => A.1 _ _ (by omega) (by omega)), A.1 _ _ (by omega) (by omega), A.1 _ _ (by omega) (by omega), A.1 _ _ (by omega) (by omega), fun k => A.1 _ _ (by omega) (by omega)⟩
theorem RIv_fr {h h'' : am_H} (H : RIv h) (e : ∀ x i, (x = 572 ∨ (580 ≤ x ∧ x ≤ 584) ∨ (x = 571 ∧ (i = 17 ∨ i = 21 ∨ i = 24 ∨ i = 25))) → h'' x i = h x i) : RIv h'' := by
  have e1 : nr h'' 572 2 = nr h 572 2 := nr_fr2 (fun i => e _ _ (by omega))
  have e2 : h'' 572 0 = h 572 0 := e _ _ (by omega)
  have e3 : h'' 571 17 = h 571 17 := e _ _ (by omega)
  obtain ⟨a, b, c⟩ := H
  unfold RIv
  rw [e1, e2, e3]
  refine ⟨a, b, fun q => ?_⟩
  obtain ⟨c1, c2, c3⟩ := c q
  refine ⟨RF_fr c1 (fun i => e _ _ (by omega)), RLn_fr c2 (e _ _ (by omega)) (fun i => e _ _ (by omega)) (fun i => e _ _ (by omega)), ?_, ?_, fun k a b => ?_⟩
  · rw [e _ _ (by omega)]; exact c3.1
  · rw [e _ _ (by omega)]; exact c3.2.1
  · rw [e _ _ (by omega), e _ _ (by omega)]; exact c3.2.2 k a b
def TLd (h g : am_H) : Prop := (∀ x i, ¬ (x = 571 ∧ i = 29) → x ≠ 587 → g x i = h x i)
theorem TL_tr {h g g' : am_H} {l : List Int} (H : TLd h g) (A : TW 571 29 587 g g' l) : TLd h g' := fun x i a b => (A.1 x i a b).trans (H x i a b)
theorem TL_a {h g : am_H} (H : RIv h) (z : h 571 17 = 1) (A : TLd h g) : (NT (g 572 0) (nr g 572 2) ∧ CN (g 572 0) (nr g 572 2) ∧ RLd g (g 572 0) (nr g 572 2)) ∧ nr g 572 2 = nr h 572 2 ∧ g 572 0 = h 572 0 ∧ g 571 24 = ncl (ptE (nr h 572 2)) (nl (nr h 572 2)) := by
  have w := RIv_fr H (fun x i a => A x i (by omega) (by omega))
  have e : g 571 17 = h 571 17 := A _ _ (by omega) (by omega)
  exact ⟨⟨w.1, w.2.1, w.2.2 (by rw [e]; exact z)⟩, nr_fr2 (fun i => A _ _ (by omega) (by omega)), A _ _ (by omega) (by omega), (A _ _ (by omega) (by omega)).trans (H.2.2 z).2.2.1⟩
theorem ifc_pr {c : Prop} {P : Int → Prop} {x y : Int} (h1 : P x) (h2 : P y) : P (ifc c x y) := by
  by_cases h : c
  · rw [ifc_t h]; exact h1
  · rw [ifc_f h]; exact h2
theorem knd_r (n : Int) (r : Int → Int) (k : Int) : 0 ≤ knd n r k ∧ knd n r k ≤ 3 := by
  unfold knd
  exact ifc_pr (P := fun x => 0 ≤ x ∧ x ≤ 3) (by omega) (ifc_pr (P := fun x => 0 ≤ x ∧ x ≤ 3) (ifc_pr (P := fun x => 0 ≤ x ∧ x ≤ 3) (by omega) (by omega)) (by omega))
/-! 176 FactorNets.writeSign -/
def C176 : am_K := fun as h K => am_a2 as (fun v0 v1 => am_oc 11 0 v0 (am_n v1 (fun s => ((0 ≤ s ∧ s < 65536) ∧ (0 ≤ h 0 15 ∧ h 0 15 < 64)) ∧ (∀ (h' : am_H), TW 0 15 498 h h' [s] → K (none) (h')))))
theorem W176 {d : Nat} (H : ∀ (s : Int) (h : am_H) (K : Option am_V → am_H → Prop), ((0 ≤ s ∧ s < 65536) ∧ (0 ≤ h 0 15 ∧ h 0 15 < 64)) ∧ (∀ (h' : am_H), TW 0 15 498 h h' [s] → K (none) (h')) → am_AT d 176 0 [some (mR 1 11 0 0), some (mB s)] h K) : am_CS d 176 C176 := by
  refine am_CS_of (T := tb176) (mL := 2) (rk := 0) rfl (fun as h K hC => ?_)
  obtain ⟨v0, v1, rfl, hC0⟩ := am_a2_e hC
  obtain ⟨e0, hC1⟩ := am_oc_e hC0
  subst e0
  obtain ⟨s, rfl, hC2⟩ := am_n_e hC1
  refine ⟨Nat.le_of_ble_eq_true rfl, ?_⟩
  exact H s h K hC2
theorem T176_0 {R : Option am_V → am_H → Prop} {h : am_H} {s : Int} (t : ((64 ≤ h 0 15) → (R none h)) ∧ ((h 0 15 < 64) → ((0 ≤ h 0 15 ∧ h 0 15 < 64) ∧ ((0 ≤ s ∧ s < 65536) ∧ ((R32 ((h 0 15) + 1)) ∧ (R none (am_up (am_up h 498 (h 0 15) s) 0 15 ((h 0 15) + 1)))))))) : am_AT 1 176 0 [some (mR 1 11 0 0), some (mB s)] h R :=
  am_T (d := 0) (m := 176) (T := tb176) (mL := 2) (rk := 0) (cuts := []) (l := []) rfl trivial 21 (And.intro (fun c1 => (t).1 c1) (fun c1 => And.intro ((t).2 c1).1 (And.intro (((t).2 c1).2).1 (And.intro ((((t).2 c1).2).2).1 (((((t).2 c1).2).2).2)))))
theorem C176_ok : am_CS 1 176 C176 := W176 (fun s h K hb => by
  refine T176_0 ⟨fun c1 => ?_, fun c1 => ⟨by omega, ⟨by omega, ⟨by omega, ?_⟩⟩⟩⟩
  · exfalso; omega
  · exact hb.2 _ (TW_1 (by omega)))
/-! 174 FactorNets.write -/
def C174 : am_K := fun as h K => am_a2 as (fun v0 v1 => am_oc 11 0 v0 (am_r 9 0 0 v1 (fun tx => ((0 ≤ h 0 15 ∧ h 0 15 + am_sl tx ≤ 64)) ∧ (∀ (h' : am_H), TW 0 15 498 h h' (strl tx) → K (none) (h')))))
theorem W174 {d : Nat} (H : ∀ (tx : Int) (h : am_H) (K : Option am_V → am_H → Prop), ((0 ≤ h 0 15 ∧ h 0 15 + am_sl tx ≤ 64)) ∧ (∀ (h' : am_H), TW 0 15 498 h h' (strl tx) → K (none) (h')) → am_AT d 174 0 [some (mR 1 11 0 0), some (mR 9 0 0 tx), none] h K) : am_CS d 174 C174 := by
  refine am_CS_of (T := tb174) (mL := 3) (rk := 0) rfl (fun as h K hC => ?_)
  obtain ⟨v0, v1, rfl, hC0⟩ := am_a2_e hC
  obtain ⟨e0, hC1⟩ := am_oc_e hC0
  subst e0
  obtain ⟨tx, rfl, hC2⟩ := am_r_e hC1
  refine ⟨Nat.le_of_ble_eq_true rfl, ?_⟩
  exact H tx h K hC2
theorem T174_0 {R : Option am_V → am_H → Prop} {h : am_H} {tx : Int} (t : am_AT 2 174 2 [some (mR 1 11 0 0), some (mR 9 0 0 tx), some (mI 0)] h R) : am_AT 2 174 0 [some (mR 1 11 0 0), some (mR 9 0 0 tx), none] h R :=
  am_T (d := 1) (m := 174) (T := tb174) (mL := 3) (rk := 0) (cuts := [(2, [1, 1, 2])]) (l := [(176, C176)]) rfl ⟨am_CS_d (by decide) C176_ok, trivial⟩ 6 (t)
theorem T174_2 {R : Option am_V → am_H → Prop} {h : am_H} {tx : Int} {x2 : Int} (t : (R32 x2) ∧ (((am_sl tx ≤ x2) → (R none h)) ∧ ((x2 < am_sl tx) → ((0 ≤ x2 ∧ x2 < am_sl tx) ∧ (((0 ≤ (am_sc tx x2) ∧ (am_sc tx x2) < 65536) ∧ (0 ≤ h 0 15 ∧ h 0 15 < 64)) ∧ (∀ (h' : am_H), (TW 0 15 498 h h' [(am_sc tx x2)]) → (am_AT 2 174 2 [some (mR 1 11 0 0), some (mR 9 0 0 tx), some (mI (x2 + 1))] h' R))))))) : am_AT 2 174 2 [some (mR 1 11 0 0), some (mR 9 0 0 tx), some (mI x2)] h R :=
  am_T (d := 1) (m := 174) (T := tb174) (mL := 3) (rk := 0) (cuts := [(2, [1, 1, 2])]) (l := [(176, C176)]) rfl ⟨am_CS_d (by decide) C176_ok, trivial⟩ 15 (And.intro (t).1 (And.intro (fun c2 => ((t).2).1 c2) (fun c2 => And.intro (((t).2).2 c2).1 (And.intro (rfl) (And.intro ((((t).2).2 c2).2).1 (fun z1_0 z1_1 => (((((t).2).2 c2).2).2) z1_0 z1_1))))))
theorem L174 {K : Option am_V → am_H → Prop} {h : am_H} {tx : Int} (h0 : 0 ≤ h 0 15 ∧ h 0 15 + am_sl tx ≤ 64) (ht : 0 ≤ am_sl tx) (hK : ∀ g, TW 0 15 498 h g (strl tx) → K none g) : ∀ j, ∀ g : am_H, 0 ≤ j → j ≤ am_sl tx → TW 0 15 498 h g (strn tx j.toNat) → am_AT 2 174 2 [some (mR 1 11 0 0), some (mR 9 0 0 tx), some (mI j)] g K := by
  refine lp (am_sl tx) (fun j ih g j0 j1 G => ?_)
  have sr := am_sc_r tx j
  have e := G.2.1
  have el : (strn tx j.toNat).length = j.toNat := by unfold strn; rw [List.length_map, List.length_range]
  refine T174_2 ⟨by omega, ⟨fun c1 => ?_, fun c1 => ⟨by omega, ⟨by omega, fun h' q2 => ?_⟩⟩⟩⟩
  · rw [show j = am_sl tx by omega] at G
    exact hK g G
  · refine ih c1 h' (by omega) (by omega) ?_
    rw [show (j + 1).toNat = j.toNat + 1 by omega, strn_s, show ((j.toNat : Nat) : Int) = j by omega]
    exact TW_tr G q2
theorem C174_ok : am_CS 2 174 C174 := W174 (fun tx h K hb => by
  have ht : 0 ≤ am_sl tx := by unfold am_sl; omega
  exact T174_0 (L174 hb.1 ht hb.2 0 h (by omega) ht TW_0))
/-! 175 FactorNets.writeNumber -/
def C175 : am_K := fun as h K => am_a2 as (fun v0 v1 => am_oc 11 0 v0 (am_n v1 (fun n => ((0 ≤ n ∧ n < 1000) ∧ (0 ≤ h 0 15 ∧ h 0 15 ≤ 61)) ∧ (∀ (h' : am_H), TW 0 15 498 h h' (dgl n) → K (none) (h')))))
theorem W175 {d : Nat} (H : ∀ (n : Int) (h : am_H) (K : Option am_V → am_H → Prop), ((0 ≤ n ∧ n < 1000) ∧ (0 ≤ h 0 15 ∧ h 0 15 ≤ 61)) ∧ (∀ (h' : am_H), TW 0 15 498 h h' (dgl n) → K (none) (h')) → am_AT d 175 0 [some (mR 1 11 0 0), some (mB n)] h K) : am_CS d 175 C175 := by
  refine am_CS_of (T := tb175) (mL := 2) (rk := 0) rfl (fun as h K hC => ?_)
  obtain ⟨v0, v1, rfl, hC0⟩ := am_a2_e hC
  obtain ⟨e0, hC1⟩ := am_oc_e hC0
  subst e0
  obtain ⟨n, rfl, hC2⟩ := am_n_e hC1
  refine ⟨Nat.le_of_ble_eq_true rfl, ?_⟩
  exact H n h K hC2
theorem T175_0 {R : Option am_V → am_H → Prop} {h : am_H} {n : Int} (t : ((n < 100) → (((n < 10) → ((0 ≤ 48 + (Int.tmod n 10) ∧ 48 + (Int.tmod n 10) < 65536) ∧ (((0 ≤ (48 + (Int.tmod n 10)) ∧ (48 + (Int.tmod n 10)) < 65536) ∧ (0 ≤ h 0 15 ∧ h 0 15 < 64)) ∧ (∀ (h' : am_H), (TW 0 15 498 h h' [(48 + (Int.tmod n 10))]) → (R none h'))))) ∧ ((10 ≤ n) → ((R32 (Int.tdiv n 10)) ∧ ((0 ≤ 48 + (Int.tmod (Int.tdiv n 10) 10) ∧ 48 + (Int.tmod (Int.tdiv n 10) 10) < 65536) ∧ (((0 ≤ (48 + (Int.tmod (Int.tdiv n 10) 10)) ∧ (48 + (Int.tmod (Int.tdiv n 10) 10)) < 65536) ∧ (0 ≤ h 0 15 ∧ h 0 15 < 64)) ∧ (∀ (h' : am_H), (TW 0 15 498 h h' [(48 + (Int.tmod (Int.tdiv n 10) 10))]) → ((0 ≤ 48 + (Int.tmod n 10) ∧ 48 + (Int.tmod n 10) < 65536) ∧ (((0 ≤ (48 + (Int.tmod n 10)) ∧ (48 + (Int.tmod n 10)) < 65536) ∧ (0 ≤ h' 0 15 ∧ h' 0 15 < 64)) ∧ (∀ (h'_1 : am_H), (TW 0 15 498 h' h'_1 [(48 + (Int.tmod n 10))]) → (R none h'_1))))))))))) ∧ ((100 ≤ n) → ((R32 (Int.tdiv n 100)) ∧ ((0 ≤ 48 + (Int.tmod (Int.tdiv n 100) 10) ∧ 48 + (Int.tmod (Int.tdiv n 100) 10) < 65536) ∧ (((0 ≤ (48 + (Int.tmod (Int.tdiv n 100) 10)) ∧ (48 + (Int.tmod (Int.tdiv n 100) 10)) < 65536) ∧ (0 ≤ h 0 15 ∧ h 0 15 < 64)) ∧ (∀ (h' : am_H), (TW 0 15 498 h h' [(48 + (Int.tmod (Int.tdiv n 100) 10))]) → (((n < 10) → ((0 ≤ 48 + (Int.tmod n 10) ∧ 48 + (Int.tmod n 10) < 65536) ∧ (((0 ≤ (48 + (Int.tmod n 10)) ∧ (48 + (Int.tmod n 10)) < 65536) ∧ (0 ≤ h' 0 15 ∧ h' 0 15 < 64)) ∧ (∀ (h'_1 : am_H), (TW 0 15 498 h' h'_1 [(48 + (Int.tmod n 10))]) → (R none h'_1))))) ∧ ((10 ≤ n) → ((R32 (Int.tdiv n 10)) ∧ ((0 ≤ 48 + (Int.tmod (Int.tdiv n 10) 10) ∧ 48 + (Int.tmod (Int.tdiv n 10) 10) < 65536) ∧ (((0 ≤ (48 + (Int.tmod (Int.tdiv n 10) 10)) ∧ (48 + (Int.tmod (Int.tdiv n 10) 10)) < 65536) ∧ (0 ≤ h' 0 15 ∧ h' 0 15 < 64)) ∧ (∀ (h'_1 : am_H), (TW 0 15 498 h' h'_1 [(48 + (Int.tmod (Int.tdiv n 10) 10))]) → ((0 ≤ 48 + (Int.tmod n 10) ∧ 48 + (Int.tmod n 10) < 65536) ∧ (((0 ≤ (48 + (Int.tmod n 10)) ∧ (48 + (Int.tmod n 10)) < 65536) ∧ (0 ≤ h'_1 0 15 ∧ h'_1 0 15 < 64)) ∧ (∀ (h'_2 : am_H), (TW 0 15 498 h'_1 h'_2 [(48 + (Int.tmod n 10))]) → (R none h'_2)))))))))))))))) : am_AT 2 175 0 [some (mR 1 11 0 0), some (mB n)] h R :=
  am_T (d := 1) (m := 175) (T := tb175) (mL := 2) (rk := 0) (cuts := []) (l := [(176, C176)]) rfl ⟨am_CS_d (by decide) C176_ok, trivial⟩ 39 (And.intro (fun c3 => And.intro (fun c4 => And.intro (by decide) (And.intro (((t).1 c3).1 c4).1 (And.intro (rfl) (And.intro ((((t).1 c3).1 c4).2).1 (fun z2_0 z2_1 => (((((t).1 c3).1 c4).2).2) z2_0 z2_1))))) (fun c4 => And.intro (by decide) (And.intro (((t).1 c3).2 c4).1 (And.intro (by decide) (And.intro ((((t).1 c3).2 c4).2).1 (And.intro (rfl) (And.intro (((((t).1 c3).2 c4).2).2).1 (fun z3_0 z3_1 => And.intro (by decide) (And.intro (((((((t).1 c3).2 c4).2).2).2) z3_0 z3_1).1 (And.intro (rfl) (And.intro ((((((((t).1 c3).2 c4).2).2).2) z3_0 z3_1).2).1 (fun z4_0 z4_1 => (((((((((t).1 c3).2 c4).2).2).2) z3_0 z3_1).2).2) z4_0 z4_1)))))))))))) (fun c3 => And.intro (by decide) (And.intro ((t).2 c3).1 (And.intro (by decide) (And.intro (((t).2 c3).2).1 (And.intro (rfl) (And.intro ((((t).2 c3).2).2).1 (fun z5_0 z5_1 => And.intro (fun c5 => And.intro (by decide) (And.intro (((((((t).2 c3).2).2).2) z5_0 z5_1).1 c5).1 (And.intro (rfl) (And.intro ((((((((t).2 c3).2).2).2) z5_0 z5_1).1 c5).2).1 (fun z6_0 z6_1 => (((((((((t).2 c3).2).2).2) z5_0 z5_1).1 c5).2).2) z6_0 z6_1))))) (fun c5 => And.intro (by decide) (And.intro (((((((t).2 c3).2).2).2) z5_0 z5_1).2 c5).1 (And.intro (by decide) (And.intro ((((((((t).2 c3).2).2).2) z5_0 z5_1).2 c5).2).1 (And.intro (rfl) (And.intro (((((((((t).2 c3).2).2).2) z5_0 z5_1).2 c5).2).2).1 (fun z7_0 z7_1 => And.intro (by decide) (And.intro (((((((((((t).2 c3).2).2).2) z5_0 z5_1).2 c5).2).2).2) z7_0 z7_1).1 (And.intro (rfl) (And.intro ((((((((((((t).2 c3).2).2).2) z5_0 z5_1).2 c5).2).2).2) z7_0 z7_1).2).1 (fun z8_0 z8_1 => (((((((((((((t).2 c3).2).2).2) z5_0 z5_1).2 c5).2).2).2) z7_0 z7_1).2).2) z8_0 z8_1)))))))))))))))))))
theorem C175_ok : am_CS 2 175 C175 := W175 (fun n h K hb => by
  obtain ⟨⟨hn, hp⟩, hK⟩ := hb
  have t10 := td_10 hn.1
  have t100 := td_100 hn.1
  have r1 := tm10_r hn.1
  have r2 := tm10_r (n := Int.tdiv n 10) (by omega)
  have r3 := tm10_r (n := Int.tdiv n 100) (by omega)
  have ln : ∀ s : Int, (([s].length : Nat) : Int) = 1 := fun _ => rfl
  refine T175_0 ⟨fun c1 => ⟨fun c2 => ⟨by omega, ⟨by omega, fun h' q3 => ?_⟩⟩, fun c2 => ⟨by omega, ⟨by omega, ⟨by omega, fun h' q3 => ⟨by omega, ⟨by have := q3.2.1; rw [ln] at this; omega, fun h'_1 q4 => ?_⟩⟩⟩⟩⟩⟩, fun c1 => ⟨by omega, ⟨by omega, ⟨by omega, fun h' q2 => ⟨fun c3 => ⟨by omega, ⟨by omega, fun h'_1 q4 => ?_⟩⟩, fun c3 => ⟨by omega, ⟨by omega, ⟨by have := q2.2.1; rw [ln] at this; omega, fun h'_1 q4 => ⟨by omega, ⟨by have := q2.2.1; rw [ln] at this; have := q4.2.1; rw [ln] at this; omega, fun h'_2 q5 => ?_⟩⟩⟩⟩⟩⟩⟩⟩⟩⟩
  · rw [← dgl_a c2] at q3
    exact hK _ q3
  · have q := TW_tr q3 q4
    rw [List.singleton_append, ← dgl_b c2 c1] at q
    exact hK _ q
  · exfalso; omega
  · have q := TW_tr q2 (TW_tr q4 q5)
    rw [List.singleton_append, List.singleton_append, ← dgl_c c1] at q
    exact hK _ q)
/-! 173 FactorNets.writePart -/
def C173 : am_K := fun as h K => am_a2 as (fun v0 v1 => am_oc 11 0 v0 (am_n v1 (fun k => (PI h ∧ h 0 16 = 1 ∧ (0 ≤ k ∧ k < (ncl (ptE (nr h 7 0)) (nl (nr h 7 0)))) ∧ (0 ≤ h 0 15 ∧ h 0 15 ≤ 50)) ∧ (∀ (h' : am_H), TW 0 15 498 h h' (ptl (h 6 0) (nr h 7 0) k) → K (none) (h')))))
theorem W173 {d : Nat} (H : ∀ (k : Int) (h : am_H) (K : Option am_V → am_H → Prop), (PI h ∧ h 0 16 = 1 ∧ (0 ≤ k ∧ k < (ncl (ptE (nr h 7 0)) (nl (nr h 7 0)))) ∧ (0 ≤ h 0 15 ∧ h 0 15 ≤ 50)) ∧ (∀ (h' : am_H), TW 0 15 498 h h' (ptl (h 6 0) (nr h 7 0) k) → K (none) (h')) → am_AT d 173 0 [some (mR 1 11 0 0), some (mB k)] h K) : am_CS d 173 C173 := by
  refine am_CS_of (T := tb173) (mL := 2) (rk := 0) rfl (fun as h K hC => ?_)
  obtain ⟨v0, v1, rfl, hC0⟩ := am_a2_e hC
  obtain ⟨e0, hC1⟩ := am_oc_e hC0
  subst e0
  obtain ⟨k, rfl, hC2⟩ := am_n_e hC1
  refine ⟨Nat.le_of_ble_eq_true rfl, ?_⟩
  exact H k h K hC2
theorem T173_0 {R : Option am_V → am_H → Prop} {h : am_H} {k : Int} (t : (PI h ∧ h 0 16 = 1 ∧ (0 ≤ k ∧ k < (ncl (ptE (nr h 7 0)) (nl (nr h 7 0))))) ∧ (((knd (h 6 0) (nr h 7 0) k < 0 ∨ 2 < knd (h 6 0) (nr h 7 0) k) → (((0 ≤ h 0 15 ∧ h 0 15 + am_sl (3000006 : Int) ≤ 64)) ∧ (∀ (h' : am_H), (TW 0 15 498 h h' (strl (3000006 : Int))) → (am_AT 5 173 73 [some (mR 1 11 0 0), some (mB k)] h' R)))) ∧ (((knd (h 6 0) (nr h 7 0) k = 0) → (((0 ≤ h 0 15 ∧ h 0 15 + am_sl (3000012 : Int) ≤ 64)) ∧ (∀ (h' : am_H), (TW 0 15 498 h h' (strl (3000012 : Int))) → (am_AT 5 173 73 [some (mR 1 11 0 0), some (mB k)] h' R)))) ∧ (((knd (h 6 0) (nr h 7 0) k = 1) → (((0 ≤ h 0 15 ∧ h 0 15 + am_sl (3000010 : Int) ≤ 64)) ∧ (∀ (h' : am_H), (TW 0 15 498 h h' (strl (3000010 : Int))) → (am_AT 5 173 73 [some (mR 1 11 0 0), some (mB k)] h' R)))) ∧ (((knd (h 6 0) (nr h 7 0) k = 2) → (((0 ≤ h 0 15 ∧ h 0 15 + am_sl (3000003 : Int) ≤ 64)) ∧ (∀ (h' : am_H), (TW 0 15 498 h h' (strl (3000003 : Int))) → (am_AT 5 173 73 [some (mR 1 11 0 0), some (mB k)] h' R)))) ∧ True))))) : am_AT 5 173 0 [some (mR 1 11 0 0), some (mB k)] h R :=
  am_T (d := 4) (m := 173) (T := tb173) (mL := 2) (rk := 0) (cuts := [(73, [1, 1])]) (l := [(41, C41), (44, C44), (174, C174), (175, C175)]) rfl ⟨am_CS_d (by decide) C41_ok, am_CS_d (by decide) C44_ok, am_CS_d (by decide) C174_ok, am_CS_d (by decide) C175_ok, trivial⟩ 13 (And.intro (rfl) (And.intro (t).1 (And.intro (fun c6 => And.intro (rfl) (And.intro (((t).2).1 c6).1 (fun z12_0 z12_1 => ((((t).2).1 c6).2) z12_0 z12_1))) (And.intro (fun c6 => And.intro (rfl) (And.intro ((((t).2).2).1 c6).1 (fun z9_0 z9_1 => (((((t).2).2).1 c6).2) z9_0 z9_1))) (And.intro (fun c6 => And.intro (rfl) (And.intro (((((t).2).2).2).1 c6).1 (fun z10_0 z10_1 => ((((((t).2).2).2).1 c6).2) z10_0 z10_1))) (And.intro (fun c6 => And.intro (rfl) (And.intro ((((((t).2).2).2).2).1 c6).1 (fun z11_0 z11_1 => (((((((t).2).2).2).2).1 c6).2) z11_0 z11_1))) (trivial)))))))
theorem T173_73 {R : Option am_V → am_H → Prop} {h : am_H} {k : Int} (t : (0 ≤ k ∧ k < 4) ∧ (((0 ≤ (h 154 k) ∧ (h 154 k) < 1000) ∧ (0 ≤ h 0 15 ∧ h 0 15 ≤ 61)) ∧ (∀ (h' : am_H), (TW 0 15 498 h h' (dgl (h 154 k))) → ((PI h' ∧ h' 0 16 = 1 ∧ (0 ≤ k ∧ k < (ncl (ptE (nr h' 7 0)) (nl (nr h' 7 0))))) ∧ (((¬ knd (h' 6 0) (nr h' 7 0) k = 3) → (R none h')) ∧ ((knd (h' 6 0) (nr h' 7 0) k = 3) → (((0 ≤ h' 0 15 ∧ h' 0 15 + am_sl (3000001 : Int) ≤ 64)) ∧ (∀ (h'_1 : am_H), (TW 0 15 498 h' h'_1 (strl (3000001 : Int))) → ((PI h'_1 ∧ h'_1 0 16 = 1 ∧ (0 ≤ k ∧ k < (ncl (ptE (nr h'_1 7 0)) (nl (nr h'_1 7 0))))) ∧ (((0 ≤ (plc (h'_1 6 0) (nr h'_1 7 0) k) ∧ (plc (h'_1 6 0) (nr h'_1 7 0) k) < 1000) ∧ (0 ≤ h'_1 0 15 ∧ h'_1 0 15 ≤ 61)) ∧ (∀ (h'_2 : am_H), (TW 0 15 498 h'_1 h'_2 (dgl (plc (h'_1 6 0) (nr h'_1 7 0) k))) → (R none h'_2)))))))))))) : am_AT 5 173 73 [some (mR 1 11 0 0), some (mB k)] h R :=
  am_T (d := 4) (m := 173) (T := tb173) (mL := 2) (rk := 0) (cuts := [(73, [1, 1])]) (l := [(41, C41), (44, C44), (174, C174), (175, C175)]) rfl ⟨am_CS_d (by decide) C41_ok, am_CS_d (by decide) C44_ok, am_CS_d (by decide) C174_ok, am_CS_d (by decide) C175_ok, trivial⟩ 27 (And.intro (t).1 (And.intro (rfl) (And.intro ((t).2).1 (fun z13_0 z13_1 => And.intro (rfl) (And.intro ((((t).2).2) z13_0 z13_1).1 (And.intro (fun c7 => (((((t).2).2) z13_0 z13_1).2).1 c7) (fun c7 => And.intro (rfl) (And.intro ((((((t).2).2) z13_0 z13_1).2).2 c7).1 (fun z14_0 z14_1 => And.intro (rfl) (And.intro ((((((((t).2).2) z13_0 z13_1).2).2 c7).2) z14_0 z14_1).1 (And.intro (rfl) (And.intro (((((((((t).2).2) z13_0 z13_1).2).2 c7).2) z14_0 z14_1).2).1 (fun z15_0 z15_1 => ((((((((((t).2).2) z13_0 z13_1).2).2 c7).2) z14_0 z14_1).2).2) z15_0 z15_1)))))))))))))
theorem L173 {K : Option am_V → am_H → Prop} {h : am_H} {k : Int} (H : PI h) (z : h 0 16 = 1) (hk : 0 ≤ k ∧ k < ncl (ptE (nr h 7 0)) (nl (nr h 7 0))) (hp : 0 ≤ h 0 15 ∧ h 0 15 ≤ 50) (hK : ∀ g, TW 0 15 498 h g (ptl (h 6 0) (nr h 7 0) k) → K none g) {g : am_H} (G : TW 0 15 498 h g (wdl (knd (h 6 0) (nr h 7 0) k))) : am_AT 5 173 73 [some (mR 1 11 0 0), some (mB k)] g K := by
  have hN := (SV5_N H.1).1
  have hC := (SV5_N H.1).2
  have h4 := np_4 hN hC
  have w := (kd_c H z hk).1
  have s2 := lay_2 hN hC hk
  have pr := plc_r (n := h 6 0) (nr h 7 0) k
  have e := TW_n G
  have ew : g 154 k = iPop (lay (nr h 7 0) k 0) := (e.2.2.2.2 k).trans w
  have l1 := wdl_len (knd (h 6 0) (nr h 7 0) k)
  have l2 := dgl_len (iPop (lay (nr h 7 0) k 0))
  have l3 := nd3_r (iPop (lay (nr h 7 0) k 0))
  have l4 : (strl 3000001).length = 1 := by rw [strl_len, sl_1]; rfl
  have ge := G.2.1
  refine T173_73 ⟨by omega, ⟨by rw [ew]; omega, fun h' q1 => ⟨by
    have n := TW_n (TW_tr G q1)
    rw [n.1, n.2.2.1]
    exact ⟨TW_PI H (TW_tr G q1), z, hk⟩, ⟨fun c2 => ?_, fun c2 => ⟨by
    have := q1.2.1
    rw [ew] at this
    rw [sl_1]
    omega, fun h'_1 q3 => ⟨by
    have n := TW_n (TW_tr (TW_tr G q1) q3)
    rw [n.1, n.2.2.1]
    exact ⟨TW_PI H (TW_tr (TW_tr G q1) q3), z, hk⟩, ⟨by
    have n := TW_n (TW_tr (TW_tr G q1) q3)
    have a1 := q1.2.1
    rw [ew] at a1
    have a2 := q3.2.1
    rw [n.1, n.2.1]
    omega, fun h'_2 q4 => ?_⟩⟩⟩⟩⟩⟩⟩
  · rw [ew] at q1
    have A := TW_tr G q1
    have n := TW_n A
    rw [n.1, n.2.1] at c2
    refine hK _ ?_
    unfold ptl ptx
    rw [if_neg c2, List.append_nil]
    exact A
  · rw [ew] at q1
    have A := TW_tr G q1
    have n := TW_n A
    rw [n.1, n.2.1] at c2
    have B := TW_tr A q3
    have m := TW_n B
    rw [m.1, m.2.1] at q4
    refine hK _ ?_
    unfold ptl ptx
    rw [if_pos c2]
    have C := TW_tr G (TW_tr q1 (TW_tr q3 q4))
    exact C
theorem C173_ok : am_CS 5 173 C173 := W173 (fun k h K hb => by
  obtain ⟨⟨H, z, hk, hp⟩, hK⟩ := hb
  refine T173_0 ⟨⟨H, z, hk⟩, ⟨fun c1 => ⟨by rw [sl_6]; omega, fun h' q2 => ?_⟩, fun c1 => ⟨by rw [sl_12]; omega, fun h' q2 => ?_⟩, fun c1 => ⟨by rw [sl_10]; omega, fun h' q2 => ?_⟩, fun c1 => ⟨by rw [sl_3]; omega, fun h' q2 => ?_⟩, trivial⟩⟩
  · refine L173 H z hk hp hK ?_
    unfold wdl
    rw [if_neg (by omega), if_neg (by omega), if_neg (by omega)]
    exact q2
  · refine L173 H z hk hp hK ?_
    unfold wdl
    rw [if_pos c1]
    exact q2
  · refine L173 H z hk hp hK ?_
    unfold wdl
    rw [if_neg (by omega), if_pos c1]
    exact q2
  · refine L173 H z hk hp hK ?_
    unfold wdl
    rw [if_neg (by omega), if_neg (by omega), if_pos c1]
    exact q2)
/-! 115 FactorNets.tell -/
def C115 : am_K := fun as h K => am_a1 as (fun v0 => am_oc 11 0 v0 ((PI h) ∧ (∀ (h' : am_H), TLQ h h' → K (some (mB (ifc (0 < (h 6 0)) ((ttl (h 6 0) (nr h 7 0)).length : Nat) (-2)))) (h'))))
theorem W115 {d : Nat} (H : ∀  (h : am_H) (K : Option am_V → am_H → Prop), (PI h) ∧ (∀ (h' : am_H), TLQ h h' → K (some (mB (ifc (0 < (h 6 0)) ((ttl (h 6 0) (nr h 7 0)).length : Nat) (-2)))) (h')) → am_AT d 115 0 [some (mR 1 11 0 0), none] h K) : am_CS d 115 C115 := by
  refine am_CS_of (T := tb115) (mL := 2) (rk := 1) rfl (fun as h K hC => ?_)
  obtain ⟨v0, rfl, hC0⟩ := am_a1_e hC
  obtain ⟨e0, hC1⟩ := am_oc_e hC0
  subst e0
  refine ⟨Nat.le_of_ble_eq_true rfl, ?_⟩
  exact H  h K hC1
theorem T115_0 {R : Option am_V → am_H → Prop} {h : am_H} (t : ((¬ h 6 0 = 0) → ((PI h) ∧ (∀ (h' : am_H), (PQ h h' ∧ h' 0 16 = 1) → (((¬ h' 153 0 = 0) → (am_AT 7 115 44 [some (mR 1 11 0 0), some (mI 0)] (am_up h' 0 15 0) R)) ∧ ((h' 153 0 = 0) → (((0 ≤ (am_up h' 0 15 0) 0 15 ∧ (am_up h' 0 15 0) 0 15 + am_sl (3000007 : Int) ≤ 64)) ∧ (∀ (h'_1 : am_H), (TW 0 15 498 (am_up h' 0 15 0) h'_1 (strl (3000007 : Int))) → (am_AT 7 115 44 [some (mR 1 11 0 0), some (mI 0)] h'_1 R)))))))) ∧ ((h 6 0 = 0) → (R (some (mB (-2))) h))) : am_AT 7 115 0 [some (mR 1 11 0 0), none] h R :=
  am_T (d := 6) (m := 115) (T := tb115) (mL := 2) (rk := 1) (cuts := [(44, [1, 2])]) (l := [(154, C154), (173, C173), (174, C174)]) rfl ⟨am_CS_d (by decide) C154_ok, am_CS_d (by decide) C173_ok, am_CS_d (by decide) C174_ok, trivial⟩ 23 (And.intro (fun c8 => And.intro (rfl) (And.intro ((t).1 c8).1 (fun z16_0 z16_1 => And.intro (fun c9 => ((((t).1 c8).2) z16_0 z16_1).1 c9) (fun c9 => And.intro (rfl) (And.intro (((((t).1 c8).2) z16_0 z16_1).2 c9).1 (fun z17_0 z17_1 => ((((((t).1 c8).2) z16_0 z16_1).2 c9).2) z17_0 z17_1)))))) (fun c8 => (t).2 c8))
theorem T115_44 {R : Option am_V → am_H → Prop} {h : am_H} {x1 : Int} (t : (R32 x1) ∧ (((h 153 0 ≤ x1) → (R (some (mB (h 0 15))) h)) ∧ ((x1 < h 153 0) → ((R32 x1) ∧ (((x1 ≤ 0) → ((R32 x1) ∧ ((PI h ∧ h 0 16 = 1 ∧ (0 ≤ x1 ∧ x1 < (ncl (ptE (nr h 7 0)) (nl (nr h 7 0)))) ∧ (0 ≤ h 0 15 ∧ h 0 15 ≤ 50)) ∧ (∀ (h' : am_H), (TW 0 15 498 h h' (ptl (h 6 0) (nr h 7 0) x1)) → (am_AT 7 115 44 [some (mR 1 11 0 0), some (mI (x1 + 1))] h' R))))) ∧ ((0 < x1) → (((0 ≤ h 0 15 ∧ h 0 15 + am_sl (3000001 : Int) ≤ 64)) ∧ (∀ (h' : am_H), (TW 0 15 498 h h' (strl (3000001 : Int))) → ((R32 x1) ∧ ((PI h' ∧ h' 0 16 = 1 ∧ (0 ≤ x1 ∧ x1 < (ncl (ptE (nr h' 7 0)) (nl (nr h' 7 0)))) ∧ (0 ≤ h' 0 15 ∧ h' 0 15 ≤ 50)) ∧ (∀ (h'_1 : am_H), (TW 0 15 498 h' h'_1 (ptl (h' 6 0) (nr h' 7 0) x1)) → (am_AT 7 115 44 [some (mR 1 11 0 0), some (mI (x1 + 1))] h'_1 R)))))))))))) : am_AT 7 115 44 [some (mR 1 11 0 0), some (mI x1)] h R :=
  am_T (d := 6) (m := 115) (T := tb115) (mL := 2) (rk := 1) (cuts := [(44, [1, 2])]) (l := [(154, C154), (173, C173), (174, C174)]) rfl ⟨am_CS_d (by decide) C154_ok, am_CS_d (by decide) C173_ok, am_CS_d (by decide) C174_ok, trivial⟩ 19 (And.intro (t).1 (And.intro (fun c10 => ((t).2).1 c10) (fun c10 => And.intro (((t).2).2 c10).1 (And.intro (fun c11 => And.intro (((((t).2).2 c10).2).1 c11).1 (And.intro (rfl) (And.intro ((((((t).2).2 c10).2).1 c11).2).1 (fun z18_0 z18_1 => (((((((t).2).2 c10).2).1 c11).2).2) z18_0 z18_1)))) (fun c11 => And.intro (rfl) (And.intro (((((t).2).2 c10).2).2 c11).1 (fun z19_0 z19_1 => And.intro (((((((t).2).2 c10).2).2 c11).2) z19_0 z19_1).1 (And.intro (rfl) (And.intro ((((((((t).2).2 c10).2).2 c11).2) z19_0 z19_1).2).1 (fun z20_0 z20_1 => (((((((((t).2).2 c10).2).2 c11).2) z19_0 z19_1).2).2) z20_0 z20_1))))))))))
theorem TL_fin {h h' g : am_H} {l : List Int} (q : PQ h h') (h0 : 0 < h 6 0) (A : TW 0 15 498 (am_up h' 0 15 0) g l) (e : l = ttl (h 6 0) (nr h 7 0)) : TLQ h g := by
  have f : ∀ x i, ¬ (x = 0 ∧ i = 15) → x ≠ 498 → g x i = h' x i := fun x i a b => by rw [A.1 x i a b, am_up_n2 a]
  refine ⟨PI_fr q.1 (fun x i a => f x i (by omega) (by omega)), fun x i a b c d e => (f x i (by omega) e).trans (q.2.1 x i a b c (by omega)), ⟨(nr_fr2 (fun i => f _ _ (by omega) (by omega))).trans q.2.2.1.1, (f _ _ (by omega) (by omega)).trans q.2.2.1.2⟩, fun _ => ?_, fun z => absurd h0 z, fun z => by rw [f _ _ (by omega) (by omega)]; exact q.2.2.2.1 z⟩
  rw [← e]
  exact HT_of A am_up_eq
theorem L115 {K : Option am_V → am_H → Prop} {h h' : am_H} (q : PQ h h') (z : h' 0 16 = 1) (h0 : 0 < h 6 0) (hK : ∀ g, TLQ h g → K (some (mB ((ttl (h 6 0) (nr h 7 0)).length : Nat))) g) (hm : ncl (ptE (nr h 7 0)) (nl (nr h 7 0)) ≠ 0) : ∀ k, ∀ g : am_H, 0 ≤ k → k ≤ ncl (ptE (nr h 7 0)) (nl (nr h 7 0)) → TW 0 15 498 (am_up h' 0 15 0) g (ttk (h 6 0) (nr h 7 0) k.toNat) → am_AT 7 115 44 [some (mR 1 11 0 0), some (mI k)] g K := by
  have en := q.2.2.1
  have hN := (SV5_N q.1.1).1
  have hC := (SV5_N q.1.1).2
  have h4 := np_4 hN hC
  rw [en.1] at h4
  have hc := (PI_p q.1 z).1
  rw [en.1] at hc
  refine lp (ncl (ptE (nr h 7 0)) (nl (nr h 7 0))) (fun k ih g k0 k1 G => ?_)
  have f : ∀ x i, ¬ (x = 0 ∧ i = 15) → x ≠ 498 → g x i = h' x i := fun x i a b => by rw [G.1 x i a b, am_up_n2 a]
  have hg : PI g := PI_fr q.1 (fun x i a => f x i (by omega) (by omega))
  have e1 : nr g 7 0 = nr h 7 0 := (nr_fr2 (fun i => f _ _ (by omega) (by omega))).trans en.1
  have e2 : g 6 0 = h 6 0 := (f _ _ (by omega) (by omega)).trans en.2
  have e3 : g 153 0 = ncl (ptE (nr h 7 0)) (nl (nr h 7 0)) := (f _ _ (by omega) (by omega)).trans hc
  have e4 : g 0 16 = 1 := (f _ _ (by omega) (by omega)).trans z
  have lk := ttk_len (h 6 0) (nr h 7 0) k.toNat
  have gl := G.2.1
  rw [am_up_eq] at gl
  have l4 : (strl 3000001).length = 1 := by rw [strl_len, sl_1]; rfl
  have kt : ((k.toNat : Nat) : Int) = k := by omega
  refine T115_44 ⟨by omega, ⟨fun c1 => ?_, fun c1 => ⟨by omega, ⟨fun c2 => ⟨by omega, ⟨by rw [e1]; exact ⟨hg, e4, ⟨k0, by omega⟩, by omega⟩, fun h1 q3 => ?_⟩⟩, fun c2 => ⟨by rw [sl_1]; omega, fun h1 q3 => ⟨by omega, ⟨by
    have n := TW_n q3
    have a := q3.2.1
    rw [n.1, n.2.2.1, e1]
    exact ⟨TW_PI hg q3, e4, ⟨k0, by omega⟩, by omega⟩, fun h2 q4 => ?_⟩⟩⟩⟩⟩⟩⟩
  · have ek : k = ncl (ptE (nr h 7 0)) (nl (nr h 7 0)) := by omega
    have et : ttk (h 6 0) (nr h 7 0) k.toNat = ttl (h 6 0) (nr h 7 0) := by
      unfold ttl
      rw [if_neg hm, ek]
    refine am_rB (hK g (TL_fin q h0 G et)) ?_
    rw [gl, ← et]
    omega
  · rw [e1, e2] at q3
    have k00 : k = 0 := by omega
    refine ih (by omega) h1 (by omega) (by omega) ?_
    rw [k00] at G q3 ⊢
    have A := TW_tr G q3
    rw [show (0 + 1 : Int).toNat = 0 + 1 from rfl, ttk_0]
    exact A
  · have n := TW_n q3
    rw [n.1, n.2.1, e1, e2] at q4
    refine ih (by omega) h2 (by omega) (by omega) ?_
    rw [show (k + 1).toNat = k.toNat + 1 by omega, ttk_s (by omega), kt]
    exact TW_tr G (TW_tr q3 q4)
theorem C115_ok : am_CS 7 115 C115 := W115 (fun h K hb => by
  have hn := (SV5_N hb.1.1).1.1
  refine T115_0 ⟨fun c1 => ⟨hb.1, fun h' q2 => ⟨fun c3 => ?_, fun c3 => ⟨by rw [sl_7, am_up_eq]; omega, fun h'_1 q4 => ?_⟩⟩⟩, fun c1 => ?_⟩
  · have hc := (PI_p q2.1.1 q2.2).1
    rw [q2.1.2.2.1.1] at hc
    exact L115 q2.1 q2.2 (by omega) (fun g G => am_rB (hb.2 g G) (ifc_t (by omega))) (by rw [← hc]; exact c3) 0 _ (by omega) (by have := ncl_r (ptE (nr h 7 0)) (nr h 7 0); omega) TW_0
  · have hc := (PI_p q2.1.1 q2.2).1
    rw [q2.1.2.2.1.1] at hc
    have et : strl 3000007 = ttl (h 6 0) (nr h 7 0) := by
      unfold ttl
      rw [if_pos (by rw [← hc]; exact c3)]
    have G := TL_fin q2.1 (by omega) q4 et
    have e3 : h'_1 153 0 = 0 := by rw [q4.1 _ _ (by omega) (by omega), am_up_n2 (by omega)]; exact c3
    have gl := q4.2.1
    rw [am_up_eq] at gl
    refine T115_44 ⟨by omega, fun _ => am_rB (hb.2 _ G) ?_, fun z => by omega⟩
    rw [ifc_t (by omega), gl, ← et]
    omega
  · exact am_rB (hb.2 h ⟨hb.1, fun _ _ _ _ _ _ _ => rfl, ⟨rfl, rfl⟩, fun z => by omega, fun _ => ⟨rfl, fun _ => rfl⟩, id⟩) (ifc_f (by omega)))
/-! 250 FactorNetsModel.says -/
def C250 : am_K := fun as h K => am_a2 as (fun v0 v1 => am_oc 12 571 v0 (am_r 9 0 0 v1 (fun tx => ((0 ≤ h 571 29 ∧ h 571 29 + am_sl tx ≤ 400)) ∧ (∀ (h' : am_H), TW 571 29 587 h h' (strl tx) → K (none) (h')))))
theorem W250 {d : Nat} (H : ∀ (tx : Int) (h : am_H) (K : Option am_V → am_H → Prop), ((0 ≤ h 571 29 ∧ h 571 29 + am_sl tx ≤ 400)) ∧ (∀ (h' : am_H), TW 571 29 587 h h' (strl tx) → K (none) (h')) → am_AT d 250 0 [some (mR 1 12 0 571), some (mR 9 0 0 tx), none] h K) : am_CS d 250 C250 := by
  refine am_CS_of (T := tb250) (mL := 3) (rk := 0) rfl (fun as h K hC => ?_)
  obtain ⟨v0, v1, rfl, hC0⟩ := am_a2_e hC
  obtain ⟨e0, hC1⟩ := am_oc_e hC0
  subst e0
  obtain ⟨tx, rfl, hC2⟩ := am_r_e hC1
  refine ⟨Nat.le_of_ble_eq_true rfl, ?_⟩
  exact H tx h K hC2
theorem T250_0 {R : Option am_V → am_H → Prop} {h : am_H} {tx : Int} (t : am_AT 1 250 2 [some (mR 1 12 0 571), some (mR 9 0 0 tx), some (mI 0)] h R) : am_AT 1 250 0 [some (mR 1 12 0 571), some (mR 9 0 0 tx), none] h R :=
  am_T (d := 0) (m := 250) (T := tb250) (mL := 3) (rk := 0) (cuts := [(2, [1, 1, 2])]) (l := []) rfl trivial 6 (t)
theorem T250_2 {R : Option am_V → am_H → Prop} {h : am_H} {tx : Int} {x2 : Int} (t : (R32 x2) ∧ (((am_sl tx ≤ x2) → (R none h)) ∧ ((x2 < am_sl tx) → ((0 ≤ x2 ∧ x2 < am_sl tx) ∧ ((0 ≤ h 571 29 ∧ h 571 29 < 400) ∧ ((R32 ((h 571 29) + 1)) ∧ (am_AT 1 250 2 [some (mR 1 12 0 571), some (mR 9 0 0 tx), some (mI (x2 + 1))] (am_up (am_up h 587 (h 571 29) (am_sc tx x2)) 571 29 ((h 571 29) + 1)) R))))))) : am_AT 1 250 2 [some (mR 1 12 0 571), some (mR 9 0 0 tx), some (mI x2)] h R :=
  am_T (d := 0) (m := 250) (T := tb250) (mL := 3) (rk := 0) (cuts := [(2, [1, 1, 2])]) (l := []) rfl trivial 24 (And.intro (t).1 (And.intro (fun c12 => ((t).2).1 c12) (fun c12 => And.intro (((t).2).2 c12).1 (And.intro ((((t).2).2 c12).2).1 (And.intro (((((t).2).2 c12).2).2).1 ((((((t).2).2 c12).2).2).2))))))
theorem L250 {K : Option am_V → am_H → Prop} {h : am_H} {tx : Int} (h0 : 0 ≤ h 571 29 ∧ h 571 29 + am_sl tx ≤ 400) (ht : 0 ≤ am_sl tx) (hK : ∀ g, TW 571 29 587 h g (strl tx) → K none g) : ∀ j, ∀ g : am_H, 0 ≤ j → j ≤ am_sl tx → TW 571 29 587 h g (strn tx j.toNat) → am_AT 1 250 2 [some (mR 1 12 0 571), some (mR 9 0 0 tx), some (mI j)] g K := by
  refine lp (am_sl tx) (fun j ih g j0 j1 G => ?_)
  have e := G.2.1
  have el : (strn tx j.toNat).length = j.toNat := by unfold strn; rw [List.length_map, List.length_range]
  refine T250_2 ⟨by omega, ⟨fun c1 => ?_, fun c1 => ⟨by omega, ⟨by omega, ⟨by omega, ?_⟩⟩⟩⟩⟩
  · rw [show j = am_sl tx by omega] at G
    exact hK g G
  · refine ih c1 _ (by omega) (by omega) ?_
    rw [show (j + 1).toNat = j.toNat + 1 by omega, strn_s, show ((j.toNat : Nat) : Int) = j by omega]
    exact TW_tr G (TW_1 (by omega))
theorem C250_ok : am_CS 1 250 C250 := W250 (fun tx h K hb => by
  have ht : 0 ≤ am_sl tx := by unfold am_sl; omega
  exact T250_0 (L250 hb.1 ht hb.2 0 h (by omega) ht TW_0))
/-! 251 FactorNetsModel.saysNumber -/
def C251 (f : Nat) : am_K := fun as h K => am_a2 as (fun v0 v1 => am_oc 12 571 v0 (am_n v1 (fun n => ((0 ≤ n ∧ n < 1000 ∧ nd3 n < f) ∧ (0 ≤ h 571 29 ∧ h 571 29 + nd3 n < 400)) ∧ (∀ (h' : am_H), TW 571 29 587 h h' (dgl n) → K (none) (h')))))
theorem W251 {d : Nat} (f : Nat) (H : ∀ (n : Int) (h : am_H) (K : Option am_V → am_H → Prop), ((0 ≤ n ∧ n < 1000 ∧ nd3 n < f) ∧ (0 ≤ h 571 29 ∧ h 571 29 + nd3 n < 400)) ∧ (∀ (h' : am_H), TW 571 29 587 h h' (dgl n) → K (none) (h')) → am_AT d 251 0 [some (mR 1 12 0 571), some (mB n)] h K) : am_CS d 251 (C251 f) := by
  refine am_CS_of (T := tb251) (mL := 2) (rk := 0) rfl (fun as h K hC => ?_)
  obtain ⟨v0, v1, rfl, hC0⟩ := am_a2_e hC
  obtain ⟨e0, hC1⟩ := am_oc_e hC0
  subst e0
  obtain ⟨n, rfl, hC2⟩ := am_n_e hC1
  refine ⟨Nat.le_of_ble_eq_true rfl, ?_⟩
  exact H n h K hC2
theorem T251_0 {R : Option am_V → am_H → Prop} {h : am_H} {n : Int} {d f : Nat} (hr : am_CS d 251 (C251 f)) (t : ((n ≤ 9) → ((0 ≤ h 571 29 ∧ h 571 29 < 400) ∧ ((R32 (48 + (Int.tmod n 10))) ∧ ((R32 ((h 571 29) + 1)) ∧ (R none (am_up (am_up h 587 (h 571 29) (48 + (Int.tmod n 10))) 571 29 ((h 571 29) + 1))))))) ∧ ((9 < n) → ((R32 (Int.tdiv n 10)) ∧ (((0 ≤ (Int.tdiv n 10) ∧ (Int.tdiv n 10) < 1000 ∧ nd3 (Int.tdiv n 10) < f) ∧ (0 ≤ h 571 29 ∧ h 571 29 + nd3 (Int.tdiv n 10) < 400)) ∧ (∀ (h' : am_H), (TW 571 29 587 h h' (dgl (Int.tdiv n 10))) → ((0 ≤ h' 571 29 ∧ h' 571 29 < 400) ∧ ((R32 (48 + (Int.tmod n 10))) ∧ ((R32 ((h' 571 29) + 1)) ∧ (R none (am_up (am_up h' 587 (h' 571 29) (48 + (Int.tmod n 10))) 571 29 ((h' 571 29) + 1))))))))))) : am_AT (d + 1) 251 0 [some (mR 1 12 0 571), some (mB n)] h R :=
  am_T (d := d) (m := 251) (T := tb251) (mL := 2) (rk := 0) (cuts := []) (l := [(251, (C251 f))]) rfl ⟨hr, trivial⟩ 29 (And.intro (fun c13 => And.intro (by decide) (And.intro ((t).1 c13).1 (And.intro (((t).1 c13).2).1 (And.intro ((((t).1 c13).2).2).1 (((((t).1 c13).2).2).2))))) (fun c13 => And.intro (by decide) (And.intro ((t).2 c13).1 (And.intro (rfl) (And.intro (((t).2 c13).2).1 (fun z21_0 z21_1 => And.intro (by decide) (And.intro (((((t).2 c13).2).2) z21_0 z21_1).1 (And.intro ((((((t).2 c13).2).2) z21_0 z21_1).2).1 (And.intro (((((((t).2 c13).2).2) z21_0 z21_1).2).2).1 ((((((((t).2 c13).2).2) z21_0 z21_1).2).2).2))))))))))
theorem C251_ok : ∀ f : Nat, am_CS (f + 1) 251 (C251 f)
  | 0 => W251 0 (fun n h K hb => by
    have h1 := (nd3_r n).1
    have h2 := hb.1.1.2.2
    exfalso
    omega)
  | f + 1 => W251 (f + 1) (fun n h K hb => by
    obtain ⟨⟨hn, hp⟩, hK⟩ := hb
    have hr := C251_ok f
    have nr3 := nd3_r n
    have t10 := td_10 hn.1
    have r1 := tm_10 hn.1
    have w : 9 < n → nd3 (Int.tdiv n 10) + 1 = nd3 n := fun a => nd3_s a hn.2.1
    have w0 := nd3_r (Int.tdiv n 10)
    have dl := dgl_len (Int.tdiv n 10)
    have hf := hn.2.2
    have hf2 : nd3 n < (f : Int) + 1 := by omega
    refine T251_0 hr ⟨fun c1 => ⟨by omega, ⟨by omega, ⟨by omega, ?_⟩⟩⟩, fun c1 => ⟨by omega, ⟨by have := w c1; omega, fun h' q2 => ⟨by have := w c1; have := q2.2.1; omega, ⟨by omega, ⟨by have := w c1; have := q2.2.1; omega, ?_⟩⟩⟩⟩⟩⟩
    · have q := TW_1 (c := 571) (k := 29) (q := 587) (s := 48 + Int.tmod n 10) (h := h) (by omega)
      rw [← dgl_a (by omega)] at q
      exact hK _ q
    · have q := TW_tr q2 (TW_1 (s := 48 + Int.tmod n 10) (by omega))
      rw [dgl_s c1 hn.2.1] at q
      exact hK _ q)
def C251b : am_K := fun as h K => am_a2 as (fun v0 v1 => am_oc 12 571 v0 (am_n v1 (fun n => ((0 ≤ n ∧ n < 1000 ∧ nd3 n < 3) ∧ (0 ≤ h 571 29 ∧ h 571 29 + nd3 n < 400)) ∧ (∀ (h' : am_H), TW 571 29 587 h h' (dgl n) → K (none) (h')))))
theorem C251b_ok : am_CS 4 251 C251b := C251_ok 3
/-! 252 FactorNetsModel.tell -/
def C252 : am_K := fun as h K => am_a1 as (fun v0 => am_oc 12 571 v0 ((RIv h) ∧ (∀ (h' : am_H), TRQ h h' → K (some (mB (ifc (0 < (h 572 0)) ((ttl (h 572 0) (nr h 572 2)).length : Nat) (-2)))) (h'))))
theorem W252 {d : Nat} (H : ∀  (h : am_H) (K : Option am_V → am_H → Prop), (RIv h) ∧ (∀ (h' : am_H), TRQ h h' → K (some (mB (ifc (0 < (h 572 0)) ((ttl (h 572 0) (nr h 572 2)).length : Nat) (-2)))) (h')) → am_AT d 252 0 [some (mR 1 12 0 571), none, none] h K) : am_CS d 252 C252 := by
  refine am_CS_of (T := tb252) (mL := 3) (rk := 1) rfl (fun as h K hC => ?_)
  obtain ⟨v0, rfl, hC0⟩ := am_a1_e hC
  obtain ⟨e0, hC1⟩ := am_oc_e hC0
  subst e0
  refine ⟨Nat.le_of_ble_eq_true rfl, ?_⟩
  exact H  h K hC1
theorem T252_0 {R : Option am_V → am_H → Prop} {h : am_H} (t : ((0 < h 572 0) → ((RIv h) ∧ (∀ (h' : am_H), (LD h h') → (am_AT 5 252 21 [some (mR 1 12 0 571), some (mI 0), none] (am_up h' 571 29 0) R)))) ∧ ((¬ (0 < h 572 0)) → (R (some (mB (-2))) h))) : am_AT 5 252 0 [some (mR 1 12 0 571), none, none] h R :=
  am_T (d := 4) (m := 252) (T := tb252) (mL := 3) (rk := 1) (cuts := [(21, [1, 2, 0]), (52, [1, 2, 2]), (91, [1, 2, 2])]) (l := [(209, C209), (220, C220), (237, C237), (247, C247), (248, C248), (250, C250), (251, C251b), (317, C317)]) rfl ⟨am_CS_d (by decide) C209_ok, am_CS_d (by decide) C220_ok, am_CS_d (by decide) C237_ok, am_CS_d (by decide) C247_ok, am_CS_d (by decide) C248_ok, am_CS_d (by decide) C250_ok, am_CS_d (by decide) C251b_ok, am_CS_d (by decide) C317_ok, trivial⟩ 14 (And.intro (rfl) (And.intro (fun c14 => And.intro (rfl) (And.intro ((t).1 c14).1 (fun z22_0 z22_1 => (((t).1 c14).2) z22_0 z22_1))) (fun c14 => (t).2 c14)))
theorem T252_21 {R : Option am_V → am_H → Prop} {h : am_H} {x1 : Int} (t : (R32 x1) ∧ (((h 571 24 ≤ x1) → (((¬ h 571 24 = 0) → (R (some (mB (h 571 29))) h)) ∧ ((h 571 24 = 0) → (((0 ≤ h 571 29 ∧ h 571 29 + am_sl (3000007 : Int) ≤ 400)) ∧ (∀ (h' : am_H), (TW 571 29 587 h h' (strl (3000007 : Int))) → (R (some (mB (h' 571 29))) h')))))) ∧ ((x1 < h 571 24) → ((R32 x1) ∧ (((NT (h 572 0) (nr h 572 2) ∧ CN (h 572 0) (nr h 572 2) ∧ RLd h (h 572 0) (nr h 572 2)) ∧ (0 ≤ x1 ∧ x1 < ncl (ptE (nr h 572 2)) (nl (nr h 572 2)))) ∧ ((R32 x1) ∧ (((x1 ≤ 0) → (((0 ≤ h 571 29 ∧ h 571 29 + am_sl (3000000 : Int) ≤ 400)) ∧ (∀ (h' : am_H), (TW 571 29 587 h h' (strl (3000000 : Int))) → (am_AT 5 252 52 [some (mR 1 12 0 571), some (mI x1), some (mI (knd (h 572 0) (nr h 572 2) x1))] h' R)))) ∧ ((0 < x1) → (((0 ≤ h 571 29 ∧ h 571 29 + am_sl (3000001 : Int) ≤ 400)) ∧ (∀ (h' : am_H), (TW 571 29 587 h h' (strl (3000001 : Int))) → (am_AT 5 252 52 [some (mR 1 12 0 571), some (mI x1), some (mI (knd (h 572 0) (nr h 572 2) x1))] h' R))))))))))) : am_AT 5 252 21 [some (mR 1 12 0 571), some (mI x1), none] h R :=
  am_T (d := 4) (m := 252) (T := tb252) (mL := 3) (rk := 1) (cuts := [(21, [1, 2, 0]), (52, [1, 2, 2]), (91, [1, 2, 2])]) (l := [(209, C209), (220, C220), (237, C237), (247, C247), (248, C248), (250, C250), (251, C251b), (317, C317)]) rfl ⟨am_CS_d (by decide) C209_ok, am_CS_d (by decide) C220_ok, am_CS_d (by decide) C237_ok, am_CS_d (by decide) C247_ok, am_CS_d (by decide) C248_ok, am_CS_d (by decide) C250_ok, am_CS_d (by decide) C251b_ok, am_CS_d (by decide) C317_ok, trivial⟩ 18 (And.intro (t).1 (And.intro (fun c15 => And.intro (fun c16 => (((t).2).1 c15).1 c16) (fun c16 => And.intro (rfl) (And.intro ((((t).2).1 c15).2 c16).1 (fun z23_0 z23_1 => (((((t).2).1 c15).2 c16).2) z23_0 z23_1)))) (fun c15 => And.intro (((t).2).2 c15).1 (And.intro (rfl) (And.intro ((((t).2).2 c15).2).1 (And.intro (((((t).2).2 c15).2).2).1 (And.intro (fun c17 => And.intro (rfl) (And.intro (((((((t).2).2 c15).2).2).2).1 c17).1 (fun z24_0 z24_1 => ((((((((t).2).2 c15).2).2).2).1 c17).2) z24_0 z24_1))) (fun c17 => And.intro (rfl) (And.intro (((((((t).2).2 c15).2).2).2).2 c17).1 (fun z25_0 z25_1 => ((((((((t).2).2 c15).2).2).2).2 c17).2) z25_0 z25_1))))))))))
theorem T252_52 {R : Option am_V → am_H → Prop} {h : am_H} {x1 : Int} {x2 : Int} (t : (R32 x2) ∧ (((¬ x2 = 0) → ((R32 x2) ∧ (((¬ x2 = 1) → ((R32 x2) ∧ (((¬ x2 = 2) → (((0 ≤ h 571 29 ∧ h 571 29 + am_sl (3000006 : Int) ≤ 400)) ∧ (∀ (h' : am_H), (TW 571 29 587 h h' (strl (3000006 : Int))) → (am_AT 5 252 91 [some (mR 1 12 0 571), some (mI x1), some (mI x2)] h' R)))) ∧ ((x2 = 2) → (((0 ≤ h 571 29 ∧ h 571 29 + am_sl (3000003 : Int) ≤ 400)) ∧ (∀ (h' : am_H), (TW 571 29 587 h h' (strl (3000003 : Int))) → (am_AT 5 252 91 [some (mR 1 12 0 571), some (mI x1), some (mI x2)] h' R))))))) ∧ ((x2 = 1) → (((0 ≤ h 571 29 ∧ h 571 29 + am_sl (3000010 : Int) ≤ 400)) ∧ (∀ (h' : am_H), (TW 571 29 587 h h' (strl (3000010 : Int))) → (am_AT 5 252 91 [some (mR 1 12 0 571), some (mI x1), some (mI x2)] h' R))))))) ∧ ((x2 = 0) → (((0 ≤ h 571 29 ∧ h 571 29 + am_sl (3000012 : Int) ≤ 400)) ∧ (∀ (h' : am_H), (TW 571 29 587 h h' (strl (3000012 : Int))) → (am_AT 5 252 91 [some (mR 1 12 0 571), some (mI x1), some (mI x2)] h' R)))))) : am_AT 5 252 52 [some (mR 1 12 0 571), some (mI x1), some (mI x2)] h R :=
  am_T (d := 4) (m := 252) (T := tb252) (mL := 3) (rk := 1) (cuts := [(21, [1, 2, 0]), (52, [1, 2, 2]), (91, [1, 2, 2])]) (l := [(209, C209), (220, C220), (237, C237), (247, C247), (248, C248), (250, C250), (251, C251b), (317, C317)]) rfl ⟨am_CS_d (by decide) C209_ok, am_CS_d (by decide) C220_ok, am_CS_d (by decide) C237_ok, am_CS_d (by decide) C247_ok, am_CS_d (by decide) C248_ok, am_CS_d (by decide) C250_ok, am_CS_d (by decide) C251b_ok, am_CS_d (by decide) C317_ok, trivial⟩ 16 (And.intro (t).1 (And.intro (fun c18 => And.intro (((t).2).1 c18).1 (And.intro (fun c19 => And.intro (((((t).2).1 c18).2).1 c19).1 (And.intro (fun c20 => And.intro (rfl) (And.intro (((((((t).2).1 c18).2).1 c19).2).1 c20).1 (fun z26_0 z26_1 => ((((((((t).2).1 c18).2).1 c19).2).1 c20).2) z26_0 z26_1))) (fun c20 => And.intro (rfl) (And.intro (((((((t).2).1 c18).2).1 c19).2).2 c20).1 (fun z27_0 z27_1 => ((((((((t).2).1 c18).2).1 c19).2).2 c20).2) z27_0 z27_1))))) (fun c19 => And.intro (rfl) (And.intro (((((t).2).1 c18).2).2 c19).1 (fun z28_0 z28_1 => ((((((t).2).1 c18).2).2 c19).2) z28_0 z28_1))))) (fun c18 => And.intro (rfl) (And.intro (((t).2).2 c18).1 (fun z29_0 z29_1 => ((((t).2).2 c18).2) z29_0 z29_1)))))
theorem T252_91 {R : Option am_V → am_H → Prop} {h : am_H} {x1 : Int} {x2 : Int} (t : (R32 x1) ∧ (((NT (h 572 0) (nr h 572 2) ∧ CN (h 572 0) (nr h 572 2) ∧ RLd h (h 572 0) (nr h 572 2)) ∧ (0 ≤ (0 : Int) ∧ (0 : Int) < (h 572 0))) ∧ ((0 ≤ (mkb (rc (RA (nr h 572 2) (fun x => ¬ (x = x1 ↔ ((0 : Int) = 1)))) (0 : Int))) ∧ (mkb (rc (RA (nr h 572 2) (fun x => ¬ (x = x1 ↔ ((0 : Int) = 1)))) (0 : Int))) < 2147483648) ∧ (((0 ≤ (iPop (mkb (rc (RA (nr h 572 2) (fun x => ¬ (x = x1 ↔ ((0 : Int) = 1)))) (0 : Int)))) ∧ (iPop (mkb (rc (RA (nr h 572 2) (fun x => ¬ (x = x1 ↔ ((0 : Int) = 1)))) (0 : Int)))) < 1000 ∧ nd3 (iPop (mkb (rc (RA (nr h 572 2) (fun x => ¬ (x = x1 ↔ ((0 : Int) = 1)))) (0 : Int)))) < 3) ∧ (0 ≤ h 571 29 ∧ h 571 29 + nd3 (iPop (mkb (rc (RA (nr h 572 2) (fun x => ¬ (x = x1 ↔ ((0 : Int) = 1)))) (0 : Int)))) < 400)) ∧ (∀ (h' : am_H), (TW 571 29 587 h h' (dgl (iPop (mkb (rc (RA (nr h 572 2) (fun x => ¬ (x = x1 ↔ ((0 : Int) = 1)))) (0 : Int)))))) → ((R32 x2) ∧ (((¬ x2 = 3) → (am_AT 5 252 21 [some (mR 1 12 0 571), some (mI (x1 + 1)), none] h' R)) ∧ ((x2 = 3) → (((0 ≤ h' 571 29 ∧ h' 571 29 + am_sl (3000001 : Int) ≤ 400)) ∧ (∀ (h'_1 : am_H), (TW 571 29 587 h' h'_1 (strl (3000001 : Int))) → ((R32 x1) ∧ (((NT (h'_1 572 0) (nr h'_1 572 2) ∧ CN (h'_1 572 0) (nr h'_1 572 2) ∧ RLd h'_1 (h'_1 572 0) (nr h'_1 572 2)) ∧ 0 < (h'_1 572 0)) ∧ (((0 ≤ (plc (h'_1 572 0) (nr h'_1 572 2) x1) ∧ (plc (h'_1 572 0) (nr h'_1 572 2) x1) < 1000 ∧ nd3 (plc (h'_1 572 0) (nr h'_1 572 2) x1) < 3) ∧ (0 ≤ h'_1 571 29 ∧ h'_1 571 29 + nd3 (plc (h'_1 572 0) (nr h'_1 572 2) x1) < 400)) ∧ (∀ (h'_2 : am_H), (TW 571 29 587 h'_1 h'_2 (dgl (plc (h'_1 572 0) (nr h'_1 572 2) x1))) → (am_AT 5 252 21 [some (mR 1 12 0 571), some (mI (x1 + 1)), none] h'_2 R))))))))))))))) : am_AT 5 252 91 [some (mR 1 12 0 571), some (mI x1), some (mI x2)] h R :=
  am_T (d := 4) (m := 252) (T := tb252) (mL := 3) (rk := 1) (cuts := [(21, [1, 2, 0]), (52, [1, 2, 2]), (91, [1, 2, 2])]) (l := [(209, C209), (220, C220), (237, C237), (247, C247), (248, C248), (250, C250), (251, C251b), (317, C317)]) rfl ⟨am_CS_d (by decide) C209_ok, am_CS_d (by decide) C220_ok, am_CS_d (by decide) C237_ok, am_CS_d (by decide) C247_ok, am_CS_d (by decide) C248_ok, am_CS_d (by decide) C250_ok, am_CS_d (by decide) C251b_ok, am_CS_d (by decide) C317_ok, trivial⟩ 25 (And.intro (t).1 (And.intro (rfl) (And.intro (Or.inl rfl) (And.intro ((t).2).1 (And.intro (((t).2).2).1 (And.intro (rfl) (And.intro ((((t).2).2).2).1 (fun z30_0 z30_1 => And.intro ((((((t).2).2).2).2) z30_0 z30_1).1 (And.intro (fun c21 => (((((((t).2).2).2).2) z30_0 z30_1).2).1 c21) (fun c21 => And.intro (rfl) (And.intro ((((((((t).2).2).2).2) z30_0 z30_1).2).2 c21).1 (fun z31_0 z31_1 => And.intro ((((((((((t).2).2).2).2) z30_0 z30_1).2).2 c21).2) z31_0 z31_1).1 (And.intro (rfl) (And.intro (((((((((((t).2).2).2).2) z30_0 z30_1).2).2 c21).2) z31_0 z31_1).2).1 (And.intro (rfl) (And.intro ((((((((((((t).2).2).2).2) z30_0 z30_1).2).2 c21).2) z31_0 z31_1).2).2).1 (fun z32_0 z32_1 => (((((((((((((t).2).2).2).2) z30_0 z30_1).2).2 c21).2) z31_0 z31_1).2).2).2) z32_0 z32_1)))))))))))))))))
theorem L252c {K : Option am_V → am_H → Prop} {h h1 : am_H} (H : RIv h1) (z : h1 571 17 = 1) (h0 : 0 < h1 572 0) (e29 : h1 571 29 = 0) {k : Int} (hk : 0 ≤ k ∧ k < ncl (ptE (nr h1 572 2)) (nl (nr h1 572 2))) {l : List Int} (hl : l.length ≤ 50) (nx : ∀ g, TW 571 29 587 h1 g (l ++ ptl (h1 572 0) (nr h1 572 2) k) → am_AT 5 252 21 [some (mR 1 12 0 571), some (mI (k + 1)), none] g K) {g : am_H} (G : TW 571 29 587 h1 g (l ++ wdl (knd (h1 572 0) (nr h1 572 2) k))) (kr : R32 (knd (h1 572 0) (nr h1 572 2) k)) : am_AT 5 252 91 [some (mR 1 12 0 571), some (mI k), some (mI (knd (h1 572 0) (nr h1 572 2) k))] g K := by
  have T := TL_a H z (fun x i a b => G.1 x i a b)
  have h4 := np_4 H.1 H.2.1
  have s2 := iPop_le20 (S20_lay (r := nr h1 572 2) k 0)
  have ss := S20_lay (r := nr h1 572 2) k 0
  have ss1 := ss.1
  have ss2 := ss.2
  have pr := plc_r (n := h1 572 0) (nr h1 572 2) k
  have er : mkb (rc (RA (nr g 572 2) (fun x => ¬ (x = k ↔ ((0 : Int) = 1)))) (0 : Int)) = lay (nr h1 572 2) k 0 := by rw [RA_0, T.2.1]; rfl
  have l1 := wdl_len (knd (h1 572 0) (nr h1 572 2) k)
  have l2 := dgl_len (iPop (lay (nr h1 572 2) k 0))
  have l3 := nd3_r (iPop (lay (nr h1 572 2) k 0))
  have l5 := nd3_r (plc (h1 572 0) (nr h1 572 2) k)
  have l4 : (strl 3000001).length = 1 := by rw [strl_len, sl_1]; rfl
  have ge := G.2.1
  rw [List.length_append, e29] at ge
  refine T252_91 ⟨by omega, ⟨⟨T.1, by omega, by rw [T.2.2.1]; exact h0⟩, ⟨by rw [er]; omega, ⟨by rw [er]; omega, fun h' q1 => ⟨by omega, ⟨fun c2 => ?_, fun c2 => ⟨by rw [er] at q1; have := q1.2.1; rw [sl_1]; omega, fun h'_1 q3 => ⟨by omega, ⟨by
    rw [er] at q1
    have T2 := TL_a H z (fun x i a b => (TW_tr (TW_tr G q1) q3).1 x i a b)
    exact ⟨T2.1, by rw [T2.2.2.1]; exact h0⟩, ⟨by
    rw [er] at q1
    have T2 := TL_a H z (fun x i a b => (TW_tr (TW_tr G q1) q3).1 x i a b)
    have a1 := q1.2.1
    have a2 := q3.2.1
    rw [T2.2.1, T2.2.2.1]
    omega, fun h'_2 q4 => ?_⟩⟩⟩⟩⟩⟩⟩⟩⟩⟩
  · rw [er] at q1
    refine nx h' ?_
    unfold ptl ptx
    rw [if_neg c2, List.append_nil, ← List.append_assoc]
    exact TW_tr G q1
  · rw [er] at q1
    have T2 := TL_a H z (fun x i a b => (TW_tr (TW_tr G q1) q3).1 x i a b)
    rw [T2.2.1, T2.2.2.1] at q4
    refine nx h'_2 ?_
    unfold ptl ptx
    rw [if_pos c2, ← List.append_assoc]
    exact TW_tr G (TW_tr q1 (TW_tr q3 q4))
theorem L252b {K : Option am_V → am_H → Prop} {h h1 : am_H} (H : RIv h1) (z : h1 571 17 = 1) (h0 : 0 < h1 572 0) (e29 : h1 571 29 = 0) {k : Int} (hk : 0 ≤ k ∧ k < ncl (ptE (nr h1 572 2)) (nl (nr h1 572 2))) {l : List Int} (hl : l.length ≤ 50) (nx : ∀ g, TW 571 29 587 h1 g (l ++ ptl (h1 572 0) (nr h1 572 2) k) → am_AT 5 252 21 [some (mR 1 12 0 571), some (mI (k + 1)), none] g K) {g : am_H} (G : TW 571 29 587 h1 g l) (kr : R32 (knd (h1 572 0) (nr h1 572 2) k)) : am_AT 5 252 52 [some (mR 1 12 0 571), some (mI k), some (mI (knd (h1 572 0) (nr h1 572 2) k))] g K := by
  have ge := G.2.1
  rw [e29] at ge
  refine T252_52 ⟨by omega, ⟨fun c1 => ⟨by omega, ⟨fun c2 => ⟨by omega, ⟨fun c3 => ⟨by rw [sl_6]; omega, fun h' q4 => ?_⟩, fun c3 => ⟨by rw [sl_3]; omega, fun h' q4 => ?_⟩⟩⟩, fun c2 => ⟨by rw [sl_10]; omega, fun h' q3 => ?_⟩⟩⟩, fun c1 => ⟨by rw [sl_12]; omega, fun h' q2 => ?_⟩⟩⟩
  · refine L252c (h := h) H z h0 e29 hk hl nx ?_ kr
    unfold wdl
    rw [if_neg c1, if_neg c2, if_neg c3]
    exact TW_tr G q4
  · refine L252c (h := h) H z h0 e29 hk hl nx ?_ kr
    unfold wdl
    rw [if_neg c1, if_neg c2, if_pos c3]
    exact TW_tr G q4
  · refine L252c (h := h) H z h0 e29 hk hl nx ?_ kr
    unfold wdl
    rw [if_neg c1, if_pos c2]
    exact TW_tr G q3
  · refine L252c (h := h) H z h0 e29 hk hl nx ?_ kr
    unfold wdl
    rw [if_pos c1]
    exact TW_tr G q2
theorem L252 {K : Option am_V → am_H → Prop} {h h1 : am_H} (H : RIv h1) (z : h1 571 17 = 1) (h0 : 0 < h1 572 0) (e29 : h1 571 29 = 0) (hK : ∀ g, TW 571 29 587 h1 g (ttl (h1 572 0) (nr h1 572 2)) → K (some (mB ((ttl (h1 572 0) (nr h1 572 2)).length : Nat))) g) : ∀ k, ∀ g : am_H, 0 ≤ k → k ≤ ncl (ptE (nr h1 572 2)) (nl (nr h1 572 2)) → TW 571 29 587 h1 g (ttk (h1 572 0) (nr h1 572 2) k.toNat) → am_AT 5 252 21 [some (mR 1 12 0 571), some (mI k), none] g K := by
  have h4 := np_4 H.1 H.2.1
  refine lp (ncl (ptE (nr h1 572 2)) (nl (nr h1 572 2))) (fun k ih g k0 k1 G => ?_)
  have T := TL_a H z (fun x i a b => G.1 x i a b)
  have lk := ttk_len (h1 572 0) (nr h1 572 2) k.toNat
  have gl := G.2.1
  rw [e29] at gl
  have l4 : (strl 3000001).length = 1 := by rw [strl_len, sl_1]; rfl
  have kt : ((k.toNat : Nat) : Int) = k := by omega
  have kr := knd_r (h1 572 0) (nr h1 572 2) k
  refine T252_21 ⟨by omega, ⟨fun c1 => ⟨fun c2 => ?_, fun c2 => ⟨by rw [sl_7]; omega, fun h' q3 => ?_⟩⟩, fun c1 => ⟨by omega, ⟨⟨T.1, by rw [T.2.1]; omega⟩, ⟨by omega, ⟨fun c2 => ⟨by rw [sl_0]; omega, fun h' q3 => ?_⟩, fun c2 => ⟨by rw [sl_1]; omega, fun h' q3 => ?_⟩⟩⟩⟩⟩⟩⟩
  · have ek : k = ncl (ptE (nr h1 572 2)) (nl (nr h1 572 2)) := by omega
    have et : ttk (h1 572 0) (nr h1 572 2) k.toNat = ttl (h1 572 0) (nr h1 572 2) := by
      unfold ttl
      rw [if_neg (by rw [← T.2.2.2]; exact c2), ek]
    rw [et] at G
    refine am_rB (hK g G) ?_
    rw [gl, ← et]
    omega
  · have et : strl 3000007 = ttl (h1 572 0) (nr h1 572 2) := by
      unfold ttl
      rw [if_pos (by rw [← T.2.2.2]; exact c2)]
    have k00 : k = 0 := by omega
    rw [k00] at G
    have A := TW_tr G q3
    have A2 : TW 571 29 587 h1 h' (ttl (h1 572 0) (nr h1 572 2)) := by rw [← et]; exact A
    refine am_rB (hK h' A2) ?_
    rw [A2.2.1, e29]
    omega
  · rw [T.2.1, T.2.2.1]
    have k00 : k = 0 := by omega
    have es : strl 3000000 = [] := by
      have : (strl 3000000).length = 0 := by rw [strl_len, sl_0]; rfl
      exact List.eq_nil_of_length_eq_zero this
    refine L252b (h := h) (l := []) H z h0 e29 ⟨k0, by omega⟩ (by decide) (fun g' G' => ?_) ?_ (by unfold R32; omega)
    · refine ih (by omega) g' (by omega) (by omega) ?_
      rw [k00] at G' ⊢
      rw [show (0 + 1 : Int).toNat = 0 + 1 from rfl, ttk_0]
      exact G'
    · rw [k00] at G
      rw [es] at q3
      exact TW_tr G q3
  · rw [T.2.1, T.2.2.1]
    refine L252b (h := h) (l := ttk (h1 572 0) (nr h1 572 2) k.toNat ++ strl 3000001) H z h0 e29 ⟨k0, by omega⟩ (by rw [List.length_append]; omega) (fun g' G' => ?_) (TW_tr G q3) (by unfold R32; omega)
    refine ih (by omega) g' (by omega) (by omega) ?_
    rw [show (k + 1).toNat = k.toNat + 1 by omega, ttk_s (by omega), kt, ← List.append_assoc]
    exact G'
theorem C252_ok : am_CS 5 252 C252 := W252 (fun h K hb => by
  refine T252_0 ⟨fun c1 => ⟨hb.1, fun h' q2 => ?_⟩, fun c1 => ?_⟩
  · have f : ∀ x i, ¬ (x = 571 ∧ i = 29) → am_up h' 571 29 0 x i = h' x i := fun x i a => am_up_n2 a
    have e1 : nr (am_up h' 571 29 0) 572 2 = nr h 572 2 := (nr_fr2 (fun i => f _ _ (by omega))).trans q2.2.1
    have e2 : am_up h' 571 29 0 572 0 = h 572 0 := (f _ _ (by omega)).trans q2.2.2.1
    refine L252 (h := h) (h1 := am_up h' 571 29 0) (RIv_fr q2.2.2.2.2.1 (fun x i a => f x i (by omega))) ((f _ _ (by omega)).trans q2.2.2.2.1) (by rw [e2]; exact c1) am_up_eq (fun g G => ?_) 0 _ (by omega) (by have := ncl_r (ptE (nr (am_up h' 571 29 0) 572 2)) (nr (am_up h' 571 29 0) 572 2); omega) TW_0
    rw [e1, e2] at G ⊢
    refine am_rB (hb.2 g ⟨RIv_fr q2.2.2.2.2.1 (fun x i a => (G.1 x i (by omega) (by omega)).trans (f x i (by omega))), fun x i a b d => ((G.1 x i b d).trans (f x i b)).trans ((LD_q q2).1 x i a), fun _ => HT_of G am_up_eq, fun z => absurd c1 z⟩) (ifc_t c1)
  · exact am_rB (hb.2 h ⟨hb.1, fun _ _ _ _ _ => rfl, fun z => absurd z c1, fun _ => ⟨rfl, fun _ => rfl⟩⟩) (ifc_f c1))
