/-! ===== statements ===== -/
theorem tks_id {tp : Int → Int} (H : TPW tp) {i : Int} (h0 : 0 ≤ i) : tks tp (tks tp i) = tks tp i := by
  have q := rnn_RN (blk_l H) h0
  have g := tks_ge H h0
  have w : RN (blk tp) (tks tp i) (tks tp i) := ⟨by omega, fun k a b => by omega, q.2.2⟩
  exact (rnn_is (blk_l H) (by omega) w).symm
section TI
variable {tp : Int → Int} (H : TPW tp) {i : Int} (h0 : 0 ≤ i)
theorem tkk_id (H : TPW tp) (h0 : 0 ≤ i) : tkk tp (tks tp i) = tkk tp i := by unfold tkk; rw [tks_id H h0]
theorem tke_id (H : TPW tp) (h0 : 0 ≤ i) : tke tp (tks tp i) = tke tp i := by unfold tke; rw [tks_id H h0]
theorem tkv_id (H : TPW tp) (h0 : 0 ≤ i) : tkv tp (tks tp i) = tkv tp i := by unfold tkv; rw [tks_id H h0, tke_id H h0]
theorem rdf_id (H : TPW tp) (h0 : 0 ≤ i) (a b : Int) : rdf tp (tks tp i) a b = rdf tp i a b := by unfold rdf; rw [tkk_id H h0, tkv_id H h0]
theorem wdp_id (H : TPW tp) (h0 : 0 ≤ i) (a : Int) : wdp tp (tks tp i) a = wdp tp i a := by unfold wdp; rw [tkk_id H h0, tke_id H h0, tks_id H h0]
theorem bPr_id (H : TPW tp) (h0 : 0 ≤ i) (k cnt n : Int) (r : Int → Int) : bPr tp k (tks tp i) cnt n r = bPr tp k i cnt n r := by unfold bPr; rw [rdf_id H h0, tkv_id H h0, tks_id H h0, tke_id H h0]
theorem bPo_id (H : TPW tp) (h0 : 0 ≤ i) (n : Int) (r : Int → Int) : bPo tp (tks tp i) n r = bPo tp i n r := by unfold bPo; rw [wdp_id H h0, tke_id H h0, tks_id H h0]
theorem bLi_id (H : TPW tp) (h0 : 0 ≤ i) (n : Int) (r : Int → Int) : bLi tp (tks tp i) n r = bLi tp i n r := by unfold bLi; rw [rdf_id H h0, tkv_id H h0, tks_id H h0, tke_id H h0]
theorem kdw_id (H : TPW tp) (h0 : 0 ≤ i) : kdw tp (tks tp i) = kdw tp i := by unfold kdw; rw [wdp_id H h0, wdp_id H h0, wdp_id H h0]
theorem bSt_id (H : TPW tp) (h0 : 0 ≤ i) (cnt n : Int) (r : Int → Int) : bSt tp (tks tp i) cnt n r = bSt tp i cnt n r := by unfold bSt; rw [kdw_id H h0, wdp_id H h0, wdp_id H h0, tke_id H h0, tks_id H h0]
/-- where a token ends, the last one too -/
theorem tke_le (H : TPW tp) {i : Int} (h0 : 0 ≤ i) (h1 : i ≤ 800) : i ≤ tks tp i ∧ tks tp i ≤ 800 ∧ tks tp i < tke tp i ∧ tke tp i ≤ 801 := by
  have a := tks_ge H h0
  have b := tks_le H h0
  by_cases c : tkk tp i = 0
  · have n1 : ¬ ltr tp (tks tp i) := fun z => by rw [tkk_1 z] at c; omega
    have n2 : ¬ dgt tp (tks tp i) := fun z => by rw [tkk_2 n1 z] at c; omega
    rw [tke_3 n1 n2]
    omega
  · have := tk_r H h0 c
    omega
theorem tkv_r (H : TPW tp) {i : Int} (h0 : 0 ≤ i) (h : tkk tp i = 2) : 0 ≤ tkv tp i ∧ tkv tp i ≤ 10000 := by
  have n1 : ¬ ltr tp (tks tp i) := fun z => by rw [tkk_1 z] at h; omega
  have n2 : dgt tp (tks tp i) := Classical.byContradiction fun z => by
    by_cases w : tp (tks tp i) = 59
    · rw [tkk_3 n1 z w] at h; omega
    · by_cases v : tp (tks tp i) = -1
      · rw [tkk_0 n1 z w v] at h; omega
      · rw [tkk_4 n1 z w v] at h; omega
  have g := tks_ge H h0
  have q := rnn_RN (dgt_l H) (i := tks tp i) (by omega)
  refine ⟨vlf_nn _ (fun k a => ?_), vlf_r tp _ (fun _ => Or.inr trivial) _⟩
  rw [tke_2 n1 n2] at a
  exact (q.2.1 (tks tp i + k) (by omega) (by omega)).1
theorem rdf_0 {j a b : Int} (h : rdf tp j a b = 0) : tkk tp j = 2 ∧ a ≤ tkv tp j ∧ tkv tp j ≤ b := by
  unfold rdf at h
  by_cases c : tkk tp j = 2
  · rw [ifc_t c] at h
    by_cases d : a ≤ tkv tp j ∧ tkv tp j ≤ b
    · exact ⟨c, d⟩
    · rw [ifc_f d] at h; omega
  · rw [ifc_f c] at h; omega
end TI
def SR (r : Int → Int) : Prop := ∀ p, S20 (r p)
def WFn (cnt n : Int) (r : Int → Int) : Prop := NT n r ∧ SR r ∧ (0 ≤ cnt ∧ (cnt = 0 → n = 0) ∧ (0 < cnt → 1 ≤ n))
theorem NT_no {m : Int} {r : Int → Int} (H : NT 0 r) (h0 : 0 ≤ m) (h1 : m ≤ 20) : NT m r := ⟨h0, h1, fun p q e => by have := NT_in H e; omega⟩
theorem SR_rw (X : Int → Int → Prop) : SR (rw2 X) := fun p => S20_mk _
theorem bPr_w {tp : Int → Int} {k j cnt n : Int} {r : Int → Int} (hk : 0 ≤ k ∧ k ≤ 2) (W : WFn cnt n r) (h : (bPr tp k j cnt n r).1 = 0) : (rdf tp j (if k = 1 then 3 else 2) 20 = 0 ∧ ¬ 20 < (if cnt = 0 then 1 else n) * tkv tp j) ∧ bPr tp k j cnt n r = (0, -1, (if cnt = 0 then 1 else n) * tkv tp j, mul (if cnt = 0 then 1 else n) r k (tkv tp j), tke tp j) ∧ WFn (cnt + 1) ((if cnt = 0 then 1 else n) * tkv tp j) (mul (if cnt = 0 then 1 else n) r k (tkv tp j)) ∧ (1 ≤ (if cnt = 0 then 1 else n) ∧ NT (if cnt = 0 then 1 else n) r) := by
  have ho : 1 ≤ (if cnt = 0 then 1 else n) ∧ NT (if cnt = 0 then 1 else n) r := by
    by_cases z : cnt = 0
    · rw [if_pos z]
      have := W.2.2.2.1 z
      rw [this] at W
      exact ⟨by omega, NT_no W.1 (by omega) (by omega)⟩
    · rw [if_neg z]
      exact ⟨W.2.2.2.2 (by have := W.2.2.1; omega), W.1⟩
  have l2 : 2 ≤ (if k = 1 then (3 : Int) else 2) := by by_cases z : k = 1 <;> simp [z]
  have c0 := W.2.2.1
  unfold bPr at h ⊢
  by_cases a : rdf tp j (if k = 1 then 3 else 2) 20 = 0
  · rw [cif_t a] at h ⊢
    by_cases b : 20 < (if cnt = 0 then 1 else n) * tkv tp j
    · rw [cif_t b] at h
      have h' : (3 : Int) = 0 := h
      omega
    · rw [cif_f b]
      have v := rdf_0 a
      have m1 := Int.mul_le_mul ho.1 (show 1 ≤ tkv tp j by omega) (by omega) (by omega)
      exact ⟨⟨a, b⟩, rfl, ⟨NT_mul ho.1 (by omega) (by omega) ho.2, SR_rw _, by omega, fun z => by omega, fun _ => by omega⟩, ho⟩
  · rw [cif_f a] at h
    exact absurd h a
theorem bPo_w {tp : Int → Int} {j n : Int} {r : Int → Int} (W : WFn 0 n r) (h : (bPo tp j n r).1 = 0) : (wdp tp j 3000008 ∧ rdf tp (tke tp j) 1 20 = 0) ∧ bPo tp j n r = (0, -1, tkv tp (tke tp j), r, tke tp (tke tp j)) ∧ WFn (0 + 1) (tkv tp (tke tp j)) r := by
  unfold bPo at h ⊢
  by_cases a : wdp tp j 3000008
  · rw [cif_t a] at h ⊢
    by_cases b : rdf tp (tke tp j) 1 20 = 0
    · rw [cif_t b]
      have v := rdf_0 b
      have e := W.2.2.2.1 rfl
      have N := W.1
      rw [e] at N
      exact ⟨⟨a, b⟩, rfl, NT_no N (by omega) (by omega), W.2.1, by omega, fun z => by omega, fun _ => by omega⟩
    · rw [cif_f b] at h
      exact absurd h b
  · rw [cif_f a] at h
    have h' : (1 : Int) = 0 := h
    omega
theorem bLi_w {tp : Int → Int} {j cnt n : Int} {r : Int → Int} (W : WFn cnt n r) (hc : 0 < cnt) (h : (bLi tp j n r).1 = 0) : (rdf tp j 0 (n - 1) = 0 ∧ rdf tp (tke tp j) 0 (n - 1) = 0 ∧ ¬ (tkv tp j = tkv tp (tke tp j) ∨ ad r (tkv tp j) (tkv tp (tke tp j)))) ∧ bLi tp j n r = (0, -1, n, wi r (tkv tp j) (tkv tp (tke tp j)), tke tp (tke tp j)) ∧ WFn (cnt + 1) n (wi r (tkv tp j) (tkv tp (tke tp j))) := by
  unfold bLi at h ⊢
  by_cases a : rdf tp j 0 (n - 1) = 0
  · rw [cif_t a] at h ⊢
    by_cases b : rdf tp (tke tp j) 0 (n - 1) = 0
    · rw [cif_t b] at h ⊢
      by_cases c : tkv tp j = tkv tp (tke tp j) ∨ ad r (tkv tp j) (tkv tp (tke tp j))
      · rw [cif_t c] at h
        have h' : (2 : Int) = 0 := h
        omega
      · rw [cif_f c]
        have v1 := rdf_0 a
        have v2 := rdf_0 b
        exact ⟨⟨a, b, c⟩, rfl, NT_wi W.1 (by omega) (by omega) (fun z => c (Or.inl z)), SR_rw _, by omega, fun z => by omega, fun _ => W.2.2.2.2 hc⟩
    · rw [cif_f b] at h
      exact absurd h b
  · rw [cif_f a] at h
    exact absurd h a
theorem kdw_r (tp : Int → Int) (i : Int) : kdw tp i = -1 ∨ (0 ≤ kdw tp i ∧ kdw tp i ≤ 2) := ifc_pr (P := fun x => x = -1 ∨ (0 ≤ x ∧ x ≤ 2)) (by omega) (ifc_pr (P := fun x => x = -1 ∨ (0 ≤ x ∧ x ≤ 2)) (by omega) (ifc_pr (P := fun x => x = -1 ∨ (0 ≤ x ∧ x ≤ 2)) (by omega) (by omega)))
theorem wdp_k {tp : Int → Int} {i a : Int} (h : wdp tp i a) : tkk tp i = 1 := h.1
theorem kdw_k {tp : Int → Int} {i : Int} (h : ¬ kdw tp i = -1) : tkk tp i = 1 := by
  unfold kdw at h
  by_cases a : wdp tp i 3000011
  · exact a.1
  · rw [ifc_f a] at h
    by_cases b : wdp tp i 3000009
    · exact b.1
    · rw [ifc_f b] at h
      by_cases c : wdp tp i 3000002
      · exact c.1
      · rw [ifc_f c] at h; exact absurd rfl h
/-- a statement without a fault ends behind where it began -/
theorem bSt_w {tp : Int → Int} (H : TPW tp) {i cnt n : Int} {r : Int → Int} (h0 : 0 ≤ i) (W : WFn cnt n r) (h : (bSt tp i cnt n r).1 = 0) : WFn (cnt + 1) (bSt tp i cnt n r).2.2.1 (bSt tp i cnt n r).2.2.2.1 ∧ (i < (bSt tp i cnt n r).2.2.2.2 ∧ (bSt tp i cnt n r).2.2.2.2 ≤ 800) := by
  unfold bSt at h ⊢
  by_cases a : ¬ kdw tp i = -1
  · rw [cif_t a] at h ⊢
    have kr := kdw_r tp i
    have w := bPr_w (by omega) W h
    have t1 := tk_r H h0 (by rw [kdw_k a]; omega)
    have t2 := tk_r H (i := tke tp i) (by omega) (by rw [(rdf_0 w.1.1).1]; omega)
    rw [w.2.1]
    exact ⟨w.2.2.1, by show i < tke tp (tke tp i) ∧ tke tp (tke tp i) ≤ 800; omega⟩
  · rw [cif_f a] at h ⊢
    by_cases b : cnt = 0 ∧ wdp tp i 3000005
    · rw [cif_t b] at h ⊢
      rw [b.1] at W ⊢
      have w := bPo_w W h
      have t1 := tk_r H h0 (by rw [b.2.1]; omega)
      have t2 := tk_r H (i := tke tp i) (by omega) (by rw [w.1.1.1]; omega)
      have t3 := tk_r H (i := tke tp (tke tp i)) (by omega) (by rw [(rdf_0 w.1.2).1]; omega)
      rw [w.2.1]
      exact ⟨w.2.2, by show i < tke tp (tke tp (tke tp i)) ∧ tke tp (tke tp (tke tp i)) ≤ 800; omega⟩
    · rw [cif_f b] at h ⊢
      by_cases c : 0 < cnt ∧ wdp tp i 3000004
      · rw [cif_t c] at h ⊢
        have w := bLi_w W c.1 h
        have t1 := tk_r H h0 (by rw [c.2.1]; omega)
        have t2 := tk_r H (i := tke tp i) (by omega) (by rw [(rdf_0 w.1.1).1]; omega)
        have t3 := tk_r H (i := tke tp (tke tp i)) (by omega) (by rw [(rdf_0 w.1.2.1).1]; omega)
        rw [w.2.1]
        exact ⟨w.2.2, by show i < tke tp (tke tp (tke tp i)) ∧ tke tp (tke tp (tke tp i)) ≤ 800; omega⟩
      · rw [cif_f c] at h
        have h' : (1 : Int) = 0 := h
        omega
/-! the class's reader -/
def cwd (h : am_H) (a : Int) : Prop := h 1 8 = 1 ∧ h 1 7 - h 1 6 = am_sl a ∧ ∀ j9, 0 ≤ j9 → j9 < am_sl a → (tpn h 2 (h 1 1)) (h 1 6 + j9) = am_sc a j9
def RNM (h g : am_H) (a b : Int) : Prop := (∀ x i, ¬ (x = 1 ∧ (i = 4 ∨ i = 5)) → g x i = h x i) ∧ (ifc (h 1 8 = 2) (ifc (a ≤ h 1 9 ∧ h 1 9 ≤ b) 0 2) 1 = 0 → g 1 4 = h 1 4 ∧ g 1 5 = h 1 5) ∧ (¬ ifc (h 1 8 = 2) (ifc (a ≤ h 1 9 ∧ h 1 9 ≤ b) 0 2) 1 = 0 → g 1 4 = ifc (h 1 8 = 2) (ifc (a ≤ h 1 9 ∧ h 1 9 ≤ b) 0 2) 1 ∧ g 1 5 = h 1 6)
def BDY (h g : am_H) (S : Res) : Prop := (∀ x i, ¬ (x = 1 ∧ 4 ≤ i ∧ i ≤ 9) → ¬ (x = 3 ∧ i = 0) → x ≠ 4 → g x i = h x i) ∧ (0 ≤ g 1 7 ∧ g 1 7 ≤ 801) ∧ (S.1 = 0 → (g 1 4 = 0 ∧ g 1 5 = h 1 5) ∧ (g 3 0 = S.2.2.1 ∧ nr g 4 0 = S.2.2.2.1) ∧ CTK g S.2.2.2.2 ∧ (0 ≤ S.2.2.2.2 ∧ S.2.2.2.2 ≤ 800)) ∧ (¬ S.1 = 0 → g 1 4 = S.1 ∧ g 1 5 = S.2.1)
theorem cwd_w {h : am_H} {j : Int} (C : CTK h j) (a : Int) : cwd h a ↔ wdp (ctp h) j a := by
  unfold cwd wdp
  rw [C.1.1, C.1.2, C.2.1]
  exact Iff.rfl
theorem CTK_id {h : am_H} {j : Int} (T : TPW (ctp h)) (h0 : 0 ≤ j) (C : CTK h j) : CTK h (h 1 6) := by
  unfold CTK
  rw [C.1.1, tks_id T h0, tkk_id T h0, tke_id T h0, tkv_id T h0]
  exact ⟨⟨rfl, C.1.2⟩, C.2⟩
theorem NUM {h g : am_H} {a b j : Int} (C : CTK h j) (N : RNM h g a b) : (rdf (ctp h) j a b = 0 → (tkk (ctp h) j = 2 ∧ h 1 9 = tkv (ctp h) j ∧ a ≤ h 1 9 ∧ h 1 9 ≤ b) ∧ g 1 4 = h 1 4 ∧ g 1 5 = h 1 5) ∧ (¬ rdf (ctp h) j a b = 0 → g 1 4 = rdf (ctp h) j a b ∧ g 1 5 = tks (ctp h) j) := by
  have e : ifc (h 1 8 = 2) (ifc (a ≤ h 1 9 ∧ h 1 9 ≤ b) 0 2) 1 = rdf (ctp h) j a b := by
    unfold rdf
    rw [C.1.2]
    by_cases z : tkk (ctp h) j = 2
    · rw [ifc_t z, ifc_t z, C.2.2 z]
    · rw [ifc_f z, ifc_f z]
  have N2 := N.2
  rw [e, C.1.1] at N2
  refine ⟨fun z => ⟨?_, N2.1 z⟩, fun z => N2.2 z⟩
  have w := rdf_0 z
  have v := C.2.2 w.1
  exact ⟨w.1, v, by rw [v]; exact w.2⟩
theorem ctp_fr {h g : am_H} (e : ∀ j, g 2 j = h 2 j) (e1 : g 1 1 = h 1 1) : ctp g = ctp h := tpn_fr e e1
theorem BDY_ok {h g0 g : am_H} {n' e : Int} {r' : Int → Int} (T : TPB h 2 (h 1 1)) (F : ∀ x i, ¬ (x = 1 ∧ 4 ≤ i ∧ i ≤ 9) → ¬ (x = 3 ∧ i = 0) → x ≠ 4 → g0 x i = h x i) (f4 : g0 1 4 = 0) (f5 : g0 1 5 = h 1 5) (e7 : g0 1 7 = e) (he : 0 ≤ e ∧ e ≤ 800) (en : g0 3 0 = n') (er : nr g0 4 0 = r') (A : ADV g0 g) {S : Res} (hS : S = (0, -1, n', r', e)) : BDY h g S := by
  subst hS
  have C := A.2
  rw [e7] at C
  have ec : ctp g = ctp h := (ctp_fr (fun j => A.1 _ _ (by omega)) (A.1 _ _ (by omega))).trans (ctp_fr (fun j => F _ _ (by omega) (by omega) (by omega)) (F _ _ (by omega) (by omega) (by omega)))
  have tl := tke_le (tp := ctp h) (TPW_b T) he.1 he.2
  have g7 := C.2.1
  rw [ec] at g7
  refine ⟨fun x i a b c => (A.1 x i (by omega)).trans (F x i a b c), by omega, fun _ => ⟨⟨?_, ?_⟩, ⟨?_, ?_⟩, C, he⟩, fun z => absurd rfl z⟩
  · rw [A.1 _ _ (by omega)]; exact f4
  · rw [A.1 _ _ (by omega)]; exact f5
  · rw [A.1 _ _ (by omega)]; exact en
  · exact (nr_fr2 (fun i => A.1 _ _ (by omega))).trans er
theorem BDY_no {h g : am_H} {f p n' : Int} {r' : Int → Int} (F : ∀ x i, ¬ (x = 1 ∧ 4 ≤ i ∧ i ≤ 9) → ¬ (x = 3 ∧ i = 0) → x ≠ 4 → g x i = h x i) (b7 : 0 ≤ g 1 7 ∧ g 1 7 ≤ 801) (f4 : g 1 4 = f) (f5 : g 1 5 = p) (hf : ¬ f = 0) {S : Res} (hS : S = (f, p, n', r', 0)) : BDY h g S := by
  subst hS
  exact ⟨F, b7, fun z => absurd z hf, fun _ => ⟨f4, f5⟩⟩
theorem SR_h {g : am_H} {r : Int → Int} (e : nr g 4 0 = r) (s : SR r) : ∀ y, 0 ≤ y → y < 20 → S20 (g 4 y) := fun y a b => by
  have := s y
  rw [← e, nr_in0 a b] at this
  exact this
theorem BDY_tr {h h' g : am_H} {S : Res} (A : ADV h h') (B : BDY h' g S) : BDY h g S := ⟨fun x i a b c => (B.1 x i a b c).trans (A.1 x i (by omega)), B.2.1, fun z => ⟨⟨(B.2.2.1 z).1.1, (B.2.2.1 z).1.2.trans (A.1 _ _ (by omega))⟩, (B.2.2.1 z).2⟩, B.2.2.2⟩
def F39 (h g : am_H) : Prop := ∀ x i, ¬ (x = 1 ∧ 3 ≤ i ∧ i ≤ 9) → ¬ (x = 3 ∧ i = 0) → x ≠ 4 → g x i = h x i
def RDZ (h g : am_H) (Z : Int × Int × Int × Int × (Int → Int)) : Prop := F39 h g ∧ (g 1 4 = Z.1 ∧ g 1 5 = Z.2.1) ∧ (Z.1 = 0 → (g 1 3 = Z.2.2.1 ∧ g 3 0 = Z.2.2.2.1 ∧ nr g 4 0 = Z.2.2.2.2) ∧ WFn Z.2.2.1 Z.2.2.2.1 Z.2.2.2.2)
def RDD (h g : am_H) : Prop := RDZ h g (rdL (ctp h) 800 0 0 0 (fun _ => 0))
theorem tkk_end {tp : Int → Int} (H : TPW tp) {i : Int} (h : 800 ≤ i) : tkk tp i = 0 := Classical.byContradiction fun z => by have := tk_r H (by omega) z; omega
theorem rdL_0 {tp : Int → Int} {f : Nat} {i cnt n : Int} {r : Int → Int} (h : tkk tp i = 0) : rdL tp f i cnt n r = (0, -1, cnt, n, r) := by
  cases f with
  | zero => rfl
  | succ f => exact cif_t h
theorem rdL_f {tp : Int → Int} {f : Nat} {i cnt n : Int} {r : Int → Int} (h : ¬ tkk tp i = 0) (h1 : ¬ (bSt tp i cnt n r).1 = 0) : rdL tp (f + 1) i cnt n r = ((bSt tp i cnt n r).1, (bSt tp i cnt n r).2.1, 0, 0, r) := (cif_f h).trans (cif_f h1)
theorem rdL_g {tp : Int → Int} {f : Nat} {i cnt n : Int} {r : Int → Int} (h : ¬ tkk tp i = 0) (h1 : (bSt tp i cnt n r).1 = 0) (h2 : ¬ tkk tp (bSt tp i cnt n r).2.2.2.2 = 3) : rdL tp (f + 1) i cnt n r = (1, tks tp (bSt tp i cnt n r).2.2.2.2, 0, 0, r) := (cif_f h).trans ((cif_t h1).trans (cif_f h2))
theorem rdL_s {tp : Int → Int} {f : Nat} {i cnt n : Int} {r : Int → Int} (h : ¬ tkk tp i = 0) (h1 : (bSt tp i cnt n r).1 = 0) (h2 : tkk tp (bSt tp i cnt n r).2.2.2.2 = 3) : rdL tp (f + 1) i cnt n r = rdL tp f (tke tp (bSt tp i cnt n r).2.2.2.2) (cnt + 1) (bSt tp i cnt n r).2.2.1 (bSt tp i cnt n r).2.2.2.1 := (cif_f h).trans ((cif_t h1).trans (cif_t h2))
theorem F39_t {h g : am_H} (F : F39 h g) : ctp g = ctp h := ctp_fr (fun j => F _ _ (by omega) (by omega) (by omega)) (F _ _ (by omega) (by omega) (by omega))
/-! 59 FactorNets$Reader.readNumber -/
def C59 : am_K := fun as h K => am_a3 as (fun v0 v1 v2 => am_oc 7 1 v0 (am_n v1 (fun a => am_n v2 (fun b => ∀ (h' : am_H), RNM h h' a b → K (some (mB (h 1 9))) (h')))))
theorem W59 {d : Nat} (H : ∀ (a : Int) (b : Int) (h : am_H) (K : Option am_V → am_H → Prop), (∀ (h' : am_H), RNM h h' a b → K (some (mB (h 1 9))) (h')) → am_AT d 59 0 [some (mR 1 7 0 1), some (mB a), some (mB b)] h K) : am_CS d 59 C59 := by
  refine am_CS_of (T := tb59) (mL := 3) (rk := 1) rfl (fun as h K hC => ?_)
  obtain ⟨v0, v1, v2, rfl, hC0⟩ := am_a3_e hC
  obtain ⟨e0, hC1⟩ := am_oc_e hC0
  subst e0
  obtain ⟨a, rfl, hC2⟩ := am_n_e hC1
  obtain ⟨b, rfl, hC3⟩ := am_n_e hC2
  refine ⟨Nat.le_of_ble_eq_true rfl, ?_⟩
  exact H a b h K hC3
theorem T59_0 {R : Option am_V → am_H → Prop} {h : am_H} {a : Int} {b : Int} (t : ((h 1 8 = 2) → (((h 1 9 < a) → (R (some (mB (h 1 9))) (am_up (am_up h 1 4 (2 : Int)) 1 5 (h 1 6)))) ∧ ((a ≤ h 1 9) → (((h 1 9 ≤ b) → (R (some (mB (h 1 9))) h)) ∧ ((b < h 1 9) → (R (some (mB (h 1 9))) (am_up (am_up h 1 4 (2 : Int)) 1 5 (h 1 6)))))))) ∧ ((¬ h 1 8 = 2) → (R (some (mB (h 1 9))) (am_up (am_up h 1 4 (1 : Int)) 1 5 (h 1 6))))) : am_AT 2 59 0 [some (mR 1 7 0 1), some (mB a), some (mB b)] h R :=
  am_T (d := 1) (m := 59) (T := tb59) (mL := 3) (rk := 1) (cuts := []) (l := [(60, C60)]) rfl ⟨am_CS_d (by decide) C60_ok, trivial⟩ 22 (And.intro (fun c1 => And.intro (fun c2 => And.intro (rfl) (((t).1 c1).1 c2)) (fun c2 => And.intro (fun c3 => (((t).1 c1).2 c2).1 c3) (fun c3 => And.intro (rfl) ((((t).1 c1).2 c2).2 c3)))) (fun c1 => And.intro (rfl) ((t).2 c1)))
theorem C59_ok : am_CS 2 59 C59 := W59 (fun a b h K hb => by
  refine T59_0 ⟨fun c1 => ⟨fun c2 => ?_, fun c2 => ⟨fun c3 => ?_, fun c3 => ?_⟩⟩, fun c1 => ?_⟩
  · exact hb _ ⟨fun x i a => by rw [am_up_n2 (by omega), am_up_n2 (by omega)], fun z => by rw [ifc_t c1, ifc_f (by omega)] at z; omega, fun _ => ⟨by rw [am_up_n2 (by omega), am_up_eq, ifc_t c1, ifc_f (by omega)], am_up_eq⟩⟩
  · exact hb _ ⟨fun _ _ _ => rfl, fun _ => ⟨rfl, rfl⟩, fun z => absurd (by rw [ifc_t c1, ifc_t (by omega)]) z⟩
  · exact hb _ ⟨fun x i a => by rw [am_up_n2 (by omega), am_up_n2 (by omega)], fun z => by rw [ifc_t c1, ifc_f (by omega)] at z; omega, fun _ => ⟨by rw [am_up_n2 (by omega), am_up_eq, ifc_t c1, ifc_f (by omega)], am_up_eq⟩⟩
  · exact hb _ ⟨fun x i a => by rw [am_up_n2 (by omega), am_up_n2 (by omega)], fun z => by rw [ifc_f c1] at z; omega, fun _ => ⟨by rw [am_up_n2 (by omega), am_up_eq, ifc_f c1], am_up_eq⟩⟩)
/-! 55 FactorNets$Reader.kindOfWord -/
def C55 : am_K := fun as h K => am_a1 as (fun v0 => am_oc 7 1 v0 ((TPB h 2 (h 1 1) ∧ (0 ≤ h 1 6 ∧ h 1 6 ≤ 900 ∧ 0 ≤ h 1 7 ∧ h 1 7 ≤ 901)) ∧ (K (some (mB (ifc (cwd h 3000011) 0 (ifc (cwd h 3000009) 1 (ifc (cwd h 3000002) 2 (-1)))))) h)))
theorem W55 {d : Nat} (H : ∀  (h : am_H) (K : Option am_V → am_H → Prop), (TPB h 2 (h 1 1) ∧ (0 ≤ h 1 6 ∧ h 1 6 ≤ 900 ∧ 0 ≤ h 1 7 ∧ h 1 7 ≤ 901)) ∧ (K (some (mB (ifc (cwd h 3000011) 0 (ifc (cwd h 3000009) 1 (ifc (cwd h 3000002) 2 (-1)))))) h) → am_AT d 55 0 [some (mR 1 7 0 1)] h K) : am_CS d 55 C55 := by
  refine am_CS_of (T := tb55) (mL := 1) (rk := 1) rfl (fun as h K hC => ?_)
  obtain ⟨v0, rfl, hC0⟩ := am_a1_e hC
  obtain ⟨e0, hC1⟩ := am_oc_e hC0
  subst e0
  refine ⟨Nat.le_of_ble_eq_true rfl, ?_⟩
  exact H  h K hC1
theorem T55_0 {R : Option am_V → am_H → Prop} {h : am_H} (t : (TPB h 2 (h 1 1) ∧ (0 ≤ h 1 6 ∧ h 1 6 ≤ 900 ∧ 0 ≤ h 1 7 ∧ h 1 7 ≤ 901)) ∧ (((¬ (h 1 8 = 1 ∧ h 1 7 - h 1 6 = am_sl (3000011 : Int) ∧ ∀ j9, 0 ≤ j9 → j9 < am_sl (3000011 : Int) → (tpn h 2 (h 1 1)) (h 1 6 + j9) = am_sc (3000011 : Int) j9)) → ((TPB h 2 (h 1 1) ∧ (0 ≤ h 1 6 ∧ h 1 6 ≤ 900 ∧ 0 ≤ h 1 7 ∧ h 1 7 ≤ 901)) ∧ (((¬ (h 1 8 = 1 ∧ h 1 7 - h 1 6 = am_sl (3000009 : Int) ∧ ∀ j9, 0 ≤ j9 → j9 < am_sl (3000009 : Int) → (tpn h 2 (h 1 1)) (h 1 6 + j9) = am_sc (3000009 : Int) j9)) → ((TPB h 2 (h 1 1) ∧ (0 ≤ h 1 6 ∧ h 1 6 ≤ 900 ∧ 0 ≤ h 1 7 ∧ h 1 7 ≤ 901)) ∧ (((¬ (h 1 8 = 1 ∧ h 1 7 - h 1 6 = am_sl (3000002 : Int) ∧ ∀ j9, 0 ≤ j9 → j9 < am_sl (3000002 : Int) → (tpn h 2 (h 1 1)) (h 1 6 + j9) = am_sc (3000002 : Int) j9)) → (R (some (mB (-1))) h)) ∧ ((h 1 8 = 1 ∧ h 1 7 - h 1 6 = am_sl (3000002 : Int) ∧ ∀ j9, 0 ≤ j9 → j9 < am_sl (3000002 : Int) → (tpn h 2 (h 1 1)) (h 1 6 + j9) = am_sc (3000002 : Int) j9) → (R (some (mB 2)) h))))) ∧ ((h 1 8 = 1 ∧ h 1 7 - h 1 6 = am_sl (3000009 : Int) ∧ ∀ j9, 0 ≤ j9 → j9 < am_sl (3000009 : Int) → (tpn h 2 (h 1 1)) (h 1 6 + j9) = am_sc (3000009 : Int) j9) → (R (some (mB 1)) h))))) ∧ ((h 1 8 = 1 ∧ h 1 7 - h 1 6 = am_sl (3000011 : Int) ∧ ∀ j9, 0 ≤ j9 → j9 < am_sl (3000011 : Int) → (tpn h 2 (h 1 1)) (h 1 6 + j9) = am_sc (3000011 : Int) j9) → (R (some (mB 0)) h)))) : am_AT 3 55 0 [some (mR 1 7 0 1)] h R :=
  am_T (d := 2) (m := 55) (T := tb55) (mL := 1) (rk := 1) (cuts := []) (l := [(64, C64)]) rfl ⟨am_CS_d (by decide) C64_ok, trivial⟩ 19 (And.intro (rfl) (And.intro (t).1 (And.intro (fun c4 => And.intro (rfl) (And.intro (((t).2).1 c4).1 (And.intro (fun c5 => And.intro (rfl) (And.intro (((((t).2).1 c4).2).1 c5).1 (And.intro (fun c6 => ((((((t).2).1 c4).2).1 c5).2).1 c6) (fun c6 => ((((((t).2).1 c4).2).1 c5).2).2 c6)))) (fun c5 => ((((t).2).1 c4).2).2 c5)))) (fun c4 => ((t).2).2 c4))))
theorem C55_ok : am_CS 3 55 C55 := W55 (fun h K hb => by
  refine T55_0 ⟨hb.1, ⟨fun c1 => ⟨hb.1, ⟨fun c2 => ⟨hb.1, ⟨fun c3 => ?_, fun c3 => ?_⟩⟩, fun c2 => ?_⟩⟩, fun c1 => ?_⟩⟩
  · exact am_rB hb.2 ((ifc_f c1).trans ((ifc_f c2).trans (ifc_f c3)))
  · exact am_rB hb.2 ((ifc_f c1).trans ((ifc_f c2).trans (ifc_t c3)))
  · exact am_rB hb.2 ((ifc_f c1).trans (ifc_t c2))
  · exact am_rB hb.2 (ifc_t c1))
/-! 56 FactorNets$Reader.readProduct -/
def C56 : am_K := fun as h K => am_a2 as (fun v0 v1 => am_oc 7 1 v0 (am_n v1 (fun k => ((TPB h 2 (h 1 1)) ∧ CTK h (h 1 6) ∧ (0 ≤ h 1 6 ∧ h 1 6 ≤ 800) ∧ h 1 4 = 0 ∧ WFn (h 1 3) (h 3 0) (nr h 4 0) ∧ (0 ≤ k ∧ k ≤ 2)) ∧ (∀ (h' : am_H), BDY h h' (bPr (ctp h) k (h 1 6) (h 1 3) (h 3 0) (nr h 4 0)) → K (none) (h')))))
theorem W56 {d : Nat} (H : ∀ (k : Int) (h : am_H) (K : Option am_V → am_H → Prop), ((TPB h 2 (h 1 1)) ∧ CTK h (h 1 6) ∧ (0 ≤ h 1 6 ∧ h 1 6 ≤ 800) ∧ h 1 4 = 0 ∧ WFn (h 1 3) (h 3 0) (nr h 4 0) ∧ (0 ≤ k ∧ k ≤ 2)) ∧ (∀ (h' : am_H), BDY h h' (bPr (ctp h) k (h 1 6) (h 1 3) (h 3 0) (nr h 4 0)) → K (none) (h')) → am_AT d 56 0 [some (mR 1 7 0 1), some (mB k), none, none] h K) : am_CS d 56 C56 := by
  refine am_CS_of (T := tb56) (mL := 4) (rk := 0) rfl (fun as h K hC => ?_)
  obtain ⟨v0, v1, rfl, hC0⟩ := am_a2_e hC
  obtain ⟨e0, hC1⟩ := am_oc_e hC0
  subst e0
  obtain ⟨k, rfl, hC2⟩ := am_n_e hC1
  refine ⟨Nat.le_of_ble_eq_true rfl, ?_⟩
  exact H k h K hC2
theorem T56_0 {R : Option am_V → am_H → Prop} {h : am_H} {k : Int} (t : ∀ (h' : am_H), (RNM h h' ((if k = 1 then 3 else 2)) (20 : Int)) → (((¬ h' 1 3 = 0) → (((¬ h' 1 4 = 0) → (((¬ h' 1 4 = 0) → (R none h')) ∧ ((h' 1 4 = 0) → (((2 ≤ (h 1 9) ∧ (h 1 9) ≤ 20) ∧ (0 ≤ k ∧ k ≤ 2) ∧ (1 ≤ (am_up h' 3 0 (h' 3 0)) (3 : Int) 0 ∧ (am_up h' 3 0 (h' 3 0)) (3 : Int) 0 * (h 1 9) ≤ 20) ∧ NT ((am_up h' 3 0 (h' 3 0)) (3 : Int) 0) (nr (am_up h' 3 0 (h' 3 0)) 4 0) ∧ (∀ y9, 0 ≤ y9 → y9 < 20 → S20 ((am_up h' 3 0 (h' 3 0)) 4 y9))) ∧ (∀ (h'_1 : am_H), ((∀ x9 i9, ¬ (x9 = (3 : Int) ∧ i9 = 0) → x9 ≠ 4 → h'_1 x9 i9 = (am_up h' 3 0 (h' 3 0)) x9 i9) ∧ h'_1 (3 : Int) 0 = (am_up h' 3 0 (h' 3 0)) (3 : Int) 0 * (h 1 9) ∧ nr h'_1 4 0 = mul ((am_up h' 3 0 (h' 3 0)) (3 : Int) 0) (nr (am_up h' 3 0 (h' 3 0)) 4 0) k (h 1 9)) → ((TPB h'_1 2 (h'_1 1 1) ∧ (0 ≤ h'_1 1 7 ∧ h'_1 1 7 ≤ 900)) ∧ (∀ (h'_2 : am_H), (ADV h'_1 h'_2) → (R none h'_2)))))))) ∧ ((h' 1 4 = 0) → ((R32 ((h' 3 0) * (h 1 9))) ∧ ((((h' 3 0) * (h 1 9) ≤ 20) → (((¬ h' 1 4 = 0) → (R none h')) ∧ ((h' 1 4 = 0) → (((2 ≤ (h 1 9) ∧ (h 1 9) ≤ 20) ∧ (0 ≤ k ∧ k ≤ 2) ∧ (1 ≤ (am_up h' 3 0 (h' 3 0)) (3 : Int) 0 ∧ (am_up h' 3 0 (h' 3 0)) (3 : Int) 0 * (h 1 9) ≤ 20) ∧ NT ((am_up h' 3 0 (h' 3 0)) (3 : Int) 0) (nr (am_up h' 3 0 (h' 3 0)) 4 0) ∧ (∀ y9, 0 ≤ y9 → y9 < 20 → S20 ((am_up h' 3 0 (h' 3 0)) 4 y9))) ∧ (∀ (h'_1 : am_H), ((∀ x9 i9, ¬ (x9 = (3 : Int) ∧ i9 = 0) → x9 ≠ 4 → h'_1 x9 i9 = (am_up h' 3 0 (h' 3 0)) x9 i9) ∧ h'_1 (3 : Int) 0 = (am_up h' 3 0 (h' 3 0)) (3 : Int) 0 * (h 1 9) ∧ nr h'_1 4 0 = mul ((am_up h' 3 0 (h' 3 0)) (3 : Int) 0) (nr (am_up h' 3 0 (h' 3 0)) 4 0) k (h 1 9)) → ((TPB h'_1 2 (h'_1 1 1) ∧ (0 ≤ h'_1 1 7 ∧ h'_1 1 7 ≤ 900)) ∧ (∀ (h'_2 : am_H), (ADV h'_1 h'_2) → (R none h'_2)))))))) ∧ ((20 < (h' 3 0) * (h 1 9)) → (R none (am_up (am_up h' 1 4 (3 : Int)) 1 5 (h' 1 6))))))))) ∧ ((h' 1 3 = 0) → (((¬ h' 1 4 = 0) → (((¬ h' 1 4 = 0) → (R none h')) ∧ ((h' 1 4 = 0) → (((2 ≤ (h 1 9) ∧ (h 1 9) ≤ 20) ∧ (0 ≤ k ∧ k ≤ 2) ∧ (1 ≤ (am_up h' 3 0 1) (3 : Int) 0 ∧ (am_up h' 3 0 1) (3 : Int) 0 * (h 1 9) ≤ 20) ∧ NT ((am_up h' 3 0 1) (3 : Int) 0) (nr (am_up h' 3 0 1) 4 0) ∧ (∀ y9, 0 ≤ y9 → y9 < 20 → S20 ((am_up h' 3 0 1) 4 y9))) ∧ (∀ (h'_1 : am_H), ((∀ x9 i9, ¬ (x9 = (3 : Int) ∧ i9 = 0) → x9 ≠ 4 → h'_1 x9 i9 = (am_up h' 3 0 1) x9 i9) ∧ h'_1 (3 : Int) 0 = (am_up h' 3 0 1) (3 : Int) 0 * (h 1 9) ∧ nr h'_1 4 0 = mul ((am_up h' 3 0 1) (3 : Int) 0) (nr (am_up h' 3 0 1) 4 0) k (h 1 9)) → ((TPB h'_1 2 (h'_1 1 1) ∧ (0 ≤ h'_1 1 7 ∧ h'_1 1 7 ≤ 900)) ∧ (∀ (h'_2 : am_H), (ADV h'_1 h'_2) → (R none h'_2)))))))) ∧ ((h' 1 4 = 0) → ((R32 (1 * (h 1 9))) ∧ (((1 * (h 1 9) ≤ 20) → (((¬ h' 1 4 = 0) → (R none h')) ∧ ((h' 1 4 = 0) → (((2 ≤ (h 1 9) ∧ (h 1 9) ≤ 20) ∧ (0 ≤ k ∧ k ≤ 2) ∧ (1 ≤ (am_up h' 3 0 1) (3 : Int) 0 ∧ (am_up h' 3 0 1) (3 : Int) 0 * (h 1 9) ≤ 20) ∧ NT ((am_up h' 3 0 1) (3 : Int) 0) (nr (am_up h' 3 0 1) 4 0) ∧ (∀ y9, 0 ≤ y9 → y9 < 20 → S20 ((am_up h' 3 0 1) 4 y9))) ∧ (∀ (h'_1 : am_H), ((∀ x9 i9, ¬ (x9 = (3 : Int) ∧ i9 = 0) → x9 ≠ 4 → h'_1 x9 i9 = (am_up h' 3 0 1) x9 i9) ∧ h'_1 (3 : Int) 0 = (am_up h' 3 0 1) (3 : Int) 0 * (h 1 9) ∧ nr h'_1 4 0 = mul ((am_up h' 3 0 1) (3 : Int) 0) (nr (am_up h' 3 0 1) 4 0) k (h 1 9)) → ((TPB h'_1 2 (h'_1 1 1) ∧ (0 ≤ h'_1 1 7 ∧ h'_1 1 7 ≤ 900)) ∧ (∀ (h'_2 : am_H), (ADV h'_1 h'_2) → (R none h'_2)))))))) ∧ ((20 < 1 * (h 1 9)) → (R none (am_up (am_up h' 1 4 (3 : Int)) 1 5 (h' 1 6))))))))))) : am_AT 4 56 0 [some (mR 1 7 0 1), some (mB k), none, none] h R :=
  am_T (d := 3) (m := 56) (T := tb56) (mL := 4) (rk := 0) (cuts := []) (l := [(30, C30), (59, C59), (60, C60), (61, C61), (180, C180)]) rfl ⟨am_CS_d (by decide) C30_ok, am_CS_d (by decide) C59_ok, am_CS_d (by decide) C60_ok, am_CS_d (by decide) C61_ok, am_CS_d (by decide) C180_ok, trivial⟩ 40 (And.intro (rfl) (fun z1_0 z1_1 => And.intro (fun c7 => And.intro (fun c8 => And.intro (fun c9 => ((((t) z1_0 z1_1).1 c7).1 c8).1 c9) (fun c9 => And.intro (((((t) z1_0 z1_1).1 c7).1 c8).2 c9).1 (fun z2_0 z2_1 => And.intro (rfl) (And.intro (((((((t) z1_0 z1_1).1 c7).1 c8).2 c9).2) z2_0 z2_1).1 (fun z3_0 z3_1 => ((((((((t) z1_0 z1_1).1 c7).1 c8).2 c9).2) z2_0 z2_1).2) z3_0 z3_1))))) (fun c8 => And.intro ((((t) z1_0 z1_1).1 c7).2 c8).1 (And.intro (fun c10 => And.intro (fun c11 => ((((((t) z1_0 z1_1).1 c7).2 c8).2).1 c10).1 c11) (fun c11 => And.intro (((((((t) z1_0 z1_1).1 c7).2 c8).2).1 c10).2 c11).1 (fun z4_0 z4_1 => And.intro (rfl) (And.intro (((((((((t) z1_0 z1_1).1 c7).2 c8).2).1 c10).2 c11).2) z4_0 z4_1).1 (fun z5_0 z5_1 => ((((((((((t) z1_0 z1_1).1 c7).2 c8).2).1 c10).2 c11).2) z4_0 z4_1).2) z5_0 z5_1))))) (fun c10 => And.intro (rfl) (And.intro (fun _ => (((((t) z1_0 z1_1).1 c7).2 c8).2).2 c10) (fun c => absurd (a := (3 : Int) = 0) c (by decide))))))) (fun c7 => And.intro (fun c12 => And.intro (fun c13 => ((((t) z1_0 z1_1).2 c7).1 c12).1 c13) (fun c13 => And.intro (((((t) z1_0 z1_1).2 c7).1 c12).2 c13).1 (fun z6_0 z6_1 => And.intro (rfl) (And.intro (((((((t) z1_0 z1_1).2 c7).1 c12).2 c13).2) z6_0 z6_1).1 (fun z7_0 z7_1 => ((((((((t) z1_0 z1_1).2 c7).1 c12).2 c13).2) z6_0 z6_1).2) z7_0 z7_1))))) (fun c12 => And.intro ((((t) z1_0 z1_1).2 c7).2 c12).1 (And.intro (fun c14 => And.intro (fun c15 => ((((((t) z1_0 z1_1).2 c7).2 c12).2).1 c14).1 c15) (fun c15 => And.intro (((((((t) z1_0 z1_1).2 c7).2 c12).2).1 c14).2 c15).1 (fun z8_0 z8_1 => And.intro (rfl) (And.intro (((((((((t) z1_0 z1_1).2 c7).2 c12).2).1 c14).2 c15).2) z8_0 z8_1).1 (fun z9_0 z9_1 => ((((((((((t) z1_0 z1_1).2 c7).2 c12).2).1 c14).2 c15).2) z8_0 z8_1).2) z9_0 z9_1))))) (fun c14 => And.intro (rfl) (And.intro (fun _ => (((((t) z1_0 z1_1).2 c7).2 c12).2).2 c14) (fun c => absurd (a := (3 : Int) = 0) c (by decide)))))))))
theorem C56_ok : am_CS 4 56 C56 := W56 (fun k h K hb => by
  obtain ⟨⟨T, CT, hj, f0, W, hk⟩, hK⟩ := hb
  have TW : TPW (ctp h) := TPW_b T
  have tl := tke_le TW hj.1 hj.2
  have e6 := CT.1.1
  have e7 := CT.2.1
  refine T56_0 (fun h' q1 => ⟨fun c2 => ⟨fun c3 => ⟨fun c4 => ?_, fun c4 => ⟨by omega, fun h'_1 q5 => ⟨by omega, fun h'_2 q6 => ?_⟩⟩⟩, fun c3 => ⟨by
    have F3b : h' 3 0 = h 3 0 := q1.1 _ _ (by omega)
    have n := (NUM CT q1)
    have r0 : rdf (ctp h) (h 1 6) (if k = 1 then 3 else 2) 20 = 0 := Classical.byContradiction fun z => by
      have := (n.2 z).1
      omega
    have v := n.1 r0
    have l2 : 2 ≤ (if k = 1 then (3 : Int) else 2) := by by_cases z : k = 1 <;> simp [z]
    have w1 := Int.mul_nonneg W.1.1 (show 0 ≤ h 1 9 by omega)
    have w2 := Int.mul_le_mul W.1.2.1 v.1.2.2.2 (show 0 ≤ h 1 9 by omega) (by omega)
    rw [F3b]
    unfold R32
    omega, ⟨fun c4 => ⟨fun c5 => ?_, fun c5 => ⟨by
    have F3 : h' 1 3 = h 1 3 := q1.1 _ _ (by omega)
    have F3b : h' 3 0 = h 3 0 := q1.1 _ _ (by omega)
    have n := (NUM CT q1)
    have r0 : rdf (ctp h) (h 1 6) (if k = 1 then 3 else 2) 20 = 0 := Classical.byContradiction fun z => by
      have := (n.2 z).1
      omega
    have v := n.1 r0
    have l2 : 2 ≤ (if k = 1 then (3 : Int) else 2) := by by_cases z : k = 1 <;> simp [z]
    have ME : nr (am_up h' 3 0 (h' 3 0)) 4 0 = nr h 4 0 := nr_fr2 (fun i => by rw [am_up_n2 (by omega)]; exact q1.1 _ _ (by omega))
    rw [am_up_eq, ME]
    refine ⟨by omega, hk, ⟨?_, c4⟩, ?_, fun y a b => by rw [am_up_n2 (by omega), q1.1 _ _ (by omega)]; exact SR_h rfl W.2.1 y a b⟩
    · rw [F3b]; exact W.2.2.2.2 (by have := W.2.2.1; rw [F3] at c2; omega)
    · rw [F3b]; exact W.1, fun h'_1 q6 => ⟨by
    rw [q6.1 1 7 (by omega) (by omega), am_up_n2 (by omega), q1.1 1 7 (by omega)]
    exact ⟨TPB_fr T (fun j => by rw [q6.1 _ _ (by omega) (by omega), am_up_n2 (by omega)]; exact q1.1 _ _ (by omega)) (by rw [q6.1 _ _ (by omega) (by omega), am_up_n2 (by omega)]; exact q1.1 _ _ (by omega)), by omega⟩, fun h'_2 q7 => ?_⟩⟩⟩, fun c4 => ?_⟩⟩⟩, fun c2 => ⟨fun c3 => ⟨fun c4 => ?_, fun c4 => ⟨by omega, fun h'_1 q5 => ⟨by omega, fun h'_2 q6 => ?_⟩⟩⟩, fun c3 => ⟨by
    have n := (NUM CT q1)
    have r0 : rdf (ctp h) (h 1 6) (if k = 1 then 3 else 2) 20 = 0 := Classical.byContradiction fun z => by
      have := (n.2 z).1
      omega
    have v := n.1 r0
    have l2 : 2 ≤ (if k = 1 then (3 : Int) else 2) := by by_cases z : k = 1 <;> simp [z]
    unfold R32
    omega, ⟨fun c4 => ⟨fun c5 => ?_, fun c5 => ⟨by
    have F3 : h' 1 3 = h 1 3 := q1.1 _ _ (by omega)
    have F3b : h' 3 0 = h 3 0 := q1.1 _ _ (by omega)
    have n := (NUM CT q1)
    have r0 : rdf (ctp h) (h 1 6) (if k = 1 then 3 else 2) 20 = 0 := Classical.byContradiction fun z => by
      have := (n.2 z).1
      omega
    have v := n.1 r0
    have l2 : 2 ≤ (if k = 1 then (3 : Int) else 2) := by by_cases z : k = 1 <;> simp [z]
    have ME : nr (am_up h' 3 0 1) 4 0 = nr h 4 0 := nr_fr2 (fun i => by rw [am_up_n2 (by omega)]; exact q1.1 _ _ (by omega))
    rw [am_up_eq, ME]
    refine ⟨by omega, hk, ⟨?_, c4⟩, ?_, fun y a b => by rw [am_up_n2 (by omega), q1.1 _ _ (by omega)]; exact SR_h rfl W.2.1 y a b⟩
    · omega
    · have N := W.1
      rw [W.2.2.2.1 (by rw [← F3]; exact c2)] at N
      exact NT_no N (by omega) (by omega), fun h'_1 q6 => ⟨by
    rw [q6.1 1 7 (by omega) (by omega), am_up_n2 (by omega), q1.1 1 7 (by omega)]
    exact ⟨TPB_fr T (fun j => by rw [q6.1 _ _ (by omega) (by omega), am_up_n2 (by omega)]; exact q1.1 _ _ (by omega)) (by rw [q6.1 _ _ (by omega) (by omega), am_up_n2 (by omega)]; exact q1.1 _ _ (by omega)), by omega⟩, fun h'_2 q7 => ?_⟩⟩⟩, fun c4 => ?_⟩⟩⟩⟩)
  · have n := (NUM CT q1)
    have r0 : ¬ rdf (ctp h) (h 1 6) (if k = 1 then 3 else 2) 20 = 0 := fun z => by
      have := (n.1 z).2.1
      omega
    refine hK _ (BDY_no (n' := h 3 0) (r' := nr h 4 0) (fun x i a b c => q1.1 x i (by omega)) (by rw [q1.1 _ _ (by omega)]; omega) (n.2 r0).1 (n.2 r0).2 r0 ?_)
    unfold bPr
    rw [cif_f r0]
  · exfalso; omega
  · exfalso; omega
  · have F3 : h' 1 3 = h 1 3 := q1.1 _ _ (by omega)
    have F3b : h' 3 0 = h 3 0 := q1.1 _ _ (by omega)
    have ME : nr (am_up h' 3 0 (h' 3 0)) 4 0 = nr h 4 0 := nr_fr2 (fun i => by rw [am_up_n2 (by omega)]; exact q1.1 _ _ (by omega))
    have n := (NUM CT q1)
    have r0 : rdf (ctp h) (h 1 6) (if k = 1 then 3 else 2) 20 = 0 := Classical.byContradiction fun z => by
      have := (n.2 z).1
      omega
    have v := n.1 r0
    have oc : (if h 1 3 = 0 then 1 else h 3 0) = h 3 0 := if_neg (by rw [← F3]; exact c2)
    have kk : ¬ 20 < (if h 1 3 = 0 then 1 else h 3 0) * tkv (ctp h) (h 1 6) := by rw [oc, ← v.1.2.1, ← F3b]; omega
    have S1 : bPr (ctp h) k (h 1 6) (h 1 3) (h 3 0) (nr h 4 0) = (0, -1, (if h 1 3 = 0 then 1 else h 3 0) * tkv (ctp h) (h 1 6), mul (if h 1 3 = 0 then 1 else h 3 0) (nr h 4 0) k (tkv (ctp h) (h 1 6)), tke (ctp h) (h 1 6)) := by
      unfold bPr
      rw [cif_t r0, cif_f kk]
    have tr := tk_r TW hj.1 (by rw [v.1.1]; omega)
    rw [am_up_eq, ME] at q6
    refine hK _ (BDY_ok T (fun x i a b c => by rw [q6.1 x i b c, am_up_n2 b]; exact q1.1 x i (by omega)) (by rw [q6.1 _ _ (by omega) (by omega), am_up_n2 (by omega)]; omega) (by rw [q6.1 _ _ (by omega) (by omega), am_up_n2 (by omega)]; exact v.2.2) (by rw [q6.1 _ _ (by omega) (by omega), am_up_n2 (by omega), q1.1 _ _ (by omega)]; exact e7) ⟨by omega, tr.2.2⟩ ?_ ?_ q7 S1)
    · rw [q6.2.1, oc, ← v.1.2.1]
      rw [F3b]
    · rw [q6.2.2, oc, ← v.1.2.1]
      rw [F3b]
  · have F3 : h' 1 3 = h 1 3 := q1.1 _ _ (by omega)
    have F3b : h' 3 0 = h 3 0 := q1.1 _ _ (by omega)
    have n := (NUM CT q1)
    have r0 : rdf (ctp h) (h 1 6) (if k = 1 then 3 else 2) 20 = 0 := Classical.byContradiction fun z => by
      have := (n.2 z).1
      omega
    have v := n.1 r0
    have oc : (if h 1 3 = 0 then 1 else h 3 0) = h 3 0 := if_neg (by rw [← F3]; exact c2)
    have kk : 20 < (if h 1 3 = 0 then 1 else h 3 0) * tkv (ctp h) (h 1 6) := by rw [oc, ← v.1.2.1, ← F3b]; exact c4
    refine hK _ (BDY_no (n' := h 3 0) (r' := nr h 4 0) (f := 3) (p := tks (ctp h) (h 1 6)) (fun x i a b c => by rw [am_up_n2 (by omega), am_up_n2 (by omega)]; exact q1.1 x i (by omega)) (by rw [am_up_n2 (by omega), am_up_n2 (by omega), q1.1 _ _ (by omega)]; omega) (by rw [am_up_n2 (by omega), am_up_eq]) (by rw [am_up_eq, q1.1 _ _ (by omega)]; exact e6) (by omega) ?_)
    unfold bPr
    rw [cif_t r0, cif_t kk]
  · have n := (NUM CT q1)
    have r0 : ¬ rdf (ctp h) (h 1 6) (if k = 1 then 3 else 2) 20 = 0 := fun z => by
      have := (n.1 z).2.1
      omega
    refine hK _ (BDY_no (n' := h 3 0) (r' := nr h 4 0) (fun x i a b c => q1.1 x i (by omega)) (by rw [q1.1 _ _ (by omega)]; omega) (n.2 r0).1 (n.2 r0).2 r0 ?_)
    unfold bPr
    rw [cif_f r0]
  · exfalso; omega
  · exfalso; omega
  · have F3 : h' 1 3 = h 1 3 := q1.1 _ _ (by omega)
    have ME : nr (am_up h' 3 0 1) 4 0 = nr h 4 0 := nr_fr2 (fun i => by rw [am_up_n2 (by omega)]; exact q1.1 _ _ (by omega))
    have n := (NUM CT q1)
    have r0 : rdf (ctp h) (h 1 6) (if k = 1 then 3 else 2) 20 = 0 := Classical.byContradiction fun z => by
      have := (n.2 z).1
      omega
    have v := n.1 r0
    have oc : (if h 1 3 = 0 then 1 else h 3 0) = 1 := if_pos (by rw [← F3]; exact c2)
    have kk : ¬ 20 < (if h 1 3 = 0 then 1 else h 3 0) * tkv (ctp h) (h 1 6) := by rw [oc, ← v.1.2.1]; omega
    have S1 : bPr (ctp h) k (h 1 6) (h 1 3) (h 3 0) (nr h 4 0) = (0, -1, (if h 1 3 = 0 then 1 else h 3 0) * tkv (ctp h) (h 1 6), mul (if h 1 3 = 0 then 1 else h 3 0) (nr h 4 0) k (tkv (ctp h) (h 1 6)), tke (ctp h) (h 1 6)) := by
      unfold bPr
      rw [cif_t r0, cif_f kk]
    have tr := tk_r TW hj.1 (by rw [v.1.1]; omega)
    rw [am_up_eq, ME] at q6
    refine hK _ (BDY_ok T (fun x i a b c => by rw [q6.1 x i b c, am_up_n2 b]; exact q1.1 x i (by omega)) (by rw [q6.1 _ _ (by omega) (by omega), am_up_n2 (by omega)]; omega) (by rw [q6.1 _ _ (by omega) (by omega), am_up_n2 (by omega)]; exact v.2.2) (by rw [q6.1 _ _ (by omega) (by omega), am_up_n2 (by omega), q1.1 _ _ (by omega)]; exact e7) ⟨by omega, tr.2.2⟩ ?_ ?_ q7 S1)
    · rw [q6.2.1, oc, ← v.1.2.1]
    · rw [q6.2.2, oc, ← v.1.2.1]
  · have F3 : h' 1 3 = h 1 3 := q1.1 _ _ (by omega)
    have n := (NUM CT q1)
    have r0 : rdf (ctp h) (h 1 6) (if k = 1 then 3 else 2) 20 = 0 := Classical.byContradiction fun z => by
      have := (n.2 z).1
      omega
    have v := n.1 r0
    have oc : (if h 1 3 = 0 then 1 else h 3 0) = 1 := if_pos (by rw [← F3]; exact c2)
    have kk : 20 < (if h 1 3 = 0 then 1 else h 3 0) * tkv (ctp h) (h 1 6) := by rw [oc, ← v.1.2.1]; exact c4
    refine hK _ (BDY_no (n' := h 3 0) (r' := nr h 4 0) (f := 3) (p := tks (ctp h) (h 1 6)) (fun x i a b c => by rw [am_up_n2 (by omega), am_up_n2 (by omega)]; exact q1.1 x i (by omega)) (by rw [am_up_n2 (by omega), am_up_n2 (by omega), q1.1 _ _ (by omega)]; omega) (by rw [am_up_n2 (by omega), am_up_eq]) (by rw [am_up_eq, q1.1 _ _ (by omega)]; exact e6) (by omega) ?_)
    unfold bPr
    rw [cif_t r0, cif_t kk])
/-! 57 FactorNets$Reader.readPoints -/
def C57 : am_K := fun as h K => am_a1 as (fun v0 => am_oc 7 1 v0 (((TPB h 2 (h 1 1)) ∧ CTK h (h 1 6) ∧ (0 ≤ h 1 6 ∧ h 1 6 ≤ 800) ∧ h 1 4 = 0 ∧ WFn (h 1 3) (h 3 0) (nr h 4 0) ∧ h 1 3 = 0) ∧ (∀ (h' : am_H), BDY h h' (bPo (ctp h) (h 1 6) (h 3 0) (nr h 4 0)) → K (none) (h'))))
theorem W57 {d : Nat} (H : ∀  (h : am_H) (K : Option am_V → am_H → Prop), ((TPB h 2 (h 1 1)) ∧ CTK h (h 1 6) ∧ (0 ≤ h 1 6 ∧ h 1 6 ≤ 800) ∧ h 1 4 = 0 ∧ WFn (h 1 3) (h 3 0) (nr h 4 0) ∧ h 1 3 = 0) ∧ (∀ (h' : am_H), BDY h h' (bPo (ctp h) (h 1 6) (h 3 0) (nr h 4 0)) → K (none) (h')) → am_AT d 57 0 [some (mR 1 7 0 1), none] h K) : am_CS d 57 C57 := by
  refine am_CS_of (T := tb57) (mL := 2) (rk := 0) rfl (fun as h K hC => ?_)
  obtain ⟨v0, rfl, hC0⟩ := am_a1_e hC
  obtain ⟨e0, hC1⟩ := am_oc_e hC0
  subst e0
  refine ⟨Nat.le_of_ble_eq_true rfl, ?_⟩
  exact H  h K hC1
theorem T57_0 {R : Option am_V → am_H → Prop} {h : am_H} (t : (TPB h 2 (h 1 1) ∧ (0 ≤ h 1 6 ∧ h 1 6 ≤ 900 ∧ 0 ≤ h 1 7 ∧ h 1 7 ≤ 901)) ∧ (((h 1 8 = 1 ∧ h 1 7 - h 1 6 = am_sl (3000008 : Int) ∧ ∀ j9, 0 ≤ j9 → j9 < am_sl (3000008 : Int) → (tpn h 2 (h 1 1)) (h 1 6 + j9) = am_sc (3000008 : Int) j9) → ((TPB h 2 (h 1 1) ∧ (0 ≤ h 1 7 ∧ h 1 7 ≤ 900)) ∧ (∀ (h' : am_H), (ADV h h') → (∀ (h'_1 : am_H), (RNM h' h'_1 (1 : Int) (20 : Int)) → (((¬ (h'_1) 1 4 = 0) → (R none h'_1)) ∧ (((h'_1) 1 4 = 0) → ((TPB (am_up h'_1 3 0 (h' 1 9)) 2 ((am_up h'_1 3 0 (h' 1 9)) 1 1) ∧ (0 ≤ (am_up h'_1 3 0 (h' 1 9)) 1 7 ∧ (am_up h'_1 3 0 (h' 1 9)) 1 7 ≤ 900)) ∧ (∀ (h'_2 : am_H), (ADV (am_up h'_1 3 0 (h' 1 9)) h'_2) → (R none h'_2))))))))) ∧ ((¬ (h 1 8 = 1 ∧ h 1 7 - h 1 6 = am_sl (3000008 : Int) ∧ ∀ j9, 0 ≤ j9 → j9 < am_sl (3000008 : Int) → (tpn h 2 (h 1 1)) (h 1 6 + j9) = am_sc (3000008 : Int) j9)) → (R none (am_up (am_up h 1 4 (1 : Int)) 1 5 (h 1 6)))))) : am_AT 4 57 0 [some (mR 1 7 0 1), none] h R :=
  am_T (d := 3) (m := 57) (T := tb57) (mL := 2) (rk := 0) (cuts := []) (l := [(59, C59), (60, C60), (61, C61), (64, C64)]) rfl ⟨am_CS_d (by decide) C59_ok, am_CS_d (by decide) C60_ok, am_CS_d (by decide) C61_ok, am_CS_d (by decide) C64_ok, trivial⟩ 25 (And.intro (rfl) (And.intro (t).1 (And.intro (fun c16 => And.intro (rfl) (And.intro (((t).2).1 c16).1 (fun z10_0 z10_1 => And.intro (rfl) (fun z11_0 z11_1 => And.intro (fun c17 => ((((((t).2).1 c16).2) z10_0 z10_1) z11_0 z11_1).1 c17) (fun c17 => And.intro (rfl) (And.intro (((((((t).2).1 c16).2) z10_0 z10_1) z11_0 z11_1).2 c17).1 (fun z12_0 z12_1 => ((((((((t).2).1 c16).2) z10_0 z10_1) z11_0 z11_1).2 c17).2) z12_0 z12_1))))))) (fun c16 => And.intro (rfl) (((t).2).2 c16)))))
theorem C57_ok : am_CS 4 57 C57 := W57 (fun h K hb => by
  obtain ⟨⟨T, CT, hj, f0, W, z0⟩, hK⟩ := hb
  have TW : TPW (ctp h) := TPW_b T
  have tl := tke_le TW hj.1 hj.2
  have e6 := CT.1.1
  have e7 := CT.2.1
  have CC : ∀ h', ADV h h' → CTK h' (tke (ctp h) (h 1 6)) ∧ ctp h' = ctp h := fun h' A => by
    have := A.2
    rw [e7] at this
    exact ⟨this, ctp_fr (fun j => A.1 _ _ (by omega)) (A.1 _ _ (by omega))⟩
  have SW : ∀ h' h'_1, ADV h h' → RNM h' h'_1 1 20 → cwd h 3000008 → (h'_1 1 4 = 0 → rdf (ctp h) (tke (ctp h) (h 1 6)) 1 20 = 0) := fun h' h'_1 A N w z => Classical.byContradiction fun q => by
    have C := CC h' A
    have n := (NUM C.1 N).2
    rw [C.2] at n
    have := (n q).1
    omega
  refine T57_0 ⟨⟨T, by omega⟩, ⟨fun c1 => ⟨⟨T, by omega⟩, fun h' q2 => fun h'_1 q3 => ⟨fun c4 => ?_, fun c4 => ⟨by
    have C := CC h' q2
    have w : wdp (ctp h) (h 1 6) 3000008 := (cwd_w CT 3000008).mp c1
    have tr := tk_r TW hj.1 (by rw [w.1]; omega)
    have tl2 := tke_le TW (i := tke (ctp h) (h 1 6)) (by omega) (by omega)
    have g7 := C.1.2.1
    rw [C.2] at g7
    refine ⟨TPB_fr T (fun j => by rw [am_up_n2 (by omega), q3.1 _ _ (by omega)]; exact q2.1 _ _ (by omega)) (by rw [am_up_n2 (by omega), q3.1 _ _ (by omega)]; exact q2.1 _ _ (by omega)), ?_⟩
    rw [am_up_n2 (by omega), q3.1 _ _ (by omega)]
    omega, fun h'_2 q5 => ?_⟩⟩⟩, fun c1 => ?_⟩⟩
  · have C := CC h' q2
    have n := NUM C.1 q3
    rw [C.2] at n
    have w : wdp (ctp h) (h 1 6) 3000008 := (cwd_w CT 3000008).mp c1
    have tr := tk_r TW hj.1 (by rw [w.1]; omega)
    have r0 : ¬ rdf (ctp h) (tke (ctp h) (h 1 6)) 1 20 = 0 := fun z => by
      have := (n.1 z).2.1
      rw [q2.1 _ _ (by omega)] at this
      omega
    have tl2 := tke_le TW (i := tke (ctp h) (h 1 6)) (by omega) (by omega)
    have g7 := C.1.2.1
    rw [C.2] at g7
    refine hK _ (BDY_no (n' := h 3 0) (r' := nr h 4 0) (fun x i a b c => by rw [q3.1 x i (by omega)]; exact q2.1 x i (by omega)) (by rw [q3.1 _ _ (by omega)]; omega) (n.2 r0).1 (n.2 r0).2 r0 ?_)
    unfold bPo
    rw [cif_t w, cif_f r0]
  · have C := CC h' q2
    have n := NUM C.1 q3
    rw [C.2] at n
    have w : wdp (ctp h) (h 1 6) 3000008 := (cwd_w CT 3000008).mp c1
    have tr := tk_r TW hj.1 (by rw [w.1]; omega)
    have r0 := SW h' h'_1 q2 q3 c1 c4
    have v := n.1 r0
    have tr2 := tk_r TW (i := tke (ctp h) (h 1 6)) (by omega) (by rw [v.1.1]; omega)
    have g7 := C.1.2.1
    rw [C.2] at g7
    have S1 : bPo (ctp h) (h 1 6) (h 3 0) (nr h 4 0) = (0, -1, tkv (ctp h) (tke (ctp h) (h 1 6)), nr h 4 0, tke (ctp h) (tke (ctp h) (h 1 6))) := by
      unfold bPo
      rw [cif_t w, cif_t r0]
    refine hK _ (BDY_ok T (fun x i a b c => by rw [am_up_n2 b, q3.1 x i (by omega)]; exact q2.1 x i (by omega)) (by rw [am_up_n2 (by omega)]; exact c4) (by rw [am_up_n2 (by omega), v.2.2]; exact q2.1 _ _ (by omega)) (by rw [am_up_n2 (by omega), q3.1 _ _ (by omega)]; exact g7) ⟨by omega, tr2.2.2⟩ ?_ ?_ q5 S1)
    · rw [am_up_eq]; exact v.1.2.1
    · exact nr_fr2 (fun i => by rw [am_up_n2 (by omega), q3.1 _ _ (by omega)]; exact q2.1 _ _ (by omega))
  · have w : ¬ wdp (ctp h) (h 1 6) 3000008 := fun z => c1 ((cwd_w CT 3000008).mpr z)
    refine hK _ (BDY_no (n' := h 3 0) (r' := nr h 4 0) (f := 1) (p := tks (ctp h) (h 1 6)) (fun x i a b c => by rw [am_up_n2 (by omega), am_up_n2 (by omega)]) (by rw [am_up_n2 (by omega), am_up_n2 (by omega)]; omega) (by rw [am_up_n2 (by omega), am_up_eq]) (by rw [am_up_eq]; exact e6) (by omega) ?_)
    unfold bPo
    rw [cif_f w])
/-! 58 FactorNets$Reader.readLine -/
def C58 : am_K := fun as h K => am_a1 as (fun v0 => am_oc 7 1 v0 (((TPB h 2 (h 1 1)) ∧ CTK h (h 1 6) ∧ (0 ≤ h 1 6 ∧ h 1 6 ≤ 800) ∧ h 1 4 = 0 ∧ WFn (h 1 3) (h 3 0) (nr h 4 0) ∧ 0 < h 1 3) ∧ (∀ (h' : am_H), BDY h h' (bLi (ctp h) (h 1 6) (h 3 0) (nr h 4 0)) → K (none) (h'))))
theorem W58 {d : Nat} (H : ∀  (h : am_H) (K : Option am_V → am_H → Prop), ((TPB h 2 (h 1 1)) ∧ CTK h (h 1 6) ∧ (0 ≤ h 1 6 ∧ h 1 6 ≤ 800) ∧ h 1 4 = 0 ∧ WFn (h 1 3) (h 3 0) (nr h 4 0) ∧ 0 < h 1 3) ∧ (∀ (h' : am_H), BDY h h' (bLi (ctp h) (h 1 6) (h 3 0) (nr h 4 0)) → K (none) (h')) → am_AT d 58 0 [some (mR 1 7 0 1), none, none] h K) : am_CS d 58 C58 := by
  refine am_CS_of (T := tb58) (mL := 3) (rk := 0) rfl (fun as h K hC => ?_)
  obtain ⟨v0, rfl, hC0⟩ := am_a1_e hC
  obtain ⟨e0, hC1⟩ := am_oc_e hC0
  subst e0
  refine ⟨Nat.le_of_ble_eq_true rfl, ?_⟩
  exact H  h K hC1
theorem T58_0 {R : Option am_V → am_H → Prop} {h : am_H} (t : (R32 ((h 3 0) - 1)) ∧ (∀ (h' : am_H), (RNM h h' (0 : Int) ((h 3 0) - 1)) → (((h' 1 4 = 0) → ((TPB h' 2 (h' 1 1) ∧ (0 ≤ h' 1 7 ∧ h' 1 7 ≤ 900)) ∧ (∀ (h'_1 : am_H), (ADV h' h'_1) → ((R32 (((h'_1) 3 0) - 1)) ∧ (∀ (h'_2 : am_H), (RNM h'_1 h'_2 (0 : Int) (((h'_1) 3 0) - 1)) → (((¬ (h'_2) 1 4 = 0) → (((¬ (h'_2) 1 4 = 0) → (R none h'_2)) ∧ (((h'_2) 1 4 = 0) → (((0 ≤ (h 1 9) ∧ (h 1 9) < 20) ∧ (0 ≤ (h'_1 1 9) ∧ (h'_1 1 9) < 20)) ∧ ((TPB (h_lk h'_2 4 (h 1 9) (h'_1 1 9)) 2 ((h_lk h'_2 4 (h 1 9) (h'_1 1 9)) 1 1) ∧ (0 ≤ (h_lk h'_2 4 (h 1 9) (h'_1 1 9)) 1 7 ∧ (h_lk h'_2 4 (h 1 9) (h'_1 1 9)) 1 7 ≤ 900)) ∧ (∀ (h'_3 : am_H), (ADV (h_lk h'_2 4 (h 1 9) (h'_1 1 9)) h'_3) → (R none h'_3))))))) ∧ (((h'_2) 1 4 = 0) → (((h 1 9 = h'_1 1 9) → (R none (am_up (am_up h'_2 1 4 (2 : Int)) 1 5 (h'_2 1 6)))) ∧ ((¬ h 1 9 = h'_1 1 9) → (((0 ≤ (h 1 9) ∧ (h 1 9) < 20) ∧ (0 ≤ (h'_1 1 9) ∧ (h'_1 1 9) < 32)) ∧ (((¬ (bit (h'_2 4 (h 1 9)) (h'_1 1 9))) → (((¬ (h'_2) 1 4 = 0) → (R none h'_2)) ∧ (((h'_2) 1 4 = 0) → (((0 ≤ (h 1 9) ∧ (h 1 9) < 20) ∧ (0 ≤ (h'_1 1 9) ∧ (h'_1 1 9) < 20)) ∧ ((TPB (h_lk h'_2 4 (h 1 9) (h'_1 1 9)) 2 ((h_lk h'_2 4 (h 1 9) (h'_1 1 9)) 1 1) ∧ (0 ≤ (h_lk h'_2 4 (h 1 9) (h'_1 1 9)) 1 7 ∧ (h_lk h'_2 4 (h 1 9) (h'_1 1 9)) 1 7 ≤ 900)) ∧ (∀ (h'_3 : am_H), (ADV (h_lk h'_2 4 (h 1 9) (h'_1 1 9)) h'_3) → (R none h'_3))))))) ∧ ((bit (h'_2 4 (h 1 9)) (h'_1 1 9)) → (R none (am_up (am_up h'_2 1 4 (2 : Int)) 1 5 (h'_2 1 6))))))))))))))) ∧ ((¬ h' 1 4 = 0) → (R none h'))))) : am_AT 4 58 0 [some (mR 1 7 0 1), none, none] h R :=
  am_T (d := 3) (m := 58) (T := tb58) (mL := 3) (rk := 0) (cuts := []) (l := [(23, C23), (24, C24), (59, C59), (60, C60), (61, C61)]) rfl ⟨am_CS_d (by decide) C23_ok, am_CS_d (by decide) C24_ok, am_CS_d (by decide) C59_ok, am_CS_d (by decide) C60_ok, am_CS_d (by decide) C61_ok, trivial⟩ 50 (And.intro (t).1 (And.intro (rfl) (fun z13_0 z13_1 => And.intro (fun c18 => And.intro (rfl) (And.intro ((((t).2) z13_0 z13_1).1 c18).1 (fun z14_0 z14_1 => And.intro ((((((t).2) z13_0 z13_1).1 c18).2) z14_0 z14_1).1 (And.intro (rfl) (fun z15_0 z15_1 => And.intro (fun c19 => And.intro (fun c20 => (((((((((t).2) z13_0 z13_1).1 c18).2) z14_0 z14_1).2) z15_0 z15_1).1 c19).1 c20) (fun c20 => And.intro ((((((((((t).2) z13_0 z13_1).1 c18).2) z14_0 z14_1).2) z15_0 z15_1).1 c19).2 c20).1 (And.intro (rfl) (And.intro (((((((((((t).2) z13_0 z13_1).1 c18).2) z14_0 z14_1).2) z15_0 z15_1).1 c19).2 c20).2).1 (fun z16_0 z16_1 => ((((((((((((t).2) z13_0 z13_1).1 c18).2) z14_0 z14_1).2) z15_0 z15_1).1 c19).2 c20).2).2) z16_0 z16_1))))) (fun c19 => And.intro (fun c21 => And.intro (rfl) (And.intro (fun _ => (((((((((t).2) z13_0 z13_1).1 c18).2) z14_0 z14_1).2) z15_0 z15_1).2 c19).1 c21) (fun c => absurd (a := (2 : Int) = 0) c (by decide)))) (fun c21 => And.intro ((((((((((t).2) z13_0 z13_1).1 c18).2) z14_0 z14_1).2) z15_0 z15_1).2 c19).2 c21).1 (And.intro (fun c22 => And.intro (fun c23 => ((((((((((((t).2) z13_0 z13_1).1 c18).2) z14_0 z14_1).2) z15_0 z15_1).2 c19).2 c21).2).1 c22).1 c23) (fun c23 => And.intro (((((((((((((t).2) z13_0 z13_1).1 c18).2) z14_0 z14_1).2) z15_0 z15_1).2 c19).2 c21).2).1 c22).2 c23).1 (And.intro (rfl) (And.intro ((((((((((((((t).2) z13_0 z13_1).1 c18).2) z14_0 z14_1).2) z15_0 z15_1).2 c19).2 c21).2).1 c22).2 c23).2).1 (fun z17_0 z17_1 => (((((((((((((((t).2) z13_0 z13_1).1 c18).2) z14_0 z14_1).2) z15_0 z15_1).2 c19).2 c21).2).1 c22).2 c23).2).2) z17_0 z17_1))))) (fun c22 => And.intro (rfl) (And.intro (fun _ => (((((((((((t).2) z13_0 z13_1).1 c18).2) z14_0 z14_1).2) z15_0 z15_1).2 c19).2 c21).2).2 c22) (fun c => absurd (a := (2 : Int) = 0) c (by decide)))))))))))) (fun c18 => (((t).2) z13_0 z13_1).2 c18))))
theorem C58_ok : am_CS 4 58 C58 := W58 (fun h K hb => by
  obtain ⟨⟨T, CT, hj, f0, W, z0⟩, hK⟩ := hb
  have TW : TPW (ctp h) := TPW_b T
  have tl := tke_le TW hj.1 hj.2
  have e6 := CT.1.1
  have e7 := CT.2.1
  have hn := W.1.2.1
  have hn0 := W.1.1
  refine T58_0 ⟨by omega, fun h' q1 => ⟨fun c2 => ⟨by
    rw [q1.1 1 7 (by omega)]
    exact ⟨TPB_fr T (fun j => q1.1 _ _ (by omega)) (q1.1 _ _ (by omega)), by omega⟩, fun h'_1 q3 => ⟨by
    have : h'_1 3 0 = h 3 0 := (q3.1 _ _ (by omega)).trans (q1.1 _ _ (by omega))
    omega, fun h'_2 q4 => ⟨fun c5 => ⟨fun c6 => ?_, fun c6 => ⟨by omega, ⟨by omega, fun h'_3 q7 => ?_⟩⟩⟩, fun c5 => ⟨fun c6 => ?_, fun c6 => ⟨by
    have n1 := NUM CT q1
    have r1 : rdf (ctp h) (h 1 6) 0 (h 3 0 - 1) = 0 := Classical.byContradiction fun z => by
      have := (n1.2 z).1
      omega
    have v1 := n1.1 r1
    have tr1 := tk_r TW hj.1 (by rw [v1.1.1]; omega)
    have E1 : h' 1 7 = tke (ctp h) (h 1 6) := by rw [q1.1 _ _ (by omega)]; exact e7
    have C1 := q3.2
    rw [E1] at C1
    have ec : ctp h'_1 = ctp h := (ctp_fr (fun j => q3.1 _ _ (by omega)) (q3.1 _ _ (by omega))).trans (ctp_fr (fun j => q1.1 _ _ (by omega)) (q1.1 _ _ (by omega)))
    have n30 : h'_1 3 0 = h 3 0 := by rw [q3.1 _ _ (by omega)]; exact q1.1 _ _ (by omega)
    have g7 := C1.2.1
    rw [ec] at g7
    have tl2 := tke_le TW (i := tke (ctp h) (h 1 6)) (by omega) (by omega)
    rw [n30] at q4
    have n2 := NUM C1 q4
    rw [ec] at n2
    have FF : ∀ x i, ¬ (x = 1 ∧ 4 ≤ i ∧ i ≤ 9) → h'_2 x i = h x i := fun x i a => by rw [q4.1 x i (by omega), q3.1 x i (by omega)]; exact q1.1 x i (by omega)
    have e27 : h'_2 1 7 = tke (ctp h) (tke (ctp h) (h 1 6)) := by rw [q4.1 _ _ (by omega)]; exact g7
    have e26 : h'_2 1 6 = tks (ctp h) (tke (ctp h) (h 1 6)) := by rw [q4.1 _ _ (by omega), C1.1.1, ec]
    have r2 : rdf (ctp h) (tke (ctp h) (h 1 6)) 0 (h 3 0 - 1) = 0 := Classical.byContradiction fun z => by
      have := (n2.2 z).1
      omega
    have v2 := n2.1 r2
    have tr2 := tk_r TW (i := tke (ctp h) (h 1 6)) (by omega) (by rw [v2.1.1]; omega)
    have eb : bit (h'_2 4 (h 1 9)) (h'_1 1 9) ↔ ad (nr h 4 0) (tkv (ctp h) (h 1 6)) (tkv (ctp h) (tke (ctp h) (h 1 6))) := by
      rw [FF _ _ (by omega), v2.1.2.1, v1.1.2.1]
      unfold ad
      rw [nr_in0 (by omega) (by omega)]
    omega, ⟨fun c7 => ⟨fun c8 => ?_, fun c8 => ⟨by
    have n1 := NUM CT q1
    have r1 : rdf (ctp h) (h 1 6) 0 (h 3 0 - 1) = 0 := Classical.byContradiction fun z => by
      have := (n1.2 z).1
      omega
    have v1 := n1.1 r1
    have tr1 := tk_r TW hj.1 (by rw [v1.1.1]; omega)
    have E1 : h' 1 7 = tke (ctp h) (h 1 6) := by rw [q1.1 _ _ (by omega)]; exact e7
    have C1 := q3.2
    rw [E1] at C1
    have ec : ctp h'_1 = ctp h := (ctp_fr (fun j => q3.1 _ _ (by omega)) (q3.1 _ _ (by omega))).trans (ctp_fr (fun j => q1.1 _ _ (by omega)) (q1.1 _ _ (by omega)))
    have n30 : h'_1 3 0 = h 3 0 := by rw [q3.1 _ _ (by omega)]; exact q1.1 _ _ (by omega)
    have g7 := C1.2.1
    rw [ec] at g7
    have tl2 := tke_le TW (i := tke (ctp h) (h 1 6)) (by omega) (by omega)
    rw [n30] at q4
    have n2 := NUM C1 q4
    rw [ec] at n2
    have FF : ∀ x i, ¬ (x = 1 ∧ 4 ≤ i ∧ i ≤ 9) → h'_2 x i = h x i := fun x i a => by rw [q4.1 x i (by omega), q3.1 x i (by omega)]; exact q1.1 x i (by omega)
    have e27 : h'_2 1 7 = tke (ctp h) (tke (ctp h) (h 1 6)) := by rw [q4.1 _ _ (by omega)]; exact g7
    have e26 : h'_2 1 6 = tks (ctp h) (tke (ctp h) (h 1 6)) := by rw [q4.1 _ _ (by omega), C1.1.1, ec]
    have r2 : rdf (ctp h) (tke (ctp h) (h 1 6)) 0 (h 3 0 - 1) = 0 := Classical.byContradiction fun z => by
      have := (n2.2 z).1
      omega
    have v2 := n2.1 r2
    have tr2 := tk_r TW (i := tke (ctp h) (h 1 6)) (by omega) (by rw [v2.1.1]; omega)
    have eb : bit (h'_2 4 (h 1 9)) (h'_1 1 9) ↔ ad (nr h 4 0) (tkv (ctp h) (h 1 6)) (tkv (ctp h) (tke (ctp h) (h 1 6))) := by
      rw [FF _ _ (by omega), v2.1.2.1, v1.1.2.1]
      unfold ad
      rw [nr_in0 (by omega) (by omega)]
    omega, ⟨by
    have n1 := NUM CT q1
    have r1 : rdf (ctp h) (h 1 6) 0 (h 3 0 - 1) = 0 := Classical.byContradiction fun z => by
      have := (n1.2 z).1
      omega
    have v1 := n1.1 r1
    have tr1 := tk_r TW hj.1 (by rw [v1.1.1]; omega)
    have E1 : h' 1 7 = tke (ctp h) (h 1 6) := by rw [q1.1 _ _ (by omega)]; exact e7
    have C1 := q3.2
    rw [E1] at C1
    have ec : ctp h'_1 = ctp h := (ctp_fr (fun j => q3.1 _ _ (by omega)) (q3.1 _ _ (by omega))).trans (ctp_fr (fun j => q1.1 _ _ (by omega)) (q1.1 _ _ (by omega)))
    have n30 : h'_1 3 0 = h 3 0 := by rw [q3.1 _ _ (by omega)]; exact q1.1 _ _ (by omega)
    have g7 := C1.2.1
    rw [ec] at g7
    have tl2 := tke_le TW (i := tke (ctp h) (h 1 6)) (by omega) (by omega)
    rw [n30] at q4
    have n2 := NUM C1 q4
    rw [ec] at n2
    have FF : ∀ x i, ¬ (x = 1 ∧ 4 ≤ i ∧ i ≤ 9) → h'_2 x i = h x i := fun x i a => by rw [q4.1 x i (by omega), q3.1 x i (by omega)]; exact q1.1 x i (by omega)
    have e27 : h'_2 1 7 = tke (ctp h) (tke (ctp h) (h 1 6)) := by rw [q4.1 _ _ (by omega)]; exact g7
    have e26 : h'_2 1 6 = tks (ctp h) (tke (ctp h) (h 1 6)) := by rw [q4.1 _ _ (by omega), C1.1.1, ec]
    have r2 : rdf (ctp h) (tke (ctp h) (h 1 6)) 0 (h 3 0 - 1) = 0 := Classical.byContradiction fun z => by
      have := (n2.2 z).1
      omega
    have v2 := n2.1 r2
    have tr2 := tk_r TW (i := tke (ctp h) (h 1 6)) (by omega) (by rw [v2.1.1]; omega)
    have eb : bit (h'_2 4 (h 1 9)) (h'_1 1 9) ↔ ad (nr h 4 0) (tkv (ctp h) (h 1 6)) (tkv (ctp h) (tke (ctp h) (h 1 6))) := by
      rw [FF _ _ (by omega), v2.1.2.1, v1.1.2.1]
      unfold ad
      rw [nr_in0 (by omega) (by omega)]
    refine ⟨TPB_fr T (fun j => by rw [h_lk_ne (by omega)]; exact FF _ _ (by omega)) (by rw [h_lk_ne (by omega)]; exact FF _ _ (by omega)), ?_⟩
    rw [h_lk_ne (by omega), e27]
    omega, fun h'_3 q9 => ?_⟩⟩⟩, fun c7 => ?_⟩⟩⟩⟩⟩⟩, fun c2 => ?_⟩⟩
  · have n1 := NUM CT q1
    have r1 : rdf (ctp h) (h 1 6) 0 (h 3 0 - 1) = 0 := Classical.byContradiction fun z => by
      have := (n1.2 z).1
      omega
    have v1 := n1.1 r1
    have tr1 := tk_r TW hj.1 (by rw [v1.1.1]; omega)
    have E1 : h' 1 7 = tke (ctp h) (h 1 6) := by rw [q1.1 _ _ (by omega)]; exact e7
    have C1 := q3.2
    rw [E1] at C1
    have ec : ctp h'_1 = ctp h := (ctp_fr (fun j => q3.1 _ _ (by omega)) (q3.1 _ _ (by omega))).trans (ctp_fr (fun j => q1.1 _ _ (by omega)) (q1.1 _ _ (by omega)))
    have n30 : h'_1 3 0 = h 3 0 := by rw [q3.1 _ _ (by omega)]; exact q1.1 _ _ (by omega)
    have g7 := C1.2.1
    rw [ec] at g7
    have tl2 := tke_le TW (i := tke (ctp h) (h 1 6)) (by omega) (by omega)
    rw [n30] at q4
    have n2 := NUM C1 q4
    rw [ec] at n2
    have FF : ∀ x i, ¬ (x = 1 ∧ 4 ≤ i ∧ i ≤ 9) → h'_2 x i = h x i := fun x i a => by rw [q4.1 x i (by omega), q3.1 x i (by omega)]; exact q1.1 x i (by omega)
    have e27 : h'_2 1 7 = tke (ctp h) (tke (ctp h) (h 1 6)) := by rw [q4.1 _ _ (by omega)]; exact g7
    have e26 : h'_2 1 6 = tks (ctp h) (tke (ctp h) (h 1 6)) := by rw [q4.1 _ _ (by omega), C1.1.1, ec]
    have r2 : ¬ rdf (ctp h) (tke (ctp h) (h 1 6)) 0 (h 3 0 - 1) = 0 := fun z => by
      have := (n2.1 z).2.1
      rw [q3.1 _ _ (by omega)] at this
      omega
    refine hK _ (BDY_no (n' := h 3 0) (r' := nr h 4 0) (fun x i a b c => FF x i a) (by omega) (n2.2 r2).1 (n2.2 r2).2 r2 ?_)
    unfold bLi
    rw [cif_t r1, cif_f r2]
  · exfalso; omega
  · have n1 := NUM CT q1
    have r1 : rdf (ctp h) (h 1 6) 0 (h 3 0 - 1) = 0 := Classical.byContradiction fun z => by
      have := (n1.2 z).1
      omega
    have v1 := n1.1 r1
    have tr1 := tk_r TW hj.1 (by rw [v1.1.1]; omega)
    have E1 : h' 1 7 = tke (ctp h) (h 1 6) := by rw [q1.1 _ _ (by omega)]; exact e7
    have C1 := q3.2
    rw [E1] at C1
    have ec : ctp h'_1 = ctp h := (ctp_fr (fun j => q3.1 _ _ (by omega)) (q3.1 _ _ (by omega))).trans (ctp_fr (fun j => q1.1 _ _ (by omega)) (q1.1 _ _ (by omega)))
    have n30 : h'_1 3 0 = h 3 0 := by rw [q3.1 _ _ (by omega)]; exact q1.1 _ _ (by omega)
    have g7 := C1.2.1
    rw [ec] at g7
    have tl2 := tke_le TW (i := tke (ctp h) (h 1 6)) (by omega) (by omega)
    rw [n30] at q4
    have n2 := NUM C1 q4
    rw [ec] at n2
    have FF : ∀ x i, ¬ (x = 1 ∧ 4 ≤ i ∧ i ≤ 9) → h'_2 x i = h x i := fun x i a => by rw [q4.1 x i (by omega), q3.1 x i (by omega)]; exact q1.1 x i (by omega)
    have e27 : h'_2 1 7 = tke (ctp h) (tke (ctp h) (h 1 6)) := by rw [q4.1 _ _ (by omega)]; exact g7
    have e26 : h'_2 1 6 = tks (ctp h) (tke (ctp h) (h 1 6)) := by rw [q4.1 _ _ (by omega), C1.1.1, ec]
    have r2 : rdf (ctp h) (tke (ctp h) (h 1 6)) 0 (h 3 0 - 1) = 0 := Classical.byContradiction fun z => by
      have := (n2.2 z).1
      omega
    have v2 := n2.1 r2
    have tr2 := tk_r TW (i := tke (ctp h) (h 1 6)) (by omega) (by rw [v2.1.1]; omega)
    have eb : bit (h'_2 4 (h 1 9)) (h'_1 1 9) ↔ ad (nr h 4 0) (tkv (ctp h) (h 1 6)) (tkv (ctp h) (tke (ctp h) (h 1 6))) := by
      rw [FF _ _ (by omega), v2.1.2.1, v1.1.2.1]
      unfold ad
      rw [nr_in0 (by omega) (by omega)]
    refine hK _ (BDY_no (n' := h 3 0) (r' := nr h 4 0) (f := 2) (p := tks (ctp h) (tke (ctp h) (h 1 6))) (fun x i a b c => by rw [am_up_n2 (by omega), am_up_n2 (by omega)]; exact FF x i a) (by rw [am_up_n2 (by omega), am_up_n2 (by omega)]; omega) (by rw [am_up_n2 (by omega), am_up_eq]) (by rw [am_up_eq]; exact e26) (by omega) ?_)
    unfold bLi
    rw [cif_t r1, cif_t r2, cif_t (Or.inl (by rw [← v1.1.2.1, ← v2.1.2.1]; exact c6))]
  · exfalso; omega
  · have n1 := NUM CT q1
    have r1 : rdf (ctp h) (h 1 6) 0 (h 3 0 - 1) = 0 := Classical.byContradiction fun z => by
      have := (n1.2 z).1
      omega
    have v1 := n1.1 r1
    have tr1 := tk_r TW hj.1 (by rw [v1.1.1]; omega)
    have E1 : h' 1 7 = tke (ctp h) (h 1 6) := by rw [q1.1 _ _ (by omega)]; exact e7
    have C1 := q3.2
    rw [E1] at C1
    have ec : ctp h'_1 = ctp h := (ctp_fr (fun j => q3.1 _ _ (by omega)) (q3.1 _ _ (by omega))).trans (ctp_fr (fun j => q1.1 _ _ (by omega)) (q1.1 _ _ (by omega)))
    have n30 : h'_1 3 0 = h 3 0 := by rw [q3.1 _ _ (by omega)]; exact q1.1 _ _ (by omega)
    have g7 := C1.2.1
    rw [ec] at g7
    have tl2 := tke_le TW (i := tke (ctp h) (h 1 6)) (by omega) (by omega)
    rw [n30] at q4
    have n2 := NUM C1 q4
    rw [ec] at n2
    have FF : ∀ x i, ¬ (x = 1 ∧ 4 ≤ i ∧ i ≤ 9) → h'_2 x i = h x i := fun x i a => by rw [q4.1 x i (by omega), q3.1 x i (by omega)]; exact q1.1 x i (by omega)
    have e27 : h'_2 1 7 = tke (ctp h) (tke (ctp h) (h 1 6)) := by rw [q4.1 _ _ (by omega)]; exact g7
    have e26 : h'_2 1 6 = tks (ctp h) (tke (ctp h) (h 1 6)) := by rw [q4.1 _ _ (by omega), C1.1.1, ec]
    have r2 : rdf (ctp h) (tke (ctp h) (h 1 6)) 0 (h 3 0 - 1) = 0 := Classical.byContradiction fun z => by
      have := (n2.2 z).1
      omega
    have v2 := n2.1 r2
    have tr2 := tk_r TW (i := tke (ctp h) (h 1 6)) (by omega) (by rw [v2.1.1]; omega)
    have eb : bit (h'_2 4 (h 1 9)) (h'_1 1 9) ↔ ad (nr h 4 0) (tkv (ctp h) (h 1 6)) (tkv (ctp h) (tke (ctp h) (h 1 6))) := by
      rw [FF _ _ (by omega), v2.1.2.1, v1.1.2.1]
      unfold ad
      rw [nr_in0 (by omega) (by omega)]
    have nc : ¬ (tkv (ctp h) (h 1 6) = tkv (ctp h) (tke (ctp h) (h 1 6)) ∨ ad (nr h 4 0) (tkv (ctp h) (h 1 6)) (tkv (ctp h) (tke (ctp h) (h 1 6)))) := fun z => z.elim (fun z => c6 (by rw [v1.1.2.1, v2.1.2.1]; exact z)) (fun z => c7 (eb.mpr z))
    have S1 : bLi (ctp h) (h 1 6) (h 3 0) (nr h 4 0) = (0, -1, h 3 0, wi (nr h 4 0) (tkv (ctp h) (h 1 6)) (tkv (ctp h) (tke (ctp h) (h 1 6))), tke (ctp h) (tke (ctp h) (h 1 6))) := by
      unfold bLi
      rw [cif_t r1, cif_t r2, cif_f nc]
    have s' : ∀ y, 0 ≤ y → y < 20 → S20 (h'_2 4 y) := fun y a b => by rw [FF _ _ (by omega)]; exact SR_h rfl W.2.1 y a b
    refine hK _ (BDY_ok T (fun x i a b c => by rw [h_lk_ne c]; exact FF x i a) (by rw [h_lk_ne (by omega)]; exact c8) (by rw [h_lk_ne (by omega), v2.2.2, q3.1 _ _ (by omega)]; exact v1.2.2) (by rw [h_lk_ne (by omega)]; exact e27) ⟨by omega, tr2.2.2⟩ (by rw [h_lk_ne (by omega)]; exact FF _ _ (by omega)) ?_ q9 S1)
    rw [lk7_nr (by omega) (by omega) s', nr_fr2 (h := h) (fun i => FF _ _ (by omega)), v1.1.2.1, v2.1.2.1]
  · have n1 := NUM CT q1
    have r1 : rdf (ctp h) (h 1 6) 0 (h 3 0 - 1) = 0 := Classical.byContradiction fun z => by
      have := (n1.2 z).1
      omega
    have v1 := n1.1 r1
    have tr1 := tk_r TW hj.1 (by rw [v1.1.1]; omega)
    have E1 : h' 1 7 = tke (ctp h) (h 1 6) := by rw [q1.1 _ _ (by omega)]; exact e7
    have C1 := q3.2
    rw [E1] at C1
    have ec : ctp h'_1 = ctp h := (ctp_fr (fun j => q3.1 _ _ (by omega)) (q3.1 _ _ (by omega))).trans (ctp_fr (fun j => q1.1 _ _ (by omega)) (q1.1 _ _ (by omega)))
    have n30 : h'_1 3 0 = h 3 0 := by rw [q3.1 _ _ (by omega)]; exact q1.1 _ _ (by omega)
    have g7 := C1.2.1
    rw [ec] at g7
    have tl2 := tke_le TW (i := tke (ctp h) (h 1 6)) (by omega) (by omega)
    rw [n30] at q4
    have n2 := NUM C1 q4
    rw [ec] at n2
    have FF : ∀ x i, ¬ (x = 1 ∧ 4 ≤ i ∧ i ≤ 9) → h'_2 x i = h x i := fun x i a => by rw [q4.1 x i (by omega), q3.1 x i (by omega)]; exact q1.1 x i (by omega)
    have e27 : h'_2 1 7 = tke (ctp h) (tke (ctp h) (h 1 6)) := by rw [q4.1 _ _ (by omega)]; exact g7
    have e26 : h'_2 1 6 = tks (ctp h) (tke (ctp h) (h 1 6)) := by rw [q4.1 _ _ (by omega), C1.1.1, ec]
    have r2 : rdf (ctp h) (tke (ctp h) (h 1 6)) 0 (h 3 0 - 1) = 0 := Classical.byContradiction fun z => by
      have := (n2.2 z).1
      omega
    have v2 := n2.1 r2
    have tr2 := tk_r TW (i := tke (ctp h) (h 1 6)) (by omega) (by rw [v2.1.1]; omega)
    have eb : bit (h'_2 4 (h 1 9)) (h'_1 1 9) ↔ ad (nr h 4 0) (tkv (ctp h) (h 1 6)) (tkv (ctp h) (tke (ctp h) (h 1 6))) := by
      rw [FF _ _ (by omega), v2.1.2.1, v1.1.2.1]
      unfold ad
      rw [nr_in0 (by omega) (by omega)]
    refine hK _ (BDY_no (n' := h 3 0) (r' := nr h 4 0) (f := 2) (p := tks (ctp h) (tke (ctp h) (h 1 6))) (fun x i a b c => by rw [am_up_n2 (by omega), am_up_n2 (by omega)]; exact FF x i a) (by rw [am_up_n2 (by omega), am_up_n2 (by omega)]; omega) (by rw [am_up_n2 (by omega), am_up_eq]) (by rw [am_up_eq]; exact e26) (by omega) ?_)
    unfold bLi
    rw [cif_t r1, cif_t r2, cif_t (Or.inr (eb.mp c7))]
  · have n1 := NUM CT q1
    have r1 : ¬ rdf (ctp h) (h 1 6) 0 (h 3 0 - 1) = 0 := fun z => by
      have := (n1.1 z).2.1
      omega
    refine hK _ (BDY_no (n' := h 3 0) (r' := nr h 4 0) (fun x i a b c => q1.1 x i (by omega)) (by rw [q1.1 _ _ (by omega)]; omega) (n1.2 r1).1 (n1.2 r1).2 r1 ?_)
    unfold bLi
    rw [cif_f r1])
/-! 54 FactorNets$Reader.readStatement -/
def C54 : am_K := fun as h K => am_a1 as (fun v0 => am_oc 7 1 v0 (((TPB h 2 (h 1 1)) ∧ CTK h (h 1 6) ∧ (0 ≤ h 1 6 ∧ h 1 6 ≤ 800) ∧ h 1 4 = 0 ∧ WFn (h 1 3) (h 3 0) (nr h 4 0)) ∧ (∀ (h' : am_H), BDY h h' (bSt (ctp h) (h 1 6) (h 1 3) (h 3 0) (nr h 4 0)) → K (none) (h'))))
theorem W54 {d : Nat} (H : ∀  (h : am_H) (K : Option am_V → am_H → Prop), ((TPB h 2 (h 1 1)) ∧ CTK h (h 1 6) ∧ (0 ≤ h 1 6 ∧ h 1 6 ≤ 800) ∧ h 1 4 = 0 ∧ WFn (h 1 3) (h 3 0) (nr h 4 0)) ∧ (∀ (h' : am_H), BDY h h' (bSt (ctp h) (h 1 6) (h 1 3) (h 3 0) (nr h 4 0)) → K (none) (h')) → am_AT d 54 0 [some (mR 1 7 0 1), none] h K) : am_CS d 54 C54 := by
  refine am_CS_of (T := tb54) (mL := 2) (rk := 0) rfl (fun as h K hC => ?_)
  obtain ⟨v0, rfl, hC0⟩ := am_a1_e hC
  obtain ⟨e0, hC1⟩ := am_oc_e hC0
  subst e0
  refine ⟨Nat.le_of_ble_eq_true rfl, ?_⟩
  exact H  h K hC1
theorem T54_0 {R : Option am_V → am_H → Prop} {h : am_H} (t : (TPB h 2 (h 1 1) ∧ (0 ≤ h 1 6 ∧ h 1 6 ≤ 900 ∧ 0 ≤ h 1 7 ∧ h 1 7 ≤ 901)) ∧ (((ifc (cwd h 3000011) 0 (ifc (cwd h 3000009) 1 (ifc (cwd h 3000002) 2 (-1))) = (-1)) → (((¬ h 1 3 = 0) → (((h 1 3 ≤ 0) → (R none (am_up (am_up h 1 4 (1 : Int)) 1 5 (h 1 6)))) ∧ ((0 < h 1 3) → ((TPB h 2 (h 1 1) ∧ (0 ≤ h 1 6 ∧ h 1 6 ≤ 900 ∧ 0 ≤ h 1 7 ∧ h 1 7 ≤ 901)) ∧ (((¬ (h 1 8 = 1 ∧ h 1 7 - h 1 6 = am_sl (3000004 : Int) ∧ ∀ j9, 0 ≤ j9 → j9 < am_sl (3000004 : Int) → (tpn h 2 (h 1 1)) (h 1 6 + j9) = am_sc (3000004 : Int) j9)) → (R none (am_up (am_up h 1 4 (1 : Int)) 1 5 (h 1 6)))) ∧ ((h 1 8 = 1 ∧ h 1 7 - h 1 6 = am_sl (3000004 : Int) ∧ ∀ j9, 0 ≤ j9 → j9 < am_sl (3000004 : Int) → (tpn h 2 (h 1 1)) (h 1 6 + j9) = am_sc (3000004 : Int) j9) → ((TPB h 2 (h 1 1) ∧ (0 ≤ h 1 7 ∧ h 1 7 ≤ 900)) ∧ (∀ (h' : am_H), (ADV h h') → (((TPB h' 2 (h' 1 1)) ∧ CTK h' (h' 1 6) ∧ (0 ≤ h' 1 6 ∧ h' 1 6 ≤ 800) ∧ h' 1 4 = 0 ∧ WFn (h' 1 3) (h' 3 0) (nr h' 4 0) ∧ 0 < h' 1 3) ∧ (∀ (h'_1 : am_H), (BDY h' h'_1 (bLi (ctp h') (h' 1 6) (h' 3 0) (nr h' 4 0))) → (R none h'_1))))))))))) ∧ ((h 1 3 = 0) → ((TPB h 2 (h 1 1) ∧ (0 ≤ h 1 6 ∧ h 1 6 ≤ 900 ∧ 0 ≤ h 1 7 ∧ h 1 7 ≤ 901)) ∧ (((¬ (h 1 8 = 1 ∧ h 1 7 - h 1 6 = am_sl (3000005 : Int) ∧ ∀ j9, 0 ≤ j9 → j9 < am_sl (3000005 : Int) → (tpn h 2 (h 1 1)) (h 1 6 + j9) = am_sc (3000005 : Int) j9)) → (((h 1 3 ≤ 0) → (R none (am_up (am_up h 1 4 (1 : Int)) 1 5 (h 1 6)))) ∧ ((0 < h 1 3) → ((TPB h 2 (h 1 1) ∧ (0 ≤ h 1 6 ∧ h 1 6 ≤ 900 ∧ 0 ≤ h 1 7 ∧ h 1 7 ≤ 901)) ∧ (((¬ (h 1 8 = 1 ∧ h 1 7 - h 1 6 = am_sl (3000004 : Int) ∧ ∀ j9, 0 ≤ j9 → j9 < am_sl (3000004 : Int) → (tpn h 2 (h 1 1)) (h 1 6 + j9) = am_sc (3000004 : Int) j9)) → (R none (am_up (am_up h 1 4 (1 : Int)) 1 5 (h 1 6)))) ∧ ((h 1 8 = 1 ∧ h 1 7 - h 1 6 = am_sl (3000004 : Int) ∧ ∀ j9, 0 ≤ j9 → j9 < am_sl (3000004 : Int) → (tpn h 2 (h 1 1)) (h 1 6 + j9) = am_sc (3000004 : Int) j9) → ((TPB h 2 (h 1 1) ∧ (0 ≤ h 1 7 ∧ h 1 7 ≤ 900)) ∧ (∀ (h' : am_H), (ADV h h') → (((TPB h' 2 (h' 1 1)) ∧ CTK h' (h' 1 6) ∧ (0 ≤ h' 1 6 ∧ h' 1 6 ≤ 800) ∧ h' 1 4 = 0 ∧ WFn (h' 1 3) (h' 3 0) (nr h' 4 0) ∧ 0 < h' 1 3) ∧ (∀ (h'_1 : am_H), (BDY h' h'_1 (bLi (ctp h') (h' 1 6) (h' 3 0) (nr h' 4 0))) → (R none h'_1))))))))))) ∧ ((h 1 8 = 1 ∧ h 1 7 - h 1 6 = am_sl (3000005 : Int) ∧ ∀ j9, 0 ≤ j9 → j9 < am_sl (3000005 : Int) → (tpn h 2 (h 1 1)) (h 1 6 + j9) = am_sc (3000005 : Int) j9) → ((TPB h 2 (h 1 1) ∧ (0 ≤ h 1 7 ∧ h 1 7 ≤ 900)) ∧ (∀ (h' : am_H), (ADV h h') → (((TPB h' 2 (h' 1 1)) ∧ CTK h' (h' 1 6) ∧ (0 ≤ h' 1 6 ∧ h' 1 6 ≤ 800) ∧ h' 1 4 = 0 ∧ WFn (h' 1 3) (h' 3 0) (nr h' 4 0) ∧ h' 1 3 = 0) ∧ (∀ (h'_1 : am_H), (BDY h' h'_1 (bPo (ctp h') (h' 1 6) (h' 3 0) (nr h' 4 0))) → (R none h'_1))))))))))) ∧ ((¬ ifc (cwd h 3000011) 0 (ifc (cwd h 3000009) 1 (ifc (cwd h 3000002) 2 (-1))) = (-1)) → ((TPB h 2 (h 1 1) ∧ (0 ≤ h 1 7 ∧ h 1 7 ≤ 900)) ∧ (∀ (h' : am_H), (ADV h h') → (((TPB h' 2 (h' 1 1)) ∧ CTK h' (h' 1 6) ∧ (0 ≤ h' 1 6 ∧ h' 1 6 ≤ 800) ∧ h' 1 4 = 0 ∧ WFn (h' 1 3) (h' 3 0) (nr h' 4 0) ∧ (0 ≤ (ifc (cwd h 3000011) 0 (ifc (cwd h 3000009) 1 (ifc (cwd h 3000002) 2 (-1)))) ∧ (ifc (cwd h 3000011) 0 (ifc (cwd h 3000009) 1 (ifc (cwd h 3000002) 2 (-1)))) ≤ 2)) ∧ (∀ (h'_1 : am_H), (BDY h' h'_1 (bPr (ctp h') (ifc (cwd h 3000011) 0 (ifc (cwd h 3000009) 1 (ifc (cwd h 3000002) 2 (-1)))) (h' 1 6) (h' 1 3) (h' 3 0) (nr h' 4 0))) → (R none h'_1)))))))) : am_AT 5 54 0 [some (mR 1 7 0 1), none] h R :=
  am_T (d := 4) (m := 54) (T := tb54) (mL := 2) (rk := 0) (cuts := []) (l := [(55, C55), (56, C56), (57, C57), (58, C58), (60, C60), (61, C61), (64, C64)]) rfl ⟨am_CS_d (by decide) C55_ok, am_CS_d (by decide) C56_ok, am_CS_d (by decide) C57_ok, am_CS_d (by decide) C58_ok, am_CS_d (by decide) C60_ok, am_CS_d (by decide) C61_ok, am_CS_d (by decide) C64_ok, trivial⟩ 30 (And.intro (rfl) (And.intro (t).1 (And.intro (fun c24 => And.intro (fun c25 => And.intro (fun c26 => And.intro (rfl) (((((t).2).1 c24).1 c25).1 c26)) (fun c26 => And.intro (rfl) (And.intro (((((t).2).1 c24).1 c25).2 c26).1 (And.intro (fun c27 => And.intro (rfl) (((((((t).2).1 c24).1 c25).2 c26).2).1 c27)) (fun c27 => And.intro (rfl) (And.intro (((((((t).2).1 c24).1 c25).2 c26).2).2 c27).1 (fun z18_0 z18_1 => And.intro (rfl) (And.intro (((((((((t).2).1 c24).1 c25).2 c26).2).2 c27).2) z18_0 z18_1).1 (fun z19_0 z19_1 => ((((((((((t).2).1 c24).1 c25).2 c26).2).2 c27).2) z18_0 z18_1).2) z19_0 z19_1))))))))) (fun c25 => And.intro (rfl) (And.intro ((((t).2).1 c24).2 c25).1 (And.intro (fun c28 => And.intro (fun c29 => And.intro (rfl) (((((((t).2).1 c24).2 c25).2).1 c28).1 c29)) (fun c29 => And.intro (rfl) (And.intro (((((((t).2).1 c24).2 c25).2).1 c28).2 c29).1 (And.intro (fun c30 => And.intro (rfl) (((((((((t).2).1 c24).2 c25).2).1 c28).2 c29).2).1 c30)) (fun c30 => And.intro (rfl) (And.intro (((((((((t).2).1 c24).2 c25).2).1 c28).2 c29).2).2 c30).1 (fun z20_0 z20_1 => And.intro (rfl) (And.intro (((((((((((t).2).1 c24).2 c25).2).1 c28).2 c29).2).2 c30).2) z20_0 z20_1).1 (fun z21_0 z21_1 => ((((((((((((t).2).1 c24).2 c25).2).1 c28).2 c29).2).2 c30).2) z20_0 z20_1).2) z21_0 z21_1))))))))) (fun c28 => And.intro (rfl) (And.intro ((((((t).2).1 c24).2 c25).2).2 c28).1 (fun z22_0 z22_1 => And.intro (rfl) (And.intro ((((((((t).2).1 c24).2 c25).2).2 c28).2) z22_0 z22_1).1 (fun z23_0 z23_1 => (((((((((t).2).1 c24).2 c25).2).2 c28).2) z22_0 z22_1).2) z23_0 z23_1))))))))) (fun c24 => And.intro (rfl) (And.intro (((t).2).2 c24).1 (fun z24_0 z24_1 => And.intro (rfl) (And.intro (((((t).2).2 c24).2) z24_0 z24_1).1 (fun z25_0 z25_1 => ((((((t).2).2 c24).2) z24_0 z24_1).2) z25_0 z25_1))))))))
theorem C54_ok : am_CS 5 54 C54 := W54 (fun h K hb => by
  obtain ⟨⟨T, CT, hj, f0, W⟩, hK⟩ := hb
  have TW : TPW (ctp h) := TPW_b T
  have tl := tke_le TW hj.1 hj.2
  have e6 := CT.1.1
  have e7 := CT.2.1
  have cnt0 := W.2.2.1
  have CC : ∀ h', ADV h h' → CTK h' (tke (ctp h) (h 1 6)) ∧ ctp h' = ctp h := fun h' A => by
    have := A.2
    rw [e7] at this
    exact ⟨this, ctp_fr (fun j => A.1 _ _ (by omega)) (A.1 _ _ (by omega))⟩
  have kd : ifc (cwd h 3000011) 0 (ifc (cwd h 3000009) 1 (ifc (cwd h 3000002) 2 (-1))) = kdw (ctp h) (h 1 6) := by
    unfold kdw
    rw [propext (cwd_w CT 3000011), propext (cwd_w CT 3000009), propext (cwd_w CT 3000002)]
  have t800 : tkk (ctp h) (h 1 6) = 1 → tke (ctp h) (h 1 6) ≤ 800 := fun z => (tk_r TW hj.1 (by omega)).2.2
  refine T54_0 ⟨⟨T, by omega⟩, ⟨fun c1 => ⟨fun c2 => ⟨fun c3 => ?_, fun c3 => ⟨⟨T, by omega⟩, ⟨fun c4 => ?_, fun c4 => ⟨by
    have t8 := t800 ((cwd_w CT 3000004).mp c4).1
    exact ⟨T, by omega⟩, fun h' q5 => ⟨by
    have t8 := t800 ((cwd_w CT 3000004).mp c4).1
    have C := CC h' q5
    have E6 : h' 1 6 = tks (ctp h) (tke (ctp h) (h 1 6)) := by rw [C.1.1.1, C.2]
    have F : ∀ x i, ¬ (x = 1 ∧ 6 ≤ i ∧ i ≤ 9) → h' x i = h x i := q5.1
    have tl2 := tke_le TW (i := tke (ctp h) (h 1 6)) (by omega) (by omega)
    have en : nr h' 4 0 = nr h 4 0 := nr_fr2 (fun i => F _ _ (by omega))
    refine ⟨TPB_fr T (fun j => F _ _ (by omega)) (F _ _ (by omega)), CTK_id (by rw [C.2]; exact TW) (by omega) C.1, by omega, by rw [F _ _ (by omega)]; exact f0, by rw [F 1 3 (by omega), F 3 0 (by omega), en]; exact W, ?_⟩
    rw [F _ _ (by omega)]; exact c3, fun h'_1 q6 => ?_⟩⟩⟩⟩⟩, fun c2 => ⟨⟨T, by omega⟩, ⟨fun c3 => ⟨fun c4 => ?_, fun c4 => ⟨⟨T, by omega⟩, ⟨fun c5 => ?_, fun c5 => ⟨by omega, fun h' q6 => ⟨by omega, fun h'_1 q7 => ?_⟩⟩⟩⟩⟩, fun c3 => ⟨by
    have t8 := t800 ((cwd_w CT 3000005).mp c3).1
    exact ⟨T, by omega⟩, fun h' q4 => ⟨by
    have t8 := t800 ((cwd_w CT 3000005).mp c3).1
    have C := CC h' q4
    have E6 : h' 1 6 = tks (ctp h) (tke (ctp h) (h 1 6)) := by rw [C.1.1.1, C.2]
    have F : ∀ x i, ¬ (x = 1 ∧ 6 ≤ i ∧ i ≤ 9) → h' x i = h x i := q4.1
    have tl2 := tke_le TW (i := tke (ctp h) (h 1 6)) (by omega) (by omega)
    have en : nr h' 4 0 = nr h 4 0 := nr_fr2 (fun i => F _ _ (by omega))
    refine ⟨TPB_fr T (fun j => F _ _ (by omega)) (F _ _ (by omega)), CTK_id (by rw [C.2]; exact TW) (by omega) C.1, by omega, by rw [F _ _ (by omega)]; exact f0, by rw [F 1 3 (by omega), F 3 0 (by omega), en]; exact W, ?_⟩
    rw [F _ _ (by omega)]; exact c2, fun h'_1 q5 => ?_⟩⟩⟩⟩⟩, fun c1 => ⟨by
    rw [kd] at c1
    have t8 := t800 (kdw_k c1)
    exact ⟨T, by omega⟩, fun h' q2 => ⟨by
    have c1' := c1
    rw [kd] at c1'
    have t8 := t800 (kdw_k c1')
    have C := CC h' q2
    have E6 : h' 1 6 = tks (ctp h) (tke (ctp h) (h 1 6)) := by rw [C.1.1.1, C.2]
    have F : ∀ x i, ¬ (x = 1 ∧ 6 ≤ i ∧ i ≤ 9) → h' x i = h x i := q2.1
    have tl2 := tke_le TW (i := tke (ctp h) (h 1 6)) (by omega) (by omega)
    have en : nr h' 4 0 = nr h 4 0 := nr_fr2 (fun i => F _ _ (by omega))
    refine ⟨TPB_fr T (fun j => F _ _ (by omega)) (F _ _ (by omega)), CTK_id (by rw [C.2]; exact TW) (by omega) C.1, by omega, by rw [F _ _ (by omega)]; exact f0, by rw [F 1 3 (by omega), F 3 0 (by omega), en]; exact W, ?_⟩
    rw [kd] at c1
    have kr := kdw_r (ctp h) (h 1 6)
    rw [kd]
    omega, fun h'_1 q3 => ?_⟩⟩⟩⟩
  · exfalso; omega
  · rw [kd] at c1
    refine hK _ (BDY_no (n' := h 3 0) (r' := nr h 4 0) (f := 1) (p := tks (ctp h) (h 1 6)) (fun x i a b c => by rw [am_up_n2 (by omega), am_up_n2 (by omega)]) (by rw [am_up_n2 (by omega), am_up_n2 (by omega)]; omega) (by rw [am_up_n2 (by omega), am_up_eq]) (by rw [am_up_eq]; exact e6) (by omega) ?_)
    unfold bSt
    rw [cif_f (fun z => z c1), cif_f (fun z => c2 z.1), cif_f (fun z => c4 ((cwd_w CT 3000004).mpr z.2))]
  · rw [kd] at c1
    have w := (cwd_w CT 3000004).mp c4
    have t8 := t800 w.1
    have C := CC h' q5
    have E6 : h' 1 6 = tks (ctp h) (tke (ctp h) (h 1 6)) := by rw [C.1.1.1, C.2]
    have F : ∀ x i, ¬ (x = 1 ∧ 6 ≤ i ∧ i ≤ 9) → h' x i = h x i := q5.1
    have en : nr h' 4 0 = nr h 4 0 := nr_fr2 (fun i => F _ _ (by omega))
    rw [C.2, E6, F 3 0 (by omega), en, bLi_id TW (by omega)] at q6
    refine hK _ (BDY_tr q5 ?_)
    unfold bSt
    rw [cif_f (fun z => z c1), cif_f (fun z => c2 z.1), cif_t ⟨c3, w⟩]
    exact q6
  · rw [kd] at c1
    refine hK _ (BDY_no (n' := h 3 0) (r' := nr h 4 0) (f := 1) (p := tks (ctp h) (h 1 6)) (fun x i a b c => by rw [am_up_n2 (by omega), am_up_n2 (by omega)]) (by rw [am_up_n2 (by omega), am_up_n2 (by omega)]; omega) (by rw [am_up_n2 (by omega), am_up_eq]) (by rw [am_up_eq]; exact e6) (by omega) ?_)
    unfold bSt
    rw [cif_f (fun z => z c1), cif_f (fun z => c3 ((cwd_w CT 3000005).mpr z.2)), cif_f (fun z => by have := z.1; omega)]
  · exfalso; omega
  · exfalso; omega
  · rw [kd] at c1
    have w := (cwd_w CT 3000005).mp c3
    have t8 := t800 w.1
    have C := CC h' q4
    have E6 : h' 1 6 = tks (ctp h) (tke (ctp h) (h 1 6)) := by rw [C.1.1.1, C.2]
    have F : ∀ x i, ¬ (x = 1 ∧ 6 ≤ i ∧ i ≤ 9) → h' x i = h x i := q4.1
    have en : nr h' 4 0 = nr h 4 0 := nr_fr2 (fun i => F _ _ (by omega))
    rw [C.2, E6, F 3 0 (by omega), en, bPo_id TW (by omega)] at q5
    refine hK _ (BDY_tr q4 ?_)
    unfold bSt
    rw [cif_f (fun z => z c1), cif_t ⟨c2, w⟩]
    exact q5
  · rw [kd] at c1 q3
    have t8 := t800 (kdw_k c1)
    have C := CC h' q2
    have E6 : h' 1 6 = tks (ctp h) (tke (ctp h) (h 1 6)) := by rw [C.1.1.1, C.2]
    have F : ∀ x i, ¬ (x = 1 ∧ 6 ≤ i ∧ i ≤ 9) → h' x i = h x i := q2.1
    have en : nr h' 4 0 = nr h 4 0 := nr_fr2 (fun i => F _ _ (by omega))
    rw [C.2, E6, F 1 3 (by omega), F 3 0 (by omega), en, bPr_id TW (by omega)] at q3
    refine hK _ (BDY_tr q2 ?_)
    unfold bSt
    rw [cif_t c1]
    exact q3)
/-! 53 FactorNets$Reader.read -/
def C53 : am_K := fun as h K => am_a1 as (fun v0 => am_oc 7 1 v0 ((TPB h 2 (h 1 1)) ∧ (∀ (h' : am_H), RDD h h' → K (none) (h'))))
theorem W53 {d : Nat} (H : ∀  (h : am_H) (K : Option am_V → am_H → Prop), (TPB h 2 (h 1 1)) ∧ (∀ (h' : am_H), RDD h h' → K (none) (h')) → am_AT d 53 0 [some (mR 1 7 0 1), none] h K) : am_CS d 53 C53 := by
  refine am_CS_of (T := tb53) (mL := 2) (rk := 0) rfl (fun as h K hC => ?_)
  obtain ⟨v0, rfl, hC0⟩ := am_a1_e hC
  obtain ⟨e0, hC1⟩ := am_oc_e hC0
  subst e0
  refine ⟨Nat.le_of_ble_eq_true rfl, ?_⟩
  exact H  h K hC1
theorem T53_0 {R : Option am_V → am_H → Prop} {h : am_H} (t : (TPB (am_up (am_up (am_up (am_up (h_fl (am_up h (3 : Int) 0 (0 : Int)) 4 20 0) 1 3 0) 1 4 0) 1 5 (-1)) 1 7 0) 2 ((am_up (am_up (am_up (am_up (h_fl (am_up h (3 : Int) 0 (0 : Int)) 4 20 0) 1 3 0) 1 4 0) 1 5 (-1)) 1 7 0) 1 1) ∧ (0 ≤ (am_up (am_up (am_up (am_up (h_fl (am_up h (3 : Int) 0 (0 : Int)) 4 20 0) 1 3 0) 1 4 0) 1 5 (-1)) 1 7 0) 1 7 ∧ (am_up (am_up (am_up (am_up (h_fl (am_up h (3 : Int) 0 (0 : Int)) 4 20 0) 1 3 0) 1 4 0) 1 5 (-1)) 1 7 0) 1 7 ≤ 900)) ∧ (∀ (h' : am_H), (ADV (am_up (am_up (am_up (am_up (h_fl (am_up h (3 : Int) 0 (0 : Int)) 4 20 0) 1 3 0) 1 4 0) 1 5 (-1)) 1 7 0) h') → (am_AT 6 53 34 [some (mR 1 7 0 1), some (mI 0)] h' R))) : am_AT 6 53 0 [some (mR 1 7 0 1), none] h R :=
  am_T (d := 5) (m := 53) (T := tb53) (mL := 2) (rk := 0) (cuts := [(34, [1, 2])]) (l := [(19, C19), (54, C54), (60, C60), (61, C61)]) rfl ⟨am_CS_d (by decide) C19_ok, am_CS_d (by decide) C54_ok, am_CS_d (by decide) C60_ok, am_CS_d (by decide) C61_ok, trivial⟩ 24 (And.intro (rfl) (And.intro (t).1 (fun z26_0 z26_1 => ((t).2) z26_0 z26_1)))
theorem T53_34 {R : Option am_V → am_H → Prop} {h : am_H} {x1 : Int} (t : (R32 x1) ∧ (((800 ≤ x1) → (R none h)) ∧ ((x1 < 800) → (((h 1 8 = 0) → (R none h)) ∧ ((¬ h 1 8 = 0) → (((¬ h 1 4 = 0) → (R none h)) ∧ ((h 1 4 = 0) → (((TPB h 2 (h 1 1)) ∧ CTK h (h 1 6) ∧ (0 ≤ h 1 6 ∧ h 1 6 ≤ 800) ∧ h 1 4 = 0 ∧ WFn (h 1 3) (h 3 0) (nr h 4 0)) ∧ (∀ (h' : am_H), (BDY h h' (bSt (ctp h) (h 1 6) (h 1 3) (h 3 0) (nr h 4 0))) → (((¬ h' 1 4 = 0) → ((R32 ((h' 1 3) + 1)) ∧ ((TPB (am_up h' 1 3 ((h' 1 3) + 1)) 2 ((am_up h' 1 3 ((h' 1 3) + 1)) 1 1) ∧ (0 ≤ (am_up h' 1 3 ((h' 1 3) + 1)) 1 7 ∧ (am_up h' 1 3 ((h' 1 3) + 1)) 1 7 ≤ 900)) ∧ (∀ (h'_1 : am_H), (ADV (am_up h' 1 3 ((h' 1 3) + 1)) h'_1) → (am_AT 6 53 34 [some (mR 1 7 0 1), some (mI (x1 + 1))] h'_1 R))))) ∧ ((h' 1 4 = 0) → (((h' 1 8 = 3) → ((R32 ((h' 1 3) + 1)) ∧ ((TPB (am_up h' 1 3 ((h' 1 3) + 1)) 2 ((am_up h' 1 3 ((h' 1 3) + 1)) 1 1) ∧ (0 ≤ (am_up h' 1 3 ((h' 1 3) + 1)) 1 7 ∧ (am_up h' 1 3 ((h' 1 3) + 1)) 1 7 ≤ 900)) ∧ (∀ (h'_1 : am_H), (ADV (am_up h' 1 3 ((h' 1 3) + 1)) h'_1) → (am_AT 6 53 34 [some (mR 1 7 0 1), some (mI (x1 + 1))] h'_1 R))))) ∧ ((¬ h' 1 8 = 3) → ((R32 ((h' 1 3) + 1)) ∧ ((TPB (am_up (am_up (am_up h' 1 4 (1 : Int)) 1 5 (h' 1 6)) 1 3 ((h' 1 3) + 1)) 2 ((am_up (am_up (am_up h' 1 4 (1 : Int)) 1 5 (h' 1 6)) 1 3 ((h' 1 3) + 1)) 1 1) ∧ (0 ≤ (am_up (am_up (am_up h' 1 4 (1 : Int)) 1 5 (h' 1 6)) 1 3 ((h' 1 3) + 1)) 1 7 ∧ (am_up (am_up (am_up h' 1 4 (1 : Int)) 1 5 (h' 1 6)) 1 3 ((h' 1 3) + 1)) 1 7 ≤ 900)) ∧ (∀ (h'_1 : am_H), (ADV (am_up (am_up (am_up h' 1 4 (1 : Int)) 1 5 (h' 1 6)) 1 3 ((h' 1 3) + 1)) h'_1) → (am_AT 6 53 34 [some (mR 1 7 0 1), some (mI (x1 + 1))] h'_1 R))))))))))))))))) : am_AT 6 53 34 [some (mR 1 7 0 1), some (mI x1)] h R :=
  am_T (d := 5) (m := 53) (T := tb53) (mL := 2) (rk := 0) (cuts := [(34, [1, 2])]) (l := [(19, C19), (54, C54), (60, C60), (61, C61)]) rfl ⟨am_CS_d (by decide) C19_ok, am_CS_d (by decide) C54_ok, am_CS_d (by decide) C60_ok, am_CS_d (by decide) C61_ok, trivial⟩ 35 (And.intro (t).1 (And.intro (fun c31 => ((t).2).1 c31) (fun c31 => And.intro (fun c32 => (((t).2).2 c31).1 c32) (fun c32 => And.intro (fun c33 => ((((t).2).2 c31).2 c32).1 c33) (fun c33 => And.intro (rfl) (And.intro (((((t).2).2 c31).2 c32).2 c33).1 (fun z27_0 z27_1 => And.intro (fun c34 => And.intro ((((((((t).2).2 c31).2 c32).2 c33).2) z27_0 z27_1).1 c34).1 (And.intro (rfl) (And.intro (((((((((t).2).2 c31).2 c32).2 c33).2) z27_0 z27_1).1 c34).2).1 (fun z28_0 z28_1 => ((((((((((t).2).2 c31).2 c32).2 c33).2) z27_0 z27_1).1 c34).2).2) z28_0 z28_1)))) (fun c34 => And.intro (fun c35 => And.intro (((((((((t).2).2 c31).2 c32).2 c33).2) z27_0 z27_1).2 c34).1 c35).1 (And.intro (rfl) (And.intro ((((((((((t).2).2 c31).2 c32).2 c33).2) z27_0 z27_1).2 c34).1 c35).2).1 (fun z29_0 z29_1 => (((((((((((t).2).2 c31).2 c32).2 c33).2) z27_0 z27_1).2 c34).1 c35).2).2) z29_0 z29_1)))) (fun c35 => And.intro (rfl) (And.intro (((((((((t).2).2 c31).2 c32).2 c33).2) z27_0 z27_1).2 c34).2 c35).1 (And.intro (rfl) (And.intro ((((((((((t).2).2 c31).2 c32).2 c33).2) z27_0 z27_1).2 c34).2 c35).2).1 (fun z30_0 z30_1 => (((((((((((t).2).2 c31).2 c32).2 c33).2) z27_0 z27_1).2 c34).2 c35).2).2) z30_0 z30_1)))))))))))))
theorem X53 {K : Option am_V → am_H → Prop} {h g : am_H} {Z : Int × Int × Int × Int × (Int → Int)} (hK : ∀ g, RDZ h g Z → K none g) (F : F39 h g) (e : g 1 4 = Z.1 ∧ g 1 5 = Z.2.1) (z : ¬ Z.1 = 0) {c : Int} (hc : 0 ≤ c ∧ c ≤ 800) : am_AT 6 53 34 [some (mR 1 7 0 1), some (mI c)] g K := by
  have G : RDZ h g Z := ⟨F, e, fun w => absurd w z⟩
  refine T53_34 ⟨by omega, ⟨fun c1 => ?_, fun c1 => ⟨fun c2 => ?_, fun c2 => ⟨fun c3 => ?_, fun c3 => ⟨absurd (e.1.symm.trans c3) z, fun h' q4 => ⟨fun c5 => ⟨absurd (e.1.symm.trans c3) z, ⟨absurd (e.1.symm.trans c3) z, fun h'_1 q6 => ?_⟩⟩, fun c5 => ⟨fun c6 => ⟨absurd (e.1.symm.trans c3) z, ⟨absurd (e.1.symm.trans c3) z, fun h'_1 q7 => ?_⟩⟩, fun c6 => ⟨absurd (e.1.symm.trans c3) z, ⟨absurd (e.1.symm.trans c3) z, fun h'_1 q7 => ?_⟩⟩⟩⟩⟩⟩⟩⟩⟩
  · exact hK g G
  · exact hK g G
  · exact hK g G
  · exact absurd (e.1.symm.trans c3) z
  · exact absurd (e.1.symm.trans c3) z
  · exact absurd (e.1.symm.trans c3) z
theorem L53 {K : Option am_V → am_H → Prop} {h : am_H} (T : TPB h 2 (h 1 1)) {Z : Int × Int × Int × Int × (Int → Int)} (hK : ∀ g, RDZ h g Z → K none g) : ∀ c, ∀ (g : am_H) (i : Int), 0 ≤ c → c ≤ 800 → c ≤ i → i ≤ 800 → F39 h g → CTK g i → g 1 4 = 0 → g 1 5 = -1 → g 1 3 = c → WFn c (g 3 0) (nr g 4 0) → rdL (ctp h) (800 - c).toNat i c (g 3 0) (nr g 4 0) = Z → am_AT 6 53 34 [some (mR 1 7 0 1), some (mI c)] g K := by
  have TW : TPW (ctp h) := TPW_b T
  refine lp 800 (fun c ih g i c0 c1' i0 i1 F C f4 f5 f3 W e => ?_)
  have ec := F39_t F
  have tl := tke_le TW (i := i) (by omega) i1
  have Tg : TPB g 2 (g 1 1) := TPB_fr T (fun j => F _ _ (by omega) (by omega) (by omega)) (F _ _ (by omega) (by omega) (by omega))
  have e6 := C.1.1
  have e8 := C.1.2
  rw [ec] at e6 e8
  have stop : tkk (ctp h) i = 0 → K none g := fun z => by
    rw [rdL_0 z] at e
    subst e
    exact hK g ⟨F, ⟨f4, f5⟩, fun _ => ⟨⟨f3, rfl, rfl⟩, W⟩⟩
  have es : bSt (ctp g) (g 1 6) (g 1 3) (g 3 0) (nr g 4 0) = bSt (ctp h) i c (g 3 0) (nr g 4 0) := by rw [ec, e6, f3, bSt_id TW (by omega)]
  have F2 : ∀ h', BDY g h' (bSt (ctp h) i c (g 3 0) (nr g 4 0)) → (F39 h h' ∧ h' 1 3 = c) := fun h' B => ⟨fun x j a b d => (B.1 x j (by omega) b d).trans (F x j a b d), (B.1 _ _ (by omega) (by omega) (by omega)).trans f3⟩
  have F3 : ∀ h' v, F39 h h' → F39 h (am_up h' 1 3 v) := fun h' v G x j a b d => by rw [am_up_n2 (by omega)]; exact G x j a b d
  have AD : ∀ h1 h2, F39 h h1 → ADV h1 h2 → F39 h h2 := fun h1 h2 G A x j a b d => (A.1 x j (by omega)).trans (G x j a b d)
  have fu : c < 800 → (800 - c).toNat = (800 - (c + 1)).toNat + 1 := fun a => by omega
  refine T53_34 ⟨by omega, ⟨fun c1 => ?_, fun c1 => ⟨fun c2 => ?_, fun c2 => ⟨fun c3 => ?_, fun c3 => ⟨⟨Tg, CTK_id (by rw [ec]; exact TW) (by omega) C, by omega, f4, by rw [f3]; exact W⟩, fun h' q4 => ⟨fun c5 => ⟨by rw [es] at q4; have := (F2 h' q4).2; omega, ⟨by
    rw [es] at q4
    have B := F2 h' q4
    refine ⟨TPB_fr T (fun j => F3 h' _ B.1 _ _ (by omega) (by omega) (by omega)) (F3 h' _ B.1 _ _ (by omega) (by omega) (by omega)), ?_⟩
    rw [am_up_n2 (by omega)]
    have := q4.2.1
    omega, fun h'_1 q6 => ?_⟩⟩, fun c5 => ⟨fun c6 => ⟨by rw [es] at q4; have := (F2 h' q4).2; omega, ⟨by
    rw [es] at q4
    have B := F2 h' q4
    refine ⟨TPB_fr T (fun j => F3 h' _ B.1 _ _ (by omega) (by omega) (by omega)) (F3 h' _ B.1 _ _ (by omega) (by omega) (by omega)), ?_⟩
    rw [am_up_n2 (by omega)]
    have := q4.2.1
    omega, fun h'_1 q7 => ?_⟩⟩, fun c6 => ⟨by rw [es] at q4; have := (F2 h' q4).2; omega, ⟨by
    rw [es] at q4
    have B := F2 h' q4
    have G : F39 h (am_up (am_up (am_up h' 1 4 1) 1 5 (h' 1 6)) 1 3 (h' 1 3 + 1)) := fun x j a b d => by rw [am_up_n2 (by omega), am_up_n2 (by omega), am_up_n2 (by omega)]; exact B.1 x j a b d
    refine ⟨TPB_fr T (fun j => G _ _ (by omega) (by omega) (by omega)) (G _ _ (by omega) (by omega) (by omega)), ?_⟩
    rw [am_up_n2 (by omega), am_up_n2 (by omega), am_up_n2 (by omega)]
    have := q4.2.1
    omega, fun h'_1 q7 => ?_⟩⟩⟩⟩⟩⟩⟩⟩⟩
  · exact stop (tkk_end TW (by omega))
  · exact stop (e8.symm.trans c2)
  · exact absurd f4 c3
  · rw [es] at q4
    have B := F2 h' q4
    have nz : ¬ tkk (ctp h) i = 0 := fun z => c2 (e8.trans z)
    have n1 : ¬ (bSt (ctp h) i c (g 3 0) (nr g 4 0)).1 = 0 := fun z => c5 (q4.2.2.1 z).1.1
    rw [fu c1, rdL_f nz n1] at e
    subst e
    have X := q4.2.2.2 n1
    exact X53 hK (AD _ _ (F3 _ _ B.1) q6) ⟨by rw [q6.1 _ _ (by omega), am_up_n2 (by omega)]; exact X.1, by rw [q6.1 _ _ (by omega), am_up_n2 (by omega)]; exact X.2⟩ n1 (by omega)
  · rw [es] at q4
    have B := F2 h' q4
    have nz : ¬ tkk (ctp h) i = 0 := fun z => c2 (e8.trans z)
    have s1 : (bSt (ctp h) i c (g 3 0) (nr g 4 0)).1 = 0 := Classical.byContradiction fun z => z ((q4.2.2.2 z).1.symm.trans c5)
    have Y := q4.2.2.1 s1
    have w := bSt_w TW (by omega) W s1
    have eh := F39_t B.1
    have k3 : tkk (ctp h) (bSt (ctp h) i c (g 3 0) (nr g 4 0)).2.2.2.2 = 3 := by
      have g8 := Y.2.2.1.1.2
      rw [eh] at g8
      exact g8.symm.trans c6
    have g7 := Y.2.2.1.2.1
    rw [eh] at g7
    have tr := tk_r TW (i := (bSt (ctp h) i c (g 3 0) (nr g 4 0)).2.2.2.2) (by omega) (by omega)
    rw [fu c1, rdL_s nz s1 k3] at e
    have C2 := q7.2
    rw [am_up_n2 (by omega), g7] at C2
    have n30 : h'_1 3 0 = (bSt (ctp h) i c (g 3 0) (nr g 4 0)).2.2.1 := by rw [q7.1 _ _ (by omega), am_up_n2 (by omega)]; exact Y.2.1.1
    have nr4 : nr h'_1 4 0 = (bSt (ctp h) i c (g 3 0) (nr g 4 0)).2.2.2.1 := (nr_fr2 (fun j => by rw [q7.1 _ _ (by omega), am_up_n2 (by omega)])).trans Y.2.1.2
    refine ih c1 h'_1 _ (by omega) (by omega) (by omega) tr.2.2 (AD _ _ (F3 _ _ B.1) q7) C2 ?_ ?_ ?_ ?_ ?_
    · rw [q7.1 _ _ (by omega), am_up_n2 (by omega)]; exact c5
    · rw [q7.1 _ _ (by omega), am_up_n2 (by omega)]; exact Y.1.2.trans f5
    · rw [q7.1 _ _ (by omega), am_up_eq, B.2]
    · rw [n30, nr4]; exact w.1
    · rw [n30, nr4]; exact e
  · rw [es] at q4
    have B := F2 h' q4
    have nz : ¬ tkk (ctp h) i = 0 := fun z => c2 (e8.trans z)
    have s1 : (bSt (ctp h) i c (g 3 0) (nr g 4 0)).1 = 0 := Classical.byContradiction fun z => z ((q4.2.2.2 z).1.symm.trans c5)
    have Y := q4.2.2.1 s1
    have eh := F39_t B.1
    have k3 : ¬ tkk (ctp h) (bSt (ctp h) i c (g 3 0) (nr g 4 0)).2.2.2.2 = 3 := fun z => c6 (by rw [Y.2.2.1.1.2, eh]; exact z)
    have g6 := Y.2.2.1.1.1
    rw [eh] at g6
    rw [fu c1, rdL_g nz s1 k3] at e
    subst e
    have G : F39 h (am_up (am_up (am_up h' 1 4 1) 1 5 (h' 1 6)) 1 3 (h' 1 3 + 1)) := fun x j a b d => by rw [am_up_n2 (by omega), am_up_n2 (by omega), am_up_n2 (by omega)]; exact B.1 x j a b d
    exact X53 hK (AD _ _ G q7) ⟨by rw [q7.1 _ _ (by omega), am_up_n2 (by omega), am_up_n2 (by omega), am_up_eq], by rw [q7.1 _ _ (by omega), am_up_n2 (by omega), am_up_eq]; exact g6⟩ (fun z => by have z' : (1 : Int) = 0 := z; omega) (by omega)
theorem NT_00 : NT 0 (fun _ => 0) := ⟨by omega, by omega, fun p q e => absurd e bt_zero⟩
theorem WFn_0 : WFn 0 0 (fun _ => 0) := ⟨NT_00, fun _ => S20_0, by omega, fun _ => rfl, fun z => by omega⟩
theorem C53_ok : am_CS 6 53 C53 := W53 (fun h K hb => by
  have T := hb.1
  have G : F39 h (am_up (am_up (am_up (am_up (h_fl (am_up h (3 : Int) 0 (0 : Int)) 4 20 0) 1 3 0) 1 4 0) 1 5 (-1)) 1 7 0) := fun x j a b d => by rw [am_up_n2 (by omega), am_up_n2 (by omega), am_up_n2 (by omega), am_up_n2 (by omega), h_fl_ne d, am_up_n2 b]
  refine T53_0 ⟨⟨TPB_fr T (fun j => G _ _ (by omega) (by omega) (by omega)) (G _ _ (by omega) (by omega) (by omega)), by rw [am_up_eq]; omega⟩, fun h' q1 => ?_⟩
  · have C := q1.2
    rw [am_up_eq] at C
    have f : ∀ x i, ¬ (x = 1 ∧ 6 ≤ i ∧ i ≤ 9) → h' x i = (am_up (am_up (am_up (am_up (h_fl (am_up h (3 : Int) 0 (0 : Int)) 4 20 0) 1 3 0) 1 4 0) 1 5 (-1)) 1 7 0) x i := q1.1
    have n30 : h' 3 0 = 0 := by rw [f _ _ (by omega), am_up_n2 (by omega), am_up_n2 (by omega), am_up_n2 (by omega), am_up_n2 (by omega), h_fl_ne (by omega), am_up_eq]
    have nr4 : nr h' 4 0 = fun _ => 0 := by
      funext p
      by_cases c : 0 ≤ p ∧ p < 20
      · rw [nr_in0 c.1 c.2, f _ _ (by omega), am_up_n2 (by omega), am_up_n2 (by omega), am_up_n2 (by omega), am_up_n2 (by omega), h_fl_in c.1 c.2]
      · rw [nr_out c]
    refine L53 T hb.2 0 h' 0 (by omega) (by omega) (by omega) (by omega) (fun x j a b d => (f x j (by omega)).trans (G x j a b d)) C ?_ ?_ ?_ ?_ ?_
    · rw [f _ _ (by omega), am_up_n2 (by omega), am_up_n2 (by omega), am_up_eq]
    · rw [f _ _ (by omega), am_up_n2 (by omega), am_up_eq]
    · rw [f _ _ (by omega), am_up_n2 (by omega), am_up_n2 (by omega), am_up_n2 (by omega), am_up_eq]
    · rw [n30, nr4]; exact WFn_0
    · rw [n30, nr4]; rfl)
