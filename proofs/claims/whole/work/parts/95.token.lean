/-! ===== texts: tokens, statements ===== -/
noncomputable def cif {α : Type} (c : Prop) (x y : α) : α := @ite α c (Classical.propDecidable c) x y
theorem cif_t {α : Type} {c : Prop} {x y : α} (h : c) : cif c x y = x := if_pos h
theorem cif_f {α : Type} {c : Prop} {x y : α} (h : ¬ c) : cif c x y = y := if_neg h
noncomputable def rn (P : Int → Prop) : Nat → Int → Int
  | 0, i => i
  | f + 1, i => cif (P i) (rn P f (i + 1)) i
noncomputable def rnn (P : Int → Prop) (i : Int) : Int := rn P 801 i
def RN (P : Int → Prop) (i j : Int) : Prop := i ≤ j ∧ (∀ k, i ≤ k → k < j → P k) ∧ ¬ P j
theorem RN_un {P : Int → Prop} {i j j' : Int} (h : RN P i j) (h' : RN P i j') : j = j' := by
  by_cases a : j < j'
  · exact absurd (h'.2.1 j h.1 a) h.2.2
  · by_cases b : j' < j
    · exact absurd (h.2.1 j' h'.1 b) h'.2.2
    · omega
theorem rn_RN {P : Int → Prop} (hP : ∀ k, P k → k < 800) : ∀ (f : Nat) (i : Int), 800 ≤ i + f → RN P i (rn P f i)
  | 0, i, h => ⟨by show i ≤ i; omega, fun k a b => by have b' : k < i := b; omega, fun z => by have := hP _ z; have e : rn P 0 i = i := rfl; rw [e] at this; omega⟩
  | f + 1, i, h => by
    by_cases c : P i
    · have e : rn P (f + 1) i = rn P f (i + 1) := cif_t c
      have w := rn_RN hP f (i + 1) (by omega)
      rw [e]
      refine ⟨by have := w.1; omega, fun k a b => ?_, w.2.2⟩
      by_cases z : k = i
      · rw [z]; exact c
      · exact w.2.1 k (by omega) b
    · have e : rn P (f + 1) i = i := cif_f c
      rw [e]
      exact ⟨by omega, fun k a b => by omega, c⟩
theorem rnn_is {P : Int → Prop} (hP : ∀ k, P k → k < 800) {i j : Int} (h0 : 0 ≤ i) (h : RN P i j) : j = rnn P i := RN_un h (rn_RN hP 801 i (by omega))
theorem rnn_RN {P : Int → Prop} (hP : ∀ k, P k → k < 800) {i : Int} (h0 : 0 ≤ i) : RN P i (rnn P i) := rn_RN hP 801 i (by omega)
/-- the signs of a tape: none is told by -1 -/
def tpn (h : am_H) (q len : Int) : Int → Int := fun j => if 0 ≤ j ∧ j < len then h q j else -1
def TPW (tp : Int → Int) : Prop := ∀ j, tp j ≠ -1 → 0 ≤ j ∧ j < 800
def TPB (h : am_H) (q len : Int) : Prop := (0 ≤ len ∧ len ≤ 800) ∧ ∀ j, 0 ≤ j → j < len → 0 ≤ h q j ∧ h q j < 256
def blk (tp : Int → Int) (j : Int) : Prop := tp j = 32 ∨ tp j = 10
def ltr (tp : Int → Int) (j : Int) : Prop := 97 ≤ tp j ∧ tp j ≤ 122
def dgt (tp : Int → Int) (j : Int) : Prop := 48 ≤ tp j ∧ tp j ≤ 57
noncomputable def tks (tp : Int → Int) (i : Int) : Int := rnn (blk tp) i
noncomputable def tkk (tp : Int → Int) (i : Int) : Int := ifc (ltr tp (tks tp i)) 1 (ifc (dgt tp (tks tp i)) 2 (ifc (tp (tks tp i) = 59) 3 (ifc (tp (tks tp i) = -1) 0 4)))
noncomputable def tke (tp : Int → Int) (i : Int) : Int := ifc (ltr tp (tks tp i)) (rnn (ltr tp) (tks tp i)) (ifc (dgt tp (tks tp i)) (rnn (dgt tp) (tks tp i)) (tks tp i + 1))
def vlf (tp : Int → Int) (s : Int) : Nat → Int
  | 0 => 0
  | m + 1 => min 10000 (vlf tp s m * 10 + (tp (s + m) - 48))
noncomputable def tkv (tp : Int → Int) (i : Int) : Int := vlf tp (tks tp i) (tke tp i - tks tp i).toNat
def wdp (tp : Int → Int) (i a : Int) : Prop := tkk tp i = 1 ∧ tke tp i - tks tp i = am_sl a ∧ ∀ j, 0 ≤ j → j < am_sl a → tp (tks tp i + j) = am_sc a j
section TK
variable {tp : Int → Int}
theorem tpn_in {h : am_H} {q len j : Int} (a : 0 ≤ j) (b : j < len) : tpn h q len j = h q j := if_pos ⟨a, b⟩
theorem tpn_out {h : am_H} {q len j : Int} (a : ¬ (0 ≤ j ∧ j < len)) : tpn h q len j = -1 := if_neg a
theorem TPW_of {h : am_H} {q len : Int} (hl : len ≤ 800) : TPW (tpn h q len) := fun j z => by
  by_cases c : 0 ≤ j ∧ j < len
  · omega
  · exact absurd (tpn_out c) z
theorem blk_l (H : TPW tp) : ∀ k, blk tp k → k < 800 := fun k z => (H k (by unfold blk at z; omega)).2
theorem ltr_l (H : TPW tp) : ∀ k, ltr tp k → k < 800 := fun k z => (H k (by unfold ltr at z; omega)).2
theorem dgt_l (H : TPW tp) : ∀ k, dgt tp k → k < 800 := fun k z => (H k (by unfold dgt at z; omega)).2
theorem tks_ge (H : TPW tp) {i : Int} (h0 : 0 ≤ i) : i ≤ tks tp i := (rnn_RN (blk_l H) h0).1
theorem tkk_1 {i : Int} (h : ltr tp (tks tp i)) : tkk tp i = 1 := ifc_t h
theorem tkk_2 {i : Int} (h1 : ¬ ltr tp (tks tp i)) (h : dgt tp (tks tp i)) : tkk tp i = 2 := (ifc_f h1).trans (ifc_t h)
theorem tkk_3 {i : Int} (h1 : ¬ ltr tp (tks tp i)) (h2 : ¬ dgt tp (tks tp i)) (h : tp (tks tp i) = 59) : tkk tp i = 3 := (ifc_f h1).trans ((ifc_f h2).trans (ifc_t h))
theorem tkk_0 {i : Int} (h1 : ¬ ltr tp (tks tp i)) (h2 : ¬ dgt tp (tks tp i)) (h3 : ¬ tp (tks tp i) = 59) (h : tp (tks tp i) = -1) : tkk tp i = 0 := (ifc_f h1).trans ((ifc_f h2).trans ((ifc_f h3).trans (ifc_t h)))
theorem tkk_4 {i : Int} (h1 : ¬ ltr tp (tks tp i)) (h2 : ¬ dgt tp (tks tp i)) (h3 : ¬ tp (tks tp i) = 59) (h : ¬ tp (tks tp i) = -1) : tkk tp i = 4 := (ifc_f h1).trans ((ifc_f h2).trans ((ifc_f h3).trans (ifc_f h)))
theorem tke_1 {i : Int} (h : ltr tp (tks tp i)) : tke tp i = rnn (ltr tp) (tks tp i) := ifc_t h
theorem tke_2 {i : Int} (h1 : ¬ ltr tp (tks tp i)) (h : dgt tp (tks tp i)) : tke tp i = rnn (dgt tp) (tks tp i) := (ifc_f h1).trans (ifc_t h)
theorem tke_3 {i : Int} (h1 : ¬ ltr tp (tks tp i)) (h2 : ¬ dgt tp (tks tp i)) : tke tp i = tks tp i + 1 := (ifc_f h1).trans (ifc_f h2)
/-- a token that is there begins on the tape, and ends there -/
theorem tk_r (H : TPW tp) {i : Int} (h0 : 0 ≤ i) (h : tkk tp i ≠ 0) : (i ≤ tks tp i ∧ tks tp i < 800) ∧ (tks tp i < tke tp i ∧ tke tp i ≤ 800) := by
  have g := tks_ge H h0
  have n1 : tp (tks tp i) ≠ -1 := fun z => h (tkk_0 (fun w => by unfold ltr at w; omega) (fun w => by unfold dgt at w; omega) (by omega) z)
  have l := H _ n1
  refine ⟨by omega, ?_⟩
  have key : ∀ P : Int → Prop, (∀ k, P k → k < 800) → P (tks tp i) → tks tp i < rnn P (tks tp i) ∧ rnn P (tks tp i) ≤ 800 := fun P hP w => by
    have q := rnn_RN hP (i := tks tp i) (by omega)
    have ne : rnn P (tks tp i) ≠ tks tp i := fun z => q.2.2 (by rw [z]; exact w)
    have q1 := q.1
    have q2 : ¬ 800 < rnn P (tks tp i) := fun z => by have := hP _ (q.2.1 800 (by omega) z); omega
    omega
  by_cases a : ltr tp (tks tp i)
  · rw [tke_1 a]; exact key _ (ltr_l H) a
  · by_cases b : dgt tp (tks tp i)
    · rw [tke_2 a b]; exact key _ (dgt_l H) b
    · rw [tke_3 a b]; omega
theorem vlf_r (tp : Int → Int) (s : Int) (hd : ∀ k : Nat, 48 ≤ tp (s + k) ∨ True) : ∀ m : Nat, vlf tp s m ≤ 10000
  | 0 => by show (0 : Int) ≤ 10000; omega
  | m + 1 => by show min 10000 (vlf tp s m * 10 + (tp (s + m) - 48)) ≤ 10000; omega
theorem vlf_nn {s : Int} : ∀ m : Nat, (∀ k : Nat, k < m → 48 ≤ tp (s + k)) → 0 ≤ vlf tp s m
  | 0, _ => by show (0 : Int) ≤ 0; omega
  | m + 1, hd => by
    have w := vlf_nn m (fun k a => hd k (by omega))
    have := hd m (by omega)
    show 0 ≤ min 10000 (vlf tp s m * 10 + (tp (s + m) - 48))
    omega
end TK
/-! statements: the fault (0: none), its place, the net then, where the next one begins -/
abbrev Res : Type := Int × Int × Int × (Int → Int) × Int
noncomputable def rdf (tp : Int → Int) (j lo' hi' : Int) : Int := ifc (tkk tp j = 2) (ifc (lo' ≤ tkv tp j ∧ tkv tp j ≤ hi') 0 2) 1
noncomputable def bPr (tp : Int → Int) (k j cnt n : Int) (r : Int → Int) : Res := cif (rdf tp j (if k = 1 then 3 else 2) 20 = 0) (cif (20 < (if cnt = 0 then 1 else n) * tkv tp j) (3, tks tp j, n, r, 0) (0, -1, (if cnt = 0 then 1 else n) * tkv tp j, mul (if cnt = 0 then 1 else n) r k (tkv tp j), tke tp j)) (rdf tp j (if k = 1 then 3 else 2) 20, tks tp j, n, r, 0)
noncomputable def bPo (tp : Int → Int) (j n : Int) (r : Int → Int) : Res := cif (wdp tp j 3000008) (cif (rdf tp (tke tp j) 1 20 = 0) (0, -1, tkv tp (tke tp j), r, tke tp (tke tp j)) (rdf tp (tke tp j) 1 20, tks tp (tke tp j), n, r, 0)) (1, tks tp j, n, r, 0)
noncomputable def bLi (tp : Int → Int) (j n : Int) (r : Int → Int) : Res := cif (rdf tp j 0 (n - 1) = 0) (cif (rdf tp (tke tp j) 0 (n - 1) = 0) (cif (tkv tp j = tkv tp (tke tp j) ∨ ad r (tkv tp j) (tkv tp (tke tp j))) (2, tks tp (tke tp j), n, r, 0) (0, -1, n, wi r (tkv tp j) (tkv tp (tke tp j)), tke tp (tke tp j))) (rdf tp (tke tp j) 0 (n - 1), tks tp (tke tp j), n, r, 0)) (rdf tp j 0 (n - 1), tks tp j, n, r, 0)
noncomputable def kdw (tp : Int → Int) (i : Int) : Int := ifc (wdp tp i 3000011) 0 (ifc (wdp tp i 3000009) 1 (ifc (wdp tp i 3000002) 2 (-1)))
noncomputable def bSt (tp : Int → Int) (i cnt n : Int) (r : Int → Int) : Res := cif (¬ kdw tp i = -1) (bPr tp (kdw tp i) (tke tp i) cnt n r) (cif (cnt = 0 ∧ wdp tp i 3000005) (bPo tp (tke tp i) n r) (cif (0 < cnt ∧ wdp tp i 3000004) (bLi tp (tke tp i) n r) (1, tks tp i, n, r, 0)))
noncomputable def rdL (tp : Int → Int) : Nat → Int → Int → Int → (Int → Int) → Int × Int × Int × Int × (Int → Int)
  | 0, _, cnt, n, r => (0, -1, cnt, n, r)
  | f + 1, i, cnt, n, r => cif (tkk tp i = 0) (0, -1, cnt, n, r) (cif ((bSt tp i cnt n r).1 = 0) (cif (tkk tp (bSt tp i cnt n r).2.2.2.2 = 3) (rdL tp f (tke tp (bSt tp i cnt n r).2.2.2.2) (cnt + 1) (bSt tp i cnt n r).2.2.1 (bSt tp i cnt n r).2.2.2.1) (1, tks tp (bSt tp i cnt n r).2.2.2.2, 0, 0, r)) ((bSt tp i cnt n r).1, (bSt tp i cnt n r).2.1, 0, 0, r))
theorem tpn_fr {h g : am_H} {q len len' : Int} (e : ∀ j, g q j = h q j) (e2 : len' = len) : tpn g q len' = tpn h q len := by
  subst e2
  funext j
  unfold tpn
  rw [e]
theorem TPB_fr {h g : am_H} {q len len' : Int} (H : TPB h q len) (e : ∀ j, g q j = h q j) (e2 : len' = len) : TPB g q len' := by
  subst e2
  exact ⟨H.1, fun j a b => by rw [e]; exact H.2 j a b⟩
theorem tpn_r {h : am_H} {q len : Int} (H : TPB h q len) (j : Int) : -1 ≤ tpn h q len j ∧ tpn h q len j < 256 ∧ (tpn h q len j = -1 ↔ ¬ (0 ≤ j ∧ j < len)) := by
  by_cases c : 0 ≤ j ∧ j < len
  · rw [tpn_in c.1 c.2]
    have := H.2 j c.1 c.2
    exact ⟨by omega, by omega, by omega⟩
  · rw [tpn_out c]
    exact ⟨by omega, by omega, by omega⟩
theorem TPW_b {h : am_H} {q len : Int} (H : TPB h q len) : TPW (tpn h q len) := TPW_of H.1.2
theorem tks_le {tp : Int → Int} (H : TPW tp) {i : Int} (h0 : 0 ≤ i) : tks tp i ≤ max i 800 := by
  have q := rnn_RN (blk_l H) h0
  have : ¬ max i 800 < tks tp i := fun z => by
    have := blk_l H _ (q.2.1 (max i 800) (by omega) z)
    omega
  omega
def ctp (g : am_H) : Int → Int := tpn g 2 (g 1 1)
def CTK (g : am_H) (i : Int) : Prop := (g 1 6 = tks (ctp g) i ∧ g 1 8 = tkk (ctp g) i) ∧ g 1 7 = tke (ctp g) i ∧ (tkk (ctp g) i = 2 → g 1 9 = tkv (ctp g) i)
def ADV (h g : am_H) : Prop := (∀ x i, ¬ (x = 1 ∧ 6 ≤ i ∧ i ≤ 9) → g x i = h x i) ∧ CTK g (h 1 7)
def APn (h g : am_H) (v j : Int) : Prop := (∀ x i, ¬ (x = 1 ∧ i = 1) → ¬ (x = 2 ∧ h 1 1 ≤ i ∧ i < h 1 1 + 4) → g x i = h x i) ∧ g 1 1 = h 1 1 + j ∧ ∀ i, 0 ≤ i → i < j → g 2 (h 1 1 + i) = iAnd (iShr v (24 - 8 * i)) 255
def APP (h g : am_H) (v : Int) : Prop := APn h g v 4
/-! 65 FactorNets$Reader.signAt -/
def C65 : am_K := fun as h K => am_a2 as (fun v0 v1 => am_oc 7 1 v0 (am_n v1 (fun i => (TPB h 2 (h 1 1)) ∧ (K (some (mB ((tpn h 2 (h 1 1)) i))) h))))
theorem W65 {d : Nat} (H : ∀ (i : Int) (h : am_H) (K : Option am_V → am_H → Prop), (TPB h 2 (h 1 1)) ∧ (K (some (mB ((tpn h 2 (h 1 1)) i))) h) → am_AT d 65 0 [some (mR 1 7 0 1), some (mB i)] h K) : am_CS d 65 C65 := by
  refine am_CS_of (T := tb65) (mL := 2) (rk := 1) rfl (fun as h K hC => ?_)
  obtain ⟨v0, v1, rfl, hC0⟩ := am_a2_e hC
  obtain ⟨e0, hC1⟩ := am_oc_e hC0
  subst e0
  obtain ⟨i, rfl, hC2⟩ := am_n_e hC1
  refine ⟨Nat.le_of_ble_eq_true rfl, ?_⟩
  exact H i h K hC2
theorem T65_0 {R : Option am_V → am_H → Prop} {h : am_H} {i : Int} (t : ((i < 0) → (R (some (mB (-1))) h)) ∧ ((0 ≤ i) → (((h 1 1 ≤ i) → (R (some (mB (-1))) h)) ∧ ((i < h 1 1) → (((800 ≤ i) → (R (some (mB (-1))) h)) ∧ ((i < 800) → ((0 ≤ i ∧ i < 800) ∧ (R (some (mB (h 2 i))) h)))))))) : am_AT 1 65 0 [some (mR 1 7 0 1), some (mB i)] h R :=
  am_T (d := 0) (m := 65) (T := tb65) (mL := 2) (rk := 1) (cuts := []) (l := []) rfl trivial 19 (And.intro (fun c1 => (t).1 c1) (fun c1 => And.intro (fun c2 => ((t).2 c1).1 c2) (fun c2 => And.intro (fun c3 => (((t).2 c1).2 c2).1 c3) (fun c3 => And.intro ((((t).2 c1).2 c2).2 c3).1 (((((t).2 c1).2 c2).2 c3).2)))))
theorem C65_ok : am_CS 1 65 C65 := W65 (fun i h K hb => by
  have hl := hb.1.1
  refine T65_0 ⟨fun c1 => ?_, fun c1 => ⟨fun c2 => ?_, fun c2 => ⟨fun c3 => ?_, fun c3 => ⟨by omega, ?_⟩⟩⟩⟩
  · exact am_rB hb.2 (tpn_out (by omega))
  · exact am_rB hb.2 (tpn_out (by omega))
  · exfalso; omega
  · exact am_rB hb.2 (tpn_in c1 c2))
/-! 60 FactorNets$Reader.fail -/
def C60 : am_K := fun as h K => am_a2 as (fun v0 v1 => am_oc 7 1 v0 (am_n v1 (fun f => K (none) (am_up (am_up h 1 4 f) 1 5 (h 1 6)))))
theorem W60 {d : Nat} (H : ∀ (f : Int) (h : am_H) (K : Option am_V → am_H → Prop), K (none) (am_up (am_up h 1 4 f) 1 5 (h 1 6)) → am_AT d 60 0 [some (mR 1 7 0 1), some (mB f)] h K) : am_CS d 60 C60 := by
  refine am_CS_of (T := tb60) (mL := 2) (rk := 0) rfl (fun as h K hC => ?_)
  obtain ⟨v0, v1, rfl, hC0⟩ := am_a2_e hC
  obtain ⟨e0, hC1⟩ := am_oc_e hC0
  subst e0
  obtain ⟨f, rfl, hC2⟩ := am_n_e hC1
  refine ⟨Nat.le_of_ble_eq_true rfl, ?_⟩
  exact H f h K hC2
theorem T60_0 {R : Option am_V → am_H → Prop} {h : am_H} {f : Int} (t : R none (am_up (am_up h 1 4 f) 1 5 (h 1 6))) : am_AT 1 60 0 [some (mR 1 7 0 1), some (mB f)] h R :=
  am_T (d := 0) (m := 60) (T := tb60) (mL := 2) (rk := 0) (cuts := []) (l := []) rfl trivial 12 (t)
theorem C60_ok : am_CS 1 60 C60 := W60 (fun f h K hb => T60_0 hb)
/-! 52 FactorNets$Reader.append -/
def C52 : am_K := fun as h K => am_a2 as (fun v0 v1 => am_oc 7 1 v0 (am_n v1 (fun v => (0 ≤ h 1 1 ∧ h 1 1 ≤ 796) ∧ (∀ (h' : am_H), APP h h' v → K (none) (h')))))
theorem W52 {d : Nat} (H : ∀ (v : Int) (h : am_H) (K : Option am_V → am_H → Prop), (0 ≤ h 1 1 ∧ h 1 1 ≤ 796) ∧ (∀ (h' : am_H), APP h h' v → K (none) (h')) → am_AT d 52 0 [some (mR 1 7 0 1), some (mB v), none] h K) : am_CS d 52 C52 := by
  refine am_CS_of (T := tb52) (mL := 3) (rk := 0) rfl (fun as h K hC => ?_)
  obtain ⟨v0, v1, rfl, hC0⟩ := am_a2_e hC
  obtain ⟨e0, hC1⟩ := am_oc_e hC0
  subst e0
  obtain ⟨v, rfl, hC2⟩ := am_n_e hC1
  refine ⟨Nat.le_of_ble_eq_true rfl, ?_⟩
  exact H v h K hC2
theorem T52_0 {R : Option am_V → am_H → Prop} {h : am_H} {v : Int} (t : am_AT 1 52 3 [some (mR 1 7 0 1), some (mB v), some (mI 24)] h R) : am_AT 1 52 0 [some (mR 1 7 0 1), some (mB v), none] h R :=
  am_T (d := 0) (m := 52) (T := tb52) (mL := 3) (rk := 0) (cuts := [(3, [1, 1, 2])]) (l := []) rfl trivial 6 (t)
theorem T52_3 {R : Option am_V → am_H → Prop} {h : am_H} {v : Int} {x2 : Int} (t : (R32 x2) ∧ (((x2 < 0) → (R none h)) ∧ ((0 ≤ x2) → (((800 ≤ h 1 1) → (R none h)) ∧ ((h 1 1 < 800) → ((0 ≤ h 1 1 ∧ h 1 1 < 800) ∧ ((R32 ((h 1 1) + 1)) ∧ (am_AT 1 52 3 [some (mR 1 7 0 1), some (mB v), some (mI (x2 + (-8)))] (am_up (am_up h 2 (h 1 1) (iAnd (iShr v x2) 255)) 1 1 ((h 1 1) + 1)) R)))))))) : am_AT 1 52 3 [some (mR 1 7 0 1), some (mB v), some (mI x2)] h R :=
  am_T (d := 0) (m := 52) (T := tb52) (mL := 3) (rk := 0) (cuts := [(3, [1, 1, 2])]) (l := []) rfl trivial 28 (And.intro (t).1 (And.intro (fun c4 => ((t).2).1 c4) (fun c4 => And.intro (fun c5 => (((t).2).2 c4).1 c5) (fun c5 => And.intro ((((t).2).2 c4).2 c5).1 (And.intro (((((t).2).2 c4).2 c5).2).1 ((((((t).2).2 c4).2 c5).2).2))))))
theorem L52 {K : Option am_V → am_H → Prop} {h : am_H} {v : Int} (h0 : 0 ≤ h 1 1 ∧ h 1 1 ≤ 796) (hK : ∀ g, APP h g v → K none g) : ∀ j, ∀ g : am_H, 0 ≤ j → j ≤ 4 → APn h g v j → am_AT 1 52 3 [some (mR 1 7 0 1), some (mB v), some (mI (24 - 8 * j))] g K := by
  refine lp 4 (fun j ih g j0 j1 G => ?_)
  have e := G.2.1
  refine T52_3 ⟨by omega, ⟨fun c1 => ?_, fun c1 => ⟨fun c2 => ?_, fun c2 => ⟨by omega, ⟨by omega, ?_⟩⟩⟩⟩⟩
  · rw [show j = 4 by omega] at G
    exact hK g G
  · exfalso; omega
  · rw [show 24 - 8 * j + (-8) = 24 - 8 * (j + 1) by omega, e]
    refine ih (by omega) _ (by omega) (by omega) ⟨fun x i a b => by rw [am_up_n2 a, am_up_n2 (by omega)]; exact G.1 x i a b, by rw [am_up_eq]; omega, fun i a b => ?_⟩
    by_cases w : i = j
    · rw [w, am_up_n2 (by omega), am_up_eq]
    · rw [am_up_n2 (by omega), am_up_n2 (by omega)]; exact G.2.2 i a (by omega)
theorem C52_ok : am_CS 1 52 C52 := W52 (fun v h K hb => T52_0 (L52 hb.1 hb.2 0 h (by omega) (by omega) ⟨fun _ _ _ _ => rfl, by omega, fun i a b => by omega⟩))
/-! 62 FactorNets$Reader.passWord -/
def C62 : am_K := fun as h K => am_a1 as (fun v0 => am_oc 7 1 v0 ((TPB h 2 (h 1 1) ∧ (0 ≤ h 1 7 ∧ h 1 7 ≤ 900)) ∧ (∀ (h' : am_H), (∀ x9 i9, ¬ (x9 = 1 ∧ i9 = 7) → h' x9 i9 = h x9 i9) ∧ h' 1 7 = rnn (ltr (tpn h 2 (h 1 1))) (h 1 7) → K (none) (h'))))
theorem W62 {d : Nat} (H : ∀  (h : am_H) (K : Option am_V → am_H → Prop), (TPB h 2 (h 1 1) ∧ (0 ≤ h 1 7 ∧ h 1 7 ≤ 900)) ∧ (∀ (h' : am_H), (∀ x9 i9, ¬ (x9 = 1 ∧ i9 = 7) → h' x9 i9 = h x9 i9) ∧ h' 1 7 = rnn (ltr (tpn h 2 (h 1 1))) (h 1 7) → K (none) (h')) → am_AT d 62 0 [some (mR 1 7 0 1), none] h K) : am_CS d 62 C62 := by
  refine am_CS_of (T := tb62) (mL := 2) (rk := 0) rfl (fun as h K hC => ?_)
  obtain ⟨v0, rfl, hC0⟩ := am_a1_e hC
  obtain ⟨e0, hC1⟩ := am_oc_e hC0
  subst e0
  refine ⟨Nat.le_of_ble_eq_true rfl, ?_⟩
  exact H  h K hC1
theorem T62_0 {R : Option am_V → am_H → Prop} {h : am_H} (t : am_AT 2 62 2 [some (mR 1 7 0 1), some (mI 0)] h R) : am_AT 2 62 0 [some (mR 1 7 0 1), none] h R :=
  am_T (d := 1) (m := 62) (T := tb62) (mL := 2) (rk := 0) (cuts := [(2, [1, 2])]) (l := [(65, C65), (66, C66)]) rfl ⟨am_CS_d (by decide) C65_ok, am_CS_d (by decide) C66_ok, trivial⟩ 6 (t)
theorem T62_2 {R : Option am_V → am_H → Prop} {h : am_H} {x1 : Int} (t : (R32 x1) ∧ (((800 ≤ x1) → (R none h)) ∧ ((x1 < 800) → ((TPB h 2 (h 1 1)) ∧ (((¬ (97 ≤ ((tpn h 2 (h 1 1)) (h 1 7)) ∧ ((tpn h 2 (h 1 1)) (h 1 7)) ≤ 122)) → (R none h)) ∧ ((97 ≤ ((tpn h 2 (h 1 1)) (h 1 7)) ∧ ((tpn h 2 (h 1 1)) (h 1 7)) ≤ 122) → ((R32 ((h 1 7) + 1)) ∧ (am_AT 2 62 2 [some (mR 1 7 0 1), some (mI (x1 + 1))] (am_up h 1 7 ((h 1 7) + 1)) R)))))))) : am_AT 2 62 2 [some (mR 1 7 0 1), some (mI x1)] h R :=
  am_T (d := 1) (m := 62) (T := tb62) (mL := 2) (rk := 0) (cuts := [(2, [1, 2])]) (l := [(65, C65), (66, C66)]) rfl ⟨am_CS_d (by decide) C65_ok, am_CS_d (by decide) C66_ok, trivial⟩ 21 (And.intro (t).1 (And.intro (fun c6 => ((t).2).1 c6) (fun c6 => And.intro (rfl) (And.intro (((t).2).2 c6).1 (And.intro (fun c7 => ((((t).2).2 c6).2).1 c7) (fun c7 => And.intro (((((t).2).2 c6).2).2 c7).1 ((((((t).2).2 c6).2).2 c7).2)))))))
theorem L62 {K : Option am_V → am_H → Prop} {h : am_H} (H : TPB h 2 (h 1 1)) (h0 : 0 ≤ h 1 7 ∧ h 1 7 ≤ 900) (hK : ∀ g, ((∀ x9 i9, ¬ (x9 = 1 ∧ i9 = 7) → g x9 i9 = h x9 i9) ∧ g 1 7 = rnn (ltr (tpn h 2 (h 1 1))) (h 1 7)) → K none g) : ∀ j, ∀ g : am_H, 0 ≤ j → j ≤ 800 → (∀ x9 i9, ¬ (x9 = 1 ∧ i9 = 7) → g x9 i9 = h x9 i9) → g 1 7 = h 1 7 + j → (∀ k, h 1 7 ≤ k → k < h 1 7 + j → ltr (tpn h 2 (h 1 1)) k) → am_AT 2 62 2 [some (mR 1 7 0 1), some (mI j)] g K := by
  have W := TPW_b H
  refine lp 800 (fun j ih g j0 j1 F e G => ?_)
  have e1 : g 1 1 = h 1 1 := F _ _ (by omega)
  have et : tpn g 2 (g 1 1) = tpn h 2 (h 1 1) := tpn_fr (fun j => F _ _ (by omega)) e1
  have fin : ¬ ltr (tpn h 2 (h 1 1)) (h 1 7 + j) → K none g := fun z => hK g ⟨F, by rw [e]; exact rnn_is (ltr_l W) h0.1 ⟨by omega, G, z⟩⟩
  refine T62_2 ⟨by omega, ⟨fun c1 => ?_, fun c1 => ⟨TPB_fr H (fun j => F _ _ (by omega)) e1, ⟨fun c2 => ?_, fun c2 => ⟨by omega, ?_⟩⟩⟩⟩⟩
  · exact fin (fun z => by have := ltr_l W _ z; omega)
  · rw [et, e] at c2
    exact fin c2
  · rw [et, e] at c2
    rw [e]
    refine ih c1 _ (by omega) (by omega) (fun x i a => by rw [am_up_n2 a]; exact F x i a) (by rw [am_up_eq]; omega) (fun k a b => ?_)
    by_cases w : k = h 1 7 + j
    · rw [w]; exact c2
    · exact G k a (by omega)
theorem C62_ok : am_CS 2 62 C62 := W62 (fun h K hb => T62_0 (L62 hb.1.1 hb.1.2 hb.2 0 h (by omega) (by omega) (fun _ _ _ => rfl) (by omega) (fun k a b => by omega)))
/-! 63 FactorNets$Reader.passNumber -/
def C63 : am_K := fun as h K => am_a1 as (fun v0 => am_oc 7 1 v0 ((TPB h 2 (h 1 1) ∧ (0 ≤ h 1 6 ∧ h 1 7 = h 1 6 + 1 ∧ dgt (tpn h 2 (h 1 1)) (h 1 6))) ∧ (∀ (h' : am_H), (∀ x9 i9, ¬ (x9 = 1 ∧ (i9 = 7 ∨ i9 = 9)) → h' x9 i9 = h x9 i9) ∧ h' 1 7 = rnn (dgt (tpn h 2 (h 1 1))) (h 1 6) ∧ h' 1 9 = vlf (tpn h 2 (h 1 1)) (h 1 6) (rnn (dgt (tpn h 2 (h 1 1))) (h 1 6) - h 1 6).toNat → K (none) (h'))))
theorem W63 {d : Nat} (H : ∀  (h : am_H) (K : Option am_V → am_H → Prop), (TPB h 2 (h 1 1) ∧ (0 ≤ h 1 6 ∧ h 1 7 = h 1 6 + 1 ∧ dgt (tpn h 2 (h 1 1)) (h 1 6))) ∧ (∀ (h' : am_H), (∀ x9 i9, ¬ (x9 = 1 ∧ (i9 = 7 ∨ i9 = 9)) → h' x9 i9 = h x9 i9) ∧ h' 1 7 = rnn (dgt (tpn h 2 (h 1 1))) (h 1 6) ∧ h' 1 9 = vlf (tpn h 2 (h 1 1)) (h 1 6) (rnn (dgt (tpn h 2 (h 1 1))) (h 1 6) - h 1 6).toNat → K (none) (h')) → am_AT d 63 0 [some (mR 1 7 0 1), none] h K) : am_CS d 63 C63 := by
  refine am_CS_of (T := tb63) (mL := 2) (rk := 0) rfl (fun as h K hC => ?_)
  obtain ⟨v0, rfl, hC0⟩ := am_a1_e hC
  obtain ⟨e0, hC1⟩ := am_oc_e hC0
  subst e0
  refine ⟨Nat.le_of_ble_eq_true rfl, ?_⟩
  exact H  h K hC1
theorem T63_0 {R : Option am_V → am_H → Prop} {h : am_H} (t : (TPB h 2 (h 1 1)) ∧ ((R32 (((tpn h 2 (h 1 1)) (h 1 6)) - 48)) ∧ (am_AT 2 63 17 [some (mR 1 7 0 1), some (mI 0)] (am_up h 1 9 (((tpn h 2 (h 1 1)) (h 1 6)) - 48)) R))) : am_AT 2 63 0 [some (mR 1 7 0 1), none] h R :=
  am_T (d := 1) (m := 63) (T := tb63) (mL := 2) (rk := 0) (cuts := [(17, [1, 2])]) (l := [(65, C65), (67, C67)]) rfl ⟨am_CS_d (by decide) C65_ok, am_CS_d (by decide) C67_ok, trivial⟩ 14 (And.intro (rfl) (And.intro (t).1 (And.intro ((t).2).1 (((t).2).2))))
theorem T63_17 {R : Option am_V → am_H → Prop} {h : am_H} {x1 : Int} (t : (R32 x1) ∧ (((800 ≤ x1) → (R none h)) ∧ ((x1 < 800) → ((TPB h 2 (h 1 1)) ∧ (((¬ (48 ≤ ((tpn h 2 (h 1 1)) (h 1 7)) ∧ ((tpn h 2 (h 1 1)) (h 1 7)) ≤ 57)) → (R none h)) ∧ ((48 ≤ ((tpn h 2 (h 1 1)) (h 1 7)) ∧ ((tpn h 2 (h 1 1)) (h 1 7)) ≤ 57) → ((TPB h 2 (h 1 1)) ∧ ((R32 ((((h 1 9) * 10) + ((tpn h 2 (h 1 1)) (h 1 7))) - 48)) ∧ ((R32 ((h 1 7) + 1)) ∧ (am_AT 2 63 17 [some (mR 1 7 0 1), some (mI (x1 + 1))] (am_up (am_up h 1 9 (min 10000 ((((h 1 9) * 10) + ((tpn h 2 (h 1 1)) (h 1 7))) - 48))) 1 7 ((h 1 7) + 1)) R)))))))))) : am_AT 2 63 17 [some (mR 1 7 0 1), some (mI x1)] h R :=
  am_T (d := 1) (m := 63) (T := tb63) (mL := 2) (rk := 0) (cuts := [(17, [1, 2])]) (l := [(65, C65), (67, C67)]) rfl ⟨am_CS_d (by decide) C65_ok, am_CS_d (by decide) C67_ok, trivial⟩ 36 (And.intro (t).1 (And.intro (fun c8 => ((t).2).1 c8) (fun c8 => And.intro (rfl) (And.intro (((t).2).2 c8).1 (And.intro (fun c9 => ((((t).2).2 c8).2).1 c9) (fun c9 => And.intro (rfl) (And.intro (((((t).2).2 c8).2).2 c9).1 (And.intro ((((((t).2).2 c8).2).2 c9).2).1 (And.intro (((((((t).2).2 c8).2).2 c9).2).2).1 ((((((((t).2).2 c8).2).2 c9).2).2).2))))))))))
theorem L63 {K : Option am_V → am_H → Prop} {h : am_H} (H : TPB h 2 (h 1 1)) (h0 : 0 ≤ h 1 6) (hd : dgt (tpn h 2 (h 1 1)) (h 1 6)) (hK : ∀ g, ((∀ x9 i9, ¬ (x9 = 1 ∧ (i9 = 7 ∨ i9 = 9)) → g x9 i9 = h x9 i9) ∧ g 1 7 = rnn (dgt (tpn h 2 (h 1 1))) (h 1 6) ∧ g 1 9 = vlf (tpn h 2 (h 1 1)) (h 1 6) (rnn (dgt (tpn h 2 (h 1 1))) (h 1 6) - h 1 6).toNat) → K none g) : ∀ j, ∀ g : am_H, 0 ≤ j → j ≤ 800 → (∀ x9 i9, ¬ (x9 = 1 ∧ (i9 = 7 ∨ i9 = 9)) → g x9 i9 = h x9 i9) → g 1 7 = h 1 6 + 1 + j → g 1 9 = vlf (tpn h 2 (h 1 1)) (h 1 6) (j + 1).toNat → (∀ k, h 1 6 ≤ k → k < h 1 6 + 1 + j → dgt (tpn h 2 (h 1 1)) k) → am_AT 2 63 17 [some (mR 1 7 0 1), some (mI j)] g K := by
  have W := TPW_b H
  refine lp 800 (fun j ih g j0 j1 F e v G => ?_)
  have e1 : g 1 1 = h 1 1 := F _ _ (by omega)
  have et : tpn g 2 (g 1 1) = tpn h 2 (h 1 1) := tpn_fr (fun j => F _ _ (by omega)) e1
  have hl := dgt_l W _ (G (h 1 6 + j) (by omega) (by omega))
  have fin : ¬ dgt (tpn h 2 (h 1 1)) (h 1 6 + 1 + j) → K none g := fun z => by
    have q : h 1 6 + 1 + j = rnn (dgt (tpn h 2 (h 1 1))) (h 1 6) := rnn_is (dgt_l W) h0 ⟨by omega, G, z⟩
    refine hK g ⟨F, by rw [e]; exact q, ?_⟩
    rw [← q, v, show h 1 6 + 1 + j - h 1 6 = j + 1 by omega]
  have vr := vlf_r (tpn h 2 (h 1 1)) (h 1 6) (fun _ => Or.inr trivial) (j + 1).toNat
  have vn := vlf_nn (tp := tpn h 2 (h 1 1)) (s := h 1 6) (j + 1).toNat (fun k a => (G (h 1 6 + k) (by omega) (by omega)).1)
  rw [← v] at vr vn
  refine T63_17 ⟨by omega, ⟨fun c1 => ?_, fun c1 => ⟨TPB_fr H (fun j => F _ _ (by omega)) e1, ⟨fun c2 => ?_, fun c2 => ⟨TPB_fr H (fun j => F _ _ (by omega)) e1, ⟨by rw [et, e] at c2 ⊢; omega, ⟨by omega, ?_⟩⟩⟩⟩⟩⟩⟩
  · exact fin (fun z => by have := dgt_l W _ z; omega)
  · rw [et, e] at c2
    exact fin c2
  · rw [et, e] at c2
    rw [et, e]
    refine ih c1 _ (by omega) (by omega) (fun x i a => by rw [am_up_n2 (by omega), am_up_n2 (by omega)]; exact F x i a) (by rw [am_up_eq]; omega) ?_ (fun k a b => ?_)
    · rw [am_up_n2 (by omega), am_up_eq, show (j + 1 + 1).toNat = (j + 1).toNat + 1 by omega, v]
      show _ = min 10000 (vlf (tpn h 2 (h 1 1)) (h 1 6) (j + 1).toNat * 10 + (tpn h 2 (h 1 1) (h 1 6 + ((j + 1).toNat : Nat)) - 48))
      rw [show h 1 6 + (((j + 1).toNat : Nat) : Int) = h 1 6 + 1 + j by omega]
      omega
    · by_cases w : k = h 1 6 + 1 + j
      · rw [w]; exact c2
      · exact G k a (by omega)
theorem C63_ok : am_CS 2 63 C63 := W63 (fun h K hb => by
  obtain ⟨⟨H, h0, e, hd⟩, hK⟩ := hb
  have hd' : 48 ≤ tpn h 2 (h 1 1) (h 1 6) ∧ tpn h 2 (h 1 1) (h 1 6) ≤ 57 := hd
  refine T63_0 ⟨H, ⟨by omega, ?_⟩⟩
  · refine L63 H h0 hd hK 0 _ (by omega) (by omega) (fun x i a => by rw [am_up_n2 (by omega)]) (by rw [am_up_n2 (by omega)]; omega) ?_ (fun k a b => by rw [show k = h 1 6 by omega]; exact hd)
    rw [am_up_eq]
    show _ = min 10000 (0 * 10 + (tpn h 2 (h 1 1) (h 1 6 + ((0 : Nat) : Int)) - 48))
    rw [show h 1 6 + ((0 : Nat) : Int) = h 1 6 by omega]
    omega)
/-! 64 FactorNets$Reader.isWord -/
def C64 : am_K := fun as h K => am_a2 as (fun v0 v1 => am_oc 7 1 v0 (am_r 9 0 0 v1 (fun tx => (TPB h 2 (h 1 1) ∧ (0 ≤ h 1 6 ∧ h 1 6 ≤ 900 ∧ 0 ≤ h 1 7 ∧ h 1 7 ≤ 901)) ∧ (K (some (mP (h 1 8 = 1 ∧ h 1 7 - h 1 6 = am_sl tx ∧ ∀ j9, 0 ≤ j9 → j9 < am_sl tx → (tpn h 2 (h 1 1)) (h 1 6 + j9) = am_sc tx j9))) h))))
theorem W64 {d : Nat} (H : ∀ (tx : Int) (h : am_H) (K : Option am_V → am_H → Prop), (TPB h 2 (h 1 1) ∧ (0 ≤ h 1 6 ∧ h 1 6 ≤ 900 ∧ 0 ≤ h 1 7 ∧ h 1 7 ≤ 901)) ∧ (K (some (mP (h 1 8 = 1 ∧ h 1 7 - h 1 6 = am_sl tx ∧ ∀ j9, 0 ≤ j9 → j9 < am_sl tx → (tpn h 2 (h 1 1)) (h 1 6 + j9) = am_sc tx j9))) h) → am_AT d 64 0 [some (mR 1 7 0 1), some (mR 9 0 0 tx), none] h K) : am_CS d 64 C64 := by
  refine am_CS_of (T := tb64) (mL := 3) (rk := 4) rfl (fun as h K hC => ?_)
  obtain ⟨v0, v1, rfl, hC0⟩ := am_a2_e hC
  obtain ⟨e0, hC1⟩ := am_oc_e hC0
  subst e0
  obtain ⟨tx, rfl, hC2⟩ := am_r_e hC1
  refine ⟨Nat.le_of_ble_eq_true rfl, ?_⟩
  exact H tx h K hC2
theorem T64_0 {R : Option am_V → am_H → Prop} {h : am_H} {tx : Int} (t : ((¬ h 1 8 = 1) → (R (some (mP ((0 : Int) = 1))) h)) ∧ ((h 1 8 = 1) → ((R32 ((h 1 7) - (h 1 6))) ∧ ((((h 1 7) - (h 1 6) = am_sl tx) → (am_AT 2 64 28 [some (mR 1 7 0 1), some (mR 9 0 0 tx), some (mI 0)] h R)) ∧ ((¬ (h 1 7) - (h 1 6) = am_sl tx) → (R (some (mP ((0 : Int) = 1))) h)))))) : am_AT 2 64 0 [some (mR 1 7 0 1), some (mR 9 0 0 tx), none] h R :=
  am_T (d := 1) (m := 64) (T := tb64) (mL := 3) (rk := 4) (cuts := [(28, [1, 1, 2])]) (l := [(65, C65)]) rfl ⟨am_CS_d (by decide) C65_ok, trivial⟩ 18 (And.intro (fun c10 => And.intro (Or.inl rfl) ((t).1 c10)) (fun c10 => And.intro ((t).2 c10).1 (And.intro (fun c11 => (((t).2 c10).2).1 c11) (fun c11 => And.intro (Or.inl rfl) ((((t).2 c10).2).2 c11)))))
theorem T64_28 {R : Option am_V → am_H → Prop} {h : am_H} {tx : Int} {x2 : Int} (t : (R32 x2) ∧ (((am_sl tx ≤ x2) → (R (some (mP ((1 : Int) = 1))) h)) ∧ ((x2 < am_sl tx) → ((R32 ((h 1 6) + x2)) ∧ ((TPB h 2 (h 1 1)) ∧ ((0 ≤ x2 ∧ x2 < am_sl tx) ∧ ((((tpn h 2 (h 1 1)) ((h 1 6) + x2) = am_sc tx x2) → (am_AT 2 64 28 [some (mR 1 7 0 1), some (mR 9 0 0 tx), some (mI (x2 + 1))] h R)) ∧ ((¬ (tpn h 2 (h 1 1)) ((h 1 6) + x2) = am_sc tx x2) → (R (some (mP ((0 : Int) = 1))) h))))))))) : am_AT 2 64 28 [some (mR 1 7 0 1), some (mR 9 0 0 tx), some (mI x2)] h R :=
  am_T (d := 1) (m := 64) (T := tb64) (mL := 3) (rk := 4) (cuts := [(28, [1, 1, 2])]) (l := [(65, C65)]) rfl ⟨am_CS_d (by decide) C65_ok, trivial⟩ 20 (And.intro (t).1 (And.intro (fun c12 => And.intro (Or.inr rfl) (((t).2).1 c12)) (fun c12 => And.intro (((t).2).2 c12).1 (And.intro (rfl) (And.intro ((((t).2).2 c12).2).1 (And.intro (((((t).2).2 c12).2).2).1 (And.intro (fun c13 => ((((((t).2).2 c12).2).2).2).1 c13) (fun c13 => And.intro (Or.inl rfl) (((((((t).2).2 c12).2).2).2).2 c13)))))))))
theorem L64 {K : Option am_V → am_H → Prop} {h : am_H} {tx : Int} (H : TPB h 2 (h 1 1)) (h0 : 0 ≤ h 1 6 ∧ h 1 6 ≤ 900 ∧ 0 ≤ h 1 7 ∧ h 1 7 ≤ 901) (a1 : h 1 8 = 1) (a2 : h 1 7 - h 1 6 = am_sl tx) (hK : K (some (mP (h 1 8 = 1 ∧ h 1 7 - h 1 6 = am_sl tx ∧ ∀ j9, 0 ≤ j9 → j9 < am_sl tx → (tpn h 2 (h 1 1)) (h 1 6 + j9) = am_sc tx j9))) h) : ∀ j, 0 ≤ j → j ≤ am_sl tx → (∀ j9, 0 ≤ j9 → j9 < j → (tpn h 2 (h 1 1)) (h 1 6 + j9) = am_sc tx j9) → am_AT 2 64 28 [some (mR 1 7 0 1), some (mR 9 0 0 tx), some (mI j)] h K := by
  refine lp (am_sl tx) (fun j ih j0 j1 G => ?_)
  refine T64_28 ⟨by omega, ⟨fun c1 => ?_, fun c1 => ⟨by omega, ⟨H, ⟨by omega, ⟨fun c2 => ?_, fun c2 => ?_⟩⟩⟩⟩⟩⟩
  · exact am_rb1 hK ⟨a1, a2, fun j9 a b => G j9 a (by omega)⟩
  · refine ih c1 (by omega) (by omega) (fun j9 a b => ?_)
    by_cases w : j9 = j
    · rw [w]; exact c2
    · exact G j9 a (by omega)
  · exact am_rb hK ⟨fun z => absurd (z.2.2 j j0 c1) c2, fun z => by omega⟩
theorem C64_ok : am_CS 2 64 C64 := W64 (fun tx h K hb => by
  have ht : 0 ≤ am_sl tx := by unfold am_sl; omega
  refine T64_0 ⟨fun c1 => ?_, fun c1 => ⟨by omega, ⟨fun c2 => ?_, fun c2 => ?_⟩⟩⟩
  · exact am_rb hb.2 ⟨fun z => absurd z.1 c1, fun z => by omega⟩
  · exact L64 hb.1.1 hb.1.2 c1 c2 hb.2 0 (by omega) ht (fun j9 a b => by omega)
  · exact am_rb hb.2 ⟨fun z => absurd z.2.1 c2, fun z => by omega⟩)
/-! 61 FactorNets$Reader.advance -/
def C61 : am_K := fun as h K => am_a1 as (fun v0 => am_oc 7 1 v0 ((TPB h 2 (h 1 1) ∧ (0 ≤ h 1 7 ∧ h 1 7 ≤ 900)) ∧ (∀ (h' : am_H), ADV h h' → K (none) (h'))))
theorem W61 {d : Nat} (H : ∀  (h : am_H) (K : Option am_V → am_H → Prop), (TPB h 2 (h 1 1) ∧ (0 ≤ h 1 7 ∧ h 1 7 ≤ 900)) ∧ (∀ (h' : am_H), ADV h h' → K (none) (h')) → am_AT d 61 0 [some (mR 1 7 0 1), none] h K) : am_CS d 61 C61 := by
  refine am_CS_of (T := tb61) (mL := 2) (rk := 0) rfl (fun as h K hC => ?_)
  obtain ⟨v0, rfl, hC0⟩ := am_a1_e hC
  obtain ⟨e0, hC1⟩ := am_oc_e hC0
  subst e0
  refine ⟨Nat.le_of_ble_eq_true rfl, ?_⟩
  exact H  h K hC1
theorem T61_0 {R : Option am_V → am_H → Prop} {h : am_H} (t : am_AT 3 61 10 [some (mR 1 7 0 1), some (mI 0)] (am_up h 1 6 (h 1 7)) R) : am_AT 3 61 0 [some (mR 1 7 0 1), none] h R :=
  am_T (d := 2) (m := 61) (T := tb61) (mL := 2) (rk := 0) (cuts := [(10, [1, 2]), (59, [1, 0]), (78, [1, 2])]) (l := [(62, C62), (63, C63), (65, C65), (66, C66), (67, C67)]) rfl ⟨am_CS_d (by decide) C62_ok, am_CS_d (by decide) C63_ok, am_CS_d (by decide) C65_ok, am_CS_d (by decide) C66_ok, am_CS_d (by decide) C67_ok, trivial⟩ 10 (t)
theorem T61_10 {R : Option am_V → am_H → Prop} {h : am_H} {x1 : Int} (t : (R32 x1) ∧ (((800 ≤ x1) → (am_AT 3 61 59 [some (mR 1 7 0 1), none] h R)) ∧ ((x1 < 800) → ((TPB h 2 (h 1 1)) ∧ ((((tpn h 2 (h 1 1)) (h 1 6) = 32) → ((R32 ((h 1 6) + 1)) ∧ (am_AT 3 61 10 [some (mR 1 7 0 1), some (mI (x1 + 1))] (am_up h 1 6 ((h 1 6) + 1)) R))) ∧ ((¬ (tpn h 2 (h 1 1)) (h 1 6) = 32) → ((TPB h 2 (h 1 1)) ∧ (((¬ (tpn h 2 (h 1 1)) (h 1 6) = 10) → (am_AT 3 61 59 [some (mR 1 7 0 1), none] h R)) ∧ (((tpn h 2 (h 1 1)) (h 1 6) = 10) → ((R32 ((h 1 6) + 1)) ∧ (am_AT 3 61 10 [some (mR 1 7 0 1), some (mI (x1 + 1))] (am_up h 1 6 ((h 1 6) + 1)) R))))))))))) : am_AT 3 61 10 [some (mR 1 7 0 1), some (mI x1)] h R :=
  am_T (d := 2) (m := 61) (T := tb61) (mL := 2) (rk := 0) (cuts := [(10, [1, 2]), (59, [1, 0]), (78, [1, 2])]) (l := [(62, C62), (63, C63), (65, C65), (66, C66), (67, C67)]) rfl ⟨am_CS_d (by decide) C62_ok, am_CS_d (by decide) C63_ok, am_CS_d (by decide) C65_ok, am_CS_d (by decide) C66_ok, am_CS_d (by decide) C67_ok, trivial⟩ 27 (And.intro (t).1 (And.intro (fun c14 => ((t).2).1 c14) (fun c14 => And.intro (rfl) (And.intro (((t).2).2 c14).1 (And.intro (fun c15 => And.intro (((((t).2).2 c14).2).1 c15).1 ((((((t).2).2 c14).2).1 c15).2)) (fun c15 => And.intro (rfl) (And.intro (((((t).2).2 c14).2).2 c15).1 (And.intro (fun c16 => ((((((t).2).2 c14).2).2 c15).2).1 c16) (fun c16 => And.intro (((((((t).2).2 c14).2).2 c15).2).2 c16).1 ((((((((t).2).2 c14).2).2 c15).2).2 c16).2))))))))))
theorem T61_59 {R : Option am_V → am_H → Prop} {h : am_H} (t : (R32 ((h 1 6) + 1)) ∧ ((TPB (am_up h 1 7 ((h 1 6) + 1)) 2 ((am_up h 1 7 ((h 1 6) + 1)) 1 1)) ∧ (am_AT 3 61 78 [some (mR 1 7 0 1), some (mI ((tpn (am_up h 1 7 ((h 1 6) + 1)) 2 ((am_up h 1 7 ((h 1 6) + 1)) 1 1)) (h 1 6)))] (am_up h 1 7 ((h 1 6) + 1)) R))) : am_AT 3 61 59 [some (mR 1 7 0 1), none] h R :=
  am_T (d := 2) (m := 61) (T := tb61) (mL := 2) (rk := 0) (cuts := [(10, [1, 2]), (59, [1, 0]), (78, [1, 2])]) (l := [(62, C62), (63, C63), (65, C65), (66, C66), (67, C67)]) rfl ⟨am_CS_d (by decide) C62_ok, am_CS_d (by decide) C63_ok, am_CS_d (by decide) C65_ok, am_CS_d (by decide) C66_ok, am_CS_d (by decide) C67_ok, trivial⟩ 15 (And.intro (t).1 (And.intro (rfl) (And.intro ((t).2).1 (((t).2).2))))
theorem T61_78 {R : Option am_V → am_H → Prop} {h : am_H} {x1 : Int} (t : (R32 x1) ∧ (((¬ (97 ≤ x1 ∧ x1 ≤ 122)) → ((R32 x1) ∧ (((¬ (48 ≤ x1 ∧ x1 ≤ 57)) → ((R32 x1) ∧ (((¬ x1 = 59) → ((R32 x1) ∧ (((¬ x1 = (-1)) → (R none (am_up h 1 8 4))) ∧ ((x1 = (-1)) → (R none (am_up h 1 8 0)))))) ∧ ((x1 = 59) → (R none (am_up h 1 8 3)))))) ∧ ((48 ≤ x1 ∧ x1 ≤ 57) → ((TPB (am_up h 1 8 2) 2 ((am_up h 1 8 2) 1 1) ∧ (0 ≤ (am_up h 1 8 2) 1 6 ∧ (am_up h 1 8 2) 1 7 = (am_up h 1 8 2) 1 6 + 1 ∧ dgt (tpn (am_up h 1 8 2) 2 ((am_up h 1 8 2) 1 1)) ((am_up h 1 8 2) 1 6))) ∧ (∀ (h' : am_H), ((∀ x9 i9, ¬ (x9 = 1 ∧ (i9 = 7 ∨ i9 = 9)) → h' x9 i9 = (am_up h 1 8 2) x9 i9) ∧ h' 1 7 = rnn (dgt (tpn (am_up h 1 8 2) 2 ((am_up h 1 8 2) 1 1))) ((am_up h 1 8 2) 1 6) ∧ h' 1 9 = vlf (tpn (am_up h 1 8 2) 2 ((am_up h 1 8 2) 1 1)) ((am_up h 1 8 2) 1 6) (rnn (dgt (tpn (am_up h 1 8 2) 2 ((am_up h 1 8 2) 1 1))) ((am_up h 1 8 2) 1 6) - (am_up h 1 8 2) 1 6).toNat) → (R none h'))))))) ∧ ((97 ≤ x1 ∧ x1 ≤ 122) → ((TPB (am_up h 1 8 1) 2 ((am_up h 1 8 1) 1 1) ∧ (0 ≤ (am_up h 1 8 1) 1 7 ∧ (am_up h 1 8 1) 1 7 ≤ 900)) ∧ (∀ (h' : am_H), ((∀ x9 i9, ¬ (x9 = 1 ∧ i9 = 7) → h' x9 i9 = (am_up h 1 8 1) x9 i9) ∧ h' 1 7 = rnn (ltr (tpn (am_up h 1 8 1) 2 ((am_up h 1 8 1) 1 1))) ((am_up h 1 8 1) 1 7)) → (R none h')))))) : am_AT 3 61 78 [some (mR 1 7 0 1), some (mI x1)] h R :=
  am_T (d := 2) (m := 61) (T := tb61) (mL := 2) (rk := 0) (cuts := [(10, [1, 2]), (59, [1, 0]), (78, [1, 2])]) (l := [(62, C62), (63, C63), (65, C65), (66, C66), (67, C67)]) rfl ⟨am_CS_d (by decide) C62_ok, am_CS_d (by decide) C63_ok, am_CS_d (by decide) C65_ok, am_CS_d (by decide) C66_ok, am_CS_d (by decide) C67_ok, trivial⟩ 21 (And.intro (t).1 (And.intro (fun c17 => And.intro (((t).2).1 c17).1 (And.intro (fun c18 => And.intro (((((t).2).1 c17).2).1 c18).1 (And.intro (fun c19 => And.intro (((((((t).2).1 c17).2).1 c18).2).1 c19).1 (And.intro (fun c20 => ((((((((t).2).1 c17).2).1 c18).2).1 c19).2).1 c20) (fun c20 => ((((((((t).2).1 c17).2).1 c18).2).1 c19).2).2 c20))) (fun c19 => ((((((t).2).1 c17).2).1 c18).2).2 c19))) (fun c18 => And.intro (rfl) (And.intro (((((t).2).1 c17).2).2 c18).1 (fun z1_0 z1_1 => ((((((t).2).1 c17).2).2 c18).2) z1_0 z1_1))))) (fun c17 => And.intro (rfl) (And.intro (((t).2).2 c17).1 (fun z2_0 z2_1 => ((((t).2).2 c17).2) z2_0 z2_1)))))
theorem rnn_1 {P : Int → Prop} (hP : ∀ k, P k → k < 800) {s : Int} (h0 : 0 ≤ s) (h : P s) : rnn P (s + 1) = rnn P s := by
  have q := rnn_RN hP (i := s + 1) (by omega)
  refine rnn_is hP h0 ⟨by have := q.1; omega, fun k a b => ?_, q.2.2⟩
  by_cases w : k = s
  · rw [w]; exact h
  · exact q.2.1 k (by omega) b
def F69 (h g : am_H) : Prop := ∀ x i, ¬ (x = 1 ∧ 6 ≤ i ∧ i ≤ 9) → g x i = h x i
theorem F69_t {h g : am_H} (F : F69 h g) : tpn g 2 (g 1 1) = tpn h 2 (h 1 1) := tpn_fr (fun j => F _ _ (by omega)) (F _ _ (by omega))
theorem L61c {K : Option am_V → am_H → Prop} {h g : am_H} {x : Int} (H : TPB h 2 (h 1 1)) (h0 : 0 ≤ h 1 7 ∧ h 1 7 ≤ 900) (hK : ∀ g, ADV h g → K none g) (F : F69 h g) (e6 : g 1 6 = tks (tpn h 2 (h 1 1)) (h 1 7)) (e7 : g 1 7 = g 1 6 + 1) (ex : x = tpn h 2 (h 1 1) (g 1 6)) : am_AT 3 61 78 [some (mR 1 7 0 1), some (mI x)] g K := by
  have W := TPW_b H
  have s0 := tks_ge W h0.1
  have s1 := tks_le W h0.1
  have tr := tpn_r H (g 1 6)
  rw [← ex] at tr
  rw [e6] at ex
  have F1 : ∀ v, F69 h (am_up g 1 8 v) := fun v x i a => by rw [am_up_n2 (by omega)]; exact F x i a
  have g1 : ∀ v, am_up g 1 8 v 1 6 = tks (tpn h 2 (h 1 1)) (h 1 7) := fun v => by rw [am_up_n2 (by omega)]; exact e6
  have g2 : ∀ v, am_up g 1 8 v 1 7 = tks (tpn h 2 (h 1 1)) (h 1 7) + 1 := fun v => by rw [am_up_n2 (by omega), e7, e6]
  have fin : ∀ g', F69 h g' → g' 1 6 = tks (tpn h 2 (h 1 1)) (h 1 7) → g' 1 8 = tkk (tpn h 2 (h 1 1)) (h 1 7) → g' 1 7 = tke (tpn h 2 (h 1 1)) (h 1 7) → (tkk (tpn h 2 (h 1 1)) (h 1 7) = 2 → g' 1 9 = tkv (tpn h 2 (h 1 1)) (h 1 7)) → K none g' := fun g' F' a b c d => hK g' ⟨F', by
    unfold CTK ctp
    rw [F69_t F']
    exact ⟨⟨a, b⟩, c, d⟩⟩
  refine T61_78 ⟨by omega, ⟨fun c1 => ⟨by omega, ⟨fun c2 => ⟨by omega, ⟨fun c3 => ⟨by omega, ⟨fun c4 => ?_, fun c4 => ?_⟩⟩, fun c3 => ?_⟩⟩, fun c2 => ⟨by
    rw [F69_t (F1 2), g1, g2]
    exact ⟨TPB_fr H (fun j => F1 2 _ _ (by omega)) (F1 2 _ _ (by omega)), by omega, rfl, by unfold dgt; rw [← ex]; exact c2⟩, fun h' q3 => ?_⟩⟩⟩, fun c1 => ⟨by
    have hl := H.1
    rw [g2]
    exact ⟨TPB_fr H (fun j => F1 1 _ _ (by omega)) (F1 1 _ _ (by omega)), by omega⟩, fun h' q2 => ?_⟩⟩⟩
  · have n1 : ¬ ltr (tpn h 2 (h 1 1)) (tks (tpn h 2 (h 1 1)) (h 1 7)) := by unfold ltr; rw [← ex]; exact c1
    have n2 : ¬ dgt (tpn h 2 (h 1 1)) (tks (tpn h 2 (h 1 1)) (h 1 7)) := by unfold dgt; rw [← ex]; exact c2
    have k := tkk_4 n1 n2 (by rw [← ex]; exact c3) (by rw [← ex]; exact c4)
    exact fin _ (F1 4) (g1 4) (by rw [am_up_eq, k]) (by rw [g2, tke_3 n1 n2]) (fun z => by omega)
  · have n1 : ¬ ltr (tpn h 2 (h 1 1)) (tks (tpn h 2 (h 1 1)) (h 1 7)) := by unfold ltr; rw [← ex]; exact c1
    have n2 : ¬ dgt (tpn h 2 (h 1 1)) (tks (tpn h 2 (h 1 1)) (h 1 7)) := by unfold dgt; rw [← ex]; exact c2
    have k := tkk_0 n1 n2 (by rw [← ex]; exact c3) (by rw [← ex]; exact c4)
    exact fin _ (F1 0) (g1 0) (by rw [am_up_eq, k]) (by rw [g2, tke_3 n1 n2]) (fun z => by omega)
  · have n1 : ¬ ltr (tpn h 2 (h 1 1)) (tks (tpn h 2 (h 1 1)) (h 1 7)) := by unfold ltr; rw [← ex]; exact c1
    have n2 : ¬ dgt (tpn h 2 (h 1 1)) (tks (tpn h 2 (h 1 1)) (h 1 7)) := by unfold dgt; rw [← ex]; exact c2
    have k := tkk_3 n1 n2 (by rw [← ex]; exact c3)
    exact fin _ (F1 3) (g1 3) (by rw [am_up_eq, k]) (by rw [g2, tke_3 n1 n2]) (fun z => by omega)
  · have n1 : ¬ ltr (tpn h 2 (h 1 1)) (tks (tpn h 2 (h 1 1)) (h 1 7)) := by unfold ltr; rw [← ex]; exact c1
    have n2 : dgt (tpn h 2 (h 1 1)) (tks (tpn h 2 (h 1 1)) (h 1 7)) := by unfold dgt; rw [← ex]; exact c2
    rw [F69_t (F1 2), g1] at q3
    refine fin h' (fun x i a => by rw [q3.1 x i (by omega)]; exact F1 2 x i a) (by rw [q3.1 _ _ (by omega)]; exact g1 2) (by rw [q3.1 _ _ (by omega), am_up_eq, tkk_2 n1 n2]) (by rw [q3.2.1, tke_2 n1 n2]) (fun _ => ?_)
    unfold tkv
    rw [q3.2.2, tke_2 n1 n2]
  · have n1 : ltr (tpn h 2 (h 1 1)) (tks (tpn h 2 (h 1 1)) (h 1 7)) := by unfold ltr; rw [← ex]; exact c1
    rw [F69_t (F1 1), g2] at q2
    refine fin h' (fun x i a => by rw [q2.1 x i (by omega)]; exact F1 1 x i a) (by rw [q2.1 _ _ (by omega)]; exact g1 1) (by rw [q2.1 _ _ (by omega), am_up_eq, tkk_1 n1]) (by rw [q2.2, tke_1 n1, rnn_1 (ltr_l W) (by omega) n1]) (fun z => by rw [tkk_1 n1] at z; omega)
theorem L61b {K : Option am_V → am_H → Prop} {h : am_H} (H : TPB h 2 (h 1 1)) (h0 : 0 ≤ h 1 7 ∧ h 1 7 ≤ 900) (hK : ∀ g, ADV h g → K none g) : ∀ j, ∀ g : am_H, 0 ≤ j → j ≤ 800 → F69 h g → g 1 6 = h 1 7 + j → (∀ k, h 1 7 ≤ k → k < h 1 7 + j → blk (tpn h 2 (h 1 1)) k) → am_AT 3 61 10 [some (mR 1 7 0 1), some (mI j)] g K := by
  have W := TPW_b H
  refine lp 800 (fun j ih g j0 j1 F e G => ?_)
  have et := F69_t F
  have tb : TPB g 2 (g 1 1) := TPB_fr H (fun j => F _ _ (by omega)) (F _ _ (by omega))
  have fin : ¬ blk (tpn h 2 (h 1 1)) (h 1 7 + j) → am_AT 3 61 59 [some (mR 1 7 0 1), none] g K := fun z => by
    have q : h 1 7 + j = tks (tpn h 2 (h 1 1)) (h 1 7) := rnn_is (blk_l W) h0.1 ⟨by omega, G, z⟩
    have F2 : F69 h (am_up g 1 7 (g 1 6 + 1)) := fun x i a => by rw [am_up_n2 (by omega)]; exact F x i a
    refine T61_59 ⟨by omega, ⟨TPB_fr H (fun j => F2 _ _ (by omega)) (F2 _ _ (by omega)), ?_⟩⟩
    · rw [F69_t F2]
      exact L61c H h0 hK F2 (by rw [am_up_n2 (by omega), e, q]) (by rw [am_up_eq, am_up_n2 (by omega)]) (by rw [am_up_n2 (by omega)])
  have nx : j < 800 → blk (tpn h 2 (h 1 1)) (h 1 7 + j) → am_AT 3 61 10 [some (mR 1 7 0 1), some (mI (j + 1))] (am_up g 1 6 (g 1 6 + 1)) K := fun a z => ih a _ (by omega) (by omega) (fun x i a => by rw [am_up_n2 (by omega)]; exact F x i a) (by rw [am_up_eq]; omega) (fun k a b => by
    by_cases w : k = h 1 7 + j
    · rw [w]; exact z
    · exact G k a (by omega))
  refine T61_10 ⟨by omega, ⟨fun c1 => ?_, fun c1 => ⟨tb, ⟨fun c2 => ⟨by omega, ?_⟩, fun c2 => ⟨tb, ⟨fun c3 => ?_, fun c3 => ⟨by omega, ?_⟩⟩⟩⟩⟩⟩⟩
  · exact fin (fun z => by have := blk_l W _ z; omega)
  · rw [et, e] at c2
    exact nx c1 (Or.inl c2)
  · rw [et, e] at c2 c3
    exact fin (fun z => z.elim c2 c3)
  · rw [et, e] at c3
    exact nx c1 (Or.inr c3)
theorem C61_ok : am_CS 3 61 C61 := W61 (fun h K hb => T61_0 (L61b hb.1.1 hb.1.2 hb.2 0 _ (by omega) (by omega) (fun x i a => by rw [am_up_n2 (by omega)]) (by rw [am_up_eq]; omega) (fun k a b => by omega)))
