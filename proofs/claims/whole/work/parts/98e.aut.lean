/-! ===== symmetries: maps that keep all distances ===== -/
def AU (s : Int) (D : Int → Int → Int) (f : Int → Int) : Prop := (∀ p, 0 ≤ p → p < s → 0 ≤ f p ∧ f p < s) ∧ ∀ p q, (0 ≤ p ∧ p < s) → (0 ≤ q ∧ q < s) → D (f p) (f q) = D p q
def DM (s : Int) (D : Int → Int → Int) : Prop := (0 ≤ s ∧ s ≤ 20) ∧ ∀ p q, (0 ≤ p ∧ p < s) → (0 ≤ q ∧ q < s) → (D p q = 0 ↔ p = q) ∧ D p q = D q p ∧ (0 ≤ D p q ∧ D p q < 20)
section AUT
variable {s : Int} {D : Int → Int → Int} {f g : Int → Int}
theorem AU_id (s : Int) (D : Int → Int → Int) : AU s D (fun x => x) := ⟨fun p a b => ⟨a, b⟩, fun _ _ _ _ => rfl⟩
theorem AU_comp (F : AU s D f) (G : AU s D g) : AU s D (fun x => f (g x)) := ⟨fun p a b => F.1 _ (G.1 p a b).1 (G.1 p a b).2, fun p q a b => (F.2 _ _ (G.1 p a.1 a.2) (G.1 q b.1 b.2)).trans (G.2 p q a b)⟩
theorem AU_inj (M : DM s D) (F : AU s D f) {p q : Int} (hp : 0 ≤ p ∧ p < s) (hq : 0 ≤ q ∧ q < s) (e : f p = f q) : p = q := by
  have a := F.1 p hp.1 hp.2
  have b := F.1 q hq.1 hq.2
  have w := F.2 p q hp hq
  exact (M.2 p q hp hq).1.mp (w.symm.trans ((M.2 _ _ a b).1.mpr e))
theorem AU_cg (F : AU s D f) (e : ∀ p, 0 ≤ p → p < s → g p = f p) : AU s D g := ⟨fun p a b => by rw [e p a b]; exact F.1 p a b, fun p q a b => by rw [e p a.1 a.2, e q b.1 b.2]; exact F.2 p q a b⟩
theorem AU_surj (M : DM s D) (F : AU s D f) {y : Int} (hy : 0 ≤ y ∧ y < s) : ∃ x, (0 ≤ x ∧ x < s) ∧ f x = y := Classical.byContradiction fun no => by
  have ne : ∀ x, 0 ≤ x → x < s → f x ≠ y := fun x a b z => no ⟨x, ⟨a, b⟩, z⟩
  have k := pig (s - 1).toNat s.toNat (fun i => if f (i : Int) < y then f (i : Int) else f (i : Int) - 1) (fun i hi => ?_) (fun i j hi hj e => ?_)
  · omega
  · have a := F.1 (i : Int) (by omega) (by omega)
    have b := ne (i : Int) (by omega) (by omega)
    by_cases c : f (i : Int) < y
    · simp only [c, if_true]; omega
    · simp only [c, if_false]; omega
  · have b1 := ne (i : Int) (by omega) (by omega)
    have b2 := ne (j : Int) (by omega) (by omega)
    have q : f (i : Int) = f (j : Int) := by
      by_cases c : f (i : Int) < y
      · by_cases d : f (j : Int) < y
        · simp only [c, d, if_true] at e; exact e
        · simp only [c, d, if_true, if_false] at e; omega
      · by_cases d : f (j : Int) < y
        · simp only [c, d, if_true, if_false] at e; omega
        · simp only [c, d, if_false] at e; omega
    have := AU_inj M F (p := (i : Int)) (q := (j : Int)) (by omega) (by omega) q
    omega
theorem AU_inv (M : DM s D) (F : AU s D f) : ∃ f' : Int → Int, AU s D f' ∧ (∀ p, 0 ≤ p → p < s → f' (f p) = p) ∧ ∀ p, 0 ≤ p → p < s → f (f' p) = p := by
  have sj : ∀ y : Int, ∃ x, (0 ≤ y ∧ y < s) → (0 ≤ x ∧ x < s) ∧ f x = y := fun y => by
    by_cases c : 0 ≤ y ∧ y < s
    · obtain ⟨x, a, b⟩ := AU_surj M F c
      exact ⟨x, fun _ => ⟨a, b⟩⟩
    · exact ⟨y, fun z => absurd z c⟩
  have c1 : ∀ y, (0 ≤ y ∧ y < s) → (0 ≤ Classical.choose (sj y) ∧ Classical.choose (sj y) < s) ∧ f (Classical.choose (sj y)) = y := fun y => Classical.choose_spec (sj y)
  refine ⟨fun y => Classical.choose (sj y), ⟨fun p a b => (c1 p ⟨a, b⟩).1, fun p q a b => ?_⟩, fun p a b => ?_, fun p a b => (c1 p ⟨a, b⟩).2⟩
  · have w := F.2 _ _ (c1 p a).1 (c1 q b).1
    rw [(c1 p a).2, (c1 q b).2] at w
    exact w.symm
  · have w := c1 (f p) (F.1 p a b)
    exact AU_inj M F w.1 ⟨a, b⟩ w.2
def orbS (s : Int) (D : Int → Int → Int) (k to : Int) : Prop := ∃ f, AU s D f ∧ (∀ j, 0 ≤ j → j < k → f j = j) ∧ f k = to
theorem orbS_self (k : Int) : orbS s D k k := ⟨fun x => x, AU_id s D, fun _ _ _ => rfl, rfl⟩
theorem orbS_r (M : DM s D) {k to : Int} (hk : 0 ≤ k ∧ k < s) (h : orbS s D k to) : k ≤ to ∧ to < s := by
  obtain ⟨f, F, fx, e⟩ := h
  have r := F.1 k hk.1 hk.2
  rw [e] at r
  refine ⟨Classical.byContradiction fun z => ?_, r.2⟩
  have := AU_inj M F (p := to) (q := k) (by omega) hk (by rw [fx to r.1 (by omega), e])
  omega
/-- how many keep all but the last m points where they are -/
noncomputable def lvr (s : Int) (D : Int → Int → Int) : Nat → Int
  | 0 => 1
  | m + 1 => ct (orbS s D (s - (m + 1 : Nat))) 20 * lvr s D m
def fac : Nat → Int
  | 0 => 1
  | m + 1 => (m + 1 : Nat) * fac m
theorem fac_pos : ∀ m, 1 ≤ fac m
  | 0 => by show (1 : Int) ≤ 1; omega
  | m + 1 => by
    have := fac_pos m
    show 1 ≤ ((m + 1 : Nat) : Int) * fac m
    have := Int.mul_le_mul (show (1 : Int) ≤ ((m + 1 : Nat) : Int) by omega) this (by omega) (by omega)
    omega
theorem fac_mono : ∀ m k : Nat, fac m ≤ fac (m + k)
  | m, 0 => by show fac m ≤ fac m; omega
  | m, k + 1 => by
    have a := fac_mono m k
    have b := fac_pos (m + k)
    show fac m ≤ ((m + k + 1 : Nat) : Int) * fac (m + k)
    have := Int.mul_le_mul_of_nonneg_right (show (1 : Int) ≤ ((m + k + 1 : Nat) : Int) by omega) (show 0 ≤ fac (m + k) by omega)
    omega
theorem fac_20 : fac 20 = 2432902008176640000 := by decide
theorem orb_ct (M : DM s D) {k : Int} (hk : 0 ≤ k ∧ k < s) : 1 ≤ ct (orbS s D k) 20 ∧ ct (orbS s D k) 20 ≤ s - k := by
  have l := M.1
  refine ⟨by have := ct_pos (P := orbS s D k) (n := 20) (k := k) hk.1 (by omega) (orbS_self k); omega, ?_⟩
  have w := ct_rel (P := orbS s D k) (Q := fun y => y < s - k) (T := fun x y => y = x - k) (n := 20) (fun x a b h => ?_) (fun x z y _ _ e1 e2 => by omega)
  · rw [ct_lt (by omega)] at w
    rw [if_pos (by omega)] at w
    exact w
  · have := orbS_r M hk h
    exact ⟨x - k, by omega, by omega, rfl⟩
theorem lvr_r (M : DM s D) : ∀ m : Nat, (m : Int) ≤ s → 1 ≤ lvr s D m ∧ lvr s D m ≤ fac m
  | 0, _ => by show (1 : Int) ≤ 1 ∧ (1 : Int) ≤ 1; omega
  | m + 1, h => by
    have a := lvr_r M m (by omega)
    have b := orb_ct (D := D) M (k := s - ((m + 1 : Nat) : Int)) (by omega)
    show 1 ≤ ct (orbS s D (s - (m + 1 : Nat))) 20 * lvr s D m ∧ ct (orbS s D (s - (m + 1 : Nat))) 20 * lvr s D m ≤ ((m + 1 : Nat) : Int) * fac m
    have c1 := Int.mul_le_mul b.1 a.1 (by omega) (by omega)
    have c2 := Int.mul_le_mul (show ct (orbS s D (s - (m + 1 : Nat))) 20 ≤ ((m + 1 : Nat) : Int) by omega) a.2 (by omega) (by omega)
    omega
theorem lvr_64 (M : DM s D) {m : Nat} (h : (m : Int) ≤ s) : 1 ≤ lvr s D m ∧ lvr s D m ≤ 2432902008176640000 := by
  have a := lvr_r (D := D) M m h
  have b := fac_mono m (20 - m)
  have l := M.1
  rw [show m + (20 - m) = 20 by omega, fac_20] at b
  omega
end AUT
/-! a map is looked for -/
def EXt (Dh Dt : Int → Int → Int) (M : Int → Int) (op : Int → Prop) (g : Int → Int) : Prop := (∀ k, op k → bit (M k) (g k)) ∧ ∀ k l, op k → op l → Dt (g k) (g l) = Dh k l
def EXs (Dh Dt : Int → Int → Int) (M : Int → Int) (op : Int → Prop) : Prop := ∃ g, EXt Dh Dt M op g
theorem EXt_cg {Dh Dt : Int → Int → Int} {M M' : Int → Int} {op op' : Int → Prop} {g g' : Int → Int} (ho : ∀ k, op k ↔ op' k) (hm : ∀ k, op k → ∀ x, bit (M k) x ↔ bit (M' k) x) (hg : ∀ k, op k → g k = g' k) : EXt Dh Dt M op g ↔ EXt Dh Dt M' op' g' := by
  constructor
  · intro w
    exact ⟨fun k a => by rw [← hg k ((ho k).mpr a)]; exact (hm k ((ho k).mpr a) _).mp (w.1 k ((ho k).mpr a)), fun k l a b => by rw [← hg k ((ho k).mpr a), ← hg l ((ho l).mpr b)]; exact w.2 k l ((ho k).mpr a) ((ho l).mpr b)⟩
  · intro w
    exact ⟨fun k a => by rw [hg k a]; exact (hm k a _).mpr (w.1 k ((ho k).mp a)), fun k l a b => by rw [hg k a, hg l b]; exact w.2 k l ((ho k).mp a) ((ho l).mp b)⟩
theorem EXs_cg {Dh Dt : Int → Int → Int} {M M' : Int → Int} {op op' : Int → Prop} (ho : ∀ k, op k ↔ op' k) (hm : ∀ k, op k → ∀ x, bit (M k) x ↔ bit (M' k) x) : EXs Dh Dt M op ↔ EXs Dh Dt M' op' := ⟨fun ⟨g, w⟩ => ⟨g, (EXt_cg ho hm (fun _ _ => rfl)).mp w⟩, fun ⟨g, w⟩ => ⟨g, (EXt_cg ho hm (fun _ _ => rfl)).mpr w⟩⟩
section EX
variable {s : Int} {Dh Dt : Int → Int → Int} {M M' : Int → Int} {op : Int → Prop} {w to : Int}
/-- w goes to 'to', the others as a map that is left tells -/
theorem EX_up (Hh : DM s Dh) (Ht : DM s Dt) (ho : ∀ k, op k → 0 ≤ k ∧ k < s) (hm : ∀ k, op k → ∀ x, bit (M k) x → 0 ≤ x ∧ x < s) (hw : op w) (hb : bit (M w) to) (h' : ∀ k, op k → k ≠ w → ∀ x, bit (M' k) x → bit (M k) x ∧ Dt to x = Dh w k) {g' g : Int → Int} (G : EXt Dh Dt M' (fun k => op k ∧ k ≠ w) g') (ew : g w = to) (eg : ∀ k, op k → k ≠ w → g k = g' k) : EXt Dh Dt M op g := by
  have rt := hm w hw to hb
  refine ⟨fun k a => ?_, fun k l a b => ?_⟩
  · by_cases c : k = w
    · rw [c, ew]; exact hb
    · rw [eg k a c]; exact (h' k a c _ (G.1 k ⟨a, c⟩)).1
  · by_cases c : k = w
    · by_cases d : l = w
      · rw [c, d, ew, (Ht.2 to to rt rt).1.mpr rfl, (Hh.2 w w (ho w hw) (ho w hw)).1.mpr rfl]
      · rw [c, ew, eg l b d]; exact (h' l b d _ (G.1 l ⟨b, d⟩)).2
    · have rk := hm k a _ (h' k a c _ (G.1 k ⟨a, c⟩)).1
      by_cases d : l = w
      · rw [d, ew, eg k a c, (Ht.2 _ _ rk rt).2.1, (Hh.2 k w (ho k a) (ho w hw)).2.1]
        exact (h' k a c _ (G.1 k ⟨a, c⟩)).2
      · rw [eg k a c, eg l b d]; exact G.2 k l ⟨a, c⟩ ⟨b, d⟩
theorem EX_dn (hw : op w) (h' : ∀ k, op k → k ≠ w → ∀ x, bit (M k) x ∧ Dt to x = Dh w k → bit (M' k) x) {g : Int → Int} (G : EXt Dh Dt M op g) (e : g w = to) : EXt Dh Dt M' (fun k => op k ∧ k ≠ w) g :=
  ⟨fun k a => h' k a.1 a.2 _ ⟨G.1 k a.1, by rw [← e]; exact G.2 w k hw a.1⟩, fun k l a b => G.2 k l a.1 b.1⟩
end EX
theorem DM_ds {n : Int} {r : Int → Int} (hN : NT n r) (hC : CN n r) : DM n (ds (ad r)) := ⟨⟨hN.1, hN.2.1⟩, fun p q hp hq => by
  have c := CN_rc hN hC hp hq
  have b := ds_r hN hC hp hq
  have := hN.2.1
  exact ⟨⟨fun z => ds_z c z, fun z => by rw [z]; exact ds_0⟩, ds_comm (NT_sym hN), by omega⟩⟩
theorem AU_ad {n : Int} {r : Int → Int} (hN : NT n r) (hC : CN n r) {f : Int → Int} (F : AU n (ds (ad r)) f) {p q : Int} (hp : 0 ≤ p ∧ p < n) (hq : 0 ≤ q ∧ q < n) : ad r (f p) (f q) ↔ ad r p q := by
  have key : ∀ a b, (0 ≤ a ∧ a < n) → (0 ≤ b ∧ b < n) → (ad r a b ↔ ds (ad r) a b = 1) := fun a b ha hb => ⟨fun z => ds_1 z (hN.2.2 a b z).2.2.1, fun z => ds_1e (CN_rc hN hC ha hb) z⟩
  rw [key _ _ (F.1 p hp.1 hp.2) (F.1 q hq.1 hq.2), key p q hp hq, F.2 p q hp hq]
/-- a set that symmetries keep: as many neighbours in it for each of an orbit -/
theorem AU_nb {n : Int} {r : Int → Int} (hN : NT n r) (hC : CN n r) {S : Int → Prop} (hS : ∀ f, AU n (ds (ad r)) f → ∀ q, 0 ≤ q → q < n → S q → S (f q)) {f : Int → Int} (F : AU n (ds (ad r)) f) {p : Int} (hp : 0 ≤ p ∧ p < n) : ct (fun q => ad r (f p) q ∧ S q) 20 = ct (fun q => ad r p q ∧ S q) 20 := by
  have M := DM_ds hN hC
  have l := hN.2.1
  have le : ∀ g : Int → Int, AU n (ds (ad r)) g → ∀ p, (0 ≤ p ∧ p < n) → ct (fun q => ad r p q ∧ S q) 20 ≤ ct (fun q => ad r (g p) q ∧ S q) 20 := fun g G p hp =>
    ct_rel (T := fun x y => y = g x ∧ 0 ≤ x ∧ x < n) (fun x a b z => by
      have i := NT_in hN z.1
      have w := G.1 x i.2.1 i.2.2
      exact ⟨g x, by omega, ⟨(AU_ad hN hC G hp i.2).mpr z.1, hS g G x i.2.1 i.2.2 z.2⟩, rfl, i.2⟩) (fun x z y _ _ e1 e2 => AU_inj M G e1.2 e2.2 (e1.1.symm.trans e2.1))
  obtain ⟨f', F', e1, e2⟩ := AU_inv M F
  have a := le f F p hp
  have b := le f' F' (f p) (F.1 p hp.1 hp.2)
  rw [e1 p hp.1 hp.2] at b
  omega
