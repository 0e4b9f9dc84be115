/-! ===== the reference: kinds ===== -/
def fD (h : am_H) (q i k : Int) : Int := h q (20 * i + k)
def ISO (s : Int) (Dh Dt : Int → Int → Int) (g : Int → Int) : Prop := (∀ p, 0 ≤ p → p < s → 0 ≤ g p ∧ g p < s) ∧ ∀ p q, (0 ≤ p ∧ p < s) → (0 ≤ q ∧ q < s) → Dt (g p) (g q) = Dh p q
theorem ISO_AU (s : Int) (D : Int → Int → Int) (g : Int → Int) : ISO s D D g ↔ AU s D g := Iff.rfl
theorem ISO_inj {s : Int} {Dh Dt : Int → Int → Int} (Mh : DM s Dh) (Mt : DM s Dt) {g : Int → Int} (G : ISO s Dh Dt g) {p q : Int} (hp : 0 ≤ p ∧ p < s) (hq : 0 ≤ q ∧ q < s) (e : g p = g q) : p = q :=
  (Mh.2 p q hp hq).1.mp ((G.2 p q hp hq).symm.trans ((Mt.2 _ _ (G.1 p hp.1 hp.2) (G.1 q hq.1 hq.2)).1.mpr e))
def GS (h : am_H) : Prop := DM (h 571 30) (fD h 588) ∧ DM (h 571 30) (fD h 589)
def KND (h : am_H) : Prop := ∀ g, ISO (h 571 30) (fD h 588) (fD h 589) g → ∀ i, 0 ≤ i → i < h 571 30 → h 591 i = h 591 (20 + g i)
def KNr (h : am_H) : Prop := ∀ x, 0 ≤ x → x < 40 → 0 ≤ h 591 x ∧ h 591 x < 40
def SPH (h : am_H) : Prop := ∀ a d, (0 ≤ a ∧ a < h 571 30) → (0 ≤ d ∧ d < 20) → h 594 (20 * a + d) = mkb (fun b => b < h 571 30 ∧ fD h 589 a b = d)
theorem lst_z {P : Int → Prop} : ∀ (m : Nat) (x : Int), 0 ≤ x → x < m → P x → ∃ z, 0 ≤ z ∧ P z ∧ ∀ y, 0 ≤ y → y < z → ¬ P y
  | 0, x, a, b, _ => absurd b (by omega)
  | m + 1, x, a, b, p => by
    by_cases c : ∃ y, (0 ≤ y ∧ y < x) ∧ P y
    · obtain ⟨y, hy, q⟩ := c
      exact lst_z m y hy.1 (by omega) q
    · exact ⟨x, a, p, fun y u v w => c ⟨y, ⟨u, v⟩, w⟩⟩
theorem ct_ssr {P Q : Int → Prop} {a : Int} (n : Nat) (h0 : 0 ≤ a) (h1 : a < n) (hp : ¬ P a) (hq : Q a) (h : ∀ k, 0 ≤ k → k < (n : Int) → P k → Q k) : ct P n + 1 ≤ ct Q n := by
  have e := ct_congr (P := P) (Q := fun k => (0 ≤ k ∧ k < (n : Int)) ∧ P k) n (fun k hk => ⟨fun w => ⟨by omega, w⟩, fun w => w.2⟩)
  rw [e]
  exact ct_ss n h0 h1 (fun w => hp w.2) hq (fun k w => h k w.1.1 w.1.2 w.2)
theorem LKR_of {h : am_H} (G : GS h) (K : KNr h) {x : Int} (hx : 0 ≤ x ∧ x < 40) (ha : ATH h x) : LKR h x := fun k k0 k1 => by
  unfold its R32
  unfold ATH at ha
  have s := G.1.1
  rcases lkb_q x with ⟨a, b, c⟩ | ⟨a, b, c⟩
  · rw [b, c]
    rw [b] at ha
    have w := (G.1.2 (x - 0) k (by omega) ⟨k0, k1⟩).2.2
    have z := K (0 + k) (by omega) (by omega)
    unfold fD at w
    omega
  · rw [b, c]
    rw [b] at ha
    have w := (G.2.2 (x - 20) k (by omega) ⟨k0, k1⟩).2.2
    have z := K (20 + k) (by omega) (by omega)
    unfold fD at w
    omega
def NK (g : am_H) (x lo v : Int) : Prop := (¬ ATH g x → v = x) ∧ (ATH g x → ((lo ≤ v ∧ v ≤ x) ∧ ATH g v ∧ SEE g x v) ∧ ∀ y, lo ≤ y → y < v → ATH g y → ¬ SEE g x y)
def LKA (g0 g : am_H) (m : Int) : Prop := ∀ x, 0 ≤ x → x < m → ATH g0 x → LKS g0 g x
def RND (g0 g2 : am_H) : Prop := ∃ g1 : am_H, (∀ x i, ¬ (592 ≤ x ∧ x ≤ 593) → g1 x i = g0 x i) ∧ LKA g0 g1 40 ∧ (∀ x i, ¬ (591 ≤ x ∧ x ≤ 593) → g2 x i = g0 x i) ∧ ∀ x, 0 ≤ x → x < 40 → NK g1 x 0 (g2 591 x)
def MOR (g : am_H) (k1 : Int → Int) : Prop := ∃ x y, (0 ≤ y ∧ y < x ∧ x < 40) ∧ (ATH g x ∧ ATH g y) ∧ g 591 x = g 591 y ∧ k1 x ≠ k1 y
noncomputable def cls (g : am_H) : Int := ct (fun x => ATH g x ∧ ∀ y, 0 ≤ y → y < x → ATH g y → g 591 y ≠ g 591 x) 40
theorem SEE_s {g : am_H} {x y : Int} (h : SEE g x y) : SEE g y x := ⟨h.1.symm, fun k a b => (h.2 k a b).symm⟩
theorem SEE_t {g : am_H} {x y z : Int} (h : SEE g x y) (h2 : SEE g y z) : SEE g x z := ⟨h.1.trans h2.1, fun k a b => (h.2 k a b).trans (h2.2 k a b)⟩
theorem NK_eq {g : am_H} {x y v w : Int} (A : NK g x 0 v) (B : NK g y 0 w) (ha : ATH g x) (hb : ATH g y) : v = w ↔ SEE g x y := by
  have a := A.2 ha
  have b := B.2 hb
  constructor
  · intro e
    exact SEE_t a.1.2.2 (e ▸ SEE_s b.1.2.2)
  · intro s
    refine Classical.byContradiction fun n => ?_
    by_cases c : v < w
    · exact b.2 v a.1.1.1 c a.1.2.1 (SEE_t (SEE_s s) a.1.2.2)
    · exact a.2 w b.1.1.1 (by omega) b.1.2.1 (SEE_t s b.1.2.2)
theorem RND_ok {g0 g2 : am_H} (G : GS g0) (K : KND g0) (H : RND g0 g2) : (GS g2 ∧ KND g2 ∧ KNr g2) ∧ (MOR g0 (g2 591) → cls g0 + 1 ≤ cls g2) := by
  obtain ⟨g1, F1, LA, F2, N⟩ := H
  have e1 : g1 571 30 = g0 571 30 := F1 _ _ (by omega)
  have e2 : g2 571 30 = g0 571 30 := F2 _ _ (by omega)
  have d8 : fD g2 588 = fD g0 588 := by funext i k; exact F2 _ _ (by omega)
  have d9 : fD g2 589 = fD g0 589 := by funext i k; exact F2 _ _ (by omega)
  have at1 : ∀ x, ATH g1 x ↔ ATH g0 x := fun x => by unfold ATH; rw [e1]
  have at2 : ∀ x, ATH g2 x ↔ ATH g0 x := fun x => by unfold ATH; rw [e2]
  have hs := G.1.1
  have eq : ∀ x y, (0 ≤ x ∧ x < 40) → (0 ≤ y ∧ y < 40) → ATH g0 x → ATH g0 y → (g2 591 x = g2 591 y ↔ SEE g1 x y) := fun x y hx hy ax ay => NK_eq (N x hx.1 hx.2) (N y hy.1 hy.2) ((at1 x).mpr ax) ((at1 y).mpr ay)
  have rf : ∀ x y, (0 ≤ x ∧ x < 40) → (0 ≤ y ∧ y < 40) → ATH g0 x → ATH g0 y → g2 591 x = g2 591 y → g0 591 x = g0 591 y := fun x y hx hy ax ay e => by
    have s := ((eq x y hx hy ax ay).mp e).1
    rw [F1 _ _ (by omega), F1 _ _ (by omega)] at s
    exact s
  refine ⟨⟨?_, fun f I i i0 i1 => ?_, fun x a b => ?_⟩, fun ⟨x, y, hxy, ⟨ax, ay⟩, e0, ne⟩ => ?_⟩
  · unfold GS; rw [e2, d8, d9]; exact G
  · rw [e2, d8, d9] at I
    rw [e2] at i1
    have fi := I.1 i i0 i1
    have ai : ATH g0 i := by unfold ATH; rw [lkb_0 (by omega)]; omega
    have aj : ATH g0 (20 + f i) := by unfold ATH; rw [lkb_1 (by omega)]; omega
    refine (eq i (20 + f i) (by omega) (by omega) ai aj).mpr ⟨?_, ?_⟩
    · rw [F1 _ _ (by omega), F1 _ _ (by omega)]
      exact K f I i i0 i1
    · rw [e1]
      have A := LA i i0 (by omega) ai
      have B := LA (20 + f i) (by omega) (by omega) aj
      refine fun k a b => SRTD_eq A.1 B.1 (fun v => ?_) a b
      rw [A.2 v, B.2 v]
      have ei : ∀ k, 0 ≤ k → k < g0 571 30 → its g0 (20 + f i) (f k) = its g0 i k := fun k a b => by
        unfold its
        rw [lkb_1 (by omega), lkq_1 (by omega), lkb_0 (by omega), lkq_0 (by omega)]
        have t := I.2 i k ⟨i0, i1⟩ ⟨a, b⟩
        have u := K f I k a b
        unfold fD at t
        rw [show 20 * (20 + f i - 20) + f k = 20 * f i + f k by omega, t, ← u, show 20 * (i - 0) + k = 20 * i + k by omega, show 0 + k = k by omega]
      have inj : ∀ p q m, (m = f p ∧ 0 ≤ p ∧ p < g0 571 30) → (m = f q ∧ 0 ≤ q ∧ q < g0 571 30) → p = q := fun p q m u v => ISO_inj G.1 G.2 I u.2 v.2 (u.1.symm.trans v.1)
      have c1 := ct_rel (P := fun k => its g0 i k ≤ v) (Q := fun k => its g0 (20 + f i) k ≤ v) (T := fun k m => m = f k ∧ 0 ≤ k ∧ k < g0 571 30) (n := (g0 571 30).toNat) (fun k a b w => by
        have r := I.1 k a (by omega)
        exact ⟨f k, by omega, by show its g0 (20 + f i) (f k) ≤ v; rw [ei k a (by omega)]; exact w, rfl, a, by omega⟩) (fun p q m _ _ u w => inj p q m u w)
      have c2 := ct_rel (P := fun k => ¬ its g0 i k ≤ v) (Q := fun k => ¬ its g0 (20 + f i) k ≤ v) (T := fun k m => m = f k ∧ 0 ≤ k ∧ k < g0 571 30) (n := (g0 571 30).toNat) (fun k a b w => by
        have r := I.1 k a (by omega)
        exact ⟨f k, by omega, by show ¬ its g0 (20 + f i) (f k) ≤ v; rw [ei k a (by omega)]; exact w, rfl, a, by omega⟩) (fun p q m _ _ u w => inj p q m u w)
      rw [ct_not, ct_not] at c2
      omega
  · have n := N x a b
    by_cases c : ATH g1 x
    · have := (n.2 c).1.1; omega
    · have := n.1 c; omega
  · -- one class more
    obtain ⟨m, m0, ⟨am, em⟩, ml⟩ := lst_z (P := fun z => ATH g0 z ∧ g0 591 z = g0 591 x) (x + 1).toNat x (by omega) (by omega) ⟨ax, rfl⟩
    have mx : m ≤ x := Classical.byContradiction fun z => ml x (by omega) (by omega) ⟨ax, rfl⟩
    have ex : ∃ z, (0 ≤ z ∧ z < 40) ∧ ATH g0 z ∧ g0 591 z = g0 591 x ∧ g2 591 z ≠ g2 591 m := by
      by_cases c : g2 591 x = g2 591 m
      · exact ⟨y, by omega, ay, e0.symm, fun z => ne (c.trans z.symm)⟩
      · exact ⟨x, by omega, ax, rfl, c⟩
    obtain ⟨z', hz', az', kz', nz'⟩ := ex
    obtain ⟨z, z0, ⟨hz, az, kz, nz⟩, zl⟩ := lst_z (P := fun z => z < 40 ∧ ATH g0 z ∧ g0 591 z = g0 591 x ∧ g2 591 z ≠ g2 591 m) (z' + 1).toNat z' hz'.1 (by omega) ⟨hz'.2, az', kz', nz'⟩
    have mz : m < z := Classical.byContradiction fun q => by
      have : z ≠ m := fun e => nz (by rw [e])
      exact ml z z0 (by omega) ⟨az, kz⟩
    unfold cls
    refine ct_ssr (a := z) 40 z0 (by omega) (fun q => q.2 m m0 mz am (em.trans kz.symm)) ⟨(at2 z).mpr az, fun y' u v w e => ?_⟩ (fun k k0 k1 q => ⟨(at2 k).mpr q.1, fun y' u v w e => q.2 y' u v ((at2 y').mp w) (rf y' k ⟨u, by omega⟩ ⟨k0, k1⟩ ((at2 y').mp w) q.1 e)⟩)
    have aw := (at2 y').mp w
    have k0' := rf y' z ⟨u, by omega⟩ ⟨z0, hz⟩ aw az e
    by_cases c : g2 591 y' = g2 591 m
    · exact nz (e.symm.trans c)
    · exact zl y' u v ⟨by omega, aw, k0'.trans kz, c⟩
/-! 260 FactorNetsModel.laysKinds -/
def C260 : am_K := fun as h K => am_a1 as (fun v0 => am_oc 12 571 v0 ((GS h) ∧ (∀ (h' : am_H), ((∀ x9 i9, ¬ (591 ≤ x9 ∧ x9 ≤ 594) → h' x9 i9 = h x9 i9) ∧ KND h' ∧ SPH h') → K (none) (h'))))
theorem W260 {d : Nat} (H : ∀  (h : am_H) (K : Option am_V → am_H → Prop), (GS h) ∧ (∀ (h' : am_H), ((∀ x9 i9, ¬ (591 ≤ x9 ∧ x9 ≤ 594) → h' x9 i9 = h x9 i9) ∧ KND h' ∧ SPH h') → K (none) (h')) → am_AT d 260 0 [some (mR 1 12 0 571), none, none, none] h K) : am_CS d 260 C260 := by
  refine am_CS_of (T := tb260) (mL := 4) (rk := 0) rfl (fun as h K hC => ?_)
  obtain ⟨v0, rfl, hC0⟩ := am_a1_e hC
  obtain ⟨e0, hC1⟩ := am_oc_e hC0
  subst e0
  refine ⟨Nat.le_of_ble_eq_true rfl, ?_⟩
  exact H  h K hC1
theorem T260_0 {R : Option am_V → am_H → Prop} {h : am_H} (t : am_AT 2 260 2 [some (mR 1 12 0 571), some (mI 0), none, none] h R) : am_AT 2 260 0 [some (mR 1 12 0 571), none, none, none] h R :=
  am_T (d := 1) (m := 260) (T := tb260) (mL := 4) (rk := 0) (cuts := [(2, [1, 2, 0, 0]), (23, [1, 2, 0, 0]), (31, [1, 2, 2, 0]), (58, [1, 2, 2, 0]), (75, [1, 2, 2, 2]), (134, [1, 2, 2, 0]), (142, [1, 2, 2, 2]), (217, [1, 2, 2, 0]), (246, [1, 0, 2, 0]), (268, [1, 0, 2, 0]), (278, [1, 0, 2, 2])]) (l := [(257, C257), (258, C258), (259, C259)]) rfl ⟨am_CS_d (by decide) C257_ok, am_CS_d (by decide) C258_ok, am_CS_d (by decide) C259_ok, trivial⟩ 6 (t)
theorem T260_2 {R : Option am_V → am_H → Prop} {h : am_H} {x1 : Int} (t : (R32 x1) ∧ (((40 ≤ x1) → (am_AT 2 260 23 [some (mR 1 12 0 571), some (mI 1), none, none] h R)) ∧ ((x1 < 40) → ((0 ≤ x1 ∧ x1 < 40) ∧ (am_AT 2 260 2 [some (mR 1 12 0 571), some (mI (x1 + 1)), none, none] (am_up h 591 x1 0) R))))) : am_AT 2 260 2 [some (mR 1 12 0 571), some (mI x1), none, none] h R :=
  am_T (d := 1) (m := 260) (T := tb260) (mL := 4) (rk := 0) (cuts := [(2, [1, 2, 0, 0]), (23, [1, 2, 0, 0]), (31, [1, 2, 2, 0]), (58, [1, 2, 2, 0]), (75, [1, 2, 2, 2]), (134, [1, 2, 2, 0]), (142, [1, 2, 2, 2]), (217, [1, 2, 2, 0]), (246, [1, 0, 2, 0]), (268, [1, 0, 2, 0]), (278, [1, 0, 2, 2])]) (l := [(257, C257), (258, C258), (259, C259)]) rfl ⟨am_CS_d (by decide) C257_ok, am_CS_d (by decide) C258_ok, am_CS_d (by decide) C259_ok, trivial⟩ 14 (And.intro (t).1 (And.intro (fun c1 => ((t).2).1 c1) (fun c1 => And.intro (((t).2).2 c1).1 ((((t).2).2 c1).2))))
theorem T260_23 {R : Option am_V → am_H → Prop} {h : am_H} {x1 : Int} (t : (R32 x1) ∧ (((x1 = 0) → (am_AT 2 260 246 [some (mR 1 12 0 571), none, some (mI 0), none] h R)) ∧ ((¬ x1 = 0) → (am_AT 2 260 31 [some (mR 1 12 0 571), some (mI 0), some (mI 0), none] h R)))) : am_AT 2 260 23 [some (mR 1 12 0 571), some (mI x1), none, none] h R :=
  am_T (d := 1) (m := 260) (T := tb260) (mL := 4) (rk := 0) (cuts := [(2, [1, 2, 0, 0]), (23, [1, 2, 0, 0]), (31, [1, 2, 2, 0]), (58, [1, 2, 2, 0]), (75, [1, 2, 2, 2]), (134, [1, 2, 2, 0]), (142, [1, 2, 2, 2]), (217, [1, 2, 2, 0]), (246, [1, 0, 2, 0]), (268, [1, 0, 2, 0]), (278, [1, 0, 2, 2])]) (l := [(257, C257), (258, C258), (259, C259)]) rfl ⟨am_CS_d (by decide) C257_ok, am_CS_d (by decide) C258_ok, am_CS_d (by decide) C259_ok, trivial⟩ 10 (And.intro (t).1 (And.intro (fun c2 => ((t).2).1 c2) (fun c2 => ((t).2).2 c2)))
theorem T260_31 {R : Option am_V → am_H → Prop} {h : am_H} {x1 : Int} {x2 : Int} (t : (R32 x2) ∧ (((40 ≤ x2) → (am_AT 2 260 58 [some (mR 1 12 0 571), some (mI x1), some (mI 0), none] h R)) ∧ ((x2 < 40) → ((R32 x2) ∧ ((0 ≤ x2 ∧ x2 < 40) ∧ (((¬ (ATH h x2)) → (am_AT 2 260 31 [some (mR 1 12 0 571), some (mI x1), some (mI (x2 + 1)), none] h R)) ∧ ((ATH h x2) → ((R32 x2) ∧ (((0 ≤ (h 571 30) ∧ (h 571 30) ≤ 20) ∧ (0 ≤ x2 ∧ x2 < 40) ∧ x2 - (lkb x2) < (h 571 30) ∧ LKR h x2) ∧ (∀ (h' : am_H), (((∀ x9 i9, ¬ (x9 = 593 ∧ 20 * x2 ≤ i9 ∧ i9 < 20 * x2 + 20) → h' x9 i9 = h x9 i9) ∧ LKS h h' x2)) → (am_AT 2 260 31 [some (mR 1 12 0 571), some (mI x1), some (mI (x2 + 1)), none] h' R))))))))))) : am_AT 2 260 31 [some (mR 1 12 0 571), some (mI x1), some (mI x2), none] h R :=
  am_T (d := 1) (m := 260) (T := tb260) (mL := 4) (rk := 0) (cuts := [(2, [1, 2, 0, 0]), (23, [1, 2, 0, 0]), (31, [1, 2, 2, 0]), (58, [1, 2, 2, 0]), (75, [1, 2, 2, 2]), (134, [1, 2, 2, 0]), (142, [1, 2, 2, 2]), (217, [1, 2, 2, 0]), (246, [1, 0, 2, 0]), (268, [1, 0, 2, 0]), (278, [1, 0, 2, 2])]) (l := [(257, C257), (258, C258), (259, C259)]) rfl ⟨am_CS_d (by decide) C257_ok, am_CS_d (by decide) C258_ok, am_CS_d (by decide) C259_ok, trivial⟩ 16 (And.intro (t).1 (And.intro (fun c3 => ((t).2).1 c3) (fun c3 => And.intro (((t).2).2 c3).1 (And.intro (rfl) (And.intro ((((t).2).2 c3).2).1 (And.intro (fun c4 => (((((t).2).2 c3).2).2).1 c4) (fun c4 => And.intro ((((((t).2).2 c3).2).2).2 c4).1 (And.intro (rfl) (And.intro (((((((t).2).2 c3).2).2).2 c4).2).1 (fun z1_0 z1_1 => ((((((((t).2).2 c3).2).2).2 c4).2).2) z1_0 z1_1))))))))))
theorem T260_58 {R : Option am_V → am_H → Prop} {h : am_H} {x1 : Int} {x2 : Int} (t : (R32 x2) ∧ (((40 ≤ x2) → (am_AT 2 260 134 [some (mR 1 12 0 571), some (mI x1), some (mI 0), none] h R)) ∧ ((x2 < 40) → ((0 ≤ x2 ∧ x2 < 40) ∧ ((R32 x2) ∧ (am_AT 2 260 75 [some (mR 1 12 0 571), some (mI x1), some (mI x2), some (mI (x2 - 1))] (am_up h 592 x2 x2) R)))))) : am_AT 2 260 58 [some (mR 1 12 0 571), some (mI x1), some (mI x2), none] h R :=
  am_T (d := 1) (m := 260) (T := tb260) (mL := 4) (rk := 0) (cuts := [(2, [1, 2, 0, 0]), (23, [1, 2, 0, 0]), (31, [1, 2, 2, 0]), (58, [1, 2, 2, 0]), (75, [1, 2, 2, 2]), (134, [1, 2, 2, 0]), (142, [1, 2, 2, 2]), (217, [1, 2, 2, 0]), (246, [1, 0, 2, 0]), (268, [1, 0, 2, 0]), (278, [1, 0, 2, 2])]) (l := [(257, C257), (258, C258), (259, C259)]) rfl ⟨am_CS_d (by decide) C257_ok, am_CS_d (by decide) C258_ok, am_CS_d (by decide) C259_ok, trivial⟩ 16 (And.intro (t).1 (And.intro (fun c5 => ((t).2).1 c5) (fun c5 => And.intro (((t).2).2 c5).1 (And.intro ((((t).2).2 c5).2).1 (((((t).2).2 c5).2).2)))))
theorem T260_75 {R : Option am_V → am_H → Prop} {h : am_H} {x1 : Int} {x2 : Int} {x3 : Int} (t : (R32 x3) ∧ (((x3 < 0) → (am_AT 2 260 58 [some (mR 1 12 0 571), some (mI x1), some (mI (x2 + 1)), none] h R)) ∧ ((0 ≤ x3) → ((R32 x2) ∧ ((0 ≤ x2 ∧ x2 < 40) ∧ (((¬ (ATH h x2)) → (am_AT 2 260 58 [some (mR 1 12 0 571), some (mI x1), some (mI (x2 + 1)), none] h R)) ∧ ((ATH h x2) → ((R32 x3) ∧ ((0 ≤ x3 ∧ x3 < 40) ∧ (((¬ (ATH h x3)) → ((0 ≤ x2 ∧ x2 < 40) ∧ ((0 ≤ x2 ∧ x2 < 40) ∧ (am_AT 2 260 75 [some (mR 1 12 0 571), some (mI x1), some (mI x2), some (mI (x3 + (-1)))] (am_up h 592 x2 (h 592 x2)) R)))) ∧ ((ATH h x3) → ((R32 x2) ∧ ((R32 x3) ∧ (((0 ≤ (h 571 30) ∧ (h 571 30) ≤ 20) ∧ (0 ≤ x2 ∧ x2 < 40) ∧ (0 ≤ x3 ∧ x3 < 40)) ∧ (((¬ (SEE h x2 x3)) → ((0 ≤ x2 ∧ x2 < 40) ∧ ((0 ≤ x2 ∧ x2 < 40) ∧ (am_AT 2 260 75 [some (mR 1 12 0 571), some (mI x1), some (mI x2), some (mI (x3 + (-1)))] (am_up h 592 x2 (h 592 x2)) R)))) ∧ ((SEE h x2 x3) → ((0 ≤ x2 ∧ x2 < 40) ∧ ((R32 x3) ∧ (am_AT 2 260 75 [some (mR 1 12 0 571), some (mI x1), some (mI x2), some (mI (x3 + (-1)))] (am_up h 592 x2 x3) R))))))))))))))))))) : am_AT 2 260 75 [some (mR 1 12 0 571), some (mI x1), some (mI x2), some (mI x3)] h R :=
  am_T (d := 1) (m := 260) (T := tb260) (mL := 4) (rk := 0) (cuts := [(2, [1, 2, 0, 0]), (23, [1, 2, 0, 0]), (31, [1, 2, 2, 0]), (58, [1, 2, 2, 0]), (75, [1, 2, 2, 2]), (134, [1, 2, 2, 0]), (142, [1, 2, 2, 2]), (217, [1, 2, 2, 0]), (246, [1, 0, 2, 0]), (268, [1, 0, 2, 0]), (278, [1, 0, 2, 2])]) (l := [(257, C257), (258, C258), (259, C259)]) rfl ⟨am_CS_d (by decide) C257_ok, am_CS_d (by decide) C258_ok, am_CS_d (by decide) C259_ok, trivial⟩ 29 (And.intro (t).1 (And.intro (fun c6 => ((t).2).1 c6) (fun c6 => And.intro (((t).2).2 c6).1 (And.intro (rfl) (And.intro ((((t).2).2 c6).2).1 (And.intro (fun c7 => (((((t).2).2 c6).2).2).1 c7) (fun c7 => And.intro ((((((t).2).2 c6).2).2).2 c7).1 (And.intro (rfl) (And.intro (((((((t).2).2 c6).2).2).2 c7).2).1 (And.intro (fun c8 => And.intro (((((((((t).2).2 c6).2).2).2 c7).2).2).1 c8).1 (And.intro ((((((((((t).2).2 c6).2).2).2 c7).2).2).1 c8).2).1 (((((((((((t).2).2 c6).2).2).2 c7).2).2).1 c8).2).2))) (fun c8 => And.intro (((((((((t).2).2 c6).2).2).2 c7).2).2).2 c8).1 (And.intro ((((((((((t).2).2 c6).2).2).2 c7).2).2).2 c8).2).1 (And.intro (rfl) (And.intro (((((((((((t).2).2 c6).2).2).2 c7).2).2).2 c8).2).2).1 (And.intro (fun c9 => And.intro (((((((((((((t).2).2 c6).2).2).2 c7).2).2).2 c8).2).2).2).1 c9).1 (And.intro ((((((((((((((t).2).2 c6).2).2).2 c7).2).2).2 c8).2).2).2).1 c9).2).1 (((((((((((((((t).2).2 c6).2).2).2 c7).2).2).2 c8).2).2).2).1 c9).2).2))) (fun c9 => And.intro (((((((((((((t).2).2 c6).2).2).2 c7).2).2).2 c8).2).2).2).2 c9).1 (And.intro ((((((((((((((t).2).2 c6).2).2).2 c7).2).2).2 c8).2).2).2).2 c9).2).1 (((((((((((((((t).2).2 c6).2).2).2 c7).2).2).2 c8).2).2).2).2 c9).2).2))))))))))))))))))
theorem T260_134 {R : Option am_V → am_H → Prop} {h : am_H} {x1 : Int} {x2 : Int} (t : (R32 x2) ∧ (((40 ≤ x2) → (am_AT 2 260 217 [some (mR 1 12 0 571), some (mI x1), some (mI 0), none] h R)) ∧ ((x2 < 40) → (am_AT 2 260 142 [some (mR 1 12 0 571), some (mI x1), some (mI x2), some (mI 0)] h R)))) : am_AT 2 260 134 [some (mR 1 12 0 571), some (mI x1), some (mI x2), none] h R :=
  am_T (d := 1) (m := 260) (T := tb260) (mL := 4) (rk := 0) (cuts := [(2, [1, 2, 0, 0]), (23, [1, 2, 0, 0]), (31, [1, 2, 2, 0]), (58, [1, 2, 2, 0]), (75, [1, 2, 2, 2]), (134, [1, 2, 2, 0]), (142, [1, 2, 2, 2]), (217, [1, 2, 2, 0]), (246, [1, 0, 2, 0]), (268, [1, 0, 2, 0]), (278, [1, 0, 2, 2])]) (l := [(257, C257), (258, C258), (259, C259)]) rfl ⟨am_CS_d (by decide) C257_ok, am_CS_d (by decide) C258_ok, am_CS_d (by decide) C259_ok, trivial⟩ 9 (And.intro (t).1 (And.intro (fun c10 => ((t).2).1 c10) (fun c10 => ((t).2).2 c10)))
theorem T260_142 {R : Option am_V → am_H → Prop} {h : am_H} {x1 : Int} {x2 : Int} {x3 : Int} (t : (R32 x3) ∧ ((R32 x2) ∧ (((x2 ≤ x3) → (am_AT 2 260 134 [some (mR 1 12 0 571), some (mI x1), some (mI (x2 + 1)), none] h R)) ∧ ((x3 < x2) → ((R32 x1) ∧ (((¬ x1 = 0) → (am_AT 2 260 142 [some (mR 1 12 0 571), some (mI 1), some (mI x2), some (mI (x3 + 1))] h R)) ∧ ((x1 = 0) → ((R32 x2) ∧ ((0 ≤ x2 ∧ x2 < 40) ∧ (((¬ (ATH h x2)) → (am_AT 2 260 142 [some (mR 1 12 0 571), some (mI 0), some (mI x2), some (mI (x3 + 1))] h R)) ∧ ((ATH h x2) → ((R32 x3) ∧ ((0 ≤ x3 ∧ x3 < 40) ∧ (((¬ (ATH h x3)) → (am_AT 2 260 142 [some (mR 1 12 0 571), some (mI 0), some (mI x2), some (mI (x3 + 1))] h R)) ∧ ((ATH h x3) → ((0 ≤ x2 ∧ x2 < 40) ∧ ((0 ≤ x3 ∧ x3 < 40) ∧ (((¬ h 591 x2 = h 591 x3) → (am_AT 2 260 142 [some (mR 1 12 0 571), some (mI 0), some (mI x2), some (mI (x3 + 1))] h R)) ∧ ((h 591 x2 = h 591 x3) → ((0 ≤ x2 ∧ x2 < 40) ∧ ((0 ≤ x3 ∧ x3 < 40) ∧ (((h 592 x2 = h 592 x3) → (am_AT 2 260 142 [some (mR 1 12 0 571), some (mI 0), some (mI x2), some (mI (x3 + 1))] h R)) ∧ ((¬ h 592 x2 = h 592 x3) → (am_AT 2 260 142 [some (mR 1 12 0 571), some (mI 1), some (mI x2), some (mI (x3 + 1))] h R)))))))))))))))))))))))) : am_AT 2 260 142 [some (mR 1 12 0 571), some (mI x1), some (mI x2), some (mI x3)] h R :=
  am_T (d := 1) (m := 260) (T := tb260) (mL := 4) (rk := 0) (cuts := [(2, [1, 2, 0, 0]), (23, [1, 2, 0, 0]), (31, [1, 2, 2, 0]), (58, [1, 2, 2, 0]), (75, [1, 2, 2, 2]), (134, [1, 2, 2, 0]), (142, [1, 2, 2, 2]), (217, [1, 2, 2, 0]), (246, [1, 0, 2, 0]), (268, [1, 0, 2, 0]), (278, [1, 0, 2, 2])]) (l := [(257, C257), (258, C258), (259, C259)]) rfl ⟨am_CS_d (by decide) C257_ok, am_CS_d (by decide) C258_ok, am_CS_d (by decide) C259_ok, trivial⟩ 40 (And.intro (t).1 (And.intro ((t).2).1 (And.intro (fun c11 => (((t).2).2).1 c11) (fun c11 => And.intro ((((t).2).2).2 c11).1 (And.intro (fun c12 => (((((t).2).2).2 c11).2).1 c12) (fun c12 => And.intro ((((((t).2).2).2 c11).2).2 c12).1 (And.intro (rfl) (And.intro (((((((t).2).2).2 c11).2).2 c12).2).1 (And.intro (fun c13 => ((((((((t).2).2).2 c11).2).2 c12).2).2).1 c13) (fun c13 => And.intro (((((((((t).2).2).2 c11).2).2 c12).2).2).2 c13).1 (And.intro (rfl) (And.intro ((((((((((t).2).2).2 c11).2).2 c12).2).2).2 c13).2).1 (And.intro (fun c14 => (((((((((((t).2).2).2 c11).2).2 c12).2).2).2 c13).2).2).1 c14) (fun c14 => And.intro ((((((((((((t).2).2).2 c11).2).2 c12).2).2).2 c13).2).2).2 c14).1 (And.intro (((((((((((((t).2).2).2 c11).2).2 c12).2).2).2 c13).2).2).2 c14).2).1 (And.intro (fun c15 => ((((((((((((((t).2).2).2 c11).2).2 c12).2).2).2 c13).2).2).2 c14).2).2).1 c15) (fun c15 => And.intro (((((((((((((((t).2).2).2 c11).2).2 c12).2).2).2 c13).2).2).2 c14).2).2).2 c15).1 (And.intro ((((((((((((((((t).2).2).2 c11).2).2 c12).2).2).2 c13).2).2).2 c14).2).2).2 c15).2).1 (And.intro (fun c16 => (((((((((((((((((t).2).2).2 c11).2).2 c12).2).2).2 c13).2).2).2 c14).2).2).2 c15).2).2).1 c16) (fun c16 => (((((((((((((((((t).2).2).2 c11).2).2 c12).2).2).2 c13).2).2).2 c14).2).2).2 c15).2).2).2 c16))))))))))))))))))))
theorem T260_217 {R : Option am_V → am_H → Prop} {h : am_H} {x1 : Int} {x2 : Int} (t : (R32 x2) ∧ (((40 ≤ x2) → (am_AT 2 260 23 [some (mR 1 12 0 571), some (mI x1), none, none] h R)) ∧ ((x2 < 40) → ((0 ≤ x2 ∧ x2 < 40) ∧ ((0 ≤ x2 ∧ x2 < 40) ∧ (am_AT 2 260 217 [some (mR 1 12 0 571), some (mI x1), some (mI (x2 + 1)), none] (am_up h 591 x2 (h 592 x2)) R)))))) : am_AT 2 260 217 [some (mR 1 12 0 571), some (mI x1), some (mI x2), none] h R :=
  am_T (d := 1) (m := 260) (T := tb260) (mL := 4) (rk := 0) (cuts := [(2, [1, 2, 0, 0]), (23, [1, 2, 0, 0]), (31, [1, 2, 2, 0]), (58, [1, 2, 2, 0]), (75, [1, 2, 2, 2]), (134, [1, 2, 2, 0]), (142, [1, 2, 2, 2]), (217, [1, 2, 2, 0]), (246, [1, 0, 2, 0]), (268, [1, 0, 2, 0]), (278, [1, 0, 2, 2])]) (l := [(257, C257), (258, C258), (259, C259)]) rfl ⟨am_CS_d (by decide) C257_ok, am_CS_d (by decide) C258_ok, am_CS_d (by decide) C259_ok, trivial⟩ 17 (And.intro (t).1 (And.intro (fun c17 => ((t).2).1 c17) (fun c17 => And.intro (((t).2).2 c17).1 (And.intro ((((t).2).2 c17).2).1 (((((t).2).2 c17).2).2)))))
theorem T260_246 {R : Option am_V → am_H → Prop} {h : am_H} {x2 : Int} (t : (R32 x2) ∧ (((400 ≤ x2) → (am_AT 2 260 268 [some (mR 1 12 0 571), none, some (mI 0), none] h R)) ∧ ((x2 < 400) → ((0 ≤ x2 ∧ x2 < 400) ∧ (am_AT 2 260 246 [some (mR 1 12 0 571), none, some (mI (x2 + 1)), none] (am_up h 594 x2 0) R))))) : am_AT 2 260 246 [some (mR 1 12 0 571), none, some (mI x2), none] h R :=
  am_T (d := 1) (m := 260) (T := tb260) (mL := 4) (rk := 0) (cuts := [(2, [1, 2, 0, 0]), (23, [1, 2, 0, 0]), (31, [1, 2, 2, 0]), (58, [1, 2, 2, 0]), (75, [1, 2, 2, 2]), (134, [1, 2, 2, 0]), (142, [1, 2, 2, 2]), (217, [1, 2, 2, 0]), (246, [1, 0, 2, 0]), (268, [1, 0, 2, 0]), (278, [1, 0, 2, 2])]) (l := [(257, C257), (258, C258), (259, C259)]) rfl ⟨am_CS_d (by decide) C257_ok, am_CS_d (by decide) C258_ok, am_CS_d (by decide) C259_ok, trivial⟩ 14 (And.intro (t).1 (And.intro (fun c18 => ((t).2).1 c18) (fun c18 => And.intro (((t).2).2 c18).1 ((((t).2).2 c18).2))))
theorem T260_268 {R : Option am_V → am_H → Prop} {h : am_H} {x2 : Int} (t : (R32 x2) ∧ (((h 571 30 ≤ x2) → (R none h)) ∧ ((x2 < h 571 30) → (am_AT 2 260 278 [some (mR 1 12 0 571), none, some (mI x2), some (mI 0)] h R)))) : am_AT 2 260 268 [some (mR 1 12 0 571), none, some (mI x2), none] h R :=
  am_T (d := 1) (m := 260) (T := tb260) (mL := 4) (rk := 0) (cuts := [(2, [1, 2, 0, 0]), (23, [1, 2, 0, 0]), (31, [1, 2, 2, 0]), (58, [1, 2, 2, 0]), (75, [1, 2, 2, 2]), (134, [1, 2, 2, 0]), (142, [1, 2, 2, 2]), (217, [1, 2, 2, 0]), (246, [1, 0, 2, 0]), (268, [1, 0, 2, 0]), (278, [1, 0, 2, 2])]) (l := [(257, C257), (258, C258), (259, C259)]) rfl ⟨am_CS_d (by decide) C257_ok, am_CS_d (by decide) C258_ok, am_CS_d (by decide) C259_ok, trivial⟩ 10 (And.intro (t).1 (And.intro (fun c19 => ((t).2).1 c19) (fun c19 => ((t).2).2 c19)))
theorem T260_278 {R : Option am_V → am_H → Prop} {h : am_H} {x2 : Int} {x3 : Int} (t : (R32 x3) ∧ (((h 571 30 ≤ x3) → (am_AT 2 260 268 [some (mR 1 12 0 571), none, some (mI (x2 + 1)), none] h R)) ∧ ((x3 < h 571 30) → ((0 ≤ (20 * x2) + x3 ∧ (20 * x2) + x3 < 400) ∧ ((0 ≤ (20 * x2) + (h 589 ((20 * x2) + x3)) ∧ (20 * x2) + (h 589 ((20 * x2) + x3)) < 400) ∧ ((0 ≤ (20 * x2) + (h 589 ((20 * x2) + x3)) ∧ (20 * x2) + (h 589 ((20 * x2) + x3)) < 400) ∧ (am_AT 2 260 278 [some (mR 1 12 0 571), none, some (mI x2), some (mI (x3 + 1))] (am_up h 594 ((20 * x2) + (h 589 ((20 * x2) + x3))) (iOr (h 594 ((20 * x2) + (h 589 ((20 * x2) + x3)))) (iShl 1 x3))) R))))))) : am_AT 2 260 278 [some (mR 1 12 0 571), none, some (mI x2), some (mI x3)] h R :=
  am_T (d := 1) (m := 260) (T := tb260) (mL := 4) (rk := 0) (cuts := [(2, [1, 2, 0, 0]), (23, [1, 2, 0, 0]), (31, [1, 2, 2, 0]), (58, [1, 2, 2, 0]), (75, [1, 2, 2, 2]), (134, [1, 2, 2, 0]), (142, [1, 2, 2, 2]), (217, [1, 2, 2, 0]), (246, [1, 0, 2, 0]), (268, [1, 0, 2, 0]), (278, [1, 0, 2, 2])]) (l := [(257, C257), (258, C258), (259, C259)]) rfl ⟨am_CS_d (by decide) C257_ok, am_CS_d (by decide) C258_ok, am_CS_d (by decide) C259_ok, trivial⟩ 31 (And.intro (t).1 (And.intro (fun c20 => ((t).2).1 c20) (fun c20 => And.intro (((t).2).2 c20).1 (And.intro ((((t).2).2 c20).2).1 (And.intro (((((t).2).2 c20).2).2).1 ((((((t).2).2 c20).2).2).2))))))
theorem KND_fr {g g' : am_H} (K : KND g) (e : ∀ x i, x ≠ 594 → g' x i = g x i) : KND g' := by
  unfold KND
  rw [e 571 30 (by omega), show fD g' 588 = fD g 588 by funext i k; exact e _ _ (by omega), show fD g' 589 = fD g 589 by funext i k; exact e _ _ (by omega), show g' 591 = g 591 by funext i; exact e _ _ (by omega)]
  exact K
def SPa (h g : am_H) (a b : Int) : Prop := ∀ x d, (0 ≤ x ∧ x < h 571 30) → (0 ≤ d ∧ d < 20) → g 594 (20 * x + d) = mkb (fun y => y < h 571 30 ∧ fD h 589 x y = d ∧ (x < a ∨ (x = a ∧ y < b)))
theorem L260h {K : Option am_V → am_H → Prop} {h : am_H} (G : GS h) (hK : ∀ h', ((∀ x9 i9, ¬ (591 ≤ x9 ∧ x9 ≤ 594) → h' x9 i9 = h x9 i9) ∧ KND h' ∧ SPH h') → K none h') {a : Int} (ha : 0 ≤ a ∧ a < h 571 30) (nx : ∀ g : am_H, (∀ x i, ¬ (591 ≤ x ∧ x ≤ 594) → g x i = h x i) → KND g → SPa h g (a + 1) 0 → am_AT 2 260 268 [some (mR 1 12 0 571), none, some (mI (a + 1)), none] g K) : ∀ b, ∀ g : am_H, 0 ≤ b → b ≤ h 571 30 → (∀ x i, ¬ (591 ≤ x ∧ x ≤ 594) → g x i = h x i) → KND g → SPa h g a b → am_AT 2 260 278 [some (mR 1 12 0 571), none, some (mI a), some (mI b)] g K := by
  have hs := G.1.1
  refine lp (h 571 30) (fun b ih g b0 b1 F KN S => ?_)
  have es : g 571 30 = h 571 30 := F _ _ (by omega)
  have ed : g 589 (20 * a + b) = fD h 589 a b := F _ _ (by omega)
  have dr : b < h 571 30 → 0 ≤ fD h 589 a b ∧ fD h 589 a b < 20 := fun z => (G.2.2 a b ha ⟨b0, z⟩).2.2
  refine T260_278 ⟨by omega, ⟨fun c1 => ?_, fun c1 => ⟨by omega, ⟨by rw [es] at c1; have d := dr c1; rw [ed]; omega, ⟨by rw [es] at c1; have d := dr c1; rw [ed]; omega, ?_⟩⟩⟩⟩⟩
  · rw [es] at c1
    refine nx g F KN (fun x d hx hd => (S x d hx hd).trans (mkb_congr (fun y _ _ => ?_)))
    exact ⟨fun w => ⟨w.1, w.2.1, by omega⟩, fun w => ⟨w.1, w.2.1, by omega⟩⟩
  · rw [es] at c1
    have d := dr c1
    rw [ed]
    refine ih c1 _ (by omega) (by omega) (fun x i z => by rw [am_up_ne (by omega)]; exact F x i z) (KND_fr KN (fun x i z => am_up_ne z)) (fun x d' hx hd => ?_)
    by_cases z : x = a ∧ d' = fD h 589 a b
    · rw [z.1, z.2, am_up_eq, S a _ ha d]
      refine mkb_eq (rg_or _ _) (fun y => ?_)
      rw [bt_or, bt_mk, bt_1 b0 (by omega)]
      constructor
      · rintro (⟨u, v1, v2, v3⟩ | u)
        · exact ⟨u, v1, v2, by omega⟩
        · rw [u]; exact ⟨by omega, c1, rfl, by omega⟩
      · rintro ⟨u, v1, v2, v3⟩
        by_cases w : y = b
        · exact Or.inr w
        · exact Or.inl ⟨u, v1, v2, by omega⟩
    · rw [am_up_ne2 (by omega), S x d' hx hd]
      refine mkb_congr (fun y _ _ => ⟨fun w => ⟨w.1, w.2.1, by omega⟩, fun w => ⟨w.1, w.2.1, ?_⟩⟩)
      by_cases q : x = a ∧ y = b
      · exact absurd ⟨q.1, by rw [← w.2.1, q.1, q.2]⟩ z
      · omega
theorem L260g {K : Option am_V → am_H → Prop} {h : am_H} (G : GS h) (hK : ∀ h', ((∀ x9 i9, ¬ (591 ≤ x9 ∧ x9 ≤ 594) → h' x9 i9 = h x9 i9) ∧ KND h' ∧ SPH h') → K none h') : ∀ a, ∀ g : am_H, 0 ≤ a → a ≤ h 571 30 → (∀ x i, ¬ (591 ≤ x ∧ x ≤ 594) → g x i = h x i) → KND g → SPa h g a 0 → am_AT 2 260 268 [some (mR 1 12 0 571), none, some (mI a), none] g K := by
  have hs := G.1.1
  refine lp (h 571 30) (fun a ih g a0 a1 F KN S => ?_)
  have es : g 571 30 = h 571 30 := F _ _ (by omega)
  refine T260_268 ⟨by omega, ⟨fun c1 => ?_, fun c1 => ?_⟩⟩
  · rw [es] at c1
    refine hK g ⟨F, KN, fun x d hx hd => ?_⟩
    rw [es] at hx ⊢
    rw [S x d hx hd, show fD g 589 = fD h 589 by funext i k; exact F _ _ (by omega)]
    exact mkb_congr (fun y _ _ => ⟨fun w => ⟨w.1, w.2.1⟩, fun w => ⟨w.1, w.2, by omega⟩⟩)
  · rw [es] at c1
    exact L260h G hK ⟨a0, c1⟩ (fun g' F' K' S' => ih c1 g' (by omega) (by omega) F' K' S') 0 g (by omega) hs.1 F KN S
theorem L260f {K : Option am_V → am_H → Prop} {h : am_H} (G : GS h) (hK : ∀ h', ((∀ x9 i9, ¬ (591 ≤ x9 ∧ x9 ≤ 594) → h' x9 i9 = h x9 i9) ∧ KND h' ∧ SPH h') → K none h') : ∀ i, ∀ g : am_H, 0 ≤ i → i ≤ 400 → (∀ x i, ¬ (591 ≤ x ∧ x ≤ 594) → g x i = h x i) → KND g → (∀ j, 0 ≤ j → j < i → g 594 j = 0) → am_AT 2 260 246 [some (mR 1 12 0 571), none, some (mI i), none] g K := by
  have hs := G.1.1
  refine lp 400 (fun i ih g i0 i1 F KN Z => ?_)
  refine T260_246 ⟨by omega, ⟨fun c1 => ?_, fun c1 => ⟨by omega, ?_⟩⟩⟩
  · refine L260g G hK 0 g (by omega) hs.1 F KN (fun x d hx hd => ?_)
    rw [Z _ (by omega) (by omega)]
    exact mkb_eq (by unfold R32; omega) (fun y => ⟨fun w => absurd w bt_zero, fun w => by have := w.2.2.2; have := w.1; omega⟩)
  · refine ih c1 _ (by omega) (by omega) (fun x j z => by rw [am_up_ne (by omega)]; exact F x j z) (KND_fr KN (fun x j z => am_up_ne z)) (fun j a b => ?_)
    by_cases z : j = i
    · rw [z, am_up_eq]
    · rw [am_up_ne2 z]; exact Z j a (by omega)
theorem L260e {K : Option am_V → am_H → Prop} {g0 : am_H} (nx : ∀ b, ∀ g2 : am_H, RND g0 g2 → (b = 0 ∨ b = 1) → (b = 1 → MOR g0 (g2 591)) → am_AT 2 260 23 [some (mR 1 12 0 571), some (mI b), none, none] g2 K) {g1 : am_H} (F1 : ∀ x i, ¬ (592 ≤ x ∧ x ≤ 593) → g1 x i = g0 x i) (LA : LKA g0 g1 40) (N : ∀ x, 0 ≤ x → x < 40 → NK g1 x 0 (g1 592 x)) {b : Int} (hb : b = 0 ∨ b = 1) (hm : b = 1 → MOR g0 (g1 592)) : ∀ x, ∀ g : am_H, 0 ≤ x → x ≤ 40 → (∀ y i, y ≠ 591 → g y i = g1 y i) → (∀ j, 0 ≤ j → j < x → g 591 j = g1 592 j) → am_AT 2 260 217 [some (mR 1 12 0 571), some (mI b), some (mI x), none] g K := by
  refine lp 40 (fun x ih g x0 x1 F E => ?_)
  refine T260_217 ⟨by omega, ⟨fun c1 => ?_, fun c1 => ⟨by omega, ⟨by omega, ?_⟩⟩⟩⟩
  · refine nx b g ⟨g1, F1, LA, fun y i z => (F y i (by omega)).trans (F1 y i (by omega)), fun j a c => by rw [E j a (by omega)]; exact N j a c⟩ hb (fun z => ?_)
    obtain ⟨u, v, w, w2, w3, w4⟩ := hm z
    exact ⟨u, v, w, w2, w3, by rw [E u (by omega) (by omega), E v (by omega) (by omega)]; exact w4⟩
  · refine ih c1 _ (by omega) (by omega) (fun y i z => by rw [am_up_ne z]; exact F y i z) (fun j a c => ?_)
    by_cases z : j = x
    · rw [z, am_up_eq]; exact F _ _ (by omega)
    · rw [am_up_ne2 z]; exact E j a (by omega)
theorem L260d {K : Option am_V → am_H → Prop} {g0 : am_H} {g1 : am_H} (F1 : ∀ x i, ¬ (592 ≤ x ∧ x ≤ 593) → g1 x i = g0 x i) (LA : LKA g0 g1 40) (N : ∀ x, 0 ≤ x → x < 40 → NK g1 x 0 (g1 592 x)) {x : Int} (hx : 0 ≤ x ∧ x < 40) (n2 : ∀ b, (b = 0 ∨ b = 1) → (b = 1 → MOR g0 (g1 592)) → am_AT 2 260 134 [some (mR 1 12 0 571), some (mI b), some (mI (x + 1)), none] g1 K) : ∀ y, ∀ b, 0 ≤ y → y ≤ x → (b = 0 ∨ b = 1) → (b = 1 → MOR g0 (g1 592)) → am_AT 2 260 142 [some (mR 1 12 0 571), some (mI b), some (mI x), some (mI y)] g1 K := by
  have e1 : g1 571 30 = g0 571 30 := F1 _ _ (by omega)
  have at1 : ∀ x, ATH g1 x ↔ ATH g0 x := fun x => by unfold ATH; rw [e1]
  refine lp x (fun y ih b y0 y1 hb hm => ?_)
  refine T260_142 ⟨by omega, ⟨by omega, ⟨fun c1 => ?_, fun c1 => ⟨by unfold R32; omega, ⟨fun c2 => ?_, fun c2 => ⟨by omega, ⟨by omega, ⟨fun c3 => ?_, fun c3 => ⟨by omega, ⟨by omega, ⟨fun c4 => ?_, fun c4 => ⟨by omega, ⟨by omega, ⟨fun c5 => ?_, fun c5 => ⟨by omega, ⟨by omega, ⟨fun c6 => ?_, fun c6 => ?_⟩⟩⟩⟩⟩⟩⟩⟩⟩⟩⟩⟩⟩⟩⟩⟩⟩
  · exact n2 b hb hm
  · exact ih c1 1 (by omega) (by omega) (Or.inr rfl) (fun _ => hm (by omega))
  · exact ih c1 0 (by omega) (by omega) (Or.inl rfl) (fun z => by omega)
  · exact ih c1 0 (by omega) (by omega) (Or.inl rfl) (fun z => by omega)
  · exact ih c1 0 (by omega) (by omega) (Or.inl rfl) (fun z => by omega)
  · exact ih c1 0 (by omega) (by omega) (Or.inl rfl) (fun z => by omega)
  · refine ih c1 1 (by omega) (by omega) (Or.inr rfl) (fun _ => ⟨x, y, by omega, ⟨(at1 x).mp c3, (at1 y).mp c4⟩, ?_, c6⟩)
    rw [← F1 _ _ (by omega), ← F1 _ _ (by omega)]
    exact c5
theorem L260c {K : Option am_V → am_H → Prop} {g0 : am_H} (nx : ∀ b, ∀ g2 : am_H, RND g0 g2 → (b = 0 ∨ b = 1) → (b = 1 → MOR g0 (g2 591)) → am_AT 2 260 23 [some (mR 1 12 0 571), some (mI b), none, none] g2 K) {g1 : am_H} (F1 : ∀ x i, ¬ (592 ≤ x ∧ x ≤ 593) → g1 x i = g0 x i) (LA : LKA g0 g1 40) (N : ∀ x, 0 ≤ x → x < 40 → NK g1 x 0 (g1 592 x)) : ∀ x, ∀ b, 0 ≤ x → x ≤ 40 → (b = 0 ∨ b = 1) → (b = 1 → MOR g0 (g1 592)) → am_AT 2 260 134 [some (mR 1 12 0 571), some (mI b), some (mI x), none] g1 K := by
  refine lp 40 (fun x ih b x0 x1 hb hm => ?_)
  refine T260_134 ⟨by omega, ⟨fun c1 => ?_, fun c1 => ?_⟩⟩
  · exact L260e nx F1 LA N hb hm 0 g1 (by omega) (by omega) (fun _ _ _ => rfl) (fun j a c => by omega)
  · exact L260d F1 LA N ⟨x0, c1⟩ (fun b' hb' hm' => ih c1 b' (by omega) (by omega) hb' hm') 0 b (by omega) (by omega) hb hm
theorem SEE_fr {g g' : am_H} (e : ∀ x i, x ≠ 592 → g' x i = g x i) (x y : Int) : (SEE g' x y ↔ SEE g x y) ∧ (ATH g' x ↔ ATH g x) := by
  unfold SEE ATH
  rw [e 571 30 (by omega), show g' 591 = g 591 by funext i; exact e _ _ (by omega), show g' 593 = g 593 by funext i; exact e _ _ (by omega)]
  exact ⟨Iff.rfl, Iff.rfl⟩
theorem NK_fr {g g' : am_H} (e : ∀ x i, x ≠ 592 → g' x i = g x i) {x lo v : Int} (H : NK g x lo v) : NK g' x lo v := by
  refine ⟨fun z => H.1 (fun w => z ((SEE_fr e x x).2.mpr w)), fun z => ?_⟩
  have w := H.2 ((SEE_fr e x x).2.mp z)
  exact ⟨⟨w.1.1, (SEE_fr e v v).2.mpr w.1.2.1, (SEE_fr e x v).1.mpr w.1.2.2⟩, fun y a b c d => w.2 y a b ((SEE_fr e y y).2.mp c) ((SEE_fr e x y).1.mp d)⟩
theorem L260b {K : Option am_V → am_H → Prop} {g1 : am_H} {x : Int} (hs : 0 ≤ g1 571 30 ∧ g1 571 30 ≤ 20) (hx : 0 ≤ x ∧ x < 40) (n2 : ∀ g : am_H, (∀ y i, ¬ (y = 592 ∧ i = x) → g y i = g1 y i) → NK g1 x 0 (g 592 x) → am_AT 2 260 58 [some (mR 1 12 0 571), some (mI 0), some (mI (x + 1)), none] g K) : ∀ y, ∀ g : am_H, -1 ≤ y → y < x → (∀ y i, ¬ (y = 592 ∧ i = x) → g y i = g1 y i) → NK g1 x (y + 1) (g 592 x) → am_AT 2 260 75 [some (mR 1 12 0 571), some (mI 0), some (mI x), some (mI y)] g K := by
  refine lpd 0 (fun y ih g y0 y1 F N => ?_)
  have e : ∀ y i, y ≠ 592 → g y i = g1 y i := fun y i z => F y i (fun w => z w.1)
  have es : g 571 30 = g1 571 30 := e _ _ (by omega)
  have ax := (SEE_fr e x x).2
  have ay := (SEE_fr e y y).2
  have sxy := (SEE_fr e x y).1
  have keep : (¬ ATH g1 y ∨ ¬ SEE g1 x y) → NK g1 x (y - 1 + 1) (g 592 x) := fun z => ⟨N.1, fun w => by
    have u := N.2 w
    refine ⟨⟨by omega, u.1.2⟩, fun k a b c d => ?_⟩
    by_cases v : k = y
    · rw [v] at c d; exact z.elim (fun q => q c) (fun q => q d)
    · exact u.2 k (by omega) b c d⟩
  refine T260_75 ⟨by omega, ⟨fun c1 => ?_, fun c1 => ⟨by omega, ⟨by omega, ⟨fun c2 => ?_, fun c2 => ⟨by omega, ⟨by omega, ⟨fun c3 => ⟨by omega, ⟨by omega, ?_⟩⟩, fun c3 => ⟨by omega, ⟨by omega, ⟨by rw [es]; exact ⟨hs, hx, by omega⟩, ⟨fun c4 => ⟨by omega, ⟨by omega, ?_⟩⟩, fun c4 => ⟨by omega, ⟨by omega, ?_⟩⟩⟩⟩⟩⟩⟩⟩⟩⟩⟩⟩⟩⟩
  · rw [show y + 1 = 0 by omega] at N
    exact n2 g F N
  · refine n2 g F ⟨N.1, fun w => absurd (ax.mpr w) c2⟩
  · rw [am_up_id]
    exact ih c1 g (by omega) (by omega) F (keep (Or.inl (fun w => c3 (ay.mpr w))))
  · rw [am_up_id]
    exact ih c1 g (by omega) (by omega) F (keep (Or.inr (fun w => c4 (sxy.mpr w))))
  · refine ih c1 _ (by omega) (by omega) (fun y i z => by rw [am_up_n2 z]; exact F y i z) ?_
    rw [am_up_eq]
    refine ⟨fun w => absurd (ax.mp c2) w, fun _ => ⟨⟨by omega, ay.mp c3, sxy.mp c4⟩, fun k a b => by omega⟩⟩
theorem L260a {K : Option am_V → am_H → Prop} {g0 : am_H} (G : GS g0) (nx : ∀ b, ∀ g2 : am_H, RND g0 g2 → (b = 0 ∨ b = 1) → (b = 1 → MOR g0 (g2 591)) → am_AT 2 260 23 [some (mR 1 12 0 571), some (mI b), none, none] g2 K) {g1 : am_H} (F1 : ∀ x i, x ≠ 593 → g1 x i = g0 x i) (LA : LKA g0 g1 40) : ∀ x, ∀ g : am_H, 0 ≤ x → x ≤ 40 → (∀ y i, y ≠ 592 → g y i = g1 y i) → (∀ j, 0 ≤ j → j < x → NK g1 j 0 (g 592 j)) → am_AT 2 260 58 [some (mR 1 12 0 571), some (mI 0), some (mI x), none] g K := by
  have hs := G.1.1
  refine lp 40 (fun x ih g x0 x1 F N => ?_)
  refine T260_58 ⟨by omega, ⟨fun c1 => ?_, fun c1 => ⟨by omega, ⟨by omega, ?_⟩⟩⟩⟩
  · refine L260c nx (g1 := g) (fun y i z => (F y i (by omega)).trans (F1 y i (by omega))) (fun j a b c => ?_) (fun j a b => NK_fr F (N j a (by omega))) 0 0 (by omega) (by omega) (Or.inl rfl) (fun z => by omega)
    have w := LA j a b c
    unfold LKS at w ⊢
    rw [show g 593 = g1 593 by funext i; exact F _ _ (by omega)]
    exact w
  · refine L260b (g1 := g) (by rw [F _ _ (by omega), F1 _ _ (by omega)]; exact hs) ⟨x0, c1⟩ (fun g' F' N' => ih c1 g' (by omega) (by omega) (fun y i z => (F' y i (fun w => z w.1)).trans (F y i z)) (fun j a b => ?_)) (x - 1) _ (by omega) (by omega) (fun y i z => am_up_n2 z) ?_
    · by_cases z : j = x
      · rw [z]; exact NK_fr (fun y i w => (F y i w).symm) N'
      · rw [F' _ _ (fun w => z w.2)]; exact N j a (by omega)
    · rw [am_up_eq]
      exact ⟨fun _ => rfl, fun w => ⟨⟨by omega, w, rfl, fun _ _ _ => rfl⟩, fun k a b => by omega⟩⟩
theorem L260r {K : Option am_V → am_H → Prop} {g0 : am_H} (G : GS g0) (KR : KNr g0) (nx : ∀ b, ∀ g2 : am_H, RND g0 g2 → (b = 0 ∨ b = 1) → (b = 1 → MOR g0 (g2 591)) → am_AT 2 260 23 [some (mR 1 12 0 571), some (mI b), none, none] g2 K) : ∀ x, ∀ g : am_H, 0 ≤ x → x ≤ 40 → (∀ y i, y ≠ 593 → g y i = g0 y i) → LKA g0 g x → am_AT 2 260 31 [some (mR 1 12 0 571), some (mI 0), some (mI x), none] g K := by
  have hs := G.1.1
  refine lp 40 (fun x ih g x0 x1 F LA => ?_)
  have es : g 571 30 = g0 571 30 := F _ _ (by omega)
  have ax : ATH g x ↔ ATH g0 x := by unfold ATH; rw [es]
  have lq := lkb_q x
  have ei : its g x = its g0 x := by
    funext k
    unfold its
    rw [F _ _ (by omega), F _ _ (by omega)]
  refine T260_31 ⟨by omega, ⟨fun c1 => ?_, fun c1 => ⟨by omega, ⟨by omega, ⟨fun c2 => ?_, fun c2 => ⟨by omega, ⟨by
    have a0 := ax.mp c2
    have lr := LKR_of G KR ⟨x0, c1⟩ a0
    refine ⟨by rw [es]; exact hs, by omega, c2, fun k a b => ?_⟩
    rw [ei]
    rw [es] at b
    exact lr k a b, fun h' q3 => ?_⟩⟩⟩⟩⟩⟩⟩
  · rw [show x = 40 by omega] at LA
    exact L260a G nx F LA 0 g (by omega) (by omega) (fun _ _ _ => rfl) (fun j a b => by omega)
  · refine ih c1 g (by omega) (by omega) F (fun j a b c => ?_)
    by_cases z : j = x
    · rw [z] at c; exact absurd (ax.mpr c) c2
    · exact LA j a (by omega) c
  · refine ih c1 h' (by omega) (by omega) (fun y i z => (q3.1 y i (by omega)).trans (F y i z)) (fun j a b c => ?_)
    by_cases z : j = x
    · rw [z]
      have w := q3.2
      unfold LKS at w ⊢
      rw [es, ei] at w
      exact w
    · have w := LA j a (by omega) c
      unfold LKS SRTD at w ⊢
      have e9 : ∀ k, 0 ≤ k → k < 20 → h' 593 (20 * j + k) = g 593 (20 * j + k) := fun k u v => q3.1 _ _ (by omega)
      refine ⟨fun k u v => ?_, fun v => (w.2 v) ▸ ct_congr _ (fun k hk => by rw [e9 k (by omega) (by omega)])⟩
      show h' 593 (20 * j + k) ≤ h' 593 (20 * j + (k + 1))
      rw [e9 k u (by omega), e9 (k + 1) (by omega) (by omega)]
      exact w.1 k u v
theorem L260 {K : Option am_V → am_H → Prop} {h : am_H} (G : GS h) (hK : ∀ h', ((∀ x9 i9, ¬ (591 ≤ x9 ∧ x9 ≤ 594) → h' x9 i9 = h x9 i9) ∧ KND h' ∧ SPH h') → K none h') : ∀ g : am_H, (∀ x i, ¬ (591 ≤ x ∧ x ≤ 594) → g x i = h x i) → KND g → KNr g → am_AT 2 260 23 [some (mR 1 12 0 571), some (mI 1), none, none] g K := by
  refine lpm (fun g => (40 - cls g).toNat) (fun g ih F KN KR => ?_)
  have es : g 571 30 = h 571 30 := F _ _ (by omega)
  have Gg : GS g := by
    unfold GS
    rw [es, show fD g 588 = fD h 588 by funext i k; exact F _ _ (by omega), show fD g 589 = fD h 589 by funext i k; exact F _ _ (by omega)]
    exact G
  refine T260_23 ⟨by omega, ⟨fun c1 => ?_, fun c1 => ?_⟩⟩
  · omega
  · refine L260r Gg KR (fun b g2 R hb hm => ?_) 0 g (by omega) (by omega) (fun _ _ _ => rfl) (fun j a b => by omega)
    have w := RND_ok Gg KN R
    have F2 : ∀ x i, ¬ (591 ≤ x ∧ x ≤ 594) → g2 x i = h x i := fun x i z => by
      obtain ⟨g1, _, _, f, _⟩ := R
      exact (f x i (by omega)).trans (F x i z)
    rcases hb with hb | hb
    · rw [hb]
      refine T260_23 ⟨by unfold R32; omega, fun _ => ?_, fun z => absurd rfl z⟩
      exact L260f G hK 0 g2 (by omega) (by omega) F2 w.1.2.1 (fun j a b => by omega)
    · rw [hb]
      have m := w.2 (hm hb)
      have l := ct_le (fun x => ATH g2 x ∧ ∀ y, 0 ≤ y → y < x → ATH g2 y → g2 591 y ≠ g2 591 x) 40
      have l2 : cls g2 ≤ 40 := l.2
      exact ih g2 (by omega) F2 w.1.2.1 w.1.2.2
theorem L260z {K : Option am_V → am_H → Prop} {h : am_H} (G : GS h) (hK : ∀ h', ((∀ x9 i9, ¬ (591 ≤ x9 ∧ x9 ≤ 594) → h' x9 i9 = h x9 i9) ∧ KND h' ∧ SPH h') → K none h') : ∀ x, ∀ g : am_H, 0 ≤ x → x ≤ 40 → (∀ x i, ¬ (591 ≤ x ∧ x ≤ 594) → g x i = h x i) → (∀ j, 0 ≤ j → j < x → g 591 j = 0) → am_AT 2 260 2 [some (mR 1 12 0 571), some (mI x), none, none] g K := by
  have hs := G.1.1
  refine lp 40 (fun x ih g x0 x1 F Z => ?_)
  refine T260_2 ⟨by omega, ⟨fun c1 => ?_, fun c1 => ⟨by omega, ?_⟩⟩⟩
  · refine L260 G hK g F (fun f I i i0 i1 => ?_) (fun j a b => by rw [Z j a (by omega)]; omega)
    rw [F 571 30 (by omega)] at i1
    have r := I.1 i i0 (by rw [F 571 30 (by omega)]; exact i1)
    rw [F 571 30 (by omega)] at r
    rw [Z i i0 (by omega), Z (20 + f i) (by omega) (by omega)]
  · refine ih c1 _ (by omega) (by omega) (fun y i z => by rw [am_up_ne (by omega)]; exact F y i z) (fun j a b => ?_)
    by_cases z : j = x
    · rw [z, am_up_eq]
    · rw [am_up_ne2 z]; exact Z j a (by omega)
theorem C260_ok : am_CS 2 260 C260 := W260 (fun h K hb => T260_0 (L260z hb.1 hb.2 0 h (by omega) (by omega) (fun _ _ _ => rfl) (fun j a b => by omega)))
