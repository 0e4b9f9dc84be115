/-! ===== colourings ===== -/
def ext (S O : Int → Prop) (E : Int → Int → Prop) (col : Int → Int) (m : Int) : Prop := ∃ g : Int → Int, (∀ p, S p → ¬ O p → g p = col p) ∧ (∀ p, S p → O p → 0 ≤ g p ∧ g p < m) ∧ ∀ p q, S p → S q → E p q → O p → g p ≠ g q
theorem ext_congr {S O O' : Int → Prop} {E : Int → Int → Prop} {col col' : Int → Int} {m : Int} (hO : ∀ p, S p → (O p ↔ O' p)) (hc : ∀ p, S p → ¬ O p → col p = col' p) : ext S O E col m ↔ ext S O' E col' m := by
  constructor
  · rintro ⟨g, h1, h2, h3⟩
    exact ⟨g, fun p a b => (h1 p a (fun z => b ((hO p a).mp z))).trans (hc p a (fun z => b ((hO p a).mp z))), fun p a b => h2 p a ((hO p a).mpr b), fun p q a b e z => h3 p q a b e ((hO p a).mpr z)⟩
  · rintro ⟨g, h1, h2, h3⟩
    exact ⟨g, fun p a b => (h1 p a (fun z => b ((hO p a).mpr z))).trans (hc p a b).symm, fun p a b => h2 p a ((hO p a).mp b), fun p q a b e z => h3 p q a b e ((hO p a).mp z)⟩
def exG (S O : Int → Prop) (E : Int → Int → Prop) (col : Int → Int) (m pt c : Int) : Prop := (∀ q, S q → ¬ O q → E pt q → col q ≠ c) ∧ ext S (fun p => O p ∧ p ≠ pt) E (up1 col pt c) m
def exA (S O : Int → Prop) (E : Int → Int → Prop) (col : Int → Int) (m pt u : Int) : Prop := ∃ c, (0 ≤ c ∧ c ≤ u ∧ c < m) ∧ exG S O E col m pt c
theorem exA_i {S O : Int → Prop} {E : Int → Int → Prop} {col : Int → Int} {m pt u c : Int} (h : 0 ≤ c ∧ c ≤ u ∧ c < m) (h2 : exG S O E col m pt c) : exA S O E col m pt u := ⟨c, h, h2⟩
theorem ext_step {S O : Int → Prop} {E : Int → Int → Prop} {col : Int → Int} {m pt u : Int} (hE : ∀ p q, E p q → E q p) (hI : ∀ p q, E p q → p ≠ q) (hS : S pt) (hO : O pt) (hu : 0 ≤ u) (hc : ∀ p, S p → ¬ O p → 0 ≤ col p ∧ col p < u) : ext S O E col m ↔ exA S O E col m pt u := by
  constructor
  · rintro ⟨g, h1, h2, h3⟩
    have fin : ∀ g : Int → Int, (∀ p, S p → ¬ O p → g p = col p) → (∀ p, S p → O p → 0 ≤ g p ∧ g p < m) → (∀ p q, S p → S q → E p q → O p → g p ≠ g q) → g pt ≤ u → exA S O E col m pt u := fun g h1 h2 h3 hg => by
      have r := h2 pt hS hO
      refine exA_i ⟨r.1, hg, r.2⟩ ⟨fun q a b e w => ?_, g, fun p a b => ?_, fun p a b => h2 p a b.1, fun p q a b e z => h3 p q a b e z.1⟩
      · exact h3 pt q hS a e hO (by rw [h1 q a b, w])
      · by_cases e : p = pt
        · rw [e, up1_eq]
        · rw [up1_ne e]
          exact h1 p a (fun z => b ⟨z, e⟩)
    by_cases e : g pt ≤ u
    · exact fin g h1 h2 h3 e
    · have r := h2 pt hS hO
      refine fin (fun p => if g p = u then g pt else if g p = g pt then u else g p) (fun p a b => ?_) (fun p a b => ?_) (fun p q a b ed z => ?_) ?_
      · have k1 := h1 p a b
        have k2 := hc p a b
        rw [if_neg (by omega), if_neg (by omega)]
        exact k1
      · have k := h2 p a b
        by_cases w1 : g p = u
        · rw [if_pos w1]; exact r
        · by_cases w2 : g p = g pt
          · rw [if_neg w1, if_pos w2]; omega
          · rw [if_neg w1, if_neg w2]; exact k
      · have k := h3 p q a b ed z
        by_cases w1 : g p = u
        · rw [if_pos w1]
          by_cases v1 : g q = u
          · omega
          · by_cases v2 : g q = g pt
            · rw [if_neg v1, if_pos v2]; omega
            · rw [if_neg v1, if_neg v2]; omega
        · by_cases w2 : g p = g pt
          · rw [if_neg w1, if_pos w2]
            by_cases v1 : g q = u
            · rw [if_pos v1]; omega
            · by_cases v2 : g q = g pt
              · omega
              · rw [if_neg v1, if_neg v2]; omega
          · rw [if_neg w1, if_neg w2]
            by_cases v1 : g q = u
            · rw [if_pos v1]; omega
            · by_cases v2 : g q = g pt
              · rw [if_neg v1, if_pos v2]; omega
              · rw [if_neg v1, if_neg v2]; omega
      · show (if g pt = u then g pt else if g pt = g pt then u else g pt) ≤ u
        rw [if_neg (by omega), if_pos rfl]
        omega
  · rintro ⟨c, hc1, hc2, g, h1, h2, h3⟩
    have gp : g pt = c := by rw [h1 pt hS (fun z => z.2 rfl), up1_eq]
    refine ⟨g, fun p a b => ?_, fun p a b => ?_, fun p q a b e z => ?_⟩
    · have ne : p ≠ pt := fun w => b (w ▸ hO)
      rw [h1 p a (fun w => b w.1), up1_ne ne]
    · by_cases e : p = pt
      · rw [e, gp]; omega
      · exact h2 p a ⟨b, e⟩
    · by_cases e1 : p = pt
      · have ne : q ≠ pt := fun w => hI p q e (by rw [e1, w])
        rw [e1] at e
        by_cases oq : O q
        · rw [e1]
          exact fun w => h3 q pt b hS (hE _ _ e) ⟨oq, ne⟩ w.symm
        · rw [e1, gp, h1 q b (fun w => oq w.1), up1_ne ne]
          exact fun w => hc2 q b oq e w.symm
      · exact h3 p q a b e ⟨z, e1⟩
/-- the colour that the painter gave -/
noncomputable def colp (h : am_H) (p : Int) : Int := fnd (fun c => bit (h 471 c) p) 21
def PNT (h : am_H) (n op u : Int) : Prop := (S20 op ∧ ∀ p, bit op p → p < n) ∧ (0 ≤ u ∧ u ≤ 20) ∧ (0 ≤ h 470 1 ∧ h 470 1 ≤ 20) ∧ (∀ c, 0 ≤ c → c < 21 → S20 (h 471 c)) ∧ (∀ c p, 0 ≤ c → c < 21 → bit (h 471 c) p → ¬ bit op p ∧ p < n ∧ c < u) ∧ (∀ p, 0 ≤ p → p < n → ¬ bit op p → ∃ c, (0 ≤ c ∧ c < 21) ∧ bit (h 471 c) p) ∧ ∀ c c' p, 0 ≤ c → c < 21 → 0 ≤ c' → c' < 21 → bit (h 471 c) p → bit (h 471 c') p → c = c'
theorem colp_is {h : am_H} {n op u : Int} (H : PNT h n op u) {c p : Int} (h0 : 0 ≤ c) (h1 : c < 21) (hb : bit (h 471 c) p) : colp h p = c :=
  fnd_is h0 hb (fun j j0 j1 w => by have := H.2.2.2.2.2.2 c j p h0 h1 j0 (by omega) hb w; omega) 21 (by omega)
theorem colp_bt {h : am_H} {n op u : Int} (H : PNT h n op u) {p : Int} (hp : 0 ≤ p ∧ p < n) (ho : ¬ bit op p) : bit (h 471 (colp h p)) p ∧ 0 ≤ colp h p ∧ colp h p < u := by
  obtain ⟨c, hc, hb⟩ := H.2.2.2.2.2.1 p hp.1 hp.2 ho
  rw [colp_is H hc.1 hc.2 hb]
  exact ⟨hb, hc.1, (H.2.2.2.2.1 c p hc.1 hc.2 hb).2.2⟩
theorem bt_less {op w p : Int} (hw : 0 ≤ w ∧ w < 32) : bit (iAnd op (iXor (iShl 1 w) (-1))) p ↔ bit op p ∧ p ≠ w := by
  rw [bt_and, bt_not, bt_1 hw.1 hw.2]
  constructor
  · intro z
    exact ⟨z.1, z.2.2.2⟩
  · intro z
    exact ⟨z.1, z.1.1, bt_lt z.1, z.2⟩
theorem iPop_less {op w : Int} (hs : S20 op) (hb : bit op w) : iPop (iAnd op (iXor (iShl 1 w) (-1))) + 1 = iPop op := by
  have hw := S20_in hs hb
  rw [iPop_20 hs, iPop_20 (S20_and hs)]
  refine (ct_add2 (a := w) 20 hw.1 hw.2 (fun z => ((bt_less (by omega)).mp z).2 rfl) (fun p _ _ => ?_)).symm
  rw [bt_less (by omega)]
  constructor
  · intro z
    by_cases e : p = w
    · exact Or.inr e
    · exact Or.inl ⟨z, e⟩
  · intro z
    rcases z with z | z
    · exact z.1
    · rw [z]; exact hb
theorem pn_up {h : am_H} {n op u w c : Int} (H : PNT h n op u) (hb : bit op w) (hw : 0 ≤ w ∧ w < n) (hc : 0 ≤ c ∧ c ≤ u) (hm : c < h 470 1) (hn : n ≤ 20) : PNT (am_up h 471 c (iOr (h 471 c) (iShl 1 w))) n (iAnd op (iXor (iShl 1 w) (-1))) (max u (c + 1)) ∧ ∀ p, 0 ≤ p → p < n → ¬ (bit op p ∧ p ≠ w) → colp (am_up h 471 c (iOr (h 471 c) (iShl 1 w))) p = up1 (colp h) w c p := by
  have hx : ∀ j p, 0 ≤ j → j < 21 → (bit (am_up h 471 c (iOr (h 471 c) (iShl 1 w)) 471 j) p ↔ bit (h 471 j) p ∨ (j = c ∧ p = w)) := fun j p a b => by
    by_cases e : j = c
    · rw [e, am_up_eq, bt_or, bt_1 hw.1 (by omega)]
      exact ⟨fun z => z.elim Or.inl (fun z => Or.inr ⟨rfl, z⟩), fun z => z.elim Or.inl (fun z => Or.inr z.2)⟩
    · rw [am_up_n2 (by omega)]
      exact ⟨Or.inl, fun z => z.elim id (fun z => absurd z.1 e)⟩
  have h2 := H.2.2.1
  have G : PNT (am_up h 471 c (iOr (h 471 c) (iShl 1 w))) n (iAnd op (iXor (iShl 1 w) (-1))) (max u (c + 1)) := by
    refine ⟨⟨S20_and H.1.1, fun p z => H.1.2 p ((bt_less (by omega)).mp z).1⟩, by have := H.2.1; omega, by rw [am_up_ne (by omega)]; exact h2, fun j a b => ?_, fun j p a b z => ?_, fun p a b z => ?_, fun j j' p a b a' b' z z' => ?_⟩
    · by_cases e : j = c
      · rw [e, am_up_eq]
        exact S20_or (H.2.2.2.1 c (by omega) (by omega)) (S20_1 (by omega) (by omega))
      · rw [am_up_n2 (by omega)]
        exact H.2.2.2.1 j a b
    · rw [bt_less (by omega)]
      rcases (hx j p a b).mp z with y | y
      · have k := H.2.2.2.2.1 j p a b y
        exact ⟨fun v => k.1 v.1, k.2.1, by omega⟩
      · exact ⟨fun v => v.2 y.2, by omega, by omega⟩
    · by_cases e : p = w
      · exact ⟨c, by omega, (hx c p (by omega) (by omega)).mpr (Or.inr ⟨rfl, e⟩)⟩
      · obtain ⟨j, j1, j2⟩ := H.2.2.2.2.2.1 p a b (fun v => z ((bt_less (by omega)).mpr ⟨v, e⟩))
        exact ⟨j, j1, (hx j p j1.1 j1.2).mpr (Or.inl j2)⟩
    · have no : ∀ j, 0 ≤ j → j < 21 → bit (h 471 j) p → p ≠ w := fun j a b y e => (H.2.2.2.2.1 j p a b y).1 (e ▸ hb)
      rcases (hx j p a b).mp z with y | y
      · rcases (hx j' p a' b').mp z' with y' | y'
        · exact H.2.2.2.2.2.2 j j' p a b a' b' y y'
        · exact absurd y'.2 (no j a b y)
      · rcases (hx j' p a' b').mp z' with y' | y'
        · exact absurd y.2 (no j' a' b' y')
        · omega
  refine ⟨G, fun p a b z => ?_⟩
  by_cases e : p = w
  · rw [e, up1_eq]
    exact colp_is G (by omega) (by omega) ((hx c w (by omega) (by omega)).mpr (Or.inr ⟨rfl, rfl⟩))
  · have ho : ¬ bit op p := fun y => z ⟨y, e⟩
    have k := colp_bt H ⟨a, b⟩ ho
    have := H.2.1
    rw [up1_ne e]
    exact colp_is G (by omega) (by omega) ((hx _ p (by omega) (by omega)).mpr (Or.inl k.1))
theorem pn_back {h : am_H} {n op u w c : Int} (H : PNT h n op u) (hb : bit op w) (hw : 0 ≤ w ∧ w < 20) (hc : 0 ≤ c ∧ c < 21) : am_up (am_up h 471 c (iOr (h 471 c) (iShl 1 w))) 471 c (iAnd (am_up h 471 c (iOr (h 471 c) (iShl 1 w)) 471 c) (iXor (iShl 1 w) (-1))) = h := by
  funext x i
  by_cases e : x = 471 ∧ i = c
  · rw [e.1, e.2, am_up_eq, am_up_eq]
    have s := H.2.2.2.1 c hc.1 hc.2
    refine bt_ext (rg_and _ _) (by have := s.1; have := s.2; unfold R32; omega) (fun k _ _ => ?_)
    rw [bt_less (by omega), bt_or, bt_1 (by omega) (by omega)]
    constructor
    · intro z
      exact z.1.elim id (fun y => absurd y z.2)
    · intro z
      exact ⟨Or.inl z, fun y => (H.2.2.2.2.1 c k hc.1 hc.2 z).1 (y ▸ hb)⟩
  · rw [am_up_n2 e, am_up_n2 e]
/-- what one more colour for the chosen point comes to -/
theorem pn_c {h : am_H} {n op u w c : Int} {r : Int → Int} (H : PNT h n op u) (hN : NT n r) (hw : 0 ≤ w ∧ w < n) (hc : 0 ≤ c ∧ c ≤ u) : iAnd (r w) (h 471 c) = 0 ↔ ∀ q, (0 ≤ q ∧ q < n) → ¬ bit op q → ad r w q → colp h q ≠ c := by
  have hu := H.2.1
  have s := H.2.2.2.1 c hc.1 (by omega)
  have s2 : S20 (iAnd (r w) (h 471 c)) := S20_of (rg_and _ _) (fun j hj => (S20_in s (bt_and.mp hj).2).2)
  rw [S20_z s2]
  constructor
  · intro z q a b e v
    have k := colp_bt H a b
    rw [v] at k
    exact z q (bt_and.mpr ⟨e, k.1⟩)
  · intro z q v
    rw [bt_and] at v
    have k := H.2.2.2.2.1 c q hc.1 (by omega) v.2
    exact z q ⟨v.2.1, k.2.1⟩ k.1 v.1 (colp_is H hc.1 (by omega) v.2)
/-! 37 FactorNets$Painter.barred -/
def C37 : am_K := fun as h K => am_a3 as (fun v0 v1 v2 => am_oc 4 470 v0 (am_n v1 (fun row => am_n v2 (fun used => (0 ≤ used ∧ used ≤ 20) ∧ (∀ (w : Int), 0 ≤ w ∧ w ≤ 20 → K (some (mB (w))) h)))))
theorem W37 {d : Nat} (H : ∀ (row : Int) (used : Int) (h : am_H) (K : Option am_V → am_H → Prop), (0 ≤ used ∧ used ≤ 20) ∧ (∀ (w : Int), 0 ≤ w ∧ w ≤ 20 → K (some (mB (w))) h) → am_AT d 37 0 [some (mR 1 4 0 470), some (mB row), some (mB used), none, none] h K) : am_CS d 37 C37 := by
  refine am_CS_of (T := tb37) (mL := 5) (rk := 1) rfl (fun as h K hC => ?_)
  obtain ⟨v0, v1, v2, rfl, hC0⟩ := am_a3_e hC
  obtain ⟨e0, hC1⟩ := am_oc_e hC0
  subst e0
  obtain ⟨row, rfl, hC2⟩ := am_n_e hC1
  obtain ⟨used, rfl, hC3⟩ := am_n_e hC2
  refine ⟨Nat.le_of_ble_eq_true rfl, ?_⟩
  exact H row used h K hC3
theorem T37_0 {R : Option am_V → am_H → Prop} {h : am_H} {row : Int} {used : Int} (t : am_AT 1 37 5 [some (mR 1 4 0 470), some (mB row), some (mB used), some (mI 0), some (mI 0)] h R) : am_AT 1 37 0 [some (mR 1 4 0 470), some (mB row), some (mB used), none, none] h R :=
  am_T (d := 0) (m := 37) (T := tb37) (mL := 5) (rk := 1) (cuts := [(5, [1, 1, 1, 2, 2])]) (l := []) rfl trivial 8 (t)
theorem T37_5 {R : Option am_V → am_H → Prop} {h : am_H} {row : Int} {used : Int} {x3 : Int} {x4 : Int} (t : (R32 x4) ∧ (((used ≤ x4) → ((R32 x3) ∧ (R (some (mB x3)) h))) ∧ ((x4 < used) → ((0 ≤ x4 ∧ x4 < 21) ∧ (((iAnd row (h 471 x4) = 0) → (am_AT 1 37 5 [some (mR 1 4 0 470), some (mB row), some (mB used), some (mI x3), some (mI (x4 + 1))] h R)) ∧ ((¬ iAnd row (h 471 x4) = 0) → (am_AT 1 37 5 [some (mR 1 4 0 470), some (mB row), some (mB used), some (mI (x3 + 1)), some (mI (x4 + 1))] h R))))))) : am_AT 1 37 5 [some (mR 1 4 0 470), some (mB row), some (mB used), some (mI x3), some (mI x4)] h R :=
  am_T (d := 0) (m := 37) (T := tb37) (mL := 5) (rk := 1) (cuts := [(5, [1, 1, 1, 2, 2])]) (l := []) rfl trivial 17 (And.intro (t).1 (And.intro (fun c1 => And.intro (((t).2).1 c1).1 ((((t).2).1 c1).2)) (fun c1 => And.intro (((t).2).2 c1).1 (And.intro (fun c2 => ((((t).2).2 c1).2).1 c2) (fun c2 => ((((t).2).2 c1).2).2 c2)))))
theorem L37 {K : Option am_V → am_H → Prop} {h : am_H} {row used : Int} (hu : 0 ≤ used ∧ used ≤ 20) (hK : ∀ w : Int, 0 ≤ w ∧ w ≤ 20 → K (some (mB w)) h) : ∀ i, ∀ x : Int, 0 ≤ i → i ≤ used → 0 ≤ x → x ≤ i → am_AT 1 37 5 [some (mR 1 4 0 470), some (mB row), some (mB used), some (mI x), some (mI i)] h K := by
  refine lp used (fun i ih x i0 i1 x0 x1 => ?_)
  refine T37_5 ⟨by omega, ⟨fun c1 => ⟨by omega, ?_⟩, fun c1 => ⟨by omega, ⟨fun c2 => ?_, fun c2 => ?_⟩⟩⟩⟩
  · exact hK x (by omega)
  · exact ih (by omega) _ (by omega) (by omega) (by omega) (by omega)
  · exact ih (by omega) _ (by omega) (by omega) (by omega) (by omega)
theorem C37_ok : am_CS 1 37 C37 := W37 (fun row used h K hb => T37_0 (L37 hb.1 hb.2 0 0 (by omega) (by omega) (by omega) (by omega)))
/-! 36 FactorNets$Painter.tightest -/
def C36 : am_K := fun as h K => am_a4 as (fun v0 v1 v2 v3 => am_oc 4 470 v0 (am_o 3 v1 (fun o => am_n v2 (fun op => am_n v3 (fun used => ((NT (h o 0) (nr h (o + 1) 0) ∧ (∀ y9, 0 ≤ y9 → y9 < 20 → S20 (h (o + 1) y9))) ∧ (0 ≤ used ∧ used ≤ 20) ∧ (∃ y9, bit op y9 ∧ 0 ≤ y9 ∧ y9 < h o 0)) ∧ (∀ (w : Int), bit op w ∧ (0 ≤ w ∧ w < h o 0) → K (some (mB (w))) h))))))
theorem W36 {d : Nat} (H : ∀ (o : Int) (op : Int) (used : Int) (h : am_H) (K : Option am_V → am_H → Prop), ((NT (h o 0) (nr h (o + 1) 0) ∧ (∀ y9, 0 ≤ y9 → y9 < 20 → S20 (h (o + 1) y9))) ∧ (0 ≤ used ∧ used ≤ 20) ∧ (∃ y9, bit op y9 ∧ 0 ≤ y9 ∧ y9 < h o 0)) ∧ (∀ (w : Int), bit op w ∧ (0 ≤ w ∧ w < h o 0) → K (some (mB (w))) h) → am_AT d 36 0 [some (mR 1 4 0 470), some (mR 1 3 0 o), some (mB op), some (mB used), none, none, none, none] h K) : am_CS d 36 C36 := by
  refine am_CS_of (T := tb36) (mL := 8) (rk := 1) rfl (fun as h K hC => ?_)
  obtain ⟨v0, v1, v2, v3, rfl, hC0⟩ := am_a4_e hC
  obtain ⟨e0, hC1⟩ := am_oc_e hC0
  subst e0
  obtain ⟨o, rfl, hC2⟩ := am_o_e hC1
  obtain ⟨op, rfl, hC3⟩ := am_n_e hC2
  obtain ⟨used, rfl, hC4⟩ := am_n_e hC3
  refine ⟨Nat.le_of_ble_eq_true rfl, ?_⟩
  exact H o op used h K hC4
theorem T36_0 {R : Option am_V → am_H → Prop} {h : am_H} {o : Int} {op : Int} {used : Int} (t : am_AT 2 36 9 [some (mR 1 4 0 470), some (mR 1 3 0 o), some (mB op), some (mB used), some (mI 0), some (mI (-1)), some (mI 0), none] h R) : am_AT 2 36 0 [some (mR 1 4 0 470), some (mR 1 3 0 o), some (mB op), some (mB used), none, none, none, none] h R :=
  am_T (d := 1) (m := 36) (T := tb36) (mL := 8) (rk := 1) (cuts := [(9, [1, 1, 1, 1, 2, 2, 2, 0])]) (l := [(37, C37), (317, C317)]) rfl ⟨am_CS_d (by decide) C37_ok, am_CS_d (by decide) C317_ok, trivial⟩ 10 (t)
theorem T36_9 {R : Option am_V → am_H → Prop} {h : am_H} {o : Int} {op : Int} {used : Int} {x4 : Int} {x5 : Int} {x6 : Int} (t : (R32 x6) ∧ (((h o 0 ≤ x6) → ((R32 x4) ∧ (R (some (mB x4)) h))) ∧ ((x6 < h o 0) → (((iAnd (iShr op x6) 1 = 0) → (am_AT 2 36 9 [some (mR 1 4 0 470), some (mR 1 3 0 o), some (mB op), some (mB used), some (mI x4), some (mI x5), some (mI (x6 + 1)), none] h R)) ∧ ((¬ iAnd (iShr op x6) 1 = 0) → ((0 ≤ x6 ∧ x6 < 20) ∧ ((0 ≤ used ∧ used ≤ 20) ∧ (∀ (w : Int), (0 ≤ w ∧ w ≤ 20) → ((0 ≤ x6 ∧ x6 < 20) ∧ ((0 ≤ (iAnd (h (o + 1) x6) op) ∧ (iAnd (h (o + 1) x6) op) < 2147483648) ∧ ((R32 ((w * 32) + (iPop (iAnd (h (o + 1) x6) op)))) ∧ ((R32 x5) ∧ ((((w * 32) + (iPop (iAnd (h (o + 1) x6) op)) ≤ x5) → (am_AT 2 36 9 [some (mR 1 4 0 470), some (mR 1 3 0 o), some (mB op), some (mB used), some (mI x4), some (mI x5), some (mI (x6 + 1)), none] h R)) ∧ ((x5 < (w * 32) + (iPop (iAnd (h (o + 1) x6) op))) → (am_AT 2 36 9 [some (mR 1 4 0 470), some (mR 1 3 0 o), some (mB op), some (mB used), some (mI x6), some (mI ((w * 32) + (iPop (iAnd (h (o + 1) x6) op)))), some (mI (x6 + 1)), none] h R))))))))))))))) : am_AT 2 36 9 [some (mR 1 4 0 470), some (mR 1 3 0 o), some (mB op), some (mB used), some (mI x4), some (mI x5), some (mI x6), none] h R :=
  am_T (d := 1) (m := 36) (T := tb36) (mL := 8) (rk := 1) (cuts := [(9, [1, 1, 1, 1, 2, 2, 2, 0])]) (l := [(37, C37), (317, C317)]) rfl ⟨am_CS_d (by decide) C37_ok, am_CS_d (by decide) C317_ok, trivial⟩ 41 (And.intro (t).1 (And.intro (fun c3 => And.intro (((t).2).1 c3).1 ((((t).2).1 c3).2)) (fun c3 => And.intro (fun c4 => (((t).2).2 c3).1 c4) (fun c4 => And.intro ((((t).2).2 c3).2 c4).1 (And.intro (rfl) (And.intro (((((t).2).2 c3).2 c4).2).1 (fun z1_0 z1_1 => And.intro (((((((t).2).2 c3).2 c4).2).2) z1_0 z1_1).1 (And.intro ((((((((t).2).2 c3).2 c4).2).2) z1_0 z1_1).2).1 (And.intro (((((((((t).2).2 c3).2 c4).2).2) z1_0 z1_1).2).2).1 (And.intro ((((((((((t).2).2 c3).2 c4).2).2) z1_0 z1_1).2).2).2).1 (And.intro (fun c5 => (((((((((((t).2).2 c3).2 c4).2).2) z1_0 z1_1).2).2).2).2).1 c5) (fun c5 => (((((((((((t).2).2 c3).2 c4).2).2) z1_0 z1_1).2).2).2).2).2 c5))))))))))))
theorem L36 {K : Option am_V → am_H → Prop} {h : am_H} {o op used : Int} (hN : NT (h o 0) (nr h (o + 1) 0)) (hR : ∀ y9, 0 ≤ y9 → y9 < 20 → S20 (h (o + 1) y9)) (hu : 0 ≤ used ∧ used ≤ 20) {y : Int} (hy : bit op y ∧ 0 ≤ y ∧ y < h o 0) (hK : ∀ w : Int, bit op w ∧ (0 ≤ w ∧ w < h o 0) → K (some (mB w)) h) : ∀ i, ∀ b m : Int, 0 ≤ i → i ≤ h o 0 → ((b = 0 ∧ m = -1 ∧ i ≤ y) ∨ (bit op b ∧ (0 ≤ b ∧ b < h o 0) ∧ (0 ≤ m ∧ m ≤ 700))) → am_AT 2 36 9 [some (mR 1 4 0 470), some (mR 1 3 0 o), some (mB op), some (mB used), some (mI b), some (mI m), some (mI i), none] h K := by
  have hn1 := hN.1
  have hn2 := hN.2.1
  refine lp (h o 0) (fun i ih b m i0 i1 hv => ?_)
  have hb : 0 ≤ b ∧ b < 20 := by rcases hv with v | v <;> omega
  have hm : -1 ≤ m ∧ m ≤ 700 := by rcases hv with v | v <;> omega
  have pp : i < h o 0 → 0 ≤ iPop (iAnd (h (o + 1) i) op) ∧ iPop (iAnd (h (o + 1) i) op) ≤ 20 ∧ S20 (iAnd (h (o + 1) i) op) := fun a => by
    have s := S20_and (y := op) (hR i i0 (by omega))
    have := ct_le (bit (iAnd (h (o + 1) i) op)) 20
    rw [← iPop_20 s] at this
    exact ⟨this.1, this.2, s⟩
  refine T36_9 ⟨by omega, ⟨fun c1 => ⟨by omega, ?_⟩, fun c1 => ⟨fun c2 => ?_, fun c2 => ⟨by omega, ⟨by omega, fun w q3 => ⟨by omega, ⟨by have t := (pp (by omega)).2.2; have := t.1; have := t.2; omega, ⟨by have := pp (by omega); unfold R32; omega, ⟨by omega, ⟨fun c4 => ?_, fun c4 => ?_⟩⟩⟩⟩⟩⟩⟩⟩⟩⟩
  · rcases hv with v | v
    · omega
    · exact hK b ⟨v.1, v.2.1⟩
  · refine ih (by omega) b m (by omega) (by omega) ?_
    rcases hv with v | v
    · refine Or.inl ⟨v.1, v.2.1, ?_⟩
      have : i ≠ y := fun e => (bt_has0 i0 (by omega)).mp c2 (e ▸ hy.1)
      omega
    · exact Or.inr v
  · refine ih (by omega) b m (by omega) (by omega) ?_
    have := pp (by omega)
    rcases hv with v | v
    · omega
    · exact Or.inr v
  · have := pp (by omega)
    exact ih (by omega) _ _ (by omega) (by omega) (Or.inr ⟨Classical.byContradiction fun u => c2 ((bt_has0 i0 (by omega)).mpr u), by omega, by omega⟩)
theorem C36_ok : am_CS 2 36 C36 := W36 (fun o op used h K hb => by
  obtain ⟨⟨⟨hN, hR⟩, hu, y, hy⟩, hK⟩ := hb
  exact T36_0 (L36 hN hR hu hy hK 0 0 (-1) (by omega) hN.1 (Or.inl ⟨rfl, rfl, hy.2.1⟩)))
/-! 35 FactorNets$Painter.paint -/
def C35 (f : Nat) : am_K := fun as h K => am_a5 as (fun v0 v1 v2 v3 v4 => am_oc 4 470 v0 (am_o 3 v1 (fun o => am_n v2 (fun dp => am_n v3 (fun op => am_n v4 (fun used => ((o ≠ 470 ∧ ((o + 1) : Int) ≠ 471 ∧ o ≠ 471) ∧ (NT (h o 0) (nr h (o + 1) 0) ∧ (∀ y9, 0 ≤ y9 → y9 < 20 → S20 (h (o + 1) y9))) ∧ PNT h (h o 0) op used ∧ (0 ≤ dp ∧ dp + iPop op ≤ 20 ∧ iPop op < f)) ∧ (∀ (h' : am_H), (∀ x9 i9, x9 ≠ 471 → h' x9 i9 = h x9 i9) ∧ (¬ ext (fun y9 => 0 ≤ y9 ∧ y9 < h o 0) (bit op) (ad (nr h (o + 1) 0)) (colp h) (h 470 1) → h' = h) → K (some (mP (ext (fun y9 => 0 ≤ y9 ∧ y9 < h o 0) (bit op) (ad (nr h (o + 1) 0)) (colp h) (h 470 1)))) (h'))))))))
theorem W35 {d : Nat} (f : Nat) (H : ∀ (o : Int) (dp : Int) (op : Int) (used : Int) (h : am_H) (K : Option am_V → am_H → Prop), ((o ≠ 470 ∧ ((o + 1) : Int) ≠ 471 ∧ o ≠ 471) ∧ (NT (h o 0) (nr h (o + 1) 0) ∧ (∀ y9, 0 ≤ y9 → y9 < 20 → S20 (h (o + 1) y9))) ∧ PNT h (h o 0) op used ∧ (0 ≤ dp ∧ dp + iPop op ≤ 20 ∧ iPop op < f)) ∧ (∀ (h' : am_H), (∀ x9 i9, x9 ≠ 471 → h' x9 i9 = h x9 i9) ∧ (¬ ext (fun y9 => 0 ≤ y9 ∧ y9 < h o 0) (bit op) (ad (nr h (o + 1) 0)) (colp h) (h 470 1) → h' = h) → K (some (mP (ext (fun y9 => 0 ≤ y9 ∧ y9 < h o 0) (bit op) (ad (nr h (o + 1) 0)) (colp h) (h 470 1)))) (h')) → am_AT d 35 0 [some (mR 1 4 0 470), some (mR 1 3 0 o), some (mB dp), some (mB op), some (mB used), none, none, none] h K) : am_CS d 35 (C35 f) := by
  refine am_CS_of (T := tb35) (mL := 8) (rk := 4) rfl (fun as h K hC => ?_)
  obtain ⟨v0, v1, v2, v3, v4, rfl, hC0⟩ := am_a5_e hC
  obtain ⟨e0, hC1⟩ := am_oc_e hC0
  subst e0
  obtain ⟨o, rfl, hC2⟩ := am_o_e hC1
  obtain ⟨dp, rfl, hC3⟩ := am_n_e hC2
  obtain ⟨op, rfl, hC4⟩ := am_n_e hC3
  obtain ⟨used, rfl, hC5⟩ := am_n_e hC4
  refine ⟨Nat.le_of_ble_eq_true rfl, ?_⟩
  exact H o dp op used h K hC5
theorem T35_0 {R : Option am_V → am_H → Prop} {h : am_H} {o : Int} {dp : Int} {op : Int} {used : Int} {d f : Nat} (hd : 2 ≤ d) (hr : am_CS d 35 (C35 f)) (t : ((¬ op = 0) → (((dp < 20) → (((NT (h o 0) (nr h (o + 1) 0) ∧ (∀ y9, 0 ≤ y9 → y9 < 20 → S20 (h (o + 1) y9))) ∧ (0 ≤ used ∧ used ≤ 20) ∧ (∃ y9, bit op y9 ∧ 0 ≤ y9 ∧ y9 < h o 0)) ∧ (∀ (w : Int), (bit op w ∧ (0 ≤ w ∧ w < h o 0)) → (am_AT (d + 1) 35 33 [some (mR 1 4 0 470), some (mR 1 3 0 o), some (mB dp), some (mB op), some (mB used), some (mI w), some (mI (iShl 1 w)), some (mI 0)] h R)))) ∧ ((20 ≤ dp) → (R (some (mP ((0 : Int) = 1))) h)))) ∧ ((op = 0) → (R (some (mP ((1 : Int) = 1))) h))) : am_AT (d + 1) 35 0 [some (mR 1 4 0 470), some (mR 1 3 0 o), some (mB dp), some (mB op), some (mB used), none, none, none] h R :=
  am_T (d := d) (m := 35) (T := tb35) (mL := 8) (rk := 4) (cuts := [(33, [1, 1, 1, 1, 1, 2, 2, 2])]) (l := [(35, (C35 f)), (36, C36)]) rfl ⟨hr, am_CS_d (Nat.le_trans (by decide) hd) C36_ok, trivial⟩ 21 (And.intro (fun c6 => And.intro (fun c7 => And.intro (rfl) (And.intro (((t).1 c6).1 c7).1 (fun z2_0 z2_1 => ((((t).1 c6).1 c7).2) z2_0 z2_1))) (fun c7 => And.intro (Or.inl rfl) (((t).1 c6).2 c7))) (fun c6 => And.intro (Or.inr rfl) ((t).2 c6)))
theorem T35_33 {R : Option am_V → am_H → Prop} {h : am_H} {o : Int} {dp : Int} {op : Int} {used : Int} {x5 : Int} {x6 : Int} {x7 : Int} {d f : Nat} (hd : 2 ≤ d) (hr : am_CS d 35 (C35 f)) (t : (R32 x7) ∧ (((used < x7) → (R (some (mP ((0 : Int) = 1))) h)) ∧ ((x7 ≤ used) → ((R32 x7) ∧ (((h 470 1 ≤ x7) → (R (some (mP ((0 : Int) = 1))) h)) ∧ ((x7 < h 470 1) → ((0 ≤ x5 ∧ x5 < 20) ∧ ((0 ≤ x7 ∧ x7 < 21) ∧ (((¬ iAnd (h (o + 1) x5) (h 471 x7) = 0) → (am_AT (d + 1) 35 33 [some (mR 1 4 0 470), some (mR 1 3 0 o), some (mB dp), some (mB op), some (mB used), some (mI x5), some (mI x6), some (mI (x7 + 1))] h R)) ∧ ((iAnd (h (o + 1) x5) (h 471 x7) = 0) → ((0 ≤ x7 ∧ x7 < 21) ∧ ((0 ≤ x7 ∧ x7 < 21) ∧ ((R32 (x7 + 1)) ∧ ((R32 (dp + 1)) ∧ (((o ≠ 470 ∧ ((o + 1) : Int) ≠ 471 ∧ o ≠ 471) ∧ (NT ((am_up h 471 x7 (iOr (h 471 x7) x6)) o 0) (nr (am_up h 471 x7 (iOr (h 471 x7) x6)) (o + 1) 0) ∧ (∀ y9, 0 ≤ y9 → y9 < 20 → S20 ((am_up h 471 x7 (iOr (h 471 x7) x6)) (o + 1) y9))) ∧ PNT (am_up h 471 x7 (iOr (h 471 x7) x6)) ((am_up h 471 x7 (iOr (h 471 x7) x6)) o 0) (iAnd op (iXor x6 (-1))) (max used (x7 + 1)) ∧ (0 ≤ (dp + 1) ∧ (dp + 1) + iPop (iAnd op (iXor x6 (-1))) ≤ 20 ∧ iPop (iAnd op (iXor x6 (-1))) < f)) ∧ (∀ (h' : am_H), ((∀ x9 i9, x9 ≠ 471 → h' x9 i9 = (am_up h 471 x7 (iOr (h 471 x7) x6)) x9 i9) ∧ (¬ ext (fun y9 => 0 ≤ y9 ∧ y9 < (am_up h 471 x7 (iOr (h 471 x7) x6)) o 0) (bit (iAnd op (iXor x6 (-1)))) (ad (nr (am_up h 471 x7 (iOr (h 471 x7) x6)) (o + 1) 0)) (colp (am_up h 471 x7 (iOr (h 471 x7) x6))) ((am_up h 471 x7 (iOr (h 471 x7) x6)) 470 1) → h' = (am_up h 471 x7 (iOr (h 471 x7) x6)))) → (((¬ (ext (fun y9 => 0 ≤ y9 ∧ y9 < (am_up h 471 x7 (iOr (h 471 x7) x6)) o 0) (bit (iAnd op (iXor x6 (-1)))) (ad (nr (am_up h 471 x7 (iOr (h 471 x7) x6)) (o + 1) 0)) (colp (am_up h 471 x7 (iOr (h 471 x7) x6))) ((am_up h 471 x7 (iOr (h 471 x7) x6)) 470 1))) → ((0 ≤ x7 ∧ x7 < 21) ∧ ((0 ≤ x7 ∧ x7 < 21) ∧ (am_AT (d + 1) 35 33 [some (mR 1 4 0 470), some (mR 1 3 0 o), some (mB dp), some (mB op), some (mB used), some (mI x5), some (mI x6), some (mI (x7 + 1))] (am_up h' 471 x7 (iAnd (h' 471 x7) (iXor x6 (-1)))) R)))) ∧ ((ext (fun y9 => 0 ≤ y9 ∧ y9 < (am_up h 471 x7 (iOr (h 471 x7) x6)) o 0) (bit (iAnd op (iXor x6 (-1)))) (ad (nr (am_up h 471 x7 (iOr (h 471 x7) x6)) (o + 1) 0)) (colp (am_up h 471 x7 (iOr (h 471 x7) x6))) ((am_up h 471 x7 (iOr (h 471 x7) x6)) 470 1)) → (R (some (mP ((1 : Int) = 1))) h'))))))))))))))))))) : am_AT (d + 1) 35 33 [some (mR 1 4 0 470), some (mR 1 3 0 o), some (mB dp), some (mB op), some (mB used), some (mI x5), some (mI x6), some (mI x7)] h R :=
  am_T (d := d) (m := 35) (T := tb35) (mL := 8) (rk := 4) (cuts := [(33, [1, 1, 1, 1, 1, 2, 2, 2])]) (l := [(35, (C35 f)), (36, C36)]) rfl ⟨hr, am_CS_d (Nat.le_trans (by decide) hd) C36_ok, trivial⟩ 58 (And.intro (t).1 (And.intro (fun c8 => And.intro (Or.inl rfl) (((t).2).1 c8)) (fun c8 => And.intro (((t).2).2 c8).1 (And.intro (fun c9 => And.intro (Or.inl rfl) (((((t).2).2 c8).2).1 c9)) (fun c9 => And.intro (((((t).2).2 c8).2).2 c9).1 (And.intro ((((((t).2).2 c8).2).2 c9).2).1 (And.intro (fun c10 => (((((((t).2).2 c8).2).2 c9).2).2).1 c10) (fun c10 => And.intro ((((((((t).2).2 c8).2).2 c9).2).2).2 c10).1 (And.intro (((((((((t).2).2 c8).2).2 c9).2).2).2 c10).2).1 (And.intro ((((((((((t).2).2 c8).2).2 c9).2).2).2 c10).2).2).1 (And.intro (((((((((((t).2).2 c8).2).2 c9).2).2).2 c10).2).2).2).1 (And.intro (rfl) (And.intro ((((((((((((t).2).2 c8).2).2 c9).2).2).2 c10).2).2).2).2).1 (fun z3_0 z3_1 => And.intro (fun c11 => And.intro (((((((((((((((t).2).2 c8).2).2 c9).2).2).2 c10).2).2).2).2).2) z3_0 z3_1).1 c11).1 (And.intro ((((((((((((((((t).2).2 c8).2).2 c9).2).2).2 c10).2).2).2).2).2) z3_0 z3_1).1 c11).2).1 (((((((((((((((((t).2).2 c8).2).2 c9).2).2).2 c10).2).2).2).2).2) z3_0 z3_1).1 c11).2).2))) (fun c11 => And.intro (Or.inr rfl) (((((((((((((((t).2).2 c8).2).2 c9).2).2).2 c10).2).2).2).2).2) z3_0 z3_1).2 c11))))))))))))))))
theorem L35 {d f : Nat} (hd : 2 ≤ d) (hr : am_CS d 35 (C35 f)) {K : Option am_V → am_H → Prop} {h : am_H} {o dp op used w : Int} (ho : o ≠ 470 ∧ (o + 1) ≠ 471 ∧ o ≠ 471) (hN : NT (h o 0) (nr h (o + 1) 0)) (hR : ∀ y9, 0 ≤ y9 → y9 < 20 → S20 (h (o + 1) y9)) (H : PNT h (h o 0) op used) (hf : 0 ≤ dp ∧ dp + iPop op ≤ 20 ∧ iPop op < (f + 1 : Nat)) (hb : bit op w) (hw : 0 ≤ w ∧ w < h o 0) (hK : ∀ h' : am_H, ((∀ x9 i9, x9 ≠ 471 → h' x9 i9 = h x9 i9) ∧ (¬ ext (fun y9 => 0 ≤ y9 ∧ y9 < h o 0) (bit op) (ad (nr h (o + 1) 0)) (colp h) (h 470 1) → h' = h)) → K (some (mP (ext (fun y9 => 0 ≤ y9 ∧ y9 < h o 0) (bit op) (ad (nr h (o + 1) 0)) (colp h) (h 470 1)))) h') : ∀ c, 0 ≤ c → c ≤ used + 1 → (∀ j, 0 ≤ j → j < c → ¬ exG (fun y9 => 0 ≤ y9 ∧ y9 < h o 0) (bit op) (ad (nr h (o + 1) 0)) (colp h) (h 470 1) w j) → am_AT (d + 1) 35 33 [some (mR 1 4 0 470), some (mR 1 3 0 o), some (mB dp), some (mB op), some (mB used), some (mI w), some (mI (iShl 1 w)), some (mI c)] h K := by
  have hn2 := hN.2.1
  have hu := H.2.1
  have hl := H.2.2.1
  have st := ext_step (S := fun y9 => 0 ≤ y9 ∧ y9 < h o 0) (O := bit op) (E := ad (nr h (o + 1) 0)) (col := colp h) (m := h 470 1) (pt := w) (u := used) (NT_sym hN) (fun p q e => (hN.2.2 p q e).2.2.1) hw hb hu.1 (fun p a b => (colp_bt H a b).2)
  have pl := iPop_less H.1.1 hb
  have pg : 0 ≤ iPop (iAnd op (iXor (iShl 1 w) (-1))) := (ct_le _ 32).1
  refine lp (used + 1) (fun c ih c0 c1' hno => ?_)
  have nx : c ≤ used → ¬ exG (fun y9 => 0 ≤ y9 ∧ y9 < h o 0) (bit op) (ad (nr h (o + 1) 0)) (colp h) (h 470 1) w c → am_AT (d + 1) 35 33 [some (mR 1 4 0 470), some (mR 1 3 0 o), some (mB dp), some (mB op), some (mB used), some (mI w), some (mI (iShl 1 w)), some (mI (c + 1))] h K := fun a b => ih (by omega) (by omega) (by omega) (fun j j0 j1 => by
    by_cases e : j = c
    · rw [e]; exact b
    · exact hno j j0 (by omega))
  have hh : iAnd (h (o + 1) w) (h 471 c) = iAnd (nr h (o + 1) 0 w) (h 471 c) := by rw [nr_in0 hw.1 (by omega)]
  have up : c ≤ used → c < h 470 1 → _ := fun a b => pn_up (c := c) H hb hw ⟨c0, a⟩ b hn2
  have f0 : (am_up h 471 c (iOr (h 471 c) (iShl 1 w))) o 0 = h o 0 := am_up_ne (by omega)
  have f1 : nr (am_up h 471 c (iOr (h 471 c) (iShl 1 w))) (o + 1) 0 = nr h (o + 1) 0 := nr_fr2 (fun i => am_up_ne (by omega))
  have f2 : (am_up h 471 c (iOr (h 471 c) (iShl 1 w))) 470 1 = h 470 1 := am_up_ne (by omega)
  have xe : c ≤ used → c < h 470 1 → (ext (fun y9 => 0 ≤ y9 ∧ y9 < (am_up h 471 c (iOr (h 471 c) (iShl 1 w))) o 0) (bit (iAnd op (iXor (iShl 1 w) (-1)))) (ad (nr (am_up h 471 c (iOr (h 471 c) (iShl 1 w))) (o + 1) 0)) (colp (am_up h 471 c (iOr (h 471 c) (iShl 1 w)))) ((am_up h 471 c (iOr (h 471 c) (iShl 1 w))) 470 1) ↔ ext (fun y9 => 0 ≤ y9 ∧ y9 < h o 0) (fun p => bit op p ∧ p ≠ w) (ad (nr h (o + 1) 0)) (up1 (colp h) w c) (h 470 1)) := fun a b => by
    rw [f0, f1, f2]
    exact ext_congr (fun p _ => bt_less (by omega)) (fun p s z => (up a b).2 p s.1 s.2 (fun y => z ((bt_less (by omega)).mpr y)))
  refine T35_33 hd hr ⟨by omega, ⟨fun c1 => ?_, fun c1 => ⟨by omega, ⟨fun c2 => ?_, fun c2 => ⟨by omega, ⟨by omega, ⟨fun c3 => ?_, fun c3 => ⟨by omega, ⟨by omega, ⟨by omega, ⟨by omega, ⟨by
    rw [f0, f1]
    refine ⟨ho, ⟨hN, fun y a b => by rw [am_up_ne (by omega)]; exact hR y a b⟩, (up (by omega) (by omega)).1, by omega, by omega, by omega⟩, fun h' q4 => ⟨fun c5 => ⟨by omega, ⟨by omega, ?_⟩⟩, fun c5 => ?_⟩⟩⟩⟩⟩⟩⟩⟩⟩⟩⟩⟩⟩
  · exact am_rb0 (hK h ⟨fun _ _ _ => rfl, fun _ => rfl⟩) (fun z => by
      obtain ⟨j, j1, j2⟩ := st.mp z
      exact hno j j1.1 (by omega) j2)
  · exact am_rb0 (hK h ⟨fun _ _ _ => rfl, fun _ => rfl⟩) (fun z => by
      obtain ⟨j, j1, j2⟩ := st.mp z
      exact hno j j1.1 (by omega) j2)
  · rw [hh] at c3
    exact nx (by omega) (fun z => c3 ((pn_c H hN hw ⟨c0, by omega⟩).mpr z.1))
  · rw [q4.2 c5, pn_back H hb (by omega) (by omega)]
    exact nx (by omega) (fun z => c5 ((xe (by omega) (by omega)).mpr z.2))
  · rw [hh] at c3
    have g : ext (fun y9 => 0 ≤ y9 ∧ y9 < h o 0) (bit op) (ad (nr h (o + 1) 0)) (colp h) (h 470 1) := st.mpr (exA_i ⟨c0, by omega, by omega⟩ ⟨(pn_c H hN hw ⟨c0, by omega⟩).mp c3, (xe (by omega) (by omega)).mp c5⟩)
    exact am_rb1 (hK h' ⟨fun x i hx => by rw [q4.1 x i hx, am_up_ne hx], fun z => absurd g z⟩) g
theorem C35_ok : ∀ f : Nat, am_CS (f + 3) 35 (C35 f)
  | 0 => W35 0 (fun o dp op used h K hb => by
    have h1 : 0 ≤ iPop op := (ct_le _ 32).1
    have h2 := hb.1.2.2.2.2.2
    exfalso
    omega)
  | f + 1 => W35 (f + 1) (fun o dp op used h K hb => by
    obtain ⟨⟨ho, ⟨hN, hR⟩, H, hf⟩, hK⟩ := hb
    have hr := C35_ok f
    have hd : 2 ≤ f + 3 := by omega
    have hn2 := hN.2.1
    have ex : op ≠ 0 → ∃ y9, bit op y9 ∧ 0 ≤ y9 ∧ y9 < h o 0 := fun z => ⟨iLow op, (S20_low H.1.1 z).1, (S20_low H.1.1 z).2.2.1, H.1.2 _ (S20_low H.1.1 z).1⟩
    have pos : op ≠ 0 → 1 ≤ iPop op := fun z => by
      have := iPop_less H.1.1 (S20_low H.1.1 z).1
      have : 0 ≤ iPop (iAnd op (iXor (iShl 1 (iLow op)) (-1))) := (ct_le _ 32).1
      omega
    refine T35_0 hd hr ⟨fun c1 => ⟨fun c2 => ⟨⟨⟨hN, hR⟩, H.2.1, ex c1⟩, fun w q3 => ?_⟩, fun c2 => ?_⟩, fun c1 => ?_⟩
    · exact L35 hd hr ho hN hR H hf q3.1 q3.2 hK 0 (by omega) (by have := H.2.1; omega) (fun j a b => by omega)
    · have := pos c1
      omega
    · have g : ext (fun y9 => 0 ≤ y9 ∧ y9 < h o 0) (bit op) (ad (nr h (o + 1) 0)) (colp h) (h 470 1) := ⟨colp h, fun _ _ _ => rfl, fun p _ b => absurd (c1 ▸ b) bt_zero, fun p q _ _ _ b => absurd (c1 ▸ b) bt_zero⟩
      exact am_rb1 (hK h ⟨fun _ _ _ => rfl, fun z => absurd g z⟩) g)
