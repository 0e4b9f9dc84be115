/-! ===== a net is the product of its parts ===== -/
noncomputable def pl (r : Int → Int) (p q : Int) : Int := lab (ptE r) (lno r p q)
def RA (r : Int → Int) (A : Int → Prop) (p q : Int) : Prop := ad r p q ∧ A (pl r p q)
section PROD
variable {n : Int} {r : Int → Int} {A B : Int → Prop}
theorem ptE_sym (hN : NT n r) : ∀ x y, ptE r x y → ptE r y x := thE_sym hN True
theorem pl_sym (hN : NT n r) (p q : Int) : pl r p q = pl r q p := by
  unfold pl
  rw [lno_sym hN]
theorem RA_sym (hN : NT n r) (x y : Int) (h : RA r A x y) : RA r A y x := ⟨NT_sym hN _ _ h.1, by rw [pl_sym hN]; exact h.2⟩
theorem RA_in (hN : NT n r) {x y : Int} (h : RA r A x y) : (0 ≤ x ∧ x < n) ∧ (0 ≤ y ∧ y < n) := NT_in hN h.1
theorem RA_rc (hN : NT n r) {x y : Int} (hx : 0 ≤ x ∧ x < n) (h : rc (RA r A) x y) : 0 ≤ y ∧ y < n := rc_in (P := fun z => 0 ≤ z ∧ z < n) (fun _ _ _ q => (RA_in hN q).2) hx h
/-- lines over against one another are of one part -/
theorem pl_th (hN : NT n r) {a b c d : Int} (h1 : ad r a b) (h2 : ad r c d) (h : ds (ad r) a c + ds (ad r) b d ≠ ds (ad r) a d + ds (ad r) b c) : pl r a b = pl r c d := by
  have k1 := lno_ok hN h1
  have k2 := lno_ok hN h2
  have ht : thet r (lno r a b) (lno r c d) := by
    rw [thet_lno hN h2, k1.2.1, k1.2.2]
    by_cases e : a < b
    · rw [show min a b = a by omega, show max a b = b by omega]; omega
    · rw [show min a b = b by omega, show max a b = a by omega]; omega
  exact (lab_eq (ptE_sym hN) k1.1.1 k2.1.1).mpr (rc_1 ⟨⟨k1.1, k2.1⟩, Or.inl ht⟩)
/-- lines that fork are of one part -/
theorem pl_tau (hN : NT n r) {p a b : Int} (h1 : ad r p a) (h2 : ad r p b) (hne : a ≠ b) (h : ∀ x, (ad r a x ∧ ad r b x) ↔ x = p) : pl r p a = pl r p b := by
  have k1 := lno_ok hN h1
  have k2 := lno_ok hN h2
  exact (lab_eq (ptE_sym hN) k1.1.1 k2.1.1).mpr (rc_1 ⟨⟨k1.1, k2.1⟩, Or.inr ⟨trivial, (tau_iff hN k1.1 k2.1).mpr ⟨p, a, b, hne, h1, h2, rfl, rfl, h⟩⟩⟩)
/-- a line of a shortest way is of a part of any other way -/
theorem G1 (hN : NT n r) (hC : CN n r) {u v x y : Int} (hu : 0 ≤ u ∧ u < n) (hw : rc (RA r A) u v) (hxy : ad r x y) (hg : ds (ad r) u x + 1 + ds (ad r) y v = ds (ad r) u v) : A (pl r x y) := by
  have hv := RA_rc hN hu hw
  have hx := (NT_in hN hxy).1
  have hy := (NT_in hN hxy).2
  have t1 := ds_tri (CN_rc hN hC hu hy) (CN_rc hN hC hy hv)
  have t2 := ds_tri (CN_rc hN hC hu hx) (CN_rc hN hC hx hv)
  have t3 := ds_adj hN hC hxy hv
  have t4 := ds_adj hN hC (NT_sym hN _ _ hxy) hu
  rw [ds_comm (NT_sym hN) (a := y), ds_comm (NT_sym hN) (a := x)] at t4
  refine Classical.byContradiction fun hno => ?_
  have key : ∀ z, rc (RA r A) u z → ds (ad r) z x - ds (ad r) z y = ds (ad r) u x - ds (ad r) u y := fun z hz => by
    refine (rc_in (P := fun z => (0 ≤ z ∧ z < n) ∧ ds (ad r) z x - ds (ad r) z y = ds (ad r) u x - ds (ad r) u y) (fun a b ha hab => ⟨(RA_in hN hab).2, ?_⟩) ⟨hu, rfl⟩ hz).2
    refine Classical.byContradiction fun q => hno ?_
    have := pl_th hN hab.1 hxy (by omega)
    rw [← this]
    exact hab.2
  have k := key v hw
  rw [ds_comm (NT_sym hN) (a := v) (b := x), ds_comm (NT_sym hN) (a := v) (b := y)] at k
  omega
/-- shortest ways stay in the layer -/
theorem G2 (hN : NT n r) (hC : CN n r) {u : Int} (hu : 0 ≤ u ∧ u < n) : ∀ (d : Nat) (v : Int), rc (RA r A) u v → ds (ad r) u v = d → wk (RA r A) d u v := by
  intro d
  induction d with
  | zero =>
    intro v hw hd
    have hv := RA_rc hN hu hw
    exact ds_z (CN_rc hN hC hu hv) hd
  | succ d ih =>
    intro v hw hd
    have hv := RA_rc hN hu hw
    have hne : u ≠ v := fun e => by
      rw [e, ds_0] at hd
      omega
    obtain ⟨c, h1, h2, h3⟩ := ds_last (CN_rc hN hC hu hv) hne
    have hA : RA r A c v := ⟨h1, G1 hN hC hu hw h1 (by rw [ds_0]; omega)⟩
    exact ⟨c, ih c (rc_step hw (RA_sym hN _ _ hA)) (by omega), hA⟩
/-- a line between points of a layer is of its parts -/
theorem G2a (hN : NT n r) (hC : CN n r) {u v : Int} (hw : rc (RA r A) u v) (h : ad r u v) : A (pl r u v) := by
  have hu := (NT_in hN h).1
  exact G1 hN hC hu hw h (by rw [ds_0, ds_0, ds_1 h (hN.2.2 _ _ h).2.2.1]; rfl)
theorem G3 (hN : NT n r) (hC : CN n r) (hAB : ∀ x, A x → B x → False) {u v : Int} (hu : 0 ≤ u ∧ u < n) (h1 : rc (RA r A) u v) (h2 : rc (RA r B) u v) : u = v := by
  refine Classical.byContradiction fun hne => ?_
  have hv := RA_rc hN hu h1
  obtain ⟨c, h3, h4, h5⟩ := ds_last (CN_rc hN hC hu hv) hne
  exact hAB _ (G1 hN hC hu h1 h3 (by rw [ds_0]; omega)) (G1 hN hC hu h2 h3 (by rw [ds_0]; omega))
/-- a square -/
theorem G4 (hN : NT n r) (hC : CN n r) {u v w : Int} (h1 : ad r u v) (h2 : ad r u w) (hne : pl r u v ≠ pl r u w) : ∃ x, ad r v x ∧ ad r w x ∧ pl r w x = pl r u v ∧ pl r v x = pl r u w := by
  have hu := (NT_in hN h1).1
  have hv := (NT_in hN h1).2
  have hw := (NT_in hN h2).2
  have hvw : v ≠ w := fun e => hne (by rw [e])
  have d1 := ds_1 h1 (hN.2.2 _ _ h1).2.2.1
  have d2 := ds_1 h2 (hN.2.2 _ _ h2).2.2.1
  have hna : ¬ ad r v w := fun e => by
    have d3 := ds_1 e hvw
    refine hne (pl_th hN h1 h2 ?_)
    rw [ds_0, d3, d2, ds_comm (NT_sym hN), d1]
    omega
  have hx : ∃ x, x ≠ u ∧ ad r v x ∧ ad r w x := by
    refine Classical.byContradiction fun q => hne (pl_tau hN h1 h2 hvw (fun x => ⟨fun z => Classical.byContradiction fun e => q ⟨x, e, z⟩, fun e => ?_⟩))
    rw [e]
    exact ⟨NT_sym hN _ _ h1, NT_sym hN _ _ h2⟩
  obtain ⟨x, x1, x2, x3⟩ := hx
  have hxn := (NT_in hN x2).2
  have dvw : 2 ≤ ds (ad r) v w := by
    have rvw := CN_rc hN hC hv hw
    have a0 := ds_nn rvw
    have a1 : ds (ad r) v w ≠ 0 := fun e => hvw (ds_z rvw e)
    have a2 : ds (ad r) v w ≠ 1 := fun e => hna (ds_1e rvw e)
    omega
  have dux : 1 ≤ ds (ad r) u x := by
    have rux := CN_rc hN hC hu hxn
    have a0 := ds_nn rux
    have a1 : ds (ad r) u x ≠ 0 := fun e => x1 (ds_z rux e).symm
    omega
  have dvx := ds_1 x2 (hN.2.2 _ _ x2).2.2.1
  have dwx := ds_1 x3 (hN.2.2 _ _ x3).2.2.1
  refine ⟨x, x2, x3, ?_, ?_⟩
  · exact (pl_th hN h1 x3 (by rw [d2, dvx]; omega)).symm
  · refine (pl_th hN h2 x2 ?_).symm
    rw [d1, dwx, ds_comm (NT_sym hN) (a := w) (b := v)]
    omega
/-- a line is taken along a way by other parts -/
theorem G5 (hN : NT n r) (hC : CN n r) {u v : Int} (huv : ad r u v) (hB : ¬ B (pl r u v)) : ∀ {d : Nat} {w : Int}, wk (RA r B) d u w → ∃ x, ad r w x ∧ pl r w x = pl r u v ∧ wk (RA r B) d v x
  | 0, w, h => by
    have e : u = w := h
    subst e
    exact ⟨v, huv, rfl, rfl⟩
  | d + 1, w, ⟨w', h1, h2⟩ => by
    obtain ⟨x', a1, a2, a3⟩ := G5 hN hC huv hB h1
    have hne : pl r w' x' ≠ pl r w' w := fun e => hB (by rw [← a2, e]; exact h2.2)
    obtain ⟨x, b1, b2, b3, b4⟩ := G4 hN hC a1 h2.1 hne
    exact ⟨x, b2, b3.trans a2, x', a3, b1, by rw [b4]; exact h2.2⟩
/-- a way is taken along -/
theorem G6 (hN : NT n r) (hC : CN n r) (hAB : ∀ x, A x → B x → False) : ∀ {m : Nat} {u v w : Int}, wk (RA r A) m u v → rc (RA r B) u w → ∃ x, wk (RA r A) m w x ∧ rc (RA r B) v x
  | 0, u, v, w, h, hw => by
    have e : u = v := h
    subst e
    exact ⟨w, rfl, hw⟩
  | m + 1, u, v, w, ⟨c, h1, h2⟩, hw => by
    obtain ⟨x', a1, a2⟩ := G6 hN hC hAB h1 hw
    obtain ⟨d, a2⟩ := a2
    obtain ⟨x, b1, b2, b3⟩ := G5 (B := B) hN hC h2.1 (hAB _ h2.2) a2
    exact ⟨x, ⟨x', a1, b1, by rw [b2]; exact h2.2⟩, d, b3⟩
/-- ways are sorted -/
theorem G7 (hN : NT n r) (hC : CN n r) (hAB : ∀ x, A x → B x → False) {p : Int} : ∀ {d : Nat} {q : Int}, wk (RA r (fun x => A x ∨ B x)) d p q → ∃ x, rc (RA r A) p x ∧ rc (RA r B) x q
  | 0, q, h => by
    have e : p = q := h
    subst e
    exact ⟨p, rc_refl, rc_refl⟩
  | d + 1, q, ⟨c, h1, h2⟩ => by
    obtain ⟨x, a1, a2⟩ := G7 hN hC hAB h1
    rcases h2.2 with h3 | h3
    · obtain ⟨e, a3⟩ := rc_sym (RA_sym hN) a2
      obtain ⟨y, b1, b2, b3⟩ := G5 (B := B) hN hC h2.1 (hAB _ h3) a3
      exact ⟨y, rc_step a1 ⟨b1, by rw [b2]; exact h3⟩, rc_sym (RA_sym hN) ⟨e, b3⟩⟩
    · exact ⟨x, a1, rc_step a2 ⟨h2.1, h3⟩⟩
/-- where a layer by some parts and one by the others meet -/
theorem G8 (hN : NT n r) (hC : CN n r) {p q : Int} (hp : 0 ≤ p ∧ p < n) (hq : 0 ≤ q ∧ q < n) : ∃ x, rc (RA r A) p x ∧ rc (RA r (fun z => ¬ A z)) x q := by
  obtain ⟨d, h⟩ := CN_rc hN hC hp hq
  exact G7 (B := fun z => ¬ A z) hN hC (fun x a b => b a) (wk_mono (F := RA r (fun x => A x ∨ ¬ A x)) (fun x y e => ⟨e, Classical.em _⟩) h)
theorem G8u (hN : NT n r) (hC : CN n r) {p q x y : Int} (hp : 0 ≤ p ∧ p < n) (h1 : rc (RA r A) p x) (h2 : rc (RA r (fun z => ¬ A z)) x q) (h3 : rc (RA r A) p y) (h4 : rc (RA r (fun z => ¬ A z)) y q) : x = y :=
  G3 (A := A) (B := fun z => ¬ A z) hN hC (fun x a b => b a) (RA_rc hN hp h1) (rc_trans (rc_sym (RA_sym hN) h1) h3) (rc_trans h2 (rc_sym (RA_sym hN) h4))
/-- layers side by side have the same distances -/
theorem G9 (hN : NT n r) (hC : CN n r) (hAB : ∀ x, A x → B x → False) {u v u' v' : Int} (hu : 0 ≤ u ∧ u < n) (h1 : rc (RA r A) u v) (h2 : rc (RA r A) u' v') (h3 : rc (RA r B) u u') (h4 : rc (RA r B) v v') : ds (ad r) u v = ds (ad r) u' v' := by
  have key : ∀ {a b a' b' : Int}, (0 ≤ a ∧ a < n) → rc (RA r A) a b → rc (RA r A) a' b' → rc (RA r B) a a' → rc (RA r B) b b' → ds (ad r) a' b' ≤ ds (ad r) a b := fun {a b a' b'} ha k1 k2 k3 k4 => by
    have hb := RA_rc hN ha k1
    obtain ⟨d, d1, d2⟩ := ds_sh (CN_rc hN hC ha hb)
    obtain ⟨x, x1, x2⟩ := G6 hN hC hAB (G2 hN hC ha d b k1 d2) k3
    have ha' := RA_rc hN ha k3
    have e : x = b' := G3 hN hC hAB (RA_rc hN ha' ⟨d, x1⟩) (rc_trans (rc_sym (RA_sym hN) ⟨d, x1⟩) k2) (rc_trans (rc_sym (RA_sym hN) x2) k4)
    rw [e] at x1
    have := ds_wk (wk_mono (F := ad r) (fun _ _ z => z.1) x1)
    omega
  have k1 := key hu h1 h2 h3 h4
  have k2 := key (RA_rc hN hu h3) h2 h1 (rc_sym (RA_sym hN) h3) (rc_sym (RA_sym hN) h4)
  omega
end PROD
/-! ===== counting by pairs ===== -/
theorem ct_rel {P Q : Int → Prop} {T : Int → Int → Prop} {n : Nat} (h : ∀ x : Int, 0 ≤ x → x < n → P x → ∃ y : Int, (0 ≤ y ∧ y < n) ∧ Q y ∧ T x y) (hi : ∀ x z y, P x → P z → T x y → T z y → x = z) : ct P n ≤ ct Q n := by
  have hm := (ct_le P n).1
  have hm2 := (ct_le Q n).1
  have H : ∀ k : Nat, ∃ b y : Int, (k : Int) < ct P n → (0 ≤ b ∧ b < n) ∧ ct P b.toNat = k ∧ P b ∧ (0 ≤ y ∧ y < n) ∧ Q y ∧ T b y := fun k => by
    by_cases c : (k : Int) < ct P n
    · obtain ⟨b, b1, b2, b3⟩ := ct_find n (by omega) c
      obtain ⟨y, y1, y2, y3⟩ := h b (by omega) (by omega) b3
      exact ⟨b, y, fun _ => ⟨by omega, by rw [Int.toNat_natCast]; exact b2, b3, y1, y2, y3⟩⟩
    · exact ⟨0, 0, fun q => absurd q c⟩
  have rk : ∀ y z : Int, 0 ≤ y → 0 ≤ z → Q y → Q z → ct Q y.toNat = ct Q z.toNat → y = z := fun y z y0 z0 hy hz e => by
    refine Classical.byContradiction fun q => ?_
    have key : ∀ a b : Int, 0 ≤ a → a < b → Q a → ct Q a.toNat < ct Q b.toNat := fun a b a0 ab ha => by
      have e1 := ct_to (P := Q) a0
      rw [am_b_t ha] at e1
      have e2 := ct_mn Q (a + 1).toNat (b.toNat - (a + 1).toNat)
      rw [show (a + 1).toNat + (b.toNat - (a + 1).toNat) = b.toNat by omega] at e2
      omega
    by_cases c : y < z
    · have := key y z y0 c hy
      omega
    · have := key z y z0 (by omega) hz
      omega
  have := pig (ct Q n).toNat (ct P n).toNat (fun k => ct Q (Classical.choose (Classical.choose_spec (H k))).toNat) (fun k hk => by
    have w := Classical.choose_spec (Classical.choose_spec (H k)) (by omega)
    have w1 := (ct_le Q (Classical.choose (Classical.choose_spec (H k))).toNat).1
    have e1 := ct_to (P := Q) w.2.2.2.1.1
    rw [am_b_t w.2.2.2.2.1] at e1
    have e2 := ct_mn Q (Classical.choose (Classical.choose_spec (H k)) + 1).toNat (n - (Classical.choose (Classical.choose_spec (H k)) + 1).toNat)
    rw [show (Classical.choose (Classical.choose_spec (H k)) + 1).toNat + (n - (Classical.choose (Classical.choose_spec (H k)) + 1).toNat) = n by omega] at e2
    refine ⟨w1, ?_⟩
    show ct Q (Classical.choose (Classical.choose_spec (H k))).toNat < ((ct Q n).toNat : Int)
    omega) (fun i j hi' hj' e => by
    have wi := Classical.choose_spec (Classical.choose_spec (H i)) (by omega)
    have wj := Classical.choose_spec (Classical.choose_spec (H j)) (by omega)
    have e2 := rk _ _ wi.2.2.2.1.1 wj.2.2.2.1.1 wi.2.2.2.2.1 wj.2.2.2.2.1 e
    have t1 := wi.2.2.2.2.2
    rw [e2] at t1
    have e3 := hi _ _ _ wi.2.2.1 wj.2.2.1 t1 wj.2.2.2.2.2
    have q1 := wi.2.1
    rw [e3, wj.2.1] at q1
    omega)
  omega
theorem sm_const (c : Int) : ∀ n : Nat, sm (fun _ => c) n = n * c
  | 0 => by
    show (0 : Int) = ((0 : Nat) : Int) * c
    rw [Int.natCast_zero, Int.zero_mul]
  | n + 1 => by
    rw [sm_succ, sm_const c n, show ((n + 1 : Nat) : Int) * c = (n : Int) * c + c by rw [Int.natCast_add, Int.add_mul]; omega]
theorem sm_mulc (f : Int → Int) (c : Int) : ∀ n : Nat, sm (fun k => f k * c) n = sm f n * c
  | 0 => by
    show (0 : Int) = 0 * c
    rw [Int.zero_mul]
  | n + 1 => by
    rw [sm_succ, sm_succ, sm_mulc f c n, Int.add_mul]
/-- each x of P has just one y of Q, each such y as many x -/
theorem ct_fib {P Q : Int → Prop} {T : Int → Int → Prop} {c : Int} {n : Nat} (h1 : ∀ x : Int, 0 ≤ x → x < n → P x → ∃ y : Int, (0 ≤ y ∧ y < n) ∧ Q y ∧ T y x) (h2 : ∀ x y z, T y x → T z x → Q y → Q z → y = z) (h3 : ∀ x y, Q y → T y x → P x) (h4 : ∀ y : Int, 0 ≤ y → y < n → Q y → ct (T y) n = c) : ct P n = ct Q n * c := by
  have e1 : ct P n = sm (fun x => sm (fun y => am_b (Q y ∧ T y x)) n) n := by
    rw [ct_sm]
    refine sm_congr n (fun x x0 x1 => ?_)
    by_cases hp : P x
    · obtain ⟨y, y0, y1, y2⟩ := h1 x x0 x1 hp
      rw [am_b_t hp, ← ct_sm]
      have e := ct_add2 (P := fun _ => False) (Q := fun y => Q y ∧ T y x) (a := y) n y0.1 y0.2 id (fun k _ _ => ⟨fun z => Or.inr (h2 x k y z.2 y2 z.1 y1), fun z => z.elim False.elim (fun z => by rw [z]; exact ⟨y1, y2⟩)⟩)
      rw [ct_none n (P := fun _ => False) (fun _ _ => id)] at e
      exact e.symm
    · rw [am_b_f hp, ← ct_sm, ct_none n (fun y _ z => hp (h3 x y z.1 z.2))]
  rw [e1, sm_swap, ct_sm, ← sm_mulc]
  refine sm_congr n (fun y y0 y1 => ?_)
  rw [← ct_sm]
  by_cases hq : Q y
  · rw [am_b_t hq, Int.one_mul, ← h4 y y0 y1 hq]
    exact ct_congr n (fun x _ => ⟨fun z => z.2, fun z => ⟨hq, z⟩⟩)
  · rw [am_b_f hq, Int.zero_mul, ct_none n (fun x _ z => hq z.1)]
section SIZE
variable {n : Int} {r : Int → Int} {A B : Int → Prop}
/-- how many points a layer has -/
noncomputable def lsz (r : Int → Int) (A : Int → Prop) (p : Int) : Int := ct (rc (RA r A) p) 20
/-- as many along a way by other parts -/
theorem lsz_eq (hN : NT n r) (hC : CN n r) (hAB : ∀ x, A x → B x → False) {u w : Int} (hu : 0 ≤ u ∧ u < n) (h : rc (RA r B) u w) : lsz r A u = lsz r A w := by
  have hn := hN.2.1
  have key : ∀ {u w : Int}, (0 ≤ u ∧ u < n) → rc (RA r B) u w → lsz r A u ≤ lsz r A w := fun {u w} hu h => by
    have hw := RA_rc hN hu h
    refine ct_rel (T := rc (RA r B)) (fun x x0 x1 hx => ?_) (fun x z y hx hz h1 h2 => ?_)
    · obtain ⟨m, hm⟩ := hx
      obtain ⟨y, y1, y2⟩ := G6 hN hC hAB hm h
      have := RA_rc hN hw ⟨m, y1⟩
      exact ⟨y, by omega, ⟨m, y1⟩, y2⟩
    · exact G3 (A := A) (B := B) hN hC hAB (RA_rc hN hu hx) (rc_trans (rc_sym (RA_sym hN) hx) hz) (rc_trans h1 (rc_sym (RA_sym hN) h2))
  have k1 := key hu h
  have k2 := key (RA_rc hN hu h) (rc_sym (RA_sym hN) h)
  omega
/-- the layer by two sets of parts -/
theorem lsz_mul (hN : NT n r) (hC : CN n r) (hAB : ∀ x, A x → B x → False) {u : Int} (hu : 0 ≤ u ∧ u < n) : lsz r (fun x => A x ∨ B x) u = lsz r A u * lsz r B u := by
  have hn := hN.2.1
  refine ct_fib (T := fun y x => rc (RA r B) y x) (fun x x0 x1 hx => ?_) (fun x y z h1 h2 h3 h4 => ?_) (fun x y h1 h2 => ?_) (fun y y0 y1 hy => ?_)
  · obtain ⟨d, hd⟩ := hx
    obtain ⟨y, y1, y2⟩ := G7 hN hC hAB hd
    have := RA_rc hN hu y1
    exact ⟨y, by omega, y1, y2⟩
  · exact G3 (A := A) (B := B) hN hC hAB (RA_rc hN hu h3) (rc_trans (rc_sym (RA_sym hN) h3) h4) (rc_trans h1 (rc_sym (RA_sym hN) h2))
  · exact rc_trans (rc_mono (fun a b z => ⟨z.1, Or.inl z.2⟩) h1) (rc_mono (fun a b z => ⟨z.1, Or.inr z.2⟩) h2)
  · exact (lsz_eq (A := B) (B := A) hN hC (fun x a b => hAB x b a) hu hy).symm
/-- each part has a line at each point -/
theorem G10 (hN : NT n r) (hC : CN n r) {a b p : Int} (hab : ad r a b) (hp : 0 ≤ p ∧ p < n) : ∃ q, ad r p q ∧ pl r p q = pl r a b := by
  have h := CN_rc hN hC (NT_in hN hab).1 hp
  exact (rc_in (P := fun z => ∃ q, ad r z q ∧ pl r z q = pl r a b) (fun x y hx hxy => by
    obtain ⟨q, q1, q2⟩ := hx
    by_cases c : pl r x y = pl r a b
    · exact ⟨x, NT_sym hN _ _ hxy, by rw [pl_sym hN]; exact c⟩
    · obtain ⟨z, z1, z2, z3, z4⟩ := G4 hN hC q1 hxy (fun e => c (by rw [← e]; exact q2))
      exact ⟨z, z2, z3.trans q2⟩) ⟨b, hab, rfl⟩ h)
theorem lsz_2 (hN : NT n r) (hC : CN n r) {a b p : Int} (hab : ad r a b) (hA : A (pl r a b)) (hp : 0 ≤ p ∧ p < n) : 2 ≤ lsz r A p := by
  have hn := hN.2.1
  obtain ⟨q, q1, q2⟩ := G10 hN hC hab hp
  have hq := (NT_in hN q1).2
  exact ct_two (a := p) (b := q) (by omega) (by omega) (hN.2.2 _ _ q1).2.2.1 rc_refl (rc_1 ⟨q1, by rw [q2]; exact hA⟩)
theorem lsz_all (hN : NT n r) (hC : CN n r) (hA : ∀ x, A x) {p : Int} (hp : 0 ≤ p ∧ p < n) : lsz r A p = n := by
  have hn := hN.2.1
  unfold lsz
  rw [ct_congr (Q := fun x => x < n) 20 (fun k hk => ⟨fun z => (RA_rc hN hp z).2, fun z => rc_mono (fun a b e => ⟨e, hA _⟩) (CN_rc hN hC hp ⟨by omega, z⟩)⟩), ct_lt hN.1 20, if_pos (by omega)]
end SIZE
