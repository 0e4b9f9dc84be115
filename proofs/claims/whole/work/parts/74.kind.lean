/-! ===== the kinds of parts ===== -/
theorem ct_smz (P : Int → Prop) : ∀ m : Nat, ct P m = sm (fun x => am_b (P x)) m
  | 0 => rfl
  | m + 1 => by rw [ct_succ, sm_succ, ct_smz P m]
theorem sm_z {f : Int → Int} (m : Nat) (h : ∀ k : Int, 0 ≤ k → k < m → f k = 0) : sm f m = 0 := by
  rw [sm_congr (g := fun _ => 0) m h, sm_0]
theorem sm_pt {f : Int → Int} {a : Int} : ∀ m : Nat, 0 ≤ a → a < m → (∀ x : Int, 0 ≤ x → x < m → x ≠ a → f x = 0) → sm f m = f a
  | 0, h0, h1, _ => by omega
  | m + 1, h0, h1, h => by
    rw [sm_succ]
    by_cases e : a = m
    · rw [sm_z m (fun k a b => h k a (by omega) (by omega)), e]
      omega
    · rw [sm_pt m h0 (by omega) (fun x a b c => h x a (by omega) c), h m (by omega) (by omega) (by omega)]
      omega
theorem ct_ln {n : Int} {r : Int → Int} (hN : NT n r) (P : Int → Prop) : ct P (nl r).toNat = sm (fun p => sm (fun q => am_b (p < q ∧ ad r p q ∧ P (lno r p q))) 20) 20 := by
  have hn := hN.2.1
  rw [ct_smz]
  have e1 : sm (fun l => am_b (P l)) (nl r).toNat = sm (fun l => sm (fun p => sm (fun q => am_b (p = lo r l ∧ q = hi r l ∧ P l)) 20) 20) (nl r).toNat := by
    refine sm_congr _ (fun l l0 l1 => ?_)
    obtain ⟨a1, -⟩ := lo_ok (r := r) l0 (by omega)
    rw [sm_pt (a := lo r l) 20 (by omega) (by omega) (fun x _ _ hx => sm_z 20 (fun q _ _ => am_b_f (fun z => hx z.1))), sm_pt (a := hi r l) 20 (by omega) (by omega) (fun x _ _ hx => am_b_f (fun z => hx z.2.1))]
    by_cases e : P l
    · rw [am_b_t e, am_b_t ⟨rfl, rfl, e⟩]
    · rw [am_b_f e, am_b_f (fun z => e z.2.2)]
  rw [e1, sm_swap]
  refine sm_congr _ (fun p p0 p1 => ?_)
  rw [sm_swap]
  refine sm_congr _ (fun q q0 q1 => ?_)
  by_cases e : p < q ∧ ad r p q ∧ P (lno r p q)
  · have k := lno_ok hN e.2.1
    rw [am_b_t e, sm_pt (a := lno r p q) _ k.1.1 (by omega) (fun x x0 x1 hx => am_b_f (fun z => hx ?_)), am_b_t ⟨by omega, by omega, e.2.2⟩]
    rw [← lno_lo hN (k := x) x0 (by omega), ← z.1, ← z.2.1]
  · rw [am_b_f e, sm_z]
    intro x x0 x1
    refine am_b_f (fun z => e ?_)
    obtain ⟨a1, a2, -⟩ := lo_ok (r := r) x0 (by omega)
    rw [z.1, z.2.1, lno_lo hN x0 (by omega)]
    exact ⟨a1.2.1, a2, z.2.2⟩
theorem nthb_ct {x p : Int} (hp : 0 ≤ p ∧ p < 20) (hb : bit x p) : nthb x (ct (bit x) p.toNat) = p := by
  refine fnd_is hp.1 ⟨hb, rfl⟩ (fun j j0 j1 w => ?_) 20 (by omega)
  have w1 := ct_to (P := bit x) j0
  rw [am_b_t w.1] at w1
  have w2 := ct_mn (bit x) (j + 1).toNat (p.toNat - (j + 1).toNat)
  rw [show (j + 1).toNat + (p.toNat - (j + 1).toNat) = p.toNat by omega] at w2
  have := w.2
  omega
theorem ct_lt_20 {x p : Int} (hx : S20 x) (hb : bit x p) : 0 ≤ ct (bit x) p.toNat ∧ ct (bit x) p.toNat < iPop x := by
  have hp := S20_in hx hb
  have e1 := ct_to (P := bit x) hp.1
  rw [am_b_t hb] at e1
  have e2 := ct_mn (bit x) (p + 1).toNat (20 - (p + 1).toNat)
  rw [show (p + 1).toNat + (20 - (p + 1).toNat) = 20 by omega] at e2
  have := (ct_le (bit x) p.toNat).1
  rw [iPop_20 hx]
  omega
theorem nthb_in {x i : Int} (hx : S20 x) (h0 : 0 ≤ i) (h1 : i < iPop x) : bit x (nthb x i) ∧ (0 ≤ nthb x i ∧ nthb x i < 20) := by
  rw [iPop_20 hx] at h1
  obtain ⟨b, b1, b2, b3⟩ := ct_find 20 h0 h1
  have := nthb_ct (x := x) (p := b) (by omega) b3
  rw [show ((b : Int)).toNat = b by omega, b2] at this
  rw [this]
  exact ⟨b3, by omega⟩
theorem nthb_sm {x : Int} (f : Int → Int) : ∀ m : Nat, m ≤ 20 → sm (fun p => ifc (bit x p) (f p) 0) m = sm (fun i => f (nthb x i)) (ct (bit x) m).toNat
  | 0, _ => rfl
  | m + 1, h => by
    have ih := nthb_sm (x := x) f m (by omega)
    have h0 := (ct_le (bit x) m).1
    rw [sm_succ, ct_succ, ih]
    by_cases e : bit x m
    · have := nthb_ct (x := x) (p := m) (by omega) e
      rw [show ((m : Int)).toNat = m by omega] at this
      rw [ifc_t e, am_b_t e, sm_to h0, this]
    · rw [ifc_f e, am_b_f e, Int.add_zero, Int.add_zero]
theorem ct_dis {P Q : Int → Prop} (h : ∀ x, P x → ¬ Q x) : ∀ m : Nat, ct P m + ct Q m = ct (fun x => P x ∨ Q x) m
  | 0 => rfl
  | m + 1 => by
    have ih := ct_dis h m
    rw [ct_succ, ct_succ, ct_succ, ← ih]
    by_cases e : P m
    · rw [am_b_t e, am_b_f (h _ e), am_b_t (Or.inl e)]; omega
    · by_cases e2 : Q m
      · rw [am_b_f e, am_b_t e2, am_b_t (Or.inr e2)]; omega
      · rw [am_b_f e, am_b_f e2, am_b_f (fun z => z.elim e e2)]; omega
theorem ct_alz {P : Int → Prop} : ∀ m : Nat, (∀ k : Int, 0 ≤ k → k < m → P k) → ct P m = m
  | 0, _ => rfl
  | m + 1, h => by
    rw [ct_succ, ct_alz m (fun k a b => h k a (by omega)), am_b_t (h m (by omega) (by omega))]
    omega
noncomputable def dgr (r : Int → Int) (k p : Int) : Int := ct (RA r (fun x => x = k) p) 20
noncomputable def dgi (r : Int → Int) (k i : Int) : Int := iPop (mkb (RA r (fun x => x = k) (nthb (lay r k 0) i)))
def thn (r : Int → Int) (k : Int) : Prop := ∀ p, bit (lay r k 0) p → dgr r k p ≤ 2
noncomputable def knd (n : Int) (r : Int → Int) (k : Int) : Int := ifc (2 < iPop (lay r k 0) ∧ plc n r k = Int.tdiv (iPop (lay r k 0) * (iPop (lay r k 0) - 1)) 2) 2 (ifc (thn r k) (ifc (plc n r k = iPop (lay r k 0) - 1) 0 1) 3)
theorem dgi_eq (r : Int → Int) (k i : Int) : dgi r k i = dgr r k (nthb (lay r k 0) i) := iPop_mk _
theorem dgr_r (r : Int → Int) (k p : Int) : 0 ≤ dgr r k p ∧ dgr r k p ≤ 20 := ct_le _ 20
section KIND
variable {n : Int} {r : Int → Int} {k : Int}
theorem hand (hN : NT n r) (h0 : 0 < n) : sm (fun p => ifc (bit (lay r k 0) p) (dgr r k p) 0) 20 = 2 * plc n r k := by
  have hn := hN.2.1
  have bl : ∀ x, bit (lay r k 0) x ↔ rc (RA r (fun x => x = k)) 0 x := fun x => bt_lay hN ⟨by omega, h0⟩
  have st : ∀ p q, bit (lay r k 0) p → RA r (fun x => x = k) p q → bit (lay r k 0) q := fun p q a b => (bl q).mpr (rc_step ((bl p).mp a) b)
  have e1 : sm (fun p => ifc (bit (lay r k 0) p) (dgr r k p) 0) 20 = sm (fun p => sm (fun q => am_b (p < q ∧ bit (lay r k 0) p ∧ RA r (fun x => x = k) p q) + am_b (q < p ∧ bit (lay r k 0) q ∧ RA r (fun x => x = k) q p)) 20) 20 := by
    refine sm_congr _ (fun p p0 p1 => ?_)
    by_cases e : bit (lay r k 0) p
    · rw [ifc_t e]
      unfold dgr
      rw [ct_smz]
      refine sm_congr _ (fun q q0 q1 => ?_)
      by_cases w : RA r (fun x => x = k) p q
      · have ne : p ≠ q := (hN.2.2 p q w.1).2.2.1
        rw [am_b_t w]
        by_cases lt : p < q
        · rw [am_b_t ⟨lt, e, w⟩, am_b_f (fun z => by have := z.1; omega)]; omega
        · rw [am_b_f (fun z => lt z.1), am_b_t ⟨by omega, st p q e w, RA_sym hN _ _ w⟩]; omega
      · rw [am_b_f w, am_b_f (fun z => w z.2.2), am_b_f (fun z => w (RA_sym hN _ _ z.2.2))]; omega
    · rw [ifc_f e, sm_z]
      intro q q0 q1
      rw [am_b_f (fun z => e z.2.1), am_b_f (fun z => e (st q p z.2.1 z.2.2))]; omega
  have e2 : plc n r k = sm (fun p => sm (fun q => am_b (p < q ∧ bit (lay r k 0) p ∧ RA r (fun x => x = k) p q)) 20) 20 := by
    unfold plc
    rw [ct_ln hN]
    refine sm_congr _ (fun p p0 p1 => sm_congr _ (fun q q0 q1 => ?_))
    by_cases w : p < q ∧ ad r p q
    · have kk := (lno_ok hN w.2).2.1
      by_cases u : bit (lay r k 0) p ∧ pl r p q = k
      · rw [am_b_t ⟨w.1, w.2, u.2, by rw [kk, show min p q = p by omega]; exact u.1⟩, am_b_t ⟨w.1, u.1, w.2, u.2⟩]
      · rw [am_b_f, am_b_f]
        · exact fun z => u ⟨z.2.1, z.2.2.2⟩
        · intro z
          have z3 := z.2.2.2
          rw [kk, show min p q = p by omega] at z3
          exact u ⟨z3, z.2.2.1⟩
    · rw [am_b_f (fun z => w ⟨z.1, z.2.1⟩), am_b_f (fun z => w ⟨z.1, z.2.2.1⟩)]
  have e3 : sm (fun p => sm (fun q => am_b (q < p ∧ bit (lay r k 0) q ∧ RA r (fun x => x = k) q p)) 20) 20 = plc n r k := by
    rw [e2, sm_swap]
  rw [e1, sm_congr (g := fun p => sm (fun q => am_b (p < q ∧ bit (lay r k 0) p ∧ RA r (fun x => x = k) p q)) 20 + sm (fun q => am_b (q < p ∧ bit (lay r k 0) q ∧ RA r (fun x => x = k) q p)) 20) 20 (fun p _ _ => sm_add _ _ 20), sm_add, e3, ← e2]
  omega
theorem dgi_sm (hN : NT n r) (h0 : 0 < n) : sm (fun i => dgi r k i) (iPop (lay r k 0)).toNat = 2 * plc n r k := by
  rw [← hand hN h0, nthb_sm (dgr r k) 20 (by omega), iPop_20 (S20_lay k 0)]
  exact sm_congr _ (fun i _ _ => dgi_eq r k i)
theorem dgr_1 (hN : NT n r) (hC : CN n r) (hk : 0 ≤ k ∧ k < ncl (ptE r) (nl r)) {p : Int} (hp : 0 ≤ p ∧ p < n) : 1 ≤ dgr r k p := by
  have hn := hN.2.1
  obtain ⟨a, b, h1, h2⟩ := pl_sur hN hk.1 hk.2
  obtain ⟨q, q1, q2⟩ := G10 hN hC h1 hp
  have hq := (NT_in hN q1).2
  have e := ct_mono (P := fun x => x = q) (Q := RA r (fun x => x = k) p) 20 (fun x _ hx => by rw [hx]; exact ⟨q1, q2.trans h2⟩)
  have e2 : ct (fun x => x = q) 20 = 1 := by
    rw [ct_add2 (P := fun _ => False) (a := q) 20 (by omega) (by omega) (fun z => z) (fun x _ _ => ⟨Or.inr, fun z => z.elim False.elim id⟩), ct_none 20 (fun _ _ z => z)]
    rfl
  unfold dgr
  omega
theorem plc_r (r : Int → Int) (k : Int) : 0 ≤ plc n r k ∧ plc n r k ≤ 190 := by
  have := ct_le (fun l => lab (ptE r) l = k ∧ bit (lay r k 0) (lo r l)) (nl r).toNat
  have := nl_r r
  unfold plc
  omega
theorem plc_ge (hN : NT n r) (hC : CN n r) (h0 : 0 < n) : iPop (lay r k 0) - 1 ≤ plc n r k := by
  have hn := hN.2.1
  have hl := nl_r r
  have bl : ∀ x, bit (lay r k 0) x ↔ rc (RA r (fun x => x = k)) 0 x := fun x => bt_lay hN ⟨by omega, h0⟩
  have e1 : iPop (lay r k 0) = ct (fun x => bit (lay r k 0) x ∧ x ≠ 0) 20 + 1 := by
    rw [iPop_20 (S20_lay k 0)]
    refine ct_add2 (a := 0) 20 (by omega) (by omega) (fun z => z.2 rfl) (fun x _ _ => ⟨fun w => ?_, fun w => ?_⟩)
    · by_cases e : x = 0
      · exact Or.inr e
      · exact Or.inl ⟨w, e⟩
    · rcases w with w | w
      · exact w.1
      · rw [w]; exact (bl 0).mpr rc_refl
  have e2 : ct (fun x => bit (lay r k 0) x ∧ x ≠ 0) (20 + 170) = ct (fun x => bit (lay r k 0) x ∧ x ≠ 0) 20 := ct_ext 20 170 (fun x hx w => by have := S20_in (S20_lay k 0) w.1; omega)
  have e3 : ct (fun l => l < nl r ∧ lab (ptE r) l = k ∧ bit (lay r k 0) (lo r l)) ((nl r).toNat + (190 - (nl r).toNat)) = ct (fun l => l < nl r ∧ lab (ptE r) l = k ∧ bit (lay r k 0) (lo r l)) (nl r).toNat := ct_ext _ _ (fun x hx w => by omega)
  rw [show (nl r).toNat + (190 - (nl r).toNat) = 190 by omega] at e3
  have e4 : ct (fun l => l < nl r ∧ lab (ptE r) l = k ∧ bit (lay r k 0) (lo r l)) (nl r).toNat = plc n r k := ct_congr _ (fun l hl2 => ⟨fun w => w.2, fun w => ⟨by omega, w⟩⟩)
  have e5 := ct_rel (P := fun x => bit (lay r k 0) x ∧ x ≠ 0) (Q := fun l => l < nl r ∧ lab (ptE r) l = k ∧ bit (lay r k 0) (lo r l)) (T := fun x l => ∃ y, RA r (fun x => x = k) y x ∧ ds (ad r) 0 y + 1 = ds (ad r) 0 x ∧ lno r y x = l) (n := 190) (fun x x0 x1 hx => by
    have hr := (bl x).mp hx.1
    have hxn := RA_rc hN ⟨by omega, h0⟩ hr
    have d := ds_r hN hC (a := 0) (b := x) ⟨by omega, h0⟩ hxn
    have dz : ds (ad r) 0 x ≠ 0 := fun z => hx.2 (ds_z (CN_rc hN hC ⟨by omega, h0⟩ hxn) z).symm
    have w := G2 hN hC (u := 0) ⟨by omega, h0⟩ (ds (ad r) 0 x).toNat x hr (by omega)
    rw [show (ds (ad r) 0 x).toNat = ((ds (ad r) 0 x).toNat - 1) + 1 by omega] at w
    obtain ⟨y, w1, w2⟩ := w
    have hy := RA_in hN w2
    have d1 := ds_wk (wk_mono (F := ad r) (fun _ _ z => z.1) w1)
    have d2 := ds_tri (CN_rc hN hC ⟨by omega, h0⟩ hy.1) (CN_rc hN hC hy.1 hy.2)
    have d3 := ds_1 w2.1 (hN.2.2 _ _ w2.1).2.2.1
    have kk := lno_ok hN w2.1
    have ly : bit (lay r k 0) y := (bl y).mpr ⟨_, w1⟩
    refine ⟨lno r y x, by omega, ⟨kk.1.2, w2.2, ?_⟩, y, w2, by omega, rfl⟩
    rw [kk.2.1]
    by_cases lt : y < x
    · rw [show min y x = y by omega]; exact ly
    · rw [show min y x = x by omega]; exact hx.1) (fun x z l hx hz tx tz => by
    obtain ⟨y, y1, y2, y3⟩ := tx
    obtain ⟨y', u1, u2, u3⟩ := tz
    have k1 := (lno_ok hN y1.1).2
    have k2 := (lno_ok hN u1.1).2
    rw [y3] at k1
    rw [u3] at k2
    by_cases e : x = z
    · exact e
    · have a1 : y' = x := by omega
      have a2 : z = y := by omega
      rw [a1, a2] at u2
      omega)
  rw [show 20 + 170 = 190 by rfl] at e2
  omega
theorem thn_i (hN : NT n r) (hC : CN n r) (hk : 0 ≤ k ∧ k < ncl (ptE r) (nl r)) : ct (fun y => dgi r k y = 1) (iPop (lay r k 0)).toNat + ct (fun y => dgi r k y = 2) (iPop (lay r k 0)).toNat = iPop (lay r k 0) ↔ thn r k := by
  have h0 := np_0 hN hk.1 hk.2
  have hn := hN.2.1
  have bl : ∀ x, bit (lay r k 0) x ↔ rc (RA r (fun x => x = k)) 0 x := fun x => bt_lay hN ⟨by omega, h0⟩
  have hs := (ct_le (bit (lay r k 0)) 20).1
  rw [← iPop_20 (S20_lay k 0)] at hs
  rw [ct_dis (fun x a b => by omega)]
  constructor
  · intro w p hp
    have i := ct_lt_20 (S20_lay k 0) hp
    have c := ct_full (P := fun x => dgi r k x = 1 ∨ dgi r k x = 2) (iPop (lay r k 0)).toNat (by omega) (ct (bit (lay r k 0)) p.toNat) i.1 (by omega)
    rw [dgi_eq, nthb_ct (S20_in (S20_lay k 0) hp) hp] at c
    omega
  · intro w
    rw [ct_alz _ (fun i a b => ?_)]
    · omega
    · have hi := nthb_in (S20_lay k 0) a (show i < iPop (lay r k 0) by omega)
      have h2 := w _ hi.1
      have h1 := dgr_1 hN hC hk (RA_rc hN ⟨by omega, h0⟩ ((bl _).mp hi.1))
      rw [dgi_eq]
      omega
/-- thin, and more lines than points but one: as many lines as points -/
theorem thn_n (hN : NT n r) (hC : CN n r) (h0 : 0 < n) (ht : thn r k) : plc n r k ≤ iPop (lay r k 0) := by
  have e := dgi_sm (k := k) hN h0
  have hs := (ct_le (bit (lay r k 0)) 20)
  rw [← iPop_20 (S20_lay k 0)] at hs
  have := sm_rg (f := fun i => dgi r k i) (m := 2) (iPop (lay r k 0)).toNat (fun i hi => by
    have hb := nthb_in (S20_lay k 0) (show (0 : Int) ≤ i by omega) (show (i : Int) < iPop (lay r k 0) by omega)
    have := ht _ hb.1
    have := dgr_r r k (nthb (lay r k 0) i)
    rw [dgi_eq]
    omega)
  omega
theorem lay_2 (hN : NT n r) (hC : CN n r) (hk : 0 ≤ k ∧ k < ncl (ptE r) (nl r)) : 2 ≤ iPop (lay r k 0) ∧ iPop (lay r k 0) ≤ 20 := by
  have h0 := np_0 hN hk.1 hk.2
  have h := sz_2 hN hC h0 k hk.1 hk.2
  have hs := (ct_le (bit (lay r k 0)) 20)
  rw [← iPop_20 (S20_lay k 0)] at hs
  refine ⟨?_, by omega⟩
  unfold lay
  rw [iPop_mk]
  exact h
theorem sq_tab : ∀ s : Nat, s < 21 → (2 < s → ¬ (s : Int) - 1 = Int.tdiv ((s : Int) * (s - 1)) 2) ∧ (s = 2 → Int.tdiv ((s : Int) * (s - 1)) 2 = 1) ∧ 0 ≤ Int.tdiv ((s : Int) * (s - 1)) 2 ∧ Int.tdiv ((s : Int) * (s - 1)) 2 ≤ 190 ∧ -20 ≤ (s : Int) * (s - 1) ∧ (s : Int) * (s - 1) ≤ 400 := by decide +kernel
end KIND
theorem kd_c {h : am_H} (H : PI h) (z : h 0 16 = 1) {k : Int} (hk : 0 ≤ k ∧ k < ncl (ptE (nr h 7 0)) (nl (nr h 7 0))) : h 154 k = iPop (lay (nr h 7 0) k 0) ∧ (∀ i, 0 ≤ i → i < iPop (lay (nr h 7 0) k 0) → h (161 + k) i = nthb (lay (nr h 7 0) k 0) i) ∧ ∀ p, 0 ≤ p → p < 20 → h (156 + k) p = mkb (RA (nr h 7 0) (fun x => x = k) p) := by
  have w := (PI_p H z).2 k hk.1 hk.2
  exact ⟨w.2.1, w.2.2.1, w.1⟩
theorem dgr_s {n : Int} {r : Int → Int} {k : Int} (hN : NT n r) (h0 : 0 < n) {p : Int} (hp : bit (lay r k 0) p) : dgr r k p ≤ iPop (lay r k 0) := by
  rw [iPop_20 (S20_lay k 0)]
  exact ct_mono 20 (fun q _ w => (bt_lay hN ⟨by omega, h0⟩).mpr (rc_step ((bt_lay hN ⟨by omega, h0⟩).mp hp) w))
theorem mxn_tz {f : Int → Int} {i : Int} (h : 0 ≤ i) : mxn f (i + 1).toNat = max (mxn f i.toNat) (f i) := by
  rw [show (i + 1).toNat = i.toNat + 1 by omega, mxn_succ, show ((i.toNat : Nat) : Int) = i by omega]
theorem row_lay {n : Int} {r : Int → Int} {k : Int} (hN : NT n r) (hC : CN n r) (h0 : 0 < n) {p : Int} (hp : bit (lay r k 0) p) : iPop (iAnd (r p) (lay r k 0)) = dgr r k p ∧ S20 (iAnd (r p) (lay r k 0)) := by
  have s : S20 (iAnd (r p) (lay r k 0)) := S20_of (rg_and _ _) (fun j hj => (S20_in (S20_lay k 0) (bt_and.mp hj).2).2)
  refine ⟨?_, s⟩
  rw [iPop_20 s]
  have hp2 := (bt_lay hN ⟨by omega, h0⟩).mp hp
  refine ct_congr 20 (fun q _ => ?_)
  rw [bt_and, bt_lay hN ⟨by omega, h0⟩]
  constructor
  · intro w
    exact ⟨w.1, G2a hN hC (rc_trans (rc_sym (RA_sym hN) hp2) w.2) w.1⟩
  · intro w
    exact ⟨w.1, rc_step hp2 w⟩
/-! 43 FactorNets$Parts.degree -/
def C43 : am_K := fun as h K => am_a3 as (fun v0 v1 v2 => am_oc 5 153 v0 (am_n v1 (fun k => am_n v2 (fun i => (PI h ∧ h 0 16 = 1 ∧ (0 ≤ k ∧ k < (ncl (ptE (nr h 7 0)) (nl (nr h 7 0)))) ∧ (0 ≤ i ∧ i < iPop (lay (nr h 7 0) k 0))) ∧ (K (some (mB (dgi (nr h 7 0) k i))) h)))))
theorem W43 {d : Nat} (H : ∀ (k : Int) (i : Int) (h : am_H) (K : Option am_V → am_H → Prop), (PI h ∧ h 0 16 = 1 ∧ (0 ≤ k ∧ k < (ncl (ptE (nr h 7 0)) (nl (nr h 7 0)))) ∧ (0 ≤ i ∧ i < iPop (lay (nr h 7 0) k 0))) ∧ (K (some (mB (dgi (nr h 7 0) k i))) h) → am_AT d 43 0 [some (mR 1 5 0 153), some (mB k), some (mB i)] h K) : am_CS d 43 C43 := by
  refine am_CS_of (T := tb43) (mL := 3) (rk := 1) rfl (fun as h K hC => ?_)
  obtain ⟨v0, v1, v2, rfl, hC0⟩ := am_a3_e hC
  obtain ⟨e0, hC1⟩ := am_oc_e hC0
  subst e0
  obtain ⟨k, rfl, hC2⟩ := am_n_e hC1
  obtain ⟨i, rfl, hC3⟩ := am_n_e hC2
  refine ⟨Nat.le_of_ble_eq_true rfl, ?_⟩
  exact H k i h K hC3
theorem T43_0 {R : Option am_V → am_H → Prop} {h : am_H} {k : Int} {i : Int} (t : (0 ≤ k ∧ k < 4) ∧ ((0 ≤ k ∧ k < 4) ∧ ((0 ≤ i ∧ i < 20) ∧ ((0 ≤ h (161 + k) i ∧ h (161 + k) i < 20) ∧ ((0 ≤ (h (156 + k) (h (161 + k) i)) ∧ (h (156 + k) (h (161 + k) i)) < 2147483648) ∧ (R (some (mB (iPop (h (156 + k) (h (161 + k) i))))) h)))))) : am_AT 2 43 0 [some (mR 1 5 0 153), some (mB k), some (mB i)] h R :=
  am_T (d := 1) (m := 43) (T := tb43) (mL := 3) (rk := 1) (cuts := []) (l := [(317, C317)]) rfl ⟨am_CS_d (by decide) C317_ok, trivial⟩ 17 (And.intro (t).1 (And.intro ((t).2).1 (And.intro (((t).2).2).1 (And.intro ((((t).2).2).2).1 (And.intro (((((t).2).2).2).2).1 ((((((t).2).2).2).2).2))))))
theorem C43_ok : am_CS 2 43 C43 := W43 (fun k i h K hb => by
  obtain ⟨⟨H, z, hk, hi⟩, hK⟩ := hb
  have hN := (SV5_N H.1).1
  have hC := (SV5_N H.1).2
  have h4 := np_4 hN hC
  have hn0 := np_0 hN hk.1 hk.2
  have w := kd_c H z hk
  have s2 := lay_2 hN hC hk
  have e := w.2.1 i hi.1 hi.2
  have t := nthb_in (S20_lay (r := nr h 7 0) k 0) hi.1 hi.2
  have e2 := w.2.2 (nthb (lay (nr h 7 0) k 0) i) t.2.1 t.2.2
  have s := S20_mk (RA (nr h 7 0) (fun x => x = k) (nthb (lay (nr h 7 0) k 0) i))
  refine T43_0 ⟨by omega, ⟨by omega, ⟨by omega, ⟨by rw [e]; exact t.2, ⟨by rw [e, e2]; have := s.1; have := s.2; omega, ?_⟩⟩⟩⟩⟩
  · rw [e, e2]
    exact hK)
/-! 41 FactorNets$Parts.linesOf -/
def C41 : am_K := fun as h K => am_a2 as (fun v0 v1 => am_oc 5 153 v0 (am_n v1 (fun k => (PI h ∧ h 0 16 = 1 ∧ (0 ≤ k ∧ k < (ncl (ptE (nr h 7 0)) (nl (nr h 7 0))))) ∧ (K (some (mB (plc (h 6 0) (nr h 7 0) k))) h))))
theorem W41 {d : Nat} (H : ∀ (k : Int) (h : am_H) (K : Option am_V → am_H → Prop), (PI h ∧ h 0 16 = 1 ∧ (0 ≤ k ∧ k < (ncl (ptE (nr h 7 0)) (nl (nr h 7 0))))) ∧ (K (some (mB (plc (h 6 0) (nr h 7 0) k))) h) → am_AT d 41 0 [some (mR 1 5 0 153), some (mB k), none, none] h K) : am_CS d 41 C41 := by
  refine am_CS_of (T := tb41) (mL := 4) (rk := 1) rfl (fun as h K hC => ?_)
  obtain ⟨v0, v1, rfl, hC0⟩ := am_a2_e hC
  obtain ⟨e0, hC1⟩ := am_oc_e hC0
  subst e0
  obtain ⟨k, rfl, hC2⟩ := am_n_e hC1
  refine ⟨Nat.le_of_ble_eq_true rfl, ?_⟩
  exact H k h K hC2
theorem T41_0 {R : Option am_V → am_H → Prop} {h : am_H} {k : Int} (t : am_AT 3 41 4 [some (mR 1 5 0 153), some (mB k), some (mI 0), some (mI 0)] h R) : am_AT 3 41 0 [some (mR 1 5 0 153), some (mB k), none, none] h R :=
  am_T (d := 2) (m := 41) (T := tb41) (mL := 4) (rk := 1) (cuts := [(4, [1, 1, 2, 2])]) (l := [(43, C43)]) rfl ⟨am_CS_d (by decide) C43_ok, trivial⟩ 8 (t)
theorem T41_4 {R : Option am_V → am_H → Prop} {h : am_H} {k : Int} {x2 : Int} {x3 : Int} (t : (0 ≤ k ∧ k < 4) ∧ ((R32 x3) ∧ (((h 154 k ≤ x3) → ((R32 x2) ∧ ((R32 (Int.tdiv x2 2)) ∧ (R (some (mB (Int.tdiv x2 2))) h)))) ∧ ((x3 < h 154 k) → ((R32 x3) ∧ ((PI h ∧ h 0 16 = 1 ∧ (0 ≤ k ∧ k < (ncl (ptE (nr h 7 0)) (nl (nr h 7 0)))) ∧ (0 ≤ x3 ∧ x3 < iPop (lay (nr h 7 0) k 0))) ∧ (am_AT 3 41 4 [some (mR 1 5 0 153), some (mB k), some (mI (x2 + (dgi (nr h 7 0) k x3))), some (mI (x3 + 1))] h R))))))) : am_AT 3 41 4 [some (mR 1 5 0 153), some (mB k), some (mI x2), some (mI x3)] h R :=
  am_T (d := 2) (m := 41) (T := tb41) (mL := 4) (rk := 1) (cuts := [(4, [1, 1, 2, 2])]) (l := [(43, C43)]) rfl ⟨am_CS_d (by decide) C43_ok, trivial⟩ 19 (And.intro (t).1 (And.intro ((t).2).1 (And.intro (fun c1 => And.intro ((((t).2).2).1 c1).1 (And.intro (by decide) (And.intro (((((t).2).2).1 c1).2).1 ((((((t).2).2).1 c1).2).2)))) (fun c1 => And.intro ((((t).2).2).2 c1).1 (And.intro (rfl) (And.intro (((((t).2).2).2 c1).2).1 ((((((t).2).2).2 c1).2).2)))))))
theorem L41 {K : Option am_V → am_H → Prop} {h : am_H} {k : Int} (hb : (PI h ∧ h 0 16 = 1 ∧ (0 ≤ k ∧ k < ncl (ptE (nr h 7 0)) (nl (nr h 7 0)))) ∧ K (some (mB (plc (h 6 0) (nr h 7 0) k))) h) : ∀ i, 0 ≤ i → i ≤ iPop (lay (nr h 7 0) k 0) → am_AT 3 41 4 [some (mR 1 5 0 153), some (mB k), some (mI (sm (fun i => dgi (nr h 7 0) k i) i.toNat)), some (mI i)] h K := by
  obtain ⟨⟨H, z, hk⟩, hK⟩ := hb
  have hN := (SV5_N H.1).1
  have hC := (SV5_N H.1).2
  have h4 := np_4 hN hC
  have hn0 := np_0 hN hk.1 hk.2
  have w := kd_c H z hk
  have s2 := lay_2 hN hC hk
  have es := dgi_sm (k := k) hN hn0
  have pr := plc_r (n := h 6 0) (nr h 7 0) k
  refine lp (iPop (lay (nr h 7 0) k 0)) (fun i ih i0 i1 => ?_)
  have hr := sm_rg (f := fun i => dgi (nr h 7 0) k i) (m := 20) i.toNat (fun j _ => by rw [dgi_eq]; exact dgr_r _ _ _)
  have e : sm (fun i => dgi (nr h 7 0) k i) (i + 1).toNat = sm (fun i => dgi (nr h 7 0) k i) i.toNat + dgi (nr h 7 0) k i := sm_to i0
  have fin : iPop (lay (nr h 7 0) k 0) ≤ i → Int.tdiv (sm (fun i => dgi (nr h 7 0) k i) i.toNat) 2 = plc (h 6 0) (nr h 7 0) k := fun a => by
    rw [show i = iPop (lay (nr h 7 0) k 0) by omega, es, Int.mul_tdiv_cancel_left _ (by omega)]
  refine T41_4 ⟨by omega, ⟨by omega, ⟨fun c1 => ⟨by omega, ⟨by rw [fin (by omega)]; omega, ?_⟩⟩, fun c1 => ⟨by omega, ⟨⟨H, z, hk, by omega⟩, ?_⟩⟩⟩⟩⟩
  · exact am_rB hK (fin (by omega)).symm
  · rw [← e]
    exact ih (by omega) (by omega) (by omega)
theorem C41_ok : am_CS 3 41 C41 := W41 (fun k h K hb => T41_0 (L41 hb 0 (by omega) (by have := lay_2 (SV5_N hb.1.1.1).1 (SV5_N hb.1.1.1).2 hb.1.2.2; omega)))
/-! 42 FactorNets$Parts.pointsWith -/
def C42 : am_K := fun as h K => am_a3 as (fun v0 v1 v2 => am_oc 5 153 v0 (am_n v1 (fun k => am_n v2 (fun dd => (PI h ∧ h 0 16 = 1 ∧ (0 ≤ k ∧ k < (ncl (ptE (nr h 7 0)) (nl (nr h 7 0))))) ∧ (K (some (mB (ct (fun y9 => dgi (nr h 7 0) k y9 = dd) (iPop (lay (nr h 7 0) k 0)).toNat))) h)))))
theorem W42 {d : Nat} (H : ∀ (k : Int) (dd : Int) (h : am_H) (K : Option am_V → am_H → Prop), (PI h ∧ h 0 16 = 1 ∧ (0 ≤ k ∧ k < (ncl (ptE (nr h 7 0)) (nl (nr h 7 0))))) ∧ (K (some (mB (ct (fun y9 => dgi (nr h 7 0) k y9 = dd) (iPop (lay (nr h 7 0) k 0)).toNat))) h) → am_AT d 42 0 [some (mR 1 5 0 153), some (mB k), some (mB dd), none, none] h K) : am_CS d 42 C42 := by
  refine am_CS_of (T := tb42) (mL := 5) (rk := 1) rfl (fun as h K hC => ?_)
  obtain ⟨v0, v1, v2, rfl, hC0⟩ := am_a3_e hC
  obtain ⟨e0, hC1⟩ := am_oc_e hC0
  subst e0
  obtain ⟨k, rfl, hC2⟩ := am_n_e hC1
  obtain ⟨dd, rfl, hC3⟩ := am_n_e hC2
  refine ⟨Nat.le_of_ble_eq_true rfl, ?_⟩
  exact H k dd h K hC3
theorem T42_0 {R : Option am_V → am_H → Prop} {h : am_H} {k : Int} {dd : Int} (t : am_AT 3 42 5 [some (mR 1 5 0 153), some (mB k), some (mB dd), some (mI 0), some (mI 0)] h R) : am_AT 3 42 0 [some (mR 1 5 0 153), some (mB k), some (mB dd), none, none] h R :=
  am_T (d := 2) (m := 42) (T := tb42) (mL := 5) (rk := 1) (cuts := [(5, [1, 1, 1, 2, 2])]) (l := [(43, C43)]) rfl ⟨am_CS_d (by decide) C43_ok, trivial⟩ 8 (t)
theorem T42_5 {R : Option am_V → am_H → Prop} {h : am_H} {k : Int} {dd : Int} {x3 : Int} {x4 : Int} (t : (0 ≤ k ∧ k < 4) ∧ ((R32 x4) ∧ (((h 154 k ≤ x4) → ((R32 x3) ∧ (R (some (mB x3)) h))) ∧ ((x4 < h 154 k) → ((R32 x4) ∧ ((PI h ∧ h 0 16 = 1 ∧ (0 ≤ k ∧ k < (ncl (ptE (nr h 7 0)) (nl (nr h 7 0)))) ∧ (0 ≤ x4 ∧ x4 < iPop (lay (nr h 7 0) k 0))) ∧ (((¬ dgi (nr h 7 0) k x4 = dd) → (am_AT 3 42 5 [some (mR 1 5 0 153), some (mB k), some (mB dd), some (mI x3), some (mI (x4 + 1))] h R)) ∧ ((dgi (nr h 7 0) k x4 = dd) → (am_AT 3 42 5 [some (mR 1 5 0 153), some (mB k), some (mB dd), some (mI (x3 + 1)), some (mI (x4 + 1))] h R))))))))) : am_AT 3 42 5 [some (mR 1 5 0 153), some (mB k), some (mB dd), some (mI x3), some (mI x4)] h R :=
  am_T (d := 2) (m := 42) (T := tb42) (mL := 5) (rk := 1) (cuts := [(5, [1, 1, 1, 2, 2])]) (l := [(43, C43)]) rfl ⟨am_CS_d (by decide) C43_ok, trivial⟩ 19 (And.intro (t).1 (And.intro ((t).2).1 (And.intro (fun c2 => And.intro ((((t).2).2).1 c2).1 (((((t).2).2).1 c2).2)) (fun c2 => And.intro ((((t).2).2).2 c2).1 (And.intro (rfl) (And.intro (((((t).2).2).2 c2).2).1 (And.intro (fun c3 => ((((((t).2).2).2 c2).2).2).1 c3) (fun c3 => ((((((t).2).2).2 c2).2).2).2 c3))))))))
theorem L42 {K : Option am_V → am_H → Prop} {h : am_H} {k dd : Int} (hb : (PI h ∧ h 0 16 = 1 ∧ (0 ≤ k ∧ k < ncl (ptE (nr h 7 0)) (nl (nr h 7 0)))) ∧ K (some (mB (ct (fun y9 => dgi (nr h 7 0) k y9 = dd) (iPop (lay (nr h 7 0) k 0)).toNat))) h) : ∀ i, 0 ≤ i → i ≤ iPop (lay (nr h 7 0) k 0) → am_AT 3 42 5 [some (mR 1 5 0 153), some (mB k), some (mB dd), some (mI (ct (fun y9 => dgi (nr h 7 0) k y9 = dd) i.toNat)), some (mI i)] h K := by
  obtain ⟨⟨H, z, hk⟩, hK⟩ := hb
  have hN := (SV5_N H.1).1
  have hC := (SV5_N H.1).2
  have h4 := np_4 hN hC
  have hn0 := np_0 hN hk.1 hk.2
  have w := kd_c H z hk
  have s2 := lay_2 hN hC hk
  refine lp (iPop (lay (nr h 7 0) k 0)) (fun i ih i0 i1 => ?_)
  have hr := ct_le (fun y9 => dgi (nr h 7 0) k y9 = dd) i.toNat
  have e := ct_to (P := fun y9 => dgi (nr h 7 0) k y9 = dd) i0
  refine T42_5 ⟨by omega, ⟨by omega, ⟨fun c1 => ⟨by omega, ?_⟩, fun c1 => ⟨by omega, ⟨⟨H, z, hk, by omega⟩, ⟨fun c2 => ?_, fun c2 => ?_⟩⟩⟩⟩⟩⟩
  · rw [show i = iPop (lay (nr h 7 0) k 0) by omega]
    exact hK
  · rw [am_b_f c2, Int.add_zero] at e
    rw [← e]
    exact ih (by omega) (by omega) (by omega)
  · rw [am_b_t c2] at e
    rw [← e]
    exact ih (by omega) (by omega) (by omega)
theorem C42_ok : am_CS 3 42 C42 := W42 (fun k dd h K hb => T42_0 (L42 hb 0 (by omega) (by have := lay_2 (SV5_N hb.1.1.1).1 (SV5_N hb.1.1.1).2 hb.1.2.2; omega)))
/-! 44 FactorNets$Parts.shape -/
def C44 : am_K := fun as h K => am_a2 as (fun v0 v1 => am_oc 5 153 v0 (am_n v1 (fun k => (PI h ∧ h 0 16 = 1 ∧ (0 ≤ k ∧ k < (ncl (ptE (nr h 7 0)) (nl (nr h 7 0))))) ∧ (K (some (mB (knd (h 6 0) (nr h 7 0) k))) h))))
theorem W44 {d : Nat} (H : ∀ (k : Int) (h : am_H) (K : Option am_V → am_H → Prop), (PI h ∧ h 0 16 = 1 ∧ (0 ≤ k ∧ k < (ncl (ptE (nr h 7 0)) (nl (nr h 7 0))))) ∧ (K (some (mB (knd (h 6 0) (nr h 7 0) k))) h) → am_AT d 44 0 [some (mR 1 5 0 153), some (mB k), none, none, none] h K) : am_CS d 44 C44 := by
  refine am_CS_of (T := tb44) (mL := 5) (rk := 1) rfl (fun as h K hC => ?_)
  obtain ⟨v0, v1, rfl, hC0⟩ := am_a2_e hC
  obtain ⟨e0, hC1⟩ := am_oc_e hC0
  subst e0
  obtain ⟨k, rfl, hC2⟩ := am_n_e hC1
  refine ⟨Nat.le_of_ble_eq_true rfl, ?_⟩
  exact H k h K hC2
theorem T44_0 {R : Option am_V → am_H → Prop} {h : am_H} {k : Int} (t : (0 ≤ k ∧ k < 4) ∧ ((PI h ∧ h 0 16 = 1 ∧ (0 ≤ k ∧ k < (ncl (ptE (nr h 7 0)) (nl (nr h 7 0))))) ∧ ((PI h ∧ h 0 16 = 1 ∧ (0 ≤ k ∧ k < (ncl (ptE (nr h 7 0)) (nl (nr h 7 0))))) ∧ ((PI h ∧ h 0 16 = 1 ∧ (0 ≤ k ∧ k < (ncl (ptE (nr h 7 0)) (nl (nr h 7 0))))) ∧ ((R32 ((ct (fun y9 => dgi (nr h 7 0) k y9 = (1 : Int)) (iPop (lay (nr h 7 0) k 0)).toNat) + (ct (fun y9 => dgi (nr h 7 0) k y9 = (2 : Int)) (iPop (lay (nr h 7 0) k 0)).toNat))) ∧ (((¬ (ct (fun y9 => dgi (nr h 7 0) k y9 = (1 : Int)) (iPop (lay (nr h 7 0) k 0)).toNat) + (ct (fun y9 => dgi (nr h 7 0) k y9 = (2 : Int)) (iPop (lay (nr h 7 0) k 0)).toNat) = h 154 k) → ((R32 ((h 154 k) * ((h 154 k) - 1))) ∧ ((R32 (Int.tdiv ((h 154 k) * ((h 154 k) - 1)) 2)) ∧ (((¬ plc (h 6 0) (nr h 7 0) k = Int.tdiv ((h 154 k) * ((h 154 k) - 1)) 2) → (R (some (mB 3)) h)) ∧ ((plc (h 6 0) (nr h 7 0) k = Int.tdiv ((h 154 k) * ((h 154 k) - 1)) 2) → (R (some (mB 2)) h)))))) ∧ (((ct (fun y9 => dgi (nr h 7 0) k y9 = (1 : Int)) (iPop (lay (nr h 7 0) k 0)).toNat) + (ct (fun y9 => dgi (nr h 7 0) k y9 = (2 : Int)) (iPop (lay (nr h 7 0) k 0)).toNat) = h 154 k) → ((R32 ((h 154 k) - 1)) ∧ (((¬ plc (h 6 0) (nr h 7 0) k = (h 154 k) - 1) → ((R32 ((h 154 k) * ((h 154 k) - 1))) ∧ ((R32 (Int.tdiv ((h 154 k) * ((h 154 k) - 1)) 2)) ∧ (((¬ plc (h 6 0) (nr h 7 0) k = Int.tdiv ((h 154 k) * ((h 154 k) - 1)) 2) → (((¬ plc (h 6 0) (nr h 7 0) k = h 154 k) → (R (some (mB 3)) h)) ∧ ((plc (h 6 0) (nr h 7 0) k = h 154 k) → (R (some (mB 1)) h)))) ∧ ((plc (h 6 0) (nr h 7 0) k = Int.tdiv ((h 154 k) * ((h 154 k) - 1)) 2) → (R (some (mB 2)) h)))))) ∧ ((plc (h 6 0) (nr h 7 0) k = (h 154 k) - 1) → (R (some (mB 0)) h))))))))))) : am_AT 4 44 0 [some (mR 1 5 0 153), some (mB k), none, none, none] h R :=
  am_T (d := 3) (m := 44) (T := tb44) (mL := 5) (rk := 1) (cuts := []) (l := [(41, C41), (42, C42)]) rfl ⟨am_CS_d (by decide) C41_ok, am_CS_d (by decide) C42_ok, trivial⟩ 51 (And.intro (t).1 (And.intro (rfl) (And.intro ((t).2).1 (And.intro (rfl) (And.intro (((t).2).2).1 (And.intro (rfl) (And.intro ((((t).2).2).2).1 (And.intro (((((t).2).2).2).2).1 (And.intro (fun c4 => And.intro (fun _ => And.intro (((((((t).2).2).2).2).2).1 c4).1 (And.intro (by decide) (And.intro ((((((((t).2).2).2).2).2).1 c4).2).1 (And.intro (fun c5 => And.intro (fun _ => (((((((((t).2).2).2).2).2).1 c4).2).2).1 c5) (fun c => absurd c (by decide))) (fun c5 => (((((((((t).2).2).2).2).2).1 c4).2).2).2 c5))))) (fun c => absurd c (by decide))) (fun c4 => And.intro (fun c => absurd c (by decide)) (fun _ => And.intro (((((((t).2).2).2).2).2).2 c4).1 (And.intro (fun c6 => And.intro (((((((((t).2).2).2).2).2).2 c4).2).1 c6).1 (And.intro (by decide) (And.intro ((((((((((t).2).2).2).2).2).2 c4).2).1 c6).2).1 (And.intro (fun c7 => And.intro (fun c => absurd c (by decide)) (fun _ => And.intro (fun c8 => ((((((((((((t).2).2).2).2).2).2 c4).2).1 c6).2).2).1 c7).1 c8) (fun c8 => ((((((((((((t).2).2).2).2).2).2 c4).2).1 c6).2).2).1 c7).2 c8))) (fun c7 => (((((((((((t).2).2).2).2).2).2 c4).2).1 c6).2).2).2 c7))))) (fun c6 => ((((((((t).2).2).2).2).2).2 c4).2).2 c6)))))))))))))
theorem C44_ok : am_CS 4 44 C44 := W44 (fun k h K hb => by
  obtain ⟨⟨H, z, hk⟩, hK⟩ := hb
  have hN := (SV5_N H.1).1
  have hC := (SV5_N H.1).2
  have h4 := np_4 hN hC
  have hn0 := np_0 hN hk.1 hk.2
  have w := kd_c H z hk
  have s2 := lay_2 hN hC hk
  have e := w.1
  have pr := plc_r (n := h 6 0) (nr h 7 0) k
  have ge := plc_ge (k := k) hN hC hn0
  have ti : ct (fun y9 => dgi (nr h 7 0) k y9 = (1 : Int)) (iPop (lay (nr h 7 0) k 0)).toNat + ct (fun y9 => dgi (nr h 7 0) k y9 = (2 : Int)) (iPop (lay (nr h 7 0) k 0)).toNat = h 154 k ↔ thn (nr h 7 0) k := by rw [e]; exact thn_i hN hC hk
  have tn := thn_n (k := k) hN hC hn0
  have tab := sq_tab (iPop (lay (nr h 7 0) k 0)).toNat (by omega)
  rw [show (((iPop (lay (nr h 7 0) k 0)).toNat : Nat) : Int) = iPop (lay (nr h 7 0) k 0) by omega] at tab
  have r1 := ct_le (fun y9 => dgi (nr h 7 0) k y9 = (1 : Int)) (iPop (lay (nr h 7 0) k 0)).toNat
  have r2 := ct_le (fun y9 => dgi (nr h 7 0) k y9 = (2 : Int)) (iPop (lay (nr h 7 0) k 0)).toNat
  have td : ∀ x y : Int, Int.tdiv (x * y) 2 = Int.tdiv (x * y) 2 := fun _ _ => rfl
  rw [← e] at tab s2
  refine T44_0 ⟨by omega, ⟨⟨H, z, hk⟩, ⟨⟨H, z, hk⟩, ⟨⟨H, z, hk⟩, ⟨by unfold R32; omega, ⟨fun c1 => ⟨by have := tab.2.2.2.2; unfold R32; omega, ⟨by have := tab.2.2; unfold R32; omega, ⟨fun c2 => ?_, fun c2 => ?_⟩⟩⟩, fun c1 => ⟨by omega, ⟨fun c2 => ⟨by have := tab.2.2.2.2; unfold R32; omega, ⟨by have := tab.2.2; unfold R32; omega, ⟨fun c3 => ⟨fun c4 => ?_, fun c4 => ?_⟩, fun c3 => ?_⟩⟩⟩, fun c2 => ?_⟩⟩⟩⟩⟩⟩⟩⟩
  · refine am_rB hK ?_
    unfold knd
    rw [← e, ifc_f (fun u => c2 u.2), ifc_f (fun u => c1 (ti.mpr u))]
  · have : ¬ h 154 k = 2 := fun u => c1 (ti.mpr (fun p hp => by have := dgr_s hN hn0 hp; omega))
    refine am_rB hK ?_
    unfold knd
    rw [← e, ifc_t ⟨by omega, c2⟩]
  · have t := tn (ti.mp c1)
    omega
  · refine am_rB hK ?_
    unfold knd
    rw [← e, ifc_f (fun u => c3 u.2), ifc_t (ti.mp c1), ifc_f c2]
  · have : ¬ h 154 k = 2 := fun u => by
      have t := tab.2.1 (by omega)
      omega
    refine am_rB hK ?_
    unfold knd
    rw [← e, ifc_t ⟨by omega, c3⟩]
  · refine am_rB hK ?_
    unfold knd
    rw [← e, ifc_f (fun u => tab.1 (by omega) (by rw [← u.2]; exact c2.symm)), ifc_t (ti.mp c1), ifc_t c2])
/-! 114 FactorNets.kind -/
def C114 : am_K := fun as h K => am_a2 as (fun v0 v1 => am_oc 11 0 v0 (am_n v1 (fun k => (PI h) ∧ (∀ (h' : am_H), PQ h h' → K (some (mB (ifc (0 ≤ k ∧ k < (ncl (ptE (nr h 7 0)) (nl (nr h 7 0)))) (knd (h 6 0) (nr h 7 0) k) (-2)))) (h')))))
theorem W114 {d : Nat} (H : ∀ (k : Int) (h : am_H) (K : Option am_V → am_H → Prop), (PI h) ∧ (∀ (h' : am_H), PQ h h' → K (some (mB (ifc (0 ≤ k ∧ k < (ncl (ptE (nr h 7 0)) (nl (nr h 7 0)))) (knd (h 6 0) (nr h 7 0) k) (-2)))) (h')) → am_AT d 114 0 [some (mR 1 11 0 0), some (mB k)] h K) : am_CS d 114 C114 := by
  refine am_CS_of (T := tb114) (mL := 2) (rk := 1) rfl (fun as h K hC => ?_)
  obtain ⟨v0, v1, rfl, hC0⟩ := am_a2_e hC
  obtain ⟨e0, hC1⟩ := am_oc_e hC0
  subst e0
  obtain ⟨k, rfl, hC2⟩ := am_n_e hC1
  refine ⟨Nat.le_of_ble_eq_true rfl, ?_⟩
  exact H k h K hC2
theorem T114_0 {R : Option am_V → am_H → Prop} {h : am_H} {k : Int} (t : (PI h) ∧ (∀ (h' : am_H), (PQ h h' ∧ h' 0 16 = 1) → (((¬ (0 ≤ k ∧ k < (ncl (ptE (nr h 7 0)) (nl (nr h 7 0))))) → (R (some (mB (-2))) h')) ∧ ((0 ≤ k ∧ k < (ncl (ptE (nr h 7 0)) (nl (nr h 7 0)))) → ((PI h' ∧ h' 0 16 = 1 ∧ (0 ≤ k ∧ k < (ncl (ptE (nr h' 7 0)) (nl (nr h' 7 0))))) ∧ (R (some (mB (knd (h' 6 0) (nr h' 7 0) k))) h')))))) : am_AT 8 114 0 [some (mR 1 11 0 0), some (mB k)] h R :=
  am_T (d := 7) (m := 114) (T := tb114) (mL := 2) (rk := 1) (cuts := []) (l := [(44, C44), (159, C159)]) rfl ⟨am_CS_d (by decide) C44_ok, am_CS_d (by decide) C159_ok, trivial⟩ 14 (And.intro (rfl) (And.intro (t).1 (fun z1_0 z1_1 => And.intro (fun c9 => (((t).2) z1_0 z1_1).1 c9) (fun c9 => And.intro (rfl) (And.intro ((((t).2) z1_0 z1_1).2 c9).1 (((((t).2) z1_0 z1_1).2 c9).2))))))
theorem C114_ok : am_CS 8 114 C114 := W114 (fun k h K hb => by
  refine T114_0 ⟨hb.1, fun h' q1 => ⟨fun c2 => ?_, fun c2 => ⟨⟨q1.1.1, q1.2, by rw [q1.1.2.2.1.1]; exact c2⟩, ?_⟩⟩⟩
  · exact am_rB (hb.2 h' q1.1) (ifc_f c2)
  · rw [q1.1.2.2.1.1, q1.1.2.2.1.2]
    exact am_rB (hb.2 h' q1.1) (ifc_t c2))
/-! 248 FactorNetsModel.kindOf -/
def C248 : am_K := fun as h K => am_a2 as (fun v0 v1 => am_oc 12 571 v0 (am_n v1 (fun k => ((NT (h 572 0) (nr h 572 2) ∧ CN (h 572 0) (nr h 572 2) ∧ RLd h (h 572 0) (nr h 572 2)) ∧ (0 ≤ k ∧ k < ncl (ptE (nr h 572 2)) (nl (nr h 572 2)))) ∧ (K (some (mB (knd (h 572 0) (nr h 572 2) k))) h))))
theorem W248 {d : Nat} (H : ∀ (k : Int) (h : am_H) (K : Option am_V → am_H → Prop), ((NT (h 572 0) (nr h 572 2) ∧ CN (h 572 0) (nr h 572 2) ∧ RLd h (h 572 0) (nr h 572 2)) ∧ (0 ≤ k ∧ k < ncl (ptE (nr h 572 2)) (nl (nr h 572 2)))) ∧ (K (some (mB (knd (h 572 0) (nr h 572 2) k))) h) → am_AT d 248 0 [some (mR 1 12 0 571), some (mB k), none, none, none, none, none] h K) : am_CS d 248 C248 := by
  refine am_CS_of (T := tb248) (mL := 7) (rk := 1) rfl (fun as h K hC => ?_)
  obtain ⟨v0, v1, rfl, hC0⟩ := am_a2_e hC
  obtain ⟨e0, hC1⟩ := am_oc_e hC0
  subst e0
  obtain ⟨k, rfl, hC2⟩ := am_n_e hC1
  refine ⟨Nat.le_of_ble_eq_true rfl, ?_⟩
  exact H k h K hC2
theorem T248_0 {R : Option am_V → am_H → Prop} {h : am_H} {k : Int} (t : ((NT (h 572 0) (nr h 572 2) ∧ CN (h 572 0) (nr h 572 2) ∧ RLd h (h 572 0) (nr h 572 2)) ∧ (0 ≤ (0 : Int) ∧ (0 : Int) < (h 572 0))) ∧ ((0 ≤ (mkb (rc (RA (nr h 572 2) (fun x => ¬ (x = k ↔ ((0 : Int) = 1)))) (0 : Int))) ∧ (mkb (rc (RA (nr h 572 2) (fun x => ¬ (x = k ↔ ((0 : Int) = 1)))) (0 : Int))) < 2147483648) ∧ (((NT (h 572 0) (nr h 572 2) ∧ CN (h 572 0) (nr h 572 2) ∧ RLd h (h 572 0) (nr h 572 2)) ∧ 0 < (h 572 0)) ∧ (((NT (h 572 0) (nr h 572 2) ∧ CN (h 572 0) (nr h 572 2) ∧ RLd h (h 572 0) (nr h 572 2)) ∧ (0 ≤ (0 : Int) ∧ (0 : Int) < (h 572 0))) ∧ (am_AT 4 248 32 [some (mR 1 12 0 571), none, some (mI (iPop (mkb (rc (RA (nr h 572 2) (fun x => ¬ (x = k ↔ ((0 : Int) = 1)))) (0 : Int))))), some (mI (plc (h 572 0) (nr h 572 2) k)), some (mI (mkb (rc (RA (nr h 572 2) (fun x => ¬ (x = k ↔ ((0 : Int) = 1)))) (0 : Int)))), some (mI 0), some (mI 0)] h R))))) : am_AT 4 248 0 [some (mR 1 12 0 571), some (mB k), none, none, none, none, none] h R :=
  am_T (d := 3) (m := 248) (T := tb248) (mL := 7) (rk := 1) (cuts := [(32, [1, 0, 2, 2, 2, 2, 2])]) (l := [(188, C188), (237, C237), (247, C247), (317, C317)]) rfl ⟨am_CS_d (by decide) C188_ok, am_CS_d (by decide) C237_ok, am_CS_d (by decide) C247_ok, am_CS_d (by decide) C317_ok, trivial⟩ 25 (And.intro (rfl) (And.intro (Or.inl rfl) (And.intro (t).1 (And.intro ((t).2).1 (And.intro (rfl) (And.intro (((t).2).2).1 (And.intro (rfl) (And.intro (Or.inl rfl) (And.intro ((((t).2).2).2).1 (((((t).2).2).2).2))))))))))
theorem T248_32 {R : Option am_V → am_H → Prop} {h : am_H} {x2 : Int} {x3 : Int} {x4 : Int} {x5 : Int} {x6 : Int} (t : (R32 x6) ∧ (((h 572 0 ≤ x6) → ((R32 x2) ∧ (((x2 ≤ 2) → ((R32 x5) ∧ (((x5 ≤ 2) → ((R32 x3) ∧ ((R32 (x2 - 1)) ∧ (((¬ x3 = x2 - 1) → (R (some (mB 1)) h)) ∧ ((x3 = x2 - 1) → (R (some (mB 0)) h)))))) ∧ ((2 < x5) → (R (some (mB 3)) h))))) ∧ ((2 < x2) → ((R32 (x2 * (x2 - 1))) ∧ ((R32 x3) ∧ ((R32 (Int.tdiv (x2 * (x2 - 1)) 2)) ∧ (((¬ x3 = Int.tdiv (x2 * (x2 - 1)) 2) → ((R32 x5) ∧ (((x5 ≤ 2) → ((R32 x3) ∧ ((R32 (x2 - 1)) ∧ (((¬ x3 = x2 - 1) → (R (some (mB 1)) h)) ∧ ((x3 = x2 - 1) → (R (some (mB 0)) h)))))) ∧ ((2 < x5) → (R (some (mB 3)) h))))) ∧ ((x3 = Int.tdiv (x2 * (x2 - 1)) 2) → (R (some (mB 2)) h)))))))))) ∧ ((x6 < h 572 0) → ((R32 x4) ∧ ((R32 x6) ∧ ((0 ≤ x6 ∧ x6 < 32) ∧ (((¬ (bit x4 x6)) → (am_AT 4 248 32 [some (mR 1 12 0 571), none, some (mI x2), some (mI x3), some (mI x4), some (mI x5), some (mI (x6 + 1))] h R)) ∧ ((bit x4 x6) → ((0 ≤ 2 + x6 ∧ 2 + x6 < 22) ∧ ((0 ≤ (iAnd (h 572 (2 + x6)) x4) ∧ (iAnd (h 572 (2 + x6)) x4) < 2147483648) ∧ ((R32 x5) ∧ (am_AT 4 248 32 [some (mR 1 12 0 571), none, some (mI x2), some (mI x3), some (mI x4), some (mI (max x5 (iPop (iAnd (h 572 (2 + x6)) x4)))), some (mI (x6 + 1))] h R)))))))))))) : am_AT 4 248 32 [some (mR 1 12 0 571), none, some (mI x2), some (mI x3), some (mI x4), some (mI x5), some (mI x6)] h R :=
  am_T (d := 3) (m := 248) (T := tb248) (mL := 7) (rk := 1) (cuts := [(32, [1, 0, 2, 2, 2, 2, 2])]) (l := [(188, C188), (237, C237), (247, C247), (317, C317)]) rfl ⟨am_CS_d (by decide) C188_ok, am_CS_d (by decide) C237_ok, am_CS_d (by decide) C247_ok, am_CS_d (by decide) C317_ok, trivial⟩ 33 (And.intro (⟨by decide, by decide⟩) (And.intro (t).1 (And.intro (fun c10 => And.intro (((t).2).1 c10).1 (And.intro (fun c11 => And.intro (((((t).2).1 c10).2).1 c11).1 (And.intro (fun c12 => And.intro (((((((t).2).1 c10).2).1 c11).2).1 c12).1 (And.intro ((((((((t).2).1 c10).2).1 c11).2).1 c12).2).1 (And.intro (fun c13 => (((((((((t).2).1 c10).2).1 c11).2).1 c12).2).2).1 c13) (fun c13 => (((((((((t).2).1 c10).2).1 c11).2).1 c12).2).2).2 c13)))) (fun c12 => ((((((t).2).1 c10).2).1 c11).2).2 c12))) (fun c11 => And.intro (((((t).2).1 c10).2).2 c11).1 (And.intro (by decide) (And.intro ((((((t).2).1 c10).2).2 c11).2).1 (And.intro (((((((t).2).1 c10).2).2 c11).2).2).1 (And.intro (fun c14 => And.intro (((((((((t).2).1 c10).2).2 c11).2).2).2).1 c14).1 (And.intro (fun c15 => And.intro (((((((((((t).2).1 c10).2).2 c11).2).2).2).1 c14).2).1 c15).1 (And.intro ((((((((((((t).2).1 c10).2).2 c11).2).2).2).1 c14).2).1 c15).2).1 (And.intro (fun c16 => (((((((((((((t).2).1 c10).2).2 c11).2).2).2).1 c14).2).1 c15).2).2).1 c16) (fun c16 => (((((((((((((t).2).1 c10).2).2 c11).2).2).2).1 c14).2).1 c15).2).2).2 c16)))) (fun c15 => ((((((((((t).2).1 c10).2).2 c11).2).2).2).1 c14).2).2 c15))) (fun c14 => ((((((((t).2).1 c10).2).2 c11).2).2).2).2 c14)))))))) (fun c10 => And.intro (((t).2).2 c10).1 (And.intro ((((t).2).2 c10).2).1 (And.intro (((((t).2).2 c10).2).2).1 (And.intro (fun c17 => ((((((t).2).2 c10).2).2).2).1 c17) (fun c17 => And.intro (((((((t).2).2 c10).2).2).2).2 c17).1 (And.intro ((((((((t).2).2 c10).2).2).2).2 c17).2).1 (And.intro (((((((((t).2).2 c10).2).2).2).2 c17).2).2).1 ((((((((((t).2).2 c10).2).2).2).2 c17).2).2).2)))))))))))
theorem L248 {K : Option am_V → am_H → Prop} {g : am_H} (H : Lda g) {k : Int} (hk : 0 ≤ k ∧ k < ncl (ptE (nr g 572 2)) (nl (nr g 572 2))) (hK : K (some (mB (knd (g 572 0) (nr g 572 2) k))) g) : ∀ i, 0 ≤ i → i ≤ g 572 0 → am_AT 4 248 32 [some (mR 1 12 0 571), none, some (mI (iPop (lay (nr g 572 2) k 0))), some (mI (plc (g 572 0) (nr g 572 2) k)), some (mI (lay (nr g 572 2) k 0)), some (mI (mxn (fun p => ifc (bit (lay (nr g 572 2) k 0) p) (dgr (nr g 572 2) k p) 0) i.toNat)), some (mI i)] g K := by
  obtain ⟨hN, hC, hD⟩ := H
  have hn1 := hN.1
  have hn2 := hN.2.1
  have h0 := np_0 hN hk.1 hk.2
  have s2 := lay_2 hN hC hk
  have pr := plc_r (n := g 572 0) (nr g 572 2) k
  have tab := sq_tab (iPop (lay (nr g 572 2) k 0)).toNat (by omega)
  rw [show (((iPop (lay (nr g 572 2) k 0)).toNat : Nat) : Int) = iPop (lay (nr g 572 2) k 0) by omega] at tab
  have sl := S20_lay (r := nr g 572 2) k 0
  have sl1 := sl.1
  have sl2 := sl.2
  refine lp (g 572 0) (fun i ih i0 i1 => ?_)
  have m1 := mxn_le (f := fun p => ifc (bit (lay (nr g 572 2) k 0) p) (dgr (nr g 572 2) k p) 0) (m := 20) (by omega) i.toNat (fun p _ _ => (ifc_r (dgr_r _ _ _)).2)
  have m2 := mxn_ge (f := fun p => ifc (bit (lay (nr g 572 2) k 0) p) (dgr (nr g 572 2) k p) 0) i.toNat
  have e := mxn_tz (f := fun p => ifc (bit (lay (nr g 572 2) k 0) p) (dgr (nr g 572 2) k p) 0) i0
  have er : nr g 572 2 i = g 572 (2 + i) ∨ 20 ≤ i := by
    by_cases u : i < 20
    · exact Or.inl (nr_in i0 u)
    · exact Or.inr (by omega)
  have th : g 572 0 ≤ i → (mxn (fun p => ifc (bit (lay (nr g 572 2) k 0) p) (dgr (nr g 572 2) k p) 0) i.toNat ≤ 2 ↔ thn (nr g 572 2) k) := fun a => by
    constructor
    · intro u p hp
      have pn := RA_rc hN ⟨by omega, h0⟩ ((bt_lay hN ⟨by omega, h0⟩).mp hp)
      have := m2.2 p pn.1 (by omega)
      have e9 : ifc (bit (lay (nr g 572 2) k 0) p) (dgr (nr g 572 2) k p) 0 = dgr (nr g 572 2) k p := ifc_t hp
      omega
    · intro u
      refine mxn_le (by omega) _ (fun p _ _ => ?_)
      by_cases v : bit (lay (nr g 572 2) k 0) p
      · show ifc _ _ _ ≤ 2
        rw [ifc_t v]; exact u p v
      · show ifc _ _ _ ≤ 2
        rw [ifc_f v]; omega
  refine T248_32 ⟨by omega, ⟨fun c1 => ⟨by omega, ⟨fun c2 => ⟨by omega, ⟨fun c3 => ⟨by omega, ⟨by omega, ⟨fun c4 => ?_, fun c4 => ?_⟩⟩⟩, fun c3 => ?_⟩⟩, fun c2 => ⟨by have := tab.2.2.2.2; unfold R32; omega, ⟨by omega, ⟨by have := tab.2.2; unfold R32; omega, ⟨fun c3 => ⟨by omega, ⟨fun c4 => ⟨by omega, ⟨by omega, ⟨fun c5 => ?_, fun c5 => ?_⟩⟩⟩, fun c4 => ?_⟩⟩, fun c3 => ?_⟩⟩⟩⟩⟩⟩, fun c1 => ⟨by omega, ⟨by omega, ⟨by omega, ⟨fun c2 => ?_, fun c2 => ⟨by omega, ⟨by have t := (row_lay hN hC h0 c2).2; rw [nr_in i0 (by omega)] at t; have := t.1; have := t.2; omega, ⟨by omega, ?_⟩⟩⟩⟩⟩⟩⟩⟩⟩
  · refine am_rB hK ?_
    unfold knd
    rw [ifc_f (fun u => by have := u.1; omega), ifc_t ((th (by omega)).mp c3), ifc_f c4]
  · refine am_rB hK ?_
    unfold knd
    rw [ifc_f (fun u => by have := u.1; omega), ifc_t ((th (by omega)).mp c3), ifc_t c4]
  · refine am_rB hK ?_
    unfold knd
    rw [ifc_f (fun u => by have := u.1; omega), ifc_f (fun u => by have := (th (by omega)).mpr u; omega)]
  · refine am_rB hK ?_
    unfold knd
    rw [ifc_f (fun u => c3 u.2), ifc_t ((th (by omega)).mp c4), ifc_f c5]
  · refine am_rB hK ?_
    unfold knd
    rw [ifc_f (fun u => c3 u.2), ifc_t ((th (by omega)).mp c4), ifc_t c5]
  · refine am_rB hK ?_
    unfold knd
    rw [ifc_f (fun u => c3 u.2), ifc_f (fun u => by have := (th (by omega)).mpr u; omega)]
  · refine am_rB hK ?_
    unfold knd
    rw [ifc_t ⟨c2, c3⟩]
  · have e9 : ifc (bit (lay (nr g 572 2) k 0) i) (dgr (nr g 572 2) k i) 0 = 0 := ifc_f c2
    have := ih (by omega) (by omega) (by omega)
    rw [e, e9, show max (mxn (fun p => ifc (bit (lay (nr g 572 2) k 0) p) (dgr (nr g 572 2) k p) 0) i.toNat) 0 = mxn (fun p => ifc (bit (lay (nr g 572 2) k 0) p) (dgr (nr g 572 2) k p) 0) i.toNat by omega] at this
    exact this
  · have e9 : ifc (bit (lay (nr g 572 2) k 0) i) (dgr (nr g 572 2) k i) 0 = dgr (nr g 572 2) k i := ifc_t c2
    have rl := (row_lay hN hC h0 c2).1
    rw [nr_in i0 (by omega)] at rl
    have := ih (by omega) (by omega) (by omega)
    rw [e, e9] at this
    rw [rl]
    exact this
theorem C248_ok : am_CS 4 248 C248 := W248 (fun k h K hb => by
  have h0 := np_0 hb.1.1.1 hb.1.2.1 hb.1.2.2
  refine T248_0 ⟨⟨hb.1.1, by omega⟩, ⟨by have s := S20_mk (rc (RA (nr h 572 2) (fun x => ¬ (x = k ↔ ((0 : Int) = 1)))) (0 : Int)); have := s.1; have := s.2; omega, ⟨⟨hb.1.1, by omega⟩, ⟨⟨hb.1.1, by omega⟩, ?_⟩⟩⟩⟩
  · rw [RA_0]
    exact L248 hb.1.1 hb.1.2 hb.2 0 (by omega) (by omega))
/-! 249 FactorNetsModel.kind -/
def C249 : am_K := fun as h K => am_a2 as (fun v0 v1 => am_oc 12 571 v0 (am_n v1 (fun k => (RIv h) ∧ (∀ (h' : am_H), RQ h h' → K (some (mB (ifc (0 ≤ k ∧ k < ncl (ptE (nr h 572 2)) (nl (nr h 572 2))) (knd (h 572 0) (nr h 572 2) k) (-2)))) (h')))))
theorem W249 {d : Nat} (H : ∀ (k : Int) (h : am_H) (K : Option am_V → am_H → Prop), (RIv h) ∧ (∀ (h' : am_H), RQ h h' → K (some (mB (ifc (0 ≤ k ∧ k < ncl (ptE (nr h 572 2)) (nl (nr h 572 2))) (knd (h 572 0) (nr h 572 2) k) (-2)))) (h')) → am_AT d 249 0 [some (mR 1 12 0 571), some (mB k)] h K) : am_CS d 249 C249 := by
  refine am_CS_of (T := tb249) (mL := 2) (rk := 1) rfl (fun as h K hC => ?_)
  obtain ⟨v0, v1, rfl, hC0⟩ := am_a2_e hC
  obtain ⟨e0, hC1⟩ := am_oc_e hC0
  subst e0
  obtain ⟨k, rfl, hC2⟩ := am_n_e hC1
  refine ⟨Nat.le_of_ble_eq_true rfl, ?_⟩
  exact H k h K hC2
theorem T249_0 {R : Option am_V → am_H → Prop} {h : am_H} {k : Int} (t : (RIv h) ∧ (∀ (h' : am_H), (LD h h') → (((¬ (0 ≤ k ∧ k < ncl (ptE (nr h 572 2)) (nl (nr h 572 2)))) → (R (some (mB (-2))) h')) ∧ ((0 ≤ k ∧ k < ncl (ptE (nr h 572 2)) (nl (nr h 572 2))) → (((NT (h' 572 0) (nr h' 572 2) ∧ CN (h' 572 0) (nr h' 572 2) ∧ RLd h' (h' 572 0) (nr h' 572 2)) ∧ (0 ≤ k ∧ k < ncl (ptE (nr h' 572 2)) (nl (nr h' 572 2)))) ∧ (R (some (mB (knd (h' 572 0) (nr h' 572 2) k))) h')))))) : am_AT 6 249 0 [some (mR 1 12 0 571), some (mB k)] h R :=
  am_T (d := 5) (m := 249) (T := tb249) (mL := 2) (rk := 1) (cuts := []) (l := [(222, C222), (248, C248)]) rfl ⟨am_CS_d (by decide) C222_ok, am_CS_d (by decide) C248_ok, trivial⟩ 13 (And.intro (rfl) (And.intro (t).1 (fun z2_0 z2_1 => And.intro (fun c18 => (((t).2) z2_0 z2_1).1 c18) (fun c18 => And.intro (rfl) (And.intro ((((t).2) z2_0 z2_1).2 c18).1 (((((t).2) z2_0 z2_1).2 c18).2))))))
theorem C249_ok : am_CS 6 249 C249 := W249 (fun k h K hb => by
  refine T249_0 ⟨hb.1, fun h' q1 => ⟨fun c2 => ?_, fun c2 => ⟨⟨LD_a q1, by rw [q1.2.1]; exact c2⟩, ?_⟩⟩⟩
  · exact am_rB (hb.2 h' (LD_q q1)) (ifc_f c2)
  · rw [q1.2.1, q1.2.2.1]
    exact am_rB (hb.2 h' (LD_q q1)) (ifc_t c2))
