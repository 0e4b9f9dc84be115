/-! ===== the kinds of parts ===== -/
theorem ct_smz (P : Int → Prop) : ∀ m : Nat, ct P m = sm (fun x => am_b (P x)) m
  | 0 => rfl
  | m + 1 => by rw [ct_succ, sm_succ, ct_smz P m]
theorem sm_z {f : Int → Int} (m : Nat) (h : ∀ k : Int, 0 ≤ k → k < m → f k = 0) : sm f m = 0 := by
  rw [sm_congr (g := fun _ => 0) m h, sm_0]
theorem sm_pt {f : Int → Int} {a : Int} : ∀ m : Nat, 0 ≤ a → a < m → (∀ x : Int, 0 ≤ x → x < m → x ≠ a → f x = 0) → sm f m = f a
  | 0, h0, h1, _ => by omega
  | m + 1, h0, h1, h => by
    rw [sm_succ]
    by_cases e : a = m
    · rw [sm_z m (fun k a b => h k a (by omega) (by omega)), e]
      omega
    · rw [sm_pt m h0 (by omega) (fun x a b c => h x a (by omega) c), h m (by omega) (by omega) (by omega)]
      omega
theorem ct_ln {n : Int} {r : Int → Int} (hN : NT n r) (P : Int → Prop) : ct P (nl r).toNat = sm (fun p => sm (fun q => am_b (p < q ∧ ad r p q ∧ P (lno r p q))) 20) 20 := by
  have hn := hN.2.1
  rw [ct_smz]
  have e1 : sm (fun l => am_b (P l)) (nl r).toNat = sm (fun l => sm (fun p => sm (fun q => am_b (p = lo r l ∧ q = hi r l ∧ P l)) 20) 20) (nl r).toNat := by
    refine sm_congr _ (fun l l0 l1 => ?_)
    obtain ⟨a1, -⟩ := lo_ok (r := r) l0 (by omega)
    rw [sm_pt (a := lo r l) 20 (by omega) (by omega) (fun x _ _ hx => sm_z 20 (fun q _ _ => am_b_f (fun z => hx z.1))), sm_pt (a := hi r l) 20 (by omega) (by omega) (fun x _ _ hx => am_b_f (fun z => hx z.2.1))]
    by_cases e : P l
    · rw [am_b_t e, am_b_t ⟨rfl, rfl, e⟩]
    · rw [am_b_f e, am_b_f (fun z => e z.2.2)]
  rw [e1, sm_swap]
  refine sm_congr _ (fun p p0 p1 => ?_)
  rw [sm_swap]
  refine sm_congr _ (fun q q0 q1 => ?_)
  by_cases e : p < q ∧ ad r p q ∧ P (lno r p q)
  · have k := lno_ok hN e.2.1
    rw [am_b_t e, sm_pt (a := lno r p q) _ k.1.1 (by omega) (fun x x0 x1 hx => am_b_f (fun z => hx ?_)), am_b_t ⟨by omega, by omega, e.2.2⟩]
    rw [← lno_lo hN (k := x) x0 (by omega), ← z.1, ← z.2.1]
  · rw [am_b_f e, sm_z]
    intro x x0 x1
    refine am_b_f (fun z => e ?_)
    obtain ⟨a1, a2, -⟩ := lo_ok (r := r) x0 (by omega)
    rw [z.1, z.2.1, lno_lo hN x0 (by omega)]
    exact ⟨a1.2.1, a2, z.2.2⟩
theorem nthb_ct {x p : Int} (hp : 0 ≤ p ∧ p < 20) (hb : bit x p) : nthb x (ct (bit x) p.toNat) = p := by
  refine fnd_is hp.1 ⟨hb, rfl⟩ (fun j j0 j1 w => ?_) 20 (by omega)
  have w1 := ct_to (P := bit x) j0
  rw [am_b_t w.1] at w1
  have w2 := ct_mn (bit x) (j + 1).toNat (p.toNat - (j + 1).toNat)
  rw [show (j + 1).toNat + (p.toNat - (j + 1).toNat) = p.toNat by omega] at w2
  have := w.2
  omega
theorem ct_lt_20 {x p : Int} (hx : S20 x) (hb : bit x p) : 0 ≤ ct (bit x) p.toNat ∧ ct (bit x) p.toNat < iPop x := by
  have hp := S20_in hx hb
  have e1 := ct_to (P := bit x) hp.1
  rw [am_b_t hb] at e1
  have e2 := ct_mn (bit x) (p + 1).toNat (20 - (p + 1).toNat)
  rw [show (p + 1).toNat + (20 - (p + 1).toNat) = 20 by omega] at e2
  have := (ct_le (bit x) p.toNat).1
  rw [iPop_20 hx]
  omega
theorem nthb_in {x i : Int} (hx : S20 x) (h0 : 0 ≤ i) (h1 : i < iPop x) : bit x (nthb x i) ∧ (0 ≤ nthb x i ∧ nthb x i < 20) := by
  rw [iPop_20 hx] at h1
  obtain ⟨b, b1, b2, b3⟩ := ct_find 20 h0 h1
  have := nthb_ct (x := x) (p := b) (by omega) b3
  rw [show ((b : Int)).toNat = b by omega, b2] at this
  rw [this]
  exact ⟨b3, by omega⟩
theorem nthb_sm {x : Int} (f : Int → Int) : ∀ m : Nat, m ≤ 20 → sm (fun p => ifc (bit x p) (f p) 0) m = sm (fun i => f (nthb x i)) (ct (bit x) m).toNat
  | 0, _ => rfl
  | m + 1, h => by
    have ih := nthb_sm (x := x) f m (by omega)
    have h0 := (ct_le (bit x) m).1
    rw [sm_succ, ct_succ, ih]
    by_cases e : bit x m
    · have := nthb_ct (x := x) (p := m) (by omega) e
      rw [show ((m : Int)).toNat = m by omega] at this
      rw [ifc_t e, am_b_t e, sm_to h0, this]
    · rw [ifc_f e, am_b_f e, Int.add_zero, Int.add_zero]
theorem ct_dis {P Q : Int → Prop} (h : ∀ x, P x → ¬ Q x) : ∀ m : Nat, ct P m + ct Q m = ct (fun x => P x ∨ Q x) m
  | 0 => rfl
  | m + 1 => by
    have ih := ct_dis h m
    rw [ct_succ, ct_succ, ct_succ, ← ih]
    by_cases e : P m
    · rw [am_b_t e, am_b_f (h _ e), am_b_t (Or.inl e)]; omega
    · by_cases e2 : Q m
      · rw [am_b_f e, am_b_t e2, am_b_t (Or.inr e2)]; omega
      · rw [am_b_f e, am_b_f e2, am_b_f (fun z => z.elim e e2)]; omega
theorem ct_alz {P : Int → Prop} : ∀ m : Nat, (∀ k : Int, 0 ≤ k → k < m → P k) → ct P m = m
  | 0, _ => rfl
  | m + 1, h => by
    rw [ct_succ, ct_alz m (fun k a b => h k a (by omega)), am_b_t (h m (by omega) (by omega))]
    omega
noncomputable def dgr (r : Int → Int) (k p : Int) : Int := ct (RA r (fun x => x = k) p) 20
noncomputable def dgi (r : Int → Int) (k i : Int) : Int := iPop (mkb (RA r (fun x => x = k) (nthb (lay r k 0) i)))
def thn (r : Int → Int) (k : Int) : Prop := ∀ p, bit (lay r k 0) p → dgr r k p ≤ 2
noncomputable def knd (n : Int) (r : Int → Int) (k : Int) : Int := ifc (2 < iPop (lay r k 0) ∧ plc n r k = Int.tdiv (iPop (lay r k 0) * (iPop (lay r k 0) - 1)) 2) 2 (ifc (thn r k) (ifc (plc n r k = iPop (lay r k 0) - 1) 0 1) 3)
theorem dgi_eq (r : Int → Int) (k i : Int) : dgi r k i = dgr r k (nthb (lay r k 0) i) := iPop_mk _
theorem dgr_r (r : Int → Int) (k p : Int) : 0 ≤ dgr r k p ∧ dgr r k p ≤ 20 := ct_le _ 20
section KIND
variable {n : Int} {r : Int → Int} {k : Int}
theorem hand (hN : NT n r) (h0 : 0 < n) : sm (fun p => ifc (bit (lay r k 0) p) (dgr r k p) 0) 20 = 2 * plc n r k := by
  have hn := hN.2.1
  have bl : ∀ x, bit (lay r k 0) x ↔ rc (RA r (fun x => x = k)) 0 x := fun x => bt_lay hN ⟨by omega, h0⟩
  have st : ∀ p q, bit (lay r k 0) p → RA r (fun x => x = k) p q → bit (lay r k 0) q := fun p q a b => (bl q).mpr (rc_step ((bl p).mp a) b)
  have e1 : sm (fun p => ifc (bit (lay r k 0) p) (dgr r k p) 0) 20 = sm (fun p => sm (fun q => am_b (p < q ∧ bit (lay r k 0) p ∧ RA r (fun x => x = k) p q) + am_b (q < p ∧ bit (lay r k 0) q ∧ RA r (fun x => x = k) q p)) 20) 20 := by
    refine sm_congr _ (fun p p0 p1 => ?_)
    by_cases e : bit (lay r k 0) p
    · rw [ifc_t e]
      unfold dgr
      rw [ct_smz]
      refine sm_congr _ (fun q q0 q1 => ?_)
      by_cases w : RA r (fun x => x = k) p q
      · have ne : p ≠ q := (hN.2.2 p q w.1).2.2.1
        rw [am_b_t w]
        by_cases lt : p < q
        · rw [am_b_t ⟨lt, e, w⟩, am_b_f (fun z => by have := z.1; omega)]; omega
        · rw [am_b_f (fun z => lt z.1), am_b_t ⟨by omega, st p q e w, RA_sym hN _ _ w⟩]; omega
      · rw [am_b_f w, am_b_f (fun z => w z.2.2), am_b_f (fun z => w (RA_sym hN _ _ z.2.2))]; omega
    · rw [ifc_f e, sm_z]
      intro q q0 q1
      rw [am_b_f (fun z => e z.2.1), am_b_f (fun z => e (st q p z.2.1 z.2.2))]; omega
  have e2 : plc n r k = sm (fun p => sm (fun q => am_b (p < q ∧ bit (lay r k 0) p ∧ RA r (fun x => x = k) p q)) 20) 20 := by
    unfold plc
    rw [ct_ln hN]
    refine sm_congr _ (fun p p0 p1 => sm_congr _ (fun q q0 q1 => ?_))
    by_cases w : p < q ∧ ad r p q
    · have kk := (lno_ok hN w.2).2.1
      by_cases u : bit (lay r k 0) p ∧ pl r p q = k
      · rw [am_b_t ⟨w.1, w.2, u.2, by rw [kk, show min p q = p by omega]; exact u.1⟩, am_b_t ⟨w.1, u.1, w.2, u.2⟩]
      · rw [am_b_f, am_b_f]
        · exact fun z => u ⟨z.2.1, z.2.2.2⟩
        · intro z
          have z3 := z.2.2.2
          rw [kk, show min p q = p by omega] at z3
          exact u ⟨z3, z.2.2.1⟩
    · rw [am_b_f (fun z => w ⟨z.1, z.2.1⟩), am_b_f (fun z => w ⟨z.1, z.2.2.1⟩)]
  have e3 : sm (fun p => sm (fun q => am_b (q < p ∧ bit (lay r k 0) q ∧ RA r (fun x => x = k) q p)) 20) 20 = plc n r k := by
    rw [e2, sm_swap]
  rw [e1, sm_congr (g := fun p => sm (fun q => am_b (p < q ∧ bit (lay r k 0) p ∧ RA r (fun x => x = k) p q)) 20 + sm (fun q => am_b (q < p ∧ bit (lay r k 0) q ∧ RA r (fun x => x = k) q p)) 20) 20 (fun p _ _ => sm_add _ _ 20), sm_add, e3, ← e2]
  omega
theorem dgi_sm (hN : NT n r) (h0 : 0 < n) : sm (fun i => dgi r k i) (iPop (lay r k 0)).toNat = 2 * plc n r k := by
  rw [← hand hN h0, nthb_sm (dgr r k) 20 (by omega), iPop_20 (S20_lay k 0)]
  exact sm_congr _ (fun i _ _ => dgi_eq r k i)
theorem dgr_1 (hN : NT n r) (hC : CN n r) (hk : 0 ≤ k ∧ k < ncl (ptE r) (nl r)) {p : Int} (hp : 0 ≤ p ∧ p < n) : 1 ≤ dgr r k p := by
  have hn := hN.2.1
  obtain ⟨a, b, h1, h2⟩ := pl_sur hN hk.1 hk.2
  obtain ⟨q, q1, q2⟩ := G10 hN hC h1 hp
  have hq := (NT_in hN q1).2
  have e := ct_mono (P := fun x => x = q) (Q := RA r (fun x => x = k) p) 20 (fun x _ hx => by rw [hx]; exact ⟨q1, q2.trans h2⟩)
  have e2 : ct (fun x => x = q) 20 = 1 := by
    rw [ct_add2 (P := fun _ => False) (a := q) 20 (by omega) (by omega) (fun z => z) (fun x _ _ => ⟨Or.inr, fun z => z.elim False.elim id⟩), ct_none 20 (fun _ _ z => z)]
    rfl
  unfold dgr
  omega
theorem plc_r (r : Int → Int) (k : Int) : 0 ≤ plc n r k ∧ plc n r k ≤ 190 := by
  have := ct_le (fun l => lab (ptE r) l = k ∧ bit (lay r k 0) (lo r l)) (nl r).toNat
  have := nl_r r
  unfold plc
  omega
theorem plc_ge (hN : NT n r) (hC : CN n r) (h0 : 0 < n) : iPop (lay r k 0) - 1 ≤ plc n r k := by
  have hn := hN.2.1
  have hl := nl_r r
  have bl : ∀ x, bit (lay r k 0) x ↔ rc (RA r (fun x => x = k)) 0 x := fun x => bt_lay hN ⟨by omega, h0⟩
  have e1 : iPop (lay r k 0) = ct (fun x => bit (lay r k 0) x ∧ x ≠ 0) 20 + 1 := by
    rw [iPop_20 (S20_lay k 0)]
    refine ct_add2 (a := 0) 20 (by omega) (by omega) (fun z => z.2 rfl) (fun x _ _ => ⟨fun w => ?_, fun w => ?_⟩)
    · by_cases e : x = 0
      · exact Or.inr e
      · exact Or.inl ⟨w, e⟩
    · rcases w with w | w
      · exact w.1
      · rw [w]; exact (bl 0).mpr rc_refl
  have e2 : ct (fun x => bit (lay r k 0) x ∧ x ≠ 0) (20 + 170) = ct (fun x => bit (lay r k 0) x ∧ x ≠ 0) 20 := ct_ext 20 170 (fun x hx w => by have := S20_in (S20_lay k 0) w.1; omega)
  have e3 : ct (fun l => l < nl r ∧ lab (ptE r) l = k ∧ bit (lay r k 0) (lo r l)) ((nl r).toNat + (190 - (nl r).toNat)) = ct (fun l => l < nl r ∧ lab (ptE r) l = k ∧ bit (lay r k 0) (lo r l)) (nl r).toNat := ct_ext _ _ (fun x hx w => by omega)
  rw [show (nl r).toNat + (190 - (nl r).toNat) = 190 by omega] at e3
  have e4 : ct (fun l => l < nl r ∧ lab (ptE r) l = k ∧ bit (lay r k 0) (lo r l)) (nl r).toNat = plc n r k := ct_congr _ (fun l hl2 => ⟨fun w => w.2, fun w => ⟨by omega, w⟩⟩)
  have e5 := ct_rel (P := fun x => bit (lay r k 0) x ∧ x ≠ 0) (Q := fun l => l < nl r ∧ lab (ptE r) l = k ∧ bit (lay r k 0) (lo r l)) (T := fun x l => ∃ y, RA r (fun x => x = k) y x ∧ ds (ad r) 0 y + 1 = ds (ad r) 0 x ∧ lno r y x = l) (n := 190) (fun x x0 x1 hx => by
    have hr := (bl x).mp hx.1
    have hxn := RA_rc hN ⟨by omega, h0⟩ hr
    have d := ds_r hN hC (a := 0) (b := x) ⟨by omega, h0⟩ hxn
    have dz : ds (ad r) 0 x ≠ 0 := fun z => hx.2 (ds_z (CN_rc hN hC ⟨by omega, h0⟩ hxn) z).symm
    have w := G2 hN hC (u := 0) ⟨by omega, h0⟩ (ds (ad r) 0 x).toNat x hr (by omega)
    rw [show (ds (ad r) 0 x).toNat = ((ds (ad r) 0 x).toNat - 1) + 1 by omega] at w
    obtain ⟨y, w1, w2⟩ := w
    have hy := RA_in hN w2
    have d1 := ds_wk (wk_mono (F := ad r) (fun _ _ z => z.1) w1)
    have d2 := ds_tri (CN_rc hN hC ⟨by omega, h0⟩ hy.1) (CN_rc hN hC hy.1 hy.2)
    have d3 := ds_1 w2.1 (hN.2.2 _ _ w2.1).2.2.1
    have kk := lno_ok hN w2.1
    have ly : bit (lay r k 0) y := (bl y).mpr ⟨_, w1⟩
    refine ⟨lno r y x, by omega, ⟨kk.1.2, w2.2, ?_⟩, y, w2, by omega, rfl⟩
    rw [kk.2.1]
    by_cases lt : y < x
    · rw [show min y x = y by omega]; exact ly
    · rw [show min y x = x by omega]; exact hx.1) (fun x z l hx hz tx tz => by
    obtain ⟨y, y1, y2, y3⟩ := tx
    obtain ⟨y', u1, u2, u3⟩ := tz
    have k1 := (lno_ok hN y1.1).2
    have k2 := (lno_ok hN u1.1).2
    rw [y3] at k1
    rw [u3] at k2
    by_cases e : x = z
    · exact e
    · have a1 : y' = x := by omega
      have a2 : z = y := by omega
      rw [a1, a2] at u2
      omega)
  rw [show 20 + 170 = 190 by rfl] at e2
  omega
theorem thn_i (hN : NT n r) (hC : CN n r) (hk : 0 ≤ k ∧ k < ncl (ptE r) (nl r)) : ct (fun y => dgi r k y = 1) (iPop (lay r k 0)).toNat + ct (fun y => dgi r k y = 2) (iPop (lay r k 0)).toNat = iPop (lay r k 0) ↔ thn r k := by
  have h0 := np_0 hN hk.1 hk.2
  have hn := hN.2.1
  have bl : ∀ x, bit (lay r k 0) x ↔ rc (RA r (fun x => x = k)) 0 x := fun x => bt_lay hN ⟨by omega, h0⟩
  have hs := (ct_le (bit (lay r k 0)) 20).1
  rw [← iPop_20 (S20_lay k 0)] at hs
  rw [ct_dis (fun x a b => by omega)]
  constructor
  · intro w p hp
    have i := ct_lt_20 (S20_lay k 0) hp
    have c := ct_full (P := fun x => dgi r k x = 1 ∨ dgi r k x = 2) (iPop (lay r k 0)).toNat (by omega) (ct (bit (lay r k 0)) p.toNat) i.1 (by omega)
    rw [dgi_eq, nthb_ct (S20_in (S20_lay k 0) hp) hp] at c
    omega
  · intro w
    rw [ct_alz _ (fun i a b => ?_)]
    · omega
    · have hi := nthb_in (S20_lay k 0) a (show i < iPop (lay r k 0) by omega)
      have h2 := w _ hi.1
      have h1 := dgr_1 hN hC hk (RA_rc hN ⟨by omega, h0⟩ ((bl _).mp hi.1))
      rw [dgi_eq]
      omega
/-- thin, and more lines than points but one: as many lines as points -/
theorem thn_n (hN : NT n r) (hC : CN n r) (h0 : 0 < n) (ht : thn r k) : plc n r k ≤ iPop (lay r k 0) := by
  have e := dgi_sm (k := k) hN h0
  have hs := (ct_le (bit (lay r k 0)) 20)
  rw [← iPop_20 (S20_lay k 0)] at hs
  have := sm_rg (f := fun i => dgi r k i) (m := 2) (iPop (lay r k 0)).toNat (fun i hi => by
    have hb := nthb_in (S20_lay k 0) (show (0 : Int) ≤ i by omega) (show (i : Int) < iPop (lay r k 0) by omega)
    have := ht _ hb.1
    have := dgr_r r k (nthb (lay r k 0) i)
    rw [dgi_eq]
    omega)
  omega
theorem lay_2 (hN : NT n r) (hC : CN n r) (hk : 0 ≤ k ∧ k < ncl (ptE r) (nl r)) : 2 ≤ iPop (lay r k 0) ∧ iPop (lay r k 0) ≤ 20 := by
  have h0 := np_0 hN hk.1 hk.2
  have h := sz_2 hN hC h0 k hk.1 hk.2
  have hs := (ct_le (bit (lay r k 0)) 20)
  rw [← iPop_20 (S20_lay k 0)] at hs
  refine ⟨?_, by omega⟩
  unfold lay
  rw [iPop_mk]
  exact h
theorem sq_tab : ∀ s : Nat, s < 21 → (2 < s → ¬ (s : Int) - 1 = Int.tdiv ((s : Int) * (s - 1)) 2) ∧ (s = 2 → Int.tdiv ((s : Int) * (s - 1)) 2 = 1) ∧ 0 ≤ Int.tdiv ((s : Int) * (s - 1)) 2 ∧ Int.tdiv ((s : Int) * (s - 1)) 2 ≤ 190 ∧ -20 ≤ (s : Int) * (s - 1) ∧ (s : Int) * (s - 1) ≤ 400 := by decide +kernel
end KIND
