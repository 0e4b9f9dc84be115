/-! ===== takes; symmetries of a part ===== -/
theorem NRW_1 {h g : am_H} {p im : Int} (S : SVM h 5) (N : NRW h g 307 310 310 p im) (hp : 0 ≤ p ∧ p < h 6 0) (him : 0 ≤ im ∧ im < h 6 0) (hs : ∀ y, (0 ≤ y ∧ y < h 6 0) → S20 (h 310 y) ∧ ∀ x, bit (h 310 y) x → x < h 6 0) : SVM g 5 ∧ g 6 0 = h 6 0 ∧ svD g 5 = svD h 5 ∧ ∀ y, (0 ≤ y ∧ y < h 6 0) → (S20 (g 310 y) ∧ ∀ x, bit (g 310 y) x → x < h 6 0) ∧ ∀ x, bit (g 310 y) x ↔ bit (h 310 y) x ∧ svD h 5 im x = svD h 5 p y := by
  have s := SVM_fr S (g := g) (fun x i a b => N.1 x i (by omega))
  have e3 : svD g 5 = svD h 5 := by unfold svD; rw [s.2.2]
  have M : DM (h 6 0) (svD h 5) := DM_ds S.1 S.2.1
  refine ⟨s.1, s.2.1, e3, fun y hy => ?_⟩
  have e := N.2.2 y hy.1 (by rw [sv307]; exact hy.2)
  rw [sv307] at e
  have b : ∀ x, bit (g 310 y) x ↔ bit (h 310 y) x ∧ svD h 5 im x = svD h 5 p y := fun x => by
    rw [e, bt_and, shl_ds S.1 S.2.1 him (M.2 p y hp hy).2.2.1]
    exact ⟨fun w => ⟨w.1, w.2.2⟩, fun w => ⟨w.1, ⟨w.1.1, (hs y hy).2 x w.1⟩, w.2⟩⟩
  exact ⟨⟨by rw [e]; exact S20_and (hs y hy).1, fun x w => (hs y hy).2 x ((b x).mp w).1⟩, b⟩
theorem TK_ex {n a b c d : Int} {D : Int → Int → Int} (M : DM n D) {W kin : Int → Int} (ha : 0 ≤ a ∧ a < n) (hb : 0 ≤ b ∧ b < n) (hc : 0 ≤ c ∧ c < n) (hd : 0 ≤ d ∧ d < n) (hk : ∀ y, (0 ≤ y ∧ y < n) → (∀ x, bit (kin y) x → 0 ≤ x ∧ x < n) ∧ ∀ f, AU n D f → bit (kin y) (f y)) (hW : ∀ y, (0 ≤ y ∧ y < n) → ∀ x, bit (W y) x ↔ bit (kin y) x ∧ D b x = D a y ∧ D d x = D c y) {op : Int → Prop} (ho : ∀ y, op y ↔ 0 ≤ y ∧ y < n) : EXs D D W op ↔ tkA n D a b c d := by
  constructor
  · rintro ⟨g, G1, G2⟩
    have m : ∀ y, (0 ≤ y ∧ y < n) → bit (kin y) (g y) ∧ D b (g y) = D a y ∧ D d (g y) = D c y := fun y hy => (hW y hy _).mp (G1 y ((ho y).mpr hy))
    have r : ∀ y, (0 ≤ y ∧ y < n) → 0 ≤ g y ∧ g y < n := fun y hy => (hk y hy).1 _ (m y hy).1
    refine ⟨g, ⟨fun y u v => r y ⟨u, v⟩, fun y z u v => G2 y z ((ho y).mpr u) ((ho z).mpr v)⟩, ?_, ?_⟩
    · have e := (m a ha).2.1
      rw [(M.2 a a ha ha).1.mpr rfl] at e
      exact ((M.2 b (g a) hb (r a ha)).1.mp e).symm
    · have e := (m c hc).2.2
      rw [(M.2 c c hc hc).1.mpr rfl] at e
      exact ((M.2 d (g c) hd (r c hc)).1.mp e).symm
  · rintro ⟨f, F, e1, e2⟩
    refine ⟨f, fun y u => ?_, fun y z u v => F.2 y z ((ho y).mp u) ((ho z).mp v)⟩
    have hy := (ho y).mp u
    refine (hW y hy _).mpr ⟨(hk y hy).2 f F, ?_, ?_⟩
    · rw [← e1]; exact F.2 a y ha hy
    · rw [← e2]; exact F.2 c y hc hy
noncomputable def lyD (r : Int → Int) (k a b : Int) : Int := ds (ad r) (nthb (lay r k 0) a) (nthb (lay r k 0) b)
/-- a part's own distances are those of the net -/
theorem ds_xt {n : Int} {r r' : Int → Int} {k a b : Int} (hN : NT n r) (hC : CN n r) (h0 : 0 < n) (e : ∀ a b, ad r' a b ↔ xta r k a b) (ha : 0 ≤ a ∧ a < iPop (lay r k 0)) (hb : 0 ≤ b ∧ b < iPop (lay r k 0)) : ds (ad r') a b = lyD r k a b := by
  have sl := S20_lay (r := r) k 0
  have z0 : (0 : Int) ≤ 0 ∧ (0 : Int) < n := ⟨by omega, h0⟩
  have na := nthb_in sl ha.1 ha.2
  have nb := nthb_in sl hb.1 hb.2
  have ra := (bt_lay hN z0).mp na.1
  have rb := (bt_lay hN z0).mp nb.1
  have hu := RA_rc hN z0 ra
  have rab : rc (RA r (fun x => x = k)) (nthb (lay r k 0) a) (nthb (lay r k 0) b) := rc_trans (rc_sym (fun x y => RA_sym hN x y) ra) rb
  have hv := RA_rc hN z0 rb
  have dr := ds_r hN hC hu hv
  have w := G2 hN hC hu (ds (ad r) (nthb (lay r k 0) a) (nthb (lay r k 0) b)).toNat _ rab (by omega)
  -- from the net into the part
  have up : ∀ (d : Nat) (x y : Int), bit (lay r k 0) x → wk (RA r (fun x => x = k)) d x y → bit (lay r k 0) y ∧ wk (ad r') d (ct (bit (lay r k 0)) x.toNat) (ct (bit (lay r k 0)) y.toNat) := fun d => by
    induction d with
    | zero => intro x y bx q; have q' : x = y := q; rw [← q']; exact ⟨bx, rfl⟩
    | succ d ih =>
      rintro x y bx ⟨c, q, q2⟩
      have i := ih x c bx q
      have by' : bit (lay r k 0) y := (bt_lay hN z0).mpr (rc_step ((bt_lay hN z0).mp i.1) q2)
      refine ⟨by', _, i.2, (e _ _).mpr ⟨⟨ct_lt_20 sl i.1, ct_lt_20 sl by'⟩, ?_⟩⟩
      rw [nthb_ct (S20_in sl i.1) i.1, nthb_ct (S20_in sl by') by']
      exact q2
  have dn : ∀ (d : Nat) (x y : Int), wk (ad r') d x y → wk (ad r) d (nthb (lay r k 0) x) (nthb (lay r k 0) y) := fun d => by
    induction d with
    | zero => intro x y q; have q' : x = y := q; rw [q']; rfl
    | succ d ih =>
      rintro x y ⟨c, q, q2⟩
      exact ⟨_, ih x c q, ((e _ _).mp q2).2.1⟩
  have u := (up _ _ _ na.1 w).2
  rw [nthb_at sl ha.1 ha.2, nthb_at sl hb.1 hb.2] at u
  have l1 := ds_wk u
  have l2 := ds_wk (dn _ _ _ (ds_wk2 ⟨_, u⟩))
  have l3 := ds_nn ⟨_, u⟩
  unfold lyD
  omega
theorem AU_dc {s : Int} {D D' : Int → Int → Int} (e : ∀ a b, (0 ≤ a ∧ a < s) → (0 ≤ b ∧ b < s) → D a b = D' a b) {f : Int → Int} (F : AU s D f) : AU s D' f := ⟨F.1, fun p q a b => by rw [← e _ _ (F.1 p a.1 a.2) (F.1 q b.1 b.2), ← e p q a b]; exact F.2 p q a b⟩
theorem lvr_dc {s : Int} {D D' : Int → Int → Int} (e : ∀ a b, (0 ≤ a ∧ a < s) → (0 ≤ b ∧ b < s) → D a b = D' a b) : ∀ m : Nat, lvr s D m = lvr s D' m
  | 0 => rfl
  | m + 1 => by
    show ct (orbS s D (s - (m + 1 : Nat))) 20 * lvr s D m = ct (orbS s D' (s - (m + 1 : Nat))) 20 * lvr s D' m
    rw [lvr_dc e m, ct_congr 20 (P := orbS s D (s - (m + 1 : Nat))) (Q := orbS s D' (s - (m + 1 : Nat))) (fun k _ => ⟨fun ⟨f, F, a⟩ => ⟨f, AU_dc e F, a⟩, fun ⟨f, F, a⟩ => ⟨f, AU_dc (fun x y u v => (e x y u v).symm) F, a⟩⟩)]
theorem CN_dc {s : Int} {r r' : Int → Int} (e : ∀ a b, ad r a b ↔ ad r' a b) (C : CN s r) : CN s r' := fun i a b => rc_mono (fun x y => (e x y).mp) (C i a b)
/-! 121 FactorNets.takes -/
def C121 : am_K := fun as h K => am_a5 as (fun v0 v1 v2 v3 v4 => am_oc 11 0 v0 (am_n v1 (fun a => am_n v2 (fun b => am_n v3 (fun e => am_n v4 (fun f => (SV h 5 ∧ CHI h) ∧ (∀ (h' : am_H), CQ h h' → K (some (mB (ifc (((0 ≤ a ∧ a < (h 6 0)) ∧ (0 ≤ b ∧ b < (h 6 0))) ∧ (0 ≤ e ∧ e < (h 6 0)) ∧ (0 ≤ f ∧ f < (h 6 0))) (am_b (tkA (h 6 0) (ds (ad (nr h 7 0))) a b e f)) (-2)))) (h'))))))))
theorem W121 {d : Nat} (H : ∀ (a : Int) (b : Int) (e : Int) (f : Int) (h : am_H) (K : Option am_V → am_H → Prop), (SV h 5 ∧ CHI h) ∧ (∀ (h' : am_H), CQ h h' → K (some (mB (ifc (((0 ≤ a ∧ a < (h 6 0)) ∧ (0 ≤ b ∧ b < (h 6 0))) ∧ (0 ≤ e ∧ e < (h 6 0)) ∧ (0 ≤ f ∧ f < (h 6 0))) (am_b (tkA (h 6 0) (ds (ad (nr h 7 0))) a b e f)) (-2)))) (h')) → am_AT d 121 0 [some (mR 1 11 0 0), some (mB a), some (mB b), some (mB e), some (mB f), none] h K) : am_CS d 121 C121 := by
  refine am_CS_of (T := tb121) (mL := 6) (rk := 1) rfl (fun as h K hC => ?_)
  obtain ⟨v0, v1, v2, v3, v4, rfl, hC0⟩ := am_a5_e hC
  obtain ⟨e0, hC1⟩ := am_oc_e hC0
  subst e0
  obtain ⟨a, rfl, hC2⟩ := am_n_e hC1
  obtain ⟨b, rfl, hC3⟩ := am_n_e hC2
  obtain ⟨e, rfl, hC4⟩ := am_n_e hC3
  obtain ⟨f, rfl, hC5⟩ := am_n_e hC4
  refine ⟨Nat.le_of_ble_eq_true rfl, ?_⟩
  exact H a b e f h K hC5
theorem T121_0 {R : Option am_V → am_H → Prop} {h : am_H} {a : Int} {b : Int} {e : Int} {f : Int} (t : ((¬ (((0 ≤ a ∧ a < (h 6 0)) ∧ (0 ≤ b ∧ b < (h 6 0))))) → (R (some (mB (-2))) h)) ∧ ((((0 ≤ a ∧ a < (h 6 0)) ∧ (0 ≤ b ∧ b < (h 6 0)))) → (((((0 ≤ e ∧ e < (h 6 0)) ∧ (0 ≤ f ∧ f < (h 6 0)))) → ((SV h 5 ∧ CHI h) ∧ (∀ (h' : am_H), (CQ h h' ∧ h' 0 17 = 1) → ((HO8 (307 : Int) ∧ SVM (am_cp h' 331 0 310 0 20) (am_sv (307 : Int)) ∧ (0 ≤ a ∧ a < ((am_cp h' 331 0 310 0 20) (am_sv (307 : Int) + 1) 0)) ∧ (0 ≤ b ∧ b < ((am_cp h' 331 0 310 0 20) (am_sv (307 : Int) + 1) 0))) ∧ (∀ (h'_1 : am_H), (NRW (am_cp h' 331 0 310 0 20) h'_1 (307 : Int) 310 310 a b) → ((HO8 (307 : Int) ∧ SVM h'_1 (am_sv (307 : Int)) ∧ (0 ≤ e ∧ e < (h'_1 (am_sv (307 : Int) + 1) 0)) ∧ (0 ≤ f ∧ f < (h'_1 (am_sv (307 : Int) + 1) 0))) ∧ (∀ (h'_2 : am_H), (NRW h'_1 h'_2 (307 : Int) 310 310 e f) → ((0 ≤ h'_2 (6 : Int) 0 ∧ h'_2 (6 : Int) 0 ≤ 30) ∧ ((HO8 (307 : Int) ∧ SVM h'_2 (am_sv (307 : Int)) ∧ (0 ≤ (0 : Int) ∧ (0 : Int) + iPop (iShl 1 (h'_2 (6 : Int) 0) - 1) ≤ 20) ∧ (S20 (iShl 1 (h'_2 (6 : Int) 0) - 1) ∧ ∀ y9, bit (iShl 1 (h'_2 (6 : Int) 0) - 1) y9 → y9 < (h'_2 (am_sv (307 : Int) + 1) 0)) ∧ (∀ y9, 0 ≤ y9 → y9 < (h'_2 (am_sv (307 : Int) + 1) 0) → S20 (h'_2 ((307 : Int) + 3 + (0 : Int)) y9) ∧ ∀ q9, bit (h'_2 ((307 : Int) + 3 + (0 : Int)) y9) q9 → q9 < (h'_2 (am_sv (307 : Int) + 1) 0)) ∧ iPop (iShl 1 (h'_2 (6 : Int) 0) - 1) < 21) ∧ (∀ (h'_3 : am_H), (((∀ x9 i9, x9 ≠ (307 : Int) + 1 → ¬ ((307 : Int) + 3 + (0 : Int) < x9 ∧ x9 ≤ (307 : Int) + 23) → h'_3 x9 i9 = h'_2 x9 i9) ∧ (∀ y9, ¬ bit (iShl 1 (h'_2 (6 : Int) 0) - 1) y9 → h'_3 ((307 : Int) + 1) y9 = h'_2 ((307 : Int) + 1) y9) ∧ (EXs (svD h'_2 (am_sv (307 : Int))) (svD h'_2 (am_sv (307 : Int))) (h'_2 ((307 : Int) + 3 + (0 : Int))) (bit (iShl 1 (h'_2 (6 : Int) 0) - 1)) → EXt (svD h'_2 (am_sv (307 : Int))) (svD h'_2 (am_sv (307 : Int))) (h'_2 ((307 : Int) + 3 + (0 : Int))) (bit (iShl 1 (h'_2 (6 : Int) 0) - 1)) (h'_3 ((307 : Int) + 1))))) → (((¬ (EXs (svD h'_2 (am_sv (307 : Int))) (svD h'_2 (am_sv (307 : Int))) (h'_2 ((307 : Int) + 3 + (0 : Int))) (bit (iShl 1 (h'_2 (6 : Int) 0) - 1)))) → (R (some (mB 0)) h'_3)) ∧ ((EXs (svD h'_2 (am_sv (307 : Int))) (svD h'_2 (am_sv (307 : Int))) (h'_2 ((307 : Int) + 3 + (0 : Int))) (bit (iShl 1 (h'_2 (6 : Int) 0) - 1))) → (R (some (mB 1)) h'_3))))))))))))) ∧ ((¬ (((0 ≤ e ∧ e < (h 6 0)) ∧ (0 ≤ f ∧ f < (h 6 0))))) → (R (some (mB (-2))) h))))) : am_AT 29 121 0 [some (mR 1 11 0 0), some (mB a), some (mB b), some (mB e), some (mB f), none] h R :=
  am_T (d := 28) (m := 121) (T := tb121) (mL := 6) (rk := 1) (cuts := []) (l := [(22, C22), (72, C72), (73, C73), (75, C75b), (155, C155), (157, C157)]) rfl ⟨am_CS_d (by decide) C22_ok, am_CS_d (by decide) C72_ok, am_CS_d (by decide) C73_ok, am_CS_d (by decide) C75b_ok, am_CS_d (by decide) C155_ok, am_CS_d (by decide) C157_ok, trivial⟩ 39 (And.intro (rfl) (And.intro (fun c1 => (t).1 c1) (fun c1 => And.intro (rfl) (And.intro (fun c2 => And.intro (rfl) (And.intro (((t).2 c1).1 c2).1 (fun z1_0 z1_1 => And.intro (((((t).2 c1).1 c2).2) z1_0 z1_1).1 (fun z2_0 z2_1 => And.intro (((((((t).2 c1).1 c2).2) z1_0 z1_1).2) z2_0 z2_1).1 (fun z3_0 z3_1 => And.intro (((((((((t).2 c1).1 c2).2) z1_0 z1_1).2) z2_0 z2_1).2) z3_0 z3_1).1 (And.intro ((((((((((t).2 c1).1 c2).2) z1_0 z1_1).2) z2_0 z2_1).2) z3_0 z3_1).2).1 (fun z4_0 z4_1 => And.intro (fun c3 => ((((((((((((t).2 c1).1 c2).2) z1_0 z1_1).2) z2_0 z2_1).2) z3_0 z3_1).2).2) z4_0 z4_1).1 c3) (fun c3 => ((((((((((((t).2 c1).1 c2).2) z1_0 z1_1).2) z2_0 z2_1).2) z3_0 z3_1).2).2) z4_0 z4_1).2 c3)))))))) (fun c2 => ((t).2 c1).2 c2)))))
theorem K121 {h' h1 h2 : am_H} {a b e f : Int} (CX : CHX h') (ha : 0 ≤ a ∧ a < h' 6 0) (hb : 0 ≤ b ∧ b < h' 6 0) (he : 0 ≤ e ∧ e < h' 6 0) (hf : 0 ≤ f ∧ f < h' 6 0) : (SVM (am_cp h' 331 0 310 0 20) 5 ∧ (am_cp h' 331 0 310 0 20) 6 0 = h' 6 0) ∧ (NRW (am_cp h' 331 0 310 0 20) h1 307 310 310 a b → SVM h1 5 ∧ h1 6 0 = h' 6 0 ∧ (NRW h1 h2 307 310 310 e f → SVM h2 5 ∧ h2 6 0 = h' 6 0 ∧ (∀ x i, x ≠ 310 → h2 x i = h' x i) ∧ svD h2 5 = ds (ad (nr h' 7 0)) ∧ (∀ y, (0 ≤ y ∧ y < h' 6 0) → S20 (h2 310 y) ∧ ∀ x, bit (h2 310 y) x → x < h' 6 0) ∧ ∀ op : Int → Prop, (∀ y, op y ↔ 0 ≤ y ∧ y < h' 6 0) → (EXs (ds (ad (nr h' 7 0))) (ds (ad (nr h' 7 0))) (h2 310) op ↔ tkA (h' 6 0) (ds (ad (nr h' 7 0))) a b e f))) := by
  obtain ⟨_, CF, KN⟩ := CX
  have S := CF.2.1
  rw [sv196] at S
  have hn : h' 6 0 ≤ 20 := S.1.2.1
  have M : DM (h' 6 0) (svD h' 5) := DM_ds S.1 S.2.1
  unfold KIN at KN
  rw [sv307, show (5 : Int) + 1 = 6 by omega, show (307 : Int) + 24 = 331 by omega] at KN
  have f0 : ∀ x i, x ≠ 310 → (am_cp h' 331 0 310 0 20) x i = h' x i := fun x i z => am_cp_ne z
  have s0 := SVM_fr S (g := (am_cp h' 331 0 310 0 20)) (fun x i a b => f0 x i (by omega))
  rw [show (5 : Int) + 1 = 6 by omega, show (5 : Int) + 2 = 7 by omega] at s0
  have D0 : svD (am_cp h' 331 0 310 0 20) 5 = svD h' 5 := by unfold svD; rw [show (5 : Int) + 2 = 7 by omega, s0.2.2]
  have k0 : ∀ y, (0 ≤ y ∧ y < h' 6 0) → (am_cp h' 331 0 310 0 20) 310 y = h' 331 y := fun y hy => am_cp_0 hy.1 (by omega)
  have eD : svD h' 5 = ds (ad (nr h' 7 0)) := by unfold svD; rw [show (5 : Int) + 2 = 7 by omega]
  refine ⟨⟨s0.1, s0.2.1⟩, fun N1 => ?_⟩
  have r1 := NRW_1 s0.1 N1 (by rw [s0.2.1]; exact ha) (by rw [s0.2.1]; exact hb) (fun y hy => by
    rw [s0.2.1] at hy ⊢
    rw [k0 y hy]
    exact ⟨(KN y hy.1 hy.2).1.1, (KN y hy.1 hy.2).1.2.2⟩)
  rw [s0.2.1, D0] at r1
  refine ⟨r1.1, r1.2.1, fun N2 => ?_⟩
  have r2 := NRW_1 r1.1 N2 (by rw [r1.2.1]; exact he) (by rw [r1.2.1]; exact hf) (fun y hy => by
    rw [r1.2.1] at hy ⊢
    exact (r1.2.2.2 y hy).1)
  rw [r1.2.1, r1.2.2.1] at r2
  have eD2 : svD h2 5 = ds (ad (nr h' 7 0)) := r2.2.2.1.trans eD
  refine ⟨r2.1, r2.2.1, fun x i z => (N2.1 x i z).trans ((N1.1 x i z).trans (f0 x i z)), eD2, fun y hy => (r2.2.2.2 y hy).1, fun op ho => ?_⟩
  rw [← eD]
  refine TK_ex (kin := h' 331) M ha hb he hf (fun y hy => ⟨fun x w => ⟨w.1, (KN y hy.1 hy.2).1.2.2 x w⟩, fun f F => (KN y hy.1 hy.2).2 f F y hy.1 hy.2 (KN y hy.1 hy.2).1.2.1⟩) (fun y hy x => ?_) ho
  rw [(r2.2.2.2 y hy).2 x, (r1.2.2.2 y hy).2 x, k0 y hy]
  exact ⟨fun w => ⟨w.1.1, w.1.2, w.2⟩, fun w => ⟨⟨w.1, w.2.1⟩, w.2.2⟩⟩
theorem C121_ok : am_CS 29 121 C121 := W121 (fun a b e f h K hb => by
  obtain ⟨⟨S, C⟩, hK⟩ := hb
  refine T121_0 ⟨fun c1 => ?_, fun c1 => ⟨fun c2 => ⟨⟨S, C⟩, fun h' q3 => ⟨by
    have CX := q3.1.2.2.2.2 q3.2
    have en := q3.1.2.2.1.2
    have er := q3.1.2.2.1.1
    have ky := K121 (h1 := h') (h2 := h') CX (by rw [en]; exact c1.1) (by rw [en]; exact c1.2) (by rw [en]; exact c2.1) (by rw [en]; exact c2.2)
    rw [sv307, show (5 : Int) + 1 = 6 by omega, ky.1.2, en]
    exact ⟨Or.inl ⟨rfl, sv307⟩, ky.1.1, c1⟩
, fun h'_1 q4 => ⟨by
    have CX := q3.1.2.2.2.2 q3.2
    have en := q3.1.2.2.1.2
    have er := q3.1.2.2.1.1
    have ky := K121 (h1 := h'_1) (h2 := h') CX (by rw [en]; exact c1.1) (by rw [en]; exact c1.2) (by rw [en]; exact c2.1) (by rw [en]; exact c2.2)
    have k1 := ky.2 q4
    rw [sv307, show (5 : Int) + 1 = 6 by omega, k1.2.1, en]
    exact ⟨Or.inl ⟨rfl, sv307⟩, k1.1, c2⟩
, fun h'_2 q5 => ⟨by
    have CX := q3.1.2.2.2.2 q3.2
    have en := q3.1.2.2.1.2
    have er := q3.1.2.2.1.1
    have ky := K121 (h1 := h'_1) (h2 := h'_2) CX (by rw [en]; exact c1.1) (by rw [en]; exact c1.2) (by rw [en]; exact c2.1) (by rw [en]; exact c2.2)
    have k2 := (ky.2 q4).2.2 q5
    have hn : 0 ≤ h'_2 6 0 ∧ h'_2 6 0 ≤ 20 := ⟨k2.1.1.1, k2.1.1.2.1⟩
    omega
, ⟨by
    have CX := q3.1.2.2.2.2 q3.2
    have en := q3.1.2.2.1.2
    have er := q3.1.2.2.1.1
    have ky := K121 (h1 := h'_1) (h2 := h'_2) CX (by rw [en]; exact c1.1) (by rw [en]; exact c1.2) (by rw [en]; exact c2.1) (by rw [en]; exact c2.2)
    have k2 := (ky.2 q4).2.2 q5
    have hn : 0 ≤ h' 6 0 ∧ h' 6 0 ≤ 20 := ⟨k2.2.1 ▸ k2.1.1.1, k2.2.1 ▸ k2.1.1.2.1⟩
    have sa := S20_all (n := h' 6 0) hn.1 hn.2
    have pa := iPop_le20 sa
    rw [sv307, show (307 : Int) + 3 + (0 : Int) = 310 by omega, show (5 : Int) + 1 = 6 by omega, k2.2.1]
    exact ⟨Or.inl ⟨rfl, sv307⟩, k2.1, by omega, ⟨sa, fun y z => ((bt_all hn.1 (by omega)).mp z).2⟩, fun y u v => k2.2.2.2.2.1 y ⟨u, v⟩, by omega⟩
, fun h'_3 q6 => ⟨fun c7 => ?_, fun c7 => ?_⟩⟩⟩⟩⟩⟩, fun c2 => ?_⟩⟩
  · exact am_rB (hK h (CQ_rf S C)) (ifc_f (fun z => c1 z.1))
  · have CX := q3.1.2.2.2.2 q3.2
    have en := q3.1.2.2.1.2
    have er := q3.1.2.2.1.1
    have ky := K121 (h1 := h'_1) (h2 := h'_2) CX (by rw [en]; exact c1.1) (by rw [en]; exact c1.2) (by rw [en]; exact c2.1) (by rw [en]; exact c2.2)
    have k2 := (ky.2 q4).2.2 q5
    have hn : 0 ≤ h' 6 0 ∧ h' 6 0 ≤ 20 := ⟨k2.2.1 ▸ k2.1.1.1, k2.2.1 ▸ k2.1.1.2.1⟩
    rw [sv307, show (307 : Int) + 3 + (0 : Int) = 310 by omega, k2.2.1, k2.2.2.2.1, k2.2.2.2.2.2 _ (fun y => bt_all hn.1 (by omega)), en, er] at c7
    have fr : ∀ x i, x ≠ 308 → ¬ (310 ≤ x ∧ x ≤ 330) → h'_3 x i = h' x i := fun x i a b => (q6.1 x i (by omega) (by omega)).trans (k2.2.2.1 x i (by omega))
    have e2 : nr h'_3 7 0 = nr h' 7 0 := nr_fr2 (fun i => fr _ _ (by omega) (by omega))
    have SG : SV h'_3 5 := SV_fra q3.1.1 (fun x i a b => fr x i (by omega) (by omega))
    have Q : CQ h' h'_3 := ⟨SG, fun x i a b c d => fr x i (by omega) (by omega), ⟨e2, fr _ _ (by omega) (by omega)⟩, by rw [fr 5 4 (by omega) (by omega), fr 5 5 (by omega) (by omega), fr 5 6 (by omega) (by omega)]; exact ⟨id, id, id⟩, CHI_fr q3.1.2.2.2.2 (fr _ _ (by omega) (by omega)) SG (fun z => by rw [fr _ _ (by omega) (by omega)]; exact z) (fr _ _ (by omega) (by omega)) e2 (fun x i _ _ _ _ a b => fr x i a b)⟩
    refine am_rB (hK h'_3 (CQ_tr q3.1 Q)) ?_
    rw [ifc_t ⟨c1, c2⟩]
    rw [am_b_f c7]
  · have CX := q3.1.2.2.2.2 q3.2
    have en := q3.1.2.2.1.2
    have er := q3.1.2.2.1.1
    have ky := K121 (h1 := h'_1) (h2 := h'_2) CX (by rw [en]; exact c1.1) (by rw [en]; exact c1.2) (by rw [en]; exact c2.1) (by rw [en]; exact c2.2)
    have k2 := (ky.2 q4).2.2 q5
    have hn : 0 ≤ h' 6 0 ∧ h' 6 0 ≤ 20 := ⟨k2.2.1 ▸ k2.1.1.1, k2.2.1 ▸ k2.1.1.2.1⟩
    rw [sv307, show (307 : Int) + 3 + (0 : Int) = 310 by omega, k2.2.1, k2.2.2.2.1, k2.2.2.2.2.2 _ (fun y => bt_all hn.1 (by omega)), en, er] at c7
    have fr : ∀ x i, x ≠ 308 → ¬ (310 ≤ x ∧ x ≤ 330) → h'_3 x i = h' x i := fun x i a b => (q6.1 x i (by omega) (by omega)).trans (k2.2.2.1 x i (by omega))
    have e2 : nr h'_3 7 0 = nr h' 7 0 := nr_fr2 (fun i => fr _ _ (by omega) (by omega))
    have SG : SV h'_3 5 := SV_fra q3.1.1 (fun x i a b => fr x i (by omega) (by omega))
    have Q : CQ h' h'_3 := ⟨SG, fun x i a b c d => fr x i (by omega) (by omega), ⟨e2, fr _ _ (by omega) (by omega)⟩, by rw [fr 5 4 (by omega) (by omega), fr 5 5 (by omega) (by omega), fr 5 6 (by omega) (by omega)]; exact ⟨id, id, id⟩, CHI_fr q3.1.2.2.2.2 (fr _ _ (by omega) (by omega)) SG (fun z => by rw [fr _ _ (by omega) (by omega)]; exact z) (fr _ _ (by omega) (by omega)) e2 (fun x i _ _ _ _ a b => fr x i a b)⟩
    refine am_rB (hK h'_3 (CQ_tr q3.1 Q)) ?_
    rw [ifc_t ⟨c1, c2⟩]
    rw [am_b_t c7]
  · exact am_rB (hK h (CQ_rf S C)) (ifc_f (fun z => c2 z.2)))
/-! 118 FactorNets.symmetries -/
def C118 : am_K := fun as h K => am_a2 as (fun v0 v1 => am_oc 11 0 v0 (am_n v1 (fun k => (PI h) ∧ (∀ (h' : am_H), PQa (fun x9 => (79 ≤ x9 ∧ x9 ≤ 152) ∨ (333 ≤ x9 ∧ x9 ≤ 469)) h h' → K (some (mK (ifc (0 ≤ k ∧ k < ncl (ptE (nr h 7 0)) (nl (nr h 7 0))) (lvr (iPop (lay (nr h 7 0) k 0)) (lyD (nr h 7 0) k) (iPop (lay (nr h 7 0) k 0)).toNat) (-2)))) (h')))))
theorem W118 {d : Nat} (H : ∀ (k : Int) (h : am_H) (K : Option am_V → am_H → Prop), (PI h) ∧ (∀ (h' : am_H), PQa (fun x9 => (79 ≤ x9 ∧ x9 ≤ 152) ∨ (333 ≤ x9 ∧ x9 ≤ 469)) h h' → K (some (mK (ifc (0 ≤ k ∧ k < ncl (ptE (nr h 7 0)) (nl (nr h 7 0))) (lvr (iPop (lay (nr h 7 0) k 0)) (lyD (nr h 7 0) k) (iPop (lay (nr h 7 0) k 0)).toNat) (-2)))) (h')) → am_AT d 118 0 [some (mR 1 11 0 0), some (mB k)] h K) : am_CS d 118 C118 := by
  refine am_CS_of (T := tb118) (mL := 2) (rk := 2) rfl (fun as h K hC => ?_)
  obtain ⟨v0, v1, rfl, hC0⟩ := am_a2_e hC
  obtain ⟨e0, hC1⟩ := am_oc_e hC0
  subst e0
  obtain ⟨k, rfl, hC2⟩ := am_n_e hC1
  refine ⟨Nat.le_of_ble_eq_true rfl, ?_⟩
  exact H k h K hC2
theorem T118_0 {R : Option am_V → am_H → Prop} {h : am_H} {k : Int} (t : (PI h) ∧ (∀ (h' : am_H), (PQ h h' ∧ h' 0 16 = 1) → (((0 ≤ k ∧ k < (ncl (ptE (nr h 7 0)) (nl (nr h 7 0)))) → ((PI h' ∧ h' 0 16 = 1 ∧ (0 ≤ k ∧ k < (ncl (ptE (nr h' 7 0)) (nl (nr h' 7 0)))) ∧ ((80 : Int) = 6 ∨ (80 : Int) = 80)) ∧ (∀ (h'_1 : am_H), ((XTR h' h'_1 (80 : Int) ∧ h'_1 (80 : Int) 0 = iPop (lay (nr h' 7 0) k 0) ∧ (∀ y9, 0 ≤ y9 → y9 < 20 → S20 (h'_1 81 y9)) ∧ ∀ a9 b9, ad (nr h'_1 81 0) a9 b9 ↔ xta (nr h' 7 0) k a9 b9)) → ((HO0 (333 : Int) ∧ SV (am_up (am_up (am_up h'_1 (79 : Int) 4 0) (79 : Int) 5 0) (79 : Int) 6 0) (am_sv (333 : Int))) ∧ (∀ (h'_2 : am_H), (CHL (am_up (am_up (am_up h'_1 (79 : Int) 4 0) (79 : Int) 5 0) (79 : Int) 6 0) h'_2 (333 : Int) ∧ CHF h'_2 (333 : Int) ∧ KIN h'_2 ((333 : Int) + 111)) → (R (some (mK (h'_2 333 0))) h'_2)))))) ∧ ((¬ (0 ≤ k ∧ k < (ncl (ptE (nr h 7 0)) (nl (nr h 7 0))))) → (R (some (mK (-2))) h'))))) : am_AT 28 118 0 [some (mR 1 11 0 0), some (mB k)] h R :=
  am_T (d := 27) (m := 118) (T := tb118) (mL := 2) (rk := 2) (cuts := []) (l := [(1, C1), (45, C45), (87, C87), (159, C159)]) rfl ⟨am_CS_d (by decide) C1_ok, am_CS_d (by decide) C45_ok, am_CS_d (by decide) C87_ok, am_CS_d (by decide) C159_ok, trivial⟩ 25 (And.intro (rfl) (And.intro (t).1 (fun z5_0 z5_1 => And.intro (fun c4 => And.intro (rfl) (And.intro ((((t).2) z5_0 z5_1).1 c4).1 (fun z6_0 z6_1 => And.intro ((((((t).2) z5_0 z5_1).1 c4).2) z6_0 z6_1).1 (fun z7_0 z7_1 => (((((((t).2) z5_0 z5_1).1 c4).2) z6_0 z6_1).2) z7_0 z7_1)))) (fun c4 => (((t).2) z5_0 z5_1).2 c4))))
theorem sv333 : am_sv 333 = 79 := by decide
theorem C118_ok : am_CS 28 118 C118 := W118 (fun k h K hb => by
  obtain ⟨H, hK⟩ := hb
  refine T118_0 ⟨H, fun h' q1 => ⟨fun c2 => ⟨by rw [q1.1.2.2.1.1]; exact ⟨q1.1.1, q1.2, c2, Or.inr rfl⟩, fun h'_1 q3 => ⟨by
    have en := q1.1.2.2.1
    have hN := (SV5_N q1.1.1.1).1
    have hC := (SV5_N q1.1.1.1).2
    have ck : 0 ≤ k ∧ k < ncl (ptE (nr h' 7 0)) (nl (nr h' 7 0)) := by rw [en.1]; exact c2
    have s2 := lay_2 hN hC ck
    have h0 := np_0 hN ck.1 ck.2
    have f1 : nr (am_up (am_up (am_up h'_1 (79 : Int) 4 0) (79 : Int) 5 0) (79 : Int) 6 0) 81 0 = nr h'_1 81 0 := nr_fr2 (fun i => XT_fg (by omega))
    rw [sv333]
    refine ⟨Or.inr ⟨rfl, sv333⟩, ?_⟩
    unfold SV
    rw [show (79 : Int) + 2 = 81 by omega, show (79 : Int) + 1 = 80 by omega, f1, XT_fg (by omega), q3.2.1]
    have z4 : (am_up (am_up (am_up h'_1 (79 : Int) 4 0) (79 : Int) 5 0) (79 : Int) 6 0) 79 4 = 0 := by rw [am_up_n2 (by omega), am_up_n2 (by omega), am_up_eq]
    have z5 : (am_up (am_up (am_up h'_1 (79 : Int) 4 0) (79 : Int) 5 0) (79 : Int) 6 0) 79 5 = 0 := by rw [am_up_n2 (by omega), am_up_eq]
    have z6 : (am_up (am_up (am_up h'_1 (79 : Int) 4 0) (79 : Int) 5 0) (79 : Int) 6 0) 79 6 = 0 := by rw [am_up_eq]
    rw [z4, z5, z6]
    refine ⟨⟨XT_nt hN (by omega) q3.2.2.2, CN_dc (fun a b => ?_) (CN_xt hN h0)⟩, by omega, fun z => by omega, fun z => by omega, fun z => by omega⟩
    rw [q3.2.2.2, ad_rw2 (fun a b w => by have := w.1.2; omega)], fun h'_2 q4 => ?_⟩⟩, fun c2 => ?_⟩⟩
  · have en := q1.1.2.2.1
    have hN := (SV5_N q1.1.1.1).1
    have hC := (SV5_N q1.1.1.1).2
    have ck : 0 ≤ k ∧ k < ncl (ptE (nr h' 7 0)) (nl (nr h' 7 0)) := by rw [en.1]; exact c2
    have s2 := lay_2 hN hC ck
    have h0 := np_0 hN ck.1 ck.2
    have f1 : nr (am_up (am_up (am_up h'_1 (79 : Int) 4 0) (79 : Int) 5 0) (79 : Int) 6 0) 81 0 = nr h'_1 81 0 := nr_fr2 (fun i => XT_fg (by omega))
    obtain ⟨L, CF, _⟩ := q4
    unfold CHL at L
    rw [sv333, show (79 : Int) + 2 = 81 by omega, show (79 : Int) + 1 = 80 by omega, XT_fg (by omega), f1, q3.2.1] at L
    have O := CF.2.2.2.2
    unfold svD at O
    rw [sv333, show (79 : Int) + 2 = 81 by omega, show (79 : Int) + 1 = 80 by omega, L.2.2.1, L.2.2.2.1, lvr_dc (fun a b ha hb => ds_xt hN hC h0 q3.2.2.2 ha hb), en.1] at O
    refine am_rK (hK h'_2 (PQa_fr (h' := h') (PQa_of q1.1) (fun x i a => ?_) (fun x a => by omega))) (by rw [ifc_t c2]; exact O.symm)
    rw [L.2.1 x i (by omega) (by omega) (by omega), XT_fg (by omega)]
    exact q3.1 x i (by omega) (by omega)
  · exact am_rK (hK h' (PQa_of q1.1)) (ifc_f c2))
