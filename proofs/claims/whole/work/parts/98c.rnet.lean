theorem RG_same {h g : am_H} {j : Int} (G : RG h g j) : g 572 0 = h 572 0 ∧ nr g 572 2 = nr h 572 2 ∧ ∀ i, g 572 i = h 572 i := ⟨G.1 _ _ (by omega), nr_fr2 (fun i => G.1 _ _ (by omega)), fun i => G.1 _ _ (by omega)⟩
theorem RG_f0 {h g : am_H} {j : Int} (G : RG h g j) (k : Int) : RFA h (flr g k) k (tks (rtp h) j) ∧ flr g k 572 0 = h 572 0 := ⟨RG_f G k, by rw [(flr_f g k).2.2.2 _ _ (by omega)]; exact (RG_same G).1⟩
/-! 202 FactorNetsModel.readsLine -/
def C202 : am_K := fun as h K => am_a1 as (fun v0 => am_oc 12 571 v0 (((TPB h 579 (h 571 9)) ∧ RTK h (h 571 13) ∧ (0 ≤ h 571 13 ∧ h 571 13 ≤ h 571 12 ∧ h 571 12 ≤ h 571 9) ∧ h 571 16 = 0 ∧ WFn (h 572 1) (h 572 0) (nr h 572 2) ∧ 0 < h 572 1 ∧ h 571 14 = 1) ∧ (∀ (h' : am_H), RBD h h' (bLi (rtp h) (tke (rtp h) (h 571 13)) (h 572 0) (nr h 572 2)) → K (none) (h'))))
theorem W202 {d : Nat} (H : ∀  (h : am_H) (K : Option am_V → am_H → Prop), ((TPB h 579 (h 571 9)) ∧ RTK h (h 571 13) ∧ (0 ≤ h 571 13 ∧ h 571 13 ≤ h 571 12 ∧ h 571 12 ≤ h 571 9) ∧ h 571 16 = 0 ∧ WFn (h 572 1) (h 572 0) (nr h 572 2) ∧ 0 < h 572 1 ∧ h 571 14 = 1) ∧ (∀ (h' : am_H), RBD h h' (bLi (rtp h) (tke (rtp h) (h 571 13)) (h 572 0) (nr h 572 2)) → K (none) (h')) → am_AT d 202 0 [some (mR 1 12 0 571), none, none] h K) : am_CS d 202 C202 := by
  refine am_CS_of (T := tb202) (mL := 3) (rk := 0) rfl (fun as h K hC => ?_)
  obtain ⟨v0, rfl, hC0⟩ := am_a1_e hC
  obtain ⟨e0, hC1⟩ := am_oc_e hC0
  subst e0
  refine ⟨Nat.le_of_ble_eq_true rfl, ?_⟩
  exact H  h K hC1
theorem T202_0 {R : Option am_V → am_H → Prop} {h : am_H} (t : ((h 571 16 = 0 ∨ h 571 16 = 1) ∧ (h 571 16 = 0 → ((1 : Int) = 1) → TPB h 579 (h 571 9) ∧ (0 ≤ h 571 12 ∧ h 571 12 ≤ h 571 9))) ∧ (∀ (h' : am_H), ((h 571 16 = 1 → h' = h) ∧ (h 571 16 = 0 → (((1 : Int) = 1) → NXT h h') ∧ (¬ ((1 : Int) = 1) → h' = flr h 1))) → ((R32 ((h' 572 0) - 1)) ∧ (((h' 571 16 = 0 ∨ h' 571 16 = 1) ∧ (h' 571 16 = 0 → TPB h' 579 (h' 571 9) ∧ (0 ≤ h' 571 12 ∧ h' 571 12 ≤ h' 571 9))) ∧ (∀ (h'_1 : am_H), ((h' 571 16 = 1 → h'_1 = h') ∧ (h' 571 16 = 0 → ((ifc (h' 571 14 = 2) (ifc ((0 : Int) ≤ h' 571 15 ∧ h' 571 15 ≤ ((h' 572 0) - 1)) 0 2) 1) = 0 → NXT h' h'_1) ∧ (¬ (ifc (h' 571 14 = 2) (ifc ((0 : Int) ≤ h' 571 15 ∧ h' 571 15 ≤ ((h' 572 0) - 1)) 0 2) 1) = 0 → h'_1 = flr h' (ifc (h' 571 14 = 2) (ifc ((0 : Int) ≤ h' 571 15 ∧ h' 571 15 ≤ ((h' 572 0) - 1)) 0 2) 1)))) → (am_AT 6 202 19 [some (mR 1 12 0 571), some (mI (ifc (h' 571 16 = 1) (0 : Int) (h' 571 15))), none] h'_1 R)))))) : am_AT 6 202 0 [some (mR 1 12 0 571), none, none] h R :=
  am_T (d := 5) (m := 202) (T := tb202) (mL := 3) (rk := 0) (cuts := [(19, [1, 2, 0]), (80, [1, 2, 0]), (94, [1, 2, 2])]) (l := [(187, C187), (194, C194), (196, C196), (197, C197), (198, C198), (199, C199)]) rfl ⟨am_CS_d (by decide) C187_ok, am_CS_d (by decide) C194_ok, am_CS_d (by decide) C196_ok, am_CS_d (by decide) C197_ok, am_CS_d (by decide) C198_ok, am_CS_d (by decide) C199_ok, trivial⟩ 17 (And.intro (rfl) (And.intro (Or.inr rfl) (And.intro (t).1 (fun z1_0 z1_1 => And.intro (⟨by decide, by decide⟩) (And.intro (((t).2) z1_0 z1_1).1 (And.intro (rfl) (And.intro ((((t).2) z1_0 z1_1).2).1 (fun z2_0 z2_1 => (((((t).2) z1_0 z1_1).2).2) z2_0 z2_1))))))))
theorem T202_19 {R : Option am_V → am_H → Prop} {h : am_H} {x1 : Int} (t : ((¬ h 571 16 = 0) → (am_AT 6 202 80 [some (mR 1 12 0 571), some (mI x1), none] h R)) ∧ ((h 571 16 = 0) → (((¬ h 571 14 = 2) → (am_AT 6 202 80 [some (mR 1 12 0 571), some (mI x1), none] h R)) ∧ ((h 571 14 = 2) → ((R32 ((h 572 0) - 1)) ∧ (((¬ ((0 : Int) ≤ (h 571 15) ∧ (h 571 15) ≤ ((h 572 0) - 1))) → (am_AT 6 202 80 [some (mR 1 12 0 571), some (mI x1), none] h R)) ∧ (((0 : Int) ≤ (h 571 15) ∧ (h 571 15) ≤ ((h 572 0) - 1)) → ((R32 x1) ∧ (((h 571 15 = x1) → ((h 571 16 = 0 ∨ h 571 16 = 1) ∧ (∀ (h' : am_H), ((h 571 16 = 1 → h' = h) ∧ (h 571 16 = 0 → h' = flr h (2 : Int))) → (am_AT 6 202 80 [some (mR 1 12 0 571), some (mI x1), none] h' R)))) ∧ ((¬ h 571 15 = x1) → ((R32 x1) ∧ (((0 ≤ x1 ∧ x1 < 20) ∧ (0 ≤ (h 571 15) ∧ (h 571 15) < 32)) ∧ (((¬ (bit (h 572 (2 + x1)) (h 571 15))) → (am_AT 6 202 80 [some (mR 1 12 0 571), some (mI x1), none] h R)) ∧ ((bit (h 572 (2 + x1)) (h 571 15)) → ((h 571 16 = 0 ∨ h 571 16 = 1) ∧ (∀ (h' : am_H), ((h 571 16 = 1 → h' = h) ∧ (h 571 16 = 0 → h' = flr h (2 : Int))) → (am_AT 6 202 80 [some (mR 1 12 0 571), some (mI x1), none] h' R))))))))))))))))) : am_AT 6 202 19 [some (mR 1 12 0 571), some (mI x1), none] h R :=
  am_T (d := 5) (m := 202) (T := tb202) (mL := 3) (rk := 0) (cuts := [(19, [1, 2, 0]), (80, [1, 2, 0]), (94, [1, 2, 2])]) (l := [(187, C187), (194, C194), (196, C196), (197, C197), (198, C198), (199, C199)]) rfl ⟨am_CS_d (by decide) C187_ok, am_CS_d (by decide) C194_ok, am_CS_d (by decide) C196_ok, am_CS_d (by decide) C197_ok, am_CS_d (by decide) C198_ok, am_CS_d (by decide) C199_ok, trivial⟩ 37 (And.intro (fun c1 => (t).1 c1) (fun c1 => And.intro (fun c2 => ((t).2 c1).1 c2) (fun c2 => And.intro (⟨by decide, by decide⟩) (And.intro (((t).2 c1).2 c2).1 (And.intro (fun c3 => ((((t).2 c1).2 c2).2).1 c3) (fun c3 => And.intro (((((t).2 c1).2 c2).2).2 c3).1 (And.intro (fun c4 => And.intro (rfl) (And.intro (((((((t).2 c1).2 c2).2).2 c3).2).1 c4).1 (fun z3_0 z3_1 => ((((((((t).2 c1).2 c2).2).2 c3).2).1 c4).2) z3_0 z3_1))) (fun c4 => And.intro (((((((t).2 c1).2 c2).2).2 c3).2).2 c4).1 (And.intro (rfl) (And.intro ((((((((t).2 c1).2 c2).2).2 c3).2).2 c4).2).1 (And.intro (fun c5 => (((((((((t).2 c1).2 c2).2).2 c3).2).2 c4).2).2).1 c5) (fun c5 => And.intro (rfl) (And.intro ((((((((((t).2 c1).2 c2).2).2 c3).2).2 c4).2).2).2 c5).1 (fun z4_0 z4_1 => (((((((((((t).2 c1).2 c2).2).2 c3).2).2 c4).2).2).2 c5).2) z4_0 z4_1))))))))))))))
theorem T202_80 {R : Option am_V → am_H → Prop} {h : am_H} {x1 : Int} (t : (R32 ((h 572 0) - 1)) ∧ (((h 571 16 = 0 ∨ h 571 16 = 1) ∧ (h 571 16 = 0 → TPB h 579 (h 571 9) ∧ (0 ≤ h 571 12 ∧ h 571 12 ≤ h 571 9))) ∧ (∀ (h' : am_H), ((h 571 16 = 1 → h' = h) ∧ (h 571 16 = 0 → ((ifc (h 571 14 = 2) (ifc ((0 : Int) ≤ h 571 15 ∧ h 571 15 ≤ ((h 572 0) - 1)) 0 2) 1) = 0 → NXT h h') ∧ (¬ (ifc (h 571 14 = 2) (ifc ((0 : Int) ≤ h 571 15 ∧ h 571 15 ≤ ((h 572 0) - 1)) 0 2) 1) = 0 → h' = flr h (ifc (h 571 14 = 2) (ifc ((0 : Int) ≤ h 571 15 ∧ h 571 15 ≤ ((h 572 0) - 1)) 0 2) 1)))) → (am_AT 6 202 94 [some (mR 1 12 0 571), some (mI x1), some (mI (ifc (h 571 16 = 1) (0 : Int) (h 571 15)))] h' R)))) : am_AT 6 202 80 [some (mR 1 12 0 571), some (mI x1), none] h R :=
  am_T (d := 5) (m := 202) (T := tb202) (mL := 3) (rk := 0) (cuts := [(19, [1, 2, 0]), (80, [1, 2, 0]), (94, [1, 2, 2])]) (l := [(187, C187), (194, C194), (196, C196), (197, C197), (198, C198), (199, C199)]) rfl ⟨am_CS_d (by decide) C187_ok, am_CS_d (by decide) C194_ok, am_CS_d (by decide) C196_ok, am_CS_d (by decide) C197_ok, am_CS_d (by decide) C198_ok, am_CS_d (by decide) C199_ok, trivial⟩ 14 (And.intro (⟨by decide, by decide⟩) (And.intro (t).1 (And.intro (rfl) (And.intro ((t).2).1 (fun z5_0 z5_1 => (((t).2).2) z5_0 z5_1)))))
theorem T202_94 {R : Option am_V → am_H → Prop} {h : am_H} {x1 : Int} {x2 : Int} (t : ((¬ h 571 16 = 0) → (R none h)) ∧ ((h 571 16 = 0) → ((R32 x1) ∧ ((R32 x2) ∧ (((0 ≤ x1 ∧ x1 < 20) ∧ (0 ≤ x2 ∧ x2 < 20)) ∧ (R none (t_lk h x1 x2))))))) : am_AT 6 202 94 [some (mR 1 12 0 571), some (mI x1), some (mI x2)] h R :=
  am_T (d := 5) (m := 202) (T := tb202) (mL := 3) (rk := 0) (cuts := [(19, [1, 2, 0]), (80, [1, 2, 0]), (94, [1, 2, 2])]) (l := [(187, C187), (194, C194), (196, C196), (197, C197), (198, C198), (199, C199)]) rfl ⟨am_CS_d (by decide) C187_ok, am_CS_d (by decide) C194_ok, am_CS_d (by decide) C196_ok, am_CS_d (by decide) C197_ok, am_CS_d (by decide) C198_ok, am_CS_d (by decide) C199_ok, trivial⟩ 12 (And.intro (fun c6 => (t).1 c6) (fun c6 => And.intro ((t).2 c6).1 (And.intro (((t).2 c6).2).1 (And.intro (rfl) (And.intro ((((t).2 c6).2).2).1 (((((t).2 c6).2).2).2))))))
theorem L202c {K : Option am_V → am_H → Prop} {h : am_H} (T : TPB h 579 (h 571 9)) (z16 : h 571 16 = 0) (W : WFn (h 572 1) (h 572 0) (nr h 572 2)) (c0 : 0 < h 572 1) (s : ∀ y, 0 ≤ y → y < 20 → S20 (h 572 (2 + y))) (hK : ∀ g, RBD h g (bLi (rtp h) (tke (rtp h) (h 571 13)) (h 572 0) (nr h 572 2)) → K none g) {g : am_H} {x y : Int} (G : (RG h g (tke (rtp h) (tke (rtp h) (tke (rtp h) (h 571 13)))) ∧ (x = (tkv (rtp h) (tke (rtp h) (h 571 13))) ∧ y = (tkv (rtp h) (tke (rtp h) (tke (rtp h) (h 571 13))))) ∧ (bLi (rtp h) (tke (rtp h) (h 571 13)) (h 572 0) (nr h 572 2)).1 = 0) ∨ (∃ f p, (RFA h g f p ∧ g 572 0 = h 572 0) ∧ ¬ f = 0 ∧ (bLi (rtp h) (tke (rtp h) (h 571 13)) (h 572 0) (nr h 572 2)) = (f, p, h 572 0, nr h 572 2, 0))) : am_AT 6 202 94 [some (mR 1 12 0 571), some (mI x), some (mI y)] g K := by
  have hn := W.1.2.1
  refine T202_94 ⟨fun c1 => ?_, fun c1 => ⟨by
    rcases G with ⟨G, ev, s0⟩ | ⟨f, p, ⟨A, a0⟩, hf, e⟩
    · have w := bLi_w W c0 s0
      have v1 := rdf_0 w.1.1
      have v2 := rdf_0 w.1.2.1
      rw [ev.1]
      omega
    · have := A.2.1
      omega, ⟨by
    rcases G with ⟨G, ev, s0⟩ | ⟨f, p, ⟨A, a0⟩, hf, e⟩
    · have w := bLi_w W c0 s0
      have v1 := rdf_0 w.1.1
      have v2 := rdf_0 w.1.2.1
      rw [ev.2]
      omega
    · have := A.2.1
      omega, ⟨by
    rcases G with ⟨G, ev, s0⟩ | ⟨f, p, ⟨A, a0⟩, hf, e⟩
    · have w := bLi_w W c0 s0
      have v1 := rdf_0 w.1.1
      have v2 := rdf_0 w.1.2.1
      rw [ev.1, ev.2]
      omega
    · have := A.2.1
      omega, ?_⟩⟩⟩⟩
  · rcases G with G | ⟨f, p, ⟨A, a0⟩, hf, e⟩
    · exact absurd ((RG_16 G.1).trans z16) c1
    · exact hK g (RFA_S A hf e)
  · rcases G with ⟨G, ev, s0⟩ | ⟨f, p, ⟨A, a0⟩, hf, e⟩
    · have w := bLi_w W c0 s0
      have v1 := rdf_0 w.1.1
      have v2 := rdf_0 w.1.2.1
      have hne : ¬ (tkv (rtp h) (tke (rtp h) (h 571 13))) = (tkv (rtp h) (tke (rtp h) (tke (rtp h) (h 571 13)))) := fun z => w.1.2.2 (Or.inl z)
      have sm := RG_same G
      rw [ev.1, ev.2]
      have tl := t_lk_nr (h := g) hne (by omega) (by omega) (fun y a b => by rw [sm.2.2]; exact s y a b)
      rw [sm.2.1] at tl
      refine hK _ ?_
      rw [w.2.1]
      refine ⟨fun x i a b => by rw [t_lk_ne (by omega)]; exact G.1 x i (by omega), fun _ => ⟨⟨?_, ?_, ?_⟩, ⟨?_, tl⟩, RTK_fr G.2.1 (fun i => t_lk_ne (by omega)) (fun i => t_lk_ne (by omega)), G.2.2.1, ?_⟩, fun z => absurd rfl z⟩
      · rw [t_lk_ne (by omega)]; exact c1
      · rw [t_lk_ne (by omega)]; exact G.1 _ _ (by omega)
      · rw [t_lk_ne (by omega)]; exact G.1 _ _ (by omega)
      · rw [t_lk_ne (by omega)]; exact sm.1
      · rw [t_lk_ne (by omega), t_lk_ne (by omega)]; exact G.2.2.2
    · have := A.2.1
      omega
theorem L202b {K : Option am_V → am_H → Prop} {h : am_H} (T : TPB h 579 (h 571 9)) (z16 : h 571 16 = 0) (W : WFn (h 572 1) (h 572 0) (nr h 572 2)) (c0 : 0 < h 572 1) (s : ∀ y, 0 ≤ y → y < 20 → S20 (h 572 (2 + y))) (hK : ∀ g, RBD h g (bLi (rtp h) (tke (rtp h) (h 571 13)) (h 572 0) (nr h 572 2)) → K none g) {g : am_H} {x : Int} (G : (RG h g (tke (rtp h) (tke (rtp h) (h 571 13))) ∧ x = (tkv (rtp h) (tke (rtp h) (h 571 13))) ∧ rdf (rtp h) (tke (rtp h) (h 571 13)) 0 (h 572 0 - 1) = 0 ∧ (rdf (rtp h) (tke (rtp h) (tke (rtp h) (h 571 13))) 0 (h 572 0 - 1) = 0 → ¬ ((tkv (rtp h) (tke (rtp h) (h 571 13))) = (tkv (rtp h) (tke (rtp h) (tke (rtp h) (h 571 13)))) ∨ ad (nr h 572 2) (tkv (rtp h) (tke (rtp h) (h 571 13))) (tkv (rtp h) (tke (rtp h) (tke (rtp h) (h 571 13))))))) ∨ (∃ f p, (RFA h g f p ∧ g 572 0 = h 572 0) ∧ ¬ f = 0 ∧ (bLi (rtp h) (tke (rtp h) (h 571 13)) (h 572 0) (nr h 572 2)) = (f, p, h 572 0, nr h 572 2, 0))) : am_AT 6 202 80 [some (mR 1 12 0 571), some (mI x), none] g K := by
  have hn := W.1.2.1
  have hn0 := W.1.1
  refine T202_80 ⟨by
    rcases G with ⟨G, ex, r1, nc⟩ | ⟨f, p, ⟨A, a0⟩, hf, e⟩
    · rw [(RG_same G).1]; omega
    · rw [a0]; omega, ⟨by
    rcases G with ⟨G, ex, r1, nc⟩ | ⟨f, p, ⟨A, a0⟩, hf, e⟩
    · exact ⟨Or.inl ((RG_16 G).trans z16), fun _ => RG_p T G⟩
    · exact ⟨Or.inr A.2.1, fun z => by have := A.2.1; omega⟩, fun h' q1 => ?_⟩⟩
  · rcases G with ⟨G, ex, r1, nc⟩ | ⟨f, p, ⟨A, a0⟩, hf, e⟩
    · have e16 := (RG_16 G).trans z16
      have sm := RG_same G
      rw [sm.1] at q1
      have n := RG_num (a := 0) (b := h 572 0 - 1) G (by omega)
      have q2 := q1.2 e16
      rw [n.1] at q2
      rw [ifc_f (by omega)]
      by_cases r2 : rdf (rtp h) (tke (rtp h) (tke (rtp h) (h 571 13))) 0 (h 572 0 - 1) = 0
      · have v := rdf_0 r2
        refine L202c T z16 W c0 s hK (Or.inl ⟨RG_nx T G (by omega) (q2.1 r2), ⟨ex, (n.2.1 r2).1⟩, ?_⟩)
        unfold bLi
        rw [cif_t r1, cif_t r2, cif_f (nc r2)]
      · refine L202c T z16 W c0 s hK (Or.inr ⟨_, _, by rw [q2.2 r2]; exact RG_f0 G _, r2, ?_⟩)
        unfold bLi
        rw [cif_t r1, cif_f r2]
    · rw [q1.1 A.2.1]
      exact L202c T z16 W c0 s hK (Or.inr ⟨f, p, ⟨A, a0⟩, hf, e⟩)
theorem L202a {K : Option am_V → am_H → Prop} {h : am_H} (T : TPB h 579 (h 571 9)) (z16 : h 571 16 = 0) (W : WFn (h 572 1) (h 572 0) (nr h 572 2)) (c0 : 0 < h 572 1) (s : ∀ y, 0 ≤ y → y < 20 → S20 (h 572 (2 + y))) (hK : ∀ g, RBD h g (bLi (rtp h) (tke (rtp h) (h 571 13)) (h 572 0) (nr h 572 2)) → K none g) {g : am_H} {x : Int} (G : (RG h g (tke (rtp h) (tke (rtp h) (h 571 13))) ∧ x = (tkv (rtp h) (tke (rtp h) (h 571 13))) ∧ rdf (rtp h) (tke (rtp h) (h 571 13)) 0 (h 572 0 - 1) = 0) ∨ (∃ f p, (RFA h g f p ∧ g 572 0 = h 572 0) ∧ ¬ f = 0 ∧ (bLi (rtp h) (tke (rtp h) (h 571 13)) (h 572 0) (nr h 572 2)) = (f, p, h 572 0, nr h 572 2, 0))) : am_AT 6 202 19 [some (mR 1 12 0 571), some (mI x), none] g K := by
  have hn := W.1.2.1
  have hn0 := W.1.1
  have bad : ¬ g 571 16 = 0 → am_AT 6 202 80 [some (mR 1 12 0 571), some (mI x), none] g K := fun z => by
    rcases G with G | G
    · exact absurd ((RG_16 G.1).trans z16) z
    · exact L202b T z16 W c0 s hK (Or.inr G)
  have good : g 571 16 = 0 → RG h g (tke (rtp h) (tke (rtp h) (h 571 13))) ∧ x = (tkv (rtp h) (tke (rtp h) (h 571 13))) ∧ rdf (rtp h) (tke (rtp h) (h 571 13)) 0 (h 572 0 - 1) = 0 := fun z => by
    rcases G with G | ⟨f, p, ⟨A, a0⟩, hf, e⟩
    · exact G
    · have := A.2.1; omega
  have num : ∀ G : RG h g (tke (rtp h) (tke (rtp h) (h 571 13))), g 571 14 = 2 → (0 ≤ g 571 15 ∧ g 571 15 ≤ h 572 0 - 1) → g 571 15 = (tkv (rtp h) (tke (rtp h) (tke (rtp h) (h 571 13)))) ∧ rdf (rtp h) (tke (rtp h) (tke (rtp h) (h 571 13))) 0 (h 572 0 - 1) = 0 := fun G z y => by
    have n := RG_num (a := 0) (b := h 572 0 - 1) G (by omega)
    have e := n.1
    rw [ifc_t z, ifc_t y] at e
    exact ⟨(n.2.1 e.symm).1, e.symm⟩
  have ok : ∀ G : (RG h g (tke (rtp h) (tke (rtp h) (h 571 13))) ∧ x = (tkv (rtp h) (tke (rtp h) (h 571 13))) ∧ rdf (rtp h) (tke (rtp h) (h 571 13)) 0 (h 572 0 - 1) = 0), (rdf (rtp h) (tke (rtp h) (tke (rtp h) (h 571 13))) 0 (h 572 0 - 1) = 0 → ¬ ((tkv (rtp h) (tke (rtp h) (h 571 13))) = (tkv (rtp h) (tke (rtp h) (tke (rtp h) (h 571 13)))) ∨ ad (nr h 572 2) (tkv (rtp h) (tke (rtp h) (h 571 13))) (tkv (rtp h) (tke (rtp h) (tke (rtp h) (h 571 13)))))) → am_AT 6 202 80 [some (mR 1 12 0 571), some (mI x), none] g K := fun G z => L202b T z16 W c0 s hK (Or.inl ⟨G.1, G.2.1, G.2.2, z⟩)
  have no : ∀ G : (RG h g (tke (rtp h) (tke (rtp h) (h 571 13))) ∧ x = (tkv (rtp h) (tke (rtp h) (h 571 13))) ∧ rdf (rtp h) (tke (rtp h) (h 571 13)) 0 (h 572 0 - 1) = 0), ∀ h', ((g 571 16 = 1 → h' = g) ∧ (g 571 16 = 0 → h' = flr g 2)) → g 571 16 = 0 → rdf (rtp h) (tke (rtp h) (tke (rtp h) (h 571 13))) 0 (h 572 0 - 1) = 0 → ((tkv (rtp h) (tke (rtp h) (h 571 13))) = (tkv (rtp h) (tke (rtp h) (tke (rtp h) (h 571 13)))) ∨ ad (nr h 572 2) (tkv (rtp h) (tke (rtp h) (h 571 13))) (tkv (rtp h) (tke (rtp h) (tke (rtp h) (h 571 13))))) → am_AT 6 202 80 [some (mR 1 12 0 571), some (mI x), none] h' K := fun G h' q z r2 cc => by
    refine L202b T z16 W c0 s hK (Or.inr ⟨2, _, by rw [q.2 z]; exact RG_f0 G.1 2, by omega, ?_⟩)
    unfold bLi
    rw [cif_t G.2.2, cif_t r2, cif_t cc]
  refine T202_19 ⟨fun c1 => ?_, fun c1 => ⟨fun c2 => ?_, fun c2 => ⟨by rw [(RG_same (good c1).1).1]; omega, ⟨fun c3 => ?_, fun c3 => ⟨by
    have G := good c1
    have v1 := rdf_0 G.2.2
    rw [G.2.1]
    omega, ⟨fun c4 => ⟨by omega, fun h' q5 => ?_⟩, fun c4 => ⟨by
    have G := good c1
    have v1 := rdf_0 G.2.2
    rw [G.2.1]
    omega, ⟨by
    have G := good c1
    rw [(RG_same G.1).1] at c3
    have v1 := rdf_0 G.2.2
    rw [G.2.1]
    omega, ⟨fun c5 => ?_, fun c5 => ⟨by omega, fun h' q6 => ?_⟩⟩⟩⟩⟩⟩⟩⟩⟩⟩
  · exact bad c1
  · have G := good c1
    refine ok G (fun r2 => ?_)
    exact absurd ((RG_14 G.1).trans (rdf_0 r2).1) c2
  · have G := good c1
    refine ok G (fun r2 => ?_)
    rw [(RG_same G.1).1] at c3
    have n := RG_num (a := 0) (b := h 572 0 - 1) G.1 (by omega)
    have e := n.1
    rw [r2, ifc_t c2, ifc_f c3] at e
    omega
  · have G := good c1
    rw [(RG_same G.1).1] at c3
    have n := num G.1 c2 c3
    exact no G h' q5 c1 n.2 (Or.inl (by rw [← n.1, ← G.2.1]; exact c4.symm))
  · have G := good c1
    rw [(RG_same G.1).1] at c3
    have n := num G.1 c2 c3
    have v1 := rdf_0 G.2.2
    rw [(RG_same G.1).2.2] at c5
    refine ok G (fun r2 z => ?_)
    rcases z with z | z
    · exact c4 (by rw [n.1, G.2.1]; exact z.symm)
    · exact c5 (by rw [n.1, G.2.1]; exact (ad_nr2.mp z).2)
  · have G := good c1
    rw [(RG_same G.1).1] at c3
    have n := num G.1 c2 c3
    have v1 := rdf_0 G.2.2
    rw [(RG_same G.1).2.2] at c5
    exact no G h' q6 c1 n.2 (Or.inr (ad_nr2.mpr ⟨by omega, by rw [← n.1, ← G.2.1]; exact c5⟩))
theorem C202_ok : am_CS 6 202 C202 := W202 (fun h K hb => am_AT_ok (fun hw _ => by
  obtain ⟨⟨T, C, bd, z16, W, c0, w14⟩, hK⟩ := hb
  have s := rows_S hw W.1
  have G0 := RG_rf T C bd
  have hn := W.1.2.1
  have hn0 := W.1.1
  have k0 : ¬ tkk (rtp h) (h 571 13) = 0 := by rw [← C.1.2]; omega
  have S1 : ∀ h', ((h 571 16 = 1 → h' = h) ∧ (h 571 16 = 0 → (((1 : Int) = 1) → NXT h h') ∧ (¬ ((1 : Int) = 1) → h' = flr h 1))) → RG h h' (tke (rtp h) (h 571 13)) ∧ h' 571 16 = 0 := fun h' q => by
    have G := RG_nx T G0 k0 ((q.2 z16).1 rfl)
    exact ⟨G, (RG_16 G).trans z16⟩
  refine T202_0 ⟨⟨Or.inl z16, fun _ _ => ⟨T, by omega⟩⟩, fun h' q1 => ⟨by rw [(RG_same (S1 h' q1).1).1]; omega, ⟨⟨Or.inl (S1 h' q1).2, fun _ => RG_p T (S1 h' q1).1⟩, fun h'_1 q2 => ?_⟩⟩⟩
  · have s1 := S1 h' q1
    rw [(RG_same s1.1).1] at q2
    have n := RG_num (a := 0) (b := h 572 0 - 1) s1.1 (by omega)
    have q3 := q2.2 s1.2
    rw [n.1] at q3
    rw [ifc_f (by omega)]
    by_cases r1 : rdf (rtp h) (tke (rtp h) (h 571 13)) 0 (h 572 0 - 1) = 0
    · have v := rdf_0 r1
      exact L202a T z16 W c0 s hK (Or.inl ⟨RG_nx T s1.1 (by omega) (q3.1 r1), (n.2.1 r1).1, r1⟩)
    · refine L202a T z16 W c0 s hK (Or.inr ⟨_, _, by rw [q3.2 r1]; exact RG_f0 s1.1 _, r1, ?_⟩)
      unfold bLi
      rw [cif_f r1]))
