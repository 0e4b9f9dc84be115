/-! the texts are there at the start -/
def ri_lit (i : Nat) : String × Nat := ([("FactorNetsModel", 326), ("FactorNets", 269), ("FactorNets$Reader", 78), ("FactorNets", 443), ("FactorNets$Reader", 69), ("FactorNets$Reader", 61), ("FactorNets", 445), ("FactorNets", 263), ("FactorNets$Reader", 95), ("FactorNets$Reader", 76), ("FactorNets", 441), ("FactorNets$Reader", 74), ("FactorNets", 439)] : List (String × Nat)).getD i ("", 0)
def ri_sa (b : Nat) (adK : Nat → Nat) : Nat → Nat := fun q => if q = 2000000 then b else adK (q - 3000000)
theorem ri_eqR {args : Array Value} {s : State} {t u : Term} {a : Nat} (h : (Cond.eq t u).before args s = true) (ht : t.eval args s none [] s = some (.ref a)) : u.eval args s none [] s = some (.ref a) := by
  cases hu : u.eval args s none [] s with
  | none => simp [Cond.before, Cond.holds, Cond.value, ht, hu] at h
  | some w =>
    simp only [Cond.before, Cond.holds, Cond.value, ht, hu] at h
    cases w <;> simp_all
theorem ri_tx_a : ∀ i : Nat, i < 13 → Cond.exactly (.string (ri_lit i).1 (ri_lit i).2) "java/lang/String" ∈ flatC (Jvm.Cond.and given_1 narrow_1) ∧ Cond.eq (.field (.string (ri_lit i).1 (ri_lit i).2) "java/lang/String" "coder" "B") (.int 0) ∈ flatC (Jvm.Cond.and given_1 narrow_1) ∧ Cond.arrayOf (.field (.string (ri_lit i).1 (ri_lit i).2) "java/lang/String" "value" "[B") .byte ∈ flatC (Jvm.Cond.and given_1 narrow_1) ∧ Cond.eq (.length (.field (.string (ri_lit i).1 (ri_lit i).2) "java/lang/String" "value" "[B")) (.int (Int32.ofNat (ri_txL.getD i 0))) ∈ flatC (Jvm.Cond.and given_1 narrow_1) := by decide +kernel
theorem ri_tx_b : ∀ i : Nat, i < 13 → ∀ j : Nat, j < ri_txL.getD i 0 → Cond.eq (.elem (.field (.string (ri_lit i).1 (ri_lit i).2) "java/lang/String" "value" "[B") (.int (Int32.ofNat j))) (.int ((ri_txB.getD i []).getD j 0)) ∈ flatC (Jvm.Cond.and given_1 narrow_1) := by decide +kernel
set_option maxRecDepth 20000 in
theorem ri_texts {b : Nat} {s : State} (hts : ∀ w ∈ lw_tbl, w.before #[Value.ref b] s = true) (hgv : (Jvm.Cond.and given_1 narrow_1).before #[Value.ref b] s = true) : ∃ adK : Nat → Nat, ri_TX s.heap.size (ri_sa b adK) s := by
  have hs := flat_of_before _ hgv
  have hA : ∀ a : Nat, a < s.heap.size → ¬ s.heap.size ≤ a := fun a h q => absurd h (Nat.not_lt.mpr q)
  have h0 : ∀ i : Nat, ∃ q : Nat × Nat, i < 13 → (Term.string (ri_lit i).1 (ri_lit i).2).eval #[Value.ref b] s none [] s = some (.ref q.1) ∧ va_O "java/lang/String" q.1 (fun q => s.heap.size ≤ q) s s.heap ∧ va_OF "java/lang/String" "coder" "B" (.int 0) q.1 (fun q => s.heap.size ≤ q) s s.heap ∧ va_OF "java/lang/String" "value" "[B" (.ref q.2) q.1 (fun q => s.heap.size ≤ q) s s.heap ∧ va_T .byte q.2 (ri_txL.getD i 0) (fun j => .int ((ri_txB.getD i []).getD j 0)) (fun q => s.heap.size ≤ q) s s.heap := by
    intro i
    by_cases hi : i < 13
    · obtain ⟨k, v, hS, hev⟩ := vk_Sof (args := #[Value.ref b]) (s := s) (N := 1) (tm := fun _ => .string (ri_lit i).1 (ri_lit i).2) (len := [ri_txL.getD i 0]) (byt := [ri_txB.getD i []]) (A := fun q => s.heap.size ≤ q) (fun x hx => by have := (jx_nl i hi).2; rw [show x = 0 by omega]; show ri_txL.getD i 0 < _; omega) (fun x _ => hs _ (ri_tx_a i hi).1) (fun x _ => hs _ (ri_tx_a i hi).2.1) (fun x _ => hs _ (ri_tx_a i hi).2.2.1) (fun x hx => by rw [show x = 0 by omega]; exact hs _ (ri_tx_a i hi).2.2.2) (fun x hx j hj => by rw [show x = 0 by omega] at hj ⊢; exact hs _ (ri_tx_b i hi j hj)) (fun x y hx hy hxy => absurd (show x = y by omega) hxy) hA
      exact ⟨(k 0, v 0), fun _ => ⟨hev 0 (by decide), hS.1 0 (by decide)⟩⟩
    · exact ⟨(0, 0), fun h => absurd h hi⟩
  obtain ⟨ad, had⟩ := Classical.axiomOfChoice h0
  obtain ⟨adK, hadK⟩ : ∃ adK : Nat → Nat, adK = fun i => (ad i).1 := ⟨_, rfl⟩
  obtain ⟨adV, hadV⟩ : ∃ adV : Nat → Nat, adV = fun i => (ad i).2 := ⟨_, rfl⟩
  have hev : ∀ i : Nat, i < 13 → (Term.string (ri_lit i).1 (ri_lit i).2).eval #[Value.ref b] s none [] s = some (.ref (adK i)) := fun i hi => by rw [hadK]; exact (had i hi).1
  have hS : ri_S adK adV (fun q => s.heap.size ≤ q) s s.heap := fun i hi => by rw [hadK, hadV]; exact (had i hi).2
  have esa : ∀ i : Nat, ri_sa b adK (3000000 + i) = adK i := fun i => by
    unfold ri_sa
    rw [if_neg (by omega), Nat.add_sub_cancel_left]
  have hz : va_Z "java/lang/String" "COMPACT_STRINGS" "Z" (.int 1) (fun q => s.heap.size ≤ q) s s.heap := va_Zof (hts _ (ri_t3 _ (List.mem_of_getElem? (i := 11) rfl))) (hts _ (ri_t1 _ (List.mem_of_getElem? (i := 16) rfl))) (va_eqt (hs _ (by decide +kernel))) hA
  have hzq := va_Zqof (C := "jdk/internal/util/Preconditions") (n := "SIOOBE_FORMATTER") (d := "Ljava/util/function/BiFunction;") (A := fun q => s.heap.size ≤ q) (hts _ (ri_t3 _ (List.mem_of_getElem? (i := 27) rfl))) (hts _ (ri_t1 _ (List.mem_of_getElem? (i := 18) rfl))) (hs _ (by decide +kernel)) hA
  have hlit : ∀ r ∈ ri_LIT, vk_R r.1 r.2.1 r.2.2.1 (ri_sa b adK (3000000 + r.2.2.2)) s := by
    intro r hr
    rw [esa]
    simp only [ri_LIT, List.mem_cons, List.not_mem_nil, or_false] at hr
    rcases hr with rfl | rfl | rfl | rfl | rfl | rfl | rfl | rfl | rfl | rfl | rfl | rfl | rfl | rfl | rfl | rfl | rfl | rfl | rfl | rfl | rfl | rfl | rfl | rfl | rfl
    · exact vk_R.of (hts _ (ri_t3 _ (List.mem_of_getElem? (i := 77) rfl))) (hev 5 (by decide))
    · exact vk_R.of (hts _ (ri_t3 _ (List.mem_of_getElem? (i := 83) rfl))) (hev 4 (by decide))
    · exact vk_R.of (hts _ (ri_t2 _ (List.mem_of_getElem? (i := 237) rfl))) (hev 11 (by decide))
    · exact vk_R.of (hts _ (ri_t3 _ (List.mem_of_getElem? (i := 50) rfl))) (hev 9 (by decide))
    · exact vk_R.of (hts _ (ri_t3 _ (List.mem_of_getElem? (i := 51) rfl))) (hev 2 (by decide))
    · exact vk_R.of (hts _ (ri_t3 _ (List.mem_of_getElem? (i := 82) rfl))) (hev 8 (by decide))
    · exact vk_R.of (hts _ (ri_t4 _ (List.mem_of_getElem? (i := 122) rfl))) (hev 7 (by decide))
    · exact vk_R.of (hts _ (ri_t4 _ (List.mem_of_getElem? (i := 133) rfl))) (hev 1 (by decide))
    · exact vk_R.of (hts _ (ri_t4 _ (List.mem_of_getElem? (i := 138) rfl))) (hev 12 (by decide))
    · exact vk_R.of (hts _ (ri_t4 _ (List.mem_of_getElem? (i := 139) rfl))) (hev 10 (by decide))
    · exact vk_R.of (hts _ (ri_t4 _ (List.mem_of_getElem? (i := 140) rfl))) (hev 3 (by decide))
    · exact vk_R.of (hts _ (ri_t4 _ (List.mem_of_getElem? (i := 141) rfl))) (hev 6 (by decide))
    · exact vk_R.of (hts _ (ri_t7 _ (List.mem_of_getElem? (i := 24) rfl))) (ri_eqR (hs (Cond.eq (.string "FactorNets$Reader" 95) (.string "FactorNetsModel" 167)) (by decide +kernel)) (hev 8 (by decide)))
    · exact vk_R.of (hts _ (ri_t6 _ (List.mem_of_getElem? (i := 222) rfl))) (ri_eqR (hs (Cond.eq (.string "FactorNets$Reader" 74) (.string "FactorNetsModel" 195)) (by decide +kernel)) (hev 11 (by decide)))
    · exact vk_R.of (hts _ (ri_t6 _ (List.mem_of_getElem? (i := 229) rfl))) (ri_eqR (hs (Cond.eq (.string "FactorNets$Reader" 76) (.string "FactorNetsModel" 197)) (by decide +kernel)) (hev 9 (by decide)))
    · exact vk_R.of (hts _ (ri_t6 _ (List.mem_of_getElem? (i := 230) rfl))) (ri_eqR (hs (Cond.eq (.string "FactorNets$Reader" 78) (.string "FactorNetsModel" 199)) (by decide +kernel)) (hev 2 (by decide)))
    · exact vk_R.of (hts _ (ri_t7 _ (List.mem_of_getElem? (i := 19) rfl))) (ri_eqR (hs (Cond.eq (.string "FactorNets$Reader" 61) (.string "FactorNetsModel" 207)) (by decide +kernel)) (hev 5 (by decide)))
    · exact vk_R.of (hts _ (ri_t7 _ (List.mem_of_getElem? (i := 25) rfl))) (ri_eqR (hs (Cond.eq (.string "FactorNets$Reader" 69) (.string "FactorNetsModel" 212)) (by decide +kernel)) (hev 4 (by decide)))
    · exact vk_R.of (hts _ (ri_t7 _ (List.mem_of_getElem? (i := 206) rfl))) (ri_eqR (hs (Cond.eq (.string "FactorNets" 269) (.string "FactorNetsModel" 324)) (by decide +kernel)) (hev 1 (by decide)))
    · exact vk_R.of (hts _ (ri_t7 _ (List.mem_of_getElem? (i := 207) rfl))) (hev 0 (by decide))
    · exact vk_R.of (hts _ (ri_t7 _ (List.mem_of_getElem? (i := 212) rfl))) (ri_eqR (hs (Cond.eq (.string "FactorNets" 439) (.string "FactorNetsModel" 332)) (by decide +kernel)) (hev 12 (by decide)))
    · exact vk_R.of (hts _ (ri_t7 _ (List.mem_of_getElem? (i := 213) rfl))) (ri_eqR (hs (Cond.eq (.string "FactorNets" 441) (.string "FactorNetsModel" 334)) (by decide +kernel)) (hev 10 (by decide)))
    · exact vk_R.of (hts _ (ri_t7 _ (List.mem_of_getElem? (i := 214) rfl))) (ri_eqR (hs (Cond.eq (.string "FactorNets" 443) (.string "FactorNetsModel" 336)) (by decide +kernel)) (hev 3 (by decide)))
    · exact vk_R.of (hts _ (ri_t7 _ (List.mem_of_getElem? (i := 215) rfl))) (ri_eqR (hs (Cond.eq (.string "FactorNets" 445) (.string "FactorNetsModel" 338)) (by decide +kernel)) (hev 6 (by decide)))
    · exact vk_R.of (hts _ (ri_t7 _ (List.mem_of_getElem? (i := 220) rfl))) (ri_eqR (hs (Cond.eq (.string "FactorNets" 263) (.string "FactorNetsModel" 340)) (by decide +kernel)) (hev 7 (by decide)))
  have hS2 : ri_S (fun i => ri_sa b adK (3000000 + i)) adV (fun q => s.heap.size ≤ q) s s.heap := by
    rw [show (fun i => ri_sa b adK (3000000 + i)) = adK from funext esa]
    exact hS
  rcases hzq with h | ⟨t, h⟩
  · exact ⟨adK, adV, .null, rfl, hS2, hz, h, hlit⟩
  · exact ⟨adK, adV, .ref t, rfl, hS2, hz, h, hlit⟩
