-- ===== end of PART A; then your names; then what follows =====
/-! THE CLAIM OUT OF ONE WALK OF THE LAW'S BODY. Your part is whole_start (and what it stands on); all else here is the same for every law, but numbers. -/
def R_law : String := "FactorNetsLaw"
def lw_P (b : Addr) (xs : List Int32) (args : Array Value) (s : State) : Prop := args = #[.ref b] ∧ s.IntsAt b xs ∧ xs.length ≤ 3072 ∧ (Jvm.Cond.and given_1 narrow_1).before args s = true
def lw_Q (_ : Array Value) (s : State) (o : Outcome) (t : State) : Prop := o = .returned (some (.int 1)) ∧ Framed s o t [] 600000 7302250
def lw_Z (below : List Frame) (a : Array Value) (s : State) : State → Prop := fun t => ∃ o, t.status = .running ∧ Ended t below o ∧ lw_Q a s o t
/-- the law's own end, with 1 on the stack, nothing written that was there before, its room as the claim has it -/
theorem lw_ret {p : Program} {l : Launch} {e : Env} {s : State} {m : MethodId} {below : List Frame} {meth : Method} {c : Code} {b : Nat} (hx : p.tables.exec = Jvm.exec) (hb : c.code = code) (hr : meth.sig.returnType = ret) (hlocks : meth.locks = false) {pc : Nat} {H : Heap} {ls : Array Slot} (hdg : decode code pc = .ok (.ireturn, 1)) : W p l e room_1 s m #[Value.ref b] below meth c H [] 600000 7302250 (lw_Z below #[Value.ref b] s) (F0 m pc ls [.int 1]) := by
  intro T hT X
  obtain ⟨fs, hret, hrun, hended, hW, hframe⟩ := X.leave (v := some (.int 1)) (hlocks := hlocks) (fun h => by rw [hr] at h; cases h)
  have hmeth' : T.vm.method? m = some meth := X.method'
  refine ⟨T.setFrames fs, ?_, .returned (some (.int 1)), hrun, hended, rfl, ⟨_, rfl⟩, hW, hframe⟩
  jvm_step X.here [X.here.top, hx, hb, hdg, hmeth', hr, ret, narrow_b1]
  (try refine ⟨rfl, ?_⟩); (try refine ⟨rfl, ?_⟩)
  first | (intro acts; rw [hret _ acts rfl rfl rfl]) | rw [hret _ _ rfl rfl rfl]
  exact Steps.refl _
/-- what holds at the law's entry: the machine, the code, the tables' words (any of lw_tbl by 'hts w (by decide +kernel)'), the script of L ints xs at the cell b, what the Statement gives of the start (any of its parts by flat_of_before) -/
def lw_At (p : Program) (s : State) (m : MethodId) (meth : Method) (c : Code) (b L : Nat) (xs : Nat → Int32) : Prop :=
  p.tables.exec = Jvm.exec ∧ c.code = code ∧ meth.sig.returnType = ret ∧ c.maxLocals = 4 ∧ s.vm.findClass R_law = some m.cls ∧ (∀ w ∈ lw_tbl, w.before #[Value.ref b] s = true) ∧ va_X b L xs s s.heap ∧ b < s.heap.size ∧ meth.locks = false ∧ (Jvm.Cond.and given_1 narrow_1).before #[Value.ref b] s = true
theorem ri_AOA_moved {t : FieldType} {u U : State} (hvm : u.vm.Alike U.vm) (h : va_Nw (.arrayOver (.array t)) u) : va_Nw (.arrayOver (.array t)) U := by
  obtain ⟨comp, c, k, h1, h2, h3, h4, h5⟩ := arrayOverA_spec h
  obtain ⟨k', hk', he⟩ := hvm.2.2 _ _ h3
  have hi : (U.vm.classes.findIdx? fun (x : Class) => match x.kind with | .array component _ => component == comp | _ => false) = some c := by
    have e1 := va_idx_bare U.vm comp
    have e2 := va_idx_bare u.vm comp
    have e3 : U.vm.bare = u.vm.bare := by first | exact hvm.bare_eq | exact hvm.bare_eq.symm
    rw [e3] at e1
    exact (e1.symm.trans e2).trans h2
  have hkind : k'.kind = .array comp (.array t) := by rw [he]; exact h4
  have f1 : U.vm.findClass (FieldType.array t).toString = some comp := by rw [hvm.findClass]; exact h1
  have f2 : U.vm.findClass ("[" ++ (FieldType.array t).toString) = some c := by rw [hvm.findClass]; exact h5
  unfold va_Nw Cond.before Cond.holds
  simp only [Cond.value]
  rw [f1, Option.bind_some]
  refine (congrArg (fun o : Option Nat => (o.bind (fun c => (U.vm.classes[c]?).map fun (k : Class) => match k.kind with | .array _ ty => decide (ty = FieldType.array t) && decide (U.vm.findClass ("[" ++ (FieldType.array t).toString) = some c) | _ => false) == some true)) hi).trans ?_
  simp [hk', hkind, f2]
theorem ri_HN : ∀ w ∈ ri_N, ∀ s U : State, s.WarmedH U.vm → va_Nw w s → va_Nw w U := by
  intro w hw s U hW h
  unfold ri_N at hw
  simp only [List.mem_cons, List.not_mem_nil, or_false] at hw
  rcases hw with rfl | rfl | rfl | rfl | rfl | rfl | rfl | rfl | rfl | rfl | rfl | rfl | rfl | rfl | rfl | rfl | rfl | rfl | rfl | rfl | rfl | rfl | rfl | rfl | rfl
  · exact va_Nw.warmM hW h
  · exact va_Nw.warmM hW h
  · exact va_Nw.warmM hW h
  · exact va_Nw.warmM hW h
  · exact va_Nw.warmM hW h
  · exact ri_AOA_moved hW.alike h
  · exact va_Nw.warmM hW h
  · exact va_Nw.warmM hW h
  · exact va_Nw.warmM hW h
  · exact va_Nw.warmM hW h
  · exact va_AO.moved hW.alike h
  · exact va_Nw.warmM hW h
  · exact va_Nw.warmM hW h
  · exact ri_AOA_moved hW.alike h
  · exact va_Nw.warmM hW h
  · exact va_Nw.warmM hW h
  · exact va_Nw.warmM hW h
  · exact va_Nw.warmM hW h
  · exact va_Nw.warmM hW h
  · exact va_Nw.warmM hW h
  · exact va_Nw.warmM hW h
  · exact va_Nw.warmM hW h
  · exact va_Nw.warmM hW h
  · exact va_Nw.warmM hW h
  · exact va_Nw.warmM hW h
theorem ri_HN0 : ∀ w ∈ ri_N, ∀ (A : Array Value) (s : State), w.before A s = true → va_Nw w s := by
  intro w hw A s h
  unfold ri_N at hw
  simp only [List.mem_cons, List.not_mem_nil, or_false] at hw
  rcases hw with rfl | rfl | rfl | rfl | rfl | rfl | rfl | rfl | rfl | rfl | rfl | rfl | rfl | rfl | rfl | rfl | rfl | rfl | rfl | rfl | rfl | rfl | rfl | rfl | rfl
  · exact va_Nw.of rfl h
  · exact va_Nw.of rfl h
  · exact va_Nw.of rfl h
  · exact va_Nw.of rfl h
  · exact va_Nw.of rfl h
  · exact h
  · exact va_Nw.of rfl h
  · exact va_Nw.of rfl h
  · exact va_Nw.of rfl h
  · exact va_Nw.of rfl h
  · exact h
  · exact va_Nw.of rfl h
  · exact va_Nw.of rfl h
  · exact h
  · exact va_Nw.of rfl h
  · exact va_Nw.of rfl h
  · exact va_Nw.of rfl h
  · exact va_Nw.of rfl h
  · exact va_Nw.of rfl h
  · exact va_Nw.of rfl h
  · exact va_Nw.of rfl h
  · exact va_Nw.of rfl h
  · exact va_Nw.of rfl h
  · exact va_Nw.of rfl h
  · exact va_Nw.of rfl h
set_option maxHeartbeats 4000000 in
theorem ri_known {args : Array Value} {s : State} (hts : ∀ w ∈ lw_tbl, w.before args s = true) : ∃ (D : va_G) (cs : Nat → ClassId), va_K D vwCl (ri_tys cs "FactorNets$Past") s := by
  obtain ⟨c0, i0, k0⟩ := u_known (C := RX0) (T := TX0) (N := 10) (n := 10) hts (fun w h => ri_G_in w (ri_in0 w h)) (hts (.instantiable RX0 10) (ri_t2 _ (List.mem_of_getElem? (i := 37) rfl)))
  obtain ⟨c1, i1, k1⟩ := u_known (C := RX1) (T := TX1) (N := 4) (n := 4) hts (fun w h => ri_G_in w (ri_in1 w h)) (hts (.instantiable RX1 4) (ri_t1 _ (List.mem_of_getElem? (i := 131) rfl)))
  obtain ⟨c2, i2, k2⟩ := u_known (C := RX2) (T := TX2) (N := 2) (n := 2) hts (fun w h => ri_G_in w (ri_in2 w h)) (hts (.instantiable RX2 2) (ri_t1 _ (List.mem_of_getElem? (i := 112) rfl)))
  obtain ⟨c3, i3, k3⟩ := u_known (C := RX3) (T := TX3) (N := 2) (n := 2) hts (fun w h => ri_G_in w (ri_in3 w h)) (hts (.instantiable RX3 2) (ri_t1 _ (List.mem_of_getElem? (i := 37) rfl)))
  obtain ⟨c4, i4, k4⟩ := u_known (C := RX4) (T := TX4) (N := 2) (n := 2) hts (fun w h => ri_G_in w (ri_in4 w h)) (hts (.instantiable RX4 2) (ri_t2 _ (List.mem_of_getElem? (i := 101) rfl)))
  obtain ⟨c5, i5, k5⟩ := u_known (C := RX5) (T := TX5) (N := 6) (n := 6) hts (fun w h => ri_G_in w (ri_in5 w h)) (hts (.instantiable RX5 6) (ri_t1 _ (List.mem_of_getElem? (i := 223) rfl)))
  obtain ⟨c6, i6, k6⟩ := u_known (C := RX6) (T := TX6) (N := 4) (n := 4) hts (fun w h => ri_G_in w (ri_in6 w h)) (hts (.instantiable RX6 4) (ri_t2 _ (List.mem_of_getElem? (i := 14) rfl)))
  obtain ⟨c7, i7, k7⟩ := u_known (C := RX7) (T := TX7) (N := 10) (n := 10) hts (fun w h => ri_G_in w (ri_in7 w h)) (hts (.instantiable RX7 10) (ri_t1 _ (List.mem_of_getElem? (i := 31) rfl)))
  obtain ⟨c8, i8, k8⟩ := u_known (C := RX8) (T := TX8) (N := 5) (n := 5) hts (fun w h => ri_G_in w (ri_in8 w h)) (hts (.instantiable RX8 5) (ri_t2 _ (List.mem_of_getElem? (i := 44) rfl)))
  obtain ⟨c9, i9, k9⟩ := u_known (C := RX9) (T := TX9) (N := 6) (n := 6) hts (fun w h => ri_G_in w (ri_in9 w h)) (hts (.instantiable RX9 6) (ri_t1 _ (List.mem_of_getElem? (i := 162) rfl)))
  obtain ⟨c10, i10, k10⟩ := u_known (C := RX10) (T := TX10) (N := 7) (n := 7) hts (fun w h => ri_G_in w (ri_in10 w h)) (hts (.instantiable RX10 7) (ri_t1 _ (List.mem_of_getElem? (i := 104) rfl)))
  obtain ⟨c11, i11, k11⟩ := u_known (C := RX11) (T := TX11) (N := 19) (n := 19) hts (fun w h => ri_G_in w (ri_in11 w h)) (hts (.instantiable RX11 19) (ri_t1 _ (List.mem_of_getElem? (i := 23) rfl)))
  obtain ⟨c12, i12, k12⟩ := u_known (C := RX12) (T := TX12) (N := 46) (n := 46) hts (fun w h => ri_G_in w (ri_in12 w h)) (hts (.instantiable RX12 46) (ri_t6 _ (List.mem_of_getElem? (i := 44) rfl)))
  obtain ⟨a0, ka0, co0, f0, g0, h0⟩ := Cond.arrayClass_spec (hts (.arrayClass .int) (ri_t1 _ (List.mem_of_getElem? (i := 66) rfl)))
  obtain ⟨a1, ka1, co1, f1, g1, h1⟩ := Cond.arrayClass_spec (hts (.arrayClass .long) (ri_t2 _ (List.mem_of_getElem? (i := 175) rfl)))
  obtain ⟨a2, ka2, co2, f2, g2, h2⟩ := Cond.arrayClass_spec (hts (.arrayClass .char) (ri_t2 _ (List.mem_of_getElem? (i := 176) rfl)))
  obtain ⟨a3, ka3, co3, f3, g3, h3⟩ := Cond.arrayClass_spec (hts (.arrayClass .boolean) (ri_t6 _ (List.mem_of_getElem? (i := 188) rfl)))
  obtain ⟨co4, a4, ka4, -, -, g4, h4, f4⟩ := arrayOverA_spec (hts (.arrayOver (.array .int)) (ri_t1 _ (List.mem_of_getElem? (i := 118) rfl)))
  obtain ⟨co5, a5, ka5, -, -, g5, h5, f5⟩ := arrayOverA_spec (hts (.arrayOver (.array .long)) (ri_t2 _ (List.mem_of_getElem? (i := 116) rfl)))
  obtain ⟨co6, a6, ka6, e6, -, g6, h6, f6⟩ := Cond.arrayOver_spec (hts (.arrayOver (.object "FactorNets$Past")) (ri_t2 _ (List.mem_of_getElem? (i := 35) rfl)))
  refine ⟨(fun k => ([c0, c1, c2, c3, c4, c5, c6, c7, c8, c9, c10, c11, c12] : List ClassId).getD k 0, fun k => ([i0, i1, i2, i3, i4, i5, i6, i7, i8, i9, i10, i11, i12] : List (Nat → Nat)).getD k (fun _ => 0)), fun t => ([a0, a1, a2, a3, a4, a5, a6] : List ClassId).getD t 0, fun k q hq => ?_, fun k q hq => ?_⟩
  · match k, hq with
    | 0, hq => cases hq; exact k0
    | 1, hq => cases hq; exact k1
    | 2, hq => cases hq; exact k2
    | 3, hq => cases hq; exact k3
    | 4, hq => cases hq; exact k4
    | 5, hq => cases hq; exact k5
    | 6, hq => cases hq; exact k6
    | 7, hq => cases hq; exact k7
    | 8, hq => cases hq; exact k8
    | 9, hq => cases hq; exact k9
    | 10, hq => cases hq; exact k10
    | 11, hq => cases hq; exact k11
    | 12, hq => cases hq; exact k12
    | k + 13, hq => simp [vwCl] at hq
  · match k, hq with
    | 0, hq => cases hq; exact ⟨fun n z => ⟨fun k h => (by cases h), ka0, g0, co0, h0⟩, f0⟩
    | 1, hq => cases hq; exact ⟨fun n z => ⟨fun k h => (by cases h), ka1, g1, co1, h1⟩, f1⟩
    | 2, hq => cases hq; exact ⟨fun n z => ⟨fun k h => (by cases h), ka2, g2, co2, h2⟩, f2⟩
    | 3, hq => cases hq; exact ⟨fun n z => ⟨fun k h => (by cases h), ka3, g3, co3, h3⟩, f3⟩
    | 4, hq => cases hq; exact ⟨fun n z => ⟨fun k h => (by cases h), ka4, g4, co4, h4⟩, f4⟩
    | 5, hq => cases hq; exact ⟨fun n z => ⟨fun k h => (by cases h), ka5, g5, co5, h5⟩, f5⟩
    | 6, hq => cases hq; exact ⟨fun n z => ⟨fun k h => (by cases h), ka6, g6, co6, h6⟩, ⟨ka6, co6, g6, h6, e6, f6⟩⟩
    | k + 7, hq => simp [ri_tys] at hq
set_option maxHeartbeats 4000000 in
/-- THE LAW, out of a run of the small machine -/
theorem ri_whole {NN : Nat} (hpure : ∀ xs : List Int32, xs.length ≤ NN → ∃ (f d : Nat) (M' : ri_M) (k n : Nat), d ≤ 500 ∧ k ≤ 600000 ∧ n ≤ 7302250 ∧ ri_run ri_P ri_Fd f d (some xs) (tbL, 4, 4) (0, [(0, .ref 2000000)], [], [], 0, 0) = some (some (.int 1), M', k, n)) {p : Program} {e : Env} {s : State} {m : MethodId} {below : List Frame} {meth : Method} {c : Code} (l : Launch) {b L : Nat} {xs : Nat → Int32} (hL : L ≤ NN) (C0 : lw_At p s m meth c b L xs) : W p l e room_1 s m #[Value.ref b] below meth c s.heap [] 0 0 (lw_Z below #[Value.ref b] s) (entryFrame m ([Value.ref b] : List Value).toArray 4) := by
  obtain ⟨hx, hb, hr, hml, hown, hts, hX, hbl, hlocks, hgv⟩ := id C0
  obtain ⟨D, cs, hK⟩ := ri_known hts
  obtain ⟨adK, hTX⟩ := ri_texts hts hgv
  have esa : ri_sa b adK 2000000 = b := if_pos rfl
  have hlen : ((List.range L).map xs).length = L := by rw [List.length_map, List.length_range]
  obtain ⟨f, d, M', k, n, hd, hk, hn, hrun⟩ := hpure ((List.range L).map xs) (by rw [hlen]; exact hL)
  obtain ⟨hW, -⟩ := ri_all (l := l) (D := D) (cl := vwCl) (cs := cs) (PC := "FactorNets$Past") (bs := s.heap.size) (sa := ri_sa b adK) (Yc := ri_Yc) ri_G_good ri_HN ri_HM f
  have hT := ri_okT_of (t := (tbL, 4, 4)) dkL (owL meth.name)
  have hret : ∀ (pc : Nat) (i : ri_I) (lv : ri_L) (st : List Value) (H : Heap) (locs : List Loc) (ls : Array Slot), tbL[pc]? = some (some i) → ri_step (some ((List.range L).map xs)) ri_Fd 4 i (pc, lv, st, M', k, n) = some (.inr (.inr (some (.int 1)))) → va_P D vwCl (ri_w s.heap.size (ri_sa b adK) cs M') H → va_S (fun q => s.heap.size ≤ q) s.heap H locs → s.heap.size + k = s.heap.size + M'.length → W p l e room_1 s m #[Value.ref b] below meth c H locs k n (lw_Z below #[Value.ref b] s) (F0 m pc ls (st.map (ri_v s.heap.size (ri_sa b adK)))) := by
    intro pc i lv st H locs ls hi hstep hP hS hn1
    obtain ⟨hdc, -, -⟩ := hT pc i hi
    obtain ⟨ins, a, b0, c0, dd⟩ := i
    rcases ri_step_ret hstep with ⟨rfl, x, rfl, hv, -⟩ | ⟨rfl, x, rfl, hv, -⟩ | ⟨rfl, -, ⟨x, rfl, hv⟩ | ⟨rfl, hv⟩⟩ | ⟨rfl, rfl, hv, -⟩
    · cases hv
      refine va_forget (fun q hq => hS.2.2 q hq) ?_
      refine W.widen (k := 600000) (n := 7302250) hk hn ?_
      exact lw_ret hx hb hr hlocks hdc
    · cases hv
    · cases hv
    · cases hv
    · cases hv
  have hXc : ∀ ys, some ((List.range L).map xs) = some ys → va_X (ri_sa b adK 2000000) ys.length (fun j => ys.getD j 0) s s.heap ∧ ri_sa b adK 2000000 < s.heap.size := by
    intro ys hys
    cases hys
    rw [esa]
    refine ⟨?_, hbl⟩
    obtain ⟨scr, q1, q2, q3, q4, q5⟩ := hX
    refine ⟨scr, q1, q2, q3, by rw [hlen]; exact q4, fun j hj => ?_⟩
    rw [hlen] at hj
    rw [q5 j hj]
    have e1 : ((List.range L).map xs).getD j 0 = xs j := by simp [List.getD, hj]
    show some (Value.int (xs j)) = some (Value.int (((List.range L).map xs).getD j 0))
    rw [e1]
  obtain ⟨-, hgo⟩ := hW p e room_1 s m #[Value.ref b] below meth c (lw_Z below #[Value.ref b] s) code RL meth.name (some ((List.range L).map xs)) d (tbL, 4, 4) (0, [(0, .ref 2000000)], [], [], 0, 0) (some (.int 1)) M' k n
    ⟨hx, hb, hml, hown, fun w hw => hts w (ri_G_in w hw), hK, fun w hw => ri_HN0 w hw _ s (hts w (ri_N_in w hw)), Nat.le_refl _, rfl, Nat.le_of_ble_eq_true rfl, Nat.le_of_ble_eq_true rfl, hXc, ⟨Nat.le_of_ble_eq_true rfl, Nat.le_of_ble_eq_true rfl⟩, hTX⟩ hT (Nat.le_trans (Nat.add_le_add_right hd 6) (Nat.le_of_ble_eq_true rfl)) (Nat.le_trans (Nat.mul_le_mul_left 100 (Nat.add_le_add_right hd 6)) (Nat.le_of_ble_eq_true rfl)) hrun hk hn hret
  have hl := lv_entry ([.ref b]) (n := 4) (Nat.le_of_ble_eq_true rfl)
  rw [lg_entry_eq]
  exact hgo s.heap [] _ (fun k q h => by simp [ri_w] at h) hl va_S.rf rfl
