/-! ===== a run of the small machine is a method's contract ===== -/
section RIR
/-- what the pool and the tables must say of a call -/
def ri_okC (cl : List vw_C) (G Nst : List Cond) (Yn : Nat → MethodName) (Yr : Nat → Option FieldType) (own : String) : ri_I → Prop
  | (ins, a, b, c, d) => match ins with
    | .invokevirtual idx => ¬ c = 9 → ((Cond.methodLink own idx (Yn a) ∈ G ∨ ∃ host, Cond.methodLinkNest own idx (Yn a) host ∈ Nst) ∧ Cond.instanceMethod (Yn a) ∈ G ∧ Cond.selects (Yn a).cls (Yn a) (Yn a) ∈ G ∧ Cond.initialized (Yn a).cls ∈ G ∧ ((Yn a).cls ≠ "java/lang/invoke/MethodHandle" ∧ (Yn a).cls ≠ "java/lang/invoke/VarHandle" ∧ (parseMethodDescriptor (Yn a).desc).map (fun d => d.parameters.length) = some b) ∧ ∃ T N, cl[d]? = some ((Yn a).cls, T, N))
    | .invokestatic idx => (¬ c = 4 ∧ ¬ c = 6 ∧ ¬ c = 7 ∧ ¬ c = 8) → ((Cond.methodLink own idx (Yn a) ∈ G ∨ ∃ host, Cond.methodLinkNest own idx (Yn a) host ∈ Nst) ∧ Cond.static (Yn a) ∈ G ∧ Cond.initialized (Yn a).cls ∈ G ∧ ((Yn a).cls ≠ "java/lang/invoke/MethodHandle" ∧ (Yn a).cls ≠ "java/lang/invoke/VarHandle" ∧ (parseMethodDescriptor (Yn a).desc).map (fun d => d.parameters.length) = some b))
    | .invokespecial idx => ¬ c = 2 → ((Cond.methodLink own idx (Yn a) ∈ G ∨ ∃ host, Cond.methodLinkNest own idx (Yn a) host ∈ Nst) ∧ (Yn a).name = "<init>" ∧ Yr a = none ∧ Cond.instanceMethod (Yn a) ∈ G ∧ Cond.initialized (Yn a).cls ∈ G ∧ ((Yn a).cls ≠ "java/lang/invoke/MethodHandle" ∧ (Yn a).cls ≠ "java/lang/invoke/VarHandle" ∧ (parseMethodDescriptor (Yn a).desc).map (fun d => d.parameters.length) = some b))
    | _ => True
def ri_rkS (rk : Nat) (ret : Option FieldType) : Prop := (rk = 0 ∧ ret = none) ∨ (rk = 1 ∧ ret = some .int) ∨ (rk = 2 ∧ ret = some .long) ∨ (rk = 3 ∧ ((∃ C, ret = some (.object C)) ∨ ∃ t, ret = some (.array t))) ∨ (rk = 4 ∧ ret = some .boolean)
/-- every row of a method's table is right -/
def ri_okT (cl : List vw_C) (G Nst : List Cond) (Fd : List (List Value)) (PC : String) (Yn : Nat → MethodName) (Yr : Nat → Option FieldType) (own nm : String) (cc : ByteArray) (t : ri_T) : Prop :=
  ∀ (pc : Nat) (i : ri_I), t.1[pc]? = some (some i) → decode cc pc = .ok (i.1, ri_len i.1 i.2.2.2.2) ∧ ri_okS cl G Nst Fd PC own nm t.2.1 pc i ∧ ri_okC cl G Nst Yn Yr own i
def ri_okM (cl : List vw_C) (G Nst : List Cond) (Fd : List (List Value)) (PC : String) (Yn : Nat → MethodName) (Yr : Nat → Option FieldType) (y : MethodName) (cc : ByteArray) (ret : Option FieldType) (t : ri_T) : Prop :=
  plainName y.cls = true ∧ Cond.code y cc t.2.1 ret ∈ G ∧ ri_rkS t.2.2 ret ∧ t.2.1 ≤ 60 ∧ ri_okT cl G Nst Fd PC Yn Yr y.cls y.name cc t
def ri_rm (d k n : Nat) : Room := { frames := d + 6, cells := k, slots := n, locals := 100 * (d + 6) }
def ri_Pre (D : va_G) (cl : List vw_C) (cs : Nat → ClassId) (PC : String) (bs : Nat) (sa : Nat → Nat) (Nst : List Cond) (M : ri_M) (U : State) : Prop := va_P D cl (ri_w bs sa cs M) U.heap ∧ va_K D cl (ri_tys cs PC) U ∧ (∀ w ∈ Nst, va_Nw w U) ∧ U.heap.size = bs + M.length ∧ ri_TX bs sa U
def ri_Q (D : va_G) (cl : List vw_C) (cs : Nat → ClassId) (bs : Nat) (sa : Nat → Nat) (v : Option Value) (M M' : ri_M) (k : Nat) : Array Value → State → Outcome → State → Prop := fun _ st oc t => oc = .returned (v.map (ri_v bs sa)) ∧ va_P D cl (ri_w bs sa cs M') t.heap ∧ M.length + k = M'.length ∧ va_F (fun q => bs ≤ q) st t
variable {l : Launch} {D : va_G} {cl : List vw_C} {cs : Nat → ClassId} {PC : String} {bs : Nat} {sa : Nat → Nat} {G Nst : List Cond} {Fd : List (List Value)} {P : Nat → Option ri_T} {Yn : Nat → MethodName} {Yc : Nat → ByteArray} {Yr : Nat → Option FieldType}
section RIC
variable {p : Program} {e : Env} {R : Room} {s : State} {m : MethodId} {args : Array Value} {below : List Frame} {meth : Method} {c : Code} {Q : State → Prop}
theorem ri_callG {H : Heap} {locs : List Loc} {cells slots mc ms pc : Nat} {ls : Array Slot} {st0 rest : List Value} {v : Option Value} {M M' : ri_M} {a : Array Value} {free : Addr → Prop}
    (hr : va_Run p l e R s m args below meth c H locs cells slots mc ms (F0 m pc ls st0) rest (ri_Q D cl cs bs sa v M M' mc a) free) (hfree : ∀ q, free q → bs ≤ q) (hS : va_S (fun q => bs ≤ q) s.heap H locs)
    (kk : ∀ (H1 : Heap) (locs1 : List Loc), va_P D cl (ri_w bs sa cs M') H1 → M.length + mc = M'.length → va_S (fun q => bs ≤ q) s.heap H1 locs1 → W p l e R s m args below meth c H1 locs1 (cells + mc) (slots + ms) Q (F0 m (pc + 3) ls ((v.map (ri_v bs sa)).toList ++ rest))) : W p l e R s m args below meth c H locs cells slots Q (F0 m pc ls st0) := by
  intro T hT X
  obtain ⟨v1, st₀, t, T', L, h0, X', hL, e1, e2, ⟨hv, hb, hlen, hz, hk⟩, st⟩ := hr T hT X
  cases hv
  rw [h0] at hz hk
  obtain ⟨t2, a1, b1⟩ := kk T'.heap (locs ++ L) (by rw [e1]; exact hb) hlen ⟨Nat.le_trans hS.1 (by rw [e1]; exact hz), fun q h1 h2 => by rw [e1, hk q (Nat.lt_of_lt_of_le h1 hS.1) h2]; exact hS.2.1 q h1 h2, fun q hq => by
      rcases List.mem_append.mp hq with h | h
      · exact hS.2.2 q h
      · exact hfree _ (hL q h)⟩ T' rfl X'
  exact ⟨t2, st t2 a1, b1⟩
end RIC
/-- the contract that a run gives -/
def ri_MetR (l : Launch) (D : va_G) (cl : List vw_C) (cs : Nat → ClassId) (PC : String) (bs : Nat) (sa : Nat → Nat) (G Nst : List Cond) (Fd : List (List Value)) (P : Nat → Option ri_T) (Yn : Nat → MethodName) (Yc : Nat → ByteArray) (Yr : Nat → Option FieldType) (f : Nat) : Prop :=
  ∀ (d y : Nat) (t : ri_T) (as : List Value) (M : ri_M) (v : Option Value) (M' : ri_M) (k n : Nat), P y = some t → (as.map (fun v => v.category)).sum ≤ t.2.1 → ri_run P Fd f d none t (0, lv_args 0 as, [], M, 0, 0) = some (v, M', k, n) →
    Met l (Yn y) (Cond.code (Yn y) (Yc y) t.2.1 (Yr y) :: G) (ri_rm d k n) (va_Pc (as.map (ri_v bs sa)) (ri_Pre D cl cs PC bs sa Nst M)) (ri_Q D cl cs bs sa v M M' k) k n (fun q => bs ≤ q)
/-- the walk that a run gives, from any of its frames -/
def ri_WalkR (l : Launch) (D : va_G) (cl : List vw_C) (cs : Nat → ClassId) (PC : String) (bs : Nat) (sa : Nat → Nat) (G Nst : List Cond) (Fd : List (List Value)) (P : Nat → Option ri_T) (Yn : Nat → MethodName) (Yr : Nat → Option FieldType) (f : Nat) : Prop :=
  ∀ (p : Program) (e : Env) (R : Room) (s : State) (m : MethodId) (args : Array Value) (below : List Frame) (meth : Method) (c : Code) (Q : State → Prop) (cc : ByteArray) (own nm : String) (X : Option (List Int32)) (d : Nat) (t : ri_T) (F : ri_F) (v : Option Value) (M' : ri_M) (k' n' : Nat),
    ri_Cx p R s m args meth c cc D cl cs PC bs sa G Nst own nm t.2.1 X → ri_okT cl G Nst Fd PC Yn Yr own nm cc t → d + 6 ≤ R.frames → 100 * (d + 6) ≤ R.locals → ri_run P Fd f d X t F = some (v, M', k', n') → k' ≤ R.cells → n' ≤ R.slots →
    (∀ (pc : Nat) (i : ri_I) (lv : ri_L) (st : List Value) (H : Heap) (locs : List Loc) (ls : Array Slot), t.1[pc]? = some (some i) → ri_step X Fd t.2.2 i (pc, lv, st, M', k', n') = some (.inr (.inr v)) → va_P D cl (ri_w bs sa cs M') H → va_S (fun q => bs ≤ q) s.heap H locs → s.heap.size + k' = bs + M'.length → W p l e R s m args below meth c H locs k' n' Q (F0 m pc ls (st.map (ri_v bs sa)))) →
    (F.2.2.2.2.1 ≤ k' ∧ F.2.2.2.2.2 ≤ n') ∧ ∀ (H : Heap) (locs : List Loc) (ls : Array Slot), va_P D cl (ri_w bs sa cs F.2.2.2.1) H → lv_has ls t.2.1 (ri_lv bs sa F.2.1) → va_S (fun q => bs ≤ q) s.heap H locs → s.heap.size + F.2.2.2.2.1 = bs + F.2.2.2.1.length → W p l e R s m args below meth c H locs F.2.2.2.2.1 F.2.2.2.2.2 Q (F0 m F.1 ls (F.2.2.1.map (ri_v bs sa)))
theorem ri_catmap (vs : List Value) : ((vs.map (ri_v bs sa)).map (fun v => v.category)).sum = (vs.map (fun v => v.category)).sum := by
  rw [List.map_map]
  congr 1
  apply List.map_congr_left
  intro v _
  exact ri_v_cat bs sa v
set_option maxHeartbeats 1000000 in
theorem ri_walk_step (HG : ∀ w ∈ G, (w.onTables && w.keeps) = true ∨ ∃ ty, w = .arrayClass ty) (HN : ∀ w ∈ Nst, ∀ s U : State, s.WarmedH U.vm → va_Nw w s → va_Nw w U) (HM : ∀ y t, P y = some t → ri_okM cl G Nst Fd PC Yn Yr (Yn y) (Yc y) (Yr y) t) {f : Nat}
    (hA : ri_MetR l D cl cs PC bs sa G Nst Fd P Yn Yc Yr f) (hB : ri_WalkR l D cl cs PC bs sa G Nst Fd P Yn Yr f) : ri_WalkR l D cl cs PC bs sa G Nst Fd P Yn Yr (f + 1) := by
  intro p e R s m args below meth c Q cc own nm X d t F v M' k' n' hC hT hRf hRl hrun hkR hnR hret
  obtain ⟨pc, lv, st, M, k, n⟩ := F
  unfold ri_run at hrun
  split at hrun
  · rename_i i hi
    obtain ⟨hd, hok, hokC⟩ := hT pc i hi
    split at hrun
    · rename_i F' hstep
      obtain ⟨hm, hW⟩ := hB p e R s m args below meth c Q cc own nm X d t F' v M' k' n' hC hT hRf hRl hrun hkR hnR hret
      obtain ⟨ins, a, b, c0, dd⟩ := i
      have hmo := ri_step_mono hstep
      refine ⟨⟨Nat.le_trans hmo.1 hm.1, Nat.le_trans hmo.2 hm.2⟩, fun H locs ls hP hl hS hn => ?_⟩
      exact ri_stepW HG (i := (ins, a, b, c0, dd)) (F := (pc, lv, st, M, k, n)) (F' := F') hC hd hok hstep hP hl hS hn ⟨Nat.le_trans hm.1 hkR, Nat.le_trans hm.2 hnR⟩ hW
    · rename_i v0 hstep
      cases hrun
      exact ⟨⟨Nat.le_refl _, Nat.le_refl _⟩, fun H locs ls hP hl hS hn => hret pc i lv st H locs ls hi hstep hP hS hn⟩
    · rename_i y as F' hstep
      split at hrun
      · cases hrun
      · rename_i d'
        split at hrun
        · rename_i t' hy
          split at hrun
          · rename_i hcat
            split at hrun
            · rename_i v1 M1 k1 n1 hcall
              obtain ⟨ins, a, b, c0, dd⟩ := i
              have hmet := hA d' y t' as F'.2.2.2.1 v1 M1 k1 n1 hy hcat hcall
              obtain ⟨hm, hW⟩ := hB p e R s m args below meth c Q cc own nm X (d' + 1) t _ v M' k' n' hC hT hRf hRl hrun hkR hnR hret
              obtain ⟨hpl, hcode, hrk, hmx, -⟩ := HM y t' hy
              have hCx := hC
              obtain ⟨hx, hb, hml, hown, hts, hK, hN, hbs, hnm, -, -, -, hR6, hTX⟩ := hCx
              have hgood : GoodIn G (Cond.code (Yn y) (Yc y) t'.2.1 (Yr y) :: G) := fun w hw => by
                rcases List.mem_cons.mp hw with rfl | hw
                · exact ⟨hcode, HG _ hcode⟩
                · exact ⟨hw, HG w hw⟩
              have hR1 : (ri_rm d' k1 n1).frames + 1 ≤ R.frames ∧ 8 + (t'.2.1 + 11) + (ri_rm d' k1 n1).locals ≤ R.locals := by
                show d' + 6 + 1 ≤ R.frames ∧ 8 + (t'.2.1 + 11) + 100 * (d' + 6) ≤ R.locals
                omega
              have hblind : FrameBlind (va_Pc (as.map (ri_v bs sa)) (ri_Pre D cl cs PC bs sa Nst F'.2.2.2.1)) := fun a0 U g mk q => by
                obtain ⟨q0, q1, q2, q3, q4, q5⟩ := q
                exact ⟨q0, q1, va_K.moved (u := U) (U := U.calling g mk a0) (Vm.Alike.refl U.vm) q2, fun w hw => HN w hw U _ (State.WarmedH.refl U) (q3 w hw), q4, ri_TX.to (locs := []) (U := U.calling g mk a0) q5 (State.WarmedH.refl U) rfl va_S.rf⟩
              have hcl : (∃ (As rest : List Value), As.length = b ∧ F' = (pc + 3, lv, rest, M, k, n) ∧ y = a ∧ (rest.map (fun v => v.category)).sum ≤ 8 ∧ ∀ (H : Heap) (locs : List Loc) (ls : Array Slot), va_P D cl (ri_w bs sa cs M) H → va_S (fun q => bs ≤ q) s.heap H locs → ls.size = t.2.1 → H.size = bs + M.length → k + k1 ≤ R.cells → n + n1 ≤ R.slots → va_Run p l e R s m args below meth c H locs k n k1 n1 (F0 m pc ls (st.map (ri_v bs sa))) (rest.map (ri_v bs sa)) (ri_Q D cl cs bs sa v1 M M1 k1 (as.map (ri_v bs sa)).toArray) (fun q => bs ≤ q)) := by
                rcases ri_step_call hstep with ⟨idx, rfl, hc2, h⟩ | ⟨idx, rfl, hc9, h⟩ | ⟨idx, rfl, hc4, h⟩
                · obtain ⟨As, rest, h1, h2, h3, h4, h5⟩ := ri_clS h
                  rcases h5 with ⟨h5, -, -⟩ | ⟨-, q, fs, h6, h7, h8, h9⟩
                  · exact absurd h5 (by decide)
                  subst h2
                  subst h3
                  subst h7
                  subst h6
                  refine ⟨As, rest, h1, rfl, rfl, h4, fun H locs ls hP hS9 hls hz hk1 hn1 => ?_⟩
                  obtain ⟨hl1, hnmI, hrI, hin, hini, hdd⟩ := hokC hc2
                  rw [hrI] at hmet hcode hgood
                  have hpre : PreS s H (va_Pc ((Value.ref q :: As).map (ri_v bs sa)) (ri_Pre D cl cs PC bs sa Nst M)) (.ref (ri_ad bs sa q) :: As.map (ri_v bs sa)) := ⟨hblind, fun U hU hW => ⟨rfl, by rw [hU]; exact hP, va_K.moved hW.alike hK, fun w hw => HN w hw s U hW (hN w hw), by rw [hU]; exact hz, hTX.to hW hU hS9⟩⟩
                  have hstk : (F0 m pc ls ((As.reverse ++ Value.ref q :: rest).map (ri_v bs sa))).stack = (As.map (ri_v bs sa)).reverse ++ .ref (ri_ad bs sa q) :: rest.map (ri_v bs sa) := by
                    show (As.reverse ++ Value.ref q :: rest).map (ri_v bs sa) = _
                    rw [List.map_append, List.map_reverse]
                    rfl
                  rcases hl1 with hl1 | ⟨host, hl1⟩
                  · exact va_runI (Ts := G) ⟨hx, hb, hml, hown, hts⟩ hmet ⟨callB_of b hts hgood rfl rfl rfl (hts _ hini) (hts _ hl1) hdd hR1, hnmI, hts _ hin⟩ hpre rfl (by rw [List.length_map]; exact h1) hls hstk (lv_room (by rw [ri_catmap]; exact h4)) hd ⟨hk1, hn1⟩
                  · exact va_runIN (Ts := G) ⟨hx, hb, hml, hown, hts⟩ hmet ⟨va_cnB b hts hgood rfl rfl rfl (hN _ hl1) (hts _ hini) hdd hR1, hnmI, hts _ hin⟩ hpre rfl (by rw [List.length_map]; exact h1) hls hstk (lv_room (by rw [ri_catmap]; exact h4)) hd ⟨hk1, hn1⟩
                · obtain ⟨As, rest, h1, h2, h3, h4, h5⟩ := ri_clS h
                  rcases h5 with ⟨h5, -, -⟩ | ⟨-, q, fs, h6, h7, h8, h9⟩
                  · exact absurd h5 (by decide)
                  subst h2
                  subst h3
                  subst h7
                  subst h6
                  refine ⟨As, rest, h1, rfl, rfl, h4, fun H locs ls hP hS9 hls hz hk1 hn1 => ?_⟩
                  obtain ⟨hl1, hin, hsel, hini, hdd, TT, NN, hcl⟩ := hokC hc9
                  have hw := ri_w_get (bs := bs) (sa := sa) (cs := cs) h8
                  rw [← ri_ad_lt (bs := bs) (sa := sa) h9] at hw
                  have hpre : PreV s H (Yn y).cls (ri_ad bs sa q) (va_Pc ((Value.ref q :: As).map (ri_v bs sa)) (ri_Pre D cl cs PC bs sa Nst M)) (As.map (ri_v bs sa)) := ⟨hblind, va_recv hK hP hcl hw, fun U hU hW => ⟨rfl, by rw [hU]; exact hP, va_K.moved hW.alike hK, fun w hw => HN w hw s U hW (hN w hw), by rw [hU]; exact hz, hTX.to hW hU hS9⟩⟩
                  have hstk : (F0 m pc ls ((As.reverse ++ Value.ref q :: rest).map (ri_v bs sa))).stack = (As.map (ri_v bs sa)).reverse ++ .ref (ri_ad bs sa q) :: rest.map (ri_v bs sa) := by
                    show (As.reverse ++ Value.ref q :: rest).map (ri_v bs sa) = _
                    rw [List.map_append, List.map_reverse]
                    rfl
                  rcases hl1 with hl1 | ⟨host, hl1⟩
                  · exact va_runV (Ts := G) ⟨hx, hb, hml, hown, hts⟩ hmet ⟨callB_of b hts hgood rfl rfl rfl (hts _ hini) (hts _ hl1) hdd hR1, hts _ hin, hts _ hsel⟩ hpre rfl (by rw [List.length_map]; exact h1) hls hstk (lv_room (by rw [ri_catmap]; exact h4)) hd ⟨hk1, hn1⟩
                  · exact va_runVN (Ts := G) ⟨hx, hb, hml, hown, hts⟩ hmet ⟨va_cnB b hts hgood rfl rfl rfl (hN _ hl1) (hts _ hini) hdd hR1, hts _ hin, hts _ hsel⟩ hpre rfl (by rw [List.length_map]; exact h1) hls hstk (lv_room (by rw [ri_catmap]; exact h4)) hd ⟨hk1, hn1⟩
                · obtain ⟨As, rest, h1, h2, h3, h4, h5⟩ := ri_clS h
                  rcases h5 with ⟨-, h6, h7⟩ | ⟨h5, -⟩
                  case inr => exact absurd rfl h5
                  subst h2
                  subst h3
                  subst h7
                  subst h6
                  refine ⟨as, rest, h1, rfl, rfl, h4, fun H locs ls hP hS9 hls hz hk1 hn1 => ?_⟩
                  obtain ⟨hl1, hst, hini, hdd⟩ := hokC hc4
                  have hpre : PreS s H (va_Pc (as.map (ri_v bs sa)) (ri_Pre D cl cs PC bs sa Nst M)) (as.map (ri_v bs sa)) := ⟨hblind, fun U hU hW => ⟨rfl, by rw [hU]; exact hP, va_K.moved hW.alike hK, fun w hw => HN w hw s U hW (hN w hw), by rw [hU]; exact hz, hTX.to hW hU hS9⟩⟩
                  have hstk : (F0 m pc ls ((as.reverse ++ rest).map (ri_v bs sa))).stack = (as.map (ri_v bs sa)).reverse ++ rest.map (ri_v bs sa) := by
                    show (as.reverse ++ rest).map (ri_v bs sa) = _
                    rw [List.map_append, List.map_reverse]
                  rcases hl1 with hl1 | ⟨host, hl1⟩
                  · exact va_runS (Ts := G) ⟨hx, hb, hml, hown, hts⟩ hmet ⟨callB_of b hts hgood rfl rfl rfl (hts _ hini) (hts _ hl1) hdd hR1, hts _ hst⟩ hpre rfl (by rw [List.length_map]; exact h1) hls hstk (lv_room (by rw [ri_catmap]; exact h4)) hd ⟨hk1, hn1⟩
                  · exact va_runSN (Ts := G) ⟨hx, hb, hml, hown, hts⟩ hmet ⟨va_cnB b hts hgood rfl rfl rfl (hN _ hl1) (hts _ hini) hdd hR1, hts _ hst, trivial⟩ hpre rfl (by rw [List.length_map]; exact h1) hls hstk (lv_room (by rw [ri_catmap]; exact h4)) hd ⟨hk1, hn1⟩
              obtain ⟨As, rest, h1, h2, h3, h4, hgo⟩ := hcl
              subst h2
              dsimp only at hm hW hrun
              refine ⟨⟨by show k ≤ k'; omega, by show n ≤ n'; omega⟩, fun H locs ls hP hl hS hn => ?_⟩
              dsimp only at hP hl hn
              show W p l e R s m args below meth c H locs k n Q (F0 m pc ls (st.map (ri_v bs sa)))
              refine ri_sz hP hS hbs hn (fun hz => ?_)
              refine ri_callG (hgo H locs ls hP hS hl.1 hz (by omega) (by omega)) (fun _ h => h) hS (fun H1 locs1 hP1 hlen hS1 => ?_)
              have hfin := hW H1 locs1 ls hP1 hl hS1 (by show s.heap.size + (k + k1) = bs + M1.length; omega)
              have e2 : (v1.toList ++ rest).map (ri_v bs sa) = (v1.map (ri_v bs sa)).toList ++ rest.map (ri_v bs sa) := by
                cases v1 <;> simp
              rw [e2] at hfin
              exact hfin
            · cases hrun
          · cases hrun
        · cases hrun
    · cases hrun
  · cases hrun
end RIR
