/-! ===== texts: length() and charAt(int) of a constant, as the JDK has them ===== -/
abbrev jxLen : MethodName := { cls := "java/lang/String", name := "length", desc := "()I" }
abbrev jxCod : MethodName := { cls := "java/lang/String", name := "coder", desc := "()B" }
abbrev jxLat : MethodName := { cls := "java/lang/String", name := "isLatin1", desc := "()Z" }
abbrev jxChr : MethodName := { cls := "java/lang/String", name := "charAt", desc := "(I)C" }
abbrev jxChk : MethodName := { cls := "java/lang/String", name := "checkIndex", desc := "(II)V" }
abbrev jxL1 : MethodName := { cls := "java/lang/StringLatin1", name := "charAt", desc := "([BI)C" }
abbrev jxPre : MethodName := { cls := "jdk/internal/util/Preconditions", name := "checkIndex", desc := "(IILjava/util/function/BiFunction;)I" }
def ri_txL : List Nat := [0, 1, 4, 5, 4, 3, 4, 3, 6, 4, 5, 3, 4]
def ri_txB : List (List Int32) := [[], [32], [102, 117, 108, 108], [102, 117, 108, 108, 32], [108, 105, 110, 101], [110, 101, 116], [110, 101, 116, 32], [111, 110, 101], [112, 111, 105, 110, 116, 115], [114, 105, 110, 103], [114, 105, 110, 103, 32], [114, 111, 119], [114, 111, 119, 32]]
/-- the constants: class, entry, text, which text -/
def ri_LIT : List (String × Nat × String × Nat) := [("FactorNets$Reader", 61, "net", 5), ("FactorNets$Reader", 69, "line", 4), ("FactorNets$Reader", 74, "row", 11), ("FactorNets$Reader", 76, "ring", 9), ("FactorNets$Reader", 78, "full", 2), ("FactorNets$Reader", 95, "points", 8), ("FactorNets", 263, "one", 7), ("FactorNets", 269, " ", 1), ("FactorNets", 439, "row ", 12), ("FactorNets", 441, "ring ", 10), ("FactorNets", 443, "full ", 3), ("FactorNets", 445, "net ", 6), ("FactorNetsModel", 167, "points", 8), ("FactorNetsModel", 195, "row", 11), ("FactorNetsModel", 197, "ring", 9), ("FactorNetsModel", 199, "full", 2), ("FactorNetsModel", 207, "net", 5), ("FactorNetsModel", 212, "line", 4), ("FactorNetsModel", 324, " ", 1), ("FactorNetsModel", 326, "", 0), ("FactorNetsModel", 332, "row ", 12), ("FactorNetsModel", 334, "ring ", 10), ("FactorNetsModel", 336, "full ", 3), ("FactorNetsModel", 338, "net ", 6), ("FactorNetsModel", 340, "one", 7)]
def ri_JW : List Cond := [Cond.code jxLen prog_17_method_54_code 1 (some .int), Cond.code jxCod prog_17_method_152_code 1 (some .byte), Cond.code jxLat prog_17_method_154_code 1 (some .boolean), Cond.code jxChr prog_17_method_56_code 2 (some .char), Cond.code jxChk prog_17_method_155_code 2 none, Cond.code jxL1 prog_18_method_2_code 2 (some .char), Cond.code jxPre prog_22_method_11_code 3 (some .int), Cond.methodLink "java/lang/String" 335 jxCod, Cond.instanceMethod jxCod, Cond.selects "java/lang/String" jxCod jxCod, Cond.methodLink "java/lang/String" 492 jxLat, Cond.instanceMethod jxLat, Cond.selects "java/lang/String" jxLat jxLat, Cond.methodLink "java/lang/String" 495 jxL1, Cond.static jxL1, Cond.methodLink "java/lang/StringLatin1" 9 jxChk, Cond.static jxChk, Cond.methodLink "java/lang/String" 1059 jxPre, Cond.static jxPre, Cond.fieldLink "java/lang/String" 38 "java/lang/String" "COMPACT_STRINGS" "Z", Cond.fieldLink "java/lang/String" 15 "java/lang/String" "coder" "B", Cond.fieldLink "java/lang/String" 9 "java/lang/String" "value" "[B", Cond.fieldLink "java/lang/String" 1053 "jdk/internal/util/Preconditions" "SIOOBE_FORMATTER" "Ljava/util/function/BiFunction;", Cond.initialized "java/lang/String", Cond.initialized "java/lang/StringLatin1", Cond.initialized "jdk/internal/util/Preconditions", Cond.instanceMethod jxLen, Cond.selects "java/lang/String" jxLen jxLen, Cond.instanceMethod jxChr, Cond.selects "java/lang/String" jxChr jxChr]
/-- the texts' objects -/
def ri_S (adK adV : Nat → Nat) (A : Nat → Prop) (U : State) (H : Heap) : Prop := ∀ i : Nat, i < 13 → va_O "java/lang/String" (adK i) A U H ∧ va_OF "java/lang/String" "coder" "B" (.int 0) (adK i) A U H ∧ va_OF "java/lang/String" "value" "[B" (.ref (adV i)) (adK i) A U H ∧ va_T .byte (adV i) (ri_txL.getD i 0) (fun j => .int ((ri_txB.getD i []).getD j 0)) A U H
theorem ri_S.to {adK adV : Nat → Nat} {A : Nat → Prop} {u U : State} {H H1 : Heap} (h : ri_S adK adV A u H) (hvm : u.vm.Alike U.vm) (hq : ∀ a : Nat, a < H.size → ¬ A a → H1[a]? = H[a]?) : ri_S adK adV A U H1 := fun i hi => by
  obtain ⟨a, b, c, d⟩ := h i hi
  exact ⟨(va_O.moved hvm a).kept hq, (va_OF.moved hvm b).kept hq, (va_OF.moved hvm c).kept hq, (va_T.moved hvm d).kept hq⟩
theorem ri_recv {adK adV : Nat → Nat} {A : Nat → Prop} {s : State} {H : Heap} {locs : List Loc} {i : Nat} (hE : ri_S adK adV A s s.heap) (hi : i < 13) (hS : va_S A s.heap H locs) : ∃ cell : Cell, H[adK i]? = some cell ∧ cell.vm.isStatics = false ∧ s.vm.findClass "java/lang/String" = some cell.cls := by
  obtain ⟨cell, h1, h2, h3, -⟩ := (hE i hi).1.kept hS.2.1
  exact ⟨cell, h1, h2, h3⟩
def ri_TX (bs : Nat) (sa : Nat → Nat) (U : State) : Prop := ∃ (adV : Nat → Nat) (zv : Value), zv.category = 1 ∧ ri_S (fun i => sa (3000000 + i)) adV (fun q => bs ≤ q) U U.heap ∧ va_Z "java/lang/String" "COMPACT_STRINGS" "Z" (.int 1) (fun q => bs ≤ q) U U.heap ∧ va_Z "jdk/internal/util/Preconditions" "SIOOBE_FORMATTER" "Ljava/util/function/BiFunction;" zv (fun q => bs ≤ q) U U.heap ∧ ∀ r ∈ ri_LIT, vk_R r.1 r.2.1 r.2.2.1 (sa (3000000 + r.2.2.2)) U
theorem ri_TX.to {bs : Nat} {sa : Nat → Nat} {s U : State} {H : Heap} {locs : List Loc} (h : ri_TX bs sa s) (hW : s.WarmedH U.vm) (hU : U.heap = H) (hS : va_S (fun q => bs ≤ q) s.heap H locs) : ri_TX bs sa U := by
  obtain ⟨adV, zv, h0, h1, h2, h3, h4⟩ := h
  subst hU
  exact ⟨adV, zv, h0, h1.to hW.alike hS.2.1, (h2.moved hW.alike).kept hS.2.1, (h3.moved hW.alike).kept hS.2.1, fun r hr => (h4 r hr).warm hW⟩
def jx_rm (f : Nat) : Room := { frames := f, cells := 0, slots := 0, locals := 30 * f }
def jxQ (r : Option Value) : Array Value → State → Outcome → State → Prop := fun _ st oc t => oc = .returned r ∧ t.heap = st.heap
section JX
variable {l : Launch} {bs : Nat} {sa : Nat → Nat} {G : List Cond}
theorem jx_blind {as : List Value} : FrameBlind (va_Pc as (ri_TX bs sa)) := fun a U g mk q => ⟨q.1, ri_TX.to (locs := []) (U := U.calling g mk a) q.2 (State.WarmedH.refl U) rfl va_S.rf⟩
def jx_PV (bs : Nat) (sa : Nat → Nat) (i t : Nat) (U : State) : Prop := ri_TX bs sa U ∧ va_T .byte t (ri_txL.getD i 0) (fun j => .int ((ri_txB.getD i []).getD j 0)) (fun q => bs ≤ q) U U.heap
theorem jx_blindV {as : List Value} {i t : Nat} : FrameBlind (va_Pc as (jx_PV bs sa i t)) := fun a U g mk q => ⟨q.1, ri_TX.to (locs := []) (U := U.calling g mk a) q.2.1 (State.WarmedH.refl U) rfl va_S.rf, va_T.moved (u := U) (U := U.calling g mk a) (Vm.Alike.refl U.vm) q.2.2⟩
section JXC
variable {p : Program} {e : Env} {R : Room} {s : State} {m : MethodId} {args : Array Value} {below : List Frame} {meth : Method} {c : Code} {Q : State → Prop}
theorem jx_go {H : Heap} {locs : List Loc} {cells slots pc : Nat} {ls : Array Slot} {st0 rest : List Value} {r : Option Value} {a : Array Value}
    (hr : va_Run p l e R s m args below meth c H locs cells slots 0 0 (F0 m pc ls st0) rest (jxQ r a) (fun _ => False))
    (kk : W p l e R s m args below meth c H locs cells slots Q (F0 m (pc + 3) ls (r.toList ++ rest))) : W p l e R s m args below meth c H locs cells slots Q (F0 m pc ls st0) := by
  intro T hT X
  obtain ⟨v1, st₀, t, T', L, h0, X', hL, e1, e2, ⟨hv, hh⟩, st⟩ := hr T hT X
  cases hv
  have hL0 : L = [] := by
    cases L with
    | nil => rfl
    | cons q L => exact (hL q List.mem_cons_self).elim
  subst hL0
  rw [List.append_nil] at X'
  obtain ⟨t2, a1, b1⟩ := kk T' (by rw [e1, hh, h0]) X'
  exact ⟨t2, st t2 a1, b1⟩
end JXC
theorem jx_nl (i : Nat) : i < 13 → ri_txL.getD i 0 = (ri_txB.getD i []).length ∧ ri_txL.getD i 0 ≤ 10 := by
  intro h
  have H : ∀ i : Nat, i < 13 → ri_txL.getD i 0 = (ri_txB.getD i []).length ∧ ri_txL.getD i 0 ≤ 10 := by decide +kernel
  exact H i h
theorem jx_ch {i k : Nat} : i < 13 → k < 10 → ((((ri_txB.getD i []).getD k 0) &&& (Int16.ofInt 255).toInt32).toUInt32 % 65536).toInt32 = (ri_txB.getD i []).getD k 0 ∧ narrow .char (.int ((ri_txB.getD i []).getD k 0)) = .int ((ri_txB.getD i []).getD k 0) := by
  have H : ∀ i : Nat, i < 13 → ∀ k : Nat, k < 10 → ((((ri_txB.getD i []).getD k 0) &&& (Int16.ofInt 255).toInt32).toUInt32 % 65536).toInt32 = (ri_txB.getD i []).getD k 0 ∧ narrow .char (.int ((ri_txB.getD i []).getD k 0)) = .int ((ri_txB.getD i []).getD k 0) := by decide +kernel
  exact fun h1 h2 => H i h1 k h2

set_option maxRecDepth 20000 in
theorem jx_pre (hJ : ∀ w ∈ ri_JW, w ∈ G) (HG : ∀ w ∈ G, (w.onTables && w.keeps) = true ∨ ∃ ty, w = .arrayClass ty) {k n : Int32} {zz : Value} (hk0 : ¬ k < 0) (hkn : k < n) (hz : zz.category = 1) : Met l jxPre (Cond.code jxPre prog_22_method_11_code 3 (some .int) :: G) (jx_rm 0) (va_Pc [.int k, .int n, zz] (ri_TX bs sa)) (jxQ (some (.int k))) 0 0 (fun _ => False) := by
  refine Met.ofW (cc := prog_22_method_11_code) (maxL := 3) (ret := (some .int)) (by decide) rfl ?_
  intro p e s m args below meth c s₁ B hml hv
  obtain ⟨rfl, hTX⟩ := hv
  have hTX0 := hTX
  obtain ⟨adV, zv, h0, h1, h2, h3, h4⟩ := hTX
  have hts : ∀ w ∈ G, w.before _ s = true := fun w hw => atoms_spec (ws := Cond.code jxPre prog_22_method_11_code 3 (some .int) :: G) B.pre w (List.mem_cons_of_mem _ hw)
  have hown : s.vm.findClass "jdk/internal/util/Preconditions" = some m.cls := findClass_of_methodNamed B.named
  have hlocks := B.notSynchronized
  have hx := B.exec
  have hb := B.bytes
  have hr := B.returns
  have hl := lv_entry ([.int k, .int n, zz]) (n := 3) (by cases zz <;> first | exact Nat.le_refl _ | cases hz)
  rw [lg_entry_eq]
  refine lv_iload_n (k := 0) hx hb (by decide +kernel) rfl (hl.2.2 _ (List.mem_of_getElem? (i := 0) rfl)) ?_
  refine lv_if_lt (off := 8) hx hb (tgt := 9) (by decide +kernel) (by decide) (fun q => absurd q hk0) (fun _ => ?_)
  refine lv_iload_n (k := 0) hx hb (by decide +kernel) rfl (hl.2.2 _ (List.mem_of_getElem? (i := 0) rfl)) ?_
  refine lv_iload_n (k := 1) hx hb (by decide +kernel) rfl (hl.2.2 _ (List.mem_of_getElem? (i := 1) rfl)) ?_
  refine lv_icmp_lt (off := 10) hx hb (tgt := 16) (by decide +kernel) (by decide) (fun _ => ?_) (fun q => absurd hkn q)
  refine lv_iload_n (k := 0) hx hb (by decide +kernel) rfl (hl.2.2 _ (List.mem_of_getElem? (i := 0) rfl)) ?_
  exact W.iret hx hb hr (fun u hu _ => ⟨rfl, hu⟩) (fun q hq => by cases hq) (by decide +kernel)
set_option maxRecDepth 20000 in
theorem jx_cod (hJ : ∀ w ∈ ri_JW, w ∈ G) (HG : ∀ w ∈ G, (w.onTables && w.keeps) = true ∨ ∃ ty, w = .arrayClass ty) {i : Nat} (hi : i < 13) : Met l jxCod (Cond.code jxCod prog_17_method_152_code 1 (some .byte) :: G) (jx_rm 0) (va_Pc [.ref (sa (3000000 + i))] (ri_TX bs sa)) (jxQ (some (.int 0))) 0 0 (fun _ => False) := by
  refine Met.ofW (cc := prog_17_method_152_code) (maxL := 1) (ret := (some .byte)) (by decide) rfl ?_
  intro p e s m args below meth c s₁ B hml hv
  obtain ⟨rfl, hTX⟩ := hv
  have hTX0 := hTX
  obtain ⟨adV, zv, h0, h1, h2, h3, h4⟩ := hTX
  have hts : ∀ w ∈ G, w.before _ s = true := fun w hw => atoms_spec (ws := Cond.code jxCod prog_17_method_152_code 1 (some .byte) :: G) B.pre w (List.mem_cons_of_mem _ hw)
  have hown : s.vm.findClass "java/lang/String" = some m.cls := findClass_of_methodNamed B.named
  have hlocks := B.notSynchronized
  have hx := B.exec
  have hb := B.bytes
  have hr := B.returns
  have hl := lv_entry ([.ref (sa (3000000 + i))]) (n := 1) (Nat.le_refl _)
  rw [lg_entry_eq]
  refine va_gets hx hb h2 va_S.rf hown (hts _ (hJ _ (List.mem_of_getElem? (i := 19) rfl))) (fun _ h => h) (by decide +kernel) ?_
  refine lv_if_eq (off := 10) hx hb (tgt := 13) (by decide +kernel) (by decide) (fun q => absurd q (by decide)) (fun _ => ?_)
  refine lv_aload_n (k := 0) hx hb (by decide +kernel) rfl (hl.2.2 _ (List.mem_of_getElem? (i := 0) rfl)) ?_
  refine vk_getf hx hb (h1 i hi).2.1 va_S.rf hown (hts _ (hJ _ (List.mem_of_getElem? (i := 20) rfl))) (fun _ h => h) (by decide +kernel) ?_
  refine lv_goto (off := 4) hx hb (tgt := 14) (by decide +kernel) (by decide) ?_
  exact W.zret hx hb hr (by decide) (fun u hu _ => ⟨rfl, hu⟩) (fun q hq => by cases hq) (by decide +kernel)
set_option maxRecDepth 20000 in
theorem jx_lat (hJ : ∀ w ∈ ri_JW, w ∈ G) (HG : ∀ w ∈ G, (w.onTables && w.keeps) = true ∨ ∃ ty, w = .arrayClass ty) {i : Nat} (hi : i < 13) : Met l jxLat (Cond.code jxLat prog_17_method_154_code 1 (some .boolean) :: G) (jx_rm 0) (va_Pc [.ref (sa (3000000 + i))] (ri_TX bs sa)) (jxQ (some (.int 1))) 0 0 (fun _ => False) := by
  refine Met.ofW (cc := prog_17_method_154_code) (maxL := 1) (ret := (some .boolean)) (by decide) rfl ?_
  intro p e s m args below meth c s₁ B hml hv
  obtain ⟨rfl, hTX⟩ := hv
  have hTX0 := hTX
  obtain ⟨adV, zv, h0, h1, h2, h3, h4⟩ := hTX
  have hts : ∀ w ∈ G, w.before _ s = true := fun w hw => atoms_spec (ws := Cond.code jxLat prog_17_method_154_code 1 (some .boolean) :: G) B.pre w (List.mem_cons_of_mem _ hw)
  have hown : s.vm.findClass "java/lang/String" = some m.cls := findClass_of_methodNamed B.named
  have hlocks := B.notSynchronized
  have hx := B.exec
  have hb := B.bytes
  have hr := B.returns
  have hl := lv_entry ([.ref (sa (3000000 + i))]) (n := 1) (Nat.le_refl _)
  rw [lg_entry_eq]
  refine va_gets hx hb h2 va_S.rf hown (hts _ (hJ _ (List.mem_of_getElem? (i := 19) rfl))) (fun _ h => h) (by decide +kernel) ?_
  refine lv_if_eq (off := 14) hx hb (tgt := 17) (by decide +kernel) (by decide) (fun q => absurd q (by decide)) (fun _ => ?_)
  refine lv_aload_n (k := 0) hx hb (by decide +kernel) rfl (hl.2.2 _ (List.mem_of_getElem? (i := 0) rfl)) ?_
  refine vk_getf hx hb (h1 i hi).2.1 va_S.rf hown (hts _ (hJ _ (List.mem_of_getElem? (i := 20) rfl))) (fun _ h => h) (by decide +kernel) ?_
  refine lv_if_ne (off := 7) hx hb (tgt := 17) (by decide +kernel) (by decide) (fun q => absurd rfl q) (fun _ => ?_)
  refine lv_iconst (n := 1) hx hb (v := 1) (by decide +kernel) (by decide) ?_
  refine lv_goto (off := 4) hx hb (tgt := 18) (by decide +kernel) (by decide) ?_
  exact W.zret hx hb hr (by decide) (fun u hu _ => ⟨rfl, hu⟩) (fun q hq => by cases hq) (by decide +kernel)
set_option maxRecDepth 20000 in
theorem jx_chk (hJ : ∀ w ∈ ri_JW, w ∈ G) (HG : ∀ w ∈ G, (w.onTables && w.keeps) = true ∨ ∃ ty, w = .arrayClass ty) {k n : Int32} (hk0 : ¬ k < 0) (hkn : k < n) : Met l jxChk (Cond.code jxChk prog_17_method_155_code 2 none :: G) (jx_rm 1) (va_Pc [.int k, .int n] (ri_TX bs sa)) (jxQ none) 0 0 (fun _ => False) := by
  refine Met.ofW (cc := prog_17_method_155_code) (maxL := 2) (ret := none) (by decide) rfl ?_
  intro p e s m args below meth c s₁ B hml hv
  obtain ⟨rfl, hTX⟩ := hv
  have hTX0 := hTX
  obtain ⟨adV, zv, h0, h1, h2, h3, h4⟩ := hTX
  have hts : ∀ w ∈ G, w.before _ s = true := fun w hw => atoms_spec (ws := Cond.code jxChk prog_17_method_155_code 2 none :: G) B.pre w (List.mem_cons_of_mem _ hw)
  have hown : s.vm.findClass "java/lang/String" = some m.cls := findClass_of_methodNamed B.named
  have hlocks := B.notSynchronized
  have hx := B.exec
  have hb := B.bytes
  have hr := B.returns
  have hl := lv_entry ([.int k, .int n]) (n := 2) (Nat.le_refl _)
  rw [lg_entry_eq]
  refine lv_iload_n (k := 0) hx hb (by decide +kernel) rfl (hl.2.2 _ (List.mem_of_getElem? (i := 0) rfl)) ?_
  refine lv_iload_n (k := 1) hx hb (by decide +kernel) rfl (hl.2.2 _ (List.mem_of_getElem? (i := 1) rfl)) ?_
  refine va_gets hx hb h3 va_S.rf hown (hts _ (hJ _ (List.mem_of_getElem? (i := 22) rfl))) (fun _ h => h) (by decide +kernel) ?_
  refine jx_go (va_runS (As := [.int k, .int n, zv]) (rest := []) (Ts := G) ⟨hx, hb, hml, hown, hts⟩ (jx_pre hJ HG hk0 hkn h0) ⟨callB_of 3 hts (fun w hw => by rcases List.mem_cons.mp hw with rfl | hw; exact ⟨(hJ _ (List.mem_of_getElem? (i := 6) rfl)), HG _ (hJ _ (List.mem_of_getElem? (i := 6) rfl))⟩; exact ⟨hw, HG w hw⟩) rfl rfl rfl (hts _ (hJ _ (List.mem_of_getElem? (i := 25) rfl))) (hts _ (hJ _ (List.mem_of_getElem? (i := 17) rfl))) ⟨by decide, by decide, by decide +kernel⟩ ⟨by show 0 + 1 ≤ 1; decide, by show 8 + (3 + 11) + 0 ≤ 30; decide⟩, hts _ (hJ _ (List.mem_of_getElem? (i := 18) rfl))⟩ ⟨jx_blind, fun U hU hW => ⟨rfl, hTX0.to hW hU va_S.rf⟩⟩ rfl rfl hl.1 rfl (lv_room (Nat.le_of_ble_eq_true rfl)) (show decode prog_17_method_155_code 5 = .ok (.invokestatic 1059, 3) by decide +kernel) ⟨Nat.zero_le _, Nat.zero_le _⟩) ?_
  refine lv_pop hx hb (by decide +kernel) rfl ?_
  exact W.vret hx hb hr (fun u hu _ => ⟨rfl, hu⟩) (fun q hq => by cases hq) (by decide +kernel)
set_option maxRecDepth 20000 in
theorem jx_len (hJ : ∀ w ∈ ri_JW, w ∈ G) (HG : ∀ w ∈ G, (w.onTables && w.keeps) = true ∨ ∃ ty, w = .arrayClass ty) {i : Nat} (hi : i < 13) : Met l jxLen (Cond.code jxLen prog_17_method_54_code 1 (some .int) :: G) (jx_rm 1) (va_Pc [.ref (sa (3000000 + i))] (ri_TX bs sa)) (jxQ (some (.int (Int32.ofNat (ri_txL.getD i 0))))) 0 0 (fun _ => False) := by
  refine Met.ofW (cc := prog_17_method_54_code) (maxL := 1) (ret := (some .int)) (by decide) rfl ?_
  intro p e s m args below meth c s₁ B hml hv
  obtain ⟨rfl, hTX⟩ := hv
  have hTX0 := hTX
  obtain ⟨adV, zv, h0, h1, h2, h3, h4⟩ := hTX
  have hts : ∀ w ∈ G, w.before _ s = true := fun w hw => atoms_spec (ws := Cond.code jxLen prog_17_method_54_code 1 (some .int) :: G) B.pre w (List.mem_cons_of_mem _ hw)
  have hown : s.vm.findClass "java/lang/String" = some m.cls := findClass_of_methodNamed B.named
  have hlocks := B.notSynchronized
  have hx := B.exec
  have hb := B.bytes
  have hr := B.returns
  have hl := lv_entry ([.ref (sa (3000000 + i))]) (n := 1) (Nat.le_refl _)
  rw [lg_entry_eq]
  refine lv_aload_n (k := 0) hx hb (by decide +kernel) rfl (hl.2.2 _ (List.mem_of_getElem? (i := 0) rfl)) ?_
  refine vk_getf hx hb (h1 i hi).2.2.1 va_S.rf hown (hts _ (hJ _ (List.mem_of_getElem? (i := 21) rfl))) (fun _ h => h) (by decide +kernel) ?_
  refine va_tlen hx hb (h1 i hi).2.2.2 va_S.rf rfl (by decide +kernel) ?_
  refine lv_aload_n (k := 0) hx hb (by decide +kernel) rfl (hl.2.2 _ (List.mem_of_getElem? (i := 0) rfl)) ?_
  refine jx_go (va_runV (As := []) (rest := [.int (Int32.ofNat (ri_txL.getD i 0))]) (C := "java/lang/String") (Ts := G) ⟨hx, hb, hml, hown, hts⟩ (jx_cod hJ HG hi) ⟨callB_of 0 hts (fun w hw => by rcases List.mem_cons.mp hw with rfl | hw; exact ⟨(hJ _ (List.mem_of_getElem? (i := 1) rfl)), HG _ (hJ _ (List.mem_of_getElem? (i := 1) rfl))⟩; exact ⟨hw, HG w hw⟩) rfl rfl rfl (hts _ (hJ _ (List.mem_of_getElem? (i := 23) rfl))) (hts _ (hJ _ (List.mem_of_getElem? (i := 7) rfl))) ⟨by decide, by decide, by decide +kernel⟩ ⟨by show 0 + 1 ≤ 1; decide, by show 8 + (1 + 11) + 0 ≤ 30; decide⟩, hts _ (hJ _ (List.mem_of_getElem? (i := 8) rfl)), hts _ (hJ _ (List.mem_of_getElem? (i := 9) rfl))⟩ ⟨jx_blind, ri_recv h1 hi va_S.rf, fun U hU hW => ⟨rfl, hTX0.to hW hU va_S.rf⟩⟩ rfl rfl hl.1 rfl (lv_room (Nat.le_of_ble_eq_true rfl)) (show decode prog_17_method_54_code 6 = .ok (.invokevirtual 335, 3) by decide +kernel) ⟨Nat.zero_le _, Nat.zero_le _⟩) ?_
  refine lv_ishr hx hb (by decide +kernel) ?_
  have e0 : Int32.ofNat (ri_txL.getD i 0) >>> ((0 : Int32) &&& 31) = Int32.ofNat (ri_txL.getD i 0) := by
    have H : ∀ i : Nat, i < 13 → Int32.ofNat (ri_txL.getD i 0) >>> ((0 : Int32) &&& 31) = Int32.ofNat (ri_txL.getD i 0) := by decide +kernel
    exact H i hi
  rw [e0]
  exact W.iret hx hb hr (fun u hu _ => ⟨rfl, hu⟩) (fun q hq => by cases hq) (by decide +kernel)
set_option maxRecDepth 20000 in
theorem jx_l1 (hJ : ∀ w ∈ ri_JW, w ∈ G) (HG : ∀ w ∈ G, (w.onTables && w.keeps) = true ∨ ∃ ty, w = .arrayClass ty) {i t : Nat} (hi : i < 13) {k : Int32} (hk0 : ¬ k < 0) (hkn : k.toNatClampNeg < ri_txL.getD i 0) : Met l jxL1 (Cond.code jxL1 prog_18_method_2_code 2 (some .char) :: G) (jx_rm 2) (va_Pc [.ref t, .int k] (jx_PV bs sa i t)) (jxQ (some (.int ((ri_txB.getD i []).getD k.toNatClampNeg 0)))) 0 0 (fun _ => False) := by
  refine Met.ofW (cc := prog_18_method_2_code) (maxL := 2) (ret := (some .char)) (by decide) rfl ?_
  intro p e s m args below meth c s₁ B hml hv
  obtain ⟨rfl, hTX⟩ := hv
  obtain ⟨hTX, hT⟩ := hTX
  have hTX0 := hTX
  obtain ⟨adV, zv, h0, h1, h2, h3, h4⟩ := hTX
  have hts : ∀ w ∈ G, w.before _ s = true := fun w hw => atoms_spec (ws := Cond.code jxL1 prog_18_method_2_code 2 (some .char) :: G) B.pre w (List.mem_cons_of_mem _ hw)
  have hown : s.vm.findClass "java/lang/StringLatin1" = some m.cls := findClass_of_methodNamed B.named
  have hlocks := B.notSynchronized
  have hx := B.exec
  have hb := B.bytes
  have hr := B.returns
  have hl := lv_entry ([.ref t, .int k]) (n := 2) (Nat.le_refl _)
  rw [lg_entry_eq]
  have hn := jx_nl i hi
  have hlt : k < Int32.ofNat (ri_txL.getD i 0) := by
    rw [Int32.lt_iff_toInt_lt, Int32.toInt_ofNat_of_lt (by omega)]
    have e : (k.toNatClampNeg : Int) = k.toInt := by
      have hz0 : (0 : Int) ≤ k.toInt := by
        have := Int32.not_lt.mp hk0
        simpa using Int32.le_iff_toInt_le.mp this
      show ((k.toInt.toNat : Nat) : Int) = k.toInt
      omega
    omega
  refine lv_iload_n (k := 1) hx hb (by decide +kernel) rfl (hl.2.2 _ (List.mem_of_getElem? (i := 1) rfl)) ?_
  refine lv_aload_n (k := 0) hx hb (by decide +kernel) rfl (hl.2.2 _ (List.mem_of_getElem? (i := 0) rfl)) ?_
  refine va_tlen hx hb hT va_S.rf rfl (by decide +kernel) ?_
  refine jx_go (va_runS (As := [.int k, .int (Int32.ofNat (ri_txL.getD i 0))]) (rest := []) (Ts := G) ⟨hx, hb, hml, hown, hts⟩ (jx_chk hJ HG hk0 hlt) ⟨callB_of 2 hts (fun w hw => by rcases List.mem_cons.mp hw with rfl | hw; exact ⟨(hJ _ (List.mem_of_getElem? (i := 4) rfl)), HG _ (hJ _ (List.mem_of_getElem? (i := 4) rfl))⟩; exact ⟨hw, HG w hw⟩) rfl rfl rfl (hts _ (hJ _ (List.mem_of_getElem? (i := 23) rfl))) (hts _ (hJ _ (List.mem_of_getElem? (i := 15) rfl))) ⟨by decide, by decide, by decide +kernel⟩ ⟨by show 1 + 1 ≤ 2; decide, by show 8 + (2 + 11) + 30 ≤ 60; decide⟩, hts _ (hJ _ (List.mem_of_getElem? (i := 16) rfl))⟩ ⟨jx_blind, fun U hU hW => ⟨rfl, hTX0.to hW hU va_S.rf⟩⟩ rfl rfl hl.1 rfl (lv_room (Nat.le_of_ble_eq_true rfl)) (show decode prog_18_method_2_code 3 = .ok (.invokestatic 9, 3) by decide +kernel) ⟨Nat.zero_le _, Nat.zero_le _⟩) ?_
  refine lv_aload_n (k := 0) hx hb (by decide +kernel) rfl (hl.2.2 _ (List.mem_of_getElem? (i := 0) rfl)) ?_
  refine lv_iload_n (k := 1) hx hb (by decide +kernel) rfl (hl.2.2 _ (List.mem_of_getElem? (i := 1) rfl)) ?_
  refine va_tb hx hb hT va_S.rf (fun q => q.elim hk0 (fun z => absurd hkn (Nat.not_lt.mpr z))) rfl (by decide +kernel) ?_
  refine lv_sipush (n := 255) hx hb (by decide +kernel) rfl ?_
  refine lv_iand hx hb (by decide +kernel) ?_
  have hc := jx_ch (k := k.toNatClampNeg) hi (by omega)
  refine lv_i2c hx hb (by decide +kernel) hc.1 ?_
  exact W.zret hx hb hr hc.2 (fun u hu _ => ⟨rfl, hu⟩) (fun q hq => by cases hq) (by decide +kernel)
set_option maxRecDepth 20000 in
theorem jx_chr (hJ : ∀ w ∈ ri_JW, w ∈ G) (HG : ∀ w ∈ G, (w.onTables && w.keeps) = true ∨ ∃ ty, w = .arrayClass ty) {i : Nat} (hi : i < 13) {k : Int32} (hk0 : ¬ k < 0) (hkn : k.toNatClampNeg < ri_txL.getD i 0) : Met l jxChr (Cond.code jxChr prog_17_method_56_code 2 (some .char) :: G) (jx_rm 3) (va_Pc [.ref (sa (3000000 + i)), .int k] (ri_TX bs sa)) (jxQ (some (.int ((ri_txB.getD i []).getD k.toNatClampNeg 0)))) 0 0 (fun _ => False) := by
  refine Met.ofW (cc := prog_17_method_56_code) (maxL := 2) (ret := (some .char)) (by decide) rfl ?_
  intro p e s m args below meth c s₁ B hml hv
  obtain ⟨rfl, hTX⟩ := hv
  have hTX0 := hTX
  obtain ⟨adV, zv, h0, h1, h2, h3, h4⟩ := hTX
  have hts : ∀ w ∈ G, w.before _ s = true := fun w hw => atoms_spec (ws := Cond.code jxChr prog_17_method_56_code 2 (some .char) :: G) B.pre w (List.mem_cons_of_mem _ hw)
  have hown : s.vm.findClass "java/lang/String" = some m.cls := findClass_of_methodNamed B.named
  have hlocks := B.notSynchronized
  have hx := B.exec
  have hb := B.bytes
  have hr := B.returns
  have hl := lv_entry ([.ref (sa (3000000 + i)), .int k]) (n := 2) (Nat.le_refl _)
  rw [lg_entry_eq]
  have hn := jx_nl i hi
  refine lv_aload_n (k := 0) hx hb (by decide +kernel) rfl (hl.2.2 _ (List.mem_of_getElem? (i := 0) rfl)) ?_
  refine jx_go (va_runV (As := []) (rest := []) (C := "java/lang/String") (Ts := G) ⟨hx, hb, hml, hown, hts⟩ (jx_lat hJ HG hi) ⟨callB_of 0 hts (fun w hw => by rcases List.mem_cons.mp hw with rfl | hw; exact ⟨(hJ _ (List.mem_of_getElem? (i := 2) rfl)), HG _ (hJ _ (List.mem_of_getElem? (i := 2) rfl))⟩; exact ⟨hw, HG w hw⟩) rfl rfl rfl (hts _ (hJ _ (List.mem_of_getElem? (i := 23) rfl))) (hts _ (hJ _ (List.mem_of_getElem? (i := 10) rfl))) ⟨by decide, by decide, by decide +kernel⟩ ⟨by show 0 + 1 ≤ 3; decide, by show 8 + (1 + 11) + 0 ≤ 90; decide⟩, hts _ (hJ _ (List.mem_of_getElem? (i := 11) rfl)), hts _ (hJ _ (List.mem_of_getElem? (i := 12) rfl))⟩ ⟨jx_blind, ri_recv h1 hi va_S.rf, fun U hU hW => ⟨rfl, hTX0.to hW hU va_S.rf⟩⟩ rfl rfl hl.1 rfl (lv_room (Nat.le_of_ble_eq_true rfl)) (show decode prog_17_method_56_code 1 = .ok (.invokevirtual 492, 3) by decide +kernel) ⟨Nat.zero_le _, Nat.zero_le _⟩) ?_
  refine lv_if_eq (off := 12) hx hb (tgt := 16) (by decide +kernel) (by decide) (fun q => absurd q (by decide)) (fun _ => ?_)
  refine lv_aload_n (k := 0) hx hb (by decide +kernel) rfl (hl.2.2 _ (List.mem_of_getElem? (i := 0) rfl)) ?_
  refine vk_getf hx hb (h1 i hi).2.2.1 va_S.rf hown (hts _ (hJ _ (List.mem_of_getElem? (i := 21) rfl))) (fun _ h => h) (by decide +kernel) ?_
  refine lv_iload_n (k := 1) hx hb (by decide +kernel) rfl (hl.2.2 _ (List.mem_of_getElem? (i := 1) rfl)) ?_
  refine jx_go (va_runS (As := [.ref (adV i), .int k]) (rest := []) (Ts := G) ⟨hx, hb, hml, hown, hts⟩ (jx_l1 (t := adV i) hJ HG hi hk0 hkn) ⟨callB_of 2 hts (fun w hw => by rcases List.mem_cons.mp hw with rfl | hw; exact ⟨(hJ _ (List.mem_of_getElem? (i := 5) rfl)), HG _ (hJ _ (List.mem_of_getElem? (i := 5) rfl))⟩; exact ⟨hw, HG w hw⟩) rfl rfl rfl (hts _ (hJ _ (List.mem_of_getElem? (i := 24) rfl))) (hts _ (hJ _ (List.mem_of_getElem? (i := 13) rfl))) ⟨by decide, by decide, by decide +kernel⟩ ⟨by show 2 + 1 ≤ 3; decide, by show 8 + (2 + 11) + 60 ≤ 90; decide⟩, hts _ (hJ _ (List.mem_of_getElem? (i := 14) rfl))⟩ ⟨jx_blindV, fun U hU hW => ⟨rfl, hTX0.to hW hU va_S.rf, ((h1 i hi).2.2.2.moved hW.alike).kept (by rw [hU]; exact fun _ _ _ => rfl)⟩⟩ rfl rfl hl.1 rfl (lv_room (Nat.le_of_ble_eq_true rfl)) (show decode prog_17_method_56_code 12 = .ok (.invokestatic 495, 3) by decide +kernel) ⟨Nat.zero_le _, Nat.zero_le _⟩) ?_
  exact W.zret hx hb hr (jx_ch (k := k.toNatClampNeg) hi (by omega)).2 (fun u hu _ => ⟨rfl, hu⟩) (fun q hq => by cases hq) (by decide +kernel)
end JX
