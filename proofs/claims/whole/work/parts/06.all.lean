/-! ===== every run is a contract, a walk ===== -/
section RIA
variable {l : Launch} {D : va_G} {cl : List vw_C} {cs : Nat → ClassId} {PC : String} {bs : Nat} {sa : Nat → Nat} {G Nst : List Cond} {Fd : List (List Value)} {P : Nat → Option ri_T} {Yn : Nat → MethodName} {Yc : Nat → ByteArray} {Yr : Nat → Option FieldType}
set_option maxHeartbeats 1000000 in
theorem ri_met_of_walk (HM : ∀ y t, P y = some t → ri_okM cl G Nst Fd PC Yn Yr (Yn y) (Yc y) (Yr y) t) {f : Nat} (hB : ri_WalkR l D cl cs PC bs sa G Nst Fd P Yn Yr f) : ri_MetR l D cl cs PC bs sa G Nst Fd P Yn Yc Yr f := by
  intro d y t as M v M' k n hy hcat hrun
  obtain ⟨hpl, hcode, hrk, hmx, hT⟩ := HM y t hy
  refine Met.ofW (cc := Yc y) (maxL := t.2.1) (ret := Yr y) hpl rfl ?_
  intro p e s m args below meth c s₁ B hml hv
  obtain ⟨rfl, hP, hK, hN, hsz, hTX⟩ := hv
  have hts0 := atoms_spec (ws := Cond.code (Yn y) (Yc y) t.2.1 (Yr y) :: G) B.pre
  have hown : s.vm.findClass (Yn y).cls = some m.cls := findClass_of_methodNamed B.named
  have hnm : meth.name = (Yn y).name := (name_of_methodNamed B.named B.method).1
  have hlocks := B.notSynchronized
  have hx := B.exec
  have hb := B.bytes
  have hr := B.returns
  have hl := lv_entry (as.map (ri_v bs sa)) (n := t.2.1) (by rw [ri_sl_len]; exact hcat)
  rw [ri_lv_args] at hl
  rw [lg_entry_eq]
  have hret : ∀ (pc : Nat) (i : ri_I) (lv : ri_L) (st : List Value) (H : Heap) (locs : List Loc) (ls : Array Slot), t.1[pc]? = some (some i) → ri_step none Fd t.2.2 i (pc, lv, st, M', k, n) = some (.inr (.inr v)) → va_P D cl (ri_w bs sa cs M') H → va_S (fun q => bs ≤ q) s.heap H locs → s.heap.size + k = bs + M'.length → W p l e (headSpec (Cond.code (Yn y) (Yc y) t.2.1 (Yr y) :: G) (ri_rm d k n)).room s m (as.map (ri_v bs sa)).toArray below meth c H locs k n (MQ below (ri_Q D cl cs bs sa v M M' k) (as.map (ri_v bs sa)).toArray s k n (fun q => bs ≤ q)) (F0 m pc ls (st.map (ri_v bs sa))) := by
    intro pc i lv st H locs ls hi hstep hP' hS' hn'
    obtain ⟨hd, -, -⟩ := hT pc i hi
    obtain ⟨ins, a, b, c0, dd⟩ := i
    have hq : ∀ u : State, u.heap = H → s.WarmedH u.vm → ri_Q D cl cs bs sa v M M' k (as.map (ri_v bs sa)).toArray s (.returned (v.map (ri_v bs sa))) u := fun u ht _ => ⟨rfl, by rw [ht]; exact hP', by omega, hS'.F ht⟩
    have hf : ∀ q ∈ locs, bs ≤ q.base := hS'.2.2
    rcases ri_step_ret hstep with ⟨rfl, x, rfl, rfl, hrr⟩ | ⟨rfl, x, rfl, rfl, hrr⟩ | ⟨rfl, hrr, ⟨x, rfl, rfl⟩ | ⟨rfl, rfl⟩⟩ | ⟨rfl, rfl, rfl, hrr⟩
    · rcases hrr with hrr | ⟨hrr, hx01⟩
      · have hty : Yr y = some .int := by
          rcases hrk with ⟨h1, h2⟩ | ⟨h1, h2⟩ | ⟨h1, h2⟩ | ⟨h1, h2⟩ | ⟨h1, h2⟩
          all_goals first | exact h2 | omega
        exact W.iret hx hb (hr.trans hty) hq hf hd
      · have hty : Yr y = some .boolean := by
          rcases hrk with ⟨h1, h2⟩ | ⟨h1, h2⟩ | ⟨h1, h2⟩ | ⟨h1, h2⟩ | ⟨h1, h2⟩
          all_goals first | exact h2 | omega
        exact W.zret hx hb (hr.trans hty) (ri_b01 hx01).1 hq hf hd
    · have hty : Yr y = some .long := by
        rcases hrk with ⟨h1, h2⟩ | ⟨h1, h2⟩ | ⟨h1, h2⟩ | ⟨h1, h2⟩ | ⟨h1, h2⟩
        all_goals first | exact h2 | omega
      exact W.lret hx hb (hr.trans hty) hq hf hd
    · have hty : (∃ C, Yr y = some (.object C)) ∨ ∃ t, Yr y = some (.array t) := by
        rcases hrk with ⟨h1, h2⟩ | ⟨h1, h2⟩ | ⟨h1, h2⟩ | ⟨h1, h2⟩ | ⟨h1, h2⟩
        all_goals first | exact h2 | omega
      rcases hty with ⟨C, hty⟩ | ⟨C, hty⟩
      · exact W.aret hx hb (hr.trans hty) (Or.inl ⟨C, rfl⟩) (Or.inr ⟨_, rfl⟩) hq hf hd
      · exact W.aret hx hb (hr.trans hty) (Or.inr ⟨C, rfl⟩) (Or.inr ⟨_, rfl⟩) hq hf hd
    · have hty : (∃ C, Yr y = some (.object C)) ∨ ∃ t, Yr y = some (.array t) := by
        rcases hrk with ⟨h1, h2⟩ | ⟨h1, h2⟩ | ⟨h1, h2⟩ | ⟨h1, h2⟩ | ⟨h1, h2⟩
        all_goals first | exact h2 | omega
      rcases hty with ⟨C, hty⟩ | ⟨C, hty⟩
      · exact W.aret hx hb (hr.trans hty) (Or.inl ⟨C, rfl⟩) (Or.inl rfl) hq hf hd
      · exact W.aret hx hb (hr.trans hty) (Or.inr ⟨C, rfl⟩) (Or.inl rfl) hq hf hd
    · have hty : Yr y = none := by
        rcases hrk with ⟨h1, h2⟩ | ⟨h1, h2⟩ | ⟨h1, h2⟩ | ⟨h1, h2⟩ | ⟨h1, h2⟩
        all_goals first | exact h2 | omega
      exact W.vret hx hb (hr.trans hty) hq hf hd
  obtain ⟨-, hW⟩ := hB p e (headSpec (Cond.code (Yn y) (Yc y) t.2.1 (Yr y) :: G) (ri_rm d k n)).room s m (as.map (ri_v bs sa)).toArray below meth c (MQ below (ri_Q D cl cs bs sa v M M' k) (as.map (ri_v bs sa)).toArray s k n (fun q => bs ≤ q)) (Yc y) (Yn y).cls (Yn y).name none d t (0, lv_args 0 as, [], M, 0, 0) v M' k n
    ⟨hx, hb, hml, hown, fun w hw => hts0 w (List.mem_cons_of_mem _ hw), hK, hN, by omega, hnm, by show 1 ≤ d + 6; omega, by show 90 ≤ 100 * (d + 6); omega, fun xs h => (by cases h), ⟨by show 6 ≤ d + 6; omega, by show 500 ≤ 100 * (d + 6); omega⟩, hTX⟩ hT (Nat.le_refl _) (Nat.le_refl _) hrun (Nat.le_refl _) (Nat.le_refl _) hret
  exact hW s.heap [] _ hP hl va_S.rf (by show s.heap.size + 0 = bs + M.length; omega)
theorem ri_all (HG : ∀ w ∈ G, (w.onTables && w.keeps) = true ∨ ∃ ty, w = .arrayClass ty) (HN : ∀ w ∈ Nst, ∀ s U : State, s.WarmedH U.vm → va_Nw w s → va_Nw w U) (HM : ∀ y t, P y = some t → ri_okM cl G Nst Fd PC Yn Yr (Yn y) (Yc y) (Yr y) t) : ∀ f : Nat, ri_WalkR l D cl cs PC bs sa G Nst Fd P Yn Yr f ∧ ri_MetR l D cl cs PC bs sa G Nst Fd P Yn Yc Yr f
  | 0 => by
    have h0 : ri_WalkR l D cl cs PC bs sa G Nst Fd P Yn Yr 0 := by
      intro p e R s m args below meth c Q cc own nm X d t F v M' k' n' _ _ _ _ hrun
      exact absurd hrun (by simp [ri_run])
    exact ⟨h0, ri_met_of_walk HM h0⟩
  | f + 1 => by
    obtain ⟨h1, h2⟩ := ri_all HG HN HM f
    have h3 := ri_walk_step HG HN HM h2 h1
    exact ⟨h3, ri_met_of_walk HM h3⟩
/-- which instructions need words of the tables -/
def ri_isW : Instr → Bool
  | .getfield _ => true | .putfield _ => true | .new _ => true | .newarray _ => true | .anewarray _ => true | .multianewarray _ _ => true | .aastore => true
  | .invokespecial _ => true | .invokevirtual _ => true | .invokestatic _ => true | .ldc _ => true | .ldc_w _ => true | .ldc2_w _ => true
  | _ => false
/-- what can be seen in the table alone -/
def ri_stB (nL pc : Nat) : ri_I → Bool
  | (ins, a, _, _, _) => match ins with
    | .ifCond _ off => decide ((pc : Int) + off = (a : Int))
    | .if_icmp _ off => decide ((pc : Int) + off = (a : Int))
    | .goto off => decide ((pc : Int) + off = (a : Int))
    | .ifnull off => decide ((pc : Int) + off = (a : Int))
    | .ifnonnull off => decide ((pc : Int) + off = (a : Int))
    | .istore_n j => decide ((j : Nat) < nL)
    | .istore j => decide (j < nL)
    | .astore_n j => decide ((j : Nat) < nL)
    | .astore j => decide (j < nL)
    | .lstore_n j => decide ((j : Nat) + 1 < nL)
    | .lstore j => decide (j + 1 < nL)
    | .iinc j _ => decide (j < nL)
    | .tableswitch dflt _ _ offs => decide ((pc : Int) + dflt = (a : Int)) && offs.toList.all (fun off => decide (0 ≤ (pc : Int) + off))
    | _ => true
set_option maxHeartbeats 4000000 in
theorem ri_okS_of {own nm : String} {nL pc : Nat} {i : ri_I} (h : ri_stB nL pc i = true) (hw : ri_isW i.1 = false) : ri_okS cl G Nst Fd PC own nm nL pc i ∧ ri_okC cl G Nst Yn Yr own i := by
  obtain ⟨ins, a, b, c, d⟩ := i
  cases ins with
  | getfield _ => cases hw
  | putfield _ => cases hw
  | new _ => cases hw
  | newarray _ => cases hw
  | anewarray _ => cases hw
  | multianewarray _ _ => cases hw
  | aastore => cases hw
  | invokespecial _ => cases hw
  | invokevirtual _ => cases hw
  | invokestatic _ => cases hw
  | ldc _ => cases hw
  | ldc_w _ => cases hw
  | ldc2_w _ => cases hw
  | tableswitch dflt lo hi offs =>
    have h2 : (decide ((pc : Int) + dflt = (a : Int)) && offs.toList.all (fun off => decide (0 ≤ (pc : Int) + off))) = true := h
    rw [Bool.and_eq_true] at h2
    exact ⟨⟨of_decide_eq_true h2.1, fun off ho => of_decide_eq_true (List.all_eq_true.mp h2.2 off ho)⟩, trivial⟩
  | ifCond cd off => exact ⟨show (pc : Int) + off = (a : Int) from of_decide_eq_true h, trivial⟩
  | if_icmp cd off => exact ⟨show (pc : Int) + off = (a : Int) from of_decide_eq_true h, trivial⟩
  | goto off => exact ⟨show (pc : Int) + off = (a : Int) from of_decide_eq_true h, trivial⟩
  | ifnull off => exact ⟨show (pc : Int) + off = (a : Int) from of_decide_eq_true h, trivial⟩
  | ifnonnull off => exact ⟨show (pc : Int) + off = (a : Int) from of_decide_eq_true h, trivial⟩
  | istore_n j => exact ⟨show (j : Nat) < nL from of_decide_eq_true h, trivial⟩
  | astore_n j => exact ⟨show (j : Nat) < nL from of_decide_eq_true h, trivial⟩
  | istore j => exact ⟨show j < nL from of_decide_eq_true h, trivial⟩
  | astore j => exact ⟨show j < nL from of_decide_eq_true h, trivial⟩
  | iinc j v => exact ⟨show j < nL from of_decide_eq_true h, trivial⟩
  | lstore_n j => exact ⟨show (j : Nat) + 1 < nL from of_decide_eq_true h, trivial⟩
  | lstore j => exact ⟨show j + 1 < nL from of_decide_eq_true h, trivial⟩
  | _ => exact ⟨trivial, trivial⟩
/-- the table against the bytes -/
def ri_decB (cc : ByteArray) (nL : Nat) : Nat → List (Option ri_I) → Bool
  | _, [] => true
  | pc, none :: t => ri_decB cc nL (pc + 1) t
  | pc, some i :: t => decide (decode cc pc = .ok (i.1, ri_len i.1 i.2.2.2.2)) && (ri_stB nL pc i && ri_decB cc nL (pc + 1) t)
/-- a table's rows that need words, one behind another -/
def ri_oks (cl : List vw_C) (G Nst : List Cond) (Fd : List (List Value)) (PC : String) (Yn : Nat → MethodName) (Yr : Nat → Option FieldType) (own nm : String) (nL : Nat) : Nat → List (Option ri_I) → Prop
  | _, [] => True
  | pc, none :: t => ri_oks cl G Nst Fd PC Yn Yr own nm nL (pc + 1) t
  | pc, some i :: t => match ri_isW i.1 with
    | true => (ri_okS cl G Nst Fd PC own nm nL pc i ∧ ri_okC cl G Nst Yn Yr own i) ∧ ri_oks cl G Nst Fd PC Yn Yr own nm nL (pc + 1) t
    | false => ri_oks cl G Nst Fd PC Yn Yr own nm nL (pc + 1) t
theorem ri_decB_at {cc : ByteArray} {nL : Nat} : ∀ (t : List (Option ri_I)) (p0 : Nat), ri_decB cc nL p0 t = true → ∀ (pc : Nat) (i : ri_I), t[pc]? = some (some i) → decode cc (p0 + pc) = .ok (i.1, ri_len i.1 i.2.2.2.2) ∧ ri_stB nL (p0 + pc) i = true
  | [], p0, _, pc, i, hi => by simp at hi
  | none :: t, p0, h, 0, i, hi => by simp at hi
  | none :: t, p0, h, pc + 1, i, hi => by
    have h1 := ri_decB_at t (p0 + 1) h pc i (by simpa using hi)
    rw [show p0 + (pc + 1) = p0 + 1 + pc by omega]
    exact h1
  | some j :: t, p0, h, 0, i, hi => by
    have h2 : j = i := by simpa using hi
    subst h2
    unfold ri_decB at h
    rw [Bool.and_eq_true, Bool.and_eq_true] at h
    exact ⟨of_decide_eq_true h.1, h.2.1⟩
  | some j :: t, p0, h, pc + 1, i, hi => by
    unfold ri_decB at h
    rw [Bool.and_eq_true, Bool.and_eq_true] at h
    have h1 := ri_decB_at t (p0 + 1) h.2.2 pc i (by simpa using hi)
    rw [show p0 + (pc + 1) = p0 + 1 + pc by omega]
    exact h1
theorem ri_oks_at {own nm : String} {nL : Nat} : ∀ (t : List (Option ri_I)) (p0 : Nat), ri_oks cl G Nst Fd PC Yn Yr own nm nL p0 t → ∀ (pc : Nat) (i : ri_I), t[pc]? = some (some i) → ri_isW i.1 = true → ri_okS cl G Nst Fd PC own nm nL (p0 + pc) i ∧ ri_okC cl G Nst Yn Yr own i
  | [], p0, _, pc, i, hi, _ => by simp at hi
  | none :: t, p0, h, 0, i, hi, _ => by simp at hi
  | none :: t, p0, h, pc + 1, i, hi, hw => by
    have h1 := ri_oks_at t (p0 + 1) h pc i (by simpa using hi) hw
    rw [show p0 + (pc + 1) = p0 + 1 + pc by omega]
    exact h1
  | some j :: t, p0, h, 0, i, hi, hw => by
    have h2 : j = i := by simpa using hi
    subst h2
    unfold ri_oks at h
    rw [hw] at h
    exact h.1
  | some j :: t, p0, h, pc + 1, i, hi, hw => by
    unfold ri_oks at h
    have h3 : ri_oks cl G Nst Fd PC Yn Yr own nm nL (p0 + 1) t := by
      split at h
      · exact h.2
      · exact h
    have h1 := ri_oks_at t (p0 + 1) h3 pc i (by simpa using hi) hw
    rw [show p0 + (pc + 1) = p0 + 1 + pc by omega]
    exact h1
theorem ri_okT_of {own nm : String} {cc : ByteArray} {t : ri_T} (hd : ri_decB cc t.2.1 0 t.1 = true) (h : ri_oks cl G Nst Fd PC Yn Yr own nm t.2.1 0 t.1) : ri_okT cl G Nst Fd PC Yn Yr own nm cc t := fun pc i hi => by
  have h0 := ri_decB_at t.1 0 hd pc i hi
  rw [Nat.zero_add] at h0
  refine ⟨h0.1, ?_⟩
  cases hw : ri_isW i.1 with
  | false => exact ri_okS_of h0.2 hw
  | true =>
    have h1 := ri_oks_at t.1 0 h pc i hi hw
    rw [Nat.zero_add] at h1
    exact h1
theorem ri_oks_app {own nm : String} {nL : Nat} : ∀ (t u : List (Option ri_I)) (p0 : Nat), ri_oks cl G Nst Fd PC Yn Yr own nm nL p0 t → ri_oks cl G Nst Fd PC Yn Yr own nm nL (p0 + t.length) u → ri_oks cl G Nst Fd PC Yn Yr own nm nL p0 (t ++ u)
  | [], u, p0, _, h => by simpa using h
  | none :: t, u, p0, h1, h2 => ri_oks_app t u (p0 + 1) h1 (by rw [show p0 + 1 + t.length = p0 + (none :: t).length by simp; omega]; exact h2)
  | some i :: t, u, p0, h1, h2 => by
    have e1 : p0 + 1 + t.length = p0 + (some i :: t).length := by simp; omega
    show ri_oks cl G Nst Fd PC Yn Yr own nm nL p0 (some i :: (t ++ u))
    unfold ri_oks at h1 ⊢
    split at h1
    · rename_i hw
      exact ⟨h1.1, ri_oks_app t u (p0 + 1) h1.2 (by rw [e1]; exact h2)⟩
    · rename_i hw
      exact ri_oks_app t u (p0 + 1) h1 (by rw [e1]; exact h2)
end RIA
