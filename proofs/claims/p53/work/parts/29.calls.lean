-- CALLS of methods whose contracts change addresses
theorem sd_selP {C : String} {y z : MethodName} {s : State} {args : Array Value} (hz : (Cond.selects C z z).before args s = true) (hzi : (Cond.instanceMethod z).before args s = true) (hcls : z.cls = y.cls) (hy : y.cls ≠ "java/lang/invoke/MethodHandle" ∧ y.cls ≠ "java/lang/invoke/VarHandle") (hpriv : (Cond.privateMethod y).before args s = true) (hinst : (Cond.instanceMethod y).before args s = true) : (Cond.selects C y y).before args s = true := by
  obtain ⟨mk, methM, hnamed, hmethM, -, -⟩ := Cond.instanceMethod_spec hinst
  obtain ⟨mz, methZ, hnamedz, hmethZ, -, -⟩ := Cond.instanceMethod_spec hzi
  have hfound : s.methodFound? y.cls y.name y.desc = some mk := State.methodFound?_of_named hnamed hy
  have hfoundz : s.methodFound? z.cls z.name z.desc = some mz := State.methodFound?_of_named hnamedz (by rw [hcls]; exact hy)
  have hc : mk.cls = mz.cls := Option.some.inj ((findClass_of_methodNamed hnamed).symm.trans ((congrArg s.vm.findClass hcls.symm).trans (findClass_of_methodNamed hnamedz)))
  simp only [Cond.before, Cond.holds, Cond.value, hfoundz, hnamedz] at hz
  cases hC : s.vm.findClass C with
  | none => rw [hC] at hz; simp at hz
  | some c =>
    rw [hC] at hz
    dsimp only at hz
    have hsel : selectMethod {} s.vm c mk = .method mk := selectMethod_private hmethM (Cond.privateMethod_at hpriv mk methM hnamed hmethM)
    simp only [Cond.before, Cond.holds, Cond.value, hC, hfound, hnamed, hsel, hc]
    cases hsz : selectMethod {} s.vm c mz with
    | method m' =>
      rw [hsz] at hz
      simp only [beq_iff_eq, Option.some.injEq, Bool.and_eq_true, decide_eq_true_eq] at hz
      simp only [decide_true, Bool.true_and, beq_iff_eq, Option.some.injEq]
      exact hz.2
    | _ => rw [hsz] at hz; simp at hz
theorem sd_bornC {D : va_G} {cl : List vw_C} {H : Heap} {A : Nat → Prop} {E : si_Ev} {S : si_St} {k k0 q : Nat} (hf : sd_fr S k) (hkd : sd_kd k = 11) (hP : va_P D cl (si_ww E S ++ [(q, .inl (E.2.2.1 11, sd_ln S k0, .inl (S.2.1 k0)))]) H) (hD : va_D A (si_ww E S ++ [(q, .inl (E.2.2.1 11, sd_ln S k0, .inl (S.2.1 k0)))])) : va_P D cl (si_ww (sd_E1 E k q) (sd_mkC S k0 k)) H ∧ va_D A (si_ww (sd_E1 E k q) (sd_mkC S k0 k)) := by
  obtain ⟨f1, f2, f3, f4, f5⟩ := hf
  have hr : ∀ a, (sd_mkC S k0 k).2.2.2 a = (sd_mkA S k (sd_ln S k0)).2.2.2 a := fun _ => rfl
  refine sd_born f2 (fun a h151 ha => ?_) ?_ sd_E1_at (fun a haS hak => ⟨sd_E1_ne a hak, ?_⟩) hP hD
  · unfold sd_lv
    rw [hr, sd_mkA_ref ⟨f1, f2⟩ (by omega) (by omega) (by omega) (by omega)]
  · have hl : sd_ln (sd_mkC S k0 k) k = sd_ln S k0 := sd_mkA_ln
    rw [si_en, if_neg (by omega), sd_en_a (kd := 11) (by decide) hkd, hl]
    have : (sd_mkC S k0 k).2.1 k = S.2.1 k0 := by
      funext b
      show (if k = k then S.2.1 k0 b else _) = _
      rw [if_pos rfl]
    rw [this]
    rfl
  · have ha151 : a < 151 := by rcases sd_mem.mp haS with h | h <;> omega
    refine sd_en_keep f1 sd_E1_ne rfl ⟨f3, f4⟩ (fun ha hk j hj => sd_ow_fl f5 ha hk j hj) (fun _ => rfl) ?_ rfl ⟨(hr _).trans (sd_mkA_ref ⟨f1, f2⟩ (by omega) (by omega) (by omega) (by omega)), (hr _).trans (sd_mkA_ref ⟨f1, f2⟩ (by omega) (by omega) (by omega) (by omega))⟩ ((hr _).trans (sd_mkA_ref ⟨f1, f2⟩ (by omega) (by omega) (by omega) (by omega)))
    funext b
    show (if a = k then S.2.1 k0 b else S.2.1 a b) = S.2.1 a b
    rw [if_neg hak]
section SDC
variable {p : Program} {l : Launch} {e : Env} {R : Room} {s : State} {m : MethodId} {args : Array Value} {below : List Frame} {meth : Method} {c : Code} {H H0 : Heap} {locs : List Loc} {cells slots : Nat} {Q : State → Prop} {cc : ByteArray} {nL : Nat} {own : String} {E E0 : si_Ev} {A : Nat → Prop} {S S' S0 Sf : si_St} {pc : Nat} {ls : Array Slot} {rest : List Value} {AL AL0 : Nat → Bool}
abbrev sd_Rm (fr lo : Nat) (R : Room) (ny : Nat) : Prop := fr + 1 ≤ R.frames ∧ 8 + (ny + 11) + lo ≤ R.locals
theorem sd_callB {y : MethodName} {cy : ByteArray} {ny : Nat} {ret : Option FieldType} {fr lo index n : Nat} {S1 : si_St} (X : si_Cx p s m args c cc nL own E A) (h : si_C0 y cy ny ret n) (hl : Cond.methodLink own index y ∈ si_GW) (hR : sd_Rm fr lo R ny) : CallB R s args own index y cy ny ret (si_ws y cy ny ret) (sd_R fr lo S S1) (sd_ct S1 - sd_ct S) (sd_sl S1 - sd_sl S) n :=
  callB_of n X.2.2.2.2.1 (si_goodIn h.1) rfl rfl rfl (si_wd X h.2.1) (si_wd X hl) h.2.2 hR
theorem sd_runS {y : MethodName} {cy : ByteArray} {ny : Nat} {ret : Option FieldType} {fr lo index : Nat} {As : List Value} {n : Nat} {S1 : si_St} {Qc : Array Value → State → Outcome → State → Prop} (hc : si_CS y cy ny ret n) (hl : Cond.methodLink own index y ∈ si_GW) (X : si_Cx p s m args c cc nL own E A) (hw : si_Ws E A s.heap S H locs) (hA : ∀ q, s.heap.size ≤ q → A q) (hl9 : ls.size = nL) (hM : Met l y (si_ws y cy ny ret) (sd_R fr lo S S1) (va_Pc As (si_U E S H.size)) Qc (sd_ct S1 - sd_ct S) (sd_sl S1 - sd_sl S) (si_AA E S H.size)) (hR : sd_Rm fr lo R ny) (hn : As.length = n) (hrest : (rest.map fun v => v.category).sum ≤ 8) (hcs : cells + (sd_ct S1 - sd_ct S) ≤ R.cells ∧ slots + (sd_sl S1 - sd_sl S) ≤ R.slots) (hdg : decode cc pc = .ok (.invokestatic index, 3)) : va_Run p l e R s m args below meth c H locs cells slots (sd_ct S1 - sd_ct S) (sd_sl S1 - sd_sl S) (F0 m pc ls (As.reverse ++ rest)) rest (Qc As.toArray) (si_AA E S H.size) := by
  have X' := X
  obtain ⟨hx, hb, hml, hown, hts, hK, hSt⟩ := X'
  exact va_runS (As := As) (rest := rest) ⟨hx, hb, hml, hown, hts⟩ hM ⟨sd_callB X hc.1 hl hR, si_wd X hc.2⟩ ⟨si_blind, si_pre (sz := 0) X hw hA⟩ rfl hn hl9 rfl (lv_room hrest) hdg hcs
theorem sd_recv {kd : Nat} {C : String} {T : u_T} {N k : Nat} (X : si_Cx p s m args c cc nL own E A) (hw : si_Ws E A s.heap S H locs) (hcl : sd_Cl kd C T N) (hk : sd_kd k = kd) (hok : sd_ok S k) : ∃ cell : Cell, H[E.2.1 k]? = some cell ∧ cell.vm.isStatics = false ∧ s.vm.findClass C = some cell.cls := by
  obtain ⟨i, -, hi⟩ := sd_at (E := E) hok
  rw [sd_en_o hcl.1 hk] at hi
  exact va_recv X.2.2.2.2.2.1 hw.1 hcl.2.1 hi
theorem sd_runV {y : MethodName} {cy : ByteArray} {ny : Nat} {ret : Option FieldType} {fr lo index : Nat} {As : List Value} {kd : Nat} {C : String} {T : u_T} {N k n : Nat} {S1 : si_St} {Qc : Array Value → State → Outcome → State → Prop} (hcl : sd_Cl kd C T N) (hk : sd_kd k = kd) (hok : sd_ok S k) (hc : si_CV y cy ny ret n C) (hl : Cond.methodLink own index y ∈ si_GW) (X : si_Cx p s m args c cc nL own E A) (hw : si_Ws E A s.heap S H locs) (hA : ∀ q, s.heap.size ≤ q → A q) (hl9 : ls.size = nL) (hM : Met l y (si_ws y cy ny ret) (sd_R fr lo S S1) (va_Pc (.ref (E.2.1 k) :: As) (si_U E S H.size)) Qc (sd_ct S1 - sd_ct S) (sd_sl S1 - sd_sl S) (si_AA E S H.size)) (hR : sd_Rm fr lo R ny) (hn : As.length = n) (hrest : (rest.map fun v => v.category).sum ≤ 8) (hcs : cells + (sd_ct S1 - sd_ct S) ≤ R.cells ∧ slots + (sd_sl S1 - sd_sl S) ≤ R.slots) (hdg : decode cc pc = .ok (.invokevirtual index, 3)) : va_Run p l e R s m args below meth c H locs cells slots (sd_ct S1 - sd_ct S) (sd_sl S1 - sd_sl S) (F0 m pc ls (As.reverse ++ .ref (E.2.1 k) :: rest)) rest (Qc (Value.ref (E.2.1 k) :: As).toArray) (si_AA E S H.size) := by
  have X' := X
  obtain ⟨hx, hb, hml, hown, hts, hK, hSt⟩ := X'
  exact va_runV (As := As) (rest := rest) (C := C) ⟨hx, hb, hml, hown, hts⟩ hM ⟨sd_callB X hc.1 hl hR, si_wd X hc.2.1, si_wd X hc.2.2⟩ ⟨si_blind, sd_recv X hw hcl hk hok, si_pre (sz := 0) X hw hA⟩ rfl hn hl9 rfl (lv_room hrest) hdg hcs
theorem sd_runVS {y : MethodName} {cy : ByteArray} {ny : Nat} {ret : Option FieldType} {fr lo index g : Nat} {As : List Value} {n : Nat} {S1 : si_St} {Qc : Array Value → State → Outcome → State → Prop} (hg : g < 17) (hc : si_CV y cy ny ret n "java/lang/String") (hl : Cond.methodLink own index y ∈ si_GW) (X : si_Cx p s m args c cc nL own E A) (hw : si_Ws E A s.heap S H locs) (hA : ∀ q, s.heap.size ≤ q → A q) (hl9 : ls.size = nL) (hM : Met l y (si_ws y cy ny ret) (sd_R fr lo S S1) (va_Pc (.ref (E.2.2.2.1 g) :: As) (si_U E S H.size)) Qc (sd_ct S1 - sd_ct S) (sd_sl S1 - sd_sl S) (si_AA E S H.size)) (hR : sd_Rm fr lo R ny) (hn : As.length = n) (hrest : (rest.map fun v => v.category).sum ≤ 8) (hcs : cells + (sd_ct S1 - sd_ct S) ≤ R.cells ∧ slots + (sd_sl S1 - sd_sl S) ≤ R.slots) (hdg : decode cc pc = .ok (.invokevirtual index, 3)) : va_Run p l e R s m args below meth c H locs cells slots (sd_ct S1 - sd_ct S) (sd_sl S1 - sd_sl S) (F0 m pc ls (As.reverse ++ .ref (E.2.2.2.1 g) :: rest)) rest (Qc (Value.ref (E.2.2.2.1 g) :: As).toArray) (si_AA E S H.size) := by
  have X' := X
  obtain ⟨hx, hb, hml, hown, hts, hK, hSt⟩ := X'
  exact va_runV (As := As) (rest := rest) (C := "java/lang/String") ⟨hx, hb, hml, hown, hts⟩ hM ⟨sd_callB X hc.1 hl hR, si_wd X hc.2.1, si_wd X hc.2.2⟩ ⟨si_blind, vk_recv hSt.1 hg hw.2.2, si_pre (sz := 0) X hw hA⟩ rfl hn hl9 rfl (lv_room hrest) hdg hcs
theorem sd_ble {a b : Nat} (h : Nat.ble a b = true) : a ≤ b := Nat.le_of_ble_eq_true h
/-- what the tables have of a method that a superclass declares: its own words, and how it is found on an object of C -/
def sd_CU (y : MethodName) (cy : ByteArray) (ny : Nat) (ret : Option FieldType) (n : Nat) (x : MethodName) (cx : ByteArray) (nx : Nat) (retx : Option FieldType) (C : String) : Prop := si_C0 y cy ny ret n ∧ Cond.instanceMethod y ∈ si_GW ∧ Cond.sameMethod x.cls x.cls x.name x.desc ∈ si_GW ∧ Cond.instanceMethod x ∈ si_GW ∧ Cond.code x cx nx retx ∈ si_GW ∧ (x.cls ≠ "java/lang/invoke/MethodHandle" ∧ x.cls ≠ "java/lang/invoke/VarHandle" ∧ (parseMethodDescriptor x.desc).map (fun d => d.parameters.length) = some n) ∧ (Cond.selects C x y ∈ si_GW ∨ (x = y ∧ ∃ z : MethodName, z.cls = y.cls ∧ Cond.selects C z z ∈ si_GW ∧ Cond.instanceMethod z ∈ si_GW ∧ Cond.privateMethod y ∈ si_GW))
theorem sd_lenOf {x : MethodName} {n : Nat} (h : (parseMethodDescriptor x.desc).map (fun d => d.parameters.length) = some n) : ∀ sig, parseMethodDescriptor x.desc = some sig → n = sig.parameters.length := fun sig hs => by
  rw [hs] at h
  exact (Option.some.inj h).symm
theorem sd_runU {y x : MethodName} {cy cx : ByteArray} {ny nx : Nat} {ret retx : Option FieldType} {fr lo index : Nat} {As : List Value} {kd : Nat} {C : String} {T : u_T} {N k n : Nat} {S1 : si_St} {Qc : Array Value → State → Outcome → State → Prop} (hcl : sd_Cl kd C T N) (hk : sd_kd k = kd) (hok : sd_ok S k) (hc : sd_CU y cy ny ret n x cx nx retx C) (hl : Cond.methodLink own index x ∈ si_GW) (X : si_Cx p s m args c cc nL own E A) (hw : si_Ws E A s.heap S H locs) (hA : ∀ q, s.heap.size ≤ q → A q) (hl9 : ls.size = nL) (hM : Met l y (si_ws y cy ny ret) (sd_R fr lo S S1) (va_Pc (.ref (E.2.1 k) :: As) (si_U E S H.size)) Qc (sd_ct S1 - sd_ct S) (sd_sl S1 - sd_sl S) (si_AA E S H.size)) (hR : sd_Rm fr lo R ny) (hn : As.length = n) (hrest : (rest.map fun v => v.category).sum ≤ 8) (hcs : cells + (sd_ct S1 - sd_ct S) ≤ R.cells ∧ slots + (sd_sl S1 - sd_sl S) ≤ R.slots) (hdg : decode cc pc = .ok (.invokevirtual index, 3)) : va_Run p l e R s m args below meth c H locs cells slots (sd_ct S1 - sd_ct S) (sd_sl S1 - sd_sl S) (F0 m pc ls (As.reverse ++ .ref (E.2.1 k) :: rest)) rest (Qc (Value.ref (E.2.1 k) :: As).toArray) (si_AA E S H.size) := by
  have X' := X
  obtain ⟨hx, hb, hml, hown, hts, hK, hSt⟩ := X'
  obtain ⟨h0, hi, hsame, hix, hcx, hdx, hsel⟩ := hc
  have hselC : (Cond.selects C x y).before args s = true := by
    rcases hsel with h | ⟨rfl, z, hz1, hz2, hz3, hz4⟩
    · exact si_wd X h
    · exact sd_selP (si_wd X hz2) (si_wd X hz3) hz1 ⟨hdx.1, hdx.2.1⟩ (si_wd X hz4) (si_wd X hi)
  refine va_runU (As := As) (rest := rest) (C := C) (owner := x.cls) ⟨hx, hb, hml, hown, hts⟩ hM ⟨⟨rfl, rfl, hR.1, hR.2, pay_in hts (si_goodIn h0.1), List.mem_cons_self⟩, si_wd X h0.1, si_wd X h0.2.1, ⟨hdx.1, hdx.2.1⟩, sd_lenOf hdx.2.2, si_wd X hl, si_wd X hsame, va_Decl.of (si_wd X hix) (si_wd X hcx), hselC, si_wd X hi⟩ ⟨si_blind, sd_recv X hw hcl hk hok, si_pre (sz := 0) X hw hA⟩ rfl hn hl9 rfl (lv_room hrest) hdg hcs
def sd_CSU (y : MethodName) (cy : ByteArray) (ny : Nat) (ret : Option FieldType) (n : Nat) (own : String) : Prop := si_C0 y cy ny ret n ∧ Cond.instanceMethod y ∈ si_GW ∧ Cond.sameMethod y.cls y.cls y.name y.desc ∈ si_GW ∧ Cond.superclass own y.cls ∈ si_GW ∧ y.name ≠ "<init>"
theorem sd_runSU {y : MethodName} {cy : ByteArray} {ny : Nat} {ret : Option FieldType} {fr lo index : Nat} {As : List Value} {kd : Nat} {C : String} {T : u_T} {N k n : Nat} {S1 : si_St} {Qc : Array Value → State → Outcome → State → Prop} (hcl : sd_Cl kd C T N) (hk : sd_kd k = kd) (hok : sd_ok S k) (hc : sd_CSU y cy ny ret n own) (hl : Cond.methodLink own index y ∈ si_GW) (X : si_Cx p s m args c cc nL own E A) (hw : si_Ws E A s.heap S H locs) (hA : ∀ q, s.heap.size ≤ q → A q) (hl9 : ls.size = nL) (hM : Met l y (si_ws y cy ny ret) (sd_R fr lo S S1) (va_Pc (.ref (E.2.1 k) :: As) (si_U E S H.size)) Qc (sd_ct S1 - sd_ct S) (sd_sl S1 - sd_sl S) (si_AA E S H.size)) (hR : sd_Rm fr lo R ny) (hn : As.length = n) (hrest : (rest.map fun v => v.category).sum ≤ 8) (hcs : cells + (sd_ct S1 - sd_ct S) ≤ R.cells ∧ slots + (sd_sl S1 - sd_sl S) ≤ R.slots) (hdg : decode cc pc = .ok (.invokespecial index, 3)) : va_Run p l e R s m args below meth c H locs cells slots (sd_ct S1 - sd_ct S) (sd_sl S1 - sd_sl S) (F0 m pc ls (As.reverse ++ .ref (E.2.1 k) :: rest)) rest (Qc (Value.ref (E.2.1 k) :: As).toArray) (si_AA E S H.size) := by
  have X' := X
  obtain ⟨hx, hb, hml, hown, hts, hK, hSt⟩ := X'
  obtain ⟨h0, hi, hsame, hsup, hne⟩ := hc
  exact va_runSU (As := As) (rest := rest) (C := C) (hK.1 _ _ hcl.2.1).2 ⟨hx, hb, hml, hown, hts⟩ hM ⟨⟨rfl, rfl, hR.1, hR.2, pay_in hts (si_goodIn h0.1), List.mem_cons_self⟩, si_wd X hl, si_wd X hsame, si_wd X hsup, si_wd X hi, si_wd X h0.2.1, si_wd X h0.1, hne, sd_lenOf h0.2.2.2.2⟩ ⟨si_blind, sd_recv X hw hcl hk hok, si_pre (sz := 0) X hw hA⟩ rfl hn hl9 rfl (lv_room hrest) hdg hcs
theorem sd_runI {y : MethodName} {cy : ByteArray} {ny : Nat} {fr lo index : Nat} {As : List Value} {k n : Nat} {S1 : si_St} {Qc : Array Value → State → Outcome → State → Prop} (hc : si_C0 y cy ny none n) (hins : Cond.instanceMethod y ∈ si_GW) (hyn : y.name = "<init>") (hl : Cond.methodLink own index y ∈ si_GW) (X : si_Cx p s m args c cc nL own E A) (hw : si_Ws E A s.heap S H locs) (hA : ∀ q, s.heap.size ≤ q → A q) (hl9 : ls.size = nL) (hM : Met l y (si_ws y cy ny none) (sd_R fr lo S S1) (va_Pc (.ref (E.2.1 k) :: As) (si_U E S H.size)) Qc (sd_ct S1 - sd_ct S) (sd_sl S1 - sd_sl S) (si_AA E S H.size)) (hR : sd_Rm fr lo R ny) (hn : As.length = n) (hrest : (rest.map fun v => v.category).sum ≤ 8) (hcs : cells + (sd_ct S1 - sd_ct S) ≤ R.cells ∧ slots + (sd_sl S1 - sd_sl S) ≤ R.slots) (hdg : decode cc pc = .ok (.invokespecial index, 3)) : va_Run p l e R s m args below meth c H locs cells slots (sd_ct S1 - sd_ct S) (sd_sl S1 - sd_sl S) (F0 m pc ls (As.reverse ++ .ref (E.2.1 k) :: rest)) rest (Qc (Value.ref (E.2.1 k) :: As).toArray) (si_AA E S H.size) := by
  have X' := X
  obtain ⟨hx, hb, hml, hown, hts, hK, hSt⟩ := X'
  exact va_runI (As := As) (rest := rest) ⟨hx, hb, hml, hown, hts⟩ hM ⟨sd_callB X hc hl hR, hyn, si_wd X hins⟩ ⟨si_blind, si_pre (sz := 0) X hw hA⟩ rfl hn hl9 rfl (lv_room hrest) hdg hcs
theorem sd_runIN {y : MethodName} {cy : ByteArray} {ny : Nat} {fr lo index : Nat} {host : String} {As : List Value} {k n : Nat} {S1 : si_St} {Qc : Array Value → State → Outcome → State → Prop} (hc : si_C0 y cy ny none n) (hins : Cond.instanceMethod y ∈ si_GW) (hyn : y.name = "<init>") (hl : Cond.methodLinkNest own index y host ∈ si_NW) (X : si_Cx p s m args c cc nL own E A) (hw : si_Ws E A s.heap S H locs) (hA : ∀ q, s.heap.size ≤ q → A q) (hl9 : ls.size = nL) (hM : Met l y (si_ws y cy ny none) (sd_R fr lo S S1) (va_Pc (.ref (E.2.1 k) :: As) (si_U E S H.size)) Qc (sd_ct S1 - sd_ct S) (sd_sl S1 - sd_sl S) (si_AA E S H.size)) (hR : sd_Rm fr lo R ny) (hn : As.length = n) (hrest : (rest.map fun v => v.category).sum ≤ 8) (hcs : cells + (sd_ct S1 - sd_ct S) ≤ R.cells ∧ slots + (sd_sl S1 - sd_sl S) ≤ R.slots) (hdg : decode cc pc = .ok (.invokespecial index, 3)) : va_Run p l e R s m args below meth c H locs cells slots (sd_ct S1 - sd_ct S) (sd_sl S1 - sd_sl S) (F0 m pc ls (As.reverse ++ .ref (E.2.1 k) :: rest)) rest (Qc (Value.ref (E.2.1 k) :: As).toArray) (si_AA E S H.size) := by
  have X' := X
  obtain ⟨hx, hb, hml, hown, hts, hK, hSt⟩ := X'
  exact va_runIN (As := As) (rest := rest) (host := host) ⟨hx, hb, hml, hown, hts⟩ hM ⟨va_cnB n hts (si_goodIn hc.1) rfl rfl rfl (hSt.2.2.2.choose_spec.2.2.1 _ hl) (si_wd X hc.2.1) hc.2.2 hR, hyn, si_wd X hins⟩ ⟨si_blind, si_pre (sz := 0) X hw hA⟩ rfl hn hl9 rfl (lv_room hrest) hdg hcs
-- behind a call
theorem sd_goi {o : Int32 × si_St} {st : List Value} {a : Array Value} (hr : va_Run p l e R s m args below meth c H locs cells slots (sd_ct o.2 - sd_ct S) (sd_sl o.2 - sd_sl S) (F0 m pc ls st) rest (va_Qi (fun r2 (_ : si_Ev) => r2 = o.1) (fun E' t => sd_B AL E S (si_AA E S H.size) E' o.2 t) (si_AA E S H.size) a) (si_AA E S H.size)) (X : si_Cx p s m args c cc nL own E A) (hw : si_Ws E A s.heap S H locs) (hA : ∀ q, s.heap.size ≤ q → A q) (hE : sd_EE AL0 E0 E) (hc : sd_Ct S0 S cells slots) (hle : sd_le S o.2) (hal : ∀ k, AL0 k = false → AL k = false) (kk : ∀ (E1 : si_Ev) (H1 : Heap) (locs1 : List Loc) (cs ss : Nat), sd_EE AL E E1 → sd_EE AL0 E0 E1 → si_Cx p s m args c cc nL own E1 A → si_Ws E1 A s.heap o.2 H1 locs1 → sd_Ct S0 o.2 cs ss → W p l e R s m args below meth c H1 locs1 cs ss Q (F0 m (pc + 3) ls (.int o.1 :: rest))) : W p l e R s m args below meth c H locs cells slots Q (F0 m pc ls st) := by
  have hF := si_AA_of hw hA
  refine va_calli hr hw.2.2 (fun q _ h => hF q h) hF (fun r2 u t H1 locs1 ht hvm hpost hB hz1 hk1 hS => ?_)
  subst hpost
  obtain ⟨h1, -, hP1, -, hD1⟩ := hB
  rw [ht] at hP1
  exact kk u H1 locs1 _ _ h1 (hE.tr hal h1) (sd_X h1 X) ⟨hP1, hD1.weaken (fun _ _ _ h => hF _ h), hS⟩ (hc.went hle)
theorem sd_gov {o : si_St} {st : List Value} {a : Array Value} (hr : va_Run p l e R s m args below meth c H locs cells slots (sd_ct o - sd_ct S) (sd_sl o - sd_sl S) (F0 m pc ls st) rest (va_Qv (fun (_ : si_Ev) => True) (fun E' t => sd_B AL E S (si_AA E S H.size) E' o t) (si_AA E S H.size) a) (si_AA E S H.size)) (X : si_Cx p s m args c cc nL own E A) (hw : si_Ws E A s.heap S H locs) (hA : ∀ q, s.heap.size ≤ q → A q) (hE : sd_EE AL0 E0 E) (hc : sd_Ct S0 S cells slots) (hle : sd_le S o) (hal : ∀ k, AL0 k = false → AL k = false) (kk : ∀ (E1 : si_Ev) (H1 : Heap) (locs1 : List Loc) (cs ss : Nat), sd_EE AL E E1 → sd_EE AL0 E0 E1 → si_Cx p s m args c cc nL own E1 A → si_Ws E1 A s.heap o H1 locs1 → sd_Ct S0 o cs ss → W p l e R s m args below meth c H1 locs1 cs ss Q (F0 m (pc + 3) ls rest)) : W p l e R s m args below meth c H locs cells slots Q (F0 m pc ls st) := by
  have hF := si_AA_of hw hA
  refine va_callv hr hw.2.2 (fun q _ h => hF q h) hF (fun u t H1 locs1 ht hvm hpost hB hz1 hk1 hS => ?_)
  obtain ⟨h1, -, hP1, -, hD1⟩ := hB
  rw [ht] at hP1
  exact kk u H1 locs1 _ _ h1 (hE.tr hal h1) (sd_X h1 X) ⟨hP1, hD1.weaken (fun _ _ _ h => hF _ h), hS⟩ (hc.went hle)
theorem sd_gor {o : si_St} {tr : Nat} {st : List Value} {a : Array Value} (hr : va_Run p l e R s m args below meth c H locs cells slots (sd_ct o - sd_ct S) (sd_sl o - sd_sl S) (F0 m pc ls st) rest (va_Qr (fun (_ : si_Ev) => True) (fun E' b t => b = E'.2.1 tr ∧ sd_B AL E S (si_AA E S H.size) E' o t) (si_AA E S H.size) a) (si_AA E S H.size)) (X : si_Cx p s m args c cc nL own E A) (hw : si_Ws E A s.heap S H locs) (hA : ∀ q, s.heap.size ≤ q → A q) (hE : sd_EE AL0 E0 E) (hc : sd_Ct S0 S cells slots) (hle : sd_le S o) (hal : ∀ k, AL0 k = false → AL k = false) (kk : ∀ (E1 : si_Ev) (H1 : Heap) (locs1 : List Loc) (cs ss : Nat), sd_EE AL E E1 → sd_EE AL0 E0 E1 → si_Cx p s m args c cc nL own E1 A → si_Ws E1 A s.heap o H1 locs1 → sd_Ct S0 o cs ss → W p l e R s m args below meth c H1 locs1 cs ss Q (F0 m (pc + 3) ls (.ref (E1.2.1 tr) :: rest))) : W p l e R s m args below meth c H locs cells slots Q (F0 m pc ls st) := by
  have hF := si_AA_of hw hA
  refine va_callr hr hw.2.2 (fun q _ h => hF q h) hF (fun u b t H1 locs1 ht hvm hpost hB hz1 hk1 hS => ?_)
  obtain ⟨rfl, h1, -, hP1, -, hD1⟩ := hB
  rw [ht] at hP1
  exact kk u H1 locs1 _ _ h1 (hE.tr hal h1) (sd_X h1 X) ⟨hP1, hD1.weaken (fun _ _ _ h => hF _ h), hS⟩ (hc.went hle)
theorem sd_objI {index k : Nat} (X : si_Cx p s m args c cc nL own E A) (hl9 : ls.size = nL) (hl : Cond.methodLink own index objectInit ∈ si_GW) (hi : Cond.instanceMethod objectInit ∈ si_GW) (hc : Cond.code objectInit ⟨#[0xb1]⟩ 1 none ∈ si_GW) (hf : 1 ≤ R.frames) (hlo : 12 ≤ R.locals) (hdg : decode cc pc = .ok (.invokespecial index, 3)) (kk : W p l e R s m args below meth c H locs cells slots Q (F0 m (pc + 3) ls [])) : W p l e R s m args below meth c H locs cells slots Q (F0 m pc ls [.ref (E.2.1 k)]) :=
  W.objInit X.1 X.2.1 X.2.2.2.1 (X.2.2.2.2.1 _ hl) (X.2.2.2.2.1 _ hi) (X.2.2.2.2.1 _ hc) rfl (hl9.trans X.2.2.1.symm) rfl hdg hf (by show 2 * 0 + 0 + 12 ≤ R.locals; omega) kk
-- a copy of all bytes of a role (clone)
theorem sd_clone {index k0 k : Nat} {S1 : si_St} (hl9 : ls.size = nL) (X : si_Cx p s m args c cc nL own E A) (hw : si_Ws E A s.heap S H locs) (hA : ∀ q, s.heap.size ≤ q → A q) (hE : sd_EE AL E0 E) (hc : sd_Ct S0 S cells slots) (hR : sd_RR R S0 Sf) (hk0 : sd_kd k0 = 11) (hk : sd_kd k = 11) (hal : AL k = true) (h : sd_cn S k0 k = some S1) (hm : sd_le S1 Sf) (hlk : Cond.methodLink own index ⟨"[B", "clone", "()Ljava/lang/Object;"⟩ ∈ si_GW) (hsame : Cond.sameMethod "[B" "java/lang/Object" "clone" "()Ljava/lang/Object;" ∈ si_GW) (hnat : Cond.native ⟨"java/lang/Object", "clone", "()Ljava/lang/Object;"⟩ ∈ si_GW) (hinst : Cond.instanceMethod ⟨"java/lang/Object", "clone", "()Ljava/lang/Object;"⟩ ∈ si_GW) (hsel : Cond.selects "[B" ⟨"[B", "clone", "()Ljava/lang/Object;"⟩ ⟨"java/lang/Object", "clone", "()Ljava/lang/Object;"⟩ ∈ si_GW) (hf1 : 1 ≤ R.frames) (hlo : (rest.map fun v => v.category).sum + 14 ≤ R.locals) (hdg : decode cc pc = .ok (.invokevirtual index, 3)) (kk : ∀ (E1 : si_Ev) (H1 : Heap) (cs ss : Nat), sd_EE (sd_one k) E E1 → sd_EE AL E0 E1 → si_Cx p s m args c cc nL own E1 A → si_Ws E1 A s.heap S1 H1 locs → sd_Ct S0 S1 cs ss → W p l e R s m args below meth c H1 locs cs ss Q (F0 m (pc + 3) ls (.ref (E1.2.1 k) :: rest))) : W p l e R s m args below meth c H locs cells slots Q (F0 m pc ls (.ref (E.2.1 k0) :: rest)) := by
  have h9 := h
  obtain ⟨⟨ok0, hne, hf, hmax, hfit⟩, rfl⟩ := sd_if h
  have hfr := sd_frb_of hf
  have hct := sd_mkA_ct (S := S) (n := sd_ln S k0) hfr.2.1
  have hr2 := sd_room2 hc (sd_cn_m h9) hm hR
  unfold sd_ct sd_sl at hr2
  rw [show (sd_mkC S k0 k).2.2.2 = (sd_mkA S k (sd_ln S k0)).2.2.2 from rfl, hct.1, hct.2] at hr2
  have e1 : S.2.2.2 9000 + 1 - S.2.2.2 9000 = 1 := by omega
  have e2 : S.2.2.2 9001 + sd_ln S k0 - S.2.2.2 9001 = sd_ln S k0 := by omega
  rw [e1, e2] at hr2
  obtain ⟨q0, -, hq0⟩ := sd_arr (E := E) ok0 hk0 (by decide)
  have hfc : s.vm.findClass "[B" = some (E.2.2.1 11) := sd_ra (i := 0) (ty := .byte) X rfl (fun C h => by cases h)
  refine va_clone (D := E.1) (ad := "[B") (cl := vwCl) (tys := si_tys E) (ty := .byte) X.1 X.2.1 (X.2.2.1.trans hl9.symm) X.2.2.2.1 (si_wd X hlk) (si_wd X hsame) (si_wd X hnat) (si_wd X hinst) (si_wd X hsel) X.2.2.2.2.2.2.2.2.2.choose_spec.2.2.2.1 X.2.2.2.2.2.1 hw.1 hw.2.1 hw.2.2 hA q0 0 hq0 rfl hfc (fun i v hv => ?_) hf1 hlo hr2.1 hr2.2 hdg (fun q H1 hK1 hP1 hD1 hS1 => ?_)
  · have hil : i < sd_ln S k0 := by
      have h8 := (Array.getElem?_eq_some_iff.mp hv).1
      rw [vp_cell_i, arrV_size] at h8
      exact h8
    rw [vp_cell_i, arrV_read _ _ hil] at hv
    have h7 := sd_fit_of hfit i hil
    rw [Nat.zero_add] at h7
    rw [← Option.some.inj hv]
    exact h7
  · obtain ⟨g1, g2⟩ := sd_bornC hfr hk hP1 hD1
    have hEk : (sd_E1 E k q).2.1 k = q := sd_E1_at
    rw [← hEk]
    exact kk _ H1 _ _ sd_E1_EE (hE.tr (sd_one_of hal) sd_E1_EE) (sd_X (sd_E1_EE (k := k) (q := q)) X) ⟨g1, g2, hS1⟩ (hc.newA hfr.2.1)
theorem sd_castB {index k : Nat} (X : si_Cx p s m args c cc nL own E A) (hw : si_Ws E A s.heap S H locs) (hk : sd_kd k = 11) (hok : sd_ok S k) (hlk : Cond.classLink own index "[B" ∈ si_GW) (hdg : decode cc pc = .ok (.checkcast index, 3)) (kk : W p l e R s m args below meth c H locs cells slots Q (F0 m (pc + 3) ls (.ref (E.2.1 k) :: rest))) : W p l e R s m args below meth c H locs cells slots Q (F0 m pc ls (.ref (E.2.1 k) :: rest)) := by
  obtain ⟨q, -, hq⟩ := sd_arr (E := E) hok hk (by decide)
  exact va_castA X.1 X.2.1 X.2.2.2.1 (si_wd X hlk) hw.1 q hq (sd_ra (i := 0) (ty := .byte) X rfl (fun C h => by cases h)) hdg kk
end SDC
