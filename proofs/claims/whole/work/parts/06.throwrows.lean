-- THROWS: what a method that may throw keeps; its sites; its calls with handlers
def si_xn (k : Int32) : String := if k = 1 then "java/lang/IndexOutOfBoundsException" else if k = 2 then "java/lang/IllegalArgumentException" else "java/lang/IllegalStateException"
def si_chain : List String := ["java/lang/RuntimeException", "java/lang/Exception"]
theorem si_chain_fit : ∀ n ∈ si_chain, Bundle.fit n = true := by decide +kernel
def si_XC (E : si_Ev) (sz : Nat) (o : Int32 × Int32 × si_St) : String → State → State → Prop := vx_X (fun (_ : Unit) => ¬ o.1 = 0) (fun nm _ t => nm = si_xn o.1 ∧ si_B E o.2.2 t) (si_AA E sz)
def si_Mx (l : Launch) (E : si_Ev) (y : MethodName) (cc : ByteArray) (nL : Nat) (ret : Option FieldType) (rm : Room) (As : List Value) (S : si_St) (o : Int32 × Int32 × si_St) : Prop :=
  ∀ sz, vx_Met l y (si_ws y cc nL ret) rm (va_Pc As (si_U E S sz)) (va_Qi (fun r2 (_ : Unit) => o.1 = 0 ∧ r2 = o.2.1) (fun _ t => si_B E o.2.2 t) (si_AA E sz)) (si_XC E sz o) 1 6 (si_AA E sz)
def si_Ts (cc : ByteArray) (own : String) (pc : Nat) (k : Int32) (text : String) (ik is ic tx : Nat) : Prop :=
  (decode cc pc = .ok (.new ik, 3) ∧ decode cc (pc + 3) = .ok (.dup, 1) ∧ decode cc (pc + 4) = .ok (.ldc is, 2) ∧ decode cc (pc + 6) = .ok (.invokespecial ic, 3) ∧ decode cc (pc + 9) = .ok (.athrow, 1)) ∧ Bundle.fit (si_xn k) = true ∧ Cond.classLink own ik (si_xn k) ∈ si_GW ∧ Cond.initialized (si_xn k) ∈ si_GW ∧ (own, is, text, tx) ∈ si_srefs ∧ (∀ w ∈ (vx_atS own ic (si_xn k) si_chain).filter goodWord, w ∈ si_GW) ∧ (∀ w ∈ (vx_atS own ic (si_xn k) si_chain).filter (fun w => !goodWord w), w ∈ si_XB) ∧ ∀ w ∈ Cond.classLink own ik (si_xn k) :: Cond.initialized (si_xn k) :: vx_atS own ic (si_xn k) si_chain, vx_ot w = true
section SIRX
variable {p : Program} {l : Launch} {e : Env} {R : Room} {s : State} {m : MethodId} {args : Array Value} {below : List Frame} {meth : Method} {c : Code} {H H0 : Heap} {locs : List Loc} {cells slots : Nat} {Q : State → Prop} {cc : ByteArray} {nL : Nat} {own : String} {E : si_Ev} {A : Nat → Prop} {S S' : si_St} {pc : Nat} {ls : Array Slot} {rest : List Value}
theorem si_word0 {w : Cond} (hw : w ∈ si_XB) (h : va_Nw w s) : w.before args s = true := va_tabs (by
  simp only [si_XB, List.mem_cons, List.not_mem_nil, or_false] at hw
  rcases hw with rfl | rfl | rfl | rfl | rfl | rfl | rfl | rfl | rfl <;> rfl) rfl h
theorem si_ofWx {y : MethodName} {ret : FieldType} {rm : Room} {As : List Value} {o : Int32 × Int32 × si_St} (hl0 : l.stackTraces = false) (hy : plainName y.cls = true) (hn : (lg_sl As).length ≤ nL) (hrm : 6 ≤ rm.frames ∧ 90 ≤ rm.locals ∧ rm.cells = 1 ∧ rm.slots = 6)
    (body : ∀ p e s m args below meth c ls Q A, si_Cx p s m args c cc nL y.cls E A → si_Ws E A s.heap S s.heap [] → (∀ q, s.heap.size ≤ q → A q) → lv_has ls nL (lv_args 0 As) → (∀ (r0 : Int32) (S0 : si_St) (H : Heap) (locs : List Loc) (pc : Nat) (ls : Array Slot), some ((0 : Int32), r0, S0) = some o → narrow ret (.int r0) = .int r0 → si_Ws E A s.heap S0 H locs → decode cc pc = .ok (.ireturn, 1) → W p l e rm s m args below meth c H locs 0 0 Q (F0 m pc ls [.int r0])) →
      (∀ (k : Int32) (S0 : si_St) (H : Heap) (locs : List Loc) (pc : Nat) (ls : Array Slot) (rest : List Value) (text : String) (ik is ic tx : Nat), some (k, (0 : Int32), S0) = some o → ¬ k = 0 → si_Ts cc y.cls pc k text ik is ic tx → si_Ws E A s.heap S0 H locs → ls.size = nL → (rest.map fun v => v.category).sum ≤ 8 → W p l e rm s m args below meth c H locs 0 0 Q (F0 m pc ls rest)) → W p l e rm s m args below meth c s.heap [] 0 0 Q (F0 m 0 ls [])) : si_Mx l E y cc nL (some ret) rm As S o := by
  intro sz
  refine vx_ofW (cc := cc) (maxL := nL) (ret := some ret) hy rfl ?_
  intro p e s m args below meth c s₁ B hml htab hv
  obtain ⟨rfl, hsz, hP, hK, hD0, hSt⟩ := hv
  have hts := atoms_spec (ws := si_ws y cc nL (some ret)) B.pre
  have hown : s.vm.findClass y.cls = some m.cls := findClass_of_methodNamed B.named
  have hlocks := B.notSynchronized
  subst hsz
  rw [lg_entry_eq]
  have X : si_Cx p s m As.toArray c cc nL y.cls E (si_AA E s.heap.size) := ⟨B.exec, B.bytes, hml, hown, fun w h => hts w (List.mem_cons_of_mem _ h), hK, hSt⟩
  refine body p e s m As.toArray below meth c _ _ (si_AA E s.heap.size) X ⟨hP, si_D_self hD0, va_S.rf⟩ (fun q h => Or.inr h) (lv_entry As hn) ?_ ?_
  · intro r0 S0 H locs pc ls h hnr hw hdg
    obtain rfl := Option.some.inj h
    refine W.widen (k := 1) (n := 6) (by omega) (by omega) ?_
    exact vx_ret (W.zret (v := r0) X.1 X.2.1 B.returns hnr (fun t ht hW => ⟨⟨r0, (), rfl, ⟨rfl, rfl⟩, by rw [ht]; exact hw.1, va_K.moved hW.alike X.2.2.2.2.2.1⟩, hw.2.2.F ht⟩) hw.2.2.2.2 hdg)
  · intro k S0 H locs pc ls rest text ik is ic tx h hk hT hw hl9 hrest
    obtain rfl := Option.some.inj h
    obtain ⟨⟨d0, d3, d4, d6, d9⟩, f1, f2, f3, f4, f5, f6, f7⟩ := hT
    obtain ⟨z, -, -, gB, -, -, gU, gN⟩ := X.2.2.2.2.2.2.2.2.2
    refine vx_throwS (names := si_chain) (free := si_AA E s.heap.size) X.1 X.2.1 hl0 X.2.2.2.1 f1 si_chain_fit (si_wd X f2) (si_wd X f3) (X.2.2.2.2.2.2.2.1 _ f4) (vx_hat (fun w hw => si_wd X (f5 w hw)) f6 (fun w hw => si_word0 hw (gB w hw))) f7 gU gN hw.2.2 (hl9.trans X.2.2.1.symm) d0 d3 d4 d6 d9 (fun x hx => (htab x hx).elim) (by show 2 + 3 < rm.frames; omega) (by show _ + (13 * (2 + 1) + 43) ≤ rm.locals; omega) (by show 0 + 1 ≤ rm.cells; omega) (by show 0 + 6 ≤ rm.slots; omega) hlocks (fun t ha hz hq => ?_) hw.2.2.2.2 (by omega) (by omega)
    refine ⟨(), hk, ⟨rfl, hw.1.kept (fun i q hi => hq q.1 (hw.1 i q hi).lt), va_K.moved ha X.2.2.2.2.2.1⟩, Nat.le_trans hw.2.2.1 hz, fun q h1 h2 => ?_⟩
    rw [hq q (Nat.lt_of_lt_of_le h1 hw.2.2.1)]
    exact hw.2.2.2.1 q h1 h2
def si_Rx (rm R : Room) (ny : Nat) : Prop := (rm.cells = 1 ∧ rm.slots = 6) ∧ rm.frames + 1 ≤ R.frames ∧ 8 + (ny + 11) + rm.locals ≤ R.locals
theorem si_cVx {y : MethodName} {cy : ByteArray} {ny : Nat} {ret : Option FieldType} {rm : Room} {index : Nat} (As : List Value) {k ci : Nat} {C : String} {T : u_T} {N n : Nat} {o : Int32 × Int32 × si_St} {st : List Value} (hc : si_CV y cy ny ret n C) (hl : Cond.methodLink own index y ∈ si_GW) (X : si_Cx p s m args c cc nL own E A) (hw : si_Ws E A s.heap S H locs) (hA : ∀ q, s.heap.size ≤ q → A q) (hl9 : ls.size = nL) (hM : si_Mx l E y cy ny ret rm (.ref (E.2.1 k) :: As) S o) (hcl : si_Cl ci C T N) (hk : si_kd k = ci) (hR : si_Rx rm R ny) (hn : As.length = n) (hst : st = As.reverse ++ .ref (E.2.1 k) :: rest) (hrest : (rest.map fun v => v.category).sum ≤ 8) (hcs : cells + 1 ≤ R.cells ∧ slots + 6 ≤ R.slots) (hdg : decode cc pc = .ok (.invokevirtual index, 3))
    (kx : ¬ o.1 = 0 → ∀ (H1 : Heap) (locs1 : List Loc) (q : Addr) (ce : Cell), si_Ws E A s.heap o.2.2 H1 locs1 → H1[q]? = some ce → ce.vm = .none → s.vm.findClass (si_xn o.1) = some ce.cls → vx_W p l e R s m args below meth c H1 locs1 (cells + 1) (slots + 6) Q (F0 m pc ls rest) q)
    (kk : o.1 = 0 → ∀ (H1 : Heap) (locs1 : List Loc), si_Ws E A s.heap o.2.2 H1 locs1 → W p l e R s m args below meth c H1 locs1 (cells + 1) (slots + 6) Q (F0 m (pc + 3) ls (.int o.2.1 :: rest))) : W p l e R s m args below meth c H locs cells slots Q (F0 m pc ls st) := by
  subst hst
  have hF := si_AA_of hw hA
  have hkl : k < 114 := si_kd_lt hk (by have := hcl.1; omega)
  have he : (si_ww E S)[k]? = some (E.2.1 k, .inr (ci, si_fs E S k 0 (si_fl ci))) := by rw [si_ww_at hkl, si_en_obj hcl.1 hk]
  have X' := X
  obtain ⟨hx, hb, hml, hown, hts, hK, hSt⟩ := X'
  refine vx_calli (vx_runV (As := As) (rest := rest) (C := C) ⟨hx, hb, hml, hown, hts⟩ (hM H.size) ⟨callB_of n X.2.2.2.2.1 (si_goodIn hc.1.1) rfl hR.1.1 hR.1.2 (si_wd X hc.1.2.1) (si_wd X hl) hc.1.2.2 hR.2, si_wd X hc.2.1, si_wd X hc.2.2⟩ ⟨si_blind, va_recv hK hw.1 hcl.2.1 he, si_pre (sz := 0) X hw hA⟩ rfl hn hl9 rfl (lv_room hrest) hdg hcs) hw.2.2 (fun q _ h => hF q h) hF (fun q _ h => hF q h) (fun nm ce q9 u t H1 locs1 ht hvm hpx hB hz1 hk1 hS hce hcv hcl9 => ?_) (fun r2 u t H1 locs1 ht hvm hpost hB hz1 hk1 hS => ?_)
  · obtain ⟨rfl, hP1, -⟩ := hB
    rw [ht] at hP1
    exact kx hpx H1 locs1 q9 ce ⟨hP1, si_va_D hw.2.1, hS⟩ hce hcv hcl9
  · obtain ⟨h0, rfl⟩ := hpost
    obtain ⟨hP1, -⟩ := hB
    rw [ht] at hP1
    exact kk h0 H1 locs1 ⟨hP1, si_va_D hw.2.1, hS⟩
-- the law's own methods: a table of handlers, one cell at most
abbrev si_wsW (y : MethodName) (cc : ByteArray) (n : Nat) (hh : List (Nat × Nat × Nat × Nat)) : List Cond := .codeWith y cc n (some .int) hh :: si_GW
def si_M1 (l : Launch) (E : si_Ev) (y : MethodName) (cc : ByteArray) (nL : Nat) (hh : List (Nat × Nat × Nat × Nat)) (rm : Room) (As : List Value) (S : si_St) (o : Int32 × si_St) : Prop :=
  ∀ sz, Met l y (si_wsW y cc nL hh) rm (va_Pc As (si_U E S sz)) (va_Qi (fun r2 (_ : Unit) => r2 = o.1) (fun _ t => si_B E o.2 t) (si_AA E sz)) 1 6 (si_AA E sz)
theorem si_ofW1 {y : MethodName} {hh : List (Nat × Nat × Nat × Nat)} {rm : Room} {As : List Value} {o : Int32 × si_St} (hy : plainName y.cls = true) (hn : (lg_sl As).length ≤ nL)
    (body : ∀ p e s m args below meth c ls Q A, si_Cx p s m args c cc nL y.cls E A → c.exceptionTable.toList = tableOf hh → si_Ws E A s.heap S s.heap [] → (∀ q, s.heap.size ≤ q → A q) → lv_has ls nL (lv_args 0 As) → (∀ (r0 : Int32) (S0 : si_St) (H : Heap) (locs : List Loc) (pc : Nat) (ls : Array Slot), some (r0, S0) = some o → si_Ws E A s.heap S0 H locs → decode cc pc = .ok (.ireturn, 1) → W p l e rm s m args below meth c H locs 1 6 Q (F0 m pc ls [.int r0])) → W p l e rm s m args below meth c s.heap [] 0 0 Q (F0 m 0 ls [])) : si_M1 l E y cc nL hh rm As S o := by
  intro sz
  refine va_MetW (cc := cc) (maxL := nL) (ret := some .int) (hh := hh) hy rfl ?_
  intro p e s m args below meth c s₁ B hml hv
  obtain ⟨rfl, hsz, hP, hK, hD0, hSt⟩ := hv
  have hts := atoms_spec (ws := si_wsW y cc nL hh) B.pre
  have hown : s.vm.findClass y.cls = some m.cls := findClass_of_methodNamed B.named
  have hT : c.exceptionTable.toList = tableOf hh := vx_table (x := y) B (hts _ List.mem_cons_self)
  have hlocks := B.notSynchronized
  subst hsz
  rw [lg_entry_eq]
  have X : si_Cx p s m As.toArray c cc nL y.cls E (si_AA E s.heap.size) := ⟨B.exec, B.bytes, hml, hown, fun w h => hts w (List.mem_cons_of_mem _ h), hK, hSt⟩
  refine body p e s m As.toArray below meth c _ _ (si_AA E s.heap.size) X hT ⟨hP, si_D_self hD0, va_S.rf⟩ (fun q h => Or.inr h) (lv_entry As hn) (fun r0 S0 H locs pc ls h hw hdg => ?_)
  obtain rfl := Option.some.inj h
  exact W.iret (v := r0) X.1 X.2.1 B.returns (fun t ht hW => ⟨⟨r0, (), rfl, rfl, by rw [ht]; exact hw.1, va_K.moved hW.alike X.2.2.2.2.2.1⟩, hw.2.2.F ht⟩) hw.2.2.2.2 hdg
theorem si_cS1 {y : MethodName} {cy : ByteArray} {ny : Nat} {hh : List (Nat × Nat × Nat × Nat)} {rm : Room} {index : Nat} (As : List Value) {n : Nat} {o : Int32 × si_St} {st : List Value} (hcd : Cond.codeWith y cy ny (some .int) hh ∈ si_GW) (hini : Cond.initialized y.cls ∈ si_GW) (hd : y.cls ≠ "java/lang/invoke/MethodHandle" ∧ y.cls ≠ "java/lang/invoke/VarHandle" ∧ (parseMethodDescriptor y.desc).map (fun d => d.parameters.length) = some n) (hstat : Cond.static y ∈ si_GW) (hl : Cond.methodLink own index y ∈ si_GW) (X : si_Cx p s m args c cc nL own E A) (hw : si_Ws E A s.heap S H locs) (hA : ∀ q, s.heap.size ≤ q → A q) (hl9 : ls.size = nL) (hM : si_M1 l E y cy ny hh rm As S o) (hR : si_Rx rm R ny) (hn : As.length = n) (hst : st = As.reverse ++ rest) (hrest : (rest.map fun v => v.category).sum ≤ 8) (hcs : cells + 1 ≤ R.cells ∧ slots + 6 ≤ R.slots) (hdg : decode cc pc = .ok (.invokestatic index, 3)) (kk : ∀ (H1 : Heap) (locs1 : List Loc), si_Ws E A s.heap o.2 H1 locs1 → W p l e R s m args below meth c H1 locs1 (cells + 1) (slots + 6) Q (F0 m (pc + 3) ls (.int o.1 :: rest))) : W p l e R s m args below meth c H locs cells slots Q (F0 m pc ls st) := by
  subst hst
  have hF := si_AA_of hw hA
  have X' := X
  obtain ⟨hx, hb, hml, hown, hts, hK, hSt⟩ := X'
  have key : ∀ w ∈ si_GW, w ∈ si_GW ∧ ((w.onTables && w.keeps) = true ∨ ∃ ty, w = .arrayClass ty) := fun w hw => ⟨hw, good_of_word (List.mem_filter.mp hw).2⟩
  have hG : GoodIn si_GW (si_wsW y cy ny hh) := by
    intro w hw
    rcases List.mem_cons.mp hw with rfl | hw
    · exact key _ hcd
    · exact key w hw
  have hd2 := hd.2.2
  refine va_calli (vx_runSW (As := As) (rest := rest) ⟨hx, hb, hml, hown, hts⟩ (hM H.size) (n := n) ⟨⟨hR.1.1, hR.1.2, hR.2.1, hR.2.2, pay_in hts hG, List.mem_cons_self⟩, si_wd X hcd, si_wd X hini, ⟨hd.1, hd.2.1⟩, fun sig h => by rw [h] at hd2; exact (Option.some.inj hd2).symm, si_wd X hl, si_wd X hstat⟩ ⟨si_blind, si_pre (sz := 0) X hw hA⟩ rfl hn hl9 rfl (lv_room hrest) hdg hcs) hw.2.2 (fun q _ h => hF q h) hF (fun r2 u t H1 locs1 ht hvm hpost hB hz1 hk1 hS => ?_)
  subst hpost
  obtain ⟨hP1, -⟩ := hB
  rw [ht] at hP1
  exact kk H1 locs1 ⟨hP1, si_va_D hw.2.1, hS⟩
-- the script
def si_xs (L : Nat) (xs : Nat → Int32) (i : Int32) : Option Int32 := if i < 0 ∨ L ≤ i.toNatClampNeg then none else some (xs i.toNatClampNeg)
theorem si_sld {b L : Nat} {xs : Nat → Int32} {i v : Int32} (X : si_Cx p s m args c cc nL own E A) (hX : va_X b L xs s s.heap) (hbl : b < s.heap.size) (hbA : ¬ A b) (hS : va_S A s.heap H locs) (h : si_xs L xs i = some v) (hdg : decode cc pc = .ok (.iaload, 1)) (kk : W p l e R s m args below meth c H locs cells slots Q (F0 m (pc + 1) ls (.int v :: rest))) : W p l e R s m args below meth c H locs cells slots Q (F0 m pc ls (.int i :: .ref b :: rest)) := by
  unfold si_xs at h
  by_cases hc : i < 0 ∨ L ≤ i.toNatClampNeg
  · rw [if_pos hc] at h; cases h
  · rw [if_neg hc] at h
    obtain rfl := Option.some.inj h
    exact va_sld X.1 X.2.1 hX hbl hbA hS hc hdg kk
end SIRX
theorem si_bzf3 {S : si_St} {v w : Int32} {o : Int32 × Int32 × si_St} (h : si_bz v = some w) (hf : some ((0 : Int32), w, S) = some o) : some ((0 : Int32), v, S) = some o := by
  rw [← (si_bz_inv h).2]
  exact hf
