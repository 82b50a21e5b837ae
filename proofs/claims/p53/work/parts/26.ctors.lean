theorem gi_RX7 : Cond.initialized RX7 ∈ si_GW := si_gt1 4 rfl rfl
theorem gi_RX4 : Cond.initialized RX4 ∈ si_GW := si_gt1 7 rfl rfl
theorem gi_RX6 : Cond.initialized RX6 ∈ si_GW := si_gt1 8 rfl rfl
theorem gm_RX9_1 : Cond.methodLink RX9 1 objectInit ∈ si_GW := si_gt1 29 rfl rfl
theorem gn_obj : Cond.instanceMethod objectInit ∈ si_GW := si_gt1 30 rfl rfl
theorem gc_obj : Cond.code objectInit ⟨#[0xb1]⟩ 1 none ∈ si_GW := si_gt1 31 rfl rfl
theorem gq_RX9_7 : Cond.classLink RX9 7 RX3 ∈ si_GW := si_gt1 32 rfl rfl
theorem gz_3 : Cond.instantiable RX3 8 ∈ si_GW := si_gt1 33 rfl rfl
theorem gn_X3_init : Cond.instanceMethod yX3_init ∈ si_GW := si_gt1 35 rfl rfl
theorem gc_X3_init : Cond.code yX3_init cX3_init 1 none ∈ si_GW := si_gt1 36 rfl rfl
theorem gm_RX3_3 : Cond.methodLink RX3 3 objectInit ∈ si_GW := si_gt1 37 rfl rfl
theorem ga_byte : Cond.arrayClass .byte ∈ si_GW := si_gt1 64 rfl rfl
theorem gq_RX9_16 : Cond.classLink RX9 16 RX1 ∈ si_GW := si_gt1 65 rfl rfl
theorem gz_1 : Cond.instantiable RX1 6 ∈ si_GW := si_gt1 66 rfl rfl
theorem gn_X1_init : Cond.instanceMethod yX1_init ∈ si_GW := si_gt1 68 rfl rfl
theorem gc_X1_init : Cond.code yX1_init cX1_init 1 none ∈ si_GW := si_gt1 69 rfl rfl
theorem gm_RX1_5 : Cond.methodLink RX1 5 objectInit ∈ si_GW := si_gt1 70 rfl rfl
theorem ga_int : Cond.arrayClass .int ∈ si_GW := si_gt1 90 rfl rfl
theorem ga_long : Cond.arrayClass .long ∈ si_GW := si_gt1 91 rfl rfl
theorem gq_RX9_23 : Cond.classLink RX9 23 RX7 ∈ si_GW := si_gt1 92 rfl rfl
theorem gz_7 : Cond.instantiable RX7 9 ∈ si_GW := si_gt1 93 rfl rfl
theorem gn_X7_init : Cond.instanceMethod yX7_init ∈ si_GW := si_gt1 95 rfl rfl
theorem gc_X7_init : Cond.code yX7_init cX7_init 1 none ∈ si_GW := si_gt1 96 rfl rfl
theorem gm_RX7_3 : Cond.methodLink RX7 3 objectInit ∈ si_GW := si_gt1 97 rfl rfl
theorem gf_RX7_9 : Cond.fieldLink RX7 9 "ScaleInspection$VisitBook" "scaleOf" "[I" ∈ si_GW := si_gt1 99 rfl rfl
theorem gf_RX7_15 : Cond.fieldLink RX7 15 "ScaleInspection$VisitBook" "dayOf" "[I" ∈ si_GW := si_gt1 100 rfl rfl
theorem gf_RX7_18 : Cond.fieldLink RX7 18 "ScaleInspection$VisitBook" "serviceOf" "[I" ∈ si_GW := si_gt1 101 rfl rfl
theorem gf_RX7_21 : Cond.fieldLink RX7 21 "ScaleInspection$VisitBook" "verdictOf" "[I" ∈ si_GW := si_gt1 102 rfl rfl
theorem gf_RX7_24 : Cond.fieldLink RX7 24 "ScaleInspection$VisitBook" "testsOf" "[I" ∈ si_GW := si_gt1 103 rfl rfl
theorem gf_RX7_27 : Cond.fieldLink RX7 27 "ScaleInspection$VisitBook" "massesOf" "[I" ∈ si_GW := si_gt1 104 rfl rfl
theorem gf_RX7_30 : Cond.fieldLink RX7 30 "ScaleInspection$VisitBook" "loadOf" "[I" ∈ si_GW := si_gt1 105 rfl rfl
theorem gf_RX7_33 : Cond.fieldLink RX7 33 "ScaleInspection$VisitBook" "errorOf" "[I" ∈ si_GW := si_gt1 106 rfl rfl
theorem gq_RX9_30 : Cond.classLink RX9 30 RX8 ∈ si_GW := si_gt1 126 rfl rfl
theorem gz_8 : Cond.instantiable RX8 4 ∈ si_GW := si_gt1 127 rfl rfl
theorem gn_X8_init : Cond.instanceMethod yX8_init ∈ si_GW := si_gt1 129 rfl rfl
theorem gc_X8_init : Cond.code yX8_init cX8_init 1 none ∈ si_GW := si_gt1 130 rfl rfl
theorem gm_RX8_3 : Cond.methodLink RX8 3 objectInit ∈ si_GW := si_gt1 131 rfl rfl
theorem gq_RX9_37 : Cond.classLink RX9 37 RX0 ∈ si_GW := si_gt1 152 rfl rfl
theorem gz_0 : Cond.instantiable RX0 7 ∈ si_GW := si_gt1 153 rfl rfl
theorem gn_X0_init : Cond.instanceMethod yX0_init ∈ si_GW := si_gt1 155 rfl rfl
theorem gc_X0_init : Cond.code yX0_init cX0_init 1 none ∈ si_GW := si_gt1 156 rfl rfl
theorem gm_RX0_3 : Cond.methodLink RX0 3 objectInit ∈ si_GW := si_gt1 157 rfl rfl
theorem gq_RX9_44 : Cond.classLink RX9 44 RX4 ∈ si_GW := si_gt1 180 rfl rfl
theorem gz_4 : Cond.instantiable RX4 3 ∈ si_GW := si_gt1 181 rfl rfl
theorem gn_X4_init : Cond.instanceMethod yX4_init ∈ si_GW := si_gt1 183 rfl rfl
theorem gc_X4_init : Cond.code yX4_init cX4_init 1 none ∈ si_GW := si_gt1 184 rfl rfl
theorem gm_RX4_1 : Cond.methodLink RX4 1 objectInit ∈ si_GW := si_gt1 185 rfl rfl
theorem gq_RX4_7 : Cond.classLink RX4 7 RX7 ∈ si_GW := si_gt1 186 rfl rfl
theorem gq_RX4_16 : Cond.classLink RX4 16 RX8 ∈ si_GW := si_gt1 188 rfl rfl
theorem gf_RX4_10 : Cond.fieldLink RX4 10 "ScaleInspection$Snapshot" "visits" "LScaleInspection$VisitBook;" ∈ si_GW := si_gt1 190 rfl rfl
theorem gf_RX4_19 : Cond.fieldLink RX4 19 "ScaleInspection$Snapshot" "weights" "LScaleInspection$WeightBook;" ∈ si_GW := si_gt1 191 rfl rfl
theorem gq_RX9_54 : Cond.classLink RX9 54 RX6 ∈ si_GW := si_gt1 200 rfl rfl
theorem gz_6 : Cond.instantiable RX6 8 ∈ si_GW := si_gt1 201 rfl rfl
theorem gn_X6_init : Cond.instanceMethod yX6_init ∈ si_GW := si_gt1 203 rfl rfl
theorem gc_X6_init : Cond.code yX6_init cX6_init 1 none ∈ si_GW := si_gt1 204 rfl rfl
theorem gm_RX6_3 : Cond.methodLink RX6 3 objectInit ∈ si_GW := si_gt1 205 rfl rfl
theorem gf_RX6_9 : Cond.fieldLink RX6 9 "ScaleInspection$Survey" "stateOf" "[I" ∈ si_GW := si_gt1 206 rfl rfl
theorem gf_RX6_15 : Cond.fieldLink RX6 15 "ScaleInspection$Survey" "endYearOf" "[I" ∈ si_GW := si_gt1 207 rfl rfl
theorem gf_RX6_18 : Cond.fieldLink RX6 18 "ScaleInspection$Survey" "riskOf" "[I" ∈ si_GW := si_gt1 208 rfl rfl
theorem gf_RX6_21 : Cond.fieldLink RX6 21 "ScaleInspection$Survey" "lastOf" "[I" ∈ si_GW := si_gt1 209 rfl rfl
theorem gf_RX6_24 : Cond.fieldLink RX6 24 "ScaleInspection$Survey" "failuresOf" "[I" ∈ si_GW := si_gt1 210 rfl rfl
theorem gf_RX6_27 : Cond.fieldLink RX6 27 "ScaleInspection$Survey" "rejectedOf" "[I" ∈ si_GW := si_gt1 211 rfl rfl
theorem gf_RX6_30 : Cond.fieldLink RX6 30 "ScaleInspection$Survey" "traderRiskOf" "[I" ∈ si_GW := si_gt1 212 rfl rfl
theorem gq_RX9_61 : Cond.classLink RX9 61 RX5 ∈ si_GW := si_gt1 230 rfl rfl
theorem gz_5 : Cond.instantiable RX5 11 ∈ si_GW := si_gt1 231 rfl rfl
theorem gn_X5_init : Cond.instanceMethod yX5_init ∈ si_GW := si_gt1 233 rfl rfl
theorem gc_X5_init : Cond.code yX5_init cX5_init 1 none ∈ si_GW := si_gt1 234 rfl rfl
theorem gm_RX5_5 : Cond.methodLink RX5 5 objectInit ∈ si_GW := si_gt1 235 rfl rfl
theorem ga_boolean : Cond.arrayClass .boolean ∈ si_GW := si_gt2 30 rfl rfl
theorem gq_RX9_68 : Cond.classLink RX9 68 RX2 ∈ si_GW := si_gt2 31 rfl rfl
theorem gz_2 : Cond.instantiable RX2 12 ∈ si_GW := si_gt2 32 rfl rfl
theorem gn_X2_init : Cond.instanceMethod yX2_init ∈ si_GW := si_gt2 34 rfl rfl
theorem gc_X2_init : Cond.code yX2_init cX2_init 1 none ∈ si_GW := si_gt2 35 rfl rfl
theorem gm_RX2_3 : Cond.methodLink RX2 3 objectInit ∈ si_GW := si_gt2 36 rfl rfl
theorem gf_RX2_9 : Cond.fieldLink RX2 9 "ScaleInspection$Market" "traderOf" "[I" ∈ si_GW := si_gt2 48 rfl rfl
theorem gf_RX2_15 : Cond.fieldLink RX2 15 "ScaleInspection$Market" "classOf" "[I" ∈ si_GW := si_gt2 50 rfl rfl
theorem gf_RX2_18 : Cond.fieldLink RX2 18 "ScaleInspection$Market" "divisionOf" "[I" ∈ si_GW := si_gt2 52 rfl rfl
theorem gf_RX2_21 : Cond.fieldLink RX2 21 "ScaleInspection$Market" "capacityOf" "[I" ∈ si_GW := si_gt2 54 rfl rfl
theorem gf_RX2_24 : Cond.fieldLink RX2 24 "ScaleInspection$Market" "valueOf" "[I" ∈ si_GW := si_gt2 56 rfl rfl
theorem gf_RX2_27 : Cond.fieldLink RX2 27 "ScaleInspection$Market" "weightsOf" "[I" ∈ si_GW := si_gt2 59 rfl rfl
theorem gf_RX2_30 : Cond.fieldLink RX2 30 "ScaleInspection$Market" "genuineOf" "[I" ∈ si_GW := si_gt2 63 rfl rfl
theorem gf_RX9_57 : Cond.fieldLink RX9 57 "ScaleInspection" "survey" "LScaleInspection$Survey;" ∈ si_GW := si_gt2 100 rfl rfl
-- CONSTRUCTORS: from an object of nothing to its own cells
abbrev si_tyD (cy : Nat → ClassId) : List (ClassId × FieldType) := [(cy 11, .byte), (cy 12, .int), (cy 13, .long), (cy 14, .boolean)]
abbrev si_KP (D : va_G) (cy : Nat → ClassId) (ci : Nat) (zs : List Value) (h0 sz : Nat) (U : State) : Prop := U.heap.size = sz ∧ va_P D vwCl [(h0, .inr (ci, zs))] U.heap ∧ va_K D vwCl (si_tyD cy) U ∧ va_D (fun _ => True) [(h0, .inr (ci, zs))] ∧ ∀ w ∈ si_NW, va_Nw w U
def si_Kc (l : Launch) (D : va_G) (cy : Nat → ClassId) (y : MethodName) (cc : ByteArray) (nL : Nat) (rm : Room) (ci : Nat) (zs : List Value) (wl : Nat → (Nat → Nat) → va_W) (mc ms : Nat) : Prop :=
  ∀ h0 sz, Met l y (si_ws y cc nL none) rm (va_Pc [.ref h0] (si_KP D cy ci zs h0 sz)) (va_Qv (fun (_ : Nat → Nat) => True) (fun ad t => va_P D vwCl (wl h0 ad) t.heap ∧ va_D (va_A [(h0, .inr (ci, zs))] sz) (wl h0 ad)) (va_A [(h0, .inr (ci, zs))] sz)) mc ms (va_A [(h0, .inr (ci, zs))] sz)
section SIK
variable {p : Program} {l : Launch} {e : Env} {R : Room} {s : State} {m : MethodId} {args : Array Value} {below : List Frame} {meth : Method} {c : Code} {H : Heap} {locs : List Loc} {cells slots : Nat} {Q : State → Prop} {cc : ByteArray} {nL : Nat} {own : String} {A : Nat → Prop} {pc : Nat} {ls : Array Slot} {rest : List Value} {D : va_G} {cy : Nat → ClassId}
/-- what stands through a constructor -/
def si_Kx (p : Program) (s : State) (m : MethodId) (args : Array Value) (c : Code) (cc : ByteArray) (nL : Nat) (own : String) (D : va_G) (cy : Nat → ClassId) (A : Nat → Prop) : Prop :=
  p.tables.exec = Jvm.exec ∧ c.code = cc ∧ c.maxLocals = nL ∧ s.vm.findClass own = some m.cls ∧ (∀ w ∈ si_GW, w.before args s = true) ∧ va_K D vwCl (si_tyD cy) s ∧ (∀ w ∈ si_NW, va_Nw w s) ∧ ∀ q, s.heap.size ≤ q → A q
theorem si_Kblind {ci : Nat} {zs : List Value} {h0 sz : Nat} {As : List Value} : FrameBlind (va_Pc As (si_KP D cy ci zs h0 sz)) := fun a U g mk q => by
  obtain ⟨q0, q1, qP, qK, qD, qN⟩ := q
  exact ⟨q0, q1, qP, va_K.moved (u := U) (U := U.calling g mk a) (Vm.Alike.refl U.vm) qK, qD, si_NW_same (u := U) (U := U.calling g mk a) rfl qN⟩
theorem si_ofK {y : MethodName} {rm : Room} {ci : Nat} {zs : List Value} {wl : Nat → (Nat → Nat) → va_W} {mc ms : Nat} (hy : plainName y.cls = true) (hyn : y.name = "<init>") (hnl : 1 ≤ nL)
    (body : ∀ p e s m args below meth c ls Q A h0, si_Kx p s m args c cc nL y.cls D cy A → meth.name = "<init>" → va_P D vwCl [(h0, .inr (ci, zs))] s.heap → va_D A [(h0, .inr (ci, zs))] → va_S A s.heap s.heap [] → lv_has ls nL [(0, .ref h0)] → (∀ (H : Heap) (locs : List Loc) (pc : Nat) (ls : Array Slot) (ad : Nat → Nat), va_P D vwCl (wl h0 ad) H → va_D A (wl h0 ad) → va_S A s.heap H locs → decode cc pc = .ok (.return_, 1) → W p l e rm s m args below meth c H locs mc ms Q (F0 m pc ls [])) → W p l e rm s m args below meth c s.heap [] 0 0 Q (F0 m 0 ls [])) : si_Kc l D cy y cc nL rm ci zs wl mc ms := by
  intro h0 sz
  refine Met.ofW (cc := cc) (maxL := nL) (ret := none) hy rfl ?_
  intro p e s m args below meth c s₁ B hml hv
  obtain ⟨rfl, hsz, hP, hK, hD0, hN⟩ := hv
  have hts := atoms_spec (ws := si_ws y cc nL none) B.pre
  have hown : s.vm.findClass y.cls = some m.cls := findClass_of_methodNamed B.named
  have hlocks := B.notSynchronized
  have hin : meth.name = "<init>" := (name_of_methodNamed B.named B.method).1.trans hyn
  subst hsz
  rw [lg_entry_eq]
  have hl := lv_entry ([.ref h0]) (n := nL) (show 1 ≤ nL from hnl)
  refine body p e s m _ below meth c _ _ (va_A [(h0, .inr (ci, zs))] s.heap.size) h0 ⟨B.exec, B.bytes, hml, hown, fun w h => hts w (List.mem_cons_of_mem _ h), hK, hN, fun q h => Or.inr h⟩ hin hP hD0.self va_S.rf hl (fun H locs pc ls ad hP hD hS hdg => ?_)
  exact W.vret B.exec B.bytes B.returns (fun t ht hW => ⟨⟨ad, rfl, trivial, by rw [ht]; exact hP, hD⟩, hS.F ht⟩) hS.2.2 hdg
theorem si_objI {index : Nat} {a : Addr} (X : si_Kx p s m args c cc nL own D cy A) (hl9 : ls.size = nL) (hl : Cond.methodLink own index objectInit ∈ si_GW) (hi : Cond.instanceMethod objectInit ∈ si_GW) (hc : Cond.code objectInit ⟨#[0xb1]⟩ 1 none ∈ si_GW) (hf : 1 ≤ R.frames) (hlo : 12 ≤ R.locals) (hdg : decode cc pc = .ok (.invokespecial index, 3)) (kk : W p l e R s m args below meth c H locs cells slots Q (F0 m (pc + 3) ls [])) : W p l e R s m args below meth c H locs cells slots Q (F0 m pc ls [.ref a]) :=
  W.objInit X.1 X.2.1 X.2.2.2.1 (X.2.2.2.2.1 _ hl) (X.2.2.2.2.1 _ hi) (X.2.2.2.2.1 _ hc) rfl (hl9.trans X.2.2.1.symm) rfl hdg hf (by show 2 * 0 + 0 + 12 ≤ R.locals; omega) kk
theorem si_newa {atype : ArrayType} {kd : Nat} {ws : va_W} {n : Int32} {N' : Nat} {a0 : vp_A} (X : si_Kx p s m args c cc nL own D cy A) (harr : Cond.arrayClass (newarray.typeOf atype) ∈ si_GW) (hkd : ∃ i : Nat, (si_tyD cy)[i]? = some (cy kd, newarray.typeOf atype)) (hprim : ∀ C, newarray.typeOf atype ≠ .object C) (hP : va_P D vwCl ws H) (hD : va_D A ws) (hS : va_S A s.heap H locs)
    (ha : ∀ cA : ClassId, vp_cell cA a0 = arrV cA N' (fun _ => defaultValue (newarray.typeOf atype))) (hn : ¬ n < 0) (hN : n.toNatClampNeg = N') (hbytes : N' * componentBytes (newarray.typeOf atype) ≤ 536870912) (hcells : cells + 1 ≤ R.cells) (hslots : slots + N' ≤ R.slots) (hdg : decode cc pc = .ok (.newarray atype, 2))
    (kk : ∀ (q : Nat) (H1 : Heap), va_P D vwCl (ws ++ [(q, .inl (cy kd, a0))]) H1 → va_D A (ws ++ [(q, .inl (cy kd, a0))]) → va_S A s.heap H1 locs → W p l e R s m args below meth c H1 locs (cells + 1) (slots + N') Q (F0 m (pc + 2) ls (.ref q :: rest))) : W p l e R s m args below meth c H locs cells slots Q (F0 m pc ls (.int n :: rest)) := by
  obtain ⟨i, hi⟩ := hkd
  have hra := (X.2.2.2.2.2.1.2 i _ hi).2
  have hfc : s.vm.findClass ("[" ++ (newarray.typeOf atype).toString) = some (cy kd) := by
    cases ht : newarray.typeOf atype with
    | object C => exact absurd ht (hprim C)
    | _ => rw [ht] at hra; exact hra
  refine va_newa (D := D) (cl := vwCl) (tys := []) X.1 X.2.1 (X.2.2.2.2.1 _ harr) rfl (X.2.2.2.2.2.1.sub [] rfl) hP hD hS X.2.2.2.2.2.2.2 ha hn hN hbytes hcells hslots hdg (fun q cA H1 hK1 hP1 hD1 hS1 => ?_)
  have h2 := (hK1.2 0 (cA, newarray.typeOf atype) rfl).2
  have hcA : cA = cy kd := by
    have h3 : s.vm.findClass ("[" ++ (newarray.typeOf atype).toString) = some cA := by
      cases ht : newarray.typeOf atype with
      | object C => exact absurd ht (hprim C)
      | _ => rw [ht] at h2; exact h2
    exact Option.some.inj (h3.symm.trans hfc)
  subst hcA
  exact kk q H1 hP1 hD1 hS1
/-- 'new C; dup; invokespecial C.<init>', by a nest mate or not -/
theorem si_newc {ws : va_W} {ci : Nat} {C : String} {T : u_T} {N : Nat} {zs : List Value} {ik ic : Nat} {y : MethodName} {cy1 : ByteArray} {nL1 : Nat} {rm : Room} {wl : Nat → (Nat → Nat) → va_W} {mc ms : Nat} (X : si_Kx p s m args c cc nL own D cy A) (hl9 : ls.size = nL) (hP : va_P D vwCl ws H) (hD : va_D A ws) (hS : va_S A s.heap H locs)
    (hcl : si_Cl ci C T N) (ty : Nat → FieldType) (hty : ∀ k, k < N → parseFieldDescriptor (T k).2.2.1 = some (ty k)) (hzs : ∀ j, j < N → defaultValue (ty j) = vp_V zs j) (hk : Cond.classLink own ik C ∈ si_GW) (hinst : Cond.instantiable C N ∈ si_GW) (hini : Cond.initialized C ∈ si_GW)
    (hM : si_Kc l D cy y cy1 nL1 rm (ci + 2) zs wl mc ms) (hcd : Cond.code y cy1 nL1 none ∈ si_GW) (hyc : y.cls = C) (hnest : Cond.methodLinkNest own ic y "ScaleInspection" ∈ si_NW ∨ Cond.methodLink own ic y ∈ si_GW) (hins : Cond.instanceMethod y ∈ si_GW) (hyn : y.name = "<init>") (hd : y.cls ≠ "java/lang/invoke/MethodHandle" ∧ y.cls ≠ "java/lang/invoke/VarHandle" ∧ (parseMethodDescriptor y.desc).map (fun d => d.parameters.length) = some 0)
    (hR : rm.cells = mc ∧ rm.slots = ms ∧ rm.frames + 1 ≤ R.frames ∧ 8 + (nL1 + 11) + rm.locals ≤ R.locals) (hrest : (rest.map fun v => v.category).sum ≤ 7) (hcells : cells + 1 + mc ≤ R.cells) (hslots : slots + N + ms ≤ R.slots)
    (d0 : decode cc pc = .ok (.new ik, 3)) (d3 : decode cc (pc + 3) = .ok (.dup, 1)) (d4 : decode cc (pc + 4) = .ok (.invokespecial ic, 3))
    (kk : ∀ (q : Nat) (ad : Nat → Nat) (H1 : Heap) (locs1 : List Loc), va_P D vwCl (ws ++ wl q ad) H1 → va_D A (ws ++ wl q ad) → va_S A s.heap H1 locs1 → W p l e R s m args below meth c H1 locs1 (cells + 1 + mc) (slots + N + ms) Q (F0 m (pc + 7) ls (.ref q :: rest))) : W p l e R s m args below meth c H locs cells slots Q (F0 m pc ls rest) := by
  have X' := X
  obtain ⟨hx, hb, hml, hown, hts, hK, hN, hA⟩ := X'
  obtain ⟨h11, hcl1, hin, hlen, -, -⟩ := hcl
  refine va_new (ci := ci + 2) (fs := zs) hx hb hts hin ty hty hown (hts _ hk) (hts _ hinst) (hts _ hini) hK hP hD hS hA hcl1 hzs (by omega) (by omega) d0 (fun q H1 hP1 hD1 hS1 => ?_)
  refine lv_dup hx hb d3 rfl ?_
  have hPc : va_P D vwCl [(q, .inr (ci + 2, zs))] H1 := fun k x hx9 => hP1 (ws.length + k) x (by rw [List.getElem?_append_right (by omega), show ws.length + k - ws.length = k by omega]; exact hx9)
  have hDq : A q := hD1.2 ws.length (q, .inr (ci + 2, zs)) (by rw [List.getElem?_append_right (by omega), Nat.sub_self]; rfl)
  have hDc : va_D (fun _ => True) [(q, (.inr (ci + 2, zs) : va_E))] := ⟨fun i j x z hi hj hxz => by
    have h1 := (List.getElem?_eq_some_iff.mp hi).1
    have h2 := (List.getElem?_eq_some_iff.mp hj).1
    simp only [List.length_cons, List.length_nil] at h1 h2
    omega, fun _ _ _ => trivial⟩
  have hFc : ∀ z, va_A [(q, (.inr (ci + 2, zs) : va_E))] H1.size z → A z := by
    intro z hz
    rcases hz with ⟨k, e9, hk9⟩ | hz
    · have h1 := (List.getElem?_eq_some_iff.mp hk9).1
      simp only [List.length_cons, List.length_nil] at h1
      have hk0 : k = 0 := by omega
      subst hk0
      cases hk9
      exact hDq
    · exact hA z (Nat.le_trans hS1.1 hz)
  have hpre : PreS s H1 (va_Pc [.ref q] (si_KP D cy (ci + 2) zs q H1.size)) [.ref q] := ⟨si_Kblind, fun U hU hW => ⟨rfl, by rw [hU], by rw [hU]; exact hPc, va_K.moved hW.alike hK, hDc, si_NW_go hW hN⟩⟩
  have hrun : va_Run p l e R s m args below meth c H1 locs (cells + 1) (slots + N) mc ms (F0 m (pc + 4) ls (.ref q :: .ref q :: rest)) (.ref q :: rest) (va_Qv (fun (_ : Nat → Nat) => True) (fun ad t => va_P D vwCl (wl q ad) t.heap ∧ va_D (va_A [(q, .inr (ci + 2, zs))] H1.size) (wl q ad)) (va_A [(q, .inr (ci + 2, zs))] H1.size) (#[Value.ref q])) (va_A [(q, .inr (ci + 2, zs))] H1.size) := by
    have hr8 : ((Value.ref q :: rest).map fun v => v.category).sum ≤ 8 := by
      simp only [List.map_cons, List.sum_cons]
      have : (Value.ref q).category = 1 := rfl
      omega
    rcases hnest with hnest | hlink
    · exact va_runIN (As := []) (rest := .ref q :: rest) (host := "ScaleInspection") ⟨hx, hb, hml, hown, hts⟩ (hM q H1.size) ⟨va_cnB 0 hts (si_goodIn hcd) rfl hR.1 hR.2.1 (hN _ hnest) (by rw [hyc]; exact hts _ hini) hd hR.2.2, hyn, hts _ hins⟩ hpre rfl rfl hl9 rfl (lv_room hr8) d4 ⟨hcells, hslots⟩
    · exact va_runI (As := []) (rest := .ref q :: rest) ⟨hx, hb, hml, hown, hts⟩ (hM q H1.size) (cwI 0 hts (si_goodIn hcd) rfl hR.1 hR.2.1 (by rw [hyc]; exact hts _ hini) (hts _ hlink) (hts _ hins) hyn hd hR.2.2) hpre rfl rfl hl9 rfl (lv_room hr8) d4 ⟨hcells, hslots⟩
  refine va_callv hrun hS1 (fun z _ h => hFc z h) hFc (fun ad t H2 locs1 ht hvm hpost hB hz1 hk1 hS2 => ?_)
  obtain ⟨hP2, hD2⟩ := hB
  rw [ht] at hP2
  have hPw : va_P D vwCl ws H1 := fun k x hx9 => hP1 k x (by rw [List.getElem?_append_left (List.getElem?_eq_some_iff.mp hx9).1]; exact hx9)
  have hne : ∀ (k : Nat) (x : Nat × va_E), ws[k]? = some x → ¬ va_A [(q, (.inr (ci + 2, zs) : va_E))] H1.size x.1 := by
    intro k x hx9 hv
    have hlen9 := (List.getElem?_eq_some_iff.mp hx9).1
    rcases hv with ⟨j, e9, hj⟩ | hv
    · have h1 := (List.getElem?_eq_some_iff.mp hj).1
      simp only [List.length_cons, List.length_nil] at h1
      have hj0 : j = 0 := by omega
      subst hj0
      have hxq : x.1 = q := by
        have h8 := Option.some.inj hj
        exact (congrArg Prod.fst h8).symm
      have hx1 : (ws ++ [(q, (.inr (ci + 2, zs) : va_E))])[k]? = some x := by rw [List.getElem?_append_left hlen9]; exact hx9
      have h9 := hD1.1 k ws.length x (q, .inr (ci + 2, zs)) hx1 (by rw [List.getElem?_append_right (by omega), Nat.sub_self]; rfl) hxq
      omega
    · have := (hPw k x hx9).lt
      omega
  have hPk : va_P D vwCl ws H2 := hPw.kept (fun k x hx9 => hk1 x.1 (hPw k x hx9).lt (hne k x hx9))
  have hDn : va_D A (wl q ad) := hD2.weaken (fun _ x _ h => hFc x.1 h)
  exact kk q ad H2 locs1 (hPk.app hP2) (hD.app hDn (fun i j x z hi hj hxz => hne i x hi (by rw [hxz]; exact hD2.2 j z hj))) hS2
end SIK
theorem dX3_init_0 : decode cX3_init 0 = .ok (.aload_n 0, 1) := by decide +kernel
theorem dX3_init_1 : decode cX3_init 1 = .ok (.invokespecial 3, 3) := by decide +kernel
theorem dX3_init_4 : decode cX3_init 4 = .ok (.aload_n 0, 1) := by decide +kernel
theorem dX3_init_5 : decode cX3_init 5 = .ok (.sipush 800, 3) := by decide +kernel
theorem dX3_init_8 : decode cX3_init 8 = .ok (.newarray .byte, 2) := by decide +kernel
theorem dX3_init_10 : decode cX3_init 10 = .ok (.putfield 9, 3) := by decide +kernel
theorem dX3_init_13 : decode cX3_init 13 = .ok (.aload_n 0, 1) := by decide +kernel
theorem dX3_init_14 : decode cX3_init 14 = .ok (.bipush (-2), 2) := by decide +kernel
theorem dX3_init_16 : decode cX3_init 16 = .ok (.putfield 15, 3) := by decide +kernel
theorem dX3_init_19 : decode cX3_init 19 = .ok (.return_, 1) := by decide +kernel
def kw_3 (cy : Nat → ClassId) (h0 : Nat) (ad : Nat → Nat) : va_W := [(h0, .inr (5, [.ref (ad 1), .int 0, .int (-2), .int 0, .int 0, .int 0, .int 0, .int 0])), ((ad 1), .inl (cy 11, 800, .inl (fun _ => 0)))]
abbrev rk_3 : Room := { frames := 1, cells := 1, slots := 800, locals := 12 }
abbrev kz_3 : List Value := [.null, .int 0, .int 0, .int 0, .int 0, .int 0, .int 0, .int 0]
set_option maxHeartbeats 4000000 in
set_option maxRecDepth 100000 in
theorem k_3 (l : Launch) (D : va_G) (cy : Nat → ClassId) : si_Kc l D cy yX3_init cX3_init 1 rk_3 (3 + 2) kz_3 (kw_3 cy) 1 800 := by
  refine si_ofK (by decide +kernel) rfl (by decide) ?_
  intro p e s m args below meth c ls Q A h0 X hin hP hD hS hl hret
  refine lv_aload_n X.1 X.2.1 dX3_init_0 rfl (lv_at hl 0 rfl) ?_
  refine si_objI X hl.1 gm_RX3_3 gn_obj gc_obj (by decide) (by decide) dX3_init_1 ?_
  refine lv_aload_n X.1 X.2.1 dX3_init_4 rfl (lv_at hl 0 rfl) ?_
  refine lv_sipush (v := 800) X.1 X.2.1 dX3_init_5 (by decide) ?_
  refine si_newa (atype := .byte) (kd := 11) (a0 := (800, .inl (fun _ => 0))) X ga_byte ⟨0, rfl⟩ (fun C h => by cases h) hP hD hS (fun cA => rfl) (by decide) (by decide) (Nat.le_of_ble_eq_true rfl) (Nat.le_of_ble_eq_true rfl) (Nat.le_of_ble_eq_true rfl) dX3_init_8 (fun q1 H hP hD hS => ?_)
  have hP : va_P D vwCl [(h0, .inr (5, [.null, .int 0, .int 0, .int 0, .int 0, .int 0, .int 0, .int 0])), (q1, .inl (cy 11, 800, .inl (fun _ => 0)))] H := hP
  have hD : va_D A [(h0, .inr (5, [.null, .int 0, .int 0, .int 0, .int 0, .int 0, .int 0, .int 0])), (q1, .inl (cy 11, 800, .inl (fun _ => 0)))] := hD
  refine va_putF (D := D) (ci := 3 + 2) X.1 X.2.1 X.2.2.2.2.1 si_in3 tyX3 tyX3_ok nmX3 X.2.2.2.1 X.2.2.2.2.2.1 hP hD hS 0 rfl rfl 0 (by decide) (X.2.2.2.2.1 _ gf_RX3_9) (fun _ h9 => h9) rfl hin rfl (tyX3_ok 0 (by decide)) rfl rfl (Nat.le_of_ble_eq_true rfl) dX3_init_10 (fun H locs hP hD hS => ?_)
  have hP : va_P D vwCl [(h0, .inr (5, [.ref q1, .int 0, .int 0, .int 0, .int 0, .int 0, .int 0, .int 0])), (q1, .inl (cy 11, 800, .inl (fun _ => 0)))] H := hP
  have hD : va_D A [(h0, .inr (5, [.ref q1, .int 0, .int 0, .int 0, .int 0, .int 0, .int 0, .int 0])), (q1, .inl (cy 11, 800, .inl (fun _ => 0)))] := hD
  refine lv_aload_n X.1 X.2.1 dX3_init_13 rfl (lv_at hl 0 rfl) ?_
  refine lv_bipush (v := (-2)) X.1 X.2.1 dX3_init_14 (by decide) ?_
  refine va_put (D := D) (ci := 3 + 2) X.1 X.2.1 X.2.2.2.2.1 si_in3 tyX3 tyX3_ok nmX3 X.2.2.2.1 X.2.2.2.2.2.1 hP hD hS 0 rfl rfl 2 (by decide) (X.2.2.2.2.1 _ gf_RX3_15) (fun _ h9 => h9) rfl (tyX3_ok 2 (by decide)) rfl rfl (Nat.le_of_ble_eq_true rfl) dX3_init_16 (fun H locs hP hD hS => ?_)
  have hP : va_P D vwCl [(h0, .inr (5, [.ref q1, .int 0, .int (-2), .int 0, .int 0, .int 0, .int 0, .int 0])), (q1, .inl (cy 11, 800, .inl (fun _ => 0)))] H := hP
  have hD : va_D A [(h0, .inr (5, [.ref q1, .int 0, .int (-2), .int 0, .int 0, .int 0, .int 0, .int 0])), (q1, .inl (cy 11, 800, .inl (fun _ => 0)))] := hD
  exact hret _ _ _ _ (fun j => [h0, q1].getD j 0) hP hD hS dX3_init_19
theorem kv_3 : ∀ j, j < 8 → defaultValue (tyX3 j) = vp_V kz_3 j := by
  intro j hj
  match j, hj with
  | 0, _ => rfl
  | 1, _ => rfl
  | 2, _ => rfl
  | 3, _ => rfl
  | 4, _ => rfl
  | 5, _ => rfl
  | 6, _ => rfl
  | 7, _ => rfl
  | k + 8, h => exact absurd h (by omega)
theorem dX1_init_0 : decode cX1_init 0 = .ok (.aload_n 0, 1) := by decide +kernel
theorem dX1_init_1 : decode cX1_init 1 = .ok (.invokespecial 5, 3) := by decide +kernel
theorem dX1_init_4 : decode cX1_init 4 = .ok (.aload_n 0, 1) := by decide +kernel
theorem dX1_init_5 : decode cX1_init 5 = .ok (.sipush 1024, 3) := by decide +kernel
theorem dX1_init_8 : decode cX1_init 8 = .ok (.newarray .int, 2) := by decide +kernel
theorem dX1_init_10 : decode cX1_init 10 = .ok (.putfield 11, 3) := by decide +kernel
theorem dX1_init_13 : decode cX1_init 13 = .ok (.aload_n 0, 1) := by decide +kernel
theorem dX1_init_14 : decode cX1_init 14 = .ok (.iconst 1, 1) := by decide +kernel
theorem dX1_init_15 : decode cX1_init 15 = .ok (.putfield 15, 3) := by decide +kernel
theorem dX1_init_18 : decode cX1_init 18 = .ok (.aload_n 0, 1) := by decide +kernel
theorem dX1_init_19 : decode cX1_init 19 = .ok (.sipush 243, 3) := by decide +kernel
theorem dX1_init_22 : decode cX1_init 22 = .ok (.newarray .long, 2) := by decide +kernel
theorem dX1_init_24 : decode cX1_init 24 = .ok (.putfield 19, 3) := by decide +kernel
theorem dX1_init_27 : decode cX1_init 27 = .ok (.aload_n 0, 1) := by decide +kernel
theorem dX1_init_28 : decode cX1_init 28 = .ok (.iconst 1, 1) := by decide +kernel
theorem dX1_init_29 : decode cX1_init 29 = .ok (.putfield 23, 3) := by decide +kernel
theorem dX1_init_32 : decode cX1_init 32 = .ok (.aload_n 0, 1) := by decide +kernel
theorem dX1_init_33 : decode cX1_init 33 = .ok (.sipush 243, 3) := by decide +kernel
theorem dX1_init_36 : decode cX1_init 36 = .ok (.newarray .long, 2) := by decide +kernel
theorem dX1_init_38 : decode cX1_init 38 = .ok (.putfield 26, 3) := by decide +kernel
theorem dX1_init_41 : decode cX1_init 41 = .ok (.aload_n 0, 1) := by decide +kernel
theorem dX1_init_42 : decode cX1_init 42 = .ok (.iconst 1, 1) := by decide +kernel
theorem dX1_init_43 : decode cX1_init 43 = .ok (.putfield 29, 3) := by decide +kernel
theorem dX1_init_46 : decode cX1_init 46 = .ok (.return_, 1) := by decide +kernel
def kw_1 (cy : Nat → ClassId) (h0 : Nat) (ad : Nat → Nat) : va_W := [(h0, .inr (3, [.ref (ad 1), .int 1, .ref (ad 2), .int 1, .ref (ad 3), .int 1])), ((ad 1), .inl (cy 12, 1024, .inl (fun _ => 0))), ((ad 2), .inl (cy 13, 243, .inr (.inl (fun _ => 0)))), ((ad 3), .inl (cy 13, 243, .inr (.inl (fun _ => 0))))]
abbrev rk_1 : Room := { frames := 1, cells := 3, slots := 1510, locals := 12 }
abbrev kz_1 : List Value := [.null, .int 0, .null, .int 0, .null, .int 0]
set_option maxHeartbeats 4000000 in
set_option maxRecDepth 100000 in
theorem k_1 (l : Launch) (D : va_G) (cy : Nat → ClassId) : si_Kc l D cy yX1_init cX1_init 1 rk_1 (1 + 2) kz_1 (kw_1 cy) 3 1510 := by
  refine si_ofK (by decide +kernel) rfl (by decide) ?_
  intro p e s m args below meth c ls Q A h0 X hin hP hD hS hl hret
  refine lv_aload_n X.1 X.2.1 dX1_init_0 rfl (lv_at hl 0 rfl) ?_
  refine si_objI X hl.1 gm_RX1_5 gn_obj gc_obj (by decide) (by decide) dX1_init_1 ?_
  refine lv_aload_n X.1 X.2.1 dX1_init_4 rfl (lv_at hl 0 rfl) ?_
  refine lv_sipush (v := 1024) X.1 X.2.1 dX1_init_5 (by decide) ?_
  refine si_newa (atype := .int) (kd := 12) (a0 := (1024, .inl (fun _ => 0))) X ga_int ⟨1, rfl⟩ (fun C h => by cases h) hP hD hS (fun cA => rfl) (by decide) (by decide) (Nat.le_of_ble_eq_true rfl) (Nat.le_of_ble_eq_true rfl) (Nat.le_of_ble_eq_true rfl) dX1_init_8 (fun q1 H hP hD hS => ?_)
  have hP : va_P D vwCl [(h0, .inr (3, [.null, .int 0, .null, .int 0, .null, .int 0])), (q1, .inl (cy 12, 1024, .inl (fun _ => 0)))] H := hP
  have hD : va_D A [(h0, .inr (3, [.null, .int 0, .null, .int 0, .null, .int 0])), (q1, .inl (cy 12, 1024, .inl (fun _ => 0)))] := hD
  refine va_putF (D := D) (ci := 1 + 2) X.1 X.2.1 X.2.2.2.2.1 si_in1 tyX1 tyX1_ok nmX1 X.2.2.2.1 X.2.2.2.2.2.1 hP hD hS 0 rfl rfl 0 (by decide) (X.2.2.2.2.1 _ gf_RX1_11) (fun _ h9 => h9) rfl hin rfl (tyX1_ok 0 (by decide)) rfl rfl (Nat.le_of_ble_eq_true rfl) dX1_init_10 (fun H locs hP hD hS => ?_)
  have hP : va_P D vwCl [(h0, .inr (3, [.ref q1, .int 0, .null, .int 0, .null, .int 0])), (q1, .inl (cy 12, 1024, .inl (fun _ => 0)))] H := hP
  have hD : va_D A [(h0, .inr (3, [.ref q1, .int 0, .null, .int 0, .null, .int 0])), (q1, .inl (cy 12, 1024, .inl (fun _ => 0)))] := hD
  refine lv_aload_n X.1 X.2.1 dX1_init_13 rfl (lv_at hl 0 rfl) ?_
  refine lv_iconst (v := 1) X.1 X.2.1 dX1_init_14 (by decide) ?_
  refine va_put (D := D) (ci := 1 + 2) X.1 X.2.1 X.2.2.2.2.1 si_in1 tyX1 tyX1_ok nmX1 X.2.2.2.1 X.2.2.2.2.2.1 hP hD hS 0 rfl rfl 1 (by decide) (X.2.2.2.2.1 _ gf_RX1_15) (fun _ h9 => h9) rfl (tyX1_ok 1 (by decide)) rfl rfl (Nat.le_of_ble_eq_true rfl) dX1_init_15 (fun H locs hP hD hS => ?_)
  have hP : va_P D vwCl [(h0, .inr (3, [.ref q1, .int 1, .null, .int 0, .null, .int 0])), (q1, .inl (cy 12, 1024, .inl (fun _ => 0)))] H := hP
  have hD : va_D A [(h0, .inr (3, [.ref q1, .int 1, .null, .int 0, .null, .int 0])), (q1, .inl (cy 12, 1024, .inl (fun _ => 0)))] := hD
  refine lv_aload_n X.1 X.2.1 dX1_init_18 rfl (lv_at hl 0 rfl) ?_
  refine lv_sipush (v := 243) X.1 X.2.1 dX1_init_19 (by decide) ?_
  refine si_newa (atype := .long) (kd := 13) (a0 := (243, .inr (.inl (fun _ => 0)))) X ga_long ⟨2, rfl⟩ (fun C h => by cases h) hP hD hS (fun cA => rfl) (by decide) (by decide) (Nat.le_of_ble_eq_true rfl) (Nat.le_of_ble_eq_true rfl) (Nat.le_of_ble_eq_true rfl) dX1_init_22 (fun q2 H hP hD hS => ?_)
  have hP : va_P D vwCl [(h0, .inr (3, [.ref q1, .int 1, .null, .int 0, .null, .int 0])), (q1, .inl (cy 12, 1024, .inl (fun _ => 0))), (q2, .inl (cy 13, 243, .inr (.inl (fun _ => 0))))] H := hP
  have hD : va_D A [(h0, .inr (3, [.ref q1, .int 1, .null, .int 0, .null, .int 0])), (q1, .inl (cy 12, 1024, .inl (fun _ => 0))), (q2, .inl (cy 13, 243, .inr (.inl (fun _ => 0))))] := hD
  refine va_putF (D := D) (ci := 1 + 2) X.1 X.2.1 X.2.2.2.2.1 si_in1 tyX1 tyX1_ok nmX1 X.2.2.2.1 X.2.2.2.2.2.1 hP hD hS 0 rfl rfl 2 (by decide) (X.2.2.2.2.1 _ gf_RX1_19) (fun _ h9 => h9) rfl hin rfl (tyX1_ok 2 (by decide)) rfl rfl (Nat.le_of_ble_eq_true rfl) dX1_init_24 (fun H locs hP hD hS => ?_)
  have hP : va_P D vwCl [(h0, .inr (3, [.ref q1, .int 1, .ref q2, .int 0, .null, .int 0])), (q1, .inl (cy 12, 1024, .inl (fun _ => 0))), (q2, .inl (cy 13, 243, .inr (.inl (fun _ => 0))))] H := hP
  have hD : va_D A [(h0, .inr (3, [.ref q1, .int 1, .ref q2, .int 0, .null, .int 0])), (q1, .inl (cy 12, 1024, .inl (fun _ => 0))), (q2, .inl (cy 13, 243, .inr (.inl (fun _ => 0))))] := hD
  refine lv_aload_n X.1 X.2.1 dX1_init_27 rfl (lv_at hl 0 rfl) ?_
  refine lv_iconst (v := 1) X.1 X.2.1 dX1_init_28 (by decide) ?_
  refine va_put (D := D) (ci := 1 + 2) X.1 X.2.1 X.2.2.2.2.1 si_in1 tyX1 tyX1_ok nmX1 X.2.2.2.1 X.2.2.2.2.2.1 hP hD hS 0 rfl rfl 3 (by decide) (X.2.2.2.2.1 _ gf_RX1_23) (fun _ h9 => h9) rfl (tyX1_ok 3 (by decide)) rfl rfl (Nat.le_of_ble_eq_true rfl) dX1_init_29 (fun H locs hP hD hS => ?_)
  have hP : va_P D vwCl [(h0, .inr (3, [.ref q1, .int 1, .ref q2, .int 1, .null, .int 0])), (q1, .inl (cy 12, 1024, .inl (fun _ => 0))), (q2, .inl (cy 13, 243, .inr (.inl (fun _ => 0))))] H := hP
  have hD : va_D A [(h0, .inr (3, [.ref q1, .int 1, .ref q2, .int 1, .null, .int 0])), (q1, .inl (cy 12, 1024, .inl (fun _ => 0))), (q2, .inl (cy 13, 243, .inr (.inl (fun _ => 0))))] := hD
  refine lv_aload_n X.1 X.2.1 dX1_init_32 rfl (lv_at hl 0 rfl) ?_
  refine lv_sipush (v := 243) X.1 X.2.1 dX1_init_33 (by decide) ?_
  refine si_newa (atype := .long) (kd := 13) (a0 := (243, .inr (.inl (fun _ => 0)))) X ga_long ⟨2, rfl⟩ (fun C h => by cases h) hP hD hS (fun cA => rfl) (by decide) (by decide) (Nat.le_of_ble_eq_true rfl) (Nat.le_of_ble_eq_true rfl) (Nat.le_of_ble_eq_true rfl) dX1_init_36 (fun q3 H hP hD hS => ?_)
  have hP : va_P D vwCl [(h0, .inr (3, [.ref q1, .int 1, .ref q2, .int 1, .null, .int 0])), (q1, .inl (cy 12, 1024, .inl (fun _ => 0))), (q2, .inl (cy 13, 243, .inr (.inl (fun _ => 0)))), (q3, .inl (cy 13, 243, .inr (.inl (fun _ => 0))))] H := hP
  have hD : va_D A [(h0, .inr (3, [.ref q1, .int 1, .ref q2, .int 1, .null, .int 0])), (q1, .inl (cy 12, 1024, .inl (fun _ => 0))), (q2, .inl (cy 13, 243, .inr (.inl (fun _ => 0)))), (q3, .inl (cy 13, 243, .inr (.inl (fun _ => 0))))] := hD
  refine va_putF (D := D) (ci := 1 + 2) X.1 X.2.1 X.2.2.2.2.1 si_in1 tyX1 tyX1_ok nmX1 X.2.2.2.1 X.2.2.2.2.2.1 hP hD hS 0 rfl rfl 4 (by decide) (X.2.2.2.2.1 _ gf_RX1_26) (fun _ h9 => h9) rfl hin rfl (tyX1_ok 4 (by decide)) rfl rfl (Nat.le_of_ble_eq_true rfl) dX1_init_38 (fun H locs hP hD hS => ?_)
  have hP : va_P D vwCl [(h0, .inr (3, [.ref q1, .int 1, .ref q2, .int 1, .ref q3, .int 0])), (q1, .inl (cy 12, 1024, .inl (fun _ => 0))), (q2, .inl (cy 13, 243, .inr (.inl (fun _ => 0)))), (q3, .inl (cy 13, 243, .inr (.inl (fun _ => 0))))] H := hP
  have hD : va_D A [(h0, .inr (3, [.ref q1, .int 1, .ref q2, .int 1, .ref q3, .int 0])), (q1, .inl (cy 12, 1024, .inl (fun _ => 0))), (q2, .inl (cy 13, 243, .inr (.inl (fun _ => 0)))), (q3, .inl (cy 13, 243, .inr (.inl (fun _ => 0))))] := hD
  refine lv_aload_n X.1 X.2.1 dX1_init_41 rfl (lv_at hl 0 rfl) ?_
  refine lv_iconst (v := 1) X.1 X.2.1 dX1_init_42 (by decide) ?_
  refine va_put (D := D) (ci := 1 + 2) X.1 X.2.1 X.2.2.2.2.1 si_in1 tyX1 tyX1_ok nmX1 X.2.2.2.1 X.2.2.2.2.2.1 hP hD hS 0 rfl rfl 5 (by decide) (X.2.2.2.2.1 _ gf_RX1_29) (fun _ h9 => h9) rfl (tyX1_ok 5 (by decide)) rfl rfl (Nat.le_of_ble_eq_true rfl) dX1_init_43 (fun H locs hP hD hS => ?_)
  have hP : va_P D vwCl [(h0, .inr (3, [.ref q1, .int 1, .ref q2, .int 1, .ref q3, .int 1])), (q1, .inl (cy 12, 1024, .inl (fun _ => 0))), (q2, .inl (cy 13, 243, .inr (.inl (fun _ => 0)))), (q3, .inl (cy 13, 243, .inr (.inl (fun _ => 0))))] H := hP
  have hD : va_D A [(h0, .inr (3, [.ref q1, .int 1, .ref q2, .int 1, .ref q3, .int 1])), (q1, .inl (cy 12, 1024, .inl (fun _ => 0))), (q2, .inl (cy 13, 243, .inr (.inl (fun _ => 0)))), (q3, .inl (cy 13, 243, .inr (.inl (fun _ => 0))))] := hD
  exact hret _ _ _ _ (fun j => [h0, q1, q2, q3].getD j 0) hP hD hS dX1_init_46
theorem kv_1 : ∀ j, j < 6 → defaultValue (tyX1 j) = vp_V kz_1 j := by
  intro j hj
  match j, hj with
  | 0, _ => rfl
  | 1, _ => rfl
  | 2, _ => rfl
  | 3, _ => rfl
  | 4, _ => rfl
  | 5, _ => rfl
  | k + 6, h => exact absurd h (by omega)
theorem dX7_init_0 : decode cX7_init 0 = .ok (.aload_n 0, 1) := by decide +kernel
theorem dX7_init_1 : decode cX7_init 1 = .ok (.invokespecial 3, 3) := by decide +kernel
theorem dX7_init_4 : decode cX7_init 4 = .ok (.aload_n 0, 1) := by decide +kernel
theorem dX7_init_5 : decode cX7_init 5 = .ok (.bipush 30, 2) := by decide +kernel
theorem dX7_init_7 : decode cX7_init 7 = .ok (.newarray .int, 2) := by decide +kernel
theorem dX7_init_9 : decode cX7_init 9 = .ok (.putfield 9, 3) := by decide +kernel
theorem dX7_init_12 : decode cX7_init 12 = .ok (.aload_n 0, 1) := by decide +kernel
theorem dX7_init_13 : decode cX7_init 13 = .ok (.bipush 30, 2) := by decide +kernel
theorem dX7_init_15 : decode cX7_init 15 = .ok (.newarray .int, 2) := by decide +kernel
theorem dX7_init_17 : decode cX7_init 17 = .ok (.putfield 15, 3) := by decide +kernel
theorem dX7_init_20 : decode cX7_init 20 = .ok (.aload_n 0, 1) := by decide +kernel
theorem dX7_init_21 : decode cX7_init 21 = .ok (.bipush 30, 2) := by decide +kernel
theorem dX7_init_23 : decode cX7_init 23 = .ok (.newarray .int, 2) := by decide +kernel
theorem dX7_init_25 : decode cX7_init 25 = .ok (.putfield 18, 3) := by decide +kernel
theorem dX7_init_28 : decode cX7_init 28 = .ok (.aload_n 0, 1) := by decide +kernel
theorem dX7_init_29 : decode cX7_init 29 = .ok (.bipush 30, 2) := by decide +kernel
theorem dX7_init_31 : decode cX7_init 31 = .ok (.newarray .int, 2) := by decide +kernel
theorem dX7_init_33 : decode cX7_init 33 = .ok (.putfield 21, 3) := by decide +kernel
theorem dX7_init_36 : decode cX7_init 36 = .ok (.aload_n 0, 1) := by decide +kernel
theorem dX7_init_37 : decode cX7_init 37 = .ok (.bipush 30, 2) := by decide +kernel
theorem dX7_init_39 : decode cX7_init 39 = .ok (.newarray .int, 2) := by decide +kernel
theorem dX7_init_41 : decode cX7_init 41 = .ok (.putfield 24, 3) := by decide +kernel
theorem dX7_init_44 : decode cX7_init 44 = .ok (.aload_n 0, 1) := by decide +kernel
theorem dX7_init_45 : decode cX7_init 45 = .ok (.sipush 240, 3) := by decide +kernel
theorem dX7_init_48 : decode cX7_init 48 = .ok (.newarray .int, 2) := by decide +kernel
theorem dX7_init_50 : decode cX7_init 50 = .ok (.putfield 27, 3) := by decide +kernel
theorem dX7_init_53 : decode cX7_init 53 = .ok (.aload_n 0, 1) := by decide +kernel
theorem dX7_init_54 : decode cX7_init 54 = .ok (.sipush 240, 3) := by decide +kernel
theorem dX7_init_57 : decode cX7_init 57 = .ok (.newarray .int, 2) := by decide +kernel
theorem dX7_init_59 : decode cX7_init 59 = .ok (.putfield 30, 3) := by decide +kernel
theorem dX7_init_62 : decode cX7_init 62 = .ok (.aload_n 0, 1) := by decide +kernel
theorem dX7_init_63 : decode cX7_init 63 = .ok (.sipush 240, 3) := by decide +kernel
theorem dX7_init_66 : decode cX7_init 66 = .ok (.newarray .int, 2) := by decide +kernel
theorem dX7_init_68 : decode cX7_init 68 = .ok (.putfield 33, 3) := by decide +kernel
theorem dX7_init_71 : decode cX7_init 71 = .ok (.return_, 1) := by decide +kernel
def kw_7 (cy : Nat → ClassId) (h0 : Nat) (ad : Nat → Nat) : va_W := [(h0, .inr (9, [.int 0, .ref (ad 1), .ref (ad 2), .ref (ad 3), .ref (ad 4), .ref (ad 5), .ref (ad 6), .ref (ad 7), .ref (ad 8)])), ((ad 1), .inl (cy 12, 30, .inl (fun _ => 0))), ((ad 2), .inl (cy 12, 30, .inl (fun _ => 0))), ((ad 3), .inl (cy 12, 30, .inl (fun _ => 0))), ((ad 4), .inl (cy 12, 30, .inl (fun _ => 0))), ((ad 5), .inl (cy 12, 30, .inl (fun _ => 0))), ((ad 6), .inl (cy 12, 240, .inl (fun _ => 0))), ((ad 7), .inl (cy 12, 240, .inl (fun _ => 0))), ((ad 8), .inl (cy 12, 240, .inl (fun _ => 0)))]
abbrev rk_7 : Room := { frames := 1, cells := 8, slots := 870, locals := 12 }
abbrev kz_7 : List Value := [.int 0, .null, .null, .null, .null, .null, .null, .null, .null]
set_option maxHeartbeats 4000000 in
set_option maxRecDepth 100000 in
theorem k_7 (l : Launch) (D : va_G) (cy : Nat → ClassId) : si_Kc l D cy yX7_init cX7_init 1 rk_7 (7 + 2) kz_7 (kw_7 cy) 8 870 := by
  refine si_ofK (by decide +kernel) rfl (by decide) ?_
  intro p e s m args below meth c ls Q A h0 X hin hP hD hS hl hret
  refine lv_aload_n X.1 X.2.1 dX7_init_0 rfl (lv_at hl 0 rfl) ?_
  refine si_objI X hl.1 gm_RX7_3 gn_obj gc_obj (by decide) (by decide) dX7_init_1 ?_
  refine lv_aload_n X.1 X.2.1 dX7_init_4 rfl (lv_at hl 0 rfl) ?_
  refine lv_bipush (v := 30) X.1 X.2.1 dX7_init_5 (by decide) ?_
  refine si_newa (atype := .int) (kd := 12) (a0 := (30, .inl (fun _ => 0))) X ga_int ⟨1, rfl⟩ (fun C h => by cases h) hP hD hS (fun cA => rfl) (by decide) (by decide) (Nat.le_of_ble_eq_true rfl) (Nat.le_of_ble_eq_true rfl) (Nat.le_of_ble_eq_true rfl) dX7_init_7 (fun q1 H hP hD hS => ?_)
  have hP : va_P D vwCl [(h0, .inr (9, [.int 0, .null, .null, .null, .null, .null, .null, .null, .null])), (q1, .inl (cy 12, 30, .inl (fun _ => 0)))] H := hP
  have hD : va_D A [(h0, .inr (9, [.int 0, .null, .null, .null, .null, .null, .null, .null, .null])), (q1, .inl (cy 12, 30, .inl (fun _ => 0)))] := hD
  refine va_putF (D := D) (ci := 7 + 2) X.1 X.2.1 X.2.2.2.2.1 si_in7 tyX7 tyX7_ok nmX7 X.2.2.2.1 X.2.2.2.2.2.1 hP hD hS 0 rfl rfl 1 (by decide) (X.2.2.2.2.1 _ gf_RX7_9) (fun _ h9 => h9) rfl hin rfl (tyX7_ok 1 (by decide)) rfl rfl (Nat.le_of_ble_eq_true rfl) dX7_init_9 (fun H locs hP hD hS => ?_)
  have hP : va_P D vwCl [(h0, .inr (9, [.int 0, .ref q1, .null, .null, .null, .null, .null, .null, .null])), (q1, .inl (cy 12, 30, .inl (fun _ => 0)))] H := hP
  have hD : va_D A [(h0, .inr (9, [.int 0, .ref q1, .null, .null, .null, .null, .null, .null, .null])), (q1, .inl (cy 12, 30, .inl (fun _ => 0)))] := hD
  refine lv_aload_n X.1 X.2.1 dX7_init_12 rfl (lv_at hl 0 rfl) ?_
  refine lv_bipush (v := 30) X.1 X.2.1 dX7_init_13 (by decide) ?_
  refine si_newa (atype := .int) (kd := 12) (a0 := (30, .inl (fun _ => 0))) X ga_int ⟨1, rfl⟩ (fun C h => by cases h) hP hD hS (fun cA => rfl) (by decide) (by decide) (Nat.le_of_ble_eq_true rfl) (Nat.le_of_ble_eq_true rfl) (Nat.le_of_ble_eq_true rfl) dX7_init_15 (fun q2 H hP hD hS => ?_)
  have hP : va_P D vwCl [(h0, .inr (9, [.int 0, .ref q1, .null, .null, .null, .null, .null, .null, .null])), (q1, .inl (cy 12, 30, .inl (fun _ => 0))), (q2, .inl (cy 12, 30, .inl (fun _ => 0)))] H := hP
  have hD : va_D A [(h0, .inr (9, [.int 0, .ref q1, .null, .null, .null, .null, .null, .null, .null])), (q1, .inl (cy 12, 30, .inl (fun _ => 0))), (q2, .inl (cy 12, 30, .inl (fun _ => 0)))] := hD
  refine va_putF (D := D) (ci := 7 + 2) X.1 X.2.1 X.2.2.2.2.1 si_in7 tyX7 tyX7_ok nmX7 X.2.2.2.1 X.2.2.2.2.2.1 hP hD hS 0 rfl rfl 2 (by decide) (X.2.2.2.2.1 _ gf_RX7_15) (fun _ h9 => h9) rfl hin rfl (tyX7_ok 2 (by decide)) rfl rfl (Nat.le_of_ble_eq_true rfl) dX7_init_17 (fun H locs hP hD hS => ?_)
  have hP : va_P D vwCl [(h0, .inr (9, [.int 0, .ref q1, .ref q2, .null, .null, .null, .null, .null, .null])), (q1, .inl (cy 12, 30, .inl (fun _ => 0))), (q2, .inl (cy 12, 30, .inl (fun _ => 0)))] H := hP
  have hD : va_D A [(h0, .inr (9, [.int 0, .ref q1, .ref q2, .null, .null, .null, .null, .null, .null])), (q1, .inl (cy 12, 30, .inl (fun _ => 0))), (q2, .inl (cy 12, 30, .inl (fun _ => 0)))] := hD
  refine lv_aload_n X.1 X.2.1 dX7_init_20 rfl (lv_at hl 0 rfl) ?_
  refine lv_bipush (v := 30) X.1 X.2.1 dX7_init_21 (by decide) ?_
  refine si_newa (atype := .int) (kd := 12) (a0 := (30, .inl (fun _ => 0))) X ga_int ⟨1, rfl⟩ (fun C h => by cases h) hP hD hS (fun cA => rfl) (by decide) (by decide) (Nat.le_of_ble_eq_true rfl) (Nat.le_of_ble_eq_true rfl) (Nat.le_of_ble_eq_true rfl) dX7_init_23 (fun q3 H hP hD hS => ?_)
  have hP : va_P D vwCl [(h0, .inr (9, [.int 0, .ref q1, .ref q2, .null, .null, .null, .null, .null, .null])), (q1, .inl (cy 12, 30, .inl (fun _ => 0))), (q2, .inl (cy 12, 30, .inl (fun _ => 0))), (q3, .inl (cy 12, 30, .inl (fun _ => 0)))] H := hP
  have hD : va_D A [(h0, .inr (9, [.int 0, .ref q1, .ref q2, .null, .null, .null, .null, .null, .null])), (q1, .inl (cy 12, 30, .inl (fun _ => 0))), (q2, .inl (cy 12, 30, .inl (fun _ => 0))), (q3, .inl (cy 12, 30, .inl (fun _ => 0)))] := hD
  refine va_putF (D := D) (ci := 7 + 2) X.1 X.2.1 X.2.2.2.2.1 si_in7 tyX7 tyX7_ok nmX7 X.2.2.2.1 X.2.2.2.2.2.1 hP hD hS 0 rfl rfl 3 (by decide) (X.2.2.2.2.1 _ gf_RX7_18) (fun _ h9 => h9) rfl hin rfl (tyX7_ok 3 (by decide)) rfl rfl (Nat.le_of_ble_eq_true rfl) dX7_init_25 (fun H locs hP hD hS => ?_)
  have hP : va_P D vwCl [(h0, .inr (9, [.int 0, .ref q1, .ref q2, .ref q3, .null, .null, .null, .null, .null])), (q1, .inl (cy 12, 30, .inl (fun _ => 0))), (q2, .inl (cy 12, 30, .inl (fun _ => 0))), (q3, .inl (cy 12, 30, .inl (fun _ => 0)))] H := hP
  have hD : va_D A [(h0, .inr (9, [.int 0, .ref q1, .ref q2, .ref q3, .null, .null, .null, .null, .null])), (q1, .inl (cy 12, 30, .inl (fun _ => 0))), (q2, .inl (cy 12, 30, .inl (fun _ => 0))), (q3, .inl (cy 12, 30, .inl (fun _ => 0)))] := hD
  refine lv_aload_n X.1 X.2.1 dX7_init_28 rfl (lv_at hl 0 rfl) ?_
  refine lv_bipush (v := 30) X.1 X.2.1 dX7_init_29 (by decide) ?_
  refine si_newa (atype := .int) (kd := 12) (a0 := (30, .inl (fun _ => 0))) X ga_int ⟨1, rfl⟩ (fun C h => by cases h) hP hD hS (fun cA => rfl) (by decide) (by decide) (Nat.le_of_ble_eq_true rfl) (Nat.le_of_ble_eq_true rfl) (Nat.le_of_ble_eq_true rfl) dX7_init_31 (fun q4 H hP hD hS => ?_)
  have hP : va_P D vwCl [(h0, .inr (9, [.int 0, .ref q1, .ref q2, .ref q3, .null, .null, .null, .null, .null])), (q1, .inl (cy 12, 30, .inl (fun _ => 0))), (q2, .inl (cy 12, 30, .inl (fun _ => 0))), (q3, .inl (cy 12, 30, .inl (fun _ => 0))), (q4, .inl (cy 12, 30, .inl (fun _ => 0)))] H := hP
  have hD : va_D A [(h0, .inr (9, [.int 0, .ref q1, .ref q2, .ref q3, .null, .null, .null, .null, .null])), (q1, .inl (cy 12, 30, .inl (fun _ => 0))), (q2, .inl (cy 12, 30, .inl (fun _ => 0))), (q3, .inl (cy 12, 30, .inl (fun _ => 0))), (q4, .inl (cy 12, 30, .inl (fun _ => 0)))] := hD
  refine va_putF (D := D) (ci := 7 + 2) X.1 X.2.1 X.2.2.2.2.1 si_in7 tyX7 tyX7_ok nmX7 X.2.2.2.1 X.2.2.2.2.2.1 hP hD hS 0 rfl rfl 4 (by decide) (X.2.2.2.2.1 _ gf_RX7_21) (fun _ h9 => h9) rfl hin rfl (tyX7_ok 4 (by decide)) rfl rfl (Nat.le_of_ble_eq_true rfl) dX7_init_33 (fun H locs hP hD hS => ?_)
  have hP : va_P D vwCl [(h0, .inr (9, [.int 0, .ref q1, .ref q2, .ref q3, .ref q4, .null, .null, .null, .null])), (q1, .inl (cy 12, 30, .inl (fun _ => 0))), (q2, .inl (cy 12, 30, .inl (fun _ => 0))), (q3, .inl (cy 12, 30, .inl (fun _ => 0))), (q4, .inl (cy 12, 30, .inl (fun _ => 0)))] H := hP
  have hD : va_D A [(h0, .inr (9, [.int 0, .ref q1, .ref q2, .ref q3, .ref q4, .null, .null, .null, .null])), (q1, .inl (cy 12, 30, .inl (fun _ => 0))), (q2, .inl (cy 12, 30, .inl (fun _ => 0))), (q3, .inl (cy 12, 30, .inl (fun _ => 0))), (q4, .inl (cy 12, 30, .inl (fun _ => 0)))] := hD
  refine lv_aload_n X.1 X.2.1 dX7_init_36 rfl (lv_at hl 0 rfl) ?_
  refine lv_bipush (v := 30) X.1 X.2.1 dX7_init_37 (by decide) ?_
  refine si_newa (atype := .int) (kd := 12) (a0 := (30, .inl (fun _ => 0))) X ga_int ⟨1, rfl⟩ (fun C h => by cases h) hP hD hS (fun cA => rfl) (by decide) (by decide) (Nat.le_of_ble_eq_true rfl) (Nat.le_of_ble_eq_true rfl) (Nat.le_of_ble_eq_true rfl) dX7_init_39 (fun q5 H hP hD hS => ?_)
  have hP : va_P D vwCl [(h0, .inr (9, [.int 0, .ref q1, .ref q2, .ref q3, .ref q4, .null, .null, .null, .null])), (q1, .inl (cy 12, 30, .inl (fun _ => 0))), (q2, .inl (cy 12, 30, .inl (fun _ => 0))), (q3, .inl (cy 12, 30, .inl (fun _ => 0))), (q4, .inl (cy 12, 30, .inl (fun _ => 0))), (q5, .inl (cy 12, 30, .inl (fun _ => 0)))] H := hP
  have hD : va_D A [(h0, .inr (9, [.int 0, .ref q1, .ref q2, .ref q3, .ref q4, .null, .null, .null, .null])), (q1, .inl (cy 12, 30, .inl (fun _ => 0))), (q2, .inl (cy 12, 30, .inl (fun _ => 0))), (q3, .inl (cy 12, 30, .inl (fun _ => 0))), (q4, .inl (cy 12, 30, .inl (fun _ => 0))), (q5, .inl (cy 12, 30, .inl (fun _ => 0)))] := hD
  refine va_putF (D := D) (ci := 7 + 2) X.1 X.2.1 X.2.2.2.2.1 si_in7 tyX7 tyX7_ok nmX7 X.2.2.2.1 X.2.2.2.2.2.1 hP hD hS 0 rfl rfl 5 (by decide) (X.2.2.2.2.1 _ gf_RX7_24) (fun _ h9 => h9) rfl hin rfl (tyX7_ok 5 (by decide)) rfl rfl (Nat.le_of_ble_eq_true rfl) dX7_init_41 (fun H locs hP hD hS => ?_)
  have hP : va_P D vwCl [(h0, .inr (9, [.int 0, .ref q1, .ref q2, .ref q3, .ref q4, .ref q5, .null, .null, .null])), (q1, .inl (cy 12, 30, .inl (fun _ => 0))), (q2, .inl (cy 12, 30, .inl (fun _ => 0))), (q3, .inl (cy 12, 30, .inl (fun _ => 0))), (q4, .inl (cy 12, 30, .inl (fun _ => 0))), (q5, .inl (cy 12, 30, .inl (fun _ => 0)))] H := hP
  have hD : va_D A [(h0, .inr (9, [.int 0, .ref q1, .ref q2, .ref q3, .ref q4, .ref q5, .null, .null, .null])), (q1, .inl (cy 12, 30, .inl (fun _ => 0))), (q2, .inl (cy 12, 30, .inl (fun _ => 0))), (q3, .inl (cy 12, 30, .inl (fun _ => 0))), (q4, .inl (cy 12, 30, .inl (fun _ => 0))), (q5, .inl (cy 12, 30, .inl (fun _ => 0)))] := hD
  refine lv_aload_n X.1 X.2.1 dX7_init_44 rfl (lv_at hl 0 rfl) ?_
  refine lv_sipush (v := 240) X.1 X.2.1 dX7_init_45 (by decide) ?_
  refine si_newa (atype := .int) (kd := 12) (a0 := (240, .inl (fun _ => 0))) X ga_int ⟨1, rfl⟩ (fun C h => by cases h) hP hD hS (fun cA => rfl) (by decide) (by decide) (Nat.le_of_ble_eq_true rfl) (Nat.le_of_ble_eq_true rfl) (Nat.le_of_ble_eq_true rfl) dX7_init_48 (fun q6 H hP hD hS => ?_)
  have hP : va_P D vwCl [(h0, .inr (9, [.int 0, .ref q1, .ref q2, .ref q3, .ref q4, .ref q5, .null, .null, .null])), (q1, .inl (cy 12, 30, .inl (fun _ => 0))), (q2, .inl (cy 12, 30, .inl (fun _ => 0))), (q3, .inl (cy 12, 30, .inl (fun _ => 0))), (q4, .inl (cy 12, 30, .inl (fun _ => 0))), (q5, .inl (cy 12, 30, .inl (fun _ => 0))), (q6, .inl (cy 12, 240, .inl (fun _ => 0)))] H := hP
  have hD : va_D A [(h0, .inr (9, [.int 0, .ref q1, .ref q2, .ref q3, .ref q4, .ref q5, .null, .null, .null])), (q1, .inl (cy 12, 30, .inl (fun _ => 0))), (q2, .inl (cy 12, 30, .inl (fun _ => 0))), (q3, .inl (cy 12, 30, .inl (fun _ => 0))), (q4, .inl (cy 12, 30, .inl (fun _ => 0))), (q5, .inl (cy 12, 30, .inl (fun _ => 0))), (q6, .inl (cy 12, 240, .inl (fun _ => 0)))] := hD
  refine va_putF (D := D) (ci := 7 + 2) X.1 X.2.1 X.2.2.2.2.1 si_in7 tyX7 tyX7_ok nmX7 X.2.2.2.1 X.2.2.2.2.2.1 hP hD hS 0 rfl rfl 6 (by decide) (X.2.2.2.2.1 _ gf_RX7_27) (fun _ h9 => h9) rfl hin rfl (tyX7_ok 6 (by decide)) rfl rfl (Nat.le_of_ble_eq_true rfl) dX7_init_50 (fun H locs hP hD hS => ?_)
  have hP : va_P D vwCl [(h0, .inr (9, [.int 0, .ref q1, .ref q2, .ref q3, .ref q4, .ref q5, .ref q6, .null, .null])), (q1, .inl (cy 12, 30, .inl (fun _ => 0))), (q2, .inl (cy 12, 30, .inl (fun _ => 0))), (q3, .inl (cy 12, 30, .inl (fun _ => 0))), (q4, .inl (cy 12, 30, .inl (fun _ => 0))), (q5, .inl (cy 12, 30, .inl (fun _ => 0))), (q6, .inl (cy 12, 240, .inl (fun _ => 0)))] H := hP
  have hD : va_D A [(h0, .inr (9, [.int 0, .ref q1, .ref q2, .ref q3, .ref q4, .ref q5, .ref q6, .null, .null])), (q1, .inl (cy 12, 30, .inl (fun _ => 0))), (q2, .inl (cy 12, 30, .inl (fun _ => 0))), (q3, .inl (cy 12, 30, .inl (fun _ => 0))), (q4, .inl (cy 12, 30, .inl (fun _ => 0))), (q5, .inl (cy 12, 30, .inl (fun _ => 0))), (q6, .inl (cy 12, 240, .inl (fun _ => 0)))] := hD
  refine lv_aload_n X.1 X.2.1 dX7_init_53 rfl (lv_at hl 0 rfl) ?_
  refine lv_sipush (v := 240) X.1 X.2.1 dX7_init_54 (by decide) ?_
  refine si_newa (atype := .int) (kd := 12) (a0 := (240, .inl (fun _ => 0))) X ga_int ⟨1, rfl⟩ (fun C h => by cases h) hP hD hS (fun cA => rfl) (by decide) (by decide) (Nat.le_of_ble_eq_true rfl) (Nat.le_of_ble_eq_true rfl) (Nat.le_of_ble_eq_true rfl) dX7_init_57 (fun q7 H hP hD hS => ?_)
  have hP : va_P D vwCl [(h0, .inr (9, [.int 0, .ref q1, .ref q2, .ref q3, .ref q4, .ref q5, .ref q6, .null, .null])), (q1, .inl (cy 12, 30, .inl (fun _ => 0))), (q2, .inl (cy 12, 30, .inl (fun _ => 0))), (q3, .inl (cy 12, 30, .inl (fun _ => 0))), (q4, .inl (cy 12, 30, .inl (fun _ => 0))), (q5, .inl (cy 12, 30, .inl (fun _ => 0))), (q6, .inl (cy 12, 240, .inl (fun _ => 0))), (q7, .inl (cy 12, 240, .inl (fun _ => 0)))] H := hP
  have hD : va_D A [(h0, .inr (9, [.int 0, .ref q1, .ref q2, .ref q3, .ref q4, .ref q5, .ref q6, .null, .null])), (q1, .inl (cy 12, 30, .inl (fun _ => 0))), (q2, .inl (cy 12, 30, .inl (fun _ => 0))), (q3, .inl (cy 12, 30, .inl (fun _ => 0))), (q4, .inl (cy 12, 30, .inl (fun _ => 0))), (q5, .inl (cy 12, 30, .inl (fun _ => 0))), (q6, .inl (cy 12, 240, .inl (fun _ => 0))), (q7, .inl (cy 12, 240, .inl (fun _ => 0)))] := hD
  refine va_putF (D := D) (ci := 7 + 2) X.1 X.2.1 X.2.2.2.2.1 si_in7 tyX7 tyX7_ok nmX7 X.2.2.2.1 X.2.2.2.2.2.1 hP hD hS 0 rfl rfl 7 (by decide) (X.2.2.2.2.1 _ gf_RX7_30) (fun _ h9 => h9) rfl hin rfl (tyX7_ok 7 (by decide)) rfl rfl (Nat.le_of_ble_eq_true rfl) dX7_init_59 (fun H locs hP hD hS => ?_)
  have hP : va_P D vwCl [(h0, .inr (9, [.int 0, .ref q1, .ref q2, .ref q3, .ref q4, .ref q5, .ref q6, .ref q7, .null])), (q1, .inl (cy 12, 30, .inl (fun _ => 0))), (q2, .inl (cy 12, 30, .inl (fun _ => 0))), (q3, .inl (cy 12, 30, .inl (fun _ => 0))), (q4, .inl (cy 12, 30, .inl (fun _ => 0))), (q5, .inl (cy 12, 30, .inl (fun _ => 0))), (q6, .inl (cy 12, 240, .inl (fun _ => 0))), (q7, .inl (cy 12, 240, .inl (fun _ => 0)))] H := hP
  have hD : va_D A [(h0, .inr (9, [.int 0, .ref q1, .ref q2, .ref q3, .ref q4, .ref q5, .ref q6, .ref q7, .null])), (q1, .inl (cy 12, 30, .inl (fun _ => 0))), (q2, .inl (cy 12, 30, .inl (fun _ => 0))), (q3, .inl (cy 12, 30, .inl (fun _ => 0))), (q4, .inl (cy 12, 30, .inl (fun _ => 0))), (q5, .inl (cy 12, 30, .inl (fun _ => 0))), (q6, .inl (cy 12, 240, .inl (fun _ => 0))), (q7, .inl (cy 12, 240, .inl (fun _ => 0)))] := hD
  refine lv_aload_n X.1 X.2.1 dX7_init_62 rfl (lv_at hl 0 rfl) ?_
  refine lv_sipush (v := 240) X.1 X.2.1 dX7_init_63 (by decide) ?_
  refine si_newa (atype := .int) (kd := 12) (a0 := (240, .inl (fun _ => 0))) X ga_int ⟨1, rfl⟩ (fun C h => by cases h) hP hD hS (fun cA => rfl) (by decide) (by decide) (Nat.le_of_ble_eq_true rfl) (Nat.le_of_ble_eq_true rfl) (Nat.le_of_ble_eq_true rfl) dX7_init_66 (fun q8 H hP hD hS => ?_)
  have hP : va_P D vwCl [(h0, .inr (9, [.int 0, .ref q1, .ref q2, .ref q3, .ref q4, .ref q5, .ref q6, .ref q7, .null])), (q1, .inl (cy 12, 30, .inl (fun _ => 0))), (q2, .inl (cy 12, 30, .inl (fun _ => 0))), (q3, .inl (cy 12, 30, .inl (fun _ => 0))), (q4, .inl (cy 12, 30, .inl (fun _ => 0))), (q5, .inl (cy 12, 30, .inl (fun _ => 0))), (q6, .inl (cy 12, 240, .inl (fun _ => 0))), (q7, .inl (cy 12, 240, .inl (fun _ => 0))), (q8, .inl (cy 12, 240, .inl (fun _ => 0)))] H := hP
  have hD : va_D A [(h0, .inr (9, [.int 0, .ref q1, .ref q2, .ref q3, .ref q4, .ref q5, .ref q6, .ref q7, .null])), (q1, .inl (cy 12, 30, .inl (fun _ => 0))), (q2, .inl (cy 12, 30, .inl (fun _ => 0))), (q3, .inl (cy 12, 30, .inl (fun _ => 0))), (q4, .inl (cy 12, 30, .inl (fun _ => 0))), (q5, .inl (cy 12, 30, .inl (fun _ => 0))), (q6, .inl (cy 12, 240, .inl (fun _ => 0))), (q7, .inl (cy 12, 240, .inl (fun _ => 0))), (q8, .inl (cy 12, 240, .inl (fun _ => 0)))] := hD
  refine va_putF (D := D) (ci := 7 + 2) X.1 X.2.1 X.2.2.2.2.1 si_in7 tyX7 tyX7_ok nmX7 X.2.2.2.1 X.2.2.2.2.2.1 hP hD hS 0 rfl rfl 8 (by decide) (X.2.2.2.2.1 _ gf_RX7_33) (fun _ h9 => h9) rfl hin rfl (tyX7_ok 8 (by decide)) rfl rfl (Nat.le_of_ble_eq_true rfl) dX7_init_68 (fun H locs hP hD hS => ?_)
  have hP : va_P D vwCl [(h0, .inr (9, [.int 0, .ref q1, .ref q2, .ref q3, .ref q4, .ref q5, .ref q6, .ref q7, .ref q8])), (q1, .inl (cy 12, 30, .inl (fun _ => 0))), (q2, .inl (cy 12, 30, .inl (fun _ => 0))), (q3, .inl (cy 12, 30, .inl (fun _ => 0))), (q4, .inl (cy 12, 30, .inl (fun _ => 0))), (q5, .inl (cy 12, 30, .inl (fun _ => 0))), (q6, .inl (cy 12, 240, .inl (fun _ => 0))), (q7, .inl (cy 12, 240, .inl (fun _ => 0))), (q8, .inl (cy 12, 240, .inl (fun _ => 0)))] H := hP
  have hD : va_D A [(h0, .inr (9, [.int 0, .ref q1, .ref q2, .ref q3, .ref q4, .ref q5, .ref q6, .ref q7, .ref q8])), (q1, .inl (cy 12, 30, .inl (fun _ => 0))), (q2, .inl (cy 12, 30, .inl (fun _ => 0))), (q3, .inl (cy 12, 30, .inl (fun _ => 0))), (q4, .inl (cy 12, 30, .inl (fun _ => 0))), (q5, .inl (cy 12, 30, .inl (fun _ => 0))), (q6, .inl (cy 12, 240, .inl (fun _ => 0))), (q7, .inl (cy 12, 240, .inl (fun _ => 0))), (q8, .inl (cy 12, 240, .inl (fun _ => 0)))] := hD
  exact hret _ _ _ _ (fun j => [h0, q1, q2, q3, q4, q5, q6, q7, q8].getD j 0) hP hD hS dX7_init_71
theorem kv_7 : ∀ j, j < 9 → defaultValue (tyX7 j) = vp_V kz_7 j := by
  intro j hj
  match j, hj with
  | 0, _ => rfl
  | 1, _ => rfl
  | 2, _ => rfl
  | 3, _ => rfl
  | 4, _ => rfl
  | 5, _ => rfl
  | 6, _ => rfl
  | 7, _ => rfl
  | 8, _ => rfl
  | k + 9, h => exact absurd h (by omega)
theorem dX8_init_0 : decode cX8_init 0 = .ok (.aload_n 0, 1) := by decide +kernel
theorem dX8_init_1 : decode cX8_init 1 = .ok (.invokespecial 3, 3) := by decide +kernel
theorem dX8_init_4 : decode cX8_init 4 = .ok (.aload_n 0, 1) := by decide +kernel
theorem dX8_init_5 : decode cX8_init 5 = .ok (.iconst 4, 1) := by decide +kernel
theorem dX8_init_6 : decode cX8_init 6 = .ok (.newarray .int, 2) := by decide +kernel
theorem dX8_init_8 : decode cX8_init 8 = .ok (.putfield 9, 3) := by decide +kernel
theorem dX8_init_11 : decode cX8_init 11 = .ok (.aload_n 0, 1) := by decide +kernel
theorem dX8_init_12 : decode cX8_init 12 = .ok (.iconst 4, 1) := by decide +kernel
theorem dX8_init_13 : decode cX8_init 13 = .ok (.newarray .int, 2) := by decide +kernel
theorem dX8_init_15 : decode cX8_init 15 = .ok (.putfield 15, 3) := by decide +kernel
theorem dX8_init_18 : decode cX8_init 18 = .ok (.aload_n 0, 1) := by decide +kernel
theorem dX8_init_19 : decode cX8_init 19 = .ok (.iconst 4, 1) := by decide +kernel
theorem dX8_init_20 : decode cX8_init 20 = .ok (.newarray .int, 2) := by decide +kernel
theorem dX8_init_22 : decode cX8_init 22 = .ok (.putfield 18, 3) := by decide +kernel
theorem dX8_init_25 : decode cX8_init 25 = .ok (.aload_n 0, 1) := by decide +kernel
theorem dX8_init_26 : decode cX8_init 26 = .ok (.iconst 4, 1) := by decide +kernel
theorem dX8_init_27 : decode cX8_init 27 = .ok (.newarray .int, 2) := by decide +kernel
theorem dX8_init_29 : decode cX8_init 29 = .ok (.putfield 21, 3) := by decide +kernel
theorem dX8_init_32 : decode cX8_init 32 = .ok (.return_, 1) := by decide +kernel
def kw_8 (cy : Nat → ClassId) (h0 : Nat) (ad : Nat → Nat) : va_W := [(h0, .inr (10, [.ref (ad 1), .ref (ad 2), .ref (ad 3), .ref (ad 4)])), ((ad 1), .inl (cy 12, 4, .inl (fun _ => 0))), ((ad 2), .inl (cy 12, 4, .inl (fun _ => 0))), ((ad 3), .inl (cy 12, 4, .inl (fun _ => 0))), ((ad 4), .inl (cy 12, 4, .inl (fun _ => 0)))]
abbrev rk_8 : Room := { frames := 1, cells := 4, slots := 16, locals := 12 }
abbrev kz_8 : List Value := [.null, .null, .null, .null]
set_option maxHeartbeats 4000000 in
set_option maxRecDepth 100000 in
theorem k_8 (l : Launch) (D : va_G) (cy : Nat → ClassId) : si_Kc l D cy yX8_init cX8_init 1 rk_8 (8 + 2) kz_8 (kw_8 cy) 4 16 := by
  refine si_ofK (by decide +kernel) rfl (by decide) ?_
  intro p e s m args below meth c ls Q A h0 X hin hP hD hS hl hret
  refine lv_aload_n X.1 X.2.1 dX8_init_0 rfl (lv_at hl 0 rfl) ?_
  refine si_objI X hl.1 gm_RX8_3 gn_obj gc_obj (by decide) (by decide) dX8_init_1 ?_
  refine lv_aload_n X.1 X.2.1 dX8_init_4 rfl (lv_at hl 0 rfl) ?_
  refine lv_iconst (v := 4) X.1 X.2.1 dX8_init_5 (by decide) ?_
  refine si_newa (atype := .int) (kd := 12) (a0 := (4, .inl (fun _ => 0))) X ga_int ⟨1, rfl⟩ (fun C h => by cases h) hP hD hS (fun cA => rfl) (by decide) (by decide) (Nat.le_of_ble_eq_true rfl) (Nat.le_of_ble_eq_true rfl) (Nat.le_of_ble_eq_true rfl) dX8_init_6 (fun q1 H hP hD hS => ?_)
  have hP : va_P D vwCl [(h0, .inr (10, [.null, .null, .null, .null])), (q1, .inl (cy 12, 4, .inl (fun _ => 0)))] H := hP
  have hD : va_D A [(h0, .inr (10, [.null, .null, .null, .null])), (q1, .inl (cy 12, 4, .inl (fun _ => 0)))] := hD
  refine va_putF (D := D) (ci := 8 + 2) X.1 X.2.1 X.2.2.2.2.1 si_in8 tyX8 tyX8_ok nmX8 X.2.2.2.1 X.2.2.2.2.2.1 hP hD hS 0 rfl rfl 0 (by decide) (X.2.2.2.2.1 _ gf_RX8_9) (fun _ h9 => h9) rfl hin rfl (tyX8_ok 0 (by decide)) rfl rfl (Nat.le_of_ble_eq_true rfl) dX8_init_8 (fun H locs hP hD hS => ?_)
  have hP : va_P D vwCl [(h0, .inr (10, [.ref q1, .null, .null, .null])), (q1, .inl (cy 12, 4, .inl (fun _ => 0)))] H := hP
  have hD : va_D A [(h0, .inr (10, [.ref q1, .null, .null, .null])), (q1, .inl (cy 12, 4, .inl (fun _ => 0)))] := hD
  refine lv_aload_n X.1 X.2.1 dX8_init_11 rfl (lv_at hl 0 rfl) ?_
  refine lv_iconst (v := 4) X.1 X.2.1 dX8_init_12 (by decide) ?_
  refine si_newa (atype := .int) (kd := 12) (a0 := (4, .inl (fun _ => 0))) X ga_int ⟨1, rfl⟩ (fun C h => by cases h) hP hD hS (fun cA => rfl) (by decide) (by decide) (Nat.le_of_ble_eq_true rfl) (Nat.le_of_ble_eq_true rfl) (Nat.le_of_ble_eq_true rfl) dX8_init_13 (fun q2 H hP hD hS => ?_)
  have hP : va_P D vwCl [(h0, .inr (10, [.ref q1, .null, .null, .null])), (q1, .inl (cy 12, 4, .inl (fun _ => 0))), (q2, .inl (cy 12, 4, .inl (fun _ => 0)))] H := hP
  have hD : va_D A [(h0, .inr (10, [.ref q1, .null, .null, .null])), (q1, .inl (cy 12, 4, .inl (fun _ => 0))), (q2, .inl (cy 12, 4, .inl (fun _ => 0)))] := hD
  refine va_putF (D := D) (ci := 8 + 2) X.1 X.2.1 X.2.2.2.2.1 si_in8 tyX8 tyX8_ok nmX8 X.2.2.2.1 X.2.2.2.2.2.1 hP hD hS 0 rfl rfl 1 (by decide) (X.2.2.2.2.1 _ gf_RX8_15) (fun _ h9 => h9) rfl hin rfl (tyX8_ok 1 (by decide)) rfl rfl (Nat.le_of_ble_eq_true rfl) dX8_init_15 (fun H locs hP hD hS => ?_)
  have hP : va_P D vwCl [(h0, .inr (10, [.ref q1, .ref q2, .null, .null])), (q1, .inl (cy 12, 4, .inl (fun _ => 0))), (q2, .inl (cy 12, 4, .inl (fun _ => 0)))] H := hP
  have hD : va_D A [(h0, .inr (10, [.ref q1, .ref q2, .null, .null])), (q1, .inl (cy 12, 4, .inl (fun _ => 0))), (q2, .inl (cy 12, 4, .inl (fun _ => 0)))] := hD
  refine lv_aload_n X.1 X.2.1 dX8_init_18 rfl (lv_at hl 0 rfl) ?_
  refine lv_iconst (v := 4) X.1 X.2.1 dX8_init_19 (by decide) ?_
  refine si_newa (atype := .int) (kd := 12) (a0 := (4, .inl (fun _ => 0))) X ga_int ⟨1, rfl⟩ (fun C h => by cases h) hP hD hS (fun cA => rfl) (by decide) (by decide) (Nat.le_of_ble_eq_true rfl) (Nat.le_of_ble_eq_true rfl) (Nat.le_of_ble_eq_true rfl) dX8_init_20 (fun q3 H hP hD hS => ?_)
  have hP : va_P D vwCl [(h0, .inr (10, [.ref q1, .ref q2, .null, .null])), (q1, .inl (cy 12, 4, .inl (fun _ => 0))), (q2, .inl (cy 12, 4, .inl (fun _ => 0))), (q3, .inl (cy 12, 4, .inl (fun _ => 0)))] H := hP
  have hD : va_D A [(h0, .inr (10, [.ref q1, .ref q2, .null, .null])), (q1, .inl (cy 12, 4, .inl (fun _ => 0))), (q2, .inl (cy 12, 4, .inl (fun _ => 0))), (q3, .inl (cy 12, 4, .inl (fun _ => 0)))] := hD
  refine va_putF (D := D) (ci := 8 + 2) X.1 X.2.1 X.2.2.2.2.1 si_in8 tyX8 tyX8_ok nmX8 X.2.2.2.1 X.2.2.2.2.2.1 hP hD hS 0 rfl rfl 2 (by decide) (X.2.2.2.2.1 _ gf_RX8_18) (fun _ h9 => h9) rfl hin rfl (tyX8_ok 2 (by decide)) rfl rfl (Nat.le_of_ble_eq_true rfl) dX8_init_22 (fun H locs hP hD hS => ?_)
  have hP : va_P D vwCl [(h0, .inr (10, [.ref q1, .ref q2, .ref q3, .null])), (q1, .inl (cy 12, 4, .inl (fun _ => 0))), (q2, .inl (cy 12, 4, .inl (fun _ => 0))), (q3, .inl (cy 12, 4, .inl (fun _ => 0)))] H := hP
  have hD : va_D A [(h0, .inr (10, [.ref q1, .ref q2, .ref q3, .null])), (q1, .inl (cy 12, 4, .inl (fun _ => 0))), (q2, .inl (cy 12, 4, .inl (fun _ => 0))), (q3, .inl (cy 12, 4, .inl (fun _ => 0)))] := hD
  refine lv_aload_n X.1 X.2.1 dX8_init_25 rfl (lv_at hl 0 rfl) ?_
  refine lv_iconst (v := 4) X.1 X.2.1 dX8_init_26 (by decide) ?_
  refine si_newa (atype := .int) (kd := 12) (a0 := (4, .inl (fun _ => 0))) X ga_int ⟨1, rfl⟩ (fun C h => by cases h) hP hD hS (fun cA => rfl) (by decide) (by decide) (Nat.le_of_ble_eq_true rfl) (Nat.le_of_ble_eq_true rfl) (Nat.le_of_ble_eq_true rfl) dX8_init_27 (fun q4 H hP hD hS => ?_)
  have hP : va_P D vwCl [(h0, .inr (10, [.ref q1, .ref q2, .ref q3, .null])), (q1, .inl (cy 12, 4, .inl (fun _ => 0))), (q2, .inl (cy 12, 4, .inl (fun _ => 0))), (q3, .inl (cy 12, 4, .inl (fun _ => 0))), (q4, .inl (cy 12, 4, .inl (fun _ => 0)))] H := hP
  have hD : va_D A [(h0, .inr (10, [.ref q1, .ref q2, .ref q3, .null])), (q1, .inl (cy 12, 4, .inl (fun _ => 0))), (q2, .inl (cy 12, 4, .inl (fun _ => 0))), (q3, .inl (cy 12, 4, .inl (fun _ => 0))), (q4, .inl (cy 12, 4, .inl (fun _ => 0)))] := hD
  refine va_putF (D := D) (ci := 8 + 2) X.1 X.2.1 X.2.2.2.2.1 si_in8 tyX8 tyX8_ok nmX8 X.2.2.2.1 X.2.2.2.2.2.1 hP hD hS 0 rfl rfl 3 (by decide) (X.2.2.2.2.1 _ gf_RX8_21) (fun _ h9 => h9) rfl hin rfl (tyX8_ok 3 (by decide)) rfl rfl (Nat.le_of_ble_eq_true rfl) dX8_init_29 (fun H locs hP hD hS => ?_)
  have hP : va_P D vwCl [(h0, .inr (10, [.ref q1, .ref q2, .ref q3, .ref q4])), (q1, .inl (cy 12, 4, .inl (fun _ => 0))), (q2, .inl (cy 12, 4, .inl (fun _ => 0))), (q3, .inl (cy 12, 4, .inl (fun _ => 0))), (q4, .inl (cy 12, 4, .inl (fun _ => 0)))] H := hP
  have hD : va_D A [(h0, .inr (10, [.ref q1, .ref q2, .ref q3, .ref q4])), (q1, .inl (cy 12, 4, .inl (fun _ => 0))), (q2, .inl (cy 12, 4, .inl (fun _ => 0))), (q3, .inl (cy 12, 4, .inl (fun _ => 0))), (q4, .inl (cy 12, 4, .inl (fun _ => 0)))] := hD
  exact hret _ _ _ _ (fun j => [h0, q1, q2, q3, q4].getD j 0) hP hD hS dX8_init_32
theorem kv_8 : ∀ j, j < 4 → defaultValue (tyX8 j) = vp_V kz_8 j := by
  intro j hj
  match j, hj with
  | 0, _ => rfl
  | 1, _ => rfl
  | 2, _ => rfl
  | 3, _ => rfl
  | k + 4, h => exact absurd h (by omega)
theorem dX0_init_0 : decode cX0_init 0 = .ok (.aload_n 0, 1) := by decide +kernel
theorem dX0_init_1 : decode cX0_init 1 = .ok (.invokespecial 3, 3) := by decide +kernel
theorem dX0_init_4 : decode cX0_init 4 = .ok (.aload_n 0, 1) := by decide +kernel
theorem dX0_init_5 : decode cX0_init 5 = .ok (.bipush 12, 2) := by decide +kernel
theorem dX0_init_7 : decode cX0_init 7 = .ok (.newarray .int, 2) := by decide +kernel
theorem dX0_init_9 : decode cX0_init 9 = .ok (.putfield 9, 3) := by decide +kernel
theorem dX0_init_12 : decode cX0_init 12 = .ok (.aload_n 0, 1) := by decide +kernel
theorem dX0_init_13 : decode cX0_init 13 = .ok (.bipush 12, 2) := by decide +kernel
theorem dX0_init_15 : decode cX0_init 15 = .ok (.newarray .int, 2) := by decide +kernel
theorem dX0_init_17 : decode cX0_init 17 = .ok (.putfield 15, 3) := by decide +kernel
theorem dX0_init_20 : decode cX0_init 20 = .ok (.aload_n 0, 1) := by decide +kernel
theorem dX0_init_21 : decode cX0_init 21 = .ok (.bipush 12, 2) := by decide +kernel
theorem dX0_init_23 : decode cX0_init 23 = .ok (.newarray .int, 2) := by decide +kernel
theorem dX0_init_25 : decode cX0_init 25 = .ok (.putfield 18, 3) := by decide +kernel
theorem dX0_init_28 : decode cX0_init 28 = .ok (.aload_n 0, 1) := by decide +kernel
theorem dX0_init_29 : decode cX0_init 29 = .ok (.bipush 12, 2) := by decide +kernel
theorem dX0_init_31 : decode cX0_init 31 = .ok (.newarray .int, 2) := by decide +kernel
theorem dX0_init_33 : decode cX0_init 33 = .ok (.putfield 21, 3) := by decide +kernel
theorem dX0_init_36 : decode cX0_init 36 = .ok (.aload_n 0, 1) := by decide +kernel
theorem dX0_init_37 : decode cX0_init 37 = .ok (.bipush 12, 2) := by decide +kernel
theorem dX0_init_39 : decode cX0_init 39 = .ok (.newarray .int, 2) := by decide +kernel
theorem dX0_init_41 : decode cX0_init 41 = .ok (.putfield 24, 3) := by decide +kernel
theorem dX0_init_44 : decode cX0_init 44 = .ok (.return_, 1) := by decide +kernel
def kw_0 (cy : Nat → ClassId) (h0 : Nat) (ad : Nat → Nat) : va_W := [(h0, .inr (2, [.int 0, .int 0, .ref (ad 1), .ref (ad 2), .ref (ad 3), .ref (ad 4), .ref (ad 5)])), ((ad 1), .inl (cy 12, 12, .inl (fun _ => 0))), ((ad 2), .inl (cy 12, 12, .inl (fun _ => 0))), ((ad 3), .inl (cy 12, 12, .inl (fun _ => 0))), ((ad 4), .inl (cy 12, 12, .inl (fun _ => 0))), ((ad 5), .inl (cy 12, 12, .inl (fun _ => 0)))]
abbrev rk_0 : Room := { frames := 1, cells := 5, slots := 60, locals := 12 }
abbrev kz_0 : List Value := [.int 0, .int 0, .null, .null, .null, .null, .null]
set_option maxHeartbeats 4000000 in
set_option maxRecDepth 100000 in
theorem k_0 (l : Launch) (D : va_G) (cy : Nat → ClassId) : si_Kc l D cy yX0_init cX0_init 1 rk_0 (0 + 2) kz_0 (kw_0 cy) 5 60 := by
  refine si_ofK (by decide +kernel) rfl (by decide) ?_
  intro p e s m args below meth c ls Q A h0 X hin hP hD hS hl hret
  refine lv_aload_n X.1 X.2.1 dX0_init_0 rfl (lv_at hl 0 rfl) ?_
  refine si_objI X hl.1 gm_RX0_3 gn_obj gc_obj (by decide) (by decide) dX0_init_1 ?_
  refine lv_aload_n X.1 X.2.1 dX0_init_4 rfl (lv_at hl 0 rfl) ?_
  refine lv_bipush (v := 12) X.1 X.2.1 dX0_init_5 (by decide) ?_
  refine si_newa (atype := .int) (kd := 12) (a0 := (12, .inl (fun _ => 0))) X ga_int ⟨1, rfl⟩ (fun C h => by cases h) hP hD hS (fun cA => rfl) (by decide) (by decide) (Nat.le_of_ble_eq_true rfl) (Nat.le_of_ble_eq_true rfl) (Nat.le_of_ble_eq_true rfl) dX0_init_7 (fun q1 H hP hD hS => ?_)
  have hP : va_P D vwCl [(h0, .inr (2, [.int 0, .int 0, .null, .null, .null, .null, .null])), (q1, .inl (cy 12, 12, .inl (fun _ => 0)))] H := hP
  have hD : va_D A [(h0, .inr (2, [.int 0, .int 0, .null, .null, .null, .null, .null])), (q1, .inl (cy 12, 12, .inl (fun _ => 0)))] := hD
  refine va_putF (D := D) (ci := 0 + 2) X.1 X.2.1 X.2.2.2.2.1 si_in0 tyX0 tyX0_ok nmX0 X.2.2.2.1 X.2.2.2.2.2.1 hP hD hS 0 rfl rfl 2 (by decide) (X.2.2.2.2.1 _ gf_RX0_9) (fun _ h9 => h9) rfl hin rfl (tyX0_ok 2 (by decide)) rfl rfl (Nat.le_of_ble_eq_true rfl) dX0_init_9 (fun H locs hP hD hS => ?_)
  have hP : va_P D vwCl [(h0, .inr (2, [.int 0, .int 0, .ref q1, .null, .null, .null, .null])), (q1, .inl (cy 12, 12, .inl (fun _ => 0)))] H := hP
  have hD : va_D A [(h0, .inr (2, [.int 0, .int 0, .ref q1, .null, .null, .null, .null])), (q1, .inl (cy 12, 12, .inl (fun _ => 0)))] := hD
  refine lv_aload_n X.1 X.2.1 dX0_init_12 rfl (lv_at hl 0 rfl) ?_
  refine lv_bipush (v := 12) X.1 X.2.1 dX0_init_13 (by decide) ?_
  refine si_newa (atype := .int) (kd := 12) (a0 := (12, .inl (fun _ => 0))) X ga_int ⟨1, rfl⟩ (fun C h => by cases h) hP hD hS (fun cA => rfl) (by decide) (by decide) (Nat.le_of_ble_eq_true rfl) (Nat.le_of_ble_eq_true rfl) (Nat.le_of_ble_eq_true rfl) dX0_init_15 (fun q2 H hP hD hS => ?_)
  have hP : va_P D vwCl [(h0, .inr (2, [.int 0, .int 0, .ref q1, .null, .null, .null, .null])), (q1, .inl (cy 12, 12, .inl (fun _ => 0))), (q2, .inl (cy 12, 12, .inl (fun _ => 0)))] H := hP
  have hD : va_D A [(h0, .inr (2, [.int 0, .int 0, .ref q1, .null, .null, .null, .null])), (q1, .inl (cy 12, 12, .inl (fun _ => 0))), (q2, .inl (cy 12, 12, .inl (fun _ => 0)))] := hD
  refine va_putF (D := D) (ci := 0 + 2) X.1 X.2.1 X.2.2.2.2.1 si_in0 tyX0 tyX0_ok nmX0 X.2.2.2.1 X.2.2.2.2.2.1 hP hD hS 0 rfl rfl 3 (by decide) (X.2.2.2.2.1 _ gf_RX0_15) (fun _ h9 => h9) rfl hin rfl (tyX0_ok 3 (by decide)) rfl rfl (Nat.le_of_ble_eq_true rfl) dX0_init_17 (fun H locs hP hD hS => ?_)
  have hP : va_P D vwCl [(h0, .inr (2, [.int 0, .int 0, .ref q1, .ref q2, .null, .null, .null])), (q1, .inl (cy 12, 12, .inl (fun _ => 0))), (q2, .inl (cy 12, 12, .inl (fun _ => 0)))] H := hP
  have hD : va_D A [(h0, .inr (2, [.int 0, .int 0, .ref q1, .ref q2, .null, .null, .null])), (q1, .inl (cy 12, 12, .inl (fun _ => 0))), (q2, .inl (cy 12, 12, .inl (fun _ => 0)))] := hD
  refine lv_aload_n X.1 X.2.1 dX0_init_20 rfl (lv_at hl 0 rfl) ?_
  refine lv_bipush (v := 12) X.1 X.2.1 dX0_init_21 (by decide) ?_
  refine si_newa (atype := .int) (kd := 12) (a0 := (12, .inl (fun _ => 0))) X ga_int ⟨1, rfl⟩ (fun C h => by cases h) hP hD hS (fun cA => rfl) (by decide) (by decide) (Nat.le_of_ble_eq_true rfl) (Nat.le_of_ble_eq_true rfl) (Nat.le_of_ble_eq_true rfl) dX0_init_23 (fun q3 H hP hD hS => ?_)
  have hP : va_P D vwCl [(h0, .inr (2, [.int 0, .int 0, .ref q1, .ref q2, .null, .null, .null])), (q1, .inl (cy 12, 12, .inl (fun _ => 0))), (q2, .inl (cy 12, 12, .inl (fun _ => 0))), (q3, .inl (cy 12, 12, .inl (fun _ => 0)))] H := hP
  have hD : va_D A [(h0, .inr (2, [.int 0, .int 0, .ref q1, .ref q2, .null, .null, .null])), (q1, .inl (cy 12, 12, .inl (fun _ => 0))), (q2, .inl (cy 12, 12, .inl (fun _ => 0))), (q3, .inl (cy 12, 12, .inl (fun _ => 0)))] := hD
  refine va_putF (D := D) (ci := 0 + 2) X.1 X.2.1 X.2.2.2.2.1 si_in0 tyX0 tyX0_ok nmX0 X.2.2.2.1 X.2.2.2.2.2.1 hP hD hS 0 rfl rfl 4 (by decide) (X.2.2.2.2.1 _ gf_RX0_18) (fun _ h9 => h9) rfl hin rfl (tyX0_ok 4 (by decide)) rfl rfl (Nat.le_of_ble_eq_true rfl) dX0_init_25 (fun H locs hP hD hS => ?_)
  have hP : va_P D vwCl [(h0, .inr (2, [.int 0, .int 0, .ref q1, .ref q2, .ref q3, .null, .null])), (q1, .inl (cy 12, 12, .inl (fun _ => 0))), (q2, .inl (cy 12, 12, .inl (fun _ => 0))), (q3, .inl (cy 12, 12, .inl (fun _ => 0)))] H := hP
  have hD : va_D A [(h0, .inr (2, [.int 0, .int 0, .ref q1, .ref q2, .ref q3, .null, .null])), (q1, .inl (cy 12, 12, .inl (fun _ => 0))), (q2, .inl (cy 12, 12, .inl (fun _ => 0))), (q3, .inl (cy 12, 12, .inl (fun _ => 0)))] := hD
  refine lv_aload_n X.1 X.2.1 dX0_init_28 rfl (lv_at hl 0 rfl) ?_
  refine lv_bipush (v := 12) X.1 X.2.1 dX0_init_29 (by decide) ?_
  refine si_newa (atype := .int) (kd := 12) (a0 := (12, .inl (fun _ => 0))) X ga_int ⟨1, rfl⟩ (fun C h => by cases h) hP hD hS (fun cA => rfl) (by decide) (by decide) (Nat.le_of_ble_eq_true rfl) (Nat.le_of_ble_eq_true rfl) (Nat.le_of_ble_eq_true rfl) dX0_init_31 (fun q4 H hP hD hS => ?_)
  have hP : va_P D vwCl [(h0, .inr (2, [.int 0, .int 0, .ref q1, .ref q2, .ref q3, .null, .null])), (q1, .inl (cy 12, 12, .inl (fun _ => 0))), (q2, .inl (cy 12, 12, .inl (fun _ => 0))), (q3, .inl (cy 12, 12, .inl (fun _ => 0))), (q4, .inl (cy 12, 12, .inl (fun _ => 0)))] H := hP
  have hD : va_D A [(h0, .inr (2, [.int 0, .int 0, .ref q1, .ref q2, .ref q3, .null, .null])), (q1, .inl (cy 12, 12, .inl (fun _ => 0))), (q2, .inl (cy 12, 12, .inl (fun _ => 0))), (q3, .inl (cy 12, 12, .inl (fun _ => 0))), (q4, .inl (cy 12, 12, .inl (fun _ => 0)))] := hD
  refine va_putF (D := D) (ci := 0 + 2) X.1 X.2.1 X.2.2.2.2.1 si_in0 tyX0 tyX0_ok nmX0 X.2.2.2.1 X.2.2.2.2.2.1 hP hD hS 0 rfl rfl 5 (by decide) (X.2.2.2.2.1 _ gf_RX0_21) (fun _ h9 => h9) rfl hin rfl (tyX0_ok 5 (by decide)) rfl rfl (Nat.le_of_ble_eq_true rfl) dX0_init_33 (fun H locs hP hD hS => ?_)
  have hP : va_P D vwCl [(h0, .inr (2, [.int 0, .int 0, .ref q1, .ref q2, .ref q3, .ref q4, .null])), (q1, .inl (cy 12, 12, .inl (fun _ => 0))), (q2, .inl (cy 12, 12, .inl (fun _ => 0))), (q3, .inl (cy 12, 12, .inl (fun _ => 0))), (q4, .inl (cy 12, 12, .inl (fun _ => 0)))] H := hP
  have hD : va_D A [(h0, .inr (2, [.int 0, .int 0, .ref q1, .ref q2, .ref q3, .ref q4, .null])), (q1, .inl (cy 12, 12, .inl (fun _ => 0))), (q2, .inl (cy 12, 12, .inl (fun _ => 0))), (q3, .inl (cy 12, 12, .inl (fun _ => 0))), (q4, .inl (cy 12, 12, .inl (fun _ => 0)))] := hD
  refine lv_aload_n X.1 X.2.1 dX0_init_36 rfl (lv_at hl 0 rfl) ?_
  refine lv_bipush (v := 12) X.1 X.2.1 dX0_init_37 (by decide) ?_
  refine si_newa (atype := .int) (kd := 12) (a0 := (12, .inl (fun _ => 0))) X ga_int ⟨1, rfl⟩ (fun C h => by cases h) hP hD hS (fun cA => rfl) (by decide) (by decide) (Nat.le_of_ble_eq_true rfl) (Nat.le_of_ble_eq_true rfl) (Nat.le_of_ble_eq_true rfl) dX0_init_39 (fun q5 H hP hD hS => ?_)
  have hP : va_P D vwCl [(h0, .inr (2, [.int 0, .int 0, .ref q1, .ref q2, .ref q3, .ref q4, .null])), (q1, .inl (cy 12, 12, .inl (fun _ => 0))), (q2, .inl (cy 12, 12, .inl (fun _ => 0))), (q3, .inl (cy 12, 12, .inl (fun _ => 0))), (q4, .inl (cy 12, 12, .inl (fun _ => 0))), (q5, .inl (cy 12, 12, .inl (fun _ => 0)))] H := hP
  have hD : va_D A [(h0, .inr (2, [.int 0, .int 0, .ref q1, .ref q2, .ref q3, .ref q4, .null])), (q1, .inl (cy 12, 12, .inl (fun _ => 0))), (q2, .inl (cy 12, 12, .inl (fun _ => 0))), (q3, .inl (cy 12, 12, .inl (fun _ => 0))), (q4, .inl (cy 12, 12, .inl (fun _ => 0))), (q5, .inl (cy 12, 12, .inl (fun _ => 0)))] := hD
  refine va_putF (D := D) (ci := 0 + 2) X.1 X.2.1 X.2.2.2.2.1 si_in0 tyX0 tyX0_ok nmX0 X.2.2.2.1 X.2.2.2.2.2.1 hP hD hS 0 rfl rfl 6 (by decide) (X.2.2.2.2.1 _ gf_RX0_24) (fun _ h9 => h9) rfl hin rfl (tyX0_ok 6 (by decide)) rfl rfl (Nat.le_of_ble_eq_true rfl) dX0_init_41 (fun H locs hP hD hS => ?_)
  have hP : va_P D vwCl [(h0, .inr (2, [.int 0, .int 0, .ref q1, .ref q2, .ref q3, .ref q4, .ref q5])), (q1, .inl (cy 12, 12, .inl (fun _ => 0))), (q2, .inl (cy 12, 12, .inl (fun _ => 0))), (q3, .inl (cy 12, 12, .inl (fun _ => 0))), (q4, .inl (cy 12, 12, .inl (fun _ => 0))), (q5, .inl (cy 12, 12, .inl (fun _ => 0)))] H := hP
  have hD : va_D A [(h0, .inr (2, [.int 0, .int 0, .ref q1, .ref q2, .ref q3, .ref q4, .ref q5])), (q1, .inl (cy 12, 12, .inl (fun _ => 0))), (q2, .inl (cy 12, 12, .inl (fun _ => 0))), (q3, .inl (cy 12, 12, .inl (fun _ => 0))), (q4, .inl (cy 12, 12, .inl (fun _ => 0))), (q5, .inl (cy 12, 12, .inl (fun _ => 0)))] := hD
  exact hret _ _ _ _ (fun j => [h0, q1, q2, q3, q4, q5].getD j 0) hP hD hS dX0_init_44
theorem kv_0 : ∀ j, j < 7 → defaultValue (tyX0 j) = vp_V kz_0 j := by
  intro j hj
  match j, hj with
  | 0, _ => rfl
  | 1, _ => rfl
  | 2, _ => rfl
  | 3, _ => rfl
  | 4, _ => rfl
  | 5, _ => rfl
  | 6, _ => rfl
  | k + 7, h => exact absurd h (by omega)
theorem dX6_init_0 : decode cX6_init 0 = .ok (.aload_n 0, 1) := by decide +kernel
theorem dX6_init_1 : decode cX6_init 1 = .ok (.invokespecial 3, 3) := by decide +kernel
theorem dX6_init_4 : decode cX6_init 4 = .ok (.aload_n 0, 1) := by decide +kernel
theorem dX6_init_5 : decode cX6_init 5 = .ok (.bipush 24, 2) := by decide +kernel
theorem dX6_init_7 : decode cX6_init 7 = .ok (.newarray .int, 2) := by decide +kernel
theorem dX6_init_9 : decode cX6_init 9 = .ok (.putfield 9, 3) := by decide +kernel
theorem dX6_init_12 : decode cX6_init 12 = .ok (.aload_n 0, 1) := by decide +kernel
theorem dX6_init_13 : decode cX6_init 13 = .ok (.bipush 24, 2) := by decide +kernel
theorem dX6_init_15 : decode cX6_init 15 = .ok (.newarray .int, 2) := by decide +kernel
theorem dX6_init_17 : decode cX6_init 17 = .ok (.putfield 15, 3) := by decide +kernel
theorem dX6_init_20 : decode cX6_init 20 = .ok (.aload_n 0, 1) := by decide +kernel
theorem dX6_init_21 : decode cX6_init 21 = .ok (.bipush 24, 2) := by decide +kernel
theorem dX6_init_23 : decode cX6_init 23 = .ok (.newarray .int, 2) := by decide +kernel
theorem dX6_init_25 : decode cX6_init 25 = .ok (.putfield 18, 3) := by decide +kernel
theorem dX6_init_28 : decode cX6_init 28 = .ok (.aload_n 0, 1) := by decide +kernel
theorem dX6_init_29 : decode cX6_init 29 = .ok (.bipush 24, 2) := by decide +kernel
theorem dX6_init_31 : decode cX6_init 31 = .ok (.newarray .int, 2) := by decide +kernel
theorem dX6_init_33 : decode cX6_init 33 = .ok (.putfield 21, 3) := by decide +kernel
theorem dX6_init_36 : decode cX6_init 36 = .ok (.aload_n 0, 1) := by decide +kernel
theorem dX6_init_37 : decode cX6_init 37 = .ok (.bipush 24, 2) := by decide +kernel
theorem dX6_init_39 : decode cX6_init 39 = .ok (.newarray .int, 2) := by decide +kernel
theorem dX6_init_41 : decode cX6_init 41 = .ok (.putfield 24, 3) := by decide +kernel
theorem dX6_init_44 : decode cX6_init 44 = .ok (.aload_n 0, 1) := by decide +kernel
theorem dX6_init_45 : decode cX6_init 45 = .ok (.bipush 8, 2) := by decide +kernel
theorem dX6_init_47 : decode cX6_init 47 = .ok (.newarray .int, 2) := by decide +kernel
theorem dX6_init_49 : decode cX6_init 49 = .ok (.putfield 27, 3) := by decide +kernel
theorem dX6_init_52 : decode cX6_init 52 = .ok (.aload_n 0, 1) := by decide +kernel
theorem dX6_init_53 : decode cX6_init 53 = .ok (.bipush 8, 2) := by decide +kernel
theorem dX6_init_55 : decode cX6_init 55 = .ok (.newarray .int, 2) := by decide +kernel
theorem dX6_init_57 : decode cX6_init 57 = .ok (.putfield 30, 3) := by decide +kernel
theorem dX6_init_60 : decode cX6_init 60 = .ok (.return_, 1) := by decide +kernel
def kw_6 (cy : Nat → ClassId) (h0 : Nat) (ad : Nat → Nat) : va_W := [(h0, .inr (8, [.ref (ad 1), .ref (ad 2), .ref (ad 3), .ref (ad 4), .ref (ad 5), .ref (ad 6), .ref (ad 7), .int 0])), ((ad 1), .inl (cy 12, 24, .inl (fun _ => 0))), ((ad 2), .inl (cy 12, 24, .inl (fun _ => 0))), ((ad 3), .inl (cy 12, 24, .inl (fun _ => 0))), ((ad 4), .inl (cy 12, 24, .inl (fun _ => 0))), ((ad 5), .inl (cy 12, 24, .inl (fun _ => 0))), ((ad 6), .inl (cy 12, 8, .inl (fun _ => 0))), ((ad 7), .inl (cy 12, 8, .inl (fun _ => 0)))]
abbrev rk_6 : Room := { frames := 1, cells := 7, slots := 136, locals := 12 }
abbrev kz_6 : List Value := [.null, .null, .null, .null, .null, .null, .null, .int 0]
set_option maxHeartbeats 4000000 in
set_option maxRecDepth 100000 in
theorem k_6 (l : Launch) (D : va_G) (cy : Nat → ClassId) : si_Kc l D cy yX6_init cX6_init 1 rk_6 (6 + 2) kz_6 (kw_6 cy) 7 136 := by
  refine si_ofK (by decide +kernel) rfl (by decide) ?_
  intro p e s m args below meth c ls Q A h0 X hin hP hD hS hl hret
  refine lv_aload_n X.1 X.2.1 dX6_init_0 rfl (lv_at hl 0 rfl) ?_
  refine si_objI X hl.1 gm_RX6_3 gn_obj gc_obj (by decide) (by decide) dX6_init_1 ?_
  refine lv_aload_n X.1 X.2.1 dX6_init_4 rfl (lv_at hl 0 rfl) ?_
  refine lv_bipush (v := 24) X.1 X.2.1 dX6_init_5 (by decide) ?_
  refine si_newa (atype := .int) (kd := 12) (a0 := (24, .inl (fun _ => 0))) X ga_int ⟨1, rfl⟩ (fun C h => by cases h) hP hD hS (fun cA => rfl) (by decide) (by decide) (Nat.le_of_ble_eq_true rfl) (Nat.le_of_ble_eq_true rfl) (Nat.le_of_ble_eq_true rfl) dX6_init_7 (fun q1 H hP hD hS => ?_)
  have hP : va_P D vwCl [(h0, .inr (8, [.null, .null, .null, .null, .null, .null, .null, .int 0])), (q1, .inl (cy 12, 24, .inl (fun _ => 0)))] H := hP
  have hD : va_D A [(h0, .inr (8, [.null, .null, .null, .null, .null, .null, .null, .int 0])), (q1, .inl (cy 12, 24, .inl (fun _ => 0)))] := hD
  refine va_putF (D := D) (ci := 6 + 2) X.1 X.2.1 X.2.2.2.2.1 si_in6 tyX6 tyX6_ok nmX6 X.2.2.2.1 X.2.2.2.2.2.1 hP hD hS 0 rfl rfl 0 (by decide) (X.2.2.2.2.1 _ gf_RX6_9) (fun _ h9 => h9) rfl hin rfl (tyX6_ok 0 (by decide)) rfl rfl (Nat.le_of_ble_eq_true rfl) dX6_init_9 (fun H locs hP hD hS => ?_)
  have hP : va_P D vwCl [(h0, .inr (8, [.ref q1, .null, .null, .null, .null, .null, .null, .int 0])), (q1, .inl (cy 12, 24, .inl (fun _ => 0)))] H := hP
  have hD : va_D A [(h0, .inr (8, [.ref q1, .null, .null, .null, .null, .null, .null, .int 0])), (q1, .inl (cy 12, 24, .inl (fun _ => 0)))] := hD
  refine lv_aload_n X.1 X.2.1 dX6_init_12 rfl (lv_at hl 0 rfl) ?_
  refine lv_bipush (v := 24) X.1 X.2.1 dX6_init_13 (by decide) ?_
  refine si_newa (atype := .int) (kd := 12) (a0 := (24, .inl (fun _ => 0))) X ga_int ⟨1, rfl⟩ (fun C h => by cases h) hP hD hS (fun cA => rfl) (by decide) (by decide) (Nat.le_of_ble_eq_true rfl) (Nat.le_of_ble_eq_true rfl) (Nat.le_of_ble_eq_true rfl) dX6_init_15 (fun q2 H hP hD hS => ?_)
  have hP : va_P D vwCl [(h0, .inr (8, [.ref q1, .null, .null, .null, .null, .null, .null, .int 0])), (q1, .inl (cy 12, 24, .inl (fun _ => 0))), (q2, .inl (cy 12, 24, .inl (fun _ => 0)))] H := hP
  have hD : va_D A [(h0, .inr (8, [.ref q1, .null, .null, .null, .null, .null, .null, .int 0])), (q1, .inl (cy 12, 24, .inl (fun _ => 0))), (q2, .inl (cy 12, 24, .inl (fun _ => 0)))] := hD
  refine va_putF (D := D) (ci := 6 + 2) X.1 X.2.1 X.2.2.2.2.1 si_in6 tyX6 tyX6_ok nmX6 X.2.2.2.1 X.2.2.2.2.2.1 hP hD hS 0 rfl rfl 1 (by decide) (X.2.2.2.2.1 _ gf_RX6_15) (fun _ h9 => h9) rfl hin rfl (tyX6_ok 1 (by decide)) rfl rfl (Nat.le_of_ble_eq_true rfl) dX6_init_17 (fun H locs hP hD hS => ?_)
  have hP : va_P D vwCl [(h0, .inr (8, [.ref q1, .ref q2, .null, .null, .null, .null, .null, .int 0])), (q1, .inl (cy 12, 24, .inl (fun _ => 0))), (q2, .inl (cy 12, 24, .inl (fun _ => 0)))] H := hP
  have hD : va_D A [(h0, .inr (8, [.ref q1, .ref q2, .null, .null, .null, .null, .null, .int 0])), (q1, .inl (cy 12, 24, .inl (fun _ => 0))), (q2, .inl (cy 12, 24, .inl (fun _ => 0)))] := hD
  refine lv_aload_n X.1 X.2.1 dX6_init_20 rfl (lv_at hl 0 rfl) ?_
  refine lv_bipush (v := 24) X.1 X.2.1 dX6_init_21 (by decide) ?_
  refine si_newa (atype := .int) (kd := 12) (a0 := (24, .inl (fun _ => 0))) X ga_int ⟨1, rfl⟩ (fun C h => by cases h) hP hD hS (fun cA => rfl) (by decide) (by decide) (Nat.le_of_ble_eq_true rfl) (Nat.le_of_ble_eq_true rfl) (Nat.le_of_ble_eq_true rfl) dX6_init_23 (fun q3 H hP hD hS => ?_)
  have hP : va_P D vwCl [(h0, .inr (8, [.ref q1, .ref q2, .null, .null, .null, .null, .null, .int 0])), (q1, .inl (cy 12, 24, .inl (fun _ => 0))), (q2, .inl (cy 12, 24, .inl (fun _ => 0))), (q3, .inl (cy 12, 24, .inl (fun _ => 0)))] H := hP
  have hD : va_D A [(h0, .inr (8, [.ref q1, .ref q2, .null, .null, .null, .null, .null, .int 0])), (q1, .inl (cy 12, 24, .inl (fun _ => 0))), (q2, .inl (cy 12, 24, .inl (fun _ => 0))), (q3, .inl (cy 12, 24, .inl (fun _ => 0)))] := hD
  refine va_putF (D := D) (ci := 6 + 2) X.1 X.2.1 X.2.2.2.2.1 si_in6 tyX6 tyX6_ok nmX6 X.2.2.2.1 X.2.2.2.2.2.1 hP hD hS 0 rfl rfl 2 (by decide) (X.2.2.2.2.1 _ gf_RX6_18) (fun _ h9 => h9) rfl hin rfl (tyX6_ok 2 (by decide)) rfl rfl (Nat.le_of_ble_eq_true rfl) dX6_init_25 (fun H locs hP hD hS => ?_)
  have hP : va_P D vwCl [(h0, .inr (8, [.ref q1, .ref q2, .ref q3, .null, .null, .null, .null, .int 0])), (q1, .inl (cy 12, 24, .inl (fun _ => 0))), (q2, .inl (cy 12, 24, .inl (fun _ => 0))), (q3, .inl (cy 12, 24, .inl (fun _ => 0)))] H := hP
  have hD : va_D A [(h0, .inr (8, [.ref q1, .ref q2, .ref q3, .null, .null, .null, .null, .int 0])), (q1, .inl (cy 12, 24, .inl (fun _ => 0))), (q2, .inl (cy 12, 24, .inl (fun _ => 0))), (q3, .inl (cy 12, 24, .inl (fun _ => 0)))] := hD
  refine lv_aload_n X.1 X.2.1 dX6_init_28 rfl (lv_at hl 0 rfl) ?_
  refine lv_bipush (v := 24) X.1 X.2.1 dX6_init_29 (by decide) ?_
  refine si_newa (atype := .int) (kd := 12) (a0 := (24, .inl (fun _ => 0))) X ga_int ⟨1, rfl⟩ (fun C h => by cases h) hP hD hS (fun cA => rfl) (by decide) (by decide) (Nat.le_of_ble_eq_true rfl) (Nat.le_of_ble_eq_true rfl) (Nat.le_of_ble_eq_true rfl) dX6_init_31 (fun q4 H hP hD hS => ?_)
  have hP : va_P D vwCl [(h0, .inr (8, [.ref q1, .ref q2, .ref q3, .null, .null, .null, .null, .int 0])), (q1, .inl (cy 12, 24, .inl (fun _ => 0))), (q2, .inl (cy 12, 24, .inl (fun _ => 0))), (q3, .inl (cy 12, 24, .inl (fun _ => 0))), (q4, .inl (cy 12, 24, .inl (fun _ => 0)))] H := hP
  have hD : va_D A [(h0, .inr (8, [.ref q1, .ref q2, .ref q3, .null, .null, .null, .null, .int 0])), (q1, .inl (cy 12, 24, .inl (fun _ => 0))), (q2, .inl (cy 12, 24, .inl (fun _ => 0))), (q3, .inl (cy 12, 24, .inl (fun _ => 0))), (q4, .inl (cy 12, 24, .inl (fun _ => 0)))] := hD
  refine va_putF (D := D) (ci := 6 + 2) X.1 X.2.1 X.2.2.2.2.1 si_in6 tyX6 tyX6_ok nmX6 X.2.2.2.1 X.2.2.2.2.2.1 hP hD hS 0 rfl rfl 3 (by decide) (X.2.2.2.2.1 _ gf_RX6_21) (fun _ h9 => h9) rfl hin rfl (tyX6_ok 3 (by decide)) rfl rfl (Nat.le_of_ble_eq_true rfl) dX6_init_33 (fun H locs hP hD hS => ?_)
  have hP : va_P D vwCl [(h0, .inr (8, [.ref q1, .ref q2, .ref q3, .ref q4, .null, .null, .null, .int 0])), (q1, .inl (cy 12, 24, .inl (fun _ => 0))), (q2, .inl (cy 12, 24, .inl (fun _ => 0))), (q3, .inl (cy 12, 24, .inl (fun _ => 0))), (q4, .inl (cy 12, 24, .inl (fun _ => 0)))] H := hP
  have hD : va_D A [(h0, .inr (8, [.ref q1, .ref q2, .ref q3, .ref q4, .null, .null, .null, .int 0])), (q1, .inl (cy 12, 24, .inl (fun _ => 0))), (q2, .inl (cy 12, 24, .inl (fun _ => 0))), (q3, .inl (cy 12, 24, .inl (fun _ => 0))), (q4, .inl (cy 12, 24, .inl (fun _ => 0)))] := hD
  refine lv_aload_n X.1 X.2.1 dX6_init_36 rfl (lv_at hl 0 rfl) ?_
  refine lv_bipush (v := 24) X.1 X.2.1 dX6_init_37 (by decide) ?_
  refine si_newa (atype := .int) (kd := 12) (a0 := (24, .inl (fun _ => 0))) X ga_int ⟨1, rfl⟩ (fun C h => by cases h) hP hD hS (fun cA => rfl) (by decide) (by decide) (Nat.le_of_ble_eq_true rfl) (Nat.le_of_ble_eq_true rfl) (Nat.le_of_ble_eq_true rfl) dX6_init_39 (fun q5 H hP hD hS => ?_)
  have hP : va_P D vwCl [(h0, .inr (8, [.ref q1, .ref q2, .ref q3, .ref q4, .null, .null, .null, .int 0])), (q1, .inl (cy 12, 24, .inl (fun _ => 0))), (q2, .inl (cy 12, 24, .inl (fun _ => 0))), (q3, .inl (cy 12, 24, .inl (fun _ => 0))), (q4, .inl (cy 12, 24, .inl (fun _ => 0))), (q5, .inl (cy 12, 24, .inl (fun _ => 0)))] H := hP
  have hD : va_D A [(h0, .inr (8, [.ref q1, .ref q2, .ref q3, .ref q4, .null, .null, .null, .int 0])), (q1, .inl (cy 12, 24, .inl (fun _ => 0))), (q2, .inl (cy 12, 24, .inl (fun _ => 0))), (q3, .inl (cy 12, 24, .inl (fun _ => 0))), (q4, .inl (cy 12, 24, .inl (fun _ => 0))), (q5, .inl (cy 12, 24, .inl (fun _ => 0)))] := hD
  refine va_putF (D := D) (ci := 6 + 2) X.1 X.2.1 X.2.2.2.2.1 si_in6 tyX6 tyX6_ok nmX6 X.2.2.2.1 X.2.2.2.2.2.1 hP hD hS 0 rfl rfl 4 (by decide) (X.2.2.2.2.1 _ gf_RX6_24) (fun _ h9 => h9) rfl hin rfl (tyX6_ok 4 (by decide)) rfl rfl (Nat.le_of_ble_eq_true rfl) dX6_init_41 (fun H locs hP hD hS => ?_)
  have hP : va_P D vwCl [(h0, .inr (8, [.ref q1, .ref q2, .ref q3, .ref q4, .ref q5, .null, .null, .int 0])), (q1, .inl (cy 12, 24, .inl (fun _ => 0))), (q2, .inl (cy 12, 24, .inl (fun _ => 0))), (q3, .inl (cy 12, 24, .inl (fun _ => 0))), (q4, .inl (cy 12, 24, .inl (fun _ => 0))), (q5, .inl (cy 12, 24, .inl (fun _ => 0)))] H := hP
  have hD : va_D A [(h0, .inr (8, [.ref q1, .ref q2, .ref q3, .ref q4, .ref q5, .null, .null, .int 0])), (q1, .inl (cy 12, 24, .inl (fun _ => 0))), (q2, .inl (cy 12, 24, .inl (fun _ => 0))), (q3, .inl (cy 12, 24, .inl (fun _ => 0))), (q4, .inl (cy 12, 24, .inl (fun _ => 0))), (q5, .inl (cy 12, 24, .inl (fun _ => 0)))] := hD
  refine lv_aload_n X.1 X.2.1 dX6_init_44 rfl (lv_at hl 0 rfl) ?_
  refine lv_bipush (v := 8) X.1 X.2.1 dX6_init_45 (by decide) ?_
  refine si_newa (atype := .int) (kd := 12) (a0 := (8, .inl (fun _ => 0))) X ga_int ⟨1, rfl⟩ (fun C h => by cases h) hP hD hS (fun cA => rfl) (by decide) (by decide) (Nat.le_of_ble_eq_true rfl) (Nat.le_of_ble_eq_true rfl) (Nat.le_of_ble_eq_true rfl) dX6_init_47 (fun q6 H hP hD hS => ?_)
  have hP : va_P D vwCl [(h0, .inr (8, [.ref q1, .ref q2, .ref q3, .ref q4, .ref q5, .null, .null, .int 0])), (q1, .inl (cy 12, 24, .inl (fun _ => 0))), (q2, .inl (cy 12, 24, .inl (fun _ => 0))), (q3, .inl (cy 12, 24, .inl (fun _ => 0))), (q4, .inl (cy 12, 24, .inl (fun _ => 0))), (q5, .inl (cy 12, 24, .inl (fun _ => 0))), (q6, .inl (cy 12, 8, .inl (fun _ => 0)))] H := hP
  have hD : va_D A [(h0, .inr (8, [.ref q1, .ref q2, .ref q3, .ref q4, .ref q5, .null, .null, .int 0])), (q1, .inl (cy 12, 24, .inl (fun _ => 0))), (q2, .inl (cy 12, 24, .inl (fun _ => 0))), (q3, .inl (cy 12, 24, .inl (fun _ => 0))), (q4, .inl (cy 12, 24, .inl (fun _ => 0))), (q5, .inl (cy 12, 24, .inl (fun _ => 0))), (q6, .inl (cy 12, 8, .inl (fun _ => 0)))] := hD
  refine va_putF (D := D) (ci := 6 + 2) X.1 X.2.1 X.2.2.2.2.1 si_in6 tyX6 tyX6_ok nmX6 X.2.2.2.1 X.2.2.2.2.2.1 hP hD hS 0 rfl rfl 5 (by decide) (X.2.2.2.2.1 _ gf_RX6_27) (fun _ h9 => h9) rfl hin rfl (tyX6_ok 5 (by decide)) rfl rfl (Nat.le_of_ble_eq_true rfl) dX6_init_49 (fun H locs hP hD hS => ?_)
  have hP : va_P D vwCl [(h0, .inr (8, [.ref q1, .ref q2, .ref q3, .ref q4, .ref q5, .ref q6, .null, .int 0])), (q1, .inl (cy 12, 24, .inl (fun _ => 0))), (q2, .inl (cy 12, 24, .inl (fun _ => 0))), (q3, .inl (cy 12, 24, .inl (fun _ => 0))), (q4, .inl (cy 12, 24, .inl (fun _ => 0))), (q5, .inl (cy 12, 24, .inl (fun _ => 0))), (q6, .inl (cy 12, 8, .inl (fun _ => 0)))] H := hP
  have hD : va_D A [(h0, .inr (8, [.ref q1, .ref q2, .ref q3, .ref q4, .ref q5, .ref q6, .null, .int 0])), (q1, .inl (cy 12, 24, .inl (fun _ => 0))), (q2, .inl (cy 12, 24, .inl (fun _ => 0))), (q3, .inl (cy 12, 24, .inl (fun _ => 0))), (q4, .inl (cy 12, 24, .inl (fun _ => 0))), (q5, .inl (cy 12, 24, .inl (fun _ => 0))), (q6, .inl (cy 12, 8, .inl (fun _ => 0)))] := hD
  refine lv_aload_n X.1 X.2.1 dX6_init_52 rfl (lv_at hl 0 rfl) ?_
  refine lv_bipush (v := 8) X.1 X.2.1 dX6_init_53 (by decide) ?_
  refine si_newa (atype := .int) (kd := 12) (a0 := (8, .inl (fun _ => 0))) X ga_int ⟨1, rfl⟩ (fun C h => by cases h) hP hD hS (fun cA => rfl) (by decide) (by decide) (Nat.le_of_ble_eq_true rfl) (Nat.le_of_ble_eq_true rfl) (Nat.le_of_ble_eq_true rfl) dX6_init_55 (fun q7 H hP hD hS => ?_)
  have hP : va_P D vwCl [(h0, .inr (8, [.ref q1, .ref q2, .ref q3, .ref q4, .ref q5, .ref q6, .null, .int 0])), (q1, .inl (cy 12, 24, .inl (fun _ => 0))), (q2, .inl (cy 12, 24, .inl (fun _ => 0))), (q3, .inl (cy 12, 24, .inl (fun _ => 0))), (q4, .inl (cy 12, 24, .inl (fun _ => 0))), (q5, .inl (cy 12, 24, .inl (fun _ => 0))), (q6, .inl (cy 12, 8, .inl (fun _ => 0))), (q7, .inl (cy 12, 8, .inl (fun _ => 0)))] H := hP
  have hD : va_D A [(h0, .inr (8, [.ref q1, .ref q2, .ref q3, .ref q4, .ref q5, .ref q6, .null, .int 0])), (q1, .inl (cy 12, 24, .inl (fun _ => 0))), (q2, .inl (cy 12, 24, .inl (fun _ => 0))), (q3, .inl (cy 12, 24, .inl (fun _ => 0))), (q4, .inl (cy 12, 24, .inl (fun _ => 0))), (q5, .inl (cy 12, 24, .inl (fun _ => 0))), (q6, .inl (cy 12, 8, .inl (fun _ => 0))), (q7, .inl (cy 12, 8, .inl (fun _ => 0)))] := hD
  refine va_putF (D := D) (ci := 6 + 2) X.1 X.2.1 X.2.2.2.2.1 si_in6 tyX6 tyX6_ok nmX6 X.2.2.2.1 X.2.2.2.2.2.1 hP hD hS 0 rfl rfl 6 (by decide) (X.2.2.2.2.1 _ gf_RX6_30) (fun _ h9 => h9) rfl hin rfl (tyX6_ok 6 (by decide)) rfl rfl (Nat.le_of_ble_eq_true rfl) dX6_init_57 (fun H locs hP hD hS => ?_)
  have hP : va_P D vwCl [(h0, .inr (8, [.ref q1, .ref q2, .ref q3, .ref q4, .ref q5, .ref q6, .ref q7, .int 0])), (q1, .inl (cy 12, 24, .inl (fun _ => 0))), (q2, .inl (cy 12, 24, .inl (fun _ => 0))), (q3, .inl (cy 12, 24, .inl (fun _ => 0))), (q4, .inl (cy 12, 24, .inl (fun _ => 0))), (q5, .inl (cy 12, 24, .inl (fun _ => 0))), (q6, .inl (cy 12, 8, .inl (fun _ => 0))), (q7, .inl (cy 12, 8, .inl (fun _ => 0)))] H := hP
  have hD : va_D A [(h0, .inr (8, [.ref q1, .ref q2, .ref q3, .ref q4, .ref q5, .ref q6, .ref q7, .int 0])), (q1, .inl (cy 12, 24, .inl (fun _ => 0))), (q2, .inl (cy 12, 24, .inl (fun _ => 0))), (q3, .inl (cy 12, 24, .inl (fun _ => 0))), (q4, .inl (cy 12, 24, .inl (fun _ => 0))), (q5, .inl (cy 12, 24, .inl (fun _ => 0))), (q6, .inl (cy 12, 8, .inl (fun _ => 0))), (q7, .inl (cy 12, 8, .inl (fun _ => 0)))] := hD
  exact hret _ _ _ _ (fun j => [h0, q1, q2, q3, q4, q5, q6, q7].getD j 0) hP hD hS dX6_init_60
theorem kv_6 : ∀ j, j < 8 → defaultValue (tyX6 j) = vp_V kz_6 j := by
  intro j hj
  match j, hj with
  | 0, _ => rfl
  | 1, _ => rfl
  | 2, _ => rfl
  | 3, _ => rfl
  | 4, _ => rfl
  | 5, _ => rfl
  | 6, _ => rfl
  | 7, _ => rfl
  | k + 8, h => exact absurd h (by omega)
theorem dX5_init_0 : decode cX5_init 0 = .ok (.aload_n 0, 1) := by decide +kernel
theorem dX5_init_1 : decode cX5_init 1 = .ok (.invokespecial 5, 3) := by decide +kernel
theorem dX5_init_4 : decode cX5_init 4 = .ok (.aload_n 0, 1) := by decide +kernel
theorem dX5_init_5 : decode cX5_init 5 = .ok (.bipush 13, 2) := by decide +kernel
theorem dX5_init_7 : decode cX5_init 7 = .ok (.newarray .boolean, 2) := by decide +kernel
theorem dX5_init_9 : decode cX5_init 9 = .ok (.putfield 11, 3) := by decide +kernel
theorem dX5_init_12 : decode cX5_init 12 = .ok (.aload_n 0, 1) := by decide +kernel
theorem dX5_init_13 : decode cX5_init 13 = .ok (.sipush 2197, 3) := by decide +kernel
theorem dX5_init_16 : decode cX5_init 16 = .ok (.newarray .int, 2) := by decide +kernel
theorem dX5_init_18 : decode cX5_init 18 = .ok (.putfield 15, 3) := by decide +kernel
theorem dX5_init_21 : decode cX5_init 21 = .ok (.aload_n 0, 1) := by decide +kernel
theorem dX5_init_22 : decode cX5_init 22 = .ok (.sipush 338, 3) := by decide +kernel
theorem dX5_init_25 : decode cX5_init 25 = .ok (.newarray .int, 2) := by decide +kernel
theorem dX5_init_27 : decode cX5_init 27 = .ok (.putfield 19, 3) := by decide +kernel
theorem dX5_init_30 : decode cX5_init 30 = .ok (.return_, 1) := by decide +kernel
def kw_5 (cy : Nat → ClassId) (h0 : Nat) (ad : Nat → Nat) : va_W := [(h0, .inr (7, [.ref (ad 1), .ref (ad 2), .ref (ad 3), .int 0, .int 0, .int 0, .int 0, .int 0, .int 0, .int 0, .int 0])), ((ad 1), .inl (cy 14, 13, .inl (fun _ => 0))), ((ad 2), .inl (cy 12, 2197, .inl (fun _ => 0))), ((ad 3), .inl (cy 12, 338, .inl (fun _ => 0)))]
abbrev rk_5 : Room := { frames := 1, cells := 3, slots := 2548, locals := 12 }
abbrev kz_5 : List Value := [.null, .null, .null, .int 0, .int 0, .int 0, .int 0, .int 0, .int 0, .int 0, .int 0]
set_option maxHeartbeats 4000000 in
set_option maxRecDepth 100000 in
theorem k_5 (l : Launch) (D : va_G) (cy : Nat → ClassId) : si_Kc l D cy yX5_init cX5_init 1 rk_5 (5 + 2) kz_5 (kw_5 cy) 3 2548 := by
  refine si_ofK (by decide +kernel) rfl (by decide) ?_
  intro p e s m args below meth c ls Q A h0 X hin hP hD hS hl hret
  refine lv_aload_n X.1 X.2.1 dX5_init_0 rfl (lv_at hl 0 rfl) ?_
  refine si_objI X hl.1 gm_RX5_5 gn_obj gc_obj (by decide) (by decide) dX5_init_1 ?_
  refine lv_aload_n X.1 X.2.1 dX5_init_4 rfl (lv_at hl 0 rfl) ?_
  refine lv_bipush (v := 13) X.1 X.2.1 dX5_init_5 (by decide) ?_
  refine si_newa (atype := .boolean) (kd := 14) (a0 := (13, .inl (fun _ => 0))) X ga_boolean ⟨3, rfl⟩ (fun C h => by cases h) hP hD hS (fun cA => rfl) (by decide) (by decide) (Nat.le_of_ble_eq_true rfl) (Nat.le_of_ble_eq_true rfl) (Nat.le_of_ble_eq_true rfl) dX5_init_7 (fun q1 H hP hD hS => ?_)
  have hP : va_P D vwCl [(h0, .inr (7, [.null, .null, .null, .int 0, .int 0, .int 0, .int 0, .int 0, .int 0, .int 0, .int 0])), (q1, .inl (cy 14, 13, .inl (fun _ => 0)))] H := hP
  have hD : va_D A [(h0, .inr (7, [.null, .null, .null, .int 0, .int 0, .int 0, .int 0, .int 0, .int 0, .int 0, .int 0])), (q1, .inl (cy 14, 13, .inl (fun _ => 0)))] := hD
  refine va_putF (D := D) (ci := 5 + 2) X.1 X.2.1 X.2.2.2.2.1 si_in5 tyX5 tyX5_ok nmX5 X.2.2.2.1 X.2.2.2.2.2.1 hP hD hS 0 rfl rfl 0 (by decide) (X.2.2.2.2.1 _ gf_RX5_11) (fun _ h9 => h9) rfl hin rfl (tyX5_ok 0 (by decide)) rfl rfl (Nat.le_of_ble_eq_true rfl) dX5_init_9 (fun H locs hP hD hS => ?_)
  have hP : va_P D vwCl [(h0, .inr (7, [.ref q1, .null, .null, .int 0, .int 0, .int 0, .int 0, .int 0, .int 0, .int 0, .int 0])), (q1, .inl (cy 14, 13, .inl (fun _ => 0)))] H := hP
  have hD : va_D A [(h0, .inr (7, [.ref q1, .null, .null, .int 0, .int 0, .int 0, .int 0, .int 0, .int 0, .int 0, .int 0])), (q1, .inl (cy 14, 13, .inl (fun _ => 0)))] := hD
  refine lv_aload_n X.1 X.2.1 dX5_init_12 rfl (lv_at hl 0 rfl) ?_
  refine lv_sipush (v := 2197) X.1 X.2.1 dX5_init_13 (by decide) ?_
  refine si_newa (atype := .int) (kd := 12) (a0 := (2197, .inl (fun _ => 0))) X ga_int ⟨1, rfl⟩ (fun C h => by cases h) hP hD hS (fun cA => rfl) (by decide) (by decide) (Nat.le_of_ble_eq_true rfl) (Nat.le_of_ble_eq_true rfl) (Nat.le_of_ble_eq_true rfl) dX5_init_16 (fun q2 H hP hD hS => ?_)
  have hP : va_P D vwCl [(h0, .inr (7, [.ref q1, .null, .null, .int 0, .int 0, .int 0, .int 0, .int 0, .int 0, .int 0, .int 0])), (q1, .inl (cy 14, 13, .inl (fun _ => 0))), (q2, .inl (cy 12, 2197, .inl (fun _ => 0)))] H := hP
  have hD : va_D A [(h0, .inr (7, [.ref q1, .null, .null, .int 0, .int 0, .int 0, .int 0, .int 0, .int 0, .int 0, .int 0])), (q1, .inl (cy 14, 13, .inl (fun _ => 0))), (q2, .inl (cy 12, 2197, .inl (fun _ => 0)))] := hD
  refine va_putF (D := D) (ci := 5 + 2) X.1 X.2.1 X.2.2.2.2.1 si_in5 tyX5 tyX5_ok nmX5 X.2.2.2.1 X.2.2.2.2.2.1 hP hD hS 0 rfl rfl 1 (by decide) (X.2.2.2.2.1 _ gf_RX5_15) (fun _ h9 => h9) rfl hin rfl (tyX5_ok 1 (by decide)) rfl rfl (Nat.le_of_ble_eq_true rfl) dX5_init_18 (fun H locs hP hD hS => ?_)
  have hP : va_P D vwCl [(h0, .inr (7, [.ref q1, .ref q2, .null, .int 0, .int 0, .int 0, .int 0, .int 0, .int 0, .int 0, .int 0])), (q1, .inl (cy 14, 13, .inl (fun _ => 0))), (q2, .inl (cy 12, 2197, .inl (fun _ => 0)))] H := hP
  have hD : va_D A [(h0, .inr (7, [.ref q1, .ref q2, .null, .int 0, .int 0, .int 0, .int 0, .int 0, .int 0, .int 0, .int 0])), (q1, .inl (cy 14, 13, .inl (fun _ => 0))), (q2, .inl (cy 12, 2197, .inl (fun _ => 0)))] := hD
  refine lv_aload_n X.1 X.2.1 dX5_init_21 rfl (lv_at hl 0 rfl) ?_
  refine lv_sipush (v := 338) X.1 X.2.1 dX5_init_22 (by decide) ?_
  refine si_newa (atype := .int) (kd := 12) (a0 := (338, .inl (fun _ => 0))) X ga_int ⟨1, rfl⟩ (fun C h => by cases h) hP hD hS (fun cA => rfl) (by decide) (by decide) (Nat.le_of_ble_eq_true rfl) (Nat.le_of_ble_eq_true rfl) (Nat.le_of_ble_eq_true rfl) dX5_init_25 (fun q3 H hP hD hS => ?_)
  have hP : va_P D vwCl [(h0, .inr (7, [.ref q1, .ref q2, .null, .int 0, .int 0, .int 0, .int 0, .int 0, .int 0, .int 0, .int 0])), (q1, .inl (cy 14, 13, .inl (fun _ => 0))), (q2, .inl (cy 12, 2197, .inl (fun _ => 0))), (q3, .inl (cy 12, 338, .inl (fun _ => 0)))] H := hP
  have hD : va_D A [(h0, .inr (7, [.ref q1, .ref q2, .null, .int 0, .int 0, .int 0, .int 0, .int 0, .int 0, .int 0, .int 0])), (q1, .inl (cy 14, 13, .inl (fun _ => 0))), (q2, .inl (cy 12, 2197, .inl (fun _ => 0))), (q3, .inl (cy 12, 338, .inl (fun _ => 0)))] := hD
  refine va_putF (D := D) (ci := 5 + 2) X.1 X.2.1 X.2.2.2.2.1 si_in5 tyX5 tyX5_ok nmX5 X.2.2.2.1 X.2.2.2.2.2.1 hP hD hS 0 rfl rfl 2 (by decide) (X.2.2.2.2.1 _ gf_RX5_19) (fun _ h9 => h9) rfl hin rfl (tyX5_ok 2 (by decide)) rfl rfl (Nat.le_of_ble_eq_true rfl) dX5_init_27 (fun H locs hP hD hS => ?_)
  have hP : va_P D vwCl [(h0, .inr (7, [.ref q1, .ref q2, .ref q3, .int 0, .int 0, .int 0, .int 0, .int 0, .int 0, .int 0, .int 0])), (q1, .inl (cy 14, 13, .inl (fun _ => 0))), (q2, .inl (cy 12, 2197, .inl (fun _ => 0))), (q3, .inl (cy 12, 338, .inl (fun _ => 0)))] H := hP
  have hD : va_D A [(h0, .inr (7, [.ref q1, .ref q2, .ref q3, .int 0, .int 0, .int 0, .int 0, .int 0, .int 0, .int 0, .int 0])), (q1, .inl (cy 14, 13, .inl (fun _ => 0))), (q2, .inl (cy 12, 2197, .inl (fun _ => 0))), (q3, .inl (cy 12, 338, .inl (fun _ => 0)))] := hD
  exact hret _ _ _ _ (fun j => [h0, q1, q2, q3].getD j 0) hP hD hS dX5_init_30
theorem kv_5 : ∀ j, j < 11 → defaultValue (tyX5 j) = vp_V kz_5 j := by
  intro j hj
  match j, hj with
  | 0, _ => rfl
  | 1, _ => rfl
  | 2, _ => rfl
  | 3, _ => rfl
  | 4, _ => rfl
  | 5, _ => rfl
  | 6, _ => rfl
  | 7, _ => rfl
  | 8, _ => rfl
  | 9, _ => rfl
  | 10, _ => rfl
  | k + 11, h => exact absurd h (by omega)
theorem dX2_init_0 : decode cX2_init 0 = .ok (.aload_n 0, 1) := by decide +kernel
theorem dX2_init_1 : decode cX2_init 1 = .ok (.invokespecial 3, 3) := by decide +kernel
theorem dX2_init_4 : decode cX2_init 4 = .ok (.aload_n 0, 1) := by decide +kernel
theorem dX2_init_5 : decode cX2_init 5 = .ok (.bipush 24, 2) := by decide +kernel
theorem dX2_init_7 : decode cX2_init 7 = .ok (.newarray .int, 2) := by decide +kernel
theorem dX2_init_9 : decode cX2_init 9 = .ok (.putfield 9, 3) := by decide +kernel
theorem dX2_init_12 : decode cX2_init 12 = .ok (.aload_n 0, 1) := by decide +kernel
theorem dX2_init_13 : decode cX2_init 13 = .ok (.bipush 24, 2) := by decide +kernel
theorem dX2_init_15 : decode cX2_init 15 = .ok (.newarray .int, 2) := by decide +kernel
theorem dX2_init_17 : decode cX2_init 17 = .ok (.putfield 15, 3) := by decide +kernel
theorem dX2_init_20 : decode cX2_init 20 = .ok (.aload_n 0, 1) := by decide +kernel
theorem dX2_init_21 : decode cX2_init 21 = .ok (.bipush 24, 2) := by decide +kernel
theorem dX2_init_23 : decode cX2_init 23 = .ok (.newarray .int, 2) := by decide +kernel
theorem dX2_init_25 : decode cX2_init 25 = .ok (.putfield 18, 3) := by decide +kernel
theorem dX2_init_28 : decode cX2_init 28 = .ok (.aload_n 0, 1) := by decide +kernel
theorem dX2_init_29 : decode cX2_init 29 = .ok (.bipush 24, 2) := by decide +kernel
theorem dX2_init_31 : decode cX2_init 31 = .ok (.newarray .int, 2) := by decide +kernel
theorem dX2_init_33 : decode cX2_init 33 = .ok (.putfield 21, 3) := by decide +kernel
theorem dX2_init_36 : decode cX2_init 36 = .ok (.aload_n 0, 1) := by decide +kernel
theorem dX2_init_37 : decode cX2_init 37 = .ok (.bipush 10, 2) := by decide +kernel
theorem dX2_init_39 : decode cX2_init 39 = .ok (.newarray .int, 2) := by decide +kernel
theorem dX2_init_41 : decode cX2_init 41 = .ok (.putfield 24, 3) := by decide +kernel
theorem dX2_init_44 : decode cX2_init 44 = .ok (.aload_n 0, 1) := by decide +kernel
theorem dX2_init_45 : decode cX2_init 45 = .ok (.iconst 4, 1) := by decide +kernel
theorem dX2_init_46 : decode cX2_init 46 = .ok (.newarray .int, 2) := by decide +kernel
theorem dX2_init_48 : decode cX2_init 48 = .ok (.putfield 27, 3) := by decide +kernel
theorem dX2_init_51 : decode cX2_init 51 = .ok (.aload_n 0, 1) := by decide +kernel
theorem dX2_init_52 : decode cX2_init 52 = .ok (.iconst 4, 1) := by decide +kernel
theorem dX2_init_53 : decode cX2_init 53 = .ok (.newarray .int, 2) := by decide +kernel
theorem dX2_init_55 : decode cX2_init 55 = .ok (.putfield 30, 3) := by decide +kernel
theorem dX2_init_58 : decode cX2_init 58 = .ok (.aload_n 0, 1) := by decide +kernel
theorem dX2_init_59 : decode cX2_init 59 = .ok (.iconst 3, 1) := by decide +kernel
theorem dX2_init_60 : decode cX2_init 60 = .ok (.newarray .int, 2) := by decide +kernel
theorem dX2_init_62 : decode cX2_init 62 = .ok (.putfield 33, 3) := by decide +kernel
theorem dX2_init_65 : decode cX2_init 65 = .ok (.return_, 1) := by decide +kernel
def kw_2 (cy : Nat → ClassId) (h0 : Nat) (ad : Nat → Nat) : va_W := [(h0, .inr (4, [.int 0, .int 0, .int 0, .int 0, .ref (ad 1), .ref (ad 2), .ref (ad 3), .ref (ad 4), .ref (ad 5), .ref (ad 6), .ref (ad 7), .ref (ad 8)])), ((ad 1), .inl (cy 12, 24, .inl (fun _ => 0))), ((ad 2), .inl (cy 12, 24, .inl (fun _ => 0))), ((ad 3), .inl (cy 12, 24, .inl (fun _ => 0))), ((ad 4), .inl (cy 12, 24, .inl (fun _ => 0))), ((ad 5), .inl (cy 12, 10, .inl (fun _ => 0))), ((ad 6), .inl (cy 12, 4, .inl (fun _ => 0))), ((ad 7), .inl (cy 12, 4, .inl (fun _ => 0))), ((ad 8), .inl (cy 12, 3, .inl (fun _ => 0)))]
abbrev rk_2 : Room := { frames := 1, cells := 8, slots := 117, locals := 12 }
abbrev kz_2 : List Value := [.int 0, .int 0, .int 0, .int 0, .null, .null, .null, .null, .null, .null, .null, .null]
set_option maxHeartbeats 4000000 in
set_option maxRecDepth 100000 in
theorem k_2 (l : Launch) (D : va_G) (cy : Nat → ClassId) : si_Kc l D cy yX2_init cX2_init 1 rk_2 (2 + 2) kz_2 (kw_2 cy) 8 117 := by
  refine si_ofK (by decide +kernel) rfl (by decide) ?_
  intro p e s m args below meth c ls Q A h0 X hin hP hD hS hl hret
  refine lv_aload_n X.1 X.2.1 dX2_init_0 rfl (lv_at hl 0 rfl) ?_
  refine si_objI X hl.1 gm_RX2_3 gn_obj gc_obj (by decide) (by decide) dX2_init_1 ?_
  refine lv_aload_n X.1 X.2.1 dX2_init_4 rfl (lv_at hl 0 rfl) ?_
  refine lv_bipush (v := 24) X.1 X.2.1 dX2_init_5 (by decide) ?_
  refine si_newa (atype := .int) (kd := 12) (a0 := (24, .inl (fun _ => 0))) X ga_int ⟨1, rfl⟩ (fun C h => by cases h) hP hD hS (fun cA => rfl) (by decide) (by decide) (Nat.le_of_ble_eq_true rfl) (Nat.le_of_ble_eq_true rfl) (Nat.le_of_ble_eq_true rfl) dX2_init_7 (fun q1 H hP hD hS => ?_)
  have hP : va_P D vwCl [(h0, .inr (4, [.int 0, .int 0, .int 0, .int 0, .null, .null, .null, .null, .null, .null, .null, .null])), (q1, .inl (cy 12, 24, .inl (fun _ => 0)))] H := hP
  have hD : va_D A [(h0, .inr (4, [.int 0, .int 0, .int 0, .int 0, .null, .null, .null, .null, .null, .null, .null, .null])), (q1, .inl (cy 12, 24, .inl (fun _ => 0)))] := hD
  refine va_putF (D := D) (ci := 2 + 2) X.1 X.2.1 X.2.2.2.2.1 si_in2 tyX2 tyX2_ok nmX2 X.2.2.2.1 X.2.2.2.2.2.1 hP hD hS 0 rfl rfl 4 (by decide) (X.2.2.2.2.1 _ gf_RX2_9) (fun _ h9 => h9) rfl hin rfl (tyX2_ok 4 (by decide)) rfl rfl (Nat.le_of_ble_eq_true rfl) dX2_init_9 (fun H locs hP hD hS => ?_)
  have hP : va_P D vwCl [(h0, .inr (4, [.int 0, .int 0, .int 0, .int 0, .ref q1, .null, .null, .null, .null, .null, .null, .null])), (q1, .inl (cy 12, 24, .inl (fun _ => 0)))] H := hP
  have hD : va_D A [(h0, .inr (4, [.int 0, .int 0, .int 0, .int 0, .ref q1, .null, .null, .null, .null, .null, .null, .null])), (q1, .inl (cy 12, 24, .inl (fun _ => 0)))] := hD
  refine lv_aload_n X.1 X.2.1 dX2_init_12 rfl (lv_at hl 0 rfl) ?_
  refine lv_bipush (v := 24) X.1 X.2.1 dX2_init_13 (by decide) ?_
  refine si_newa (atype := .int) (kd := 12) (a0 := (24, .inl (fun _ => 0))) X ga_int ⟨1, rfl⟩ (fun C h => by cases h) hP hD hS (fun cA => rfl) (by decide) (by decide) (Nat.le_of_ble_eq_true rfl) (Nat.le_of_ble_eq_true rfl) (Nat.le_of_ble_eq_true rfl) dX2_init_15 (fun q2 H hP hD hS => ?_)
  have hP : va_P D vwCl [(h0, .inr (4, [.int 0, .int 0, .int 0, .int 0, .ref q1, .null, .null, .null, .null, .null, .null, .null])), (q1, .inl (cy 12, 24, .inl (fun _ => 0))), (q2, .inl (cy 12, 24, .inl (fun _ => 0)))] H := hP
  have hD : va_D A [(h0, .inr (4, [.int 0, .int 0, .int 0, .int 0, .ref q1, .null, .null, .null, .null, .null, .null, .null])), (q1, .inl (cy 12, 24, .inl (fun _ => 0))), (q2, .inl (cy 12, 24, .inl (fun _ => 0)))] := hD
  refine va_putF (D := D) (ci := 2 + 2) X.1 X.2.1 X.2.2.2.2.1 si_in2 tyX2 tyX2_ok nmX2 X.2.2.2.1 X.2.2.2.2.2.1 hP hD hS 0 rfl rfl 5 (by decide) (X.2.2.2.2.1 _ gf_RX2_15) (fun _ h9 => h9) rfl hin rfl (tyX2_ok 5 (by decide)) rfl rfl (Nat.le_of_ble_eq_true rfl) dX2_init_17 (fun H locs hP hD hS => ?_)
  have hP : va_P D vwCl [(h0, .inr (4, [.int 0, .int 0, .int 0, .int 0, .ref q1, .ref q2, .null, .null, .null, .null, .null, .null])), (q1, .inl (cy 12, 24, .inl (fun _ => 0))), (q2, .inl (cy 12, 24, .inl (fun _ => 0)))] H := hP
  have hD : va_D A [(h0, .inr (4, [.int 0, .int 0, .int 0, .int 0, .ref q1, .ref q2, .null, .null, .null, .null, .null, .null])), (q1, .inl (cy 12, 24, .inl (fun _ => 0))), (q2, .inl (cy 12, 24, .inl (fun _ => 0)))] := hD
  refine lv_aload_n X.1 X.2.1 dX2_init_20 rfl (lv_at hl 0 rfl) ?_
  refine lv_bipush (v := 24) X.1 X.2.1 dX2_init_21 (by decide) ?_
  refine si_newa (atype := .int) (kd := 12) (a0 := (24, .inl (fun _ => 0))) X ga_int ⟨1, rfl⟩ (fun C h => by cases h) hP hD hS (fun cA => rfl) (by decide) (by decide) (Nat.le_of_ble_eq_true rfl) (Nat.le_of_ble_eq_true rfl) (Nat.le_of_ble_eq_true rfl) dX2_init_23 (fun q3 H hP hD hS => ?_)
  have hP : va_P D vwCl [(h0, .inr (4, [.int 0, .int 0, .int 0, .int 0, .ref q1, .ref q2, .null, .null, .null, .null, .null, .null])), (q1, .inl (cy 12, 24, .inl (fun _ => 0))), (q2, .inl (cy 12, 24, .inl (fun _ => 0))), (q3, .inl (cy 12, 24, .inl (fun _ => 0)))] H := hP
  have hD : va_D A [(h0, .inr (4, [.int 0, .int 0, .int 0, .int 0, .ref q1, .ref q2, .null, .null, .null, .null, .null, .null])), (q1, .inl (cy 12, 24, .inl (fun _ => 0))), (q2, .inl (cy 12, 24, .inl (fun _ => 0))), (q3, .inl (cy 12, 24, .inl (fun _ => 0)))] := hD
  refine va_putF (D := D) (ci := 2 + 2) X.1 X.2.1 X.2.2.2.2.1 si_in2 tyX2 tyX2_ok nmX2 X.2.2.2.1 X.2.2.2.2.2.1 hP hD hS 0 rfl rfl 6 (by decide) (X.2.2.2.2.1 _ gf_RX2_18) (fun _ h9 => h9) rfl hin rfl (tyX2_ok 6 (by decide)) rfl rfl (Nat.le_of_ble_eq_true rfl) dX2_init_25 (fun H locs hP hD hS => ?_)
  have hP : va_P D vwCl [(h0, .inr (4, [.int 0, .int 0, .int 0, .int 0, .ref q1, .ref q2, .ref q3, .null, .null, .null, .null, .null])), (q1, .inl (cy 12, 24, .inl (fun _ => 0))), (q2, .inl (cy 12, 24, .inl (fun _ => 0))), (q3, .inl (cy 12, 24, .inl (fun _ => 0)))] H := hP
  have hD : va_D A [(h0, .inr (4, [.int 0, .int 0, .int 0, .int 0, .ref q1, .ref q2, .ref q3, .null, .null, .null, .null, .null])), (q1, .inl (cy 12, 24, .inl (fun _ => 0))), (q2, .inl (cy 12, 24, .inl (fun _ => 0))), (q3, .inl (cy 12, 24, .inl (fun _ => 0)))] := hD
  refine lv_aload_n X.1 X.2.1 dX2_init_28 rfl (lv_at hl 0 rfl) ?_
  refine lv_bipush (v := 24) X.1 X.2.1 dX2_init_29 (by decide) ?_
  refine si_newa (atype := .int) (kd := 12) (a0 := (24, .inl (fun _ => 0))) X ga_int ⟨1, rfl⟩ (fun C h => by cases h) hP hD hS (fun cA => rfl) (by decide) (by decide) (Nat.le_of_ble_eq_true rfl) (Nat.le_of_ble_eq_true rfl) (Nat.le_of_ble_eq_true rfl) dX2_init_31 (fun q4 H hP hD hS => ?_)
  have hP : va_P D vwCl [(h0, .inr (4, [.int 0, .int 0, .int 0, .int 0, .ref q1, .ref q2, .ref q3, .null, .null, .null, .null, .null])), (q1, .inl (cy 12, 24, .inl (fun _ => 0))), (q2, .inl (cy 12, 24, .inl (fun _ => 0))), (q3, .inl (cy 12, 24, .inl (fun _ => 0))), (q4, .inl (cy 12, 24, .inl (fun _ => 0)))] H := hP
  have hD : va_D A [(h0, .inr (4, [.int 0, .int 0, .int 0, .int 0, .ref q1, .ref q2, .ref q3, .null, .null, .null, .null, .null])), (q1, .inl (cy 12, 24, .inl (fun _ => 0))), (q2, .inl (cy 12, 24, .inl (fun _ => 0))), (q3, .inl (cy 12, 24, .inl (fun _ => 0))), (q4, .inl (cy 12, 24, .inl (fun _ => 0)))] := hD
  refine va_putF (D := D) (ci := 2 + 2) X.1 X.2.1 X.2.2.2.2.1 si_in2 tyX2 tyX2_ok nmX2 X.2.2.2.1 X.2.2.2.2.2.1 hP hD hS 0 rfl rfl 7 (by decide) (X.2.2.2.2.1 _ gf_RX2_21) (fun _ h9 => h9) rfl hin rfl (tyX2_ok 7 (by decide)) rfl rfl (Nat.le_of_ble_eq_true rfl) dX2_init_33 (fun H locs hP hD hS => ?_)
  have hP : va_P D vwCl [(h0, .inr (4, [.int 0, .int 0, .int 0, .int 0, .ref q1, .ref q2, .ref q3, .ref q4, .null, .null, .null, .null])), (q1, .inl (cy 12, 24, .inl (fun _ => 0))), (q2, .inl (cy 12, 24, .inl (fun _ => 0))), (q3, .inl (cy 12, 24, .inl (fun _ => 0))), (q4, .inl (cy 12, 24, .inl (fun _ => 0)))] H := hP
  have hD : va_D A [(h0, .inr (4, [.int 0, .int 0, .int 0, .int 0, .ref q1, .ref q2, .ref q3, .ref q4, .null, .null, .null, .null])), (q1, .inl (cy 12, 24, .inl (fun _ => 0))), (q2, .inl (cy 12, 24, .inl (fun _ => 0))), (q3, .inl (cy 12, 24, .inl (fun _ => 0))), (q4, .inl (cy 12, 24, .inl (fun _ => 0)))] := hD
  refine lv_aload_n X.1 X.2.1 dX2_init_36 rfl (lv_at hl 0 rfl) ?_
  refine lv_bipush (v := 10) X.1 X.2.1 dX2_init_37 (by decide) ?_
  refine si_newa (atype := .int) (kd := 12) (a0 := (10, .inl (fun _ => 0))) X ga_int ⟨1, rfl⟩ (fun C h => by cases h) hP hD hS (fun cA => rfl) (by decide) (by decide) (Nat.le_of_ble_eq_true rfl) (Nat.le_of_ble_eq_true rfl) (Nat.le_of_ble_eq_true rfl) dX2_init_39 (fun q5 H hP hD hS => ?_)
  have hP : va_P D vwCl [(h0, .inr (4, [.int 0, .int 0, .int 0, .int 0, .ref q1, .ref q2, .ref q3, .ref q4, .null, .null, .null, .null])), (q1, .inl (cy 12, 24, .inl (fun _ => 0))), (q2, .inl (cy 12, 24, .inl (fun _ => 0))), (q3, .inl (cy 12, 24, .inl (fun _ => 0))), (q4, .inl (cy 12, 24, .inl (fun _ => 0))), (q5, .inl (cy 12, 10, .inl (fun _ => 0)))] H := hP
  have hD : va_D A [(h0, .inr (4, [.int 0, .int 0, .int 0, .int 0, .ref q1, .ref q2, .ref q3, .ref q4, .null, .null, .null, .null])), (q1, .inl (cy 12, 24, .inl (fun _ => 0))), (q2, .inl (cy 12, 24, .inl (fun _ => 0))), (q3, .inl (cy 12, 24, .inl (fun _ => 0))), (q4, .inl (cy 12, 24, .inl (fun _ => 0))), (q5, .inl (cy 12, 10, .inl (fun _ => 0)))] := hD
  refine va_putF (D := D) (ci := 2 + 2) X.1 X.2.1 X.2.2.2.2.1 si_in2 tyX2 tyX2_ok nmX2 X.2.2.2.1 X.2.2.2.2.2.1 hP hD hS 0 rfl rfl 8 (by decide) (X.2.2.2.2.1 _ gf_RX2_24) (fun _ h9 => h9) rfl hin rfl (tyX2_ok 8 (by decide)) rfl rfl (Nat.le_of_ble_eq_true rfl) dX2_init_41 (fun H locs hP hD hS => ?_)
  have hP : va_P D vwCl [(h0, .inr (4, [.int 0, .int 0, .int 0, .int 0, .ref q1, .ref q2, .ref q3, .ref q4, .ref q5, .null, .null, .null])), (q1, .inl (cy 12, 24, .inl (fun _ => 0))), (q2, .inl (cy 12, 24, .inl (fun _ => 0))), (q3, .inl (cy 12, 24, .inl (fun _ => 0))), (q4, .inl (cy 12, 24, .inl (fun _ => 0))), (q5, .inl (cy 12, 10, .inl (fun _ => 0)))] H := hP
  have hD : va_D A [(h0, .inr (4, [.int 0, .int 0, .int 0, .int 0, .ref q1, .ref q2, .ref q3, .ref q4, .ref q5, .null, .null, .null])), (q1, .inl (cy 12, 24, .inl (fun _ => 0))), (q2, .inl (cy 12, 24, .inl (fun _ => 0))), (q3, .inl (cy 12, 24, .inl (fun _ => 0))), (q4, .inl (cy 12, 24, .inl (fun _ => 0))), (q5, .inl (cy 12, 10, .inl (fun _ => 0)))] := hD
  refine lv_aload_n X.1 X.2.1 dX2_init_44 rfl (lv_at hl 0 rfl) ?_
  refine lv_iconst (v := 4) X.1 X.2.1 dX2_init_45 (by decide) ?_
  refine si_newa (atype := .int) (kd := 12) (a0 := (4, .inl (fun _ => 0))) X ga_int ⟨1, rfl⟩ (fun C h => by cases h) hP hD hS (fun cA => rfl) (by decide) (by decide) (Nat.le_of_ble_eq_true rfl) (Nat.le_of_ble_eq_true rfl) (Nat.le_of_ble_eq_true rfl) dX2_init_46 (fun q6 H hP hD hS => ?_)
  have hP : va_P D vwCl [(h0, .inr (4, [.int 0, .int 0, .int 0, .int 0, .ref q1, .ref q2, .ref q3, .ref q4, .ref q5, .null, .null, .null])), (q1, .inl (cy 12, 24, .inl (fun _ => 0))), (q2, .inl (cy 12, 24, .inl (fun _ => 0))), (q3, .inl (cy 12, 24, .inl (fun _ => 0))), (q4, .inl (cy 12, 24, .inl (fun _ => 0))), (q5, .inl (cy 12, 10, .inl (fun _ => 0))), (q6, .inl (cy 12, 4, .inl (fun _ => 0)))] H := hP
  have hD : va_D A [(h0, .inr (4, [.int 0, .int 0, .int 0, .int 0, .ref q1, .ref q2, .ref q3, .ref q4, .ref q5, .null, .null, .null])), (q1, .inl (cy 12, 24, .inl (fun _ => 0))), (q2, .inl (cy 12, 24, .inl (fun _ => 0))), (q3, .inl (cy 12, 24, .inl (fun _ => 0))), (q4, .inl (cy 12, 24, .inl (fun _ => 0))), (q5, .inl (cy 12, 10, .inl (fun _ => 0))), (q6, .inl (cy 12, 4, .inl (fun _ => 0)))] := hD
  refine va_putF (D := D) (ci := 2 + 2) X.1 X.2.1 X.2.2.2.2.1 si_in2 tyX2 tyX2_ok nmX2 X.2.2.2.1 X.2.2.2.2.2.1 hP hD hS 0 rfl rfl 9 (by decide) (X.2.2.2.2.1 _ gf_RX2_27) (fun _ h9 => h9) rfl hin rfl (tyX2_ok 9 (by decide)) rfl rfl (Nat.le_of_ble_eq_true rfl) dX2_init_48 (fun H locs hP hD hS => ?_)
  have hP : va_P D vwCl [(h0, .inr (4, [.int 0, .int 0, .int 0, .int 0, .ref q1, .ref q2, .ref q3, .ref q4, .ref q5, .ref q6, .null, .null])), (q1, .inl (cy 12, 24, .inl (fun _ => 0))), (q2, .inl (cy 12, 24, .inl (fun _ => 0))), (q3, .inl (cy 12, 24, .inl (fun _ => 0))), (q4, .inl (cy 12, 24, .inl (fun _ => 0))), (q5, .inl (cy 12, 10, .inl (fun _ => 0))), (q6, .inl (cy 12, 4, .inl (fun _ => 0)))] H := hP
  have hD : va_D A [(h0, .inr (4, [.int 0, .int 0, .int 0, .int 0, .ref q1, .ref q2, .ref q3, .ref q4, .ref q5, .ref q6, .null, .null])), (q1, .inl (cy 12, 24, .inl (fun _ => 0))), (q2, .inl (cy 12, 24, .inl (fun _ => 0))), (q3, .inl (cy 12, 24, .inl (fun _ => 0))), (q4, .inl (cy 12, 24, .inl (fun _ => 0))), (q5, .inl (cy 12, 10, .inl (fun _ => 0))), (q6, .inl (cy 12, 4, .inl (fun _ => 0)))] := hD
  refine lv_aload_n X.1 X.2.1 dX2_init_51 rfl (lv_at hl 0 rfl) ?_
  refine lv_iconst (v := 4) X.1 X.2.1 dX2_init_52 (by decide) ?_
  refine si_newa (atype := .int) (kd := 12) (a0 := (4, .inl (fun _ => 0))) X ga_int ⟨1, rfl⟩ (fun C h => by cases h) hP hD hS (fun cA => rfl) (by decide) (by decide) (Nat.le_of_ble_eq_true rfl) (Nat.le_of_ble_eq_true rfl) (Nat.le_of_ble_eq_true rfl) dX2_init_53 (fun q7 H hP hD hS => ?_)
  have hP : va_P D vwCl [(h0, .inr (4, [.int 0, .int 0, .int 0, .int 0, .ref q1, .ref q2, .ref q3, .ref q4, .ref q5, .ref q6, .null, .null])), (q1, .inl (cy 12, 24, .inl (fun _ => 0))), (q2, .inl (cy 12, 24, .inl (fun _ => 0))), (q3, .inl (cy 12, 24, .inl (fun _ => 0))), (q4, .inl (cy 12, 24, .inl (fun _ => 0))), (q5, .inl (cy 12, 10, .inl (fun _ => 0))), (q6, .inl (cy 12, 4, .inl (fun _ => 0))), (q7, .inl (cy 12, 4, .inl (fun _ => 0)))] H := hP
  have hD : va_D A [(h0, .inr (4, [.int 0, .int 0, .int 0, .int 0, .ref q1, .ref q2, .ref q3, .ref q4, .ref q5, .ref q6, .null, .null])), (q1, .inl (cy 12, 24, .inl (fun _ => 0))), (q2, .inl (cy 12, 24, .inl (fun _ => 0))), (q3, .inl (cy 12, 24, .inl (fun _ => 0))), (q4, .inl (cy 12, 24, .inl (fun _ => 0))), (q5, .inl (cy 12, 10, .inl (fun _ => 0))), (q6, .inl (cy 12, 4, .inl (fun _ => 0))), (q7, .inl (cy 12, 4, .inl (fun _ => 0)))] := hD
  refine va_putF (D := D) (ci := 2 + 2) X.1 X.2.1 X.2.2.2.2.1 si_in2 tyX2 tyX2_ok nmX2 X.2.2.2.1 X.2.2.2.2.2.1 hP hD hS 0 rfl rfl 10 (by decide) (X.2.2.2.2.1 _ gf_RX2_30) (fun _ h9 => h9) rfl hin rfl (tyX2_ok 10 (by decide)) rfl rfl (Nat.le_of_ble_eq_true rfl) dX2_init_55 (fun H locs hP hD hS => ?_)
  have hP : va_P D vwCl [(h0, .inr (4, [.int 0, .int 0, .int 0, .int 0, .ref q1, .ref q2, .ref q3, .ref q4, .ref q5, .ref q6, .ref q7, .null])), (q1, .inl (cy 12, 24, .inl (fun _ => 0))), (q2, .inl (cy 12, 24, .inl (fun _ => 0))), (q3, .inl (cy 12, 24, .inl (fun _ => 0))), (q4, .inl (cy 12, 24, .inl (fun _ => 0))), (q5, .inl (cy 12, 10, .inl (fun _ => 0))), (q6, .inl (cy 12, 4, .inl (fun _ => 0))), (q7, .inl (cy 12, 4, .inl (fun _ => 0)))] H := hP
  have hD : va_D A [(h0, .inr (4, [.int 0, .int 0, .int 0, .int 0, .ref q1, .ref q2, .ref q3, .ref q4, .ref q5, .ref q6, .ref q7, .null])), (q1, .inl (cy 12, 24, .inl (fun _ => 0))), (q2, .inl (cy 12, 24, .inl (fun _ => 0))), (q3, .inl (cy 12, 24, .inl (fun _ => 0))), (q4, .inl (cy 12, 24, .inl (fun _ => 0))), (q5, .inl (cy 12, 10, .inl (fun _ => 0))), (q6, .inl (cy 12, 4, .inl (fun _ => 0))), (q7, .inl (cy 12, 4, .inl (fun _ => 0)))] := hD
  refine lv_aload_n X.1 X.2.1 dX2_init_58 rfl (lv_at hl 0 rfl) ?_
  refine lv_iconst (v := 3) X.1 X.2.1 dX2_init_59 (by decide) ?_
  refine si_newa (atype := .int) (kd := 12) (a0 := (3, .inl (fun _ => 0))) X ga_int ⟨1, rfl⟩ (fun C h => by cases h) hP hD hS (fun cA => rfl) (by decide) (by decide) (Nat.le_of_ble_eq_true rfl) (Nat.le_of_ble_eq_true rfl) (Nat.le_of_ble_eq_true rfl) dX2_init_60 (fun q8 H hP hD hS => ?_)
  have hP : va_P D vwCl [(h0, .inr (4, [.int 0, .int 0, .int 0, .int 0, .ref q1, .ref q2, .ref q3, .ref q4, .ref q5, .ref q6, .ref q7, .null])), (q1, .inl (cy 12, 24, .inl (fun _ => 0))), (q2, .inl (cy 12, 24, .inl (fun _ => 0))), (q3, .inl (cy 12, 24, .inl (fun _ => 0))), (q4, .inl (cy 12, 24, .inl (fun _ => 0))), (q5, .inl (cy 12, 10, .inl (fun _ => 0))), (q6, .inl (cy 12, 4, .inl (fun _ => 0))), (q7, .inl (cy 12, 4, .inl (fun _ => 0))), (q8, .inl (cy 12, 3, .inl (fun _ => 0)))] H := hP
  have hD : va_D A [(h0, .inr (4, [.int 0, .int 0, .int 0, .int 0, .ref q1, .ref q2, .ref q3, .ref q4, .ref q5, .ref q6, .ref q7, .null])), (q1, .inl (cy 12, 24, .inl (fun _ => 0))), (q2, .inl (cy 12, 24, .inl (fun _ => 0))), (q3, .inl (cy 12, 24, .inl (fun _ => 0))), (q4, .inl (cy 12, 24, .inl (fun _ => 0))), (q5, .inl (cy 12, 10, .inl (fun _ => 0))), (q6, .inl (cy 12, 4, .inl (fun _ => 0))), (q7, .inl (cy 12, 4, .inl (fun _ => 0))), (q8, .inl (cy 12, 3, .inl (fun _ => 0)))] := hD
  refine va_putF (D := D) (ci := 2 + 2) X.1 X.2.1 X.2.2.2.2.1 si_in2 tyX2 tyX2_ok nmX2 X.2.2.2.1 X.2.2.2.2.2.1 hP hD hS 0 rfl rfl 11 (by decide) (X.2.2.2.2.1 _ gf_RX2_33) (fun _ h9 => h9) rfl hin rfl (tyX2_ok 11 (by decide)) rfl rfl (Nat.le_of_ble_eq_true rfl) dX2_init_62 (fun H locs hP hD hS => ?_)
  have hP : va_P D vwCl [(h0, .inr (4, [.int 0, .int 0, .int 0, .int 0, .ref q1, .ref q2, .ref q3, .ref q4, .ref q5, .ref q6, .ref q7, .ref q8])), (q1, .inl (cy 12, 24, .inl (fun _ => 0))), (q2, .inl (cy 12, 24, .inl (fun _ => 0))), (q3, .inl (cy 12, 24, .inl (fun _ => 0))), (q4, .inl (cy 12, 24, .inl (fun _ => 0))), (q5, .inl (cy 12, 10, .inl (fun _ => 0))), (q6, .inl (cy 12, 4, .inl (fun _ => 0))), (q7, .inl (cy 12, 4, .inl (fun _ => 0))), (q8, .inl (cy 12, 3, .inl (fun _ => 0)))] H := hP
  have hD : va_D A [(h0, .inr (4, [.int 0, .int 0, .int 0, .int 0, .ref q1, .ref q2, .ref q3, .ref q4, .ref q5, .ref q6, .ref q7, .ref q8])), (q1, .inl (cy 12, 24, .inl (fun _ => 0))), (q2, .inl (cy 12, 24, .inl (fun _ => 0))), (q3, .inl (cy 12, 24, .inl (fun _ => 0))), (q4, .inl (cy 12, 24, .inl (fun _ => 0))), (q5, .inl (cy 12, 10, .inl (fun _ => 0))), (q6, .inl (cy 12, 4, .inl (fun _ => 0))), (q7, .inl (cy 12, 4, .inl (fun _ => 0))), (q8, .inl (cy 12, 3, .inl (fun _ => 0)))] := hD
  exact hret _ _ _ _ (fun j => [h0, q1, q2, q3, q4, q5, q6, q7, q8].getD j 0) hP hD hS dX2_init_65
theorem kv_2 : ∀ j, j < 12 → defaultValue (tyX2 j) = vp_V kz_2 j := by
  intro j hj
  match j, hj with
  | 0, _ => rfl
  | 1, _ => rfl
  | 2, _ => rfl
  | 3, _ => rfl
  | 4, _ => rfl
  | 5, _ => rfl
  | 6, _ => rfl
  | 7, _ => rfl
  | 8, _ => rfl
  | 9, _ => rfl
  | 10, _ => rfl
  | 11, _ => rfl
  | k + 12, h => exact absurd h (by omega)
theorem dX4_init_0 : decode cX4_init 0 = .ok (.aload_n 0, 1) := by decide +kernel
theorem dX4_init_1 : decode cX4_init 1 = .ok (.invokespecial 1, 3) := by decide +kernel
theorem dX4_init_4 : decode cX4_init 4 = .ok (.aload_n 0, 1) := by decide +kernel
theorem dX4_init_5 : decode cX4_init 5 = .ok (.new 7, 3) := by decide +kernel
theorem dX4_init_8 : decode cX4_init 8 = .ok (.dup, 1) := by decide +kernel
theorem dX4_init_9 : decode cX4_init 9 = .ok (.invokespecial 9, 3) := by decide +kernel
theorem dX4_init_12 : decode cX4_init 12 = .ok (.putfield 10, 3) := by decide +kernel
theorem dX4_init_15 : decode cX4_init 15 = .ok (.aload_n 0, 1) := by decide +kernel
theorem dX4_init_16 : decode cX4_init 16 = .ok (.new 16, 3) := by decide +kernel
theorem dX4_init_19 : decode cX4_init 19 = .ok (.dup, 1) := by decide +kernel
theorem dX4_init_20 : decode cX4_init 20 = .ok (.invokespecial 18, 3) := by decide +kernel
theorem dX4_init_23 : decode cX4_init 23 = .ok (.putfield 19, 3) := by decide +kernel
theorem dX4_init_26 : decode cX4_init 26 = .ok (.return_, 1) := by decide +kernel
def kw_4 (cy : Nat → ClassId) (h0 : Nat) (ad : Nat → Nat) : va_W := (h0, (.inr (6, [.ref (ad 1), .ref (ad 10), .int 0]) : va_E)) :: (([] ++ kw_7 cy (ad 1) (fun j => ad (1 + j))) ++ kw_8 cy (ad 10) (fun j => ad (10 + j)))
abbrev rk_4 : Room := { frames := 2, cells := 14, slots := 899, locals := 32 }
abbrev kz_4 : List Value := [.null, .null, .int 0]
set_option maxHeartbeats 4000000 in
set_option maxRecDepth 100000 in
theorem k_4 (l : Launch) (D : va_G) (cy : Nat → ClassId) : si_Kc l D cy yX4_init cX4_init 1 rk_4 (4 + 2) kz_4 (kw_4 cy) 14 899 := by
  refine si_ofK (by decide +kernel) rfl (by decide) ?_
  intro p e s m args below meth c ls Q A h0 X hin hP hD hS hl hret
  have hP : va_P D vwCl ((h0, (.inr (6, [.null, .null, .int 0]) : va_E)) :: []) s.heap := hP
  have hD : va_D A ((h0, (.inr (6, [.null, .null, .int 0]) : va_E)) :: []) := hD
  refine lv_aload_n X.1 X.2.1 dX4_init_0 rfl (lv_at hl 0 rfl) ?_
  refine si_objI X hl.1 gm_RX4_1 gn_obj gc_obj (by decide) (by decide) dX4_init_1 ?_
  refine lv_aload_n X.1 X.2.1 dX4_init_4 rfl (lv_at hl 0 rfl) ?_
  refine si_newc X hl.1 hP hD hS si_cl7 tyX7 tyX7_ok (fun j hj => kv_7 j hj) gq_RX4_7 gz_7 gi_RX7 (k_7 l D cy) gc_X7_init rfl (Or.inl (List.mem_of_getElem? (i := 6) rfl)) gn_X7_init rfl (by decide +kernel) ⟨rfl, rfl, Nat.le_of_ble_eq_true rfl, Nat.le_of_ble_eq_true rfl⟩ (Nat.le_of_ble_eq_true rfl) (Nat.le_of_ble_eq_true rfl) (Nat.le_of_ble_eq_true rfl) dX4_init_5 dX4_init_8 dX4_init_9 (fun q1 a1 H locs hP hD hS => ?_)
  have hP : va_P D vwCl (((h0, (.inr (6, [.null, .null, .int 0]) : va_E)) :: []) ++ kw_7 cy q1 a1) H := hP
  have hD : va_D A (((h0, (.inr (6, [.null, .null, .int 0]) : va_E)) :: []) ++ kw_7 cy q1 a1) := hD
  refine va_putF (D := D) (ci := 4 + 2) X.1 X.2.1 X.2.2.2.2.1 si_in4 tyX4 tyX4_ok nmX4 X.2.2.2.1 X.2.2.2.2.2.1 hP hD hS 0 rfl rfl 0 (by decide) (X.2.2.2.2.1 _ gf_RX4_10) (fun _ h9 => h9) rfl hin rfl (tyX4_ok 0 (by decide)) rfl rfl (Nat.le_of_ble_eq_true rfl) dX4_init_12 (fun H locs hP hD hS => ?_)
  have hP : va_P D vwCl ((h0, (.inr (6, [.ref q1, .null, .int 0]) : va_E)) :: ([] ++ kw_7 cy q1 a1)) H := hP
  have hD : va_D A ((h0, (.inr (6, [.ref q1, .null, .int 0]) : va_E)) :: ([] ++ kw_7 cy q1 a1)) := hD
  refine lv_aload_n X.1 X.2.1 dX4_init_15 rfl (lv_at hl 0 rfl) ?_
  refine si_newc X hl.1 hP hD hS si_cl8 tyX8 tyX8_ok (fun j hj => kv_8 j hj) gq_RX4_16 gz_8 gi_RX8 (k_8 l D cy) gc_X8_init rfl (Or.inl (List.mem_of_getElem? (i := 7) rfl)) gn_X8_init rfl (by decide +kernel) ⟨rfl, rfl, Nat.le_of_ble_eq_true rfl, Nat.le_of_ble_eq_true rfl⟩ (Nat.le_of_ble_eq_true rfl) (Nat.le_of_ble_eq_true rfl) (Nat.le_of_ble_eq_true rfl) dX4_init_16 dX4_init_19 dX4_init_20 (fun q10 a10 H locs hP hD hS => ?_)
  have hP : va_P D vwCl (((h0, (.inr (6, [.ref q1, .null, .int 0]) : va_E)) :: ([] ++ kw_7 cy q1 a1)) ++ kw_8 cy q10 a10) H := hP
  have hD : va_D A (((h0, (.inr (6, [.ref q1, .null, .int 0]) : va_E)) :: ([] ++ kw_7 cy q1 a1)) ++ kw_8 cy q10 a10) := hD
  refine va_putF (D := D) (ci := 4 + 2) X.1 X.2.1 X.2.2.2.2.1 si_in4 tyX4 tyX4_ok nmX4 X.2.2.2.1 X.2.2.2.2.2.1 hP hD hS 0 rfl rfl 1 (by decide) (X.2.2.2.2.1 _ gf_RX4_19) (fun _ h9 => h9) rfl hin rfl (tyX4_ok 1 (by decide)) rfl rfl (Nat.le_of_ble_eq_true rfl) dX4_init_23 (fun H locs hP hD hS => ?_)
  have hP : va_P D vwCl ((h0, (.inr (6, [.ref q1, .ref q10, .int 0]) : va_E)) :: (([] ++ kw_7 cy q1 a1) ++ kw_8 cy q10 a10)) H := hP
  have hD : va_D A ((h0, (.inr (6, [.ref q1, .ref q10, .int 0]) : va_E)) :: (([] ++ kw_7 cy q1 a1) ++ kw_8 cy q10 a10)) := hD
  exact hret _ _ _ _ (fun k => if k = 0 then h0 else if k = 1 then q1 else if k < 10 then a1 (k - 1) else if k = 10 then q10 else if k < 15 then a10 (k - 10) else 0) hP hD hS dX4_init_26
theorem kv_4 : ∀ j, j < 3 → defaultValue (tyX4 j) = vp_V kz_4 j := by
  intro j hj
  match j, hj with
  | 0, _ => rfl
  | 1, _ => rfl
  | 2, _ => rfl
  | k + 3, h => exact absurd h (by omega)
theorem dX9_init_0 : decode cX9_init 0 = .ok (.aload_n 0, 1) := by decide +kernel
theorem dX9_init_1 : decode cX9_init 1 = .ok (.invokespecial 1, 3) := by decide +kernel
theorem dX9_init_4 : decode cX9_init 4 = .ok (.aload_n 0, 1) := by decide +kernel
theorem dX9_init_5 : decode cX9_init 5 = .ok (.new 7, 3) := by decide +kernel
theorem dX9_init_8 : decode cX9_init 8 = .ok (.dup, 1) := by decide +kernel
theorem dX9_init_9 : decode cX9_init 9 = .ok (.invokespecial 9, 3) := by decide +kernel
theorem dX9_init_12 : decode cX9_init 12 = .ok (.putfield 10, 3) := by decide +kernel
theorem dX9_init_15 : decode cX9_init 15 = .ok (.aload_n 0, 1) := by decide +kernel
theorem dX9_init_16 : decode cX9_init 16 = .ok (.new 16, 3) := by decide +kernel
theorem dX9_init_19 : decode cX9_init 19 = .ok (.dup, 1) := by decide +kernel
theorem dX9_init_20 : decode cX9_init 20 = .ok (.invokespecial 18, 3) := by decide +kernel
theorem dX9_init_23 : decode cX9_init 23 = .ok (.putfield 19, 3) := by decide +kernel
theorem dX9_init_26 : decode cX9_init 26 = .ok (.aload_n 0, 1) := by decide +kernel
theorem dX9_init_27 : decode cX9_init 27 = .ok (.new 23, 3) := by decide +kernel
theorem dX9_init_30 : decode cX9_init 30 = .ok (.dup, 1) := by decide +kernel
theorem dX9_init_31 : decode cX9_init 31 = .ok (.invokespecial 25, 3) := by decide +kernel
theorem dX9_init_34 : decode cX9_init 34 = .ok (.putfield 26, 3) := by decide +kernel
theorem dX9_init_37 : decode cX9_init 37 = .ok (.aload_n 0, 1) := by decide +kernel
theorem dX9_init_38 : decode cX9_init 38 = .ok (.new 30, 3) := by decide +kernel
theorem dX9_init_41 : decode cX9_init 41 = .ok (.dup, 1) := by decide +kernel
theorem dX9_init_42 : decode cX9_init 42 = .ok (.invokespecial 32, 3) := by decide +kernel
theorem dX9_init_45 : decode cX9_init 45 = .ok (.putfield 33, 3) := by decide +kernel
theorem dX9_init_48 : decode cX9_init 48 = .ok (.aload_n 0, 1) := by decide +kernel
theorem dX9_init_49 : decode cX9_init 49 = .ok (.new 37, 3) := by decide +kernel
theorem dX9_init_52 : decode cX9_init 52 = .ok (.dup, 1) := by decide +kernel
theorem dX9_init_53 : decode cX9_init 53 = .ok (.invokespecial 39, 3) := by decide +kernel
theorem dX9_init_56 : decode cX9_init 56 = .ok (.putfield 40, 3) := by decide +kernel
theorem dX9_init_59 : decode cX9_init 59 = .ok (.aload_n 0, 1) := by decide +kernel
theorem dX9_init_60 : decode cX9_init 60 = .ok (.new 44, 3) := by decide +kernel
theorem dX9_init_63 : decode cX9_init 63 = .ok (.dup, 1) := by decide +kernel
theorem dX9_init_64 : decode cX9_init 64 = .ok (.invokespecial 46, 3) := by decide +kernel
theorem dX9_init_67 : decode cX9_init 67 = .ok (.putfield 47, 3) := by decide +kernel
theorem dX9_init_70 : decode cX9_init 70 = .ok (.aload_n 0, 1) := by decide +kernel
theorem dX9_init_71 : decode cX9_init 71 = .ok (.new 44, 3) := by decide +kernel
theorem dX9_init_74 : decode cX9_init 74 = .ok (.dup, 1) := by decide +kernel
theorem dX9_init_75 : decode cX9_init 75 = .ok (.invokespecial 46, 3) := by decide +kernel
theorem dX9_init_78 : decode cX9_init 78 = .ok (.putfield 51, 3) := by decide +kernel
theorem dX9_init_81 : decode cX9_init 81 = .ok (.aload_n 0, 1) := by decide +kernel
theorem dX9_init_82 : decode cX9_init 82 = .ok (.new 54, 3) := by decide +kernel
theorem dX9_init_85 : decode cX9_init 85 = .ok (.dup, 1) := by decide +kernel
theorem dX9_init_86 : decode cX9_init 86 = .ok (.invokespecial 56, 3) := by decide +kernel
theorem dX9_init_89 : decode cX9_init 89 = .ok (.putfield 57, 3) := by decide +kernel
theorem dX9_init_92 : decode cX9_init 92 = .ok (.aload_n 0, 1) := by decide +kernel
theorem dX9_init_93 : decode cX9_init 93 = .ok (.new 61, 3) := by decide +kernel
theorem dX9_init_96 : decode cX9_init 96 = .ok (.dup, 1) := by decide +kernel
theorem dX9_init_97 : decode cX9_init 97 = .ok (.invokespecial 63, 3) := by decide +kernel
theorem dX9_init_100 : decode cX9_init 100 = .ok (.putfield 64, 3) := by decide +kernel
theorem dX9_init_103 : decode cX9_init 103 = .ok (.aload_n 0, 1) := by decide +kernel
theorem dX9_init_104 : decode cX9_init 104 = .ok (.new 68, 3) := by decide +kernel
theorem dX9_init_107 : decode cX9_init 107 = .ok (.dup, 1) := by decide +kernel
theorem dX9_init_108 : decode cX9_init 108 = .ok (.invokespecial 70, 3) := by decide +kernel
theorem dX9_init_111 : decode cX9_init 111 = .ok (.putfield 71, 3) := by decide +kernel
theorem dX9_init_114 : decode cX9_init 114 = .ok (.aload_n 0, 1) := by decide +kernel
theorem dX9_init_115 : decode cX9_init 115 = .ok (.new 68, 3) := by decide +kernel
theorem dX9_init_118 : decode cX9_init 118 = .ok (.dup, 1) := by decide +kernel
theorem dX9_init_119 : decode cX9_init 119 = .ok (.invokespecial 70, 3) := by decide +kernel
theorem dX9_init_122 : decode cX9_init 122 = .ok (.putfield 75, 3) := by decide +kernel
theorem dX9_init_125 : decode cX9_init 125 = .ok (.return_, 1) := by decide +kernel
def kw_9 (cy : Nat → ClassId) (h0 : Nat) (ad : Nat → Nat) : va_W := (h0, (.inr (11, [.ref (ad 1), .ref (ad 3), .ref (ad 7), .ref (ad 16), .ref (ad 21), .ref (ad 27), .ref (ad 42), .ref (ad 57), .ref (ad 65), .ref (ad 69), .ref (ad 78)]) : va_E)) :: ((((((((((([] ++ kw_3 cy (ad 1) (fun j => ad (1 + j))) ++ kw_1 cy (ad 3) (fun j => ad (3 + j))) ++ kw_7 cy (ad 7) (fun j => ad (7 + j))) ++ kw_8 cy (ad 16) (fun j => ad (16 + j))) ++ kw_0 cy (ad 21) (fun j => ad (21 + j))) ++ kw_4 cy (ad 27) (fun j => ad (27 + j))) ++ kw_4 cy (ad 42) (fun j => ad (42 + j))) ++ kw_6 cy (ad 57) (fun j => ad (57 + j))) ++ kw_5 cy (ad 65) (fun j => ad (65 + j))) ++ kw_2 cy (ad 69) (fun j => ad (69 + j))) ++ kw_2 cy (ad 78) (fun j => ad (78 + j)))
abbrev rk_9 : Room := { frames := 3, cells := 86, slots := 8055, locals := 52 }
abbrev kz_9 : List Value := [.null, .null, .null, .null, .null, .null, .null, .null, .null, .null, .null]
set_option maxHeartbeats 4000000 in
set_option maxRecDepth 100000 in
theorem k_9 (l : Launch) (D : va_G) (cy : Nat → ClassId) : si_Kc l D cy yX9_init cX9_init 1 rk_9 (9 + 2) kz_9 (kw_9 cy) 86 8055 := by
  refine si_ofK (by decide +kernel) rfl (by decide) ?_
  intro p e s m args below meth c ls Q A h0 X hin hP hD hS hl hret
  have hP : va_P D vwCl ((h0, (.inr (11, [.null, .null, .null, .null, .null, .null, .null, .null, .null, .null, .null]) : va_E)) :: []) s.heap := hP
  have hD : va_D A ((h0, (.inr (11, [.null, .null, .null, .null, .null, .null, .null, .null, .null, .null, .null]) : va_E)) :: []) := hD
  refine lv_aload_n X.1 X.2.1 dX9_init_0 rfl (lv_at hl 0 rfl) ?_
  refine si_objI X hl.1 gm_RX9_1 gn_obj gc_obj (by decide) (by decide) dX9_init_1 ?_
  refine lv_aload_n X.1 X.2.1 dX9_init_4 rfl (lv_at hl 0 rfl) ?_
  refine si_newc X hl.1 hP hD hS si_cl3 tyX3 tyX3_ok (fun j hj => kv_3 j hj) gq_RX9_7 gz_3 gi_RX3 (k_3 l D cy) gc_X3_init rfl (Or.inl (List.mem_of_getElem? (i := 0) rfl)) gn_X3_init rfl (by decide +kernel) ⟨rfl, rfl, Nat.le_of_ble_eq_true rfl, Nat.le_of_ble_eq_true rfl⟩ (Nat.le_of_ble_eq_true rfl) (Nat.le_of_ble_eq_true rfl) (Nat.le_of_ble_eq_true rfl) dX9_init_5 dX9_init_8 dX9_init_9 (fun q1 a1 H locs hP hD hS => ?_)
  have hP : va_P D vwCl (((h0, (.inr (11, [.null, .null, .null, .null, .null, .null, .null, .null, .null, .null, .null]) : va_E)) :: []) ++ kw_3 cy q1 a1) H := hP
  have hD : va_D A (((h0, (.inr (11, [.null, .null, .null, .null, .null, .null, .null, .null, .null, .null, .null]) : va_E)) :: []) ++ kw_3 cy q1 a1) := hD
  refine va_putF (D := D) (ci := 9 + 2) X.1 X.2.1 X.2.2.2.2.1 si_in9 tyX9 tyX9_ok nmX9 X.2.2.2.1 X.2.2.2.2.2.1 hP hD hS 0 rfl rfl 0 (by decide) (X.2.2.2.2.1 _ gf_RX9_10) (fun _ h9 => h9) rfl hin rfl (tyX9_ok 0 (by decide)) rfl rfl (Nat.le_of_ble_eq_true rfl) dX9_init_12 (fun H locs hP hD hS => ?_)
  have hP : va_P D vwCl ((h0, (.inr (11, [.ref q1, .null, .null, .null, .null, .null, .null, .null, .null, .null, .null]) : va_E)) :: ([] ++ kw_3 cy q1 a1)) H := hP
  have hD : va_D A ((h0, (.inr (11, [.ref q1, .null, .null, .null, .null, .null, .null, .null, .null, .null, .null]) : va_E)) :: ([] ++ kw_3 cy q1 a1)) := hD
  refine lv_aload_n X.1 X.2.1 dX9_init_15 rfl (lv_at hl 0 rfl) ?_
  refine si_newc X hl.1 hP hD hS si_cl1 tyX1 tyX1_ok (fun j hj => kv_1 j hj) gq_RX9_16 gz_1 gi_RX1 (k_1 l D cy) gc_X1_init rfl (Or.inl (List.mem_of_getElem? (i := 1) rfl)) gn_X1_init rfl (by decide +kernel) ⟨rfl, rfl, Nat.le_of_ble_eq_true rfl, Nat.le_of_ble_eq_true rfl⟩ (Nat.le_of_ble_eq_true rfl) (Nat.le_of_ble_eq_true rfl) (Nat.le_of_ble_eq_true rfl) dX9_init_16 dX9_init_19 dX9_init_20 (fun q3 a3 H locs hP hD hS => ?_)
  have hP : va_P D vwCl (((h0, (.inr (11, [.ref q1, .null, .null, .null, .null, .null, .null, .null, .null, .null, .null]) : va_E)) :: ([] ++ kw_3 cy q1 a1)) ++ kw_1 cy q3 a3) H := hP
  have hD : va_D A (((h0, (.inr (11, [.ref q1, .null, .null, .null, .null, .null, .null, .null, .null, .null, .null]) : va_E)) :: ([] ++ kw_3 cy q1 a1)) ++ kw_1 cy q3 a3) := hD
  refine va_putF (D := D) (ci := 9 + 2) X.1 X.2.1 X.2.2.2.2.1 si_in9 tyX9 tyX9_ok nmX9 X.2.2.2.1 X.2.2.2.2.2.1 hP hD hS 0 rfl rfl 1 (by decide) (X.2.2.2.2.1 _ gf_RX9_19) (fun _ h9 => h9) rfl hin rfl (tyX9_ok 1 (by decide)) rfl rfl (Nat.le_of_ble_eq_true rfl) dX9_init_23 (fun H locs hP hD hS => ?_)
  have hP : va_P D vwCl ((h0, (.inr (11, [.ref q1, .ref q3, .null, .null, .null, .null, .null, .null, .null, .null, .null]) : va_E)) :: (([] ++ kw_3 cy q1 a1) ++ kw_1 cy q3 a3)) H := hP
  have hD : va_D A ((h0, (.inr (11, [.ref q1, .ref q3, .null, .null, .null, .null, .null, .null, .null, .null, .null]) : va_E)) :: (([] ++ kw_3 cy q1 a1) ++ kw_1 cy q3 a3)) := hD
  refine lv_aload_n X.1 X.2.1 dX9_init_26 rfl (lv_at hl 0 rfl) ?_
  refine si_newc X hl.1 hP hD hS si_cl7 tyX7 tyX7_ok (fun j hj => kv_7 j hj) gq_RX9_23 gz_7 gi_RX7 (k_7 l D cy) gc_X7_init rfl (Or.inl (List.mem_of_getElem? (i := 2) rfl)) gn_X7_init rfl (by decide +kernel) ⟨rfl, rfl, Nat.le_of_ble_eq_true rfl, Nat.le_of_ble_eq_true rfl⟩ (Nat.le_of_ble_eq_true rfl) (Nat.le_of_ble_eq_true rfl) (Nat.le_of_ble_eq_true rfl) dX9_init_27 dX9_init_30 dX9_init_31 (fun q7 a7 H locs hP hD hS => ?_)
  have hP : va_P D vwCl (((h0, (.inr (11, [.ref q1, .ref q3, .null, .null, .null, .null, .null, .null, .null, .null, .null]) : va_E)) :: (([] ++ kw_3 cy q1 a1) ++ kw_1 cy q3 a3)) ++ kw_7 cy q7 a7) H := hP
  have hD : va_D A (((h0, (.inr (11, [.ref q1, .ref q3, .null, .null, .null, .null, .null, .null, .null, .null, .null]) : va_E)) :: (([] ++ kw_3 cy q1 a1) ++ kw_1 cy q3 a3)) ++ kw_7 cy q7 a7) := hD
  refine va_putF (D := D) (ci := 9 + 2) X.1 X.2.1 X.2.2.2.2.1 si_in9 tyX9 tyX9_ok nmX9 X.2.2.2.1 X.2.2.2.2.2.1 hP hD hS 0 rfl rfl 2 (by decide) (X.2.2.2.2.1 _ gf_RX9_26) (fun _ h9 => h9) rfl hin rfl (tyX9_ok 2 (by decide)) rfl rfl (Nat.le_of_ble_eq_true rfl) dX9_init_34 (fun H locs hP hD hS => ?_)
  have hP : va_P D vwCl ((h0, (.inr (11, [.ref q1, .ref q3, .ref q7, .null, .null, .null, .null, .null, .null, .null, .null]) : va_E)) :: ((([] ++ kw_3 cy q1 a1) ++ kw_1 cy q3 a3) ++ kw_7 cy q7 a7)) H := hP
  have hD : va_D A ((h0, (.inr (11, [.ref q1, .ref q3, .ref q7, .null, .null, .null, .null, .null, .null, .null, .null]) : va_E)) :: ((([] ++ kw_3 cy q1 a1) ++ kw_1 cy q3 a3) ++ kw_7 cy q7 a7)) := hD
  refine lv_aload_n X.1 X.2.1 dX9_init_37 rfl (lv_at hl 0 rfl) ?_
  refine si_newc X hl.1 hP hD hS si_cl8 tyX8 tyX8_ok (fun j hj => kv_8 j hj) gq_RX9_30 gz_8 gi_RX8 (k_8 l D cy) gc_X8_init rfl (Or.inl (List.mem_of_getElem? (i := 3) rfl)) gn_X8_init rfl (by decide +kernel) ⟨rfl, rfl, Nat.le_of_ble_eq_true rfl, Nat.le_of_ble_eq_true rfl⟩ (Nat.le_of_ble_eq_true rfl) (Nat.le_of_ble_eq_true rfl) (Nat.le_of_ble_eq_true rfl) dX9_init_38 dX9_init_41 dX9_init_42 (fun q16 a16 H locs hP hD hS => ?_)
  have hP : va_P D vwCl (((h0, (.inr (11, [.ref q1, .ref q3, .ref q7, .null, .null, .null, .null, .null, .null, .null, .null]) : va_E)) :: ((([] ++ kw_3 cy q1 a1) ++ kw_1 cy q3 a3) ++ kw_7 cy q7 a7)) ++ kw_8 cy q16 a16) H := hP
  have hD : va_D A (((h0, (.inr (11, [.ref q1, .ref q3, .ref q7, .null, .null, .null, .null, .null, .null, .null, .null]) : va_E)) :: ((([] ++ kw_3 cy q1 a1) ++ kw_1 cy q3 a3) ++ kw_7 cy q7 a7)) ++ kw_8 cy q16 a16) := hD
  refine va_putF (D := D) (ci := 9 + 2) X.1 X.2.1 X.2.2.2.2.1 si_in9 tyX9 tyX9_ok nmX9 X.2.2.2.1 X.2.2.2.2.2.1 hP hD hS 0 rfl rfl 3 (by decide) (X.2.2.2.2.1 _ gf_RX9_33) (fun _ h9 => h9) rfl hin rfl (tyX9_ok 3 (by decide)) rfl rfl (Nat.le_of_ble_eq_true rfl) dX9_init_45 (fun H locs hP hD hS => ?_)
  have hP : va_P D vwCl ((h0, (.inr (11, [.ref q1, .ref q3, .ref q7, .ref q16, .null, .null, .null, .null, .null, .null, .null]) : va_E)) :: (((([] ++ kw_3 cy q1 a1) ++ kw_1 cy q3 a3) ++ kw_7 cy q7 a7) ++ kw_8 cy q16 a16)) H := hP
  have hD : va_D A ((h0, (.inr (11, [.ref q1, .ref q3, .ref q7, .ref q16, .null, .null, .null, .null, .null, .null, .null]) : va_E)) :: (((([] ++ kw_3 cy q1 a1) ++ kw_1 cy q3 a3) ++ kw_7 cy q7 a7) ++ kw_8 cy q16 a16)) := hD
  refine lv_aload_n X.1 X.2.1 dX9_init_48 rfl (lv_at hl 0 rfl) ?_
  refine si_newc X hl.1 hP hD hS si_cl0 tyX0 tyX0_ok (fun j hj => kv_0 j hj) gq_RX9_37 gz_0 gi_RX0 (k_0 l D cy) gc_X0_init rfl (Or.inl (List.mem_of_getElem? (i := 4) rfl)) gn_X0_init rfl (by decide +kernel) ⟨rfl, rfl, Nat.le_of_ble_eq_true rfl, Nat.le_of_ble_eq_true rfl⟩ (Nat.le_of_ble_eq_true rfl) (Nat.le_of_ble_eq_true rfl) (Nat.le_of_ble_eq_true rfl) dX9_init_49 dX9_init_52 dX9_init_53 (fun q21 a21 H locs hP hD hS => ?_)
  have hP : va_P D vwCl (((h0, (.inr (11, [.ref q1, .ref q3, .ref q7, .ref q16, .null, .null, .null, .null, .null, .null, .null]) : va_E)) :: (((([] ++ kw_3 cy q1 a1) ++ kw_1 cy q3 a3) ++ kw_7 cy q7 a7) ++ kw_8 cy q16 a16)) ++ kw_0 cy q21 a21) H := hP
  have hD : va_D A (((h0, (.inr (11, [.ref q1, .ref q3, .ref q7, .ref q16, .null, .null, .null, .null, .null, .null, .null]) : va_E)) :: (((([] ++ kw_3 cy q1 a1) ++ kw_1 cy q3 a3) ++ kw_7 cy q7 a7) ++ kw_8 cy q16 a16)) ++ kw_0 cy q21 a21) := hD
  refine va_putF (D := D) (ci := 9 + 2) X.1 X.2.1 X.2.2.2.2.1 si_in9 tyX9 tyX9_ok nmX9 X.2.2.2.1 X.2.2.2.2.2.1 hP hD hS 0 rfl rfl 4 (by decide) (X.2.2.2.2.1 _ gf_RX9_40) (fun _ h9 => h9) rfl hin rfl (tyX9_ok 4 (by decide)) rfl rfl (Nat.le_of_ble_eq_true rfl) dX9_init_56 (fun H locs hP hD hS => ?_)
  have hP : va_P D vwCl ((h0, (.inr (11, [.ref q1, .ref q3, .ref q7, .ref q16, .ref q21, .null, .null, .null, .null, .null, .null]) : va_E)) :: ((((([] ++ kw_3 cy q1 a1) ++ kw_1 cy q3 a3) ++ kw_7 cy q7 a7) ++ kw_8 cy q16 a16) ++ kw_0 cy q21 a21)) H := hP
  have hD : va_D A ((h0, (.inr (11, [.ref q1, .ref q3, .ref q7, .ref q16, .ref q21, .null, .null, .null, .null, .null, .null]) : va_E)) :: ((((([] ++ kw_3 cy q1 a1) ++ kw_1 cy q3 a3) ++ kw_7 cy q7 a7) ++ kw_8 cy q16 a16) ++ kw_0 cy q21 a21)) := hD
  refine lv_aload_n X.1 X.2.1 dX9_init_59 rfl (lv_at hl 0 rfl) ?_
  refine si_newc X hl.1 hP hD hS si_cl4 tyX4 tyX4_ok (fun j hj => kv_4 j hj) gq_RX9_44 gz_4 gi_RX4 (k_4 l D cy) gc_X4_init rfl (Or.inl (List.mem_of_getElem? (i := 5) rfl)) gn_X4_init rfl (by decide +kernel) ⟨rfl, rfl, Nat.le_of_ble_eq_true rfl, Nat.le_of_ble_eq_true rfl⟩ (Nat.le_of_ble_eq_true rfl) (Nat.le_of_ble_eq_true rfl) (Nat.le_of_ble_eq_true rfl) dX9_init_60 dX9_init_63 dX9_init_64 (fun q27 a27 H locs hP hD hS => ?_)
  have hP : va_P D vwCl (((h0, (.inr (11, [.ref q1, .ref q3, .ref q7, .ref q16, .ref q21, .null, .null, .null, .null, .null, .null]) : va_E)) :: ((((([] ++ kw_3 cy q1 a1) ++ kw_1 cy q3 a3) ++ kw_7 cy q7 a7) ++ kw_8 cy q16 a16) ++ kw_0 cy q21 a21)) ++ kw_4 cy q27 a27) H := hP
  have hD : va_D A (((h0, (.inr (11, [.ref q1, .ref q3, .ref q7, .ref q16, .ref q21, .null, .null, .null, .null, .null, .null]) : va_E)) :: ((((([] ++ kw_3 cy q1 a1) ++ kw_1 cy q3 a3) ++ kw_7 cy q7 a7) ++ kw_8 cy q16 a16) ++ kw_0 cy q21 a21)) ++ kw_4 cy q27 a27) := hD
  refine va_putF (D := D) (ci := 9 + 2) X.1 X.2.1 X.2.2.2.2.1 si_in9 tyX9 tyX9_ok nmX9 X.2.2.2.1 X.2.2.2.2.2.1 hP hD hS 0 rfl rfl 5 (by decide) (X.2.2.2.2.1 _ gf_RX9_47) (fun _ h9 => h9) rfl hin rfl (tyX9_ok 5 (by decide)) rfl rfl (Nat.le_of_ble_eq_true rfl) dX9_init_67 (fun H locs hP hD hS => ?_)
  have hP : va_P D vwCl ((h0, (.inr (11, [.ref q1, .ref q3, .ref q7, .ref q16, .ref q21, .ref q27, .null, .null, .null, .null, .null]) : va_E)) :: (((((([] ++ kw_3 cy q1 a1) ++ kw_1 cy q3 a3) ++ kw_7 cy q7 a7) ++ kw_8 cy q16 a16) ++ kw_0 cy q21 a21) ++ kw_4 cy q27 a27)) H := hP
  have hD : va_D A ((h0, (.inr (11, [.ref q1, .ref q3, .ref q7, .ref q16, .ref q21, .ref q27, .null, .null, .null, .null, .null]) : va_E)) :: (((((([] ++ kw_3 cy q1 a1) ++ kw_1 cy q3 a3) ++ kw_7 cy q7 a7) ++ kw_8 cy q16 a16) ++ kw_0 cy q21 a21) ++ kw_4 cy q27 a27)) := hD
  refine lv_aload_n X.1 X.2.1 dX9_init_70 rfl (lv_at hl 0 rfl) ?_
  refine si_newc X hl.1 hP hD hS si_cl4 tyX4 tyX4_ok (fun j hj => kv_4 j hj) gq_RX9_44 gz_4 gi_RX4 (k_4 l D cy) gc_X4_init rfl (Or.inl (List.mem_of_getElem? (i := 5) rfl)) gn_X4_init rfl (by decide +kernel) ⟨rfl, rfl, Nat.le_of_ble_eq_true rfl, Nat.le_of_ble_eq_true rfl⟩ (Nat.le_of_ble_eq_true rfl) (Nat.le_of_ble_eq_true rfl) (Nat.le_of_ble_eq_true rfl) dX9_init_71 dX9_init_74 dX9_init_75 (fun q42 a42 H locs hP hD hS => ?_)
  have hP : va_P D vwCl (((h0, (.inr (11, [.ref q1, .ref q3, .ref q7, .ref q16, .ref q21, .ref q27, .null, .null, .null, .null, .null]) : va_E)) :: (((((([] ++ kw_3 cy q1 a1) ++ kw_1 cy q3 a3) ++ kw_7 cy q7 a7) ++ kw_8 cy q16 a16) ++ kw_0 cy q21 a21) ++ kw_4 cy q27 a27)) ++ kw_4 cy q42 a42) H := hP
  have hD : va_D A (((h0, (.inr (11, [.ref q1, .ref q3, .ref q7, .ref q16, .ref q21, .ref q27, .null, .null, .null, .null, .null]) : va_E)) :: (((((([] ++ kw_3 cy q1 a1) ++ kw_1 cy q3 a3) ++ kw_7 cy q7 a7) ++ kw_8 cy q16 a16) ++ kw_0 cy q21 a21) ++ kw_4 cy q27 a27)) ++ kw_4 cy q42 a42) := hD
  refine va_putF (D := D) (ci := 9 + 2) X.1 X.2.1 X.2.2.2.2.1 si_in9 tyX9 tyX9_ok nmX9 X.2.2.2.1 X.2.2.2.2.2.1 hP hD hS 0 rfl rfl 6 (by decide) (X.2.2.2.2.1 _ gf_RX9_51) (fun _ h9 => h9) rfl hin rfl (tyX9_ok 6 (by decide)) rfl rfl (Nat.le_of_ble_eq_true rfl) dX9_init_78 (fun H locs hP hD hS => ?_)
  have hP : va_P D vwCl ((h0, (.inr (11, [.ref q1, .ref q3, .ref q7, .ref q16, .ref q21, .ref q27, .ref q42, .null, .null, .null, .null]) : va_E)) :: ((((((([] ++ kw_3 cy q1 a1) ++ kw_1 cy q3 a3) ++ kw_7 cy q7 a7) ++ kw_8 cy q16 a16) ++ kw_0 cy q21 a21) ++ kw_4 cy q27 a27) ++ kw_4 cy q42 a42)) H := hP
  have hD : va_D A ((h0, (.inr (11, [.ref q1, .ref q3, .ref q7, .ref q16, .ref q21, .ref q27, .ref q42, .null, .null, .null, .null]) : va_E)) :: ((((((([] ++ kw_3 cy q1 a1) ++ kw_1 cy q3 a3) ++ kw_7 cy q7 a7) ++ kw_8 cy q16 a16) ++ kw_0 cy q21 a21) ++ kw_4 cy q27 a27) ++ kw_4 cy q42 a42)) := hD
  refine lv_aload_n X.1 X.2.1 dX9_init_81 rfl (lv_at hl 0 rfl) ?_
  refine si_newc X hl.1 hP hD hS si_cl6 tyX6 tyX6_ok (fun j hj => kv_6 j hj) gq_RX9_54 gz_6 gi_RX6 (k_6 l D cy) gc_X6_init rfl (Or.inl (List.mem_of_getElem? (i := 8) rfl)) gn_X6_init rfl (by decide +kernel) ⟨rfl, rfl, Nat.le_of_ble_eq_true rfl, Nat.le_of_ble_eq_true rfl⟩ (Nat.le_of_ble_eq_true rfl) (Nat.le_of_ble_eq_true rfl) (Nat.le_of_ble_eq_true rfl) dX9_init_82 dX9_init_85 dX9_init_86 (fun q57 a57 H locs hP hD hS => ?_)
  have hP : va_P D vwCl (((h0, (.inr (11, [.ref q1, .ref q3, .ref q7, .ref q16, .ref q21, .ref q27, .ref q42, .null, .null, .null, .null]) : va_E)) :: ((((((([] ++ kw_3 cy q1 a1) ++ kw_1 cy q3 a3) ++ kw_7 cy q7 a7) ++ kw_8 cy q16 a16) ++ kw_0 cy q21 a21) ++ kw_4 cy q27 a27) ++ kw_4 cy q42 a42)) ++ kw_6 cy q57 a57) H := hP
  have hD : va_D A (((h0, (.inr (11, [.ref q1, .ref q3, .ref q7, .ref q16, .ref q21, .ref q27, .ref q42, .null, .null, .null, .null]) : va_E)) :: ((((((([] ++ kw_3 cy q1 a1) ++ kw_1 cy q3 a3) ++ kw_7 cy q7 a7) ++ kw_8 cy q16 a16) ++ kw_0 cy q21 a21) ++ kw_4 cy q27 a27) ++ kw_4 cy q42 a42)) ++ kw_6 cy q57 a57) := hD
  refine va_putF (D := D) (ci := 9 + 2) X.1 X.2.1 X.2.2.2.2.1 si_in9 tyX9 tyX9_ok nmX9 X.2.2.2.1 X.2.2.2.2.2.1 hP hD hS 0 rfl rfl 7 (by decide) (X.2.2.2.2.1 _ gf_RX9_57) (fun _ h9 => h9) rfl hin rfl (tyX9_ok 7 (by decide)) rfl rfl (Nat.le_of_ble_eq_true rfl) dX9_init_89 (fun H locs hP hD hS => ?_)
  have hP : va_P D vwCl ((h0, (.inr (11, [.ref q1, .ref q3, .ref q7, .ref q16, .ref q21, .ref q27, .ref q42, .ref q57, .null, .null, .null]) : va_E)) :: (((((((([] ++ kw_3 cy q1 a1) ++ kw_1 cy q3 a3) ++ kw_7 cy q7 a7) ++ kw_8 cy q16 a16) ++ kw_0 cy q21 a21) ++ kw_4 cy q27 a27) ++ kw_4 cy q42 a42) ++ kw_6 cy q57 a57)) H := hP
  have hD : va_D A ((h0, (.inr (11, [.ref q1, .ref q3, .ref q7, .ref q16, .ref q21, .ref q27, .ref q42, .ref q57, .null, .null, .null]) : va_E)) :: (((((((([] ++ kw_3 cy q1 a1) ++ kw_1 cy q3 a3) ++ kw_7 cy q7 a7) ++ kw_8 cy q16 a16) ++ kw_0 cy q21 a21) ++ kw_4 cy q27 a27) ++ kw_4 cy q42 a42) ++ kw_6 cy q57 a57)) := hD
  refine lv_aload_n X.1 X.2.1 dX9_init_92 rfl (lv_at hl 0 rfl) ?_
  refine si_newc X hl.1 hP hD hS si_cl5 tyX5 tyX5_ok (fun j hj => kv_5 j hj) gq_RX9_61 gz_5 gi_RX5 (k_5 l D cy) gc_X5_init rfl (Or.inl (List.mem_of_getElem? (i := 9) rfl)) gn_X5_init rfl (by decide +kernel) ⟨rfl, rfl, Nat.le_of_ble_eq_true rfl, Nat.le_of_ble_eq_true rfl⟩ (Nat.le_of_ble_eq_true rfl) (Nat.le_of_ble_eq_true rfl) (Nat.le_of_ble_eq_true rfl) dX9_init_93 dX9_init_96 dX9_init_97 (fun q65 a65 H locs hP hD hS => ?_)
  have hP : va_P D vwCl (((h0, (.inr (11, [.ref q1, .ref q3, .ref q7, .ref q16, .ref q21, .ref q27, .ref q42, .ref q57, .null, .null, .null]) : va_E)) :: (((((((([] ++ kw_3 cy q1 a1) ++ kw_1 cy q3 a3) ++ kw_7 cy q7 a7) ++ kw_8 cy q16 a16) ++ kw_0 cy q21 a21) ++ kw_4 cy q27 a27) ++ kw_4 cy q42 a42) ++ kw_6 cy q57 a57)) ++ kw_5 cy q65 a65) H := hP
  have hD : va_D A (((h0, (.inr (11, [.ref q1, .ref q3, .ref q7, .ref q16, .ref q21, .ref q27, .ref q42, .ref q57, .null, .null, .null]) : va_E)) :: (((((((([] ++ kw_3 cy q1 a1) ++ kw_1 cy q3 a3) ++ kw_7 cy q7 a7) ++ kw_8 cy q16 a16) ++ kw_0 cy q21 a21) ++ kw_4 cy q27 a27) ++ kw_4 cy q42 a42) ++ kw_6 cy q57 a57)) ++ kw_5 cy q65 a65) := hD
  refine va_putF (D := D) (ci := 9 + 2) X.1 X.2.1 X.2.2.2.2.1 si_in9 tyX9 tyX9_ok nmX9 X.2.2.2.1 X.2.2.2.2.2.1 hP hD hS 0 rfl rfl 8 (by decide) (X.2.2.2.2.1 _ gf_RX9_64) (fun _ h9 => h9) rfl hin rfl (tyX9_ok 8 (by decide)) rfl rfl (Nat.le_of_ble_eq_true rfl) dX9_init_100 (fun H locs hP hD hS => ?_)
  have hP : va_P D vwCl ((h0, (.inr (11, [.ref q1, .ref q3, .ref q7, .ref q16, .ref q21, .ref q27, .ref q42, .ref q57, .ref q65, .null, .null]) : va_E)) :: ((((((((([] ++ kw_3 cy q1 a1) ++ kw_1 cy q3 a3) ++ kw_7 cy q7 a7) ++ kw_8 cy q16 a16) ++ kw_0 cy q21 a21) ++ kw_4 cy q27 a27) ++ kw_4 cy q42 a42) ++ kw_6 cy q57 a57) ++ kw_5 cy q65 a65)) H := hP
  have hD : va_D A ((h0, (.inr (11, [.ref q1, .ref q3, .ref q7, .ref q16, .ref q21, .ref q27, .ref q42, .ref q57, .ref q65, .null, .null]) : va_E)) :: ((((((((([] ++ kw_3 cy q1 a1) ++ kw_1 cy q3 a3) ++ kw_7 cy q7 a7) ++ kw_8 cy q16 a16) ++ kw_0 cy q21 a21) ++ kw_4 cy q27 a27) ++ kw_4 cy q42 a42) ++ kw_6 cy q57 a57) ++ kw_5 cy q65 a65)) := hD
  refine lv_aload_n X.1 X.2.1 dX9_init_103 rfl (lv_at hl 0 rfl) ?_
  refine si_newc X hl.1 hP hD hS si_cl2 tyX2 tyX2_ok (fun j hj => kv_2 j hj) gq_RX9_68 gz_2 gi_RX2 (k_2 l D cy) gc_X2_init rfl (Or.inl (List.mem_of_getElem? (i := 10) rfl)) gn_X2_init rfl (by decide +kernel) ⟨rfl, rfl, Nat.le_of_ble_eq_true rfl, Nat.le_of_ble_eq_true rfl⟩ (Nat.le_of_ble_eq_true rfl) (Nat.le_of_ble_eq_true rfl) (Nat.le_of_ble_eq_true rfl) dX9_init_104 dX9_init_107 dX9_init_108 (fun q69 a69 H locs hP hD hS => ?_)
  have hP : va_P D vwCl (((h0, (.inr (11, [.ref q1, .ref q3, .ref q7, .ref q16, .ref q21, .ref q27, .ref q42, .ref q57, .ref q65, .null, .null]) : va_E)) :: ((((((((([] ++ kw_3 cy q1 a1) ++ kw_1 cy q3 a3) ++ kw_7 cy q7 a7) ++ kw_8 cy q16 a16) ++ kw_0 cy q21 a21) ++ kw_4 cy q27 a27) ++ kw_4 cy q42 a42) ++ kw_6 cy q57 a57) ++ kw_5 cy q65 a65)) ++ kw_2 cy q69 a69) H := hP
  have hD : va_D A (((h0, (.inr (11, [.ref q1, .ref q3, .ref q7, .ref q16, .ref q21, .ref q27, .ref q42, .ref q57, .ref q65, .null, .null]) : va_E)) :: ((((((((([] ++ kw_3 cy q1 a1) ++ kw_1 cy q3 a3) ++ kw_7 cy q7 a7) ++ kw_8 cy q16 a16) ++ kw_0 cy q21 a21) ++ kw_4 cy q27 a27) ++ kw_4 cy q42 a42) ++ kw_6 cy q57 a57) ++ kw_5 cy q65 a65)) ++ kw_2 cy q69 a69) := hD
  refine va_put (D := D) (ci := 9 + 2) X.1 X.2.1 X.2.2.2.2.1 si_in9 tyX9 tyX9_ok nmX9 X.2.2.2.1 X.2.2.2.2.2.1 hP hD hS 0 rfl rfl 9 (by decide) (X.2.2.2.2.1 _ gf_RX9_71) (fun _ h9 => h9) rfl (tyX9_ok 9 (by decide)) rfl rfl (Nat.le_of_ble_eq_true rfl) dX9_init_111 (fun H locs hP hD hS => ?_)
  have hP : va_P D vwCl ((h0, (.inr (11, [.ref q1, .ref q3, .ref q7, .ref q16, .ref q21, .ref q27, .ref q42, .ref q57, .ref q65, .ref q69, .null]) : va_E)) :: (((((((((([] ++ kw_3 cy q1 a1) ++ kw_1 cy q3 a3) ++ kw_7 cy q7 a7) ++ kw_8 cy q16 a16) ++ kw_0 cy q21 a21) ++ kw_4 cy q27 a27) ++ kw_4 cy q42 a42) ++ kw_6 cy q57 a57) ++ kw_5 cy q65 a65) ++ kw_2 cy q69 a69)) H := hP
  have hD : va_D A ((h0, (.inr (11, [.ref q1, .ref q3, .ref q7, .ref q16, .ref q21, .ref q27, .ref q42, .ref q57, .ref q65, .ref q69, .null]) : va_E)) :: (((((((((([] ++ kw_3 cy q1 a1) ++ kw_1 cy q3 a3) ++ kw_7 cy q7 a7) ++ kw_8 cy q16 a16) ++ kw_0 cy q21 a21) ++ kw_4 cy q27 a27) ++ kw_4 cy q42 a42) ++ kw_6 cy q57 a57) ++ kw_5 cy q65 a65) ++ kw_2 cy q69 a69)) := hD
  refine lv_aload_n X.1 X.2.1 dX9_init_114 rfl (lv_at hl 0 rfl) ?_
  refine si_newc X hl.1 hP hD hS si_cl2 tyX2 tyX2_ok (fun j hj => kv_2 j hj) gq_RX9_68 gz_2 gi_RX2 (k_2 l D cy) gc_X2_init rfl (Or.inl (List.mem_of_getElem? (i := 10) rfl)) gn_X2_init rfl (by decide +kernel) ⟨rfl, rfl, Nat.le_of_ble_eq_true rfl, Nat.le_of_ble_eq_true rfl⟩ (Nat.le_of_ble_eq_true rfl) (Nat.le_of_ble_eq_true rfl) (Nat.le_of_ble_eq_true rfl) dX9_init_115 dX9_init_118 dX9_init_119 (fun q78 a78 H locs hP hD hS => ?_)
  have hP : va_P D vwCl (((h0, (.inr (11, [.ref q1, .ref q3, .ref q7, .ref q16, .ref q21, .ref q27, .ref q42, .ref q57, .ref q65, .ref q69, .null]) : va_E)) :: (((((((((([] ++ kw_3 cy q1 a1) ++ kw_1 cy q3 a3) ++ kw_7 cy q7 a7) ++ kw_8 cy q16 a16) ++ kw_0 cy q21 a21) ++ kw_4 cy q27 a27) ++ kw_4 cy q42 a42) ++ kw_6 cy q57 a57) ++ kw_5 cy q65 a65) ++ kw_2 cy q69 a69)) ++ kw_2 cy q78 a78) H := hP
  have hD : va_D A (((h0, (.inr (11, [.ref q1, .ref q3, .ref q7, .ref q16, .ref q21, .ref q27, .ref q42, .ref q57, .ref q65, .ref q69, .null]) : va_E)) :: (((((((((([] ++ kw_3 cy q1 a1) ++ kw_1 cy q3 a3) ++ kw_7 cy q7 a7) ++ kw_8 cy q16 a16) ++ kw_0 cy q21 a21) ++ kw_4 cy q27 a27) ++ kw_4 cy q42 a42) ++ kw_6 cy q57 a57) ++ kw_5 cy q65 a65) ++ kw_2 cy q69 a69)) ++ kw_2 cy q78 a78) := hD
  refine va_put (D := D) (ci := 9 + 2) X.1 X.2.1 X.2.2.2.2.1 si_in9 tyX9 tyX9_ok nmX9 X.2.2.2.1 X.2.2.2.2.2.1 hP hD hS 0 rfl rfl 10 (by decide) (X.2.2.2.2.1 _ gf_RX9_75) (fun _ h9 => h9) rfl (tyX9_ok 10 (by decide)) rfl rfl (Nat.le_of_ble_eq_true rfl) dX9_init_122 (fun H locs hP hD hS => ?_)
  have hP : va_P D vwCl ((h0, (.inr (11, [.ref q1, .ref q3, .ref q7, .ref q16, .ref q21, .ref q27, .ref q42, .ref q57, .ref q65, .ref q69, .ref q78]) : va_E)) :: ((((((((((([] ++ kw_3 cy q1 a1) ++ kw_1 cy q3 a3) ++ kw_7 cy q7 a7) ++ kw_8 cy q16 a16) ++ kw_0 cy q21 a21) ++ kw_4 cy q27 a27) ++ kw_4 cy q42 a42) ++ kw_6 cy q57 a57) ++ kw_5 cy q65 a65) ++ kw_2 cy q69 a69) ++ kw_2 cy q78 a78)) H := hP
  have hD : va_D A ((h0, (.inr (11, [.ref q1, .ref q3, .ref q7, .ref q16, .ref q21, .ref q27, .ref q42, .ref q57, .ref q65, .ref q69, .ref q78]) : va_E)) :: ((((((((((([] ++ kw_3 cy q1 a1) ++ kw_1 cy q3 a3) ++ kw_7 cy q7 a7) ++ kw_8 cy q16 a16) ++ kw_0 cy q21 a21) ++ kw_4 cy q27 a27) ++ kw_4 cy q42 a42) ++ kw_6 cy q57 a57) ++ kw_5 cy q65 a65) ++ kw_2 cy q69 a69) ++ kw_2 cy q78 a78)) := hD
  exact hret _ _ _ _ (fun k => if k = 0 then h0 else if k = 1 then q1 else if k < 3 then a1 (k - 1) else if k = 3 then q3 else if k < 7 then a3 (k - 3) else if k = 7 then q7 else if k < 16 then a7 (k - 7) else if k = 16 then q16 else if k < 21 then a16 (k - 16) else if k = 21 then q21 else if k < 27 then a21 (k - 21) else if k = 27 then q27 else if k < 42 then a27 (k - 27) else if k = 42 then q42 else if k < 57 then a42 (k - 42) else if k = 57 then q57 else if k < 65 then a57 (k - 57) else if k = 65 then q65 else if k < 69 then a65 (k - 65) else if k = 69 then q69 else if k < 78 then a69 (k - 69) else if k = 78 then q78 else if k < 87 then a78 (k - 78) else 0) hP hD hS dX9_init_125
theorem kv_9 : ∀ j, j < 11 → defaultValue (tyX9 j) = vp_V kz_9 j := by
  intro j hj
  match j, hj with
  | 0, _ => rfl
  | 1, _ => rfl
  | 2, _ => rfl
  | 3, _ => rfl
  | 4, _ => rfl
  | 5, _ => rfl
  | 6, _ => rfl
  | 7, _ => rfl
  | 8, _ => rfl
  | 9, _ => rfl
  | 10, _ => rfl
  | k + 11, h => exact absurd h (by omega)
