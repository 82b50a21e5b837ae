-- WHAT THE LAW'S OWN METHODS MAKE: new objects, copies; contracts with a change of addresses; calls
section SDN
variable {p : Program} {l : Launch} {e : Env} {R : Room} {s : State} {m : MethodId} {args : Array Value} {below : List Frame} {meth : Method} {c : Code} {H H0 : Heap} {locs : List Loc} {cells slots : Nat} {Q : State → Prop} {cc : ByteArray} {nL : Nat} {own : String} {E E0 : si_Ev} {A : Nat → Prop} {S S' S0 Sf : si_St} {pc : Nat} {ls : Array Slot} {rest : List Value} {AL : Nat → Bool}
/-- the room of a walk that ends at Sf -/
abbrev sd_RR (R : Room) (S0 Sf : si_St) : Prop := sd_ct Sf - sd_ct S0 ≤ R.cells ∧ sd_sl Sf - sd_sl S0 ≤ R.slots
theorem sd_room {cs ss : Nat} (h : sd_Ct S0 S cs ss) (h2 : sd_le S Sf) (hR : sd_RR R S0 Sf) : cs ≤ R.cells ∧ ss ≤ R.slots := by
  obtain ⟨h1, h3⟩ := h
  obtain ⟨h4, h5⟩ := h2
  obtain ⟨h6, h7⟩ := hR
  exact ⟨by omega, by omega⟩
theorem sd_room2 {S1 : si_St} {cs ss : Nat} (h : sd_Ct S0 S cs ss) (h1 : sd_le S S1) (h2 : sd_le S1 Sf) (hR : sd_RR R S0 Sf) : cs + (sd_ct S1 - sd_ct S) ≤ R.cells ∧ ss + (sd_sl S1 - sd_sl S) ≤ R.slots := by
  obtain ⟨h3, h4⟩ := h
  obtain ⟨h5, h6⟩ := h1
  obtain ⟨h7, h8⟩ := h2
  obtain ⟨h9, h10⟩ := hR
  exact ⟨by omega, by omega⟩
theorem sd_Ct.newA {k n : Nat} (hc : sd_Ct S0 S cells slots) (hk : k < 151) : sd_Ct S0 (sd_mkA S k n) (cells + 1) (slots + n) := by
  have hct := sd_mkA_ct (S := S) (n := n) hk
  exact ⟨Nat.le_trans (Nat.add_le_add_right hc.1 1) (Nat.le_of_eq hct.1.symm), Nat.le_trans (Nat.le_of_eq (Nat.add_assoc _ _ _).symm) (Nat.le_trans (Nat.add_le_add_right hc.2 n) (Nat.le_of_eq hct.2.symm))⟩
theorem sd_Ct.newO {k n : Nat} (hc : sd_Ct S0 S cells slots) (hk : k < 151) : sd_Ct S0 (sd_mkO S k n) (cells + 1) (slots + n) := by
  have hct := sd_mkO_ct (S := S) (n := n) hk
  exact ⟨Nat.le_trans (Nat.add_le_add_right hc.1 1) (Nat.le_of_eq hct.1.symm), Nat.le_trans (Nat.le_of_eq (Nat.add_assoc _ _ _).symm) (Nat.le_trans (Nat.add_le_add_right hc.2 n) (Nat.le_of_eq hct.2.symm))⟩
theorem sd_one_of {k : Nat} (hk : AL k = true) : ∀ a, AL a = false → sd_one k a = false := fun a ha => by
  show (a == k) = false
  rw [beq_eq_false_iff_ne]
  intro h
  subst h
  rw [hk] at ha
  cases ha
theorem sd_ra {kd i : Nat} {ty : FieldType} (X : si_Cx p s m args c cc nL own E A) (hi : (si_tys E)[i]? = some (E.2.2.1 kd, ty)) (hp : ∀ C, ty ≠ .object C) : s.vm.findClass ("[" ++ ty.toString) = some (E.2.2.1 kd) := by
  have hra := (X.2.2.2.2.2.1.2 i _ hi).2
  cases ty with
  | object C => exact absurd rfl (hp C)
  | _ => exact hra
theorem sd_newI {k : Nat} {n : Int32} {S1 : si_St} (X : si_Cx p s m args c cc nL own E A) (hw : si_Ws E A s.heap S H locs) (hA : ∀ q, s.heap.size ≤ q → A q) (hE : sd_EE AL E0 E) (hc : sd_Ct S0 S cells slots) (hR : sd_RR R S0 Sf) (harr : Cond.arrayClass .int ∈ si_GW) (hk : sd_kd k = 12) (hal : AL k = true) (h : sd_na S k n = some S1) (hm : sd_le S1 Sf) (hdg : decode cc pc = .ok (.newarray .int, 2)) (kk : ∀ (E1 : si_Ev) (H1 : Heap) (cs ss : Nat), sd_EE (sd_one k) E E1 → sd_EE AL E0 E1 → si_Cx p s m args c cc nL own E1 A → si_Ws E1 A s.heap S1 H1 locs → sd_Ct S0 S1 cs ss → W p l e R s m args below meth c H1 locs cs ss Q (F0 m (pc + 2) ls (.ref (E1.2.1 k) :: rest))) : W p l e R s m args below meth c H locs cells slots Q (F0 m pc ls (.int n :: rest)) := by
  have h9 := h
  obtain ⟨⟨hf, hn, hmax⟩, rfl⟩ := sd_if h
  have hfr := sd_frb_of hf
  have hct := sd_mkA_ct (S := S) (n := n.toNatClampNeg) hfr.2.1
  have hr2 := sd_room2 hc (sd_na_m h9) hm hR
  unfold sd_ct sd_sl at hr2
  rw [hct.1, hct.2] at hr2
  have e1 : S.2.2.2 9000 + 1 - S.2.2.2 9000 = 1 := by omega
  have e2 : S.2.2.2 9001 + n.toNatClampNeg - S.2.2.2 9001 = n.toNatClampNeg := by omega
  rw [e1, e2] at hr2
  refine va_newa (D := E.1) (cl := vwCl) (tys := []) (atype := .int) (a0 := (n.toNatClampNeg, .inl fun _ => 0)) (ty := .int) X.1 X.2.1 (X.2.2.2.2.1 _ harr) rfl (X.2.2.2.2.2.1.sub [] rfl) hw.1 hw.2.1 hw.2.2 hA (fun cA => rfl) hn rfl (by show n.toNatClampNeg * 4 ≤ 536870912; omega) hr2.1 hr2.2 hdg (fun q cA H1 hK1 hP1 hD1 hS1 => ?_)
  have hcA : cA = E.2.2.1 12 := Option.some.inj (((hK1.2 0 (cA, .int) rfl).2).symm.trans (sd_ra (i := 1) (ty := .int) X rfl (fun C h => by cases h)))
  subst hcA
  rw [← hk] at hP1 hD1
  obtain ⟨g1, g2⟩ := sd_bornA hfr (by omega) hP1 hD1
  have hEk : (sd_E1 E k q).2.1 k = q := sd_E1_at
  rw [← hEk]
  exact kk _ H1 _ _ sd_E1_EE (hE.tr (sd_one_of hal) sd_E1_EE) (sd_X (sd_E1_EE (k := k) (q := q)) X) ⟨g1, g2, hS1⟩ (hc.newA hfr.2.1)
theorem sd_newB {k : Nat} {n : Int32} {S1 : si_St} (X : si_Cx p s m args c cc nL own E A) (hw : si_Ws E A s.heap S H locs) (hA : ∀ q, s.heap.size ≤ q → A q) (hE : sd_EE AL E0 E) (hc : sd_Ct S0 S cells slots) (hR : sd_RR R S0 Sf) (harr : Cond.arrayClass .byte ∈ si_GW) (hk : sd_kd k = 11) (hal : AL k = true) (h : sd_na S k n = some S1) (hm : sd_le S1 Sf) (hdg : decode cc pc = .ok (.newarray .byte, 2)) (kk : ∀ (E1 : si_Ev) (H1 : Heap) (cs ss : Nat), sd_EE (sd_one k) E E1 → sd_EE AL E0 E1 → si_Cx p s m args c cc nL own E1 A → si_Ws E1 A s.heap S1 H1 locs → sd_Ct S0 S1 cs ss → W p l e R s m args below meth c H1 locs cs ss Q (F0 m (pc + 2) ls (.ref (E1.2.1 k) :: rest))) : W p l e R s m args below meth c H locs cells slots Q (F0 m pc ls (.int n :: rest)) := by
  have h9 := h
  obtain ⟨⟨hf, hn, hmax⟩, rfl⟩ := sd_if h
  have hfr := sd_frb_of hf
  have hct := sd_mkA_ct (S := S) (n := n.toNatClampNeg) hfr.2.1
  have hr2 := sd_room2 hc (sd_na_m h9) hm hR
  unfold sd_ct sd_sl at hr2
  rw [hct.1, hct.2] at hr2
  have e1 : S.2.2.2 9000 + 1 - S.2.2.2 9000 = 1 := by omega
  have e2 : S.2.2.2 9001 + n.toNatClampNeg - S.2.2.2 9001 = n.toNatClampNeg := by omega
  rw [e1, e2] at hr2
  refine va_newa (D := E.1) (cl := vwCl) (tys := []) (atype := .byte) (a0 := (n.toNatClampNeg, .inl fun _ => 0)) (ty := .byte) X.1 X.2.1 (X.2.2.2.2.1 _ harr) rfl (X.2.2.2.2.2.1.sub [] rfl) hw.1 hw.2.1 hw.2.2 hA (fun cA => rfl) hn rfl (by show n.toNatClampNeg * 1 ≤ 536870912; omega) hr2.1 hr2.2 hdg (fun q cA H1 hK1 hP1 hD1 hS1 => ?_)
  have hcA : cA = E.2.2.1 11 := Option.some.inj (((hK1.2 0 (cA, .byte) rfl).2).symm.trans (sd_ra (i := 0) (ty := .byte) X rfl (fun C h => by cases h)))
  subst hcA
  rw [← hk] at hP1 hD1
  obtain ⟨g1, g2⟩ := sd_bornA hfr (by omega) hP1 hD1
  have hEk : (sd_E1 E k q).2.1 k = q := sd_E1_at
  rw [← hEk]
  exact kk _ H1 _ _ sd_E1_EE (hE.tr (sd_one_of hal) sd_E1_EE) (sd_X (sd_E1_EE (k := k) (q := q)) X) ⟨g1, g2, hS1⟩ (hc.newA hfr.2.1)
theorem sd_newO {k kd : Nat} {C : String} {T : u_T} {N : Nat} {index : Nat} {S1 : si_St} (X : si_Cx p s m args c cc nL own E A) (hw : si_Ws E A s.heap S H locs) (hA : ∀ q, s.heap.size ≤ q → A q) (hE : sd_EE AL E0 E) (hc : sd_Ct S0 S cells slots) (hR : sd_RR R S0 Sf) (hcl : sd_Cl kd C T N) (ty : Nat → FieldType) (hty : ∀ k, k < N → parseFieldDescriptor (T k).2.2.1 = some (ty k)) (hlk : Cond.classLink own index C ∈ si_GW) (hinst : Cond.instantiable C N ∈ si_GW) (hini : Cond.initialized C ∈ si_GW) (hfs : ∀ j, j < N → defaultValue (ty j) = vp_V ((sd_fl kd).map fun t => match t with | none => Value.int 0 | some _ => .null) j) (hk : sd_kd k = kd) (hal : AL k = true) (h : sd_no S k N = some S1) (hm : sd_le S1 Sf) (hdg : decode cc pc = .ok (.new index, 3)) (kk : ∀ (E1 : si_Ev) (H1 : Heap) (cs ss : Nat), sd_EE (sd_one k) E E1 → sd_EE AL E0 E1 → si_Cx p s m args c cc nL own E1 A → si_Ws E1 A s.heap S1 H1 locs → sd_Ct S0 S1 cs ss → W p l e R s m args below meth c H1 locs cs ss Q (F0 m (pc + 3) ls (.ref (E1.2.1 k) :: rest))) : W p l e R s m args below meth c H locs cells slots Q (F0 m pc ls rest) := by
  have h9 := h
  obtain ⟨hf, rfl⟩ := sd_if h
  have hfr := sd_frb_of hf
  have hct := sd_mkO_ct (S := S) (n := N) hfr.2.1
  have hr2 := sd_room2 hc (sd_no_m h9) hm hR
  unfold sd_ct sd_sl at hr2
  rw [hct.1, hct.2] at hr2
  have e1 : S.2.2.2 9000 + 1 - S.2.2.2 9000 = 1 := by omega
  have e2 : S.2.2.2 9001 + N - S.2.2.2 9001 = N := by omega
  rw [e1, e2] at hr2
  obtain ⟨hx, hb, hml, hown, hts, hK, hSt⟩ := X
  have X : si_Cx p s m args c cc nL own E A := ⟨hx, hb, hml, hown, hts, hK, hSt⟩
  refine va_new (ci := sd_ci kd) (fs := (sd_fl kd).map fun t => match t with | none => Value.int 0 | some _ => .null) hx hb hts hcl.2.2.1 ty hty hown (hts _ hlk) (hts _ hinst) (hts _ hini) hK hw.1 hw.2.1 hw.2.2 hA hcl.2.1 hfs hr2.1 hr2.2 hdg (fun q H1 hP1 hD1 hS1 => ?_)
  subst hk
  have h20 := hcl.1
  obtain ⟨g1, g2⟩ := sd_bornO (n := N) hfr (by omega) rfl hP1 hD1
  have hEk : (sd_E1 E k q).2.1 k = q := sd_E1_at
  rw [← hEk]
  exact kk _ H1 _ _ sd_E1_EE (hE.tr (sd_one_of hal) sd_E1_EE) (sd_X (sd_E1_EE (k := k) (q := q)) X) ⟨g1, g2, hS1⟩ (hc.newO hfr.2.1)
-- copies of bytes
theorem sd_fit_of {f : Nat → Int32} {a n : Nat} (h : sd_fit f a n = true) : ∀ i : Nat, i < n → fits .byte (.int (f (a + i))) = true := fun i hi => List.all_eq_true.mp h i (List.mem_range.mpr hi)
theorem sd_cpyR {index k0 k1 : Nat} {sp dp n : Int32} (hl9 : ls.size = nL) (X : si_Cx p s m args c cc nL own E A) (hw : si_Ws E A s.heap S H locs) (h0 : sd_kd k0 = 11) (h1 : sd_kd k1 = 11) (hf : 1 ≤ R.frames) (hlo : (rest.map fun v => v.category).sum + (nativeFrameWords "java/lang/System" "arraycopy" 5 + 11) ≤ R.locals) (h : sd_cp S k0 sp k1 dp n = some S') (hl : Cond.methodLink own index arraycopyName ∈ si_GW) (hdg : decode cc pc = .ok (.invokestatic index, 3)) (kk : ∀ (H1 : Heap) (locs1 : List Loc), si_Ws E A s.heap S' H1 locs1 → W p l e R s m args below meth c H1 locs1 cells slots Q (F0 m (pc + 3) ls rest)) : W p l e R s m args below meth c H locs cells slots Q (F0 m pc ls (.int n :: .int dp :: .ref (E.2.1 k1) :: .int sp :: .ref (E.2.1 k0) :: rest)) := by
  obtain ⟨⟨o0, o1, g1, g2, g3, g4, g5, g6⟩, rfl⟩ := sd_if h
  obtain ⟨q0, -, hq0⟩ := sd_arr (E := E) o0 h0 (by decide)
  obtain ⟨q1, hi1, hq1⟩ := sd_arr (E := E) o1 h1 (by decide)
  refine va_copyi (ty := .byte) X.1 X.2.1 (X.2.2.1.trans hl9.symm) X.2.2.2.1 (si_wd X hl) (si_wd X gv_acopy) (si_wd X gs_acopy) (si_wd X gi_RJ10) X.2.2.2.2.2.1 hw.1 hw.2.1 hw.2.2 q0 q1 0 0 hq0 hq1 rfl rfl rfl g1 g2 g3 g4 g5 (sd_fit_of g6) hf hlo hdg (fun H1 locs1 z1 z2 z3 => kk H1 locs1 ?_)
  rw [sd_set_pa (E := E) (S := S) (S' := sd_ca S (S.2.1 k0) k1 sp.toNatClampNeg dp.toNatClampNeg n.toNatClampNeg) (by decide) h1 o1.1 hi1 rfl (by funext j; simp [va_cpy, sd_ca]) (fun a ha => by funext j; simp [sd_ca, ha]) rfl] at z1 z2
  exact ⟨z1, z2, z3⟩
theorem sd_cpyT {index g k1 : Nat} {sp dp n : Int32} (hl9 : ls.size = nL) (X : si_Cx p s m args c cc nL own E A) (hw : si_Ws E A s.heap S H locs) (hg : g < 17) (h1 : sd_kd k1 = 11) (hf : 1 ≤ R.frames) (hlo : (rest.map fun v => v.category).sum + (nativeFrameWords "java/lang/System" "arraycopy" 5 + 11) ≤ R.locals) (h : sd_cs S g sp k1 dp n = some S') (hl : Cond.methodLink own index arraycopyName ∈ si_GW) (hdg : decode cc pc = .ok (.invokestatic index, 3)) (kk : ∀ (H1 : Heap) (locs1 : List Loc), si_Ws E A s.heap S' H1 locs1 → W p l e R s m args below meth c H1 locs1 cells slots Q (F0 m (pc + 3) ls rest)) : W p l e R s m args below meth c H locs cells slots Q (F0 m pc ls (.int n :: .int dp :: .ref (E.2.1 k1) :: .int sp :: .ref (E.2.2.2.2 g) :: rest)) := by
  obtain ⟨fB, hfB⟩ : ∃ fB : Nat → Int32, fB = fun j => (si_sbyt.getD g []).getD j 0 := ⟨_, rfl⟩
  obtain ⟨nB, hnB⟩ : ∃ nB : Nat, nB = si_slen.getD g 0 := ⟨_, rfl⟩
  have hT : va_T .byte (E.2.2.2.2 g) nB (fun j => .int (fB j)) A s s.heap := by
    rw [hfB, hnB]
    exact (X.2.2.2.2.2.2.1.1 g hg).2.2.2
  unfold sd_cs at h
  rw [← hfB, ← hnB] at h
  obtain ⟨⟨o1, g1, g2, g3, g4, g5, g6⟩, rfl⟩ := sd_if h
  obtain ⟨q1, hi1, hq1⟩ := sd_arr (E := E) o1 h1 (by decide)
  refine vk_copyt (b0 := E.2.2.2.2 g) (n0 := nB) (f := fB) X.1 X.2.1 (X.2.2.1.trans hl9.symm) X.2.2.2.1 (si_wd X hl) (si_wd X gv_acopy) (si_wd X gs_acopy) (si_wd X gi_RJ10) X.2.2.2.2.2.1 hw.1 hw.2.1 hw.2.2 hT q1 0 hq1 rfl g1 g2 g3 g4 g5 (sd_fit_of g6) hf hlo hdg (fun H1 locs1 z1 z2 z3 => kk H1 locs1 ?_)
  rw [sd_set_pa (E := E) (S := S) (S' := sd_ca S fB k1 sp.toNatClampNeg dp.toNatClampNeg n.toNatClampNeg) (by decide) h1 o1.1 hi1 rfl (by funext j; simp [va_cpy, sd_ca]) (fun a ha => by funext j; simp [sd_ca, ha]) rfl] at z1 z2
  exact ⟨z1, z2, z3⟩
-- the tables of digits
theorem sd_getD1 {index : Nat} (X : si_Cx p s m args c cc nL own E A) (hS : va_S A s.heap H locs) (hl : Cond.fieldLink own index "java/lang/Integer" "DigitOnes" "[B" ∈ si_GW) (hdg : decode cc pc = .ok (.getstatic index, 3)) (kk : W p l e R s m args below meth c H locs cells slots Q (F0 m (pc + 3) ls (.ref (E.2.2.2.2 100) :: rest))) : W p l e R s m args below meth c H locs cells slots Q (F0 m pc ls rest) :=
  va_gets X.1 X.2.1 X.2.2.2.2.2.2.2.2.2.choose_spec.2.2.2.2.1 hS X.2.2.2.1 (si_wd X hl) (fun _ h9 => h9) hdg kk
theorem sd_getD2 {index : Nat} (X : si_Cx p s m args c cc nL own E A) (hS : va_S A s.heap H locs) (hl : Cond.fieldLink own index "java/lang/Integer" "DigitTens" "[B" ∈ si_GW) (hdg : decode cc pc = .ok (.getstatic index, 3)) (kk : W p l e R s m args below meth c H locs cells slots Q (F0 m (pc + 3) ls (.ref (E.2.2.2.2 101) :: rest))) : W p l e R s m args below meth c H locs cells slots Q (F0 m pc ls rest) :=
  va_gets X.1 X.2.1 X.2.2.2.2.2.2.2.2.2.choose_spec.2.2.2.2.2.2.1 hS X.2.2.2.1 (si_wd X hl) (fun _ h9 => h9) hdg kk
theorem sd_dgld {t : Nat} {i v : Int32} (X : si_Cx p s m args c cc nL own E A) (hS : va_S A s.heap H locs) (ht : t = 100 ∨ t = 101) (h : sd_dg t i = some v) (hdg : decode cc pc = .ok (.baload, 1)) (kk : W p l e R s m args below meth c H locs cells slots Q (F0 m (pc + 1) ls (.int v :: rest))) : W p l e R s m args below meth c H locs cells slots Q (F0 m pc ls (.int i :: .ref (E.2.2.2.2 t) :: rest)) := by
  obtain ⟨h1, rfl⟩ := sd_ifn h
  rcases ht with rfl | rfl
  · exact va_tb X.1 X.2.1 X.2.2.2.2.2.2.2.2.2.choose_spec.2.2.2.2.2.1 hS h1 rfl hdg kk
  · exact va_tb X.1 X.2.1 X.2.2.2.2.2.2.2.2.2.choose_spec.2.2.2.2.2.2.2 hS h1 rfl hdg kk
-- contracts
abbrev sd_B (AL : Nat → Bool) (E : si_Ev) (S : si_St) (A : Nat → Prop) (E' : si_Ev) (S' : si_St) (t : State) : Prop := sd_EE AL E E' ∧ sd_le S S' ∧ va_P E'.1 vwCl (si_ww E' S') t.heap ∧ va_K E'.1 vwCl (si_tys E') t ∧ va_D A (si_ww E' S')
def sd_Mi (l : Launch) (AL : Nat → Bool) (E : si_Ev) (y : MethodName) (cc : ByteArray) (nL : Nat) (ret : Option FieldType) (fr lo : Nat) (As : List Value) (S : si_St) (o : Int32 × si_St) : Prop :=
  ∀ sz, Met l y (si_ws y cc nL ret) (sd_R fr lo S o.2) (va_Pc As (si_U E S sz)) (va_Qi (fun r2 (_ : si_Ev) => r2 = o.1) (fun E' t => sd_B AL E S (si_AA E S sz) E' o.2 t) (si_AA E S sz)) (sd_ct o.2 - sd_ct S) (sd_sl o.2 - sd_sl S) (si_AA E S sz)
def sd_Mv (l : Launch) (AL : Nat → Bool) (E : si_Ev) (y : MethodName) (cc : ByteArray) (nL : Nat) (fr lo : Nat) (As : List Value) (S : si_St) (o : si_St) : Prop :=
  ∀ sz, Met l y (si_ws y cc nL none) (sd_R fr lo S o) (va_Pc As (si_U E S sz)) (va_Qv (fun (_ : si_Ev) => True) (fun E' t => sd_B AL E S (si_AA E S sz) E' o t) (si_AA E S sz)) (sd_ct o - sd_ct S) (sd_sl o - sd_sl S) (si_AA E S sz)
def sd_Mr (l : Launch) (AL : Nat → Bool) (E : si_Ev) (y : MethodName) (cc : ByteArray) (nL : Nat) (ret : Option FieldType) (fr lo : Nat) (As : List Value) (S : si_St) (t : Nat) (o : si_St) : Prop :=
  ∀ sz, Met l y (si_ws y cc nL ret) (sd_R fr lo S o) (va_Pc As (si_U E S sz)) (va_Qr (fun (_ : si_Ev) => True) (fun E' a u => a = E'.2.1 t ∧ sd_B AL E S (si_AA E S sz) E' o u) (si_AA E S sz)) (sd_ct o - sd_ct S) (sd_sl o - sd_sl S) (si_AA E S sz)
theorem sd_ofW0 {y : MethodName} {ret : Option FieldType} {rm : Room} {As : List Value} {mc ms : Nat} {Qc : Nat → Array Value → State → Outcome → State → Prop} (hy : plainFor y = true) (hn : (lg_sl As).length ≤ nL)
    (body : ∀ p e s m args below meth c ls, si_Cx p s m args c cc nL y.cls E (si_AA E S s.heap.size) → meth.name = y.name → meth.sig.returnType = ret → meth.locks = false → si_Ws E (si_AA E S s.heap.size) s.heap S s.heap [] → lv_has ls nL (lv_args 0 As) → W p l e rm s m args below meth c s.heap [] 0 0 (MQ below (Qc s.heap.size) args s mc ms (si_AA E S s.heap.size)) (F0 m 0 ls [])) (sz : Nat) : Met l y (si_ws y cc nL ret) rm (va_Pc As (si_U E S sz)) (Qc sz) mc ms (si_AA E S sz) := by
  refine si_metofW (cc := cc) (maxL := nL) (ret := ret) hy rfl ?_
  intro p e s m args below meth c s₁ B hml hv
  obtain ⟨rfl, hsz, hP, hK, hD0, hSt⟩ := hv
  have hts := atoms_spec (ws := si_ws y cc nL ret) B.pre
  have hown : s.vm.findClass y.cls = some m.cls := findClass_of_methodNamed B.named
  subst hsz
  rw [lg_entry_eq]
  exact body p e s m As.toArray below meth c _ ⟨B.exec, B.bytes, hml, hown, fun w h => hts w (List.mem_cons_of_mem _ h), hK, hSt⟩ (name_of_methodNamed B.named B.method).1 B.returns B.notSynchronized ⟨hP, si_D_self hD0, va_S.rf⟩ (lv_entry As hn)
/-- where a walk stands as it ends -/
abbrev sd_End (AL : Nat → Bool) (E0 : si_Ev) (A : Nat → Prop) (s : State) (S0 : si_St) (E : si_Ev) (S : si_St) (H : Heap) (locs : List Loc) (cs ss : Nat) : Prop := sd_EE AL E0 E ∧ si_Ws E A s.heap S H locs ∧ sd_Ct S0 S cs ss
theorem sd_Ct.le0 {cs ss : Nat} (h : sd_Ct S0 S cs ss) : sd_le S0 S := by
  obtain ⟨h1, h2⟩ := h
  exact ⟨by omega, by omega⟩
theorem sd_Ct.wide {cs ss : Nat} (h : sd_Ct S0 S cs ss) : cs ≤ sd_ct S - sd_ct S0 ∧ ss ≤ sd_sl S - sd_sl S0 := by
  obtain ⟨h1, h2⟩ := h
  exact ⟨by omega, by omega⟩
theorem sd_K {E1 : si_Ev} {U : State} (h : sd_EE AL E E1) (hK : va_K E.1 vwCl (si_tys E) U) : va_K E1.1 vwCl (si_tys E1) U := by
  obtain ⟨a, b, d⟩ := E
  obtain ⟨a', b', d'⟩ := E1
  obtain ⟨h1, h2, -⟩ := h
  dsimp only at h1 h2
  subst h1
  subst h2
  exact hK
theorem sd_ofWz {y : MethodName} {ty : FieldType} {fr lo : Nat} {As : List Value} {o : Int32 × si_St} (hy : plainFor y = true) (hn : (lg_sl As).length ≤ nL)
    (body : ∀ p e s m args below meth c ls Q A, si_Cx p s m args c cc nL y.cls E0 A → meth.name = y.name → si_Ws E0 A s.heap S0 s.heap [] → (∀ q, s.heap.size ≤ q → A q) → lv_has ls nL (lv_args 0 As) → (∀ (r0 : Int32) (S : si_St) (E : si_Ev) (H : Heap) (locs : List Loc) (cs ss pc : Nat) (ls : Array Slot), some (r0, S) = some o → narrow ty (.int r0) = .int r0 → sd_End AL E0 A s S0 E S H locs cs ss → decode cc pc = .ok (.ireturn, 1) → W p l e (sd_R fr lo S0 o.2) s m args below meth c H locs cs ss Q (F0 m pc ls [.int r0])) → W p l e (sd_R fr lo S0 o.2) s m args below meth c s.heap [] 0 0 Q (F0 m 0 ls [])) : sd_Mi l AL E0 y cc nL (some ty) fr lo As S0 o :=
  sd_ofW0 (Qc := fun sz => va_Qi (fun r2 (_ : si_Ev) => r2 = o.1) (fun E' t => sd_B AL E0 S0 (si_AA E0 S0 sz) E' o.2 t) (si_AA E0 S0 sz)) hy hn (fun p e s m args below meth c ls X hmn hr hlocks hw hl => body p e s m args below meth c ls _ _ X hmn hw (fun q h => Or.inr h) hl (fun r0 S E H locs cs ss pc ls h hnr hend hdg => by
    obtain rfl := Option.some.inj h
    obtain ⟨hE, hw, hc⟩ := hend
    refine W.widen hc.wide.1 hc.wide.2 ?_
    exact W.zret (v := r0) X.1 X.2.1 hr hnr (fun t ht hW => ⟨⟨r0, E, rfl, rfl, hE, hc.le0, by rw [ht]; exact hw.1, sd_K hE (va_K.moved hW.alike X.2.2.2.2.2.1), hw.2.1⟩, hw.2.2.F ht⟩) hw.2.2.2.2 hdg))
theorem sd_ofWv {y : MethodName} {fr lo : Nat} {As : List Value} {o : si_St} (hy : plainFor y = true) (hn : (lg_sl As).length ≤ nL)
    (body : ∀ p e s m args below meth c ls Q A, si_Cx p s m args c cc nL y.cls E0 A → meth.name = y.name → si_Ws E0 A s.heap S0 s.heap [] → (∀ q, s.heap.size ≤ q → A q) → lv_has ls nL (lv_args 0 As) → (∀ (S : si_St) (E : si_Ev) (H : Heap) (locs : List Loc) (cs ss pc : Nat) (ls : Array Slot), some S = some o → sd_End AL E0 A s S0 E S H locs cs ss → decode cc pc = .ok (.return_, 1) → W p l e (sd_R fr lo S0 o) s m args below meth c H locs cs ss Q (F0 m pc ls [])) → W p l e (sd_R fr lo S0 o) s m args below meth c s.heap [] 0 0 Q (F0 m 0 ls [])) : sd_Mv l AL E0 y cc nL fr lo As S0 o :=
  sd_ofW0 (Qc := fun sz => va_Qv (fun (_ : si_Ev) => True) (fun E' t => sd_B AL E0 S0 (si_AA E0 S0 sz) E' o t) (si_AA E0 S0 sz)) hy hn (fun p e s m args below meth c ls X hmn hr hlocks hw hl => body p e s m args below meth c ls _ _ X hmn hw (fun q h => Or.inr h) hl (fun S E H locs cs ss pc ls h hend hdg => by
    obtain rfl := Option.some.inj h
    obtain ⟨hE, hw, hc⟩ := hend
    refine W.widen hc.wide.1 hc.wide.2 ?_
    exact W.vret X.1 X.2.1 hr (fun t ht hW => ⟨⟨E, rfl, trivial, hE, hc.le0, by rw [ht]; exact hw.1, sd_K hE (va_K.moved hW.alike X.2.2.2.2.2.1), hw.2.1⟩, hw.2.2.F ht⟩) hw.2.2.2.2 hdg))
theorem sd_ofWr {y : MethodName} {rt : FieldType} {fr lo t : Nat} {As : List Value} {o : si_St} (hrt : (∃ nm, rt = .object nm) ∨ ∃ ty, rt = .array ty) (hy : plainFor y = true) (hn : (lg_sl As).length ≤ nL)
    (body : ∀ p e s m args below meth c ls Q A, si_Cx p s m args c cc nL y.cls E0 A → meth.name = y.name → si_Ws E0 A s.heap S0 s.heap [] → (∀ q, s.heap.size ≤ q → A q) → lv_has ls nL (lv_args 0 As) → (∀ (S : si_St) (E : si_Ev) (H : Heap) (locs : List Loc) (cs ss pc : Nat) (ls : Array Slot), some S = some o → sd_End AL E0 A s S0 E S H locs cs ss → decode cc pc = .ok (.areturn, 1) → W p l e (sd_R fr lo S0 o) s m args below meth c H locs cs ss Q (F0 m pc ls [.ref (E.2.1 t)])) → W p l e (sd_R fr lo S0 o) s m args below meth c s.heap [] 0 0 Q (F0 m 0 ls [])) : sd_Mr l AL E0 y cc nL (some rt) fr lo As S0 t o :=
  sd_ofW0 (Qc := fun sz => va_Qr (fun (_ : si_Ev) => True) (fun E' a u => a = E'.2.1 t ∧ sd_B AL E0 S0 (si_AA E0 S0 sz) E' o u) (si_AA E0 S0 sz)) hy hn (fun p e s m args below meth c ls X hmn hr hlocks hw hl => body p e s m args below meth c ls _ _ X hmn hw (fun q h => Or.inr h) hl (fun S E H locs cs ss pc ls h hend hdg => by
    obtain rfl := Option.some.inj h
    obtain ⟨hE, hw, hc⟩ := hend
    refine W.widen hc.wide.1 hc.wide.2 ?_
    exact W.aret (v := .ref (E.2.1 t)) X.1 X.2.1 hr hrt (Or.inr ⟨_, rfl⟩) (fun u ht hW => ⟨⟨E, E.2.1 t, rfl, trivial, rfl, hE, hc.le0, by rw [ht]; exact hw.1, sd_K hE (va_K.moved hW.alike X.2.2.2.2.2.1), hw.2.1⟩, hw.2.2.F ht⟩) hw.2.2.2.2 hdg))
end SDN
