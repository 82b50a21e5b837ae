section SIR2
variable {p : Program} {l : Launch} {e : Env} {R : Room} {s : State} {m : MethodId} {args : Array Value} {below : List Frame} {meth : Method} {c : Code} {H H0 : Heap} {locs : List Loc} {cells slots : Nat} {Q : State → Prop} {cc : ByteArray} {nL : Nat} {own : String} {E : si_Ev} {A : Nat → Prop} {S S' : si_St} {pc : Nat} {ls : Array Slot} {rest : List Value}
def si_ushr (x y : Int32) : Int32 := (x.toUInt32 >>> (y.toUInt32 &&& Int32.toUInt32 31)).toInt32
def si_i2b (x : Int32) : Int32 := x.toInt8.toInt32
def si_i2c (x : Int32) : Int32 := (x.toUInt32 % 65536).toInt32
theorem si_mmax {index : Nat} (hl9 : ls.size = nL) (X : si_Cx p s m args c cc nL own E A) (hf : 1 ≤ R.frames) {x y : Int32} (hlo : (rest.map fun v => v.category).sum + 13 ≤ R.locals) (hl : Cond.methodLink own index Lib.Math.max.name ∈ si_GW) (hcs : cells ≤ R.cells ∧ slots ≤ R.slots) (hdg : decode cc pc = .ok (.invokestatic index, 3)) (kk : W p l e R s m args below meth c H locs cells slots Q (F0 m (pc + 3) ls (.int (si_max x y) :: rest))) : W p l e R s m args below meth c H locs cells slots Q (F0 m pc ls (.int y :: .int x :: rest)) :=
  va_mmax X.1 X.2.1 (X.2.2.1.trans hl9.symm) X.2.2.2.1 (si_wd X hl) (si_wd X gs_Mmax) (si_wd X gi_RJ9) (si_wd X gc_Mmax) hf hlo hcs.1 hcs.2 hdg kk
theorem si_mmin {index : Nat} (hl9 : ls.size = nL) (X : si_Cx p s m args c cc nL own E A) (hf : 1 ≤ R.frames) {x y : Int32} (hlo : (rest.map fun v => v.category).sum + 13 ≤ R.locals) (hl : Cond.methodLink own index Lib.Math.min.name ∈ si_GW) (hcs : cells ≤ R.cells ∧ slots ≤ R.slots) (hdg : decode cc pc = .ok (.invokestatic index, 3)) (kk : W p l e R s m args below meth c H locs cells slots Q (F0 m (pc + 3) ls (.int (si_min x y) :: rest))) : W p l e R s m args below meth c H locs cells slots Q (F0 m pc ls (.int y :: .int x :: rest)) :=
  va_mmin X.1 X.2.1 (X.2.2.1.trans hl9.symm) X.2.2.2.1 (si_wd X hl) (si_wd X gs_Mmin) (si_wd X gi_RJ9) (si_wd X gc_Mmin) hf hlo hcs.1 hcs.2 hdg kk
theorem si_mabs {index : Nat} (hl9 : ls.size = nL) (X : si_Cx p s m args c cc nL own E A) (hf : 1 ≤ R.frames) {x : Int32} (hlo : (rest.map fun v => v.category).sum + 13 ≤ R.locals) (hl : Cond.methodLink own index Lib.Math.abs.name ∈ si_GW) (hcs : cells ≤ R.cells ∧ slots ≤ R.slots) (hdg : decode cc pc = .ok (.invokestatic index, 3)) (kk : W p l e R s m args below meth c H locs cells slots Q (F0 m (pc + 3) ls (.int (si_abs x) :: rest))) : W p l e R s m args below meth c H locs cells slots Q (F0 m pc ls (.int x :: rest)) :=
  va_mabs X.1 X.2.1 (X.2.2.1.trans hl9.symm) X.2.2.2.1 (si_wd X hl) (si_wd X gs_Mabs) (si_wd X gi_RJ9) (si_wd X gc_Mabs) hf hlo hcs.1 hcs.2 hdg kk
theorem si_alen {d k : Nat} (X : si_Cx p s m args c cc nL own E A) (hw : si_Ws E A H0 S H locs) (hk : si_kd k = d) (hd : d = 12) (hdg : decode cc pc = .ok (.arraylength, 1)) (kk : W p l e R s m args below meth c H locs cells slots Q (F0 m (pc + 1) ls (.int (Int32.ofNat (si_ln k)) :: rest))) : W p l e R s m args below meth c H locs cells slots Q (F0 m pc ls (.ref (E.2.1 k) :: rest)) := by
  subst hd
  exact va_alen X.1 X.2.1 X.2.2.2.2.2.1 hw.1 k 1 (x := (si_ln k, .inl (S.2.1 k))) (si_arI hk (by omega)) rfl rfl hdg kk
theorem si_sr (i : Nat) {q : String × Nat × String × Nat} (h : si_srefs[i]? = some q) : q ∈ si_srefs := List.mem_of_getElem? h
theorem si_ldcS {q : String × Nat × String × Nat} {index : Nat} (X : si_Cx p s m args c cc nL own E A) (hq : q ∈ si_srefs) (ho : (q.1, q.2.1) = (own, index)) (hdg : decode cc pc = .ok (.ldc index, 2)) (kk : W p l e R s m args below meth c H locs cells slots Q (F0 m (pc + 2) ls (.ref (E.2.2.2.1 q.2.2.2) :: rest))) : W p l e R s m args below meth c H locs cells slots Q (F0 m pc ls rest) := by
  have h1 := X.2.2.2.2.2.2.2.1 q hq
  obtain ⟨rfl, rfl⟩ := Prod.mk.inj ho
  exact va_ldcS X.1 X.2.1 X.2.2.2.1 h1 hdg kk
-- System.arraycopy over two rows of ints, of longs
def si_ca (S : si_St) (k0 a k1 b n : Nat) : si_St := (S.1, fun x j => if x = k1 ∧ b ≤ j ∧ j < b + n then S.2.1 k0 (a + (j - b)) else S.2.1 x j, S.2.2)
def si_cl (S : si_St) (k0 a k1 b n : Nat) : si_St := (S.1, S.2.1, fun x j => if x = k1 ∧ b ≤ j ∧ j < b + n then S.2.2.1 k0 (a + (j - b)) else S.2.2.1 x j, S.2.2.2)
def si_cok (k0 : Nat) (sp : Int32) (k1 : Nat) (dp n : Int32) : Prop := ¬ sp < 0 ∧ ¬ dp < 0 ∧ ¬ n < 0 ∧ sp.toNatClampNeg + n.toNatClampNeg ≤ si_ln k0 ∧ dp.toNatClampNeg + n.toNatClampNeg ≤ si_ln k1
def si_cpi (S : si_St) (k0 : Nat) (sp : Int32) (k1 : Nat) (dp n : Int32) : Option si_St := if ¬ sp < 0 ∧ ¬ dp < 0 ∧ ¬ n < 0 ∧ sp.toNatClampNeg + n.toNatClampNeg ≤ si_ln k0 ∧ dp.toNatClampNeg + n.toNatClampNeg ≤ si_ln k1 then some (si_ca S k0 sp.toNatClampNeg k1 dp.toNatClampNeg n.toNatClampNeg) else none
def si_cpl (S : si_St) (k0 : Nat) (sp : Int32) (k1 : Nat) (dp n : Int32) : Option si_St := if ¬ sp < 0 ∧ ¬ dp < 0 ∧ ¬ n < 0 ∧ sp.toNatClampNeg + n.toNatClampNeg ≤ si_ln k0 ∧ dp.toNatClampNeg + n.toNatClampNeg ≤ si_ln k1 then some (si_cl S k0 sp.toNatClampNeg k1 dp.toNatClampNeg n.toNatClampNeg) else none
theorem si_set_ca {k0 k1 a b n : Nat} (h : si_kd k1 = 12) : (si_ww E S).set k1 (E.2.1 k1, .inl (E.2.2.1 12, si_ln k1, .inl (va_cpy (S.2.1 k0) (S.2.1 k1) a b n))) = si_ww E (si_ca S k0 a k1 b n) := by
  have h87 : k1 < 87 := si_kd_lt h (by omega)
  refine si_ww_set h87 rfl ?_ (fun x hx => ?_)
  · rw [si_en, if_pos h87]
    unfold si_es
    rw [h, if_neg (by omega), if_neg (by omega)]
    have : va_cpy (S.2.1 k0) (S.2.1 k1) a b n = (si_ca S k0 a k1 b n).2.1 k1 := by funext j; simp [va_cpy, si_ca]
    rw [this]
  · refine si_en_congr (fun _ => rfl) ?_ rfl (fun _ _ => rfl) rfl
    funext j
    simp [si_ca, hx]
theorem si_set_cl {k0 k1 a b n : Nat} (h : si_kd k1 = 13) : (si_ww E S).set k1 (E.2.1 k1, .inl (E.2.2.1 13, si_ln k1, .inr (.inl (va_cpy (S.2.2.1 k0) (S.2.2.1 k1) a b n)))) = si_ww E (si_cl S k0 a k1 b n) := by
  have h87 : k1 < 87 := si_kd_lt h (by omega)
  refine si_ww_set h87 rfl ?_ (fun x hx => ?_)
  · rw [si_en, if_pos h87]
    unfold si_es
    rw [h, if_neg (by omega), if_pos rfl]
    have : va_cpy (S.2.2.1 k0) (S.2.2.1 k1) a b n = (si_cl S k0 a k1 b n).2.2.1 k1 := by funext j; simp [va_cpy, si_cl]
    rw [this]
  · refine si_en_congr (fun _ => rfl) rfl ?_ (fun _ _ => rfl) rfl
    funext j
    simp [si_cl, hx]
theorem si_acopyi {index k0 k1 : Nat} {sp dp n : Int32} (hl9 : ls.size = nL) (X : si_Cx p s m args c cc nL own E A) (hw : si_Ws E A H0 S H locs) (h0 : si_kd k0 = 12) (h1 : si_kd k1 = 12) (hf : 1 ≤ R.frames) (hlo : (rest.map fun v => v.category).sum + (nativeFrameWords "java/lang/System" "arraycopy" 5 + 11) ≤ R.locals) (h : si_cpi S k0 sp k1 dp n = some S') (hl : Cond.methodLink own index arraycopyName ∈ si_GW) (hdg : decode cc pc = .ok (.invokestatic index, 3)) (kk : ∀ (H1 : Heap) (locs1 : List Loc), si_Ws E A H0 S' H1 locs1 → W p l e R s m args below meth c H1 locs1 cells slots Q (F0 m (pc + 3) ls rest)) : W p l e R s m args below meth c H locs cells slots Q (F0 m pc ls (.int n :: .int dp :: .ref (E.2.1 k1) :: .int sp :: .ref (E.2.1 k0) :: rest)) := by
  unfold si_cpi at h
  by_cases hc : ¬ sp < 0 ∧ ¬ dp < 0 ∧ ¬ n < 0 ∧ sp.toNatClampNeg + n.toNatClampNeg ≤ si_ln k0 ∧ dp.toNatClampNeg + n.toNatClampNeg ≤ si_ln k1
  · rw [if_pos hc] at h
    obtain rfl := Option.some.inj h
    obtain ⟨g1, g2, g3, g4, g5⟩ := hc
    refine va_copyi (ty := .int) X.1 X.2.1 (X.2.2.1.trans hl9.symm) X.2.2.2.1 (si_wd X hl) (si_wd X gv_acopy) (si_wd X gs_acopy) (si_wd X gi_RJ10) X.2.2.2.2.2.1 hw.1 hw.2.1 hw.2.2 k0 k1 1 1 (si_arI h0 (by omega)) (si_arI h1 (by omega)) rfl rfl rfl g1 g2 g3 g4 g5 (fun _ _ => rfl) hf hlo hdg (fun H1 locs1 q1 q2 q3 => kk H1 locs1 ?_)
    rw [si_set_ca h1] at q1 q2
    exact ⟨q1, q2, q3⟩
  · rw [if_neg hc] at h
    cases h
theorem si_acopyl {index k0 k1 : Nat} {sp dp n : Int32} (hl9 : ls.size = nL) (X : si_Cx p s m args c cc nL own E A) (hw : si_Ws E A H0 S H locs) (h0 : si_kd k0 = 13) (h1 : si_kd k1 = 13) (hf : 1 ≤ R.frames) (hlo : (rest.map fun v => v.category).sum + (nativeFrameWords "java/lang/System" "arraycopy" 5 + 11) ≤ R.locals) (h : si_cpl S k0 sp k1 dp n = some S') (hl : Cond.methodLink own index arraycopyName ∈ si_GW) (hdg : decode cc pc = .ok (.invokestatic index, 3)) (kk : ∀ (H1 : Heap) (locs1 : List Loc), si_Ws E A H0 S' H1 locs1 → W p l e R s m args below meth c H1 locs1 cells slots Q (F0 m (pc + 3) ls rest)) : W p l e R s m args below meth c H locs cells slots Q (F0 m pc ls (.int n :: .int dp :: .ref (E.2.1 k1) :: .int sp :: .ref (E.2.1 k0) :: rest)) := by
  unfold si_cpl at h
  by_cases hc : ¬ sp < 0 ∧ ¬ dp < 0 ∧ ¬ n < 0 ∧ sp.toNatClampNeg + n.toNatClampNeg ≤ si_ln k0 ∧ dp.toNatClampNeg + n.toNatClampNeg ≤ si_ln k1
  · rw [if_pos hc] at h
    obtain rfl := Option.some.inj h
    obtain ⟨g1, g2, g3, g4, g5⟩ := hc
    refine va_copyl (ty := .long) X.1 X.2.1 (X.2.2.1.trans hl9.symm) X.2.2.2.1 (si_wd X hl) (si_wd X gv_acopy) (si_wd X gs_acopy) (si_wd X gi_RJ10) X.2.2.2.2.2.1 hw.1 hw.2.1 hw.2.2 k0 k1 2 2 (si_arL h0) (si_arL h1) rfl rfl rfl g1 g2 g3 g4 g5 (fun _ _ => rfl) hf hlo hdg (fun H1 locs1 q1 q2 q3 => kk H1 locs1 ?_)
    rw [si_set_cl h1] at q1 q2
    exact ⟨q1, q2, q3⟩
  · rw [if_neg hc] at h
    cases h
end SIR2
section SIR3
variable {p : Program} {l : Launch} {e : Env} {R : Room} {s : State} {m : MethodId} {args : Array Value} {below : List Frame} {meth : Method} {c : Code} {H H0 : Heap} {locs : List Loc} {cells slots : Nat} {Q : State → Prop} {cc : ByteArray} {nL : Nat} {own : String} {E : si_Ev} {A : Nat → Prop} {S S' : si_St} {pc : Nat} {ls : Array Slot} {rest : List Value}
-- texts: the constants lie outside the world and stay
def si_sl (g : Nat) : Int32 := Int32.ofNat (si_slen.getD g 0)
def si_sb (g : Nat) (i : Int32) : Option Int32 := if i < 0 ∨ si_slen.getD g 0 ≤ i.toNatClampNeg then none else some ((si_sbyt.getD g []).getD i.toNatClampNeg 0)
def si_gn (ty : FieldType) (v : Int32) : Option Int32 := if vp_nar ty v = v then some v else none
theorem si_gnf {ty : FieldType} {v w : Int32} {o : Int32 × si_St} (h : si_gn ty v = some w) (hf : some (w, S) = some o) : some (v, S) = some o := by
  unfold si_gn at h
  by_cases hc : vp_nar ty v = v
  · rw [if_pos hc] at h
    rw [Option.some.inj h]
    exact hf
  · rw [if_neg hc] at h
    cases h
theorem si_gnn {ty : FieldType} {v w : Int32} (h : si_gn ty v = some w) : narrow ty (.int v) = .int v := by
  unfold si_gn at h
  by_cases hc : vp_nar ty v = v
  · cases ty <;> (try rfl) <;> (unfold vp_nar at hc; simp only [narrow] at hc ⊢; rw [hc])
  · rw [if_neg hc] at h
    cases h
theorem si_strvalue {g index : Nat} (X : si_Cx p s m args c cc nL own E A) (hS : va_S A s.heap H locs) (hg : g < 17) (hl : Cond.fieldLink own index "java/lang/String" "value" "[B" ∈ si_GW) (hdg : decode cc pc = .ok (.getfield index, 3)) (kk : W p l e R s m args below meth c H locs cells slots Q (F0 m (pc + 3) ls (.ref (E.2.2.2.2 g) :: rest))) : W p l e R s m args below meth c H locs cells slots Q (F0 m pc ls (.ref (E.2.2.2.1 g) :: rest)) :=
  vk_getf X.1 X.2.1 (X.2.2.2.2.2.2.1.1 g hg).2.2.1 hS X.2.2.2.1 (si_wd X hl) (fun _ h9 => h9) hdg kk
theorem si_strcoder {g index : Nat} (X : si_Cx p s m args c cc nL own E A) (hS : va_S A s.heap H locs) (hg : g < 17) (hl : Cond.fieldLink own index "java/lang/String" "coder" "B" ∈ si_GW) (hdg : decode cc pc = .ok (.getfield index, 3)) (kk : W p l e R s m args below meth c H locs cells slots Q (F0 m (pc + 3) ls (.int 0 :: rest))) : W p l e R s m args below meth c H locs cells slots Q (F0 m pc ls (.ref (E.2.2.2.1 g) :: rest)) :=
  vk_getf X.1 X.2.1 (X.2.2.2.2.2.2.1.1 g hg).2.1 hS X.2.2.2.1 (si_wd X hl) (fun _ h9 => h9) hdg kk
theorem si_strl {g : Nat} (X : si_Cx p s m args c cc nL own E A) (hS : va_S A s.heap H locs) (hg : g < 17) (hdg : decode cc pc = .ok (.arraylength, 1)) (kk : W p l e R s m args below meth c H locs cells slots Q (F0 m (pc + 1) ls (.int (si_sl g) :: rest))) : W p l e R s m args below meth c H locs cells slots Q (F0 m pc ls (.ref (E.2.2.2.2 g) :: rest)) :=
  va_tlen X.1 X.2.1 (X.2.2.2.2.2.2.1.1 g hg).2.2.2 hS rfl hdg kk
theorem si_strb {g : Nat} {i v : Int32} (X : si_Cx p s m args c cc nL own E A) (hS : va_S A s.heap H locs) (hg : g < 17) (h : si_sb g i = some v) (hdg : decode cc pc = .ok (.baload, 1)) (kk : W p l e R s m args below meth c H locs cells slots Q (F0 m (pc + 1) ls (.int v :: rest))) : W p l e R s m args below meth c H locs cells slots Q (F0 m pc ls (.int i :: .ref (E.2.2.2.2 g) :: rest)) := by
  unfold si_sb at h
  by_cases hc : i < 0 ∨ si_slen.getD g 0 ≤ i.toNatClampNeg
  · rw [if_pos hc] at h; cases h
  · rw [if_neg hc] at h
    obtain rfl := Option.some.inj h
    exact va_tb X.1 X.2.1 (X.2.2.2.2.2.2.1.1 g hg).2.2.2 hS hc rfl hdg kk
theorem si_gsC {index : Nat} (X : si_Cx p s m args c cc nL own E A) (hS : va_S A s.heap H locs) (hl : Cond.fieldLink own index "java/lang/String" "COMPACT_STRINGS" "Z" ∈ si_GW) (hdg : decode cc pc = .ok (.getstatic index, 3)) (kk : W p l e R s m args below meth c H locs cells slots Q (F0 m (pc + 3) ls (.int 1 :: rest))) : W p l e R s m args below meth c H locs cells slots Q (F0 m pc ls rest) :=
  va_gets X.1 X.2.1 X.2.2.2.2.2.2.2.2.1 hS X.2.2.2.1 (si_wd X hl) (fun _ h9 => h9) hdg kk
theorem si_gsS {index : Nat} {z : Value} (X : si_Cx p s m args c cc nL own E A) (hS : va_S A s.heap H locs) (hz : va_Z "jdk/internal/util/Preconditions" "SIOOBE_FORMATTER" "Ljava/util/function/BiFunction;" z A s s.heap) (hl : Cond.fieldLink own index "jdk/internal/util/Preconditions" "SIOOBE_FORMATTER" "Ljava/util/function/BiFunction;" ∈ si_GW) (hdg : decode cc pc = .ok (.getstatic index, 3)) (kk : W p l e R s m args below meth c H locs cells slots Q (F0 m (pc + 3) ls (z :: rest))) : W p l e R s m args below meth c H locs cells slots Q (F0 m pc ls rest) :=
  va_gets X.1 X.2.1 hz hS X.2.2.2.1 (si_wd X hl) (fun _ h9 => h9) hdg kk
theorem si_cVS {y : MethodName} {cy : ByteArray} {ny : Nat} {ret : Option FieldType} {rm : Room} {index : Nat} (As : List Value) {g n : Nat} {o : Int32 × si_St} {st : List Value} (hc : si_CV y cy ny ret n "java/lang/String") (hl : Cond.methodLink own index y ∈ si_GW) (X : si_Cx p s m args c cc nL own E A) (hw : si_Ws E A s.heap S H locs) (hA : ∀ q, s.heap.size ≤ q → A q) (hl9 : ls.size = nL) (hM : si_Mi l E y cy ny ret rm (.ref (E.2.2.2.1 g) :: As) S o) (hg : g < 17) (hR : si_Rm rm R ny) (hn : As.length = n) (hst : st = As.reverse ++ .ref (E.2.2.2.1 g) :: rest) (hrest : (rest.map fun v => v.category).sum ≤ 8) (hcs : cells ≤ R.cells ∧ slots ≤ R.slots) (hdg : decode cc pc = .ok (.invokevirtual index, 3)) (kk : ∀ (H1 : Heap) (locs1 : List Loc), si_Ws E A s.heap o.2 H1 locs1 → W p l e R s m args below meth c H1 locs1 cells slots Q (F0 m (pc + 3) ls (.int o.1 :: rest))) : W p l e R s m args below meth c H locs cells slots Q (F0 m pc ls st) := by
  subst hst
  have hF := si_AA_of hw hA
  have X' := X
  obtain ⟨hx, hb, hml, hown, hts, hK, hSt⟩ := X'
  refine va_calli (va_runV (As := As) (rest := rest) (C := "java/lang/String") ⟨hx, hb, hml, hown, hts⟩ (hM H.size) ⟨si_callB X hc.1 hl hR, si_wd X hc.2.1, si_wd X hc.2.2⟩ ⟨si_blind, vk_recv hSt.1 hg hw.2.2, si_pre (sz := 0) X hw hA⟩ rfl hn hl9 rfl (lv_room hrest) hdg hcs) hw.2.2 (fun q _ h => hF q h) hF (fun r2 u t H1 locs1 ht hvm hpost hB hz1 hk1 hS => ?_)
  subst hpost
  obtain ⟨hP1, -, hD1⟩ := hB
  rw [ht] at hP1
  exact kk H1 locs1 ⟨hP1, hD1.weaken (fun _ _ _ h => hF _ h), hS⟩
theorem si_look2 {a b : Int} {d o1 o2 x : Int} (h1 : ¬ a = x) (h2 : ¬ b = x) : Op.lookupswitch.offset [(a, o1), (b, o2)] d x = d := by
  simp [Op.lookupswitch.offset, h1, h2]
end SIR3
theorem si_hu9 : ∀ i, (si_fl 9)[i]? = some (some (1000 + 0)) → i = 9 := by
  intro i h
  have hl : i < 11 := (List.getElem?_eq_some_iff.mp h).1
  have key : ∀ i, i < 11 → (si_fl 9)[i]? = some (some (1000 + 0)) → i = 9 := by decide +kernel
  exact key i hl h
theorem si_hu10 : ∀ i, (si_fl 9)[i]? = some (some (1000 + 1)) → i = 10 := by
  intro i h
  have hl : i < 11 := (List.getElem?_eq_some_iff.mp h).1
  have key : ∀ i, i < 11 → (si_fl 9)[i]? = some (some (1000 + 1)) → i = 10 := by decide +kernel
  exact key i hl h
