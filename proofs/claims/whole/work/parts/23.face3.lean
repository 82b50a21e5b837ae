theorem dX9_baseTolerance_0 : decode cX9_baseTolerance 0 = .ok (.aload_n 0, 1) := by decide +kernel
theorem dX9_baseTolerance_1 : decode cX9_baseTolerance 1 = .ok (.iload_n 1, 1) := by decide +kernel
theorem dX9_baseTolerance_2 : decode cX9_baseTolerance 2 = .ok (.invokevirtual 125, 3) := by decide +kernel
theorem dX9_baseTolerance_5 : decode cX9_baseTolerance 5 = .ok (.ifCond .ne 13, 3) := by decide +kernel
theorem dX9_baseTolerance_8 : decode cX9_baseTolerance 8 = .ok (.new 136, 3) := by decide +kernel
theorem dX9_baseTolerance_11 : decode cX9_baseTolerance 11 = .ok (.dup, 1) := by decide +kernel
theorem dX9_baseTolerance_12 : decode cX9_baseTolerance 12 = .ok (.ldc 138, 2) := by decide +kernel
theorem dX9_baseTolerance_14 : decode cX9_baseTolerance 14 = .ok (.invokespecial 140, 3) := by decide +kernel
theorem dX9_baseTolerance_17 : decode cX9_baseTolerance 17 = .ok (.athrow, 1) := by decide +kernel
theorem dX9_baseTolerance_18 : decode cX9_baseTolerance 18 = .ok (.iload_n 2, 1) := by decide +kernel
theorem dX9_baseTolerance_19 : decode cX9_baseTolerance 19 = .ok (.ifCond .lt 16, 3) := by decide +kernel
theorem dX9_baseTolerance_22 : decode cX9_baseTolerance 22 = .ok (.iload_n 2, 1) := by decide +kernel
theorem dX9_baseTolerance_23 : decode cX9_baseTolerance 23 = .ok (.aload_n 0, 1) := by decide +kernel
theorem dX9_baseTolerance_24 : decode cX9_baseTolerance 24 = .ok (.getfield 71, 3) := by decide +kernel
theorem dX9_baseTolerance_27 : decode cX9_baseTolerance 27 = .ok (.getfield 133, 3) := by decide +kernel
theorem dX9_baseTolerance_30 : decode cX9_baseTolerance 30 = .ok (.iload_n 1, 1) := by decide +kernel
theorem dX9_baseTolerance_31 : decode cX9_baseTolerance 31 = .ok (.iaload, 1) := by decide +kernel
theorem dX9_baseTolerance_32 : decode cX9_baseTolerance 32 = .ok (.if_icmp .le 13, 3) := by decide +kernel
theorem dX9_baseTolerance_35 : decode cX9_baseTolerance 35 = .ok (.new 143, 3) := by decide +kernel
theorem dX9_baseTolerance_38 : decode cX9_baseTolerance 38 = .ok (.dup, 1) := by decide +kernel
theorem dX9_baseTolerance_39 : decode cX9_baseTolerance 39 = .ok (.ldc 145, 2) := by decide +kernel
theorem dX9_baseTolerance_41 : decode cX9_baseTolerance 41 = .ok (.invokespecial 147, 3) := by decide +kernel
theorem dX9_baseTolerance_44 : decode cX9_baseTolerance 44 = .ok (.athrow, 1) := by decide +kernel
theorem dX9_baseTolerance_45 : decode cX9_baseTolerance 45 = .ok (.aload_n 0, 1) := by decide +kernel
theorem dX9_baseTolerance_46 : decode cX9_baseTolerance 46 = .ok (.getfield 71, 3) := by decide +kernel
theorem dX9_baseTolerance_49 : decode cX9_baseTolerance 49 = .ok (.iload_n 1, 1) := by decide +kernel
theorem dX9_baseTolerance_50 : decode cX9_baseTolerance 50 = .ok (.iload_n 2, 1) := by decide +kernel
theorem dX9_baseTolerance_51 : decode cX9_baseTolerance 51 = .ok (.invokevirtual 148, 3) := by decide +kernel
theorem dX9_baseTolerance_54 : decode cX9_baseTolerance 54 = .ok (.ireturn, 1) := by decide +kernel
theorem dX9_testLoad_0 : decode cX9_testLoad 0 = .ok (.aload_n 0, 1) := by decide +kernel
theorem dX9_testLoad_1 : decode cX9_testLoad 1 = .ok (.iload_n 1, 1) := by decide +kernel
theorem dX9_testLoad_2 : decode cX9_testLoad 2 = .ok (.iload_n 2, 1) := by decide +kernel
theorem dX9_testLoad_3 : decode cX9_testLoad 3 = .ok (.invokevirtual 208, 3) := by decide +kernel
theorem dX9_testLoad_6 : decode cX9_testLoad 6 = .ok (.ifCond .ne 13, 3) := by decide +kernel
theorem dX9_testLoad_9 : decode cX9_testLoad 9 = .ok (.new 136, 3) := by decide +kernel
theorem dX9_testLoad_12 : decode cX9_testLoad 12 = .ok (.dup, 1) := by decide +kernel
theorem dX9_testLoad_13 : decode cX9_testLoad 13 = .ok (.ldc 212, 2) := by decide +kernel
theorem dX9_testLoad_15 : decode cX9_testLoad 15 = .ok (.invokespecial 140, 3) := by decide +kernel
theorem dX9_testLoad_18 : decode cX9_testLoad 18 = .ok (.athrow, 1) := by decide +kernel
theorem dX9_testLoad_19 : decode cX9_testLoad 19 = .ok (.aload_n 0, 1) := by decide +kernel
theorem dX9_testLoad_20 : decode cX9_testLoad 20 = .ok (.getfield 26, 3) := by decide +kernel
theorem dX9_testLoad_23 : decode cX9_testLoad 23 = .ok (.getfield 214, 3) := by decide +kernel
theorem dX9_testLoad_26 : decode cX9_testLoad 26 = .ok (.iload_n 1, 1) := by decide +kernel
theorem dX9_testLoad_27 : decode cX9_testLoad 27 = .ok (.bipush 8, 2) := by decide +kernel
theorem dX9_testLoad_29 : decode cX9_testLoad 29 = .ok (.imul, 1) := by decide +kernel
theorem dX9_testLoad_30 : decode cX9_testLoad 30 = .ok (.iload_n 2, 1) := by decide +kernel
theorem dX9_testLoad_31 : decode cX9_testLoad 31 = .ok (.iadd, 1) := by decide +kernel
theorem dX9_testLoad_32 : decode cX9_testLoad 32 = .ok (.iaload, 1) := by decide +kernel
theorem dX9_testLoad_33 : decode cX9_testLoad 33 = .ok (.ireturn, 1) := by decide +kernel
theorem dX9_testError_0 : decode cX9_testError 0 = .ok (.aload_n 0, 1) := by decide +kernel
theorem dX9_testError_1 : decode cX9_testError 1 = .ok (.iload_n 1, 1) := by decide +kernel
theorem dX9_testError_2 : decode cX9_testError 2 = .ok (.iload_n 2, 1) := by decide +kernel
theorem dX9_testError_3 : decode cX9_testError 3 = .ok (.invokevirtual 208, 3) := by decide +kernel
theorem dX9_testError_6 : decode cX9_testError 6 = .ok (.ifCond .ne 13, 3) := by decide +kernel
theorem dX9_testError_9 : decode cX9_testError 9 = .ok (.new 136, 3) := by decide +kernel
theorem dX9_testError_12 : decode cX9_testError 12 = .ok (.dup, 1) := by decide +kernel
theorem dX9_testError_13 : decode cX9_testError 13 = .ok (.ldc 212, 2) := by decide +kernel
theorem dX9_testError_15 : decode cX9_testError 15 = .ok (.invokespecial 140, 3) := by decide +kernel
theorem dX9_testError_18 : decode cX9_testError 18 = .ok (.athrow, 1) := by decide +kernel
theorem dX9_testError_19 : decode cX9_testError 19 = .ok (.aload_n 0, 1) := by decide +kernel
theorem dX9_testError_20 : decode cX9_testError 20 = .ok (.getfield 26, 3) := by decide +kernel
theorem dX9_testError_23 : decode cX9_testError 23 = .ok (.getfield 217, 3) := by decide +kernel
theorem dX9_testError_26 : decode cX9_testError 26 = .ok (.iload_n 1, 1) := by decide +kernel
theorem dX9_testError_27 : decode cX9_testError 27 = .ok (.bipush 8, 2) := by decide +kernel
theorem dX9_testError_29 : decode cX9_testError 29 = .ok (.imul, 1) := by decide +kernel
theorem dX9_testError_30 : decode cX9_testError 30 = .ok (.iload_n 2, 1) := by decide +kernel
theorem dX9_testError_31 : decode cX9_testError 31 = .ok (.iadd, 1) := by decide +kernel
theorem dX9_testError_32 : decode cX9_testError 32 = .ok (.iaload, 1) := by decide +kernel
theorem dX9_testError_33 : decode cX9_testError 33 = .ok (.ireturn, 1) := by decide +kernel
theorem dX9_testPasses_0 : decode cX9_testPasses 0 = .ok (.aload_n 0, 1) := by decide +kernel
theorem dX9_testPasses_1 : decode cX9_testPasses 1 = .ok (.iload_n 1, 1) := by decide +kernel
theorem dX9_testPasses_2 : decode cX9_testPasses 2 = .ok (.iload_n 2, 1) := by decide +kernel
theorem dX9_testPasses_3 : decode cX9_testPasses 3 = .ok (.invokevirtual 208, 3) := by decide +kernel
theorem dX9_testPasses_6 : decode cX9_testPasses 6 = .ok (.ifCond .ne 13, 3) := by decide +kernel
theorem dX9_testPasses_9 : decode cX9_testPasses 9 = .ok (.new 136, 3) := by decide +kernel
theorem dX9_testPasses_12 : decode cX9_testPasses 12 = .ok (.dup, 1) := by decide +kernel
theorem dX9_testPasses_13 : decode cX9_testPasses 13 = .ok (.ldc 212, 2) := by decide +kernel
theorem dX9_testPasses_15 : decode cX9_testPasses 15 = .ok (.invokespecial 140, 3) := by decide +kernel
theorem dX9_testPasses_18 : decode cX9_testPasses 18 = .ok (.athrow, 1) := by decide +kernel
theorem dX9_testPasses_19 : decode cX9_testPasses 19 = .ok (.aload_n 0, 1) := by decide +kernel
theorem dX9_testPasses_20 : decode cX9_testPasses 20 = .ok (.getfield 26, 3) := by decide +kernel
theorem dX9_testPasses_23 : decode cX9_testPasses 23 = .ok (.aload_n 0, 1) := by decide +kernel
theorem dX9_testPasses_24 : decode cX9_testPasses 24 = .ok (.getfield 71, 3) := by decide +kernel
theorem dX9_testPasses_27 : decode cX9_testPasses 27 = .ok (.iload_n 1, 1) := by decide +kernel
theorem dX9_testPasses_28 : decode cX9_testPasses 28 = .ok (.iload_n 2, 1) := by decide +kernel
theorem dX9_testPasses_29 : decode cX9_testPasses 29 = .ok (.iconst 0, 1) := by decide +kernel
theorem dX9_testPasses_30 : decode cX9_testPasses 30 = .ok (.invokevirtual 220, 3) := by decide +kernel
theorem dX9_testPasses_33 : decode cX9_testPasses 33 = .ok (.ireturn, 1) := by decide +kernel
theorem dX9_adjustment_0 : decode cX9_adjustment 0 = .ok (.aload_n 0, 1) := by decide +kernel
theorem dX9_adjustment_1 : decode cX9_adjustment 1 = .ok (.iload_n 1, 1) := by decide +kernel
theorem dX9_adjustment_2 : decode cX9_adjustment 2 = .ok (.invokevirtual 181, 3) := by decide +kernel
theorem dX9_adjustment_5 : decode cX9_adjustment 5 = .ok (.ifCond .ne 13, 3) := by decide +kernel
theorem dX9_adjustment_8 : decode cX9_adjustment 8 = .ok (.new 136, 3) := by decide +kernel
theorem dX9_adjustment_11 : decode cX9_adjustment 11 = .ok (.dup, 1) := by decide +kernel
theorem dX9_adjustment_12 : decode cX9_adjustment 12 = .ok (.ldc 228, 2) := by decide +kernel
theorem dX9_adjustment_14 : decode cX9_adjustment 14 = .ok (.invokespecial 140, 3) := by decide +kernel
theorem dX9_adjustment_17 : decode cX9_adjustment 17 = .ok (.athrow, 1) := by decide +kernel
theorem dX9_adjustment_18 : decode cX9_adjustment 18 = .ok (.aload_n 0, 1) := by decide +kernel
theorem dX9_adjustment_19 : decode cX9_adjustment 19 = .ok (.getfield 26, 3) := by decide +kernel
theorem dX9_adjustment_22 : decode cX9_adjustment 22 = .ok (.getfield 201, 3) := by decide +kernel
theorem dX9_adjustment_25 : decode cX9_adjustment 25 = .ok (.iload_n 1, 1) := by decide +kernel
theorem dX9_adjustment_26 : decode cX9_adjustment 26 = .ok (.iaload, 1) := by decide +kernel
theorem dX9_adjustment_27 : decode cX9_adjustment 27 = .ok (.ifCond .ne 13, 3) := by decide +kernel
theorem dX9_adjustment_30 : decode cX9_adjustment 30 = .ok (.new 230, 3) := by decide +kernel
theorem dX9_adjustment_33 : decode cX9_adjustment 33 = .ok (.dup, 1) := by decide +kernel
theorem dX9_adjustment_34 : decode cX9_adjustment 34 = .ok (.ldc 232, 2) := by decide +kernel
theorem dX9_adjustment_36 : decode cX9_adjustment 36 = .ok (.invokespecial 234, 3) := by decide +kernel
theorem dX9_adjustment_39 : decode cX9_adjustment 39 = .ok (.athrow, 1) := by decide +kernel
theorem dX9_adjustment_40 : decode cX9_adjustment 40 = .ok (.aload_n 0, 1) := by decide +kernel
theorem dX9_adjustment_41 : decode cX9_adjustment 41 = .ok (.getfield 26, 3) := by decide +kernel
theorem dX9_adjustment_44 : decode cX9_adjustment 44 = .ok (.iload_n 1, 1) := by decide +kernel
theorem dX9_adjustment_45 : decode cX9_adjustment 45 = .ok (.invokevirtual 235, 3) := by decide +kernel
theorem dX9_adjustment_48 : decode cX9_adjustment 48 = .ok (.ireturn, 1) := by decide +kernel
theorem si_ts3 {a b : Cond} {L : List Cond} (ha : vx_ot a = true) (hb : vx_ot b = true) (hL : ∀ w ∈ L, vx_ot w = true) : ∀ w ∈ a :: b :: L, vx_ot w = true := by
  intro w hw
  rcases List.mem_cons.mp hw with rfl | hw
  · exact ha
  · rcases List.mem_cons.mp hw with rfl | hw
    · exact hb
    · exact hL w hw
theorem ws_RX9_147_a : ∀ w ∈ (vx_atS RX9 147 (si_xn 2) si_chain).filter goodWord, w ∈ si_GW := fun w hw => List.mem_filter.mpr ⟨(by decide +kernel : ∀ w ∈ (vx_atS RX9 147 (si_xn 2) si_chain).filter goodWord, w ∈ lw_tbl) w hw, (List.mem_filter.mp hw).2⟩
theorem ws_RX9_147_b : ∀ w ∈ (vx_atS RX9 147 (si_xn 2) si_chain).filter (fun w => !goodWord w), w ∈ si_XB := by decide +kernel
theorem ws_RX9_147_c : ∀ w ∈ (vx_atS RX9 147 (si_xn 2) si_chain), vx_ot w = true := by decide +kernel
theorem ws_RX9_140_a : ∀ w ∈ (vx_atS RX9 140 (si_xn 1) si_chain).filter goodWord, w ∈ si_GW := fun w hw => List.mem_filter.mpr ⟨(by decide +kernel : ∀ w ∈ (vx_atS RX9 140 (si_xn 1) si_chain).filter goodWord, w ∈ lw_tbl) w hw, (List.mem_filter.mp hw).2⟩
theorem ws_RX9_140_b : ∀ w ∈ (vx_atS RX9 140 (si_xn 1) si_chain).filter (fun w => !goodWord w), w ∈ si_XB := by decide +kernel
theorem ws_RX9_140_c : ∀ w ∈ (vx_atS RX9 140 (si_xn 1) si_chain), vx_ot w = true := by decide +kernel
theorem ts_X9_baseTolerance_35 : si_Ts cX9_baseTolerance RX9 35 2 "load out of range" 143 145 147 9 := ⟨⟨dX9_baseTolerance_35, dX9_baseTolerance_38, dX9_baseTolerance_39, dX9_baseTolerance_41, dX9_baseTolerance_44⟩, by decide +kernel, gq_RX9_143, gi_IllegalArgumentException, si_sr 1 rfl, ws_RX9_147_a, ws_RX9_147_b, si_ts3 rfl rfl ws_RX9_147_c⟩
theorem ts_X9_baseTolerance_8 : si_Ts cX9_baseTolerance RX9 8 1 "no such scale" 136 138 140 8 := ⟨⟨dX9_baseTolerance_8, dX9_baseTolerance_11, dX9_baseTolerance_12, dX9_baseTolerance_14, dX9_baseTolerance_17⟩, by decide +kernel, gq_RX9_136, gi_IndexOutOfBoundsException, si_sr 0 rfl, ws_RX9_140_a, ws_RX9_140_b, si_ts3 rfl rfl ws_RX9_140_c⟩
def f_X9_baseTolerance_h35 (F : Nat) (S : si_St) : Option (Int32 × Int32 × si_St) :=
  some (2, 0, S)
def f_X9_baseTolerance (F : Nat) (x1 : Int32) (x2 : Int32) (S : si_St) : Option (Int32 × Int32 × si_St) :=
  Option.bind (f_X9_hasScale F x1 S) fun q1 => if q1.1 = 0 then (some (1, 0, q1.2)) else (if x2 < 0 then (f_X9_baseTolerance_h35 F q1.2) else (Option.bind (si_mk q1.2 0 2) fun k92 => Option.bind (si_rd q1.2 (k92 + 4) x1) fun v3 => if x2 ≤ v3 then (Option.bind (si_mk q1.2 0 2) fun k94 => Option.bind (f_X2_toleranceAt F k94 x1 x2 q1.2) fun q5 => some (0, q5.1, q5.2)) else (f_X9_baseTolerance_h35 F q1.2)))
theorem ts_X9_testLoad_9 : si_Ts cX9_testLoad RX9 9 1 "no such visit or test" 136 212 140 10 := ⟨⟨dX9_testLoad_9, dX9_testLoad_12, dX9_testLoad_13, dX9_testLoad_15, dX9_testLoad_18⟩, by decide +kernel, gq_RX9_136, gi_IndexOutOfBoundsException, si_sr 2 rfl, ws_RX9_140_a, ws_RX9_140_b, si_ts3 rfl rfl ws_RX9_140_c⟩
def f_X9_testLoad (F : Nat) (x1 : Int32) (x2 : Int32) (S : si_St) : Option (Int32 × Int32 × si_St) :=
  Option.bind (f_X9_hasTest F x1 x2 S) fun q1 => if q1.1 = 0 then (some (1, 0, q1.2)) else (Option.bind (si_rd q1.2 14 ((x1 * 8) + x2)) fun v2 => some (0, v2, q1.2))
theorem ts_X9_testError_9 : si_Ts cX9_testError RX9 9 1 "no such visit or test" 136 212 140 10 := ⟨⟨dX9_testError_9, dX9_testError_12, dX9_testError_13, dX9_testError_15, dX9_testError_18⟩, by decide +kernel, gq_RX9_136, gi_IndexOutOfBoundsException, si_sr 2 rfl, ws_RX9_140_a, ws_RX9_140_b, si_ts3 rfl rfl ws_RX9_140_c⟩
def f_X9_testError (F : Nat) (x1 : Int32) (x2 : Int32) (S : si_St) : Option (Int32 × Int32 × si_St) :=
  Option.bind (f_X9_hasTest F x1 x2 S) fun q1 => if q1.1 = 0 then (some (1, 0, q1.2)) else (Option.bind (si_rd q1.2 15 ((x1 * 8) + x2)) fun v2 => some (0, v2, q1.2))
theorem ts_X9_testPasses_9 : si_Ts cX9_testPasses RX9 9 1 "no such visit or test" 136 212 140 10 := ⟨⟨dX9_testPasses_9, dX9_testPasses_12, dX9_testPasses_13, dX9_testPasses_15, dX9_testPasses_18⟩, by decide +kernel, gq_RX9_136, gi_IndexOutOfBoundsException, si_sr 2 rfl, ws_RX9_140_a, ws_RX9_140_b, si_ts3 rfl rfl ws_RX9_140_c⟩
def f_X9_testPasses (F : Nat) (x1 : Int32) (x2 : Int32) (S : si_St) : Option (Int32 × Int32 × si_St) :=
  Option.bind (f_X9_hasTest F x1 x2 S) fun q1 => if q1.1 = 0 then (some (1, 0, q1.2)) else (Option.bind (si_mk q1.2 0 2) fun k92 => Option.bind (f_X7_isWithinTolerance F k92 x1 x2 0 q1.2) fun q3 => Option.bind (si_bz q3.1) fun v4 => some (0, v4, q3.2))
theorem ws_RX9_234_a : ∀ w ∈ (vx_atS RX9 234 (si_xn 3) si_chain).filter goodWord, w ∈ si_GW := fun w hw => List.mem_filter.mpr ⟨(by decide +kernel : ∀ w ∈ (vx_atS RX9 234 (si_xn 3) si_chain).filter goodWord, w ∈ lw_tbl) w hw, (List.mem_filter.mp hw).2⟩
theorem ws_RX9_234_b : ∀ w ∈ (vx_atS RX9 234 (si_xn 3) si_chain).filter (fun w => !goodWord w), w ∈ si_XB := by decide +kernel
theorem ws_RX9_234_c : ∀ w ∈ (vx_atS RX9 234 (si_xn 3) si_chain), vx_ot w = true := by decide +kernel
theorem ts_X9_adjustment_30 : si_Ts cX9_adjustment RX9 30 3 "the visit has no test" 230 232 234 12 := ⟨⟨dX9_adjustment_30, dX9_adjustment_33, dX9_adjustment_34, dX9_adjustment_36, dX9_adjustment_39⟩, by decide +kernel, gq_RX9_230, gi_IllegalStateException, si_sr 4 rfl, ws_RX9_234_a, ws_RX9_234_b, si_ts3 rfl rfl ws_RX9_234_c⟩
theorem ts_X9_adjustment_8 : si_Ts cX9_adjustment RX9 8 1 "no such visit" 136 228 140 11 := ⟨⟨dX9_adjustment_8, dX9_adjustment_11, dX9_adjustment_12, dX9_adjustment_14, dX9_adjustment_17⟩, by decide +kernel, gq_RX9_136, gi_IndexOutOfBoundsException, si_sr 3 rfl, ws_RX9_140_a, ws_RX9_140_b, si_ts3 rfl rfl ws_RX9_140_c⟩
def f_X9_adjustment (F : Nat) (x1 : Int32) (S : si_St) : Option (Int32 × Int32 × si_St) :=
  Option.bind (f_X9_hasVisit F x1 S) fun q1 => if q1.1 = 0 then (some (1, 0, q1.2)) else (Option.bind (si_rd q1.2 12 x1) fun v2 => if v2 = 0 then (some (3, 0, q1.2)) else (Option.bind (f_X7_middleError F x1 q1.2) fun q3 => some (0, q3.1, q3.2)))
abbrev rm_X9_baseTolerance : Room := { frames := 6, cells := 1, slots := 6, locals := 90 }
set_option maxHeartbeats 4000000 in
set_option maxRecDepth 100000 in
theorem c_X9_baseTolerance (l : Launch) (hl0 : l.stackTraces = false) (E : si_Ev) (F : Nat) (x1 : Int32) (x2 : Int32) (S : si_St) (o : Int32 × Int32 × si_St) (hf : f_X9_baseTolerance F x1 x2 S = some o) : si_Mx l E yX9_baseTolerance cX9_baseTolerance 3 (some .int) rm_X9_baseTolerance [.ref (E.2.1 0), .int x1, .int x2] S o := by
  refine si_ofWx hl0 (by decide +kernel) (Nat.le_of_ble_eq_true rfl) ⟨Nat.le_of_ble_eq_true rfl, Nat.le_of_ble_eq_true rfl, rfl, rfl⟩ ?_
  intro p e s m args below meth c ls Q A X hw hA hl hret hthr
  have hl : lv_has ls 3 [(0, .ref (E.2.1 0)), (1, .int x1), (2, .int x2)] := hl
  have B35 : ∀ (S : si_St) (H : Heap) (locs : List Loc) (ls : Array Slot) , f_X9_baseTolerance_h35 F S = some o → si_Ws E A s.heap S H locs → lv_has ls 3 [] → W p l e rm_X9_baseTolerance s m args below meth c H locs 0 0 Q (F0 m 35 ls []) := by
    intro   S H locs ls  hf hw hl
    unfold f_X9_baseTolerance_h35 at hf
    exact hthr _ _ _ _ _ _ _ _ _ _ _ _ hf (by decide) ts_X9_baseTolerance_35 hw hl.1 (Nat.le_of_ble_eq_true rfl)
  unfold f_X9_baseTolerance at hf
  refine lv_aload_n X.1 X.2.1 dX9_baseTolerance_0 rfl (lv_at hl 0 rfl) ?_
  refine lv_iload_n X.1 X.2.1 dX9_baseTolerance_1 rfl (lv_at hl 1 rfl) ?_
  obtain ⟨q1, eq1, hf⟩ := si_ob hf
  refine si_cVi [.int x1] cal_X9_hasScale gm_RX9_125 X hw hA hl.1 (c_X9_hasScale l E F x1 S q1 eq1) si_cl9 rfl ⟨⟨rfl, rfl⟩, Nat.le_of_ble_eq_true rfl, Nat.le_of_ble_eq_true rfl⟩ rfl rfl (Nat.le_of_ble_eq_true rfl) ⟨Nat.zero_le _, Nat.zero_le _⟩ dX9_baseTolerance_2 (fun H locs hw => ?_)
  refine lv_if_ne (tgt := 18) X.1 X.2.1 dX9_baseTolerance_5 (by decide) (fun c5 => ?_) (fun c5 => ?_)
  · have hf := si_in c5 hf
    refine lv_iload_n X.1 X.2.1 dX9_baseTolerance_18 rfl (lv_at hl 2 rfl) ?_
    refine lv_if_lt (tgt := 35) X.1 X.2.1 dX9_baseTolerance_19 (by decide) (fun c19 => ?_) (fun c19 => ?_)
    · have hf := si_ip c19 hf
      exact B35 _ _ _ _ hf hw (lv_sub hl [] rfl)
    · have hf := si_in c19 hf
      refine lv_iload_n X.1 X.2.1 dX9_baseTolerance_22 rfl (lv_at hl 2 rfl) ?_
      refine lv_aload_n X.1 X.2.1 dX9_baseTolerance_23 rfl (lv_at hl 0 rfl) ?_
      obtain ⟨k92, ek92, hf⟩ := si_ob hf
      have hk92 := (si_mk_inv ek92).1
      refine si_gtM (d := 0) X hw si_cl9 9 (by decide) gf_RX9_71 rfl rfl rfl ek92 dX9_baseTolerance_24 ?_
      refine si_getR (k' := (k92 + 4)) (d := 4) X hw si_cl2 7 (by decide) gf_RX9_133 rfl hk92 rfl (by decide) rfl dX9_baseTolerance_27 ?_
      refine lv_iload_n X.1 X.2.1 dX9_baseTolerance_30 rfl (lv_at hl 1 rfl) ?_
      obtain ⟨v3, ev3, hf⟩ := si_ob hf
      refine si_iald X hw (sk_2_4 hk92) ev3 dX9_baseTolerance_31 ?_
      refine lv_icmp_le (tgt := 45) X.1 X.2.1 dX9_baseTolerance_32 (by decide) (fun c32 => ?_) (fun c32 => ?_)
      · have hf := si_ip c32 hf
        refine lv_aload_n X.1 X.2.1 dX9_baseTolerance_45 rfl (lv_at hl 0 rfl) ?_
        obtain ⟨k94, ek94, hf⟩ := si_ob hf
        have hk94 := (si_mk_inv ek94).1
        refine si_gtM (d := 0) X hw si_cl9 9 (by decide) gf_RX9_71 rfl rfl rfl ek94 dX9_baseTolerance_46 ?_
        refine lv_iload_n X.1 X.2.1 dX9_baseTolerance_49 rfl (lv_at hl 1 rfl) ?_
        refine lv_iload_n X.1 X.2.1 dX9_baseTolerance_50 rfl (lv_at hl 2 rfl) ?_
        obtain ⟨q5, eq5, hf⟩ := si_ob hf
        refine si_cVi [.int x1, .int x2] cal_X2_toleranceAt gm_RX9_148 X hw hA hl.1 (c_X2_toleranceAt l E F k94 hk94 x1 x2 q1.2 q5 eq5) si_cl2 hk94 ⟨⟨rfl, rfl⟩, Nat.le_of_ble_eq_true rfl, Nat.le_of_ble_eq_true rfl⟩ rfl rfl (Nat.le_of_ble_eq_true rfl) ⟨Nat.zero_le _, Nat.zero_le _⟩ dX9_baseTolerance_51 (fun H locs hw => ?_)
        exact hret _ _ _ _ _ _ hf rfl hw dX9_baseTolerance_54
      · have hf := si_in c32 hf
        exact B35 _ _ _ _ hf hw (lv_sub hl [] rfl)
  · have hf := si_ip c5 hf
    exact hthr _ _ _ _ _ _ _ _ _ _ _ _ hf (by decide) ts_X9_baseTolerance_8 hw hl.1 (Nat.le_of_ble_eq_true rfl)
abbrev rm_X9_testLoad : Room := { frames := 6, cells := 1, slots := 6, locals := 90 }
set_option maxHeartbeats 4000000 in
set_option maxRecDepth 100000 in
theorem c_X9_testLoad (l : Launch) (hl0 : l.stackTraces = false) (E : si_Ev) (F : Nat) (x1 : Int32) (x2 : Int32) (S : si_St) (o : Int32 × Int32 × si_St) (hf : f_X9_testLoad F x1 x2 S = some o) : si_Mx l E yX9_testLoad cX9_testLoad 3 (some .int) rm_X9_testLoad [.ref (E.2.1 0), .int x1, .int x2] S o := by
  refine si_ofWx hl0 (by decide +kernel) (Nat.le_of_ble_eq_true rfl) ⟨Nat.le_of_ble_eq_true rfl, Nat.le_of_ble_eq_true rfl, rfl, rfl⟩ ?_
  intro p e s m args below meth c ls Q A X hw hA hl hret hthr
  have hl : lv_has ls 3 [(0, .ref (E.2.1 0)), (1, .int x1), (2, .int x2)] := hl
  unfold f_X9_testLoad at hf
  refine lv_aload_n X.1 X.2.1 dX9_testLoad_0 rfl (lv_at hl 0 rfl) ?_
  refine lv_iload_n X.1 X.2.1 dX9_testLoad_1 rfl (lv_at hl 1 rfl) ?_
  refine lv_iload_n X.1 X.2.1 dX9_testLoad_2 rfl (lv_at hl 2 rfl) ?_
  obtain ⟨q1, eq1, hf⟩ := si_ob hf
  refine si_cVi [.int x1, .int x2] cal_X9_hasTest gm_RX9_208 X hw hA hl.1 (c_X9_hasTest l E F x1 x2 S q1 eq1) si_cl9 rfl ⟨⟨rfl, rfl⟩, Nat.le_of_ble_eq_true rfl, Nat.le_of_ble_eq_true rfl⟩ rfl rfl (Nat.le_of_ble_eq_true rfl) ⟨Nat.zero_le _, Nat.zero_le _⟩ dX9_testLoad_3 (fun H locs hw => ?_)
  refine lv_if_ne (tgt := 19) X.1 X.2.1 dX9_testLoad_6 (by decide) (fun c6 => ?_) (fun c6 => ?_)
  · have hf := si_in c6 hf
    refine lv_aload_n X.1 X.2.1 dX9_testLoad_19 rfl (lv_at hl 0 rfl) ?_
    refine si_getR (k' := 7) (d := 7) X hw si_cl9 2 (by decide) gf_RX9_26 rfl rfl rfl (by decide) rfl dX9_testLoad_20 ?_
    refine si_getR (k' := 14) (d := 7) X hw si_cl7 7 (by decide) gf_RX9_214 rfl rfl rfl (by decide) rfl dX9_testLoad_23 ?_
    refine lv_iload_n X.1 X.2.1 dX9_testLoad_26 rfl (lv_at hl 1 rfl) ?_
    refine lv_bipush (v := 8) X.1 X.2.1 dX9_testLoad_27 (by decide) ?_
    refine lv_imul X.1 X.2.1 dX9_testLoad_29 ?_
    refine lv_iload_n X.1 X.2.1 dX9_testLoad_30 rfl (lv_at hl 2 rfl) ?_
    refine lv_iadd X.1 X.2.1 dX9_testLoad_31 ?_
    obtain ⟨v2, ev2, hf⟩ := si_ob hf
    refine si_iald X hw rfl ev2 dX9_testLoad_32 ?_
    exact hret _ _ _ _ _ _ hf rfl hw dX9_testLoad_33
  · have hf := si_ip c6 hf
    exact hthr _ _ _ _ _ _ _ _ _ _ _ _ hf (by decide) ts_X9_testLoad_9 hw hl.1 (Nat.le_of_ble_eq_true rfl)
abbrev rm_X9_testError : Room := { frames := 6, cells := 1, slots := 6, locals := 90 }
set_option maxHeartbeats 4000000 in
set_option maxRecDepth 100000 in
theorem c_X9_testError (l : Launch) (hl0 : l.stackTraces = false) (E : si_Ev) (F : Nat) (x1 : Int32) (x2 : Int32) (S : si_St) (o : Int32 × Int32 × si_St) (hf : f_X9_testError F x1 x2 S = some o) : si_Mx l E yX9_testError cX9_testError 3 (some .int) rm_X9_testError [.ref (E.2.1 0), .int x1, .int x2] S o := by
  refine si_ofWx hl0 (by decide +kernel) (Nat.le_of_ble_eq_true rfl) ⟨Nat.le_of_ble_eq_true rfl, Nat.le_of_ble_eq_true rfl, rfl, rfl⟩ ?_
  intro p e s m args below meth c ls Q A X hw hA hl hret hthr
  have hl : lv_has ls 3 [(0, .ref (E.2.1 0)), (1, .int x1), (2, .int x2)] := hl
  unfold f_X9_testError at hf
  refine lv_aload_n X.1 X.2.1 dX9_testError_0 rfl (lv_at hl 0 rfl) ?_
  refine lv_iload_n X.1 X.2.1 dX9_testError_1 rfl (lv_at hl 1 rfl) ?_
  refine lv_iload_n X.1 X.2.1 dX9_testError_2 rfl (lv_at hl 2 rfl) ?_
  obtain ⟨q1, eq1, hf⟩ := si_ob hf
  refine si_cVi [.int x1, .int x2] cal_X9_hasTest gm_RX9_208 X hw hA hl.1 (c_X9_hasTest l E F x1 x2 S q1 eq1) si_cl9 rfl ⟨⟨rfl, rfl⟩, Nat.le_of_ble_eq_true rfl, Nat.le_of_ble_eq_true rfl⟩ rfl rfl (Nat.le_of_ble_eq_true rfl) ⟨Nat.zero_le _, Nat.zero_le _⟩ dX9_testError_3 (fun H locs hw => ?_)
  refine lv_if_ne (tgt := 19) X.1 X.2.1 dX9_testError_6 (by decide) (fun c6 => ?_) (fun c6 => ?_)
  · have hf := si_in c6 hf
    refine lv_aload_n X.1 X.2.1 dX9_testError_19 rfl (lv_at hl 0 rfl) ?_
    refine si_getR (k' := 7) (d := 7) X hw si_cl9 2 (by decide) gf_RX9_26 rfl rfl rfl (by decide) rfl dX9_testError_20 ?_
    refine si_getR (k' := 15) (d := 8) X hw si_cl7 8 (by decide) gf_RX9_217 rfl rfl rfl (by decide) rfl dX9_testError_23 ?_
    refine lv_iload_n X.1 X.2.1 dX9_testError_26 rfl (lv_at hl 1 rfl) ?_
    refine lv_bipush (v := 8) X.1 X.2.1 dX9_testError_27 (by decide) ?_
    refine lv_imul X.1 X.2.1 dX9_testError_29 ?_
    refine lv_iload_n X.1 X.2.1 dX9_testError_30 rfl (lv_at hl 2 rfl) ?_
    refine lv_iadd X.1 X.2.1 dX9_testError_31 ?_
    obtain ⟨v2, ev2, hf⟩ := si_ob hf
    refine si_iald X hw rfl ev2 dX9_testError_32 ?_
    exact hret _ _ _ _ _ _ hf rfl hw dX9_testError_33
  · have hf := si_ip c6 hf
    exact hthr _ _ _ _ _ _ _ _ _ _ _ _ hf (by decide) ts_X9_testError_9 hw hl.1 (Nat.le_of_ble_eq_true rfl)
abbrev rm_X9_testPasses : Room := { frames := 6, cells := 1, slots := 6, locals := 92 }
set_option maxHeartbeats 4000000 in
set_option maxRecDepth 100000 in
theorem c_X9_testPasses (l : Launch) (hl0 : l.stackTraces = false) (E : si_Ev) (F : Nat) (x1 : Int32) (x2 : Int32) (S : si_St) (o : Int32 × Int32 × si_St) (hf : f_X9_testPasses F x1 x2 S = some o) : si_Mx l E yX9_testPasses cX9_testPasses 3 (some .boolean) rm_X9_testPasses [.ref (E.2.1 0), .int x1, .int x2] S o := by
  refine si_ofWx hl0 (by decide +kernel) (Nat.le_of_ble_eq_true rfl) ⟨Nat.le_of_ble_eq_true rfl, Nat.le_of_ble_eq_true rfl, rfl, rfl⟩ ?_
  intro p e s m args below meth c ls Q A X hw hA hl hret hthr
  have hl : lv_has ls 3 [(0, .ref (E.2.1 0)), (1, .int x1), (2, .int x2)] := hl
  unfold f_X9_testPasses at hf
  refine lv_aload_n X.1 X.2.1 dX9_testPasses_0 rfl (lv_at hl 0 rfl) ?_
  refine lv_iload_n X.1 X.2.1 dX9_testPasses_1 rfl (lv_at hl 1 rfl) ?_
  refine lv_iload_n X.1 X.2.1 dX9_testPasses_2 rfl (lv_at hl 2 rfl) ?_
  obtain ⟨q1, eq1, hf⟩ := si_ob hf
  refine si_cVi [.int x1, .int x2] cal_X9_hasTest gm_RX9_208 X hw hA hl.1 (c_X9_hasTest l E F x1 x2 S q1 eq1) si_cl9 rfl ⟨⟨rfl, rfl⟩, Nat.le_of_ble_eq_true rfl, Nat.le_of_ble_eq_true rfl⟩ rfl rfl (Nat.le_of_ble_eq_true rfl) ⟨Nat.zero_le _, Nat.zero_le _⟩ dX9_testPasses_3 (fun H locs hw => ?_)
  refine lv_if_ne (tgt := 19) X.1 X.2.1 dX9_testPasses_6 (by decide) (fun c6 => ?_) (fun c6 => ?_)
  · have hf := si_in c6 hf
    refine lv_aload_n X.1 X.2.1 dX9_testPasses_19 rfl (lv_at hl 0 rfl) ?_
    refine si_getR (k' := 7) (d := 7) X hw si_cl9 2 (by decide) gf_RX9_26 rfl rfl rfl (by decide) rfl dX9_testPasses_20 ?_
    refine lv_aload_n X.1 X.2.1 dX9_testPasses_23 rfl (lv_at hl 0 rfl) ?_
    obtain ⟨k92, ek92, hf⟩ := si_ob hf
    have hk92 := (si_mk_inv ek92).1
    refine si_gtM (d := 0) X hw si_cl9 9 (by decide) gf_RX9_71 rfl rfl rfl ek92 dX9_testPasses_24 ?_
    refine lv_iload_n X.1 X.2.1 dX9_testPasses_27 rfl (lv_at hl 1 rfl) ?_
    refine lv_iload_n X.1 X.2.1 dX9_testPasses_28 rfl (lv_at hl 2 rfl) ?_
    refine lv_iconst (v := 0) X.1 X.2.1 dX9_testPasses_29 (by decide) ?_
    obtain ⟨q3, eq3, hf⟩ := si_ob hf
    refine si_cVi [.ref (E.2.1 k92), .int x1, .int x2, .int 0] cal_X7_isWithinTolerance gm_RX9_220 X hw hA hl.1 (c_X7_isWithinTolerance l E F k92 hk92 x1 x2 0 q1.2 q3 eq3) si_cl7 rfl ⟨⟨rfl, rfl⟩, Nat.le_of_ble_eq_true rfl, Nat.le_of_ble_eq_true rfl⟩ rfl rfl (Nat.le_of_ble_eq_true rfl) ⟨Nat.zero_le _, Nat.zero_le _⟩ dX9_testPasses_30 (fun H locs hw => ?_)
    obtain ⟨v4, ev4, hf⟩ := si_ob hf
    exact hret _ _ _ _ _ _ (si_bzf3 ev4 hf) (si_nz (si_bz_inv ev4).1) hw dX9_testPasses_33
  · have hf := si_ip c6 hf
    exact hthr _ _ _ _ _ _ _ _ _ _ _ _ hf (by decide) ts_X9_testPasses_9 hw hl.1 (Nat.le_of_ble_eq_true rfl)
abbrev rm_X9_adjustment : Room := { frames := 6, cells := 1, slots := 6, locals := 90 }
set_option maxHeartbeats 4000000 in
set_option maxRecDepth 100000 in
theorem c_X9_adjustment (l : Launch) (hl0 : l.stackTraces = false) (E : si_Ev) (F : Nat) (x1 : Int32) (S : si_St) (o : Int32 × Int32 × si_St) (hf : f_X9_adjustment F x1 S = some o) : si_Mx l E yX9_adjustment cX9_adjustment 2 (some .int) rm_X9_adjustment [.ref (E.2.1 0), .int x1] S o := by
  refine si_ofWx hl0 (by decide +kernel) (Nat.le_of_ble_eq_true rfl) ⟨Nat.le_of_ble_eq_true rfl, Nat.le_of_ble_eq_true rfl, rfl, rfl⟩ ?_
  intro p e s m args below meth c ls Q A X hw hA hl hret hthr
  have hl : lv_has ls 2 [(0, .ref (E.2.1 0)), (1, .int x1)] := hl
  unfold f_X9_adjustment at hf
  refine lv_aload_n X.1 X.2.1 dX9_adjustment_0 rfl (lv_at hl 0 rfl) ?_
  refine lv_iload_n X.1 X.2.1 dX9_adjustment_1 rfl (lv_at hl 1 rfl) ?_
  obtain ⟨q1, eq1, hf⟩ := si_ob hf
  refine si_cVi [.int x1] cal_X9_hasVisit gm_RX9_181 X hw hA hl.1 (c_X9_hasVisit l E F x1 S q1 eq1) si_cl9 rfl ⟨⟨rfl, rfl⟩, Nat.le_of_ble_eq_true rfl, Nat.le_of_ble_eq_true rfl⟩ rfl rfl (Nat.le_of_ble_eq_true rfl) ⟨Nat.zero_le _, Nat.zero_le _⟩ dX9_adjustment_2 (fun H locs hw => ?_)
  refine lv_if_ne (tgt := 18) X.1 X.2.1 dX9_adjustment_5 (by decide) (fun c5 => ?_) (fun c5 => ?_)
  · have hf := si_in c5 hf
    refine lv_aload_n X.1 X.2.1 dX9_adjustment_18 rfl (lv_at hl 0 rfl) ?_
    refine si_getR (k' := 7) (d := 7) X hw si_cl9 2 (by decide) gf_RX9_26 rfl rfl rfl (by decide) rfl dX9_adjustment_19 ?_
    refine si_getR (k' := 12) (d := 5) X hw si_cl7 5 (by decide) gf_RX9_201 rfl rfl rfl (by decide) rfl dX9_adjustment_22 ?_
    refine lv_iload_n X.1 X.2.1 dX9_adjustment_25 rfl (lv_at hl 1 rfl) ?_
    obtain ⟨v2, ev2, hf⟩ := si_ob hf
    refine si_iald X hw rfl ev2 dX9_adjustment_26 ?_
    refine lv_if_ne (tgt := 40) X.1 X.2.1 dX9_adjustment_27 (by decide) (fun c27 => ?_) (fun c27 => ?_)
    · have hf := si_in c27 hf
      refine lv_aload_n X.1 X.2.1 dX9_adjustment_40 rfl (lv_at hl 0 rfl) ?_
      refine si_getR (k' := 7) (d := 7) X hw si_cl9 2 (by decide) gf_RX9_26 rfl rfl rfl (by decide) rfl dX9_adjustment_41 ?_
      refine lv_iload_n X.1 X.2.1 dX9_adjustment_44 rfl (lv_at hl 1 rfl) ?_
      obtain ⟨q3, eq3, hf⟩ := si_ob hf
      refine si_cVi [.int x1] cal_X7_middleError gm_RX9_235 X hw hA hl.1 (c_X7_middleError l E F x1 q1.2 q3 eq3) si_cl7 rfl ⟨⟨rfl, rfl⟩, Nat.le_of_ble_eq_true rfl, Nat.le_of_ble_eq_true rfl⟩ rfl rfl (Nat.le_of_ble_eq_true rfl) ⟨Nat.zero_le _, Nat.zero_le _⟩ dX9_adjustment_45 (fun H locs hw => ?_)
      exact hret _ _ _ _ _ _ hf rfl hw dX9_adjustment_48
    · have hf := si_ip c27 hf
      exact hthr _ _ _ _ _ _ _ _ _ _ _ _ hf (by decide) ts_X9_adjustment_30 hw hl.1 (Nat.le_of_ble_eq_true rfl)
  · have hf := si_ip c5 hf
    exact hthr _ _ _ _ _ _ _ _ _ _ _ _ hf (by decide) ts_X9_adjustment_8 hw hl.1 (Nat.le_of_ble_eq_true rfl)
