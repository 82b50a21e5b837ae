theorem dL_baseTolerance_0 : decode cL_baseTolerance 0 = .ok (.aload_n 3, 1) := by decide +kernel
theorem dL_baseTolerance_1 : decode cL_baseTolerance 1 = .ok (.iconst 0, 1) := by decide +kernel
theorem dL_baseTolerance_2 : decode cL_baseTolerance 2 = .ok (.aload_n 0, 1) := by decide +kernel
theorem dL_baseTolerance_3 : decode cL_baseTolerance 3 = .ok (.iload_n 1, 1) := by decide +kernel
theorem dL_baseTolerance_4 : decode cL_baseTolerance 4 = .ok (.iload_n 2, 1) := by decide +kernel
theorem dL_baseTolerance_5 : decode cL_baseTolerance 5 = .ok (.invokevirtual 7, 3) := by decide +kernel
theorem dL_baseTolerance_8 : decode cL_baseTolerance 8 = .ok (.i2l, 1) := by decide +kernel
theorem dL_baseTolerance_9 : decode cL_baseTolerance 9 = .ok (.lastore, 1) := by decide +kernel
theorem dL_baseTolerance_10 : decode cL_baseTolerance 10 = .ok (.goto 11, 3) := by decide +kernel
theorem dL_baseTolerance_13 : decode cL_baseTolerance 13 = .ok (.astore 4, 2) := by decide +kernel
theorem dL_baseTolerance_15 : decode cL_baseTolerance 15 = .ok (.iconst 1, 1) := by decide +kernel
theorem dL_baseTolerance_16 : decode cL_baseTolerance 16 = .ok (.ireturn, 1) := by decide +kernel
theorem dL_baseTolerance_17 : decode cL_baseTolerance 17 = .ok (.astore 4, 2) := by decide +kernel
theorem dL_baseTolerance_19 : decode cL_baseTolerance 19 = .ok (.iconst 2, 1) := by decide +kernel
theorem dL_baseTolerance_20 : decode cL_baseTolerance 20 = .ok (.ireturn, 1) := by decide +kernel
theorem dL_baseTolerance_21 : decode cL_baseTolerance 21 = .ok (.iconst 0, 1) := by decide +kernel
theorem dL_baseTolerance_22 : decode cL_baseTolerance 22 = .ok (.ireturn, 1) := by decide +kernel
theorem dL_testLoad_0 : decode cL_testLoad 0 = .ok (.aload_n 3, 1) := by decide +kernel
theorem dL_testLoad_1 : decode cL_testLoad 1 = .ok (.iconst 0, 1) := by decide +kernel
theorem dL_testLoad_2 : decode cL_testLoad 2 = .ok (.aload_n 0, 1) := by decide +kernel
theorem dL_testLoad_3 : decode cL_testLoad 3 = .ok (.iload_n 1, 1) := by decide +kernel
theorem dL_testLoad_4 : decode cL_testLoad 4 = .ok (.iload_n 2, 1) := by decide +kernel
theorem dL_testLoad_5 : decode cL_testLoad 5 = .ok (.invokevirtual 17, 3) := by decide +kernel
theorem dL_testLoad_8 : decode cL_testLoad 8 = .ok (.i2l, 1) := by decide +kernel
theorem dL_testLoad_9 : decode cL_testLoad 9 = .ok (.lastore, 1) := by decide +kernel
theorem dL_testLoad_10 : decode cL_testLoad 10 = .ok (.goto 7, 3) := by decide +kernel
theorem dL_testLoad_13 : decode cL_testLoad 13 = .ok (.astore 4, 2) := by decide +kernel
theorem dL_testLoad_15 : decode cL_testLoad 15 = .ok (.iconst 1, 1) := by decide +kernel
theorem dL_testLoad_16 : decode cL_testLoad 16 = .ok (.ireturn, 1) := by decide +kernel
theorem dL_testLoad_17 : decode cL_testLoad 17 = .ok (.iconst 0, 1) := by decide +kernel
theorem dL_testLoad_18 : decode cL_testLoad 18 = .ok (.ireturn, 1) := by decide +kernel
theorem dL_testError_0 : decode cL_testError 0 = .ok (.aload_n 3, 1) := by decide +kernel
theorem dL_testError_1 : decode cL_testError 1 = .ok (.iconst 0, 1) := by decide +kernel
theorem dL_testError_2 : decode cL_testError 2 = .ok (.aload_n 0, 1) := by decide +kernel
theorem dL_testError_3 : decode cL_testError 3 = .ok (.iload_n 1, 1) := by decide +kernel
theorem dL_testError_4 : decode cL_testError 4 = .ok (.iload_n 2, 1) := by decide +kernel
theorem dL_testError_5 : decode cL_testError 5 = .ok (.invokevirtual 20, 3) := by decide +kernel
theorem dL_testError_8 : decode cL_testError 8 = .ok (.i2l, 1) := by decide +kernel
theorem dL_testError_9 : decode cL_testError 9 = .ok (.lastore, 1) := by decide +kernel
theorem dL_testError_10 : decode cL_testError 10 = .ok (.goto 7, 3) := by decide +kernel
theorem dL_testError_13 : decode cL_testError 13 = .ok (.astore 4, 2) := by decide +kernel
theorem dL_testError_15 : decode cL_testError 15 = .ok (.iconst 1, 1) := by decide +kernel
theorem dL_testError_16 : decode cL_testError 16 = .ok (.ireturn, 1) := by decide +kernel
theorem dL_testError_17 : decode cL_testError 17 = .ok (.iconst 0, 1) := by decide +kernel
theorem dL_testError_18 : decode cL_testError 18 = .ok (.ireturn, 1) := by decide +kernel
theorem dL_testPasses_0 : decode cL_testPasses 0 = .ok (.aload_n 3, 1) := by decide +kernel
theorem dL_testPasses_1 : decode cL_testPasses 1 = .ok (.iconst 0, 1) := by decide +kernel
theorem dL_testPasses_2 : decode cL_testPasses 2 = .ok (.aload_n 0, 1) := by decide +kernel
theorem dL_testPasses_3 : decode cL_testPasses 3 = .ok (.iload_n 1, 1) := by decide +kernel
theorem dL_testPasses_4 : decode cL_testPasses 4 = .ok (.iload_n 2, 1) := by decide +kernel
theorem dL_testPasses_5 : decode cL_testPasses 5 = .ok (.invokevirtual 23, 3) := by decide +kernel
theorem dL_testPasses_8 : decode cL_testPasses 8 = .ok (.ifCond .eq 7, 3) := by decide +kernel
theorem dL_testPasses_11 : decode cL_testPasses 11 = .ok (.lconst 1, 1) := by decide +kernel
theorem dL_testPasses_12 : decode cL_testPasses 12 = .ok (.goto 4, 3) := by decide +kernel
theorem dL_testPasses_15 : decode cL_testPasses 15 = .ok (.lconst 0, 1) := by decide +kernel
theorem dL_testPasses_16 : decode cL_testPasses 16 = .ok (.lastore, 1) := by decide +kernel
theorem dL_testPasses_17 : decode cL_testPasses 17 = .ok (.goto 7, 3) := by decide +kernel
theorem dL_testPasses_20 : decode cL_testPasses 20 = .ok (.astore 4, 2) := by decide +kernel
theorem dL_testPasses_22 : decode cL_testPasses 22 = .ok (.iconst 1, 1) := by decide +kernel
theorem dL_testPasses_23 : decode cL_testPasses 23 = .ok (.ireturn, 1) := by decide +kernel
theorem dL_testPasses_24 : decode cL_testPasses 24 = .ok (.iconst 0, 1) := by decide +kernel
theorem dL_testPasses_25 : decode cL_testPasses 25 = .ok (.ireturn, 1) := by decide +kernel
theorem dL_adjustment_0 : decode cL_adjustment 0 = .ok (.aload_n 2, 1) := by decide +kernel
theorem dL_adjustment_1 : decode cL_adjustment 1 = .ok (.iconst 0, 1) := by decide +kernel
theorem dL_adjustment_2 : decode cL_adjustment 2 = .ok (.aload_n 0, 1) := by decide +kernel
theorem dL_adjustment_3 : decode cL_adjustment 3 = .ok (.iload_n 1, 1) := by decide +kernel
theorem dL_adjustment_4 : decode cL_adjustment 4 = .ok (.invokevirtual 27, 3) := by decide +kernel
theorem dL_adjustment_7 : decode cL_adjustment 7 = .ok (.i2l, 1) := by decide +kernel
theorem dL_adjustment_8 : decode cL_adjustment 8 = .ok (.lastore, 1) := by decide +kernel
theorem dL_adjustment_9 : decode cL_adjustment 9 = .ok (.goto 9, 3) := by decide +kernel
theorem dL_adjustment_12 : decode cL_adjustment 12 = .ok (.astore_n 3, 1) := by decide +kernel
theorem dL_adjustment_13 : decode cL_adjustment 13 = .ok (.iconst 1, 1) := by decide +kernel
theorem dL_adjustment_14 : decode cL_adjustment 14 = .ok (.ireturn, 1) := by decide +kernel
theorem dL_adjustment_15 : decode cL_adjustment 15 = .ok (.astore_n 3, 1) := by decide +kernel
theorem dL_adjustment_16 : decode cL_adjustment 16 = .ok (.iconst 2, 1) := by decide +kernel
theorem dL_adjustment_17 : decode cL_adjustment 17 = .ok (.ireturn, 1) := by decide +kernel
theorem dL_adjustment_18 : decode cL_adjustment 18 = .ok (.iconst 0, 1) := by decide +kernel
theorem dL_adjustment_19 : decode cL_adjustment 19 = .ok (.ireturn, 1) := by decide +kernel
def f_L_baseTolerance (F : Nat) (x1 : Int32) (x2 : Int32) (S : si_St) : Option (Int32 × si_St) :=
  Option.bind (f_X9_baseTolerance F x1 x2 S) fun q1 => if q1.1 = 0 then (Option.bind (si_wl q1.2.2 113 0 (Int32.toInt64 q1.2.1)) fun S2 => some (0, S2)) else (if q1.1 = 1 then (some (1, q1.2.2)) else (if q1.1 = 2 then (some (2, q1.2.2)) else (none)))
def f_L_testLoad (F : Nat) (x1 : Int32) (x2 : Int32) (S : si_St) : Option (Int32 × si_St) :=
  Option.bind (f_X9_testLoad F x1 x2 S) fun q1 => if q1.1 = 0 then (Option.bind (si_wl q1.2.2 113 0 (Int32.toInt64 q1.2.1)) fun S2 => some (0, S2)) else (if q1.1 = 1 then (some (1, q1.2.2)) else (none))
def f_L_testError (F : Nat) (x1 : Int32) (x2 : Int32) (S : si_St) : Option (Int32 × si_St) :=
  Option.bind (f_X9_testError F x1 x2 S) fun q1 => if q1.1 = 0 then (Option.bind (si_wl q1.2.2 113 0 (Int32.toInt64 q1.2.1)) fun S2 => some (0, S2)) else (if q1.1 = 1 then (some (1, q1.2.2)) else (none))
def f_L_testPasses_h16 (F : Nat) (t0 : Int64) (t1 : Int32) (S : si_St) : Option (Int32 × si_St) :=
  Option.bind (si_wl S 113 t1 t0) fun S1 => some (0, S1)
def f_L_testPasses (F : Nat) (x1 : Int32) (x2 : Int32) (S : si_St) : Option (Int32 × si_St) :=
  Option.bind (f_X9_testPasses F x1 x2 S) fun q2 => if q2.1 = 0 then (if q2.2.1 = 0 then (f_L_testPasses_h16 F (0 : Int64) 0 q2.2.2) else (f_L_testPasses_h16 F (1 : Int64) 0 q2.2.2)) else (if q2.1 = 1 then (some (1, q2.2.2)) else (none))
def f_L_adjustment (F : Nat) (x1 : Int32) (S : si_St) : Option (Int32 × si_St) :=
  Option.bind (f_X9_adjustment F x1 S) fun q1 => if q1.1 = 0 then (Option.bind (si_wl q1.2.2 113 0 (Int32.toInt64 q1.2.1)) fun S2 => some (0, S2)) else (if q1.1 = 1 then (some (1, q1.2.2)) else (if q1.1 = 3 then (some (2, q1.2.2)) else (none)))
abbrev rm_L_baseTolerance : Room := { frames := 7, cells := 1, slots := 6, locals := 112 }
set_option maxHeartbeats 4000000 in
set_option maxRecDepth 100000 in
theorem c_L_baseTolerance (l : Launch) (hl0 : l.stackTraces = false) (E : si_Ev) (F : Nat) (x1 : Int32) (x2 : Int32) (S : si_St) (o : Int32 × si_St) (hf : f_L_baseTolerance F x1 x2 S = some o) : si_M1 l E yL_baseTolerance cL_baseTolerance 5 [(0, 10, 13, 13), (0, 10, 17, 15)] rm_L_baseTolerance [.ref (E.2.1 0), .int x1, .int x2, .ref (E.2.1 113)] S o := by
  refine si_ofW1 (by decide +kernel) (Nat.le_of_ble_eq_true rfl) ?_
  intro p e s m args below meth c ls Q A X hT hw hA hl hret
  have hl : lv_has ls 5 [(0, .ref (E.2.1 0)), (1, .int x1), (2, .int x2), (3, .ref (E.2.1 113))] := hl
  unfold f_L_baseTolerance at hf
  refine lv_aload_n X.1 X.2.1 dL_baseTolerance_0 rfl (lv_at hl 3 rfl) ?_
  refine lv_iconst (v := 0) X.1 X.2.1 dL_baseTolerance_1 (by decide) ?_
  refine lv_aload_n X.1 X.2.1 dL_baseTolerance_2 rfl (lv_at hl 0 rfl) ?_
  refine lv_iload_n X.1 X.2.1 dL_baseTolerance_3 rfl (lv_at hl 1 rfl) ?_
  refine lv_iload_n X.1 X.2.1 dL_baseTolerance_4 rfl (lv_at hl 2 rfl) ?_
  obtain ⟨q1, eq1, hf⟩ := si_ob hf
  refine si_cVx [.int x1, .int x2] cal_X9_baseTolerance gm_RL_7 X hw hA hl.1 (c_X9_baseTolerance l hl0 E F x1 x2 S q1 eq1) si_cl9 rfl ⟨⟨rfl, rfl⟩, Nat.le_of_ble_eq_true rfl, Nat.le_of_ble_eq_true rfl⟩ rfl rfl (Nat.le_of_ble_eq_true rfl) ⟨Nat.le_of_ble_eq_true rfl, Nat.le_of_ble_eq_true rfl⟩ dL_baseTolerance_5 (fun cx5 H locs qx ce hw hx1 hx2 hx3 => ?_) (fun cx5 H locs hw => ?_)
  · have hf := si_in cx5 hf
    rcases Decidable.em (q1.1 = 1) with e5_0 | e5_0
    · have hf := si_ip e5_0 hf
      rw [e5_0] at hx3
      refine vx_catch X.2.2.2.1 [] ⟨0, 10, 13, 13⟩ [⟨0, 10, 17, 15⟩] (by rw [hT]; rfl) (fun z hz => nomatch hz) (by decide +kernel) (by decide) (si_wd X gq_RL_13) (si_word0 (by simp [si_XB, si_xn]) (X.2.2.2.2.2.2.2.2.2.choose_spec.2.2.1 _ (by simp [si_XB, si_xn]))) hx1 hx2 hx3 ?_
      refine lv_astore (lv' := [(4, .ref qx), (0, .ref (E.2.1 0)), (1, .int x1), (2, .int x2), (3, .ref (E.2.1 113))]) X.1 X.2.1 dL_baseTolerance_13 hl (by decide) rfl (fun ls hl => ?_)
      refine lv_iconst (v := 1) X.1 X.2.1 dL_baseTolerance_15 (by decide) ?_
      exact hret _ _ _ _ _ _ hf hw dL_baseTolerance_16
    · have hf := si_in e5_0 hf
      rcases Decidable.em (q1.1 = 2) with e5_1 | e5_1
      · have hf := si_ip e5_1 hf
        rw [e5_1] at hx3
        refine vx_catch X.2.2.2.1 [⟨0, 10, 13, 13⟩] ⟨0, 10, 17, 15⟩ [] (by rw [hT]; rfl) (fun z hz => Or.inr (by obtain rfl := List.mem_singleton.mp hz; exact ⟨by decide, _, si_wd X gq_RL_13, X.2.2.2.2.2.2.2.2.2.choose_spec.2.2.2.1⟩)) (by decide +kernel) (by decide) (si_wd X gq_RL_15) (si_word0 (by simp [si_XB, si_xn]) (X.2.2.2.2.2.2.2.2.2.choose_spec.2.2.1 _ (by simp [si_XB, si_xn]))) hx1 hx2 hx3 ?_
        refine lv_astore (lv' := [(4, .ref qx), (0, .ref (E.2.1 0)), (1, .int x1), (2, .int x2), (3, .ref (E.2.1 113))]) X.1 X.2.1 dL_baseTolerance_17 hl (by decide) rfl (fun ls hl => ?_)
        refine lv_iconst (v := 2) X.1 X.2.1 dL_baseTolerance_19 (by decide) ?_
        exact hret _ _ _ _ _ _ hf hw dL_baseTolerance_20
      · have hf := si_in e5_1 hf
        cases hf
  · have hf := si_ip cx5 hf
    refine lv_i2l (v := (Int32.toInt64 q1.2.1)) X.1 X.2.1 dL_baseTolerance_8 rfl ?_
    obtain ⟨S2, eS2, hf⟩ := si_ob hf
    refine si_last X hw rfl eS2 dL_baseTolerance_9 (fun H locs hw => ?_)
    refine lv_goto (tgt := 21) X.1 X.2.1 dL_baseTolerance_10 (by decide) ?_
    refine lv_iconst (v := 0) X.1 X.2.1 dL_baseTolerance_21 (by decide) ?_
    exact hret _ _ _ _ _ _ hf hw dL_baseTolerance_22
abbrev rm_L_testLoad : Room := { frames := 7, cells := 1, slots := 6, locals := 112 }
set_option maxHeartbeats 4000000 in
set_option maxRecDepth 100000 in
theorem c_L_testLoad (l : Launch) (hl0 : l.stackTraces = false) (E : si_Ev) (F : Nat) (x1 : Int32) (x2 : Int32) (S : si_St) (o : Int32 × si_St) (hf : f_L_testLoad F x1 x2 S = some o) : si_M1 l E yL_testLoad cL_testLoad 5 [(0, 10, 13, 13)] rm_L_testLoad [.ref (E.2.1 0), .int x1, .int x2, .ref (E.2.1 113)] S o := by
  refine si_ofW1 (by decide +kernel) (Nat.le_of_ble_eq_true rfl) ?_
  intro p e s m args below meth c ls Q A X hT hw hA hl hret
  have hl : lv_has ls 5 [(0, .ref (E.2.1 0)), (1, .int x1), (2, .int x2), (3, .ref (E.2.1 113))] := hl
  unfold f_L_testLoad at hf
  refine lv_aload_n X.1 X.2.1 dL_testLoad_0 rfl (lv_at hl 3 rfl) ?_
  refine lv_iconst (v := 0) X.1 X.2.1 dL_testLoad_1 (by decide) ?_
  refine lv_aload_n X.1 X.2.1 dL_testLoad_2 rfl (lv_at hl 0 rfl) ?_
  refine lv_iload_n X.1 X.2.1 dL_testLoad_3 rfl (lv_at hl 1 rfl) ?_
  refine lv_iload_n X.1 X.2.1 dL_testLoad_4 rfl (lv_at hl 2 rfl) ?_
  obtain ⟨q1, eq1, hf⟩ := si_ob hf
  refine si_cVx [.int x1, .int x2] cal_X9_testLoad gm_RL_17 X hw hA hl.1 (c_X9_testLoad l hl0 E F x1 x2 S q1 eq1) si_cl9 rfl ⟨⟨rfl, rfl⟩, Nat.le_of_ble_eq_true rfl, Nat.le_of_ble_eq_true rfl⟩ rfl rfl (Nat.le_of_ble_eq_true rfl) ⟨Nat.le_of_ble_eq_true rfl, Nat.le_of_ble_eq_true rfl⟩ dL_testLoad_5 (fun cx5 H locs qx ce hw hx1 hx2 hx3 => ?_) (fun cx5 H locs hw => ?_)
  · have hf := si_in cx5 hf
    rcases Decidable.em (q1.1 = 1) with e5_0 | e5_0
    · have hf := si_ip e5_0 hf
      rw [e5_0] at hx3
      refine vx_catch X.2.2.2.1 [] ⟨0, 10, 13, 13⟩ [] (by rw [hT]; rfl) (fun z hz => nomatch hz) (by decide +kernel) (by decide) (si_wd X gq_RL_13) (si_word0 (by simp [si_XB, si_xn]) (X.2.2.2.2.2.2.2.2.2.choose_spec.2.2.1 _ (by simp [si_XB, si_xn]))) hx1 hx2 hx3 ?_
      refine lv_astore (lv' := [(4, .ref qx), (0, .ref (E.2.1 0)), (1, .int x1), (2, .int x2), (3, .ref (E.2.1 113))]) X.1 X.2.1 dL_testLoad_13 hl (by decide) rfl (fun ls hl => ?_)
      refine lv_iconst (v := 1) X.1 X.2.1 dL_testLoad_15 (by decide) ?_
      exact hret _ _ _ _ _ _ hf hw dL_testLoad_16
    · have hf := si_in e5_0 hf
      cases hf
  · have hf := si_ip cx5 hf
    refine lv_i2l (v := (Int32.toInt64 q1.2.1)) X.1 X.2.1 dL_testLoad_8 rfl ?_
    obtain ⟨S2, eS2, hf⟩ := si_ob hf
    refine si_last X hw rfl eS2 dL_testLoad_9 (fun H locs hw => ?_)
    refine lv_goto (tgt := 17) X.1 X.2.1 dL_testLoad_10 (by decide) ?_
    refine lv_iconst (v := 0) X.1 X.2.1 dL_testLoad_17 (by decide) ?_
    exact hret _ _ _ _ _ _ hf hw dL_testLoad_18
abbrev rm_L_testError : Room := { frames := 7, cells := 1, slots := 6, locals := 112 }
set_option maxHeartbeats 4000000 in
set_option maxRecDepth 100000 in
theorem c_L_testError (l : Launch) (hl0 : l.stackTraces = false) (E : si_Ev) (F : Nat) (x1 : Int32) (x2 : Int32) (S : si_St) (o : Int32 × si_St) (hf : f_L_testError F x1 x2 S = some o) : si_M1 l E yL_testError cL_testError 5 [(0, 10, 13, 13)] rm_L_testError [.ref (E.2.1 0), .int x1, .int x2, .ref (E.2.1 113)] S o := by
  refine si_ofW1 (by decide +kernel) (Nat.le_of_ble_eq_true rfl) ?_
  intro p e s m args below meth c ls Q A X hT hw hA hl hret
  have hl : lv_has ls 5 [(0, .ref (E.2.1 0)), (1, .int x1), (2, .int x2), (3, .ref (E.2.1 113))] := hl
  unfold f_L_testError at hf
  refine lv_aload_n X.1 X.2.1 dL_testError_0 rfl (lv_at hl 3 rfl) ?_
  refine lv_iconst (v := 0) X.1 X.2.1 dL_testError_1 (by decide) ?_
  refine lv_aload_n X.1 X.2.1 dL_testError_2 rfl (lv_at hl 0 rfl) ?_
  refine lv_iload_n X.1 X.2.1 dL_testError_3 rfl (lv_at hl 1 rfl) ?_
  refine lv_iload_n X.1 X.2.1 dL_testError_4 rfl (lv_at hl 2 rfl) ?_
  obtain ⟨q1, eq1, hf⟩ := si_ob hf
  refine si_cVx [.int x1, .int x2] cal_X9_testError gm_RL_20 X hw hA hl.1 (c_X9_testError l hl0 E F x1 x2 S q1 eq1) si_cl9 rfl ⟨⟨rfl, rfl⟩, Nat.le_of_ble_eq_true rfl, Nat.le_of_ble_eq_true rfl⟩ rfl rfl (Nat.le_of_ble_eq_true rfl) ⟨Nat.le_of_ble_eq_true rfl, Nat.le_of_ble_eq_true rfl⟩ dL_testError_5 (fun cx5 H locs qx ce hw hx1 hx2 hx3 => ?_) (fun cx5 H locs hw => ?_)
  · have hf := si_in cx5 hf
    rcases Decidable.em (q1.1 = 1) with e5_0 | e5_0
    · have hf := si_ip e5_0 hf
      rw [e5_0] at hx3
      refine vx_catch X.2.2.2.1 [] ⟨0, 10, 13, 13⟩ [] (by rw [hT]; rfl) (fun z hz => nomatch hz) (by decide +kernel) (by decide) (si_wd X gq_RL_13) (si_word0 (by simp [si_XB, si_xn]) (X.2.2.2.2.2.2.2.2.2.choose_spec.2.2.1 _ (by simp [si_XB, si_xn]))) hx1 hx2 hx3 ?_
      refine lv_astore (lv' := [(4, .ref qx), (0, .ref (E.2.1 0)), (1, .int x1), (2, .int x2), (3, .ref (E.2.1 113))]) X.1 X.2.1 dL_testError_13 hl (by decide) rfl (fun ls hl => ?_)
      refine lv_iconst (v := 1) X.1 X.2.1 dL_testError_15 (by decide) ?_
      exact hret _ _ _ _ _ _ hf hw dL_testError_16
    · have hf := si_in e5_0 hf
      cases hf
  · have hf := si_ip cx5 hf
    refine lv_i2l (v := (Int32.toInt64 q1.2.1)) X.1 X.2.1 dL_testError_8 rfl ?_
    obtain ⟨S2, eS2, hf⟩ := si_ob hf
    refine si_last X hw rfl eS2 dL_testError_9 (fun H locs hw => ?_)
    refine lv_goto (tgt := 17) X.1 X.2.1 dL_testError_10 (by decide) ?_
    refine lv_iconst (v := 0) X.1 X.2.1 dL_testError_17 (by decide) ?_
    exact hret _ _ _ _ _ _ hf hw dL_testError_18
abbrev rm_L_testPasses : Room := { frames := 7, cells := 1, slots := 6, locals := 114 }
set_option maxHeartbeats 4000000 in
set_option maxRecDepth 100000 in
theorem c_L_testPasses (l : Launch) (hl0 : l.stackTraces = false) (E : si_Ev) (F : Nat) (x1 : Int32) (x2 : Int32) (S : si_St) (o : Int32 × si_St) (hf : f_L_testPasses F x1 x2 S = some o) : si_M1 l E yL_testPasses cL_testPasses 5 [(0, 17, 20, 13)] rm_L_testPasses [.ref (E.2.1 0), .int x1, .int x2, .ref (E.2.1 113)] S o := by
  refine si_ofW1 (by decide +kernel) (Nat.le_of_ble_eq_true rfl) ?_
  intro p e s m args below meth c ls Q A X hT hw hA hl hret
  have hl : lv_has ls 5 [(0, .ref (E.2.1 0)), (1, .int x1), (2, .int x2), (3, .ref (E.2.1 113))] := hl
  have B16 : ∀ (t0 : Int64) (t1 : Int32) (S : si_St) (H : Heap) (locs : List Loc) (ls : Array Slot) , f_L_testPasses_h16 F t0 t1 S = some o → si_Ws E A s.heap S H locs → lv_has ls 5 [] → W p l e rm_L_testPasses s m args below meth c H locs 1 6 Q (F0 m 16 ls [.long t0, .int t1, .ref (E.2.1 113)]) := by
    intro t0 t1  S H locs ls  hf hw hl
    unfold f_L_testPasses_h16 at hf
    obtain ⟨S1, eS1, hf⟩ := si_ob hf
    refine si_last X hw rfl eS1 dL_testPasses_16 (fun H locs hw => ?_)
    refine lv_goto (tgt := 24) X.1 X.2.1 dL_testPasses_17 (by decide) ?_
    refine lv_iconst (v := 0) X.1 X.2.1 dL_testPasses_24 (by decide) ?_
    exact hret _ _ _ _ _ _ hf hw dL_testPasses_25
  unfold f_L_testPasses at hf
  refine lv_aload_n X.1 X.2.1 dL_testPasses_0 rfl (lv_at hl 3 rfl) ?_
  refine lv_iconst (v := 0) X.1 X.2.1 dL_testPasses_1 (by decide) ?_
  refine lv_aload_n X.1 X.2.1 dL_testPasses_2 rfl (lv_at hl 0 rfl) ?_
  refine lv_iload_n X.1 X.2.1 dL_testPasses_3 rfl (lv_at hl 1 rfl) ?_
  refine lv_iload_n X.1 X.2.1 dL_testPasses_4 rfl (lv_at hl 2 rfl) ?_
  obtain ⟨q2, eq2, hf⟩ := si_ob hf
  refine si_cVx [.int x1, .int x2] cal_X9_testPasses gm_RL_23 X hw hA hl.1 (c_X9_testPasses l hl0 E F x1 x2 S q2 eq2) si_cl9 rfl ⟨⟨rfl, rfl⟩, Nat.le_of_ble_eq_true rfl, Nat.le_of_ble_eq_true rfl⟩ rfl rfl (Nat.le_of_ble_eq_true rfl) ⟨Nat.le_of_ble_eq_true rfl, Nat.le_of_ble_eq_true rfl⟩ dL_testPasses_5 (fun cx5 H locs qx ce hw hx1 hx2 hx3 => ?_) (fun cx5 H locs hw => ?_)
  · have hf := si_in cx5 hf
    rcases Decidable.em (q2.1 = 1) with e5_0 | e5_0
    · have hf := si_ip e5_0 hf
      rw [e5_0] at hx3
      refine vx_catch X.2.2.2.1 [] ⟨0, 17, 20, 13⟩ [] (by rw [hT]; rfl) (fun z hz => nomatch hz) (by decide +kernel) (by decide) (si_wd X gq_RL_13) (si_word0 (by simp [si_XB, si_xn]) (X.2.2.2.2.2.2.2.2.2.choose_spec.2.2.1 _ (by simp [si_XB, si_xn]))) hx1 hx2 hx3 ?_
      refine lv_astore (lv' := [(4, .ref qx), (0, .ref (E.2.1 0)), (1, .int x1), (2, .int x2), (3, .ref (E.2.1 113))]) X.1 X.2.1 dL_testPasses_20 hl (by decide) rfl (fun ls hl => ?_)
      refine lv_iconst (v := 1) X.1 X.2.1 dL_testPasses_22 (by decide) ?_
      exact hret _ _ _ _ _ _ hf hw dL_testPasses_23
    · have hf := si_in e5_0 hf
      cases hf
  · have hf := si_ip cx5 hf
    refine lv_if_eq (tgt := 15) X.1 X.2.1 dL_testPasses_8 (by decide) (fun c8 => ?_) (fun c8 => ?_)
    · have hf := si_ip c8 hf
      refine lv_lconst (v := (0 : Int64)) X.1 X.2.1 dL_testPasses_15 (by decide) ?_
      exact B16 _ _ _ _ _ _ hf hw (lv_sub hl [] rfl)
    · have hf := si_in c8 hf
      refine lv_lconst (v := (1 : Int64)) X.1 X.2.1 dL_testPasses_11 (by decide) ?_
      refine lv_goto (tgt := 16) X.1 X.2.1 dL_testPasses_12 (by decide) ?_
      exact B16 _ _ _ _ _ _ hf hw (lv_sub hl [] rfl)
abbrev rm_L_adjustment : Room := { frames := 7, cells := 1, slots := 6, locals := 111 }
set_option maxHeartbeats 4000000 in
set_option maxRecDepth 100000 in
theorem c_L_adjustment (l : Launch) (hl0 : l.stackTraces = false) (E : si_Ev) (F : Nat) (x1 : Int32) (S : si_St) (o : Int32 × si_St) (hf : f_L_adjustment F x1 S = some o) : si_M1 l E yL_adjustment cL_adjustment 4 [(0, 9, 12, 13), (0, 9, 15, 31)] rm_L_adjustment [.ref (E.2.1 0), .int x1, .ref (E.2.1 113)] S o := by
  refine si_ofW1 (by decide +kernel) (Nat.le_of_ble_eq_true rfl) ?_
  intro p e s m args below meth c ls Q A X hT hw hA hl hret
  have hl : lv_has ls 4 [(0, .ref (E.2.1 0)), (1, .int x1), (2, .ref (E.2.1 113))] := hl
  unfold f_L_adjustment at hf
  refine lv_aload_n X.1 X.2.1 dL_adjustment_0 rfl (lv_at hl 2 rfl) ?_
  refine lv_iconst (v := 0) X.1 X.2.1 dL_adjustment_1 (by decide) ?_
  refine lv_aload_n X.1 X.2.1 dL_adjustment_2 rfl (lv_at hl 0 rfl) ?_
  refine lv_iload_n X.1 X.2.1 dL_adjustment_3 rfl (lv_at hl 1 rfl) ?_
  obtain ⟨q1, eq1, hf⟩ := si_ob hf
  refine si_cVx [.int x1] cal_X9_adjustment gm_RL_27 X hw hA hl.1 (c_X9_adjustment l hl0 E F x1 S q1 eq1) si_cl9 rfl ⟨⟨rfl, rfl⟩, Nat.le_of_ble_eq_true rfl, Nat.le_of_ble_eq_true rfl⟩ rfl rfl (Nat.le_of_ble_eq_true rfl) ⟨Nat.le_of_ble_eq_true rfl, Nat.le_of_ble_eq_true rfl⟩ dL_adjustment_4 (fun cx4 H locs qx ce hw hx1 hx2 hx3 => ?_) (fun cx4 H locs hw => ?_)
  · have hf := si_in cx4 hf
    rcases Decidable.em (q1.1 = 1) with e4_0 | e4_0
    · have hf := si_ip e4_0 hf
      rw [e4_0] at hx3
      refine vx_catch X.2.2.2.1 [] ⟨0, 9, 12, 13⟩ [⟨0, 9, 15, 31⟩] (by rw [hT]; rfl) (fun z hz => nomatch hz) (by decide +kernel) (by decide) (si_wd X gq_RL_13) (si_word0 (by simp [si_XB, si_xn]) (X.2.2.2.2.2.2.2.2.2.choose_spec.2.2.1 _ (by simp [si_XB, si_xn]))) hx1 hx2 hx3 ?_
      refine lv_astore_n (lv' := [(3, .ref qx), (0, .ref (E.2.1 0)), (1, .int x1), (2, .ref (E.2.1 113))]) X.1 X.2.1 dL_adjustment_12 rfl hl (by decide) rfl (fun ls hl => ?_)
      refine lv_iconst (v := 1) X.1 X.2.1 dL_adjustment_13 (by decide) ?_
      exact hret _ _ _ _ _ _ hf hw dL_adjustment_14
    · have hf := si_in e4_0 hf
      rcases Decidable.em (q1.1 = 3) with e4_1 | e4_1
      · have hf := si_ip e4_1 hf
        rw [e4_1] at hx3
        refine vx_catch X.2.2.2.1 [⟨0, 9, 12, 13⟩] ⟨0, 9, 15, 31⟩ [] (by rw [hT]; rfl) (fun z hz => Or.inr (by obtain rfl := List.mem_singleton.mp hz; exact ⟨by decide, _, si_wd X gq_RL_13, X.2.2.2.2.2.2.2.2.2.choose_spec.2.2.2.2.1⟩)) (by decide +kernel) (by decide) (si_wd X gq_RL_31) (si_word0 (by simp [si_XB, si_xn]) (X.2.2.2.2.2.2.2.2.2.choose_spec.2.2.1 _ (by simp [si_XB, si_xn]))) hx1 hx2 hx3 ?_
        refine lv_astore_n (lv' := [(3, .ref qx), (0, .ref (E.2.1 0)), (1, .int x1), (2, .ref (E.2.1 113))]) X.1 X.2.1 dL_adjustment_15 rfl hl (by decide) rfl (fun ls hl => ?_)
        refine lv_iconst (v := 2) X.1 X.2.1 dL_adjustment_16 (by decide) ?_
        exact hret _ _ _ _ _ _ hf hw dL_adjustment_17
      · have hf := si_in e4_1 hf
        cases hf
  · have hf := si_ip cx4 hf
    refine lv_i2l (v := (Int32.toInt64 q1.2.1)) X.1 X.2.1 dL_adjustment_7 rfl ?_
    obtain ⟨S2, eS2, hf⟩ := si_ob hf
    refine si_last X hw rfl eS2 dL_adjustment_8 (fun H locs hw => ?_)
    refine lv_goto (tgt := 18) X.1 X.2.1 dL_adjustment_9 (by decide) ?_
    refine lv_iconst (v := 0) X.1 X.2.1 dL_adjustment_18 (by decide) ?_
    exact hret _ _ _ _ _ _ hf hw dL_adjustment_19
