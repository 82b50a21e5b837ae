theorem dX2_fineDivisions_0 : decode cX2_fineDivisions 0 = .ok (.iload_n 0, 1) := by decide +kernel
theorem dX2_fineDivisions_1 : decode cX2_fineDivisions 1 = .ok (.ifCond .ne 9, 3) := by decide +kernel
theorem dX2_fineDivisions_4 : decode cX2_fineDivisions 4 = .ok (.sipush 5000, 3) := by decide +kernel
theorem dX2_fineDivisions_7 : decode cX2_fineDivisions 7 = .ok (.goto 16, 3) := by decide +kernel
theorem dX2_fineDivisions_10 : decode cX2_fineDivisions 10 = .ok (.iload_n 0, 1) := by decide +kernel
theorem dX2_fineDivisions_11 : decode cX2_fineDivisions 11 = .ok (.iconst 1, 1) := by decide +kernel
theorem dX2_fineDivisions_12 : decode cX2_fineDivisions 12 = .ok (.if_icmp .ne 9, 3) := by decide +kernel
theorem dX2_fineDivisions_15 : decode cX2_fineDivisions 15 = .ok (.sipush 500, 3) := by decide +kernel
theorem dX2_fineDivisions_18 : decode cX2_fineDivisions 18 = .ok (.goto 5, 3) := by decide +kernel
theorem dX2_fineDivisions_21 : decode cX2_fineDivisions 21 = .ok (.bipush 50, 2) := by decide +kernel
theorem dX2_fineDivisions_23 : decode cX2_fineDivisions 23 = .ok (.ireturn, 1) := by decide +kernel
theorem dX2_toleranceAt_0 : decode cX2_toleranceAt 0 = .ok (.aload_n 0, 1) := by decide +kernel
theorem dX2_toleranceAt_1 : decode cX2_toleranceAt 1 = .ok (.getfield 18, 3) := by decide +kernel
theorem dX2_toleranceAt_4 : decode cX2_toleranceAt 4 = .ok (.iload_n 1, 1) := by decide +kernel
theorem dX2_toleranceAt_5 : decode cX2_toleranceAt 5 = .ok (.iaload, 1) := by decide +kernel
theorem dX2_toleranceAt_6 : decode cX2_toleranceAt 6 = .ok (.istore_n 3, 1) := by decide +kernel
theorem dX2_toleranceAt_7 : decode cX2_toleranceAt 7 = .ok (.iload_n 2, 1) := by decide +kernel
theorem dX2_toleranceAt_8 : decode cX2_toleranceAt 8 = .ok (.aload_n 0, 1) := by decide +kernel
theorem dX2_toleranceAt_9 : decode cX2_toleranceAt 9 = .ok (.getfield 15, 3) := by decide +kernel
theorem dX2_toleranceAt_12 : decode cX2_toleranceAt 12 = .ok (.iload_n 1, 1) := by decide +kernel
theorem dX2_toleranceAt_13 : decode cX2_toleranceAt 13 = .ok (.iaload, 1) := by decide +kernel
theorem dX2_toleranceAt_14 : decode cX2_toleranceAt 14 = .ok (.invokestatic 55, 3) := by decide +kernel
theorem dX2_toleranceAt_17 : decode cX2_toleranceAt 17 = .ok (.iload_n 3, 1) := by decide +kernel
theorem dX2_toleranceAt_18 : decode cX2_toleranceAt 18 = .ok (.imul, 1) := by decide +kernel
theorem dX2_toleranceAt_19 : decode cX2_toleranceAt 19 = .ok (.if_icmp .gt 9, 3) := by decide +kernel
theorem dX2_toleranceAt_22 : decode cX2_toleranceAt 22 = .ok (.iload_n 3, 1) := by decide +kernel
theorem dX2_toleranceAt_23 : decode cX2_toleranceAt 23 = .ok (.iconst 1, 1) := by decide +kernel
theorem dX2_toleranceAt_24 : decode cX2_toleranceAt 24 = .ok (.iadd, 1) := by decide +kernel
theorem dX2_toleranceAt_25 : decode cX2_toleranceAt 25 = .ok (.iconst 2, 1) := by decide +kernel
theorem dX2_toleranceAt_26 : decode cX2_toleranceAt 26 = .ok (.idiv, 1) := by decide +kernel
theorem dX2_toleranceAt_27 : decode cX2_toleranceAt 27 = .ok (.ireturn, 1) := by decide +kernel
theorem dX2_toleranceAt_28 : decode cX2_toleranceAt 28 = .ok (.iload_n 2, 1) := by decide +kernel
theorem dX2_toleranceAt_29 : decode cX2_toleranceAt 29 = .ok (.iconst 4, 1) := by decide +kernel
theorem dX2_toleranceAt_30 : decode cX2_toleranceAt 30 = .ok (.aload_n 0, 1) := by decide +kernel
theorem dX2_toleranceAt_31 : decode cX2_toleranceAt 31 = .ok (.getfield 15, 3) := by decide +kernel
theorem dX2_toleranceAt_34 : decode cX2_toleranceAt 34 = .ok (.iload_n 1, 1) := by decide +kernel
theorem dX2_toleranceAt_35 : decode cX2_toleranceAt 35 = .ok (.iaload, 1) := by decide +kernel
theorem dX2_toleranceAt_36 : decode cX2_toleranceAt 36 = .ok (.invokestatic 55, 3) := by decide +kernel
theorem dX2_toleranceAt_39 : decode cX2_toleranceAt 39 = .ok (.imul, 1) := by decide +kernel
theorem dX2_toleranceAt_40 : decode cX2_toleranceAt 40 = .ok (.iload_n 3, 1) := by decide +kernel
theorem dX2_toleranceAt_41 : decode cX2_toleranceAt 41 = .ok (.imul, 1) := by decide +kernel
theorem dX2_toleranceAt_42 : decode cX2_toleranceAt 42 = .ok (.if_icmp .gt 5, 3) := by decide +kernel
theorem dX2_toleranceAt_45 : decode cX2_toleranceAt 45 = .ok (.iload_n 3, 1) := by decide +kernel
theorem dX2_toleranceAt_46 : decode cX2_toleranceAt 46 = .ok (.ireturn, 1) := by decide +kernel
theorem dX2_toleranceAt_47 : decode cX2_toleranceAt 47 = .ok (.iconst 3, 1) := by decide +kernel
theorem dX2_toleranceAt_48 : decode cX2_toleranceAt 48 = .ok (.iload_n 3, 1) := by decide +kernel
theorem dX2_toleranceAt_49 : decode cX2_toleranceAt 49 = .ok (.imul, 1) := by decide +kernel
theorem dX2_toleranceAt_50 : decode cX2_toleranceAt 50 = .ok (.iconst 1, 1) := by decide +kernel
theorem dX2_toleranceAt_51 : decode cX2_toleranceAt 51 = .ok (.iadd, 1) := by decide +kernel
theorem dX2_toleranceAt_52 : decode cX2_toleranceAt 52 = .ok (.iconst 2, 1) := by decide +kernel
theorem dX2_toleranceAt_53 : decode cX2_toleranceAt 53 = .ok (.idiv, 1) := by decide +kernel
theorem dX2_toleranceAt_54 : decode cX2_toleranceAt 54 = .ok (.ireturn, 1) := by decide +kernel
theorem dX2_termOfScale_0 : decode cX2_termOfScale 0 = .ok (.aload_n 0, 1) := by decide +kernel
theorem dX2_termOfScale_1 : decode cX2_termOfScale 1 = .ok (.getfield 33, 3) := by decide +kernel
theorem dX2_termOfScale_4 : decode cX2_termOfScale 4 = .ok (.aload_n 0, 1) := by decide +kernel
theorem dX2_termOfScale_5 : decode cX2_termOfScale 5 = .ok (.getfield 15, 3) := by decide +kernel
theorem dX2_termOfScale_8 : decode cX2_termOfScale 8 = .ok (.iload_n 1, 1) := by decide +kernel
theorem dX2_termOfScale_9 : decode cX2_termOfScale 9 = .ok (.iaload, 1) := by decide +kernel
theorem dX2_termOfScale_10 : decode cX2_termOfScale 10 = .ok (.iaload, 1) := by decide +kernel
theorem dX2_termOfScale_11 : decode cX2_termOfScale 11 = .ok (.istore_n 2, 1) := by decide +kernel
theorem dX2_termOfScale_12 : decode cX2_termOfScale 12 = .ok (.iload_n 2, 1) := by decide +kernel
theorem dX2_termOfScale_13 : decode cX2_termOfScale 13 = .ok (.ifCond .ne 7, 3) := by decide +kernel
theorem dX2_termOfScale_16 : decode cX2_termOfScale 16 = .ok (.iconst 2, 1) := by decide +kernel
theorem dX2_termOfScale_17 : decode cX2_termOfScale 17 = .ok (.goto 4, 3) := by decide +kernel
theorem dX2_termOfScale_20 : decode cX2_termOfScale 20 = .ok (.iload_n 2, 1) := by decide +kernel
theorem dX2_termOfScale_21 : decode cX2_termOfScale 21 = .ok (.ireturn, 1) := by decide +kernel
theorem dX2_clear_0 : decode cX2_clear 0 = .ok (.aload_n 0, 1) := by decide +kernel
theorem dX2_clear_1 : decode cX2_clear 1 = .ok (.iconst 0, 1) := by decide +kernel
theorem dX2_clear_2 : decode cX2_clear 2 = .ok (.putfield 36, 3) := by decide +kernel
theorem dX2_clear_5 : decode cX2_clear 5 = .ok (.aload_n 0, 1) := by decide +kernel
theorem dX2_clear_6 : decode cX2_clear 6 = .ok (.iconst 0, 1) := by decide +kernel
theorem dX2_clear_7 : decode cX2_clear 7 = .ok (.putfield 40, 3) := by decide +kernel
theorem dX2_clear_10 : decode cX2_clear 10 = .ok (.aload_n 0, 1) := by decide +kernel
theorem dX2_clear_11 : decode cX2_clear 11 = .ok (.iconst 0, 1) := by decide +kernel
theorem dX2_clear_12 : decode cX2_clear 12 = .ok (.putfield 43, 3) := by decide +kernel
theorem dX2_clear_15 : decode cX2_clear 15 = .ok (.aload_n 0, 1) := by decide +kernel
theorem dX2_clear_16 : decode cX2_clear 16 = .ok (.iconst 0, 1) := by decide +kernel
theorem dX2_clear_17 : decode cX2_clear 17 = .ok (.putfield 46, 3) := by decide +kernel
theorem dX2_clear_20 : decode cX2_clear 20 = .ok (.aload_n 0, 1) := by decide +kernel
theorem dX2_clear_21 : decode cX2_clear 21 = .ok (.getfield 33, 3) := by decide +kernel
theorem dX2_clear_24 : decode cX2_clear 24 = .ok (.iconst 0, 1) := by decide +kernel
theorem dX2_clear_25 : decode cX2_clear 25 = .ok (.invokestatic 49, 3) := by decide +kernel
theorem dX2_clear_28 : decode cX2_clear 28 = .ok (.return_, 1) := by decide +kernel
def f_X2_fineDivisions_h23 (F : Nat) (t0 : Int32) (S : si_St) : Option (Int32 × si_St) :=
  some (t0, S)
def f_X2_fineDivisions (F : Nat) (x0 : Int32) (S : si_St) : Option (Int32 × si_St) :=
  if x0 = 0 then (f_X2_fineDivisions_h23 F 5000 S) else (if x0 = 1 then (f_X2_fineDivisions_h23 F 500 S) else (f_X2_fineDivisions_h23 F 50 S))
def f_X2_toleranceAt (F : Nat) (k0 : Nat) (x1 : Int32) (x2 : Int32) (S : si_St) : Option (Int32 × si_St) :=
  Option.bind (si_rd S (k0 + 3) x1) fun v1 => Option.bind (si_rd S (k0 + 2) x1) fun v2 => Option.bind (f_X2_fineDivisions F v2 S) fun q3 => if (q3.1 * v1) < x2 then (Option.bind (si_rd q3.2 (k0 + 2) x1) fun v4 => Option.bind (f_X2_fineDivisions F v4 q3.2) fun q5 => if ((4 * q5.1) * v1) < x2 then (some ((((3 * v1) + 1) / 2), q5.2)) else (some (v1, q5.2))) else (some (((v1 + 1) / 2), q3.2))
def f_X2_termOfScale_h21 (F : Nat) (k0 : Nat) (t0 : Int32) (S : si_St) : Option (Int32 × si_St) :=
  some (t0, S)
def f_X2_termOfScale (F : Nat) (k0 : Nat) (x1 : Int32) (S : si_St) : Option (Int32 × si_St) :=
  Option.bind (si_rd S (k0 + 2) x1) fun v1 => Option.bind (si_rd S (k0 + 8) v1) fun v2 => if v2 = 0 then (f_X2_termOfScale_h21 F k0 2 S) else (f_X2_termOfScale_h21 F k0 v2 S)
def f_X2_clear (F : Nat) (k0 : Nat) (S : si_St) : Option (si_St) :=
  Option.bind (si_pt S k0 0 0) fun S1 => Option.bind (si_pt S1 k0 1 0) fun S2 => Option.bind (si_pt S2 k0 2 0) fun S3 => Option.bind (si_pt S3 k0 3 0) fun S4 => Option.bind (f_J7_fill_53178 F (k0 + 8) 0 S4) fun S5 => some S5
abbrev rm_X2_fineDivisions : Room := { frames := 0, cells := 0, slots := 0, locals := 0 }
set_option maxHeartbeats 4000000 in
set_option maxRecDepth 100000 in
theorem c_X2_fineDivisions (l : Launch) (E : si_Ev) (F : Nat) (x0 : Int32) (S : si_St) (o : Int32 × si_St) (hf : f_X2_fineDivisions F x0 S = some o) : si_Mi l E yX2_fineDivisions cX2_fineDivisions 1 (some .int) rm_X2_fineDivisions [.int x0] S o := by
  refine si_ofWi (plainFor_of_name (by decide +kernel)) (Nat.le_of_ble_eq_true rfl) ?_
  intro p e s m args below meth c ls Q A X hw hA hl hret
  have hl : lv_has ls 1 [(0, .int x0)] := hl
  have B23 : ∀ (t0 : Int32) (S : si_St) (H : Heap) (locs : List Loc) (ls : Array Slot) , f_X2_fineDivisions_h23 F t0 S = some o → si_Ws E A s.heap S H locs → lv_has ls 1 [] → W p l e rm_X2_fineDivisions s m args below meth c H locs 0 0 Q (F0 m 23 ls [.int t0]) := by
    intro t0  S H locs ls  hf hw hl
    unfold f_X2_fineDivisions_h23 at hf
    exact hret _ _ _ _ _ _ hf hw dX2_fineDivisions_23
  unfold f_X2_fineDivisions at hf
  refine lv_iload_n X.1 X.2.1 dX2_fineDivisions_0 rfl (lv_at hl 0 rfl) ?_
  refine lv_if_ne (tgt := 10) X.1 X.2.1 dX2_fineDivisions_1 (by decide) (fun c1 => ?_) (fun c1 => ?_)
  · have hf := si_in c1 hf
    refine lv_iload_n X.1 X.2.1 dX2_fineDivisions_10 rfl (lv_at hl 0 rfl) ?_
    refine lv_iconst (v := 1) X.1 X.2.1 dX2_fineDivisions_11 (by decide) ?_
    refine lv_icmp_ne (tgt := 21) X.1 X.2.1 dX2_fineDivisions_12 (by decide) (fun c12 => ?_) (fun c12 => ?_)
    · have hf := si_in c12 hf
      refine lv_bipush (v := 50) X.1 X.2.1 dX2_fineDivisions_21 (by decide) ?_
      exact B23 _ _ _ _ _ hf hw (lv_sub hl [] rfl)
    · have hf := si_ip c12 hf
      refine lv_sipush (v := 500) X.1 X.2.1 dX2_fineDivisions_15 (by decide) ?_
      refine lv_goto (tgt := 23) X.1 X.2.1 dX2_fineDivisions_18 (by decide) ?_
      exact B23 _ _ _ _ _ hf hw (lv_sub hl [] rfl)
  · have hf := si_ip c1 hf
    refine lv_sipush (v := 5000) X.1 X.2.1 dX2_fineDivisions_4 (by decide) ?_
    refine lv_goto (tgt := 23) X.1 X.2.1 dX2_fineDivisions_7 (by decide) ?_
    exact B23 _ _ _ _ _ hf hw (lv_sub hl [] rfl)
abbrev rm_X2_toleranceAt : Room := { frames := 1, cells := 0, slots := 0, locals := 20 }
set_option maxHeartbeats 4000000 in
set_option maxRecDepth 100000 in
theorem c_X2_toleranceAt (l : Launch) (E : si_Ev) (F : Nat) (k0 : Nat) (hk0 : si_kd k0 = 2) (x1 : Int32) (x2 : Int32) (S : si_St) (o : Int32 × si_St) (hf : f_X2_toleranceAt F k0 x1 x2 S = some o) : si_Mi l E yX2_toleranceAt cX2_toleranceAt 4 (some .int) rm_X2_toleranceAt [.ref (E.2.1 k0), .int x1, .int x2] S o := by
  refine si_ofWi (plainFor_of_name (by decide +kernel)) (Nat.le_of_ble_eq_true rfl) ?_
  intro p e s m args below meth c ls Q A X hw hA hl hret
  have hl : lv_has ls 4 [(0, .ref (E.2.1 k0)), (1, .int x1), (2, .int x2)] := hl
  unfold f_X2_toleranceAt at hf
  refine lv_aload_n X.1 X.2.1 dX2_toleranceAt_0 rfl (lv_at hl 0 rfl) ?_
  refine si_getR (k' := (k0 + 3)) (d := 3) X hw si_cl2 6 (by decide) gf_RX2_18 rfl hk0 rfl (by decide) rfl dX2_toleranceAt_1 ?_
  refine lv_iload_n X.1 X.2.1 dX2_toleranceAt_4 rfl (lv_at hl 1 rfl) ?_
  obtain ⟨v1, ev1, hf⟩ := si_ob hf
  refine si_iald X hw (sk_2_3 hk0) ev1 dX2_toleranceAt_5 ?_
  refine lv_istore_n (lv' := [(3, .int v1), (0, .ref (E.2.1 k0)), (1, .int x1), (2, .int x2)]) X.1 X.2.1 dX2_toleranceAt_6 rfl hl (by decide) rfl (fun ls hl => ?_)
  refine lv_iload_n X.1 X.2.1 dX2_toleranceAt_7 rfl (lv_at hl 3 rfl) ?_
  refine lv_aload_n X.1 X.2.1 dX2_toleranceAt_8 rfl (lv_at hl 1 rfl) ?_
  refine si_getR (k' := (k0 + 2)) (d := 2) X hw si_cl2 5 (by decide) gf_RX2_15 rfl hk0 rfl (by decide) rfl dX2_toleranceAt_9 ?_
  refine lv_iload_n X.1 X.2.1 dX2_toleranceAt_12 rfl (lv_at hl 2 rfl) ?_
  obtain ⟨v2, ev2, hf⟩ := si_ob hf
  refine si_iald X hw (sk_2_2 hk0) ev2 dX2_toleranceAt_13 ?_
  obtain ⟨q3, eq3, hf⟩ := si_ob hf
  refine si_cSi [.int v2] cal_X2_fineDivisions gm_RX2_55 X hw hA hl.1 (c_X2_fineDivisions l E F v2 S q3 eq3) ⟨⟨rfl, rfl⟩, Nat.le_of_ble_eq_true rfl, Nat.le_of_ble_eq_true rfl⟩ rfl rfl (Nat.le_of_ble_eq_true rfl) ⟨Nat.zero_le _, Nat.zero_le _⟩ dX2_toleranceAt_14 (fun H locs hw => ?_)
  refine lv_iload_n X.1 X.2.1 dX2_toleranceAt_17 rfl (lv_at hl 0 rfl) ?_
  refine lv_imul X.1 X.2.1 dX2_toleranceAt_18 ?_
  refine lv_icmp_gt (tgt := 28) X.1 X.2.1 dX2_toleranceAt_19 (by decide) (fun c19 => ?_) (fun c19 => ?_)
  · have hf := si_ip c19 hf
    refine lv_iload_n X.1 X.2.1 dX2_toleranceAt_28 rfl (lv_at hl 3 rfl) ?_
    refine lv_iconst (v := 4) X.1 X.2.1 dX2_toleranceAt_29 (by decide) ?_
    refine lv_aload_n X.1 X.2.1 dX2_toleranceAt_30 rfl (lv_at hl 1 rfl) ?_
    refine si_getR (k' := (k0 + 2)) (d := 2) X hw si_cl2 5 (by decide) gf_RX2_15 rfl hk0 rfl (by decide) rfl dX2_toleranceAt_31 ?_
    refine lv_iload_n X.1 X.2.1 dX2_toleranceAt_34 rfl (lv_at hl 2 rfl) ?_
    obtain ⟨v4, ev4, hf⟩ := si_ob hf
    refine si_iald X hw (sk_2_2 hk0) ev4 dX2_toleranceAt_35 ?_
    obtain ⟨q5, eq5, hf⟩ := si_ob hf
    refine si_cSi [.int v4] cal_X2_fineDivisions gm_RX2_55 X hw hA hl.1 (c_X2_fineDivisions l E F v4 q3.2 q5 eq5) ⟨⟨rfl, rfl⟩, Nat.le_of_ble_eq_true rfl, Nat.le_of_ble_eq_true rfl⟩ rfl rfl (Nat.le_of_ble_eq_true rfl) ⟨Nat.zero_le _, Nat.zero_le _⟩ dX2_toleranceAt_36 (fun H locs hw => ?_)
    refine lv_imul X.1 X.2.1 dX2_toleranceAt_39 ?_
    refine lv_iload_n X.1 X.2.1 dX2_toleranceAt_40 rfl (lv_at hl 0 rfl) ?_
    refine lv_imul X.1 X.2.1 dX2_toleranceAt_41 ?_
    refine lv_icmp_gt (tgt := 47) X.1 X.2.1 dX2_toleranceAt_42 (by decide) (fun c42 => ?_) (fun c42 => ?_)
    · have hf := si_ip c42 hf
      refine lv_iconst (v := 3) X.1 X.2.1 dX2_toleranceAt_47 (by decide) ?_
      refine lv_iload_n X.1 X.2.1 dX2_toleranceAt_48 rfl (lv_at hl 0 rfl) ?_
      refine lv_imul X.1 X.2.1 dX2_toleranceAt_49 ?_
      refine lv_iconst (v := 1) X.1 X.2.1 dX2_toleranceAt_50 (by decide) ?_
      refine lv_iadd X.1 X.2.1 dX2_toleranceAt_51 ?_
      refine lv_iconst (v := 2) X.1 X.2.1 dX2_toleranceAt_52 (by decide) ?_
      refine lv_idiv X.1 X.2.1 dX2_toleranceAt_53 (by decide) ?_
      exact hret _ _ _ _ _ _ hf hw dX2_toleranceAt_54
    · have hf := si_in c42 hf
      refine lv_iload_n X.1 X.2.1 dX2_toleranceAt_45 rfl (lv_at hl 0 rfl) ?_
      exact hret _ _ _ _ _ _ hf hw dX2_toleranceAt_46
  · have hf := si_in c19 hf
    refine lv_iload_n X.1 X.2.1 dX2_toleranceAt_22 rfl (lv_at hl 0 rfl) ?_
    refine lv_iconst (v := 1) X.1 X.2.1 dX2_toleranceAt_23 (by decide) ?_
    refine lv_iadd X.1 X.2.1 dX2_toleranceAt_24 ?_
    refine lv_iconst (v := 2) X.1 X.2.1 dX2_toleranceAt_25 (by decide) ?_
    refine lv_idiv X.1 X.2.1 dX2_toleranceAt_26 (by decide) ?_
    exact hret _ _ _ _ _ _ hf hw dX2_toleranceAt_27
abbrev rm_X2_termOfScale : Room := { frames := 0, cells := 0, slots := 0, locals := 0 }
set_option maxHeartbeats 4000000 in
set_option maxRecDepth 100000 in
theorem c_X2_termOfScale (l : Launch) (E : si_Ev) (F : Nat) (k0 : Nat) (hk0 : si_kd k0 = 2) (x1 : Int32) (S : si_St) (o : Int32 × si_St) (hf : f_X2_termOfScale F k0 x1 S = some o) : si_Mi l E yX2_termOfScale cX2_termOfScale 3 (some .int) rm_X2_termOfScale [.ref (E.2.1 k0), .int x1] S o := by
  refine si_ofWi (plainFor_of_name (by decide +kernel)) (Nat.le_of_ble_eq_true rfl) ?_
  intro p e s m args below meth c ls Q A X hw hA hl hret
  have hl : lv_has ls 3 [(0, .ref (E.2.1 k0)), (1, .int x1)] := hl
  have B21 : ∀ (t0 : Int32) (S : si_St) (H : Heap) (locs : List Loc) (ls : Array Slot) , f_X2_termOfScale_h21 F k0 t0 S = some o → si_Ws E A s.heap S H locs → lv_has ls 3 [] → W p l e rm_X2_termOfScale s m args below meth c H locs 0 0 Q (F0 m 21 ls [.int t0]) := by
    intro t0  S H locs ls  hf hw hl
    unfold f_X2_termOfScale_h21 at hf
    exact hret _ _ _ _ _ _ hf hw dX2_termOfScale_21
  unfold f_X2_termOfScale at hf
  refine lv_aload_n X.1 X.2.1 dX2_termOfScale_0 rfl (lv_at hl 0 rfl) ?_
  refine si_getR (k' := (k0 + 8)) (d := 8) X hw si_cl2 11 (by decide) gf_RX2_33 rfl hk0 rfl (by decide) rfl dX2_termOfScale_1 ?_
  refine lv_aload_n X.1 X.2.1 dX2_termOfScale_4 rfl (lv_at hl 0 rfl) ?_
  refine si_getR (k' := (k0 + 2)) (d := 2) X hw si_cl2 5 (by decide) gf_RX2_15 rfl hk0 rfl (by decide) rfl dX2_termOfScale_5 ?_
  refine lv_iload_n X.1 X.2.1 dX2_termOfScale_8 rfl (lv_at hl 1 rfl) ?_
  obtain ⟨v1, ev1, hf⟩ := si_ob hf
  refine si_iald X hw (sk_2_2 hk0) ev1 dX2_termOfScale_9 ?_
  obtain ⟨v2, ev2, hf⟩ := si_ob hf
  refine si_iald X hw (sk_2_8 hk0) ev2 dX2_termOfScale_10 ?_
  refine lv_istore_n (lv' := [(2, .int v2), (0, .ref (E.2.1 k0)), (1, .int x1)]) X.1 X.2.1 dX2_termOfScale_11 rfl hl (by decide) rfl (fun ls hl => ?_)
  refine lv_iload_n X.1 X.2.1 dX2_termOfScale_12 rfl (lv_at hl 0 rfl) ?_
  refine lv_if_ne (tgt := 20) X.1 X.2.1 dX2_termOfScale_13 (by decide) (fun c13 => ?_) (fun c13 => ?_)
  · have hf := si_in c13 hf
    refine lv_iload_n X.1 X.2.1 dX2_termOfScale_20 rfl (lv_at hl 0 rfl) ?_
    exact B21 _ _ _ _ _ hf hw (lv_sub hl [] rfl)
  · have hf := si_ip c13 hf
    refine lv_iconst (v := 2) X.1 X.2.1 dX2_termOfScale_16 (by decide) ?_
    refine lv_goto (tgt := 21) X.1 X.2.1 dX2_termOfScale_17 (by decide) ?_
    exact B21 _ _ _ _ _ hf hw (lv_sub hl [] rfl)
abbrev rm_X2_clear : Room := { frames := 1, cells := 0, slots := 0, locals := 23 }
set_option maxHeartbeats 4000000 in
set_option maxRecDepth 100000 in
theorem c_X2_clear (l : Launch) (E : si_Ev) (F : Nat) (k0 : Nat) (hk0 : si_kd k0 = 2) (S : si_St) (o : si_St) (hf : f_X2_clear F k0 S = some o) : si_Mv l E yX2_clear cX2_clear 1 rm_X2_clear [.ref (E.2.1 k0)] S o := by
  refine si_ofWv (plainFor_of_name (by decide +kernel)) (Nat.le_of_ble_eq_true rfl) ?_
  intro p e s m args below meth c ls Q A X hw hA hl hret
  have hl : lv_has ls 1 [(0, .ref (E.2.1 k0))] := hl
  unfold f_X2_clear at hf
  refine lv_aload_n X.1 X.2.1 dX2_clear_0 rfl (lv_at hl 0 rfl) ?_
  refine lv_iconst (v := 0) X.1 X.2.1 dX2_clear_1 (by decide) ?_
  obtain ⟨S1, eS1, hf⟩ := si_ob hf
  refine si_ptI X hw si_cl2 0 (by decide) gf_RX2_36 rfl rfl hk0 rfl rfl eS1 dX2_clear_2 (fun H locs hw => ?_)
  refine lv_aload_n X.1 X.2.1 dX2_clear_5 rfl (lv_at hl 0 rfl) ?_
  refine lv_iconst (v := 0) X.1 X.2.1 dX2_clear_6 (by decide) ?_
  obtain ⟨S2, eS2, hf⟩ := si_ob hf
  refine si_ptI X hw si_cl2 1 (by decide) gf_RX2_40 rfl rfl hk0 rfl rfl eS2 dX2_clear_7 (fun H locs hw => ?_)
  refine lv_aload_n X.1 X.2.1 dX2_clear_10 rfl (lv_at hl 0 rfl) ?_
  refine lv_iconst (v := 0) X.1 X.2.1 dX2_clear_11 (by decide) ?_
  obtain ⟨S3, eS3, hf⟩ := si_ob hf
  refine si_ptI X hw si_cl2 2 (by decide) gf_RX2_43 rfl rfl hk0 rfl rfl eS3 dX2_clear_12 (fun H locs hw => ?_)
  refine lv_aload_n X.1 X.2.1 dX2_clear_15 rfl (lv_at hl 0 rfl) ?_
  refine lv_iconst (v := 0) X.1 X.2.1 dX2_clear_16 (by decide) ?_
  obtain ⟨S4, eS4, hf⟩ := si_ob hf
  refine si_ptI X hw si_cl2 3 (by decide) gf_RX2_46 rfl rfl hk0 rfl rfl eS4 dX2_clear_17 (fun H locs hw => ?_)
  refine lv_aload_n X.1 X.2.1 dX2_clear_20 rfl (lv_at hl 0 rfl) ?_
  refine si_getR (k' := (k0 + 8)) (d := 8) X hw si_cl2 11 (by decide) gf_RX2_33 rfl hk0 rfl (by decide) rfl dX2_clear_21 ?_
  refine lv_iconst (v := 0) X.1 X.2.1 dX2_clear_24 (by decide) ?_
  obtain ⟨S5, eS5, hf⟩ := si_ob hf
  refine si_cSv [.ref (E.2.1 (k0 + 8)), .int 0] cal_J7_fill_53178 gm_RX2_49 X hw hA hl.1 (c_J7_fill_53178 l E F (k0 + 8) (sk_2_8 hk0) 0 S4 S5 eS5) ⟨⟨rfl, rfl⟩, Nat.le_of_ble_eq_true rfl, Nat.le_of_ble_eq_true rfl⟩ rfl rfl (Nat.le_of_ble_eq_true rfl) ⟨Nat.zero_le _, Nat.zero_le _⟩ dX2_clear_25 (fun H locs hw => ?_)
  exact hret _ _ _ _ _ hf hw dX2_clear_28
