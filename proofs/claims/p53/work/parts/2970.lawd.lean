theorem dL_draw_0 : decode cL_draw 0 = .ok (.aload_n 0, 1) := by decide +kernel
theorem dL_draw_1 : decode cL_draw 1 = .ok (.iconst 0, 1) := by decide +kernel
theorem dL_draw_2 : decode cL_draw 2 = .ok (.aload_n 0, 1) := by decide +kernel
theorem dL_draw_3 : decode cL_draw 3 = .ok (.iconst 0, 1) := by decide +kernel
theorem dL_draw_4 : decode cL_draw 4 = .ok (.iaload, 1) := by decide +kernel
theorem dL_draw_5 : decode cL_draw 5 = .ok (.ldc 23, 2) := by decide +kernel
theorem dL_draw_7 : decode cL_draw 7 = .ok (.imul, 1) := by decide +kernel
theorem dL_draw_8 : decode cL_draw 8 = .ok (.ldc 24, 2) := by decide +kernel
theorem dL_draw_10 : decode cL_draw 10 = .ok (.iadd, 1) := by decide +kernel
theorem dL_draw_11 : decode cL_draw 11 = .ok (.iastore, 1) := by decide +kernel
theorem dL_draw_12 : decode cL_draw 12 = .ok (.aload_n 0, 1) := by decide +kernel
theorem dL_draw_13 : decode cL_draw 13 = .ok (.iconst 0, 1) := by decide +kernel
theorem dL_draw_14 : decode cL_draw 14 = .ok (.iaload, 1) := by decide +kernel
theorem dL_draw_15 : decode cL_draw 15 = .ok (.bipush 8, 2) := by decide +kernel
theorem dL_draw_17 : decode cL_draw 17 = .ok (.iushr, 1) := by decide +kernel
theorem dL_draw_18 : decode cL_draw 18 = .ok (.iload_n 1, 1) := by decide +kernel
theorem dL_draw_19 : decode cL_draw 19 = .ok (.irem, 1) := by decide +kernel
theorem dL_draw_20 : decode cL_draw 20 = .ok (.ireturn, 1) := by decide +kernel
theorem dL_result_0 : decode cL_result 0 = .ok (.iload_n 0, 1) := by decide +kernel
theorem dL_result_1 : decode cL_result 1 = .ok (.ifCond .ne 5, 3) := by decide +kernel
theorem dL_result_4 : decode cL_result 4 = .ok (.iconst 0, 1) := by decide +kernel
theorem dL_result_5 : decode cL_result 5 = .ok (.ireturn, 1) := by decide +kernel
theorem dL_result_6 : decode cL_result 6 = .ok (.iload_n 0, 1) := by decide +kernel
theorem dL_result_7 : decode cL_result 7 = .ok (.iconst 1, 1) := by decide +kernel
theorem dL_result_8 : decode cL_result 8 = .ok (.isub, 1) := by decide +kernel
theorem dL_result_9 : decode cL_result 9 = .ok (.iconst 2, 1) := by decide +kernel
theorem dL_result_10 : decode cL_result 10 = .ok (.idiv, 1) := by decide +kernel
theorem dL_result_11 : decode cL_result 11 = .ok (.istore_n 3, 1) := by decide +kernel
theorem dL_result_12 : decode cL_result 12 = .ok (.iload_n 0, 1) := by decide +kernel
theorem dL_result_13 : decode cL_result 13 = .ok (.iconst 2, 1) := by decide +kernel
theorem dL_result_14 : decode cL_result 14 = .ok (.irem, 1) := by decide +kernel
theorem dL_result_15 : decode cL_result 15 = .ok (.iconst 1, 1) := by decide +kernel
theorem dL_result_16 : decode cL_result 16 = .ok (.if_icmp .ne 7, 3) := by decide +kernel
theorem dL_result_19 : decode cL_result 19 = .ok (.iconst 1, 1) := by decide +kernel
theorem dL_result_20 : decode cL_result 20 = .ok (.goto 4, 3) := by decide +kernel
theorem dL_result_23 : decode cL_result 23 = .ok (.iconst 0, 1) := by decide +kernel
theorem dL_result_24 : decode cL_result 24 = .ok (.istore 4, 2) := by decide +kernel
theorem dL_result_26 : decode cL_result 26 = .ok (.iload_n 1, 1) := by decide +kernel
theorem dL_result_27 : decode cL_result 27 = .ok (.iload_n 3, 1) := by decide +kernel
theorem dL_result_28 : decode cL_result 28 = .ok (.ishr, 1) := by decide +kernel
theorem dL_result_29 : decode cL_result 29 = .ok (.iconst 1, 1) := by decide +kernel
theorem dL_result_30 : decode cL_result 30 = .ok (.iand, 1) := by decide +kernel
theorem dL_result_31 : decode cL_result 31 = .ok (.iconst 1, 1) := by decide +kernel
theorem dL_result_32 : decode cL_result 32 = .ok (.if_icmp .ne 14, 3) := by decide +kernel
theorem dL_result_35 : decode cL_result 35 = .ok (.iload 4, 2) := by decide +kernel
theorem dL_result_37 : decode cL_result 37 = .ok (.ifCond .eq 7, 3) := by decide +kernel
theorem dL_result_40 : decode cL_result 40 = .ok (.iconst 1, 1) := by decide +kernel
theorem dL_result_41 : decode cL_result 41 = .ok (.goto 4, 3) := by decide +kernel
theorem dL_result_44 : decode cL_result 44 = .ok (.iconst 2, 1) := by decide +kernel
theorem dL_result_45 : decode cL_result 45 = .ok (.ireturn, 1) := by decide +kernel
theorem dL_result_46 : decode cL_result 46 = .ok (.iload_n 2, 1) := by decide +kernel
theorem dL_result_47 : decode cL_result 47 = .ok (.iload_n 3, 1) := by decide +kernel
theorem dL_result_48 : decode cL_result 48 = .ok (.ishr, 1) := by decide +kernel
theorem dL_result_49 : decode cL_result 49 = .ok (.iconst 1, 1) := by decide +kernel
theorem dL_result_50 : decode cL_result 50 = .ok (.iand, 1) := by decide +kernel
theorem dL_result_51 : decode cL_result 51 = .ok (.iconst 1, 1) := by decide +kernel
theorem dL_result_52 : decode cL_result 52 = .ok (.if_icmp .ne 14, 3) := by decide +kernel
theorem dL_result_55 : decode cL_result 55 = .ok (.iload 4, 2) := by decide +kernel
theorem dL_result_57 : decode cL_result 57 = .ok (.ifCond .eq 7, 3) := by decide +kernel
theorem dL_result_60 : decode cL_result 60 = .ok (.iconst 2, 1) := by decide +kernel
theorem dL_result_61 : decode cL_result 61 = .ok (.goto 4, 3) := by decide +kernel
theorem dL_result_64 : decode cL_result 64 = .ok (.iconst 1, 1) := by decide +kernel
theorem dL_result_65 : decode cL_result 65 = .ok (.ireturn, 1) := by decide +kernel
theorem dL_result_66 : decode cL_result 66 = .ok (.iconst 0, 1) := by decide +kernel
theorem dL_result_67 : decode cL_result 67 = .ok (.ireturn, 1) := by decide +kernel
theorem dX10_init_0 : decode cX10_init 0 = .ok (.aload_n 0, 1) := by decide +kernel
theorem dX10_init_1 : decode cX10_init 1 = .ok (.invokespecial 1, 3) := by decide +kernel
theorem dX10_init_4 : decode cX10_init 4 = .ok (.return_, 1) := by decide +kernel
def al_L_draw : Nat → Bool := fun _ => false
def f_L_draw_h0 (F : Nat) (d0 : Nat) (x1 : Int32) (S : si_St) : Option (Int32 × si_St) :=
  Option.bind (sd_rd S d0 0) fun v1 => Option.bind (sd_wr S d0 0 ((v1 * 1664525) + 1013904223)) fun S2 => Option.bind (sd_rd S2 d0 0) fun v3 => if x1 = 0 then none else some (((si_ushr v3 8) - (si_ushr v3 8) / x1 * x1), S2)
def f_L_draw (F : Nat) (d0 : Nat) (x1 : Int32) (S : si_St) : Option (Int32 × si_St) :=
  f_L_draw_h0 F d0 x1 S
theorem mo_L_draw_h0 (F : Nat) (d0 : Nat) (hd0 : sd_kd d0 = 12) (x1 : Int32) (S : si_St) (o : Int32 × si_St) (h : f_L_draw_h0 F d0 x1 S = some o) : sd_le S o.2 := by
  have g : sd_le S S := sd_le.rf
  unfold f_L_draw_h0 at h
  obtain ⟨v1, ev1, h⟩ := si_ob h
  obtain ⟨S2, eS2, h⟩ := si_ob h
  have g := g.tr (sd_wr_m eS2)
  obtain ⟨v3, ev3, h⟩ := si_ob h
  have d4 : ¬ x1 = 0 := fun h9 => by rw [if_pos h9] at h; cases h
  have h := si_in d4 h
  obtain rfl := Option.some.inj h
  exact g
theorem mo_L_draw (F : Nat) (d0 : Nat) (hd0 : sd_kd d0 = 12) (x1 : Int32) (S : si_St) (o : Int32 × si_St) (h : f_L_draw F d0 x1 S = some o) : sd_le S o.2 := by
  have g : sd_le S S := sd_le.rf
  unfold f_L_draw at h
  exact g.tr (mo_L_draw_h0 F d0 hd0 _ _ _ h)
abbrev fr_L_draw : Nat := 0
abbrev lo_L_draw : Nat := 0
set_option maxHeartbeats 400000000 in
set_option maxRecDepth 100000 in
theorem c_L_draw (l : Launch) (E0 : si_Ev) (F : Nat) (d0 : Nat) (hd0 : sd_kd d0 = 12) (x1 : Int32) (S0 : si_St) (o : Int32 × si_St) (hf : f_L_draw F d0 x1 S0 = some o) : sd_Mi l al_L_draw E0 yL_draw cL_draw 2 (some .int) fr_L_draw lo_L_draw [.ref (E0.2.1 d0), .int x1] S0 o := by
  refine sd_ofWz (plainFor_of_name (by decide +kernel)) (Nat.le_of_ble_eq_true rfl) ?_
  intro p e s m args below meth c ls Q A X hmn hw hA hl hret
  have hl : lv_has ls 2 [(0, .ref (E0.2.1 d0)), (1, .int x1)] := hl
  have hR : sd_RR (sd_R fr_L_draw lo_L_draw S0 o.2) S0 o.2 := ⟨Nat.le_refl _, Nat.le_refl _⟩
  have hE : sd_EE al_L_draw E0 E0 := sd_EE.rf
  have hc : sd_Ct S0 S0 0 0 := ⟨Nat.le_refl _, Nat.le_refl _⟩
  have B0 : ∀ (x1 : Int32) (E : si_Ev) (S : si_St) (H : Heap) (locs : List Loc) (ls : Array Slot) (cs ss : Nat), f_L_draw_h0 F d0 x1 S = some o → sd_EE al_L_draw E0 E → si_Cx p s m args c cL_draw 2 yL_draw.cls E A → si_Ws E A s.heap S H locs → sd_Ct S0 S cs ss → lv_has ls 2 [(0, .ref (E.2.1 d0)), (1, .int x1)] → W p l e (sd_R fr_L_draw lo_L_draw S0 o.2) s m args below meth c H locs cs ss Q (F0 m 0 ls []) := by
    intro x1  E S H locs ls cs ss hf hE X hw hc hl
    have hcs := sd_room hc (mo_L_draw_h0 F d0 hd0 _ _ _ hf) hR
    unfold f_L_draw_h0 at hf
    refine lv_aload_n X.1 X.2.1 dL_draw_0 rfl (lv_at hl 0 rfl) ?_
    refine lv_iconst (v := 0) X.1 X.2.1 dL_draw_1 (by decide) ?_
    refine lv_aload_n X.1 X.2.1 dL_draw_2 rfl (lv_at hl 0 rfl) ?_
    refine lv_iconst (v := 0) X.1 X.2.1 dL_draw_3 (by decide) ?_
    obtain ⟨v1, ev1, hf⟩ := si_ob hf
    refine sd_iald X hw hd0 ev1 dL_draw_4 ?_
    refine lv_ldc (v := 1664525) X.1 X.2.1 X.2.2.2.1 (si_wd X gk_RL_23) dL_draw_5 ?_
    refine lv_imul X.1 X.2.1 dL_draw_7 ?_
    refine lv_ldc (v := 1013904223) X.1 X.2.1 X.2.2.2.1 (si_wd X gk_RL_24) dL_draw_8 ?_
    refine lv_iadd X.1 X.2.1 dL_draw_10 ?_
    obtain ⟨S2, eS2, hf⟩ := si_ob hf
    refine sd_iast X hw hd0 eS2 dL_draw_11 (fun H locs hw => ?_)
    have hc := hc.up (sd_wr_m eS2)
    refine lv_aload_n X.1 X.2.1 dL_draw_12 rfl (lv_at hl 0 rfl) ?_
    refine lv_iconst (v := 0) X.1 X.2.1 dL_draw_13 (by decide) ?_
    obtain ⟨v3, ev3, hf⟩ := si_ob hf
    refine sd_iald X hw hd0 ev3 dL_draw_14 ?_
    refine lv_bipush (v := 8) X.1 X.2.1 dL_draw_15 (by decide) ?_
    refine lv_iushr (v := (si_ushr v3 8)) X.1 X.2.1 dL_draw_17 rfl ?_
    refine lv_iload_n X.1 X.2.1 dL_draw_18 rfl (lv_at hl 1 rfl) ?_
    have d4 : ¬ x1 = 0 := fun h9 => by rw [if_pos h9] at hf; cases hf
    have hf := si_in d4 hf
    refine lv_irem X.1 X.2.1 dL_draw_19 d4 ?_
    exact hret _ _ _ _ _ _ _ _ _ hf rfl ⟨hE, hw, hc⟩ dL_draw_20
  unfold f_L_draw at hf
  exact B0 _ _ _ _ _ _ _ _ hf hE X hw hc (lv_sub hl [0, 1] rfl)
def on_L_result : List Nat := []
def f_L_result_h65 (F : Nat) (t0 : Int32) (S : si_St) : Option (Int32 × si_St) :=
  some (t0, S)
def f_L_result_h45 (F : Nat) (t0 : Int32) (S : si_St) : Option (Int32 × si_St) :=
  some (t0, S)
def f_L_result_h24 (F : Nat) (x1 : Int32) (x2 : Int32) (x3 : Int32) (t0 : Int32) (S : si_St) : Option (Int32 × si_St) :=
  if ((x1 >>> (x3 &&& 31)) &&& 1) = 1 then (if t0 = 0 then (f_L_result_h45 F 2 S) else (f_L_result_h45 F 1 S)) else (if ((x2 >>> (x3 &&& 31)) &&& 1) = 1 then (if t0 = 0 then (f_L_result_h65 F 1 S) else (f_L_result_h65 F 2 S)) else (some (0, S)))
def f_L_result (F : Nat) (x0 : Int32) (x1 : Int32) (x2 : Int32) (S : si_St) : Option (Int32 × si_St) :=
  if x0 = 0 then (some (0, S)) else (Option.bind (some ((x0 - 1) / 2)) fun v1 => if (x0 - x0 / 2 * 2) = 1 then (f_L_result_h24 F x1 x2 v1 1 S) else (f_L_result_h24 F x1 x2 v1 0 S))
theorem fr_L_result_h65 (F : Nat) (t0 : Int32) (S : si_St) (o : Int32 × si_St) (h : f_L_result_h65 F t0 S = some o) : sd_on on_L_result S o.2 := by
  have g : sd_on on_L_result S S := sd_on.rf
  unfold f_L_result_h65 at h
  obtain rfl := Option.some.inj h
  exact g
theorem fr_L_result_h45 (F : Nat) (t0 : Int32) (S : si_St) (o : Int32 × si_St) (h : f_L_result_h45 F t0 S = some o) : sd_on on_L_result S o.2 := by
  have g : sd_on on_L_result S S := sd_on.rf
  unfold f_L_result_h45 at h
  obtain rfl := Option.some.inj h
  exact g
theorem fr_L_result_h24 (F : Nat) (x1 : Int32) (x2 : Int32) (x3 : Int32) (t0 : Int32) (S : si_St) (o : Int32 × si_St) (h : f_L_result_h24 F x1 x2 x3 t0 S = some o) : sd_on on_L_result S o.2 := by
  have g : sd_on on_L_result S S := sd_on.rf
  unfold f_L_result_h24 at h
  rcases Decidable.em (((x1 >>> (x3 &&& 31)) &&& 1) = 1) with c32 | c32
  · have h := si_ip c32 h
    rcases Decidable.em (t0 = 0) with c37 | c37
    · have h := si_ip c37 h
      exact g.tr (fr_L_result_h45 F _ _ _ h)
    · have h := si_in c37 h
      exact g.tr (fr_L_result_h45 F _ _ _ h)
  · have h := si_in c32 h
    rcases Decidable.em (((x2 >>> (x3 &&& 31)) &&& 1) = 1) with c52 | c52
    · have h := si_ip c52 h
      rcases Decidable.em (t0 = 0) with c57 | c57
      · have h := si_ip c57 h
        exact g.tr (fr_L_result_h65 F _ _ _ h)
      · have h := si_in c57 h
        exact g.tr (fr_L_result_h65 F _ _ _ h)
    · have h := si_in c52 h
      obtain rfl := Option.some.inj h
      exact g
theorem fr_L_result (F : Nat) (x0 : Int32) (x1 : Int32) (x2 : Int32) (S : si_St) (o : Int32 × si_St) (h : f_L_result F x0 x1 x2 S = some o) : sd_on on_L_result S o.2 := by
  have g : sd_on on_L_result S S := sd_on.rf
  unfold f_L_result at h
  rcases Decidable.em (x0 = 0) with c1 | c1
  · have h := si_ip c1 h
    obtain rfl := Option.some.inj h
    exact g
  · have h := si_in c1 h
    obtain ⟨v1, ev1, h⟩ := si_ob h
    rcases Decidable.em ((x0 - x0 / 2 * 2) = 1) with c16 | c16
    · have h := si_ip c16 h
      exact g.tr (fr_L_result_h24 F _ _ _ _ _ _ h)
    · have h := si_in c16 h
      exact g.tr (fr_L_result_h24 F _ _ _ _ _ _ h)
abbrev rm_L_result : Room := { frames := 0, cells := 0, slots := 0, locals := 0 }
set_option maxHeartbeats 4000000 in
set_option maxRecDepth 100000 in
theorem c_L_result (l : Launch) (E : si_Ev) (F : Nat) (x0 : Int32) (x1 : Int32) (x2 : Int32) (S : si_St) (o : Int32 × si_St) (hf : f_L_result F x0 x1 x2 S = some o) : si_Mi l E yL_result cL_result 5 (some .int) rm_L_result [.int x0, .int x1, .int x2] S o := by
  refine si_ofWi (plainFor_of_name (by decide +kernel)) (Nat.le_of_ble_eq_true rfl) ?_
  intro p e s m args below meth c ls Q A X hw hA hl hret
  have hl : lv_has ls 5 [(0, .int x0), (1, .int x1), (2, .int x2)] := hl
  have B65 : ∀ (t0 : Int32) (S : si_St) (H : Heap) (locs : List Loc) (ls : Array Slot), f_L_result_h65 F t0 S = some o → si_Ws E A s.heap S H locs → lv_has ls 5 [] → W p l e rm_L_result s m args below meth c H locs 0 0 Q (F0 m 65 ls [.int t0]) := by
    intro t0  S H locs ls hf hw hl
    unfold f_L_result_h65 at hf
    exact hret _ _ _ _ _ _ hf hw dL_result_65
  have B45 : ∀ (t0 : Int32) (S : si_St) (H : Heap) (locs : List Loc) (ls : Array Slot), f_L_result_h45 F t0 S = some o → si_Ws E A s.heap S H locs → lv_has ls 5 [] → W p l e rm_L_result s m args below meth c H locs 0 0 Q (F0 m 45 ls [.int t0]) := by
    intro t0  S H locs ls hf hw hl
    unfold f_L_result_h45 at hf
    exact hret _ _ _ _ _ _ hf hw dL_result_45
  have B24 : ∀ (x1 : Int32) (x2 : Int32) (x3 : Int32) (t0 : Int32) (S : si_St) (H : Heap) (locs : List Loc) (ls : Array Slot), f_L_result_h24 F x1 x2 x3 t0 S = some o → si_Ws E A s.heap S H locs → lv_has ls 5 [(1, .int x1), (2, .int x2), (3, .int x3)] → W p l e rm_L_result s m args below meth c H locs 0 0 Q (F0 m 24 ls [.int t0]) := by
    intro x1 x2 x3 t0  S H locs ls hf hw hl
    unfold f_L_result_h24 at hf
    refine lv_istore (lv' := [(4, .int t0), (1, .int x1), (2, .int x2), (3, .int x3)]) X.1 X.2.1 dL_result_24 hl (by decide) rfl (fun ls hl => ?_)
    refine lv_iload_n X.1 X.2.1 dL_result_26 rfl (lv_at hl 1 rfl) ?_
    refine lv_iload_n X.1 X.2.1 dL_result_27 rfl (lv_at hl 3 rfl) ?_
    refine lv_ishr X.1 X.2.1 dL_result_28 ?_
    refine lv_iconst (v := 1) X.1 X.2.1 dL_result_29 (by decide) ?_
    refine lv_iand X.1 X.2.1 dL_result_30 ?_
    refine lv_iconst (v := 1) X.1 X.2.1 dL_result_31 (by decide) ?_
    refine lv_icmp_ne (tgt := 46) X.1 X.2.1 dL_result_32 (by decide) (fun c32 => ?_) (fun c32 => ?_)
    · have hf := si_in c32 hf
      refine lv_iload_n X.1 X.2.1 dL_result_46 rfl (lv_at hl 2 rfl) ?_
      refine lv_iload_n X.1 X.2.1 dL_result_47 rfl (lv_at hl 3 rfl) ?_
      refine lv_ishr X.1 X.2.1 dL_result_48 ?_
      refine lv_iconst (v := 1) X.1 X.2.1 dL_result_49 (by decide) ?_
      refine lv_iand X.1 X.2.1 dL_result_50 ?_
      refine lv_iconst (v := 1) X.1 X.2.1 dL_result_51 (by decide) ?_
      refine lv_icmp_ne (tgt := 66) X.1 X.2.1 dL_result_52 (by decide) (fun c52 => ?_) (fun c52 => ?_)
      · have hf := si_in c52 hf
        refine lv_iconst (v := 0) X.1 X.2.1 dL_result_66 (by decide) ?_
        exact hret _ _ _ _ _ _ hf hw dL_result_67
      · have hf := si_ip c52 hf
        refine lv_iload X.1 X.2.1 dL_result_55 (lv_at hl 0 rfl) ?_
        refine lv_if_eq (tgt := 64) X.1 X.2.1 dL_result_57 (by decide) (fun c57 => ?_) (fun c57 => ?_)
        · have hf := si_ip c57 hf
          refine lv_iconst (v := 1) X.1 X.2.1 dL_result_64 (by decide) ?_
          exact B65 _ _ _ _ _ hf hw (lv_sub hl [] rfl)
        · have hf := si_in c57 hf
          refine lv_iconst (v := 2) X.1 X.2.1 dL_result_60 (by decide) ?_
          refine lv_goto (tgt := 65) X.1 X.2.1 dL_result_61 (by decide) ?_
          exact B65 _ _ _ _ _ hf hw (lv_sub hl [] rfl)
    · have hf := si_ip c32 hf
      refine lv_iload X.1 X.2.1 dL_result_35 (lv_at hl 0 rfl) ?_
      refine lv_if_eq (tgt := 44) X.1 X.2.1 dL_result_37 (by decide) (fun c37 => ?_) (fun c37 => ?_)
      · have hf := si_ip c37 hf
        refine lv_iconst (v := 2) X.1 X.2.1 dL_result_44 (by decide) ?_
        exact B45 _ _ _ _ _ hf hw (lv_sub hl [] rfl)
      · have hf := si_in c37 hf
        refine lv_iconst (v := 1) X.1 X.2.1 dL_result_40 (by decide) ?_
        refine lv_goto (tgt := 45) X.1 X.2.1 dL_result_41 (by decide) ?_
        exact B45 _ _ _ _ _ hf hw (lv_sub hl [] rfl)
  unfold f_L_result at hf
  refine lv_iload_n X.1 X.2.1 dL_result_0 rfl (lv_at hl 0 rfl) ?_
  refine lv_if_ne (tgt := 6) X.1 X.2.1 dL_result_1 (by decide) (fun c1 => ?_) (fun c1 => ?_)
  · have hf := si_in c1 hf
    refine lv_iload_n X.1 X.2.1 dL_result_6 rfl (lv_at hl 0 rfl) ?_
    refine lv_iconst (v := 1) X.1 X.2.1 dL_result_7 (by decide) ?_
    refine lv_isub X.1 X.2.1 dL_result_8 ?_
    refine lv_iconst (v := 2) X.1 X.2.1 dL_result_9 (by decide) ?_
    refine lv_idiv X.1 X.2.1 dL_result_10 (by decide) ?_
    obtain ⟨v1, ev1, hf⟩ := si_ob hf
    refine si_nmI ev1 ?_
    refine lv_istore_n (lv' := [(3, .int v1), (0, .int x0), (1, .int x1), (2, .int x2)]) X.1 X.2.1 dL_result_11 rfl hl (by decide) rfl (fun ls hl => ?_)
    refine lv_iload_n X.1 X.2.1 dL_result_12 rfl (lv_at hl 1 rfl) ?_
    refine lv_iconst (v := 2) X.1 X.2.1 dL_result_13 (by decide) ?_
    refine lv_irem X.1 X.2.1 dL_result_14 (by decide) ?_
    refine lv_iconst (v := 1) X.1 X.2.1 dL_result_15 (by decide) ?_
    refine lv_icmp_ne (tgt := 23) X.1 X.2.1 dL_result_16 (by decide) (fun c16 => ?_) (fun c16 => ?_)
    · have hf := si_in c16 hf
      refine lv_iconst (v := 0) X.1 X.2.1 dL_result_23 (by decide) ?_
      exact B24 _ _ _ _ _ _ _ _ hf hw (lv_sub hl [2, 3, 0] rfl)
    · have hf := si_ip c16 hf
      refine lv_iconst (v := 1) X.1 X.2.1 dL_result_19 (by decide) ?_
      refine lv_goto (tgt := 24) X.1 X.2.1 dL_result_20 (by decide) ?_
      exact B24 _ _ _ _ _ _ _ _ hf hw (lv_sub hl [2, 3, 0] rfl)
  · have hf := si_ip c1 hf
    refine lv_iconst (v := 0) X.1 X.2.1 dL_result_4 (by decide) ?_
    exact hret _ _ _ _ _ _ hf hw dL_result_5
def al_X10_init : Nat → Bool := fun _ => false
def f_X10_init_h0 (F : Nat) (S : si_St) : Option (si_St) :=
  some S
def f_X10_init (F : Nat) (S : si_St) : Option (si_St) :=
  f_X10_init_h0 F S
theorem mo_X10_init_h0 (F : Nat) (S : si_St) (o : si_St) (h : f_X10_init_h0 F S = some o) : sd_le S o := by
  have g : sd_le S S := sd_le.rf
  unfold f_X10_init_h0 at h
  obtain rfl := Option.some.inj h
  exact g
theorem mo_X10_init (F : Nat) (S : si_St) (o : si_St) (h : f_X10_init F S = some o) : sd_le S o := by
  have g : sd_le S S := sd_le.rf
  unfold f_X10_init at h
  exact g.tr (mo_X10_init_h0 F _ _ h)
abbrev fr_X10_init : Nat := 1
abbrev lo_X10_init : Nat := 12
set_option maxHeartbeats 4000000 in
set_option maxRecDepth 100000 in
theorem c_X10_init (l : Launch) (E0 : si_Ev) (F : Nat) (S0 : si_St) (o : si_St) (hf : f_X10_init F S0 = some o) : sd_Mv l al_X10_init E0 yX10_init cX10_init 1 fr_X10_init lo_X10_init [.ref (E0.2.1 92)] S0 o := by
  refine sd_ofWv (plainFor_of_name (by decide +kernel)) (Nat.le_of_ble_eq_true rfl) ?_
  intro p e s m args below meth c ls Q A X hmn hw hA hl hret
  have hin : meth.name = "<init>" := hmn
  have hl : lv_has ls 1 [(0, .ref (E0.2.1 92))] := hl
  have hR : sd_RR (sd_R fr_X10_init lo_X10_init S0 o) S0 o := ⟨Nat.le_refl _, Nat.le_refl _⟩
  have hE : sd_EE al_X10_init E0 E0 := sd_EE.rf
  have hc : sd_Ct S0 S0 0 0 := ⟨Nat.le_refl _, Nat.le_refl _⟩
  have B0 : ∀ (E : si_Ev) (S : si_St) (H : Heap) (locs : List Loc) (ls : Array Slot) (cs ss : Nat), f_X10_init_h0 F S = some o → sd_EE al_X10_init E0 E → si_Cx p s m args c cX10_init 1 yX10_init.cls E A → si_Ws E A s.heap S H locs → sd_Ct S0 S cs ss → lv_has ls 1 [(0, .ref (E.2.1 92))] → W p l e (sd_R fr_X10_init lo_X10_init S0 o) s m args below meth c H locs cs ss Q (F0 m 0 ls []) := by
    intro   E S H locs ls cs ss hf hE X hw hc hl
    have hcs := sd_room hc (mo_X10_init_h0 F _ _ hf) hR
    unfold f_X10_init_h0 at hf
    refine lv_aload_n X.1 X.2.1 dX10_init_0 rfl (lv_at hl 0 rfl) ?_
    refine sd_objI X hl.1 gm_RX10_1 gn_obj gc_obj (Nat.le_of_ble_eq_true rfl) (Nat.le_of_ble_eq_true rfl) dX10_init_1 ?_
    exact hret _ _ _ _ _ _ _ _ hf ⟨hE, hw, hc⟩ dX10_init_4
  unfold f_X10_init at hf
  exact B0 _ _ _ _ _ _ _ hf hE X hw hc (lv_sub hl [0] rfl)
