theorem dJ5_init_d00df_0 : decode cJ5_init_d00df 0 = .ok (.aload_n 0, 1) := by decide +kernel
theorem dJ5_init_d00df_1 : decode cJ5_init_d00df 1 = .ok (.invokespecial 3, 3) := by decide +kernel
theorem dJ5_init_d00df_4 : decode cJ5_init_d00df 4 = .ok (.getstatic 18, 3) := by decide +kernel
theorem dJ5_init_d00df_7 : decode cJ5_init_d00df 7 = .ok (.ifCond .eq 18, 3) := by decide +kernel
theorem dJ5_init_d00df_10 : decode cJ5_init_d00df 10 = .ok (.aload_n 0, 1) := by decide +kernel
theorem dJ5_init_d00df_11 : decode cJ5_init_d00df 11 = .ok (.iload_n 1, 1) := by decide +kernel
theorem dJ5_init_d00df_12 : decode cJ5_init_d00df 12 = .ok (.newarray .byte, 2) := by decide +kernel
theorem dJ5_init_d00df_14 : decode cJ5_init_d00df 14 = .ok (.putfield 15, 3) := by decide +kernel
theorem dJ5_init_d00df_17 : decode cJ5_init_d00df 17 = .ok (.aload_n 0, 1) := by decide +kernel
theorem dJ5_init_d00df_18 : decode cJ5_init_d00df 18 = .ok (.iconst 0, 1) := by decide +kernel
theorem dJ5_init_d00df_19 : decode cJ5_init_d00df 19 = .ok (.putfield 22, 3) := by decide +kernel
theorem dJ5_init_d00df_22 : decode cJ5_init_d00df 22 = .ok (.goto 16, 3) := by decide +kernel
theorem dJ5_init_d00df_25 : decode cJ5_init_d00df 25 = .ok (.aload_n 0, 1) := by decide +kernel
theorem dJ5_init_d00df_26 : decode cJ5_init_d00df 26 = .ok (.iload_n 1, 1) := by decide +kernel
theorem dJ5_init_d00df_27 : decode cJ5_init_d00df 27 = .ok (.invokestatic 26, 3) := by decide +kernel
theorem dJ5_init_d00df_30 : decode cJ5_init_d00df 30 = .ok (.putfield 15, 3) := by decide +kernel
theorem dJ5_init_d00df_33 : decode cJ5_init_d00df 33 = .ok (.aload_n 0, 1) := by decide +kernel
theorem dJ5_init_d00df_34 : decode cJ5_init_d00df 34 = .ok (.iconst 1, 1) := by decide +kernel
theorem dJ5_init_d00df_35 : decode cJ5_init_d00df 35 = .ok (.putfield 22, 3) := by decide +kernel
theorem dJ5_init_d00df_38 : decode cJ5_init_d00df 38 = .ok (.return_, 1) := by decide +kernel
theorem dJ4_init_da8c8_0 : decode cJ4_init_da8c8 0 = .ok (.aload_n 0, 1) := by decide +kernel
theorem dJ4_init_da8c8_1 : decode cJ4_init_da8c8 1 = .ok (.bipush 16, 2) := by decide +kernel
theorem dJ4_init_da8c8_3 : decode cJ4_init_da8c8 3 = .ok (.invokespecial 1, 3) := by decide +kernel
theorem dJ4_init_da8c8_6 : decode cJ4_init_da8c8 6 = .ok (.return_, 1) := by decide +kernel
theorem dJ7_checkLength_df160_0 : decode cJ7_checkLength_df160 0 = .ok (.iload_n 1, 1) := by decide +kernel
theorem dJ7_checkLength_df160_1 : decode cJ7_checkLength_df160 1 = .ok (.iload_n 0, 1) := by decide +kernel
theorem dJ7_checkLength_df160_2 : decode cJ7_checkLength_df160 2 = .ok (.if_icmp .ge 35, 3) := by decide +kernel
theorem dJ7_checkLength_df160_5 : decode cJ7_checkLength_df160 5 = .ok (.new 43, 3) := by decide +kernel
theorem dJ7_checkLength_df160_8 : decode cJ7_checkLength_df160 8 = .ok (.dup, 1) := by decide +kernel
theorem dJ7_checkLength_df160_9 : decode cJ7_checkLength_df160 9 = .ok (.new 45, 3) := by decide +kernel
theorem dJ7_checkLength_df160_12 : decode cJ7_checkLength_df160 12 = .ok (.dup, 1) := by decide +kernel
theorem dJ7_checkLength_df160_13 : decode cJ7_checkLength_df160 13 = .ok (.invokespecial 47, 3) := by decide +kernel
theorem dJ7_checkLength_df160_16 : decode cJ7_checkLength_df160 16 = .ok (.iload_n 0, 1) := by decide +kernel
theorem dJ7_checkLength_df160_17 : decode cJ7_checkLength_df160 17 = .ok (.invokevirtual 54, 3) := by decide +kernel
theorem dJ7_checkLength_df160_20 : decode cJ7_checkLength_df160 20 = .ok (.ldc_w 337, 3) := by decide +kernel
theorem dJ7_checkLength_df160_23 : decode cJ7_checkLength_df160 23 = .ok (.invokevirtual 50, 3) := by decide +kernel
theorem dJ7_checkLength_df160_26 : decode cJ7_checkLength_df160 26 = .ok (.iload_n 1, 1) := by decide +kernel
theorem dJ7_checkLength_df160_27 : decode cJ7_checkLength_df160 27 = .ok (.invokevirtual 54, 3) := by decide +kernel
theorem dJ7_checkLength_df160_30 : decode cJ7_checkLength_df160 30 = .ok (.invokevirtual 61, 3) := by decide +kernel
theorem dJ7_checkLength_df160_33 : decode cJ7_checkLength_df160 33 = .ok (.invokespecial 65, 3) := by decide +kernel
theorem dJ7_checkLength_df160_36 : decode cJ7_checkLength_df160 36 = .ok (.athrow, 1) := by decide +kernel
theorem dJ7_checkLength_df160_37 : decode cJ7_checkLength_df160 37 = .ok (.return_, 1) := by decide +kernel
theorem dJ7_copyOfRangeByte_39247_0 : decode cJ7_copyOfRangeByte_39247 0 = .ok (.iload_n 1, 1) := by decide +kernel
theorem dJ7_copyOfRangeByte_39247_1 : decode cJ7_copyOfRangeByte_39247 1 = .ok (.iload_n 2, 1) := by decide +kernel
theorem dJ7_copyOfRangeByte_39247_2 : decode cJ7_copyOfRangeByte_39247 2 = .ok (.invokestatic 343, 3) := by decide +kernel
theorem dJ7_copyOfRangeByte_39247_5 : decode cJ7_copyOfRangeByte_39247 5 = .ok (.iload_n 2, 1) := by decide +kernel
theorem dJ7_copyOfRangeByte_39247_6 : decode cJ7_copyOfRangeByte_39247 6 = .ok (.iload_n 1, 1) := by decide +kernel
theorem dJ7_copyOfRangeByte_39247_7 : decode cJ7_copyOfRangeByte_39247 7 = .ok (.isub, 1) := by decide +kernel
theorem dJ7_copyOfRangeByte_39247_8 : decode cJ7_copyOfRangeByte_39247 8 = .ok (.istore_n 3, 1) := by decide +kernel
theorem dJ7_copyOfRangeByte_39247_9 : decode cJ7_copyOfRangeByte_39247 9 = .ok (.iload_n 3, 1) := by decide +kernel
theorem dJ7_copyOfRangeByte_39247_10 : decode cJ7_copyOfRangeByte_39247 10 = .ok (.newarray .byte, 2) := by decide +kernel
theorem dJ7_copyOfRangeByte_39247_12 : decode cJ7_copyOfRangeByte_39247 12 = .ok (.astore 4, 2) := by decide +kernel
theorem dJ7_copyOfRangeByte_39247_14 : decode cJ7_copyOfRangeByte_39247 14 = .ok (.aload_n 0, 1) := by decide +kernel
theorem dJ7_copyOfRangeByte_39247_15 : decode cJ7_copyOfRangeByte_39247 15 = .ok (.iload_n 1, 1) := by decide +kernel
theorem dJ7_copyOfRangeByte_39247_16 : decode cJ7_copyOfRangeByte_39247 16 = .ok (.aload 4, 2) := by decide +kernel
theorem dJ7_copyOfRangeByte_39247_18 : decode cJ7_copyOfRangeByte_39247 18 = .ok (.iconst 0, 1) := by decide +kernel
theorem dJ7_copyOfRangeByte_39247_19 : decode cJ7_copyOfRangeByte_39247 19 = .ok (.aload_n 0, 1) := by decide +kernel
theorem dJ7_copyOfRangeByte_39247_20 : decode cJ7_copyOfRangeByte_39247 20 = .ok (.arraylength, 1) := by decide +kernel
theorem dJ7_copyOfRangeByte_39247_21 : decode cJ7_copyOfRangeByte_39247 21 = .ok (.iload_n 1, 1) := by decide +kernel
theorem dJ7_copyOfRangeByte_39247_22 : decode cJ7_copyOfRangeByte_39247 22 = .ok (.isub, 1) := by decide +kernel
theorem dJ7_copyOfRangeByte_39247_23 : decode cJ7_copyOfRangeByte_39247 23 = .ok (.iload_n 3, 1) := by decide +kernel
theorem dJ7_copyOfRangeByte_39247_24 : decode cJ7_copyOfRangeByte_39247 24 = .ok (.invokestatic 304, 3) := by decide +kernel
theorem dJ7_copyOfRangeByte_39247_27 : decode cJ7_copyOfRangeByte_39247 27 = .ok (.invokestatic 150, 3) := by decide +kernel
theorem dJ7_copyOfRangeByte_39247_30 : decode cJ7_copyOfRangeByte_39247 30 = .ok (.aload 4, 2) := by decide +kernel
theorem dJ7_copyOfRangeByte_39247_32 : decode cJ7_copyOfRangeByte_39247 32 = .ok (.areturn, 1) := by decide +kernel
theorem dJ7_copyOfRange_39247_0 : decode cJ7_copyOfRange_39247 0 = .ok (.iload_n 1, 1) := by decide +kernel
theorem dJ7_copyOfRange_39247_1 : decode cJ7_copyOfRange_39247 1 = .ok (.ifCond .ne 9, 3) := by decide +kernel
theorem dJ7_copyOfRange_39247_4 : decode cJ7_copyOfRange_39247 4 = .ok (.iload_n 2, 1) := by decide +kernel
theorem dJ7_copyOfRange_39247_5 : decode cJ7_copyOfRange_39247 5 = .ok (.aload_n 0, 1) := by decide +kernel
theorem dJ7_copyOfRange_39247_6 : decode cJ7_copyOfRange_39247 6 = .ok (.arraylength, 1) := by decide +kernel
theorem dJ7_copyOfRange_39247_7 : decode cJ7_copyOfRange_39247 7 = .ok (.if_icmp .eq 10, 3) := by decide +kernel
theorem dJ7_copyOfRange_39247_10 : decode cJ7_copyOfRange_39247 10 = .ok (.aload_n 0, 1) := by decide +kernel
theorem dJ7_copyOfRange_39247_11 : decode cJ7_copyOfRange_39247 11 = .ok (.iload_n 1, 1) := by decide +kernel
theorem dJ7_copyOfRange_39247_12 : decode cJ7_copyOfRange_39247 12 = .ok (.iload_n 2, 1) := by decide +kernel
theorem dJ7_copyOfRange_39247_13 : decode cJ7_copyOfRange_39247 13 = .ok (.invokestatic 339, 3) := by decide +kernel
theorem dJ7_copyOfRange_39247_16 : decode cJ7_copyOfRange_39247 16 = .ok (.areturn, 1) := by decide +kernel
theorem dJ7_copyOfRange_39247_17 : decode cJ7_copyOfRange_39247 17 = .ok (.aload_n 0, 1) := by decide +kernel
theorem dJ7_copyOfRange_39247_18 : decode cJ7_copyOfRange_39247 18 = .ok (.invokevirtual 310, 3) := by decide +kernel
theorem dJ7_copyOfRange_39247_21 : decode cJ7_copyOfRange_39247 21 = .ok (.checkcast 311, 3) := by decide +kernel
theorem dJ7_copyOfRange_39247_24 : decode cJ7_copyOfRange_39247 24 = .ok (.areturn, 1) := by decide +kernel
theorem dJ0_init_db425_0 : decode cJ0_init_db425 0 = .ok (.aload_n 0, 1) := by decide +kernel
theorem dJ0_init_db425_1 : decode cJ0_init_db425 1 = .ok (.invokespecial 1, 3) := by decide +kernel
theorem dJ0_init_db425_4 : decode cJ0_init_db425 4 = .ok (.aload_n 1, 1) := by decide +kernel
theorem dJ0_init_db425_5 : decode cJ0_init_db425 5 = .ok (.invokevirtual 552, 3) := by decide +kernel
theorem dJ0_init_db425_8 : decode cJ0_init_db425 8 = .ok (.astore_n 3, 1) := by decide +kernel
theorem dJ0_init_db425_9 : decode cJ0_init_db425 9 = .ok (.aload_n 1, 1) := by decide +kernel
theorem dJ0_init_db425_10 : decode cJ0_init_db425 10 = .ok (.invokevirtual 549, 3) := by decide +kernel
theorem dJ0_init_db425_13 : decode cJ0_init_db425 13 = .ok (.istore 4, 2) := by decide +kernel
theorem dJ0_init_db425_15 : decode cJ0_init_db425 15 = .ok (.aload_n 1, 1) := by decide +kernel
theorem dJ0_init_db425_16 : decode cJ0_init_db425 16 = .ok (.invokevirtual 1047, 3) := by decide +kernel
theorem dJ0_init_db425_19 : decode cJ0_init_db425 19 = .ok (.ifCond .eq 22, 3) := by decide +kernel
theorem dJ0_init_db425_22 : decode cJ0_init_db425 22 = .ok (.aload_n 0, 1) := by decide +kernel
theorem dJ0_init_db425_23 : decode cJ0_init_db425 23 = .ok (.iconst 0, 1) := by decide +kernel
theorem dJ0_init_db425_24 : decode cJ0_init_db425 24 = .ok (.putfield 15, 3) := by decide +kernel
theorem dJ0_init_db425_27 : decode cJ0_init_db425 27 = .ok (.aload_n 0, 1) := by decide +kernel
theorem dJ0_init_db425_28 : decode cJ0_init_db425 28 = .ok (.aload_n 3, 1) := by decide +kernel
theorem dJ0_init_db425_29 : decode cJ0_init_db425 29 = .ok (.iconst 0, 1) := by decide +kernel
theorem dJ0_init_db425_30 : decode cJ0_init_db425 30 = .ok (.iload 4, 2) := by decide +kernel
theorem dJ0_init_db425_32 : decode cJ0_init_db425 32 = .ok (.invokestatic 54, 3) := by decide +kernel
theorem dJ0_init_db425_35 : decode cJ0_init_db425 35 = .ok (.putfield 9, 3) := by decide +kernel
theorem dJ0_init_db425_38 : decode cJ0_init_db425 38 = .ok (.goto 59, 3) := by decide +kernel
theorem dJ0_init_db425_41 : decode cJ0_init_db425 41 = .ok (.getstatic 38, 3) := by decide +kernel
theorem dJ0_init_db425_44 : decode cJ0_init_db425 44 = .ok (.ifCond .eq 35, 3) := by decide +kernel
theorem dJ0_init_db425_47 : decode cJ0_init_db425 47 = .ok (.aload_n 1, 1) := by decide +kernel
theorem dJ0_init_db425_48 : decode cJ0_init_db425 48 = .ok (.getfield 1048, 3) := by decide +kernel
theorem dJ0_init_db425_51 : decode cJ0_init_db425 51 = .ok (.ifCond .eq 28, 3) := by decide +kernel
theorem dJ0_init_db425_54 : decode cJ0_init_db425 54 = .ok (.aload_n 0, 1) := by decide +kernel
theorem dJ0_init_db425_55 : decode cJ0_init_db425 55 = .ok (.aload_n 3, 1) := by decide +kernel
theorem dJ0_init_db425_56 : decode cJ0_init_db425 56 = .ok (.iconst 0, 1) := by decide +kernel
theorem dJ0_init_db425_57 : decode cJ0_init_db425 57 = .ok (.iload 4, 2) := by decide +kernel
theorem dJ0_init_db425_59 : decode cJ0_init_db425 59 = .ok (.invokestatic 1051, 3) := by decide +kernel
theorem dJ0_init_db425_62 : decode cJ0_init_db425 62 = .ok (.putfield 9, 3) := by decide +kernel
theorem dJ0_init_db425_65 : decode cJ0_init_db425 65 = .ok (.aload_n 0, 1) := by decide +kernel
theorem dJ0_init_db425_66 : decode cJ0_init_db425 66 = .ok (.aload_n 0, 1) := by decide +kernel
theorem dJ0_init_db425_67 : decode cJ0_init_db425 67 = .ok (.getfield 9, 3) := by decide +kernel
theorem dJ0_init_db425_70 : decode cJ0_init_db425 70 = .ok (.iload 4, 2) := by decide +kernel
theorem dJ0_init_db425_72 : decode cJ0_init_db425 72 = .ok (.invokestatic 47, 3) := by decide +kernel
theorem dJ0_init_db425_75 : decode cJ0_init_db425 75 = .ok (.putfield 15, 3) := by decide +kernel
theorem dJ0_init_db425_78 : decode cJ0_init_db425 78 = .ok (.return_, 1) := by decide +kernel
theorem dJ0_init_db425_79 : decode cJ0_init_db425 79 = .ok (.aload_n 0, 1) := by decide +kernel
theorem dJ0_init_db425_80 : decode cJ0_init_db425 80 = .ok (.iconst 1, 1) := by decide +kernel
theorem dJ0_init_db425_81 : decode cJ0_init_db425 81 = .ok (.putfield 15, 3) := by decide +kernel
theorem dJ0_init_db425_84 : decode cJ0_init_db425 84 = .ok (.aload_n 0, 1) := by decide +kernel
theorem dJ0_init_db425_85 : decode cJ0_init_db425 85 = .ok (.aload_n 3, 1) := by decide +kernel
theorem dJ0_init_db425_86 : decode cJ0_init_db425 86 = .ok (.iconst 0, 1) := by decide +kernel
theorem dJ0_init_db425_87 : decode cJ0_init_db425 87 = .ok (.iload 4, 2) := by decide +kernel
theorem dJ0_init_db425_89 : decode cJ0_init_db425 89 = .ok (.iconst 1, 1) := by decide +kernel
theorem dJ0_init_db425_90 : decode cJ0_init_db425 90 = .ok (.ishl, 1) := by decide +kernel
theorem dJ0_init_db425_91 : decode cJ0_init_db425 91 = .ok (.invokestatic 54, 3) := by decide +kernel
theorem dJ0_init_db425_94 : decode cJ0_init_db425 94 = .ok (.putfield 9, 3) := by decide +kernel
theorem dJ0_init_db425_97 : decode cJ0_init_db425 97 = .ok (.return_, 1) := by decide +kernel
theorem dJ0_init_81219_0 : decode cJ0_init_81219 0 = .ok (.aload_n 0, 1) := by decide +kernel
theorem dJ0_init_81219_1 : decode cJ0_init_81219 1 = .ok (.aload_n 1, 1) := by decide +kernel
theorem dJ0_init_81219_2 : decode cJ0_init_81219 2 = .ok (.aconst_null, 1) := by decide +kernel
theorem dJ0_init_81219_3 : decode cJ0_init_81219 3 = .ok (.invokespecial 489, 3) := by decide +kernel
theorem dJ0_init_81219_6 : decode cJ0_init_81219 6 = .ok (.return_, 1) := by decide +kernel
theorem dJ4_toString_0e30d_0 : decode cJ4_toString_0e30d 0 = .ok (.new 18, 3) := by decide +kernel
theorem dJ4_toString_0e30d_3 : decode cJ4_toString_0e30d 3 = .ok (.dup, 1) := by decide +kernel
theorem dJ4_toString_0e30d_4 : decode cJ4_toString_0e30d 4 = .ok (.aload_n 0, 1) := by decide +kernel
theorem dJ4_toString_0e30d_5 : decode cJ4_toString_0e30d 5 = .ok (.invokespecial 137, 3) := by decide +kernel
theorem dJ4_toString_0e30d_8 : decode cJ4_toString_0e30d 8 = .ok (.areturn, 1) := by decide +kernel
def al_J5_init_d00df : Nat → Bool := fun a => decide (a = 88)
def f_J5_init_d00df_h14 (F : Nat) (S : si_St) : Option (si_St) :=
  Option.bind (sd_pi S 87 0 1) fun S1 => Option.bind (sd_pi S1 87 1 0) fun S2 => some S2
def f_J5_init_d00df_h0 (F : Nat) (x1 : Int32) (S : si_St) : Option (si_St) :=
  if (1 : Int32) = 0 then (none) else (Option.bind (sd_na S 88 x1) fun S3 => f_J5_init_d00df_h14 F S3)
def f_J5_init_d00df (F : Nat) (x1 : Int32) (S : si_St) : Option (si_St) :=
  f_J5_init_d00df_h0 F x1 S
theorem mo_J5_init_d00df_h14 (F : Nat) (S : si_St) (o : si_St) (h : f_J5_init_d00df_h14 F S = some o) : sd_le S o := by
  have g : sd_le S S := sd_le.rf
  unfold f_J5_init_d00df_h14 at h
  obtain ⟨S1, eS1, h⟩ := si_ob h
  have g := g.tr (sd_pi_m eS1)
  obtain ⟨S2, eS2, h⟩ := si_ob h
  have g := g.tr (sd_pi_m eS2)
  obtain rfl := Option.some.inj h
  exact g
theorem mo_J5_init_d00df_h0 (F : Nat) (x1 : Int32) (S : si_St) (o : si_St) (h : f_J5_init_d00df_h0 F x1 S = some o) : sd_le S o := by
  have g : sd_le S S := sd_le.rf
  unfold f_J5_init_d00df_h0 at h
  rcases Decidable.em ((1 : Int32) = 0) with c7 | c7
  · have h := si_ip c7 h
    cases h
  · have h := si_in c7 h
    obtain ⟨S3, eS3, h⟩ := si_ob h
    have g := g.tr (sd_na_m eS3)
    exact g.tr (mo_J5_init_d00df_h14 F _ _ h)
theorem mo_J5_init_d00df (F : Nat) (x1 : Int32) (S : si_St) (o : si_St) (h : f_J5_init_d00df F x1 S = some o) : sd_le S o := by
  have g : sd_le S S := sd_le.rf
  unfold f_J5_init_d00df at h
  exact g.tr (mo_J5_init_d00df_h0 F _ _ _ h)
abbrev fr_J5_init_d00df : Nat := 1
abbrev lo_J5_init_d00df : Nat := 12
set_option maxHeartbeats 4000000 in
set_option maxRecDepth 100000 in
theorem c_J5_init_d00df (l : Launch) (E0 : si_Ev) (F : Nat) (x1 : Int32) (S0 : si_St) (o : si_St) (hf : f_J5_init_d00df F x1 S0 = some o) : sd_Mv l al_J5_init_d00df E0 yJ5_init_d00df cJ5_init_d00df 2 fr_J5_init_d00df lo_J5_init_d00df [.ref (E0.2.1 87), .int x1] S0 o := by
  refine sd_ofWv (plainFor_of_name (by decide +kernel)) (Nat.le_of_ble_eq_true rfl) ?_
  intro p e s m args below meth c ls Q A X hmn hw hA hl hret
  have hin : meth.name = "<init>" := hmn
  have hl : lv_has ls 2 [(0, .ref (E0.2.1 87)), (1, .int x1)] := hl
  have hR : sd_RR (sd_R fr_J5_init_d00df lo_J5_init_d00df S0 o) S0 o := ⟨Nat.le_refl _, Nat.le_refl _⟩
  have hE : sd_EE al_J5_init_d00df E0 E0 := sd_EE.rf
  have hc : sd_Ct S0 S0 0 0 := ⟨Nat.le_refl _, Nat.le_refl _⟩
  have B14 : ∀ (E : si_Ev) (S : si_St) (H : Heap) (locs : List Loc) (ls : Array Slot) (cs ss : Nat), f_J5_init_d00df_h14 F S = some o → sd_EE al_J5_init_d00df E0 E → si_Cx p s m args c cJ5_init_d00df 2 yJ5_init_d00df.cls E A → si_Ws E A s.heap S H locs → sd_Ct S0 S cs ss → lv_has ls 2 [(0, .ref (E.2.1 87))] → W p l e (sd_R fr_J5_init_d00df lo_J5_init_d00df S0 o) s m args below meth c H locs cs ss Q (F0 m 14 ls [.ref (E.2.1 88), .ref (E.2.1 87)]) := by
    intro   E S H locs ls cs ss hf hE X hw hc hl
    have hcs := sd_room hc (mo_J5_init_d00df_h14 F _ _ hf) hR
    unfold f_J5_init_d00df_h14 at hf
    obtain ⟨S1, eS1, hf⟩ := si_ob hf
    refine sd_putR X hw sd_cl20 0 (by decide) (Or.inl gf_RJ5_15) rfl (Or.inl rfl) rfl rfl (tyJ4_ok 0 (by decide)) ⟨_, rfl⟩ eS1 dJ5_init_d00df_14 (fun H locs hw => ?_)
    have hc := hc.up (sd_pi_m eS1)
    refine lv_aload_n X.1 X.2.1 dJ5_init_d00df_17 rfl (lv_at hl 0 rfl) ?_
    refine lv_iconst (v := 0) X.1 X.2.1 dJ5_init_d00df_18 (by decide) ?_
    obtain ⟨S2, eS2, hf⟩ := si_ob hf
    refine sd_putI X hw sd_cl20 1 (by decide) (Or.inl gf_RJ5_22) rfl (Or.inl rfl) rfl rfl (tyJ4_ok 1 (by decide)) rfl rfl eS2 dJ5_init_d00df_19 (fun H locs hw => ?_)
    have hc := hc.up (sd_pi_m eS2)
    refine lv_goto (tgt := 38) X.1 X.2.1 dJ5_init_d00df_22 (by decide) ?_
    exact hret _ _ _ _ _ _ _ _ hf ⟨hE, hw, hc⟩ dJ5_init_d00df_38
  have B0 : ∀ (x1 : Int32) (E : si_Ev) (S : si_St) (H : Heap) (locs : List Loc) (ls : Array Slot) (cs ss : Nat), f_J5_init_d00df_h0 F x1 S = some o → sd_EE al_J5_init_d00df E0 E → si_Cx p s m args c cJ5_init_d00df 2 yJ5_init_d00df.cls E A → si_Ws E A s.heap S H locs → sd_Ct S0 S cs ss → lv_has ls 2 [(0, .ref (E.2.1 87)), (1, .int x1)] → W p l e (sd_R fr_J5_init_d00df lo_J5_init_d00df S0 o) s m args below meth c H locs cs ss Q (F0 m 0 ls []) := by
    intro x1  E S H locs ls cs ss hf hE X hw hc hl
    have hcs := sd_room hc (mo_J5_init_d00df_h0 F _ _ _ hf) hR
    unfold f_J5_init_d00df_h0 at hf
    refine lv_aload_n X.1 X.2.1 dJ5_init_d00df_0 rfl (lv_at hl 0 rfl) ?_
    refine sd_objI X hl.1 gm_RJ5_3 gn_obj gc_obj (Nat.le_of_ble_eq_true rfl) (Nat.le_of_ble_eq_true rfl) dJ5_init_d00df_1 ?_
    refine si_gsC X hw.2.2 gf_RJ5_18 dJ5_init_d00df_4 ?_
    refine lv_if_eq (tgt := 25) X.1 X.2.1 dJ5_init_d00df_7 (by decide) (fun c7 => ?_) (fun c7 => ?_)
    · have hf := si_ip c7 hf
      cases hf
    · have hf := si_in c7 hf
      refine lv_aload_n X.1 X.2.1 dJ5_init_d00df_10 rfl (lv_at hl 0 rfl) ?_
      refine lv_iload_n X.1 X.2.1 dJ5_init_d00df_11 rfl (lv_at hl 1 rfl) ?_
      obtain ⟨S3, eS3, hf⟩ := si_ob hf
      refine sd_newB X hw hA hE hc hR ga_byte rfl rfl eS3 (mo_J5_init_d00df_h14 F _ _ hf) dJ5_init_d00df_12 (fun E H cs ss hZ hE X hw hc => ?_)
      rw [← hZ.at 87 rfl] at hl
      rw [← hZ.at 87 rfl]
      exact B14 _ _ _ _ _ _ _ hf hE X hw hc (lv_sub hl [0] rfl)
  unfold f_J5_init_d00df at hf
  exact B0 _ _ _ _ _ _ _ _ hf hE X hw hc (lv_sub hl [0, 1] rfl)
def al_J4_init_da8c8 : Nat → Bool := fun a => decide (a = 88)
theorem sd_als_J4_init_da8c8_J5_init_d00df : ∀ k, al_J4_init_da8c8 k = false → al_J5_init_d00df k = false := by
  intro k h
  simp only [al_J4_init_da8c8, al_J5_init_d00df, decide_eq_false_iff_not] at h ⊢
  omega
def f_J4_init_da8c8_h6 (F : Nat) (S : si_St) : Option (si_St) :=
  some S
def f_J4_init_da8c8_h0 (F : Nat) (S : si_St) : Option (si_St) :=
  Option.bind (f_J5_init_d00df F 16 S) fun S1 => f_J4_init_da8c8_h6 F S1
def f_J4_init_da8c8 (F : Nat) (S : si_St) : Option (si_St) :=
  f_J4_init_da8c8_h0 F S
theorem mo_J4_init_da8c8_h6 (F : Nat) (S : si_St) (o : si_St) (h : f_J4_init_da8c8_h6 F S = some o) : sd_le S o := by
  have g : sd_le S S := sd_le.rf
  unfold f_J4_init_da8c8_h6 at h
  obtain rfl := Option.some.inj h
  exact g
theorem mo_J4_init_da8c8_h0 (F : Nat) (S : si_St) (o : si_St) (h : f_J4_init_da8c8_h0 F S = some o) : sd_le S o := by
  have g : sd_le S S := sd_le.rf
  unfold f_J4_init_da8c8_h0 at h
  obtain ⟨S1, eS1, h⟩ := si_ob h
  have g := g.tr (mo_J5_init_d00df F 16 S S1 eS1)
  exact g.tr (mo_J4_init_da8c8_h6 F _ _ h)
theorem mo_J4_init_da8c8 (F : Nat) (S : si_St) (o : si_St) (h : f_J4_init_da8c8 F S = some o) : sd_le S o := by
  have g : sd_le S S := sd_le.rf
  unfold f_J4_init_da8c8 at h
  exact g.tr (mo_J4_init_da8c8_h0 F _ _ h)
abbrev fr_J4_init_da8c8 : Nat := 2
abbrev lo_J4_init_da8c8 : Nat := 33
set_option maxHeartbeats 4000000 in
set_option maxRecDepth 100000 in
theorem c_J4_init_da8c8 (l : Launch) (E0 : si_Ev) (F : Nat) (S0 : si_St) (o : si_St) (hf : f_J4_init_da8c8 F S0 = some o) : sd_Mv l al_J4_init_da8c8 E0 yJ4_init_da8c8 cJ4_init_da8c8 1 fr_J4_init_da8c8 lo_J4_init_da8c8 [.ref (E0.2.1 87)] S0 o := by
  refine sd_ofWv (plainFor_of_name (by decide +kernel)) (Nat.le_of_ble_eq_true rfl) ?_
  intro p e s m args below meth c ls Q A X hmn hw hA hl hret
  have hin : meth.name = "<init>" := hmn
  have hl : lv_has ls 1 [(0, .ref (E0.2.1 87))] := hl
  have hR : sd_RR (sd_R fr_J4_init_da8c8 lo_J4_init_da8c8 S0 o) S0 o := ⟨Nat.le_refl _, Nat.le_refl _⟩
  have hE : sd_EE al_J4_init_da8c8 E0 E0 := sd_EE.rf
  have hc : sd_Ct S0 S0 0 0 := ⟨Nat.le_refl _, Nat.le_refl _⟩
  have B6 : ∀ (E : si_Ev) (S : si_St) (H : Heap) (locs : List Loc) (ls : Array Slot) (cs ss : Nat), f_J4_init_da8c8_h6 F S = some o → sd_EE al_J4_init_da8c8 E0 E → si_Cx p s m args c cJ4_init_da8c8 1 yJ4_init_da8c8.cls E A → si_Ws E A s.heap S H locs → sd_Ct S0 S cs ss → lv_has ls 1 [] → W p l e (sd_R fr_J4_init_da8c8 lo_J4_init_da8c8 S0 o) s m args below meth c H locs cs ss Q (F0 m 6 ls []) := by
    intro   E S H locs ls cs ss hf hE X hw hc hl
    have hcs := sd_room hc (mo_J4_init_da8c8_h6 F _ _ hf) hR
    unfold f_J4_init_da8c8_h6 at hf
    exact hret _ _ _ _ _ _ _ _ hf ⟨hE, hw, hc⟩ dJ4_init_da8c8_6
  have B0 : ∀ (E : si_Ev) (S : si_St) (H : Heap) (locs : List Loc) (ls : Array Slot) (cs ss : Nat), f_J4_init_da8c8_h0 F S = some o → sd_EE al_J4_init_da8c8 E0 E → si_Cx p s m args c cJ4_init_da8c8 1 yJ4_init_da8c8.cls E A → si_Ws E A s.heap S H locs → sd_Ct S0 S cs ss → lv_has ls 1 [(0, .ref (E.2.1 87))] → W p l e (sd_R fr_J4_init_da8c8 lo_J4_init_da8c8 S0 o) s m args below meth c H locs cs ss Q (F0 m 0 ls []) := by
    intro   E S H locs ls cs ss hf hE X hw hc hl
    have hcs := sd_room hc (mo_J4_init_da8c8_h0 F _ _ hf) hR
    unfold f_J4_init_da8c8_h0 at hf
    refine lv_aload_n X.1 X.2.1 dJ4_init_da8c8_0 rfl (lv_at hl 0 rfl) ?_
    refine lv_bipush (v := 16) X.1 X.2.1 dJ4_init_da8c8_1 (by decide) ?_
    obtain ⟨S1, eS1, hf⟩ := si_ob hf
    refine sd_gov (sd_runI (As := [.int 16]) (rest := []) (k := 87) c0_J5_init_d00df gn_J5_init_d00df rfl gm_RJ4_1 X hw hA hl.1 ((c_J5_init_d00df l E F 16 S S1 eS1) H.size) ⟨Nat.le_of_ble_eq_true rfl, Nat.le_of_ble_eq_true rfl⟩ rfl (Nat.le_of_ble_eq_true rfl) (sd_room2 hc (mo_J5_init_d00df F 16 S S1 eS1) (mo_J4_init_da8c8_h6 F _ _ hf) hR) dJ4_init_da8c8_3) X hw hA hE hc (mo_J5_init_d00df F 16 S S1 eS1) (sd_als_J4_init_da8c8_J5_init_d00df) (fun E H locs cs ss hZ hE X hw hc => ?_)
    rw [← hZ.at 87 rfl] at hl
    exact B6 _ _ _ _ _ _ _ hf hE X hw hc (lv_sub hl [] rfl)
  unfold f_J4_init_da8c8 at hf
  exact B0 _ _ _ _ _ _ _ hf hE X hw hc (lv_sub hl [0] rfl)
def on_J7_checkLength_df160 : List Nat := []
def f_J7_checkLength_df160 (F : Nat) (x0 : Int32) (x1 : Int32) (S : si_St) : Option (si_St) :=
  if x0 ≤ x1 then (some S) else (none)
theorem fr_J7_checkLength_df160 (F : Nat) (x0 : Int32) (x1 : Int32) (S : si_St) (o : si_St) (h : f_J7_checkLength_df160 F x0 x1 S = some o) : sd_on on_J7_checkLength_df160 S o := by
  have g : sd_on on_J7_checkLength_df160 S S := sd_on.rf
  unfold f_J7_checkLength_df160 at h
  rcases Decidable.em (x0 ≤ x1) with c2 | c2
  · have h := si_ip c2 h
    obtain rfl := Option.some.inj h
    exact g
  · have h := si_in c2 h
    cases h
abbrev rm_J7_checkLength_df160 : Room := { frames := 0, cells := 0, slots := 0, locals := 0 }
set_option maxHeartbeats 4000000 in
set_option maxRecDepth 100000 in
theorem c_J7_checkLength_df160 (l : Launch) (E : si_Ev) (F : Nat) (x0 : Int32) (x1 : Int32) (S : si_St) (o : si_St) (hf : f_J7_checkLength_df160 F x0 x1 S = some o) : si_Mv l E yJ7_checkLength_df160 cJ7_checkLength_df160 2 rm_J7_checkLength_df160 [.int x0, .int x1] S o := by
  refine si_ofWv (plainFor_of_name (by decide +kernel)) (Nat.le_of_ble_eq_true rfl) ?_
  intro p e s m args below meth c ls Q A X hw hA hl hret
  have hl : lv_has ls 2 [(0, .int x0), (1, .int x1)] := hl
  unfold f_J7_checkLength_df160 at hf
  refine lv_iload_n X.1 X.2.1 dJ7_checkLength_df160_0 rfl (lv_at hl 1 rfl) ?_
  refine lv_iload_n X.1 X.2.1 dJ7_checkLength_df160_1 rfl (lv_at hl 0 rfl) ?_
  refine lv_icmp_ge (tgt := 37) X.1 X.2.1 dJ7_checkLength_df160_2 (by decide) (fun c2 => ?_) (fun c2 => ?_)
  · have hf := si_ip c2 hf
    exact hret _ _ _ _ _ hf hw dJ7_checkLength_df160_37
  · have hf := si_in c2 hf
    cases hf
def al_J7_copyOfRangeByte_39247 : Nat → Bool := fun a => decide (a = 90)
def f_J7_copyOfRangeByte_39247_h12 (F : Nat) (x1 : Int32) (x3 : Int32) (S : si_St) : Option (si_St) :=
  Option.bind (sd_al S 88) fun v1 => Option.bind (sd_cp S 88 x1 90 0 (si_min (v1 - x1) x3)) fun S2 => some S2
def f_J7_copyOfRangeByte_39247_h0 (F : Nat) (x1 : Int32) (x2 : Int32) (S : si_St) : Option (si_St) :=
  Option.bind (f_J7_checkLength_df160 F x1 x2 S) fun S3 => Option.bind (some (x2 - x1)) fun v4 => Option.bind (sd_na S3 90 v4) fun S5 => f_J7_copyOfRangeByte_39247_h12 F x1 v4 S5
def f_J7_copyOfRangeByte_39247 (F : Nat) (x1 : Int32) (x2 : Int32) (S : si_St) : Option (si_St) :=
  f_J7_copyOfRangeByte_39247_h0 F x1 x2 S
theorem mo_J7_copyOfRangeByte_39247_h12 (F : Nat) (x1 : Int32) (x3 : Int32) (S : si_St) (o : si_St) (h : f_J7_copyOfRangeByte_39247_h12 F x1 x3 S = some o) : sd_le S o := by
  have g : sd_le S S := sd_le.rf
  unfold f_J7_copyOfRangeByte_39247_h12 at h
  obtain ⟨v1, ev1, h⟩ := si_ob h
  obtain ⟨S2, eS2, h⟩ := si_ob h
  have g := g.tr (sd_cp_m eS2)
  obtain rfl := Option.some.inj h
  exact g
theorem mo_J7_copyOfRangeByte_39247_h0 (F : Nat) (x1 : Int32) (x2 : Int32) (S : si_St) (o : si_St) (h : f_J7_copyOfRangeByte_39247_h0 F x1 x2 S = some o) : sd_le S o := by
  have g : sd_le S S := sd_le.rf
  unfold f_J7_copyOfRangeByte_39247_h0 at h
  obtain ⟨S3, eS3, h⟩ := si_ob h
  have g := g.tr (fr_J7_checkLength_df160 F x1 x2 S S3 eS3).le
  obtain ⟨v4, ev4, h⟩ := si_ob h
  obtain ⟨S5, eS5, h⟩ := si_ob h
  have g := g.tr (sd_na_m eS5)
  exact g.tr (mo_J7_copyOfRangeByte_39247_h12 F _ _ _ _ h)
theorem mo_J7_copyOfRangeByte_39247 (F : Nat) (x1 : Int32) (x2 : Int32) (S : si_St) (o : si_St) (h : f_J7_copyOfRangeByte_39247 F x1 x2 S = some o) : sd_le S o := by
  have g : sd_le S S := sd_le.rf
  unfold f_J7_copyOfRangeByte_39247 at h
  exact g.tr (mo_J7_copyOfRangeByte_39247_h0 F _ _ _ _ h)
abbrev fr_J7_copyOfRangeByte_39247 : Nat := 1
abbrev lo_J7_copyOfRangeByte_39247 : Nat := 40
set_option maxHeartbeats 4000000 in
set_option maxRecDepth 100000 in
theorem c_J7_copyOfRangeByte_39247 (l : Launch) (E0 : si_Ev) (F : Nat) (x1 : Int32) (x2 : Int32) (S0 : si_St) (o : si_St) (hf : f_J7_copyOfRangeByte_39247 F x1 x2 S0 = some o) : sd_Mr l al_J7_copyOfRangeByte_39247 E0 yJ7_copyOfRangeByte_39247 cJ7_copyOfRangeByte_39247 5 (some (.array .byte)) fr_J7_copyOfRangeByte_39247 lo_J7_copyOfRangeByte_39247 [.ref (E0.2.1 88), .int x1, .int x2] S0 90 o := by
  refine sd_ofWr (Or.inr ⟨_, rfl⟩) (plainFor_of_name (by decide +kernel)) (Nat.le_of_ble_eq_true rfl) ?_
  intro p e s m args below meth c ls Q A X hmn hw hA hl hret
  have hl : lv_has ls 5 [(0, .ref (E0.2.1 88)), (1, .int x1), (2, .int x2)] := hl
  have hR : sd_RR (sd_R fr_J7_copyOfRangeByte_39247 lo_J7_copyOfRangeByte_39247 S0 o) S0 o := ⟨Nat.le_refl _, Nat.le_refl _⟩
  have hE : sd_EE al_J7_copyOfRangeByte_39247 E0 E0 := sd_EE.rf
  have hc : sd_Ct S0 S0 0 0 := ⟨Nat.le_refl _, Nat.le_refl _⟩
  have B12 : ∀ (x1 : Int32) (x3 : Int32) (E : si_Ev) (S : si_St) (H : Heap) (locs : List Loc) (ls : Array Slot) (cs ss : Nat), f_J7_copyOfRangeByte_39247_h12 F x1 x3 S = some o → sd_EE al_J7_copyOfRangeByte_39247 E0 E → si_Cx p s m args c cJ7_copyOfRangeByte_39247 5 yJ7_copyOfRangeByte_39247.cls E A → si_Ws E A s.heap S H locs → sd_Ct S0 S cs ss → lv_has ls 5 [(0, .ref (E.2.1 88)), (1, .int x1), (3, .int x3)] → W p l e (sd_R fr_J7_copyOfRangeByte_39247 lo_J7_copyOfRangeByte_39247 S0 o) s m args below meth c H locs cs ss Q (F0 m 12 ls [.ref (E.2.1 90)]) := by
    intro x1 x3  E S H locs ls cs ss hf hE X hw hc hl
    have hcs := sd_room hc (mo_J7_copyOfRangeByte_39247_h12 F _ _ _ _ hf) hR
    unfold f_J7_copyOfRangeByte_39247_h12 at hf
    refine lv_astore (lv' := [(4, .ref (E.2.1 90)), (0, .ref (E.2.1 88)), (1, .int x1), (3, .int x3)]) X.1 X.2.1 dJ7_copyOfRangeByte_39247_12 hl (by decide) rfl (fun ls hl => ?_)
    refine lv_aload_n X.1 X.2.1 dJ7_copyOfRangeByte_39247_14 rfl (lv_at hl 1 rfl) ?_
    refine lv_iload_n X.1 X.2.1 dJ7_copyOfRangeByte_39247_15 rfl (lv_at hl 2 rfl) ?_
    refine lv_aload X.1 X.2.1 dJ7_copyOfRangeByte_39247_16 (lv_at hl 0 rfl) ?_
    refine lv_iconst (v := 0) X.1 X.2.1 dJ7_copyOfRangeByte_39247_18 (by decide) ?_
    refine lv_aload_n X.1 X.2.1 dJ7_copyOfRangeByte_39247_19 rfl (lv_at hl 1 rfl) ?_
    obtain ⟨v1, ev1, hf⟩ := si_ob hf
    refine sd_alen X hw (Or.inl rfl) ev1 dJ7_copyOfRangeByte_39247_20 ?_
    refine lv_iload_n X.1 X.2.1 dJ7_copyOfRangeByte_39247_21 rfl (lv_at hl 2 rfl) ?_
    refine lv_isub X.1 X.2.1 dJ7_copyOfRangeByte_39247_22 ?_
    refine lv_iload_n X.1 X.2.1 dJ7_copyOfRangeByte_39247_23 rfl (lv_at hl 3 rfl) ?_
    refine si_mmin hl.1 X (Nat.le_of_ble_eq_true rfl) (Nat.le_of_ble_eq_true rfl) gm_RJ7_304 hcs dJ7_copyOfRangeByte_39247_24 ?_
    obtain ⟨S2, eS2, hf⟩ := si_ob hf
    refine sd_cpyR hl.1 X hw rfl rfl (Nat.le_of_ble_eq_true rfl) (Nat.le_of_ble_eq_true rfl) eS2 gm_RJ7_150 dJ7_copyOfRangeByte_39247_27 (fun H locs hw => ?_)
    have hc := hc.up (sd_cp_m eS2)
    refine lv_aload X.1 X.2.1 dJ7_copyOfRangeByte_39247_30 (lv_at hl 0 rfl) ?_
    exact hret _ _ _ _ _ _ _ _ hf ⟨hE, hw, hc⟩ dJ7_copyOfRangeByte_39247_32
  have B0 : ∀ (x1 : Int32) (x2 : Int32) (E : si_Ev) (S : si_St) (H : Heap) (locs : List Loc) (ls : Array Slot) (cs ss : Nat), f_J7_copyOfRangeByte_39247_h0 F x1 x2 S = some o → sd_EE al_J7_copyOfRangeByte_39247 E0 E → si_Cx p s m args c cJ7_copyOfRangeByte_39247 5 yJ7_copyOfRangeByte_39247.cls E A → si_Ws E A s.heap S H locs → sd_Ct S0 S cs ss → lv_has ls 5 [(0, .ref (E.2.1 88)), (1, .int x1), (2, .int x2)] → W p l e (sd_R fr_J7_copyOfRangeByte_39247 lo_J7_copyOfRangeByte_39247 S0 o) s m args below meth c H locs cs ss Q (F0 m 0 ls []) := by
    intro x1 x2  E S H locs ls cs ss hf hE X hw hc hl
    have hcs := sd_room hc (mo_J7_copyOfRangeByte_39247_h0 F _ _ _ _ hf) hR
    unfold f_J7_copyOfRangeByte_39247_h0 at hf
    refine lv_iload_n X.1 X.2.1 dJ7_copyOfRangeByte_39247_0 rfl (lv_at hl 1 rfl) ?_
    refine lv_iload_n X.1 X.2.1 dJ7_copyOfRangeByte_39247_1 rfl (lv_at hl 2 rfl) ?_
    obtain ⟨S3, eS3, hf⟩ := si_ob hf
    refine si_cSv [.int x1, .int x2] cal_J7_checkLength_df160 gm_RJ7_343 X hw hA hl.1 (c_J7_checkLength_df160 l E F x1 x2 S S3 eS3) ⟨⟨rfl, rfl⟩, Nat.le_of_ble_eq_true rfl, Nat.le_of_ble_eq_true rfl⟩ rfl rfl (Nat.le_of_ble_eq_true rfl) hcs dJ7_copyOfRangeByte_39247_2 (fun H locs hw => ?_)
    have hc := hc.up (fr_J7_checkLength_df160 F x1 x2 S S3 eS3).le
    refine lv_iload_n X.1 X.2.1 dJ7_copyOfRangeByte_39247_5 rfl (lv_at hl 2 rfl) ?_
    refine lv_iload_n X.1 X.2.1 dJ7_copyOfRangeByte_39247_6 rfl (lv_at hl 1 rfl) ?_
    refine lv_isub X.1 X.2.1 dJ7_copyOfRangeByte_39247_7 ?_
    obtain ⟨v4, ev4, hf⟩ := si_ob hf
    refine si_nmI ev4 ?_
    refine lv_istore_n (lv' := [(3, .int v4), (0, .ref (E.2.1 88)), (1, .int x1), (2, .int x2)]) X.1 X.2.1 dJ7_copyOfRangeByte_39247_8 rfl hl (by decide) rfl (fun ls hl => ?_)
    refine lv_iload_n X.1 X.2.1 dJ7_copyOfRangeByte_39247_9 rfl (lv_at hl 0 rfl) ?_
    obtain ⟨S5, eS5, hf⟩ := si_ob hf
    refine sd_newB X hw hA hE hc hR ga_byte rfl rfl eS5 (mo_J7_copyOfRangeByte_39247_h12 F _ _ _ _ hf) dJ7_copyOfRangeByte_39247_10 (fun E H cs ss hZ hE X hw hc => ?_)
    rw [← hZ.at 88 rfl] at hl
    exact B12 _ _ _ _ _ _ _ _ _ hf hE X hw hc (lv_sub hl [1, 2, 0] rfl)
  unfold f_J7_copyOfRangeByte_39247 at hf
  exact B0 _ _ _ _ _ _ _ _ _ hf hE X hw hc (lv_sub hl [0, 1, 2] rfl)
def al_J7_copyOfRange_39247 : Nat → Bool := fun a => decide (a = 90)
theorem sd_als_J7_copyOfRange_39247_J7_copyOfRangeByte_39247 : ∀ k, al_J7_copyOfRange_39247 k = false → al_J7_copyOfRangeByte_39247 k = false := by
  intro k h
  simp only [al_J7_copyOfRange_39247, al_J7_copyOfRangeByte_39247, decide_eq_false_iff_not] at h ⊢
  omega
def f_J7_copyOfRange_39247_h16 (F : Nat) (S : si_St) : Option (si_St) :=
  some S
def f_J7_copyOfRange_39247_h10 (F : Nat) (x1 : Int32) (x2 : Int32) (S : si_St) : Option (si_St) :=
  Option.bind (f_J7_copyOfRangeByte_39247 F x1 x2 S) fun S1 => f_J7_copyOfRange_39247_h16 F S1
def f_J7_copyOfRange_39247_h21 (F : Nat) (S : si_St) : Option (si_St) :=
  if ¬ (sd_ok S 90) then none else some S
def f_J7_copyOfRange_39247_h0 (F : Nat) (x1 : Int32) (x2 : Int32) (S : si_St) : Option (si_St) :=
  if x1 = 0 then (Option.bind (sd_al S 88) fun v2 => if x2 = v2 then (Option.bind (sd_cn S 88 90) fun S3 => f_J7_copyOfRange_39247_h21 F S3) else (f_J7_copyOfRange_39247_h10 F x1 x2 S)) else (f_J7_copyOfRange_39247_h10 F x1 x2 S)
def f_J7_copyOfRange_39247 (F : Nat) (x1 : Int32) (x2 : Int32) (S : si_St) : Option (si_St) :=
  f_J7_copyOfRange_39247_h0 F x1 x2 S
theorem mo_J7_copyOfRange_39247_h16 (F : Nat) (S : si_St) (o : si_St) (h : f_J7_copyOfRange_39247_h16 F S = some o) : sd_le S o := by
  have g : sd_le S S := sd_le.rf
  unfold f_J7_copyOfRange_39247_h16 at h
  obtain rfl := Option.some.inj h
  exact g
theorem mo_J7_copyOfRange_39247_h10 (F : Nat) (x1 : Int32) (x2 : Int32) (S : si_St) (o : si_St) (h : f_J7_copyOfRange_39247_h10 F x1 x2 S = some o) : sd_le S o := by
  have g : sd_le S S := sd_le.rf
  unfold f_J7_copyOfRange_39247_h10 at h
  obtain ⟨S1, eS1, h⟩ := si_ob h
  have g := g.tr (mo_J7_copyOfRangeByte_39247 F x1 x2 S S1 eS1)
  exact g.tr (mo_J7_copyOfRange_39247_h16 F _ _ h)
theorem mo_J7_copyOfRange_39247_h21 (F : Nat) (S : si_St) (o : si_St) (h : f_J7_copyOfRange_39247_h21 F S = some o) : sd_le S o := by
  have g : sd_le S S := sd_le.rf
  unfold f_J7_copyOfRange_39247_h21 at h
  have hok21 : sd_ok S 90 := Decidable.byContradiction fun h9 => by rw [if_pos h9] at h; cases h
  have h := si_in (not_not_intro hok21) h
  obtain rfl := Option.some.inj h
  exact g
theorem mo_J7_copyOfRange_39247_h0 (F : Nat) (x1 : Int32) (x2 : Int32) (S : si_St) (o : si_St) (h : f_J7_copyOfRange_39247_h0 F x1 x2 S = some o) : sd_le S o := by
  have g : sd_le S S := sd_le.rf
  unfold f_J7_copyOfRange_39247_h0 at h
  rcases Decidable.em (x1 = 0) with c1 | c1
  · have h := si_ip c1 h
    obtain ⟨v2, ev2, h⟩ := si_ob h
    rcases Decidable.em (x2 = v2) with c7 | c7
    · have h := si_ip c7 h
      obtain ⟨S3, eS3, h⟩ := si_ob h
      have g := g.tr (sd_cn_m eS3)
      exact g.tr (mo_J7_copyOfRange_39247_h21 F _ _ h)
    · have h := si_in c7 h
      exact g.tr (mo_J7_copyOfRange_39247_h10 F _ _ _ _ h)
  · have h := si_in c1 h
    exact g.tr (mo_J7_copyOfRange_39247_h10 F _ _ _ _ h)
theorem mo_J7_copyOfRange_39247 (F : Nat) (x1 : Int32) (x2 : Int32) (S : si_St) (o : si_St) (h : f_J7_copyOfRange_39247 F x1 x2 S = some o) : sd_le S o := by
  have g : sd_le S S := sd_le.rf
  unfold f_J7_copyOfRange_39247 at h
  exact g.tr (mo_J7_copyOfRange_39247_h0 F _ _ _ _ h)
abbrev fr_J7_copyOfRange_39247 : Nat := 2
abbrev lo_J7_copyOfRange_39247 : Nat := 64
set_option maxHeartbeats 4000000 in
set_option maxRecDepth 100000 in
theorem c_J7_copyOfRange_39247 (l : Launch) (E0 : si_Ev) (F : Nat) (x1 : Int32) (x2 : Int32) (S0 : si_St) (o : si_St) (hf : f_J7_copyOfRange_39247 F x1 x2 S0 = some o) : sd_Mr l al_J7_copyOfRange_39247 E0 yJ7_copyOfRange_39247 cJ7_copyOfRange_39247 3 (some (.array .byte)) fr_J7_copyOfRange_39247 lo_J7_copyOfRange_39247 [.ref (E0.2.1 88), .int x1, .int x2] S0 90 o := by
  refine sd_ofWr (Or.inr ⟨_, rfl⟩) (plainFor_of_name (by decide +kernel)) (Nat.le_of_ble_eq_true rfl) ?_
  intro p e s m args below meth c ls Q A X hmn hw hA hl hret
  have hl : lv_has ls 3 [(0, .ref (E0.2.1 88)), (1, .int x1), (2, .int x2)] := hl
  have hR : sd_RR (sd_R fr_J7_copyOfRange_39247 lo_J7_copyOfRange_39247 S0 o) S0 o := ⟨Nat.le_refl _, Nat.le_refl _⟩
  have hE : sd_EE al_J7_copyOfRange_39247 E0 E0 := sd_EE.rf
  have hc : sd_Ct S0 S0 0 0 := ⟨Nat.le_refl _, Nat.le_refl _⟩
  have B16 : ∀ (E : si_Ev) (S : si_St) (H : Heap) (locs : List Loc) (ls : Array Slot) (cs ss : Nat), f_J7_copyOfRange_39247_h16 F S = some o → sd_EE al_J7_copyOfRange_39247 E0 E → si_Cx p s m args c cJ7_copyOfRange_39247 3 yJ7_copyOfRange_39247.cls E A → si_Ws E A s.heap S H locs → sd_Ct S0 S cs ss → lv_has ls 3 [] → W p l e (sd_R fr_J7_copyOfRange_39247 lo_J7_copyOfRange_39247 S0 o) s m args below meth c H locs cs ss Q (F0 m 16 ls [.ref (E.2.1 90)]) := by
    intro   E S H locs ls cs ss hf hE X hw hc hl
    have hcs := sd_room hc (mo_J7_copyOfRange_39247_h16 F _ _ hf) hR
    unfold f_J7_copyOfRange_39247_h16 at hf
    exact hret _ _ _ _ _ _ _ _ hf ⟨hE, hw, hc⟩ dJ7_copyOfRange_39247_16
  have B10 : ∀ (x1 : Int32) (x2 : Int32) (E : si_Ev) (S : si_St) (H : Heap) (locs : List Loc) (ls : Array Slot) (cs ss : Nat), f_J7_copyOfRange_39247_h10 F x1 x2 S = some o → sd_EE al_J7_copyOfRange_39247 E0 E → si_Cx p s m args c cJ7_copyOfRange_39247 3 yJ7_copyOfRange_39247.cls E A → si_Ws E A s.heap S H locs → sd_Ct S0 S cs ss → lv_has ls 3 [(0, .ref (E.2.1 88)), (1, .int x1), (2, .int x2)] → W p l e (sd_R fr_J7_copyOfRange_39247 lo_J7_copyOfRange_39247 S0 o) s m args below meth c H locs cs ss Q (F0 m 10 ls []) := by
    intro x1 x2  E S H locs ls cs ss hf hE X hw hc hl
    have hcs := sd_room hc (mo_J7_copyOfRange_39247_h10 F _ _ _ _ hf) hR
    unfold f_J7_copyOfRange_39247_h10 at hf
    refine lv_aload_n X.1 X.2.1 dJ7_copyOfRange_39247_10 rfl (lv_at hl 0 rfl) ?_
    refine lv_iload_n X.1 X.2.1 dJ7_copyOfRange_39247_11 rfl (lv_at hl 1 rfl) ?_
    refine lv_iload_n X.1 X.2.1 dJ7_copyOfRange_39247_12 rfl (lv_at hl 2 rfl) ?_
    obtain ⟨S1, eS1, hf⟩ := si_ob hf
    refine sd_gor (sd_runS (As := [.ref (E.2.1 88), .int x1, .int x2]) (rest := []) cal_J7_copyOfRangeByte_39247 gm_RJ7_339 X hw hA hl.1 ((c_J7_copyOfRangeByte_39247 l E F x1 x2 S S1 eS1) H.size) ⟨Nat.le_of_ble_eq_true rfl, Nat.le_of_ble_eq_true rfl⟩ rfl (Nat.le_of_ble_eq_true rfl) (sd_room2 hc (mo_J7_copyOfRangeByte_39247 F x1 x2 S S1 eS1) (mo_J7_copyOfRange_39247_h16 F _ _ hf) hR) dJ7_copyOfRange_39247_13) X hw hA hE hc (mo_J7_copyOfRangeByte_39247 F x1 x2 S S1 eS1) (sd_als_J7_copyOfRange_39247_J7_copyOfRangeByte_39247) (fun E H locs cs ss hZ hE X hw hc => ?_)
    rw [← hZ.at 88 rfl] at hl
    exact B16 _ _ _ _ _ _ _ hf hE X hw hc (lv_sub hl [] rfl)
  have B21 : ∀ (E : si_Ev) (S : si_St) (H : Heap) (locs : List Loc) (ls : Array Slot) (cs ss : Nat), f_J7_copyOfRange_39247_h21 F S = some o → sd_EE al_J7_copyOfRange_39247 E0 E → si_Cx p s m args c cJ7_copyOfRange_39247 3 yJ7_copyOfRange_39247.cls E A → si_Ws E A s.heap S H locs → sd_Ct S0 S cs ss → lv_has ls 3 [] → W p l e (sd_R fr_J7_copyOfRange_39247 lo_J7_copyOfRange_39247 S0 o) s m args below meth c H locs cs ss Q (F0 m 21 ls [.ref (E.2.1 90)]) := by
    intro   E S H locs ls cs ss hf hE X hw hc hl
    have hcs := sd_room hc (mo_J7_copyOfRange_39247_h21 F _ _ hf) hR
    unfold f_J7_copyOfRange_39247_h21 at hf
    have hok21 : sd_ok S 90 := Decidable.byContradiction fun h9 => by rw [if_pos h9] at hf; cases hf
    have hf := si_in (not_not_intro hok21) hf
    refine sd_castB X hw rfl hok21 gq_RJ7_311 dJ7_copyOfRange_39247_21 ?_
    exact hret _ _ _ _ _ _ _ _ hf ⟨hE, hw, hc⟩ dJ7_copyOfRange_39247_24
  have B0 : ∀ (x1 : Int32) (x2 : Int32) (E : si_Ev) (S : si_St) (H : Heap) (locs : List Loc) (ls : Array Slot) (cs ss : Nat), f_J7_copyOfRange_39247_h0 F x1 x2 S = some o → sd_EE al_J7_copyOfRange_39247 E0 E → si_Cx p s m args c cJ7_copyOfRange_39247 3 yJ7_copyOfRange_39247.cls E A → si_Ws E A s.heap S H locs → sd_Ct S0 S cs ss → lv_has ls 3 [(0, .ref (E.2.1 88)), (1, .int x1), (2, .int x2)] → W p l e (sd_R fr_J7_copyOfRange_39247 lo_J7_copyOfRange_39247 S0 o) s m args below meth c H locs cs ss Q (F0 m 0 ls []) := by
    intro x1 x2  E S H locs ls cs ss hf hE X hw hc hl
    have hcs := sd_room hc (mo_J7_copyOfRange_39247_h0 F _ _ _ _ hf) hR
    unfold f_J7_copyOfRange_39247_h0 at hf
    refine lv_iload_n X.1 X.2.1 dJ7_copyOfRange_39247_0 rfl (lv_at hl 1 rfl) ?_
    refine lv_if_ne (tgt := 10) X.1 X.2.1 dJ7_copyOfRange_39247_1 (by decide) (fun c1 => ?_) (fun c1 => ?_)
    · have hf := si_in c1 hf
      exact B10 _ _ _ _ _ _ _ _ _ hf hE X hw hc (lv_sub hl [0, 1, 2] rfl)
    · have hf := si_ip c1 hf
      refine lv_iload_n X.1 X.2.1 dJ7_copyOfRange_39247_4 rfl (lv_at hl 2 rfl) ?_
      refine lv_aload_n X.1 X.2.1 dJ7_copyOfRange_39247_5 rfl (lv_at hl 0 rfl) ?_
      obtain ⟨v2, ev2, hf⟩ := si_ob hf
      refine sd_alen X hw (Or.inl rfl) ev2 dJ7_copyOfRange_39247_6 ?_
      refine lv_icmp_eq (tgt := 17) X.1 X.2.1 dJ7_copyOfRange_39247_7 (by decide) (fun c7 => ?_) (fun c7 => ?_)
      · have hf := si_ip c7 hf
        refine lv_aload_n X.1 X.2.1 dJ7_copyOfRange_39247_17 rfl (lv_at hl 0 rfl) ?_
        obtain ⟨S3, eS3, hf⟩ := si_ob hf
        refine sd_clone hl.1 X hw hA hE hc hR rfl rfl rfl eS3 (mo_J7_copyOfRange_39247_h21 F _ _ hf) gm_RJ7_310 gcl_same gcl_nat gcl_inst gcl_sel (Nat.le_of_ble_eq_true rfl) (Nat.le_of_ble_eq_true rfl) dJ7_copyOfRange_39247_18 (fun E H cs ss hZ hE X hw hc => ?_)
        rw [← hZ.at 88 rfl] at hl
        exact B21 _ _ _ _ _ _ _ hf hE X hw hc (lv_sub hl [] rfl)
      · have hf := si_in c7 hf
        exact B10 _ _ _ _ _ _ _ _ _ hf hE X hw hc (lv_sub hl [0, 1, 2] rfl)
  unfold f_J7_copyOfRange_39247 at hf
  exact B0 _ _ _ _ _ _ _ _ _ hf hE X hw hc (lv_sub hl [0, 1, 2] rfl)
def al_J0_init_db425 : Nat → Bool := fun a => decide (a = 90)
theorem sd_als_J0_init_db425_J7_copyOfRange_39247 : ∀ k, al_J0_init_db425 k = false → al_J7_copyOfRange_39247 k = false := by
  intro k h
  simp only [al_J0_init_db425, al_J7_copyOfRange_39247, decide_eq_false_iff_not] at h ⊢
  omega
def f_J0_init_db425_h35 (F : Nat) (S : si_St) : Option (si_St) :=
  Option.bind (sd_pi S 89 0 1) fun S1 => some S1
def f_J0_init_db425_h19 (F : Nat) (x4 : Int32) (t0 : Int32) (S : si_St) : Option (si_St) :=
  if t0 = 0 then (none) else (Option.bind (sd_pi S 89 1 0) fun S2 => Option.bind (f_J7_copyOfRange_39247 F 0 x4 S2) fun S3 => f_J0_init_db425_h35 F S3)
def f_J0_init_db425_h13 (F : Nat) (t0 : Int32) (S : si_St) : Option (si_St) :=
  if ¬ (sd_ok S 87) then none else Option.bind (f_J5_isLatin1_aae02 F S) fun q4 => f_J0_init_db425_h19 F t0 q4.1 q4.2
def f_J0_init_db425_h8 (F : Nat) (S : si_St) : Option (si_St) :=
  if ¬ (sd_ok S 87) then none else Option.bind (f_J4_length_8abf5 F S) fun q5 => f_J0_init_db425_h13 F q5.1 q5.2
def f_J0_init_db425_h0 (F : Nat) (S : si_St) : Option (si_St) :=
  if ¬ (sd_ok S 87) then none else Option.bind (f_J5_getValue_6d5f1 F S) fun S6 => f_J0_init_db425_h8 F S6
def f_J0_init_db425 (F : Nat) (S : si_St) : Option (si_St) :=
  f_J0_init_db425_h0 F S
theorem mo_J0_init_db425_h35 (F : Nat) (S : si_St) (o : si_St) (h : f_J0_init_db425_h35 F S = some o) : sd_le S o := by
  have g : sd_le S S := sd_le.rf
  unfold f_J0_init_db425_h35 at h
  obtain ⟨S1, eS1, h⟩ := si_ob h
  have g := g.tr (sd_pi_m eS1)
  obtain rfl := Option.some.inj h
  exact g
theorem mo_J0_init_db425_h19 (F : Nat) (x4 : Int32) (t0 : Int32) (S : si_St) (o : si_St) (h : f_J0_init_db425_h19 F x4 t0 S = some o) : sd_le S o := by
  have g : sd_le S S := sd_le.rf
  unfold f_J0_init_db425_h19 at h
  rcases Decidable.em (t0 = 0) with c19 | c19
  · have h := si_ip c19 h
    cases h
  · have h := si_in c19 h
    obtain ⟨S2, eS2, h⟩ := si_ob h
    have g := g.tr (sd_pi_m eS2)
    obtain ⟨S3, eS3, h⟩ := si_ob h
    have g := g.tr (mo_J7_copyOfRange_39247 F 0 x4 S2 S3 eS3)
    exact g.tr (mo_J0_init_db425_h35 F _ _ h)
theorem mo_J0_init_db425_h13 (F : Nat) (t0 : Int32) (S : si_St) (o : si_St) (h : f_J0_init_db425_h13 F t0 S = some o) : sd_le S o := by
  have g : sd_le S S := sd_le.rf
  unfold f_J0_init_db425_h13 at h
  have hok16 : sd_ok S 87 := Decidable.byContradiction fun h9 => by rw [if_pos h9] at h; cases h
  have h := si_in (not_not_intro hok16) h
  obtain ⟨q4, eq4, h⟩ := si_ob h
  have g := g.tr (mo_J5_isLatin1_aae02 F S q4 eq4)
  exact g.tr (mo_J0_init_db425_h19 F _ _ _ _ h)
theorem mo_J0_init_db425_h8 (F : Nat) (S : si_St) (o : si_St) (h : f_J0_init_db425_h8 F S = some o) : sd_le S o := by
  have g : sd_le S S := sd_le.rf
  unfold f_J0_init_db425_h8 at h
  have hok10 : sd_ok S 87 := Decidable.byContradiction fun h9 => by rw [if_pos h9] at h; cases h
  have h := si_in (not_not_intro hok10) h
  obtain ⟨q5, eq5, h⟩ := si_ob h
  have g := g.tr (mo_J4_length_8abf5 F S q5 eq5)
  exact g.tr (mo_J0_init_db425_h13 F _ _ _ h)
theorem mo_J0_init_db425_h0 (F : Nat) (S : si_St) (o : si_St) (h : f_J0_init_db425_h0 F S = some o) : sd_le S o := by
  have g : sd_le S S := sd_le.rf
  unfold f_J0_init_db425_h0 at h
  have hok5 : sd_ok S 87 := Decidable.byContradiction fun h9 => by rw [if_pos h9] at h; cases h
  have h := si_in (not_not_intro hok5) h
  obtain ⟨S6, eS6, h⟩ := si_ob h
  have g := g.tr (mo_J5_getValue_6d5f1 F S S6 eS6)
  exact g.tr (mo_J0_init_db425_h8 F _ _ h)
theorem mo_J0_init_db425 (F : Nat) (S : si_St) (o : si_St) (h : f_J0_init_db425 F S = some o) : sd_le S o := by
  have g : sd_le S S := sd_le.rf
  unfold f_J0_init_db425 at h
  exact g.tr (mo_J0_init_db425_h0 F _ _ h)
abbrev fr_J0_init_db425 : Nat := 3
abbrev lo_J0_init_db425 : Nat := 86
set_option maxHeartbeats 4000000 in
set_option maxRecDepth 100000 in
theorem c_J0_init_db425 (l : Launch) (E0 : si_Ev) (F : Nat) (S0 : si_St) (o : si_St) (hf : f_J0_init_db425 F S0 = some o) : sd_Mv l al_J0_init_db425 E0 yJ0_init_db425 cJ0_init_db425 5 fr_J0_init_db425 lo_J0_init_db425 [.ref (E0.2.1 89), .ref (E0.2.1 87), .null] S0 o := by
  refine sd_ofWv (plainFor_of_name (by decide +kernel)) (Nat.le_of_ble_eq_true rfl) ?_
  intro p e s m args below meth c ls Q A X hmn hw hA hl hret
  have hin : meth.name = "<init>" := hmn
  have hl : lv_has ls 5 [(0, .ref (E0.2.1 89)), (1, .ref (E0.2.1 87)), (2, .null)] := hl
  have hR : sd_RR (sd_R fr_J0_init_db425 lo_J0_init_db425 S0 o) S0 o := ⟨Nat.le_refl _, Nat.le_refl _⟩
  have hE : sd_EE al_J0_init_db425 E0 E0 := sd_EE.rf
  have hc : sd_Ct S0 S0 0 0 := ⟨Nat.le_refl _, Nat.le_refl _⟩
  have B35 : ∀ (E : si_Ev) (S : si_St) (H : Heap) (locs : List Loc) (ls : Array Slot) (cs ss : Nat), f_J0_init_db425_h35 F S = some o → sd_EE al_J0_init_db425 E0 E → si_Cx p s m args c cJ0_init_db425 5 yJ0_init_db425.cls E A → si_Ws E A s.heap S H locs → sd_Ct S0 S cs ss → lv_has ls 5 [] → W p l e (sd_R fr_J0_init_db425 lo_J0_init_db425 S0 o) s m args below meth c H locs cs ss Q (F0 m 35 ls [.ref (E.2.1 90), .ref (E.2.1 89)]) := by
    intro   E S H locs ls cs ss hf hE X hw hc hl
    have hcs := sd_room hc (mo_J0_init_db425_h35 F _ _ hf) hR
    unfold f_J0_init_db425_h35 at hf
    obtain ⟨S1, eS1, hf⟩ := si_ob hf
    refine sd_putR X hw sd_cl21 0 (by decide) (Or.inl gf_RJ0_9) rfl (Or.inr ⟨rfl, hin, rfl, gf_RJ0_9⟩) rfl rfl (tyJ0_ok 0 (by decide)) ⟨_, rfl⟩ eS1 dJ0_init_db425_35 (fun H locs hw => ?_)
    have hc := hc.up (sd_pi_m eS1)
    refine lv_goto (tgt := 97) X.1 X.2.1 dJ0_init_db425_38 (by decide) ?_
    exact hret _ _ _ _ _ _ _ _ hf ⟨hE, hw, hc⟩ dJ0_init_db425_97
  have B19 : ∀ (x4 : Int32) (t0 : Int32) (E : si_Ev) (S : si_St) (H : Heap) (locs : List Loc) (ls : Array Slot) (cs ss : Nat), f_J0_init_db425_h19 F x4 t0 S = some o → sd_EE al_J0_init_db425 E0 E → si_Cx p s m args c cJ0_init_db425 5 yJ0_init_db425.cls E A → si_Ws E A s.heap S H locs → sd_Ct S0 S cs ss → lv_has ls 5 [(0, .ref (E.2.1 89)), (3, .ref (E.2.1 88)), (4, .int x4)] → W p l e (sd_R fr_J0_init_db425 lo_J0_init_db425 S0 o) s m args below meth c H locs cs ss Q (F0 m 19 ls [.int t0]) := by
    intro x4 t0  E S H locs ls cs ss hf hE X hw hc hl
    have hcs := sd_room hc (mo_J0_init_db425_h19 F _ _ _ _ hf) hR
    unfold f_J0_init_db425_h19 at hf
    refine lv_if_eq (tgt := 41) X.1 X.2.1 dJ0_init_db425_19 (by decide) (fun c19 => ?_) (fun c19 => ?_)
    · have hf := si_ip c19 hf
      cases hf
    · have hf := si_in c19 hf
      refine lv_aload_n X.1 X.2.1 dJ0_init_db425_22 rfl (lv_at hl 0 rfl) ?_
      refine lv_iconst (v := 0) X.1 X.2.1 dJ0_init_db425_23 (by decide) ?_
      obtain ⟨S2, eS2, hf⟩ := si_ob hf
      refine sd_putI X hw sd_cl21 1 (by decide) (Or.inl gf_RJ0_15) rfl (Or.inr ⟨rfl, hin, rfl, gf_RJ0_15⟩) rfl rfl (tyJ0_ok 1 (by decide)) rfl rfl eS2 dJ0_init_db425_24 (fun H locs hw => ?_)
      have hc := hc.up (sd_pi_m eS2)
      refine lv_aload_n X.1 X.2.1 dJ0_init_db425_27 rfl (lv_at hl 0 rfl) ?_
      refine lv_aload_n X.1 X.2.1 dJ0_init_db425_28 rfl (lv_at hl 1 rfl) ?_
      refine lv_iconst (v := 0) X.1 X.2.1 dJ0_init_db425_29 (by decide) ?_
      refine lv_iload X.1 X.2.1 dJ0_init_db425_30 (lv_at hl 2 rfl) ?_
      obtain ⟨S3, eS3, hf⟩ := si_ob hf
      refine sd_gor (sd_runS (As := [.ref (E.2.1 88), .int 0, .int x4]) (rest := [.ref (E.2.1 89)]) cal_J7_copyOfRange_39247 gm_RJ0_54 X hw hA hl.1 ((c_J7_copyOfRange_39247 l E F 0 x4 S2 S3 eS3) H.size) ⟨Nat.le_of_ble_eq_true rfl, Nat.le_of_ble_eq_true rfl⟩ rfl (Nat.le_of_ble_eq_true rfl) (sd_room2 hc (mo_J7_copyOfRange_39247 F 0 x4 S2 S3 eS3) (mo_J0_init_db425_h35 F _ _ hf) hR) dJ0_init_db425_32) X hw hA hE hc (mo_J7_copyOfRange_39247 F 0 x4 S2 S3 eS3) (sd_als_J0_init_db425_J7_copyOfRange_39247) (fun E H locs cs ss hZ hE X hw hc => ?_)
      rw [← hZ.at 89 rfl] at hl
      rw [← hZ.at 88 rfl] at hl
      rw [← hZ.at 89 rfl]
      exact B35 _ _ _ _ _ _ _ hf hE X hw hc (lv_sub hl [] rfl)
  have B13 : ∀ (t0 : Int32) (E : si_Ev) (S : si_St) (H : Heap) (locs : List Loc) (ls : Array Slot) (cs ss : Nat), f_J0_init_db425_h13 F t0 S = some o → sd_EE al_J0_init_db425 E0 E → si_Cx p s m args c cJ0_init_db425 5 yJ0_init_db425.cls E A → si_Ws E A s.heap S H locs → sd_Ct S0 S cs ss → lv_has ls 5 [(0, .ref (E.2.1 89)), (1, .ref (E.2.1 87)), (3, .ref (E.2.1 88))] → W p l e (sd_R fr_J0_init_db425 lo_J0_init_db425 S0 o) s m args below meth c H locs cs ss Q (F0 m 13 ls [.int t0]) := by
    intro t0  E S H locs ls cs ss hf hE X hw hc hl
    have hcs := sd_room hc (mo_J0_init_db425_h13 F _ _ _ hf) hR
    unfold f_J0_init_db425_h13 at hf
    refine lv_istore (lv' := [(4, .int t0), (0, .ref (E.2.1 89)), (1, .ref (E.2.1 87)), (3, .ref (E.2.1 88))]) X.1 X.2.1 dJ0_init_db425_13 hl (by decide) rfl (fun ls hl => ?_)
    refine lv_aload_n X.1 X.2.1 dJ0_init_db425_15 rfl (lv_at hl 2 rfl) ?_
    have hok16 : sd_ok S 87 := Decidable.byContradiction fun h9 => by rw [if_pos h9] at hf; cases hf
    have hf := si_in (not_not_intro hok16) hf
    obtain ⟨q4, eq4, hf⟩ := si_ob hf
    refine sd_goi (sd_runU (As := []) (rest := []) sd_cl20 rfl hok16 cu_J5_isLatin1_aae02_J5_isLatin1_aae02 gm_RJ0_1047 X hw hA hl.1 ((c_J5_isLatin1_aae02 l E F S q4 eq4) H.size) ⟨Nat.le_of_ble_eq_true rfl, Nat.le_of_ble_eq_true rfl⟩ rfl (Nat.le_of_ble_eq_true rfl) (sd_room2 hc (mo_J5_isLatin1_aae02 F S q4 eq4) (mo_J0_init_db425_h19 F _ _ _ _ hf) hR) dJ0_init_db425_16) X hw hA hE hc (mo_J5_isLatin1_aae02 F S q4 eq4) (fun _ _ => rfl) (fun E H locs cs ss hZ hE X hw hc => ?_)
    rw [← hZ.at 89 rfl] at hl
    rw [← hZ.at 87 rfl] at hl
    rw [← hZ.at 88 rfl] at hl
    exact B19 _ _ _ _ _ _ _ _ _ hf hE X hw hc (lv_sub hl [1, 3, 0] rfl)
  have B8 : ∀ (E : si_Ev) (S : si_St) (H : Heap) (locs : List Loc) (ls : Array Slot) (cs ss : Nat), f_J0_init_db425_h8 F S = some o → sd_EE al_J0_init_db425 E0 E → si_Cx p s m args c cJ0_init_db425 5 yJ0_init_db425.cls E A → si_Ws E A s.heap S H locs → sd_Ct S0 S cs ss → lv_has ls 5 [(0, .ref (E.2.1 89)), (1, .ref (E.2.1 87))] → W p l e (sd_R fr_J0_init_db425 lo_J0_init_db425 S0 o) s m args below meth c H locs cs ss Q (F0 m 8 ls [.ref (E.2.1 88)]) := by
    intro   E S H locs ls cs ss hf hE X hw hc hl
    have hcs := sd_room hc (mo_J0_init_db425_h8 F _ _ hf) hR
    unfold f_J0_init_db425_h8 at hf
    refine lv_astore_n (lv' := [(3, .ref (E.2.1 88)), (0, .ref (E.2.1 89)), (1, .ref (E.2.1 87))]) X.1 X.2.1 dJ0_init_db425_8 rfl hl (by decide) rfl (fun ls hl => ?_)
    refine lv_aload_n X.1 X.2.1 dJ0_init_db425_9 rfl (lv_at hl 2 rfl) ?_
    have hok10 : sd_ok S 87 := Decidable.byContradiction fun h9 => by rw [if_pos h9] at hf; cases hf
    have hf := si_in (not_not_intro hok10) hf
    obtain ⟨q5, eq5, hf⟩ := si_ob hf
    refine sd_goi (sd_runU (As := []) (rest := []) sd_cl20 rfl hok10 cu_J5_length_8abf5_J4_length_8abf5 gm_RJ0_549 X hw hA hl.1 ((c_J4_length_8abf5 l E F S q5 eq5) H.size) ⟨Nat.le_of_ble_eq_true rfl, Nat.le_of_ble_eq_true rfl⟩ rfl (Nat.le_of_ble_eq_true rfl) (sd_room2 hc (mo_J4_length_8abf5 F S q5 eq5) (mo_J0_init_db425_h13 F _ _ _ hf) hR) dJ0_init_db425_10) X hw hA hE hc (mo_J4_length_8abf5 F S q5 eq5) (fun _ _ => rfl) (fun E H locs cs ss hZ hE X hw hc => ?_)
    rw [← hZ.at 88 rfl] at hl
    rw [← hZ.at 89 rfl] at hl
    rw [← hZ.at 87 rfl] at hl
    exact B13 _ _ _ _ _ _ _ _ hf hE X hw hc (lv_sub hl [1, 2, 0] rfl)
  have B0 : ∀ (E : si_Ev) (S : si_St) (H : Heap) (locs : List Loc) (ls : Array Slot) (cs ss : Nat), f_J0_init_db425_h0 F S = some o → sd_EE al_J0_init_db425 E0 E → si_Cx p s m args c cJ0_init_db425 5 yJ0_init_db425.cls E A → si_Ws E A s.heap S H locs → sd_Ct S0 S cs ss → lv_has ls 5 [(0, .ref (E.2.1 89)), (1, .ref (E.2.1 87))] → W p l e (sd_R fr_J0_init_db425 lo_J0_init_db425 S0 o) s m args below meth c H locs cs ss Q (F0 m 0 ls []) := by
    intro   E S H locs ls cs ss hf hE X hw hc hl
    have hcs := sd_room hc (mo_J0_init_db425_h0 F _ _ hf) hR
    unfold f_J0_init_db425_h0 at hf
    refine lv_aload_n X.1 X.2.1 dJ0_init_db425_0 rfl (lv_at hl 0 rfl) ?_
    refine sd_objI X hl.1 gm_RJ0_1 gn_obj gc_obj (Nat.le_of_ble_eq_true rfl) (Nat.le_of_ble_eq_true rfl) dJ0_init_db425_1 ?_
    refine lv_aload_n X.1 X.2.1 dJ0_init_db425_4 rfl (lv_at hl 1 rfl) ?_
    have hok5 : sd_ok S 87 := Decidable.byContradiction fun h9 => by rw [if_pos h9] at hf; cases hf
    have hf := si_in (not_not_intro hok5) hf
    obtain ⟨S6, eS6, hf⟩ := si_ob hf
    refine sd_gor (sd_runU (As := []) (rest := []) sd_cl20 rfl hok5 cu_J5_getValue_6d5f1_J5_getValue_6d5f1 gm_RJ0_552 X hw hA hl.1 ((c_J5_getValue_6d5f1 l E F S S6 eS6) H.size) ⟨Nat.le_of_ble_eq_true rfl, Nat.le_of_ble_eq_true rfl⟩ rfl (Nat.le_of_ble_eq_true rfl) (sd_room2 hc (mo_J5_getValue_6d5f1 F S S6 eS6) (mo_J0_init_db425_h8 F _ _ hf) hR) dJ0_init_db425_5) X hw hA hE hc (mo_J5_getValue_6d5f1 F S S6 eS6) (fun _ _ => rfl) (fun E H locs cs ss hZ hE X hw hc => ?_)
    rw [← hZ.at 89 rfl] at hl
    rw [← hZ.at 87 rfl] at hl
    exact B8 _ _ _ _ _ _ _ hf hE X hw hc (lv_sub hl [0, 1] rfl)
  unfold f_J0_init_db425 at hf
  exact B0 _ _ _ _ _ _ _ hf hE X hw hc (lv_sub hl [0, 1] rfl)
def al_J0_init_81219 : Nat → Bool := fun a => decide (a = 90)
theorem sd_als_J0_init_81219_J0_init_db425 : ∀ k, al_J0_init_81219 k = false → al_J0_init_db425 k = false := by
  intro k h
  simp only [al_J0_init_81219, al_J0_init_db425, decide_eq_false_iff_not] at h ⊢
  omega
def f_J0_init_81219_h6 (F : Nat) (S : si_St) : Option (si_St) :=
  some S
def f_J0_init_81219_h0 (F : Nat) (S : si_St) : Option (si_St) :=
  Option.bind (f_J0_init_db425 F S) fun S1 => f_J0_init_81219_h6 F S1
def f_J0_init_81219 (F : Nat) (S : si_St) : Option (si_St) :=
  f_J0_init_81219_h0 F S
theorem mo_J0_init_81219_h6 (F : Nat) (S : si_St) (o : si_St) (h : f_J0_init_81219_h6 F S = some o) : sd_le S o := by
  have g : sd_le S S := sd_le.rf
  unfold f_J0_init_81219_h6 at h
  obtain rfl := Option.some.inj h
  exact g
theorem mo_J0_init_81219_h0 (F : Nat) (S : si_St) (o : si_St) (h : f_J0_init_81219_h0 F S = some o) : sd_le S o := by
  have g : sd_le S S := sd_le.rf
  unfold f_J0_init_81219_h0 at h
  obtain ⟨S1, eS1, h⟩ := si_ob h
  have g := g.tr (mo_J0_init_db425 F S S1 eS1)
  exact g.tr (mo_J0_init_81219_h6 F _ _ h)
theorem mo_J0_init_81219 (F : Nat) (S : si_St) (o : si_St) (h : f_J0_init_81219 F S = some o) : sd_le S o := by
  have g : sd_le S S := sd_le.rf
  unfold f_J0_init_81219 at h
  exact g.tr (mo_J0_init_81219_h0 F _ _ h)
abbrev fr_J0_init_81219 : Nat := 4
abbrev lo_J0_init_81219 : Nat := 110
set_option maxHeartbeats 4000000 in
set_option maxRecDepth 100000 in
theorem c_J0_init_81219 (l : Launch) (E0 : si_Ev) (F : Nat) (S0 : si_St) (o : si_St) (hf : f_J0_init_81219 F S0 = some o) : sd_Mv l al_J0_init_81219 E0 yJ0_init_81219 cJ0_init_81219 2 fr_J0_init_81219 lo_J0_init_81219 [.ref (E0.2.1 89), .ref (E0.2.1 87)] S0 o := by
  refine sd_ofWv (plainFor_of_name (by decide +kernel)) (Nat.le_of_ble_eq_true rfl) ?_
  intro p e s m args below meth c ls Q A X hmn hw hA hl hret
  have hin : meth.name = "<init>" := hmn
  have hl : lv_has ls 2 [(0, .ref (E0.2.1 89)), (1, .ref (E0.2.1 87))] := hl
  have hR : sd_RR (sd_R fr_J0_init_81219 lo_J0_init_81219 S0 o) S0 o := ⟨Nat.le_refl _, Nat.le_refl _⟩
  have hE : sd_EE al_J0_init_81219 E0 E0 := sd_EE.rf
  have hc : sd_Ct S0 S0 0 0 := ⟨Nat.le_refl _, Nat.le_refl _⟩
  have B6 : ∀ (E : si_Ev) (S : si_St) (H : Heap) (locs : List Loc) (ls : Array Slot) (cs ss : Nat), f_J0_init_81219_h6 F S = some o → sd_EE al_J0_init_81219 E0 E → si_Cx p s m args c cJ0_init_81219 2 yJ0_init_81219.cls E A → si_Ws E A s.heap S H locs → sd_Ct S0 S cs ss → lv_has ls 2 [] → W p l e (sd_R fr_J0_init_81219 lo_J0_init_81219 S0 o) s m args below meth c H locs cs ss Q (F0 m 6 ls []) := by
    intro   E S H locs ls cs ss hf hE X hw hc hl
    have hcs := sd_room hc (mo_J0_init_81219_h6 F _ _ hf) hR
    unfold f_J0_init_81219_h6 at hf
    exact hret _ _ _ _ _ _ _ _ hf ⟨hE, hw, hc⟩ dJ0_init_81219_6
  have B0 : ∀ (E : si_Ev) (S : si_St) (H : Heap) (locs : List Loc) (ls : Array Slot) (cs ss : Nat), f_J0_init_81219_h0 F S = some o → sd_EE al_J0_init_81219 E0 E → si_Cx p s m args c cJ0_init_81219 2 yJ0_init_81219.cls E A → si_Ws E A s.heap S H locs → sd_Ct S0 S cs ss → lv_has ls 2 [(0, .ref (E.2.1 89)), (1, .ref (E.2.1 87))] → W p l e (sd_R fr_J0_init_81219 lo_J0_init_81219 S0 o) s m args below meth c H locs cs ss Q (F0 m 0 ls []) := by
    intro   E S H locs ls cs ss hf hE X hw hc hl
    have hcs := sd_room hc (mo_J0_init_81219_h0 F _ _ hf) hR
    unfold f_J0_init_81219_h0 at hf
    refine lv_aload_n X.1 X.2.1 dJ0_init_81219_0 rfl (lv_at hl 0 rfl) ?_
    refine lv_aload_n X.1 X.2.1 dJ0_init_81219_1 rfl (lv_at hl 1 rfl) ?_
    refine lv_null X.1 X.2.1 dJ0_init_81219_2 ?_
    obtain ⟨S1, eS1, hf⟩ := si_ob hf
    refine sd_gov (sd_runI (As := [.ref (E.2.1 87), .null]) (rest := []) (k := 89) c0_J0_init_db425 gn_J0_init_db425 rfl gm_RJ0_489 X hw hA hl.1 ((c_J0_init_db425 l E F S S1 eS1) H.size) ⟨Nat.le_of_ble_eq_true rfl, Nat.le_of_ble_eq_true rfl⟩ rfl (Nat.le_of_ble_eq_true rfl) (sd_room2 hc (mo_J0_init_db425 F S S1 eS1) (mo_J0_init_81219_h6 F _ _ hf) hR) dJ0_init_81219_3) X hw hA hE hc (mo_J0_init_db425 F S S1 eS1) (sd_als_J0_init_81219_J0_init_db425) (fun E H locs cs ss hZ hE X hw hc => ?_)
    rw [← hZ.at 89 rfl] at hl
    rw [← hZ.at 87 rfl] at hl
    exact B6 _ _ _ _ _ _ _ hf hE X hw hc (lv_sub hl [] rfl)
  unfold f_J0_init_81219 at hf
  exact B0 _ _ _ _ _ _ _ hf hE X hw hc (lv_sub hl [0, 1] rfl)
def al_J4_toString_0e30d : Nat → Bool := fun a => decide (a = 89 ∨ a = 90)
theorem sd_als_J4_toString_0e30d_J0_init_81219 : ∀ k, al_J4_toString_0e30d k = false → al_J0_init_81219 k = false := by
  intro k h
  simp only [al_J4_toString_0e30d, al_J0_init_81219, decide_eq_false_iff_not] at h ⊢
  omega
def f_J4_toString_0e30d_h8 (F : Nat) (S : si_St) : Option (si_St) :=
  some S
def f_J4_toString_0e30d_h3 (F : Nat) (S : si_St) : Option (si_St) :=
  Option.bind (f_J0_init_81219 F S) fun S1 => f_J4_toString_0e30d_h8 F S1
def f_J4_toString_0e30d_h0 (F : Nat) (S : si_St) : Option (si_St) :=
  Option.bind (sd_no S 89 4) fun S2 => f_J4_toString_0e30d_h3 F S2
def f_J4_toString_0e30d (F : Nat) (S : si_St) : Option (si_St) :=
  f_J4_toString_0e30d_h0 F S
theorem mo_J4_toString_0e30d_h8 (F : Nat) (S : si_St) (o : si_St) (h : f_J4_toString_0e30d_h8 F S = some o) : sd_le S o := by
  have g : sd_le S S := sd_le.rf
  unfold f_J4_toString_0e30d_h8 at h
  obtain rfl := Option.some.inj h
  exact g
theorem mo_J4_toString_0e30d_h3 (F : Nat) (S : si_St) (o : si_St) (h : f_J4_toString_0e30d_h3 F S = some o) : sd_le S o := by
  have g : sd_le S S := sd_le.rf
  unfold f_J4_toString_0e30d_h3 at h
  obtain ⟨S1, eS1, h⟩ := si_ob h
  have g := g.tr (mo_J0_init_81219 F S S1 eS1)
  exact g.tr (mo_J4_toString_0e30d_h8 F _ _ h)
theorem mo_J4_toString_0e30d_h0 (F : Nat) (S : si_St) (o : si_St) (h : f_J4_toString_0e30d_h0 F S = some o) : sd_le S o := by
  have g : sd_le S S := sd_le.rf
  unfold f_J4_toString_0e30d_h0 at h
  obtain ⟨S2, eS2, h⟩ := si_ob h
  have g := g.tr (sd_no_m eS2)
  exact g.tr (mo_J4_toString_0e30d_h3 F _ _ h)
theorem mo_J4_toString_0e30d (F : Nat) (S : si_St) (o : si_St) (h : f_J4_toString_0e30d F S = some o) : sd_le S o := by
  have g : sd_le S S := sd_le.rf
  unfold f_J4_toString_0e30d at h
  exact g.tr (mo_J4_toString_0e30d_h0 F _ _ h)
abbrev fr_J4_toString_0e30d : Nat := 5
abbrev lo_J4_toString_0e30d : Nat := 131
set_option maxHeartbeats 4000000 in
set_option maxRecDepth 100000 in
theorem c_J4_toString_0e30d (l : Launch) (E0 : si_Ev) (F : Nat) (S0 : si_St) (o : si_St) (hf : f_J4_toString_0e30d F S0 = some o) : sd_Mr l al_J4_toString_0e30d E0 yJ4_toString_0e30d cJ4_toString_0e30d 1 (some (.object "java/lang/String")) fr_J4_toString_0e30d lo_J4_toString_0e30d [.ref (E0.2.1 87)] S0 89 o := by
  refine sd_ofWr (Or.inl ⟨_, rfl⟩) (plainFor_of_name (by decide +kernel)) (Nat.le_of_ble_eq_true rfl) ?_
  intro p e s m args below meth c ls Q A X hmn hw hA hl hret
  have hl : lv_has ls 1 [(0, .ref (E0.2.1 87))] := hl
  have hR : sd_RR (sd_R fr_J4_toString_0e30d lo_J4_toString_0e30d S0 o) S0 o := ⟨Nat.le_refl _, Nat.le_refl _⟩
  have hE : sd_EE al_J4_toString_0e30d E0 E0 := sd_EE.rf
  have hc : sd_Ct S0 S0 0 0 := ⟨Nat.le_refl _, Nat.le_refl _⟩
  have B8 : ∀ (E : si_Ev) (S : si_St) (H : Heap) (locs : List Loc) (ls : Array Slot) (cs ss : Nat), f_J4_toString_0e30d_h8 F S = some o → sd_EE al_J4_toString_0e30d E0 E → si_Cx p s m args c cJ4_toString_0e30d 1 yJ4_toString_0e30d.cls E A → si_Ws E A s.heap S H locs → sd_Ct S0 S cs ss → lv_has ls 1 [] → W p l e (sd_R fr_J4_toString_0e30d lo_J4_toString_0e30d S0 o) s m args below meth c H locs cs ss Q (F0 m 8 ls [.ref (E.2.1 89)]) := by
    intro   E S H locs ls cs ss hf hE X hw hc hl
    have hcs := sd_room hc (mo_J4_toString_0e30d_h8 F _ _ hf) hR
    unfold f_J4_toString_0e30d_h8 at hf
    exact hret _ _ _ _ _ _ _ _ hf ⟨hE, hw, hc⟩ dJ4_toString_0e30d_8
  have B3 : ∀ (E : si_Ev) (S : si_St) (H : Heap) (locs : List Loc) (ls : Array Slot) (cs ss : Nat), f_J4_toString_0e30d_h3 F S = some o → sd_EE al_J4_toString_0e30d E0 E → si_Cx p s m args c cJ4_toString_0e30d 1 yJ4_toString_0e30d.cls E A → si_Ws E A s.heap S H locs → sd_Ct S0 S cs ss → lv_has ls 1 [(0, .ref (E.2.1 87))] → W p l e (sd_R fr_J4_toString_0e30d lo_J4_toString_0e30d S0 o) s m args below meth c H locs cs ss Q (F0 m 3 ls [.ref (E.2.1 89)]) := by
    intro   E S H locs ls cs ss hf hE X hw hc hl
    have hcs := sd_room hc (mo_J4_toString_0e30d_h3 F _ _ hf) hR
    unfold f_J4_toString_0e30d_h3 at hf
    refine lv_dup X.1 X.2.1 dJ4_toString_0e30d_3 rfl ?_
    refine lv_aload_n X.1 X.2.1 dJ4_toString_0e30d_4 rfl (lv_at hl 0 rfl) ?_
    obtain ⟨S1, eS1, hf⟩ := si_ob hf
    refine sd_gov (sd_runI (As := [.ref (E.2.1 87)]) (rest := [.ref (E.2.1 89)]) (k := 89) c0_J0_init_81219 gn_J0_init_81219 rfl gm_RJ4_137 X hw hA hl.1 ((c_J0_init_81219 l E F S S1 eS1) H.size) ⟨Nat.le_of_ble_eq_true rfl, Nat.le_of_ble_eq_true rfl⟩ rfl (Nat.le_of_ble_eq_true rfl) (sd_room2 hc (mo_J0_init_81219 F S S1 eS1) (mo_J4_toString_0e30d_h8 F _ _ hf) hR) dJ4_toString_0e30d_5) X hw hA hE hc (mo_J0_init_81219 F S S1 eS1) (sd_als_J4_toString_0e30d_J0_init_81219) (fun E H locs cs ss hZ hE X hw hc => ?_)
    rw [← hZ.at 87 rfl] at hl
    rw [← hZ.at 89 rfl]
    exact B8 _ _ _ _ _ _ _ hf hE X hw hc (lv_sub hl [] rfl)
  have B0 : ∀ (E : si_Ev) (S : si_St) (H : Heap) (locs : List Loc) (ls : Array Slot) (cs ss : Nat), f_J4_toString_0e30d_h0 F S = some o → sd_EE al_J4_toString_0e30d E0 E → si_Cx p s m args c cJ4_toString_0e30d 1 yJ4_toString_0e30d.cls E A → si_Ws E A s.heap S H locs → sd_Ct S0 S cs ss → lv_has ls 1 [(0, .ref (E.2.1 87))] → W p l e (sd_R fr_J4_toString_0e30d lo_J4_toString_0e30d S0 o) s m args below meth c H locs cs ss Q (F0 m 0 ls []) := by
    intro   E S H locs ls cs ss hf hE X hw hc hl
    have hcs := sd_room hc (mo_J4_toString_0e30d_h0 F _ _ hf) hR
    unfold f_J4_toString_0e30d_h0 at hf
    obtain ⟨S2, eS2, hf⟩ := si_ob hf
    refine sd_newO X hw hA hE hc hR sd_cl21 tyJ0 tyJ0_ok gq_RJ4_18 gz_d21 gi_RJ0 sd_zv21 rfl rfl eS2 (mo_J4_toString_0e30d_h3 F _ _ hf) dJ4_toString_0e30d_0 (fun E H cs ss hZ hE X hw hc => ?_)
    rw [← hZ.at 87 rfl] at hl
    exact B3 _ _ _ _ _ _ _ hf hE X hw hc (lv_sub hl [0] rfl)
  unfold f_J4_toString_0e30d at hf
  exact B0 _ _ _ _ _ _ _ hf hE X hw hc (lv_sub hl [0] rfl)
