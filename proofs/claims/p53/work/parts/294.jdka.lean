theorem dJ5_isLatin1_aae02_0 : decode cJ5_isLatin1_aae02 0 = .ok (.getstatic 18, 3) := by decide +kernel
theorem dJ5_isLatin1_aae02_3 : decode cJ5_isLatin1_aae02 3 = .ok (.ifCond .eq 14, 3) := by decide +kernel
theorem dJ5_isLatin1_aae02_6 : decode cJ5_isLatin1_aae02 6 = .ok (.aload_n 0, 1) := by decide +kernel
theorem dJ5_isLatin1_aae02_7 : decode cJ5_isLatin1_aae02 7 = .ok (.getfield 22, 3) := by decide +kernel
theorem dJ5_isLatin1_aae02_10 : decode cJ5_isLatin1_aae02 10 = .ok (.ifCond .ne 7, 3) := by decide +kernel
theorem dJ5_isLatin1_aae02_13 : decode cJ5_isLatin1_aae02 13 = .ok (.iconst 1, 1) := by decide +kernel
theorem dJ5_isLatin1_aae02_14 : decode cJ5_isLatin1_aae02 14 = .ok (.goto 4, 3) := by decide +kernel
theorem dJ5_isLatin1_aae02_17 : decode cJ5_isLatin1_aae02 17 = .ok (.iconst 0, 1) := by decide +kernel
theorem dJ5_isLatin1_aae02_18 : decode cJ5_isLatin1_aae02 18 = .ok (.ireturn, 1) := by decide +kernel
theorem dJ5_length_8abf5_0 : decode cJ5_length_8abf5 0 = .ok (.aload_n 0, 1) := by decide +kernel
theorem dJ5_length_8abf5_1 : decode cJ5_length_8abf5 1 = .ok (.getfield 79, 3) := by decide +kernel
theorem dJ5_length_8abf5_4 : decode cJ5_length_8abf5 4 = .ok (.ireturn, 1) := by decide +kernel
theorem dJ4_length_8abf5_0 : decode cJ4_length_8abf5 0 = .ok (.aload_n 0, 1) := by decide +kernel
theorem dJ4_length_8abf5_1 : decode cJ4_length_8abf5 1 = .ok (.invokespecial 343, 3) := by decide +kernel
theorem dJ4_length_8abf5_4 : decode cJ4_length_8abf5 4 = .ok (.ireturn, 1) := by decide +kernel
theorem dJ5_getValue_6d5f1_0 : decode cJ5_getValue_6d5f1 0 = .ok (.aload_n 0, 1) := by decide +kernel
theorem dJ5_getValue_6d5f1_1 : decode cJ5_getValue_6d5f1 1 = .ok (.getfield 15, 3) := by decide +kernel
theorem dJ5_getValue_6d5f1_4 : decode cJ5_getValue_6d5f1 4 = .ok (.areturn, 1) := by decide +kernel
theorem dJ8_newLength_cabcc_0 : decode cJ8_newLength_cabcc 0 = .ok (.iload_n 0, 1) := by decide +kernel
theorem dJ8_newLength_cabcc_1 : decode cJ8_newLength_cabcc 1 = .ok (.iload_n 1, 1) := by decide +kernel
theorem dJ8_newLength_cabcc_2 : decode cJ8_newLength_cabcc 2 = .ok (.iload_n 2, 1) := by decide +kernel
theorem dJ8_newLength_cabcc_3 : decode cJ8_newLength_cabcc 3 = .ok (.invokestatic 194, 3) := by decide +kernel
theorem dJ8_newLength_cabcc_6 : decode cJ8_newLength_cabcc 6 = .ok (.iadd, 1) := by decide +kernel
theorem dJ8_newLength_cabcc_7 : decode cJ8_newLength_cabcc 7 = .ok (.istore_n 3, 1) := by decide +kernel
theorem dJ8_newLength_cabcc_8 : decode cJ8_newLength_cabcc 8 = .ok (.iconst 0, 1) := by decide +kernel
theorem dJ8_newLength_cabcc_9 : decode cJ8_newLength_cabcc 9 = .ok (.iload_n 3, 1) := by decide +kernel
theorem dJ8_newLength_cabcc_10 : decode cJ8_newLength_cabcc 10 = .ok (.if_icmp .ge 11, 3) := by decide +kernel
theorem dJ8_newLength_cabcc_13 : decode cJ8_newLength_cabcc 13 = .ok (.iload_n 3, 1) := by decide +kernel
theorem dJ8_newLength_cabcc_14 : decode cJ8_newLength_cabcc 14 = .ok (.ldc 200, 2) := by decide +kernel
theorem dJ8_newLength_cabcc_16 : decode cJ8_newLength_cabcc 16 = .ok (.if_icmp .gt 5, 3) := by decide +kernel
theorem dJ8_newLength_cabcc_19 : decode cJ8_newLength_cabcc 19 = .ok (.iload_n 3, 1) := by decide +kernel
theorem dJ8_newLength_cabcc_20 : decode cJ8_newLength_cabcc 20 = .ok (.ireturn, 1) := by decide +kernel
theorem dJ8_newLength_cabcc_21 : decode cJ8_newLength_cabcc 21 = .ok (.iload_n 0, 1) := by decide +kernel
theorem dJ8_newLength_cabcc_22 : decode cJ8_newLength_cabcc 22 = .ok (.iload_n 1, 1) := by decide +kernel
theorem dJ8_newLength_cabcc_23 : decode cJ8_newLength_cabcc 23 = .ok (.invokestatic 201, 3) := by decide +kernel
theorem dJ8_newLength_cabcc_26 : decode cJ8_newLength_cabcc 26 = .ok (.ireturn, 1) := by decide +kernel
theorem dJ5_newCapacity_0f7a4_0 : decode cJ5_newCapacity_0f7a4 0 = .ok (.aload_n 0, 1) := by decide +kernel
theorem dJ5_newCapacity_0f7a4_1 : decode cJ5_newCapacity_0f7a4 1 = .ok (.getfield 15, 3) := by decide +kernel
theorem dJ5_newCapacity_0f7a4_4 : decode cJ5_newCapacity_0f7a4 4 = .ok (.arraylength, 1) := by decide +kernel
theorem dJ5_newCapacity_0f7a4_5 : decode cJ5_newCapacity_0f7a4 5 = .ok (.istore_n 2, 1) := by decide +kernel
theorem dJ5_newCapacity_0f7a4_6 : decode cJ5_newCapacity_0f7a4 6 = .ok (.iload_n 1, 1) := by decide +kernel
theorem dJ5_newCapacity_0f7a4_7 : decode cJ5_newCapacity_0f7a4 7 = .ok (.aload_n 0, 1) := by decide +kernel
theorem dJ5_newCapacity_0f7a4_8 : decode cJ5_newCapacity_0f7a4 8 = .ok (.getfield 22, 3) := by decide +kernel
theorem dJ5_newCapacity_0f7a4_11 : decode cJ5_newCapacity_0f7a4 11 = .ok (.ishl, 1) := by decide +kernel
theorem dJ5_newCapacity_0f7a4_12 : decode cJ5_newCapacity_0f7a4 12 = .ok (.istore_n 3, 1) := by decide +kernel
theorem dJ5_newCapacity_0f7a4_13 : decode cJ5_newCapacity_0f7a4 13 = .ok (.iload_n 3, 1) := by decide +kernel
theorem dJ5_newCapacity_0f7a4_14 : decode cJ5_newCapacity_0f7a4 14 = .ok (.iload_n 2, 1) := by decide +kernel
theorem dJ5_newCapacity_0f7a4_15 : decode cJ5_newCapacity_0f7a4 15 = .ok (.isub, 1) := by decide +kernel
theorem dJ5_newCapacity_0f7a4_16 : decode cJ5_newCapacity_0f7a4 16 = .ok (.istore 4, 2) := by decide +kernel
theorem dJ5_newCapacity_0f7a4_18 : decode cJ5_newCapacity_0f7a4 18 = .ok (.iload_n 2, 1) := by decide +kernel
theorem dJ5_newCapacity_0f7a4_19 : decode cJ5_newCapacity_0f7a4 19 = .ok (.iload 4, 2) := by decide +kernel
theorem dJ5_newCapacity_0f7a4_21 : decode cJ5_newCapacity_0f7a4 21 = .ok (.iload_n 2, 1) := by decide +kernel
theorem dJ5_newCapacity_0f7a4_22 : decode cJ5_newCapacity_0f7a4 22 = .ok (.iconst 2, 1) := by decide +kernel
theorem dJ5_newCapacity_0f7a4_23 : decode cJ5_newCapacity_0f7a4 23 = .ok (.aload_n 0, 1) := by decide +kernel
theorem dJ5_newCapacity_0f7a4_24 : decode cJ5_newCapacity_0f7a4 24 = .ok (.getfield 22, 3) := by decide +kernel
theorem dJ5_newCapacity_0f7a4_27 : decode cJ5_newCapacity_0f7a4 27 = .ok (.ishl, 1) := by decide +kernel
theorem dJ5_newCapacity_0f7a4_28 : decode cJ5_newCapacity_0f7a4 28 = .ok (.iadd, 1) := by decide +kernel
theorem dJ5_newCapacity_0f7a4_29 : decode cJ5_newCapacity_0f7a4 29 = .ok (.invokestatic 114, 3) := by decide +kernel
theorem dJ5_newCapacity_0f7a4_32 : decode cJ5_newCapacity_0f7a4 32 = .ok (.istore 5, 2) := by decide +kernel
theorem dJ5_newCapacity_0f7a4_34 : decode cJ5_newCapacity_0f7a4 34 = .ok (.iload 5, 2) := by decide +kernel
theorem dJ5_newCapacity_0f7a4_36 : decode cJ5_newCapacity_0f7a4 36 = .ok (.ldc 39, 2) := by decide +kernel
theorem dJ5_newCapacity_0f7a4_38 : decode cJ5_newCapacity_0f7a4 38 = .ok (.if_icmp .ne 13, 3) := by decide +kernel
theorem dJ5_newCapacity_0f7a4_41 : decode cJ5_newCapacity_0f7a4 41 = .ok (.new 120, 3) := by decide +kernel
theorem dJ5_newCapacity_0f7a4_44 : decode cJ5_newCapacity_0f7a4 44 = .ok (.dup, 1) := by decide +kernel
theorem dJ5_newCapacity_0f7a4_45 : decode cJ5_newCapacity_0f7a4 45 = .ok (.ldc 122, 2) := by decide +kernel
theorem dJ5_newCapacity_0f7a4_47 : decode cJ5_newCapacity_0f7a4 47 = .ok (.invokespecial 124, 3) := by decide +kernel
theorem dJ5_newCapacity_0f7a4_50 : decode cJ5_newCapacity_0f7a4 50 = .ok (.athrow, 1) := by decide +kernel
theorem dJ5_newCapacity_0f7a4_51 : decode cJ5_newCapacity_0f7a4 51 = .ok (.iload 5, 2) := by decide +kernel
theorem dJ5_newCapacity_0f7a4_53 : decode cJ5_newCapacity_0f7a4 53 = .ok (.aload_n 0, 1) := by decide +kernel
theorem dJ5_newCapacity_0f7a4_54 : decode cJ5_newCapacity_0f7a4 54 = .ok (.getfield 22, 3) := by decide +kernel
theorem dJ5_newCapacity_0f7a4_57 : decode cJ5_newCapacity_0f7a4 57 = .ok (.ishr, 1) := by decide +kernel
theorem dJ5_newCapacity_0f7a4_58 : decode cJ5_newCapacity_0f7a4 58 = .ok (.ireturn, 1) := by decide +kernel
theorem dJ7_copyOf_9075b_0 : decode cJ7_copyOf_9075b 0 = .ok (.iload_n 1, 1) := by decide +kernel
theorem dJ7_copyOf_9075b_1 : decode cJ7_copyOf_9075b 1 = .ok (.aload_n 0, 1) := by decide +kernel
theorem dJ7_copyOf_9075b_2 : decode cJ7_copyOf_9075b 2 = .ok (.arraylength, 1) := by decide +kernel
theorem dJ7_copyOf_9075b_3 : decode cJ7_copyOf_9075b 3 = .ok (.if_icmp .ne 11, 3) := by decide +kernel
theorem dJ7_copyOf_9075b_6 : decode cJ7_copyOf_9075b 6 = .ok (.aload_n 0, 1) := by decide +kernel
theorem dJ7_copyOf_9075b_7 : decode cJ7_copyOf_9075b 7 = .ok (.invokevirtual 310, 3) := by decide +kernel
theorem dJ7_copyOf_9075b_10 : decode cJ7_copyOf_9075b 10 = .ok (.checkcast 311, 3) := by decide +kernel
theorem dJ7_copyOf_9075b_13 : decode cJ7_copyOf_9075b 13 = .ok (.areturn, 1) := by decide +kernel
theorem dJ7_copyOf_9075b_14 : decode cJ7_copyOf_9075b 14 = .ok (.iload_n 1, 1) := by decide +kernel
theorem dJ7_copyOf_9075b_15 : decode cJ7_copyOf_9075b 15 = .ok (.newarray .byte, 2) := by decide +kernel
theorem dJ7_copyOf_9075b_17 : decode cJ7_copyOf_9075b 17 = .ok (.astore_n 2, 1) := by decide +kernel
theorem dJ7_copyOf_9075b_18 : decode cJ7_copyOf_9075b 18 = .ok (.aload_n 0, 1) := by decide +kernel
theorem dJ7_copyOf_9075b_19 : decode cJ7_copyOf_9075b 19 = .ok (.iconst 0, 1) := by decide +kernel
theorem dJ7_copyOf_9075b_20 : decode cJ7_copyOf_9075b 20 = .ok (.aload_n 2, 1) := by decide +kernel
theorem dJ7_copyOf_9075b_21 : decode cJ7_copyOf_9075b 21 = .ok (.iconst 0, 1) := by decide +kernel
theorem dJ7_copyOf_9075b_22 : decode cJ7_copyOf_9075b 22 = .ok (.aload_n 0, 1) := by decide +kernel
theorem dJ7_copyOf_9075b_23 : decode cJ7_copyOf_9075b 23 = .ok (.arraylength, 1) := by decide +kernel
theorem dJ7_copyOf_9075b_24 : decode cJ7_copyOf_9075b 24 = .ok (.iload_n 1, 1) := by decide +kernel
theorem dJ7_copyOf_9075b_25 : decode cJ7_copyOf_9075b 25 = .ok (.invokestatic 304, 3) := by decide +kernel
theorem dJ7_copyOf_9075b_28 : decode cJ7_copyOf_9075b 28 = .ok (.invokestatic 150, 3) := by decide +kernel
theorem dJ7_copyOf_9075b_31 : decode cJ7_copyOf_9075b 31 = .ok (.aload_n 2, 1) := by decide +kernel
theorem dJ7_copyOf_9075b_32 : decode cJ7_copyOf_9075b 32 = .ok (.areturn, 1) := by decide +kernel
theorem dJ5_ensureCapacityInternal_d00df_0 : decode cJ5_ensureCapacityInternal_d00df 0 = .ok (.aload_n 0, 1) := by decide +kernel
theorem dJ5_ensureCapacityInternal_d00df_1 : decode cJ5_ensureCapacityInternal_d00df 1 = .ok (.getfield 15, 3) := by decide +kernel
theorem dJ5_ensureCapacityInternal_d00df_4 : decode cJ5_ensureCapacityInternal_d00df 4 = .ok (.arraylength, 1) := by decide +kernel
theorem dJ5_ensureCapacityInternal_d00df_5 : decode cJ5_ensureCapacityInternal_d00df 5 = .ok (.aload_n 0, 1) := by decide +kernel
theorem dJ5_ensureCapacityInternal_d00df_6 : decode cJ5_ensureCapacityInternal_d00df 6 = .ok (.getfield 22, 3) := by decide +kernel
theorem dJ5_ensureCapacityInternal_d00df_9 : decode cJ5_ensureCapacityInternal_d00df 9 = .ok (.ishr, 1) := by decide +kernel
theorem dJ5_ensureCapacityInternal_d00df_10 : decode cJ5_ensureCapacityInternal_d00df 10 = .ok (.istore_n 2, 1) := by decide +kernel
theorem dJ5_ensureCapacityInternal_d00df_11 : decode cJ5_ensureCapacityInternal_d00df 11 = .ok (.iload_n 1, 1) := by decide +kernel
theorem dJ5_ensureCapacityInternal_d00df_12 : decode cJ5_ensureCapacityInternal_d00df 12 = .ok (.iload_n 2, 1) := by decide +kernel
theorem dJ5_ensureCapacityInternal_d00df_13 : decode cJ5_ensureCapacityInternal_d00df 13 = .ok (.isub, 1) := by decide +kernel
theorem dJ5_ensureCapacityInternal_d00df_14 : decode cJ5_ensureCapacityInternal_d00df 14 = .ok (.ifCond .le 24, 3) := by decide +kernel
theorem dJ5_ensureCapacityInternal_d00df_17 : decode cJ5_ensureCapacityInternal_d00df 17 = .ok (.aload_n 0, 1) := by decide +kernel
theorem dJ5_ensureCapacityInternal_d00df_18 : decode cJ5_ensureCapacityInternal_d00df 18 = .ok (.aload_n 0, 1) := by decide +kernel
theorem dJ5_ensureCapacityInternal_d00df_19 : decode cJ5_ensureCapacityInternal_d00df 19 = .ok (.getfield 15, 3) := by decide +kernel
theorem dJ5_ensureCapacityInternal_d00df_22 : decode cJ5_ensureCapacityInternal_d00df 22 = .ok (.aload_n 0, 1) := by decide +kernel
theorem dJ5_ensureCapacityInternal_d00df_23 : decode cJ5_ensureCapacityInternal_d00df 23 = .ok (.iload_n 1, 1) := by decide +kernel
theorem dJ5_ensureCapacityInternal_d00df_24 : decode cJ5_ensureCapacityInternal_d00df 24 = .ok (.invokevirtual 104, 3) := by decide +kernel
theorem dJ5_ensureCapacityInternal_d00df_27 : decode cJ5_ensureCapacityInternal_d00df 27 = .ok (.aload_n 0, 1) := by decide +kernel
theorem dJ5_ensureCapacityInternal_d00df_28 : decode cJ5_ensureCapacityInternal_d00df 28 = .ok (.getfield 22, 3) := by decide +kernel
theorem dJ5_ensureCapacityInternal_d00df_31 : decode cJ5_ensureCapacityInternal_d00df 31 = .ok (.ishl, 1) := by decide +kernel
theorem dJ5_ensureCapacityInternal_d00df_32 : decode cJ5_ensureCapacityInternal_d00df 32 = .ok (.invokestatic 108, 3) := by decide +kernel
theorem dJ5_ensureCapacityInternal_d00df_35 : decode cJ5_ensureCapacityInternal_d00df 35 = .ok (.putfield 15, 3) := by decide +kernel
theorem dJ5_ensureCapacityInternal_d00df_38 : decode cJ5_ensureCapacityInternal_d00df 38 = .ok (.return_, 1) := by decide +kernel
def al_J0_coder_7d493_d : Nat → Bool := fun _ => false
def f_J0_coder_7d493_d_h0 (F : Nat) (S : si_St) : Option (Int32 × si_St) :=
  if (1 : Int32) = 0 then (none) else (Option.bind (sd_gi S 89 1) fun v1 => Option.bind (si_gn .byte v1) fun v2 => some (v2, S))
def f_J0_coder_7d493_d (F : Nat) (S : si_St) : Option (Int32 × si_St) :=
  f_J0_coder_7d493_d_h0 F S
theorem mo_J0_coder_7d493_d_h0 (F : Nat) (S : si_St) (o : Int32 × si_St) (h : f_J0_coder_7d493_d_h0 F S = some o) : sd_le S o.2 := by
  have g : sd_le S S := sd_le.rf
  unfold f_J0_coder_7d493_d_h0 at h
  rcases Decidable.em ((1 : Int32) = 0) with c3 | c3
  · have h := si_ip c3 h
    cases h
  · have h := si_in c3 h
    obtain ⟨v1, ev1, h⟩ := si_ob h
    obtain ⟨v2, ev2, h⟩ := si_ob h
    obtain rfl := Option.some.inj h
    exact g
theorem mo_J0_coder_7d493_d (F : Nat) (S : si_St) (o : Int32 × si_St) (h : f_J0_coder_7d493_d F S = some o) : sd_le S o.2 := by
  have g : sd_le S S := sd_le.rf
  unfold f_J0_coder_7d493_d at h
  exact g.tr (mo_J0_coder_7d493_d_h0 F _ _ h)
abbrev fr_J0_coder_7d493_d : Nat := 0
abbrev lo_J0_coder_7d493_d : Nat := 0
set_option maxHeartbeats 4000000 in
set_option maxRecDepth 100000 in
theorem c_J0_coder_7d493_d (l : Launch) (E0 : si_Ev) (F : Nat) (S0 : si_St) (o : Int32 × si_St) (hf : f_J0_coder_7d493_d F S0 = some o) : sd_Mi l al_J0_coder_7d493_d E0 yJ0_coder_7d493 cJ0_coder_7d493 1 (some .byte) fr_J0_coder_7d493_d lo_J0_coder_7d493_d [.ref (E0.2.1 89)] S0 o := by
  refine sd_ofWz (plainFor_of_name (by decide +kernel)) (Nat.le_of_ble_eq_true rfl) ?_
  intro p e s m args below meth c ls Q A X hmn hw hA hl hret
  have hl : lv_has ls 1 [(0, .ref (E0.2.1 89))] := hl
  have hR : sd_RR (sd_R fr_J0_coder_7d493_d lo_J0_coder_7d493_d S0 o.2) S0 o.2 := ⟨Nat.le_refl _, Nat.le_refl _⟩
  have hE : sd_EE al_J0_coder_7d493_d E0 E0 := sd_EE.rf
  have hc : sd_Ct S0 S0 0 0 := ⟨Nat.le_refl _, Nat.le_refl _⟩
  have B0 : ∀ (E : si_Ev) (S : si_St) (H : Heap) (locs : List Loc) (ls : Array Slot) (cs ss : Nat), f_J0_coder_7d493_d_h0 F S = some o → sd_EE al_J0_coder_7d493_d E0 E → si_Cx p s m args c cJ0_coder_7d493 1 yJ0_coder_7d493.cls E A → si_Ws E A s.heap S H locs → sd_Ct S0 S cs ss → lv_has ls 1 [(0, .ref (E.2.1 89))] → W p l e (sd_R fr_J0_coder_7d493_d lo_J0_coder_7d493_d S0 o.2) s m args below meth c H locs cs ss Q (F0 m 0 ls []) := by
    intro   E S H locs ls cs ss hf hE X hw hc hl
    have hcs := sd_room hc (mo_J0_coder_7d493_d_h0 F _ _ hf) hR
    unfold f_J0_coder_7d493_d_h0 at hf
    refine si_gsC X hw.2.2 gf_RJ0_38 dJ0_coder_7d493_0 ?_
    refine lv_if_eq (tgt := 13) X.1 X.2.1 dJ0_coder_7d493_3 (by decide) (fun c3 => ?_) (fun c3 => ?_)
    · have hf := si_ip c3 hf
      cases hf
    · have hf := si_in c3 hf
      refine lv_aload_n X.1 X.2.1 dJ0_coder_7d493_6 rfl (lv_at hl 0 rfl) ?_
      obtain ⟨v1, ev1, hf⟩ := si_ob hf
      refine sd_getI X hw sd_cl21 1 (by decide) (Or.inl gf_RJ0_15) rfl rfl rfl ev1 dJ0_coder_7d493_7 ?_
      refine lv_goto (tgt := 14) X.1 X.2.1 dJ0_coder_7d493_10 (by decide) ?_
      obtain ⟨v2, ev2, hf⟩ := si_ob hf
      exact hret _ _ _ _ _ _ _ _ _ (si_gnf ev2 hf) (si_gnn ev2) ⟨hE, hw, hc⟩ dJ0_coder_7d493_14
  unfold f_J0_coder_7d493_d at hf
  exact B0 _ _ _ _ _ _ _ hf hE X hw hc (lv_sub hl [0] rfl)
def al_J0_length_8abf5_d : Nat → Bool := fun _ => false
def f_J0_length_8abf5_d_h9 (F : Nat) (t0 : Int32) (t1 : Int32) (S : si_St) : Option (Int32 × si_St) :=
  some ((t1 >>> (t0 &&& 31)), S)
def f_J0_length_8abf5_d_h0 (F : Nat) (S : si_St) : Option (Int32 × si_St) :=
  if ¬ (sd_ok S 89 ∧ S.1 89 0 ≠ 0) then none else Option.bind (sd_al S 90) fun v1 => if ¬ (sd_ok S 89) then none else Option.bind (f_J0_coder_7d493_d F S) fun q2 => f_J0_length_8abf5_d_h9 F q2.1 v1 q2.2
def f_J0_length_8abf5_d (F : Nat) (S : si_St) : Option (Int32 × si_St) :=
  f_J0_length_8abf5_d_h0 F S
theorem mo_J0_length_8abf5_d_h9 (F : Nat) (t0 : Int32) (t1 : Int32) (S : si_St) (o : Int32 × si_St) (h : f_J0_length_8abf5_d_h9 F t0 t1 S = some o) : sd_le S o.2 := by
  have g : sd_le S S := sd_le.rf
  unfold f_J0_length_8abf5_d_h9 at h
  obtain rfl := Option.some.inj h
  exact g
theorem mo_J0_length_8abf5_d_h0 (F : Nat) (S : si_St) (o : Int32 × si_St) (h : f_J0_length_8abf5_d_h0 F S = some o) : sd_le S o.2 := by
  have g : sd_le S S := sd_le.rf
  unfold f_J0_length_8abf5_d_h0 at h
  have hgr1 : sd_ok S 89 ∧ S.1 89 0 ≠ 0 := Decidable.byContradiction fun h9 => by rw [if_pos h9] at h; cases h
  have h := si_in (not_not_intro hgr1) h
  obtain ⟨v1, ev1, h⟩ := si_ob h
  have hok6 : sd_ok S 89 := Decidable.byContradiction fun h9 => by rw [if_pos h9] at h; cases h
  have h := si_in (not_not_intro hok6) h
  obtain ⟨q2, eq2, h⟩ := si_ob h
  have g := g.tr (mo_J0_coder_7d493_d F S q2 eq2)
  exact g.tr (mo_J0_length_8abf5_d_h9 F _ _ _ _ h)
theorem mo_J0_length_8abf5_d (F : Nat) (S : si_St) (o : Int32 × si_St) (h : f_J0_length_8abf5_d F S = some o) : sd_le S o.2 := by
  have g : sd_le S S := sd_le.rf
  unfold f_J0_length_8abf5_d at h
  exact g.tr (mo_J0_length_8abf5_d_h0 F _ _ h)
abbrev fr_J0_length_8abf5_d : Nat := 1
abbrev lo_J0_length_8abf5_d : Nat := 20
set_option maxHeartbeats 4000000 in
set_option maxRecDepth 100000 in
theorem c_J0_length_8abf5_d (l : Launch) (E0 : si_Ev) (F : Nat) (S0 : si_St) (o : Int32 × si_St) (hf : f_J0_length_8abf5_d F S0 = some o) : sd_Mi l al_J0_length_8abf5_d E0 yJ0_length_8abf5 cJ0_length_8abf5 1 (some .int) fr_J0_length_8abf5_d lo_J0_length_8abf5_d [.ref (E0.2.1 89)] S0 o := by
  refine sd_ofWz (plainFor_of_name (by decide +kernel)) (Nat.le_of_ble_eq_true rfl) ?_
  intro p e s m args below meth c ls Q A X hmn hw hA hl hret
  have hl : lv_has ls 1 [(0, .ref (E0.2.1 89))] := hl
  have hR : sd_RR (sd_R fr_J0_length_8abf5_d lo_J0_length_8abf5_d S0 o.2) S0 o.2 := ⟨Nat.le_refl _, Nat.le_refl _⟩
  have hE : sd_EE al_J0_length_8abf5_d E0 E0 := sd_EE.rf
  have hc : sd_Ct S0 S0 0 0 := ⟨Nat.le_refl _, Nat.le_refl _⟩
  have B9 : ∀ (t0 : Int32) (t1 : Int32) (E : si_Ev) (S : si_St) (H : Heap) (locs : List Loc) (ls : Array Slot) (cs ss : Nat), f_J0_length_8abf5_d_h9 F t0 t1 S = some o → sd_EE al_J0_length_8abf5_d E0 E → si_Cx p s m args c cJ0_length_8abf5 1 yJ0_length_8abf5.cls E A → si_Ws E A s.heap S H locs → sd_Ct S0 S cs ss → lv_has ls 1 [] → W p l e (sd_R fr_J0_length_8abf5_d lo_J0_length_8abf5_d S0 o.2) s m args below meth c H locs cs ss Q (F0 m 9 ls [.int t0, .int t1]) := by
    intro t0 t1  E S H locs ls cs ss hf hE X hw hc hl
    have hcs := sd_room hc (mo_J0_length_8abf5_d_h9 F _ _ _ _ hf) hR
    unfold f_J0_length_8abf5_d_h9 at hf
    refine lv_ishr X.1 X.2.1 dJ0_length_8abf5_9 ?_
    exact hret _ _ _ _ _ _ _ _ _ hf rfl ⟨hE, hw, hc⟩ dJ0_length_8abf5_10
  have B0 : ∀ (E : si_Ev) (S : si_St) (H : Heap) (locs : List Loc) (ls : Array Slot) (cs ss : Nat), f_J0_length_8abf5_d_h0 F S = some o → sd_EE al_J0_length_8abf5_d E0 E → si_Cx p s m args c cJ0_length_8abf5 1 yJ0_length_8abf5.cls E A → si_Ws E A s.heap S H locs → sd_Ct S0 S cs ss → lv_has ls 1 [(0, .ref (E.2.1 89))] → W p l e (sd_R fr_J0_length_8abf5_d lo_J0_length_8abf5_d S0 o.2) s m args below meth c H locs cs ss Q (F0 m 0 ls []) := by
    intro   E S H locs ls cs ss hf hE X hw hc hl
    have hcs := sd_room hc (mo_J0_length_8abf5_d_h0 F _ _ hf) hR
    unfold f_J0_length_8abf5_d_h0 at hf
    refine lv_aload_n X.1 X.2.1 dJ0_length_8abf5_0 rfl (lv_at hl 0 rfl) ?_
    have hgr1 : sd_ok S 89 ∧ S.1 89 0 ≠ 0 := Decidable.byContradiction fun h9 => by rw [if_pos h9] at hf; cases hf
    have hf := si_in (not_not_intro hgr1) hf
    refine sd_getR X hw sd_cl21 0 (by decide) (Or.inl gf_RJ0_9) rfl rfl rfl hgr1 dJ0_length_8abf5_1 ?_
    obtain ⟨v1, ev1, hf⟩ := si_ob hf
    refine sd_alen X hw (Or.inl rfl) ev1 dJ0_length_8abf5_4 ?_
    refine lv_aload_n X.1 X.2.1 dJ0_length_8abf5_5 rfl (lv_at hl 0 rfl) ?_
    have hok6 : sd_ok S 89 := Decidable.byContradiction fun h9 => by rw [if_pos h9] at hf; cases hf
    have hf := si_in (not_not_intro hok6) hf
    obtain ⟨q2, eq2, hf⟩ := si_ob hf
    refine sd_goi (sd_runV (As := []) (rest := [.int v1]) sd_cl21 rfl hok6 cal_J0_coder_7d493 gm_RJ0_335 X hw hA hl.1 ((c_J0_coder_7d493_d l E F S q2 eq2) H.size) ⟨Nat.le_of_ble_eq_true rfl, Nat.le_of_ble_eq_true rfl⟩ rfl (Nat.le_of_ble_eq_true rfl) (sd_room2 hc (mo_J0_coder_7d493_d F S q2 eq2) (mo_J0_length_8abf5_d_h9 F _ _ _ _ hf) hR) dJ0_length_8abf5_6) X hw hA hE hc (mo_J0_coder_7d493_d F S q2 eq2) (fun _ _ => rfl) (fun E H locs cs ss hZ hE X hw hc => ?_)
    rw [← hZ.at 89 rfl] at hl
    exact B9 _ _ _ _ _ _ _ _ _ hf hE X hw hc (lv_sub hl [] rfl)
  unfold f_J0_length_8abf5_d at hf
  exact B0 _ _ _ _ _ _ _ hf hE X hw hc (lv_sub hl [0] rfl)
def al_J0_isLatin1_aae02_d : Nat → Bool := fun _ => false
def f_J0_isLatin1_aae02_d_h18 (F : Nat) (t0 : Int32) (S : si_St) : Option (Int32 × si_St) :=
  Option.bind (si_bz t0) fun v1 => some (v1, S)
def f_J0_isLatin1_aae02_d_h17 (F : Nat) (S : si_St) : Option (Int32 × si_St) :=
  f_J0_isLatin1_aae02_d_h18 F 0 S
def f_J0_isLatin1_aae02_d_h0 (F : Nat) (S : si_St) : Option (Int32 × si_St) :=
  if (1 : Int32) = 0 then (f_J0_isLatin1_aae02_d_h17 F S) else (Option.bind (sd_gi S 89 1) fun v2 => if v2 = 0 then (f_J0_isLatin1_aae02_d_h18 F 1 S) else (f_J0_isLatin1_aae02_d_h17 F S))
def f_J0_isLatin1_aae02_d (F : Nat) (S : si_St) : Option (Int32 × si_St) :=
  f_J0_isLatin1_aae02_d_h0 F S
theorem mo_J0_isLatin1_aae02_d_h18 (F : Nat) (t0 : Int32) (S : si_St) (o : Int32 × si_St) (h : f_J0_isLatin1_aae02_d_h18 F t0 S = some o) : sd_le S o.2 := by
  have g : sd_le S S := sd_le.rf
  unfold f_J0_isLatin1_aae02_d_h18 at h
  obtain ⟨v1, ev1, h⟩ := si_ob h
  obtain rfl := Option.some.inj h
  exact g
theorem mo_J0_isLatin1_aae02_d_h17 (F : Nat) (S : si_St) (o : Int32 × si_St) (h : f_J0_isLatin1_aae02_d_h17 F S = some o) : sd_le S o.2 := by
  have g : sd_le S S := sd_le.rf
  unfold f_J0_isLatin1_aae02_d_h17 at h
  exact g.tr (mo_J0_isLatin1_aae02_d_h18 F _ _ _ h)
theorem mo_J0_isLatin1_aae02_d_h0 (F : Nat) (S : si_St) (o : Int32 × si_St) (h : f_J0_isLatin1_aae02_d_h0 F S = some o) : sd_le S o.2 := by
  have g : sd_le S S := sd_le.rf
  unfold f_J0_isLatin1_aae02_d_h0 at h
  rcases Decidable.em ((1 : Int32) = 0) with c3 | c3
  · have h := si_ip c3 h
    exact g.tr (mo_J0_isLatin1_aae02_d_h17 F _ _ h)
  · have h := si_in c3 h
    obtain ⟨v2, ev2, h⟩ := si_ob h
    rcases Decidable.em (v2 = 0) with c10 | c10
    · have h := si_ip c10 h
      exact g.tr (mo_J0_isLatin1_aae02_d_h18 F _ _ _ h)
    · have h := si_in c10 h
      exact g.tr (mo_J0_isLatin1_aae02_d_h17 F _ _ h)
theorem mo_J0_isLatin1_aae02_d (F : Nat) (S : si_St) (o : Int32 × si_St) (h : f_J0_isLatin1_aae02_d F S = some o) : sd_le S o.2 := by
  have g : sd_le S S := sd_le.rf
  unfold f_J0_isLatin1_aae02_d at h
  exact g.tr (mo_J0_isLatin1_aae02_d_h0 F _ _ h)
abbrev fr_J0_isLatin1_aae02_d : Nat := 0
abbrev lo_J0_isLatin1_aae02_d : Nat := 0
set_option maxHeartbeats 4000000 in
set_option maxRecDepth 100000 in
theorem c_J0_isLatin1_aae02_d (l : Launch) (E0 : si_Ev) (F : Nat) (S0 : si_St) (o : Int32 × si_St) (hf : f_J0_isLatin1_aae02_d F S0 = some o) : sd_Mi l al_J0_isLatin1_aae02_d E0 yJ0_isLatin1_aae02 cJ0_isLatin1_aae02 1 (some .boolean) fr_J0_isLatin1_aae02_d lo_J0_isLatin1_aae02_d [.ref (E0.2.1 89)] S0 o := by
  refine sd_ofWz (plainFor_of_name (by decide +kernel)) (Nat.le_of_ble_eq_true rfl) ?_
  intro p e s m args below meth c ls Q A X hmn hw hA hl hret
  have hl : lv_has ls 1 [(0, .ref (E0.2.1 89))] := hl
  have hR : sd_RR (sd_R fr_J0_isLatin1_aae02_d lo_J0_isLatin1_aae02_d S0 o.2) S0 o.2 := ⟨Nat.le_refl _, Nat.le_refl _⟩
  have hE : sd_EE al_J0_isLatin1_aae02_d E0 E0 := sd_EE.rf
  have hc : sd_Ct S0 S0 0 0 := ⟨Nat.le_refl _, Nat.le_refl _⟩
  have B18 : ∀ (t0 : Int32) (E : si_Ev) (S : si_St) (H : Heap) (locs : List Loc) (ls : Array Slot) (cs ss : Nat), f_J0_isLatin1_aae02_d_h18 F t0 S = some o → sd_EE al_J0_isLatin1_aae02_d E0 E → si_Cx p s m args c cJ0_isLatin1_aae02 1 yJ0_isLatin1_aae02.cls E A → si_Ws E A s.heap S H locs → sd_Ct S0 S cs ss → lv_has ls 1 [] → W p l e (sd_R fr_J0_isLatin1_aae02_d lo_J0_isLatin1_aae02_d S0 o.2) s m args below meth c H locs cs ss Q (F0 m 18 ls [.int t0]) := by
    intro t0  E S H locs ls cs ss hf hE X hw hc hl
    have hcs := sd_room hc (mo_J0_isLatin1_aae02_d_h18 F _ _ _ hf) hR
    unfold f_J0_isLatin1_aae02_d_h18 at hf
    obtain ⟨v1, ev1, hf⟩ := si_ob hf
    exact hret _ _ _ _ _ _ _ _ _ (si_bzf ev1 hf) (si_nz (si_bz_inv ev1).1) ⟨hE, hw, hc⟩ dJ0_isLatin1_aae02_18
  have B17 : ∀ (E : si_Ev) (S : si_St) (H : Heap) (locs : List Loc) (ls : Array Slot) (cs ss : Nat), f_J0_isLatin1_aae02_d_h17 F S = some o → sd_EE al_J0_isLatin1_aae02_d E0 E → si_Cx p s m args c cJ0_isLatin1_aae02 1 yJ0_isLatin1_aae02.cls E A → si_Ws E A s.heap S H locs → sd_Ct S0 S cs ss → lv_has ls 1 [] → W p l e (sd_R fr_J0_isLatin1_aae02_d lo_J0_isLatin1_aae02_d S0 o.2) s m args below meth c H locs cs ss Q (F0 m 17 ls []) := by
    intro   E S H locs ls cs ss hf hE X hw hc hl
    have hcs := sd_room hc (mo_J0_isLatin1_aae02_d_h17 F _ _ hf) hR
    unfold f_J0_isLatin1_aae02_d_h17 at hf
    refine lv_iconst (v := 0) X.1 X.2.1 dJ0_isLatin1_aae02_17 (by decide) ?_
    exact B18 _ _ _ _ _ _ _ _ hf hE X hw hc (lv_sub hl [] rfl)
  have B0 : ∀ (E : si_Ev) (S : si_St) (H : Heap) (locs : List Loc) (ls : Array Slot) (cs ss : Nat), f_J0_isLatin1_aae02_d_h0 F S = some o → sd_EE al_J0_isLatin1_aae02_d E0 E → si_Cx p s m args c cJ0_isLatin1_aae02 1 yJ0_isLatin1_aae02.cls E A → si_Ws E A s.heap S H locs → sd_Ct S0 S cs ss → lv_has ls 1 [(0, .ref (E.2.1 89))] → W p l e (sd_R fr_J0_isLatin1_aae02_d lo_J0_isLatin1_aae02_d S0 o.2) s m args below meth c H locs cs ss Q (F0 m 0 ls []) := by
    intro   E S H locs ls cs ss hf hE X hw hc hl
    have hcs := sd_room hc (mo_J0_isLatin1_aae02_d_h0 F _ _ hf) hR
    unfold f_J0_isLatin1_aae02_d_h0 at hf
    refine si_gsC X hw.2.2 gf_RJ0_38 dJ0_isLatin1_aae02_0 ?_
    refine lv_if_eq (tgt := 17) X.1 X.2.1 dJ0_isLatin1_aae02_3 (by decide) (fun c3 => ?_) (fun c3 => ?_)
    · have hf := si_ip c3 hf
      exact B17 _ _ _ _ _ _ _ hf hE X hw hc (lv_sub hl [] rfl)
    · have hf := si_in c3 hf
      refine lv_aload_n X.1 X.2.1 dJ0_isLatin1_aae02_6 rfl (lv_at hl 0 rfl) ?_
      obtain ⟨v2, ev2, hf⟩ := si_ob hf
      refine sd_getI X hw sd_cl21 1 (by decide) (Or.inl gf_RJ0_15) rfl rfl rfl ev2 dJ0_isLatin1_aae02_7 ?_
      refine lv_if_ne (tgt := 17) X.1 X.2.1 dJ0_isLatin1_aae02_10 (by decide) (fun c10 => ?_) (fun c10 => ?_)
      · have hf := si_in c10 hf
        exact B17 _ _ _ _ _ _ _ hf hE X hw hc (lv_sub hl [] rfl)
      · have hf := si_ip c10 hf
        refine lv_iconst (v := 1) X.1 X.2.1 dJ0_isLatin1_aae02_13 (by decide) ?_
        refine lv_goto (tgt := 18) X.1 X.2.1 dJ0_isLatin1_aae02_14 (by decide) ?_
        exact B18 _ _ _ _ _ _ _ _ hf hE X hw hc (lv_sub hl [] rfl)
  unfold f_J0_isLatin1_aae02_d at hf
  exact B0 _ _ _ _ _ _ _ hf hE X hw hc (lv_sub hl [0] rfl)
def al_J1_charAt_3b067_d : Nat → Bool := fun _ => false
def f_J1_charAt_3b067_d_h0 (F : Nat) (x1 : Int32) (S : si_St) : Option (Int32 × si_St) :=
  Option.bind (sd_al S 90) fun v1 => Option.bind (f_J0_checkIndex_df160 F x1 v1 S) fun S2 => Option.bind (sd_rd S2 90 x1) fun v3 => Option.bind (si_gn .char (si_i2c (v3 &&& 255))) fun v4 => some (v4, S2)
def f_J1_charAt_3b067_d (F : Nat) (x1 : Int32) (S : si_St) : Option (Int32 × si_St) :=
  f_J1_charAt_3b067_d_h0 F x1 S
theorem mo_J1_charAt_3b067_d_h0 (F : Nat) (x1 : Int32) (S : si_St) (o : Int32 × si_St) (h : f_J1_charAt_3b067_d_h0 F x1 S = some o) : sd_le S o.2 := by
  have g : sd_le S S := sd_le.rf
  unfold f_J1_charAt_3b067_d_h0 at h
  obtain ⟨v1, ev1, h⟩ := si_ob h
  obtain ⟨S2, eS2, h⟩ := si_ob h
  have g := g.tr (fr_J0_checkIndex_df160 F x1 v1 S S2 eS2).le
  obtain ⟨v3, ev3, h⟩ := si_ob h
  obtain ⟨v4, ev4, h⟩ := si_ob h
  obtain rfl := Option.some.inj h
  exact g
theorem mo_J1_charAt_3b067_d (F : Nat) (x1 : Int32) (S : si_St) (o : Int32 × si_St) (h : f_J1_charAt_3b067_d F x1 S = some o) : sd_le S o.2 := by
  have g : sd_le S S := sd_le.rf
  unfold f_J1_charAt_3b067_d at h
  exact g.tr (mo_J1_charAt_3b067_d_h0 F _ _ _ h)
abbrev fr_J1_charAt_3b067_d : Nat := 2
abbrev lo_J1_charAt_3b067_d : Nat := 43
set_option maxHeartbeats 4000000 in
set_option maxRecDepth 100000 in
theorem c_J1_charAt_3b067_d (l : Launch) (E0 : si_Ev) (F : Nat) (x1 : Int32) (S0 : si_St) (o : Int32 × si_St) (hf : f_J1_charAt_3b067_d F x1 S0 = some o) : sd_Mi l al_J1_charAt_3b067_d E0 yJ1_charAt_3b067 cJ1_charAt_3b067 2 (some .char) fr_J1_charAt_3b067_d lo_J1_charAt_3b067_d [.ref (E0.2.1 90), .int x1] S0 o := by
  refine sd_ofWz (plainFor_of_name (by decide +kernel)) (Nat.le_of_ble_eq_true rfl) ?_
  intro p e s m args below meth c ls Q A X hmn hw hA hl hret
  have hl : lv_has ls 2 [(0, .ref (E0.2.1 90)), (1, .int x1)] := hl
  have hR : sd_RR (sd_R fr_J1_charAt_3b067_d lo_J1_charAt_3b067_d S0 o.2) S0 o.2 := ⟨Nat.le_refl _, Nat.le_refl _⟩
  have hE : sd_EE al_J1_charAt_3b067_d E0 E0 := sd_EE.rf
  have hc : sd_Ct S0 S0 0 0 := ⟨Nat.le_refl _, Nat.le_refl _⟩
  have B0 : ∀ (x1 : Int32) (E : si_Ev) (S : si_St) (H : Heap) (locs : List Loc) (ls : Array Slot) (cs ss : Nat), f_J1_charAt_3b067_d_h0 F x1 S = some o → sd_EE al_J1_charAt_3b067_d E0 E → si_Cx p s m args c cJ1_charAt_3b067 2 yJ1_charAt_3b067.cls E A → si_Ws E A s.heap S H locs → sd_Ct S0 S cs ss → lv_has ls 2 [(0, .ref (E.2.1 90)), (1, .int x1)] → W p l e (sd_R fr_J1_charAt_3b067_d lo_J1_charAt_3b067_d S0 o.2) s m args below meth c H locs cs ss Q (F0 m 0 ls []) := by
    intro x1  E S H locs ls cs ss hf hE X hw hc hl
    have hcs := sd_room hc (mo_J1_charAt_3b067_d_h0 F _ _ _ hf) hR
    unfold f_J1_charAt_3b067_d_h0 at hf
    refine lv_iload_n X.1 X.2.1 dJ1_charAt_3b067_0 rfl (lv_at hl 1 rfl) ?_
    refine lv_aload_n X.1 X.2.1 dJ1_charAt_3b067_1 rfl (lv_at hl 0 rfl) ?_
    obtain ⟨v1, ev1, hf⟩ := si_ob hf
    refine sd_alen X hw (Or.inl rfl) ev1 dJ1_charAt_3b067_2 ?_
    obtain ⟨S2, eS2, hf⟩ := si_ob hf
    refine si_cSv [.int x1, .int v1] cal_J0_checkIndex_df160 gm_RJ1_9 X hw hA hl.1 (c_J0_checkIndex_df160 l E F x1 v1 S S2 eS2) ⟨⟨rfl, rfl⟩, Nat.le_of_ble_eq_true rfl, Nat.le_of_ble_eq_true rfl⟩ rfl rfl (Nat.le_of_ble_eq_true rfl) hcs dJ1_charAt_3b067_3 (fun H locs hw => ?_)
    have hc := hc.up (fr_J0_checkIndex_df160 F x1 v1 S S2 eS2).le
    refine lv_aload_n X.1 X.2.1 dJ1_charAt_3b067_6 rfl (lv_at hl 0 rfl) ?_
    refine lv_iload_n X.1 X.2.1 dJ1_charAt_3b067_7 rfl (lv_at hl 1 rfl) ?_
    obtain ⟨v3, ev3, hf⟩ := si_ob hf
    refine sd_bald X hw rfl ev3 dJ1_charAt_3b067_8 ?_
    refine lv_sipush (v := 255) X.1 X.2.1 dJ1_charAt_3b067_9 (by decide) ?_
    refine lv_iand X.1 X.2.1 dJ1_charAt_3b067_12 ?_
    refine lv_i2c (v := (si_i2c (v3 &&& 255))) X.1 X.2.1 dJ1_charAt_3b067_13 rfl ?_
    obtain ⟨v4, ev4, hf⟩ := si_ob hf
    exact hret _ _ _ _ _ _ _ _ _ (si_gnf ev4 hf) (si_gnn ev4) ⟨hE, hw, hc⟩ dJ1_charAt_3b067_14
  unfold f_J1_charAt_3b067_d at hf
  exact B0 _ _ _ _ _ _ _ _ hf hE X hw hc (lv_sub hl [0, 1] rfl)
def al_J0_charAt_5068e_d : Nat → Bool := fun _ => false
def f_J0_charAt_5068e_d_h15 (F : Nat) (t0 : Int32) (S : si_St) : Option (Int32 × si_St) :=
  Option.bind (si_gn .char t0) fun v1 => some (v1, S)
def f_J0_charAt_5068e_d_h4 (F : Nat) (x1 : Int32) (t0 : Int32) (S : si_St) : Option (Int32 × si_St) :=
  if t0 = 0 then (none) else (if ¬ (sd_ok S 89 ∧ S.1 89 0 ≠ 0) then none else Option.bind (f_J1_charAt_3b067_d F x1 S) fun q2 => f_J0_charAt_5068e_d_h15 F q2.1 q2.2)
def f_J0_charAt_5068e_d_h0 (F : Nat) (x1 : Int32) (S : si_St) : Option (Int32 × si_St) :=
  if ¬ (sd_ok S 89) then none else Option.bind (f_J0_isLatin1_aae02_d F S) fun q3 => f_J0_charAt_5068e_d_h4 F x1 q3.1 q3.2
def f_J0_charAt_5068e_d (F : Nat) (x1 : Int32) (S : si_St) : Option (Int32 × si_St) :=
  f_J0_charAt_5068e_d_h0 F x1 S
theorem mo_J0_charAt_5068e_d_h15 (F : Nat) (t0 : Int32) (S : si_St) (o : Int32 × si_St) (h : f_J0_charAt_5068e_d_h15 F t0 S = some o) : sd_le S o.2 := by
  have g : sd_le S S := sd_le.rf
  unfold f_J0_charAt_5068e_d_h15 at h
  obtain ⟨v1, ev1, h⟩ := si_ob h
  obtain rfl := Option.some.inj h
  exact g
theorem mo_J0_charAt_5068e_d_h4 (F : Nat) (x1 : Int32) (t0 : Int32) (S : si_St) (o : Int32 × si_St) (h : f_J0_charAt_5068e_d_h4 F x1 t0 S = some o) : sd_le S o.2 := by
  have g : sd_le S S := sd_le.rf
  unfold f_J0_charAt_5068e_d_h4 at h
  rcases Decidable.em (t0 = 0) with c4 | c4
  · have h := si_ip c4 h
    cases h
  · have h := si_in c4 h
    have hgr8 : sd_ok S 89 ∧ S.1 89 0 ≠ 0 := Decidable.byContradiction fun h9 => by rw [if_pos h9] at h; cases h
    have h := si_in (not_not_intro hgr8) h
    obtain ⟨q2, eq2, h⟩ := si_ob h
    have g := g.tr (mo_J1_charAt_3b067_d F x1 S q2 eq2)
    exact g.tr (mo_J0_charAt_5068e_d_h15 F _ _ _ h)
theorem mo_J0_charAt_5068e_d_h0 (F : Nat) (x1 : Int32) (S : si_St) (o : Int32 × si_St) (h : f_J0_charAt_5068e_d_h0 F x1 S = some o) : sd_le S o.2 := by
  have g : sd_le S S := sd_le.rf
  unfold f_J0_charAt_5068e_d_h0 at h
  have hok1 : sd_ok S 89 := Decidable.byContradiction fun h9 => by rw [if_pos h9] at h; cases h
  have h := si_in (not_not_intro hok1) h
  obtain ⟨q3, eq3, h⟩ := si_ob h
  have g := g.tr (mo_J0_isLatin1_aae02_d F S q3 eq3)
  exact g.tr (mo_J0_charAt_5068e_d_h4 F _ _ _ _ h)
theorem mo_J0_charAt_5068e_d (F : Nat) (x1 : Int32) (S : si_St) (o : Int32 × si_St) (h : f_J0_charAt_5068e_d F x1 S = some o) : sd_le S o.2 := by
  have g : sd_le S S := sd_le.rf
  unfold f_J0_charAt_5068e_d at h
  exact g.tr (mo_J0_charAt_5068e_d_h0 F _ _ _ h)
abbrev fr_J0_charAt_5068e_d : Nat := 3
abbrev lo_J0_charAt_5068e_d : Nat := 64
set_option maxHeartbeats 4000000 in
set_option maxRecDepth 100000 in
theorem c_J0_charAt_5068e_d (l : Launch) (E0 : si_Ev) (F : Nat) (x1 : Int32) (S0 : si_St) (o : Int32 × si_St) (hf : f_J0_charAt_5068e_d F x1 S0 = some o) : sd_Mi l al_J0_charAt_5068e_d E0 yJ0_charAt_5068e cJ0_charAt_5068e 2 (some .char) fr_J0_charAt_5068e_d lo_J0_charAt_5068e_d [.ref (E0.2.1 89), .int x1] S0 o := by
  refine sd_ofWz (plainFor_of_name (by decide +kernel)) (Nat.le_of_ble_eq_true rfl) ?_
  intro p e s m args below meth c ls Q A X hmn hw hA hl hret
  have hl : lv_has ls 2 [(0, .ref (E0.2.1 89)), (1, .int x1)] := hl
  have hR : sd_RR (sd_R fr_J0_charAt_5068e_d lo_J0_charAt_5068e_d S0 o.2) S0 o.2 := ⟨Nat.le_refl _, Nat.le_refl _⟩
  have hE : sd_EE al_J0_charAt_5068e_d E0 E0 := sd_EE.rf
  have hc : sd_Ct S0 S0 0 0 := ⟨Nat.le_refl _, Nat.le_refl _⟩
  have B15 : ∀ (t0 : Int32) (E : si_Ev) (S : si_St) (H : Heap) (locs : List Loc) (ls : Array Slot) (cs ss : Nat), f_J0_charAt_5068e_d_h15 F t0 S = some o → sd_EE al_J0_charAt_5068e_d E0 E → si_Cx p s m args c cJ0_charAt_5068e 2 yJ0_charAt_5068e.cls E A → si_Ws E A s.heap S H locs → sd_Ct S0 S cs ss → lv_has ls 2 [] → W p l e (sd_R fr_J0_charAt_5068e_d lo_J0_charAt_5068e_d S0 o.2) s m args below meth c H locs cs ss Q (F0 m 15 ls [.int t0]) := by
    intro t0  E S H locs ls cs ss hf hE X hw hc hl
    have hcs := sd_room hc (mo_J0_charAt_5068e_d_h15 F _ _ _ hf) hR
    unfold f_J0_charAt_5068e_d_h15 at hf
    obtain ⟨v1, ev1, hf⟩ := si_ob hf
    exact hret _ _ _ _ _ _ _ _ _ (si_gnf ev1 hf) (si_gnn ev1) ⟨hE, hw, hc⟩ dJ0_charAt_5068e_15
  have B4 : ∀ (x1 : Int32) (t0 : Int32) (E : si_Ev) (S : si_St) (H : Heap) (locs : List Loc) (ls : Array Slot) (cs ss : Nat), f_J0_charAt_5068e_d_h4 F x1 t0 S = some o → sd_EE al_J0_charAt_5068e_d E0 E → si_Cx p s m args c cJ0_charAt_5068e 2 yJ0_charAt_5068e.cls E A → si_Ws E A s.heap S H locs → sd_Ct S0 S cs ss → lv_has ls 2 [(0, .ref (E.2.1 89)), (1, .int x1)] → W p l e (sd_R fr_J0_charAt_5068e_d lo_J0_charAt_5068e_d S0 o.2) s m args below meth c H locs cs ss Q (F0 m 4 ls [.int t0]) := by
    intro x1 t0  E S H locs ls cs ss hf hE X hw hc hl
    have hcs := sd_room hc (mo_J0_charAt_5068e_d_h4 F _ _ _ _ hf) hR
    unfold f_J0_charAt_5068e_d_h4 at hf
    refine lv_if_eq (tgt := 16) X.1 X.2.1 dJ0_charAt_5068e_4 (by decide) (fun c4 => ?_) (fun c4 => ?_)
    · have hf := si_ip c4 hf
      cases hf
    · have hf := si_in c4 hf
      refine lv_aload_n X.1 X.2.1 dJ0_charAt_5068e_7 rfl (lv_at hl 0 rfl) ?_
      have hgr8 : sd_ok S 89 ∧ S.1 89 0 ≠ 0 := Decidable.byContradiction fun h9 => by rw [if_pos h9] at hf; cases hf
      have hf := si_in (not_not_intro hgr8) hf
      refine sd_getR X hw sd_cl21 0 (by decide) (Or.inl gf_RJ0_9) rfl rfl rfl hgr8 dJ0_charAt_5068e_8 ?_
      refine lv_iload_n X.1 X.2.1 dJ0_charAt_5068e_11 rfl (lv_at hl 1 rfl) ?_
      obtain ⟨q2, eq2, hf⟩ := si_ob hf
      refine sd_goi (sd_runS (As := [.ref (E.2.1 90), .int x1]) (rest := []) cal_J1_charAt_3b067 gm_RJ0_495 X hw hA hl.1 ((c_J1_charAt_3b067_d l E F x1 S q2 eq2) H.size) ⟨Nat.le_of_ble_eq_true rfl, Nat.le_of_ble_eq_true rfl⟩ rfl (Nat.le_of_ble_eq_true rfl) (sd_room2 hc (mo_J1_charAt_3b067_d F x1 S q2 eq2) (mo_J0_charAt_5068e_d_h15 F _ _ _ hf) hR) dJ0_charAt_5068e_12) X hw hA hE hc (mo_J1_charAt_3b067_d F x1 S q2 eq2) (fun _ _ => rfl) (fun E H locs cs ss hZ hE X hw hc => ?_)
      rw [← hZ.at 89 rfl] at hl
      exact B15 _ _ _ _ _ _ _ _ hf hE X hw hc (lv_sub hl [] rfl)
  have B0 : ∀ (x1 : Int32) (E : si_Ev) (S : si_St) (H : Heap) (locs : List Loc) (ls : Array Slot) (cs ss : Nat), f_J0_charAt_5068e_d_h0 F x1 S = some o → sd_EE al_J0_charAt_5068e_d E0 E → si_Cx p s m args c cJ0_charAt_5068e 2 yJ0_charAt_5068e.cls E A → si_Ws E A s.heap S H locs → sd_Ct S0 S cs ss → lv_has ls 2 [(0, .ref (E.2.1 89)), (1, .int x1)] → W p l e (sd_R fr_J0_charAt_5068e_d lo_J0_charAt_5068e_d S0 o.2) s m args below meth c H locs cs ss Q (F0 m 0 ls []) := by
    intro x1  E S H locs ls cs ss hf hE X hw hc hl
    have hcs := sd_room hc (mo_J0_charAt_5068e_d_h0 F _ _ _ hf) hR
    unfold f_J0_charAt_5068e_d_h0 at hf
    refine lv_aload_n X.1 X.2.1 dJ0_charAt_5068e_0 rfl (lv_at hl 0 rfl) ?_
    have hok1 : sd_ok S 89 := Decidable.byContradiction fun h9 => by rw [if_pos h9] at hf; cases hf
    have hf := si_in (not_not_intro hok1) hf
    obtain ⟨q3, eq3, hf⟩ := si_ob hf
    refine sd_goi (sd_runV (As := []) (rest := []) sd_cl21 rfl hok1 cal_J0_isLatin1_aae02 gm_RJ0_492 X hw hA hl.1 ((c_J0_isLatin1_aae02_d l E F S q3 eq3) H.size) ⟨Nat.le_of_ble_eq_true rfl, Nat.le_of_ble_eq_true rfl⟩ rfl (Nat.le_of_ble_eq_true rfl) (sd_room2 hc (mo_J0_isLatin1_aae02_d F S q3 eq3) (mo_J0_charAt_5068e_d_h4 F _ _ _ _ hf) hR) dJ0_charAt_5068e_1) X hw hA hE hc (mo_J0_isLatin1_aae02_d F S q3 eq3) (fun _ _ => rfl) (fun E H locs cs ss hZ hE X hw hc => ?_)
    rw [← hZ.at 89 rfl] at hl
    exact B4 _ _ _ _ _ _ _ _ _ hf hE X hw hc (lv_sub hl [0, 1] rfl)
  unfold f_J0_charAt_5068e_d at hf
  exact B0 _ _ _ _ _ _ _ _ hf hE X hw hc (lv_sub hl [0, 1] rfl)
def al_J5_isLatin1_aae02 : Nat → Bool := fun _ => false
def f_J5_isLatin1_aae02_h18 (F : Nat) (t0 : Int32) (S : si_St) : Option (Int32 × si_St) :=
  Option.bind (si_bz t0) fun v1 => some (v1, S)
def f_J5_isLatin1_aae02_h17 (F : Nat) (S : si_St) : Option (Int32 × si_St) :=
  f_J5_isLatin1_aae02_h18 F 0 S
def f_J5_isLatin1_aae02_h0 (F : Nat) (S : si_St) : Option (Int32 × si_St) :=
  if (1 : Int32) = 0 then (f_J5_isLatin1_aae02_h17 F S) else (Option.bind (sd_gi S 87 1) fun v2 => if v2 = 0 then (f_J5_isLatin1_aae02_h18 F 1 S) else (f_J5_isLatin1_aae02_h17 F S))
def f_J5_isLatin1_aae02 (F : Nat) (S : si_St) : Option (Int32 × si_St) :=
  f_J5_isLatin1_aae02_h0 F S
theorem mo_J5_isLatin1_aae02_h18 (F : Nat) (t0 : Int32) (S : si_St) (o : Int32 × si_St) (h : f_J5_isLatin1_aae02_h18 F t0 S = some o) : sd_le S o.2 := by
  have g : sd_le S S := sd_le.rf
  unfold f_J5_isLatin1_aae02_h18 at h
  obtain ⟨v1, ev1, h⟩ := si_ob h
  obtain rfl := Option.some.inj h
  exact g
theorem mo_J5_isLatin1_aae02_h17 (F : Nat) (S : si_St) (o : Int32 × si_St) (h : f_J5_isLatin1_aae02_h17 F S = some o) : sd_le S o.2 := by
  have g : sd_le S S := sd_le.rf
  unfold f_J5_isLatin1_aae02_h17 at h
  exact g.tr (mo_J5_isLatin1_aae02_h18 F _ _ _ h)
theorem mo_J5_isLatin1_aae02_h0 (F : Nat) (S : si_St) (o : Int32 × si_St) (h : f_J5_isLatin1_aae02_h0 F S = some o) : sd_le S o.2 := by
  have g : sd_le S S := sd_le.rf
  unfold f_J5_isLatin1_aae02_h0 at h
  rcases Decidable.em ((1 : Int32) = 0) with c3 | c3
  · have h := si_ip c3 h
    exact g.tr (mo_J5_isLatin1_aae02_h17 F _ _ h)
  · have h := si_in c3 h
    obtain ⟨v2, ev2, h⟩ := si_ob h
    rcases Decidable.em (v2 = 0) with c10 | c10
    · have h := si_ip c10 h
      exact g.tr (mo_J5_isLatin1_aae02_h18 F _ _ _ h)
    · have h := si_in c10 h
      exact g.tr (mo_J5_isLatin1_aae02_h17 F _ _ h)
theorem mo_J5_isLatin1_aae02 (F : Nat) (S : si_St) (o : Int32 × si_St) (h : f_J5_isLatin1_aae02 F S = some o) : sd_le S o.2 := by
  have g : sd_le S S := sd_le.rf
  unfold f_J5_isLatin1_aae02 at h
  exact g.tr (mo_J5_isLatin1_aae02_h0 F _ _ h)
abbrev fr_J5_isLatin1_aae02 : Nat := 0
abbrev lo_J5_isLatin1_aae02 : Nat := 0
set_option maxHeartbeats 4000000 in
set_option maxRecDepth 100000 in
theorem c_J5_isLatin1_aae02 (l : Launch) (E0 : si_Ev) (F : Nat) (S0 : si_St) (o : Int32 × si_St) (hf : f_J5_isLatin1_aae02 F S0 = some o) : sd_Mi l al_J5_isLatin1_aae02 E0 yJ5_isLatin1_aae02 cJ5_isLatin1_aae02 1 (some .boolean) fr_J5_isLatin1_aae02 lo_J5_isLatin1_aae02 [.ref (E0.2.1 87)] S0 o := by
  refine sd_ofWz (plainFor_of_name (by decide +kernel)) (Nat.le_of_ble_eq_true rfl) ?_
  intro p e s m args below meth c ls Q A X hmn hw hA hl hret
  have hl : lv_has ls 1 [(0, .ref (E0.2.1 87))] := hl
  have hR : sd_RR (sd_R fr_J5_isLatin1_aae02 lo_J5_isLatin1_aae02 S0 o.2) S0 o.2 := ⟨Nat.le_refl _, Nat.le_refl _⟩
  have hE : sd_EE al_J5_isLatin1_aae02 E0 E0 := sd_EE.rf
  have hc : sd_Ct S0 S0 0 0 := ⟨Nat.le_refl _, Nat.le_refl _⟩
  have B18 : ∀ (t0 : Int32) (E : si_Ev) (S : si_St) (H : Heap) (locs : List Loc) (ls : Array Slot) (cs ss : Nat), f_J5_isLatin1_aae02_h18 F t0 S = some o → sd_EE al_J5_isLatin1_aae02 E0 E → si_Cx p s m args c cJ5_isLatin1_aae02 1 yJ5_isLatin1_aae02.cls E A → si_Ws E A s.heap S H locs → sd_Ct S0 S cs ss → lv_has ls 1 [] → W p l e (sd_R fr_J5_isLatin1_aae02 lo_J5_isLatin1_aae02 S0 o.2) s m args below meth c H locs cs ss Q (F0 m 18 ls [.int t0]) := by
    intro t0  E S H locs ls cs ss hf hE X hw hc hl
    have hcs := sd_room hc (mo_J5_isLatin1_aae02_h18 F _ _ _ hf) hR
    unfold f_J5_isLatin1_aae02_h18 at hf
    obtain ⟨v1, ev1, hf⟩ := si_ob hf
    exact hret _ _ _ _ _ _ _ _ _ (si_bzf ev1 hf) (si_nz (si_bz_inv ev1).1) ⟨hE, hw, hc⟩ dJ5_isLatin1_aae02_18
  have B17 : ∀ (E : si_Ev) (S : si_St) (H : Heap) (locs : List Loc) (ls : Array Slot) (cs ss : Nat), f_J5_isLatin1_aae02_h17 F S = some o → sd_EE al_J5_isLatin1_aae02 E0 E → si_Cx p s m args c cJ5_isLatin1_aae02 1 yJ5_isLatin1_aae02.cls E A → si_Ws E A s.heap S H locs → sd_Ct S0 S cs ss → lv_has ls 1 [] → W p l e (sd_R fr_J5_isLatin1_aae02 lo_J5_isLatin1_aae02 S0 o.2) s m args below meth c H locs cs ss Q (F0 m 17 ls []) := by
    intro   E S H locs ls cs ss hf hE X hw hc hl
    have hcs := sd_room hc (mo_J5_isLatin1_aae02_h17 F _ _ hf) hR
    unfold f_J5_isLatin1_aae02_h17 at hf
    refine lv_iconst (v := 0) X.1 X.2.1 dJ5_isLatin1_aae02_17 (by decide) ?_
    exact B18 _ _ _ _ _ _ _ _ hf hE X hw hc (lv_sub hl [] rfl)
  have B0 : ∀ (E : si_Ev) (S : si_St) (H : Heap) (locs : List Loc) (ls : Array Slot) (cs ss : Nat), f_J5_isLatin1_aae02_h0 F S = some o → sd_EE al_J5_isLatin1_aae02 E0 E → si_Cx p s m args c cJ5_isLatin1_aae02 1 yJ5_isLatin1_aae02.cls E A → si_Ws E A s.heap S H locs → sd_Ct S0 S cs ss → lv_has ls 1 [(0, .ref (E.2.1 87))] → W p l e (sd_R fr_J5_isLatin1_aae02 lo_J5_isLatin1_aae02 S0 o.2) s m args below meth c H locs cs ss Q (F0 m 0 ls []) := by
    intro   E S H locs ls cs ss hf hE X hw hc hl
    have hcs := sd_room hc (mo_J5_isLatin1_aae02_h0 F _ _ hf) hR
    unfold f_J5_isLatin1_aae02_h0 at hf
    refine si_gsC X hw.2.2 gf_RJ5_18 dJ5_isLatin1_aae02_0 ?_
    refine lv_if_eq (tgt := 17) X.1 X.2.1 dJ5_isLatin1_aae02_3 (by decide) (fun c3 => ?_) (fun c3 => ?_)
    · have hf := si_ip c3 hf
      exact B17 _ _ _ _ _ _ _ hf hE X hw hc (lv_sub hl [] rfl)
    · have hf := si_in c3 hf
      refine lv_aload_n X.1 X.2.1 dJ5_isLatin1_aae02_6 rfl (lv_at hl 0 rfl) ?_
      obtain ⟨v2, ev2, hf⟩ := si_ob hf
      refine sd_getI X hw sd_cl20 1 (by decide) (Or.inl gf_RJ5_22) rfl rfl rfl ev2 dJ5_isLatin1_aae02_7 ?_
      refine lv_if_ne (tgt := 17) X.1 X.2.1 dJ5_isLatin1_aae02_10 (by decide) (fun c10 => ?_) (fun c10 => ?_)
      · have hf := si_in c10 hf
        exact B17 _ _ _ _ _ _ _ hf hE X hw hc (lv_sub hl [] rfl)
      · have hf := si_ip c10 hf
        refine lv_iconst (v := 1) X.1 X.2.1 dJ5_isLatin1_aae02_13 (by decide) ?_
        refine lv_goto (tgt := 18) X.1 X.2.1 dJ5_isLatin1_aae02_14 (by decide) ?_
        exact B18 _ _ _ _ _ _ _ _ hf hE X hw hc (lv_sub hl [] rfl)
  unfold f_J5_isLatin1_aae02 at hf
  exact B0 _ _ _ _ _ _ _ hf hE X hw hc (lv_sub hl [0] rfl)
def al_J5_length_8abf5 : Nat → Bool := fun _ => false
def f_J5_length_8abf5_h0 (F : Nat) (S : si_St) : Option (Int32 × si_St) :=
  Option.bind (sd_gi S 87 3) fun v1 => some (v1, S)
def f_J5_length_8abf5 (F : Nat) (S : si_St) : Option (Int32 × si_St) :=
  f_J5_length_8abf5_h0 F S
theorem mo_J5_length_8abf5_h0 (F : Nat) (S : si_St) (o : Int32 × si_St) (h : f_J5_length_8abf5_h0 F S = some o) : sd_le S o.2 := by
  have g : sd_le S S := sd_le.rf
  unfold f_J5_length_8abf5_h0 at h
  obtain ⟨v1, ev1, h⟩ := si_ob h
  obtain rfl := Option.some.inj h
  exact g
theorem mo_J5_length_8abf5 (F : Nat) (S : si_St) (o : Int32 × si_St) (h : f_J5_length_8abf5 F S = some o) : sd_le S o.2 := by
  have g : sd_le S S := sd_le.rf
  unfold f_J5_length_8abf5 at h
  exact g.tr (mo_J5_length_8abf5_h0 F _ _ h)
abbrev fr_J5_length_8abf5 : Nat := 0
abbrev lo_J5_length_8abf5 : Nat := 0
set_option maxHeartbeats 4000000 in
set_option maxRecDepth 100000 in
theorem c_J5_length_8abf5 (l : Launch) (E0 : si_Ev) (F : Nat) (S0 : si_St) (o : Int32 × si_St) (hf : f_J5_length_8abf5 F S0 = some o) : sd_Mi l al_J5_length_8abf5 E0 yJ5_length_8abf5 cJ5_length_8abf5 1 (some .int) fr_J5_length_8abf5 lo_J5_length_8abf5 [.ref (E0.2.1 87)] S0 o := by
  refine sd_ofWz (plainFor_of_name (by decide +kernel)) (Nat.le_of_ble_eq_true rfl) ?_
  intro p e s m args below meth c ls Q A X hmn hw hA hl hret
  have hl : lv_has ls 1 [(0, .ref (E0.2.1 87))] := hl
  have hR : sd_RR (sd_R fr_J5_length_8abf5 lo_J5_length_8abf5 S0 o.2) S0 o.2 := ⟨Nat.le_refl _, Nat.le_refl _⟩
  have hE : sd_EE al_J5_length_8abf5 E0 E0 := sd_EE.rf
  have hc : sd_Ct S0 S0 0 0 := ⟨Nat.le_refl _, Nat.le_refl _⟩
  have B0 : ∀ (E : si_Ev) (S : si_St) (H : Heap) (locs : List Loc) (ls : Array Slot) (cs ss : Nat), f_J5_length_8abf5_h0 F S = some o → sd_EE al_J5_length_8abf5 E0 E → si_Cx p s m args c cJ5_length_8abf5 1 yJ5_length_8abf5.cls E A → si_Ws E A s.heap S H locs → sd_Ct S0 S cs ss → lv_has ls 1 [(0, .ref (E.2.1 87))] → W p l e (sd_R fr_J5_length_8abf5 lo_J5_length_8abf5 S0 o.2) s m args below meth c H locs cs ss Q (F0 m 0 ls []) := by
    intro   E S H locs ls cs ss hf hE X hw hc hl
    have hcs := sd_room hc (mo_J5_length_8abf5_h0 F _ _ hf) hR
    unfold f_J5_length_8abf5_h0 at hf
    refine lv_aload_n X.1 X.2.1 dJ5_length_8abf5_0 rfl (lv_at hl 0 rfl) ?_
    obtain ⟨v1, ev1, hf⟩ := si_ob hf
    refine sd_getI X hw sd_cl20 3 (by decide) (Or.inl gf_RJ5_79) rfl rfl rfl ev1 dJ5_length_8abf5_1 ?_
    exact hret _ _ _ _ _ _ _ _ _ hf rfl ⟨hE, hw, hc⟩ dJ5_length_8abf5_4
  unfold f_J5_length_8abf5 at hf
  exact B0 _ _ _ _ _ _ _ hf hE X hw hc (lv_sub hl [0] rfl)
def al_J4_length_8abf5 : Nat → Bool := fun _ => false
def f_J4_length_8abf5_h4 (F : Nat) (t0 : Int32) (S : si_St) : Option (Int32 × si_St) :=
  some (t0, S)
def f_J4_length_8abf5_h0 (F : Nat) (S : si_St) : Option (Int32 × si_St) :=
  if ¬ (sd_ok S 87) then none else Option.bind (f_J5_length_8abf5 F S) fun q1 => f_J4_length_8abf5_h4 F q1.1 q1.2
def f_J4_length_8abf5 (F : Nat) (S : si_St) : Option (Int32 × si_St) :=
  f_J4_length_8abf5_h0 F S
theorem mo_J4_length_8abf5_h4 (F : Nat) (t0 : Int32) (S : si_St) (o : Int32 × si_St) (h : f_J4_length_8abf5_h4 F t0 S = some o) : sd_le S o.2 := by
  have g : sd_le S S := sd_le.rf
  unfold f_J4_length_8abf5_h4 at h
  obtain rfl := Option.some.inj h
  exact g
theorem mo_J4_length_8abf5_h0 (F : Nat) (S : si_St) (o : Int32 × si_St) (h : f_J4_length_8abf5_h0 F S = some o) : sd_le S o.2 := by
  have g : sd_le S S := sd_le.rf
  unfold f_J4_length_8abf5_h0 at h
  have hok1 : sd_ok S 87 := Decidable.byContradiction fun h9 => by rw [if_pos h9] at h; cases h
  have h := si_in (not_not_intro hok1) h
  obtain ⟨q1, eq1, h⟩ := si_ob h
  have g := g.tr (mo_J5_length_8abf5 F S q1 eq1)
  exact g.tr (mo_J4_length_8abf5_h4 F _ _ _ h)
theorem mo_J4_length_8abf5 (F : Nat) (S : si_St) (o : Int32 × si_St) (h : f_J4_length_8abf5 F S = some o) : sd_le S o.2 := by
  have g : sd_le S S := sd_le.rf
  unfold f_J4_length_8abf5 at h
  exact g.tr (mo_J4_length_8abf5_h0 F _ _ h)
abbrev fr_J4_length_8abf5 : Nat := 1
abbrev lo_J4_length_8abf5 : Nat := 20
set_option maxHeartbeats 4000000 in
set_option maxRecDepth 100000 in
theorem c_J4_length_8abf5 (l : Launch) (E0 : si_Ev) (F : Nat) (S0 : si_St) (o : Int32 × si_St) (hf : f_J4_length_8abf5 F S0 = some o) : sd_Mi l al_J4_length_8abf5 E0 yJ4_length_8abf5 cJ4_length_8abf5 1 (some .int) fr_J4_length_8abf5 lo_J4_length_8abf5 [.ref (E0.2.1 87)] S0 o := by
  refine sd_ofWz (plainFor_of_name (by decide +kernel)) (Nat.le_of_ble_eq_true rfl) ?_
  intro p e s m args below meth c ls Q A X hmn hw hA hl hret
  have hl : lv_has ls 1 [(0, .ref (E0.2.1 87))] := hl
  have hR : sd_RR (sd_R fr_J4_length_8abf5 lo_J4_length_8abf5 S0 o.2) S0 o.2 := ⟨Nat.le_refl _, Nat.le_refl _⟩
  have hE : sd_EE al_J4_length_8abf5 E0 E0 := sd_EE.rf
  have hc : sd_Ct S0 S0 0 0 := ⟨Nat.le_refl _, Nat.le_refl _⟩
  have B4 : ∀ (t0 : Int32) (E : si_Ev) (S : si_St) (H : Heap) (locs : List Loc) (ls : Array Slot) (cs ss : Nat), f_J4_length_8abf5_h4 F t0 S = some o → sd_EE al_J4_length_8abf5 E0 E → si_Cx p s m args c cJ4_length_8abf5 1 yJ4_length_8abf5.cls E A → si_Ws E A s.heap S H locs → sd_Ct S0 S cs ss → lv_has ls 1 [] → W p l e (sd_R fr_J4_length_8abf5 lo_J4_length_8abf5 S0 o.2) s m args below meth c H locs cs ss Q (F0 m 4 ls [.int t0]) := by
    intro t0  E S H locs ls cs ss hf hE X hw hc hl
    have hcs := sd_room hc (mo_J4_length_8abf5_h4 F _ _ _ hf) hR
    unfold f_J4_length_8abf5_h4 at hf
    exact hret _ _ _ _ _ _ _ _ _ hf rfl ⟨hE, hw, hc⟩ dJ4_length_8abf5_4
  have B0 : ∀ (E : si_Ev) (S : si_St) (H : Heap) (locs : List Loc) (ls : Array Slot) (cs ss : Nat), f_J4_length_8abf5_h0 F S = some o → sd_EE al_J4_length_8abf5 E0 E → si_Cx p s m args c cJ4_length_8abf5 1 yJ4_length_8abf5.cls E A → si_Ws E A s.heap S H locs → sd_Ct S0 S cs ss → lv_has ls 1 [(0, .ref (E.2.1 87))] → W p l e (sd_R fr_J4_length_8abf5 lo_J4_length_8abf5 S0 o.2) s m args below meth c H locs cs ss Q (F0 m 0 ls []) := by
    intro   E S H locs ls cs ss hf hE X hw hc hl
    have hcs := sd_room hc (mo_J4_length_8abf5_h0 F _ _ hf) hR
    unfold f_J4_length_8abf5_h0 at hf
    refine lv_aload_n X.1 X.2.1 dJ4_length_8abf5_0 rfl (lv_at hl 0 rfl) ?_
    have hok1 : sd_ok S 87 := Decidable.byContradiction fun h9 => by rw [if_pos h9] at hf; cases hf
    have hf := si_in (not_not_intro hok1) hf
    obtain ⟨q1, eq1, hf⟩ := si_ob hf
    refine sd_goi (sd_runSU (As := []) (rest := []) sd_cl20 rfl hok1 csu_J5_length_8abf5 gm_RJ4_343 X hw hA hl.1 ((c_J5_length_8abf5 l E F S q1 eq1) H.size) ⟨Nat.le_of_ble_eq_true rfl, Nat.le_of_ble_eq_true rfl⟩ rfl (Nat.le_of_ble_eq_true rfl) (sd_room2 hc (mo_J5_length_8abf5 F S q1 eq1) (mo_J4_length_8abf5_h4 F _ _ _ hf) hR) dJ4_length_8abf5_1) X hw hA hE hc (mo_J5_length_8abf5 F S q1 eq1) (fun _ _ => rfl) (fun E H locs cs ss hZ hE X hw hc => ?_)
    rw [← hZ.at 87 rfl] at hl
    exact B4 _ _ _ _ _ _ _ _ hf hE X hw hc (lv_sub hl [] rfl)
  unfold f_J4_length_8abf5 at hf
  exact B0 _ _ _ _ _ _ _ hf hE X hw hc (lv_sub hl [0] rfl)
def al_J5_getValue_6d5f1 : Nat → Bool := fun _ => false
def f_J5_getValue_6d5f1_h0 (F : Nat) (S : si_St) : Option (si_St) :=
  if ¬ (sd_ok S 87 ∧ S.1 87 0 ≠ 0) then none else some S
def f_J5_getValue_6d5f1 (F : Nat) (S : si_St) : Option (si_St) :=
  f_J5_getValue_6d5f1_h0 F S
theorem mo_J5_getValue_6d5f1_h0 (F : Nat) (S : si_St) (o : si_St) (h : f_J5_getValue_6d5f1_h0 F S = some o) : sd_le S o := by
  have g : sd_le S S := sd_le.rf
  unfold f_J5_getValue_6d5f1_h0 at h
  have hgr1 : sd_ok S 87 ∧ S.1 87 0 ≠ 0 := Decidable.byContradiction fun h9 => by rw [if_pos h9] at h; cases h
  have h := si_in (not_not_intro hgr1) h
  obtain rfl := Option.some.inj h
  exact g
theorem mo_J5_getValue_6d5f1 (F : Nat) (S : si_St) (o : si_St) (h : f_J5_getValue_6d5f1 F S = some o) : sd_le S o := by
  have g : sd_le S S := sd_le.rf
  unfold f_J5_getValue_6d5f1 at h
  exact g.tr (mo_J5_getValue_6d5f1_h0 F _ _ h)
abbrev fr_J5_getValue_6d5f1 : Nat := 0
abbrev lo_J5_getValue_6d5f1 : Nat := 0
set_option maxHeartbeats 4000000 in
set_option maxRecDepth 100000 in
theorem c_J5_getValue_6d5f1 (l : Launch) (E0 : si_Ev) (F : Nat) (S0 : si_St) (o : si_St) (hf : f_J5_getValue_6d5f1 F S0 = some o) : sd_Mr l al_J5_getValue_6d5f1 E0 yJ5_getValue_6d5f1 cJ5_getValue_6d5f1 1 (some (.array .byte)) fr_J5_getValue_6d5f1 lo_J5_getValue_6d5f1 [.ref (E0.2.1 87)] S0 88 o := by
  refine sd_ofWr (Or.inr ⟨_, rfl⟩) (plainFor_of_name (by decide +kernel)) (Nat.le_of_ble_eq_true rfl) ?_
  intro p e s m args below meth c ls Q A X hmn hw hA hl hret
  have hl : lv_has ls 1 [(0, .ref (E0.2.1 87))] := hl
  have hR : sd_RR (sd_R fr_J5_getValue_6d5f1 lo_J5_getValue_6d5f1 S0 o) S0 o := ⟨Nat.le_refl _, Nat.le_refl _⟩
  have hE : sd_EE al_J5_getValue_6d5f1 E0 E0 := sd_EE.rf
  have hc : sd_Ct S0 S0 0 0 := ⟨Nat.le_refl _, Nat.le_refl _⟩
  have B0 : ∀ (E : si_Ev) (S : si_St) (H : Heap) (locs : List Loc) (ls : Array Slot) (cs ss : Nat), f_J5_getValue_6d5f1_h0 F S = some o → sd_EE al_J5_getValue_6d5f1 E0 E → si_Cx p s m args c cJ5_getValue_6d5f1 1 yJ5_getValue_6d5f1.cls E A → si_Ws E A s.heap S H locs → sd_Ct S0 S cs ss → lv_has ls 1 [(0, .ref (E.2.1 87))] → W p l e (sd_R fr_J5_getValue_6d5f1 lo_J5_getValue_6d5f1 S0 o) s m args below meth c H locs cs ss Q (F0 m 0 ls []) := by
    intro   E S H locs ls cs ss hf hE X hw hc hl
    have hcs := sd_room hc (mo_J5_getValue_6d5f1_h0 F _ _ hf) hR
    unfold f_J5_getValue_6d5f1_h0 at hf
    refine lv_aload_n X.1 X.2.1 dJ5_getValue_6d5f1_0 rfl (lv_at hl 0 rfl) ?_
    have hgr1 : sd_ok S 87 ∧ S.1 87 0 ≠ 0 := Decidable.byContradiction fun h9 => by rw [if_pos h9] at hf; cases hf
    have hf := si_in (not_not_intro hgr1) hf
    refine sd_getR X hw sd_cl20 0 (by decide) (Or.inl gf_RJ5_15) rfl rfl rfl hgr1 dJ5_getValue_6d5f1_1 ?_
    exact hret _ _ _ _ _ _ _ _ hf ⟨hE, hw, hc⟩ dJ5_getValue_6d5f1_4
  unfold f_J5_getValue_6d5f1 at hf
  exact B0 _ _ _ _ _ _ _ hf hE X hw hc (lv_sub hl [0] rfl)
def on_J8_newLength_cabcc : List Nat := []
def f_J8_newLength_cabcc (F : Nat) (x0 : Int32) (x1 : Int32) (x2 : Int32) (S : si_St) : Option (Int32 × si_St) :=
  Option.bind (some (x0 + (si_max x1 x2))) fun v1 => if v1 ≤ (0 : Int32) then (none) else (if 2147483639 < v1 then (none) else (some (v1, S)))
theorem fr_J8_newLength_cabcc (F : Nat) (x0 : Int32) (x1 : Int32) (x2 : Int32) (S : si_St) (o : Int32 × si_St) (h : f_J8_newLength_cabcc F x0 x1 x2 S = some o) : sd_on on_J8_newLength_cabcc S o.2 := by
  have g : sd_on on_J8_newLength_cabcc S S := sd_on.rf
  unfold f_J8_newLength_cabcc at h
  obtain ⟨v1, ev1, h⟩ := si_ob h
  rcases Decidable.em (v1 ≤ (0 : Int32)) with c10 | c10
  · have h := si_ip c10 h
    cases h
  · have h := si_in c10 h
    rcases Decidable.em (2147483639 < v1) with c16 | c16
    · have h := si_ip c16 h
      cases h
    · have h := si_in c16 h
      obtain rfl := Option.some.inj h
      exact g
abbrev rm_J8_newLength_cabcc : Room := { frames := 1, cells := 0, slots := 0, locals := 23 }
set_option maxHeartbeats 4000000 in
set_option maxRecDepth 100000 in
theorem c_J8_newLength_cabcc (l : Launch) (E : si_Ev) (F : Nat) (x0 : Int32) (x1 : Int32) (x2 : Int32) (S : si_St) (o : Int32 × si_St) (hf : f_J8_newLength_cabcc F x0 x1 x2 S = some o) : si_Mi l E yJ8_newLength_cabcc cJ8_newLength_cabcc 4 (some .int) rm_J8_newLength_cabcc [.int x0, .int x1, .int x2] S o := by
  refine si_ofWi (plainFor_of_name (by decide +kernel)) (Nat.le_of_ble_eq_true rfl) ?_
  intro p e s m args below meth c ls Q A X hw hA hl hret
  have hl : lv_has ls 4 [(0, .int x0), (1, .int x1), (2, .int x2)] := hl
  unfold f_J8_newLength_cabcc at hf
  refine lv_iload_n X.1 X.2.1 dJ8_newLength_cabcc_0 rfl (lv_at hl 0 rfl) ?_
  refine lv_iload_n X.1 X.2.1 dJ8_newLength_cabcc_1 rfl (lv_at hl 1 rfl) ?_
  refine lv_iload_n X.1 X.2.1 dJ8_newLength_cabcc_2 rfl (lv_at hl 2 rfl) ?_
  refine si_mmax hl.1 X (Nat.le_of_ble_eq_true rfl) (Nat.le_of_ble_eq_true rfl) gm_RJ8_194 ⟨Nat.zero_le _, Nat.zero_le _⟩ dJ8_newLength_cabcc_3 ?_
  refine lv_iadd X.1 X.2.1 dJ8_newLength_cabcc_6 ?_
  obtain ⟨v1, ev1, hf⟩ := si_ob hf
  refine si_nmI ev1 ?_
  refine lv_istore_n (lv' := [(3, .int v1), (0, .int x0), (1, .int x1), (2, .int x2)]) X.1 X.2.1 dJ8_newLength_cabcc_7 rfl hl (by decide) rfl (fun ls hl => ?_)
  refine lv_iconst (v := 0) X.1 X.2.1 dJ8_newLength_cabcc_8 (by decide) ?_
  refine lv_iload_n X.1 X.2.1 dJ8_newLength_cabcc_9 rfl (lv_at hl 0 rfl) ?_
  refine lv_icmp_ge (tgt := 21) X.1 X.2.1 dJ8_newLength_cabcc_10 (by decide) (fun c10 => ?_) (fun c10 => ?_)
  · have hf := si_ip c10 hf
    cases hf
  · have hf := si_in c10 hf
    refine lv_iload_n X.1 X.2.1 dJ8_newLength_cabcc_13 rfl (lv_at hl 0 rfl) ?_
    refine lv_ldc (v := 2147483639) X.1 X.2.1 X.2.2.2.1 (si_wd X gk_RJ8_200) dJ8_newLength_cabcc_14 ?_
    refine lv_icmp_gt (tgt := 21) X.1 X.2.1 dJ8_newLength_cabcc_16 (by decide) (fun c16 => ?_) (fun c16 => ?_)
    · have hf := si_ip c16 hf
      cases hf
    · have hf := si_in c16 hf
      refine lv_iload_n X.1 X.2.1 dJ8_newLength_cabcc_19 rfl (lv_at hl 0 rfl) ?_
      exact hret _ _ _ _ _ _ hf hw dJ8_newLength_cabcc_20
def al_J5_newCapacity_0f7a4 : Nat → Bool := fun _ => false
def f_J5_newCapacity_0f7a4_h0 (F : Nat) (x1 : Int32) (S : si_St) : Option (Int32 × si_St) :=
  if ¬ (sd_ok S 87 ∧ S.1 87 0 ≠ 0) then none else Option.bind (sd_al S 88) fun v1 => Option.bind (sd_gi S 87 1) fun v2 => Option.bind (some (x1 <<< (v2 &&& 31))) fun v3 => Option.bind (some (v3 - v1)) fun v4 => Option.bind (sd_gi S 87 1) fun v5 => Option.bind (f_J8_newLength_cabcc F v1 v4 (v1 + (2 <<< (v5 &&& 31))) S) fun q6 => if q6.1 = 2147483647 then (none) else (Option.bind (sd_gi q6.2 87 1) fun v7 => some ((q6.1 >>> (v7 &&& 31)), q6.2))
def f_J5_newCapacity_0f7a4 (F : Nat) (x1 : Int32) (S : si_St) : Option (Int32 × si_St) :=
  f_J5_newCapacity_0f7a4_h0 F x1 S
theorem mo_J5_newCapacity_0f7a4_h0 (F : Nat) (x1 : Int32) (S : si_St) (o : Int32 × si_St) (h : f_J5_newCapacity_0f7a4_h0 F x1 S = some o) : sd_le S o.2 := by
  have g : sd_le S S := sd_le.rf
  unfold f_J5_newCapacity_0f7a4_h0 at h
  have hgr1 : sd_ok S 87 ∧ S.1 87 0 ≠ 0 := Decidable.byContradiction fun h9 => by rw [if_pos h9] at h; cases h
  have h := si_in (not_not_intro hgr1) h
  obtain ⟨v1, ev1, h⟩ := si_ob h
  obtain ⟨v2, ev2, h⟩ := si_ob h
  obtain ⟨v3, ev3, h⟩ := si_ob h
  obtain ⟨v4, ev4, h⟩ := si_ob h
  obtain ⟨v5, ev5, h⟩ := si_ob h
  obtain ⟨q6, eq6, h⟩ := si_ob h
  have g := g.tr (fr_J8_newLength_cabcc F v1 v4 (v1 + (2 <<< (v5 &&& 31))) S q6 eq6).le
  rcases Decidable.em (q6.1 = 2147483647) with c38 | c38
  · have h := si_ip c38 h
    cases h
  · have h := si_in c38 h
    obtain ⟨v7, ev7, h⟩ := si_ob h
    obtain rfl := Option.some.inj h
    exact g
theorem mo_J5_newCapacity_0f7a4 (F : Nat) (x1 : Int32) (S : si_St) (o : Int32 × si_St) (h : f_J5_newCapacity_0f7a4 F x1 S = some o) : sd_le S o.2 := by
  have g : sd_le S S := sd_le.rf
  unfold f_J5_newCapacity_0f7a4 at h
  exact g.tr (mo_J5_newCapacity_0f7a4_h0 F _ _ _ h)
abbrev fr_J5_newCapacity_0f7a4 : Nat := 2
abbrev lo_J5_newCapacity_0f7a4 : Nat := 46
set_option maxHeartbeats 4000000 in
set_option maxRecDepth 100000 in
theorem c_J5_newCapacity_0f7a4 (l : Launch) (E0 : si_Ev) (F : Nat) (x1 : Int32) (S0 : si_St) (o : Int32 × si_St) (hf : f_J5_newCapacity_0f7a4 F x1 S0 = some o) : sd_Mi l al_J5_newCapacity_0f7a4 E0 yJ5_newCapacity_0f7a4 cJ5_newCapacity_0f7a4 6 (some .int) fr_J5_newCapacity_0f7a4 lo_J5_newCapacity_0f7a4 [.ref (E0.2.1 87), .int x1] S0 o := by
  refine sd_ofWz (plainFor_of_name (by decide +kernel)) (Nat.le_of_ble_eq_true rfl) ?_
  intro p e s m args below meth c ls Q A X hmn hw hA hl hret
  have hl : lv_has ls 6 [(0, .ref (E0.2.1 87)), (1, .int x1)] := hl
  have hR : sd_RR (sd_R fr_J5_newCapacity_0f7a4 lo_J5_newCapacity_0f7a4 S0 o.2) S0 o.2 := ⟨Nat.le_refl _, Nat.le_refl _⟩
  have hE : sd_EE al_J5_newCapacity_0f7a4 E0 E0 := sd_EE.rf
  have hc : sd_Ct S0 S0 0 0 := ⟨Nat.le_refl _, Nat.le_refl _⟩
  have B0 : ∀ (x1 : Int32) (E : si_Ev) (S : si_St) (H : Heap) (locs : List Loc) (ls : Array Slot) (cs ss : Nat), f_J5_newCapacity_0f7a4_h0 F x1 S = some o → sd_EE al_J5_newCapacity_0f7a4 E0 E → si_Cx p s m args c cJ5_newCapacity_0f7a4 6 yJ5_newCapacity_0f7a4.cls E A → si_Ws E A s.heap S H locs → sd_Ct S0 S cs ss → lv_has ls 6 [(0, .ref (E.2.1 87)), (1, .int x1)] → W p l e (sd_R fr_J5_newCapacity_0f7a4 lo_J5_newCapacity_0f7a4 S0 o.2) s m args below meth c H locs cs ss Q (F0 m 0 ls []) := by
    intro x1  E S H locs ls cs ss hf hE X hw hc hl
    have hcs := sd_room hc (mo_J5_newCapacity_0f7a4_h0 F _ _ _ hf) hR
    unfold f_J5_newCapacity_0f7a4_h0 at hf
    refine lv_aload_n X.1 X.2.1 dJ5_newCapacity_0f7a4_0 rfl (lv_at hl 0 rfl) ?_
    have hgr1 : sd_ok S 87 ∧ S.1 87 0 ≠ 0 := Decidable.byContradiction fun h9 => by rw [if_pos h9] at hf; cases hf
    have hf := si_in (not_not_intro hgr1) hf
    refine sd_getR X hw sd_cl20 0 (by decide) (Or.inl gf_RJ5_15) rfl rfl rfl hgr1 dJ5_newCapacity_0f7a4_1 ?_
    obtain ⟨v1, ev1, hf⟩ := si_ob hf
    refine sd_alen X hw (Or.inl rfl) ev1 dJ5_newCapacity_0f7a4_4 ?_
    refine lv_istore_n (lv' := [(2, .int v1), (0, .ref (E.2.1 87)), (1, .int x1)]) X.1 X.2.1 dJ5_newCapacity_0f7a4_5 rfl hl (by decide) rfl (fun ls hl => ?_)
    refine lv_iload_n X.1 X.2.1 dJ5_newCapacity_0f7a4_6 rfl (lv_at hl 2 rfl) ?_
    refine lv_aload_n X.1 X.2.1 dJ5_newCapacity_0f7a4_7 rfl (lv_at hl 1 rfl) ?_
    obtain ⟨v2, ev2, hf⟩ := si_ob hf
    refine sd_getI X hw sd_cl20 1 (by decide) (Or.inl gf_RJ5_22) rfl rfl rfl ev2 dJ5_newCapacity_0f7a4_8 ?_
    refine lv_ishl X.1 X.2.1 dJ5_newCapacity_0f7a4_11 ?_
    obtain ⟨v3, ev3, hf⟩ := si_ob hf
    refine si_nmI ev3 ?_
    refine lv_istore_n (lv' := [(3, .int v3), (2, .int v1), (0, .ref (E.2.1 87)), (1, .int x1)]) X.1 X.2.1 dJ5_newCapacity_0f7a4_12 rfl hl (by decide) rfl (fun ls hl => ?_)
    refine lv_iload_n X.1 X.2.1 dJ5_newCapacity_0f7a4_13 rfl (lv_at hl 0 rfl) ?_
    refine lv_iload_n X.1 X.2.1 dJ5_newCapacity_0f7a4_14 rfl (lv_at hl 1 rfl) ?_
    refine lv_isub X.1 X.2.1 dJ5_newCapacity_0f7a4_15 ?_
    obtain ⟨v4, ev4, hf⟩ := si_ob hf
    refine si_nmI ev4 ?_
    refine lv_istore (lv' := [(4, .int v4), (3, .int v3), (2, .int v1), (0, .ref (E.2.1 87)), (1, .int x1)]) X.1 X.2.1 dJ5_newCapacity_0f7a4_16 hl (by decide) rfl (fun ls hl => ?_)
    refine lv_iload_n X.1 X.2.1 dJ5_newCapacity_0f7a4_18 rfl (lv_at hl 2 rfl) ?_
    refine lv_iload X.1 X.2.1 dJ5_newCapacity_0f7a4_19 (lv_at hl 0 rfl) ?_
    refine lv_iload_n X.1 X.2.1 dJ5_newCapacity_0f7a4_21 rfl (lv_at hl 2 rfl) ?_
    refine lv_iconst (v := 2) X.1 X.2.1 dJ5_newCapacity_0f7a4_22 (by decide) ?_
    refine lv_aload_n X.1 X.2.1 dJ5_newCapacity_0f7a4_23 rfl (lv_at hl 3 rfl) ?_
    obtain ⟨v5, ev5, hf⟩ := si_ob hf
    refine sd_getI X hw sd_cl20 1 (by decide) (Or.inl gf_RJ5_22) rfl rfl rfl ev5 dJ5_newCapacity_0f7a4_24 ?_
    refine lv_ishl X.1 X.2.1 dJ5_newCapacity_0f7a4_27 ?_
    refine lv_iadd X.1 X.2.1 dJ5_newCapacity_0f7a4_28 ?_
    obtain ⟨q6, eq6, hf⟩ := si_ob hf
    refine si_cSi [.int v1, .int v4, .int (v1 + (2 <<< (v5 &&& 31)))] cal_J8_newLength_cabcc gm_RJ5_114 X hw hA hl.1 (c_J8_newLength_cabcc l E F v1 v4 (v1 + (2 <<< (v5 &&& 31))) S q6 eq6) ⟨⟨rfl, rfl⟩, Nat.le_of_ble_eq_true rfl, Nat.le_of_ble_eq_true rfl⟩ rfl rfl (Nat.le_of_ble_eq_true rfl) hcs dJ5_newCapacity_0f7a4_29 (fun H locs hw => ?_)
    have hc := hc.up (fr_J8_newLength_cabcc F v1 v4 (v1 + (2 <<< (v5 &&& 31))) S q6 eq6).le
    refine lv_istore (lv' := [(5, .int q6.1), (4, .int v4), (3, .int v3), (2, .int v1), (0, .ref (E.2.1 87)), (1, .int x1)]) X.1 X.2.1 dJ5_newCapacity_0f7a4_32 hl (by decide) rfl (fun ls hl => ?_)
    refine lv_iload X.1 X.2.1 dJ5_newCapacity_0f7a4_34 (lv_at hl 0 rfl) ?_
    refine lv_ldc (v := 2147483647) X.1 X.2.1 X.2.2.2.1 (si_wd X gk_RJ5_39) dJ5_newCapacity_0f7a4_36 ?_
    refine lv_icmp_ne (tgt := 51) X.1 X.2.1 dJ5_newCapacity_0f7a4_38 (by decide) (fun c38 => ?_) (fun c38 => ?_)
    · have hf := si_in c38 hf
      refine lv_iload X.1 X.2.1 dJ5_newCapacity_0f7a4_51 (lv_at hl 0 rfl) ?_
      refine lv_aload_n X.1 X.2.1 dJ5_newCapacity_0f7a4_53 rfl (lv_at hl 4 rfl) ?_
      obtain ⟨v7, ev7, hf⟩ := si_ob hf
      refine sd_getI X hw sd_cl20 1 (by decide) (Or.inl gf_RJ5_22) rfl rfl rfl ev7 dJ5_newCapacity_0f7a4_54 ?_
      refine lv_ishr X.1 X.2.1 dJ5_newCapacity_0f7a4_57 ?_
      exact hret _ _ _ _ _ _ _ _ _ hf rfl ⟨hE, hw, hc⟩ dJ5_newCapacity_0f7a4_58
    · have hf := si_ip c38 hf
      cases hf
  unfold f_J5_newCapacity_0f7a4 at hf
  exact B0 _ _ _ _ _ _ _ _ hf hE X hw hc (lv_sub hl [0, 1] rfl)
def al_J7_copyOf_9075b : Nat → Bool := fun a => decide (a = 100)
def f_J7_copyOf_9075b_h17 (F : Nat) (x1 : Int32) (S : si_St) : Option (si_St) :=
  Option.bind (sd_al S 88) fun v1 => Option.bind (sd_cp S 88 0 100 0 (si_min v1 x1)) fun S2 => some S2
def f_J7_copyOf_9075b_h0 (F : Nat) (x1 : Int32) (S : si_St) : Option (si_St) :=
  Option.bind (sd_al S 88) fun v3 => if x1 = v3 then (none) else (Option.bind (sd_na S 100 x1) fun S4 => f_J7_copyOf_9075b_h17 F x1 S4)
def f_J7_copyOf_9075b (F : Nat) (x1 : Int32) (S : si_St) : Option (si_St) :=
  f_J7_copyOf_9075b_h0 F x1 S
theorem mo_J7_copyOf_9075b_h17 (F : Nat) (x1 : Int32) (S : si_St) (o : si_St) (h : f_J7_copyOf_9075b_h17 F x1 S = some o) : sd_le S o := by
  have g : sd_le S S := sd_le.rf
  unfold f_J7_copyOf_9075b_h17 at h
  obtain ⟨v1, ev1, h⟩ := si_ob h
  obtain ⟨S2, eS2, h⟩ := si_ob h
  have g := g.tr (sd_cp_m eS2)
  obtain rfl := Option.some.inj h
  exact g
theorem mo_J7_copyOf_9075b_h0 (F : Nat) (x1 : Int32) (S : si_St) (o : si_St) (h : f_J7_copyOf_9075b_h0 F x1 S = some o) : sd_le S o := by
  have g : sd_le S S := sd_le.rf
  unfold f_J7_copyOf_9075b_h0 at h
  obtain ⟨v3, ev3, h⟩ := si_ob h
  rcases Decidable.em (x1 = v3) with c3 | c3
  · have h := si_ip c3 h
    cases h
  · have h := si_in c3 h
    obtain ⟨S4, eS4, h⟩ := si_ob h
    have g := g.tr (sd_na_m eS4)
    exact g.tr (mo_J7_copyOf_9075b_h17 F _ _ _ h)
theorem mo_J7_copyOf_9075b (F : Nat) (x1 : Int32) (S : si_St) (o : si_St) (h : f_J7_copyOf_9075b F x1 S = some o) : sd_le S o := by
  have g : sd_le S S := sd_le.rf
  unfold f_J7_copyOf_9075b at h
  exact g.tr (mo_J7_copyOf_9075b_h0 F _ _ _ h)
abbrev fr_J7_copyOf_9075b : Nat := 1
abbrev lo_J7_copyOf_9075b : Nat := 40
set_option maxHeartbeats 4000000 in
set_option maxRecDepth 100000 in
theorem c_J7_copyOf_9075b (l : Launch) (E0 : si_Ev) (F : Nat) (x1 : Int32) (S0 : si_St) (o : si_St) (hf : f_J7_copyOf_9075b F x1 S0 = some o) : sd_Mr l al_J7_copyOf_9075b E0 yJ7_copyOf_9075b cJ7_copyOf_9075b 3 (some (.array .byte)) fr_J7_copyOf_9075b lo_J7_copyOf_9075b [.ref (E0.2.1 88), .int x1] S0 100 o := by
  refine sd_ofWr (Or.inr ⟨_, rfl⟩) (plainFor_of_name (by decide +kernel)) (Nat.le_of_ble_eq_true rfl) ?_
  intro p e s m args below meth c ls Q A X hmn hw hA hl hret
  have hl : lv_has ls 3 [(0, .ref (E0.2.1 88)), (1, .int x1)] := hl
  have hR : sd_RR (sd_R fr_J7_copyOf_9075b lo_J7_copyOf_9075b S0 o) S0 o := ⟨Nat.le_refl _, Nat.le_refl _⟩
  have hE : sd_EE al_J7_copyOf_9075b E0 E0 := sd_EE.rf
  have hc : sd_Ct S0 S0 0 0 := ⟨Nat.le_refl _, Nat.le_refl _⟩
  have B17 : ∀ (x1 : Int32) (E : si_Ev) (S : si_St) (H : Heap) (locs : List Loc) (ls : Array Slot) (cs ss : Nat), f_J7_copyOf_9075b_h17 F x1 S = some o → sd_EE al_J7_copyOf_9075b E0 E → si_Cx p s m args c cJ7_copyOf_9075b 3 yJ7_copyOf_9075b.cls E A → si_Ws E A s.heap S H locs → sd_Ct S0 S cs ss → lv_has ls 3 [(0, .ref (E.2.1 88)), (1, .int x1)] → W p l e (sd_R fr_J7_copyOf_9075b lo_J7_copyOf_9075b S0 o) s m args below meth c H locs cs ss Q (F0 m 17 ls [.ref (E.2.1 100)]) := by
    intro x1  E S H locs ls cs ss hf hE X hw hc hl
    have hcs := sd_room hc (mo_J7_copyOf_9075b_h17 F _ _ _ hf) hR
    unfold f_J7_copyOf_9075b_h17 at hf
    refine lv_astore_n (lv' := [(2, .ref (E.2.1 100)), (0, .ref (E.2.1 88)), (1, .int x1)]) X.1 X.2.1 dJ7_copyOf_9075b_17 rfl hl (by decide) rfl (fun ls hl => ?_)
    refine lv_aload_n X.1 X.2.1 dJ7_copyOf_9075b_18 rfl (lv_at hl 1 rfl) ?_
    refine lv_iconst (v := 0) X.1 X.2.1 dJ7_copyOf_9075b_19 (by decide) ?_
    refine lv_aload_n X.1 X.2.1 dJ7_copyOf_9075b_20 rfl (lv_at hl 0 rfl) ?_
    refine lv_iconst (v := 0) X.1 X.2.1 dJ7_copyOf_9075b_21 (by decide) ?_
    refine lv_aload_n X.1 X.2.1 dJ7_copyOf_9075b_22 rfl (lv_at hl 1 rfl) ?_
    obtain ⟨v1, ev1, hf⟩ := si_ob hf
    refine sd_alen X hw (Or.inl rfl) ev1 dJ7_copyOf_9075b_23 ?_
    refine lv_iload_n X.1 X.2.1 dJ7_copyOf_9075b_24 rfl (lv_at hl 2 rfl) ?_
    refine si_mmin hl.1 X (Nat.le_of_ble_eq_true rfl) (Nat.le_of_ble_eq_true rfl) gm_RJ7_304 hcs dJ7_copyOf_9075b_25 ?_
    obtain ⟨S2, eS2, hf⟩ := si_ob hf
    refine sd_cpyR hl.1 X hw rfl rfl (Nat.le_of_ble_eq_true rfl) (Nat.le_of_ble_eq_true rfl) eS2 gm_RJ7_150 dJ7_copyOf_9075b_28 (fun H locs hw => ?_)
    have hc := hc.up (sd_cp_m eS2)
    refine lv_aload_n X.1 X.2.1 dJ7_copyOf_9075b_31 rfl (lv_at hl 0 rfl) ?_
    exact hret _ _ _ _ _ _ _ _ hf ⟨hE, hw, hc⟩ dJ7_copyOf_9075b_32
  have B0 : ∀ (x1 : Int32) (E : si_Ev) (S : si_St) (H : Heap) (locs : List Loc) (ls : Array Slot) (cs ss : Nat), f_J7_copyOf_9075b_h0 F x1 S = some o → sd_EE al_J7_copyOf_9075b E0 E → si_Cx p s m args c cJ7_copyOf_9075b 3 yJ7_copyOf_9075b.cls E A → si_Ws E A s.heap S H locs → sd_Ct S0 S cs ss → lv_has ls 3 [(0, .ref (E.2.1 88)), (1, .int x1)] → W p l e (sd_R fr_J7_copyOf_9075b lo_J7_copyOf_9075b S0 o) s m args below meth c H locs cs ss Q (F0 m 0 ls []) := by
    intro x1  E S H locs ls cs ss hf hE X hw hc hl
    have hcs := sd_room hc (mo_J7_copyOf_9075b_h0 F _ _ _ hf) hR
    unfold f_J7_copyOf_9075b_h0 at hf
    refine lv_iload_n X.1 X.2.1 dJ7_copyOf_9075b_0 rfl (lv_at hl 1 rfl) ?_
    refine lv_aload_n X.1 X.2.1 dJ7_copyOf_9075b_1 rfl (lv_at hl 0 rfl) ?_
    obtain ⟨v3, ev3, hf⟩ := si_ob hf
    refine sd_alen X hw (Or.inl rfl) ev3 dJ7_copyOf_9075b_2 ?_
    refine lv_icmp_ne (tgt := 14) X.1 X.2.1 dJ7_copyOf_9075b_3 (by decide) (fun c3 => ?_) (fun c3 => ?_)
    · have hf := si_in c3 hf
      refine lv_iload_n X.1 X.2.1 dJ7_copyOf_9075b_14 rfl (lv_at hl 1 rfl) ?_
      obtain ⟨S4, eS4, hf⟩ := si_ob hf
      refine sd_newB X hw hA hE hc hR ga_byte rfl rfl eS4 (mo_J7_copyOf_9075b_h17 F _ _ _ hf) dJ7_copyOf_9075b_15 (fun E H cs ss hZ hE X hw hc => ?_)
      rw [← hZ.at 88 rfl] at hl
      exact B17 _ _ _ _ _ _ _ _ hf hE X hw hc (lv_sub hl [0, 1] rfl)
    · have hf := si_ip c3 hf
      cases hf
  unfold f_J7_copyOf_9075b at hf
  exact B0 _ _ _ _ _ _ _ _ hf hE X hw hc (lv_sub hl [0, 1] rfl)
def al_J5_ensureCapacityInternal_d00df : Nat → Bool := fun a => decide (a = 88 ∨ a = 100)
theorem sd_als_J5_ensureCapacityInternal_d00df_J7_copyOf_9075b : ∀ k, al_J5_ensureCapacityInternal_d00df k = false → al_J7_copyOf_9075b k = false := by
  intro k h
  simp only [al_J5_ensureCapacityInternal_d00df, al_J7_copyOf_9075b, decide_eq_false_iff_not] at h ⊢
  omega
def f_J5_ensureCapacityInternal_d00df_h38 (F : Nat) (S : si_St) : Option (si_St) :=
  some S
def f_J5_ensureCapacityInternal_d00df_h35 (F : Nat) (S : si_St) : Option (si_St) :=
  Option.bind (sd_gw S) fun S1 => f_J5_ensureCapacityInternal_d00df_h38 F S1
def f_J5_ensureCapacityInternal_d00df_h27 (F : Nat) (t0 : Int32) (S : si_St) : Option (si_St) :=
  Option.bind (sd_gi S 87 1) fun v2 => Option.bind (f_J7_copyOf_9075b F (t0 <<< (v2 &&& 31)) S) fun S3 => f_J5_ensureCapacityInternal_d00df_h35 F S3
def f_J5_ensureCapacityInternal_d00df_h0 (F : Nat) (x1 : Int32) (S : si_St) : Option (si_St) :=
  if ¬ (sd_ok S 87 ∧ S.1 87 0 ≠ 0) then none else Option.bind (sd_al S 88) fun v4 => Option.bind (sd_gi S 87 1) fun v5 => Option.bind (some (v4 >>> (v5 &&& 31))) fun v6 => if (x1 - v6) ≤ 0 then (f_J5_ensureCapacityInternal_d00df_h38 F S) else (if ¬ (sd_ok S 87 ∧ S.1 87 0 ≠ 0) then none else if ¬ (sd_ok S 87) then none else Option.bind (f_J5_newCapacity_0f7a4 F x1 S) fun q7 => f_J5_ensureCapacityInternal_d00df_h27 F q7.1 q7.2)
def f_J5_ensureCapacityInternal_d00df (F : Nat) (x1 : Int32) (S : si_St) : Option (si_St) :=
  f_J5_ensureCapacityInternal_d00df_h0 F x1 S
theorem mo_J5_ensureCapacityInternal_d00df_h38 (F : Nat) (S : si_St) (o : si_St) (h : f_J5_ensureCapacityInternal_d00df_h38 F S = some o) : sd_le S o := by
  have g : sd_le S S := sd_le.rf
  unfold f_J5_ensureCapacityInternal_d00df_h38 at h
  obtain rfl := Option.some.inj h
  exact g
theorem mo_J5_ensureCapacityInternal_d00df_h35 (F : Nat) (S : si_St) (o : si_St) (h : f_J5_ensureCapacityInternal_d00df_h35 F S = some o) : sd_le S o := by
  have g : sd_le S S := sd_le.rf
  unfold f_J5_ensureCapacityInternal_d00df_h35 at h
  obtain ⟨S1, eS1, h⟩ := si_ob h
  have g := g.tr (sd_gw_m eS1)
  exact g.tr (mo_J5_ensureCapacityInternal_d00df_h38 F _ _ h)
theorem mo_J5_ensureCapacityInternal_d00df_h27 (F : Nat) (t0 : Int32) (S : si_St) (o : si_St) (h : f_J5_ensureCapacityInternal_d00df_h27 F t0 S = some o) : sd_le S o := by
  have g : sd_le S S := sd_le.rf
  unfold f_J5_ensureCapacityInternal_d00df_h27 at h
  obtain ⟨v2, ev2, h⟩ := si_ob h
  obtain ⟨S3, eS3, h⟩ := si_ob h
  have g := g.tr (mo_J7_copyOf_9075b F (t0 <<< (v2 &&& 31)) S S3 eS3)
  exact g.tr (mo_J5_ensureCapacityInternal_d00df_h35 F _ _ h)
theorem mo_J5_ensureCapacityInternal_d00df_h0 (F : Nat) (x1 : Int32) (S : si_St) (o : si_St) (h : f_J5_ensureCapacityInternal_d00df_h0 F x1 S = some o) : sd_le S o := by
  have g : sd_le S S := sd_le.rf
  unfold f_J5_ensureCapacityInternal_d00df_h0 at h
  have hgr1 : sd_ok S 87 ∧ S.1 87 0 ≠ 0 := Decidable.byContradiction fun h9 => by rw [if_pos h9] at h; cases h
  have h := si_in (not_not_intro hgr1) h
  obtain ⟨v4, ev4, h⟩ := si_ob h
  obtain ⟨v5, ev5, h⟩ := si_ob h
  obtain ⟨v6, ev6, h⟩ := si_ob h
  rcases Decidable.em ((x1 - v6) ≤ 0) with c14 | c14
  · have h := si_ip c14 h
    exact g.tr (mo_J5_ensureCapacityInternal_d00df_h38 F _ _ h)
  · have h := si_in c14 h
    have hgr19 : sd_ok S 87 ∧ S.1 87 0 ≠ 0 := Decidable.byContradiction fun h9 => by rw [if_pos h9] at h; cases h
    have h := si_in (not_not_intro hgr19) h
    have hok24 : sd_ok S 87 := Decidable.byContradiction fun h9 => by rw [if_pos h9] at h; cases h
    have h := si_in (not_not_intro hok24) h
    obtain ⟨q7, eq7, h⟩ := si_ob h
    have g := g.tr (mo_J5_newCapacity_0f7a4 F x1 S q7 eq7)
    exact g.tr (mo_J5_ensureCapacityInternal_d00df_h27 F _ _ _ h)
theorem mo_J5_ensureCapacityInternal_d00df (F : Nat) (x1 : Int32) (S : si_St) (o : si_St) (h : f_J5_ensureCapacityInternal_d00df F x1 S = some o) : sd_le S o := by
  have g : sd_le S S := sd_le.rf
  unfold f_J5_ensureCapacityInternal_d00df at h
  exact g.tr (mo_J5_ensureCapacityInternal_d00df_h0 F _ _ _ h)
abbrev fr_J5_ensureCapacityInternal_d00df : Nat := 3
abbrev lo_J5_ensureCapacityInternal_d00df : Nat := 71
set_option maxHeartbeats 4000000 in
set_option maxRecDepth 100000 in
theorem c_J5_ensureCapacityInternal_d00df (l : Launch) (E0 : si_Ev) (F : Nat) (x1 : Int32) (S0 : si_St) (o : si_St) (hf : f_J5_ensureCapacityInternal_d00df F x1 S0 = some o) : sd_Mv l al_J5_ensureCapacityInternal_d00df E0 yJ5_ensureCapacityInternal_d00df cJ5_ensureCapacityInternal_d00df 3 fr_J5_ensureCapacityInternal_d00df lo_J5_ensureCapacityInternal_d00df [.ref (E0.2.1 87), .int x1] S0 o := by
  refine sd_ofWv (plainFor_of_name (by decide +kernel)) (Nat.le_of_ble_eq_true rfl) ?_
  intro p e s m args below meth c ls Q A X hmn hw hA hl hret
  have hl : lv_has ls 3 [(0, .ref (E0.2.1 87)), (1, .int x1)] := hl
  have hR : sd_RR (sd_R fr_J5_ensureCapacityInternal_d00df lo_J5_ensureCapacityInternal_d00df S0 o) S0 o := ⟨Nat.le_refl _, Nat.le_refl _⟩
  have hE : sd_EE al_J5_ensureCapacityInternal_d00df E0 E0 := sd_EE.rf
  have hc : sd_Ct S0 S0 0 0 := ⟨Nat.le_refl _, Nat.le_refl _⟩
  have B38 : ∀ (E : si_Ev) (S : si_St) (H : Heap) (locs : List Loc) (ls : Array Slot) (cs ss : Nat), f_J5_ensureCapacityInternal_d00df_h38 F S = some o → sd_EE al_J5_ensureCapacityInternal_d00df E0 E → si_Cx p s m args c cJ5_ensureCapacityInternal_d00df 3 yJ5_ensureCapacityInternal_d00df.cls E A → si_Ws E A s.heap S H locs → sd_Ct S0 S cs ss → lv_has ls 3 [] → W p l e (sd_R fr_J5_ensureCapacityInternal_d00df lo_J5_ensureCapacityInternal_d00df S0 o) s m args below meth c H locs cs ss Q (F0 m 38 ls []) := by
    intro   E S H locs ls cs ss hf hE X hw hc hl
    have hcs := sd_room hc (mo_J5_ensureCapacityInternal_d00df_h38 F _ _ hf) hR
    unfold f_J5_ensureCapacityInternal_d00df_h38 at hf
    exact hret _ _ _ _ _ _ _ _ hf ⟨hE, hw, hc⟩ dJ5_ensureCapacityInternal_d00df_38
  have B35 : ∀ (E : si_Ev) (S : si_St) (H : Heap) (locs : List Loc) (ls : Array Slot) (cs ss : Nat), f_J5_ensureCapacityInternal_d00df_h35 F S = some o → sd_EE al_J5_ensureCapacityInternal_d00df E0 E → si_Cx p s m args c cJ5_ensureCapacityInternal_d00df 3 yJ5_ensureCapacityInternal_d00df.cls E A → si_Ws E A s.heap S H locs → sd_Ct S0 S cs ss → lv_has ls 3 [] → W p l e (sd_R fr_J5_ensureCapacityInternal_d00df lo_J5_ensureCapacityInternal_d00df S0 o) s m args below meth c H locs cs ss Q (F0 m 35 ls [.ref (E.2.1 100), .ref (E.2.1 87)]) := by
    intro   E S H locs ls cs ss hf hE X hw hc hl
    have hcs := sd_room hc (mo_J5_ensureCapacityInternal_d00df_h35 F _ _ hf) hR
    unfold f_J5_ensureCapacityInternal_d00df_h35 at hf
    obtain ⟨S1, eS1, hf⟩ := si_ob hf
    refine sd_putG X hw gf_RJ5_15 eS1 dJ5_ensureCapacityInternal_d00df_35 (fun E H locs hZ hw => ?_)
    have hE := hE.tr (sd_one_of (k := 88) rfl) hZ
    have X := sd_X hZ X
    have hc := hc.up (sd_gw_m eS1)
    exact B38 _ _ _ _ _ _ _ hf hE X hw hc (lv_sub hl [] rfl)
  have B27 : ∀ (t0 : Int32) (E : si_Ev) (S : si_St) (H : Heap) (locs : List Loc) (ls : Array Slot) (cs ss : Nat), f_J5_ensureCapacityInternal_d00df_h27 F t0 S = some o → sd_EE al_J5_ensureCapacityInternal_d00df E0 E → si_Cx p s m args c cJ5_ensureCapacityInternal_d00df 3 yJ5_ensureCapacityInternal_d00df.cls E A → si_Ws E A s.heap S H locs → sd_Ct S0 S cs ss → lv_has ls 3 [(0, .ref (E.2.1 87))] → W p l e (sd_R fr_J5_ensureCapacityInternal_d00df lo_J5_ensureCapacityInternal_d00df S0 o) s m args below meth c H locs cs ss Q (F0 m 27 ls [.int t0, .ref (E.2.1 88), .ref (E.2.1 87)]) := by
    intro t0  E S H locs ls cs ss hf hE X hw hc hl
    have hcs := sd_room hc (mo_J5_ensureCapacityInternal_d00df_h27 F _ _ _ hf) hR
    unfold f_J5_ensureCapacityInternal_d00df_h27 at hf
    refine lv_aload_n X.1 X.2.1 dJ5_ensureCapacityInternal_d00df_27 rfl (lv_at hl 0 rfl) ?_
    obtain ⟨v2, ev2, hf⟩ := si_ob hf
    refine sd_getI X hw sd_cl20 1 (by decide) (Or.inl gf_RJ5_22) rfl rfl rfl ev2 dJ5_ensureCapacityInternal_d00df_28 ?_
    refine lv_ishl X.1 X.2.1 dJ5_ensureCapacityInternal_d00df_31 ?_
    obtain ⟨S3, eS3, hf⟩ := si_ob hf
    refine sd_gor (sd_runS (As := [.ref (E.2.1 88), .int (t0 <<< (v2 &&& 31))]) (rest := [.ref (E.2.1 87)]) cal_J7_copyOf_9075b gm_RJ5_108 X hw hA hl.1 ((c_J7_copyOf_9075b l E F (t0 <<< (v2 &&& 31)) S S3 eS3) H.size) ⟨Nat.le_of_ble_eq_true rfl, Nat.le_of_ble_eq_true rfl⟩ rfl (Nat.le_of_ble_eq_true rfl) (sd_room2 hc (mo_J7_copyOf_9075b F (t0 <<< (v2 &&& 31)) S S3 eS3) (mo_J5_ensureCapacityInternal_d00df_h35 F _ _ hf) hR) dJ5_ensureCapacityInternal_d00df_32) X hw hA hE hc (mo_J7_copyOf_9075b F (t0 <<< (v2 &&& 31)) S S3 eS3) (sd_als_J5_ensureCapacityInternal_d00df_J7_copyOf_9075b) (fun E H locs cs ss hZ hE X hw hc => ?_)
    rw [← hZ.at 87 rfl] at hl
    rw [← hZ.at 87 rfl]
    exact B35 _ _ _ _ _ _ _ hf hE X hw hc (lv_sub hl [] rfl)
  have B0 : ∀ (x1 : Int32) (E : si_Ev) (S : si_St) (H : Heap) (locs : List Loc) (ls : Array Slot) (cs ss : Nat), f_J5_ensureCapacityInternal_d00df_h0 F x1 S = some o → sd_EE al_J5_ensureCapacityInternal_d00df E0 E → si_Cx p s m args c cJ5_ensureCapacityInternal_d00df 3 yJ5_ensureCapacityInternal_d00df.cls E A → si_Ws E A s.heap S H locs → sd_Ct S0 S cs ss → lv_has ls 3 [(0, .ref (E.2.1 87)), (1, .int x1)] → W p l e (sd_R fr_J5_ensureCapacityInternal_d00df lo_J5_ensureCapacityInternal_d00df S0 o) s m args below meth c H locs cs ss Q (F0 m 0 ls []) := by
    intro x1  E S H locs ls cs ss hf hE X hw hc hl
    have hcs := sd_room hc (mo_J5_ensureCapacityInternal_d00df_h0 F _ _ _ hf) hR
    unfold f_J5_ensureCapacityInternal_d00df_h0 at hf
    refine lv_aload_n X.1 X.2.1 dJ5_ensureCapacityInternal_d00df_0 rfl (lv_at hl 0 rfl) ?_
    have hgr1 : sd_ok S 87 ∧ S.1 87 0 ≠ 0 := Decidable.byContradiction fun h9 => by rw [if_pos h9] at hf; cases hf
    have hf := si_in (not_not_intro hgr1) hf
    refine sd_getR X hw sd_cl20 0 (by decide) (Or.inl gf_RJ5_15) rfl rfl rfl hgr1 dJ5_ensureCapacityInternal_d00df_1 ?_
    obtain ⟨v4, ev4, hf⟩ := si_ob hf
    refine sd_alen X hw (Or.inl rfl) ev4 dJ5_ensureCapacityInternal_d00df_4 ?_
    refine lv_aload_n X.1 X.2.1 dJ5_ensureCapacityInternal_d00df_5 rfl (lv_at hl 0 rfl) ?_
    obtain ⟨v5, ev5, hf⟩ := si_ob hf
    refine sd_getI X hw sd_cl20 1 (by decide) (Or.inl gf_RJ5_22) rfl rfl rfl ev5 dJ5_ensureCapacityInternal_d00df_6 ?_
    refine lv_ishr X.1 X.2.1 dJ5_ensureCapacityInternal_d00df_9 ?_
    obtain ⟨v6, ev6, hf⟩ := si_ob hf
    refine si_nmI ev6 ?_
    refine lv_istore_n (lv' := [(2, .int v6), (0, .ref (E.2.1 87)), (1, .int x1)]) X.1 X.2.1 dJ5_ensureCapacityInternal_d00df_10 rfl hl (by decide) rfl (fun ls hl => ?_)
    refine lv_iload_n X.1 X.2.1 dJ5_ensureCapacityInternal_d00df_11 rfl (lv_at hl 2 rfl) ?_
    refine lv_iload_n X.1 X.2.1 dJ5_ensureCapacityInternal_d00df_12 rfl (lv_at hl 0 rfl) ?_
    refine lv_isub X.1 X.2.1 dJ5_ensureCapacityInternal_d00df_13 ?_
    refine lv_if_le (tgt := 38) X.1 X.2.1 dJ5_ensureCapacityInternal_d00df_14 (by decide) (fun c14 => ?_) (fun c14 => ?_)
    · have hf := si_ip c14 hf
      exact B38 _ _ _ _ _ _ _ hf hE X hw hc (lv_sub hl [] rfl)
    · have hf := si_in c14 hf
      refine lv_aload_n X.1 X.2.1 dJ5_ensureCapacityInternal_d00df_17 rfl (lv_at hl 1 rfl) ?_
      refine lv_aload_n X.1 X.2.1 dJ5_ensureCapacityInternal_d00df_18 rfl (lv_at hl 1 rfl) ?_
      have hgr19 : sd_ok S 87 ∧ S.1 87 0 ≠ 0 := Decidable.byContradiction fun h9 => by rw [if_pos h9] at hf; cases hf
      have hf := si_in (not_not_intro hgr19) hf
      refine sd_getR X hw sd_cl20 0 (by decide) (Or.inl gf_RJ5_15) rfl rfl rfl hgr19 dJ5_ensureCapacityInternal_d00df_19 ?_
      refine lv_aload_n X.1 X.2.1 dJ5_ensureCapacityInternal_d00df_22 rfl (lv_at hl 1 rfl) ?_
      refine lv_iload_n X.1 X.2.1 dJ5_ensureCapacityInternal_d00df_23 rfl (lv_at hl 2 rfl) ?_
      have hok24 : sd_ok S 87 := Decidable.byContradiction fun h9 => by rw [if_pos h9] at hf; cases hf
      have hf := si_in (not_not_intro hok24) hf
      obtain ⟨q7, eq7, hf⟩ := si_ob hf
      refine sd_goi (sd_runU (As := [.int x1]) (rest := [.ref (E.2.1 88), .ref (E.2.1 87)]) sd_cl20 rfl hok24 cu_J5_newCapacity_0f7a4_J5_newCapacity_0f7a4 gm_RJ5_104 X hw hA hl.1 ((c_J5_newCapacity_0f7a4 l E F x1 S q7 eq7) H.size) ⟨Nat.le_of_ble_eq_true rfl, Nat.le_of_ble_eq_true rfl⟩ rfl (Nat.le_of_ble_eq_true rfl) (sd_room2 hc (mo_J5_newCapacity_0f7a4 F x1 S q7 eq7) (mo_J5_ensureCapacityInternal_d00df_h27 F _ _ _ hf) hR) dJ5_ensureCapacityInternal_d00df_24) X hw hA hE hc (mo_J5_newCapacity_0f7a4 F x1 S q7 eq7) (fun _ _ => rfl) (fun E H locs cs ss hZ hE X hw hc => ?_)
      rw [← hZ.at 87 rfl] at hl
      rw [← hZ.at 88 rfl]
      rw [← hZ.at 87 rfl]
      exact B27 _ _ _ _ _ _ _ _ hf hE X hw hc (lv_sub hl [1] rfl)
  unfold f_J5_ensureCapacityInternal_d00df at hf
  exact B0 _ _ _ _ _ _ _ _ hf hE X hw hc (lv_sub hl [0, 1] rfl)
