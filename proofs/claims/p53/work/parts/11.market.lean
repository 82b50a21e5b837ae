theorem dX2_clear_0 : decode cX2_clear 0 = .ok (.aload_n 0, 1) := by decide +kernel
theorem dX2_clear_1 : decode cX2_clear 1 = .ok (.iconst 0, 1) := by decide +kernel
theorem dX2_clear_2 : decode cX2_clear 2 = .ok (.putfield 36, 3) := by decide +kernel
theorem dX2_clear_5 : decode cX2_clear 5 = .ok (.aload_n 0, 1) := by decide +kernel
theorem dX2_clear_6 : decode cX2_clear 6 = .ok (.iconst 0, 1) := by decide +kernel
theorem dX2_clear_7 : decode cX2_clear 7 = .ok (.putfield 40, 3) := by decide +kernel
theorem dX2_clear_10 : decode cX2_clear 10 = .ok (.aload_n 0, 1) := by decide +kernel
theorem dX2_clear_11 : decode cX2_clear 11 = .ok (.iconst 0, 1) := by decide +kernel
theorem dX2_clear_12 : decode cX2_clear 12 = .ok (.putfield 43, 3) := by decide +kernel
theorem dX2_clear_15 : decode cX2_clear 15 = .ok (.aload_n 0, 1) := by decide +kernel
theorem dX2_clear_16 : decode cX2_clear 16 = .ok (.iconst 0, 1) := by decide +kernel
theorem dX2_clear_17 : decode cX2_clear 17 = .ok (.putfield 46, 3) := by decide +kernel
theorem dX2_clear_20 : decode cX2_clear 20 = .ok (.aload_n 0, 1) := by decide +kernel
theorem dX2_clear_21 : decode cX2_clear 21 = .ok (.getfield 33, 3) := by decide +kernel
theorem dX2_clear_24 : decode cX2_clear 24 = .ok (.iconst 0, 1) := by decide +kernel
theorem dX2_clear_25 : decode cX2_clear 25 = .ok (.invokestatic 49, 3) := by decide +kernel
theorem dX2_clear_28 : decode cX2_clear 28 = .ok (.return_, 1) := by decide +kernel
def f_X2_clear (F : Nat) (k0 : Nat) (S : si_St) : Option (si_St) :=
  Option.bind (si_pt S k0 0 0) fun S1 => Option.bind (si_pt S1 k0 1 0) fun S2 => Option.bind (si_pt S2 k0 2 0) fun S3 => Option.bind (si_pt S3 k0 3 0) fun S4 => Option.bind (f_J7_fill_53178 F (k0 + 8) 0 S4) fun S5 => some S5
abbrev rm_X2_clear : Room := { frames := 1, cells := 0, slots := 0, locals := 23 }
set_option maxHeartbeats 4000000 in
set_option maxRecDepth 100000 in
theorem c_X2_clear (l : Launch) (E : si_Ev) (F : Nat) (k0 : Nat) (hk0 : si_kd k0 = 2) (S : si_St) (o : si_St) (hf : f_X2_clear F k0 S = some o) : si_Mv l E yX2_clear cX2_clear 1 rm_X2_clear [.ref (E.2.1 k0)] S o := by
  refine si_ofWv (plainFor_of_name (by decide +kernel)) (Nat.le_of_ble_eq_true rfl) ?_
  intro p e s m args below meth c ls Q A X hw hA hl hret
  have hl : lv_has ls 1 [(0, .ref (E.2.1 k0))] := hl
  unfold f_X2_clear at hf
  refine lv_aload_n X.1 X.2.1 dX2_clear_0 rfl (lv_at hl 0 rfl) ?_
  refine lv_iconst (v := 0) X.1 X.2.1 dX2_clear_1 (by decide) ?_
  obtain ⟨S1, eS1, hf⟩ := si_ob hf
  refine si_ptI X hw si_cl2 0 (by decide) gf_RX2_36 rfl rfl hk0 rfl rfl eS1 dX2_clear_2 (fun H locs hw => ?_)
  refine lv_aload_n X.1 X.2.1 dX2_clear_5 rfl (lv_at hl 0 rfl) ?_
  refine lv_iconst (v := 0) X.1 X.2.1 dX2_clear_6 (by decide) ?_
  obtain ⟨S2, eS2, hf⟩ := si_ob hf
  refine si_ptI X hw si_cl2 1 (by decide) gf_RX2_40 rfl rfl hk0 rfl rfl eS2 dX2_clear_7 (fun H locs hw => ?_)
  refine lv_aload_n X.1 X.2.1 dX2_clear_10 rfl (lv_at hl 0 rfl) ?_
  refine lv_iconst (v := 0) X.1 X.2.1 dX2_clear_11 (by decide) ?_
  obtain ⟨S3, eS3, hf⟩ := si_ob hf
  refine si_ptI X hw si_cl2 2 (by decide) gf_RX2_43 rfl rfl hk0 rfl rfl eS3 dX2_clear_12 (fun H locs hw => ?_)
  refine lv_aload_n X.1 X.2.1 dX2_clear_15 rfl (lv_at hl 0 rfl) ?_
  refine lv_iconst (v := 0) X.1 X.2.1 dX2_clear_16 (by decide) ?_
  obtain ⟨S4, eS4, hf⟩ := si_ob hf
  refine si_ptI X hw si_cl2 3 (by decide) gf_RX2_46 rfl rfl hk0 rfl rfl eS4 dX2_clear_17 (fun H locs hw => ?_)
  refine lv_aload_n X.1 X.2.1 dX2_clear_20 rfl (lv_at hl 0 rfl) ?_
  refine si_getR (k' := (k0 + 8)) (d := 8) X hw si_cl2 11 (by decide) gf_RX2_33 rfl hk0 rfl (by decide) rfl dX2_clear_21 ?_
  refine lv_iconst (v := 0) X.1 X.2.1 dX2_clear_24 (by decide) ?_
  obtain ⟨S5, eS5, hf⟩ := si_ob hf
  refine si_cSv [.ref (E.2.1 (k0 + 8)), .int 0] cal_J7_fill_53178 gm_RX2_49 X hw hA hl.1 (c_J7_fill_53178 l E F (k0 + 8) (sk_2_8 hk0) 0 S4 S5 eS5) ⟨⟨rfl, rfl⟩, Nat.le_of_ble_eq_true rfl, Nat.le_of_ble_eq_true rfl⟩ rfl rfl (Nat.le_of_ble_eq_true rfl) ⟨Nat.zero_le _, Nat.zero_le _⟩ dX2_clear_25 (fun H locs hw => ?_)
  exact hret _ _ _ _ _ hf hw dX2_clear_28
