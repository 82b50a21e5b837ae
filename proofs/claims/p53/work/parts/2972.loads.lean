theorem dL_feeds_0 : decode cL_feeds 0 = .ok (.iconst 0, 1) := by decide +kernel
theorem dL_feeds_1 : decode cL_feeds 1 = .ok (.istore_n 2, 1) := by decide +kernel
theorem dL_feeds_2 : decode cL_feeds 2 = .ok (.iconst 0, 1) := by decide +kernel
theorem dL_feeds_3 : decode cL_feeds 3 = .ok (.istore_n 3, 1) := by decide +kernel
theorem dL_feeds_4 : decode cL_feeds 4 = .ok (.iload_n 3, 1) := by decide +kernel
theorem dL_feeds_5 : decode cL_feeds 5 = .ok (.aload_n 1, 1) := by decide +kernel
theorem dL_feeds_6 : decode cL_feeds 6 = .ok (.invokevirtual 7, 3) := by decide +kernel
theorem dL_feeds_9 : decode cL_feeds 9 = .ok (.if_icmp .ge 105, 3) := by decide +kernel
theorem dL_feeds_12 : decode cL_feeds 12 = .ok (.iconst 5, 1) := by decide +kernel
theorem dL_feeds_13 : decode cL_feeds 13 = .ok (.newarray .int, 2) := by decide +kernel
theorem dL_feeds_15 : decode cL_feeds 15 = .ok (.astore 4, 2) := by decide +kernel
theorem dL_feeds_17 : decode cL_feeds 17 = .ok (.iconst 0, 1) := by decide +kernel
theorem dL_feeds_18 : decode cL_feeds 18 = .ok (.istore 5, 2) := by decide +kernel
theorem dL_feeds_20 : decode cL_feeds 20 = .ok (.iload 5, 2) := by decide +kernel
theorem dL_feeds_22 : decode cL_feeds 22 = .ok (.bipush 20, 2) := by decide +kernel
theorem dL_feeds_24 : decode cL_feeds 24 = .ok (.if_icmp .ge 51, 3) := by decide +kernel
theorem dL_feeds_27 : decode cL_feeds 27 = .ok (.aload 4, 2) := by decide +kernel
theorem dL_feeds_29 : decode cL_feeds 29 = .ok (.iload 5, 2) := by decide +kernel
theorem dL_feeds_31 : decode cL_feeds 31 = .ok (.iconst 4, 1) := by decide +kernel
theorem dL_feeds_32 : decode cL_feeds 32 = .ok (.idiv, 1) := by decide +kernel
theorem dL_feeds_33 : decode cL_feeds 33 = .ok (.aload 4, 2) := by decide +kernel
theorem dL_feeds_35 : decode cL_feeds 35 = .ok (.iload 5, 2) := by decide +kernel
theorem dL_feeds_37 : decode cL_feeds 37 = .ok (.iconst 4, 1) := by decide +kernel
theorem dL_feeds_38 : decode cL_feeds 38 = .ok (.idiv, 1) := by decide +kernel
theorem dL_feeds_39 : decode cL_feeds 39 = .ok (.iaload, 1) := by decide +kernel
theorem dL_feeds_40 : decode cL_feeds 40 = .ok (.bipush 8, 2) := by decide +kernel
theorem dL_feeds_42 : decode cL_feeds 42 = .ok (.ishl, 1) := by decide +kernel
theorem dL_feeds_43 : decode cL_feeds 43 = .ok (.iload_n 3, 1) := by decide +kernel
theorem dL_feeds_44 : decode cL_feeds 44 = .ok (.iload 5, 2) := by decide +kernel
theorem dL_feeds_46 : decode cL_feeds 46 = .ok (.iadd, 1) := by decide +kernel
theorem dL_feeds_47 : decode cL_feeds 47 = .ok (.aload_n 1, 1) := by decide +kernel
theorem dL_feeds_48 : decode cL_feeds 48 = .ok (.invokevirtual 7, 3) := by decide +kernel
theorem dL_feeds_51 : decode cL_feeds 51 = .ok (.if_icmp .ge 14, 3) := by decide +kernel
theorem dL_feeds_54 : decode cL_feeds 54 = .ok (.aload_n 1, 1) := by decide +kernel
theorem dL_feeds_55 : decode cL_feeds 55 = .ok (.iload_n 3, 1) := by decide +kernel
theorem dL_feeds_56 : decode cL_feeds 56 = .ok (.iload 5, 2) := by decide +kernel
theorem dL_feeds_58 : decode cL_feeds 58 = .ok (.iadd, 1) := by decide +kernel
theorem dL_feeds_59 : decode cL_feeds 59 = .ok (.invokevirtual 13, 3) := by decide +kernel
theorem dL_feeds_62 : decode cL_feeds 62 = .ok (.goto 5, 3) := by decide +kernel
theorem dL_feeds_65 : decode cL_feeds 65 = .ok (.bipush 32, 2) := by decide +kernel
theorem dL_feeds_67 : decode cL_feeds 67 = .ok (.ior, 1) := by decide +kernel
theorem dL_feeds_68 : decode cL_feeds 68 = .ok (.iastore, 1) := by decide +kernel
theorem dL_feeds_69 : decode cL_feeds 69 = .ok (.iinc 5 1, 3) := by decide +kernel
theorem dL_feeds_72 : decode cL_feeds 72 = .ok (.goto (-52), 3) := by decide +kernel
theorem dL_feeds_75 : decode cL_feeds 75 = .ok (.iinc 2 20, 3) := by decide +kernel
theorem dL_feeds_78 : decode cL_feeds 78 = .ok (.aload_n 0, 1) := by decide +kernel
theorem dL_feeds_79 : decode cL_feeds 79 = .ok (.aload 4, 2) := by decide +kernel
theorem dL_feeds_81 : decode cL_feeds 81 = .ok (.iconst 0, 1) := by decide +kernel
theorem dL_feeds_82 : decode cL_feeds 82 = .ok (.iaload, 1) := by decide +kernel
theorem dL_feeds_83 : decode cL_feeds 83 = .ok (.aload 4, 2) := by decide +kernel
theorem dL_feeds_85 : decode cL_feeds 85 = .ok (.iconst 1, 1) := by decide +kernel
theorem dL_feeds_86 : decode cL_feeds 86 = .ok (.iaload, 1) := by decide +kernel
theorem dL_feeds_87 : decode cL_feeds 87 = .ok (.aload 4, 2) := by decide +kernel
theorem dL_feeds_89 : decode cL_feeds 89 = .ok (.iconst 2, 1) := by decide +kernel
theorem dL_feeds_90 : decode cL_feeds 90 = .ok (.iaload, 1) := by decide +kernel
theorem dL_feeds_91 : decode cL_feeds 91 = .ok (.aload 4, 2) := by decide +kernel
theorem dL_feeds_93 : decode cL_feeds 93 = .ok (.iconst 3, 1) := by decide +kernel
theorem dL_feeds_94 : decode cL_feeds 94 = .ok (.iaload, 1) := by decide +kernel
theorem dL_feeds_95 : decode cL_feeds 95 = .ok (.aload 4, 2) := by decide +kernel
theorem dL_feeds_97 : decode cL_feeds 97 = .ok (.iconst 4, 1) := by decide +kernel
theorem dL_feeds_98 : decode cL_feeds 98 = .ok (.iaload, 1) := by decide +kernel
theorem dL_feeds_99 : decode cL_feeds 99 = .ok (.invokevirtual 17, 3) := by decide +kernel
theorem dL_feeds_102 : decode cL_feeds 102 = .ok (.iload_n 2, 1) := by decide +kernel
theorem dL_feeds_103 : decode cL_feeds 103 = .ok (.if_icmp .eq 5, 3) := by decide +kernel
theorem dL_feeds_106 : decode cL_feeds 106 = .ok (.iconst 0, 1) := by decide +kernel
theorem dL_feeds_107 : decode cL_feeds 107 = .ok (.ireturn, 1) := by decide +kernel
theorem dL_feeds_108 : decode cL_feeds 108 = .ok (.iinc 3 20, 3) := by decide +kernel
theorem dL_feeds_111 : decode cL_feeds 111 = .ok (.goto (-107), 3) := by decide +kernel
theorem dL_feeds_114 : decode cL_feeds 114 = .ok (.iconst 1, 1) := by decide +kernel
theorem dL_feeds_115 : decode cL_feeds 115 = .ok (.ireturn, 1) := by decide +kernel
theorem dL_loads_0 : decode cL_loads 0 = .ok (.new 41, 3) := by decide +kernel
theorem dL_loads_3 : decode cL_loads 3 = .ok (.dup, 1) := by decide +kernel
theorem dL_loads_4 : decode cL_loads 4 = .ok (.invokespecial 80, 3) := by decide +kernel
theorem dL_loads_7 : decode cL_loads 7 = .ok (.astore_n 2, 1) := by decide +kernel
theorem dL_loads_8 : decode cL_loads 8 = .ok (.iconst 1, 1) := by decide +kernel
theorem dL_loads_9 : decode cL_loads 9 = .ok (.newarray .int, 2) := by decide +kernel
theorem dL_loads_11 : decode cL_loads 11 = .ok (.dup, 1) := by decide +kernel
theorem dL_loads_12 : decode cL_loads 12 = .ok (.iconst 0, 1) := by decide +kernel
theorem dL_loads_13 : decode cL_loads 13 = .ok (.iload_n 1, 1) := by decide +kernel
theorem dL_loads_14 : decode cL_loads 14 = .ok (.iastore, 1) := by decide +kernel
theorem dL_loads_15 : decode cL_loads 15 = .ok (.aload_n 2, 1) := by decide +kernel
theorem dL_loads_16 : decode cL_loads 16 = .ok (.invokestatic 81, 3) := by decide +kernel
theorem dL_loads_19 : decode cL_loads 19 = .ok (.astore_n 3, 1) := by decide +kernel
theorem dL_loads_20 : decode cL_loads 20 = .ok (.aload_n 2, 1) := by decide +kernel
theorem dL_loads_21 : decode cL_loads 21 = .ok (.invokevirtual 85, 3) := by decide +kernel
theorem dL_loads_24 : decode cL_loads 24 = .ok (.sipush 800, 3) := by decide +kernel
theorem dL_loads_27 : decode cL_loads 27 = .ok (.if_icmp .gt 29, 3) := by decide +kernel
theorem dL_loads_30 : decode cL_loads 30 = .ok (.aload_n 0, 1) := by decide +kernel
theorem dL_loads_31 : decode cL_loads 31 = .ok (.aload_n 2, 1) := by decide +kernel
theorem dL_loads_32 : decode cL_loads 32 = .ok (.invokevirtual 86, 3) := by decide +kernel
theorem dL_loads_35 : decode cL_loads 35 = .ok (.invokestatic 90, 3) := by decide +kernel
theorem dL_loads_38 : decode cL_loads 38 = .ok (.ifCond .eq 18, 3) := by decide +kernel
theorem dL_loads_41 : decode cL_loads 41 = .ok (.aload_n 0, 1) := by decide +kernel
theorem dL_loads_42 : decode cL_loads 42 = .ok (.aload_n 2, 1) := by decide +kernel
theorem dL_loads_43 : decode cL_loads 43 = .ok (.invokevirtual 85, 3) := by decide +kernel
theorem dL_loads_46 : decode cL_loads 46 = .ok (.invokevirtual 94, 3) := by decide +kernel
theorem dL_loads_49 : decode cL_loads 49 = .ok (.ifCond .ne 7, 3) := by decide +kernel
theorem dL_loads_52 : decode cL_loads 52 = .ok (.aload_n 3, 1) := by decide +kernel
theorem dL_loads_53 : decode cL_loads 53 = .ok (.goto 4, 3) := by decide +kernel
theorem dL_loads_56 : decode cL_loads 56 = .ok (.aconst_null, 1) := by decide +kernel
theorem dL_loads_57 : decode cL_loads 57 = .ok (.areturn, 1) := by decide +kernel
def al_L_feeds : Nat → Bool := fun a => decide (a = 97)
def f_L_feeds_h67 (F : Nat) (r4 : Int32 → Int32 → si_St → Option (Int32 × si_St)) (r20 : Int32 → Int32 → Int32 → si_St → Option (Int32 × si_St)) (x2 : Int32) (x3 : Int32) (x5 : Int32) (t0 : Int32) (t1 : Int32) (t2 : Int32) (S : si_St) : Option (Int32 × si_St) :=
  Option.bind (sd_wr S 97 t2 (t1 ||| t0)) fun S1 => Option.bind (some (x5 + 1)) fun v2 => r20 x2 x3 v2 S1
def f_L_feeds_h62 (F : Nat) (r4 : Int32 → Int32 → si_St → Option (Int32 × si_St)) (r20 : Int32 → Int32 → Int32 → si_St → Option (Int32 × si_St)) (x2 : Int32) (x3 : Int32) (x5 : Int32) (t0 : Int32) (t1 : Int32) (t2 : Int32) (S : si_St) : Option (Int32 × si_St) :=
  f_L_feeds_h67 F r4 r20 x2 x3 x5 t0 t1 t2 S
def f_L_feeds_h51 (F : Nat) (r4 : Int32 → Int32 → si_St → Option (Int32 × si_St)) (r20 : Int32 → Int32 → Int32 → si_St → Option (Int32 × si_St)) (x2 : Int32) (x3 : Int32) (x5 : Int32) (t0 : Int32) (t1 : Int32) (t2 : Int32) (t3 : Int32) (S : si_St) : Option (Int32 × si_St) :=
  if t0 ≤ t1 then (f_L_feeds_h67 F r4 r20 x2 x3 x5 32 t2 t3 S) else (if ¬ (sd_ok S 89) then none else Option.bind (f_J0_charAt_5068e_d F (x3 + x5) S) fun q3 => f_L_feeds_h62 F r4 r20 x2 x3 x5 q3.1 t2 t3 q3.2)
def f_L_feeds_h20 (F : Nat) (r4 : Int32 → Int32 → si_St → Option (Int32 × si_St)) (r20 : Int32 → Int32 → Int32 → si_St → Option (Int32 × si_St)) (x2 : Int32) (x3 : Int32) (x5 : Int32) (S : si_St) : Option (Int32 × si_St) :=
  if 20 ≤ x5 then (Option.bind (some (x2 + 20)) fun v4 => Option.bind (sd_rd S 97 0) fun v5 => Option.bind (sd_rd S 97 1) fun v6 => Option.bind (sd_rd S 97 2) fun v7 => Option.bind (sd_rd S 97 3) fun v8 => Option.bind (sd_rd S 97 4) fun v9 => Option.bind (f_X9_append F v5 v6 v7 v8 v9 S) fun q10 => if q10.1 = v4 then (Option.bind (some (x3 + 20)) fun v11 => r4 v4 v11 q10.2) else (Option.bind (si_bz 0) fun v12 => some (v12, q10.2))) else (Option.bind (sd_rd S 97 (x5 / 4)) fun v13 => if ¬ (sd_ok S 89) then none else Option.bind (f_J0_length_8abf5_d F S) fun q14 => f_L_feeds_h51 F r4 r20 x2 x3 x5 q14.1 (x3 + x5) (v13 <<< (8 &&& 31)) (x5 / 4) q14.2)
def f_L_feeds_l20 (F : Nat) (r4 : Int32 → Int32 → si_St → Option (Int32 × si_St)) : Nat → Int32 → Int32 → Int32 → si_St → Option (Int32 × si_St)
 | 0 => fun _ _ _ _ => none
 | n + 1 => fun x2 x3 x5 S => f_L_feeds_h20 F r4 (f_L_feeds_l20 F r4 n) x2 x3 x5 S
def f_L_feeds_h15 (F : Nat) (r4 : Int32 → Int32 → si_St → Option (Int32 × si_St)) (x2 : Int32) (x3 : Int32) (S : si_St) : Option (Int32 × si_St) :=
  f_L_feeds_l20 F r4 F x2 x3 0 S
def f_L_feeds_h9 (F : Nat) (r4 : Int32 → Int32 → si_St → Option (Int32 × si_St)) (x2 : Int32) (x3 : Int32) (t0 : Int32) (t1 : Int32) (S : si_St) : Option (Int32 × si_St) :=
  if t0 ≤ t1 then (Option.bind (si_bz 1) fun v15 => some (v15, S)) else (Option.bind (sd_na S 97 5) fun S16 => f_L_feeds_h15 F r4 x2 x3 S16)
def f_L_feeds_h4 (F : Nat) (r4 : Int32 → Int32 → si_St → Option (Int32 × si_St)) (x2 : Int32) (x3 : Int32) (S : si_St) : Option (Int32 × si_St) :=
  if ¬ (sd_ok S 89) then none else Option.bind (f_J0_length_8abf5_d F S) fun q17 => f_L_feeds_h9 F r4 x2 x3 q17.1 x3 q17.2
def f_L_feeds_l4 (F : Nat) : Nat → Int32 → Int32 → si_St → Option (Int32 × si_St)
 | 0 => fun _ _ _ => none
 | n + 1 => fun x2 x3 S => f_L_feeds_h4 F (f_L_feeds_l4 F n) x2 x3 S
def f_L_feeds_h0 (F : Nat) (S : si_St) : Option (Int32 × si_St) :=
  f_L_feeds_l4 F F 0 0 S
def f_L_feeds (F : Nat) (S : si_St) : Option (Int32 × si_St) :=
  f_L_feeds_h0 F S
theorem mo_L_feeds_h67 (F : Nat) (r4 : Int32 → Int32 → si_St → Option (Int32 × si_St)) (r20 : Int32 → Int32 → Int32 → si_St → Option (Int32 × si_St)) (hr4 : ∀ (x2 : Int32) (x3 : Int32) (S : si_St) (o : Int32 × si_St), r4 x2 x3 S = some o → sd_le S o.2) (hr20 : ∀ (x2 : Int32) (x3 : Int32) (x5 : Int32) (S : si_St) (o : Int32 × si_St), r20 x2 x3 x5 S = some o → sd_le S o.2) (x2 : Int32) (x3 : Int32) (x5 : Int32) (t0 : Int32) (t1 : Int32) (t2 : Int32) (S : si_St) (o : Int32 × si_St) (h : f_L_feeds_h67 F r4 r20 x2 x3 x5 t0 t1 t2 S = some o) : sd_le S o.2 := by
  have g : sd_le S S := sd_le.rf
  unfold f_L_feeds_h67 at h
  obtain ⟨S1, eS1, h⟩ := si_ob h
  have g := g.tr (sd_wr_m eS1)
  obtain ⟨v2, ev2, h⟩ := si_ob h
  exact g.tr (hr20 _ _ _ _ _ h)
theorem mo_L_feeds_h62 (F : Nat) (r4 : Int32 → Int32 → si_St → Option (Int32 × si_St)) (r20 : Int32 → Int32 → Int32 → si_St → Option (Int32 × si_St)) (hr4 : ∀ (x2 : Int32) (x3 : Int32) (S : si_St) (o : Int32 × si_St), r4 x2 x3 S = some o → sd_le S o.2) (hr20 : ∀ (x2 : Int32) (x3 : Int32) (x5 : Int32) (S : si_St) (o : Int32 × si_St), r20 x2 x3 x5 S = some o → sd_le S o.2) (x2 : Int32) (x3 : Int32) (x5 : Int32) (t0 : Int32) (t1 : Int32) (t2 : Int32) (S : si_St) (o : Int32 × si_St) (h : f_L_feeds_h62 F r4 r20 x2 x3 x5 t0 t1 t2 S = some o) : sd_le S o.2 := by
  have g : sd_le S S := sd_le.rf
  unfold f_L_feeds_h62 at h
  exact g.tr (mo_L_feeds_h67 F r4 r20 hr4 hr20 _ _ _ _ _ _ _ _ h)
theorem mo_L_feeds_h51 (F : Nat) (r4 : Int32 → Int32 → si_St → Option (Int32 × si_St)) (r20 : Int32 → Int32 → Int32 → si_St → Option (Int32 × si_St)) (hr4 : ∀ (x2 : Int32) (x3 : Int32) (S : si_St) (o : Int32 × si_St), r4 x2 x3 S = some o → sd_le S o.2) (hr20 : ∀ (x2 : Int32) (x3 : Int32) (x5 : Int32) (S : si_St) (o : Int32 × si_St), r20 x2 x3 x5 S = some o → sd_le S o.2) (x2 : Int32) (x3 : Int32) (x5 : Int32) (t0 : Int32) (t1 : Int32) (t2 : Int32) (t3 : Int32) (S : si_St) (o : Int32 × si_St) (h : f_L_feeds_h51 F r4 r20 x2 x3 x5 t0 t1 t2 t3 S = some o) : sd_le S o.2 := by
  have g : sd_le S S := sd_le.rf
  unfold f_L_feeds_h51 at h
  rcases Decidable.em (t0 ≤ t1) with c51 | c51
  · have h := si_ip c51 h
    exact g.tr (mo_L_feeds_h67 F r4 r20 hr4 hr20 _ _ _ _ _ _ _ _ h)
  · have h := si_in c51 h
    have hok59 : sd_ok S 89 := Decidable.byContradiction fun h9 => by rw [if_pos h9] at h; cases h
    have h := si_in (not_not_intro hok59) h
    obtain ⟨q3, eq3, h⟩ := si_ob h
    have g := g.tr (mo_J0_charAt_5068e_d F (x3 + x5) S q3 eq3)
    exact g.tr (mo_L_feeds_h62 F r4 r20 hr4 hr20 _ _ _ _ _ _ _ _ h)
theorem mo_L_feeds_h20 (F : Nat) (r4 : Int32 → Int32 → si_St → Option (Int32 × si_St)) (r20 : Int32 → Int32 → Int32 → si_St → Option (Int32 × si_St)) (hr4 : ∀ (x2 : Int32) (x3 : Int32) (S : si_St) (o : Int32 × si_St), r4 x2 x3 S = some o → sd_le S o.2) (hr20 : ∀ (x2 : Int32) (x3 : Int32) (x5 : Int32) (S : si_St) (o : Int32 × si_St), r20 x2 x3 x5 S = some o → sd_le S o.2) (x2 : Int32) (x3 : Int32) (x5 : Int32) (S : si_St) (o : Int32 × si_St) (h : f_L_feeds_h20 F r4 r20 x2 x3 x5 S = some o) : sd_le S o.2 := by
  have g : sd_le S S := sd_le.rf
  unfold f_L_feeds_h20 at h
  rcases Decidable.em (20 ≤ x5) with c24 | c24
  · have h := si_ip c24 h
    obtain ⟨v4, ev4, h⟩ := si_ob h
    obtain ⟨v5, ev5, h⟩ := si_ob h
    obtain ⟨v6, ev6, h⟩ := si_ob h
    obtain ⟨v7, ev7, h⟩ := si_ob h
    obtain ⟨v8, ev8, h⟩ := si_ob h
    obtain ⟨v9, ev9, h⟩ := si_ob h
    obtain ⟨q10, eq10, h⟩ := si_ob h
    have g := g.tr (fr_X9_append F v5 v6 v7 v8 v9 S q10 eq10).le
    rcases Decidable.em (q10.1 = v4) with c103 | c103
    · have h := si_ip c103 h
      obtain ⟨v11, ev11, h⟩ := si_ob h
      exact g.tr (hr4 _ _ _ _ h)
    · have h := si_in c103 h
      obtain ⟨v12, ev12, h⟩ := si_ob h
      obtain rfl := Option.some.inj h
      exact g
  · have h := si_in c24 h
    obtain ⟨v13, ev13, h⟩ := si_ob h
    have hok48 : sd_ok S 89 := Decidable.byContradiction fun h9 => by rw [if_pos h9] at h; cases h
    have h := si_in (not_not_intro hok48) h
    obtain ⟨q14, eq14, h⟩ := si_ob h
    have g := g.tr (mo_J0_length_8abf5_d F S q14 eq14)
    exact g.tr (mo_L_feeds_h51 F r4 r20 hr4 hr20 _ _ _ _ _ _ _ _ _ h)
theorem mo_L_feeds_l20 (F : Nat) (r4 : Int32 → Int32 → si_St → Option (Int32 × si_St)) (hr4 : ∀ (x2 : Int32) (x3 : Int32) (S : si_St) (o : Int32 × si_St), r4 x2 x3 S = some o → sd_le S o.2) : ∀ (n : Nat) (x2 : Int32) (x3 : Int32) (x5 : Int32) (S : si_St) (o : Int32 × si_St), f_L_feeds_l20 F r4 n x2 x3 x5 S = some o → sd_le S o.2 := by
  intro n
  induction n with
  | zero => intro x2 x3 x5 S o h; cases h
  | succ n ih =>
    intro x2 x3 x5 S o h
    exact mo_L_feeds_h20 F r4 (f_L_feeds_l20 F r4 n) hr4 ih x2 x3 x5 S o h
theorem mo_L_feeds_h15 (F : Nat) (r4 : Int32 → Int32 → si_St → Option (Int32 × si_St)) (hr4 : ∀ (x2 : Int32) (x3 : Int32) (S : si_St) (o : Int32 × si_St), r4 x2 x3 S = some o → sd_le S o.2) (x2 : Int32) (x3 : Int32) (S : si_St) (o : Int32 × si_St) (h : f_L_feeds_h15 F r4 x2 x3 S = some o) : sd_le S o.2 := by
  have g : sd_le S S := sd_le.rf
  unfold f_L_feeds_h15 at h
  exact g.tr (mo_L_feeds_l20 F r4 hr4 F _ _ _ _ _ h)
theorem mo_L_feeds_h9 (F : Nat) (r4 : Int32 → Int32 → si_St → Option (Int32 × si_St)) (hr4 : ∀ (x2 : Int32) (x3 : Int32) (S : si_St) (o : Int32 × si_St), r4 x2 x3 S = some o → sd_le S o.2) (x2 : Int32) (x3 : Int32) (t0 : Int32) (t1 : Int32) (S : si_St) (o : Int32 × si_St) (h : f_L_feeds_h9 F r4 x2 x3 t0 t1 S = some o) : sd_le S o.2 := by
  have g : sd_le S S := sd_le.rf
  unfold f_L_feeds_h9 at h
  rcases Decidable.em (t0 ≤ t1) with c9 | c9
  · have h := si_ip c9 h
    obtain ⟨v15, ev15, h⟩ := si_ob h
    obtain rfl := Option.some.inj h
    exact g
  · have h := si_in c9 h
    obtain ⟨S16, eS16, h⟩ := si_ob h
    have g := g.tr (sd_na_m eS16)
    exact g.tr (mo_L_feeds_h15 F r4 hr4 _ _ _ _ h)
theorem mo_L_feeds_h4 (F : Nat) (r4 : Int32 → Int32 → si_St → Option (Int32 × si_St)) (hr4 : ∀ (x2 : Int32) (x3 : Int32) (S : si_St) (o : Int32 × si_St), r4 x2 x3 S = some o → sd_le S o.2) (x2 : Int32) (x3 : Int32) (S : si_St) (o : Int32 × si_St) (h : f_L_feeds_h4 F r4 x2 x3 S = some o) : sd_le S o.2 := by
  have g : sd_le S S := sd_le.rf
  unfold f_L_feeds_h4 at h
  have hok6 : sd_ok S 89 := Decidable.byContradiction fun h9 => by rw [if_pos h9] at h; cases h
  have h := si_in (not_not_intro hok6) h
  obtain ⟨q17, eq17, h⟩ := si_ob h
  have g := g.tr (mo_J0_length_8abf5_d F S q17 eq17)
  exact g.tr (mo_L_feeds_h9 F r4 hr4 _ _ _ _ _ _ h)
theorem mo_L_feeds_l4 (F : Nat) : ∀ (n : Nat) (x2 : Int32) (x3 : Int32) (S : si_St) (o : Int32 × si_St), f_L_feeds_l4 F n x2 x3 S = some o → sd_le S o.2 := by
  intro n
  induction n with
  | zero => intro x2 x3 S o h; cases h
  | succ n ih =>
    intro x2 x3 S o h
    exact mo_L_feeds_h4 F (f_L_feeds_l4 F n) ih x2 x3 S o h
theorem mo_L_feeds_h0 (F : Nat) (S : si_St) (o : Int32 × si_St) (h : f_L_feeds_h0 F S = some o) : sd_le S o.2 := by
  have g : sd_le S S := sd_le.rf
  unfold f_L_feeds_h0 at h
  exact g.tr (mo_L_feeds_l4 F F _ _ _ _ h)
theorem mo_L_feeds (F : Nat) (S : si_St) (o : Int32 × si_St) (h : f_L_feeds F S = some o) : sd_le S o.2 := by
  have g : sd_le S S := sd_le.rf
  unfold f_L_feeds at h
  exact g.tr (mo_L_feeds_h0 F _ _ h)
abbrev fr_L_feeds : Nat := 4
abbrev lo_L_feeds : Nat := 85
set_option maxHeartbeats 400000000 in
set_option maxRecDepth 100000 in
theorem c_L_feeds (l : Launch) (E0 : si_Ev) (F : Nat) (S0 : si_St) (o : Int32 × si_St) (hf : f_L_feeds F S0 = some o) : sd_Mi l al_L_feeds E0 yL_feeds cL_feeds 6 (some .boolean) fr_L_feeds lo_L_feeds [.ref (E0.2.1 0), .ref (E0.2.1 89)] S0 o := by
  refine sd_ofWz (plainFor_of_name (by decide +kernel)) (Nat.le_of_ble_eq_true rfl) ?_
  intro p e s m args below meth c ls Q A X hmn hw hA hl hret
  have hl : lv_has ls 6 [(0, .ref (E0.2.1 0)), (1, .ref (E0.2.1 89))] := hl
  have hR : sd_RR (sd_R fr_L_feeds lo_L_feeds S0 o.2) S0 o.2 := ⟨Nat.le_refl _, Nat.le_refl _⟩
  have hE : sd_EE al_L_feeds E0 E0 := sd_EE.rf
  have hc : sd_Ct S0 S0 0 0 := ⟨Nat.le_refl _, Nat.le_refl _⟩
  have B4 : ∀ (n4 : Nat) (x2 : Int32) (x3 : Int32) (E : si_Ev) (S : si_St) (H : Heap) (locs : List Loc) (ls : Array Slot) (cs ss : Nat), f_L_feeds_l4 F n4 x2 x3 S = some o → sd_EE al_L_feeds E0 E → si_Cx p s m args c cL_feeds 6 yL_feeds.cls E A → si_Ws E A s.heap S H locs → sd_Ct S0 S cs ss → lv_has ls 6 [(0, .ref (E.2.1 0)), (1, .ref (E.2.1 89)), (2, .int x2), (3, .int x3)] → W p l e (sd_R fr_L_feeds lo_L_feeds S0 o.2) s m args below meth c H locs cs ss Q (F0 m 4 ls []) := by
    intro n4
    induction n4 with
    | zero => intro x2 x3  E S H locs ls cs ss hf; cases hf
    | succ n4 ih4 =>
      have B20 : ∀ (n20 : Nat) (x2 : Int32) (x3 : Int32) (x5 : Int32) (E : si_Ev) (S : si_St) (H : Heap) (locs : List Loc) (ls : Array Slot) (cs ss : Nat), f_L_feeds_l20 F (f_L_feeds_l4 F n4) n20 x2 x3 x5 S = some o → sd_EE al_L_feeds E0 E → si_Cx p s m args c cL_feeds 6 yL_feeds.cls E A → si_Ws E A s.heap S H locs → sd_Ct S0 S cs ss → lv_has ls 6 [(0, .ref (E.2.1 0)), (1, .ref (E.2.1 89)), (2, .int x2), (3, .int x3), (4, .ref (E.2.1 97)), (5, .int x5)] → W p l e (sd_R fr_L_feeds lo_L_feeds S0 o.2) s m args below meth c H locs cs ss Q (F0 m 20 ls []) := by
        intro n20
        induction n20 with
        | zero => intro x2 x3 x5  E S H locs ls cs ss hf; cases hf
        | succ n20 ih20 =>
          have B67 : ∀ (x2 : Int32) (x3 : Int32) (x5 : Int32) (t0 : Int32) (t1 : Int32) (t2 : Int32) (E : si_Ev) (S : si_St) (H : Heap) (locs : List Loc) (ls : Array Slot) (cs ss : Nat), f_L_feeds_h67 F (f_L_feeds_l4 F n4) (f_L_feeds_l20 F (f_L_feeds_l4 F n4) n20) x2 x3 x5 t0 t1 t2 S = some o → sd_EE al_L_feeds E0 E → si_Cx p s m args c cL_feeds 6 yL_feeds.cls E A → si_Ws E A s.heap S H locs → sd_Ct S0 S cs ss → lv_has ls 6 [(0, .ref (E.2.1 0)), (1, .ref (E.2.1 89)), (2, .int x2), (3, .int x3), (4, .ref (E.2.1 97)), (5, .int x5)] → W p l e (sd_R fr_L_feeds lo_L_feeds S0 o.2) s m args below meth c H locs cs ss Q (F0 m 67 ls [.int t0, .int t1, .int t2, .ref (E.2.1 97)]) := by
            intro x2 x3 x5 t0 t1 t2  E S H locs ls cs ss hf hE X hw hc hl
            have hcs := sd_room hc (mo_L_feeds_h67 F (f_L_feeds_l4 F n4) (f_L_feeds_l20 F (f_L_feeds_l4 F n4) n20) (mo_L_feeds_l4 F n4) (mo_L_feeds_l20 F (f_L_feeds_l4 F n4) (mo_L_feeds_l4 F n4) n20) _ _ _ _ _ _ _ _ hf) hR
            unfold f_L_feeds_h67 at hf
            refine lv_ior X.1 X.2.1 dL_feeds_67 ?_
            obtain ⟨S1, eS1, hf⟩ := si_ob hf
            refine sd_iast X hw rfl eS1 dL_feeds_68 (fun H locs hw => ?_)
            have hc := hc.up (sd_wr_m eS1)
            obtain ⟨v2, ev2, hf⟩ := si_ob hf
            refine lv_iinc (v := v2) (lv' := [(5, .int v2), (0, .ref (E.2.1 0)), (1, .ref (E.2.1 89)), (2, .int x2), (3, .int x3), (4, .ref (E.2.1 97))]) X.1 X.2.1 dL_feeds_69 hl (k := 5) rfl (Option.some.inj ev2) (by decide) rfl (fun ls hl => ?_)
            refine lv_goto (tgt := 20) X.1 X.2.1 dL_feeds_72 (by decide) ?_
            exact ih20 _ _ _ _ _ _ _ _ _ _ hf hE X hw hc (lv_sub hl [1, 2, 3, 4, 5, 0] rfl)
          have B62 : ∀ (x2 : Int32) (x3 : Int32) (x5 : Int32) (t0 : Int32) (t1 : Int32) (t2 : Int32) (E : si_Ev) (S : si_St) (H : Heap) (locs : List Loc) (ls : Array Slot) (cs ss : Nat), f_L_feeds_h62 F (f_L_feeds_l4 F n4) (f_L_feeds_l20 F (f_L_feeds_l4 F n4) n20) x2 x3 x5 t0 t1 t2 S = some o → sd_EE al_L_feeds E0 E → si_Cx p s m args c cL_feeds 6 yL_feeds.cls E A → si_Ws E A s.heap S H locs → sd_Ct S0 S cs ss → lv_has ls 6 [(0, .ref (E.2.1 0)), (1, .ref (E.2.1 89)), (2, .int x2), (3, .int x3), (4, .ref (E.2.1 97)), (5, .int x5)] → W p l e (sd_R fr_L_feeds lo_L_feeds S0 o.2) s m args below meth c H locs cs ss Q (F0 m 62 ls [.int t0, .int t1, .int t2, .ref (E.2.1 97)]) := by
            intro x2 x3 x5 t0 t1 t2  E S H locs ls cs ss hf hE X hw hc hl
            have hcs := sd_room hc (mo_L_feeds_h62 F (f_L_feeds_l4 F n4) (f_L_feeds_l20 F (f_L_feeds_l4 F n4) n20) (mo_L_feeds_l4 F n4) (mo_L_feeds_l20 F (f_L_feeds_l4 F n4) (mo_L_feeds_l4 F n4) n20) _ _ _ _ _ _ _ _ hf) hR
            unfold f_L_feeds_h62 at hf
            refine lv_goto (tgt := 67) X.1 X.2.1 dL_feeds_62 (by decide) ?_
            exact B67 _ _ _ _ _ _ _ _ _ _ _ _ _ hf hE X hw hc (lv_sub hl [0, 1, 2, 3, 4, 5] rfl)
          have B51 : ∀ (x2 : Int32) (x3 : Int32) (x5 : Int32) (t0 : Int32) (t1 : Int32) (t2 : Int32) (t3 : Int32) (E : si_Ev) (S : si_St) (H : Heap) (locs : List Loc) (ls : Array Slot) (cs ss : Nat), f_L_feeds_h51 F (f_L_feeds_l4 F n4) (f_L_feeds_l20 F (f_L_feeds_l4 F n4) n20) x2 x3 x5 t0 t1 t2 t3 S = some o → sd_EE al_L_feeds E0 E → si_Cx p s m args c cL_feeds 6 yL_feeds.cls E A → si_Ws E A s.heap S H locs → sd_Ct S0 S cs ss → lv_has ls 6 [(0, .ref (E.2.1 0)), (1, .ref (E.2.1 89)), (2, .int x2), (3, .int x3), (4, .ref (E.2.1 97)), (5, .int x5)] → W p l e (sd_R fr_L_feeds lo_L_feeds S0 o.2) s m args below meth c H locs cs ss Q (F0 m 51 ls [.int t0, .int t1, .int t2, .int t3, .ref (E.2.1 97)]) := by
            intro x2 x3 x5 t0 t1 t2 t3  E S H locs ls cs ss hf hE X hw hc hl
            have hcs := sd_room hc (mo_L_feeds_h51 F (f_L_feeds_l4 F n4) (f_L_feeds_l20 F (f_L_feeds_l4 F n4) n20) (mo_L_feeds_l4 F n4) (mo_L_feeds_l20 F (f_L_feeds_l4 F n4) (mo_L_feeds_l4 F n4) n20) _ _ _ _ _ _ _ _ _ hf) hR
            unfold f_L_feeds_h51 at hf
            refine lv_icmp_ge (tgt := 65) X.1 X.2.1 dL_feeds_51 (by decide) (fun c51 => ?_) (fun c51 => ?_)
            · have hf := si_ip c51 hf
              refine lv_bipush (v := 32) X.1 X.2.1 dL_feeds_65 (by decide) ?_
              exact B67 _ _ _ _ _ _ _ _ _ _ _ _ _ hf hE X hw hc (lv_sub hl [0, 1, 2, 3, 4, 5] rfl)
            · have hf := si_in c51 hf
              refine lv_aload_n X.1 X.2.1 dL_feeds_54 rfl (lv_at hl 1 rfl) ?_
              refine lv_iload_n X.1 X.2.1 dL_feeds_55 rfl (lv_at hl 3 rfl) ?_
              refine lv_iload X.1 X.2.1 dL_feeds_56 (lv_at hl 5 rfl) ?_
              refine lv_iadd X.1 X.2.1 dL_feeds_58 ?_
              have hok59 : sd_ok S 89 := Decidable.byContradiction fun h9 => by rw [if_pos h9] at hf; cases hf
              have hf := si_in (not_not_intro hok59) hf
              obtain ⟨q3, eq3, hf⟩ := si_ob hf
              refine sd_goi (sd_runV (As := [.int (x3 + x5)]) (rest := [.int t2, .int t3, .ref (E.2.1 97)]) sd_cl21 rfl hok59 cal_J0_charAt_5068e gm_RL_13 X hw hA hl.1 ((c_J0_charAt_5068e_d l E F (x3 + x5) S q3 eq3) H.size) ⟨Nat.le_of_ble_eq_true rfl, Nat.le_of_ble_eq_true rfl⟩ rfl (Nat.le_of_ble_eq_true rfl) (sd_room2 hc (mo_J0_charAt_5068e_d F (x3 + x5) S q3 eq3) (mo_L_feeds_h62 F (f_L_feeds_l4 F n4) (f_L_feeds_l20 F (f_L_feeds_l4 F n4) n20) (mo_L_feeds_l4 F n4) (mo_L_feeds_l20 F (f_L_feeds_l4 F n4) (mo_L_feeds_l4 F n4) n20) _ _ _ _ _ _ _ _ hf) hR) dL_feeds_59) X hw hA hE hc (mo_J0_charAt_5068e_d F (x3 + x5) S q3 eq3) (fun _ _ => rfl) (fun E H locs cs ss hZ hE X hw hc => ?_)
              rw [← hZ.at 0 rfl] at hl
              rw [← hZ.at 89 rfl] at hl
              rw [← hZ.at 97 rfl] at hl
              rw [← hZ.at 97 rfl]
              exact B62 _ _ _ _ _ _ _ _ _ _ _ _ _ hf hE X hw hc (lv_sub hl [0, 1, 2, 3, 4, 5] rfl)
          intro x2 x3 x5  E S H locs ls cs ss hf hE X hw hc hl
          have hf : f_L_feeds_h20 F (f_L_feeds_l4 F n4) (f_L_feeds_l20 F (f_L_feeds_l4 F n4) n20) x2 x3 x5 S = some o := hf
          have ih_mo := mo_L_feeds_l20 F (f_L_feeds_l4 F n4) (mo_L_feeds_l4 F n4) n20
          have hcs := sd_room hc (mo_L_feeds_h20 F (f_L_feeds_l4 F n4) (f_L_feeds_l20 F (f_L_feeds_l4 F n4) n20) (mo_L_feeds_l4 F n4) ih_mo _ _ _ _ _ hf) hR
          unfold f_L_feeds_h20 at hf
          refine lv_iload X.1 X.2.1 dL_feeds_20 (lv_at hl 5 rfl) ?_
          refine lv_bipush (v := 20) X.1 X.2.1 dL_feeds_22 (by decide) ?_
          refine lv_icmp_ge (tgt := 75) X.1 X.2.1 dL_feeds_24 (by decide) (fun c24 => ?_) (fun c24 => ?_)
          · have hf := si_ip c24 hf
            obtain ⟨v4, ev4, hf⟩ := si_ob hf
            refine lv_iinc (v := v4) (lv' := [(2, .int v4), (0, .ref (E.2.1 0)), (1, .ref (E.2.1 89)), (3, .int x3), (4, .ref (E.2.1 97)), (5, .int x5)]) X.1 X.2.1 dL_feeds_75 hl (k := 2) rfl (Option.some.inj ev4) (by decide) rfl (fun ls hl => ?_)
            refine lv_aload_n X.1 X.2.1 dL_feeds_78 rfl (lv_at hl 1 rfl) ?_
            refine lv_aload X.1 X.2.1 dL_feeds_79 (lv_at hl 4 rfl) ?_
            refine lv_iconst (v := 0) X.1 X.2.1 dL_feeds_81 (by decide) ?_
            obtain ⟨v5, ev5, hf⟩ := si_ob hf
            refine sd_iald X hw rfl ev5 dL_feeds_82 ?_
            refine lv_aload X.1 X.2.1 dL_feeds_83 (lv_at hl 4 rfl) ?_
            refine lv_iconst (v := 1) X.1 X.2.1 dL_feeds_85 (by decide) ?_
            obtain ⟨v6, ev6, hf⟩ := si_ob hf
            refine sd_iald X hw rfl ev6 dL_feeds_86 ?_
            refine lv_aload X.1 X.2.1 dL_feeds_87 (lv_at hl 4 rfl) ?_
            refine lv_iconst (v := 2) X.1 X.2.1 dL_feeds_89 (by decide) ?_
            obtain ⟨v7, ev7, hf⟩ := si_ob hf
            refine sd_iald X hw rfl ev7 dL_feeds_90 ?_
            refine lv_aload X.1 X.2.1 dL_feeds_91 (lv_at hl 4 rfl) ?_
            refine lv_iconst (v := 3) X.1 X.2.1 dL_feeds_93 (by decide) ?_
            obtain ⟨v8, ev8, hf⟩ := si_ob hf
            refine sd_iald X hw rfl ev8 dL_feeds_94 ?_
            refine lv_aload X.1 X.2.1 dL_feeds_95 (lv_at hl 4 rfl) ?_
            refine lv_iconst (v := 4) X.1 X.2.1 dL_feeds_97 (by decide) ?_
            obtain ⟨v9, ev9, hf⟩ := si_ob hf
            refine sd_iald X hw rfl ev9 dL_feeds_98 ?_
            obtain ⟨q10, eq10, hf⟩ := si_ob hf
            refine si_cVi [.int v5, .int v6, .int v7, .int v8, .int v9] cal_X9_append gm_RL_17 X hw hA hl.1 (c_X9_append l E F v5 v6 v7 v8 v9 S q10 eq10) si_cl9 rfl ⟨⟨rfl, rfl⟩, Nat.le_of_ble_eq_true rfl, Nat.le_of_ble_eq_true rfl⟩ rfl rfl (Nat.le_of_ble_eq_true rfl) hcs dL_feeds_99 (fun H locs hw => ?_)
            have hc := hc.up (fr_X9_append F v5 v6 v7 v8 v9 S q10 eq10).le
            refine lv_iload_n X.1 X.2.1 dL_feeds_102 rfl (lv_at hl 0 rfl) ?_
            refine lv_icmp_eq (tgt := 108) X.1 X.2.1 dL_feeds_103 (by decide) (fun c103 => ?_) (fun c103 => ?_)
            · have hf := si_ip c103 hf
              obtain ⟨v11, ev11, hf⟩ := si_ob hf
              refine lv_iinc (v := v11) (lv' := [(3, .int v11), (2, .int v4), (0, .ref (E.2.1 0)), (1, .ref (E.2.1 89)), (4, .ref (E.2.1 97)), (5, .int x5)]) X.1 X.2.1 dL_feeds_108 hl (k := 3) rfl (Option.some.inj ev11) (by decide) rfl (fun ls hl => ?_)
              refine lv_goto (tgt := 4) X.1 X.2.1 dL_feeds_111 (by decide) ?_
              exact ih4 _ _ _ _ _ _ _ _ _ hf hE X hw hc (lv_sub hl [2, 3, 1, 0] rfl)
            · have hf := si_in c103 hf
              refine lv_iconst (v := 0) X.1 X.2.1 dL_feeds_106 (by decide) ?_
              obtain ⟨v12, ev12, hf⟩ := si_ob hf
              exact hret _ _ _ _ _ _ _ _ _ (si_bzf ev12 hf) (si_nz (si_bz_inv ev12).1) ⟨hE, hw, hc⟩ dL_feeds_107
          · have hf := si_in c24 hf
            refine lv_aload X.1 X.2.1 dL_feeds_27 (lv_at hl 4 rfl) ?_
            refine lv_iload X.1 X.2.1 dL_feeds_29 (lv_at hl 5 rfl) ?_
            refine lv_iconst (v := 4) X.1 X.2.1 dL_feeds_31 (by decide) ?_
            refine lv_idiv X.1 X.2.1 dL_feeds_32 (by decide) ?_
            refine lv_aload X.1 X.2.1 dL_feeds_33 (lv_at hl 4 rfl) ?_
            refine lv_iload X.1 X.2.1 dL_feeds_35 (lv_at hl 5 rfl) ?_
            refine lv_iconst (v := 4) X.1 X.2.1 dL_feeds_37 (by decide) ?_
            refine lv_idiv X.1 X.2.1 dL_feeds_38 (by decide) ?_
            obtain ⟨v13, ev13, hf⟩ := si_ob hf
            refine sd_iald X hw rfl ev13 dL_feeds_39 ?_
            refine lv_bipush (v := 8) X.1 X.2.1 dL_feeds_40 (by decide) ?_
            refine lv_ishl X.1 X.2.1 dL_feeds_42 ?_
            refine lv_iload_n X.1 X.2.1 dL_feeds_43 rfl (lv_at hl 3 rfl) ?_
            refine lv_iload X.1 X.2.1 dL_feeds_44 (lv_at hl 5 rfl) ?_
            refine lv_iadd X.1 X.2.1 dL_feeds_46 ?_
            refine lv_aload_n X.1 X.2.1 dL_feeds_47 rfl (lv_at hl 1 rfl) ?_
            have hok48 : sd_ok S 89 := Decidable.byContradiction fun h9 => by rw [if_pos h9] at hf; cases hf
            have hf := si_in (not_not_intro hok48) hf
            obtain ⟨q14, eq14, hf⟩ := si_ob hf
            refine sd_goi (sd_runV (As := []) (rest := [.int (x3 + x5), .int (v13 <<< (8 &&& 31)), .int (x5 / 4), .ref (E.2.1 97)]) sd_cl21 rfl hok48 cal_J0_length_8abf5 gm_RL_7 X hw hA hl.1 ((c_J0_length_8abf5_d l E F S q14 eq14) H.size) ⟨Nat.le_of_ble_eq_true rfl, Nat.le_of_ble_eq_true rfl⟩ rfl (Nat.le_of_ble_eq_true rfl) (sd_room2 hc (mo_J0_length_8abf5_d F S q14 eq14) (mo_L_feeds_h51 F (f_L_feeds_l4 F n4) (f_L_feeds_l20 F (f_L_feeds_l4 F n4) n20) (mo_L_feeds_l4 F n4) (mo_L_feeds_l20 F (f_L_feeds_l4 F n4) (mo_L_feeds_l4 F n4) n20) _ _ _ _ _ _ _ _ _ hf) hR) dL_feeds_48) X hw hA hE hc (mo_J0_length_8abf5_d F S q14 eq14) (fun _ _ => rfl) (fun E H locs cs ss hZ hE X hw hc => ?_)
            rw [← hZ.at 0 rfl] at hl
            rw [← hZ.at 89 rfl] at hl
            rw [← hZ.at 97 rfl] at hl
            rw [← hZ.at 97 rfl]
            exact B51 _ _ _ _ _ _ _ _ _ _ _ _ _ _ hf hE X hw hc (lv_sub hl [0, 1, 2, 3, 4, 5] rfl)
      have B15 : ∀ (x2 : Int32) (x3 : Int32) (E : si_Ev) (S : si_St) (H : Heap) (locs : List Loc) (ls : Array Slot) (cs ss : Nat), f_L_feeds_h15 F (f_L_feeds_l4 F n4) x2 x3 S = some o → sd_EE al_L_feeds E0 E → si_Cx p s m args c cL_feeds 6 yL_feeds.cls E A → si_Ws E A s.heap S H locs → sd_Ct S0 S cs ss → lv_has ls 6 [(0, .ref (E.2.1 0)), (1, .ref (E.2.1 89)), (2, .int x2), (3, .int x3)] → W p l e (sd_R fr_L_feeds lo_L_feeds S0 o.2) s m args below meth c H locs cs ss Q (F0 m 15 ls [.ref (E.2.1 97)]) := by
        intro x2 x3  E S H locs ls cs ss hf hE X hw hc hl
        have hcs := sd_room hc (mo_L_feeds_h15 F (f_L_feeds_l4 F n4) (mo_L_feeds_l4 F n4) _ _ _ _ hf) hR
        unfold f_L_feeds_h15 at hf
        refine lv_astore (lv' := [(4, .ref (E.2.1 97)), (0, .ref (E.2.1 0)), (1, .ref (E.2.1 89)), (2, .int x2), (3, .int x3)]) X.1 X.2.1 dL_feeds_15 hl (by decide) rfl (fun ls hl => ?_)
        refine lv_iconst (v := 0) X.1 X.2.1 dL_feeds_17 (by decide) ?_
        refine lv_istore (lv' := [(5, .int 0), (4, .ref (E.2.1 97)), (0, .ref (E.2.1 0)), (1, .ref (E.2.1 89)), (2, .int x2), (3, .int x3)]) X.1 X.2.1 dL_feeds_18 hl (by decide) rfl (fun ls hl => ?_)
        exact B20 F _ _ _ _ _ _ _ _ _ _ hf hE X hw hc (lv_sub hl [2, 3, 4, 5, 1, 0] rfl)
      have B9 : ∀ (x2 : Int32) (x3 : Int32) (t0 : Int32) (t1 : Int32) (E : si_Ev) (S : si_St) (H : Heap) (locs : List Loc) (ls : Array Slot) (cs ss : Nat), f_L_feeds_h9 F (f_L_feeds_l4 F n4) x2 x3 t0 t1 S = some o → sd_EE al_L_feeds E0 E → si_Cx p s m args c cL_feeds 6 yL_feeds.cls E A → si_Ws E A s.heap S H locs → sd_Ct S0 S cs ss → lv_has ls 6 [(0, .ref (E.2.1 0)), (1, .ref (E.2.1 89)), (2, .int x2), (3, .int x3)] → W p l e (sd_R fr_L_feeds lo_L_feeds S0 o.2) s m args below meth c H locs cs ss Q (F0 m 9 ls [.int t0, .int t1]) := by
        intro x2 x3 t0 t1  E S H locs ls cs ss hf hE X hw hc hl
        have hcs := sd_room hc (mo_L_feeds_h9 F (f_L_feeds_l4 F n4) (mo_L_feeds_l4 F n4) _ _ _ _ _ _ hf) hR
        unfold f_L_feeds_h9 at hf
        refine lv_icmp_ge (tgt := 114) X.1 X.2.1 dL_feeds_9 (by decide) (fun c9 => ?_) (fun c9 => ?_)
        · have hf := si_ip c9 hf
          refine lv_iconst (v := 1) X.1 X.2.1 dL_feeds_114 (by decide) ?_
          obtain ⟨v15, ev15, hf⟩ := si_ob hf
          exact hret _ _ _ _ _ _ _ _ _ (si_bzf ev15 hf) (si_nz (si_bz_inv ev15).1) ⟨hE, hw, hc⟩ dL_feeds_115
        · have hf := si_in c9 hf
          refine lv_iconst (v := 5) X.1 X.2.1 dL_feeds_12 (by decide) ?_
          obtain ⟨S16, eS16, hf⟩ := si_ob hf
          refine sd_newI X hw hA hE hc hR ga_int rfl rfl eS16 (mo_L_feeds_h15 F (f_L_feeds_l4 F n4) (mo_L_feeds_l4 F n4) _ _ _ _ hf) dL_feeds_13 (fun E H cs ss hZ hE X hw hc => ?_)
          rw [← hZ.at 0 rfl] at hl
          rw [← hZ.at 89 rfl] at hl
          exact B15 _ _ _ _ _ _ _ _ _ hf hE X hw hc (lv_sub hl [0, 1, 2, 3] rfl)
      intro x2 x3  E S H locs ls cs ss hf hE X hw hc hl
      have hf : f_L_feeds_h4 F (f_L_feeds_l4 F n4) x2 x3 S = some o := hf
      have ih_mo := mo_L_feeds_l4 F n4
      have hcs := sd_room hc (mo_L_feeds_h4 F (f_L_feeds_l4 F n4) ih_mo _ _ _ _ hf) hR
      unfold f_L_feeds_h4 at hf
      refine lv_iload_n X.1 X.2.1 dL_feeds_4 rfl (lv_at hl 3 rfl) ?_
      refine lv_aload_n X.1 X.2.1 dL_feeds_5 rfl (lv_at hl 1 rfl) ?_
      have hok6 : sd_ok S 89 := Decidable.byContradiction fun h9 => by rw [if_pos h9] at hf; cases hf
      have hf := si_in (not_not_intro hok6) hf
      obtain ⟨q17, eq17, hf⟩ := si_ob hf
      refine sd_goi (sd_runV (As := []) (rest := [.int x3]) sd_cl21 rfl hok6 cal_J0_length_8abf5 gm_RL_7 X hw hA hl.1 ((c_J0_length_8abf5_d l E F S q17 eq17) H.size) ⟨Nat.le_of_ble_eq_true rfl, Nat.le_of_ble_eq_true rfl⟩ rfl (Nat.le_of_ble_eq_true rfl) (sd_room2 hc (mo_J0_length_8abf5_d F S q17 eq17) (mo_L_feeds_h9 F (f_L_feeds_l4 F n4) (mo_L_feeds_l4 F n4) _ _ _ _ _ _ hf) hR) dL_feeds_6) X hw hA hE hc (mo_J0_length_8abf5_d F S q17 eq17) (fun _ _ => rfl) (fun E H locs cs ss hZ hE X hw hc => ?_)
      rw [← hZ.at 0 rfl] at hl
      rw [← hZ.at 89 rfl] at hl
      exact B9 _ _ _ _ _ _ _ _ _ _ _ hf hE X hw hc (lv_sub hl [0, 1, 2, 3] rfl)
  have B0 : ∀ (E : si_Ev) (S : si_St) (H : Heap) (locs : List Loc) (ls : Array Slot) (cs ss : Nat), f_L_feeds_h0 F S = some o → sd_EE al_L_feeds E0 E → si_Cx p s m args c cL_feeds 6 yL_feeds.cls E A → si_Ws E A s.heap S H locs → sd_Ct S0 S cs ss → lv_has ls 6 [(0, .ref (E.2.1 0)), (1, .ref (E.2.1 89))] → W p l e (sd_R fr_L_feeds lo_L_feeds S0 o.2) s m args below meth c H locs cs ss Q (F0 m 0 ls []) := by
    intro   E S H locs ls cs ss hf hE X hw hc hl
    have hcs := sd_room hc (mo_L_feeds_h0 F _ _ hf) hR
    unfold f_L_feeds_h0 at hf
    refine lv_iconst (v := 0) X.1 X.2.1 dL_feeds_0 (by decide) ?_
    refine lv_istore_n (lv' := [(2, .int 0), (0, .ref (E.2.1 0)), (1, .ref (E.2.1 89))]) X.1 X.2.1 dL_feeds_1 rfl hl (by decide) rfl (fun ls hl => ?_)
    refine lv_iconst (v := 0) X.1 X.2.1 dL_feeds_2 (by decide) ?_
    refine lv_istore_n (lv' := [(3, .int 0), (2, .int 0), (0, .ref (E.2.1 0)), (1, .ref (E.2.1 89))]) X.1 X.2.1 dL_feeds_3 rfl hl (by decide) rfl (fun ls hl => ?_)
    exact B4 F _ _ _ _ _ _ _ _ _ hf hE X hw hc (lv_sub hl [2, 3, 1, 0] rfl)
  unfold f_L_feeds at hf
  exact B0 _ _ _ _ _ _ _ hf hE X hw hc (lv_sub hl [0, 1] rfl)
def al_L_loads : Nat → Bool := fun a => decide (a = 87 ∨ a = 88 ∨ a = 89 ∨ a = 90 ∨ a = 91 ∨ a = 92 ∨ a = 93 ∨ a = 94 ∨ a = 95 ∨ a = 96 ∨ a = 97 ∨ a = 100)
theorem sd_als_L_loads_J4_init_da8c8 : ∀ k, al_L_loads k = false → al_J4_init_da8c8 k = false := by
  intro k h
  simp only [al_L_loads, al_J4_init_da8c8, decide_eq_false_iff_not] at h ⊢
  omega
theorem sd_als_L_loads_L_market : ∀ k, al_L_loads k = false → al_L_market k = false := by
  intro k h
  simp only [al_L_loads, al_L_market, decide_eq_false_iff_not] at h ⊢
  omega
theorem sd_als_L_loads_J4_toString_0e30d : ∀ k, al_L_loads k = false → al_J4_toString_0e30d k = false := by
  intro k h
  simp only [al_L_loads, al_J4_toString_0e30d, decide_eq_false_iff_not] at h ⊢
  omega
theorem sd_als_L_loads_L_feeds : ∀ k, al_L_loads k = false → al_L_feeds k = false := by
  intro k h
  simp only [al_L_loads, al_L_feeds, decide_eq_false_iff_not] at h ⊢
  omega
def f_L_loads_h46 (F : Nat) (t0 : Int32) (S : si_St) : Option (si_St) :=
  Option.bind (f_X9_parse F t0 S) fun q1 => if q1.1 = 0 then (some q1.2) else (none)
def f_L_loads_h38 (F : Nat) (t0 : Int32) (S : si_St) : Option (si_St) :=
  if t0 = 0 then (none) else (if ¬ (sd_ok S 87) then none else Option.bind (f_J4_length_8abf5 F S) fun q2 => f_L_loads_h46 F q2.1 q2.2)
def f_L_loads_h35 (F : Nat) (S : si_St) : Option (si_St) :=
  Option.bind (f_L_feeds F S) fun q3 => f_L_loads_h38 F q3.1 q3.2
def f_L_loads_h24 (F : Nat) (t0 : Int32) (S : si_St) : Option (si_St) :=
  if 800 < t0 then (none) else (if ¬ (sd_ok S 87) then none else Option.bind (f_J4_toString_0e30d F S) fun S4 => f_L_loads_h35 F S4)
def f_L_loads_h19 (F : Nat) (S : si_St) : Option (si_St) :=
  if ¬ (sd_ok S 87) then none else Option.bind (f_J4_length_8abf5 F S) fun q5 => f_L_loads_h24 F q5.1 q5.2
def f_L_loads_h11 (F : Nat) (x1 : Int32) (S : si_St) : Option (si_St) :=
  Option.bind (sd_wr S 91 0 x1) fun S6 => Option.bind (f_L_market F S6) fun S7 => f_L_loads_h19 F S7
def f_L_loads_h7 (F : Nat) (x1 : Int32) (S : si_St) : Option (si_St) :=
  Option.bind (sd_na S 91 1) fun S8 => f_L_loads_h11 F x1 S8
def f_L_loads_h3 (F : Nat) (x1 : Int32) (S : si_St) : Option (si_St) :=
  Option.bind (f_J4_init_da8c8 F S) fun S9 => f_L_loads_h7 F x1 S9
def f_L_loads_h0 (F : Nat) (x1 : Int32) (S : si_St) : Option (si_St) :=
  Option.bind (sd_no S 87 4) fun S10 => f_L_loads_h3 F x1 S10
def f_L_loads (F : Nat) (x1 : Int32) (S : si_St) : Option (si_St) :=
  f_L_loads_h0 F x1 S
theorem mo_L_loads_h46 (F : Nat) (t0 : Int32) (S : si_St) (o : si_St) (h : f_L_loads_h46 F t0 S = some o) : sd_le S o := by
  have g : sd_le S S := sd_le.rf
  unfold f_L_loads_h46 at h
  obtain ⟨q1, eq1, h⟩ := si_ob h
  have g := g.tr (fr_X9_parse F t0 S q1 eq1).le
  rcases Decidable.em (q1.1 = 0) with c49 | c49
  · have h := si_ip c49 h
    obtain rfl := Option.some.inj h
    exact g
  · have h := si_in c49 h
    cases h
theorem mo_L_loads_h38 (F : Nat) (t0 : Int32) (S : si_St) (o : si_St) (h : f_L_loads_h38 F t0 S = some o) : sd_le S o := by
  have g : sd_le S S := sd_le.rf
  unfold f_L_loads_h38 at h
  rcases Decidable.em (t0 = 0) with c38 | c38
  · have h := si_ip c38 h
    cases h
  · have h := si_in c38 h
    have hok43 : sd_ok S 87 := Decidable.byContradiction fun h9 => by rw [if_pos h9] at h; cases h
    have h := si_in (not_not_intro hok43) h
    obtain ⟨q2, eq2, h⟩ := si_ob h
    have g := g.tr (mo_J4_length_8abf5 F S q2 eq2)
    exact g.tr (mo_L_loads_h46 F _ _ _ h)
theorem mo_L_loads_h35 (F : Nat) (S : si_St) (o : si_St) (h : f_L_loads_h35 F S = some o) : sd_le S o := by
  have g : sd_le S S := sd_le.rf
  unfold f_L_loads_h35 at h
  obtain ⟨q3, eq3, h⟩ := si_ob h
  have g := g.tr (mo_L_feeds F S q3 eq3)
  exact g.tr (mo_L_loads_h38 F _ _ _ h)
theorem mo_L_loads_h24 (F : Nat) (t0 : Int32) (S : si_St) (o : si_St) (h : f_L_loads_h24 F t0 S = some o) : sd_le S o := by
  have g : sd_le S S := sd_le.rf
  unfold f_L_loads_h24 at h
  rcases Decidable.em (800 < t0) with c27 | c27
  · have h := si_ip c27 h
    cases h
  · have h := si_in c27 h
    have hok32 : sd_ok S 87 := Decidable.byContradiction fun h9 => by rw [if_pos h9] at h; cases h
    have h := si_in (not_not_intro hok32) h
    obtain ⟨S4, eS4, h⟩ := si_ob h
    have g := g.tr (mo_J4_toString_0e30d F S S4 eS4)
    exact g.tr (mo_L_loads_h35 F _ _ h)
theorem mo_L_loads_h19 (F : Nat) (S : si_St) (o : si_St) (h : f_L_loads_h19 F S = some o) : sd_le S o := by
  have g : sd_le S S := sd_le.rf
  unfold f_L_loads_h19 at h
  have hok21 : sd_ok S 87 := Decidable.byContradiction fun h9 => by rw [if_pos h9] at h; cases h
  have h := si_in (not_not_intro hok21) h
  obtain ⟨q5, eq5, h⟩ := si_ob h
  have g := g.tr (mo_J4_length_8abf5 F S q5 eq5)
  exact g.tr (mo_L_loads_h24 F _ _ _ h)
theorem mo_L_loads_h11 (F : Nat) (x1 : Int32) (S : si_St) (o : si_St) (h : f_L_loads_h11 F x1 S = some o) : sd_le S o := by
  have g : sd_le S S := sd_le.rf
  unfold f_L_loads_h11 at h
  obtain ⟨S6, eS6, h⟩ := si_ob h
  have g := g.tr (sd_wr_m eS6)
  obtain ⟨S7, eS7, h⟩ := si_ob h
  have g := g.tr (mo_L_market F S6 S7 eS7)
  exact g.tr (mo_L_loads_h19 F _ _ h)
theorem mo_L_loads_h7 (F : Nat) (x1 : Int32) (S : si_St) (o : si_St) (h : f_L_loads_h7 F x1 S = some o) : sd_le S o := by
  have g : sd_le S S := sd_le.rf
  unfold f_L_loads_h7 at h
  obtain ⟨S8, eS8, h⟩ := si_ob h
  have g := g.tr (sd_na_m eS8)
  exact g.tr (mo_L_loads_h11 F _ _ _ h)
theorem mo_L_loads_h3 (F : Nat) (x1 : Int32) (S : si_St) (o : si_St) (h : f_L_loads_h3 F x1 S = some o) : sd_le S o := by
  have g : sd_le S S := sd_le.rf
  unfold f_L_loads_h3 at h
  obtain ⟨S9, eS9, h⟩ := si_ob h
  have g := g.tr (mo_J4_init_da8c8 F S S9 eS9)
  exact g.tr (mo_L_loads_h7 F _ _ _ h)
theorem mo_L_loads_h0 (F : Nat) (x1 : Int32) (S : si_St) (o : si_St) (h : f_L_loads_h0 F x1 S = some o) : sd_le S o := by
  have g : sd_le S S := sd_le.rf
  unfold f_L_loads_h0 at h
  obtain ⟨S10, eS10, h⟩ := si_ob h
  have g := g.tr (sd_no_m eS10)
  exact g.tr (mo_L_loads_h3 F _ _ _ h)
theorem mo_L_loads (F : Nat) (x1 : Int32) (S : si_St) (o : si_St) (h : f_L_loads F x1 S = some o) : sd_le S o := by
  have g : sd_le S S := sd_le.rf
  unfold f_L_loads at h
  exact g.tr (mo_L_loads_h0 F _ _ _ h)
abbrev fr_L_loads : Nat := 9
abbrev lo_L_loads : Nat := 196
set_option maxHeartbeats 400000000 in
set_option maxRecDepth 100000 in
theorem c_L_loads (l : Launch) (E0 : si_Ev) (F : Nat) (x1 : Int32) (S0 : si_St) (o : si_St) (hf : f_L_loads F x1 S0 = some o) : sd_Mr l al_L_loads E0 yL_loads cL_loads 4 (some (.object "ScaleInspectionLaw$Market")) fr_L_loads lo_L_loads [.ref (E0.2.1 0), .int x1] S0 92 o := by
  refine sd_ofWr (Or.inl ⟨_, rfl⟩) (plainFor_of_name (by decide +kernel)) (Nat.le_of_ble_eq_true rfl) ?_
  intro p e s m args below meth c ls Q A X hmn hw hA hl hret
  have hl : lv_has ls 4 [(0, .ref (E0.2.1 0)), (1, .int x1)] := hl
  have hR : sd_RR (sd_R fr_L_loads lo_L_loads S0 o) S0 o := ⟨Nat.le_refl _, Nat.le_refl _⟩
  have hE : sd_EE al_L_loads E0 E0 := sd_EE.rf
  have hc : sd_Ct S0 S0 0 0 := ⟨Nat.le_refl _, Nat.le_refl _⟩
  have B46 : ∀ (t0 : Int32) (E : si_Ev) (S : si_St) (H : Heap) (locs : List Loc) (ls : Array Slot) (cs ss : Nat), f_L_loads_h46 F t0 S = some o → sd_EE al_L_loads E0 E → si_Cx p s m args c cL_loads 4 yL_loads.cls E A → si_Ws E A s.heap S H locs → sd_Ct S0 S cs ss → lv_has ls 4 [(3, .ref (E.2.1 92))] → W p l e (sd_R fr_L_loads lo_L_loads S0 o) s m args below meth c H locs cs ss Q (F0 m 46 ls [.int t0, .ref (E.2.1 0)]) := by
    intro t0  E S H locs ls cs ss hf hE X hw hc hl
    have hcs := sd_room hc (mo_L_loads_h46 F _ _ _ hf) hR
    unfold f_L_loads_h46 at hf
    obtain ⟨q1, eq1, hf⟩ := si_ob hf
    refine si_cVi [.int t0] cal_X9_parse gm_RL_94 X hw hA hl.1 (c_X9_parse l E F t0 S q1 eq1) si_cl9 rfl ⟨⟨rfl, rfl⟩, Nat.le_of_ble_eq_true rfl, Nat.le_of_ble_eq_true rfl⟩ rfl rfl (Nat.le_of_ble_eq_true rfl) hcs dL_loads_46 (fun H locs hw => ?_)
    have hc := hc.up (fr_X9_parse F t0 S q1 eq1).le
    refine lv_if_ne (tgt := 56) X.1 X.2.1 dL_loads_49 (by decide) (fun c49 => ?_) (fun c49 => ?_)
    · have hf := si_in c49 hf
      cases hf
    · have hf := si_ip c49 hf
      refine lv_aload_n X.1 X.2.1 dL_loads_52 rfl (lv_at hl 0 rfl) ?_
      refine lv_goto (tgt := 57) X.1 X.2.1 dL_loads_53 (by decide) ?_
      exact hret _ _ _ _ _ _ _ _ hf ⟨hE, hw, hc⟩ dL_loads_57
  have B38 : ∀ (t0 : Int32) (E : si_Ev) (S : si_St) (H : Heap) (locs : List Loc) (ls : Array Slot) (cs ss : Nat), f_L_loads_h38 F t0 S = some o → sd_EE al_L_loads E0 E → si_Cx p s m args c cL_loads 4 yL_loads.cls E A → si_Ws E A s.heap S H locs → sd_Ct S0 S cs ss → lv_has ls 4 [(0, .ref (E.2.1 0)), (2, .ref (E.2.1 87)), (3, .ref (E.2.1 92))] → W p l e (sd_R fr_L_loads lo_L_loads S0 o) s m args below meth c H locs cs ss Q (F0 m 38 ls [.int t0]) := by
    intro t0  E S H locs ls cs ss hf hE X hw hc hl
    have hcs := sd_room hc (mo_L_loads_h38 F _ _ _ hf) hR
    unfold f_L_loads_h38 at hf
    refine lv_if_eq (tgt := 56) X.1 X.2.1 dL_loads_38 (by decide) (fun c38 => ?_) (fun c38 => ?_)
    · have hf := si_ip c38 hf
      cases hf
    · have hf := si_in c38 hf
      refine lv_aload_n X.1 X.2.1 dL_loads_41 rfl (lv_at hl 0 rfl) ?_
      refine lv_aload_n X.1 X.2.1 dL_loads_42 rfl (lv_at hl 1 rfl) ?_
      have hok43 : sd_ok S 87 := Decidable.byContradiction fun h9 => by rw [if_pos h9] at hf; cases hf
      have hf := si_in (not_not_intro hok43) hf
      obtain ⟨q2, eq2, hf⟩ := si_ob hf
      refine sd_goi (sd_runV (As := []) (rest := [.ref (E.2.1 0)]) sd_cl20 rfl hok43 cal_J4_length_8abf5 gm_RL_85 X hw hA hl.1 ((c_J4_length_8abf5 l E F S q2 eq2) H.size) ⟨Nat.le_of_ble_eq_true rfl, Nat.le_of_ble_eq_true rfl⟩ rfl (Nat.le_of_ble_eq_true rfl) (sd_room2 hc (mo_J4_length_8abf5 F S q2 eq2) (mo_L_loads_h46 F _ _ _ hf) hR) dL_loads_43) X hw hA hE hc (mo_J4_length_8abf5 F S q2 eq2) (fun _ _ => rfl) (fun E H locs cs ss hZ hE X hw hc => ?_)
      rw [← hZ.at 0 rfl] at hl
      rw [← hZ.at 87 rfl] at hl
      rw [← hZ.at 92 rfl] at hl
      rw [← hZ.at 0 rfl]
      exact B46 _ _ _ _ _ _ _ _ hf hE X hw hc (lv_sub hl [2] rfl)
  have B35 : ∀ (E : si_Ev) (S : si_St) (H : Heap) (locs : List Loc) (ls : Array Slot) (cs ss : Nat), f_L_loads_h35 F S = some o → sd_EE al_L_loads E0 E → si_Cx p s m args c cL_loads 4 yL_loads.cls E A → si_Ws E A s.heap S H locs → sd_Ct S0 S cs ss → lv_has ls 4 [(0, .ref (E.2.1 0)), (2, .ref (E.2.1 87)), (3, .ref (E.2.1 92))] → W p l e (sd_R fr_L_loads lo_L_loads S0 o) s m args below meth c H locs cs ss Q (F0 m 35 ls [.ref (E.2.1 89), .ref (E.2.1 0)]) := by
    intro   E S H locs ls cs ss hf hE X hw hc hl
    have hcs := sd_room hc (mo_L_loads_h35 F _ _ hf) hR
    unfold f_L_loads_h35 at hf
    obtain ⟨q3, eq3, hf⟩ := si_ob hf
    refine sd_goi (sd_runS (As := [.ref (E.2.1 0), .ref (E.2.1 89)]) (rest := []) cal_L_feeds gm_RL_90 X hw hA hl.1 ((c_L_feeds l E F S q3 eq3) H.size) ⟨Nat.le_of_ble_eq_true rfl, Nat.le_of_ble_eq_true rfl⟩ rfl (Nat.le_of_ble_eq_true rfl) (sd_room2 hc (mo_L_feeds F S q3 eq3) (mo_L_loads_h38 F _ _ _ hf) hR) dL_loads_35) X hw hA hE hc (mo_L_feeds F S q3 eq3) (sd_als_L_loads_L_feeds) (fun E H locs cs ss hZ hE X hw hc => ?_)
    rw [← hZ.at 0 rfl] at hl
    rw [← hZ.at 87 rfl] at hl
    rw [← hZ.at 92 rfl] at hl
    exact B38 _ _ _ _ _ _ _ _ hf hE X hw hc (lv_sub hl [0, 1, 2] rfl)
  have B24 : ∀ (t0 : Int32) (E : si_Ev) (S : si_St) (H : Heap) (locs : List Loc) (ls : Array Slot) (cs ss : Nat), f_L_loads_h24 F t0 S = some o → sd_EE al_L_loads E0 E → si_Cx p s m args c cL_loads 4 yL_loads.cls E A → si_Ws E A s.heap S H locs → sd_Ct S0 S cs ss → lv_has ls 4 [(0, .ref (E.2.1 0)), (2, .ref (E.2.1 87)), (3, .ref (E.2.1 92))] → W p l e (sd_R fr_L_loads lo_L_loads S0 o) s m args below meth c H locs cs ss Q (F0 m 24 ls [.int t0]) := by
    intro t0  E S H locs ls cs ss hf hE X hw hc hl
    have hcs := sd_room hc (mo_L_loads_h24 F _ _ _ hf) hR
    unfold f_L_loads_h24 at hf
    refine lv_sipush (v := 800) X.1 X.2.1 dL_loads_24 (by decide) ?_
    refine lv_icmp_gt (tgt := 56) X.1 X.2.1 dL_loads_27 (by decide) (fun c27 => ?_) (fun c27 => ?_)
    · have hf := si_ip c27 hf
      cases hf
    · have hf := si_in c27 hf
      refine lv_aload_n X.1 X.2.1 dL_loads_30 rfl (lv_at hl 0 rfl) ?_
      refine lv_aload_n X.1 X.2.1 dL_loads_31 rfl (lv_at hl 1 rfl) ?_
      have hok32 : sd_ok S 87 := Decidable.byContradiction fun h9 => by rw [if_pos h9] at hf; cases hf
      have hf := si_in (not_not_intro hok32) hf
      obtain ⟨S4, eS4, hf⟩ := si_ob hf
      refine sd_gor (sd_runV (As := []) (rest := [.ref (E.2.1 0)]) sd_cl20 rfl hok32 cal_J4_toString_0e30d gm_RL_86 X hw hA hl.1 ((c_J4_toString_0e30d l E F S S4 eS4) H.size) ⟨Nat.le_of_ble_eq_true rfl, Nat.le_of_ble_eq_true rfl⟩ rfl (Nat.le_of_ble_eq_true rfl) (sd_room2 hc (mo_J4_toString_0e30d F S S4 eS4) (mo_L_loads_h35 F _ _ hf) hR) dL_loads_32) X hw hA hE hc (mo_J4_toString_0e30d F S S4 eS4) (sd_als_L_loads_J4_toString_0e30d) (fun E H locs cs ss hZ hE X hw hc => ?_)
      rw [← hZ.at 0 rfl] at hl
      rw [← hZ.at 87 rfl] at hl
      rw [← hZ.at 92 rfl] at hl
      rw [← hZ.at 0 rfl]
      exact B35 _ _ _ _ _ _ _ hf hE X hw hc (lv_sub hl [0, 1, 2] rfl)
  have B19 : ∀ (E : si_Ev) (S : si_St) (H : Heap) (locs : List Loc) (ls : Array Slot) (cs ss : Nat), f_L_loads_h19 F S = some o → sd_EE al_L_loads E0 E → si_Cx p s m args c cL_loads 4 yL_loads.cls E A → si_Ws E A s.heap S H locs → sd_Ct S0 S cs ss → lv_has ls 4 [(0, .ref (E.2.1 0)), (2, .ref (E.2.1 87))] → W p l e (sd_R fr_L_loads lo_L_loads S0 o) s m args below meth c H locs cs ss Q (F0 m 19 ls [.ref (E.2.1 92)]) := by
    intro   E S H locs ls cs ss hf hE X hw hc hl
    have hcs := sd_room hc (mo_L_loads_h19 F _ _ hf) hR
    unfold f_L_loads_h19 at hf
    refine lv_astore_n (lv' := [(3, .ref (E.2.1 92)), (0, .ref (E.2.1 0)), (2, .ref (E.2.1 87))]) X.1 X.2.1 dL_loads_19 rfl hl (by decide) rfl (fun ls hl => ?_)
    refine lv_aload_n X.1 X.2.1 dL_loads_20 rfl (lv_at hl 2 rfl) ?_
    have hok21 : sd_ok S 87 := Decidable.byContradiction fun h9 => by rw [if_pos h9] at hf; cases hf
    have hf := si_in (not_not_intro hok21) hf
    obtain ⟨q5, eq5, hf⟩ := si_ob hf
    refine sd_goi (sd_runV (As := []) (rest := []) sd_cl20 rfl hok21 cal_J4_length_8abf5 gm_RL_85 X hw hA hl.1 ((c_J4_length_8abf5 l E F S q5 eq5) H.size) ⟨Nat.le_of_ble_eq_true rfl, Nat.le_of_ble_eq_true rfl⟩ rfl (Nat.le_of_ble_eq_true rfl) (sd_room2 hc (mo_J4_length_8abf5 F S q5 eq5) (mo_L_loads_h24 F _ _ _ hf) hR) dL_loads_21) X hw hA hE hc (mo_J4_length_8abf5 F S q5 eq5) (fun _ _ => rfl) (fun E H locs cs ss hZ hE X hw hc => ?_)
    rw [← hZ.at 92 rfl] at hl
    rw [← hZ.at 0 rfl] at hl
    rw [← hZ.at 87 rfl] at hl
    exact B24 _ _ _ _ _ _ _ _ hf hE X hw hc (lv_sub hl [1, 2, 0] rfl)
  have B11 : ∀ (x1 : Int32) (E : si_Ev) (S : si_St) (H : Heap) (locs : List Loc) (ls : Array Slot) (cs ss : Nat), f_L_loads_h11 F x1 S = some o → sd_EE al_L_loads E0 E → si_Cx p s m args c cL_loads 4 yL_loads.cls E A → si_Ws E A s.heap S H locs → sd_Ct S0 S cs ss → lv_has ls 4 [(0, .ref (E.2.1 0)), (1, .int x1), (2, .ref (E.2.1 87))] → W p l e (sd_R fr_L_loads lo_L_loads S0 o) s m args below meth c H locs cs ss Q (F0 m 11 ls [.ref (E.2.1 91)]) := by
    intro x1  E S H locs ls cs ss hf hE X hw hc hl
    have hcs := sd_room hc (mo_L_loads_h11 F _ _ _ hf) hR
    unfold f_L_loads_h11 at hf
    refine lv_dup X.1 X.2.1 dL_loads_11 rfl ?_
    refine lv_iconst (v := 0) X.1 X.2.1 dL_loads_12 (by decide) ?_
    refine lv_iload_n X.1 X.2.1 dL_loads_13 rfl (lv_at hl 1 rfl) ?_
    obtain ⟨S6, eS6, hf⟩ := si_ob hf
    refine sd_iast X hw rfl eS6 dL_loads_14 (fun H locs hw => ?_)
    have hc := hc.up (sd_wr_m eS6)
    refine lv_aload_n X.1 X.2.1 dL_loads_15 rfl (lv_at hl 2 rfl) ?_
    obtain ⟨S7, eS7, hf⟩ := si_ob hf
    refine sd_gor (sd_runS (As := [.ref (E.2.1 91), .ref (E.2.1 87)]) (rest := []) cal_L_market gm_RL_81 X hw hA hl.1 ((c_L_market l E F S6 S7 eS7) H.size) ⟨Nat.le_of_ble_eq_true rfl, Nat.le_of_ble_eq_true rfl⟩ rfl (Nat.le_of_ble_eq_true rfl) (sd_room2 hc (mo_L_market F S6 S7 eS7) (mo_L_loads_h19 F _ _ hf) hR) dL_loads_16) X hw hA hE hc (mo_L_market F S6 S7 eS7) (sd_als_L_loads_L_market) (fun E H locs cs ss hZ hE X hw hc => ?_)
    rw [← hZ.at 0 rfl] at hl
    rw [← hZ.at 87 rfl] at hl
    exact B19 _ _ _ _ _ _ _ hf hE X hw hc (lv_sub hl [0, 2] rfl)
  have B7 : ∀ (x1 : Int32) (E : si_Ev) (S : si_St) (H : Heap) (locs : List Loc) (ls : Array Slot) (cs ss : Nat), f_L_loads_h7 F x1 S = some o → sd_EE al_L_loads E0 E → si_Cx p s m args c cL_loads 4 yL_loads.cls E A → si_Ws E A s.heap S H locs → sd_Ct S0 S cs ss → lv_has ls 4 [(0, .ref (E.2.1 0)), (1, .int x1)] → W p l e (sd_R fr_L_loads lo_L_loads S0 o) s m args below meth c H locs cs ss Q (F0 m 7 ls [.ref (E.2.1 87)]) := by
    intro x1  E S H locs ls cs ss hf hE X hw hc hl
    have hcs := sd_room hc (mo_L_loads_h7 F _ _ _ hf) hR
    unfold f_L_loads_h7 at hf
    refine lv_astore_n (lv' := [(2, .ref (E.2.1 87)), (0, .ref (E.2.1 0)), (1, .int x1)]) X.1 X.2.1 dL_loads_7 rfl hl (by decide) rfl (fun ls hl => ?_)
    refine lv_iconst (v := 1) X.1 X.2.1 dL_loads_8 (by decide) ?_
    obtain ⟨S8, eS8, hf⟩ := si_ob hf
    refine sd_newI X hw hA hE hc hR ga_int rfl rfl eS8 (mo_L_loads_h11 F _ _ _ hf) dL_loads_9 (fun E H cs ss hZ hE X hw hc => ?_)
    rw [← hZ.at 87 rfl] at hl
    rw [← hZ.at 0 rfl] at hl
    exact B11 _ _ _ _ _ _ _ _ hf hE X hw hc (lv_sub hl [1, 2, 0] rfl)
  have B3 : ∀ (x1 : Int32) (E : si_Ev) (S : si_St) (H : Heap) (locs : List Loc) (ls : Array Slot) (cs ss : Nat), f_L_loads_h3 F x1 S = some o → sd_EE al_L_loads E0 E → si_Cx p s m args c cL_loads 4 yL_loads.cls E A → si_Ws E A s.heap S H locs → sd_Ct S0 S cs ss → lv_has ls 4 [(0, .ref (E.2.1 0)), (1, .int x1)] → W p l e (sd_R fr_L_loads lo_L_loads S0 o) s m args below meth c H locs cs ss Q (F0 m 3 ls [.ref (E.2.1 87)]) := by
    intro x1  E S H locs ls cs ss hf hE X hw hc hl
    have hcs := sd_room hc (mo_L_loads_h3 F _ _ _ hf) hR
    unfold f_L_loads_h3 at hf
    refine lv_dup X.1 X.2.1 dL_loads_3 rfl ?_
    obtain ⟨S9, eS9, hf⟩ := si_ob hf
    refine sd_gov (sd_runI (As := []) (rest := [.ref (E.2.1 87)]) (k := 87) c0_J4_init_da8c8 gn_J4_init_da8c8 rfl gm_RL_80 X hw hA hl.1 ((c_J4_init_da8c8 l E F S S9 eS9) H.size) ⟨Nat.le_of_ble_eq_true rfl, Nat.le_of_ble_eq_true rfl⟩ rfl (Nat.le_of_ble_eq_true rfl) (sd_room2 hc (mo_J4_init_da8c8 F S S9 eS9) (mo_L_loads_h7 F _ _ _ hf) hR) dL_loads_4) X hw hA hE hc (mo_J4_init_da8c8 F S S9 eS9) (sd_als_L_loads_J4_init_da8c8) (fun E H locs cs ss hZ hE X hw hc => ?_)
    rw [← hZ.at 0 rfl] at hl
    rw [← hZ.at 87 rfl]
    exact B7 _ _ _ _ _ _ _ _ hf hE X hw hc (lv_sub hl [0, 1] rfl)
  have B0 : ∀ (x1 : Int32) (E : si_Ev) (S : si_St) (H : Heap) (locs : List Loc) (ls : Array Slot) (cs ss : Nat), f_L_loads_h0 F x1 S = some o → sd_EE al_L_loads E0 E → si_Cx p s m args c cL_loads 4 yL_loads.cls E A → si_Ws E A s.heap S H locs → sd_Ct S0 S cs ss → lv_has ls 4 [(0, .ref (E.2.1 0)), (1, .int x1)] → W p l e (sd_R fr_L_loads lo_L_loads S0 o) s m args below meth c H locs cs ss Q (F0 m 0 ls []) := by
    intro x1  E S H locs ls cs ss hf hE X hw hc hl
    have hcs := sd_room hc (mo_L_loads_h0 F _ _ _ hf) hR
    unfold f_L_loads_h0 at hf
    obtain ⟨S10, eS10, hf⟩ := si_ob hf
    refine sd_newO X hw hA hE hc hR sd_cl20 tyJ4 tyJ4_ok gq_RL_41 gz_d20 gi_RJ4 sd_zv20 rfl rfl eS10 (mo_L_loads_h3 F _ _ _ hf) dL_loads_0 (fun E H cs ss hZ hE X hw hc => ?_)
    rw [← hZ.at 0 rfl] at hl
    exact B3 _ _ _ _ _ _ _ _ hf hE X hw hc (lv_sub hl [0, 1] rfl)
  unfold f_L_loads at hf
  exact B0 _ _ _ _ _ _ _ _ hf hE X hw hc (lv_sub hl [0, 1] rfl)
