theorem dX8_put_0 : decode cX8_put 0 = .ok (.aload_n 0, 1) := by decide +kernel
theorem dX8_put_1 : decode cX8_put 1 = .ok (.getfield 9, 3) := by decide +kernel
theorem dX8_put_4 : decode cX8_put 4 = .ok (.iload_n 1, 1) := by decide +kernel
theorem dX8_put_5 : decode cX8_put 5 = .ok (.iload_n 2, 1) := by decide +kernel
theorem dX8_put_6 : decode cX8_put 6 = .ok (.iastore, 1) := by decide +kernel
theorem dX8_put_7 : decode cX8_put 7 = .ok (.aload_n 0, 1) := by decide +kernel
theorem dX8_put_8 : decode cX8_put 8 = .ok (.getfield 15, 3) := by decide +kernel
theorem dX8_put_11 : decode cX8_put 11 = .ok (.iload_n 1, 1) := by decide +kernel
theorem dX8_put_12 : decode cX8_put 12 = .ok (.iload_n 3, 1) := by decide +kernel
theorem dX8_put_13 : decode cX8_put 13 = .ok (.iastore, 1) := by decide +kernel
theorem dX8_put_14 : decode cX8_put 14 = .ok (.aload_n 0, 1) := by decide +kernel
theorem dX8_put_15 : decode cX8_put 15 = .ok (.getfield 18, 3) := by decide +kernel
theorem dX8_put_18 : decode cX8_put 18 = .ok (.iload_n 1, 1) := by decide +kernel
theorem dX8_put_19 : decode cX8_put 19 = .ok (.iload 4, 2) := by decide +kernel
theorem dX8_put_21 : decode cX8_put 21 = .ok (.iastore, 1) := by decide +kernel
theorem dX8_put_22 : decode cX8_put 22 = .ok (.return_, 1) := by decide +kernel
theorem dX8_reset_0 : decode cX8_reset 0 = .ok (.iconst 0, 1) := by decide +kernel
theorem dX8_reset_1 : decode cX8_reset 1 = .ok (.istore_n 2, 1) := by decide +kernel
theorem dX8_reset_2 : decode cX8_reset 2 = .ok (.iload_n 2, 1) := by decide +kernel
theorem dX8_reset_3 : decode cX8_reset 3 = .ok (.aload_n 1, 1) := by decide +kernel
theorem dX8_reset_4 : decode cX8_reset 4 = .ok (.getfield 24, 3) := by decide +kernel
theorem dX8_reset_7 : decode cX8_reset 7 = .ok (.if_icmp .ge 40, 3) := by decide +kernel
theorem dX8_reset_10 : decode cX8_reset 10 = .ok (.iconst 1, 1) := by decide +kernel
theorem dX8_reset_11 : decode cX8_reset 11 = .ok (.aload_n 1, 1) := by decide +kernel
theorem dX8_reset_12 : decode cX8_reset 12 = .ok (.getfield 30, 3) := by decide +kernel
theorem dX8_reset_15 : decode cX8_reset 15 = .ok (.iload_n 2, 1) := by decide +kernel
theorem dX8_reset_16 : decode cX8_reset 16 = .ok (.iaload, 1) := by decide +kernel
theorem dX8_reset_17 : decode cX8_reset 17 = .ok (.ishl, 1) := by decide +kernel
theorem dX8_reset_18 : decode cX8_reset 18 = .ok (.iconst 1, 1) := by decide +kernel
theorem dX8_reset_19 : decode cX8_reset 19 = .ok (.isub, 1) := by decide +kernel
theorem dX8_reset_20 : decode cX8_reset 20 = .ok (.istore_n 3, 1) := by decide +kernel
theorem dX8_reset_21 : decode cX8_reset 21 = .ok (.aload_n 0, 1) := by decide +kernel
theorem dX8_reset_22 : decode cX8_reset 22 = .ok (.iload_n 2, 1) := by decide +kernel
theorem dX8_reset_23 : decode cX8_reset 23 = .ok (.iload_n 3, 1) := by decide +kernel
theorem dX8_reset_24 : decode cX8_reset 24 = .ok (.iload_n 3, 1) := by decide +kernel
theorem dX8_reset_25 : decode cX8_reset 25 = .ok (.aload_n 1, 1) := by decide +kernel
theorem dX8_reset_26 : decode cX8_reset 26 = .ok (.getfield 33, 3) := by decide +kernel
theorem dX8_reset_29 : decode cX8_reset 29 = .ok (.iload_n 2, 1) := by decide +kernel
theorem dX8_reset_30 : decode cX8_reset 30 = .ok (.iaload, 1) := by decide +kernel
theorem dX8_reset_31 : decode cX8_reset 31 = .ok (.invokevirtual 34, 3) := by decide +kernel
theorem dX8_reset_34 : decode cX8_reset 34 = .ok (.aload_n 0, 1) := by decide +kernel
theorem dX8_reset_35 : decode cX8_reset 35 = .ok (.getfield 21, 3) := by decide +kernel
theorem dX8_reset_38 : decode cX8_reset 38 = .ok (.iload_n 2, 1) := by decide +kernel
theorem dX8_reset_39 : decode cX8_reset 39 = .ok (.iconst 0, 1) := by decide +kernel
theorem dX8_reset_40 : decode cX8_reset 40 = .ok (.iastore, 1) := by decide +kernel
theorem dX8_reset_41 : decode cX8_reset 41 = .ok (.iinc 2 1, 3) := by decide +kernel
theorem dX8_reset_44 : decode cX8_reset 44 = .ok (.goto (-42), 3) := by decide +kernel
theorem dX8_reset_47 : decode cX8_reset 47 = .ok (.return_, 1) := by decide +kernel
theorem dX8_suspectsAfter_0 : decode cX8_suspectsAfter 0 = .ok (.iload_n 3, 1) := by decide +kernel
theorem dX8_suspectsAfter_1 : decode cX8_suspectsAfter 1 = .ok (.lookupswitch 35 #[(1, 27), (2, 31)], 27) := by decide +kernel
theorem dX8_suspectsAfter_28 : decode cX8_suspectsAfter 28 = .ok (.iload_n 0, 1) := by decide +kernel
theorem dX8_suspectsAfter_29 : decode cX8_suspectsAfter 29 = .ok (.iload_n 1, 1) := by decide +kernel
theorem dX8_suspectsAfter_30 : decode cX8_suspectsAfter 30 = .ok (.iand, 1) := by decide +kernel
theorem dX8_suspectsAfter_31 : decode cX8_suspectsAfter 31 = .ok (.ireturn, 1) := by decide +kernel
theorem dX8_suspectsAfter_32 : decode cX8_suspectsAfter 32 = .ok (.iload_n 0, 1) := by decide +kernel
theorem dX8_suspectsAfter_33 : decode cX8_suspectsAfter 33 = .ok (.iload_n 2, 1) := by decide +kernel
theorem dX8_suspectsAfter_34 : decode cX8_suspectsAfter 34 = .ok (.iand, 1) := by decide +kernel
theorem dX8_suspectsAfter_35 : decode cX8_suspectsAfter 35 = .ok (.ireturn, 1) := by decide +kernel
theorem dX8_suspectsAfter_36 : decode cX8_suspectsAfter 36 = .ok (.iload_n 0, 1) := by decide +kernel
theorem dX8_suspectsAfter_37 : decode cX8_suspectsAfter 37 = .ok (.iload_n 1, 1) := by decide +kernel
theorem dX8_suspectsAfter_38 : decode cX8_suspectsAfter 38 = .ok (.iload_n 2, 1) := by decide +kernel
theorem dX8_suspectsAfter_39 : decode cX8_suspectsAfter 39 = .ok (.ior, 1) := by decide +kernel
theorem dX8_suspectsAfter_40 : decode cX8_suspectsAfter 40 = .ok (.iconst (-1), 1) := by decide +kernel
theorem dX8_suspectsAfter_41 : decode cX8_suspectsAfter 41 = .ok (.ixor, 1) := by decide +kernel
theorem dX8_suspectsAfter_42 : decode cX8_suspectsAfter 42 = .ok (.iand, 1) := by decide +kernel
theorem dX8_suspectsAfter_43 : decode cX8_suspectsAfter 43 = .ok (.ireturn, 1) := by decide +kernel
theorem dX8_hypothesesOf_0 : decode cX8_hypothesesOf 0 = .ok (.aload_n 0, 1) := by decide +kernel
theorem dX8_hypothesesOf_1 : decode cX8_hypothesesOf 1 = .ok (.getfield 9, 3) := by decide +kernel
theorem dX8_hypothesesOf_4 : decode cX8_hypothesesOf 4 = .ok (.iload_n 1, 1) := by decide +kernel
theorem dX8_hypothesesOf_5 : decode cX8_hypothesesOf 5 = .ok (.iaload, 1) := by decide +kernel
theorem dX8_hypothesesOf_6 : decode cX8_hypothesesOf 6 = .ok (.invokestatic 44, 3) := by decide +kernel
theorem dX8_hypothesesOf_9 : decode cX8_hypothesesOf 9 = .ok (.aload_n 0, 1) := by decide +kernel
theorem dX8_hypothesesOf_10 : decode cX8_hypothesesOf 10 = .ok (.getfield 15, 3) := by decide +kernel
theorem dX8_hypothesesOf_13 : decode cX8_hypothesesOf 13 = .ok (.iload_n 1, 1) := by decide +kernel
theorem dX8_hypothesesOf_14 : decode cX8_hypothesesOf 14 = .ok (.iaload, 1) := by decide +kernel
theorem dX8_hypothesesOf_15 : decode cX8_hypothesesOf 15 = .ok (.invokestatic 44, 3) := by decide +kernel
theorem dX8_hypothesesOf_18 : decode cX8_hypothesesOf 18 = .ok (.iadd, 1) := by decide +kernel
theorem dX8_hypothesesOf_19 : decode cX8_hypothesesOf 19 = .ok (.aload_n 0, 1) := by decide +kernel
theorem dX8_hypothesesOf_20 : decode cX8_hypothesesOf 20 = .ok (.getfield 18, 3) := by decide +kernel
theorem dX8_hypothesesOf_23 : decode cX8_hypothesesOf 23 = .ok (.iload_n 1, 1) := by decide +kernel
theorem dX8_hypothesesOf_24 : decode cX8_hypothesesOf 24 = .ok (.iaload, 1) := by decide +kernel
theorem dX8_hypothesesOf_25 : decode cX8_hypothesesOf 25 = .ok (.iadd, 1) := by decide +kernel
theorem dX8_hypothesesOf_26 : decode cX8_hypothesesOf 26 = .ok (.ireturn, 1) := by decide +kernel
theorem dX8_onlyHypothesis_0 : decode cX8_onlyHypothesis 0 = .ok (.aload_n 0, 1) := by decide +kernel
theorem dX8_onlyHypothesis_1 : decode cX8_onlyHypothesis 1 = .ok (.iload_n 1, 1) := by decide +kernel
theorem dX8_onlyHypothesis_2 : decode cX8_onlyHypothesis 2 = .ok (.invokevirtual 50, 3) := by decide +kernel
theorem dX8_onlyHypothesis_5 : decode cX8_onlyHypothesis 5 = .ok (.iconst 1, 1) := by decide +kernel
theorem dX8_onlyHypothesis_6 : decode cX8_onlyHypothesis 6 = .ok (.if_icmp .eq 6, 3) := by decide +kernel
theorem dX8_onlyHypothesis_9 : decode cX8_onlyHypothesis 9 = .ok (.bipush (-2), 2) := by decide +kernel
theorem dX8_onlyHypothesis_11 : decode cX8_onlyHypothesis 11 = .ok (.ireturn, 1) := by decide +kernel
theorem dX8_onlyHypothesis_12 : decode cX8_onlyHypothesis 12 = .ok (.aload_n 0, 1) := by decide +kernel
theorem dX8_onlyHypothesis_13 : decode cX8_onlyHypothesis 13 = .ok (.getfield 9, 3) := by decide +kernel
theorem dX8_onlyHypothesis_16 : decode cX8_onlyHypothesis 16 = .ok (.iload_n 1, 1) := by decide +kernel
theorem dX8_onlyHypothesis_17 : decode cX8_onlyHypothesis 17 = .ok (.iaload, 1) := by decide +kernel
theorem dX8_onlyHypothesis_18 : decode cX8_onlyHypothesis 18 = .ok (.ifCond .eq 17, 3) := by decide +kernel
theorem dX8_onlyHypothesis_21 : decode cX8_onlyHypothesis 21 = .ok (.iconst 1, 1) := by decide +kernel
theorem dX8_onlyHypothesis_22 : decode cX8_onlyHypothesis 22 = .ok (.iconst 2, 1) := by decide +kernel
theorem dX8_onlyHypothesis_23 : decode cX8_onlyHypothesis 23 = .ok (.aload_n 0, 1) := by decide +kernel
theorem dX8_onlyHypothesis_24 : decode cX8_onlyHypothesis 24 = .ok (.getfield 9, 3) := by decide +kernel
theorem dX8_onlyHypothesis_27 : decode cX8_onlyHypothesis 27 = .ok (.iload_n 1, 1) := by decide +kernel
theorem dX8_onlyHypothesis_28 : decode cX8_onlyHypothesis 28 = .ok (.iaload, 1) := by decide +kernel
theorem dX8_onlyHypothesis_29 : decode cX8_onlyHypothesis 29 = .ok (.invokestatic 53, 3) := by decide +kernel
theorem dX8_onlyHypothesis_32 : decode cX8_onlyHypothesis 32 = .ok (.imul, 1) := by decide +kernel
theorem dX8_onlyHypothesis_33 : decode cX8_onlyHypothesis 33 = .ok (.iadd, 1) := by decide +kernel
theorem dX8_onlyHypothesis_34 : decode cX8_onlyHypothesis 34 = .ok (.ireturn, 1) := by decide +kernel
theorem dX8_onlyHypothesis_35 : decode cX8_onlyHypothesis 35 = .ok (.aload_n 0, 1) := by decide +kernel
theorem dX8_onlyHypothesis_36 : decode cX8_onlyHypothesis 36 = .ok (.getfield 15, 3) := by decide +kernel
theorem dX8_onlyHypothesis_39 : decode cX8_onlyHypothesis 39 = .ok (.iload_n 1, 1) := by decide +kernel
theorem dX8_onlyHypothesis_40 : decode cX8_onlyHypothesis 40 = .ok (.iaload, 1) := by decide +kernel
theorem dX8_onlyHypothesis_41 : decode cX8_onlyHypothesis 41 = .ok (.ifCond .eq 17, 3) := by decide +kernel
theorem dX8_onlyHypothesis_44 : decode cX8_onlyHypothesis 44 = .ok (.iconst 2, 1) := by decide +kernel
theorem dX8_onlyHypothesis_45 : decode cX8_onlyHypothesis 45 = .ok (.iconst 2, 1) := by decide +kernel
theorem dX8_onlyHypothesis_46 : decode cX8_onlyHypothesis 46 = .ok (.aload_n 0, 1) := by decide +kernel
theorem dX8_onlyHypothesis_47 : decode cX8_onlyHypothesis 47 = .ok (.getfield 15, 3) := by decide +kernel
theorem dX8_onlyHypothesis_50 : decode cX8_onlyHypothesis 50 = .ok (.iload_n 1, 1) := by decide +kernel
theorem dX8_onlyHypothesis_51 : decode cX8_onlyHypothesis 51 = .ok (.iaload, 1) := by decide +kernel
theorem dX8_onlyHypothesis_52 : decode cX8_onlyHypothesis 52 = .ok (.invokestatic 53, 3) := by decide +kernel
theorem dX8_onlyHypothesis_55 : decode cX8_onlyHypothesis 55 = .ok (.imul, 1) := by decide +kernel
theorem dX8_onlyHypothesis_56 : decode cX8_onlyHypothesis 56 = .ok (.iadd, 1) := by decide +kernel
theorem dX8_onlyHypothesis_57 : decode cX8_onlyHypothesis 57 = .ok (.ireturn, 1) := by decide +kernel
theorem dX8_onlyHypothesis_58 : decode cX8_onlyHypothesis 58 = .ok (.iconst 0, 1) := by decide +kernel
theorem dX8_onlyHypothesis_59 : decode cX8_onlyHypothesis 59 = .ok (.ireturn, 1) := by decide +kernel
theorem dX0_clear_0 : decode cX0_clear 0 = .ok (.aload_n 0, 1) := by decide +kernel
theorem dX0_clear_1 : decode cX0_clear 1 = .ok (.iconst 0, 1) := by decide +kernel
theorem dX0_clear_2 : decode cX0_clear 2 = .ok (.putfield 27, 3) := by decide +kernel
theorem dX0_clear_5 : decode cX0_clear 5 = .ok (.aload_n 0, 1) := by decide +kernel
theorem dX0_clear_6 : decode cX0_clear 6 = .ok (.iconst 0, 1) := by decide +kernel
theorem dX0_clear_7 : decode cX0_clear 7 = .ok (.putfield 31, 3) := by decide +kernel
theorem dX0_clear_10 : decode cX0_clear 10 = .ok (.return_, 1) := by decide +kernel
theorem dX0_add_0 : decode cX0_add 0 = .ok (.aload_n 0, 1) := by decide +kernel
theorem dX0_add_1 : decode cX0_add 1 = .ok (.getfield 9, 3) := by decide +kernel
theorem dX0_add_4 : decode cX0_add 4 = .ok (.aload_n 0, 1) := by decide +kernel
theorem dX0_add_5 : decode cX0_add 5 = .ok (.getfield 31, 3) := by decide +kernel
theorem dX0_add_8 : decode cX0_add 8 = .ok (.iload_n 1, 1) := by decide +kernel
theorem dX0_add_9 : decode cX0_add 9 = .ok (.iastore, 1) := by decide +kernel
theorem dX0_add_10 : decode cX0_add 10 = .ok (.aload_n 0, 1) := by decide +kernel
theorem dX0_add_11 : decode cX0_add 11 = .ok (.getfield 15, 3) := by decide +kernel
theorem dX0_add_14 : decode cX0_add 14 = .ok (.aload_n 0, 1) := by decide +kernel
theorem dX0_add_15 : decode cX0_add 15 = .ok (.getfield 31, 3) := by decide +kernel
theorem dX0_add_18 : decode cX0_add 18 = .ok (.iload_n 2, 1) := by decide +kernel
theorem dX0_add_19 : decode cX0_add 19 = .ok (.iastore, 1) := by decide +kernel
theorem dX0_add_20 : decode cX0_add 20 = .ok (.aload_n 0, 1) := by decide +kernel
theorem dX0_add_21 : decode cX0_add 21 = .ok (.aload_n 0, 1) := by decide +kernel
theorem dX0_add_22 : decode cX0_add 22 = .ok (.getfield 31, 3) := by decide +kernel
theorem dX0_add_25 : decode cX0_add 25 = .ok (.iconst 1, 1) := by decide +kernel
theorem dX0_add_26 : decode cX0_add 26 = .ok (.iadd, 1) := by decide +kernel
theorem dX0_add_27 : decode cX0_add 27 = .ok (.bipush 12, 2) := by decide +kernel
theorem dX0_add_29 : decode cX0_add 29 = .ok (.irem, 1) := by decide +kernel
theorem dX0_add_30 : decode cX0_add 30 = .ok (.putfield 31, 3) := by decide +kernel
theorem dX0_add_33 : decode cX0_add 33 = .ok (.aload_n 0, 1) := by decide +kernel
theorem dX0_add_34 : decode cX0_add 34 = .ok (.aload_n 0, 1) := by decide +kernel
theorem dX0_add_35 : decode cX0_add 35 = .ok (.getfield 27, 3) := by decide +kernel
theorem dX0_add_38 : decode cX0_add 38 = .ok (.iconst 1, 1) := by decide +kernel
theorem dX0_add_39 : decode cX0_add 39 = .ok (.iadd, 1) := by decide +kernel
theorem dX0_add_40 : decode cX0_add 40 = .ok (.bipush 12, 2) := by decide +kernel
theorem dX0_add_42 : decode cX0_add 42 = .ok (.invokestatic 34, 3) := by decide +kernel
theorem dX0_add_45 : decode cX0_add 45 = .ok (.putfield 27, 3) := by decide +kernel
theorem dX0_add_48 : decode cX0_add 48 = .ok (.return_, 1) := by decide +kernel
theorem dX0_addWeighing_0 : decode cX0_addWeighing 0 = .ok (.aload_n 0, 1) := by decide +kernel
theorem dX0_addWeighing_1 : decode cX0_addWeighing 1 = .ok (.getfield 18, 3) := by decide +kernel
theorem dX0_addWeighing_4 : decode cX0_addWeighing 4 = .ok (.aload_n 0, 1) := by decide +kernel
theorem dX0_addWeighing_5 : decode cX0_addWeighing 5 = .ok (.getfield 31, 3) := by decide +kernel
theorem dX0_addWeighing_8 : decode cX0_addWeighing 8 = .ok (.aload_n 2, 1) := by decide +kernel
theorem dX0_addWeighing_9 : decode cX0_addWeighing 9 = .ok (.getfield 40, 3) := by decide +kernel
theorem dX0_addWeighing_12 : decode cX0_addWeighing 12 = .ok (.iload_n 1, 1) := by decide +kernel
theorem dX0_addWeighing_13 : decode cX0_addWeighing 13 = .ok (.iaload, 1) := by decide +kernel
theorem dX0_addWeighing_14 : decode cX0_addWeighing 14 = .ok (.iastore, 1) := by decide +kernel
theorem dX0_addWeighing_15 : decode cX0_addWeighing 15 = .ok (.aload_n 0, 1) := by decide +kernel
theorem dX0_addWeighing_16 : decode cX0_addWeighing 16 = .ok (.getfield 21, 3) := by decide +kernel
theorem dX0_addWeighing_19 : decode cX0_addWeighing 19 = .ok (.aload_n 0, 1) := by decide +kernel
theorem dX0_addWeighing_20 : decode cX0_addWeighing 20 = .ok (.getfield 31, 3) := by decide +kernel
theorem dX0_addWeighing_23 : decode cX0_addWeighing 23 = .ok (.aload_n 2, 1) := by decide +kernel
theorem dX0_addWeighing_24 : decode cX0_addWeighing 24 = .ok (.getfield 43, 3) := by decide +kernel
theorem dX0_addWeighing_27 : decode cX0_addWeighing 27 = .ok (.iload_n 1, 1) := by decide +kernel
theorem dX0_addWeighing_28 : decode cX0_addWeighing 28 = .ok (.iaload, 1) := by decide +kernel
theorem dX0_addWeighing_29 : decode cX0_addWeighing 29 = .ok (.iastore, 1) := by decide +kernel
theorem dX0_addWeighing_30 : decode cX0_addWeighing 30 = .ok (.aload_n 0, 1) := by decide +kernel
theorem dX0_addWeighing_31 : decode cX0_addWeighing 31 = .ok (.getfield 24, 3) := by decide +kernel
theorem dX0_addWeighing_34 : decode cX0_addWeighing 34 = .ok (.aload_n 0, 1) := by decide +kernel
theorem dX0_addWeighing_35 : decode cX0_addWeighing 35 = .ok (.getfield 31, 3) := by decide +kernel
theorem dX0_addWeighing_38 : decode cX0_addWeighing 38 = .ok (.aload_n 2, 1) := by decide +kernel
theorem dX0_addWeighing_39 : decode cX0_addWeighing 39 = .ok (.getfield 44, 3) := by decide +kernel
theorem dX0_addWeighing_42 : decode cX0_addWeighing 42 = .ok (.iload_n 1, 1) := by decide +kernel
theorem dX0_addWeighing_43 : decode cX0_addWeighing 43 = .ok (.iaload, 1) := by decide +kernel
theorem dX0_addWeighing_44 : decode cX0_addWeighing 44 = .ok (.iastore, 1) := by decide +kernel
theorem dX0_addWeighing_45 : decode cX0_addWeighing 45 = .ok (.aload_n 0, 1) := by decide +kernel
theorem dX0_addWeighing_46 : decode cX0_addWeighing 46 = .ok (.iconst 3, 1) := by decide +kernel
theorem dX0_addWeighing_47 : decode cX0_addWeighing 47 = .ok (.iload_n 1, 1) := by decide +kernel
theorem dX0_addWeighing_48 : decode cX0_addWeighing 48 = .ok (.invokevirtual 45, 3) := by decide +kernel
theorem dX0_addWeighing_51 : decode cX0_addWeighing 51 = .ok (.return_, 1) := by decide +kernel
def f_X8_put (F : Nat) (x1 : Int32) (x2 : Int32) (x3 : Int32) (x4 : Int32) (S : si_St) : Option (si_St) :=
  Option.bind (si_wr S 17 x1 x2) fun S1 => Option.bind (si_wr S1 18 x1 x3) fun S2 => Option.bind (si_wr S2 19 x1 x4) fun S3 => some S3
def f_X8_reset_h2 (F : Nat) (k1 : Nat) (r2 : Int32 → si_St → Option (si_St)) (x2 : Int32) (S : si_St) : Option (si_St) :=
  if (S.1 k1 3) ≤ x2 then (some S) else (Option.bind (si_rd S (k1 + 6) x2) fun v1 => Option.bind (some ((1 <<< (v1 &&& 31)) - 1)) fun v2 => Option.bind (si_rd S (k1 + 7) x2) fun v3 => Option.bind (f_X8_put F x2 v2 v2 v3 S) fun S4 => Option.bind (si_wr S4 20 x2 0) fun S5 => Option.bind (some (x2 + 1)) fun v6 => r2 v6 S5)
def f_X8_reset_l2 (F : Nat) (k1 : Nat) : Nat → Int32 → si_St → Option (si_St)
 | 0 => fun _ _ => none
 | n + 1 => fun x2 S => f_X8_reset_h2 F k1 (f_X8_reset_l2 F k1 n) x2 S
def f_X8_reset (F : Nat) (k1 : Nat) (S : si_St) : Option (si_St) :=
  f_X8_reset_l2 F k1 F 0 S
def f_X8_suspectsAfter (F : Nat) (x0 : Int32) (x1 : Int32) (x2 : Int32) (x3 : Int32) (S : si_St) : Option (Int32 × si_St) :=
  if x3 = 1 then (some ((x0 &&& x1), S)) else (if x3 = 2 then (some ((x0 &&& x2), S)) else (some ((x0 &&& ((x1 ||| x2) ^^^ (-1))), S)))
def f_X8_hypothesesOf (F : Nat) (x1 : Int32) (S : si_St) : Option (Int32 × si_St) :=
  Option.bind (si_rd S 17 x1) fun v1 => Option.bind (f_J6_bitCount_0f7a4 F v1 S) fun q2 => Option.bind (si_rd q2.2 18 x1) fun v3 => Option.bind (f_J6_bitCount_0f7a4 F v3 q2.2) fun q4 => Option.bind (si_rd q4.2 19 x1) fun v5 => some (((q2.1 + q4.1) + v5), q4.2)
def f_X8_onlyHypothesis (F : Nat) (x1 : Int32) (S : si_St) : Option (Int32 × si_St) :=
  Option.bind (f_X8_hypothesesOf F x1 S) fun q1 => if q1.1 = 1 then (Option.bind (si_rd q1.2 17 x1) fun v2 => if v2 = 0 then (Option.bind (si_rd q1.2 18 x1) fun v3 => if v3 = 0 then (some (0, q1.2)) else (Option.bind (si_rd q1.2 18 x1) fun v4 => Option.bind (f_J6_numberOfTrailingZeros_0f7a4 F v4 q1.2) fun q5 => some ((2 + (2 * q5.1)), q5.2))) else (Option.bind (si_rd q1.2 17 x1) fun v6 => Option.bind (f_J6_numberOfTrailingZeros_0f7a4 F v6 q1.2) fun q7 => some ((1 + (2 * q7.1)), q7.2))) else (some ((-2), q1.2))
def f_X0_clear (F : Nat) (S : si_St) : Option (si_St) :=
  Option.bind (si_pt S 21 0 0) fun S1 => Option.bind (si_pt S1 21 1 0) fun S2 => some S2
def f_X0_add (F : Nat) (x1 : Int32) (x2 : Int32) (S : si_St) : Option (si_St) :=
  Option.bind (si_wr S 22 (S.1 21 1) x1) fun S1 => Option.bind (si_wr S1 23 (S1.1 21 1) x2) fun S2 => Option.bind (si_pt S2 21 1 (((S2.1 21 1) + 1) - ((S2.1 21 1) + 1) / 12 * 12)) fun S3 => Option.bind (si_pt S3 21 0 (si_min ((S3.1 21 0) + 1) 12)) fun S4 => some S4
def f_X0_addWeighing (F : Nat) (x1 : Int32) (S : si_St) : Option (si_St) :=
  Option.bind (si_rd S 17 x1) fun v1 => Option.bind (si_wr S 24 (S.1 21 1) v1) fun S2 => Option.bind (si_rd S2 18 x1) fun v3 => Option.bind (si_wr S2 25 (S2.1 21 1) v3) fun S4 => Option.bind (si_rd S4 19 x1) fun v5 => Option.bind (si_wr S4 26 (S4.1 21 1) v5) fun S6 => Option.bind (f_X0_add F 3 x1 S6) fun S7 => some S7
abbrev rm_X8_put : Room := { frames := 0, cells := 0, slots := 0, locals := 0 }
set_option maxHeartbeats 4000000 in
set_option maxRecDepth 100000 in
theorem c_X8_put (l : Launch) (E : si_Ev) (F : Nat) (x1 : Int32) (x2 : Int32) (x3 : Int32) (x4 : Int32) (S : si_St) (o : si_St) (hf : f_X8_put F x1 x2 x3 x4 S = some o) : si_Mv l E yX8_put cX8_put 5 rm_X8_put [.ref (E.2.1 16), .int x1, .int x2, .int x3, .int x4] S o := by
  refine si_ofWv (plainFor_of_name (by decide +kernel)) (Nat.le_of_ble_eq_true rfl) ?_
  intro p e s m args below meth c ls Q A X hw hA hl hret
  have hl : lv_has ls 5 [(0, .ref (E.2.1 16)), (1, .int x1), (2, .int x2), (3, .int x3), (4, .int x4)] := hl
  unfold f_X8_put at hf
  refine lv_aload_n X.1 X.2.1 dX8_put_0 rfl (lv_at hl 0 rfl) ?_
  refine si_getR (k' := 17) (d := 1) X hw si_cl8 0 (by decide) gf_RX8_9 rfl rfl rfl (by decide) rfl dX8_put_1 ?_
  refine lv_iload_n X.1 X.2.1 dX8_put_4 rfl (lv_at hl 1 rfl) ?_
  refine lv_iload_n X.1 X.2.1 dX8_put_5 rfl (lv_at hl 2 rfl) ?_
  obtain ⟨S1, eS1, hf⟩ := si_ob hf
  refine si_iast X hw rfl eS1 dX8_put_6 (fun H locs hw => ?_)
  refine lv_aload_n X.1 X.2.1 dX8_put_7 rfl (lv_at hl 0 rfl) ?_
  refine si_getR (k' := 18) (d := 2) X hw si_cl8 1 (by decide) gf_RX8_15 rfl rfl rfl (by decide) rfl dX8_put_8 ?_
  refine lv_iload_n X.1 X.2.1 dX8_put_11 rfl (lv_at hl 1 rfl) ?_
  refine lv_iload_n X.1 X.2.1 dX8_put_12 rfl (lv_at hl 3 rfl) ?_
  obtain ⟨S2, eS2, hf⟩ := si_ob hf
  refine si_iast X hw rfl eS2 dX8_put_13 (fun H locs hw => ?_)
  refine lv_aload_n X.1 X.2.1 dX8_put_14 rfl (lv_at hl 0 rfl) ?_
  refine si_getR (k' := 19) (d := 3) X hw si_cl8 2 (by decide) gf_RX8_18 rfl rfl rfl (by decide) rfl dX8_put_15 ?_
  refine lv_iload_n X.1 X.2.1 dX8_put_18 rfl (lv_at hl 1 rfl) ?_
  refine lv_iload X.1 X.2.1 dX8_put_19 (lv_at hl 4 rfl) ?_
  obtain ⟨S3, eS3, hf⟩ := si_ob hf
  refine si_iast X hw rfl eS3 dX8_put_21 (fun H locs hw => ?_)
  exact hret _ _ _ _ _ hf hw dX8_put_22
abbrev rm_X8_reset : Room := { frames := 1, cells := 0, slots := 0, locals := 24 }
set_option maxHeartbeats 4000000 in
set_option maxRecDepth 100000 in
theorem c_X8_reset (l : Launch) (E : si_Ev) (F : Nat) (k1 : Nat) (hk1 : si_kd k1 = 2) (S : si_St) (o : si_St) (hf : f_X8_reset F k1 S = some o) : si_Mv l E yX8_reset cX8_reset 4 rm_X8_reset [.ref (E.2.1 16), .ref (E.2.1 k1)] S o := by
  refine si_ofWv (plainFor_of_name (by decide +kernel)) (Nat.le_of_ble_eq_true rfl) ?_
  intro p e s m args below meth c ls Q A X hw hA hl hret
  have hl : lv_has ls 4 [(0, .ref (E.2.1 16)), (1, .ref (E.2.1 k1))] := hl
  have B2 : ∀ (n2 : Nat) (x2 : Int32) (S : si_St) (H : Heap) (locs : List Loc) (ls : Array Slot), f_X8_reset_l2 F k1 n2 x2 S = some o → si_Ws E A s.heap S H locs → lv_has ls 4 [(0, .ref (E.2.1 16)), (1, .ref (E.2.1 k1)), (2, .int x2)] → W p l e rm_X8_reset s m args below meth c H locs 0 0 Q (F0 m 2 ls []) := by
    intro n2
    induction n2 with
    | zero => intro x2  S H locs ls hf; cases hf
    | succ n2 ih2 =>
      intro x2  S H locs ls hf hw hl
      have hf : f_X8_reset_h2 F k1 (f_X8_reset_l2 F k1 n2) x2 S = some o := hf
      unfold f_X8_reset_h2 at hf
      refine lv_iload_n X.1 X.2.1 dX8_reset_2 rfl (lv_at hl 2 rfl) ?_
      refine lv_aload_n X.1 X.2.1 dX8_reset_3 rfl (lv_at hl 1 rfl) ?_
      refine si_getI X hw si_cl2 3 (by decide) gf_RX8_24 rfl hk1 rfl dX8_reset_4 ?_
      refine lv_icmp_ge (tgt := 47) X.1 X.2.1 dX8_reset_7 (by decide) (fun c7 => ?_) (fun c7 => ?_)
      · have hf := si_ip c7 hf
        exact hret _ _ _ _ _ hf hw dX8_reset_47
      · have hf := si_in c7 hf
        refine lv_iconst (v := 1) X.1 X.2.1 dX8_reset_10 (by decide) ?_
        refine lv_aload_n X.1 X.2.1 dX8_reset_11 rfl (lv_at hl 1 rfl) ?_
        refine si_getR (k' := (k1 + 6)) (d := 6) X hw si_cl2 9 (by decide) gf_RX8_30 rfl hk1 rfl (by decide) rfl dX8_reset_12 ?_
        refine lv_iload_n X.1 X.2.1 dX8_reset_15 rfl (lv_at hl 2 rfl) ?_
        obtain ⟨v1, ev1, hf⟩ := si_ob hf
        refine si_iald X hw (sk_2_6 hk1) ev1 dX8_reset_16 ?_
        refine lv_ishl X.1 X.2.1 dX8_reset_17 ?_
        refine lv_iconst (v := 1) X.1 X.2.1 dX8_reset_18 (by decide) ?_
        refine lv_isub X.1 X.2.1 dX8_reset_19 ?_
        obtain ⟨v2, ev2, hf⟩ := si_ob hf
        refine si_nmI ev2 ?_
        refine lv_istore_n (lv' := [(3, .int v2), (0, .ref (E.2.1 16)), (1, .ref (E.2.1 k1)), (2, .int x2)]) X.1 X.2.1 dX8_reset_20 rfl hl (by decide) rfl (fun ls hl => ?_)
        refine lv_aload_n X.1 X.2.1 dX8_reset_21 rfl (lv_at hl 1 rfl) ?_
        refine lv_iload_n X.1 X.2.1 dX8_reset_22 rfl (lv_at hl 3 rfl) ?_
        refine lv_iload_n X.1 X.2.1 dX8_reset_23 rfl (lv_at hl 0 rfl) ?_
        refine lv_iload_n X.1 X.2.1 dX8_reset_24 rfl (lv_at hl 0 rfl) ?_
        refine lv_aload_n X.1 X.2.1 dX8_reset_25 rfl (lv_at hl 2 rfl) ?_
        refine si_getR (k' := (k1 + 7)) (d := 7) X hw si_cl2 10 (by decide) gf_RX8_33 rfl hk1 rfl (by decide) rfl dX8_reset_26 ?_
        refine lv_iload_n X.1 X.2.1 dX8_reset_29 rfl (lv_at hl 3 rfl) ?_
        obtain ⟨v3, ev3, hf⟩ := si_ob hf
        refine si_iald X hw (sk_2_7 hk1) ev3 dX8_reset_30 ?_
        obtain ⟨S4, eS4, hf⟩ := si_ob hf
        refine si_cVv [.int x2, .int v2, .int v2, .int v3] cal_X8_put gm_RX8_34 X hw hA hl.1 (c_X8_put l E F x2 v2 v2 v3 S S4 eS4) si_cl8 rfl ⟨⟨rfl, rfl⟩, Nat.le_of_ble_eq_true rfl, Nat.le_of_ble_eq_true rfl⟩ rfl rfl (Nat.le_of_ble_eq_true rfl) ⟨Nat.zero_le _, Nat.zero_le _⟩ dX8_reset_31 (fun H locs hw => ?_)
        refine lv_aload_n X.1 X.2.1 dX8_reset_34 rfl (lv_at hl 1 rfl) ?_
        refine si_getR (k' := 20) (d := 4) X hw si_cl8 3 (by decide) gf_RX8_21 rfl rfl rfl (by decide) rfl dX8_reset_35 ?_
        refine lv_iload_n X.1 X.2.1 dX8_reset_38 rfl (lv_at hl 3 rfl) ?_
        refine lv_iconst (v := 0) X.1 X.2.1 dX8_reset_39 (by decide) ?_
        obtain ⟨S5, eS5, hf⟩ := si_ob hf
        refine si_iast X hw rfl eS5 dX8_reset_40 (fun H locs hw => ?_)
        obtain ⟨v6, ev6, hf⟩ := si_ob hf
        refine lv_iinc (v := v6) (lv' := [(2, .int v6), (3, .int v2), (0, .ref (E.2.1 16)), (1, .ref (E.2.1 k1))]) X.1 X.2.1 dX8_reset_41 hl (k := 3) rfl (Option.some.inj ev6) (by decide) rfl (fun ls hl => ?_)
        refine lv_goto (tgt := 2) X.1 X.2.1 dX8_reset_44 (by decide) ?_
        exact ih2 _ _ _ _ _ hf hw (lv_sub hl [2, 3, 0] rfl)
  unfold f_X8_reset at hf
  refine lv_iconst (v := 0) X.1 X.2.1 dX8_reset_0 (by decide) ?_
  refine lv_istore_n (lv' := [(2, .int 0), (0, .ref (E.2.1 16)), (1, .ref (E.2.1 k1))]) X.1 X.2.1 dX8_reset_1 rfl hl (by decide) rfl (fun ls hl => ?_)
  exact B2 F _ _ _ _ _ hf hw (lv_sub hl [1, 2, 0] rfl)
abbrev rm_X8_suspectsAfter : Room := { frames := 0, cells := 0, slots := 0, locals := 0 }
set_option maxHeartbeats 4000000 in
set_option maxRecDepth 100000 in
theorem c_X8_suspectsAfter (l : Launch) (E : si_Ev) (F : Nat) (x0 : Int32) (x1 : Int32) (x2 : Int32) (x3 : Int32) (S : si_St) (o : Int32 × si_St) (hf : f_X8_suspectsAfter F x0 x1 x2 x3 S = some o) : si_Mi l E yX8_suspectsAfter cX8_suspectsAfter 4 (some .int) rm_X8_suspectsAfter [.int x0, .int x1, .int x2, .int x3] S o := by
  refine si_ofWi (plainFor_of_name (by decide +kernel)) (Nat.le_of_ble_eq_true rfl) ?_
  intro p e s m args below meth c ls Q A X hw hA hl hret
  have hl : lv_has ls 4 [(0, .int x0), (1, .int x1), (2, .int x2), (3, .int x3)] := hl
  unfold f_X8_suspectsAfter at hf
  refine lv_iload_n X.1 X.2.1 dX8_suspectsAfter_0 rfl (lv_at hl 3 rfl) ?_
  rcases Decidable.em (x3 = 1) with c1_0 | c1_0
  · have hf := si_ip c1_0 hf
    refine lv_lookup (tgt := 28) (off := 27) X.1 X.2.1 dX8_suspectsAfter_1 (by decide) (by rw [c1_0]; rfl) (by decide) ?_
    refine lv_iload_n X.1 X.2.1 dX8_suspectsAfter_28 rfl (lv_at hl 0 rfl) ?_
    refine lv_iload_n X.1 X.2.1 dX8_suspectsAfter_29 rfl (lv_at hl 1 rfl) ?_
    refine lv_iand X.1 X.2.1 dX8_suspectsAfter_30 ?_
    exact hret _ _ _ _ _ _ hf hw dX8_suspectsAfter_31
  · have hf := si_in c1_0 hf
    rcases Decidable.em (x3 = 2) with c1_1 | c1_1
    · have hf := si_ip c1_1 hf
      refine lv_lookup (tgt := 32) (off := 31) X.1 X.2.1 dX8_suspectsAfter_1 (by decide) (by rw [c1_1]; rfl) (by decide) ?_
      refine lv_iload_n X.1 X.2.1 dX8_suspectsAfter_32 rfl (lv_at hl 0 rfl) ?_
      refine lv_iload_n X.1 X.2.1 dX8_suspectsAfter_33 rfl (lv_at hl 2 rfl) ?_
      refine lv_iand X.1 X.2.1 dX8_suspectsAfter_34 ?_
      exact hret _ _ _ _ _ _ hf hw dX8_suspectsAfter_35
    · have hf := si_in c1_1 hf
      have n0 : ¬ (x3).toInt = 1 := si_toInt_ne c1_0
      have n1 : ¬ (x3).toInt = 2 := si_toInt_ne c1_1
      refine lv_lookup (tgt := 36) (off := 35) X.1 X.2.1 dX8_suspectsAfter_1 (by decide) (si_look2 (fun h => n0 h.symm) (fun h => n1 h.symm)) (by decide) ?_
      refine lv_iload_n X.1 X.2.1 dX8_suspectsAfter_36 rfl (lv_at hl 0 rfl) ?_
      refine lv_iload_n X.1 X.2.1 dX8_suspectsAfter_37 rfl (lv_at hl 1 rfl) ?_
      refine lv_iload_n X.1 X.2.1 dX8_suspectsAfter_38 rfl (lv_at hl 2 rfl) ?_
      refine lv_ior X.1 X.2.1 dX8_suspectsAfter_39 ?_
      refine lv_iconst (v := (-1)) X.1 X.2.1 dX8_suspectsAfter_40 (by decide) ?_
      refine lv_ixor X.1 X.2.1 dX8_suspectsAfter_41 ?_
      refine lv_iand X.1 X.2.1 dX8_suspectsAfter_42 ?_
      exact hret _ _ _ _ _ _ hf hw dX8_suspectsAfter_43
abbrev rm_X8_hypothesesOf : Room := { frames := 1, cells := 0, slots := 0, locals := 20 }
set_option maxHeartbeats 4000000 in
set_option maxRecDepth 100000 in
theorem c_X8_hypothesesOf (l : Launch) (E : si_Ev) (F : Nat) (x1 : Int32) (S : si_St) (o : Int32 × si_St) (hf : f_X8_hypothesesOf F x1 S = some o) : si_Mi l E yX8_hypothesesOf cX8_hypothesesOf 2 (some .int) rm_X8_hypothesesOf [.ref (E.2.1 16), .int x1] S o := by
  refine si_ofWi (plainFor_of_name (by decide +kernel)) (Nat.le_of_ble_eq_true rfl) ?_
  intro p e s m args below meth c ls Q A X hw hA hl hret
  have hl : lv_has ls 2 [(0, .ref (E.2.1 16)), (1, .int x1)] := hl
  unfold f_X8_hypothesesOf at hf
  refine lv_aload_n X.1 X.2.1 dX8_hypothesesOf_0 rfl (lv_at hl 0 rfl) ?_
  refine si_getR (k' := 17) (d := 1) X hw si_cl8 0 (by decide) gf_RX8_9 rfl rfl rfl (by decide) rfl dX8_hypothesesOf_1 ?_
  refine lv_iload_n X.1 X.2.1 dX8_hypothesesOf_4 rfl (lv_at hl 1 rfl) ?_
  obtain ⟨v1, ev1, hf⟩ := si_ob hf
  refine si_iald X hw rfl ev1 dX8_hypothesesOf_5 ?_
  obtain ⟨q2, eq2, hf⟩ := si_ob hf
  refine si_cSi [.int v1] cal_J6_bitCount_0f7a4 gm_RX8_44 X hw hA hl.1 (c_J6_bitCount_0f7a4 l E F v1 S q2 eq2) ⟨⟨rfl, rfl⟩, Nat.le_of_ble_eq_true rfl, Nat.le_of_ble_eq_true rfl⟩ rfl rfl (Nat.le_of_ble_eq_true rfl) ⟨Nat.zero_le _, Nat.zero_le _⟩ dX8_hypothesesOf_6 (fun H locs hw => ?_)
  refine lv_aload_n X.1 X.2.1 dX8_hypothesesOf_9 rfl (lv_at hl 0 rfl) ?_
  refine si_getR (k' := 18) (d := 2) X hw si_cl8 1 (by decide) gf_RX8_15 rfl rfl rfl (by decide) rfl dX8_hypothesesOf_10 ?_
  refine lv_iload_n X.1 X.2.1 dX8_hypothesesOf_13 rfl (lv_at hl 1 rfl) ?_
  obtain ⟨v3, ev3, hf⟩ := si_ob hf
  refine si_iald X hw rfl ev3 dX8_hypothesesOf_14 ?_
  obtain ⟨q4, eq4, hf⟩ := si_ob hf
  refine si_cSi [.int v3] cal_J6_bitCount_0f7a4 gm_RX8_44 X hw hA hl.1 (c_J6_bitCount_0f7a4 l E F v3 q2.2 q4 eq4) ⟨⟨rfl, rfl⟩, Nat.le_of_ble_eq_true rfl, Nat.le_of_ble_eq_true rfl⟩ rfl rfl (Nat.le_of_ble_eq_true rfl) ⟨Nat.zero_le _, Nat.zero_le _⟩ dX8_hypothesesOf_15 (fun H locs hw => ?_)
  refine lv_iadd X.1 X.2.1 dX8_hypothesesOf_18 ?_
  refine lv_aload_n X.1 X.2.1 dX8_hypothesesOf_19 rfl (lv_at hl 0 rfl) ?_
  refine si_getR (k' := 19) (d := 3) X hw si_cl8 2 (by decide) gf_RX8_18 rfl rfl rfl (by decide) rfl dX8_hypothesesOf_20 ?_
  refine lv_iload_n X.1 X.2.1 dX8_hypothesesOf_23 rfl (lv_at hl 1 rfl) ?_
  obtain ⟨v5, ev5, hf⟩ := si_ob hf
  refine si_iald X hw rfl ev5 dX8_hypothesesOf_24 ?_
  refine lv_iadd X.1 X.2.1 dX8_hypothesesOf_25 ?_
  exact hret _ _ _ _ _ _ hf hw dX8_hypothesesOf_26
abbrev rm_X8_onlyHypothesis : Room := { frames := 2, cells := 0, slots := 0, locals := 41 }
set_option maxHeartbeats 4000000 in
set_option maxRecDepth 100000 in
theorem c_X8_onlyHypothesis (l : Launch) (E : si_Ev) (F : Nat) (x1 : Int32) (S : si_St) (o : Int32 × si_St) (hf : f_X8_onlyHypothesis F x1 S = some o) : si_Mi l E yX8_onlyHypothesis cX8_onlyHypothesis 2 (some .int) rm_X8_onlyHypothesis [.ref (E.2.1 16), .int x1] S o := by
  refine si_ofWi (plainFor_of_name (by decide +kernel)) (Nat.le_of_ble_eq_true rfl) ?_
  intro p e s m args below meth c ls Q A X hw hA hl hret
  have hl : lv_has ls 2 [(0, .ref (E.2.1 16)), (1, .int x1)] := hl
  unfold f_X8_onlyHypothesis at hf
  refine lv_aload_n X.1 X.2.1 dX8_onlyHypothesis_0 rfl (lv_at hl 0 rfl) ?_
  refine lv_iload_n X.1 X.2.1 dX8_onlyHypothesis_1 rfl (lv_at hl 1 rfl) ?_
  obtain ⟨q1, eq1, hf⟩ := si_ob hf
  refine si_cVi [.int x1] cal_X8_hypothesesOf gm_RX8_50 X hw hA hl.1 (c_X8_hypothesesOf l E F x1 S q1 eq1) si_cl8 rfl ⟨⟨rfl, rfl⟩, Nat.le_of_ble_eq_true rfl, Nat.le_of_ble_eq_true rfl⟩ rfl rfl (Nat.le_of_ble_eq_true rfl) ⟨Nat.zero_le _, Nat.zero_le _⟩ dX8_onlyHypothesis_2 (fun H locs hw => ?_)
  refine lv_iconst (v := 1) X.1 X.2.1 dX8_onlyHypothesis_5 (by decide) ?_
  refine lv_icmp_eq (tgt := 12) X.1 X.2.1 dX8_onlyHypothesis_6 (by decide) (fun c6 => ?_) (fun c6 => ?_)
  · have hf := si_ip c6 hf
    refine lv_aload_n X.1 X.2.1 dX8_onlyHypothesis_12 rfl (lv_at hl 0 rfl) ?_
    refine si_getR (k' := 17) (d := 1) X hw si_cl8 0 (by decide) gf_RX8_9 rfl rfl rfl (by decide) rfl dX8_onlyHypothesis_13 ?_
    refine lv_iload_n X.1 X.2.1 dX8_onlyHypothesis_16 rfl (lv_at hl 1 rfl) ?_
    obtain ⟨v2, ev2, hf⟩ := si_ob hf
    refine si_iald X hw rfl ev2 dX8_onlyHypothesis_17 ?_
    refine lv_if_eq (tgt := 35) X.1 X.2.1 dX8_onlyHypothesis_18 (by decide) (fun c18 => ?_) (fun c18 => ?_)
    · have hf := si_ip c18 hf
      refine lv_aload_n X.1 X.2.1 dX8_onlyHypothesis_35 rfl (lv_at hl 0 rfl) ?_
      refine si_getR (k' := 18) (d := 2) X hw si_cl8 1 (by decide) gf_RX8_15 rfl rfl rfl (by decide) rfl dX8_onlyHypothesis_36 ?_
      refine lv_iload_n X.1 X.2.1 dX8_onlyHypothesis_39 rfl (lv_at hl 1 rfl) ?_
      obtain ⟨v3, ev3, hf⟩ := si_ob hf
      refine si_iald X hw rfl ev3 dX8_onlyHypothesis_40 ?_
      refine lv_if_eq (tgt := 58) X.1 X.2.1 dX8_onlyHypothesis_41 (by decide) (fun c41 => ?_) (fun c41 => ?_)
      · have hf := si_ip c41 hf
        refine lv_iconst (v := 0) X.1 X.2.1 dX8_onlyHypothesis_58 (by decide) ?_
        exact hret _ _ _ _ _ _ hf hw dX8_onlyHypothesis_59
      · have hf := si_in c41 hf
        refine lv_iconst (v := 2) X.1 X.2.1 dX8_onlyHypothesis_44 (by decide) ?_
        refine lv_iconst (v := 2) X.1 X.2.1 dX8_onlyHypothesis_45 (by decide) ?_
        refine lv_aload_n X.1 X.2.1 dX8_onlyHypothesis_46 rfl (lv_at hl 0 rfl) ?_
        refine si_getR (k' := 18) (d := 2) X hw si_cl8 1 (by decide) gf_RX8_15 rfl rfl rfl (by decide) rfl dX8_onlyHypothesis_47 ?_
        refine lv_iload_n X.1 X.2.1 dX8_onlyHypothesis_50 rfl (lv_at hl 1 rfl) ?_
        obtain ⟨v4, ev4, hf⟩ := si_ob hf
        refine si_iald X hw rfl ev4 dX8_onlyHypothesis_51 ?_
        obtain ⟨q5, eq5, hf⟩ := si_ob hf
        refine si_cSi [.int v4] cal_J6_numberOfTrailingZeros_0f7a4 gm_RX8_53 X hw hA hl.1 (c_J6_numberOfTrailingZeros_0f7a4 l E F v4 q1.2 q5 eq5) ⟨⟨rfl, rfl⟩, Nat.le_of_ble_eq_true rfl, Nat.le_of_ble_eq_true rfl⟩ rfl rfl (Nat.le_of_ble_eq_true rfl) ⟨Nat.zero_le _, Nat.zero_le _⟩ dX8_onlyHypothesis_52 (fun H locs hw => ?_)
        refine lv_imul X.1 X.2.1 dX8_onlyHypothesis_55 ?_
        refine lv_iadd X.1 X.2.1 dX8_onlyHypothesis_56 ?_
        exact hret _ _ _ _ _ _ hf hw dX8_onlyHypothesis_57
    · have hf := si_in c18 hf
      refine lv_iconst (v := 1) X.1 X.2.1 dX8_onlyHypothesis_21 (by decide) ?_
      refine lv_iconst (v := 2) X.1 X.2.1 dX8_onlyHypothesis_22 (by decide) ?_
      refine lv_aload_n X.1 X.2.1 dX8_onlyHypothesis_23 rfl (lv_at hl 0 rfl) ?_
      refine si_getR (k' := 17) (d := 1) X hw si_cl8 0 (by decide) gf_RX8_9 rfl rfl rfl (by decide) rfl dX8_onlyHypothesis_24 ?_
      refine lv_iload_n X.1 X.2.1 dX8_onlyHypothesis_27 rfl (lv_at hl 1 rfl) ?_
      obtain ⟨v6, ev6, hf⟩ := si_ob hf
      refine si_iald X hw rfl ev6 dX8_onlyHypothesis_28 ?_
      obtain ⟨q7, eq7, hf⟩ := si_ob hf
      refine si_cSi [.int v6] cal_J6_numberOfTrailingZeros_0f7a4 gm_RX8_53 X hw hA hl.1 (c_J6_numberOfTrailingZeros_0f7a4 l E F v6 q1.2 q7 eq7) ⟨⟨rfl, rfl⟩, Nat.le_of_ble_eq_true rfl, Nat.le_of_ble_eq_true rfl⟩ rfl rfl (Nat.le_of_ble_eq_true rfl) ⟨Nat.zero_le _, Nat.zero_le _⟩ dX8_onlyHypothesis_29 (fun H locs hw => ?_)
      refine lv_imul X.1 X.2.1 dX8_onlyHypothesis_32 ?_
      refine lv_iadd X.1 X.2.1 dX8_onlyHypothesis_33 ?_
      exact hret _ _ _ _ _ _ hf hw dX8_onlyHypothesis_34
  · have hf := si_in c6 hf
    refine lv_bipush (v := (-2)) X.1 X.2.1 dX8_onlyHypothesis_9 (by decide) ?_
    exact hret _ _ _ _ _ _ hf hw dX8_onlyHypothesis_11
abbrev rm_X0_clear : Room := { frames := 0, cells := 0, slots := 0, locals := 0 }
set_option maxHeartbeats 4000000 in
set_option maxRecDepth 100000 in
theorem c_X0_clear (l : Launch) (E : si_Ev) (F : Nat) (S : si_St) (o : si_St) (hf : f_X0_clear F S = some o) : si_Mv l E yX0_clear cX0_clear 1 rm_X0_clear [.ref (E.2.1 21)] S o := by
  refine si_ofWv (plainFor_of_name (by decide +kernel)) (Nat.le_of_ble_eq_true rfl) ?_
  intro p e s m args below meth c ls Q A X hw hA hl hret
  have hl : lv_has ls 1 [(0, .ref (E.2.1 21))] := hl
  unfold f_X0_clear at hf
  refine lv_aload_n X.1 X.2.1 dX0_clear_0 rfl (lv_at hl 0 rfl) ?_
  refine lv_iconst (v := 0) X.1 X.2.1 dX0_clear_1 (by decide) ?_
  obtain ⟨S1, eS1, hf⟩ := si_ob hf
  refine si_ptI X hw si_cl0 0 (by decide) gf_RX0_27 rfl rfl rfl rfl rfl eS1 dX0_clear_2 (fun H locs hw => ?_)
  refine lv_aload_n X.1 X.2.1 dX0_clear_5 rfl (lv_at hl 0 rfl) ?_
  refine lv_iconst (v := 0) X.1 X.2.1 dX0_clear_6 (by decide) ?_
  obtain ⟨S2, eS2, hf⟩ := si_ob hf
  refine si_ptI X hw si_cl0 1 (by decide) gf_RX0_31 rfl rfl rfl rfl rfl eS2 dX0_clear_7 (fun H locs hw => ?_)
  exact hret _ _ _ _ _ hf hw dX0_clear_10
abbrev rm_X0_add : Room := { frames := 1, cells := 0, slots := 0, locals := 23 }
set_option maxHeartbeats 4000000 in
set_option maxRecDepth 100000 in
theorem c_X0_add (l : Launch) (E : si_Ev) (F : Nat) (x1 : Int32) (x2 : Int32) (S : si_St) (o : si_St) (hf : f_X0_add F x1 x2 S = some o) : si_Mv l E yX0_add cX0_add 3 rm_X0_add [.ref (E.2.1 21), .int x1, .int x2] S o := by
  refine si_ofWv (plainFor_of_name (by decide +kernel)) (Nat.le_of_ble_eq_true rfl) ?_
  intro p e s m args below meth c ls Q A X hw hA hl hret
  have hl : lv_has ls 3 [(0, .ref (E.2.1 21)), (1, .int x1), (2, .int x2)] := hl
  unfold f_X0_add at hf
  refine lv_aload_n X.1 X.2.1 dX0_add_0 rfl (lv_at hl 0 rfl) ?_
  refine si_getR (k' := 22) (d := 1) X hw si_cl0 2 (by decide) gf_RX0_9 rfl rfl rfl (by decide) rfl dX0_add_1 ?_
  refine lv_aload_n X.1 X.2.1 dX0_add_4 rfl (lv_at hl 0 rfl) ?_
  refine si_getI X hw si_cl0 1 (by decide) gf_RX0_31 rfl rfl rfl dX0_add_5 ?_
  refine lv_iload_n X.1 X.2.1 dX0_add_8 rfl (lv_at hl 1 rfl) ?_
  obtain ⟨S1, eS1, hf⟩ := si_ob hf
  refine si_iast X hw rfl eS1 dX0_add_9 (fun H locs hw => ?_)
  refine lv_aload_n X.1 X.2.1 dX0_add_10 rfl (lv_at hl 0 rfl) ?_
  refine si_getR (k' := 23) (d := 2) X hw si_cl0 3 (by decide) gf_RX0_15 rfl rfl rfl (by decide) rfl dX0_add_11 ?_
  refine lv_aload_n X.1 X.2.1 dX0_add_14 rfl (lv_at hl 0 rfl) ?_
  refine si_getI X hw si_cl0 1 (by decide) gf_RX0_31 rfl rfl rfl dX0_add_15 ?_
  refine lv_iload_n X.1 X.2.1 dX0_add_18 rfl (lv_at hl 2 rfl) ?_
  obtain ⟨S2, eS2, hf⟩ := si_ob hf
  refine si_iast X hw rfl eS2 dX0_add_19 (fun H locs hw => ?_)
  refine lv_aload_n X.1 X.2.1 dX0_add_20 rfl (lv_at hl 0 rfl) ?_
  refine lv_aload_n X.1 X.2.1 dX0_add_21 rfl (lv_at hl 0 rfl) ?_
  refine si_getI X hw si_cl0 1 (by decide) gf_RX0_31 rfl rfl rfl dX0_add_22 ?_
  refine lv_iconst (v := 1) X.1 X.2.1 dX0_add_25 (by decide) ?_
  refine lv_iadd X.1 X.2.1 dX0_add_26 ?_
  refine lv_bipush (v := 12) X.1 X.2.1 dX0_add_27 (by decide) ?_
  refine lv_irem X.1 X.2.1 dX0_add_29 (by decide) ?_
  obtain ⟨S3, eS3, hf⟩ := si_ob hf
  refine si_ptI X hw si_cl0 1 (by decide) gf_RX0_31 rfl rfl rfl rfl rfl eS3 dX0_add_30 (fun H locs hw => ?_)
  refine lv_aload_n X.1 X.2.1 dX0_add_33 rfl (lv_at hl 0 rfl) ?_
  refine lv_aload_n X.1 X.2.1 dX0_add_34 rfl (lv_at hl 0 rfl) ?_
  refine si_getI X hw si_cl0 0 (by decide) gf_RX0_27 rfl rfl rfl dX0_add_35 ?_
  refine lv_iconst (v := 1) X.1 X.2.1 dX0_add_38 (by decide) ?_
  refine lv_iadd X.1 X.2.1 dX0_add_39 ?_
  refine lv_bipush (v := 12) X.1 X.2.1 dX0_add_40 (by decide) ?_
  refine si_mmin hl.1 X (Nat.le_of_ble_eq_true rfl) (Nat.le_of_ble_eq_true rfl) gm_RX0_34 ⟨Nat.zero_le _, Nat.zero_le _⟩ dX0_add_42 ?_
  obtain ⟨S4, eS4, hf⟩ := si_ob hf
  refine si_ptI X hw si_cl0 0 (by decide) gf_RX0_27 rfl rfl rfl rfl rfl eS4 dX0_add_45 (fun H locs hw => ?_)
  exact hret _ _ _ _ _ hf hw dX0_add_48
abbrev rm_X0_addWeighing : Room := { frames := 2, cells := 0, slots := 0, locals := 45 }
set_option maxHeartbeats 4000000 in
set_option maxRecDepth 100000 in
theorem c_X0_addWeighing (l : Launch) (E : si_Ev) (F : Nat) (x1 : Int32) (S : si_St) (o : si_St) (hf : f_X0_addWeighing F x1 S = some o) : si_Mv l E yX0_addWeighing cX0_addWeighing 3 rm_X0_addWeighing [.ref (E.2.1 21), .int x1, .ref (E.2.1 16)] S o := by
  refine si_ofWv (plainFor_of_name (by decide +kernel)) (Nat.le_of_ble_eq_true rfl) ?_
  intro p e s m args below meth c ls Q A X hw hA hl hret
  have hl : lv_has ls 3 [(0, .ref (E.2.1 21)), (1, .int x1), (2, .ref (E.2.1 16))] := hl
  unfold f_X0_addWeighing at hf
  refine lv_aload_n X.1 X.2.1 dX0_addWeighing_0 rfl (lv_at hl 0 rfl) ?_
  refine si_getR (k' := 24) (d := 3) X hw si_cl0 4 (by decide) gf_RX0_18 rfl rfl rfl (by decide) rfl dX0_addWeighing_1 ?_
  refine lv_aload_n X.1 X.2.1 dX0_addWeighing_4 rfl (lv_at hl 0 rfl) ?_
  refine si_getI X hw si_cl0 1 (by decide) gf_RX0_31 rfl rfl rfl dX0_addWeighing_5 ?_
  refine lv_aload_n X.1 X.2.1 dX0_addWeighing_8 rfl (lv_at hl 2 rfl) ?_
  refine si_getR (k' := 17) (d := 1) X hw si_cl8 0 (by decide) gf_RX0_40 rfl rfl rfl (by decide) rfl dX0_addWeighing_9 ?_
  refine lv_iload_n X.1 X.2.1 dX0_addWeighing_12 rfl (lv_at hl 1 rfl) ?_
  obtain ⟨v1, ev1, hf⟩ := si_ob hf
  refine si_iald X hw rfl ev1 dX0_addWeighing_13 ?_
  obtain ⟨S2, eS2, hf⟩ := si_ob hf
  refine si_iast X hw rfl eS2 dX0_addWeighing_14 (fun H locs hw => ?_)
  refine lv_aload_n X.1 X.2.1 dX0_addWeighing_15 rfl (lv_at hl 0 rfl) ?_
  refine si_getR (k' := 25) (d := 4) X hw si_cl0 5 (by decide) gf_RX0_21 rfl rfl rfl (by decide) rfl dX0_addWeighing_16 ?_
  refine lv_aload_n X.1 X.2.1 dX0_addWeighing_19 rfl (lv_at hl 0 rfl) ?_
  refine si_getI X hw si_cl0 1 (by decide) gf_RX0_31 rfl rfl rfl dX0_addWeighing_20 ?_
  refine lv_aload_n X.1 X.2.1 dX0_addWeighing_23 rfl (lv_at hl 2 rfl) ?_
  refine si_getR (k' := 18) (d := 2) X hw si_cl8 1 (by decide) gf_RX0_43 rfl rfl rfl (by decide) rfl dX0_addWeighing_24 ?_
  refine lv_iload_n X.1 X.2.1 dX0_addWeighing_27 rfl (lv_at hl 1 rfl) ?_
  obtain ⟨v3, ev3, hf⟩ := si_ob hf
  refine si_iald X hw rfl ev3 dX0_addWeighing_28 ?_
  obtain ⟨S4, eS4, hf⟩ := si_ob hf
  refine si_iast X hw rfl eS4 dX0_addWeighing_29 (fun H locs hw => ?_)
  refine lv_aload_n X.1 X.2.1 dX0_addWeighing_30 rfl (lv_at hl 0 rfl) ?_
  refine si_getR (k' := 26) (d := 5) X hw si_cl0 6 (by decide) gf_RX0_24 rfl rfl rfl (by decide) rfl dX0_addWeighing_31 ?_
  refine lv_aload_n X.1 X.2.1 dX0_addWeighing_34 rfl (lv_at hl 0 rfl) ?_
  refine si_getI X hw si_cl0 1 (by decide) gf_RX0_31 rfl rfl rfl dX0_addWeighing_35 ?_
  refine lv_aload_n X.1 X.2.1 dX0_addWeighing_38 rfl (lv_at hl 2 rfl) ?_
  refine si_getR (k' := 19) (d := 3) X hw si_cl8 2 (by decide) gf_RX0_44 rfl rfl rfl (by decide) rfl dX0_addWeighing_39 ?_
  refine lv_iload_n X.1 X.2.1 dX0_addWeighing_42 rfl (lv_at hl 1 rfl) ?_
  obtain ⟨v5, ev5, hf⟩ := si_ob hf
  refine si_iald X hw rfl ev5 dX0_addWeighing_43 ?_
  obtain ⟨S6, eS6, hf⟩ := si_ob hf
  refine si_iast X hw rfl eS6 dX0_addWeighing_44 (fun H locs hw => ?_)
  refine lv_aload_n X.1 X.2.1 dX0_addWeighing_45 rfl (lv_at hl 0 rfl) ?_
  refine lv_iconst (v := 3) X.1 X.2.1 dX0_addWeighing_46 (by decide) ?_
  refine lv_iload_n X.1 X.2.1 dX0_addWeighing_47 rfl (lv_at hl 1 rfl) ?_
  obtain ⟨S7, eS7, hf⟩ := si_ob hf
  refine si_cVv [.int 3, .int x1] cal_X0_add gm_RX0_45 X hw hA hl.1 (c_X0_add l E F 3 x1 S6 S7 eS7) si_cl0 rfl ⟨⟨rfl, rfl⟩, Nat.le_of_ble_eq_true rfl, Nat.le_of_ble_eq_true rfl⟩ rfl rfl (Nat.le_of_ble_eq_true rfl) ⟨Nat.zero_le _, Nat.zero_le _⟩ dX0_addWeighing_48 (fun H locs hw => ?_)
  exact hret _ _ _ _ _ hf hw dX0_addWeighing_51
