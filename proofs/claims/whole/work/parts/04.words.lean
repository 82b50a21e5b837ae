theorem gl_X7_hasPassed : Cond.selects RX7 yX7_hasPassed yX7_hasPassed ∈ si_GW := si_gw 19 (by decide +kernel) (by decide +kernel)
theorem gl_X7_hasEmptyTest : Cond.selects RX7 yX7_hasEmptyTest yX7_hasEmptyTest ∈ si_GW := si_gw 21 (by decide +kernel) (by decide +kernel)
theorem gl_X7_reachesHalf : Cond.selects RX7 yX7_reachesHalf yX7_reachesHalf ∈ si_GW := si_gw 22 (by decide +kernel) (by decide +kernel)
theorem gl_X7_hasRepeat : Cond.selects RX7 yX7_hasRepeat yX7_hasRepeat ∈ si_GW := si_gw 23 (by decide +kernel) (by decide +kernel)
theorem gl_X7_allWithinTolerance : Cond.selects RX7 yX7_allWithinTolerance yX7_allWithinTolerance ∈ si_GW := si_gw 24 (by decide +kernel) (by decide +kernel)
theorem gl_X7_toleranceOf : Cond.selects RX7 yX7_toleranceOf yX7_toleranceOf ∈ si_GW := si_gw 25 (by decide +kernel) (by decide +kernel)
theorem gl_X7_repeatsAgree : Cond.selects RX7 yX7_repeatsAgree yX7_repeatsAgree ∈ si_GW := si_gw 26 (by decide +kernel) (by decide +kernel)
theorem gi_RX7 : Cond.initialized RX7 ∈ si_GW := si_gw 87 (by decide +kernel) (by decide +kernel)
theorem gi_RX2 : Cond.initialized RX2 ∈ si_GW := si_gw 93 (by decide +kernel) (by decide +kernel)
theorem gi_RJ9 : Cond.initialized RJ9 ∈ si_GW := si_gw 100 (by decide +kernel) (by decide +kernel)
theorem gi_RJ10 : Cond.initialized RJ10 ∈ si_GW := si_gw 101 (by decide +kernel) (by decide +kernel)
theorem gf_RX7_36 : Cond.fieldLink RX7 36 "ScaleInspection$VisitBook" "count" "I" ∈ si_GW := si_gw 185 (by decide +kernel) (by decide +kernel)
theorem gf_RX7_9 : Cond.fieldLink RX7 9 "ScaleInspection$VisitBook" "scaleOf" "[I" ∈ si_GW := si_gw 188 (by decide +kernel) (by decide +kernel)
theorem gf_RX7_15 : Cond.fieldLink RX7 15 "ScaleInspection$VisitBook" "dayOf" "[I" ∈ si_GW := si_gw 191 (by decide +kernel) (by decide +kernel)
theorem gf_RX7_18 : Cond.fieldLink RX7 18 "ScaleInspection$VisitBook" "serviceOf" "[I" ∈ si_GW := si_gw 193 (by decide +kernel) (by decide +kernel)
theorem gf_RX7_21 : Cond.fieldLink RX7 21 "ScaleInspection$VisitBook" "verdictOf" "[I" ∈ si_GW := si_gw 195 (by decide +kernel) (by decide +kernel)
theorem gf_RX7_24 : Cond.fieldLink RX7 24 "ScaleInspection$VisitBook" "testsOf" "[I" ∈ si_GW := si_gw 198 (by decide +kernel) (by decide +kernel)
theorem gf_RX7_27 : Cond.fieldLink RX7 27 "ScaleInspection$VisitBook" "massesOf" "[I" ∈ si_GW := si_gw 200 (by decide +kernel) (by decide +kernel)
theorem gf_RX7_30 : Cond.fieldLink RX7 30 "ScaleInspection$VisitBook" "loadOf" "[I" ∈ si_GW := si_gw 201 (by decide +kernel) (by decide +kernel)
theorem gf_RX7_33 : Cond.fieldLink RX7 33 "ScaleInspection$VisitBook" "errorOf" "[I" ∈ si_GW := si_gw 203 (by decide +kernel) (by decide +kernel)
theorem gf_RX2_15 : Cond.fieldLink RX2 15 "ScaleInspection$Market" "classOf" "[I" ∈ si_GW := si_gw 408 (by decide +kernel) (by decide +kernel)
theorem gf_RX2_18 : Cond.fieldLink RX2 18 "ScaleInspection$Market" "divisionOf" "[I" ∈ si_GW := si_gw 410 (by decide +kernel) (by decide +kernel)
theorem gf_RX7_81 : Cond.fieldLink RX7 81 "ScaleInspection$Market" "capacityOf" "[I" ∈ si_GW := si_gw 415 (by decide +kernel) (by decide +kernel)
theorem gf_RX2_33 : Cond.fieldLink RX2 33 "ScaleInspection$Market" "termOf" "[I" ∈ si_GW := si_gw 427 (by decide +kernel) (by decide +kernel)
theorem gs_Mmin : Cond.static Lib.Math.min.name ∈ si_GW := si_gw 610 (by decide +kernel) (by decide +kernel)
theorem gc_Mmin : Cond.code Lib.Math.min.name Lib.Math.min.code 2 (some .int) ∈ si_GW := si_gw 611 (by decide +kernel) (by decide +kernel)
theorem gs_acopy : Cond.static arraycopyName ∈ si_GW := si_gw 650 (by decide +kernel) (by decide +kernel)
theorem gv_acopy : Cond.native arraycopyName ∈ si_GW := si_gw 651 (by decide +kernel) (by decide +kernel)
theorem gs_Mminl : Cond.static Lib.MathLoose.min_long.x ∈ si_GW := si_gw 732 (by decide +kernel) (by decide +kernel)
theorem gc_Mminl : Cond.code Lib.MathLoose.min_long.x Lib.MathLoose.min_long.code 4 (some .long) ∈ si_GW := si_gw 733 (by decide +kernel) (by decide +kernel)
theorem gm_RX7_50 : Cond.methodLink RX7 50 Lib.Math.max.name ∈ si_GW := si_gw 745 (by decide +kernel) (by decide +kernel)
theorem gs_Mmax : Cond.static Lib.Math.max.name ∈ si_GW := si_gw 746 (by decide +kernel) (by decide +kernel)
theorem gc_Mmax : Cond.code Lib.Math.max.name Lib.Math.max.code 2 (some .int) ∈ si_GW := si_gw 747 (by decide +kernel) (by decide +kernel)
theorem gm_RX7_46 : Cond.methodLink RX7 46 yX7_isOpen ∈ si_GW := si_gw 752 (by decide +kernel) (by decide +kernel)
theorem gn_X7_isOpen : Cond.instanceMethod yX7_isOpen ∈ si_GW := si_gw 753 (by decide +kernel) (by decide +kernel)
theorem gl_X7_isOpen : Cond.selects RX7 yX7_isOpen yX7_isOpen ∈ si_GW := si_gw 754 (by decide +kernel) (by decide +kernel)
theorem gc_X7_isOpen : Cond.code yX7_isOpen cX7_isOpen 2 (some .boolean) ∈ si_GW := si_gw 755 (by decide +kernel) (by decide +kernel)
theorem gm_RX7_56 : Cond.methodLink RX7 56 yX7_hasPassed ∈ si_GW := si_gw 760 (by decide +kernel) (by decide +kernel)
theorem gn_X7_hasPassed : Cond.instanceMethod yX7_hasPassed ∈ si_GW := si_gw 762 (by decide +kernel) (by decide +kernel)
theorem gc_X7_hasPassed : Cond.code yX7_hasPassed cX7_hasPassed 3 (some .boolean) ∈ si_GW := si_gw 763 (by decide +kernel) (by decide +kernel)
theorem gm_RX7_78 : Cond.methodLink RX7 78 yX7_hasEmptyTest ∈ si_GW := si_gw 812 (by decide +kernel) (by decide +kernel)
theorem gn_X7_hasEmptyTest : Cond.instanceMethod yX7_hasEmptyTest ∈ si_GW := si_gw 814 (by decide +kernel) (by decide +kernel)
theorem gc_X7_hasEmptyTest : Cond.code yX7_hasEmptyTest cX7_hasEmptyTest 3 (some .boolean) ∈ si_GW := si_gw 815 (by decide +kernel) (by decide +kernel)
theorem gm_RX7_84 : Cond.methodLink RX7 84 yX7_reachesHalf ∈ si_GW := si_gw 816 (by decide +kernel) (by decide +kernel)
theorem gn_X7_reachesHalf : Cond.instanceMethod yX7_reachesHalf ∈ si_GW := si_gw 818 (by decide +kernel) (by decide +kernel)
theorem gc_X7_reachesHalf : Cond.code yX7_reachesHalf cX7_reachesHalf 4 (some .boolean) ∈ si_GW := si_gw 819 (by decide +kernel) (by decide +kernel)
theorem gm_RX7_88 : Cond.methodLink RX7 88 yX7_hasRepeat ∈ si_GW := si_gw 820 (by decide +kernel) (by decide +kernel)
theorem gn_X7_hasRepeat : Cond.instanceMethod yX7_hasRepeat ∈ si_GW := si_gw 822 (by decide +kernel) (by decide +kernel)
theorem gc_X7_hasRepeat : Cond.code yX7_hasRepeat cX7_hasRepeat 5 (some .boolean) ∈ si_GW := si_gw 823 (by decide +kernel) (by decide +kernel)
theorem gm_RX7_91 : Cond.methodLink RX7 91 yX7_allWithinTolerance ∈ si_GW := si_gw 824 (by decide +kernel) (by decide +kernel)
theorem gn_X7_allWithinTolerance : Cond.instanceMethod yX7_allWithinTolerance ∈ si_GW := si_gw 826 (by decide +kernel) (by decide +kernel)
theorem gc_X7_allWithinTolerance : Cond.code yX7_allWithinTolerance cX7_allWithinTolerance 5 (some .boolean) ∈ si_GW := si_gw 827 (by decide +kernel) (by decide +kernel)
theorem gm_RX7_99 : Cond.methodLink RX7 99 yX7_isWithinTolerance ∈ si_GW := si_gw 828 (by decide +kernel) (by decide +kernel)
theorem gn_X7_isWithinTolerance : Cond.instanceMethod yX7_isWithinTolerance ∈ si_GW := si_gw 829 (by decide +kernel) (by decide +kernel)
theorem gl_X7_isWithinTolerance : Cond.selects RX7 yX7_isWithinTolerance yX7_isWithinTolerance ∈ si_GW := si_gw 830 (by decide +kernel) (by decide +kernel)
theorem gc_X7_isWithinTolerance : Cond.code yX7_isWithinTolerance cX7_isWithinTolerance 6 (some .boolean) ∈ si_GW := si_gw 831 (by decide +kernel) (by decide +kernel)
theorem gm_RX7_64 : Cond.methodLink RX7 64 Lib.Math.abs.name ∈ si_GW := si_gw 832 (by decide +kernel) (by decide +kernel)
theorem gs_Mabs : Cond.static Lib.Math.abs.name ∈ si_GW := si_gw 833 (by decide +kernel) (by decide +kernel)
theorem gc_Mabs : Cond.code Lib.Math.abs.name Lib.Math.abs.code 1 (some .int) ∈ si_GW := si_gw 834 (by decide +kernel) (by decide +kernel)
theorem gm_RX7_68 : Cond.methodLink RX7 68 yX7_toleranceOf ∈ si_GW := si_gw 835 (by decide +kernel) (by decide +kernel)
theorem gn_X7_toleranceOf : Cond.instanceMethod yX7_toleranceOf ∈ si_GW := si_gw 837 (by decide +kernel) (by decide +kernel)
theorem gc_X7_toleranceOf : Cond.code yX7_toleranceOf cX7_toleranceOf 5 (some .int) ∈ si_GW := si_gw 838 (by decide +kernel) (by decide +kernel)
theorem gm_RX7_59 : Cond.methodLink RX7 59 yX2_toleranceAt ∈ si_GW := si_gw 839 (by decide +kernel) (by decide +kernel)
theorem gn_X2_toleranceAt : Cond.instanceMethod yX2_toleranceAt ∈ si_GW := si_gw 840 (by decide +kernel) (by decide +kernel)
theorem gl_X2_toleranceAt : Cond.selects RX2 yX2_toleranceAt yX2_toleranceAt ∈ si_GW := si_gw 841 (by decide +kernel) (by decide +kernel)
theorem gc_X2_toleranceAt : Cond.code yX2_toleranceAt cX2_toleranceAt 4 (some .int) ∈ si_GW := si_gw 842 (by decide +kernel) (by decide +kernel)
theorem gm_RX2_55 : Cond.methodLink RX2 55 yX2_fineDivisions ∈ si_GW := si_gw 843 (by decide +kernel) (by decide +kernel)
theorem gs_X2_fineDivisions : Cond.static yX2_fineDivisions ∈ si_GW := si_gw 844 (by decide +kernel) (by decide +kernel)
theorem gc_X2_fineDivisions : Cond.code yX2_fineDivisions cX2_fineDivisions 1 (some .int) ∈ si_GW := si_gw 845 (by decide +kernel) (by decide +kernel)
theorem gm_RX7_95 : Cond.methodLink RX7 95 yX7_repeatsAgree ∈ si_GW := si_gw 846 (by decide +kernel) (by decide +kernel)
theorem gn_X7_repeatsAgree : Cond.instanceMethod yX7_repeatsAgree ∈ si_GW := si_gw 848 (by decide +kernel) (by decide +kernel)
theorem gc_X7_repeatsAgree : Cond.code yX7_repeatsAgree cX7_repeatsAgree 8 (some .boolean) ∈ si_GW := si_gw 849 (by decide +kernel) (by decide +kernel)
theorem gm_RX7_72 : Cond.methodLink RX7 72 Lib.Math.min.name ∈ si_GW := si_gw 858 (by decide +kernel) (by decide +kernel)
theorem gm_RX7_75 : Cond.methodLink RX7 75 yJ9_floorDiv_7cf53 ∈ si_GW := si_gw 859 (by decide +kernel) (by decide +kernel)
theorem gs_J9_floorDiv_7cf53 : Cond.static yJ9_floorDiv_7cf53 ∈ si_GW := si_gw 860 (by decide +kernel) (by decide +kernel)
theorem gc_J9_floorDiv_7cf53 : Cond.code yJ9_floorDiv_7cf53 cJ9_floorDiv_7cf53 3 (some .int) ∈ si_GW := si_gw 861 (by decide +kernel) (by decide +kernel)
theorem cal_J9_floorDiv_7cf53 : si_CS yJ9_floorDiv_7cf53 cJ9_floorDiv_7cf53 3 (some .int) 2 := ⟨⟨gc_J9_floorDiv_7cf53, gi_RJ9, by decide +kernel⟩, gs_J9_floorDiv_7cf53⟩
theorem cal_X2_fineDivisions : si_CS yX2_fineDivisions cX2_fineDivisions 1 (some .int) 1 := ⟨⟨gc_X2_fineDivisions, gi_RX2, by decide +kernel⟩, gs_X2_fineDivisions⟩
theorem cal_X2_toleranceAt : si_CV yX2_toleranceAt cX2_toleranceAt 4 (some .int) 2 RX2 := ⟨⟨gc_X2_toleranceAt, gi_RX2, by decide +kernel⟩, gn_X2_toleranceAt, gl_X2_toleranceAt⟩
theorem cal_X7_allWithinTolerance : si_CV yX7_allWithinTolerance cX7_allWithinTolerance 5 (some .boolean) 3 RX7 := ⟨⟨gc_X7_allWithinTolerance, gi_RX7, by decide +kernel⟩, gn_X7_allWithinTolerance, gl_X7_allWithinTolerance⟩
theorem cal_X7_hasEmptyTest : si_CV yX7_hasEmptyTest cX7_hasEmptyTest 3 (some .boolean) 1 RX7 := ⟨⟨gc_X7_hasEmptyTest, gi_RX7, by decide +kernel⟩, gn_X7_hasEmptyTest, gl_X7_hasEmptyTest⟩
theorem cal_X7_hasPassed : si_CV yX7_hasPassed cX7_hasPassed 3 (some .boolean) 1 RX7 := ⟨⟨gc_X7_hasPassed, gi_RX7, by decide +kernel⟩, gn_X7_hasPassed, gl_X7_hasPassed⟩
theorem cal_X7_hasRepeat : si_CV yX7_hasRepeat cX7_hasRepeat 5 (some .boolean) 1 RX7 := ⟨⟨gc_X7_hasRepeat, gi_RX7, by decide +kernel⟩, gn_X7_hasRepeat, gl_X7_hasRepeat⟩
theorem cal_X7_isOpen : si_CV yX7_isOpen cX7_isOpen 2 (some .boolean) 1 RX7 := ⟨⟨gc_X7_isOpen, gi_RX7, by decide +kernel⟩, gn_X7_isOpen, gl_X7_isOpen⟩
theorem cal_X7_isWithinTolerance : si_CV yX7_isWithinTolerance cX7_isWithinTolerance 6 (some .boolean) 4 RX7 := ⟨⟨gc_X7_isWithinTolerance, gi_RX7, by decide +kernel⟩, gn_X7_isWithinTolerance, gl_X7_isWithinTolerance⟩
theorem cal_X7_reachesHalf : si_CV yX7_reachesHalf cX7_reachesHalf 4 (some .boolean) 2 RX7 := ⟨⟨gc_X7_reachesHalf, gi_RX7, by decide +kernel⟩, gn_X7_reachesHalf, gl_X7_reachesHalf⟩
theorem cal_X7_repeatsAgree : si_CV yX7_repeatsAgree cX7_repeatsAgree 8 (some .boolean) 2 RX7 := ⟨⟨gc_X7_repeatsAgree, gi_RX7, by decide +kernel⟩, gn_X7_repeatsAgree, gl_X7_repeatsAgree⟩
theorem cal_X7_toleranceOf : si_CV yX7_toleranceOf cX7_toleranceOf 5 (some .int) 3 RX7 := ⟨⟨gc_X7_toleranceOf, gi_RX7, by decide +kernel⟩, gn_X7_toleranceOf, gl_X7_toleranceOf⟩
theorem sk_2_2 {k : Nat} (h : si_kd k = 2) : si_kd (k + 2) = 12 := by
  have key : ∀ k, k < 114 → si_kd k = 2 → si_kd (k + 2) = 12 := by decide +kernel
  exact key k (si_kd_lt h (by decide)) h
theorem sk_2_3 {k : Nat} (h : si_kd k = 2) : si_kd (k + 3) = 12 := by
  have key : ∀ k, k < 114 → si_kd k = 2 → si_kd (k + 3) = 12 := by decide +kernel
  exact key k (si_kd_lt h (by decide)) h
theorem sk_2_4 {k : Nat} (h : si_kd k = 2) : si_kd (k + 4) = 12 := by
  have key : ∀ k, k < 114 → si_kd k = 2 → si_kd (k + 4) = 12 := by decide +kernel
  exact key k (si_kd_lt h (by decide)) h
theorem sk_2_8 {k : Nat} (h : si_kd k = 2) : si_kd (k + 8) = 12 := by
  have key : ∀ k, k < 114 → si_kd k = 2 → si_kd (k + 8) = 12 := by decide +kernel
  exact key k (si_kd_lt h (by decide)) h
