theorem si_lt1 {w : Cond} (i : Nat) (h : tables_1_1[i]? = some w) : w ∈ lw_tbl := by
  have h1 : w ∈ tables_1_1 := List.mem_of_getElem? h
  have h2 : w ∈ tables_1 := by
    unfold tables_1
    exact List.mem_append_left _ h1
  exact List.mem_append_right _ h2
theorem si_lt2 {w : Cond} (i : Nat) (h : tables_1_2[i]? = some w) : w ∈ lw_tbl := by
  have h1 : w ∈ tables_1_2 := List.mem_of_getElem? h
  have h2 : w ∈ tables_1 := by
    unfold tables_1
    exact List.mem_append_right _ (List.mem_append_left _ h1)
  exact List.mem_append_right _ h2
theorem si_lt3 {w : Cond} (i : Nat) (h : tables_1_3[i]? = some w) : w ∈ lw_tbl := by
  have h1 : w ∈ tables_1_3 := List.mem_of_getElem? h
  have h2 : w ∈ tables_1 := by
    unfold tables_1
    exact List.mem_append_right _ (List.mem_append_right _ (List.mem_append_left _ h1))
  exact List.mem_append_right _ h2
theorem si_lt4 {w : Cond} (i : Nat) (h : tables_1_4[i]? = some w) : w ∈ lw_tbl := by
  have h1 : w ∈ tables_1_4 := List.mem_of_getElem? h
  have h2 : w ∈ tables_1 := by
    unfold tables_1
    exact List.mem_append_right _ (List.mem_append_right _ (List.mem_append_right _ (List.mem_append_left _ h1)))
  exact List.mem_append_right _ h2
theorem si_lt5 {w : Cond} (i : Nat) (h : tables_1_5[i]? = some w) : w ∈ lw_tbl := by
  have h1 : w ∈ tables_1_5 := List.mem_of_getElem? h
  have h2 : w ∈ tables_1 := by
    unfold tables_1
    exact List.mem_append_right _ (List.mem_append_right _ (List.mem_append_right _ (List.mem_append_right _ (h1))))
  exact List.mem_append_right _ h2
abbrev si_T0 : Cond := Jvm.Cond.and given_1 narrow_1
def si_tm (i : Nat) : Term := match i with
  | 0 => .string "ScaleInspection$MarketReader" 46
  | 1 => .string "ScaleInspection$MarketReader" 59
  | 2 => .string "ScaleInspection$MarketReader" 64
  | 3 => .string "ScaleInspection$MarketReader" 69
  | 4 => .string "ScaleInspection$MarketReader" 74
  | 5 => .string "ScaleInspection$MarketReader" 110
  | 6 => .string "ScaleInspection$MarketReader" 112
  | 7 => .string "ScaleInspection$MarketReader" 125
  | 8 => .string "ScaleInspectionLaw" 38
  | 9 => .string "ScaleInspectionLaw" 49
  | 10 => .string "ScaleInspectionLaw" 60
  | 11 => .string "ScaleInspectionLaw" 62
  | 12 => .string "ScaleInspectionLaw" 64
  | 13 => .string "ScaleInspectionLaw" 69
  | 14 => .string "ScaleInspectionLaw" 71
  | 15 => .string "ScaleInspectionLaw" 73
  | _ => .string "ScaleInspectionLaw" 78
set_option maxRecDepth 100000 in
theorem ss_1 : ∀ i, i < 17 → Cond.exactly (si_tm i) "java/lang/String" ∈ flatC si_T0 := by decide +kernel
set_option maxRecDepth 100000 in
theorem ss_2 : ∀ i, i < 17 → Cond.eq (.field (si_tm i) "java/lang/String" "coder" "B") (.int 0) ∈ flatC si_T0 := by decide +kernel
set_option maxRecDepth 100000 in
theorem ss_3 : ∀ i, i < 17 → Cond.arrayOf (.field (si_tm i) "java/lang/String" "value" "[B") .byte ∈ flatC si_T0 := by decide +kernel
set_option maxRecDepth 100000 in
theorem ss_4 : ∀ i, i < 17 → Cond.eq (.length (.field (si_tm i) "java/lang/String" "value" "[B")) (.int (Int32.ofNat (si_slen.getD i 0))) ∈ flatC si_T0 := by decide +kernel
set_option maxRecDepth 100000 in
theorem ss_5_0 : ∀ i, i < 3 → 0 ≤ i → ∀ j, j < si_slen.getD i 0 → Cond.eq (.elem (.field (si_tm i) "java/lang/String" "value" "[B") (.int (Int32.ofNat j))) (.int ((si_sbyt.getD i []).getD j 0)) ∈ flatC si_T0 := by decide +kernel
set_option maxRecDepth 100000 in
theorem ss_5_1 : ∀ i, i < 6 → 3 ≤ i → ∀ j, j < si_slen.getD i 0 → Cond.eq (.elem (.field (si_tm i) "java/lang/String" "value" "[B") (.int (Int32.ofNat j))) (.int ((si_sbyt.getD i []).getD j 0)) ∈ flatC si_T0 := by decide +kernel
set_option maxRecDepth 100000 in
theorem ss_5_2 : ∀ i, i < 9 → 6 ≤ i → ∀ j, j < si_slen.getD i 0 → Cond.eq (.elem (.field (si_tm i) "java/lang/String" "value" "[B") (.int (Int32.ofNat j))) (.int ((si_sbyt.getD i []).getD j 0)) ∈ flatC si_T0 := by decide +kernel
set_option maxRecDepth 100000 in
theorem ss_5_3 : ∀ i, i < 12 → 9 ≤ i → ∀ j, j < si_slen.getD i 0 → Cond.eq (.elem (.field (si_tm i) "java/lang/String" "value" "[B") (.int (Int32.ofNat j))) (.int ((si_sbyt.getD i []).getD j 0)) ∈ flatC si_T0 := by decide +kernel
set_option maxRecDepth 100000 in
theorem ss_5_4 : ∀ i, i < 15 → 12 ≤ i → ∀ j, j < si_slen.getD i 0 → Cond.eq (.elem (.field (si_tm i) "java/lang/String" "value" "[B") (.int (Int32.ofNat j))) (.int ((si_sbyt.getD i []).getD j 0)) ∈ flatC si_T0 := by decide +kernel
set_option maxRecDepth 100000 in
theorem ss_5_5 : ∀ i, i < 17 → 15 ≤ i → ∀ j, j < si_slen.getD i 0 → Cond.eq (.elem (.field (si_tm i) "java/lang/String" "value" "[B") (.int (Int32.ofNat j))) (.int ((si_sbyt.getD i []).getD j 0)) ∈ flatC si_T0 := by decide +kernel
theorem ss_5 (i : Nat) (hi : i < 17) (j : Nat) (hj : j < si_slen.getD i 0) : Cond.eq (.elem (.field (si_tm i) "java/lang/String" "value" "[B") (.int (Int32.ofNat j))) (.int ((si_sbyt.getD i []).getD j 0)) ∈ flatC si_T0 := by
  rcases (by omega : (0 ≤ i ∧ i < 3) ∨ (3 ≤ i ∧ i < 6) ∨ (6 ≤ i ∧ i < 9) ∨ (9 ≤ i ∧ i < 12) ∨ (12 ≤ i ∧ i < 15) ∨ (15 ≤ i ∧ i < 17)) with h | h | h | h | h | h
  · exact ss_5_0 i h.2 h.1 j hj
  · exact ss_5_1 i h.2 h.1 j hj
  · exact ss_5_2 i h.2 h.1 j hj
  · exact ss_5_3 i h.2 h.1 j hj
  · exact ss_5_4 i h.2 h.1 j hj
  · exact ss_5_5 i h.2 h.1 j hj
set_option maxRecDepth 100000 in
theorem ss6_0 : ∀ q ∈ [(0, 1), (0, 2), (1, 2), (0, 3), (1, 3), (2, 3), (0, 4), (1, 4), (2, 4), (3, 4)], Cond.not (Cond.eq (si_tm q.1) (si_tm q.2)) ∈ flatC si_T0 := by decide +kernel
set_option maxRecDepth 100000 in
theorem ss6_1 : ∀ q ∈ [(0, 5), (1, 5), (2, 5), (5, 3), (5, 4), (0, 6), (1, 6), (2, 6), (6, 3), (6, 4)], Cond.not (Cond.eq (si_tm q.1) (si_tm q.2)) ∈ flatC si_T0 := by decide +kernel
set_option maxRecDepth 100000 in
theorem ss6_2 : ∀ q ∈ [(5, 6), (0, 7), (1, 7), (2, 7), (3, 7), (7, 4), (5, 7), (6, 7), (8, 0), (8, 1)], Cond.not (Cond.eq (si_tm q.1) (si_tm q.2)) ∈ flatC si_T0 := by decide +kernel
set_option maxRecDepth 100000 in
theorem ss6_3 : ∀ q ∈ [(8, 2), (8, 3), (8, 4), (8, 5), (8, 6), (8, 7), (9, 0), (9, 1), (9, 2), (9, 3)], Cond.not (Cond.eq (si_tm q.1) (si_tm q.2)) ∈ flatC si_T0 := by decide +kernel
set_option maxRecDepth 100000 in
theorem ss6_4 : ∀ q ∈ [(9, 4), (9, 5), (9, 6), (9, 7), (8, 9), (10, 0), (10, 1), (10, 2), (10, 3), (10, 4)], Cond.not (Cond.eq (si_tm q.1) (si_tm q.2)) ∈ flatC si_T0 := by decide +kernel
set_option maxRecDepth 100000 in
theorem ss6_5 : ∀ q ∈ [(10, 5), (10, 6), (10, 7), (8, 10), (9, 10), (11, 0), (11, 1), (11, 2), (11, 3), (11, 4)], Cond.not (Cond.eq (si_tm q.1) (si_tm q.2)) ∈ flatC si_T0 := by decide +kernel
set_option maxRecDepth 100000 in
theorem ss6_6 : ∀ q ∈ [(11, 5), (11, 6), (11, 7), (8, 11), (9, 11), (10, 11), (12, 0), (12, 1), (12, 2), (12, 3)], Cond.not (Cond.eq (si_tm q.1) (si_tm q.2)) ∈ flatC si_T0 := by decide +kernel
set_option maxRecDepth 100000 in
theorem ss6_7 : ∀ q ∈ [(12, 4), (12, 5), (12, 6), (12, 7), (8, 12), (9, 12), (10, 12), (11, 12), (13, 0), (13, 1)], Cond.not (Cond.eq (si_tm q.1) (si_tm q.2)) ∈ flatC si_T0 := by decide +kernel
set_option maxRecDepth 100000 in
theorem ss6_8 : ∀ q ∈ [(13, 2), (13, 3), (13, 4), (13, 5), (13, 6), (13, 7), (8, 13), (9, 13), (10, 13), (11, 13)], Cond.not (Cond.eq (si_tm q.1) (si_tm q.2)) ∈ flatC si_T0 := by decide +kernel
set_option maxRecDepth 100000 in
theorem ss6_9 : ∀ q ∈ [(12, 13), (14, 0), (14, 1), (14, 2), (14, 3), (14, 4), (14, 5), (14, 6), (14, 7), (8, 14)], Cond.not (Cond.eq (si_tm q.1) (si_tm q.2)) ∈ flatC si_T0 := by decide +kernel
set_option maxRecDepth 100000 in
theorem ss6_10 : ∀ q ∈ [(9, 14), (10, 14), (11, 14), (12, 14), (13, 14), (15, 0), (15, 1), (15, 2), (15, 3), (15, 4)], Cond.not (Cond.eq (si_tm q.1) (si_tm q.2)) ∈ flatC si_T0 := by decide +kernel
set_option maxRecDepth 100000 in
theorem ss6_11 : ∀ q ∈ [(15, 5), (15, 6), (15, 7), (8, 15), (9, 15), (10, 15), (11, 15), (12, 15), (13, 15), (14, 15)], Cond.not (Cond.eq (si_tm q.1) (si_tm q.2)) ∈ flatC si_T0 := by decide +kernel
set_option maxRecDepth 100000 in
theorem ss6_12 : ∀ q ∈ [(16, 0), (16, 1), (16, 2), (16, 3), (16, 4), (16, 5), (16, 6), (16, 7), (8, 16), (9, 16)], Cond.not (Cond.eq (si_tm q.1) (si_tm q.2)) ∈ flatC si_T0 := by decide +kernel
set_option maxRecDepth 100000 in
theorem ss6_13 : ∀ q ∈ [(10, 16), (11, 16), (12, 16), (13, 16), (14, 16), (15, 16)], Cond.not (Cond.eq (si_tm q.1) (si_tm q.2)) ∈ flatC si_T0 := by decide +kernel
def si_neP : List (Nat × Nat) := [(0, 1), (0, 2), (1, 2), (0, 3), (1, 3), (2, 3), (0, 4), (1, 4), (2, 4), (3, 4)] ++ ([(0, 5), (1, 5), (2, 5), (5, 3), (5, 4), (0, 6), (1, 6), (2, 6), (6, 3), (6, 4)] ++ ([(5, 6), (0, 7), (1, 7), (2, 7), (3, 7), (7, 4), (5, 7), (6, 7), (8, 0), (8, 1)] ++ ([(8, 2), (8, 3), (8, 4), (8, 5), (8, 6), (8, 7), (9, 0), (9, 1), (9, 2), (9, 3)] ++ ([(9, 4), (9, 5), (9, 6), (9, 7), (8, 9), (10, 0), (10, 1), (10, 2), (10, 3), (10, 4)] ++ ([(10, 5), (10, 6), (10, 7), (8, 10), (9, 10), (11, 0), (11, 1), (11, 2), (11, 3), (11, 4)] ++ ([(11, 5), (11, 6), (11, 7), (8, 11), (9, 11), (10, 11), (12, 0), (12, 1), (12, 2), (12, 3)] ++ ([(12, 4), (12, 5), (12, 6), (12, 7), (8, 12), (9, 12), (10, 12), (11, 12), (13, 0), (13, 1)] ++ ([(13, 2), (13, 3), (13, 4), (13, 5), (13, 6), (13, 7), (8, 13), (9, 13), (10, 13), (11, 13)] ++ ([(12, 13), (14, 0), (14, 1), (14, 2), (14, 3), (14, 4), (14, 5), (14, 6), (14, 7), (8, 14)] ++ ([(9, 14), (10, 14), (11, 14), (12, 14), (13, 14), (15, 0), (15, 1), (15, 2), (15, 3), (15, 4)] ++ ([(15, 5), (15, 6), (15, 7), (8, 15), (9, 15), (10, 15), (11, 15), (12, 15), (13, 15), (14, 15)] ++ ([(16, 0), (16, 1), (16, 2), (16, 3), (16, 4), (16, 5), (16, 6), (16, 7), (8, 16), (9, 16)] ++ ([(10, 16), (11, 16), (12, 16), (13, 16), (14, 16), (15, 16)])))))))))))))
theorem si_neC : ∀ i, i < 17 → ∀ j, j < 17 → (i == j || (si_neP.contains (i, j) || si_neP.contains (j, i))) = true := by decide +kernel
theorem si_neA (i : Nat) (hi : i < 17) (j : Nat) (hj : j < 17) (h : i ≠ j) : (i, j) ∈ si_neP ∨ (j, i) ∈ si_neP := by
  have h1 := si_neC i hi j hj
  rw [Bool.or_eq_true, Bool.or_eq_true] at h1
  rcases h1 with h1 | h1 | h1
  · exact absurd (eq_of_beq h1) h
  · exact Or.inl (List.contains_iff_mem.mp h1)
  · exact Or.inr (List.contains_iff_mem.mp h1)
theorem si_neB (q : Nat × Nat) (h : q ∈ si_neP) : Cond.not (Cond.eq (si_tm q.1) (si_tm q.2)) ∈ flatC si_T0 :=
  (List.mem_append.mp h).elim (fun h => ss6_0 q h) (fun h => (List.mem_append.mp h).elim (fun h => ss6_1 q h) (fun h => (List.mem_append.mp h).elim (fun h => ss6_2 q h) (fun h => (List.mem_append.mp h).elim (fun h => ss6_3 q h) (fun h => (List.mem_append.mp h).elim (fun h => ss6_4 q h) (fun h => (List.mem_append.mp h).elim (fun h => ss6_5 q h) (fun h => (List.mem_append.mp h).elim (fun h => ss6_6 q h) (fun h => (List.mem_append.mp h).elim (fun h => ss6_7 q h) (fun h => (List.mem_append.mp h).elim (fun h => ss6_8 q h) (fun h => (List.mem_append.mp h).elim (fun h => ss6_9 q h) (fun h => (List.mem_append.mp h).elim (fun h => ss6_10 q h) (fun h => (List.mem_append.mp h).elim (fun h => ss6_11 q h) (fun h => (List.mem_append.mp h).elim (fun h => ss6_12 q h) (fun h => ss6_13 q h)))))))))))))
theorem ss_6 (i : Nat) (hi : i < 17) (j : Nat) (hj : j < 17) (h : i ≠ j) : (Cond.not (Cond.eq (si_tm i) (si_tm j)) ∈ flatC si_T0 ∨ Cond.not (Cond.eq (si_tm j) (si_tm i)) ∈ flatC si_T0) := (si_neA i hi j hj h).imp (si_neB (i, j)) (si_neB (j, i))
set_option maxRecDepth 100000 in
theorem st_1 : Cond.eq (.static "java/lang/String" "COMPACT_STRINGS" "Z") (.int 1) ∈ flatC si_T0 := by decide +kernel
set_option maxRecDepth 100000 in
theorem st_2 : Cond.isRef (.static "jdk/internal/util/Preconditions" "SIOOBE_FORMATTER" "Ljava/util/function/BiFunction;") ∈ flatC si_T0 := by decide +kernel
set_option maxRecDepth 100000 in
theorem dg1_a : Cond.arrayOf (.static "java/lang/Integer" "DigitOnes" "[B") .byte ∈ flatC si_T0 := by decide +kernel
set_option maxRecDepth 100000 in
theorem dg1_l : Cond.eq (.length (.static "java/lang/Integer" "DigitOnes" "[B")) (.int 100) ∈ flatC si_T0 := by decide +kernel
set_option maxRecDepth 100000 in
theorem dg1_0 : ∀ j, j < 10 → Cond.eq (.elem (.static "java/lang/Integer" "DigitOnes" "[B") (.int (Int32.ofNat (0 + j)))) (.int (sd_ones.getD (0 + j) 0)) ∈ flatC si_T0 := by decide +kernel
set_option maxRecDepth 100000 in
theorem dg1_1 : ∀ j, j < 10 → Cond.eq (.elem (.static "java/lang/Integer" "DigitOnes" "[B") (.int (Int32.ofNat (10 + j)))) (.int (sd_ones.getD (10 + j) 0)) ∈ flatC si_T0 := by decide +kernel
set_option maxRecDepth 100000 in
theorem dg1_2 : ∀ j, j < 10 → Cond.eq (.elem (.static "java/lang/Integer" "DigitOnes" "[B") (.int (Int32.ofNat (20 + j)))) (.int (sd_ones.getD (20 + j) 0)) ∈ flatC si_T0 := by decide +kernel
set_option maxRecDepth 100000 in
theorem dg1_3 : ∀ j, j < 10 → Cond.eq (.elem (.static "java/lang/Integer" "DigitOnes" "[B") (.int (Int32.ofNat (30 + j)))) (.int (sd_ones.getD (30 + j) 0)) ∈ flatC si_T0 := by decide +kernel
set_option maxRecDepth 100000 in
theorem dg1_4 : ∀ j, j < 10 → Cond.eq (.elem (.static "java/lang/Integer" "DigitOnes" "[B") (.int (Int32.ofNat (40 + j)))) (.int (sd_ones.getD (40 + j) 0)) ∈ flatC si_T0 := by decide +kernel
set_option maxRecDepth 100000 in
theorem dg1_5 : ∀ j, j < 10 → Cond.eq (.elem (.static "java/lang/Integer" "DigitOnes" "[B") (.int (Int32.ofNat (50 + j)))) (.int (sd_ones.getD (50 + j) 0)) ∈ flatC si_T0 := by decide +kernel
set_option maxRecDepth 100000 in
theorem dg1_6 : ∀ j, j < 10 → Cond.eq (.elem (.static "java/lang/Integer" "DigitOnes" "[B") (.int (Int32.ofNat (60 + j)))) (.int (sd_ones.getD (60 + j) 0)) ∈ flatC si_T0 := by decide +kernel
set_option maxRecDepth 100000 in
theorem dg1_7 : ∀ j, j < 10 → Cond.eq (.elem (.static "java/lang/Integer" "DigitOnes" "[B") (.int (Int32.ofNat (70 + j)))) (.int (sd_ones.getD (70 + j) 0)) ∈ flatC si_T0 := by decide +kernel
set_option maxRecDepth 100000 in
theorem dg1_8 : ∀ j, j < 10 → Cond.eq (.elem (.static "java/lang/Integer" "DigitOnes" "[B") (.int (Int32.ofNat (80 + j)))) (.int (sd_ones.getD (80 + j) 0)) ∈ flatC si_T0 := by decide +kernel
set_option maxRecDepth 100000 in
theorem dg1_9 : ∀ j, j < 10 → Cond.eq (.elem (.static "java/lang/Integer" "DigitOnes" "[B") (.int (Int32.ofNat (90 + j)))) (.int (sd_ones.getD (90 + j) 0)) ∈ flatC si_T0 := by decide +kernel
theorem dg1_e (j : Nat) (hj : j < 100) : Cond.eq (.elem (.static "java/lang/Integer" "DigitOnes" "[B") (.int (Int32.ofNat j))) (.int (sd_ones.getD j 0)) ∈ flatC si_T0 := by
  have e : 10 * (j / 10) + j % 10 = j := Nat.div_add_mod j 10
  have h2 : j % 10 < 10 := Nat.mod_lt _ (by decide)
  rcases (by omega : j / 10 = 0 ∨ j / 10 = 1 ∨ j / 10 = 2 ∨ j / 10 = 3 ∨ j / 10 = 4 ∨ j / 10 = 5 ∨ j / 10 = 6 ∨ j / 10 = 7 ∨ j / 10 = 8 ∨ j / 10 = 9) with h | h | h | h | h | h | h | h | h | h <;> rw [h] at e <;> rw [← e]
  · exact dg1_0 _ h2
  · exact dg1_1 _ h2
  · exact dg1_2 _ h2
  · exact dg1_3 _ h2
  · exact dg1_4 _ h2
  · exact dg1_5 _ h2
  · exact dg1_6 _ h2
  · exact dg1_7 _ h2
  · exact dg1_8 _ h2
  · exact dg1_9 _ h2
set_option maxRecDepth 100000 in
theorem dg2_a : Cond.arrayOf (.static "java/lang/Integer" "DigitTens" "[B") .byte ∈ flatC si_T0 := by decide +kernel
set_option maxRecDepth 100000 in
theorem dg2_l : Cond.eq (.length (.static "java/lang/Integer" "DigitTens" "[B")) (.int 100) ∈ flatC si_T0 := by decide +kernel
set_option maxRecDepth 100000 in
theorem dg2_0 : ∀ j, j < 10 → Cond.eq (.elem (.static "java/lang/Integer" "DigitTens" "[B") (.int (Int32.ofNat (0 + j)))) (.int (sd_tens.getD (0 + j) 0)) ∈ flatC si_T0 := by decide +kernel
set_option maxRecDepth 100000 in
theorem dg2_1 : ∀ j, j < 10 → Cond.eq (.elem (.static "java/lang/Integer" "DigitTens" "[B") (.int (Int32.ofNat (10 + j)))) (.int (sd_tens.getD (10 + j) 0)) ∈ flatC si_T0 := by decide +kernel
set_option maxRecDepth 100000 in
theorem dg2_2 : ∀ j, j < 10 → Cond.eq (.elem (.static "java/lang/Integer" "DigitTens" "[B") (.int (Int32.ofNat (20 + j)))) (.int (sd_tens.getD (20 + j) 0)) ∈ flatC si_T0 := by decide +kernel
set_option maxRecDepth 100000 in
theorem dg2_3 : ∀ j, j < 10 → Cond.eq (.elem (.static "java/lang/Integer" "DigitTens" "[B") (.int (Int32.ofNat (30 + j)))) (.int (sd_tens.getD (30 + j) 0)) ∈ flatC si_T0 := by decide +kernel
set_option maxRecDepth 100000 in
theorem dg2_4 : ∀ j, j < 10 → Cond.eq (.elem (.static "java/lang/Integer" "DigitTens" "[B") (.int (Int32.ofNat (40 + j)))) (.int (sd_tens.getD (40 + j) 0)) ∈ flatC si_T0 := by decide +kernel
set_option maxRecDepth 100000 in
theorem dg2_5 : ∀ j, j < 10 → Cond.eq (.elem (.static "java/lang/Integer" "DigitTens" "[B") (.int (Int32.ofNat (50 + j)))) (.int (sd_tens.getD (50 + j) 0)) ∈ flatC si_T0 := by decide +kernel
set_option maxRecDepth 100000 in
theorem dg2_6 : ∀ j, j < 10 → Cond.eq (.elem (.static "java/lang/Integer" "DigitTens" "[B") (.int (Int32.ofNat (60 + j)))) (.int (sd_tens.getD (60 + j) 0)) ∈ flatC si_T0 := by decide +kernel
set_option maxRecDepth 100000 in
theorem dg2_7 : ∀ j, j < 10 → Cond.eq (.elem (.static "java/lang/Integer" "DigitTens" "[B") (.int (Int32.ofNat (70 + j)))) (.int (sd_tens.getD (70 + j) 0)) ∈ flatC si_T0 := by decide +kernel
set_option maxRecDepth 100000 in
theorem dg2_8 : ∀ j, j < 10 → Cond.eq (.elem (.static "java/lang/Integer" "DigitTens" "[B") (.int (Int32.ofNat (80 + j)))) (.int (sd_tens.getD (80 + j) 0)) ∈ flatC si_T0 := by decide +kernel
set_option maxRecDepth 100000 in
theorem dg2_9 : ∀ j, j < 10 → Cond.eq (.elem (.static "java/lang/Integer" "DigitTens" "[B") (.int (Int32.ofNat (90 + j)))) (.int (sd_tens.getD (90 + j) 0)) ∈ flatC si_T0 := by decide +kernel
theorem dg2_e (j : Nat) (hj : j < 100) : Cond.eq (.elem (.static "java/lang/Integer" "DigitTens" "[B") (.int (Int32.ofNat j))) (.int (sd_tens.getD j 0)) ∈ flatC si_T0 := by
  have e : 10 * (j / 10) + j % 10 = j := Nat.div_add_mod j 10
  have h2 : j % 10 < 10 := Nat.mod_lt _ (by decide)
  rcases (by omega : j / 10 = 0 ∨ j / 10 = 1 ∨ j / 10 = 2 ∨ j / 10 = 3 ∨ j / 10 = 4 ∨ j / 10 = 5 ∨ j / 10 = 6 ∨ j / 10 = 7 ∨ j / 10 = 8 ∨ j / 10 = 9) with h | h | h | h | h | h | h | h | h | h <;> rw [h] at e <;> rw [← e]
  · exact dg2_0 _ h2
  · exact dg2_1 _ h2
  · exact dg2_2 _ h2
  · exact dg2_3 _ h2
  · exact dg2_4 _ h2
  · exact dg2_5 _ h2
  · exact dg2_6 _ h2
  · exact dg2_7 _ h2
  · exact dg2_8 _ h2
  · exact dg2_9 _ h2
