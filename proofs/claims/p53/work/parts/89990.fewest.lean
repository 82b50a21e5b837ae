-- FEWESTWEIGHINGS, AS THE LAW ASKS IT
theorem few_ok {F n g : Nat} {S : si_St} (hF : 200 ≤ F) (h2 : 2 ≤ n) (h12 : n ≤ 12) (hg : g ≤ 1) (sv : iv_sv sv_spl sv_mix (S.2.1 66) (S.2.1 67) (S.2.1 68)) : ∃ T, f_X9_fewestWeighings F (nI n) (nI g) S = some (if sv_mix n n g = 99 then -2 else nI (sv_mix n n g), T) ∧ iv_sv sv_spl sv_mix (T.2.1 66) (T.2.1 67) (T.2.1 68) ∧ dn [65, 66, 67, 68] 0 0 S T := by
  have hp : 2 ^ n - 1 < 2 ^ n := Nat.sub_lt (Nat.two_pow_pos n) (by decide)
  obtain ⟨T, t1, t2, t3, t4, t5, t6, t7, t8⟩ := so_choose (F := F) (n := n) (h := 2 ^ n - 1) (l := 2 ^ n - 1) (g := g) (S := S) h12 hp hp hF sv
  obtain ⟨n1, n2⟩ := so_needed (F := F) h12 hg hp hp t2 t3 t4
  have d : dn [65, 66, 67, 68] 0 0 S T := dn.eq (by rw [t8]) (fun a ha => ⟨fun j => t6 a j (fun h => ha (by rw [h]; decide)), t7 a (fun h => ha (by rw [h]; decide)) (fun h => ha (by rw [h]; decide)) (fun h => ha (by rw [h]; decide)), by rw [t8]⟩)
  have hN : so_N n (2 ^ n - 1) (2 ^ n - 1) g = sv_mix n n g := by
    unfold so_N
    have h4 : 4 ≤ 2 ^ n := Nat.pow_le_pow_right (n := 2) (by decide) h2
    have hpc : ∀ n, n < 13 → sb_pc (2 ^ n - 1) = n := by decide +kernel
    rw [Nat.and_self, if_neg (by omega), hpc n (by omega)]
  rw [hN] at n1 n2
  refine ⟨T, ?_, t5, d⟩
  unfold f_X9_fewestWeighings f_X9_fewestWeighings_h35
  have hg01 : g = 0 ∨ g = 1 := by omega
  rw [if_neg (show ¬ nI n < (2 : Int32) from (nI_nlt h2 (by omega) : ¬ nI n < nI 2)), if_pos (show nI n ≤ (12 : Int32) from nI_le (b := 12) h12 (by decide)), tk_sets h12, Option.bind_some]
  have fin : (Option.bind (f_X5_choose F (nI n) (nI (2 ^ n - 1)) (nI (2 ^ n - 1)) (nI g) S) fun S1 => Option.bind (f_X5_needed F S1) fun q2 => Option.bind (f_X9_orNone F q2.1 q2.2) fun q3 => some (q3.1, q3.2)) = some (if sv_mix n n g = 99 then -2 else nI (sv_mix n n g), T) := by
    rw [t1, Option.bind_some, n1, Option.bind_some]
    dsimp only
    rw [so_orNone n2, Option.bind_some]
  rcases hg01 with h9 | h9 <;> subst h9
  · rw [if_pos (show nI 0 = 0 from rfl)]
    exact fin
  · rw [if_neg (show ¬ nI 1 = 0 by decide)]
    exact fin
theorem few_all {F L : Nat} {xs : Nat → Int32} {S : si_St} (hF : 200 ≤ F) (sv : iv_sv sv_spl sv_mix (S.2.1 66) (S.2.1 67) (S.2.1 68)) : ∃ T, f_L_law_h422 F L xs S = some (1, T) ∧ dn [65, 66, 67, 68] 0 0 S T := by
  unfold f_L_law_h422
  have m12 : sv_mix 12 12 0 = 3 ∧ sv_mix 12 12 1 = 3 ∧ sv_mix 2 2 0 = 99 ∧ sv_mix 3 3 1 = 2 := by
    rw [← rM_12_0 12 (by decide), ← rM_12_1 12 (by decide), ← rM_2_0 2 (by decide), ← rM_3_1 3 (by decide)]
    decide +kernel
  obtain ⟨T1, e1, s1, d1⟩ := few_ok (F := F) (n := 12) (g := 0) hF (by decide) (by decide) (by decide) sv
  rw [m12.1, if_neg (by decide)] at e1
  have e1 : f_X9_fewestWeighings F 12 0 S = some (3, T1) := e1
  rw [e1, Option.bind_some]
  dsimp only
  obtain ⟨T2, e2, s2, d2⟩ := few_ok (F := F) (n := 12) (g := 1) hF (by decide) (by decide) (by decide) s1
  rw [m12.2.1, if_neg (by decide)] at e2
  have e2 : f_X9_fewestWeighings F 12 1 T1 = some (3, T2) := e2
  rw [if_pos rfl, e2, Option.bind_some]
  dsimp only
  obtain ⟨T3, e3, s3, d3⟩ := few_ok (F := F) (n := 2) (g := 0) hF (by decide) (by decide) (by decide) s2
  rw [m12.2.2.1, if_pos rfl] at e3
  have e3 : f_X9_fewestWeighings F 2 0 T2 = some (-2, T3) := e3
  rw [if_pos rfl, e3, Option.bind_some]
  dsimp only
  obtain ⟨T4, e4, s4, d4⟩ := few_ok (F := F) (n := 3) (g := 1) hF (by decide) (by decide) (by decide) s3
  rw [m12.2.2.2, if_neg (by decide)] at e4
  have e4 : f_X9_fewestWeighings F 3 1 T3 = some (2, T4) := e4
  have e5 : f_X9_fewestWeighings F 1 1 T4 = some (-1, T4) := by
    unfold f_X9_fewestWeighings f_X9_fewestWeighings_h11
    rw [if_pos (by decide)]
  have e6 : f_X9_fewestWeighings F 13 1 T4 = some (-1, T4) := by
    unfold f_X9_fewestWeighings f_X9_fewestWeighings_h11
    rw [if_neg (by decide), if_neg (by decide)]
  rw [if_pos rfl, e4, Option.bind_some]
  dsimp only
  rw [if_pos rfl, e5, Option.bind_some]
  dsimp only
  rw [if_pos rfl, e6, Option.bind_some]
  unfold f_L_law_h491
  dsimp only
  rw [if_pos rfl, sm_bz1, Option.bind_some]
  exact ⟨T4, rfl, (d1.tr (d2.tr (d3.tr d4))).up (by omega) (by omega)⟩
