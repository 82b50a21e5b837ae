-- the tolerance; baseTolerance
def tv_a (c : Nat) : Nat := if c = 0 then 5000 else if c = 1 then 500 else 50
def tv_t (c d l : Nat) : Nat := if tv_a c * d < l then (if 4 * tv_a c * d < l then (3 * d + 1) / 2 else d) else (d + 1) / 2
theorem tv_a_le (c : Nat) : tv_a c ≤ 5000 := by
  unfold tv_a
  split
  · exact Nat.le_refl _
  · split <;> decide
theorem tv_mul {c d : Nat} (hd : d ≤ 1000) : tv_a c * d ≤ 5000000 := Nat.mul_le_mul (tv_a_le c) hd
theorem tv_le {c d l : Nat} (hd : d ≤ 1000) (h1 : 1 ≤ d) : tv_t c d l ≤ 1500 := by
  unfold tv_t
  split
  · split <;> omega
  · omega
theorem tv_h1 {d : Nat} (h : d ≤ 1000) : (nI d + 1) / 2 = nI ((d + 1) / 2) := by
  rw [nI_1]
  exact pk_div (a := d + 1) (d := 2) (by omega) (by decide) (by decide)
theorem tv_h3 {d : Nat} (h : d ≤ 1000) : ((3 * nI d) + 1) / 2 = nI ((3 * d + 1) / 2) := by
  rw [li_mulL, nI_1]
  exact pk_div (a := 3 * d + 1) (d := 2) (by omega) (by decide) (by decide)
theorem tv_fine {F c : Nat} {S : si_St} (hc : c < 3) : f_X2_fineDivisions F (nI c) S = some (nI (tv_a c), S) := by
  have h : c = 0 ∨ c = 1 ∨ c = 2 := by omega
  rcases h with rfl | rfl | rfl <;> rfl
theorem tv_x {F mk s l : Nat} {S : si_St} {u : Nat → Nat → Nat} (hm : mk = 69 ∨ mk = 78) (g0 : iv_mok u) (g1 : iv_mk (S.1 mk) (fun j => S.2.1 (mk + j)) u) (hs : s < u 1 0) (hl : l < 1048576) : f_X2_toleranceAt F mk (nI s) (nI l) S = some (nI (tv_t (u 5 s) (u 6 s) l), S) := by
  obtain ⟨q4, q5, q6, q7, q8, q9⟩ := g0.2.2.2.2.1 s hs
  have h24 := g0.2.1
  obtain ⟨a1, a2, a3, a4⟩ := g1.2.1 s hs
  have a2' : S.2.1 (mk + 2) s = nI (u 5 s) := a2
  have a3' : S.2.1 (mk + 3) s = nI (u 6 s) := a3
  have hM := tv_mul (c := u 5 s) q7
  unfold f_X2_toleranceAt
  rw [rd_m3 hm (by omega), Option.bind_some, rd_m2 hm (by omega), Option.bind_some, a2', a3', tv_fine q5, Option.bind_some]
  dsimp only
  rw [rd_m2 hm (by omega), Option.bind_some, a2', tv_fine q5, Option.bind_some, sm_mul, li_mulL, sm_mul, tv_h1 q7, tv_h3 q7]
  unfold tv_t
  by_cases h1 : tv_a (u 5 s) * u 6 s < l
  · rw [if_pos (nI_lt h1 (by omega)), if_pos h1]
    by_cases h2 : 4 * tv_a (u 5 s) * u 6 s < l
    · rw [if_pos (nI_lt h2 (by omega)), if_pos h2]
    · rw [if_neg (nI_nlt (by omega) (by rw [Nat.mul_assoc]; omega)), if_neg h2]
  · rw [if_neg (nI_nlt (by omega) (by omega)), if_neg h1]
theorem tv_m {F s l : Nat} {S : si_St} {u : Nat → Nat → Nat} (g0 : iv_mok u) (g2 : iv_mm (S.1 87) S.2.1 u) (hs : s < u 1 0) (hl : l < 1048576) : f_X10_base F (nI s) (nI l) S = some (nI (tv_t (u 5 s) (u 6 s) l), S) := by
  obtain ⟨q4, q5, q6, q7, q8, q9⟩ := g0.2.2.2.2.1 s hs
  have h24 := g0.2.1
  obtain ⟨a1, a2, a3, a4⟩ := g2.2.2.2.2.1 s hs
  have hM := tv_mul (c := u 5 s) q7
  have h40 : ∀ t : Nat, t = tv_a (u 5 s) → f_X10_base_h40 F (nI l) (nI (u 6 s)) (nI t) S = some (nI (tv_t (u 5 s) (u 6 s) l), S) := by
    intro t ht
    subst ht
    unfold f_X10_base_h40 f_X10_base_h79
    rw [sm_mul, li_mulL, sm_mul, tv_h1 q7, tv_h3 q7]
    unfold tv_t
    by_cases h1 : tv_a (u 5 s) * u 6 s < l
    · rw [if_pos (nI_lt h1 (by omega)), if_pos h1]
      by_cases h2 : 4 * tv_a (u 5 s) * u 6 s < l
      · rw [if_pos (nI_lt h2 (by omega)), if_pos h2]
      · rw [if_neg (nI_nlt (by omega) (by rw [Nat.mul_assoc]; omega)), if_neg h2]
    · rw [if_neg (nI_nlt (by omega) (by omega)), if_neg h1]
  unfold f_X10_base
  rw [rd_91 (by omega), Option.bind_some, a3, rd_90 (by omega), Option.bind_some, a2]
  have h : u 5 s = 0 ∨ u 5 s = 1 ∨ u 5 s = 2 := by omega
  rcases h with h | h | h <;> rw [h] <;> rw [h] at h40
  · exact h40 5000 rfl
  · exact h40 500 rfl
  · exact h40 50 rfl
theorem st_baseTolerance {F : Nat} {x y : Int32} : st_ok3 (f_L_baseTolerance F x y) (f_X10_baseTolerance F x y) := by
  intro S h
  obtain ⟨u, mk, hmk, g0, g1, g2, -⟩ := id h
  have hm := iv_mkof hmk
  have hN : u 1 0 < 2 ^ 31 := by have := g0.2.1; omega
  have hs1 : S.1 mk 1 = nI (u 1 0) := g1.1 1 (by decide)
  have z1 : ¬ ((1 : Int32) = 0) := by decide
  have z2 : ¬ ((2 : Int32) = 0) := by decide
  have z3 : ¬ ((2 : Int32) = 1) := by decide
  rcases sm_cases x (u 1 0) hN with ⟨s, hs, rfl⟩ | hno
  · have h24 := g0.2.1
    obtain ⟨q4, q5, q6, q7, q8, q9⟩ := g0.2.2.2.2.1 s hs
    have a4 : S.2.1 (mk + 4) s = nI (u 7 s) := (g1.2.1 s hs).2.2.2
    have b4 := (g2.2.2.2.2.1 s hs).2.2.2
    rcases sm_cases y (u 7 s + 1) (by omega) with ⟨l, hl, rfl⟩ | hno
    · have hx : f_L_baseTolerance F (nI s) (nI l) S = some (0, si_pl S 113 0 (nI (tv_t (u 5 s) (u 6 s) l)).toInt64) := by
        unfold f_L_baseTolerance f_X9_baseTolerance
        rw [f9_hasScale hm.1 hs1 hN, if_pos (sm_in hs hN)]
        simp only [Option.bind_some, if_neg sm_10, if_neg (nI_pos (n := l) (by omega)), hm.1, rd_m4 hm.2 (show s < 24 by omega), a4, if_pos (nI_le (show l ≤ u 7 s by omega) (by omega)), tv_x hm.2 g0 g1 hs (show l < 1048576 by omega), if_pos]
        show Option.bind (si_wl S 113 (nI 0) _) _ = _
        rw [wl_113 (by decide)]
        rfl
      refine ⟨0, nI (tv_t (u 5 s) (u 6 s) l), _, si_ps (si_pl S 113 0 (nI (tv_t (u 5 s) (u 6 s) l)).toInt64) 87 0 0, hx, ?_, rfl, fun _ => rfl, iv_t3 (iv_o3 h)⟩
      have hb := tv_m (F := F) (S := si_ps (si_pl S 113 0 (nI (tv_t (u 5 s) (u 6 s) l)).toInt64) 87 0 0) g0 (u := u) g2 hs (l := l) (by omega)
      generalize hS1 : si_pl S 113 0 (nI (tv_t (u 5 s) (u 6 s) l)).toInt64 = S1 at hb ⊢
      have e2 : S1.1 87 3 = nI (u 1 0) := by rw [← hS1]; exact g2.2.1
      have e3 : S1.2.1 92 s = nI (u 7 s) := by rw [← hS1]; exact b4
      unfold f_X10_baseTolerance f_X10_baseTolerance_h34 f_X10_baseTolerance_h54
      have e5 : nI (u 7 s) = nI (u 7 s + 1) - 1 := (nI_pred (u 7 s)).symm
      rw [f10_isScale e2 hN, if_pos (sm_in hs hN)]
      simp only [Option.bind_some, if_neg sm_10, rd_92 (show s < 24 by omega), e3]
      rw [sm_hasL (u 7 s + 1) (by omega) (by rw [← e5]), if_pos (sm_in hl (by omega))]
      simp only [Option.bind_some, if_neg sm_10, iv_ptc, ps_e, if_pos (Int32.le_refl 0), hb]
    · have hx : f_L_baseTolerance F (nI s) y S = some (2, S) := by
        unfold f_L_baseTolerance f_X9_baseTolerance f_X9_baseTolerance_h35
        rw [f9_hasScale hm.1 hs1 hN, if_pos (sm_in hs hN)]
        simp only [Option.bind_some, if_neg sm_10, hm.1, rd_m4 hm.2 (show s < 24 by omega), a4]
        by_cases h1 : y < 0
        · rw [if_pos h1]
          rfl
        · rw [if_neg h1]
          have h2 : ¬ y ≤ nI (u 7 s) := by
            intro h2
            refine hno ⟨sm_nneg h1, ?_⟩
            rw [fa_lt, nI_toInt (by omega)]
            rw [fa_le, nI_toInt (by omega)] at h2
            omega
          rw [if_neg h2]
          rfl
      refine ⟨2, 0, S, si_ps S 87 0 2, hx, ?_, rfl, fun h => absurd h (by decide), iv_t3 h⟩
      unfold f_X10_baseTolerance f_X10_baseTolerance_h34 f_X10_baseTolerance_h54
      have e5 : nI (u 7 s) = nI (u 7 s + 1) - 1 := (nI_pred (u 7 s)).symm
      rw [f10_isScale g2.2.1 hN, if_pos (sm_in hs hN)]
      simp only [Option.bind_some, if_neg sm_10, rd_92 (show s < 24 by omega), b4]
      rw [sm_hasL (u 7 s + 1) (by omega) (by rw [← e5]), if_neg hno]
      rfl
  · refine ⟨1, 0, S, si_ps S 87 0 1, ?_, ?_, rfl, fun h => absurd h (by decide), iv_t3 h⟩
    · unfold f_L_baseTolerance f_X9_baseTolerance
      rw [f9_hasScale hm.1 hs1 hN, if_neg hno]
      rfl
    · unfold f_X10_baseTolerance f_X10_baseTolerance_h34 f_X10_baseTolerance_h54
      rw [f10_isScale g2.2.1 hN, if_neg hno]
      rfl
