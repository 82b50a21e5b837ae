-- the load of a test on the other side; testError
theorem sm_loadOf {F : Nat} {S : si_St} {m st i j : Nat} {f : Nat → Nat} (hs : S.1 87 8 = nI m) (hm : m ≤ 10) (ha : ∀ i, i < m → S.2.1 93 i = nI (f i)) (hF : 11 ≤ F) (hi : i < 30) (hj : j < 8) (hb : S.2.1 88 (181 + (8 * i + j)) = nI st) : f_X10_loadOf F (nI i) (nI j) S = some (nI (sm_sum f m st), S) := by
  unfold f_X10_loadOf
  show Option.bind (si_rd S 88 (nI 181 + nI 8 * nI i + nI j)) _ = _
  rw [sm_mul, nI_add, nI_add, Nat.add_assoc, sm_rd (show 181 + (8 * i + j) < 677 by omega) (by decide)]
  show Option.bind (f_X10_sumOf F (S.2.1 88 (181 + (8 * i + j))) S) _ = _
  rw [hb, sm_sumOf hs hm ha hF]
  rfl
theorem st_testError {F : Nat} {x y : Int32} (hF : 11 ≤ F) : st_ok3 (f_L_testError F x y) (f_X10_testError F x y) := by
  intro S h
  obtain ⟨u, mk, hmk, g0, g1, g2, g3, g4, g5, g6, ⟨⟨V, hV, hc, hn, hv⟩, hq⟩, -⟩ := id h
  have no : ∀ (S : si_St), iv_all S → f_X9_hasTest F x y S = some (0, S) → f_X10_isTest F x y S = some (0, S) → ∃ c r S1 S2, f_L_testError F x y S = some (c, S1) ∧ f_X10_testError F x y S1 = some (r, S2) ∧ S2.1 87 0 = c ∧ (c = 0 → S2.2.2.1 113 0 = r.toInt64) ∧ iv_all S2 := by
    intro S h e1 e2
    refine ⟨1, 0, S, si_ps S 87 0 1, ?_, ?_, rfl, fun h => absurd h (by decide), iv_t3 h⟩
    · unfold f_L_testError f_X9_testError
      rw [e1]
      rfl
    · unfold f_X10_testError f_X10_testError_h15 f_X10_testError_h35
      rw [e2, Option.bind_some, if_pos rfl, iv_ptc]
      rfl
  rcases sm_cases x V (by omega) with ⟨i, hi, rfl⟩ | hno
  · obtain ⟨⟨s, hs, a1, m1, n, hn8, a5, m5, ht⟩, -⟩ := hv i hi
    rcases sm_cases y n (by omega) with ⟨j, hj, rfl⟩ | hno
    · obtain ⟨st, hst, hcap, b1, b2, -, -, -, b3⟩ := ht j hj
      have e1 : f_X9_hasTest F (nI i) (nI j) S = some (1, S) := by
        rw [f9_hasTest hc hV hi hn8 a5, if_pos (sm_in hj (by omega))]
      have e2 : ∀ v, f_X10_isTest F (nI i) (nI j) (si_pl S 113 0 v) = some (1, si_pl S 113 0 v) := by
        intro v
        rw [f10_isTest (S := si_pl S 113 0 v) hn hV hi hn8 m5, if_pos (sm_in hj (by omega))]
      have b3' : S.2.1 15 (8 * i + j) = (S.2.1 88 (421 + (8 * i + j)) - nI (sm_sum (u 8) (u 2 0) st)) := b3
      refine ⟨0, (S.2.1 88 (421 + (8 * i + j)) - nI (sm_sum (u 8) (u 2 0) st)), si_pl S 113 0 (S.2.1 88 (421 + (8 * i + j)) - nI (sm_sum (u 8) (u 2 0) st)).toInt64, si_ps (si_pl S 113 0 (S.2.1 88 (421 + (8 * i + j)) - nI (sm_sum (u 8) (u 2 0) st)).toInt64) 87 0 0, ?_, ?_, rfl, fun _ => rfl, iv_t3 (iv_o3 h)⟩
      · unfold f_L_testError f_X9_testError
        rw [e1]
        show Option.bind (Option.bind (si_rd S 15 (nI i * nI 8 + nI j)) _) _ = _
        rw [sm_mul, nI_add, Nat.mul_comm i 8, sm_rd (show 8 * i + j < 240 by omega) (by decide), b3']
        rfl
      · unfold f_X10_testError f_X10_testError_h15 f_X10_testError_h35
        rw [e2]
        show Option.bind (f_X10_errorOf F (nI i) (nI j) (si_ps (si_pl S 113 0 (S.2.1 88 (421 + (8 * i + j)) - nI (sm_sum (u 8) (u 2 0) st)).toInt64) 87 0 0)) _ = _
        unfold f_X10_errorOf
        show Option.bind (Option.bind (si_rd (si_ps (si_pl S 113 0 (S.2.1 88 (421 + (8 * i + j)) - nI (sm_sum (u 8) (u 2 0) st)).toInt64) 87 0 0) 88 (nI 421 + nI 8 * nI i + nI j)) _) _ = _
        rw [sm_mul, nI_add, nI_add, Nat.add_assoc, sm_rd (show 421 + (8 * i + j) < 677 by omega) (by decide)]
        show Option.bind (Option.bind (f_X10_loadOf F (nI i) (nI j) (si_ps (si_pl S 113 0 (S.2.1 88 (421 + (8 * i + j)) - nI (sm_sum (u 8) (u 2 0) st)).toInt64) 87 0 0)) _) _ = _
        rw [sm_loadOf (S := si_ps (si_pl S 113 0 (S.2.1 88 (421 + (8 * i + j)) - nI (sm_sum (u 8) (u 2 0) st)).toInt64) 87 0 0) (m := u 2 0) (f := u 8) g2.2.2.1 g0.2.2.1 (fun i hi => g2.2.2.2.2.2.1 i hi) hF (show i < 30 by omega) (show j < 8 by omega) b2]
        rfl
    · refine no S h ?_ ?_
      · rw [f9_hasTest hc hV hi hn8 a5, if_neg hno]
      · rw [f10_isTest hn hV hi hn8 m5, if_neg hno]
  · exact no S h (f9_hasTestN hc hV hno) (f10_isTestN hn hV hno)
