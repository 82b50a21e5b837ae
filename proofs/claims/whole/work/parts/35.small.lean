-- massValue, isClosed, testLoad, testError
theorem st_massValue {F : Nat} {x : Int32} : st_ok (f_X9_massValue F x) (f_X10_massValue F x) := by
  intro S h
  obtain ⟨u, mk, hmk, g0, g1, g2, -⟩ := id h
  have e := h.go (iv_th S)
  have hbd := g0.2.2.1
  have hN : u 2 0 < 2 ^ 31 := by omega
  have hm := (iv_mkof hmk).1
  have hs : S.1 mk 2 = nI (u 2 0) := g1.1 2 (by decide)
  obtain ⟨t1, t2, -⟩ := sm_tst (x := x) hN
  have hs2 : (si_ps S 87 0 0).1 87 8 = nI (u 2 0) := g2.2.2.1
  rcases sm_cases x (u 2 0) hN with ⟨i, hi, rfl⟩ | hno
  · refine ⟨nI (u 8 i), S, si_ps S 87 0 0, ?_, ?_, e⟩
    · unfold f_X9_massValue f_X9_massValue_h27 f_X9_massValue_h28
      have h9 : ¬ nI (u 2 0) ≤ nI i := nI_ge hi hN
      rw [if_neg (nI_pos (by omega)), hm, Option.bind_some, hs, if_neg h9, Option.bind_some, sm_rd (by rcases (iv_mkof hmk).2 with rfl | rfl <;> exact (show i < 10 by omega)) (by rcases (iv_mkof hmk).2 with rfl | rfl <;> decide), Option.bind_some]
      exact congrArg (fun z => some (z, S)) (g1.2.2.1 i hi)
    · unfold f_X10_massValue f_X10_massValue_h31
      rw [iv_pt0, Option.bind_some, hs2, sm_has hN, if_pos (sm_in hi hN)]
      show Option.bind (si_rd (si_ps S 87 0 0) 93 (nI i)) _ = _
      rw [sm_rd (show i < 10 by omega) (by decide)]
      exact congrArg (fun z => some (z, si_ps S 87 0 0)) (g2.2.2.2.2.2.1 i hi)
  · refine ⟨-1, S, si_ps S 87 0 0, ?_, ?_, e⟩
    · unfold f_X9_massValue f_X9_massValue_h27 f_X9_massValue_h28
      by_cases h1 : x < 0
      · rw [if_pos h1]
      · rw [if_neg h1, hm, Option.bind_some, hs]
        by_cases h2 : nI (u 2 0) ≤ x
        · rw [if_pos h2]
        · exact absurd ((sm_tst hN).2.2 h1 h2) hno
    · unfold f_X10_massValue f_X10_massValue_h31
      rw [iv_pt0, Option.bind_some, hs2, sm_has hN, if_neg hno]
      rfl
theorem st_isClosed {F : Nat} {x : Int32} : st_ok (f_X9_isClosed F x) (f_X10_isClosed F x) := by
  intro S h
  obtain ⟨u, mk, hmk, g0, g1, g2, g3, g4, g5, g6, ⟨⟨V, hV, hc, hn, hv⟩, hq⟩, -⟩ := id h
  have e := h.go (iv_th S)
  rcases sm_cases x V (by omega) with ⟨i, hi, rfl⟩ | hno
  · obtain ⟨-, -, -, hr⟩ := hv i hi
    have hop : f_X7_isOpen F (nI i) S = some (if S.2.1 11 i = -1 then 1 else 0, S) := by
      unfold f_X7_isOpen f_X7_isOpen_h15
      rw [sm_rd (show i < 30 by omega) (by decide), Option.bind_some]
      by_cases h1 : S.2.1 11 i = -1
      · rw [if_pos h1, if_pos h1]; rfl
      · rw [if_neg h1, if_neg h1]; rfl
    have hx : f_X9_isClosed F (nI i) S = some (if S.2.1 11 i = -1 then 0 else 1, S) := by
      unfold f_X9_isClosed f_X9_isClosed_h26
      rw [f9_hasVisit hc (by omega), if_pos (sm_in hi (by omega))]
      show Option.bind (f_X7_isOpen F (nI i) S) _ = _
      rw [hop]
      by_cases h1 : S.2.1 11 i = -1
      · rw [if_pos h1, if_pos h1]; rfl
      · rw [if_neg h1, if_neg h1]; rfl
    have hy : f_X10_isClosed F (nI i) S = some (S.2.1 88 (61 + i), si_ps S 87 0 0) := by
      unfold f_X10_isClosed f_X10_isClosed_h26
      rw [iv_pt0]
      show Option.bind (f_X10_isVisit F (nI i) (si_ps S 87 0 0)) _ = _
      rw [f10_isVisit (S := si_ps S 87 0 0) (n := V) hn (by omega), if_pos (sm_in hi (by omega))]
      show Option.bind (si_rd (si_ps S 87 0 0) 88 (nI 61 + nI i)) _ = _
      rw [nI_add, sm_rd (show 61 + i < 677 by omega) (by decide)]
      rfl
    refine ⟨if S.2.1 11 i = -1 then 0 else 1, S, si_ps S 87 0 0, hx, ?_, e⟩
    rw [hy]
    rcases hr with ⟨h1, h2⟩ | ⟨r, hr5, h1, h2, h3⟩
    · have h1' : S.2.1 11 i = -1 := h1
      rw [if_pos h1', h2]
    · have h1' : ¬ S.2.1 11 i = -1 := by
        have h0 : S.2.1 11 i = nI r := h1
        rw [h0]
        exact sm_m1 (by omega)
      rw [if_neg h1', h2]
  · refine ⟨-1, S, si_ps S 87 0 0, ?_, ?_, e⟩
    · unfold f_X9_isClosed
      rw [f9_hasVisit hc (by omega), if_neg hno]
      rfl
    · unfold f_X10_isClosed
      rw [iv_pt0]
      show Option.bind (f_X10_isVisit F x (si_ps S 87 0 0)) _ = _
      rw [f10_isVisit (S := si_ps S 87 0 0) (n := V) hn (by omega), if_neg hno]
      rfl
-- is there such a test
theorem f9_hasTest {F : Nat} {y : Int32} {S : si_St} {V i n : Nat} (hc : S.1 7 0 = nI V) (hV : V ≤ 30) (hi : i < V) (hn : n ≤ 8) (h5 : S.2.1 12 i = nI n) : f_X9_hasTest F (nI i) y S = some (if 0 ≤ y ∧ y < nI n then 1 else 0, S) := by
  obtain ⟨t1, t2, t3⟩ := sm_tst (x := y) (n := n) (by omega)
  unfold f_X9_hasTest f_X9_hasTest_h29 f_X9_hasTest_h30
  rw [f9_hasVisit hc (by omega), if_pos (sm_in hi (by omega))]
  show (if y < 0 then _ else _) = _
  by_cases h1 : y < 0
  · rw [if_pos h1, if_neg (t1 h1)]
    rfl
  · rw [if_neg h1]
    show Option.bind (si_rd S 12 (nI i)) _ = _
    rw [sm_rd (show i < 30 by omega) (by decide)]
    show (if S.2.1 12 i ≤ y then _ else _) = _
    rw [h5]
    by_cases h2 : nI n ≤ y
    · rw [if_pos h2, if_neg (t2 h1 h2)]
      rfl
    · rw [if_neg h2, if_pos (t3 h1 h2)]
      rfl
theorem f9_hasTestN {F : Nat} {x y : Int32} {S : si_St} {V : Nat} (hc : S.1 7 0 = nI V) (hV : V ≤ 30) (hno : ¬ (0 ≤ x ∧ x < nI V)) : f_X9_hasTest F x y S = some (0, S) := by
  unfold f_X9_hasTest f_X9_hasTest_h29 f_X9_hasTest_h30
  rw [f9_hasVisit hc (by omega), if_neg hno]
  rfl
theorem f10_isTest {F : Nat} {y : Int32} {S : si_St} {V i n : Nat} (hc : S.2.1 88 0 = nI V) (hV : V ≤ 30) (hi : i < V) (hn : n ≤ 8) (h5 : S.2.1 88 (151 + i) = nI n) : f_X10_isTest F (nI i) y S = some (if 0 ≤ y ∧ y < nI n then 1 else 0, S) := by
  unfold f_X10_isTest f_X10_isTest_h34 f_X10_isTest_h35
  rw [f10_isVisit hc (by omega), if_pos (sm_in hi (by omega))]
  show Option.bind (si_rd S 88 (nI 151 + nI i)) _ = _
  rw [nI_add, sm_rd (show 151 + i < 677 by omega) (by decide)]
  show Option.bind (f_X10_within F y.toInt64 0 (Int32.toInt64 (S.2.1 88 (151 + i) - 1)) S) _ = _
  rw [h5, sm_has (by omega)]
  by_cases h : 0 ≤ y ∧ y < nI n
  · rw [if_pos h]; rfl
  · rw [if_neg h]; rfl
theorem f10_isTestN {F : Nat} {x y : Int32} {S : si_St} {V : Nat} (hc : S.2.1 88 0 = nI V) (hV : V ≤ 30) (hno : ¬ (0 ≤ x ∧ x < nI V)) : f_X10_isTest F x y S = some (0, S) := by
  unfold f_X10_isTest f_X10_isTest_h34 f_X10_isTest_h35
  rw [f10_isVisit hc (by omega), if_neg hno]
  rfl
/-- one call of both that may throw: the same code, and at 0 the same answer -/
def st_ok3 (fx fm : si_St → Option (Int32 × si_St)) : Prop := ∀ S, iv_all S → ∃ c r S1 S2, fx S = some (c, S1) ∧ fm S1 = some (r, S2) ∧ S2.1 87 0 = c ∧ (c = 0 → S2.2.2.1 113 0 = r.toInt64) ∧ iv_all S2
theorem iv_t3 {S : si_St} {c : Int32} (h : iv_all S) : iv_all (si_ps S 87 0 c) := h.go (iv_same.ps rfl)
theorem iv_o3 {S : si_St} {i : Nat} {v : Int64} (h : iv_all S) : iv_all (si_pl S 113 i v) := h.go (iv_same.pl (by decide) (by decide))
theorem iv_ptc (S : si_St) (c : Int32) : si_pt S 87 0 c = some (si_ps S 87 0 c) := rfl
