-- ONE CALL OF BOTH: the same answer, and what both sides keep
def st_ok (fx fm : si_St → Option (Int32 × si_St)) : Prop := ∀ S, iv_all S → ∃ r S1 S2, fx S = some (r, S1) ∧ fm S1 = some (r, S2) ∧ iv_all S2
theorem iv_mkof {S : si_St} {mk : Nat} (h : iv_mks S mk) : si_mk S 0 2 = some mk ∧ (mk = 69 ∨ mk = 78) := by
  rcases h with ⟨rfl, h0, h1⟩ | ⟨rfl, h0, h1⟩
  · unfold si_mk
    rw [h0]
    exact ⟨rfl, Or.inl rfl⟩
  · unfold si_mk
    rw [h0]
    exact ⟨rfl, Or.inr rfl⟩
theorem iv_pt0 (S : si_St) : si_pt S 87 0 0 = some (si_ps S 87 0 0) := rfl
theorem iv_th (S : si_St) : iv_same S (si_ps S 87 0 0) := iv_same.ps rfl
theorem iv_ps1 {S : si_St} {k j a b : Nat} {v : Int32} (h : ¬ (a = k ∧ b = j)) : (si_ps S k j v).1 a b = S.1 a b := if_neg h
theorem st_traderCount {F : Nat} : st_ok (f_X9_traderCount F) (f_X10_traderCount F) := by
  intro S h
  obtain ⟨u, mk, hmk, g0, g1, g2, -⟩ := id h
  refine ⟨nI (u 0 0), S, si_ps S 87 0 0, ?_, ?_, h.go (iv_th S)⟩
  · unfold f_X9_traderCount
    rw [(iv_mkof hmk).1]
    show some (S.1 mk 0, S) = _
    rw [g1.1 0 (by decide)]
  · show some (S.1 87 2, si_ps S 87 0 0) = _
    rw [g2.1]
theorem st_scaleCount {F : Nat} : st_ok (f_X9_scaleCount F) (f_X10_scaleCount F) := by
  intro S h
  obtain ⟨u, mk, hmk, g0, g1, g2, -⟩ := id h
  refine ⟨nI (u 1 0), S, si_ps S 87 0 0, ?_, ?_, h.go (iv_th S)⟩
  · unfold f_X9_scaleCount
    rw [(iv_mkof hmk).1]
    show some (S.1 mk 1, S) = _
    rw [g1.1 1 (by decide)]
  · show some (S.1 87 3, si_ps S 87 0 0) = _
    rw [g2.2.1]
theorem st_massCount {F : Nat} : st_ok (f_X9_massCount F) (f_X10_massCount F) := by
  intro S h
  obtain ⟨u, mk, hmk, g0, g1, g2, -⟩ := id h
  refine ⟨nI (u 2 0), S, si_ps S 87 0 0, ?_, ?_, h.go (iv_th S)⟩
  · unfold f_X9_massCount
    rw [(iv_mkof hmk).1]
    show some (S.1 mk 2, S) = _
    rw [g1.1 2 (by decide)]
  · show some (S.1 87 8, si_ps S 87 0 0) = _
    rw [g2.2.2.1]
theorem st_setCount {F : Nat} : st_ok (f_X9_setCount F) (f_X10_setCount F) := by
  intro S h
  obtain ⟨u, mk, hmk, g0, g1, g2, -⟩ := id h
  refine ⟨nI (u 3 0), S, si_ps S 87 0 0, ?_, ?_, h.go (iv_th S)⟩
  · unfold f_X9_setCount
    rw [(iv_mkof hmk).1]
    show some (S.1 mk 3, S) = _
    rw [g1.1 3 (by decide)]
  · show some (S.1 87 10, si_ps S 87 0 0) = _
    rw [g2.2.2.2.1]
theorem st_errorPosition {F : Nat} : st_ok (f_X9_errorPosition F) (f_X10_errorPosition F) := by
  intro S h
  obtain ⟨u, mk, hmk, g0, g1, g2, g3, g4, -⟩ := id h
  refine ⟨S.1 1 2, S, si_ps S 87 0 0, rfl, ?_, h.go (iv_th S)⟩
  show some (S.1 87 22, si_ps S 87 0 0) = _
  rw [g4]
theorem st_visitCount {F : Nat} : st_ok (f_X9_visitCount F) (f_X10_visitCount F) := by
  intro S h
  obtain ⟨u, mk, hmk, g0, g1, g2, g3, g4, g5, g6, ⟨⟨V, hV, hc, hn, -⟩, -⟩, -⟩ := id h
  refine ⟨nI V, S, si_ps S 87 0 0, ?_, ?_, h.go (iv_th S)⟩
  · show some (S.1 7 0, S) = _
    rw [hc]
  · unfold f_X10_visitCount
    have e : si_rd (si_ps S 87 0 0) 88 0 = some (S.2.1 88 0) := sm_rd (i := 0) (by decide) (by decide)
    rw [iv_pt0, Option.bind_some, e, hn]
    rfl
theorem st_undoDepth {F : Nat} : st_ok (f_X9_undoDepth F) (f_X10_undoDepth F) := by
  intro S h
  obtain ⟨u, mk, hmk, g0, g1, g2, g3, g4, g5, g6, g7, ⟨d, p, hd, hp, e1, e2, e3, -⟩, -⟩ := id h
  refine ⟨nI d, S, si_ps S 87 0 0, ?_, ?_, h.go (iv_th S)⟩
  · show some (S.1 21 0, S) = _
    rw [e1]
  · show some (S.1 87 41, si_ps S 87 0 0) = _
    rw [e3]
-- is there such a scale, mass, set, visit
theorem sm_tst {x : Int32} {n : Nat} (hn : n < 2 ^ 31) : (x < 0 → ¬ (0 ≤ x ∧ x < nI n)) ∧ (¬ x < 0 → nI n ≤ x → ¬ (0 ≤ x ∧ x < nI n)) ∧ (¬ x < 0 → ¬ nI n ≤ x → (0 ≤ x ∧ x < nI n)) := by
  refine ⟨fun h1 h2 => ?_, fun _ h1 h2 => ?_, fun h1 h2 => ⟨sm_nneg h1, ?_⟩⟩
  · have := Int32.lt_iff_toInt_lt.mp h1
    have := Int32.le_iff_toInt_le.mp h2.1
    omega
  · have := Int32.le_iff_toInt_le.mp h1
    have := Int32.lt_iff_toInt_lt.mp h2.2
    omega
  · rw [Int32.lt_iff_toInt_lt]
    rw [Int32.le_iff_toInt_le] at h2
    omega
theorem f9_hasScale {F : Nat} {x : Int32} {S : si_St} {mk n : Nat} (hm : si_mk S 0 2 = some mk) (hn : S.1 mk 1 = nI n) (hl : n < 2 ^ 31) : f_X9_hasScale F x S = some (if 0 ≤ x ∧ x < nI n then 1 else 0, S) := by
  unfold f_X9_hasScale f_X9_hasScale_h19 f_X9_hasScale_h20
  obtain ⟨t1, t2, t3⟩ := sm_tst (x := x) hl
  by_cases h1 : x < 0
  · rw [if_pos h1, if_neg (t1 h1)]
    rfl
  · rw [if_neg h1, hm]
    show (if S.1 mk 1 ≤ x then _ else _) = _
    rw [hn]
    by_cases h2 : nI n ≤ x
    · rw [if_pos h2, if_neg (t2 h1 h2)]
      rfl
    · rw [if_neg h2, if_pos (t3 h1 h2)]
      rfl
theorem f9_hasSet {F : Nat} {x : Int32} {S : si_St} {mk n : Nat} (hm : si_mk S 0 2 = some mk) (hn : S.1 mk 3 = nI n) (hl : n < 2 ^ 31) : f_X9_hasSet F x S = some (if 0 ≤ x ∧ x < nI n then 1 else 0, S) := by
  unfold f_X9_hasSet f_X9_hasSet_h19 f_X9_hasSet_h20
  obtain ⟨t1, t2, t3⟩ := sm_tst (x := x) hl
  by_cases h1 : x < 0
  · rw [if_pos h1, if_neg (t1 h1)]
    rfl
  · rw [if_neg h1, hm]
    show (if S.1 mk 3 ≤ x then _ else _) = _
    rw [hn]
    by_cases h2 : nI n ≤ x
    · rw [if_pos h2, if_neg (t2 h1 h2)]
      rfl
    · rw [if_neg h2, if_pos (t3 h1 h2)]
      rfl
theorem f9_hasVisit {F : Nat} {x : Int32} {S : si_St} {n : Nat} (hn : S.1 7 0 = nI n) (hl : n < 2 ^ 31) : f_X9_hasVisit F x S = some (if 0 ≤ x ∧ x < nI n then 1 else 0, S) := by
  unfold f_X9_hasVisit f_X9_hasVisit_h19 f_X9_hasVisit_h20
  obtain ⟨t1, t2, t3⟩ := sm_tst (x := x) hl
  rw [hn]
  by_cases h1 : x < 0
  · rw [if_pos h1, if_neg (t1 h1)]
    rfl
  · rw [if_neg h1]
    by_cases h2 : nI n ≤ x
    · rw [if_pos h2, if_neg (t2 h1 h2)]
      rfl
    · rw [if_neg h2, if_pos (t3 h1 h2)]
      rfl
theorem sm_bzi (c : Prop) [Decidable c] : si_bz (if c then 1 else 0) = some (if c then 1 else 0) := by
  by_cases h : c
  · rw [if_pos h]; rfl
  · rw [if_neg h]; rfl
theorem f10_isScale {F : Nat} {x : Int32} {S : si_St} {n : Nat} (hn : S.1 87 3 = nI n) (hl : n < 2 ^ 31) : f_X10_isScale F x S = some (if 0 ≤ x ∧ x < nI n then 1 else 0, S) := by
  unfold f_X10_isScale
  rw [hn, sm_has hl]
  show Option.bind (si_bz (if 0 ≤ x ∧ x < nI n then 1 else 0)) _ = _
  rw [sm_bzi]
  rfl
theorem f10_isSet {F : Nat} {x : Int32} {S : si_St} {n : Nat} (hn : S.1 87 10 = nI n) (hl : n < 2 ^ 31) : f_X10_isSet F x S = some (if 0 ≤ x ∧ x < nI n then 1 else 0, S) := by
  unfold f_X10_isSet
  rw [hn, sm_has hl]
  show Option.bind (si_bz (if 0 ≤ x ∧ x < nI n then 1 else 0)) _ = _
  rw [sm_bzi]
  rfl
theorem f10_isVisit {F : Nat} {x : Int32} {S : si_St} {n : Nat} (hn : S.2.1 88 0 = nI n) (hl : n < 2 ^ 31) : f_X10_isVisit F x S = some (if 0 ≤ x ∧ x < nI n then 1 else 0, S) := by
  unfold f_X10_isVisit
  have e : si_rd S 88 0 = some (S.2.1 88 0) := sm_rd (i := 0) (by decide) (by decide)
  rw [e, Option.bind_some, hn, sm_has hl]
  show Option.bind (si_bz (if 0 ≤ x ∧ x < nI n then 1 else 0)) _ = _
  rw [sm_bzi]
  rfl
