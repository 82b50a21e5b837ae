-- ONE CALL OF BOTH: the same answer, and what both sides keep
def st_ok (fx fm : si_St → Option (Int32 × si_St)) : Prop := ∀ S, iv_all S → ∃ r S1 S2, fx S = some (r, S1) ∧ fm S1 = some (r, S2) ∧ iv_all S2
theorem iv_mkof {S : si_St} {mk : Nat} (h : iv_mks S mk) : si_mk S 0 2 = some mk ∧ (mk = 69 ∨ mk = 78) := by
  rcases h with ⟨rfl, h0, h1⟩ | ⟨rfl, h0, h1⟩
  · unfold si_mk
    rw [h0]
    exact ⟨rfl, Or.inl rfl⟩
  · unfold si_mk
    rw [h0]
    exact ⟨rfl, Or.inr rfl⟩
theorem iv_pt0 (S : si_St) : si_pt S 87 0 0 = some (si_ps S 87 0 0) := rfl
theorem iv_th (S : si_St) : iv_same S (si_ps S 87 0 0) := iv_same.ps rfl
theorem iv_ps1 {S : si_St} {k j a b : Nat} {v : Int32} (h : ¬ (a = k ∧ b = j)) : (si_ps S k j v).1 a b = S.1 a b := if_neg h
-- is there such a scale, mass, set, visit
theorem sm_tst {x : Int32} {n : Nat} (hn : n < 2 ^ 31) : (x < 0 → ¬ (0 ≤ x ∧ x < nI n)) ∧ (¬ x < 0 → nI n ≤ x → ¬ (0 ≤ x ∧ x < nI n)) ∧ (¬ x < 0 → ¬ nI n ≤ x → (0 ≤ x ∧ x < nI n)) := by
  refine ⟨fun h1 h2 => ?_, fun _ h1 h2 => ?_, fun h1 h2 => ⟨sm_nneg h1, ?_⟩⟩
  · have := Int32.lt_iff_toInt_lt.mp h1
    have := Int32.le_iff_toInt_le.mp h2.1
    omega
  · have := Int32.le_iff_toInt_le.mp h1
    have := Int32.lt_iff_toInt_lt.mp h2.2
    omega
  · rw [Int32.lt_iff_toInt_lt]
    rw [Int32.le_iff_toInt_le] at h2
    omega
theorem f9_hasSet {F : Nat} {x : Int32} {S : si_St} {mk n : Nat} (hm : si_mk S 0 2 = some mk) (hn : S.1 mk 3 = nI n) (hl : n < 2 ^ 31) : f_X9_hasSet F x S = some (if 0 ≤ x ∧ x < nI n then 1 else 0, S) := by
  unfold f_X9_hasSet f_X9_hasSet_h19 f_X9_hasSet_h20
  obtain ⟨t1, t2, t3⟩ := sm_tst (x := x) hl
  by_cases h1 : x < 0
  · rw [if_pos h1, if_neg (t1 h1)]
    rfl
  · rw [if_neg h1, hm]
    show (if S.1 mk 3 ≤ x then _ else _) = _
    rw [hn]
    by_cases h2 : nI n ≤ x
    · rw [if_pos h2, if_neg (t2 h1 h2)]
      rfl
    · rw [if_neg h2, if_pos (t3 h1 h2)]
      rfl
theorem sm_bzi (c : Prop) [Decidable c] : si_bz (if c then 1 else 0) = some (if c then 1 else 0) := by
  by_cases h : c
  · rw [if_pos h]; rfl
  · rw [if_neg h]; rfl
