-- is it a day; the open visit
theorem f9_isDay {F : Nat} {x : Int32} {S : si_St} : f_X9_isDay F x S = some (if 0 ≤ x ∧ x < nI 10000 then 1 else 0, S) := by
  unfold f_X9_isDay f_X9_isDay_h15 f_X9_isDay_h16
  have h99 : (9999 : Int32) < x ↔ nI 10000 ≤ x := by
    rw [Int32.lt_iff_toInt_lt, Int32.le_iff_toInt_le]
    have h1 : (9999 : Int32).toInt = 9999 := by decide
    have h2 : (nI 10000).toInt = 10000 := by decide
    omega
  obtain ⟨t1, t2, t3⟩ := sm_tst (x := x) (n := 10000) (by decide)
  by_cases h1 : x < 0
  · rw [if_pos h1, if_neg (t1 h1)]
    rfl
  · rw [if_neg h1]
    by_cases h2 : nI 10000 ≤ x
    · rw [if_pos (h99.mpr h2), if_neg (t2 h1 h2)]
      rfl
    · rw [if_neg (fun h => h2 (h99.mp h)), if_pos (t3 h1 h2)]
      rfl
