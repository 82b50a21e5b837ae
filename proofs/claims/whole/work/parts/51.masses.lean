-- is it a set of masses
theorem f9_hasMasses {F : Nat} {x : Int32} {S : si_St} {n : Nat} (hn : S.1 3 1 = nI n) (hl : n < 2 ^ 31) : f_X1_hasMasses F x S = some (if 0 ≤ x ∧ x < nI n then 1 else 0, S) := by
  unfold f_X1_hasMasses f_X1_hasMasses_h16 f_X1_hasMasses_h17
  obtain ⟨t1, t2, t3⟩ := sm_tst (x := x) hl
  rw [hn]
  by_cases h1 : x < 0
  · rw [if_pos h1, if_neg (t1 h1)]
    rfl
  · rw [if_neg h1]
    by_cases h2 : nI n ≤ x
    · rw [if_pos h2, if_neg (t2 h1 h2)]
      rfl
    · rw [if_neg h2, if_pos (t3 h1 h2)]
      rfl
