-- THE PURE SIDE: reading and writing at written places, small numbers
theorem sm_rd {S : si_St} {k i : Nat} (h : i < si_ln k) (h2 : si_ln k < 2 ^ 31) : si_rd S k (nI i) = some (S.2.1 k i) := by
  have hc := nI_in h h2
  unfold si_rd
  rw [if_neg hc, nI_clamp (by omega)]
theorem sm_rl {S : si_St} {k i : Nat} (h : i < si_ln k) (h2 : si_ln k < 2 ^ 31) : si_rl S k (nI i) = some (S.2.2.1 k i) := by
  have hc := nI_in h h2
  unfold si_rl
  rw [if_neg hc, nI_clamp (by omega)]
theorem sm_wr {S : si_St} {k i : Nat} {v : Int32} (h : i < si_ln k) (h2 : si_ln k < 2 ^ 31) : si_wr S k (nI i) v = some (si_pa S k i v) := by
  have hc := nI_in h h2
  unfold si_wr
  rw [if_neg hc, nI_clamp (by omega)]
theorem sm_wl {S : si_St} {k i : Nat} {v : Int64} (h : i < si_ln k) (h2 : si_ln k < 2 ^ 31) : si_wl S k (nI i) v = some (si_pl S k i v) := by
  have hc := nI_in h h2
  unfold si_wl
  rw [if_neg hc, nI_clamp (by omega)]
theorem sm_bz0 : si_bz 0 = some 0 := by decide
theorem sm_bz1 : si_bz 1 = some 1 := by decide
theorem sm_bzb (b : Bool) : si_bz (if b = true then 1 else 0) = some (if b = true then 1 else 0) := by cases b <;> rfl
theorem sm_lit (n : Nat) : (OfNat.ofNat n : Int32) = nI n := rfl
theorem sm_mul (a b : Nat) : nI a * nI b = nI (a * b) := (Int32.ofNat_mul a b).symm
theorem sm_sub {a b : Nat} (h : b ≤ a) : nI a - nI b = nI (a - b) := by
  have h1 : nI (a - b) + nI b = nI a := by rw [nI_add, Nat.sub_add_cancel h]
  rw [← h1]
  exact Int32.add_sub_cancel _ _
theorem sm_ne {a b : Nat} (h : a ≠ b) (ha : a < 2 ^ 31) (hb : b < 2 ^ 31) : ¬ nI a = nI b := fun e => h ((nI_eq ha hb).mp e)
theorem sm_m1 {a : Nat} (ha : a < 2 ^ 31) : ¬ nI a = (-1) := fun e => by
  have h1 := congrArg Int32.toInt e
  rw [nI_toInt ha] at h1
  have h2 : ((-1 : Int32)).toInt = -1 := by decide
  omega
/-- within, over whole numbers -/
theorem sm_within {F : Nat} {x a b : Int64} {S : si_St} : f_X10_within F x a b S = some (if a ≤ x ∧ x ≤ b then 1 else 0, S) := by
  unfold f_X10_within f_X10_within_h17 f_X10_within_h18
  by_cases h1 : a ≤ x
  · have h2 : ¬ lg_cmp x a < 0 := by rw [lg_cmp_lt]; exact lg_le_not_lt h1
    rw [if_neg h2]
    by_cases h3 : x ≤ b
    · have h4 : ¬ 0 < lg_cmp x b := by rw [lg_cmp_gt]; exact lg_le_not_lt h3
      rw [if_neg h4, if_pos ⟨h1, h3⟩]
      rfl
    · have h4 : 0 < lg_cmp x b := by
        rw [lg_cmp_gt]
        rcases lg_tri b x with h | h | h
        · exact h
        · exact absurd (by rw [h]; exact Int64.le_refl _) h3
        · exact absurd (Int64.le_of_lt h) h3
      rw [if_pos h4, if_neg (fun h => h3 h.2)]
      rfl
  · have h2 : lg_cmp x a < 0 := by
      rw [lg_cmp_lt]
      rcases lg_tri a x with h | h | h
      · exact absurd (Int64.le_of_lt h) h1
      · exact absurd (by rw [h]; exact Int64.le_refl _) h1
      · exact h
    rw [if_pos h2, if_neg (fun h => h1 h.1)]
    rfl
theorem sm_toL (a b : Int32) : a.toInt64 ≤ b.toInt64 ↔ a ≤ b := by
  rw [Int64.le_iff_toInt_le, Int32.le_iff_toInt_le, Int32.toInt_toInt64, Int32.toInt_toInt64]
/-- is there such a one: 0 ≤ x ≤ n - 1 -/
theorem sm_has {F : Nat} {x : Int32} {n : Nat} {S : si_St} (hn : n < 2 ^ 31) : f_X10_within F x.toInt64 0 (Int32.toInt64 (nI n - 1)) S = some (if 0 ≤ x ∧ x < nI n then 1 else 0, S) := by
  rw [sm_within]
  have h0 : (0 : Int64) = (0 : Int32).toInt64 := by decide
  have h1 : ((0 : Int64) ≤ x.toInt64) ↔ 0 ≤ x := by rw [h0, sm_toL]
  have h2 : (x.toInt64 ≤ (nI n - 1).toInt64) ↔ x < nI n := by
    rw [sm_toL, Int32.le_iff_toInt_le, Int32.lt_iff_toInt_lt, nI_toInt hn]
    have h3 : (nI n - 1).toInt = (n : Int) - 1 := by
      have h4 : (1 : Int32).toInt = 1 := by decide
      rw [Jvm.Kit.i32_sub (by rw [nI_toInt hn, h4]; omega) (by rw [nI_toInt hn, h4]; omega), nI_toInt hn, h4]
    rw [h3]
    omega
  by_cases hc : 0 ≤ x ∧ x < nI n
  · rw [if_pos hc, if_pos ⟨h1.mpr hc.1, h2.mpr hc.2⟩]
  · rw [if_neg hc, if_neg (fun h => hc ⟨h1.mp h.1, h2.mp h.2⟩)]
theorem sm_neg {x : Int32} (h : ¬ 0 ≤ x) : x < 0 := by
  rw [Int32.le_iff_toInt_le] at h
  rw [Int32.lt_iff_toInt_lt]
  have : (0 : Int32).toInt = 0 := by decide
  omega
theorem sm_nneg {x : Int32} (h : ¬ x < 0) : 0 ≤ x := by
  rw [Int32.lt_iff_toInt_lt] at h
  rw [Int32.le_iff_toInt_le]
  have : (0 : Int32).toInt = 0 := by decide
  omega
theorem sm_cases (x : Int32) (n : Nat) (hn : n < 2 ^ 31) : (∃ i, i < n ∧ x = nI i) ∨ ¬ (0 ≤ x ∧ x < nI n) := by
  by_cases h : 0 ≤ x ∧ x < nI n
  · left
    obtain ⟨j, hj, rfl⟩ := nI_of (x := x) (fun h9 => by
      have h1 := Int32.le_iff_toInt_le.mp h.1
      have h2 := Int32.lt_iff_toInt_lt.mp h9
      omega)
    exact ⟨j, (nI_ltI hj hn).mp h.2, rfl⟩
  · exact Or.inr h
theorem sm_in {i n : Nat} (h : i < n) (hn : n < 2 ^ 31) : 0 ≤ nI i ∧ nI i < nI n := ⟨nI_pos' (by omega), nI_lt h hn⟩
