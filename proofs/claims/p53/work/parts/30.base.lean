-- THE PURE SIDE: reading and writing at written places, small numbers
theorem sm_rd {S : si_St} {k i : Nat} (h : i < si_ln k) (h2 : si_ln k < 2 ^ 31) : si_rd S k (nI i) = some (S.2.1 k i) := by
  have hc := nI_in h h2
  unfold si_rd
  rw [if_neg hc, nI_clamp (by omega)]
theorem sm_rl {S : si_St} {k i : Nat} (h : i < si_ln k) (h2 : si_ln k < 2 ^ 31) : si_rl S k (nI i) = some (S.2.2.1 k i) := by
  have hc := nI_in h h2
  unfold si_rl
  rw [if_neg hc, nI_clamp (by omega)]
theorem sm_wr {S : si_St} {k i : Nat} {v : Int32} (h : i < si_ln k) (h2 : si_ln k < 2 ^ 31) : si_wr S k (nI i) v = some (si_pa S k i v) := by
  have hc := nI_in h h2
  unfold si_wr
  rw [if_neg hc, nI_clamp (by omega)]
theorem sm_wl {S : si_St} {k i : Nat} {v : Int64} (h : i < si_ln k) (h2 : si_ln k < 2 ^ 31) : si_wl S k (nI i) v = some (si_pl S k i v) := by
  have hc := nI_in h h2
  unfold si_wl
  rw [if_neg hc, nI_clamp (by omega)]
theorem sm_bz0 : si_bz 0 = some 0 := by decide
theorem sm_bz1 : si_bz 1 = some 1 := by decide
theorem sm_bzb (b : Bool) : si_bz (if b = true then 1 else 0) = some (if b = true then 1 else 0) := by cases b <;> rfl
theorem sm_lit (n : Nat) : (OfNat.ofNat n : Int32) = nI n := rfl
theorem sm_mul (a b : Nat) : nI a * nI b = nI (a * b) := (Int32.ofNat_mul a b).symm
theorem sm_sub {a b : Nat} (h : b ≤ a) : nI a - nI b = nI (a - b) := by
  have h1 : nI (a - b) + nI b = nI a := by rw [nI_add, Nat.sub_add_cancel h]
  rw [← h1]
  exact Int32.add_sub_cancel _ _
theorem sm_ne {a b : Nat} (h : a ≠ b) (ha : a < 2 ^ 31) (hb : b < 2 ^ 31) : ¬ nI a = nI b := fun e => h ((nI_eq ha hb).mp e)
theorem sm_m1 {a : Nat} (ha : a < 2 ^ 31) : ¬ nI a = (-1) := fun e => by
  have h1 := congrArg Int32.toInt e
  rw [nI_toInt ha] at h1
  have h2 : ((-1 : Int32)).toInt = -1 := by decide
  omega
theorem sm_toL (a b : Int32) : a.toInt64 ≤ b.toInt64 ↔ a ≤ b := by
  rw [Int64.le_iff_toInt_le, Int32.le_iff_toInt_le, Int32.toInt_toInt64, Int32.toInt_toInt64]
theorem sm_neg {x : Int32} (h : ¬ 0 ≤ x) : x < 0 := by
  rw [Int32.le_iff_toInt_le] at h
  rw [Int32.lt_iff_toInt_lt]
  have : (0 : Int32).toInt = 0 := by decide
  omega
theorem sm_nneg {x : Int32} (h : ¬ x < 0) : 0 ≤ x := by
  rw [Int32.lt_iff_toInt_lt] at h
  rw [Int32.le_iff_toInt_le]
  have : (0 : Int32).toInt = 0 := by decide
  omega
theorem sm_cases (x : Int32) (n : Nat) (hn : n < 2 ^ 31) : (∃ i, i < n ∧ x = nI i) ∨ ¬ (0 ≤ x ∧ x < nI n) := by
  by_cases h : 0 ≤ x ∧ x < nI n
  · left
    obtain ⟨j, hj, rfl⟩ := nI_of (x := x) (fun h9 => by
      have h1 := Int32.le_iff_toInt_le.mp h.1
      have h2 := Int32.lt_iff_toInt_lt.mp h9
      omega)
    exact ⟨j, (nI_ltI hj hn).mp h.2, rfl⟩
  · exact Or.inr h
theorem sm_in {i n : Nat} (h : i < n) (hn : n < 2 ^ 31) : 0 ≤ nI i ∧ nI i < nI n := ⟨nI_pos' (by omega), nI_lt h hn⟩

