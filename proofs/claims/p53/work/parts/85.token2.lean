/-! the other side's reader -/
def dv (c : Nat → Nat) (st : Nat) : Nat → Nat
  | 0 => 0
  | n + 1 => 10 * dv c st n + (c (st + n) - 48)
theorem dv_lt {c : Nat → Nat} {st : Nat} : ∀ n, (∀ i, i < n → 48 ≤ c (st + i) ∧ c (st + i) ≤ 57) → dv c st n < 10 ^ n
  | 0, _ => by
    show 0 < 1
    decide
  | n + 1, h => by
    have h1 := dv_lt n (fun i hi => h i (by omega))
    have h2 := h n (by omega)
    rw [Nat.pow_succ]
    show 10 * dv c st n + (c (st + n) - 48) < _
    omega
theorem dv_b {c : Nat → Nat} {st n : Nat} (hn : n ≤ 6) (h : ∀ i, i < n → 48 ≤ c (st + i) ∧ c (st + i) ≤ 57) : dv c st n ≤ 999999 := by
  have h1 := dv_lt n h
  have h2 : 10 ^ n ≤ 10 ^ 6 := Nat.pow_le_pow_right (by decide) hn
  omega
