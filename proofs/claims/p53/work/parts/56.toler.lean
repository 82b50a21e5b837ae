-- the tolerance; baseTolerance
def tv_a (c : Nat) : Nat := if c = 0 then 5000 else if c = 1 then 500 else 50
def tv_t (c d l : Nat) : Nat := if tv_a c * d < l then (if 4 * tv_a c * d < l then (3 * d + 1) / 2 else d) else (d + 1) / 2
theorem tv_a_le (c : Nat) : tv_a c ≤ 5000 := by
  unfold tv_a
  split
  · exact Nat.le_refl _
  · split <;> decide
theorem tv_mul {c d : Nat} (hd : d ≤ 1000) : tv_a c * d ≤ 5000000 := Nat.mul_le_mul (tv_a_le c) hd
theorem tv_le {c d l : Nat} (hd : d ≤ 1000) (h1 : 1 ≤ d) : tv_t c d l ≤ 1500 := by
  unfold tv_t
  split
  · split <;> omega
  · omega
theorem tv_h1 {d : Nat} (h : d ≤ 1000) : (nI d + 1) / 2 = nI ((d + 1) / 2) := by
  rw [nI_1]
  exact pk_div (a := d + 1) (d := 2) (by omega) (by decide) (by decide)
theorem tv_h3 {d : Nat} (h : d ≤ 1000) : ((3 * nI d) + 1) / 2 = nI ((3 * d + 1) / 2) := by
  rw [li_mulL, nI_1]
  exact pk_div (a := 3 * d + 1) (d := 2) (by omega) (by decide) (by decide)
