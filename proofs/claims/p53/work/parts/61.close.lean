-- closeVisit
theorem iv_mm.cg {s s' : Nat → Int32} {a a' : Nat → Nat → Int32} {u : Nat → Nat → Nat} (h2 : s' 2 = s 2) (h3 : s' 3 = s 3) (h8 : s' 8 = s 8) (h10 : s' 10 = s 10) (ha : ∀ r, 89 ≤ r → r ≤ 96 → a' r = a r) (h : iv_mm s a u) : iv_mm s' a' u := by
  unfold iv_mm at h ⊢
  rw [h2, h3, h8, h10, ha 89 (by decide) (by decide), ha 90 (by decide) (by decide), ha 91 (by decide) (by decide), ha 92 (by decide) (by decide), ha 93 (by decide) (by decide), ha 94 (by decide) (by decide), ha 95 (by decide) (by decide), ha 96 (by decide) (by decide)]
  exact h
theorem vd_J5 {u : Nat → Nat → Nat} {s n b : Nat} {st : Nat → Nat} {er : Nat → Int32} {sh : Int32} : vd_J u s n b st er sh ≤ 5 := by
  unfold vd_J
  cases vd_e st n <;> cases vd_h u s st n <;> cases vd_r st n <;> cases vd_f u s b st er sh n <;> cases vd_d u s b st er n <;> decide
