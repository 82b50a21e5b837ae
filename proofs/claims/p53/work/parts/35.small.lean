/-- one call of both that may throw: the same code, and at 0 the same answer -/
def st_ok3 (fx fm : si_St → Option (Int32 × si_St)) : Prop := ∀ S, iv_all S → ∃ c r S1 S2, fx S = some (c, S1) ∧ fm S1 = some (r, S2) ∧ S2.1 87 0 = c ∧ (c = 0 → S2.2.2.1 113 0 = r.toInt64) ∧ iv_all S2
theorem iv_t3 {S : si_St} {c : Int32} (h : iv_all S) : iv_all (si_ps S 87 0 c) := h.go (iv_same.ps rfl)
theorem iv_o3 {S : si_St} {i : Nat} {v : Int64} (h : iv_all S) : iv_all (si_pl S 113 i v) := h.go (iv_same.pl (by decide) (by decide))
theorem iv_ptc (S : si_St) (c : Int32) : si_pt S 87 0 c = some (si_ps S 87 0 c) := rfl

