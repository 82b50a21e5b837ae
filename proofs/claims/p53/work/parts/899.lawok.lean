/-! the law: every row of the script, and the whole script -/
theorem lw_end {L x : Nat} (hL : L ≤ 3072) (hx : x ≤ 4000) : (Int32.ofNat L) - 6 < nI x ↔ L < x + 6 := by
  have h6 : (6 : Int32).toInt = 6 := by decide
  have e : (Int32.ofNat L) = nI L := rfl
  rw [e, fa_lt, Jvm.Kit.i32_sub (by rw [nI_toInt (by omega), h6]; omega) (by rw [nI_toInt (by omega), h6]; omega), nI_toInt (by omega), nI_toInt (by omega), h6]
  omega
