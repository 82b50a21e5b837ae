def sv_b (b : Bool) : Int32 := if b = true then 1 else 0
theorem sv_bor (a b : Bool) : sv_b (a || b) = if a = true then 1 else sv_b b := by cases a <;> rfl
theorem sv_b0 (a : Bool) : sv_b a = 0 ↔ a = false := by cases a <;> decide
