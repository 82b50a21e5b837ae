-- the sum of a set of masses; testLoad, testError
theorem sm_b1 : ∀ i, i < 32 → bt 1 i = decide (i = 0) := by decide +kernel
theorem sm_bit {x : Int32} {k : Nat} (hk : k < 32) : ((x >>> (nI k &&& 31)) &&& 1) = if bt x k = true then 1 else 0 := by
  apply b_ext
  intro i hi
  rw [b_and, b_sshr k hk x hi, sm_b1 i hi]
  by_cases h0 : i = 0
  · subst h0
    rw [if_pos (by omega), Nat.add_zero]
    by_cases h : bt x k = true
    · rw [if_pos h, h]; rfl
    · rw [if_neg h, Bool.eq_false_iff.mpr h]; rfl
  · rw [decide_eq_false h0, Bool.and_false]
    by_cases h : bt x k = true
    · rw [if_pos h, sm_b1 i hi, decide_eq_false h0]
    · rw [if_neg h, b_0]
theorem sm_btn {st k : Nat} (hk : k < 32) : bt (nI st) k = st.testBit k := by
  show (BitVec.ofNat 32 st).getLsbD k = _
  rw [BitVec.getLsbD_ofNat]
  simp [hk]
theorem sm_tb {st k : Nat} (hk : k < 32) : (((nI st >>> (nI k &&& 31)) &&& 1) = 1) ↔ st.testBit k = true := by
  rw [sm_bit hk, sm_btn hk]
  by_cases h : st.testBit k = true
  · rw [if_pos h]
    exact ⟨fun _ => h, fun _ => rfl⟩
  · rw [if_neg h]
    exact ⟨fun e => absurd e (by decide), fun e => absurd e h⟩
