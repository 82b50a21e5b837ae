-- row 110 after keeps
theorem sn_Ko {S : si_St} {d r : Nat} (h : r ≠ 110) : (sn_K S d).2.1 r = S.2.1 r := by
  unfold sn_K
  exact sn_o h
theorem sn_Kn {S : si_St} {d i : Nat} (hi : i < 677) : (sn_K S d).2.1 110 (677 * d + i) = S.2.1 88 i := by
  show (if 110 = 110 ∧ 677 * d ≤ 677 * d + i ∧ 677 * d + i < 677 * d + 677 then S.2.1 88 (0 + (677 * d + i - 677 * d)) else S.2.1 110 (677 * d + i)) = _
  rw [if_pos ⟨rfl, by omega, by omega⟩, show 0 + (677 * d + i - 677 * d) = i by omega]
theorem sn_Kb {S : si_St} {d j i : Nat} (hj : j < d) (hi : i < 677) : (sn_K S d).2.1 110 (677 * j + i) = S.2.1 110 (677 * j + i) := by
  show (if 110 = 110 ∧ 677 * d ≤ 677 * j + i ∧ 677 * j + i < 677 * d + 677 then S.2.1 88 (0 + (677 * j + i - 677 * d)) else S.2.1 110 (677 * j + i)) = _
  rw [if_neg (fun h => by omega)]
theorem sn_K12o {S : si_St} {r : Nat} (h : r ≠ 110) : (sn_K12 S).2.1 r = S.2.1 r := by
  unfold sn_K12
  rw [sn_Ko h, sn_o h]
  rfl
theorem sn_K12n {S : si_St} {i : Nat} (hi : i < 677) : (sn_K12 S).2.1 110 (677 * 11 + i) = S.2.1 88 i := by
  unfold sn_K12
  rw [sn_Kn hi, sn_o (by decide)]
  rfl
theorem sn_K12b {S : si_St} {j i : Nat} (hj : j < 11) (hi : i < 677) : (sn_K12 S).2.1 110 (677 * j + i) = S.2.1 110 (677 * (j + 1) + i) := by
  unfold sn_K12
  rw [sn_Kb hj hi]
  show (if 110 = 110 ∧ 0 ≤ 677 * j + i ∧ 677 * j + i < 0 + 7447 then S.2.1 110 (677 + (677 * j + i - 0)) else S.2.1 110 (677 * j + i)) = _
  rw [if_pos ⟨rfl, by omega, by omega⟩, show 677 + (677 * j + i - 0) = 677 * (j + 1) + i by omega]

