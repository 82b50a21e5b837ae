-- one row of the script: the same answer, and on
def lw_on (r : Int32 → si_St → Option (Int32 × si_St)) (x4 : Int32) : Prop := ∀ S, iv_all S → ∃ S2, r (x4 + 6) S = some (1, S2)
theorem sm_xs {L i : Nat} {xs : Nat → Int32} (h : i < L) (hL : L < 2 ^ 31) : si_xs L xs (nI i) = some (xs i) := by
  unfold si_xs
  rw [nI_clamp (by omega), if_neg (fun h2 => h2.elim (nI_pos (by omega)) (fun h3 => by omega))]
theorem lg_cmp0 (a : Int64) : lg_cmp a a = 0 := by
  rw [← Decidable.not_not (p := lg_cmp a a = 0)]
  intro h
  have h1 : ¬ lg_cmp a a < 0 := by rw [lg_cmp_lt]; exact lg_le_not_lt (Int64.le_refl a)
  have h2 : ¬ 0 < lg_cmp a a := by rw [lg_cmp_gt]; exact lg_le_not_lt (Int64.le_refl a)
  rcases fa_three (lg_cmp a a) 0 with h3 | h3 | h3
  · exact h1 h3
  · exact h h3
  · exact h2 h3
