-- one row of the script: the same answer, and on
def lw_on (r : Int32 → si_St → Option (Int32 × si_St)) (x4 : Int32) : Prop := ∀ S, iv_all S → ∃ S2, r (x4 + 6) S = some (1, S2)
theorem lw_go {F L : Nat} {xs : Nat → Int32} {r : Int32 → si_St → Option (Int32 × si_St)} {x4 : Int32} {fx fm : si_St → Option (Int32 × si_St)} (hk : st_ok fx fm) (hr : lw_on r x4) {S : si_St} (hI : iv_all S) : ∃ S2, (Option.bind (fx S) fun q => Option.bind (fm q.2) fun q2 => if q.1 = q2.1 then (f_L_law_h1840 F L xs r x4 q2.2) else (some (0, q2.2))) = some (1, S2) := by
  obtain ⟨v, S1, S2, e1, e2, h2⟩ := hk S hI
  rw [e1, Option.bind_some]
  dsimp only
  rw [e2, Option.bind_some]
  dsimp only
  rw [if_pos rfl]
  exact hr S2 h2
theorem sm_xs {L i : Nat} {xs : Nat → Int32} (h : i < L) (hL : L < 2 ^ 31) : si_xs L xs (nI i) = some (xs i) := by
  unfold si_xs
  rw [nI_clamp (by omega), if_neg (fun h2 => h2.elim (nI_pos (by omega)) (fun h3 => by omega))]
theorem lg_cmp0 (a : Int64) : lg_cmp a a = 0 := by
  rw [← Decidable.not_not (p := lg_cmp a a = 0)]
  intro h
  have h1 : ¬ lg_cmp a a < 0 := by rw [lg_cmp_lt]; exact lg_le_not_lt (Int64.le_refl a)
  have h2 : ¬ 0 < lg_cmp a a := by rw [lg_cmp_gt]; exact lg_le_not_lt (Int64.le_refl a)
  rcases fa_three (lg_cmp a a) 0 with h3 | h3 | h3
  · exact h1 h3
  · exact h h3
  · exact h2 h3
theorem lw_go3 {F L : Nat} {xs : Nat → Int32} {r : Int32 → si_St → Option (Int32 × si_St)} {x4 : Int32} {fx fm : si_St → Option (Int32 × si_St)} (hk : st_ok3 fx fm) (hr : lw_on r x4) {S : si_St} (hI : iv_all S) : ∃ S2, (Option.bind (fx S) fun q43 => Option.bind (fm q43.2) fun q46 => Option.bind (f_X10_thrown F q46.2) fun q47 => if q47.1 = q43.1 then (if q43.1 = 0 then (Option.bind (si_rl q47.2 113 0) fun v48 => if (lg_cmp v48 (Int32.toInt64 q46.1)) = 0 then (f_L_law_h1840 F L xs r x4 q47.2) else (some (0, q47.2))) else (f_L_law_h1840 F L xs r x4 q47.2)) else (some (0, q47.2))) = some (1, S2) := by
  obtain ⟨c, v, S1, S2, e1, e2, h3, h4, h5⟩ := hk S hI
  have e3 : f_X10_thrown F S2 = some (c, S2) := by
    unfold f_X10_thrown
    rw [h3]
  rw [e1, Option.bind_some]
  dsimp only
  rw [e2, Option.bind_some]
  dsimp only
  rw [e3, Option.bind_some]
  dsimp only
  rw [if_pos rfl]
  by_cases h0 : c = 0
  · have e4 : si_rl S2 113 0 = some (S2.2.2.1 113 0) := sm_rl (i := 0) (by decide) (by decide)
    rw [if_pos h0, e4, Option.bind_some, h4 h0, lg_cmp0, if_pos rfl]
    exact hr S2 h5
  · rw [if_neg h0]
    exact hr S2 h5
