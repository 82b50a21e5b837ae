/-! twoPans: the other side's search, and both together -/
def tr_v (f : Nat → Nat) (n x R L : Nat) : Prop := R &&& L = 0 ∧ sm_sum f n R = x + sm_sum f n L
def tr_J (f : Nat → Nat) (n x r l : Nat) (ans best : Int32) : Prop := (ans = -2 ∧ best = nI 99 ∧ ∀ R L, L < 2 ^ n → (R < r ∨ (R = r ∧ L < l)) → ¬ tr_v f n x R L) ∨ ∃ R0 L0, R0 < 2 ^ n ∧ L0 < 2 ^ n ∧ (R0 < r ∨ (R0 = r ∧ L0 < l)) ∧ tr_v f n x R0 L0 ∧ ans = nI (R0 + 1024 * L0) ∧ best = nI (sb_pc R0 + sb_pc L0) ∧ ∀ R L, L < 2 ^ n → (R < r ∨ (R = r ∧ L < l)) → tr_v f n x R L → tw_key R0 L0 ≤ tw_key R L
theorem tr_no {f : Nat → Nat} {n x r l : Nat} {ans best : Int32} (h : tr_J f n x r l ans best) (hv : ¬ tr_v f n x r l) : tr_J f n x r (l + 1) ans best := by
  rcases h with ⟨h1, h2, h3⟩ | ⟨R0, L0, g1, g2, g3, g4, g5, g6, g7⟩
  · refine Or.inl ⟨h1, h2, fun R L hL hb hv2 => ?_⟩
    by_cases e : R = r ∧ L = l
    · rw [e.1, e.2] at hv2
      exact hv hv2
    · exact h3 R L hL (by omega) hv2
  · refine Or.inr ⟨R0, L0, g1, g2, by omega, g4, g5, g6, fun R L hL hb hv2 => ?_⟩
    by_cases e : R = r ∧ L = l
    · rw [e.1, e.2] at hv2
      exact absurd hv2 hv
    · exact g7 R L hL (by omega) hv2
theorem tr_row {f : Nat → Nat} {n x r l : Nat} {ans best : Int32} (h : tr_J f n x r l ans best) (hv : ∀ L, l ≤ L → L < 2 ^ n → ¬ tr_v f n x r L) : tr_J f n x (r + 1) 0 ans best := by
  rcases h with ⟨h1, h2, h3⟩ | ⟨R0, L0, g1, g2, g3, g4, g5, g6, g7⟩
  · refine Or.inl ⟨h1, h2, fun R L hL hb hv2 => ?_⟩
    by_cases e : R = r ∧ l ≤ L
    · rw [e.1] at hv2
      exact hv L e.2 hL hv2
    · exact h3 R L hL (by omega) hv2
  · refine Or.inr ⟨R0, L0, g1, g2, by omega, g4, g5, g6, fun R L hL hb hv2 => ?_⟩
    by_cases e : R = r ∧ l ≤ L
    · rw [e.1] at hv2
      exact absurd hv2 (hv L e.2 hL)
    · exact g7 R L hL (by omega) hv2
theorem tr_yes {f : Nat → Nat} {n x r l : Nat} {ans best : Int32} (hn : n ≤ 10) (hr : r < 2 ^ n) (hl : l < 2 ^ n) (h : tr_J f n x r l ans best) (hv : tr_v f n x r l) : (best ≤ nI (sb_pc r + sb_pc l) → tr_J f n x r (l + 1) ans best) ∧ (¬ best ≤ nI (sb_pc r + sb_pc l) → tr_J f n x r (l + 1) (nI (r + 1024 * l)) (nI (sb_pc r + sb_pc l))) := by
  have h10 : 2 ^ n ≤ 2 ^ 10 := Nat.pow_le_pow_right (by decide) hn
  have b1 : sb_pc r ≤ 10 := fm_10 (by omega)
  have b2 : sb_pc l ≤ 10 := fm_10 (by omega)
  rcases h with ⟨h1, h2, h3⟩ | ⟨R0, L0, g1, g2, g3, g4, g5, g6, g7⟩
  · constructor
    · intro hb
      rw [h2, nI_leI (by omega) (by omega)] at hb
      omega
    · intro _
      refine Or.inr ⟨r, l, hr, hl, by omega, hv, rfl, rfl, fun R L hL hb hv2 => ?_⟩
      by_cases e : R = r ∧ L = l
      · rw [e.1, e.2]
        exact Nat.le_refl _
      · exact absurd hv2 (h3 R L hL (by omega))
  · have b3 : sb_pc R0 ≤ 10 := fm_10 (by omega)
    have b4 : sb_pc L0 ≤ 10 := fm_10 (by omega)
    rw [g6, nI_leI (by omega) (by omega)]
    constructor
    · intro hb
      refine Or.inr ⟨R0, L0, g1, g2, by omega, g4, g5, rfl, fun R L hL hb2 hv2 => ?_⟩
      by_cases e : R = r ∧ L = l
      · rw [e.1, e.2]
        unfold tw_key
        omega
      · exact g7 R L hL (by omega) hv2
    · intro hb
      refine Or.inr ⟨r, l, hr, hl, by omega, hv, rfl, rfl, fun R L hL hb2 hv2 => ?_⟩
      by_cases e : R = r ∧ L = l
      · rw [e.1, e.2]
        exact Nat.le_refl _
      · have q : tw_key r l ≤ tw_key R0 L0 := by
          unfold tw_key
          generalize sb_pc r + sb_pc l = A at *
          generalize sb_pc R0 + sb_pc L0 = B at *
          clear g7 hb2 g3
          omega
        exact Nat.le_trans q (g7 R L hL (by omega) hv2)
theorem tr_sb {f : Nat → Nat} {M st : Nat} : ∀ m, (∀ i, i < m → f i ≤ M) → sm_sum f m st ≤ m * M
  | 0, _ => Nat.zero_le _
  | m + 1, h => by
    have h1 := tr_sb (st := st) m (fun i hi => h i (by omega))
    have h2 := h m (by omega)
    rw [Nat.succ_mul]
    show sm_sum f m st + (if st.testBit m = true then f m else 0) ≤ _
    split <;> omega
