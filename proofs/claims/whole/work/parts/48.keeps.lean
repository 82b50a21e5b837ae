-- keeps, in one form for all depths
theorem sm_keepsU {F d : Nat} {S : si_St} (hd : d ≤ 12) (hF : 7448 ≤ F) (h : S.1 87 41 = nI d) : ∃ K : si_St, f_X10_keeps F S = some K ∧ (∀ a b, ¬ (a = 87 ∧ b = 41) → K.1 a b = S.1 a b) ∧ K.1 87 41 = nI (min (d + 1) 12) ∧ (∀ r, r ≠ 110 → K.2.1 r = S.2.1 r) ∧ K.2.2 = S.2.2 ∧ (d < 12 → (∀ j i, j < d → i < 677 → K.2.1 110 (677 * j + i) = S.2.1 110 (677 * j + i)) ∧ ∀ i, i < 677 → K.2.1 110 (677 * d + i) = S.2.1 88 i) ∧ (d = 12 → (∀ j i, j < 11 → i < 677 → K.2.1 110 (677 * j + i) = S.2.1 110 (677 * (j + 1) + i)) ∧ ∀ i, i < 677 → K.2.1 110 (677 * 11 + i) = S.2.1 88 i) := by
  by_cases hd2 : d < 12
  · refine ⟨sn_K S d, sm_keeps hd2 (by omega) h, fun a b hab => if_neg hab, ?_, fun r hr => sn_Ko hr, rfl, fun _ => ⟨fun j i hj hi => sn_Kb hj hi, fun i hi => sn_Kn hi⟩, fun h12 => absurd h12 (by omega)⟩
    rw [show min (d + 1) 12 = d + 1 by omega]
    rfl
  · have h12 : d = 12 := by omega
    subst h12
    exact ⟨sn_K12 S, sm_keeps12 hF h, fun a b hab => (if_neg hab).trans (if_neg hab), rfl, fun r hr => sn_K12o hr, rfl, fun hlt => absurd hlt (by omega), fun _ => ⟨fun j i hj hi => sn_K12b hj hi, fun i hi => sn_K12n hi⟩⟩
