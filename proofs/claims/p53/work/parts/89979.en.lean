-- ISENOUGH IS WHAT THE NUMBER OF WEIGHINGS SAYS
theorem chA_at {n : Nat} {ps : List (Nat × Nat)} {a m h : Nat} (c : chA n ps a m = true) (h1 : a ≤ h) (h2 : h < a + m) : chE n ps h = true := by
  have := (List.all_eq_true.mp c) (h - a) (List.mem_range.mpr (by omega))
  rw [show a + (h - a) = h by omega] at this
  exact this
theorem chE_at {n : Nat} {ps : List (Nat × Nat)} {h l g k : Nat} (c : chE n ps h = true) (hl : l < 2 ^ n) (hg : g ≤ 1) (hk : k ≤ 4) (hor : h = l ∨ (h &&& l = 0 ∧ g = 0)) : (enP ps 6 h l g k).1 = decide (soR n h l g ≤ k) ∧ (enP ps 6 h l g k).2 ≤ 60 := by
  have c1 := (List.all_eq_true.mp c) l (List.mem_range.mpr hl)
  have c2 := (List.all_eq_true.mp c1) g (List.mem_range.mpr (by omega))
  rcases Bool.or_eq_true_iff.mp c2 with c3 | c3
  · exfalso
    have hc : (h == l || (h &&& l == 0 && g == 0)) = true := by
      rcases hor with h9 | ⟨h8, h9⟩
      · rw [h9, beq_self_eq_true, Bool.true_or]
      · rw [h8, h9]
        exact Bool.or_true _
    rw [hc] at c3
    exact absurd c3 (by decide)
  · have c4 := (List.all_eq_true.mp c3) k (List.mem_range.mpr (by omega))
    obtain ⟨c5, c6⟩ := (Bool.and_eq_true _ _ ▸ c4 : _ ∧ _)
    exact ⟨beq_iff_eq.mp c5, Nat.le_of_ble_eq_true c6⟩
theorem soR_N {n h l g : Nat} (h2 : 2 ≤ n) (h5 : n ≤ 5) (hh : h < 2 ^ n) (hl : l < 2 ^ n) (hg : g ≤ 1) : soR n h l g = so_N n h l g := by
  unfold soR so_N
  have p1 := sb_pc_le (by omega) hh
  have g01 : g = 0 ∨ g = 1 := by omega
  by_cases h0 : h &&& l = 0
  · rw [if_pos h0, if_pos h0]
    have := sb_pc_or (by omega) hh hl h0
    rcases (by omega : n = 2 ∨ n = 3 ∨ n = 4 ∨ n = 5) with h9 | h9 | h9 | h9 <;> subst h9
    · exact rS_2 _ _ this
    · exact rS_3 _ _ this
    · exact rS_4 _ _ this
    · exact rS_5 _ _ this
  · rw [if_neg h0, if_neg h0]
    rcases (by omega : n = 2 ∨ n = 3 ∨ n = 4 ∨ n = 5) with h9 | h9 | h9 | h9 <;> subst h9 <;> rcases g01 with h8 | h8 <;> rw [h8]
    · exact rM_2_0 _ p1
    · exact rM_2_1 _ p1
    · exact rM_3_0 _ p1
    · exact rM_3_1 _ p1
    · exact rM_4_0 _ p1
    · exact rM_4_1 _ p1
    · exact rM_5_0 _ p1
    · exact rM_5_1 _ p1
theorem en_N {n h l g k : Nat} (h2 : 2 ≤ n) (h5 : n ≤ 5) (hh : h < 2 ^ n) (hl : l < 2 ^ n) (hg : g ≤ 1) (hk : k ≤ 4) (hor : h = l ∨ (h &&& l = 0 ∧ g = 0)) : (enT n 6 h l g k).1 = decide (so_N n h l g ≤ k) ∧ (enT n 6 h l g k).2 ≤ 60 := by
  rw [← soR_N h2 h5 hh hl hg, enP_T]
  rcases (by omega : n = 2 ∨ n = 3 ∨ n = 4 ∨ n = 5) with h9 | h9 | h9 | h9 <;> subst h9
  · rw [pl2_ok]
    exact chE_at (chA_at chE_2 (Nat.zero_le _) (by omega)) hl hg hk hor
  · rw [pl3_ok]
    exact chE_at (chA_at chE_3 (Nat.zero_le _) (by omega)) hl hg hk hor
  · rw [pl4_ok]
    exact chE_at (chA_at chE_4 (Nat.zero_le _) (by omega)) hl hg hk hor
  · rw [pl5_ok]
    have hh : h < 32 := hh
    rcases (by omega : h < 4 ∨ (4 ≤ h ∧ h < 8) ∨ (8 ≤ h ∧ h < 12) ∨ (12 ≤ h ∧ h < 16) ∨ (16 ≤ h ∧ h < 20) ∨ (20 ≤ h ∧ h < 24) ∨ (24 ≤ h ∧ h < 28) ∨ (28 ≤ h ∧ h < 32)) with h9 | h9 | h9 | h9 | h9 | h9 | h9 | h9
    · exact chE_at (chA_at chE_50 (Nat.zero_le _) (by omega)) hl hg hk hor
    · exact chE_at (chA_at chE_51 h9.1 (by omega)) hl hg hk hor
    · exact chE_at (chA_at chE_52 h9.1 (by omega)) hl hg hk hor
    · exact chE_at (chA_at chE_53 h9.1 (by omega)) hl hg hk hor
    · exact chE_at (chA_at chE_54 h9.1 (by omega)) hl hg hk hor
    · exact chE_at (chA_at chE_55 h9.1 (by omega)) hl hg hk hor
    · exact chE_at (chA_at chE_56 h9.1 (by omega)) hl hg hk hor
    · exact chE_at (chA_at chE_57 h9.1 (by omega)) hl hg hk hor
theorem en_run {F n h l g k : Nat} {S : si_St} (hF : 100 ≤ F) (h2 : 2 ≤ n) (h5 : n ≤ 5) (hh : h < 2 ^ n) (hl : l < 2 ^ n) (hg : g ≤ 1) (hk : k ≤ 4) (hor : h = l ∨ (h &&& l = 0 ∧ g = 0)) (hs : S.2.2.2 0 < 87 ∧ S.2.2.2 1 < 87) : ∃ S', f_L_isEnough F 6 (nI (enc n h l g)) (nI n) (nI k) S = some (if so_N n h l g ≤ k then 1 else 0, S') ∧ dn (DC 6) 60 180 S S' := by
  obtain ⟨S', e, d⟩ := en_ok (F := F) (n := n) hF h5 6 k (Nat.le_refl 6) (by omega) h l g S hh hl hg hs
  obtain ⟨n1, n2⟩ := en_N h2 h5 hh hl hg hk hor
  refine ⟨S', ?_, d.up n2 (by dsimp only; omega)⟩
  rw [e]
  by_cases h9 : so_N n h l g ≤ k
  · rw [if_pos h9, if_pos (by rw [n1]; exact decide_eq_true h9)]
  · rw [if_neg h9, if_neg (by rw [n1, decide_eq_false h9]; exact Bool.false_ne_true)]
