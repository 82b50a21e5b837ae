-- the class's solver: its tables, the choice of a set
def so_fr (n : Nat) (B T : si_St) : Prop := (∀ a b, a ≠ 65 → T.1 a b = B.1 a b) ∧ (∀ r, r ≠ 67 → r ≠ 68 → T.2.1 r = B.2.1 r) ∧ (∀ i, (i < n * 169 ∨ (n + 1) * 169 ≤ i) → T.2.1 67 i = B.2.1 67 i) ∧ (∀ i, (i < n * 26 ∨ (n + 1) * 26 ≤ i) → T.2.1 68 i = B.2.1 68 i) ∧ T.2.2 = B.2.2
theorem so_fr.rf (n : Nat) (B : si_St) : so_fr n B B := ⟨fun _ _ _ => rfl, fun _ _ _ => rfl, fun _ _ => rfl, fun _ _ => rfl, rfl⟩
theorem so_fr.ps {n : Nat} {B T : si_St} {j : Nat} {v : Int32} (h : so_fr n B T) : so_fr n B (si_ps T 65 j v) := ⟨fun a b hab => (ps_o (fun h2 => hab h2.1)).trans (h.1 a b hab), h.2.1, h.2.2.1, h.2.2.2.1, h.2.2.2.2⟩
theorem so_fr.p67 {n : Nat} {B T : si_St} {i : Nat} {v : Int32} (h : so_fr n B T) (h1 : n * 169 ≤ i) (h2 : i < (n + 1) * 169) : so_fr n B (si_pa T 67 i v) := ⟨h.1, fun r r1 r2 => (pa_o r1).trans (h.2.1 r r1 r2), fun q hq => (pa_s (by omega)).trans (h.2.2.1 q hq), fun q hq => by rw [pa_o (by decide)]; exact h.2.2.2.1 q hq, h.2.2.2.2⟩
theorem so_fr.p68 {n : Nat} {B T : si_St} {i : Nat} {v : Int32} (h : so_fr n B T) (h1 : n * 26 ≤ i) (h2 : i < (n + 1) * 26) : so_fr n B (si_pa T 68 i v) := ⟨h.1, fun r r1 r2 => (pa_o r2).trans (h.2.1 r r1 r2), fun q hq => by rw [pa_o (by decide)]; exact h.2.2.1 q hq, fun q hq => (pa_s (by omega)).trans (h.2.2.2.1 q hq), h.2.2.2.2⟩
theorem so_forget {F n : Nat} {B T : si_St} (hn : n ≤ 12) (h3 : T.1 65 3 = nI n) (hf : so_fr n B T) (hF : 200 ≤ F) : ∃ T', f_X5_forgetNeeds F T = some T' ∧ so_fr n B T' ∧ T'.1 = T.1 ∧ so_sp T' n (fun _ _ => 99) ∧ ∀ g, g ≤ 1 → so_mi T' n g (fun _ => 99) := by
  have w2 : ∀ T1 : si_St, so_fr n B T1 → T1.1 = T.1 → (∀ j, j < 169 → T1.2.1 67 (n * 169 + j) = nI 99) → ∃ T', f_X5_forgetNeeds_l51 F F (nI (n * 26)) T1 = some T' ∧ so_fr n B T' ∧ T'.1 = T.1 ∧ so_sp T' n (fun _ _ => 99) ∧ ∀ g, g ≤ 1 → so_mi T' n g (fun _ => 99) := by
    intro T1 f1 e1 t1
    exact lp_inv (fun t k Z => f_X5_forgetNeeds_l51 F t (nI (n * 26 + k)) Z) (fun k Z => so_fr n B Z ∧ Z.1 = T.1 ∧ (∀ j, j < 169 → Z.2.1 67 (n * 169 + j) = nI 99) ∧ ∀ j, j < k → Z.2.1 68 (n * 26 + j) = nI 99) (fun o => ∃ T', o = some T' ∧ so_fr n B T' ∧ T'.1 = T.1 ∧ so_sp T' n (fun _ _ => 99) ∧ ∀ g, g ≤ 1 → so_mi T' n g (fun _ => 99)) 26 (fun t Z ⟨a1, a2, a3, a4⟩ => by
      refine ⟨Z, ?_, a1, a2, fun h l hl => ⟨?_, Nat.le_refl 99⟩, fun g hg v hv => ⟨?_, Nat.le_refl 99⟩⟩
      · show f_X5_forgetNeeds_h51 F (f_X5_forgetNeeds_l51 F t) (nI (n * 26 + 26)) Z = _
        unfold f_X5_forgetNeeds_h51
        rw [a2, h3, nI_1, li_mulR, li_mulR, if_pos (nI_le (by omega) (by omega))]
      · have e := a3 (h * 13 + l) (by omega)
        have ei : (n * 13 + h) * 13 + l = n * 169 + (h * 13 + l) := by omega
        rw [ei]
        exact e
      · have e := a4 (v * 2 + g) (by omega)
        have ei : (n * 13 + v) * 2 + g = n * 26 + (v * 2 + g) := by omega
        rw [ei]
        exact e) (fun t k Z hk ⟨a1, a2, a3, a4⟩ => by
      refine ⟨si_pa Z 68 (n * 26 + k) (nI 99), ⟨a1.p68 (by omega) (by omega), a2, fun j hj => by rw [pa_o (by decide)]; exact a3 j hj, fun j hj => ?_⟩, ?_⟩
      · by_cases hjk : j = k
        · subst hjk
          exact pa_e
        · rw [pa_s (by omega)]
          exact a4 j (by omega)
      · show f_X5_forgetNeeds_h51 F (f_X5_forgetNeeds_l51 F t) (nI (n * 26 + k)) Z = f_X5_forgetNeeds_l51 F t (nI (n * 26 + (k + 1))) _
        unfold f_X5_forgetNeeds_h51
        rw [a2, h3, nI_1, li_mulR, li_mulR, if_neg (nI_ge (by omega) (by omega)), wr_68 (by omega), Option.bind_some, nI_1, Option.bind_some]
        rfl) F 0 T1 (Nat.zero_le _) (by omega) ⟨f1, e1, t1, fun j hj => absurd hj (Nat.not_lt_zero j)⟩
  unfold f_X5_forgetNeeds
  rw [h3, li_mulR, li_mulR, Option.bind_some]
  have e0 : n * 13 * 13 = n * 169 := by omega
  rw [e0]
  exact lp_inv (fun t k Z => f_X5_forgetNeeds_l11 F t (nI (n * 169 + k)) Z) (fun k Z => so_fr n B Z ∧ Z.1 = T.1 ∧ ∀ j, j < k → Z.2.1 67 (n * 169 + j) = nI 99) (fun o => ∃ T', o = some T' ∧ so_fr n B T' ∧ T'.1 = T.1 ∧ so_sp T' n (fun _ _ => 99) ∧ ∀ g, g ≤ 1 → so_mi T' n g (fun _ => 99)) 169 (fun t Z ⟨a1, a2, a3⟩ => by
    obtain ⟨T', q⟩ := w2 Z a1 a2 a3
    refine ⟨T', ?_, q.2⟩
    show f_X5_forgetNeeds_h11 F (f_X5_forgetNeeds_l11 F t) (nI (n * 169 + 169)) Z = _
    have e1 : n * 13 * 2 = n * 26 := by omega
    unfold f_X5_forgetNeeds_h11
    rw [a2, h3, nI_1, li_mulR, li_mulR, if_pos (nI_le (by omega) (by omega)), li_mulR, li_mulR, Option.bind_some, e1]
    exact q.1) (fun t k Z hk ⟨a1, a2, a3⟩ => by
    refine ⟨si_pa Z 67 (n * 169 + k) (nI 99), ⟨a1.p67 (by omega) (by omega), a2, fun j hj => ?_⟩, ?_⟩
    · by_cases hjk : j = k
      · subst hjk
        exact pa_e
      · rw [pa_s (by omega)]
        exact a3 j (by omega)
    · show f_X5_forgetNeeds_h11 F (f_X5_forgetNeeds_l11 F t) (nI (n * 169 + k)) Z = f_X5_forgetNeeds_l11 F t (nI (n * 169 + (k + 1))) _
      unfold f_X5_forgetNeeds_h11
      rw [a2, h3, nI_1, li_mulR, li_mulR, if_neg (nI_ge (by omega) (by omega)), wr_67 (by omega), Option.bind_some, nI_1, Option.bind_some]
      rfl) F 0 T (Nat.zero_le _) (by omega) ⟨hf, rfl, fun j hj => absurd hj (Nat.not_lt_zero j)⟩
/-- the split table while it fills: all below s, and at s those whose lesser number is below j -/
def so_tb (n s j h l : Nat) : Nat := if h + l < s ∨ (h + l = s ∧ min h l < j) then sv_spl n h l else 99
theorem so_tb_99 {n s j h l : Nat} : so_tb n s j h l ≤ 99 := by
  unfold so_tb
  split
  · exact sv_spl_99
  · exact Nat.le_refl _
def so_I (n : Nat) (B : si_St) (s j : Nat) (T : si_St) : Prop := so_fr n B T ∧ T.1 65 3 = nI n ∧ T.1 65 4 = 0 ∧ so_sp T n (so_tb n s j) ∧ ∀ g, g ≤ 1 → so_mi T n g (fun _ => 99)
theorem so_I_step {F n s j : Nat} {B T : si_St} (hn : n ≤ 12) (hs : s ≤ n) (hj : 2 * j ≤ s) (hF : 16 ≤ F) (h : so_I n B s j T) (r12 : Int32 → si_St → Option si_St) (r22 : Int32 → Int32 → si_St → Option si_St) : ∃ T', so_I n B s (j + 1) T' ∧ f_X5_fillSplitNeeds_h22 F r12 r22 (nI s) (nI j) T = r22 (nI s) (nI (j + 1)) T' := by
  obtain ⟨a1, a2, a3, a4, a5⟩ := h
  have a1' : so_fr n B (si_ps (si_ps T 65 6 (nI (s - j))) 65 7 (nI j)) := (a1.ps (j := 6) (v := nI (s - j))).ps (j := 7) (v := nI j)
  have b3 : (si_ps (si_ps T 65 6 (nI (s - j))) 65 7 (nI j)).1 65 3 = nI n := a2
  have b4 : (si_ps (si_ps T 65 6 (nI (s - j))) 65 7 (nI j)).1 65 4 = 0 := a3
  have b6 : (si_ps (si_ps T 65 6 (nI (s - j))) 65 7 (nI j)).1 65 6 = nI (s - j) := rfl
  have b7 : (si_ps (si_ps T 65 6 (nI (s - j))) 65 7 (nI j)).1 65 7 = nI j := rfl
  have bsp : so_sp (si_ps (si_ps T 65 6 (nI (s - j))) 65 7 (nI j)) n (so_tb n s j) := a4
  have bmi : ∀ g, g ≤ 1 → so_mi (si_ps (si_ps T 65 6 (nI (s - j))) 65 7 (nI j)) n g (fun _ => 99) := a5
  have hlw : 2 ≤ s → f_X5_leastWorst F (si_ps (si_ps T 65 6 (nI (s - j))) 65 7 (nI j)) = some (nI (lf (so_g20 (fun a b c d => max (so_tb n s j (s - j - a - b) (j - c - d)) (max (so_tb n s j a d) (so_tb n s j b c))) (n - (s - j) - j) (s - j) j) 99 (s - j + 1)), si_ps (si_ps T 65 6 (nI (s - j))) 65 7 (nI j)) := fun _ => so_least hn b3 b6 b7 (by omega) hF (fun a b c d hab hcd => so_worst0 hn b3 b4 b6 b7 (by omega) bsp hab hcd)
  have hu : lf (so_g20 (fun a b c d => max (so_tb n s j (s - j - a - b) (j - c - d)) (max (so_tb n s j a d) (so_tb n s j b c))) (n - (s - j) - j) (s - j) j) 99 (s - j + 1) ≤ 99 := lf_ub so_u20 (Nat.le_refl 99) _
  have heq : 2 ≤ s → min 99 (lf (so_g20 (fun a b c d => max (so_tb n s j (s - j - a - b) (j - c - d)) (max (so_tb n s j a d) (so_tb n s j b c))) (n - (s - j) - j) (s - j) j) 99 (s - j + 1) + 1) = sv_spl n (s - j) j := fun h2 => so_split_eq (by omega) (fun h l hl => if_pos (Or.inl (by omega))) (if_neg (by omega))
  have h22 : f_X5_fillSplitNeeds_h22 F r12 r22 (nI s) (nI j) T = if 1 < nI s then (Option.bind (f_X5_leastWorst F (si_ps (si_ps T 65 6 (nI (s - j))) 65 7 (nI j))) fun q9 => Option.bind (f_X5_oneMore F q9.1 q9.2) fun q10 => f_X5_fillSplitNeeds_h57 F r12 r22 (nI s) (nI j) q10.1 q10.2) else (f_X5_fillSplitNeeds_h57 F r12 r22 (nI s) (nI j) 0 (si_ps (si_ps T 65 6 (nI (s - j))) 65 7 (nI j))) := by
    unfold f_X5_fillSplitNeeds_h22
    rw [li_mulL, if_neg (nI_nlt (by omega) (by omega)), pk_sub (by omega), sm_pt, Option.bind_some, sm_pt, Option.bind_some]
  generalize si_ps (si_ps T 65 6 (nI (s - j))) 65 7 (nI j) = Z at *
  have h57 : f_X5_fillSplitNeeds_h57 F r12 r22 (nI s) (nI j) (nI (sv_spl n (s - j) j)) Z = r22 (nI s) (nI (j + 1)) (si_pa (si_pa Z 67 ((n * 13 + (s - j)) * 13 + j) (nI (sv_spl n (s - j) j))) 67 ((n * 13 + j) * 13 + (s - j)) (nI (sv_spl n (s - j) j))) := by
    have c3 : ∀ i v, (si_pa Z 67 i v).1 65 3 = nI n := fun _ _ => b3
    have c6 : ∀ i v, (si_pa Z 67 i v).1 65 6 = nI (s - j) := fun _ _ => b6
    have c7 : ∀ i v, (si_pa Z 67 i v).1 65 7 = nI j := fun _ _ => b7
    unfold f_X5_fillSplitNeeds_h57
    rw [b6, b7, so_splitAt b3, Option.bind_some]
    try dsimp only
    rw [wr_67 (by omega), Option.bind_some, c6, c7, so_splitAt (c3 _ _), Option.bind_some]
    try dsimp only
    rw [wr_67 (by omega), Option.bind_some, nI_1, Option.bind_some]
  refine ⟨si_pa (si_pa Z 67 ((n * 13 + (s - j)) * 13 + j) (nI (sv_spl n (s - j) j))) 67 ((n * 13 + j) * 13 + (s - j)) (nI (sv_spl n (s - j) j)), ⟨(a1'.p67 (by omega) (by omega)).p67 (by omega) (by omega), b3, b4, fun h l hl => ⟨?_, so_tb_99⟩, fun g hg v hv => ⟨?_, Nat.le_refl 99⟩⟩, ?_⟩
  · by_cases c1 : h = j ∧ l = s - j
    · obtain ⟨rfl, rfl⟩ := c1
      rw [pa_e, sv_spl_sym]
      unfold so_tb
      rw [if_pos (Or.inr (by omega))]
    · by_cases c2 : h = s - j ∧ l = j
      · obtain ⟨rfl, rfl⟩ := c2
        rw [pa_s (by omega), pa_e]
        unfold so_tb
        rw [if_pos (Or.inr (by omega))]
      · rw [pa_s (by omega), pa_s (by omega), (bsp h l hl).1]
        unfold so_tb
        by_cases c3 : h + l < s ∨ (h + l = s ∧ min h l < j)
        · rw [if_pos c3, if_pos (by omega)]
        · rw [if_neg c3, if_neg (by omega)]
  · rw [pa_o (by decide), pa_o (by decide)]
    exact (bmi g hg v hv).1
  · rw [h22]
    by_cases h2 : 2 ≤ s
    · rw [if_pos (show 1 < nI s from nI_lt (a := 1) (by omega) (by omega)), hlw h2, Option.bind_some]
      try dsimp only
      rw [so_more hu, Option.bind_some]
      try dsimp only
      rw [heq h2]
      exact h57
    · have e0 : sv_spl n (s - j) j = 0 := sv_spl_0 (by omega)
      rw [e0] at h57
      rw [if_neg (show ¬ 1 < nI s from nI_nlt (a := 1) (by omega) (by decide)), e0]
      exact h57
theorem so_fillSplit {F n : Nat} {B T : si_St} (hn : n ≤ 12) (h3 : T.1 65 3 = nI n) (hf : so_fr n B T) (hsp : so_sp T n (fun _ _ => 99)) (hmi : ∀ g, g ≤ 1 → so_mi T n g (fun _ => 99)) (hF : 16 ≤ F) : ∃ T', f_X5_fillSplitNeeds F T = some T' ∧ so_fr n B T' ∧ T'.1 65 3 = nI n ∧ so_sp T' n (sv_spl n) ∧ ∀ g, g ≤ 1 → so_mi T' n g (fun _ => 99) := by
  unfold f_X5_fillSplitNeeds
  have pz : si_pz T 65 4 0 = some (si_ps T 65 4 0) := rfl
  rw [pz, Option.bind_some, sm_pt, Option.bind_some]
  exact lp_inv (fun t k Z => f_X5_fillSplitNeeds_l12 F t (nI k) Z) (fun k Z => so_I n B k 0 Z) (fun o => ∃ T', o = some T' ∧ so_fr n B T' ∧ T'.1 65 3 = nI n ∧ so_sp T' n (sv_spl n) ∧ ∀ g, g ≤ 1 → so_mi T' n g (fun _ => 99)) (n + 1) (fun t Z ⟨a1, a2, a3, a4, a5⟩ => by
    refine ⟨Z, ?_, a1, a2, fun h l hl => ⟨?_, sv_spl_99⟩, a5⟩
    · show f_X5_fillSplitNeeds_h12 F (f_X5_fillSplitNeeds_l12 F t) (nI (n + 1)) Z = _
      unfold f_X5_fillSplitNeeds_h12
      rw [a2, if_pos (nI_lt (by omega) (by omega))]
    · rw [(a4 h l hl).1]
      unfold so_tb
      rw [if_pos (Or.inl (by omega))]) (fun t s Z hs hI => by
    have hin := lp_inv (fun t2 j Y => f_X5_fillSplitNeeds_l22 F (f_X5_fillSplitNeeds_l12 F t) t2 (nI s) (nI j) Y) (fun j Y => so_I n B s j Y) (fun o => ∃ Y, so_I n B (s + 1) 0 Y ∧ o = f_X5_fillSplitNeeds_l12 F t (nI (s + 1)) Y) (s / 2 + 1) (fun t2 Y ⟨b1, b2, b3, b4, b5⟩ => by
      refine ⟨Y, ⟨b1, b2, b3, fun h l hl => ⟨?_, so_tb_99⟩, b5⟩, ?_⟩
      · rw [(b4 h l hl).1]
        unfold so_tb
        by_cases c : h + l < s ∨ (h + l = s ∧ min h l < s / 2 + 1)
        · rw [if_pos c, if_pos (Or.inl (by omega))]
        · rw [if_neg c, if_neg (by omega)]
      · show f_X5_fillSplitNeeds_h22 F (f_X5_fillSplitNeeds_l12 F t) (f_X5_fillSplitNeeds_l22 F (f_X5_fillSplitNeeds_l12 F t) t2) (nI s) (nI (s / 2 + 1)) Y = _
        unfold f_X5_fillSplitNeeds_h22
        rw [li_mulL, if_pos (nI_lt (by omega) (by omega)), Option.bind_some, nI_1]) (fun t2 j Y hj hY => by
      obtain ⟨Y', c1, c2⟩ := so_I_step hn (show s ≤ n by omega) (show 2 * j ≤ s by omega) hF hY (f_X5_fillSplitNeeds_l12 F t) (f_X5_fillSplitNeeds_l22 F (f_X5_fillSplitNeeds_l12 F t) t2)
      exact ⟨Y', c1, c2⟩) F 0 Z (Nat.zero_le _) (by omega) hI
    obtain ⟨Y, hY, eY⟩ := hin
    refine ⟨Y, hY, ?_⟩
    rw [← eY]
    show f_X5_fillSplitNeeds_h12 F (f_X5_fillSplitNeeds_l12 F t) (nI s) Z = _
    unfold f_X5_fillSplitNeeds_h12
    rw [hI.2.1, if_neg (nI_nlt (by omega) (by omega))]
    rfl) F 0 _ (Nat.zero_le _) (by omega) ⟨(hf.ps).ps, h3, rfl, fun h l hl => ⟨by
      rw [ps_2, ps_2, (hsp h l hl).1]
      unfold so_tb
      rw [if_neg (by omega)], so_tb_99⟩, hmi⟩
def so_mt (n g k w : Nat) : Nat := if w < k then sv_mix n w g else 99
theorem so_fillMixed {F n g : Nat} {B T : si_St} {mo : Nat → Nat} (hn : n ≤ 12) (hg : g ≤ 1) (h3 : T.1 65 3 = nI n) (hf : so_fr n B T) (hsp : so_sp T n (sv_spl n)) (hmi : so_mi T n g (fun _ => 99)) (hmo : so_mi T n (1 - g) mo) (hF : 16 ≤ F) : ∃ T', f_X5_fillMixedNeeds F (nI g) T = some T' ∧ so_fr n B T' ∧ T'.1 65 3 = nI n ∧ so_sp T' n (sv_spl n) ∧ so_mi T' n g (fun v => sv_mix n v g) ∧ so_mi T' n (1 - g) mo := by
  unfold f_X5_fillMixedNeeds
  rw [sm_pz1, Option.bind_some, sm_pt, Option.bind_some, sm_pt, Option.bind_some]
  exact lp_inv (fun t k Z => f_X5_fillMixedNeeds_l17 F t (nI k) Z) (fun k Z => so_fr n B Z ∧ Z.1 65 3 = nI n ∧ Z.1 65 4 = 1 ∧ Z.1 65 5 = nI g ∧ Z.1 65 7 = nI 0 ∧ so_sp Z n (sv_spl n) ∧ so_mi Z n g (so_mt n g k) ∧ so_mi Z n (1 - g) mo) (fun o => ∃ T', o = some T' ∧ so_fr n B T' ∧ T'.1 65 3 = nI n ∧ so_sp T' n (sv_spl n) ∧ so_mi T' n g (fun v => sv_mix n v g) ∧ so_mi T' n (1 - g) mo) (n + 1) (fun t Z ⟨a1, a2, a3, a4, a5, a6, a7, a8⟩ => by
    refine ⟨Z, ?_, a1, a2, a6, fun v hv => ⟨?_, sv_mix_99 hg⟩, a8⟩
    · show f_X5_fillMixedNeeds_h17 F (f_X5_fillMixedNeeds_l17 F t) (nI (n + 1)) Z = _
      unfold f_X5_fillMixedNeeds_h17
      rw [a2, if_pos (nI_lt (by omega) (by omega))]
    · rw [(a7 v hv).1]
      show nI (if v < n + 1 then sv_mix n v g else 99) = nI (sv_mix n v g)
      rw [if_pos (by omega)]) (fun t v Z hv ⟨a1, a2, a3, a4, a5, a6, a7, a8⟩ => by
    have b1 : so_fr n B (si_ps Z 65 6 (nI v)) := a1.ps
    have b3 : (si_ps Z 65 6 (nI v)).1 65 3 = nI n := a2
    have b4 : (si_ps Z 65 6 (nI v)).1 65 4 = 1 := a3
    have b5 : (si_ps Z 65 6 (nI v)).1 65 5 = nI g := a4
    have b6 : (si_ps Z 65 6 (nI v)).1 65 6 = nI v := rfl
    have b7 : (si_ps Z 65 6 (nI v)).1 65 7 = nI 0 := a5
    have bsp : so_sp (si_ps Z 65 6 (nI v)) n (sv_spl n) := a6
    have bmi : so_mi (si_ps Z 65 6 (nI v)) n g (so_mt n g v) := a7
    have bmo : so_mi (si_ps Z 65 6 (nI v)) n (1 - g) mo := a8
    have s0 : f_X5_fillMixedNeeds_l17 F (t + 1) (nI v) Z = if nI v = 0 then (f_X5_fillMixedNeeds_h54 F (f_X5_fillMixedNeeds_l17 F t) (nI v) 0 (nI ((n * 13 + v) * 2 + g)) (si_ps Z 65 6 (nI v))) else (Option.bind (f_X5_leastWorst F (si_ps Z 65 6 (nI v))) fun q5 => Option.bind (f_X5_oneMore F q5.1 q5.2) fun q6 => f_X5_fillMixedNeeds_h54 F (f_X5_fillMixedNeeds_l17 F t) (nI v) q6.1 (nI ((n * 13 + v) * 2 + g)) q6.2) := by
      show f_X5_fillMixedNeeds_h17 F (f_X5_fillMixedNeeds_l17 F t) (nI v) Z = _
      unfold f_X5_fillMixedNeeds_h17
      rw [a2, if_neg (nI_nlt (by omega) (by omega)), sm_pt, Option.bind_some, so_mixedAt b3 b5, Option.bind_some]
    have hlw : f_X5_leastWorst F (si_ps Z 65 6 (nI v)) = some (nI (lf (so_g20 (fun a b _ _ => max (so_mt n g v (v - a - b)) (sv_spl n a b)) (n - v - 0) v 0) 99 (v + 1)), si_ps Z 65 6 (nI v)) := so_least (wv := fun a b _ _ => max (so_mt n g v (v - a - b)) (sv_spl n a b)) hn b3 b6 b7 (by omega) hF (fun a b c d hab hcd => so_worst1 hn hg b3 b4 b5 b6 (by omega) bsp bmi hab)
    have hu : lf (so_g20 (fun a b _ _ => max (so_mt n g v (v - a - b)) (sv_spl n a b)) (n - v - 0) v 0) 99 (v + 1) ≤ 99 := lf_ub so_u20 (Nat.le_refl 99) _
    have heq : 1 ≤ v → min 99 (lf (so_g20 (fun a b _ _ => max (so_mt n g v (v - a - b)) (sv_spl n a b)) (n - v - 0) v 0) 99 (v + 1) + 1) = sv_mix n v g := fun h1 => so_mix_eq (tb := so_mt n g v) hg h1 (fun w hw => if_pos hw) (if_neg (Nat.lt_irrefl v))
    rw [hlw] at s0
    generalize si_ps Z 65 6 (nI v) = Y at *
    refine ⟨si_pa Y 68 ((n * 13 + v) * 2 + g) (nI (sv_mix n v g)), ⟨b1.p68 (by omega) (by omega), b3, b4, b5, b7, fun h l hl => ?_, fun w hw => ⟨?_, ?_⟩, fun w hw => ?_⟩, ?_⟩
    · rw [pa_o (by decide)]
      exact bsp h l hl
    · by_cases hwv : w = v
      · subst hwv
        rw [pa_e]
        show _ = nI (if w < w + 1 then sv_mix n w g else 99)
        rw [if_pos (by omega)]
      · rw [pa_s (by omega), (bmi w hw).1]
        show nI (if w < v then sv_mix n w g else 99) = nI (if w < v + 1 then sv_mix n w g else 99)
        by_cases c : w < v
        · rw [if_pos c, if_pos (by omega)]
        · rw [if_neg c, if_neg (by omega)]
    · show (if w < v + 1 then sv_mix n w g else 99) ≤ 99
      split
      · exact sv_mix_99 hg
      · exact Nat.le_refl _
    · rw [pa_s (by omega)]
      exact bmo w hw
    · have h54 : f_X5_fillMixedNeeds_h54 F (f_X5_fillMixedNeeds_l17 F t) (nI v) (nI (sv_mix n v g)) (nI ((n * 13 + v) * 2 + g)) Y = f_X5_fillMixedNeeds_l17 F t (nI (v + 1)) (si_pa Y 68 ((n * 13 + v) * 2 + g) (nI (sv_mix n v g))) := by
        unfold f_X5_fillMixedNeeds_h54
        rw [wr_68 (by omega), Option.bind_some, nI_1, Option.bind_some]
      show f_X5_fillMixedNeeds_l17 F (t + 1) (nI v) Z = _
      rw [s0]
      by_cases h0 : v = 0
      · have e0 : sv_mix n v g = 0 := sv_mix_0 (by omega)
        rw [e0] at h54 ⊢
        rw [if_pos (by rw [h0]; rfl)]
        exact h54
      · rw [if_neg (nI_ne0 (by omega) (by omega)), Option.bind_some]
        try dsimp only
        rw [so_more hu, Option.bind_some]
        try dsimp only
        rw [heq (by omega)]
        exact h54) F 0 _ (Nat.zero_le _) (by omega) ⟨((hf.ps).ps).ps, h3, rfl, rfl, rfl, hsp, fun v hv => ⟨by
      show _ = nI (if v < 0 then sv_mix n v g else 99)
      rw [if_neg (Nat.not_lt_zero v)]
      exact (hmi v hv).1, by
      show (if v < 0 then sv_mix n v g else 99) ≤ 99
      rw [if_neg (Nat.not_lt_zero v)]
      exact Nat.le_refl 99⟩, hmo⟩

