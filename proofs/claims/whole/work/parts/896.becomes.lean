/-! parse: the draft taken over by the other side -/
def fN (S T : si_St) : Prop := (∀ a j, ¬ (a = 87 ∧ (j = 2 ∨ j = 3 ∨ j = 8 ∨ j = 10 ∨ j = 41)) → T.1 a j = S.1 a j) ∧ (∀ r, ¬ (88 ≤ r ∧ r ≤ 96) → r ≠ 112 → T.2.1 r = S.2.1 r) ∧ T.2.2 = S.2.2
def be_ok (u : Nat → Nat → Nat) (T : si_St) : Prop := iv_mm (T.1 87) T.2.1 u ∧ T.1 87 41 = 0 ∧ T.2.1 112 0 = 0 ∧ T.2.1 112 1 = 0 ∧ T.2.1 88 0 = 0 ∧ ∀ x, x < u 3 0 → T.2.1 88 (661 + x) = nI (2 ^ u 9 x - 1) ∧ T.2.1 88 (665 + x) = nI (2 ^ u 9 x - 1) ∧ T.2.1 88 (669 + x) = nI (u 10 x) ∧ T.2.1 88 (673 + x) = 0
/-- the sets of weights anew -/
theorem be_3 {F : Nat} {u : Nat → Nat → Nat} {S : si_St} (hF : 1100 ≤ F) (g0 : iv_mok u) (h10 : S.1 87 10 = nI (u 3 0)) (h94 : ∀ i, i < u 3 0 → S.2.1 94 i = nI (u 9 i)) (h104 : ∀ i, i < u 3 0 → S.2.1 104 i = nI (u 10 i)) (hz : ∀ i, i < 677 → S.2.1 88 i = 0) : ∃ T, f_X10_becomes_l183 F F 0 S = some T ∧ (∀ a j, ¬ (a = 87 ∧ j = 41) → T.1 a j = S.1 a j) ∧ (∀ r, r ≠ 88 → r ≠ 95 → r ≠ 112 → T.2.1 r = S.2.1 r) ∧ T.2.2 = S.2.2 ∧ (∀ i, i < u 3 0 → T.2.1 95 i = nI (u 10 i)) ∧ T.1 87 41 = 0 ∧ T.2.1 112 0 = 0 ∧ T.2.1 112 1 = 0 ∧ T.2.1 88 0 = 0 ∧ ∀ x, x < u 3 0 → T.2.1 88 (661 + x) = nI (2 ^ u 9 x - 1) ∧ T.2.1 88 (665 + x) = nI (2 ^ u 9 x - 1) ∧ T.2.1 88 (669 + x) = nI (u 10 x) ∧ T.2.1 88 (673 + x) = 0 := by
  have hn := g0.2.2.2.1
  exact lp_inv (fun t m T => f_X10_becomes_l183 F t (nI m) T) (fun m T => T.1 = S.1 ∧ (∀ r, r ≠ 88 → r ≠ 95 → T.2.1 r = S.2.1 r) ∧ T.2.2 = S.2.2 ∧ (∀ i, i < m → T.2.1 95 i = nI (u 10 i)) ∧ T.2.1 88 0 = 0 ∧ (∀ x, x < u 3 0 → T.2.1 88 (673 + x) = 0) ∧ ∀ x, x < m → T.2.1 88 (661 + x) = nI (2 ^ u 9 x - 1) ∧ T.2.1 88 (665 + x) = nI (2 ^ u 9 x - 1) ∧ T.2.1 88 (669 + x) = nI (u 10 x)) (fun o => ∃ T, o = some T ∧ (∀ a j, ¬ (a = 87 ∧ j = 41) → T.1 a j = S.1 a j) ∧ (∀ r, r ≠ 88 → r ≠ 95 → r ≠ 112 → T.2.1 r = S.2.1 r) ∧ T.2.2 = S.2.2 ∧ (∀ i, i < u 3 0 → T.2.1 95 i = nI (u 10 i)) ∧ T.1 87 41 = 0 ∧ T.2.1 112 0 = 0 ∧ T.2.1 112 1 = 0 ∧ T.2.1 88 0 = 0 ∧ ∀ x, x < u 3 0 → T.2.1 88 (661 + x) = nI (2 ^ u 9 x - 1) ∧ T.2.1 88 (665 + x) = nI (2 ^ u 9 x - 1) ∧ T.2.1 88 (669 + x) = nI (u 10 x) ∧ T.2.1 88 (673 + x) = 0) (u 3 0) (fun t T ⟨i1, i2, i3, i4, i5, i6, i7⟩ => by
    have w0 : ∀ T : si_St, si_wr T 112 0 0 = some (si_pa T 112 0 0) := fun T => sm_wr (i := 0) (by decide) (by decide)
    have w1 : ∀ T : si_St, si_wr T 112 1 0 = some (si_pa T 112 1 0) := fun T => sm_wr (i := 1) (by decide) (by decide)
    refine ⟨si_pa (si_pa (si_ps T 87 41 0) 112 0 0) 112 1 0, ?_, fun a j h => ?_, fun r h1 h2 h3 => ?_, i3, fun i hi => ?_, (show (si_ps T 87 41 0).1 87 41 = 0 from ps_e), ?_, pa_e, ?_, fun x hx => ?_⟩
    · show f_X10_becomes_h183 F _ (nI (u 3 0)) T = _
      unfold f_X10_becomes_h183
      rw [i1, h10, if_pos (Int32.le_refl _), sm_pt, Option.bind_some, sm_wz01 (Or.inl rfl), w0, Option.bind_some, sm_wz01 (Or.inl rfl), w1, Option.bind_some]
    · rw [pa_1, pa_1, ps_o h, i1]
    · rw [pa_o h3, pa_o h3]
      exact i2 r h1 h2
    · rw [pa_o (by decide), pa_o (by decide)]
      exact i4 i hi
    · rw [pa_s (by decide), pa_e]
    · rw [pa_o (by decide), pa_o (by decide)]
      exact i5
    · obtain ⟨q1, q2, q3⟩ := i7 x hx
      rw [pa_o (by decide), pa_o (by decide)]
      exact ⟨q1, q2, q3, i6 x hx⟩) (fun t m T hm ⟨i1, i2, i3, i4, i5, i6, i7⟩ => by
    have gs := g0.2.2.2.2.2.2.1 m hm
    have e94 : T.2.1 94 m = nI (u 9 m) := by rw [i2 94 (by decide) (by decide)]; exact h94 m hm
    have e104 : T.2.1 104 m = nI (u 10 m) := by rw [i2 104 (by decide) (by decide)]; exact h104 m hm
    have y01 : u 10 m = 0 ∨ u 10 m = 1 := by omega
    have z01 : nI (u 10 m) = 0 ∨ nI (u 10 m) = 1 := y01.imp (fun h => by rw [h]; rfl) (fun h => by rw [h]; rfl)
    refine ⟨si_pa (si_pa (si_pa (si_pa T 95 m (nI (u 10 m))) 88 (661 + m) (nI (2 ^ u 9 m - 1))) 88 (665 + m) (nI (2 ^ u 9 m - 1))) 88 (669 + m) (nI (u 10 m)), ⟨i1, fun r h1 h2 => ?_, i3, fun i hi => ?_, ?_, fun x hx => ?_, fun x hx => ?_⟩, ?_⟩
    · rw [pa_o h1, pa_o h1, pa_o h1, pa_o h2]
      exact i2 r h1 h2
    · rw [pa_o (by decide), pa_o (by decide), pa_o (by decide)]
      by_cases e : i = m
      · rw [e, pa_e]
      · rw [pa_s e]
        exact i4 i (by omega)
    · rw [pa_s (by omega), pa_s (by omega), pa_s (by omega), pa_o (by decide)]
      exact i5
    · rw [pa_s (by omega), pa_s (by omega), pa_s (by omega), pa_o (by decide)]
      exact i6 x hx
    · by_cases e : x = m
      · rw [e]
        refine ⟨?_, ?_, pa_e⟩
        · rw [pa_s (by omega), pa_s (by omega), pa_e]
        · rw [pa_s (by omega), pa_e]
      · obtain ⟨q1, q2, q3⟩ := i7 x (by omega)
        refine ⟨?_, ?_, ?_⟩
        · rw [pa_s (by omega), pa_s (by omega), pa_s (by omega), pa_o (by decide)]
          exact q1
        · rw [pa_s (by omega), pa_s (by omega), pa_s (by omega), pa_o (by decide)]
          exact q2
        · rw [pa_s (by omega), pa_s (by omega), pa_s (by omega), pa_o (by decide)]
          exact q3
    · show f_X10_becomes_h183 F (f_X10_becomes_l183 F t) (nI m) T = _
      unfold f_X10_becomes_h183 f_X10_becomes_h266
      have e94' : (si_pa T 95 m (nI (u 10 m))).2.1 94 m = nI (u 9 m) := by rw [pa_o (by decide)]; exact e94
      have e95 : (si_pa (si_pa (si_pa T 95 m (nI (u 10 m))) 88 (661 + m) (nI (2 ^ u 9 m - 1))) 88 (665 + m) (nI (2 ^ u 9 m - 1))).2.1 95 m = nI (u 10 m) := by rw [pa_o (by decide), pa_o (by decide), pa_e]
      rw [i1, h10, if_neg (nI_ge hm (by omega)), rd_104 (by omega), Option.bind_some, e104, sm_wz01 z01, wr_95 (by omega), Option.bind_some, sm_rd (show m < 4 by omega) (by decide), Option.bind_some, e94', tk_sets (by omega), li_addL, wr_88 (by omega), Option.bind_some, rd_88 (by omega), Option.bind_some, pa_e, li_addL, wr_88 (by omega), Option.bind_some, sm_rd (show m < 4 by omega) (by decide), Option.bind_some, e95, li_addL]
      rcases y01 with y | y
      · rw [y, if_pos (show nI 0 = 0 from rfl), show (0 : Int32) = nI 0 from rfl, wr_88 (by omega), Option.bind_some, Option.bind_some, nI_1]
      · rw [y, if_neg (show ¬ nI 1 = 0 by decide), show (1 : Int32) = nI 1 from rfl, wr_88 (by omega), Option.bind_some, Option.bind_some, nI_add]) F 0 S (Nat.zero_le _) (by omega) ⟨rfl, fun _ _ _ => rfl, rfl, fun x hx => absurd hx (Nat.not_lt_zero _), hz 0 (by decide), fun x hx => hz _ (by omega), fun x hx => absurd hx (Nat.not_lt_zero _)⟩
theorem be_2 {F : Nat} {S : si_St} (hF : 1100 ≤ F) : ∃ T, f_X10_becomes_l161 F F 0 S = f_X10_becomes_l183 F F 0 T ∧ T.1 = S.1 ∧ (∀ r, r ≠ 88 → T.2.1 r = S.2.1 r) ∧ T.2.2 = S.2.2 ∧ ∀ i, i < 677 → T.2.1 88 i = 0 := by
  exact lp_inv (fun t m T => f_X10_becomes_l161 F t (nI m) T) (fun m T => T.1 = S.1 ∧ (∀ r, r ≠ 88 → T.2.1 r = S.2.1 r) ∧ T.2.2 = S.2.2 ∧ ∀ i, i < m → T.2.1 88 i = 0) (fun o => ∃ T, o = f_X10_becomes_l183 F F 0 T ∧ T.1 = S.1 ∧ (∀ r, r ≠ 88 → T.2.1 r = S.2.1 r) ∧ T.2.2 = S.2.2 ∧ ∀ i, i < 677 → T.2.1 88 i = 0) 677 (fun t T h => by
    refine ⟨T, ?_, h⟩
    show f_X10_becomes_h161 F _ (nI 677) T = _
    unfold f_X10_becomes_h161
    rw [if_pos (show 677 ≤ nI 677 by decide)]) (fun t m T hm ⟨i1, i2, i3, i4⟩ => by
    refine ⟨si_pa T 88 m 0, ⟨i1, fun r hr => (pa_o hr).trans (i2 r hr), i3, fun i hi => ?_⟩, ?_⟩
    · by_cases e : i = m
      · rw [e, pa_e]
      · rw [pa_s e]
        exact i4 i (by omega)
    · show f_X10_becomes_h161 F (f_X10_becomes_l161 F t) (nI m) T = _
      unfold f_X10_becomes_h161
      rw [if_neg (show ¬ 677 ≤ nI m from nI_ge (b := 677) hm (by decide)), wr_88 hm, Option.bind_some, Option.bind_some, nI_1]) F 0 S (Nat.zero_le _) (by omega) ⟨rfl, fun _ _ => rfl, rfl, fun i hi => absurd hi (Nat.not_lt_zero _)⟩
theorem be_1 {F : Nat} {u : Nat → Nat → Nat} {S : si_St} (hF : 1100 ≤ F) (g0 : iv_mok u) (h105 : ∀ c, c < 3 → S.2.1 105 c = nI (u 11 c)) : ∃ T, f_X10_becomes_l123 F F 0 S = f_X10_becomes_l161 F F 0 T ∧ T.1 = S.1 ∧ (∀ r, r ≠ 96 → T.2.1 r = S.2.1 r) ∧ T.2.2 = S.2.2 ∧ ∀ c, c < 3 → T.2.1 96 c = nI (if u 11 c = 0 then 2 else u 11 c) := by
  exact lp_inv (fun t m T => f_X10_becomes_l123 F t (nI m) T) (fun m T => T.1 = S.1 ∧ (∀ r, r ≠ 96 → T.2.1 r = S.2.1 r) ∧ T.2.2 = S.2.2 ∧ ∀ c, c < m → T.2.1 96 c = nI (if u 11 c = 0 then 2 else u 11 c)) (fun o => ∃ T, o = f_X10_becomes_l161 F F 0 T ∧ T.1 = S.1 ∧ (∀ r, r ≠ 96 → T.2.1 r = S.2.1 r) ∧ T.2.2 = S.2.2 ∧ ∀ c, c < 3 → T.2.1 96 c = nI (if u 11 c = 0 then 2 else u 11 c)) 3 (fun t T h => by
    refine ⟨T, ?_, h⟩
    show f_X10_becomes_h123 F _ (nI 3) T = _
    unfold f_X10_becomes_h123
    rw [if_pos (show 3 ≤ nI 3 by decide)]) (fun t m T hm ⟨i1, i2, i3, i4⟩ => by
    have e105 : T.2.1 105 m = nI (u 11 m) := by rw [i2 105 (by decide)]; exact h105 m hm
    have u5 := g0.2.2.2.2.2.2.2 m hm
    refine ⟨si_pa T 96 m (nI (if u 11 m = 0 then 2 else u 11 m)), ⟨i1, fun r hr => (pa_o hr).trans (i2 r hr), i3, fun i hi => ?_⟩, ?_⟩
    · by_cases e : i = m
      · rw [e, pa_e]
      · rw [pa_s e]
        exact i4 i (by omega)
    · show f_X10_becomes_h123 F (f_X10_becomes_l123 F t) (nI m) T = _
      unfold f_X10_becomes_h123 f_X10_becomes_h152
      rw [if_neg (show ¬ 3 ≤ nI m from nI_ge (b := 3) hm (by decide)), rd_105 hm, Option.bind_some, e105]
      by_cases c : u 11 m = 0
      · rw [if_pos (show nI (u 11 m) = 0 by rw [c]; rfl), if_pos c, wr_96 hm, Option.bind_some, Option.bind_some, nI_1]
        all_goals rfl
      · rw [if_neg (show ¬ nI (u 11 m) = 0 from sm_ne (b := 0) c (by omega) (by decide)), Option.bind_some, wr_96 hm, Option.bind_some, Option.bind_some, nI_1, if_neg c]) F 0 S (Nat.zero_le _) (by omega) ⟨rfl, fun _ _ => rfl, rfl, fun i hi => absurd hi (Nat.not_lt_zero _)⟩
theorem be_all {F : Nat} {u : Nat → Nat → Nat} {B : si_St} (hF : 1100 ≤ F) (g0 : iv_mok u) (m : md (B.1 87) B.2.1 u) : ∃ T, f_X10_becomes F B = some T ∧ fN B T ∧ be_ok u T := by
  obtain ⟨m1, m2, m3, m4, m5, m6, m7, m8⟩ := m
  have g1 := g0.2.1
  have g2 := g0.2.2.1
  have g3 := g0.2.2.2.1
  have cp : ∀ (S : si_St) (k0 k2 n : Nat), k0 ≠ k2 → n ≤ si_ln k0 → n ≤ si_ln k2 → si_ln k0 < 2 ^ 31 → si_ln k2 < 2 ^ 31 → n < 1000 → f_X10_copies F k0 k2 0 0 (nI n) S = some (si_ca S k0 0 k2 0 n) := fun S k0 k2 n h1 h2 h3 h4 h5 h6 => sm_copies (a := 0) (b := 0) h1 (by omega) (by omega) h4 h5 (by omega)
  have c1 : ∀ S, f_X10_copies F 98 89 0 0 24 S = some (si_ca S 98 0 89 0 24) := fun S => cp S 98 89 24 (by decide) (by decide) (by decide) (by decide) (by decide) (by decide)
  have c2 : ∀ S, f_X10_copies F 99 90 0 0 24 S = some (si_ca S 99 0 90 0 24) := fun S => cp S 99 90 24 (by decide) (by decide) (by decide) (by decide) (by decide) (by decide)
  have c3 : ∀ S, f_X10_copies F 100 91 0 0 24 S = some (si_ca S 100 0 91 0 24) := fun S => cp S 100 91 24 (by decide) (by decide) (by decide) (by decide) (by decide) (by decide)
  have c4 : ∀ S, f_X10_copies F 101 92 0 0 24 S = some (si_ca S 101 0 92 0 24) := fun S => cp S 101 92 24 (by decide) (by decide) (by decide) (by decide) (by decide) (by decide)
  have c5 : ∀ S, f_X10_copies F 102 93 0 0 10 S = some (si_ca S 102 0 93 0 10) := fun S => cp S 102 93 10 (by decide) (by decide) (by decide) (by decide) (by decide) (by decide)
  have c6 : ∀ S, f_X10_copies F 103 94 0 0 4 S = some (si_ca S 103 0 94 0 4) := fun S => cp S 103 94 4 (by decide) (by decide) (by decide) (by decide) (by decide) (by decide)
  unfold f_X10_becomes
  rw [sm_pt, Option.bind_some, sm_pt, Option.bind_some, c1, Option.bind_some, c2, Option.bind_some, c3, Option.bind_some, c4, Option.bind_some, sm_pt, Option.bind_some, c5, Option.bind_some, sm_pt, Option.bind_some, c6, Option.bind_some]
  have step : ∃ S28 : si_St, S28 = si_ca (si_ps (si_ca (si_ps (si_ca (si_ca (si_ca (si_ca (si_ps (si_ps B 87 2 (B.1 87 24)) 87 3 ((si_ps B 87 2 (B.1 87 24)).1 87 25)) 98 0 89 0 24) 99 0 90 0 24) 100 0 91 0 24) 101 0 92 0 24) 87 8 ((si_ca (si_ca (si_ca (si_ca (si_ps (si_ps B 87 2 (B.1 87 24)) 87 3 ((si_ps B 87 2 (B.1 87 24)).1 87 25)) 98 0 89 0 24) 99 0 90 0 24) 100 0 91 0 24) 101 0 92 0 24).1 87 30)) 102 0 93 0 10) 87 10 ((si_ca (si_ps (si_ca (si_ca (si_ca (si_ca (si_ps (si_ps B 87 2 (B.1 87 24)) 87 3 ((si_ps B 87 2 (B.1 87 24)).1 87 25)) 98 0 89 0 24) 99 0 90 0 24) 100 0 91 0 24) 101 0 92 0 24) 87 8 ((si_ca (si_ca (si_ca (si_ca (si_ps (si_ps B 87 2 (B.1 87 24)) 87 3 ((si_ps B 87 2 (B.1 87 24)).1 87 25)) 98 0 89 0 24) 99 0 90 0 24) 100 0 91 0 24) 101 0 92 0 24).1 87 30)) 102 0 93 0 10).1 87 32)) 103 0 94 0 4 := ⟨_, rfl⟩
  obtain ⟨S28, hS⟩ := step
  rw [← hS]
  have d2 : S28.1 87 2 = nI (u 0 0) := by rw [hS]; exact m1
  have d3 : S28.1 87 3 = nI (u 1 0) := by rw [hS]; exact m2
  have d8 : S28.1 87 8 = nI (u 2 0) := by rw [hS]; exact m3
  have d10 : S28.1 87 10 = nI (u 3 0) := by rw [hS]; exact m4
  have do_ : ∀ a j, ¬ (a = 87 ∧ (j = 2 ∨ j = 3 ∨ j = 8 ∨ j = 10)) → S28.1 a j = B.1 a j := fun a j h => by
    rw [hS]
    show (if a = 87 ∧ j = 10 then _ else if a = 87 ∧ j = 8 then _ else if a = 87 ∧ j = 3 then _ else if a = 87 ∧ j = 2 then _ else B.1 a j) = _
    rw [if_neg (by omega), if_neg (by omega), if_neg (by omega), if_neg (by omega)]
  have ro : ∀ r, ¬ (89 ≤ r ∧ r ≤ 94) → S28.2.1 r = B.2.1 r := fun r hr => by
    rw [hS, sn_o (by omega), sn_p, sn_o (by omega), sn_p, sn_o (by omega), sn_o (by omega), sn_o (by omega), sn_o (by omega), sn_p, sn_p]
  have r89 : ∀ i, i < 24 → S28.2.1 89 i = B.2.1 98 i := fun i hi => by
    rw [hS, sn_o (by decide), sn_p, sn_o (by decide), sn_p, sn_o (by decide), sn_o (by decide), sn_o (by decide), sn_i hi, sn_p, sn_p]
  have r90 : ∀ i, i < 24 → S28.2.1 90 i = B.2.1 99 i := fun i hi => by
    rw [hS, sn_o (by decide), sn_p, sn_o (by decide), sn_p, sn_o (by decide), sn_o (by decide), sn_i hi, sn_o (by decide), sn_p, sn_p]
  have r91 : ∀ i, i < 24 → S28.2.1 91 i = B.2.1 100 i := fun i hi => by
    rw [hS, sn_o (by decide), sn_p, sn_o (by decide), sn_p, sn_o (by decide), sn_i hi, sn_o (by decide), sn_o (by decide), sn_p, sn_p]
  have r92 : ∀ i, i < 24 → S28.2.1 92 i = B.2.1 101 i := fun i hi => by
    rw [hS, sn_o (by decide), sn_p, sn_o (by decide), sn_p, sn_i hi, sn_o (by decide), sn_o (by decide), sn_o (by decide), sn_p, sn_p]
  have r93 : ∀ i, i < 10 → S28.2.1 93 i = B.2.1 102 i := fun i hi => by
    rw [hS, sn_o (by decide), sn_p, sn_i hi, sn_p, sn_o (by decide), sn_o (by decide), sn_o (by decide), sn_o (by decide), sn_p, sn_p]
  have r94 : ∀ i, i < 4 → S28.2.1 94 i = B.2.1 103 i := fun i hi => by
    rw [hS, sn_i hi, sn_p, sn_o (by decide), sn_p, sn_o (by decide), sn_o (by decide), sn_o (by decide), sn_o (by decide), sn_p, sn_p]
  have z2 : S28.2.2 = B.2.2 := by rw [hS]; rfl
  clear hS
  obtain ⟨T1, t1, t2, t3, t4, t5⟩ := be_1 (F := F) (S := S28) hF g0 (fun c hc => by rw [ro 105 (by decide)]; exact m8 c hc)
  obtain ⟨T2, v1, v2, v3, v4, v5⟩ := be_2 (F := F) (S := T1) hF
  obtain ⟨T3, w1, w2, w3, w4, w5, w6, w7, w8, w9, w10⟩ := be_3 (F := F) (S := T2) hF g0 (by rw [v2, t2]; exact d10) (fun i hi => by rw [v3 94 (by decide), t3 94 (by decide), r94 i (by omega)]; exact (m7 i hi).1) (fun i hi => by rw [v3 104 (by decide), t3 104 (by decide), ro 104 (by decide)]; exact (m7 i hi).2) v5
  rw [t1, v1, w1]
  have row : ∀ r, r ≠ 88 → r ≠ 95 → r ≠ 112 → r ≠ 96 → T3.2.1 r = S28.2.1 r := fun r h1 h2 h3 h4 => by rw [w3 r h1 h2 h3, v3 r h1, t3 r h4]
  have sc : ∀ a j, ¬ (a = 87 ∧ j = 41) → T3.1 a j = S28.1 a j := fun a j h => by rw [w2 a j h, v2, t2]
  refine ⟨T3, rfl, ⟨fun a j h => ?_, fun r h1 h2 => ?_, ?_⟩, ⟨?_, ?_, ?_, ?_, fun i hi => ?_, fun i hi => ?_, fun i hi => ?_, fun c hc => ?_⟩, w6, w7, w8, w9, w10⟩
  · rw [sc a j (by omega), do_ a j (by omega)]
  · rw [row r (by omega) (by omega) (by omega) (by omega), ro r (by omega)]
  · rw [w4, v4, t4, z2]
  · rw [sc 87 2 (by decide)]
    exact d2
  · rw [sc 87 3 (by decide)]
    exact d3
  · rw [sc 87 8 (by decide)]
    exact d8
  · rw [sc 87 10 (by decide)]
    exact d10
  · rw [row 89 (by decide) (by decide) (by decide) (by decide), row 90 (by decide) (by decide) (by decide) (by decide), row 91 (by decide) (by decide) (by decide) (by decide), row 92 (by decide) (by decide) (by decide) (by decide), r89 i (by omega), r90 i (by omega), r91 i (by omega), r92 i (by omega)]
    exact m5 i hi
  · rw [row 93 (by decide) (by decide) (by decide) (by decide), r93 i (by omega)]
    exact m6 i hi
  · rw [row 94 (by decide) (by decide) (by decide) (by decide), r94 i (by omega)]
    exact ⟨(m7 i hi).1, w5 i hi⟩
  · rw [w3 96 (by decide) (by decide) (by decide), v3 96 (by decide)]
    exact t5 c hc
