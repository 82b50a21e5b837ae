-- the other side's seals and risks
def sy_m (S : si_St) (u : Nat → Nat → Nat) (V : Nat) (D : sy_D) : Prop := iv_mok u ∧ iv_mm (S.1 87) S.2.1 u ∧ V ≤ 30 ∧ S.2.1 88 0 = nI V ∧ ∀ v, v < V → D.1 v < u 1 0 ∧ D.2.1 v ≤ 9999 ∧ S.2.1 88 (1 + v) = nI (D.1 v) ∧ S.2.1 88 (31 + v) = nI (D.2.1 v) ∧ D.2.2.1 v ≤ 5 ∧ ((D.2.2.2 v = false ∧ S.2.1 88 (61 + v) = 0) ∨ (D.2.2.2 v = true ∧ S.2.1 88 (61 + v) = 1 ∧ S.2.1 88 (91 + v) = nI (D.2.2.1 v)))
theorem sy_of {S : si_St} {u : Nat → Nat → Nat} {V : Nat} (g0 : iv_mok u) (hV : V ≤ 30) (h7 : S.1 7 0 = nI V) (hv : iv_view u (nI V) (fun j => S.2.1 (7 + j)) (fun j => S.2.1 (16 + j)) (S.2.1 88)) : ∃ D, sy_ok S u V D := by
  obtain ⟨⟨V2, hV2, hc, hn, hv⟩, -⟩ := hv
  have hVV : V = V2 := sm_inj (by omega) (by omega) hc
  subst hVV
  refine ⟨(fun v => (S.2.1 8 v).toNatClampNeg, fun v => (S.2.1 9 v).toNatClampNeg, fun v => if S.2.1 11 v = -1 then 0 else (S.2.1 11 v).toNatClampNeg, fun v => !decide (S.2.1 11 v = -1)), hV, h7, hn, fun v hvV => ?_⟩
  obtain ⟨⟨s, hs, a1, m1, -⟩, ⟨d, hd, a2, m2⟩, -, h4⟩ := hv v hvV
  have h24 := g0.2.1
  have a1' : S.2.1 8 v = nI s := a1
  have a2' : S.2.1 9 v = nI d := a2
  dsimp only
  rw [a1', a2', m1, m2, nI_clamp (n := d) (by omega), nI_clamp (n := s) (by omega)]
  rcases h4 with ⟨q1, q2⟩ | ⟨r, hr5, q1, q2, q3⟩
  · have q1' : S.2.1 11 v = -1 := q1
    rw [q1', q2, if_pos rfl]
    exact ⟨hs, hd, rfl, rfl, rfl, rfl, by decide, Or.inl ⟨rfl, rfl, rfl⟩⟩
  · have q1' : S.2.1 11 v = nI r := q1
    have qm : ¬ nI r = -1 := sm_m1 (by omega)
    rw [q1', q2, q3, if_neg qm, nI_clamp (by omega), decide_eq_false qm]
    exact ⟨hs, hd, rfl, rfl, rfl, rfl, hr5, Or.inr ⟨rfl, rfl, rfl, rfl⟩⟩
theorem sy_mof {S T : si_St} {u : Nat → Nat → Nat} {V : Nat} {D : sy_D} (g0 : iv_mok u) (g2 : iv_mm (S.1 87) S.2.1 u) (h : sy_ok S u V D) (e1 : ∀ j, j ≠ 0 → T.1 87 j = S.1 87 j) (e2 : ∀ r, 88 ≤ r → r ≤ 96 → T.2.1 r = S.2.1 r) : sy_m T u V D := by
  obtain ⟨hV, -, h88, hv⟩ := h
  refine ⟨g0, g2.cg (e1 2 (by decide)) (e1 3 (by decide)) (e1 8 (by decide)) (e1 10 (by decide)) (fun r r1 r2 => e2 r (by omega) r2), hV, by rw [e2 88 (by decide) (by decide)]; exact h88, fun v hvV => ?_⟩
  obtain ⟨d1, d2, d3, d4, d5, d6, d7, d8⟩ := hv v hvV
  rw [e2 88 (by decide) (by decide)]
  refine ⟨d1, d2, d5, d6, d7, d8.imp (fun h => ⟨h.1, h.2.2⟩) (fun h => ⟨h.1, h.2.2.1, h.2.2.2⟩)⟩
def sy_lo : Option Nat → Int32
  | none => -2
  | some v => nI v
theorem sy_last {F s dd V : Nat} {S : si_St} {u : Nat → Nat → Nat} {D : sy_D} (h : sy_m S u V D) (hs : s < u 1 0) (hdd : dd ≤ 9999) (hF : 31 ≤ F) : f_X10_last F (nI s) (nI dd) S = some (sy_lo (sy_la D dd s V), S) := by
  obtain ⟨g0, g2, hV, h88, hv⟩ := h
  have h24 := g0.2.1
  exact lp_go (fun t k => f_X10_last_l6 F t (nI s) (nI dd) (sy_lo (sy_la D dd s k)) (nI k) S) (some (sy_lo (sy_la D dd s V), S)) V (fun t => by
    show f_X10_last_h6 F (f_X10_last_l6 F t) (nI s) (nI dd) _ (nI V) S = _
    unfold f_X10_last_h6
    rw [rd_88z, Option.bind_some, h88, if_pos (Int32.le_refl _)]) (fun t k hk => by
    obtain ⟨d1, d2, d5, d6, d7, d8⟩ := hv k hk
    show f_X10_last_h6 F (f_X10_last_l6 F t) (nI s) (nI dd) _ (nI k) S = f_X10_last_l6 F t (nI s) (nI dd) (sy_lo (if D.1 k = s ∧ sy_ct D dd k = true then some k else sy_la D dd s k)) (nI (k + 1)) S
    unfold f_X10_last_h6 f_X10_last_h63 f_X10_last_h64
    rw [rd_88z, Option.bind_some, h88, if_neg (nI_ge hk (by omega)), li_addL, rd_88 (by omega), Option.bind_some, d5, li_addL, rd_88 (by omega), Option.bind_some, li_addL, rd_88 (by omega), Option.bind_some, d6, Option.bind_some, Option.bind_some, nI_1]
    by_cases hsc : D.1 k = s
    · rw [if_pos (by rw [hsc])]
      rcases d8 with ⟨c1, c2⟩ | ⟨c1, c2, -⟩
      · rw [c2, if_neg (by decide), if_neg (fun h => by unfold sy_ct at h; rw [c1] at h; exact absurd h.2 Bool.false_ne_true)]
      · rw [c2, if_pos rfl]
        by_cases hlt : dd < D.2.1 k
        · rw [if_pos (nI_lt hlt (by omega)), if_neg (fun h => by unfold sy_ct at h; rw [c1, decide_eq_false (by omega)] at h; exact absurd h.2 (by decide))]
        · rw [if_neg (nI_nlt (by omega) (by omega)), if_pos ⟨hsc, by unfold sy_ct; rw [c1, decide_eq_true (by omega)]; rfl⟩]
          rfl
    · rw [if_neg (sm_ne hsc (by omega) (by omega)), if_neg (fun h => hsc h.1)]) F 0 (Nat.zero_le _) (by omega)
theorem sy_exp {F v dd s V : Nat} {S : si_St} {u : Nat → Nat → Nat} {D : sy_D} (h : sy_m S u V D) (hl : sy_la D dd s V = some v) : f_X10_expires F (nI v) S = some (nI (sy_ey D u s v * 360), S) ∧ sy_ey D u s v ≤ 32 := by
  obtain ⟨hvV, hsc, -⟩ := sy_la_lt hl
  obtain ⟨g0, g2, hV, h88, hv⟩ := h
  obtain ⟨d1, d2, d5, d6, d7, d8⟩ := hv v hvV
  have h24 := g0.2.1
  rw [hsc] at d1 d5
  have m90 := (g2.2.2.2.2.1 s d1).2.1
  have q5 := (g0.2.2.2.2.1 s d1).2.1
  have m96 := g2.2.2.2.2.2.2.2 (u 5 s) q5
  have ht := sy_tm_le g0 d1
  have e360 : nI (D.2.1 v) / 360 = nI (D.2.1 v / 360) := pk_div (d := 360) (by omega) (by decide) (by decide)
  refine ⟨?_, by unfold sy_ey; omega⟩
  unfold f_X10_expires
  rw [li_addL, rd_88 (by omega), Option.bind_some, d6, li_addL, rd_88 (by omega), Option.bind_some, d5, rd_90 (by omega), Option.bind_some, m90, rd_96 (by omega), Option.bind_some, m96, e360, nI_add, li_mulR]
  rfl
theorem sy_mst {F s dd V : Nat} {S : si_St} {u : Nat → Nat → Nat} {D : sy_D} (h : sy_m S u V D) (hs : s < u 1 0) (hdd : dd ≤ 9999) (hF : 31 ≤ F) : f_X10_stateOf F (nI s) (nI dd) S = some (nI (sy_st D u dd V s), S) := by
  unfold f_X10_stateOf f_X10_stateOf_h47 sy_st
  rw [sy_last h hs hdd hF, Option.bind_some]
  cases hl : sy_la D dd s V with
  | none => rfl
  | some v =>
    obtain ⟨hvV, hsc, hct⟩ := sy_la_lt hl
    obtain ⟨ex, ey⟩ := sy_exp (F := F) h hl
    obtain ⟨d1, d2, d5, d6, d7, d8⟩ := h.2.2.2.2 v hvV
    have hV := h.2.2.1
    have hcl : D.2.2.2 v = true := by
      unfold sy_ct at hct
      rw [Bool.and_eq_true] at hct
      exact hct.1
    have hrow : S.2.1 88 (91 + v) = nI (D.2.2.1 v) := by
      rcases d8 with ⟨c1, -⟩ | ⟨-, -, c2⟩
      · rw [hcl] at c1
        cases c1
      · exact c2
    have hn2 : ¬ sy_lo (some v) = -2 := by
      intro hz
      have h9 := congrArg Int32.toInt hz
      have h8 : (nI v).toInt = (v : Int) := nI_toInt (by omega)
      have h7 : (-2 : Int32).toInt = -2 := by decide
      have h6 : (sy_lo (some v)).toInt = (nI v).toInt := rfl
      omega
    dsimp only
    rw [if_neg hn2]
    show (Option.bind (si_rd S 88 (91 + nI v)) fun v2 => if v2 ≤ 0 then (Option.bind (f_X10_expires F (nI v) S) _) else _) = some (nI (if D.2.2.1 v = 0 then (if dd / 360 < sy_ey D u s v then 1 else 2) else 3), S)
    rw [li_addL, rd_88 (by omega), Option.bind_some, hrow, ex, Option.bind_some]
    dsimp only
    by_cases h0 : D.2.2.1 v = 0
    · rw [if_pos (show nI (D.2.2.1 v) ≤ 0 by rw [h0]; exact Int32.le_refl _), if_pos h0]
      by_cases hlt : dd / 360 < sy_ey D u s v
      · rw [if_neg (nI_ge (by omega) (by omega)), if_pos hlt]
        rfl
      · rw [if_pos (nI_le (by omega) (by omega)), if_neg hlt]
        rfl
    · rw [if_neg (show ¬ nI (D.2.2.1 v) ≤ 0 from nI_nle (by omega) (by omega)), if_neg h0]
      rfl
def sy_ot (D : sy_D) (u : Nat → Nat → Nat) (dd V s : Nat) : Nat → Nat
  | 0 => 0
  | k + 1 => sy_ot D u dd V s k + (if k ≠ s ∧ u 4 k = u 4 s ∧ sy_st D u dd V k = 3 then 1 else 0)
theorem sy_ot_rj {D : sy_D} {u : Nat → Nat → Nat} {dd V s : Nat} : ∀ k, sy_ot D u dd V s k + (if s < k ∧ sy_st D u dd V s = 3 then 1 else 0) = sy_rj D u dd V (u 4 s) k
  | 0 => by
    rw [if_neg (fun h => absurd h.1 (Nat.not_lt_zero s))]
    rfl
  | k + 1 => by
    have ih := sy_ot_rj (D := D) (u := u) (dd := dd) (V := V) (s := s) k
    show sy_ot D u dd V s k + (if k ≠ s ∧ u 4 k = u 4 s ∧ sy_st D u dd V k = 3 then 1 else 0) + (if s < k + 1 ∧ sy_st D u dd V s = 3 then 1 else 0) = sy_rj D u dd V (u 4 s) k + (if u 4 k = u 4 s ∧ sy_st D u dd V k = 3 then 1 else 0)
    rw [← ih]
    by_cases hks : k = s
    · subst hks
      rw [if_neg (show ¬ (k ≠ k ∧ u 4 k = u 4 k ∧ sy_st D u dd V k = 3) from fun h => h.1 rfl), if_neg (show ¬ (k < k ∧ sy_st D u dd V k = 3) from fun h => absurd h.1 (Nat.lt_irrefl k))]
      by_cases h3 : sy_st D u dd V k = 3
      · rw [if_pos ⟨by omega, h3⟩, if_pos ⟨rfl, h3⟩]
      · rw [if_neg (fun h => h3 h.2), if_neg (fun h => h3 h.2)]
    · have e1 : (k ≠ s ∧ u 4 k = u 4 s ∧ sy_st D u dd V k = 3) ↔ (u 4 k = u 4 s ∧ sy_st D u dd V k = 3) := ⟨fun h => h.2, fun h => ⟨hks, h⟩⟩
      have e2 : (s < k + 1 ∧ sy_st D u dd V s = 3) ↔ (s < k ∧ sy_st D u dd V s = 3) := ⟨fun h => ⟨by omega, h.2⟩, fun h => ⟨by omega, h.2⟩⟩
      simp only [e1, e2]
      omega
theorem sy_mrk {F s dd V : Nat} {S : si_St} {u : Nat → Nat → Nat} {D : sy_D} (h : sy_m S u V D) (hs : s < u 1 0) (hdd : dd ≤ 9999) (hF : 31 ≤ F) : f_X10_riskOf F (nI s) (nI dd) S = some (nI (sy_rk D u dd V (u 1 0) s), S) := by
  obtain ⟨g0, g2, hV, h88, hv⟩ := id h
  have h24 := g0.2.1
  have hn3 : S.1 87 3 = nI (u 1 0) := g2.2.1
  have hbs := sy_bs_le (sy_st D u dd V s)
  have hfa := sy_fa_le (D := D) (dd := dd) (s := s) V
  have l2 : f_X10_riskOf_l124 F F (nI s) (nI dd) (nI (sy_bs (sy_st D u dd V s) + sy_fa D dd s V)) 0 S = some (nI (sy_rk D u dd V (u 1 0) s), S) := by
    have hh := lp_go (fun t k => f_X10_riskOf_l124 F t (nI s) (nI dd) (nI (sy_bs (sy_st D u dd V s) + sy_fa D dd s V + sy_ot D u dd V s k)) (nI k) S) (some (nI (sy_rk D u dd V (u 1 0) s), S)) (u 1 0) (fun t => by
      show f_X10_riskOf_h124 F (f_X10_riskOf_l124 F t) (nI s) (nI dd) _ (nI (u 1 0)) S = _
      unfold f_X10_riskOf_h124 sy_rk
      have e := sy_ot_rj (D := D) (u := u) (dd := dd) (V := V) (s := s) (u 1 0)
      rw [hn3, if_pos (Int32.le_refl _), ← e]
      have e2 : (s < u 1 0 ∧ sy_st D u dd V s = 3) ↔ sy_st D u dd V s = 3 := ⟨fun h => h.2, fun h => ⟨hs, h⟩⟩
      simp only [e2, Nat.add_sub_cancel]) (fun t k hk => by
      have hkr := sy_rj_le (D := D) (u := u) (dd := dd) (V := V) (t := u 4 s) k
      have hkr2 := sy_ot_rj (D := D) (u := u) (dd := dd) (V := V) (s := s) k
      have h4s := (g2.2.2.2.2.1 s hs).1
      have h4k := (g2.2.2.2.2.1 k hk).1
      have q4s := (g0.2.2.2.2.1 s hs).1
      have q4k := (g0.2.2.2.2.1 k hk).1
      have h8 := g0.1
      show f_X10_riskOf_h124 F (f_X10_riskOf_l124 F t) (nI s) (nI dd) _ (nI k) S = f_X10_riskOf_l124 F t (nI s) (nI dd) (nI (sy_bs (sy_st D u dd V s) + sy_fa D dd s V + (sy_ot D u dd V s k + (if k ≠ s ∧ u 4 k = u 4 s ∧ sy_st D u dd V k = 3 then 1 else 0)))) (nI (k + 1)) S
      have h173 : ∀ a z : Nat, f_X10_riskOf_h173 F (f_X10_riskOf_l124 F t) (nI s) (nI dd) (nI k) (nI z) (nI a) S = f_X10_riskOf_l124 F t (nI s) (nI dd) (nI (a + z)) (nI (k + 1)) S := by
        intro a z
        unfold f_X10_riskOf_h173
        rw [nI_add, Option.bind_some, nI_1, Option.bind_some]
      have h172 : ∀ a : Nat, f_X10_riskOf_h172 F (f_X10_riskOf_l124 F t) (nI s) (nI dd) (nI k) (nI a) S = f_X10_riskOf_l124 F t (nI s) (nI dd) (nI (a + 0)) (nI (k + 1)) S := fun a => h173 a 0
      unfold f_X10_riskOf_h124
      rw [hn3, if_neg (nI_ge hk (by omega)), rd_89 (by omega), Option.bind_some, h4k, rd_89 (by omega), Option.bind_some, h4s, sy_mst h hk hdd hF, Option.bind_some]
      dsimp only
      rw [h172]
      by_cases hks : k = s
      · rw [if_pos (by rw [hks]), if_neg (fun h => h.1 hks)]
        rfl
      · rw [if_neg (sm_ne hks (by omega) (by omega))]
        by_cases h4e : u 4 k = u 4 s
        · rw [if_pos (by rw [h4e])]
          by_cases h3 : sy_st D u dd V k = 3
          · rw [if_pos (show nI (sy_st D u dd V k) = 3 by rw [h3]; rfl), if_pos ⟨hks, h4e, h3⟩]
            exact h173 _ 1
          · have h3' : ¬ nI (sy_st D u dd V k) = 3 := sm_ne (b := 3) h3 (by have := sy_st_le (D := D) (u := u) (dd := dd) (V := V) (s := k); omega) (by decide)
            rw [if_neg h3', if_neg (fun h => h3 h.2.2)]
            rfl
        · rw [if_neg (sm_ne h4e (by omega) (by omega)), if_neg (fun h => h4e h.2.1)]
          rfl) F 0 (Nat.zero_le _) (by omega)
    exact hh
  have l1 : f_X10_riskOf_l40 F F (nI s) (nI dd) (nI (sy_bs (sy_st D u dd V s))) 0 S = some (nI (sy_rk D u dd V (u 1 0) s), S) := by
    have hh := lp_go (fun t k => f_X10_riskOf_l40 F t (nI s) (nI dd) (nI (sy_bs (sy_st D u dd V s) + sy_fa D dd s k)) (nI k) S) (some (nI (sy_rk D u dd V (u 1 0) s), S)) V (fun t => by
      show f_X10_riskOf_h40 F (f_X10_riskOf_l40 F t) (nI s) (nI dd) _ (nI V) S = _
      unfold f_X10_riskOf_h40
      rw [rd_88z, Option.bind_some, h88, if_pos (Int32.le_refl _)]
      exact l2) (fun t k hk => by
      obtain ⟨d1, d2, d5, d6, d7, d8⟩ := hv k hk
      show f_X10_riskOf_h40 F (f_X10_riskOf_l40 F t) (nI s) (nI dd) _ (nI k) S = f_X10_riskOf_l40 F t (nI s) (nI dd) (nI (sy_bs (sy_st D u dd V s) + (sy_fa D dd s k + (if D.1 k = s ∧ sy_ct D dd k = true ∧ D.2.2.1 k ≠ 0 then 1 else 0)))) (nI (k + 1)) S
      have h112 : ∀ a z : Nat, f_X10_riskOf_h112 F (f_X10_riskOf_l40 F t) (nI s) (nI dd) (nI k) (nI z) (nI a) S = f_X10_riskOf_l40 F t (nI s) (nI dd) (nI (a + z)) (nI (k + 1)) S := by
        intro a z
        unfold f_X10_riskOf_h112
        rw [nI_add, Option.bind_some, nI_1, Option.bind_some]
      have h111 : ∀ a : Nat, f_X10_riskOf_h111 F (f_X10_riskOf_l40 F t) (nI s) (nI dd) (nI k) (nI a) S = f_X10_riskOf_l40 F t (nI s) (nI dd) (nI (a + 0)) (nI (k + 1)) S := fun a => h112 a 0
      unfold f_X10_riskOf_h40
      rw [rd_88z, Option.bind_some, h88, if_neg (nI_ge hk (by omega)), li_addL, rd_88 (by omega), Option.bind_some, d5, li_addL, rd_88 (by omega), Option.bind_some, li_addL, rd_88 (by omega), Option.bind_some, d6, li_addL, rd_88 (by omega), Option.bind_some, h111]
      by_cases hsc : D.1 k = s
      · rw [if_pos (by rw [hsc])]
        rcases d8 with ⟨c1, c2⟩ | ⟨c1, c2, c3⟩
        · rw [c2, if_neg (by decide), if_neg (fun h => by unfold sy_ct at h; rw [c1] at h; exact absurd h.2.1 Bool.false_ne_true)]
          rfl
        · rw [c2, if_pos rfl]
          by_cases hlt : dd < D.2.1 k
          · rw [if_pos (nI_lt hlt (by omega)), if_neg (fun h => by unfold sy_ct at h; rw [c1, decide_eq_false (by omega)] at h; exact absurd h.2.1 (by decide))]
            rfl
          · rw [if_neg (nI_nlt (by omega) (by omega)), c3]
            by_cases h0 : D.2.2.1 k = 0
            · rw [if_pos (show nI (D.2.2.1 k) ≤ 0 by rw [h0]; exact Int32.le_refl _), if_neg (fun h => h.2.2 h0)]
              rfl
            · rw [if_neg (show ¬ nI (D.2.2.1 k) ≤ 0 from nI_nle (by omega) (by omega)), if_pos ⟨hsc, by unfold sy_ct; rw [c1, decide_eq_true (by omega)]; rfl, h0⟩]
              exact h112 _ 1
      · rw [if_neg (sm_ne hsc (by omega) (by omega)), if_neg (fun h => hsc h.1)]
        rfl) F 0 (Nat.zero_le _) (by omega)
    exact hh
  have h4 : sy_st D u dd V s = 0 ∨ sy_st D u dd V s = 1 ∨ sy_st D u dd V s = 2 ∨ sy_st D u dd V s = 3 := by
    have := sy_st_le (D := D) (u := u) (dd := dd) (V := V) (s := s)
    omega
  unfold f_X10_riskOf f_X10_riskOf_h35
  rw [sy_mst h hs hdd hF, Option.bind_some]
  rcases h4 with h4 | h4 | h4 | h4 <;> rw [h4] at l1 ⊢ <;> exact l1
theorem f10_isDay {F : Nat} {x : Int32} {S : si_St} : f_X10_isDay F x S = some (if 0 ≤ x ∧ x < nI 10000 then 1 else 0, S) := by
  unfold f_X10_isDay
  rw [sm_hasL 10000 (c := 9999) (by decide) (by decide), Option.bind_some]
  dsimp only
  rw [sm_bzi]
  rfl
/-- both sides on a day: the class surveys, the other side sees the same -/
theorem sy_both {F dd V : Nat} {S : si_St} {u : Nat → Nat → Nat} {mk : Nat} (hmk : iv_mks S mk) (hI : iv_all S) (hat : iv_at S u mk) (h7 : S.1 7 0 = nI V) (hV : V ≤ 30) (hdd : dd ≤ 9999) (hF : 1000 ≤ F) : ∃ T D, f_X6_take F mk (nI dd) S = some T ∧ iv_all T ∧ iv_same S T ∧ T.1 57 7 = nI (u 1 0) ∧ (∀ s, s < u 1 0 → T.2.1 58 s = nI (sy_st D u dd V s) ∧ (sy_st D u dd V s = 1 → T.2.1 59 s = nI (sy_eo D u s (sy_la D dd s V))) ∧ T.2.1 60 s = nI (sy_rk D u dd V (u 1 0) s)) ∧ sy_m (si_ps T 87 0 0) u V D ∧ sy_m (si_ps S 87 0 0) u V D := by
  obtain ⟨g0, g1, g2, g3, g4, g5, g6, g7, -⟩ := id hat
  rw [h7] at g7
  obtain ⟨D, hD⟩ := sy_of g0 hV h7 g7
  obtain ⟨T, e, sm, t7, fr, ht⟩ := sy_take (F := F) (iv_mkof hmk).2 g0 g1 hD hdd hF
  refine ⟨T, D, e, hI.go sm, sm, t7, ht, sy_mof g0 g2 hD (fun j hj => ?_) (fun r r1 r2 => ?_), sy_mof g0 g2 hD (fun j hj => ?_) (fun r r1 r2 => rfl)⟩
  · rw [ps_o (fun h => hj h.2), fr.1, ps_o (by omega)]
  · rw [ps_2]
    exact fr.2.1 r (by omega)
  · rw [ps_o (fun h => hj h.2)]
