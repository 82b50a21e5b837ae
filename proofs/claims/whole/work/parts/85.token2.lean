/-! the other side's reader -/
def dv (c : Nat → Nat) (st : Nat) : Nat → Nat
  | 0 => 0
  | n + 1 => 10 * dv c st n + (c (st + n) - 48)
theorem dv_lt {c : Nat → Nat} {st : Nat} : ∀ n, (∀ i, i < n → 48 ≤ c (st + i) ∧ c (st + i) ≤ 57) → dv c st n < 10 ^ n
  | 0, _ => by
    show 0 < 1
    decide
  | n + 1, h => by
    have h1 := dv_lt n (fun i hi => h i (by omega))
    have h2 := h n (by omega)
    rw [Nat.pow_succ]
    show 10 * dv c st n + (c (st + n) - 48) < _
    omega
theorem dv_b {c : Nat → Nat} {st n : Nat} (hn : n ≤ 6) (h : ∀ i, i < n → 48 ≤ c (st + i) ∧ c (st + i) ≤ 57) : dv c st n ≤ 999999 := by
  have h1 := dv_lt n h
  have h2 : 10 ^ n ≤ 10 ^ 6 := Nat.pow_le_pow_right (by decide) hn
  omega
theorem by_at {F N i : Nat} {c : Nat → Nat} {S : si_St} (hN : N ≤ 800) (hc : ∀ i, i < N → c i < 256) (h16 : S.1 87 16 = nI N) (ht : ∀ i, i < N → S.2.1 97 i = bv (c i)) (hi : i ≤ N) : f_X10_byteAt F (nI i) S = some (if i < N then nI (c i) else -2, S) := by
  unfold f_X10_byteAt f_X10_byteAt_h23
  rw [h16]
  by_cases h : i < N
  · rw [if_neg (nI_ge h (by omega)), rd_97 (by omega), Option.bind_some, ht i h, (bv_tab _ (hc i h)).1, if_pos h]
  · rw [if_pos (nI_le (by omega) (by omega)), if_neg h]
theorem wi_lt {F k : Nat} {S : si_St} (hk : k < 256) : f_X10_within F (Int32.toInt64 (nI k)) 97 122 S = some (if tk_lt k = true then 1 else 0, S) := by
  rw [sm_winN (a := 97) (b := 122) (by decide) (by decide) (by omega) (by decide) (by decide)]
  unfold tk_lt
  by_cases h : 97 ≤ k ∧ k ≤ 122
  · rw [if_pos h, if_pos (decide_eq_true h)]
  · rw [if_neg h, if_neg (fun h2 => h (of_decide_eq_true h2))]
theorem wi_dg {F k : Nat} {S : si_St} (hk : k < 256) : f_X10_within F (Int32.toInt64 (nI k)) 48 57 S = some (if tk_dg k = true then 1 else 0, S) := by
  rw [sm_winN (a := 48) (b := 57) (by decide) (by decide) (by omega) (by decide) (by decide)]
  unfold tk_dg
  by_cases h : 48 ≤ k ∧ k ≤ 57
  · rw [if_pos h, if_pos (decide_eq_true h)]
  · rw [if_neg h, if_neg (fun h2 => h (of_decide_eq_true h2))]
theorem wi_m2 {F : Nat} {S : si_St} : f_X10_within F (Int32.toInt64 (-2)) 97 122 S = some (0, S) ∧ f_X10_within F (Int32.toInt64 (-2)) 48 57 S = some (0, S) := by
  constructor
  · rw [sm_win (a := 97) (b := 122) (by decide) (by decide)]
    rfl
  · rw [sm_win (a := 48) (b := 57) (by decide) (by decide)]
    rfl
theorem tB_lt {F N st : Nat} {c : Nat → Nat} (hN : N ≤ 800) (hc : ∀ i, i < N → c i < 256) : ∀ d pos n (T : si_St), pos + d = N → d < n → T.1 87 16 = nI N → (∀ i, i < N → T.2.1 97 i = bv (c i)) → T.1 87 18 = nI pos → T.1 87 17 = nI st → st ≤ pos → ∃ T', f_X10_advance_l89 F n T = some T' ∧ fx 87 [18, 19] T T' ∧ T'.1 87 18 = nI (rn tk_lt c d pos) ∧ T'.1 87 19 = nI (if rn tk_lt c d pos - st ≤ 8 then 1 else 4)
  | d, pos, 0, _, _, h, _, _, _, _, _ => absurd h (Nat.not_lt_zero _)
  | d, pos, n + 1, T, h1, h2, h3, h4, h5, h6, h7 => by
    have fin : ∃ T', (if nI (pos - st) ≤ 8 then f_X10_advance_h143 F 1 T else f_X10_advance_h143 F 4 T) = some T' ∧ fx 87 [18, 19] T T' ∧ T'.1 87 18 = nI pos ∧ T'.1 87 19 = nI (if pos - st ≤ 8 then 1 else 4) := by
      unfold f_X10_advance_h143 f_X10_advance_h292
      by_cases g : pos - st ≤ 8
      · rw [if_pos (show nI (pos - st) ≤ 8 from nI_le (b := 8) g (by decide)), if_pos g, sm_pt]
        exact ⟨_, rfl, fx.ps (by decide), (ps_o (by decide)).trans h5, ps_e⟩
      · rw [if_neg (show ¬ nI (pos - st) ≤ 8 from nI_ge (a := 8) (by omega) (by omega)), if_neg g, sm_pt]
        exact ⟨_, rfl, fx.ps (by decide), (ps_o (by decide)).trans h5, ps_e⟩
    show ∃ T', f_X10_advance_h89 F (f_X10_advance_l89 F n) T = _ ∧ _
    unfold f_X10_advance_h89
    rw [h5, by_at hN hc h3 h4 (by omega), Option.bind_some]
    dsimp only
    match d, h1, h2 with
    | 0, h1, h2 =>
      rw [if_neg (by omega), wi_m2.1, Option.bind_some, if_pos rfl]
      dsimp only
      rw [h5, h6, sm_sub h7]
      exact fin
    | d + 1, h1, h2 =>
      have e : rn tk_lt c (d + 1) pos = if tk_lt (c pos) = true then rn tk_lt c d (pos + 1) else pos := rfl
      rw [if_pos (by omega), wi_lt (hc pos (by omega)), Option.bind_some, e]
      by_cases g : tk_lt (c pos) = true
      · rw [if_pos g, if_pos g, if_neg (show ¬ (1 : Int32) = 0 by decide)]
        dsimp only
        rw [h5, sm_pt, Option.bind_some, nI_1]
        obtain ⟨T', a1, a2, a3, a4⟩ := tB_lt (st := st) hN hc d (pos + 1) n (si_ps T 87 18 (nI (pos + 1))) (by omega) (by omega) ((ps_o (by decide)).trans h3) h4 ps_e ((ps_o (by decide)).trans h6) (by omega)
        exact ⟨T', a1, (fx.ps (by decide)).tr a2, a3, a4⟩
      · rw [if_neg g, if_neg g, if_pos rfl]
        dsimp only
        rw [h5, h6, sm_sub h7]
        exact fin
theorem tB_dg {F N st : Nat} {c : Nat → Nat} (hN : N ≤ 800) (hc : ∀ i, i < N → c i < 256) : ∀ d pos n (T : si_St), pos + d = N → d < n → T.1 87 16 = nI N → (∀ i, i < N → T.2.1 97 i = bv (c i)) → T.1 87 18 = nI pos → T.1 87 17 = nI st → st ≤ pos → (pos - st ≤ 6 → T.1 87 20 = nI (dv c st (pos - st))) → ∃ T', f_X10_advance_l163 F n T = some T' ∧ fx 87 [18, 19, 20] T T' ∧ T'.1 87 18 = nI (rn tk_dg c d pos) ∧ T'.1 87 19 = nI (if rn tk_dg c d pos - st ≤ 6 then 2 else 4) ∧ (rn tk_dg c d pos - st ≤ 6 → T'.1 87 20 = nI (dv c st (rn tk_dg c d pos - st)))
  | d, pos, 0, _, _, h, _, _, _, _, _, _ => absurd h (Nat.not_lt_zero _)
  | d, pos, n + 1, T, h1, h2, h3, h4, h5, h6, h7, h8 => by
    have fin : ∃ T', (if nI (pos - st) ≤ 6 then f_X10_advance_h261 F 2 T else f_X10_advance_h261 F 4 T) = some T' ∧ fx 87 [18, 19, 20] T T' ∧ T'.1 87 18 = nI pos ∧ T'.1 87 19 = nI (if pos - st ≤ 6 then 2 else 4) ∧ (pos - st ≤ 6 → T'.1 87 20 = nI (dv c st (pos - st))) := by
      unfold f_X10_advance_h261 f_X10_advance_h292
      by_cases g : pos - st ≤ 6
      · rw [if_pos (show nI (pos - st) ≤ 6 from nI_le (b := 6) g (by decide)), if_pos g, sm_pt]
        exact ⟨_, rfl, fx.ps (by decide), (ps_o (by decide)).trans h5, ps_e, fun hg => (ps_o (by decide)).trans (h8 hg)⟩
      · rw [if_neg (show ¬ nI (pos - st) ≤ 6 from nI_ge (a := 6) (by omega) (by omega)), if_neg g, sm_pt]
        exact ⟨_, rfl, fx.ps (by decide), (ps_o (by decide)).trans h5, ps_e, fun hg => absurd hg g⟩
    show ∃ T', f_X10_advance_h163 F (f_X10_advance_l163 F n) T = _ ∧ _
    unfold f_X10_advance_h163 f_X10_advance_h225
    rw [h5, by_at hN hc h3 h4 (by omega), Option.bind_some]
    dsimp only
    match d, h1, h2 with
    | 0, h1, h2 =>
      rw [if_neg (by omega), wi_m2.2, Option.bind_some, if_pos rfl]
      dsimp only
      rw [h5, h6, sm_sub h7]
      exact fin
    | d + 1, h1, h2 =>
      have e : rn tk_dg c (d + 1) pos = if tk_dg (c pos) = true then rn tk_dg c d (pos + 1) else pos := rfl
      rw [if_pos (by omega), wi_dg (hc pos (by omega)), Option.bind_some, e]
      by_cases g : tk_dg (c pos) = true
      · obtain ⟨d1, d2⟩ := of_decide_eq_true g
        rw [if_pos g, if_pos g, if_neg (show ¬ (1 : Int32) = 0 by decide)]
        dsimp only
        rw [h5, h6, sm_sub h7, by_at hN hc h3 h4 (by omega), Option.bind_some, if_pos (show pos < N by omega)]
        dsimp only
        by_cases g2 : 6 ≤ pos - st
        · rw [if_pos (show 6 ≤ nI (pos - st) from nI_le (a := 6) g2 (by omega)), sm_pt, Option.bind_some, sm_pt, Option.bind_some]
          have e18 : (si_ps T 87 20 (T.1 87 20)).1 87 18 = nI pos := (ps_o (by decide)).trans h5
          rw [e18, nI_1]
          obtain ⟨T', a1, a2, a3, a4, a5⟩ := tB_dg (st := st) hN hc d (pos + 1) n (si_ps (si_ps T 87 20 (T.1 87 20)) 87 18 (nI (pos + 1))) (by omega) (by omega) ((ps_o (by decide)).trans ((ps_o (by decide)).trans h3)) h4 ps_e ((ps_o (by decide)).trans ((ps_o (by decide)).trans h6)) (by omega) (fun h => absurd h (by omega))
          exact ⟨T', a1, ((fx.ps (by decide)).tr (fx.ps (by decide))).tr a2, a3, a4, a5⟩
        · have h20 := h8 (by omega)
          have en : 10 * T.1 87 20 + nI (c pos) - 48 = nI (dv c st (pos + 1 - st)) := by
            have e1 : pos + 1 - st = (pos - st) + 1 := by omega
            have e2 : st + (pos - st) = pos := by omega
            rw [h20, li_mulL, nI_add, e1]
            show nI (10 * dv c st (pos - st) + c pos) - nI 48 = nI (10 * dv c st (pos - st) + (c (st + (pos - st)) - 48))
            rw [sm_sub (by omega), e2]
            congr 1
            omega
          rw [if_neg (show ¬ 6 ≤ nI (pos - st) from nI_ge (b := 6) (by omega) (by decide)), sm_pt, Option.bind_some, sm_pt, Option.bind_some, en]
          have e18 : (si_ps T 87 20 (nI (dv c st (pos + 1 - st)))).1 87 18 = nI pos := (ps_o (by decide)).trans h5
          rw [e18, nI_1]
          obtain ⟨T', a1, a2, a3, a4, a5⟩ := tB_dg (st := st) hN hc d (pos + 1) n (si_ps (si_ps T 87 20 (nI (dv c st (pos + 1 - st)))) 87 18 (nI (pos + 1))) (by omega) (by omega) ((ps_o (by decide)).trans ((ps_o (by decide)).trans h3)) h4 ps_e ((ps_o (by decide)).trans ((ps_o (by decide)).trans h6)) (by omega) (fun h => (ps_o (by decide)).trans ps_e)
          exact ⟨T', a1, ((fx.ps (by decide)).tr (fx.ps (by decide))).tr a2, a3, a4, a5⟩
      · rw [if_neg g, if_neg g, if_pos rfl]
        dsimp only
        rw [h5, h6, sm_sub h7]
        exact fin
def tB_K (F : Nat) (T : si_St) : Option si_St := Option.bind (si_pt T 87 17 (T.1 87 18)) fun S15 => Option.bind (si_pt S15 87 20 0) fun S16 => Option.bind (f_X10_byteAt F (S16.1 87 18) S16) fun q17 => if q17.1 = (-2) then (Option.bind (si_pt q17.2 87 19 0) fun S21 => f_X10_advance_h292 F S21) else (Option.bind (f_X10_within F (Int32.toInt64 q17.1) (97 : Int64) (122 : Int64) q17.2) fun q18 => if q18.1 = 0 then (Option.bind (f_X10_within F (Int32.toInt64 q17.1) (48 : Int64) (57 : Int64) q18.2) fun q19 => if q19.1 = 0 then (Option.bind (si_pt q19.2 87 18 ((q19.2.1 87 18) + 1)) fun S20 => if q17.1 = 59 then (f_X10_advance_h289 F 3 S20) else (f_X10_advance_h289 F 4 S20)) else (f_X10_advance_l163 F F q19.2)) else (f_X10_advance_l89 F F q18.2))
theorem tB_bl {F N : Nat} {c : Nat → Nat} (hN : N ≤ 800) (hc : ∀ i, i < N → c i < 256) : ∀ d pos n (T : si_St), pos + d = N → d < n → T.1 87 16 = nI N → (∀ i, i < N → T.2.1 97 i = bv (c i)) → T.1 87 18 = nI pos → ∃ T', f_X10_advance_l0 F n T = tB_K F T' ∧ fx 87 [18] T T' ∧ T'.1 87 18 = nI (rn tk_bl c d pos)
  | _, _, 0, _, _, h, _, _, _ => absurd h (Nat.not_lt_zero _)
  | d, pos, n + 1, T, h1, h2, h3, h4, h5 => by
    show ∃ T', f_X10_advance_h0 F (f_X10_advance_l0 F n) T = _ ∧ _
    unfold f_X10_advance_h0 f_X10_advance_h26
    rw [h5, by_at hN hc h3 h4 (by omega), Option.bind_some]
    dsimp only
    rw [h5, by_at hN hc h3 h4 (by omega), Option.bind_some]
    dsimp only
    rw [h5]
    match d, h1, h2 with
    | 0, h1, h2 =>
      rw [if_neg (show ¬ pos < N by omega), if_neg (by decide), if_neg (by decide)]
      refine ⟨T, ?_, fx.rf T, h5⟩
      unfold tB_K
      rw [h5]
    | d + 1, h1, h2 =>
      have e : rn tk_bl c (d + 1) pos = if tk_bl (c pos) = true then rn tk_bl c d (pos + 1) else pos := rfl
      have hcp := hc pos (by omega)
      rw [if_pos (show pos < N by omega), sm_pt, Option.bind_some, nI_1, e]
      have go : tk_bl (c pos) = true → ∃ T', f_X10_advance_l0 F n (si_ps T 87 18 (nI (pos + 1))) = tB_K F T' ∧ fx 87 [18] T T' ∧ T'.1 87 18 = nI (if tk_bl (c pos) = true then rn tk_bl c d (pos + 1) else pos) := fun hb => by
        rw [if_pos hb]
        obtain ⟨T', a1, a2, a3⟩ := tB_bl hN hc d (pos + 1) n (si_ps T 87 18 (nI (pos + 1))) (by omega) (by omega) ((ps_o (by decide)).trans h3) h4 ps_e
        exact ⟨T', a1, (fx.ps (List.mem_cons_self ..)).tr a2, a3⟩
      by_cases g1 : c pos = 32
      · rw [if_pos (show nI (c pos) = 32 by rw [g1]; rfl)]
        exact go (decide_eq_true (Or.inl g1))
      · rw [if_neg (show ¬ nI (c pos) = 32 from sm_ne (b := 32) g1 (by omega) (by decide))]
        by_cases g2 : c pos = 10
        · rw [if_pos (show nI (c pos) = 10 by rw [g2]; rfl)]
          exact go (decide_eq_true (Or.inr g2))
        · rw [if_neg (show ¬ nI (c pos) = 10 from sm_ne (b := 10) g2 (by omega) (by decide)), if_neg (show ¬ tk_bl (c pos) = true from fun h => (of_decide_eq_true h).elim g1 g2)]
          refine ⟨T, ?_, fx.rf T, h5⟩
          unfold tB_K
          rw [h5]
theorem tB_adv {F N pos : Nat} {c : Nat → Nat} {B : si_St} (hN : N ≤ 800) (hF : 802 ≤ F) (hc : ∀ i, i < N → c i < 256) (hpos : pos ≤ N) (h4 : B.1 87 16 = nI N) (ht : ∀ i, i < N → B.2.1 97 i = bv (c i)) (h6 : B.1 87 18 = nI pos) : ∃ B', f_X10_advance F B = some B' ∧ fx 87 [17, 18, 19, 20] B B' ∧ B'.1 87 17 = nI (pt c N pos).1 ∧ B'.1 87 18 = nI (pt c N pos).2.1 ∧ B'.1 87 19 = nI (pt c N pos).2.2 ∧ ((pt c N pos).2.2 = 2 → B'.1 87 20 = nI (dv c (pt c N pos).1 ((pt c N pos).2.1 - (pt c N pos).1))) := by
  obtain ⟨T, a1, a2, a3⟩ := tB_bl (F := F) hN hc (N - pos) pos F B (by omega) (by omega) h4 ht h6
  obtain ⟨b1, b2, b3⟩ := rn_ge (p := tk_bl) (c := c) (N - pos) pos
  have e : f_X10_advance F B = f_X10_advance_l0 F F B := rfl
  have sub : ∀ j, j ∈ [18] → j ∈ [17, 18, 19, 20] := by decide
  have sub2 : ∀ j, j ∈ [18, 19] → j ∈ [17, 18, 19, 20] := by decide
  have sub3 : ∀ j, j ∈ [18, 19, 20] → j ∈ [17, 18, 19, 20] := by decide
  have m7 : 17 ∈ [17, 18, 19, 20] := by decide
  have m8 : 18 ∈ [17, 18, 19, 20] := by decide
  have m9 : 19 ∈ [17, 18, 19, 20] := by decide
  have m0 : 20 ∈ [17, 18, 19, 20] := by decide
  rw [e, a1]
  unfold tB_K pt
  generalize rn tk_bl c (N - pos) pos = st at *
  rw [sm_pt, Option.bind_some, a3, sm_pt, Option.bind_some]
  have i8 : (si_ps (si_ps T 87 17 (nI st)) 87 20 0).1 87 18 = nI st := (ps_o (by decide)).trans ((ps_o (by decide)).trans a3)
  have i16 : (si_ps (si_ps T 87 17 (nI st)) 87 20 0).1 87 16 = nI N := ((ps_o (by decide)).trans ((ps_o (by decide)).trans (a2.2 87 16 (by decide)))).trans h4
  have f1 : fx 87 [17, 18, 19, 20] B (si_ps (si_ps T 87 17 (nI st)) 87 20 0) := ((a2.mo sub).tr (fx.ps m7)).tr (fx.ps m0)
  have i7 : (si_ps (si_ps T 87 17 (nI st)) 87 20 0).1 87 17 = nI st := (ps_o (by decide)).trans ps_e
  have i20 : (si_ps (si_ps T 87 17 (nI st)) 87 20 0).1 87 20 = 0 := ps_e
  generalize si_ps (si_ps T 87 17 (nI st)) 87 20 0 = T1 at *
  have it : ∀ i, i < N → T1.2.1 97 i = bv (c i) := fun i hi => by
    rw [f1.1]
    exact ht i hi
  rw [i8, by_at hN hc i16 it (by omega), Option.bind_some]
  dsimp only
  unfold f_X10_advance_h289 f_X10_advance_h292
  by_cases c1 : N ≤ st
  · rw [if_neg (show ¬ st < N by omega), if_pos rfl, sm_pt, if_pos c1]
    exact ⟨_, rfl, f1.tr (fx.ps m9), (ps_o (by decide)).trans i7, (ps_o (by decide)).trans i8, ps_e, fun h => absurd (show (0 : Nat) = 2 from h) (by decide)⟩
  · have hcs := hc st (by omega)
    rw [if_pos (show st < N by omega), if_neg (fun h => by
      have h1 := congrArg Int32.toInt h
      rw [nI_toInt (by omega)] at h1
      have h2 : (-2 : Int32).toInt = -2 := by decide
      omega), wi_lt hcs, Option.bind_some, if_neg c1]
    by_cases c2 : tk_lt (c st) = true
    · rw [if_pos c2, if_neg (show ¬ (1 : Int32) = 0 by decide), if_pos c2]
      obtain ⟨T2, r1, r2, r3, r4⟩ := tB_lt (F := F) (st := st) hN hc (N - st) st F T1 (by omega) (by omega) i16 it i8 i7 (Nat.le_refl _)
      refine ⟨T2, r1, f1.tr (r2.mo sub2), (r2.2 87 17 (by decide)).trans i7, r3, r4, fun h => ?_⟩
      dsimp only at h
      split at h <;> exact absurd h (by decide)
    · rw [if_neg c2, if_pos rfl, if_neg c2]
      dsimp only
      rw [wi_dg hcs, Option.bind_some]
      by_cases c3 : tk_dg (c st) = true
      · rw [if_pos c3, if_neg (show ¬ (1 : Int32) = 0 by decide), if_pos c3]
        obtain ⟨T2, r1, r2, r3, r4, r5⟩ := tB_dg (F := F) (st := st) hN hc (N - st) st F T1 (by omega) (by omega) i16 it i8 i7 (Nat.le_refl _) (fun _ => by
          rw [Nat.sub_self]
          exact i20)
        refine ⟨T2, r1, f1.tr (r2.mo sub3), (r2.2 87 17 (by decide)).trans i7, r3, r4, fun h => ?_⟩
        dsimp only at h ⊢
        by_cases c4 : rn tk_dg c (N - st) st - st ≤ 6
        · exact r5 c4
        · rw [if_neg c4] at h
          exact absurd h (by decide)
      · rw [if_neg c3, if_pos rfl, if_neg c3]
        dsimp only
        rw [i8, nI_1, sm_pt, Option.bind_some]
        have f2 : fx 87 [17, 18, 19, 20] B (si_ps T1 87 18 (nI (st + 1))) := f1.tr (fx.ps m8)
        have j7 : (si_ps T1 87 18 (nI (st + 1))).1 87 17 = nI st := (ps_o (by decide)).trans i7
        by_cases c4 : c st = 59
        · rw [if_pos (show nI (c st) = 59 by rw [c4]; rfl), sm_pt, if_pos c4]
          exact ⟨_, rfl, f2.tr (fx.ps m9), (ps_o (by decide)).trans j7, (ps_o (by decide)).trans ps_e, ps_e, fun h => absurd (show (3 : Nat) = 2 from h) (by decide)⟩
        · rw [if_neg (show ¬ nI (c st) = 59 from sm_ne (b := 59) c4 (by omega) (by decide)), sm_pt, if_neg c4]
          exact ⟨_, rfl, f2.tr (fx.ps m9), (ps_o (by decide)).trans j7, (ps_o (by decide)).trans ps_e, ps_e, fun h => absurd (show (4 : Nat) = 2 from h) (by decide)⟩
