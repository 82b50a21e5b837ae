/-! parse: the ways in order, the sums, all that is learnt -/
def fQ (S T : si_St) : Prop := (∀ a j, ¬ (a = 3 ∧ j = 5) → T.1 a j = S.1 a j) ∧ T.2.1 = S.2.1 ∧ (∀ r, r ≠ 6 → T.2.2.1 r = S.2.2.1 r) ∧ T.2.2.2 = S.2.2.2
theorem so_row {T : si_St} {t i p : Nat} {v : Int64} {w : Int32} : (si_ps (si_pl (si_cl T 6 t 6 (t + 1) (i - t)) 6 t v) 3 5 w).2.2.1 6 p = if p = t then v else if t + 1 ≤ p ∧ p < t + 1 + (i - t) then T.2.2.1 6 (t + (p - (t + 1))) else T.2.2.1 6 p := by
  show (if 6 = 6 ∧ p = t then v else if 6 = 6 ∧ t + 1 ≤ p ∧ p < t + 1 + (i - t) then T.2.2.1 6 (t + (p - (t + 1))) else T.2.2.1 6 p) = _
  by_cases h : p = t
  · rw [if_pos ⟨rfl, h⟩, if_pos h]
  · rw [if_neg (fun h2 => h h2.2), if_neg h]
    by_cases h2 : t + 1 ≤ p ∧ p < t + 1 + (i - t)
    · rw [if_pos ⟨rfl, h2⟩, if_pos h2]
    · rw [if_neg (fun h3 => h2 h3.2), if_neg h2]
theorem so_all {F C : Nat} {S : si_St} (hC : C ≤ 243) (h33 : S.1 3 3 = nI C) (hF : 300 ≤ F) : ∃ T, f_X1_sortWays F S = some T ∧ T.1 3 5 = nI C ∧ fQ S T ∧ (∀ i, i < C → ∃ j, j < C ∧ T.2.2.1 6 i = S.2.2.1 5 j) ∧ (∀ j, j < C → ∃ i, i < C ∧ T.2.2.1 6 i = S.2.2.1 5 j) ∧ ∀ i j, i ≤ j → j < C → (T.2.2.1 6 i).toInt ≤ (T.2.2.1 6 j).toInt := by
  have hl := lp_inv (fun n i T => f_X1_sortWays_l7 F n (nI i) T) (fun i T => T.1 3 5 = nI i ∧ fQ S T ∧ (∀ p, p < i → ∃ j, j < i ∧ T.2.2.1 6 p = S.2.2.1 5 j) ∧ (∀ j, j < i → ∃ p, p < i ∧ T.2.2.1 6 p = S.2.2.1 5 j) ∧ ∀ p q, p ≤ q → q < i → (T.2.2.1 6 p).toInt ≤ (T.2.2.1 6 q).toInt) (fun o => ∃ T, o = some T ∧ T.1 3 5 = nI C ∧ fQ S T ∧ (∀ i, i < C → ∃ j, j < C ∧ T.2.2.1 6 i = S.2.2.1 5 j) ∧ (∀ j, j < C → ∃ i, i < C ∧ T.2.2.1 6 i = S.2.2.1 5 j) ∧ ∀ i j, i ≤ j → j < C → (T.2.2.1 6 i).toInt ≤ (T.2.2.1 6 j).toInt) C (fun n T ⟨i1, i2, i3⟩ => by
    refine ⟨T, ?_, i1, i2, i3⟩
    show f_X1_sortWays_h7 F _ (nI C) T = _
    unfold f_X1_sortWays_h7
    rw [i2.1 3 3 (by decide), h33, if_pos (Int32.le_refl _)]) (fun n i T hi ⟨i1, i2, i3, i4, i5⟩ => by
    obtain ⟨t, ht, hfb, hlt, hge⟩ := tb_first (F := F) (q := T.2.2.1 5 i) i1 (by omega) i5 (by omega)
    have e5 : T.2.2.1 5 = S.2.2.1 5 := i2.2.2.1 5 (by decide)
    have row : ∀ p, (si_ps (si_pl (si_cl T 6 t 6 (t + 1) (i - t)) 6 t (T.2.2.1 5 i)) 3 5 (nI (i + 1))).2.2.1 6 p = if p = t then T.2.2.1 5 i else if t + 1 ≤ p ∧ p < t + 1 + (i - t) then T.2.2.1 6 (t + (p - (t + 1))) else T.2.2.1 6 p := fun p => so_row
    refine ⟨si_ps (si_pl (si_cl T 6 t 6 (t + 1) (i - t)) 6 t (T.2.2.1 5 i)) 3 5 (nI (i + 1)), ⟨ps_e, ⟨fun a j h => (ps_o h).trans (i2.1 a j h), i2.2.1, fun r hr => ?_, i2.2.2.2⟩, fun p hp => ?_, fun j hj => ?_, fun p q hpq hq => ?_⟩, ?_⟩
    · rw [← i2.2.2.1 r hr]
      funext b
      show (if r = 6 ∧ b = t then _ else if r = 6 ∧ t + 1 ≤ b ∧ b < t + 1 + (i - t) then _ else T.2.2.1 r b) = _
      rw [if_neg (fun h => hr h.1), if_neg (fun h => hr h.1)]
    · rw [row]
      by_cases c1 : p = t
      · rw [if_pos c1, e5]
        exact ⟨i, by omega, rfl⟩
      · rw [if_neg c1]
        by_cases c2 : t + 1 ≤ p ∧ p < t + 1 + (i - t)
        · rw [if_pos c2]
          obtain ⟨j, hj, e⟩ := i3 (t + (p - (t + 1))) (by omega)
          exact ⟨j, by omega, e⟩
        · rw [if_neg c2]
          obtain ⟨j, hj, e⟩ := i3 p (by omega)
          exact ⟨j, by omega, e⟩
    · by_cases c1 : j = i
      · refine ⟨t, by omega, ?_⟩
        rw [row, if_pos rfl, e5, c1]
      · obtain ⟨p, hp, e⟩ := i4 j (by omega)
        by_cases c2 : p < t
        · refine ⟨p, by omega, ?_⟩
          rw [row, if_neg (by omega), if_neg (by omega)]
          exact e
        · refine ⟨p + 1, by omega, ?_⟩
          rw [row, if_neg (by omega), if_pos (by omega), show t + (p + 1 - (t + 1)) = p by omega]
          exact e
    · rw [row, row]
      have val : ∀ p, p < i → t ≤ p → (T.2.2.1 5 i).toInt ≤ (T.2.2.1 6 p).toInt := fun p h1 h2 => hge p h2 h1
      by_cases c1 : p = t
      · rw [if_pos c1]
        by_cases d1 : q = t
        · rw [if_pos d1]
          exact Int.le_refl _
        · rw [if_neg d1, if_pos (by omega)]
          exact val _ (by omega) (by omega)
      · rw [if_neg c1]
        by_cases c2 : t + 1 ≤ p ∧ p < t + 1 + (i - t)
        · rw [if_pos c2, if_neg (by omega), if_pos (by omega)]
          exact i5 _ _ (by omega) (by omega)
        · have hpt : p < t := by omega
          rw [if_neg c2]
          have h1 := hlt p hpt
          by_cases d1 : q = t
          · rw [if_pos d1]
            omega
          · rw [if_neg d1]
            by_cases d2 : t + 1 ≤ q ∧ q < t + 1 + (i - t)
            · rw [if_pos d2]
              have := val (t + (q - (t + 1))) (by omega) (by omega)
              omega
            · rw [if_neg d2]
              exact i5 p q hpq (by omega)
    · show f_X1_sortWays_h7 F (f_X1_sortWays_l7 F n) (nI i) T = _
      unfold f_X1_sortWays_h7
      have e243 : si_ln 6 = 243 := rfl
      rw [i2.1 3 3 (by decide), h33, if_neg (nI_ge hi (by omega)), rl_5 (by omega), Option.bind_some, hfb, Option.bind_some]
      dsimp only
      rw [i1, nI_1, sm_sub ht, sm_cpl (by rw [e243]; omega) (by rw [e243]; omega) (by decide) (by decide), Option.bind_some, rl_5 (by omega), Option.bind_some, wl_6 (by omega), Option.bind_some, sm_pt, Option.bind_some, Option.bind_some, nI_1]
      have x5 : (si_cl T 6 t 6 (t + 1) (i - t)).2.2.1 5 i = T.2.2.1 5 i := rfl
      have x35 : (si_pl (si_cl T 6 t 6 (t + 1) (i - t)) 6 t (T.2.2.1 5 i)).1 3 5 = nI i := i1
      rw [x5, x35, nI_1]) F 0 (si_ps S 3 5 0) (Nat.zero_le _) (by omega) ⟨ps_e, ⟨fun a j h => ps_o h, rfl, fun _ _ => rfl, rfl⟩, fun p hp => absurd hp (Nat.not_lt_zero _), fun p hp => absurd hp (Nat.not_lt_zero _), fun p q _ hq => absurd hq (Nat.not_lt_zero _)⟩
  unfold f_X1_sortWays
  rw [sm_pt, Option.bind_some]
  exact hl
def fU (S T : si_St) : Prop := (∀ a j, ¬ (a = 3 ∧ j = 1) → T.1 a j = S.1 a j) ∧ (∀ r, r ≠ 4 → T.2.1 r = S.2.1 r) ∧ T.2.2 = S.2.2
theorem fU.tr {S T U : si_St} (h1 : fU S T) (h2 : fU T U) : fU S U := ⟨fun a j h => (h2.1 a j h).trans (h1.1 a j h), fun r hr => (h2.2.1 r hr).trans (h1.2.1 r hr), h2.2.2.trans h1.2.2⟩
theorem fU.pa {S : si_St} {i : Nat} {v : Int32} : fU S (si_pa S 4 i v) := ⟨fun _ _ _ => rfl, fun r hr => pa_o hr, rfl⟩
theorem fU.ps {S : si_St} {v : Int32} : fU S (si_ps S 3 1 v) := ⟨fun a j h => ps_o h, fun _ _ => rfl, rfl⟩
theorem su_in {F k m n : Nat} {f : Nat → Nat} {S : si_St} (r14 : Int32 → si_St → Option si_St) (hk : k = 69 ∨ k = 78) (hm : m < 10) (hF : 1100 ≤ F) (h1 : S.1 3 1 = nI (2 ^ m)) (hr : S.2.1 (k + 5) m = nI (f m)) (hS : ∀ st, st < 2 ^ m → S.2.1 4 st = nI (sm_sum f m st)) : ∃ T, f_X1_learn_l24 F k r14 F (nI m) 0 S = r14 (nI (m + 1)) T ∧ fU S T ∧ T.1 3 1 = nI (2 ^ (m + 1)) ∧ ∀ st, st < 2 ^ (m + 1) → T.2.1 4 st = nI (sm_sum f (m + 1) st) := by
  have p2 : 2 ^ (m + 1) = 2 ^ m + 2 ^ m := by
    rw [Nat.pow_succ]
    omega
  have h512 : 2 ^ m ≤ 2 ^ 9 := Nat.pow_le_pow_right (by decide) (by omega)
  have hpos : 0 < 2 ^ m := Nat.pow_pos (by decide)
  exact lp_inv (fun t j T => f_X1_learn_l24 F k r14 t (nI m) (nI j) T) (fun j T => fU S T ∧ T.1 3 1 = nI (2 ^ m) ∧ (∀ st, st < 2 ^ m → T.2.1 4 st = nI (sm_sum f m st)) ∧ ∀ st, st < j → T.2.1 4 (st + 2 ^ m) = nI (sm_sum f m st + f m)) (fun o => ∃ T, o = r14 (nI (m + 1)) T ∧ fU S T ∧ T.1 3 1 = nI (2 ^ (m + 1)) ∧ ∀ st, st < 2 ^ (m + 1) → T.2.1 4 st = nI (sm_sum f (m + 1) st)) (2 ^ m) (fun t T ⟨i1, i2, i3, i4⟩ => by
    refine ⟨si_ps T 3 1 (nI (2 ^ (m + 1))), ?_, i1.tr fU.ps, ps_e, fun st hst => ?_⟩
    · show f_X1_learn_h24 F k r14 _ (nI m) (nI (2 ^ m)) T = _
      unfold f_X1_learn_h24
      rw [i2, if_pos (Int32.le_refl _), sm_pt, Option.bind_some, Option.bind_some, nI_1, li_mulR, p2, show 2 ^ m * 2 = 2 ^ m + 2 ^ m by omega]
    · rw [ps_21]
      by_cases c : st < 2 ^ m
      · rw [i3 st c, tw_s0 c]
      · obtain ⟨y, rfl⟩ : ∃ y, st = y + 2 ^ m := ⟨st - 2 ^ m, by omega⟩
        rw [i4 y (by omega), tw_s1 (by omega)]) (fun t j T hj ⟨i1, i2, i3, i4⟩ => by
    refine ⟨si_pa T 4 (j + 2 ^ m) (nI (sm_sum f m j + f m)), ⟨i1.tr fU.pa, i2, fun st hst => ?_, fun st hst => ?_⟩, ?_⟩
    · rw [pa_s (by omega)]
      exact i3 st hst
    · by_cases e : st = j
      · rw [e, pa_e]
      · rw [pa_s (by omega)]
        exact i4 st (by omega)
    · show f_X1_learn_h24 F k r14 (f_X1_learn_l24 F k r14 t) (nI m) (nI j) T = _
      unfold f_X1_learn_h24
      have er : T.2.1 (k + 5) m = nI (f m) := by rw [i1.2.1 (k + 5) (by omega)]; exact hr
      rw [i2, if_neg (nI_ge hj (by omega)), rd_4 (by omega), Option.bind_some, (rd_m hk).2.2.2.2.1 hm, Option.bind_some, i3 j hj, er, nI_add, nI_add, wr_4 (by omega), Option.bind_some, Option.bind_some, nI_1, Nat.add_comm (2 ^ m) j]) F 0 S (Nat.zero_le _) (by omega) ⟨⟨fun _ _ _ => rfl, fun _ _ => rfl, rfl⟩, h1, hS, fun st hst => absurd hst (Nat.not_lt_zero _)⟩
def fL (S T : si_St) : Prop := (∀ a j, ¬ (a = 3 ∧ (j = 1 ∨ j = 3 ∨ j = 5)) → T.1 a j = S.1 a j) ∧ (∀ r, r ≠ 4 → T.2.1 r = S.2.1 r) ∧ (∀ r, r ≠ 5 → r ≠ 6 → T.2.2.1 r = S.2.2.1 r) ∧ T.2.2.2 = S.2.2.2
theorem le_all {F k : Nat} {u : Nat → Nat → Nat} {S : si_St} (hk : k = 69 ∨ k = 78) (hF : 1100 ≤ F) (g0 : iv_mok u) (g1 : iv_mk (S.1 k) (fun j => S.2.1 (k + j)) u) : ∃ T, f_X1_learn F k S = some T ∧ fL S T ∧ iv_ld (T.1 3 1) (T.2.1 4) u ∧ iv_way (T.1 3 3) (T.1 3 5) (T.2.2.1 5) (T.2.2.1 6) u := by
  have hn := g0.2.2.1
  have hf : ∀ i, i < u 2 0 → u 8 i ≤ 1000098 := fun i hi => (g0.2.2.2.2.2.1 i hi).2
  have hr : ∀ i, i < u 2 0 → S.2.1 (k + 5) i = nI (u 8 i) := g1.2.2.1
  have h2 : S.1 k 2 = nI (u 2 0) := g1.1 2 (by decide)
  have hk3 : k ≠ 3 := by omega
  have hl := lp_inv (fun t m T => f_X1_learn_l14 F k t (nI m) T) (fun m T => fU S T ∧ T.1 3 1 = nI (2 ^ m) ∧ ∀ st, st < 2 ^ m → T.2.1 4 st = nI (sm_sum (u 8) m st)) (fun o => ∃ T, o = some T ∧ fL S T ∧ iv_ld (T.1 3 1) (T.2.1 4) u ∧ iv_way (T.1 3 3) (T.1 3 5) (T.2.2.1 5) (T.2.2.1 6) u) (u 2 0) (fun t T ⟨i1, i2, i3⟩ => by
    have e2 : T.1 k 2 = nI (u 2 0) := (i1.1 k 2 (fun h => hk3 h.1)).trans h2
    have hr' : ∀ i, i < u 2 0 → T.2.1 (k + 5) i = nI (u 8 i) := fun i hi => by rw [i1.2.1 (k + 5) (by omega)]; exact hr i hi
    have emin : si_min 5 (nI (u 2 0)) = nI (min 5 (u 2 0)) := sg_min (a := 5) (by decide) (by omega)
    show ∃ T2, f_X1_learn_h14 F k _ (nI (u 2 0)) T = _ ∧ _
    unfold f_X1_learn_h14
    rw [e2, if_pos (Int32.le_refl _), emin, Option.bind_some]
    have hmin1 : min 5 (u 2 0) ≤ 5 := Nat.min_le_left _ _
    have hmin2 : min 5 (u 2 0) ≤ u 2 0 := Nat.min_le_right _ _
    have hmin3 : u 2 0 - min 5 (u 2 0) ≤ 5 := by omega
    generalize hA : min 5 (u 2 0) = a at *
    obtain ⟨b, hb⟩ : ∃ b, u 2 0 = a + b := ⟨u 2 0 - a, by omega⟩
    have hb5 : b ≤ 5 := by omega
    have h3b : 3 ^ b ≤ 3 ^ 5 := Nat.pow_le_pow_right (by decide) hb5
    obtain ⟨T1, l1, l2, l3, l4⟩ := lw_all (F := F) (k := k) (a := a) (m := b) (f := u 8) (S := T) hk hb5 (by omega) (by omega) (fun s hs => hf (a + s) (by omega)) (fun s hs => hr' (a + s) (by omega))
    obtain ⟨T2, s1, s2, s3, s4, s5, s6⟩ := so_all (F := F) (C := 3 ^ b) (S := T1) (by omega) l2 (by omega)
    obtain ⟨T3, z1, z2, z3, z4⟩ := lw_all (F := F) (k := k) (a := 0) (m := a) (f := u 8) (S := T2) hk hmin1 (by omega) (by omega) (fun s hs => hf (0 + s) (by omega)) (fun s hs => by
      rw [s3.2.1, l3.2.1]
      exact hr' (0 + s) (by omega))
    rw [Nat.zero_add] at z1
    have z1' : f_X1_listWays F k 0 (nI a) T2 = some T3 := z1
    have l1' : f_X1_listWays F k (nI a) (nI (u 2 0)) T = some T1 := by rw [hb]; exact l1
    rw [l1', Option.bind_some, s1, Option.bind_some, z1', Option.bind_some]
    refine ⟨T3, rfl, ⟨fun x j h => ?_, fun r hr => ?_, fun r h5 h6 => ?_, ?_⟩, ⟨?_, fun st hst => ?_⟩, ⟨a, b, hb.symm, hmin1, hb5, z2, ?_, z4, fun i hi => ?_, fun j hj => ?_, fun i j hij hj => ?_⟩⟩
    · rw [z3.1 x j (by omega), s3.1 x j (by omega), l3.1 x j (by omega), i1.1 x j (by omega)]
    · rw [z3.2.1, s3.2.1, l3.2.1, i1.2.1 r hr]
    · rw [z3.2.2.1 r h5, s3.2.2.1 r h6, l3.2.2.1 r h5, i1.2.2]
    · rw [z3.2.2.2, s3.2.2.2, l3.2.2.2, i1.2.2]
    · rw [z3.1 3 1 (by decide), s3.1 3 1 (by decide), l3.1 3 1 (by decide)]
      exact i2
    · rw [z3.2.1, s3.2.1, l3.2.1]
      exact i3 st hst
    · rw [z3.1 3 5 (by decide)]
      exact s2
    · obtain ⟨j, hj, e⟩ := s4 i hi
      refine ⟨j, hj, ?_⟩
      rw [z3.2.2.1 6 (by decide), e]
      exact l4 j hj
    · obtain ⟨i, hi, e⟩ := s5 j hj
      refine ⟨i, hi, ?_⟩
      rw [z3.2.2.1 6 (by decide), e]
      exact l4 j hj
    · rw [z3.2.2.1 6 (by decide)]
      exact s6 i j hij hj) (fun t m T hm ⟨i1, i2, i3⟩ => by
    have e2 : T.1 k 2 = nI (u 2 0) := (i1.1 k 2 (fun h => hk3 h.1)).trans h2
    have er : T.2.1 (k + 5) m = nI (u 8 m) := by rw [i1.2.1 (k + 5) (by omega)]; exact hr m hm
    obtain ⟨T2, s1, s2, s3, s4⟩ := su_in (F := F) (n := 0) (f := u 8) (f_X1_learn_l14 F k t) hk (by omega) hF i2 er i3
    refine ⟨T2, ⟨i1.tr s2, s3, s4⟩, ?_⟩
    show f_X1_learn_h14 F k (f_X1_learn_l14 F k t) (nI m) T = _
    unfold f_X1_learn_h14
    rw [e2, if_neg (nI_ge hm (by omega))]
    exact s1) F 0 (si_pa (si_ps S 3 1 1) 4 0 0) (Nat.zero_le _) (by omega) ⟨fU.ps.tr fU.pa, (show (si_ps S 3 1 1).1 3 1 = 1 from ps_e), fun st hst => by
      have e0 : st = 0 := by
        have : 2 ^ 0 = 1 := rfl
        omega
      rw [e0, pa_e]
      rfl⟩
  unfold f_X1_learn
  have e4 : ∀ T : si_St, si_wr T 4 0 0 = some (si_pa T 4 0 0) := fun T => wr_4 (i := 0) (by decide)
  rw [sm_pt, Option.bind_some, e4, Option.bind_some]
  exact hl

