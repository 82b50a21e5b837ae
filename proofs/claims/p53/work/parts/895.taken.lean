/-! parse: the draft taken over, by both -/
theorem tk_sets {n : Nat} (hn : n ≤ 12) : ((1 : Int32) <<< (nI n &&& 31)) - 1 = nI (2 ^ n - 1) := by
  rw [sm_pow n (by omega)]
  have := Nat.pow_pos (n := n) (show 0 < 2 by decide)
  exact sm_sub (b := 1) (by omega)
def fK (S T : si_St) : Prop := T.1 = S.1 ∧ (∀ r, ¬ (17 ≤ r ∧ r ≤ 20) → T.2.1 r = S.2.1 r) ∧ T.2.2 = S.2.2
theorem rs_all {F k : Nat} {u : Nat → Nat → Nat} {S : si_St} (hk : k = 69 ∨ k = 78) (hF : 1100 ≤ F) (g0 : iv_mok u) (g1 : iv_mk (S.1 k) (fun j => S.2.1 (k + j)) u) : ∃ T, f_X8_reset F k S = some T ∧ fK S T ∧ ∀ x, x < u 3 0 → T.2.1 17 x = nI (2 ^ u 9 x - 1) ∧ T.2.1 18 x = nI (2 ^ u 9 x - 1) ∧ T.2.1 19 x = nI (u 10 x) ∧ T.2.1 20 x = 0 := by
  have hn := g0.2.2.2.1
  have h3 : S.1 k 3 = nI (u 3 0) := g1.1 3 (by decide)
  exact lp_inv (fun t m T => f_X8_reset_l2 F k t (nI m) T) (fun m T => fK S T ∧ ∀ x, x < m → T.2.1 17 x = nI (2 ^ u 9 x - 1) ∧ T.2.1 18 x = nI (2 ^ u 9 x - 1) ∧ T.2.1 19 x = nI (u 10 x) ∧ T.2.1 20 x = 0) (fun o => ∃ T, o = some T ∧ fK S T ∧ ∀ x, x < u 3 0 → T.2.1 17 x = nI (2 ^ u 9 x - 1) ∧ T.2.1 18 x = nI (2 ^ u 9 x - 1) ∧ T.2.1 19 x = nI (u 10 x) ∧ T.2.1 20 x = 0) (u 3 0) (fun t T ⟨i1, i2⟩ => by
    refine ⟨T, ?_, i1, i2⟩
    show f_X8_reset_h2 F k _ (nI (u 3 0)) T = _
    unfold f_X8_reset_h2
    rw [i1.1, h3, if_pos (Int32.le_refl _)]) (fun t m T hm ⟨i1, i2⟩ => by
    have gs := g0.2.2.2.2.2.2.1 m hm
    have e6 : T.2.1 (k + 6) m = nI (u 9 m) := by rw [i1.2.1 (k + 6) (by omega)]; exact (g1.2.2.2.1 m hm).1
    have e7 : T.2.1 (k + 7) m = nI (u 10 m) := by rw [i1.2.1 (k + 7) (by omega)]; exact (g1.2.2.2.1 m hm).2
    refine ⟨si_pa (si_pa (si_pa (si_pa T 17 m (nI (2 ^ u 9 m - 1))) 18 m (nI (2 ^ u 9 m - 1))) 19 m (nI (u 10 m))) 20 m 0, ⟨⟨i1.1, fun r hr => ?_, i1.2.2⟩, fun x hx => ?_⟩, ?_⟩
    · rw [pa_o (by omega), pa_o (by omega), pa_o (by omega), pa_o (by omega)]
      exact i1.2.1 r hr
    · by_cases e : x = m
      · rw [e]
        refine ⟨?_, ?_, ?_, pa_e⟩
        · rw [pa_o (by decide), pa_o (by decide), pa_o (by decide), pa_e]
        · rw [pa_o (by decide), pa_o (by decide), pa_e]
        · rw [pa_o (by decide), pa_e]
      · obtain ⟨q1, q2, q3, q4⟩ := i2 x (by omega)
        refine ⟨?_, ?_, ?_, ?_⟩
        · rw [pa_o (by decide), pa_o (by decide), pa_o (by decide), pa_s e]
          exact q1
        · rw [pa_o (by decide), pa_o (by decide), pa_s e, pa_o (by decide)]
          exact q2
        · rw [pa_o (by decide), pa_s e, pa_o (by decide), pa_o (by decide)]
          exact q3
        · rw [pa_s e, pa_o (by decide), pa_o (by decide), pa_o (by decide)]
          exact q4
    · show f_X8_reset_h2 F k (f_X8_reset_l2 F k t) (nI m) T = _
      unfold f_X8_reset_h2 f_X8_put
      rw [i1.1, h3, if_neg (nI_ge hm (by omega)), (rd_m hk).2.2.2.2.2.1 (by omega), Option.bind_some, e6, tk_sets (by omega), Option.bind_some, (rd_m hk).2.2.2.2.2.2.1 (by omega), Option.bind_some, e7, wr_17 (by omega), Option.bind_some, wr_18 (by omega), Option.bind_some, wr_19 (by omega), Option.bind_some, Option.bind_some, wr_20 (by omega), Option.bind_some, Option.bind_some, nI_1]) F 0 S (Nat.zero_le _) (by omega) ⟨⟨rfl, fun _ _ => rfl, rfl⟩, fun x hx => absurd hx (Nat.not_lt_zero _)⟩
def iv_fresh (u : Nat → Nat → Nat) (T : si_St) : Prop := T.1 7 0 = 0 ∧ T.1 21 0 = 0 ∧ T.1 21 1 = 0 ∧ T.1 27 2 = 0 ∧ T.1 42 2 = 0 ∧ ∀ x, x < u 3 0 → T.2.1 17 x = nI (2 ^ u 9 x - 1) ∧ T.2.1 18 x = nI (2 ^ u 9 x - 1) ∧ T.2.1 19 x = nI (u 10 x) ∧ T.2.1 20 x = 0
theorem kd_m {k : Nat} (hk : k = 69 ∨ k = 78) : si_kd k = 2 := by
  rcases hk with rfl | rfl <;> rfl
theorem mk_0 {S : si_St} {d k : Nat} (h : S.2.2.2 d = k) (hk : k = 69 ∨ k = 78) : si_mk S d 2 = some k := by
  unfold si_mk
  rw [h, if_pos (kd_m hk)]
theorem td_all {F k mk : Nat} {u : Nat → Nat → Nat} {S : si_St} (hk : k = 69 ∨ k = 78) (hmk : mk = 69 ∨ mk = 78) (h0 : S.2.2.2 0 = mk) (h1 : S.2.2.2 1 = k) (hF : 1100 ≤ F) (g0 : iv_mok u) (g1 : iv_mk (S.1 k) (fun j => S.2.1 (k + j)) u) : ∃ T, f_X9_takeDraft F S = some T ∧ (∀ a j, a ≠ 3 → a ≠ 7 → a ≠ 21 → a ≠ 27 → a ≠ 42 → T.1 a j = S.1 a j) ∧ (∀ r, r ≠ 4 → ¬ (17 ≤ r ∧ r ≤ 20) → T.2.1 r = S.2.1 r) ∧ T.2.2.2 0 = k ∧ T.2.2.2 1 = mk ∧ iv_ld (T.1 3 1) (T.2.1 4) u ∧ iv_way (T.1 3 3) (T.1 3 5) (T.2.2.1 5) (T.2.2.1 6) u ∧ iv_fresh u T := by
  unfold f_X9_takeDraft f_X0_clear
  have r0 : (si_pr (si_pr S 0 k) 1 mk).2.2.2 0 = k := rfl
  have r1 : (si_pr (si_pr S 0 k) 1 mk).2.2.2 1 = mk := rfl
  have q1 : iv_mk ((si_pr (si_pr S 0 k) 1 mk).1 k) (fun j => (si_pr (si_pr S 0 k) 1 mk).2.1 (k + j)) u := g1
  have q2 : (si_pr (si_pr S 0 k) 1 mk).1 = S.1 := rfl
  have q3 : (si_pr (si_pr S 0 k) 1 mk).2.1 = S.2.1 := rfl
  have p1 : ∀ (S : si_St) d k, si_pm S d k = some (si_pr S d k) := fun _ _ _ => rfl
  have z0 : ∀ (S : si_St) k j, si_pz S k j 0 = some (si_ps S k j 0) := fun _ _ _ => rfl
  rw [mk_0 h0 hmk, Option.bind_some, mk_0 h1 hk, Option.bind_some, p1, Option.bind_some, p1, Option.bind_some]
  generalize si_pr (si_pr S 0 k) 1 mk = S4 at *
  obtain ⟨T6, l1, l2, l3, l4⟩ := le_all (F := F) hk hF g0 q1
  have e6 : T6.2.2.2 0 = k := by rw [l2.2.2.2]; exact r0
  rw [mk_0 r0 hk, Option.bind_some, l1, Option.bind_some, sm_pt, Option.bind_some, mk_0 (S := si_ps T6 7 0 0) e6 hk, Option.bind_some]
  have g6 : iv_mk ((si_ps T6 7 0 0).1 k) (fun j => (si_ps T6 7 0 0).2.1 (k + j)) u := by
    refine q1.cg (fun j _ => ?_) (fun j a1 a8 => ?_)
    · rw [ps_o (by omega)]
      exact l2.1 k j (by omega)
    · exact l2.2.1 (k + j) (by omega)
  obtain ⟨T9, s1, s2, s3⟩ := rs_all (F := F) hk hF g0 g6
  rw [s1, Option.bind_some, sm_pt, Option.bind_some, sm_pt, Option.bind_some, Option.bind_some, z0, Option.bind_some, z0, Option.bind_some]
  have c9 : ∀ a j, ¬ (a = 7 ∧ j = 0) → T9.1 a j = T6.1 a j := fun a j h => by rw [s2.1, ps_o h]
  refine ⟨_, rfl, fun a j a3 a7 a21 a27 a42 => ?_, fun r r4 r17 => ?_, ?_, ?_, ?_, ?_, ?_⟩
  · rw [ps_o (by omega), ps_o (by omega), ps_o (by omega), ps_o (by omega), c9 a j (by omega), l2.1 a j (by omega), q2]
  · show T9.2.1 r = _
    rw [s2.2.1 r r17]
    show T6.2.1 r = _
    rw [l2.2.1 r r4, q3]
  · show T9.2.2.2 0 = _
    rw [s2.2.2]
    exact e6
  · show T9.2.2.2 1 = _
    rw [s2.2.2]
    show T6.2.2.2 1 = _
    rw [l2.2.2.2]
    exact r1
  · rw [ps_o (by omega), ps_o (by omega), ps_o (by omega), ps_o (by omega), c9 3 1 (by omega)]
    show iv_ld _ (T9.2.1 4) u
    rw [s2.2.1 4 (by omega)]
    exact l3
  · rw [ps_o (by omega), ps_o (by omega), ps_o (by omega), ps_o (by omega), ps_o (by omega), ps_o (by omega), ps_o (by omega), ps_o (by omega), c9 3 3 (by omega), c9 3 5 (by omega)]
    show iv_way _ _ (T9.2.2.1 5) (T9.2.2.1 6) u
    rw [s2.2.2]
    exact l4
  · refine ⟨?_, ?_, ?_, ?_, ps_e, fun x hx => s3 x hx⟩
    · rw [ps_o (by omega), ps_o (by omega), ps_o (by omega), ps_o (by omega), s2.1, ps_e]
    · rw [ps_o (by omega), ps_o (by omega), ps_o (by omega), ps_e]
    · rw [ps_o (by omega), ps_o (by omega), ps_e]
    · rw [ps_o (by omega), ps_e]

