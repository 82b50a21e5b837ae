/-! parse: both together -/
def uz : Nat → Nat → Nat := fun _ _ => 0
theorem uz_ok : iv_mok uz := ⟨by decide, by decide, by decide, by decide, fun i h => absurd h (Nat.not_lt_zero _), fun i h => absurd h (Nat.not_lt_zero _), fun i h => absurd h (Nat.not_lt_zero _), fun _ _ => Nat.zero_le 5⟩
theorem rm_start {F k N : Nat} {c : Nat → Nat} {S : si_St} (X : cx N F c k) (ht : ∀ i, i < N → S.2.1 2 i = bv (c i)) : ∃ A1, f_X3_readMarket F k (nI N) S = f_X3_readMarket_l31 F k F (nI N) 0 A1 ∧ fA k S A1 ∧ pA k N c A1 (pt c N 0) uz := by
  obtain ⟨x1, x2, x3, hk⟩ := X
  have hk1 := k_ne1 hk
  have l8 : si_ln (k + 8) = 3 := by rcases hk with rfl | rfl <;> rfl
  unfold f_X3_readMarket f_X2_clear
  rw [sm_pt, Option.bind_some, sm_pt, Option.bind_some, sm_pt, Option.bind_some, sm_pt, Option.bind_some]
  obtain ⟨T, t1, t2, t3, t4, t5⟩ := sy_fill (F := F) (k := k + 8) (n := 3) (v := 0) (S := si_ps (si_ps (si_ps (si_ps S k 0 0) k 1 0) k 2 0) k 3 0) l8 (by decide) (by omega)
  rw [t1, Option.bind_some, Option.bind_some, sm_pt, Option.bind_some, sm_pt, Option.bind_some, sm_pt, Option.bind_some, sm_pt, Option.bind_some]
  have fT : fA k S T := by
    refine ⟨fun a j h1 h2 => ?_, fun r hr => ?_, t4⟩
    · rw [t2, ps_o (by omega), ps_o (by omega), ps_o (by omega), ps_o (by omega)]
    · exact t3 r (by omega)
  have f1 : ∀ (S : si_St) j v, 2 ≤ j → fA k S (si_ps S 1 j v) := fun S j v hj => ⟨fun a i h1 h2 => ps_o (by omega), fun _ _ => rfl, rfl⟩
  have fA0 : fA k S (si_ps (si_ps (si_ps (si_ps T 1 3 0) 1 2 (-2)) 1 4 (nI N)) 1 6 0) := (((fT.tr (f1 _ 3 _ (by decide))).tr (f1 _ 2 _ (by decide))).tr (f1 _ 4 _ (by decide))).tr (f1 _ 6 _ (by decide))
  have z3 : (si_ps (si_ps (si_ps (si_ps T 1 3 0) 1 2 (-2)) 1 4 (nI N)) 1 6 0).1 1 3 = 0 := by rw [ps_o (by decide), ps_o (by decide), ps_o (by decide), ps_e]
  have z2 : (si_ps (si_ps (si_ps (si_ps T 1 3 0) 1 2 (-2)) 1 4 (nI N)) 1 6 0).1 1 2 = -2 := by rw [ps_o (by decide), ps_o (by decide), ps_e]
  have z4 : (si_ps (si_ps (si_ps (si_ps T 1 3 0) 1 2 (-2)) 1 4 (nI N)) 1 6 0).1 1 4 = nI N := by rw [ps_o (by decide), ps_e]
  have z6 : (si_ps (si_ps (si_ps (si_ps T 1 3 0) 1 2 (-2)) 1 4 (nI N)) 1 6 0).1 1 6 = nI 0 := ps_e
  have zt : ∀ i, i < N → (si_ps (si_ps (si_ps (si_ps T 1 3 0) 1 2 (-2)) 1 4 (nI N)) 1 6 0).2.1 2 i = bv (c i) := fun i hi => by
    show T.2.1 2 i = _
    rw [t3 2 (by omega)]
    exact ht i hi
  have zm : iv_mk ((si_ps (si_ps (si_ps (si_ps T 1 3 0) 1 2 (-2)) 1 4 (nI N)) 1 6 0).1 k) (fun j => (si_ps (si_ps (si_ps (si_ps T 1 3 0) 1 2 (-2)) 1 4 (nI N)) 1 6 0).2.1 (k + j)) uz := by
    refine ⟨fun j hj => ?_, fun i h => absurd h (Nat.not_lt_zero _), fun i h => absurd h (Nat.not_lt_zero _), fun i h => absurd h (Nat.not_lt_zero _), fun c hc => t5 c hc⟩
    rw [ps_o (by omega), ps_o (by omega), ps_o (by omega), ps_o (by omega), t2]
    have : j = 0 ∨ j = 1 ∨ j = 2 ∨ j = 3 := by omega
    rcases this with rfl | rfl | rfl | rfl
    · rw [ps_o (by omega), ps_o (by omega), ps_o (by omega), ps_e]
      rfl
    · rw [ps_o (by omega), ps_o (by omega), ps_e]
      rfl
    · rw [ps_o (by omega), ps_e]
      rfl
    · rw [ps_e]
      rfl
  generalize si_ps (si_ps (si_ps (si_ps T 1 3 0) 1 2 (-2)) 1 4 (nI N)) 1 6 0 = A0 at *
  obtain ⟨A1, a1, a2, a3, a4, a5⟩ := tA_adv (F := F) x1 (by omega) x3 (Nat.zero_le N) z4 zt z6
  rw [a1, Option.bind_some]
  have f : fx 1 j1 A0 A1 := a2.mo (by decide)
  exact ⟨A1, rfl, fA0.tr f.A, (a2.2 1 3 (by decide)).trans z3, (a2.2 1 2 (by decide)).trans z2, (a2.2 1 4 (by decide)).trans z4, fun i hi => by rw [a2.1]; exact zt i hi, a3, a4, a5, zm.fx hk f⟩
def fP (S T : si_St) : Prop := (∀ a j, ¬ (a = 87 ∧ (j = 0 ∨ 15 ≤ j ∧ j ≤ 34)) → T.1 a j = S.1 a j) ∧ (∀ r, ¬ (98 ≤ r ∧ r ≤ 105) → T.2.1 r = S.2.1 r) ∧ T.2.2 = S.2.2
theorem fP.tr {S T U : si_St} (h1 : fP S T) (h2 : fP T U) : fP S U := ⟨fun a j h => (h2.1 a j h).trans (h1.1 a j h), fun r h => (h2.2.1 r h).trans (h1.2.1 r h), h2.2.2.trans h1.2.2⟩
theorem fP.ps {S : si_St} {j : Nat} {v : Int32} (h : j = 0 ∨ 15 ≤ j ∧ j ≤ 34) : fP S (si_ps S 87 j v) := ⟨fun a i hn => ps_o (fun e => hn ⟨e.1, by rw [e.2]; exact h⟩), fun _ _ => rfl, rfl⟩
theorem fP.B {S T : si_St} (h : fB S T) : fP S T := ⟨fun a j hn => h.1 a j (by omega), h.2.1, h.2.2⟩
theorem pm_start {F k N : Nat} {c : Nat → Nat} {S : si_St} (X : cx N F c k) (ht : ∀ i, i < N → S.2.1 97 i = bv (c i)) (h15 : ∃ n, n < 2 ^ 31 ∧ N ≤ n ∧ S.1 87 15 = nI n) : ∃ B1, f_X10_parse F (nI N) S = f_X10_parse_l93 F F 1 B1 ∧ fP S B1 ∧ B1.1 87 15 = 0 ∧ pB N c B1 (pt c N 0) uz := by
  obtain ⟨x1, x2, x3, hk⟩ := X
  obtain ⟨n, hn, hNn, h15⟩ := h15
  have e15 : (si_ps S 87 0 0).1 87 15 = nI n := (ps_o (by decide)).trans h15
  unfold f_X10_parse
  rw [sm_pt, Option.bind_some, e15, sm_winN (a := 0) (b := n) (by decide) rfl (by omega) (by decide) hn, if_pos ⟨Nat.zero_le _, hNn⟩, Option.bind_some, if_neg (show ¬ (1 : Int32) = 0 by decide)]
  dsimp only
  rw [sm_pt, Option.bind_some, sm_pt, Option.bind_some, sm_pt, Option.bind_some, sm_pt, Option.bind_some, sm_pt, Option.bind_some, sm_pt, Option.bind_some, sm_pt, Option.bind_some, sm_pt, Option.bind_some, sm_pt, Option.bind_some]
  have step : ∃ T, T = si_ps (si_ps (si_ps (si_ps (si_ps (si_ps (si_ps (si_ps (si_ps (si_ps S 87 0 0) 87 16 (nI N)) 87 15 0) 87 18 0) 87 21 0) 87 22 (-2)) 87 24 0) 87 25 0) 87 30 0) 87 32 0 := ⟨_, rfl⟩
  obtain ⟨T, hT⟩ := step
  rw [← hT]
  have fT : fP S T := by
    rw [hT]
    exact (((((((((fP.ps (by decide)).tr (fP.ps (by decide))).tr (fP.ps (by decide))).tr (fP.ps (by decide))).tr (fP.ps (by decide))).tr (fP.ps (by decide))).tr (fP.ps (by decide))).tr (fP.ps (by decide))).tr (fP.ps (by decide))).tr (fP.ps (by decide))
  have t16 : T.1 87 16 = nI N := by rw [hT]; rfl
  have t15 : T.1 87 15 = 0 := by rw [hT]; rfl
  have t18 : T.1 87 18 = nI 0 := by rw [hT]; rfl
  have t21 : T.1 87 21 = 0 := by rw [hT]; rfl
  have t22 : T.1 87 22 = -2 := by rw [hT]; rfl
  have t24 : T.1 87 24 = 0 := by rw [hT]; rfl
  have t25 : T.1 87 25 = 0 := by rw [hT]; rfl
  have t30 : T.1 87 30 = 0 := by rw [hT]; rfl
  have t32 : T.1 87 32 = 0 := by rw [hT]; rfl
  clear hT
  have hl := lp_inv (fun t m U => f_X10_parse_l69 F t (nI m) U) (fun m U => U.1 = T.1 ∧ (∀ r, r ≠ 105 → U.2.1 r = T.2.1 r) ∧ U.2.2 = T.2.2 ∧ ∀ i, i < m → U.2.1 105 i = 0) (fun o => ∃ U, o = (Option.bind (f_X10_advance F U) fun S3 => f_X10_parse_l93 F F 1 S3) ∧ U.1 = T.1 ∧ (∀ r, r ≠ 105 → U.2.1 r = T.2.1 r) ∧ U.2.2 = T.2.2 ∧ ∀ i, i < 3 → U.2.1 105 i = 0) 3 (fun t U h => by
    refine ⟨U, ?_, h⟩
    show f_X10_parse_h69 F _ (nI 3) U = _
    unfold f_X10_parse_h69
    rw [if_pos (show 3 ≤ nI 3 by decide)]) (fun t m U hm ⟨i1, i2, i3, i4⟩ => by
    refine ⟨si_pa U 105 m 0, ⟨i1, fun r hr => (pa_o hr).trans (i2 r hr), i3, fun i hi => ?_⟩, ?_⟩
    · by_cases e : i = m
      · rw [e, pa_e]
      · rw [pa_s e]
        exact i4 i (by omega)
    · show f_X10_parse_h69 F (f_X10_parse_l69 F t) (nI m) U = _
      unfold f_X10_parse_h69
      rw [if_neg (show ¬ 3 ≤ nI m from nI_ge (b := 3) hm (by decide)), wr_105 hm, Option.bind_some, Option.bind_some, nI_1]) F 0 T (Nat.zero_le _) (by omega) ⟨rfl, fun _ _ => rfl, rfl, fun i hi => absurd hi (Nat.not_lt_zero _)⟩
  obtain ⟨U, u1, u2, u3, u4, u5⟩ := hl
  have hu : f_X10_parse_l69 F F 0 T = (Option.bind (f_X10_advance F U) fun S3 => f_X10_parse_l93 F F 1 S3) := u1
  have ut' : ∀ i, i < N → U.2.1 97 i = bv (c i) := fun i hi => by
    rw [u3 97 (by decide), fT.2.1 97 (by decide)]
    exact ht i hi
  obtain ⟨B1, a1, a2, a3, a4, a5, a6⟩ := tB_adv (F := F) x1 (by omega) x3 (Nat.zero_le N) (by rw [u2]; exact t16) ut' (by rw [u2]; exact t18)
  rw [hu, a1, Option.bind_some]
  have c1 : ∀ j, j ∉ [17, 18, 19, 20] → B1.1 87 j = T.1 87 j := fun j hj => (a2.2 87 j (fun e => hj e.2)).trans (by rw [u2])
  refine ⟨B1, rfl, fT.tr ⟨fun a j h => ?_, fun r hr => ?_, ?_⟩, (c1 15 (by decide)).trans t15, (c1 16 (by decide)).trans t16, fun i hi => by rw [a2.1]; exact ut' i hi, a3, a4, a5, a6, (c1 21 (by decide)).trans t21, (c1 22 (by decide)).trans t22, (c1 24 (by decide)).trans t24, (c1 25 (by decide)).trans t25, (c1 30 (by decide)).trans t30, (c1 32 (by decide)).trans t32, fun i h => absurd h (Nat.not_lt_zero _), fun i h => absurd h (Nat.not_lt_zero _), fun i h => absurd h (Nat.not_lt_zero _), fun c hc => ?_⟩
  · rw [a2.2 a j (fun e => h ⟨e.1, by have := e.2; revert this; simp; omega⟩), u2]
  · rw [a2.1]
    exact u3 r (by omega)
  · rw [a2.1]
    exact u4
  · rw [a2.1]
    exact u5 c hc
/-- a failed parse leaves what both keep -/
theorem iv_at.goF {S T : si_St} {u : Nat → Nat → Nat} {mk k : Nat} (hm : mk = 69 ∨ mk = 78) (hk : k = 69 ∨ k = 78) (hne : mk ≠ k) (h : iv_at S u mk) (es : ∀ a j, a ≠ k → a ≠ 1 → ¬ (a = 87 ∧ (j = 0 ∨ 15 ≤ j ∧ j ≤ 34)) → T.1 a j = S.1 a j) (ea : ∀ r, ¬ (k + 1 ≤ r ∧ r ≤ k + 8) → ¬ (98 ≤ r ∧ r ≤ 105) → T.2.1 r = S.2.1 r) (e2 : T.2.2 = S.2.2) (c1 : T.1 1 1 = 0) (c15 : T.1 87 15 = 0) (c2 : T.1 1 2 = T.1 87 22) : iv_at T u mk := by
  obtain ⟨g0, g1, g2, g3, g4, g5, g6, g7, g8, g9, g10, g11⟩ := h
  refine ⟨g0, ?_, ?_, ⟨0, Nat.zero_le _, c1, c15, fun i hi => absurd hi (Nat.not_lt_zero _)⟩, c2, ?_, ?_, ?_, ?_, ?_, ?_, ?_⟩
  · exact g1.cg (fun j hj => es _ _ hne (by omega) (by omega)) (fun j h1 h8 => ea _ (by omega) (by omega))
  · unfold iv_mm at g2 ⊢
    rw [es 87 2 (by omega) (by decide) (by decide), es 87 3 (by omega) (by decide) (by decide), es 87 8 (by omega) (by decide) (by decide), es 87 10 (by omega) (by decide) (by decide), ea 89 (by omega) (by decide), ea 90 (by omega) (by decide), ea 91 (by omega) (by decide), ea 92 (by omega) (by decide), ea 93 (by omega) (by decide), ea 94 (by omega) (by decide), ea 95 (by omega) (by decide), ea 96 (by omega) (by decide)]
    exact g2
  · rw [es 3 1 (by omega) (by decide) (by decide), ea 4 (by omega) (by decide)]
    exact g5
  · rw [es 3 3 (by omega) (by decide) (by decide), es 3 5 (by omega) (by decide) (by decide), e2]
    exact g6
  · rw [es 7 0 (by omega) (by decide) (by decide), ea 88 (by omega) (by decide)]
    exact g7.cg (fun j h1 h8 => ea _ (by omega) (by omega)) (fun j h1 h4 => ea _ (by omega) (by omega))
  · unfold iv_hist at g8 ⊢
    rw [es 21 0 (by omega) (by decide) (by decide), es 21 1 (by omega) (by decide) (by decide), es 87 41 (by omega) (by decide) (by decide), es 7 0 (by omega) (by decide) (by decide), ea 110 (by omega) (by decide)]
    obtain ⟨d, p, q1, q2, q3, q4, q5, q6⟩ := g8
    exact ⟨d, p, q1, q2, q3, q4, q5, iv_ch.cg (fun j hj => ea _ (by omega) (by omega)) _ _ _ _ _ _ _ (fun j h1 h8 => ea _ (by omega) (by omega)) (fun j h1 h4 => ea _ (by omega) (by omega)) q6⟩
  · unfold iv_slot at g9 ⊢
    rw [es 27 2 (by omega) (by decide) (by decide), es 28 0 (by omega) (by decide) (by decide), ea 112 (by omega) (by decide), ea 111 (by omega) (by decide)]
    rcases g9 with h | ⟨h1, h2, h3⟩
    · exact Or.inl h
    · exact Or.inr ⟨h1, h2, h3.cg (fun j h1 h8 => ea _ (by omega) (by omega)) (fun j h1 h4 => ea _ (by omega) (by omega))⟩
  · unfold iv_slot at g10 ⊢
    rw [es 42 2 (by omega) (by decide) (by decide), es 43 0 (by omega) (by decide) (by decide), ea 112 (by omega) (by decide), ea 111 (by omega) (by decide)]
    rcases g10 with h | ⟨h1, h2, h3⟩
    · exact Or.inl h
    · exact Or.inr ⟨h1, h2, h3.cg (fun j h1 h8 => ea _ (by omega) (by omega)) (fun j h1 h4 => ea _ (by omega) (by omega))⟩
  · rw [ea 66 (by omega) (by decide), ea 67 (by omega) (by decide), ea 68 (by omega) (by decide)]
    exact g11
