/-! parse: both together -/
def uz : Nat → Nat → Nat := fun _ _ => 0
theorem uz_ok : iv_mok uz := ⟨by decide, by decide, by decide, by decide, fun i h => absurd h (Nat.not_lt_zero _), fun i h => absurd h (Nat.not_lt_zero _), fun i h => absurd h (Nat.not_lt_zero _), fun _ _ => Nat.zero_le 5⟩
theorem rm_start {F k N : Nat} {c : Nat → Nat} {S : si_St} (X : cx N F c k) (ht : ∀ i, i < N → S.2.1 2 i = bv (c i)) : ∃ A1, f_X3_readMarket F k (nI N) S = f_X3_readMarket_l31 F k F (nI N) 0 A1 ∧ fA k S A1 ∧ pA k N c A1 (pt c N 0) uz := by
  obtain ⟨x1, x2, x3, hk⟩ := X
  have hk1 := k_ne1 hk
  have l8 : si_ln (k + 8) = 3 := by rcases hk with rfl | rfl <;> rfl
  unfold f_X3_readMarket f_X2_clear
  rw [sm_pt, Option.bind_some, sm_pt, Option.bind_some, sm_pt, Option.bind_some, sm_pt, Option.bind_some]
  obtain ⟨T, t1, t2, t3, t4, t5⟩ := sy_fill (F := F) (k := k + 8) (n := 3) (v := 0) (S := si_ps (si_ps (si_ps (si_ps S k 0 0) k 1 0) k 2 0) k 3 0) l8 (by decide) (by omega)
  rw [t1, Option.bind_some, Option.bind_some, sm_pt, Option.bind_some, sm_pt, Option.bind_some, sm_pt, Option.bind_some, sm_pt, Option.bind_some]
  have fT : fA k S T := by
    refine ⟨fun a j h1 h2 => ?_, fun r hr => ?_, t4⟩
    · rw [t2, ps_o (by omega), ps_o (by omega), ps_o (by omega), ps_o (by omega)]
    · exact t3 r (by omega)
  have f1 : ∀ (S : si_St) j v, 2 ≤ j → fA k S (si_ps S 1 j v) := fun S j v hj => ⟨fun a i h1 h2 => ps_o (by omega), fun _ _ => rfl, rfl⟩
  have fA0 : fA k S (si_ps (si_ps (si_ps (si_ps T 1 3 0) 1 2 (-2)) 1 4 (nI N)) 1 6 0) := (((fT.tr (f1 _ 3 _ (by decide))).tr (f1 _ 2 _ (by decide))).tr (f1 _ 4 _ (by decide))).tr (f1 _ 6 _ (by decide))
  have z3 : (si_ps (si_ps (si_ps (si_ps T 1 3 0) 1 2 (-2)) 1 4 (nI N)) 1 6 0).1 1 3 = 0 := by rw [ps_o (by decide), ps_o (by decide), ps_o (by decide), ps_e]
  have z2 : (si_ps (si_ps (si_ps (si_ps T 1 3 0) 1 2 (-2)) 1 4 (nI N)) 1 6 0).1 1 2 = -2 := by rw [ps_o (by decide), ps_o (by decide), ps_e]
  have z4 : (si_ps (si_ps (si_ps (si_ps T 1 3 0) 1 2 (-2)) 1 4 (nI N)) 1 6 0).1 1 4 = nI N := by rw [ps_o (by decide), ps_e]
  have z6 : (si_ps (si_ps (si_ps (si_ps T 1 3 0) 1 2 (-2)) 1 4 (nI N)) 1 6 0).1 1 6 = nI 0 := ps_e
  have zt : ∀ i, i < N → (si_ps (si_ps (si_ps (si_ps T 1 3 0) 1 2 (-2)) 1 4 (nI N)) 1 6 0).2.1 2 i = bv (c i) := fun i hi => by
    show T.2.1 2 i = _
    rw [t3 2 (by omega)]
    exact ht i hi
  have zm : iv_mk ((si_ps (si_ps (si_ps (si_ps T 1 3 0) 1 2 (-2)) 1 4 (nI N)) 1 6 0).1 k) (fun j => (si_ps (si_ps (si_ps (si_ps T 1 3 0) 1 2 (-2)) 1 4 (nI N)) 1 6 0).2.1 (k + j)) uz := by
    refine ⟨fun j hj => ?_, fun i h => absurd h (Nat.not_lt_zero _), fun i h => absurd h (Nat.not_lt_zero _), fun i h => absurd h (Nat.not_lt_zero _), fun c hc => t5 c hc⟩
    rw [ps_o (by omega), ps_o (by omega), ps_o (by omega), ps_o (by omega), t2]
    have : j = 0 ∨ j = 1 ∨ j = 2 ∨ j = 3 := by omega
    rcases this with rfl | rfl | rfl | rfl
    · rw [ps_o (by omega), ps_o (by omega), ps_o (by omega), ps_e]
      rfl
    · rw [ps_o (by omega), ps_o (by omega), ps_e]
      rfl
    · rw [ps_o (by omega), ps_e]
      rfl
    · rw [ps_e]
      rfl
  generalize si_ps (si_ps (si_ps (si_ps T 1 3 0) 1 2 (-2)) 1 4 (nI N)) 1 6 0 = A0 at *
  obtain ⟨A1, a1, a2, a3, a4, a5⟩ := tA_adv (F := F) x1 (by omega) x3 (Nat.zero_le N) z4 zt z6
  rw [a1, Option.bind_some]
  have f : fx 1 j1 A0 A1 := a2.mo (by decide)
  exact ⟨A1, rfl, fA0.tr f.A, (a2.2 1 3 (by decide)).trans z3, (a2.2 1 2 (by decide)).trans z2, (a2.2 1 4 (by decide)).trans z4, fun i hi => by rw [a2.1]; exact zt i hi, a3, a4, a5, zm.fx hk f⟩
def fP (S T : si_St) : Prop := (∀ a j, ¬ (a = 87 ∧ (j = 0 ∨ 15 ≤ j ∧ j ≤ 34)) → T.1 a j = S.1 a j) ∧ (∀ r, ¬ (98 ≤ r ∧ r ≤ 105) → T.2.1 r = S.2.1 r) ∧ T.2.2 = S.2.2
theorem fP.tr {S T U : si_St} (h1 : fP S T) (h2 : fP T U) : fP S U := ⟨fun a j h => (h2.1 a j h).trans (h1.1 a j h), fun r h => (h2.2.1 r h).trans (h1.2.1 r h), h2.2.2.trans h1.2.2⟩
theorem fP.ps {S : si_St} {j : Nat} {v : Int32} (h : j = 0 ∨ 15 ≤ j ∧ j ≤ 34) : fP S (si_ps S 87 j v) := ⟨fun a i hn => ps_o (fun e => hn ⟨e.1, by rw [e.2]; exact h⟩), fun _ _ => rfl, rfl⟩
theorem fP.B {S T : si_St} (h : fB S T) : fP S T := ⟨fun a j hn => h.1 a j (by omega), h.2.1, h.2.2⟩
/-- a failed parse leaves what both keep -/
theorem iv_at.goF {S T : si_St} {u : Nat → Nat → Nat} {mk k : Nat} (hm : mk = 69 ∨ mk = 78) (hk : k = 69 ∨ k = 78) (hne : mk ≠ k) (h : iv_at S u mk) (es : ∀ a j, a ≠ k → a ≠ 1 → ¬ (a = 87 ∧ (j = 0 ∨ 15 ≤ j ∧ j ≤ 34)) → T.1 a j = S.1 a j) (ea : ∀ r, ¬ (k + 1 ≤ r ∧ r ≤ k + 8) → ¬ (98 ≤ r ∧ r ≤ 105) → T.2.1 r = S.2.1 r) (e2 : T.2.2 = S.2.2) (c1 : T.1 1 1 = 0) (c15 : T.1 87 15 = 0) (c2 : T.1 1 2 = T.1 87 22) : iv_at T u mk := by
  obtain ⟨g0, g1, g2, g3, g4, g5, g6, g7, g8, g9, g10, g11⟩ := h
  refine ⟨g0, ?_, ?_, ⟨0, Nat.zero_le _, c1, c15, fun i hi => absurd hi (Nat.not_lt_zero _)⟩, c2, ?_, ?_, ?_, ?_, ?_, ?_, ?_⟩
  · exact g1.cg (fun j hj => es _ _ hne (by omega) (by omega)) (fun j h1 h8 => ea _ (by omega) (by omega))
  · unfold iv_mm at g2 ⊢
    rw [es 87 2 (by omega) (by decide) (by decide), es 87 3 (by omega) (by decide) (by decide), es 87 8 (by omega) (by decide) (by decide), es 87 10 (by omega) (by decide) (by decide), ea 89 (by omega) (by decide), ea 90 (by omega) (by decide), ea 91 (by omega) (by decide), ea 92 (by omega) (by decide), ea 93 (by omega) (by decide), ea 94 (by omega) (by decide), ea 95 (by omega) (by decide), ea 96 (by omega) (by decide)]
    exact g2
  · rw [es 3 1 (by omega) (by decide) (by decide), ea 4 (by omega) (by decide)]
    exact g5
  · rw [es 3 3 (by omega) (by decide) (by decide), es 3 5 (by omega) (by decide) (by decide), e2]
    exact g6
  · rw [es 7 0 (by omega) (by decide) (by decide), ea 88 (by omega) (by decide)]
    exact g7.cg (fun j h1 h8 => ea _ (by omega) (by omega)) (fun j h1 h4 => ea _ (by omega) (by omega))
  · unfold iv_hist at g8 ⊢
    rw [es 21 0 (by omega) (by decide) (by decide), es 21 1 (by omega) (by decide) (by decide), es 87 41 (by omega) (by decide) (by decide), es 7 0 (by omega) (by decide) (by decide), ea 110 (by omega) (by decide)]
    obtain ⟨d, p, q1, q2, q3, q4, q5, q6⟩ := g8
    exact ⟨d, p, q1, q2, q3, q4, q5, iv_ch.cg (fun j hj => ea _ (by omega) (by omega)) _ _ _ _ _ _ _ (fun j h1 h8 => ea _ (by omega) (by omega)) (fun j h1 h4 => ea _ (by omega) (by omega)) q6⟩
  · unfold iv_slot at g9 ⊢
    rw [es 27 2 (by omega) (by decide) (by decide), es 28 0 (by omega) (by decide) (by decide), ea 112 (by omega) (by decide), ea 111 (by omega) (by decide)]
    rcases g9 with h | ⟨h1, h2, h3⟩
    · exact Or.inl h
    · exact Or.inr ⟨h1, h2, h3.cg (fun j h1 h8 => ea _ (by omega) (by omega)) (fun j h1 h4 => ea _ (by omega) (by omega))⟩
  · unfold iv_slot at g10 ⊢
    rw [es 42 2 (by omega) (by decide) (by decide), es 43 0 (by omega) (by decide) (by decide), ea 112 (by omega) (by decide), ea 111 (by omega) (by decide)]
    rcases g10 with h | ⟨h1, h2, h3⟩
    · exact Or.inl h
    · exact Or.inr ⟨h1, h2, h3.cg (fun j h1 h8 => ea _ (by omega) (by omega)) (fun j h1 h4 => ea _ (by omega) (by omega))⟩
  · rw [ea 66 (by omega) (by decide), ea 67 (by omega) (by decide), ea 68 (by omega) (by decide)]
    exact g11

