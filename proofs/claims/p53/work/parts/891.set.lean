/-! parse: a set of weights, a term -/
def ut (u : Nat → Nat → Nat) (x y : Nat) : Nat → Nat → Nat := uu (uu (uu u 3 0 (u 3 0 + 1)) 9 (u 3 0) x) 10 (u 3 0) y
theorem ut_n {u : Nat → Nat → Nat} {x y : Nat} : ut u x y 3 0 = u 3 0 + 1 ∧ ut u x y 9 (u 3 0) = x ∧ ut u x y 10 (u 3 0) = y := by
  unfold ut
  refine ⟨rfl, ?_, uu_e⟩
  rw [uu_o (by omega), uu_e]
theorem ut_o {u : Nat → Nat → Nat} {x y i j : Nat} (h : ¬ (j = 3 ∧ i = 0)) (h2 : ¬ (9 ≤ j ∧ j ≤ 10 ∧ i = u 3 0)) : ut u x y j i = u j i := by
  unfold ut
  rw [uu_o (by omega), uu_o (by omega), uu_o (by omega)]
theorem ut_ok {u : Nat → Nat → Nat} {x y : Nat} (o : iv_mok u) (h : u 3 0 < 4) (h1 : 2 ≤ x) (h2 : x ≤ 12) (h3 : y ≤ 1) : iv_mok (ut u x y) := by
  obtain ⟨o1, o2, o3, o4, o5, o6, o7, o8⟩ := o
  obtain ⟨n1, n2, n3⟩ := ut_n (u := u) (x := x) (y := y)
  refine ⟨o1, o2, o3, by rw [n1]; omega, fun i hi => ?_, fun i hi => ?_, fun i hi => ?_, fun i hi => ?_⟩
  · rw [ut_o (by omega) (by omega), ut_o (by omega) (by omega), ut_o (by omega) (by omega), ut_o (by omega) (by omega), ut_o (by omega) (by omega)]
    exact o5 i hi
  · rw [ut_o (by omega) (by omega)]
    exact o6 i hi
  · rw [n1] at hi
    by_cases e : i = u 3 0
    · rw [e, n2, n3]
      exact ⟨h1, h2, h3⟩
    · rw [ut_o (by omega) (by omega), ut_o (by omega) (by omega)]
      exact o7 i (by omega)
  · rw [ut_o (by omega) (by omega)]
    exact o8 i hi
theorem setA {k N F x y : Nat} {c : Nat → Nat} {A : si_St} {P : Nat × Nat × Nat} {u : Nat → Nat → Nat} (hk : k = 69 ∨ k = 78) (h : pA k N c A P u) (hn : u 3 0 < 4) (hy : y = 0 ∨ y = 1) : ∃ A', f_X3_readSet_h47 F k (nI x) (nI y) A = some A' ∧ fA k A A' ∧ pA k N c A' P (ut u x y) := by
  have hk1 := k_ne1 hk
  have hA : A.1 k 3 = nI (u 3 0) := h.2.2.2.2.2.2.2.1 3 (by decide)
  obtain ⟨n1, n2, n3⟩ := ut_n (u := u) (x := x) (y := y)
  have e : f_X3_readSet_h47 F k (nI x) (nI y) A = some (si_ps (si_pa (si_pa A (k + 6) (u 3 0) (nI x)) (k + 7) (u 3 0) (nI y)) k 3 (nI (u 3 0 + 1))) := by
    unfold f_X3_readSet_h47 f_X3_readSet_h81 f_X3_readSet_h92
    rw [if_pos h.1, hA, (wr_m hk).2.2.2.2.2.1 hn, Option.bind_some, pa_1, hA]
    rcases hy with rfl | rfl
    · rw [if_pos (show nI 0 = 0 from rfl), (wr_m hk).2.2.2.2.2.2.1 hn, Option.bind_some, pa_1, pa_1, hA, sm_pt, Option.bind_some, nI_1]
      all_goals rfl
    · rw [if_neg (show ¬ nI 1 = 0 by decide), (wr_m hk).2.2.2.2.2.2.1 hn, Option.bind_some, pa_1, pa_1, hA, sm_pt, Option.bind_some, nI_1]
      all_goals rfl
  have f : fA k A (si_ps (si_pa (si_pa A (k + 6) (u 3 0) (nI x)) (k + 7) (u 3 0) (nI y)) k 3 (nI (u 3 0 + 1))) := ((fA.pa (by omega) (by omega)).tr (fA.pa (by omega) (by omega))).tr fA.ps
  refine ⟨_, e, f, h.up hk f (fun j => ps_o (fun e => hk1 e.1.symm)) ?_⟩
  obtain ⟨m1, m2, m3, m4, m5⟩ := h.2.2.2.2.2.2.2
  have row : ∀ j i, ¬ (6 ≤ j ∧ j ≤ 7 ∧ i = u 3 0) → (si_ps (si_pa (si_pa A (k + 6) (u 3 0) (nI x)) (k + 7) (u 3 0) (nI y)) k 3 (nI (u 3 0 + 1))).2.1 (k + j) i = A.2.1 (k + j) i := fun j i hn => by
    rw [ps_21, pa_if, if_neg (by omega), pa_if, if_neg (by omega)]
  refine ⟨fun j hj => ?_, fun i hi => ?_, fun i hi => ?_, fun i hi => ?_, fun i hi => ?_⟩
  · by_cases e : j = 3
    · rw [e, n1]
      exact ps_e
    · rw [ps_o (fun h => e h.2), ut_o (by omega) (by omega)]
      exact m1 j hj
  · dsimp only
    rw [ut_o (by omega) (by omega), ut_o (by omega) (by omega), ut_o (by omega) (by omega), ut_o (by omega) (by omega), row 1 i (by omega), row 2 i (by omega), row 3 i (by omega), row 4 i (by omega)]
    exact m2 i hi
  · dsimp only
    rw [ut_o (by omega) (by omega), row 5 i (by omega)]
    exact m3 i hi
  · rw [n1] at hi
    by_cases e : i = u 3 0
    · rw [e, n2, n3]
      dsimp only
      rw [ps_21]
      exact ⟨by rw [pa_if, if_neg (by omega), pa_e], pa_e⟩
    · dsimp only
      rw [ut_o (by omega) (by omega), ut_o (by omega) (by omega), row 6 i (by omega), row 7 i (by omega)]
      exact m4 i (by omega)
  · dsimp only
    rw [ut_o (by omega) (by omega), row 8 i (by omega)]
    exact m5 i hi
theorem eA.h47 {F e p k : Nat} {x y : Int32} {A : si_St} (h : eA e p A) : f_X3_readSet_h47 F k x y A = some A := by
  unfold f_X3_readSet_h47 f_X3_readSet_h92
  rw [if_neg h.ne]
theorem sm_wz01 {S : si_St} {k : Nat} {i v : Int32} (h : v = 0 ∨ v = 1) : si_wz S k i v = si_wr S k i v := if_pos h
theorem uv_ok {u : Nat → Nat → Nat} {v x : Nat} (o : iv_mok u) (h2 : x ≤ 5) : iv_mok (uu u 11 v x) := by
  obtain ⟨o1, o2, o3, o4, o5, o6, o7, o8⟩ := o
  refine ⟨o1, o2, o3, o4, fun i hi => o5 i hi, fun i hi => o6 i hi, fun i hi => o7 i hi, fun i hi => ?_⟩
  by_cases e : i = v
  · rw [e, uu_e]
    exact h2
  · rw [uu_o (fun h => e h.2)]
    exact o8 i hi
