/-! parse: a mass -/
def um (u : Nat → Nat → Nat) (x : Nat) : Nat → Nat → Nat := uu (uu u 2 0 (u 2 0 + 1)) 8 (u 2 0) x
theorem um_n {u : Nat → Nat → Nat} {x : Nat} : um u x 2 0 = u 2 0 + 1 ∧ um u x 8 (u 2 0) = x := by
  unfold um
  exact ⟨rfl, uu_e⟩
theorem um_o {u : Nat → Nat → Nat} {x i j : Nat} (h : ¬ (j = 2 ∧ i = 0)) (h2 : ¬ (j = 8 ∧ i = u 2 0)) : um u x j i = u j i := by
  unfold um
  rw [uu_o (by omega), uu_o (by omega)]
theorem um_ok {u : Nat → Nat → Nat} {x : Nat} (o : iv_mok u) (h : u 2 0 < 10) (h1 : 1 ≤ x) (h2 : x ≤ 1000098) : iv_mok (um u x) := by
  obtain ⟨o1, o2, o3, o4, o5, o6, o7, o8⟩ := o
  obtain ⟨n1, n2⟩ := um_n (u := u) (x := x)
  refine ⟨o1, o2, by rw [n1]; omega, o4, fun i hi => ?_, fun i hi => ?_, fun i hi => ?_, fun i hi => ?_⟩
  · rw [um_o (by omega) (by omega), um_o (by omega) (by omega), um_o (by omega) (by omega), um_o (by omega) (by omega), um_o (by omega) (by omega)]
    exact o5 i hi
  · rw [n1] at hi
    by_cases e : i = u 2 0
    · rw [e, n2]
      exact ⟨h1, h2⟩
    · rw [um_o (by omega) (by omega)]
      exact o6 i (by omega)
  · rw [um_o (by omega) (by omega), um_o (by omega) (by omega)]
    exact o7 i hi
  · rw [um_o (by omega) (by omega)]
    exact o8 i hi
theorem massA {k N F x : Nat} {c : Nat → Nat} {A : si_St} {P : Nat × Nat × Nat} {u : Nat → Nat → Nat} (hk : k = 69 ∨ k = 78) (h : pA k N c A P u) (hn : u 2 0 < 10) : ∃ A', f_X3_readMass_h87 F k (nI x) A = some A' ∧ fA k A A' ∧ pA k N c A' P (um u x) := by
  have hk1 := k_ne1 hk
  have hA : A.1 k 2 = nI (u 2 0) := h.2.2.2.2.2.2.2.1 2 (by decide)
  obtain ⟨n1, n2⟩ := um_n (u := u) (x := x)
  unfold f_X3_readMass_h87 f_X3_readMass_h114
  rw [if_pos h.1, hA, (wr_m hk).2.2.2.2.1 hn, Option.bind_some, pa_1, hA, sm_pt, Option.bind_some, nI_1]
  have f : fA k A (si_ps (si_pa A (k + 5) (u 2 0) (nI x)) k 2 (nI (u 2 0 + 1))) := (fA.pa (by omega) (by omega)).tr fA.ps
  refine ⟨_, rfl, f, h.up hk f (fun j => ps_o (fun e => hk1 e.1.symm)) ?_⟩
  obtain ⟨m1, m2, m3, m4, m5⟩ := h.2.2.2.2.2.2.2
  have row : ∀ j i, ¬ (j = 5 ∧ i = u 2 0) → (si_ps (si_pa A (k + 5) (u 2 0) (nI x)) k 2 (nI (u 2 0 + 1))).2.1 (k + j) i = A.2.1 (k + j) i := fun j i hn => by
    rw [ps_21, pa_if, if_neg (by omega)]
  refine ⟨fun j hj => ?_, fun i hi => ?_, fun i hi => ?_, fun i hi => ?_, fun i hi => ?_⟩
  · by_cases e : j = 2
    · rw [e, n1]
      exact ps_e
    · rw [ps_o (fun h => e h.2), um_o (by omega) (by omega)]
      exact m1 j hj
  · dsimp only
    rw [um_o (by omega) (by omega), um_o (by omega) (by omega), um_o (by omega) (by omega), um_o (by omega) (by omega), row 1 i (by omega), row 2 i (by omega), row 3 i (by omega), row 4 i (by omega)]
    exact m2 i hi
  · rw [n1] at hi
    by_cases e : i = u 2 0
    · rw [e, n2]
      dsimp only
      rw [ps_21]
      exact pa_e
    · dsimp only
      rw [um_o (by omega) (by omega), row 5 i (by omega)]
      exact m3 i (by omega)
  · dsimp only
    rw [um_o (by omega) (by omega), um_o (by omega) (by omega), row 6 i (by omega), row 7 i (by omega)]
    exact m4 i hi
  · dsimp only
    rw [um_o (by omega) (by omega), row 8 i (by omega)]
    exact m5 i hi
theorem eA.h87 {F e p k : Nat} {x : Int32} {A : si_St} (h : eA e p A) : f_X3_readMass_h87 F k x A = some A := by
  unfold f_X3_readMass_h87 f_X3_readMass_h114
  rw [if_neg h.ne]
