/-! parse: a set of weights, a term -/
def ut (u : Nat → Nat → Nat) (x y : Nat) : Nat → Nat → Nat := uu (uu (uu u 3 0 (u 3 0 + 1)) 9 (u 3 0) x) 10 (u 3 0) y
theorem ut_n {u : Nat → Nat → Nat} {x y : Nat} : ut u x y 3 0 = u 3 0 + 1 ∧ ut u x y 9 (u 3 0) = x ∧ ut u x y 10 (u 3 0) = y := by
  unfold ut
  refine ⟨rfl, ?_, uu_e⟩
  rw [uu_o (by omega), uu_e]
theorem ut_o {u : Nat → Nat → Nat} {x y i j : Nat} (h : ¬ (j = 3 ∧ i = 0)) (h2 : ¬ (9 ≤ j ∧ j ≤ 10 ∧ i = u 3 0)) : ut u x y j i = u j i := by
  unfold ut
  rw [uu_o (by omega), uu_o (by omega), uu_o (by omega)]
theorem ut_ok {u : Nat → Nat → Nat} {x y : Nat} (o : iv_mok u) (h : u 3 0 < 4) (h1 : 2 ≤ x) (h2 : x ≤ 12) (h3 : y ≤ 1) : iv_mok (ut u x y) := by
  obtain ⟨o1, o2, o3, o4, o5, o6, o7, o8⟩ := o
  obtain ⟨n1, n2, n3⟩ := ut_n (u := u) (x := x) (y := y)
  refine ⟨o1, o2, o3, by rw [n1]; omega, fun i hi => ?_, fun i hi => ?_, fun i hi => ?_, fun i hi => ?_⟩
  · rw [ut_o (by omega) (by omega), ut_o (by omega) (by omega), ut_o (by omega) (by omega), ut_o (by omega) (by omega), ut_o (by omega) (by omega)]
    exact o5 i hi
  · rw [ut_o (by omega) (by omega)]
    exact o6 i hi
  · rw [n1] at hi
    by_cases e : i = u 3 0
    · rw [e, n2, n3]
      exact ⟨h1, h2, h3⟩
    · rw [ut_o (by omega) (by omega), ut_o (by omega) (by omega)]
      exact o7 i (by omega)
  · rw [ut_o (by omega) (by omega)]
    exact o8 i hi
theorem setA {k N F x y : Nat} {c : Nat → Nat} {A : si_St} {P : Nat × Nat × Nat} {u : Nat → Nat → Nat} (hk : k = 69 ∨ k = 78) (h : pA k N c A P u) (hn : u 3 0 < 4) (hy : y = 0 ∨ y = 1) : ∃ A', f_X3_readSet_h47 F k (nI x) (nI y) A = some A' ∧ fA k A A' ∧ pA k N c A' P (ut u x y) := by
  have hk1 := k_ne1 hk
  have hA : A.1 k 3 = nI (u 3 0) := h.2.2.2.2.2.2.2.1 3 (by decide)
  obtain ⟨n1, n2, n3⟩ := ut_n (u := u) (x := x) (y := y)
  have e : f_X3_readSet_h47 F k (nI x) (nI y) A = some (si_ps (si_pa (si_pa A (k + 6) (u 3 0) (nI x)) (k + 7) (u 3 0) (nI y)) k 3 (nI (u 3 0 + 1))) := by
    unfold f_X3_readSet_h47 f_X3_readSet_h81 f_X3_readSet_h92
    rw [if_pos h.1, hA, (wr_m hk).2.2.2.2.2.1 hn, Option.bind_some, pa_1, hA]
    rcases hy with rfl | rfl
    · rw [if_pos (show nI 0 = 0 from rfl), (wr_m hk).2.2.2.2.2.2.1 hn, Option.bind_some, pa_1, pa_1, hA, sm_pt, Option.bind_some, nI_1]
      all_goals rfl
    · rw [if_neg (show ¬ nI 1 = 0 by decide), (wr_m hk).2.2.2.2.2.2.1 hn, Option.bind_some, pa_1, pa_1, hA, sm_pt, Option.bind_some, nI_1]
      all_goals rfl
  have f : fA k A (si_ps (si_pa (si_pa A (k + 6) (u 3 0) (nI x)) (k + 7) (u 3 0) (nI y)) k 3 (nI (u 3 0 + 1))) := ((fA.pa (by omega) (by omega)).tr (fA.pa (by omega) (by omega))).tr fA.ps
  refine ⟨_, e, f, h.up hk f (fun j => ps_o (fun e => hk1 e.1.symm)) ?_⟩
  obtain ⟨m1, m2, m3, m4, m5⟩ := h.2.2.2.2.2.2.2
  have row : ∀ j i, ¬ (6 ≤ j ∧ j ≤ 7 ∧ i = u 3 0) → (si_ps (si_pa (si_pa A (k + 6) (u 3 0) (nI x)) (k + 7) (u 3 0) (nI y)) k 3 (nI (u 3 0 + 1))).2.1 (k + j) i = A.2.1 (k + j) i := fun j i hn => by
    rw [ps_21, pa_if, if_neg (by omega), pa_if, if_neg (by omega)]
  refine ⟨fun j hj => ?_, fun i hi => ?_, fun i hi => ?_, fun i hi => ?_, fun i hi => ?_⟩
  · by_cases e : j = 3
    · rw [e, n1]
      exact ps_e
    · rw [ps_o (fun h => e h.2), ut_o (by omega) (by omega)]
      exact m1 j hj
  · dsimp only
    rw [ut_o (by omega) (by omega), ut_o (by omega) (by omega), ut_o (by omega) (by omega), ut_o (by omega) (by omega), row 1 i (by omega), row 2 i (by omega), row 3 i (by omega), row 4 i (by omega)]
    exact m2 i hi
  · dsimp only
    rw [ut_o (by omega) (by omega), row 5 i (by omega)]
    exact m3 i hi
  · rw [n1] at hi
    by_cases e : i = u 3 0
    · rw [e, n2, n3]
      dsimp only
      rw [ps_21]
      exact ⟨by rw [pa_if, if_neg (by omega), pa_e], pa_e⟩
    · dsimp only
      rw [ut_o (by omega) (by omega), ut_o (by omega) (by omega), row 6 i (by omega), row 7 i (by omega)]
      exact m4 i (by omega)
  · dsimp only
    rw [ut_o (by omega) (by omega), row 8 i (by omega)]
    exact m5 i hi
theorem setB {N F x y : Nat} {c : Nat → Nat} {B : si_St} {P : Nat × Nat × Nat} {u : Nat → Nat → Nat} (h : pB N c B P u) (h3 : B.2.1 103 (u 3 0) = nI x) (h4 : B.2.1 104 (u 3 0) = nI y) : ∃ B', f_X10_setLine_h69 F B = some (1, B') ∧ fB B B' ∧ pB N c B' P (ut u x y) := by
  obtain ⟨n1, n2, n3⟩ := ut_n (u := u) (x := x) (y := y)
  have h32 : B.1 87 32 = nI (u 3 0) := h.2.2.2.2.2.2.2.2.2.2.2.1
  unfold f_X10_setLine_h69
  rw [h32, sm_pt, Option.bind_some, sm_bz1, Option.bind_some, nI_1]
  refine ⟨_, rfl, fB.ps (by decide) (by decide), h.up (fB.ps (by decide) (by decide)) (fun j hj => ps_o (fun e => by omega)) ?_⟩
  obtain ⟨m1, m2, m3, m4, m5, m6, m7, m8⟩ := h.2.2.2.2.2.2.2.2
  refine ⟨(ps_o (by decide)).trans m1, (ps_o (by decide)).trans m2, (ps_o (by decide)).trans m3, by rw [n1]; exact ps_e, fun i hi => ?_, fun i hi => ?_, fun i hi => ?_, fun i hi => ?_⟩
  · rw [ut_o (by omega) (by omega), ut_o (by omega) (by omega), ut_o (by omega) (by omega), ut_o (by omega) (by omega)]
    exact m5 i hi
  · rw [ut_o (by omega) (by omega)]
    exact m6 i hi
  · rw [n1] at hi
    by_cases e : i = u 3 0
    · rw [e, n2, n3]
      exact ⟨h3, h4⟩
    · rw [ut_o (by omega) (by omega), ut_o (by omega) (by omega)]
      exact m7 i (by omega)
  · rw [ut_o (by omega) (by omega)]
    exact m8 i hi
theorem eA.h47 {F e p k : Nat} {x y : Int32} {A : si_St} (h : eA e p A) : f_X3_readSet_h47 F k x y A = some A := by
  unfold f_X3_readSet_h47 f_X3_readSet_h92
  rw [if_neg h.ne]
theorem sm_wz01 {S : si_St} {k : Nat} {i v : Int32} (h : v = 0 ∨ v = 1) : si_wz S k i v = si_wr S k i v := if_pos h
theorem ln_set {k N F : Nat} {c : Nat → Nat} {A : si_St} {P : Nat × Nat × Nat} {u : Nat → Nat → Nat} (X : cx N F c k) (h : pA k N c A P u) (w : wf c N P) (o : iv_mok u) : po 0 k N c A P u (f_X3_readSet F k A) (f_X10_setLine F) := by
  have hk := X.2.2.2
  have o3 := o.2.2.2.1
  have hA3 : A.1 k 3 = nI (u 3 0) := h.2.2.2.2.2.2.2.1 3 (by decide)
  have one : ¬ (1 : Int32) = 0 := by decide
  unfold f_X3_readSet
  rw [hA3]
  rcases kw (a := u 3 0) (m := 4) X h w (by omega) (by decide) with ⟨ha, A1, a1, a2, a3, a4, a5, a6⟩ | ⟨ha, A1, e, p, a1, a2, a3, a6⟩
  · have a1' : f_X3_takeKeyword F (nI (u 3 0)) 4 A = some A1 := a1
    rw [a1', Option.bind_some]
    rcases num (lo := 2) (H := 13) (hi := 12) X a3 a4 (by decide) (fun v hv => hi_n (H := 12) hv (by decide)) with ⟨v, A2, P2, n1, -, n2, n3, n4, n5, n6, n7, n8, n9⟩ | ⟨A2, e, p, m1, -, m5, m6, m9⟩
    · have n1' : f_X3_takeNumber F 2 12 A1 = some (nI v, A2) := n1
      have fr2 : fA k A A2 := a2.A.tr n5.A
      rw [n1', Option.bind_some]
      dsimp only
      rw [if_pos n6.1]
      have pre : ∀ B, pB N c B P u → ∃ B2, f_X10_setLine F B = (Option.bind (f_X10_isWord F 7 B2) fun q7 => Option.bind (si_wz q7.2 104 (nI (u 3 0)) q7.1) fun S8 => Option.bind (si_rd S8 104 (nI (u 3 0))) fun v9 => if v9 = 0 then (f_X10_setLine_h69 F S8) else (Option.bind (f_X10_advance F S8) fun S10 => f_X10_setLine_h69 F S10)) ∧ fB B B2 ∧ pB N c B2 P2 u ∧ B2.2.1 103 (u 3 0) = nI v := fun B hB => by
        have h32 : B.1 87 32 = nI (u 3 0) := hB.2.2.2.2.2.2.2.2.2.2.2.1
        obtain ⟨B1, q1, q2, q3⟩ := a6 B hB
        obtain ⟨B2, r1, r2, r3, r4⟩ := n9 B1 q3
        have r1' : f_X10_takes F 2 12 B1 = some (1, B2) := r1
        refine ⟨si_pa B2 103 (u 3 0) (nI v), ?_, (q2.B.tr r2.B).tr (fB.pa (by decide) (by decide)), r3.pa (by omega) (by omega) (fun _ => Nat.le_refl _) (by decide) (by decide), pa_e⟩
        unfold f_X10_setLine f_X10_setLine_h16
        rw [h32, Option.bind_some, if_neg (show ¬ 4 ≤ nI (u 3 0) from nI_ge (b := 4) ha (by decide)), q1, Option.bind_some, if_neg one]
        dsimp only
        rw [r1', Option.bind_some, if_neg one]
        dsimp only
        rw [r4, wr_103 ha, Option.bind_some]
      have wA := wdA (g := 7) X n6 n7 (by decide)
      by_cases c7 : wd c P2.1 P2.2.1 P2.2.2 7
      · rw [wA.1 c7, Option.bind_some, if_neg one]
        unfold f_X3_readSet_h38
        dsimp only
        obtain ⟨A3, b1, b2, b3⟩ := advA X n6 n7
        have pw := pt_wf (c := c) n7.2.1
        rw [if_neg one, b1, Option.bind_some]
        obtain ⟨A5, z1, z2, z3⟩ := setA (F := F) (x := v) (y := 1) hk b3 ha (Or.inr rfl)
        have hp := pw.2
        have hp2 := n7.1
        refine Or.inl ⟨A5, _, ut u v 1, z1, (fr2.tr b2.A).tr z2, z3, pw.1, ut_ok o ha n2 (by omega) (by decide), by omega, fun B hB => ?_⟩
        obtain ⟨B2, r1, r2, r3, r4⟩ := pre B hB
        have r5 := r3.pa (r := 104) (i := u 3 0) (v := 1) (by omega) (by omega) (fun _ => Nat.le_refl _) (by decide) (by decide)
        obtain ⟨B3, s1, s2, s3, -⟩ := advB X r5 n7
        have t3 : B3.2.1 103 (u 3 0) = nI v := by rw [s2.1, pa_o (by decide)]; exact r4
        have t4 : B3.2.1 104 (u 3 0) = nI 1 := by rw [s2.1]; exact pa_e
        obtain ⟨B5, y1, y2, y3⟩ := setB (F := F) s3 t3 t4
        refine ⟨B5, ?_, ((r2.tr (fB.pa (by decide) (by decide))).tr s2.B).tr y2, y3⟩
        rw [r1, (wdB (g := 7) X r3 n7 (by decide)).1 c7, Option.bind_some]
        dsimp only
        rw [sm_wz01 (Or.inr rfl), wr_104 ha, Option.bind_some, rd_104 ha, Option.bind_some, pa_e, if_neg one, s1, Option.bind_some, y1]
      · rw [wA.2 c7, Option.bind_some, if_pos rfl]
        unfold f_X3_readSet_h37 f_X3_readSet_h38
        dsimp only
        rw [if_pos rfl]
        obtain ⟨A5, z1, z2, z3⟩ := setA (F := F) (x := v) (y := 0) hk n6 ha (Or.inl rfl)
        refine Or.inl ⟨A5, P2, ut u v 0, z1, fr2.tr z2, z3, n7, ut_ok o ha n2 (by omega) (by decide), by omega, fun B hB => ?_⟩
        obtain ⟨B2, r1, r2, r3, r4⟩ := pre B hB
        have r5 := r3.pa (r := 104) (i := u 3 0) (v := 0) (by omega) (by omega) (fun _ => Nat.le_refl _) (by decide) (by decide)
        have t3 : (si_pa B2 104 (u 3 0) 0).2.1 103 (u 3 0) = nI v := by rw [pa_o (by decide)]; exact r4
        obtain ⟨B5, y1, y2, y3⟩ := setB (F := F) (y := 0) r5 t3 pa_e
        refine ⟨B5, ?_, (r2.tr (fB.pa (by decide) (by decide))).tr y2, y3⟩
        rw [r1, (wdB (g := 7) X r3 n7 (by decide)).2 c7, Option.bind_some]
        dsimp only
        rw [sm_wz01 (Or.inl rfl), wr_104 ha, Option.bind_some, rd_104 ha, Option.bind_some, pa_e, if_pos rfl, y1]
    · have m1' : f_X3_takeNumber F 2 12 A1 = some (0, A2) := m1
      rw [m1', Option.bind_some]
      unfold f_X3_readSet_h37 f_X3_readSet_h38
      dsimp only
      rw [if_neg m6.ne, if_pos rfl, m6.h47]
      refine Or.inr ⟨A2, e, p, rfl, a2.A.tr m5.A, m6, fun B hB => ?_⟩
      have h32 : B.1 87 32 = nI (u 3 0) := hB.2.2.2.2.2.2.2.2.2.2.2.1
      obtain ⟨B1, q1, q2, q3⟩ := a6 B hB
      obtain ⟨B2, s1, s2, s3⟩ := m9 B1 q3
      have s1' : f_X10_takes F 2 12 B1 = some (0, B2) := s1
      refine ⟨B2, ?_, q2.B.tr s2.B, s3⟩
      unfold f_X10_setLine f_X10_setLine_h16 f_X10_setLine_h32
      rw [h32, Option.bind_some, if_neg (show ¬ 4 ≤ nI (u 3 0) from nI_ge (b := 4) ha (by decide)), q1, Option.bind_some, if_neg one]
      dsimp only
      rw [s1', Option.bind_some, if_pos rfl, sm_bz0, Option.bind_some]
  · have a1' : f_X3_takeKeyword F (nI (u 3 0)) 4 A = some A1 := a1
    rw [a1', Option.bind_some, a3.num, Option.bind_some]
    unfold f_X3_readSet_h37 f_X3_readSet_h38
    dsimp only
    rw [if_neg a3.ne, if_pos rfl, a3.h47]
    refine Or.inr ⟨A1, e, p, rfl, a2.A, a3, fun B hB => ?_⟩
    have h32 : B.1 87 32 = nI (u 3 0) := hB.2.2.2.2.2.2.2.2.2.2.2.1
    obtain ⟨B1, q1, q2, q3⟩ := a6 B hB
    refine ⟨B1, ?_, q2.B, q3⟩
    unfold f_X10_setLine f_X10_setLine_h16 f_X10_setLine_h32
    rw [h32, Option.bind_some, if_pos (show 4 ≤ nI (u 3 0) from nI_le (a := 4) ha (by omega)), q1, Option.bind_some, if_pos rfl, sm_bz0, Option.bind_some]
/-! a term -/
theorem uv_ok {u : Nat → Nat → Nat} {v x : Nat} (o : iv_mok u) (h2 : x ≤ 5) : iv_mok (uu u 11 v x) := by
  obtain ⟨o1, o2, o3, o4, o5, o6, o7, o8⟩ := o
  refine ⟨o1, o2, o3, o4, fun i hi => o5 i hi, fun i hi => o6 i hi, fun i hi => o7 i hi, fun i hi => ?_⟩
  by_cases e : i = v
  · rw [e, uu_e]
    exact h2
  · rw [uu_o (fun h => e h.2)]
    exact o8 i hi
theorem ln_term {k N F : Nat} {c : Nat → Nat} {A : si_St} {P : Nat × Nat × Nat} {u : Nat → Nat → Nat} (X : cx N F c k) (h : pA k N c A P u) (w : wf c N P) (o : iv_mok u) : po 0 k N c A P u (f_X3_readTerm F k A) (f_X10_termLine F) := by
  have hk := X.2.2.2
  have hk1 := k_ne1 hk
  have one : ¬ (1 : Int32) = 0 := by decide
  unfold f_X3_readTerm f_X3_readTerm_h38 f_X3_readTerm_h61
  obtain ⟨A1, a1, a2, a3⟩ := advA X h w
  have pw := pt_wf (c := c) w.2.1
  have hw1 := w.1
  have hp := pw.2
  rw [a1, Option.bind_some, a3.2.2.2.2.1, Option.bind_some]
  have adv : ∀ B, pB N c B P u → ∃ B', f_X10_advance F B = some B' ∧ fx 87 j8 B B' ∧ pB N c B' (pt c N P.2.1) u ∧ B'.1 87 23 = B.1 87 23 := fun B hB => advB X hB w
  generalize pt c N P.2.1 = P1 at *
  rcases num (lo := 0) (H := 3) (hi := 2) X a3 pw.1 (by decide) (fun v hv => hi_n (H := 2) hv (by decide)) with ⟨v, A2, P2, n1, n0, n2, n3, n4, n5, n6, n7, n8, n9⟩ | ⟨A2, e, p, m1, m0, m5, m6, m9⟩
  · have n1' : f_X3_takeNumber F 0 2 A1 = some (nI v, A2) := n1
    have hv : A2.2.1 (k + 8) v = nI (u 11 v) := n6.2.2.2.2.2.2.2.2.2.2.2 v n3
    have u5 := o.2.2.2.2.2.2.2 v n3
    have fr2 : fA k A A2 := a2.A.tr n5.A
    rw [n1', Option.bind_some]
    dsimp only
    rw [if_pos n6.1, (rd_m hk).2.2.2.2.2.2.2 n3, Option.bind_some, hv]
    have pre : ∀ B, pB N c B P u → ∃ B1, f_X10_termLine F B = (if nI (u 11 v) ≤ 0 then (f_X10_termLine_h38 F B1) else (Option.bind (f_X10_fails F 2 B1) fun q10 => Option.bind (si_bz q10.1) fun v11 => some (v11, q10.2))) ∧ fB B B1 ∧ pB N c B1 P1 u := fun B hB => by
      obtain ⟨B1, q1, q2, q3, -⟩ := adv B hB
      refine ⟨B1, ?_, q2.B, q3⟩
      have h20 : B1.1 87 20 = nI v := by rw [q3.2.2.2.2.2.1 n0.1, ← n0.2]
      have h105 : B1.2.1 105 v = nI (u 11 v) := q3.2.2.2.2.2.2.2.2.2.2.2.2.2.2.2 v n3
      unfold f_X10_termLine
      rw [q1, Option.bind_some, if_pos (show B1.1 87 19 = 2 by rw [q3.2.2.2.2.1, n0.1]; rfl), h20, if_neg (show ¬ 3 ≤ nI v from nI_ge (b := 3) n3 (by decide)), rd_105 n3, Option.bind_some, h105]
    by_cases c1 : u 11 v = 0
    · rw [if_pos (show nI (u 11 v) = 0 by rw [c1]; rfl)]
      have pre' : ∀ B, pB N c B P u → ∃ B2, f_X10_termLine F B = (Option.bind (some (nI v)) fun v2 => Option.bind (f_X10_takes F 1 5 B2) fun q3 => if q3.1 = 0 then (Option.bind (si_bz 0) fun v6 => some (v6, q3.2)) else (Option.bind (si_wr q3.2 105 v2 (q3.2.1 87 23)) fun S4 => Option.bind (si_bz 1) fun v5 => some (v5, S4))) ∧ fB B B2 ∧ pB N c B2 P2 u := fun B hB => by
        obtain ⟨B1, q1, q2, q3⟩ := pre B hB
        obtain ⟨B2, r1, r2, r3, r4⟩ := n9 B1 q3
        have r1' : f_X10_takes F 0 2 B1 = some (1, B2) := r1
        refine ⟨B2, ?_, q2.tr r2.B, r3⟩
        rw [q1, if_pos (show nI (u 11 v) ≤ 0 by rw [c1]; decide)]
        unfold f_X10_termLine_h38
        rw [r1', Option.bind_some, if_neg one]
        dsimp only
        rw [r4]
      rcases num (lo := 1) (H := 6) (hi := 5) X n6 n7 (by decide) (fun v hv => hi_n (H := 5) hv (by decide)) with ⟨x, A3, P3, k1, -, k2, k3, k4, k5, k6, k7, k8, k9⟩ | ⟨A3, e, p, m1, -, m5, m6, m9⟩
      · have k1' : f_X3_takeNumber F 1 5 A2 = some (nI x, A3) := k1
        rw [k1', Option.bind_some]
        dsimp only
        rw [if_pos k6.1, (wr_m hk).2.2.2.2.2.2.2 n3, Option.bind_some]
        have f : fA k A3 (si_pa A3 (k + 8) v (nI x)) := fA.pa (by omega) (by omega)
        refine Or.inl ⟨_, P3, uu u 11 v x, rfl, (fr2.tr k5.A).tr f, k6.up hk f (fun j => rfl) ?_, k7, uv_ok o (by omega), by omega, fun B hB => ?_⟩
        · obtain ⟨y1, y2, y3, y4, y5⟩ := k6.2.2.2.2.2.2.2
          refine ⟨fun j hj => ?_, fun i hi => ?_, fun i hi => ?_, fun i hi => ?_, fun i hi => ?_⟩
          · rw [uu_o (by omega)]
            exact y1 j hj
          · dsimp only
            rw [pa_o (by omega), pa_o (by omega), pa_o (by omega), pa_o (by omega)]
            exact y2 i hi
          · dsimp only
            rw [pa_o (by omega)]
            exact y3 i hi
          · dsimp only
            rw [pa_o (by omega), pa_o (by omega)]
            exact y4 i hi
          · dsimp only
            by_cases e : i = v
            · rw [e, uu_e, pa_e]
            · rw [uu_o (fun h => e h.2), pa_s e]
              exact y5 i hi
        · obtain ⟨B2, r1, r2, r3⟩ := pre' B hB
          obtain ⟨B3, s1, s2, s3, s4⟩ := k9 B2 r3
          have s1' : f_X10_takes F 1 5 B2 = some (1, B3) := s1
          refine ⟨si_pa B3 105 v (nI x), ?_, (r2.tr s2.B).tr (fB.pa (by decide) (by decide)), s3.up (fB.pa (by decide) (by decide)) (fun _ _ => rfl) ?_⟩
          · rw [r1, Option.bind_some, s1', Option.bind_some, if_neg one]
            dsimp only
            rw [s4, wr_105 n3, Option.bind_some, sm_bz1, Option.bind_some]
          · obtain ⟨y1, y2, y3, y4, y5, y6, y7, y8⟩ := s3.2.2.2.2.2.2.2.2
            refine ⟨y1, y2, y3, y4, fun i hi => ?_, fun i hi => ?_, fun i hi => ?_, fun i hi => ?_⟩
            · rw [pa_o (by decide), pa_o (by decide), pa_o (by decide), pa_o (by decide)]
              exact y5 i hi
            · rw [pa_o (by decide)]
              exact y6 i hi
            · rw [pa_o (by decide), pa_o (by decide)]
              exact y7 i hi
            · by_cases e : i = v
              · rw [e, uu_e, pa_e]
              · rw [uu_o (fun h => e h.2), pa_s e]
                exact y8 i hi
      · have m1' : f_X3_takeNumber F 1 5 A2 = some (0, A3) := m1
        rw [m1', Option.bind_some]
        dsimp only
        rw [if_neg m6.ne]
        refine Or.inr ⟨A3, e, p, rfl, fr2.tr m5.A, m6, fun B hB => ?_⟩
        obtain ⟨B2, r1, r2, r3⟩ := pre' B hB
        obtain ⟨B3, s1, s2, s3⟩ := m9 B2 r3
        have s1' : f_X10_takes F 1 5 B2 = some (0, B3) := s1
        refine ⟨B3, ?_, r2.tr s2.B, s3⟩
        rw [r1, Option.bind_some, s1', Option.bind_some, if_pos rfl, sm_bz0, Option.bind_some]
    · obtain ⟨A3, z1, z2, z3⟩ := failA (F := F) (e := 2) (p := P1.1) (by decide) (by decide) n6
      have z1' : f_X3_failAt F 2 (nI P1.1) A2 = some A3 := z1
      rw [if_neg (show ¬ nI (u 11 v) = 0 from sm_ne (b := 0) c1 (by omega) (by decide)), z1', Option.bind_some, z3.num, Option.bind_some]
      dsimp only
      rw [if_neg z3.ne]
      refine Or.inr ⟨A3, 2, P1.1, rfl, fr2.tr z2.A, z3, fun B hB => ?_⟩
      obtain ⟨B1, q1, q2, q3⟩ := pre B hB
      obtain ⟨B2, s1, s2, s3⟩ := failB (F := F) (e := 2) q3
      have s1' : f_X10_fails F 2 B1 = some (0, B2) := s1
      refine ⟨B2, ?_, q2.tr s2.B, s3⟩
      rw [q1, if_neg (show ¬ nI (u 11 v) ≤ 0 from nI_ge (a := 0) (by omega) (by omega)), s1', Option.bind_some]
      dsimp only
      rw [sm_bz0, Option.bind_some]
  · have m1' : f_X3_takeNumber F 0 2 A1 = some (0, A2) := m1
    rw [m1', Option.bind_some]
    dsimp only
    rw [if_neg m6.ne, m6.num, Option.bind_some]
    dsimp only
    rw [if_neg m6.ne]
    refine Or.inr ⟨A2, e, p, rfl, a2.A.tr m5.A, m6, fun B hB => ?_⟩
    obtain ⟨B1, q1, q2, q3, -⟩ := adv B hB
    obtain ⟨B2, s1, s2, s3⟩ := m9 B1 q3
    have s1' : f_X10_takes F 0 2 B1 = some (0, B2) := s1
    refine ⟨B2, ?_, q2.B.tr s2.B, s3⟩
    have h38 : f_X10_termLine_h38 F B1 = some (0, B2) := by
      unfold f_X10_termLine_h38
      rw [s1', Option.bind_some, if_pos rfl, sm_bz0, Option.bind_some]
    unfold f_X10_termLine
    rw [q1, Option.bind_some]
    by_cases c2 : P1.2.2 = 2
    · have h20 := q3.2.2.2.2.2.1 c2
      have hd : dv c P1.1 (P1.2.1 - P1.1) ≤ 999999 := dv_b (pw.1.2.2.2.2 c2).1 (fun i hi => (pw.1.2.2.2.2 c2).2 (P1.1 + i) (by omega) (by omega))
      have h3 : 3 ≤ dv c P1.1 (P1.2.1 - P1.1) := Decidable.byContradiction (fun hh => m0 ⟨c2, Nat.zero_le _, by omega⟩)
      rw [if_pos (show B1.1 87 19 = 2 by rw [q3.2.2.2.2.1, c2]; rfl), h20, if_pos (show 3 ≤ nI (dv c P1.1 (P1.2.1 - P1.1)) from nI_le (a := 3) h3 (by omega)), h38]
    · have h4 := pw.1.2.2.2.1
      rw [if_neg (show ¬ B1.1 87 19 = 2 by rw [q3.2.2.2.2.1]; exact sm_ne (b := 2) c2 (by omega) (by decide)), h38]
