/-! parse: a mass -/
theorem wdA {k N F g : Nat} {c : Nat → Nat} {A : si_St} {P : Nat × Nat × Nat} {u : Nat → Nat → Nat} (X : cx N F c k) (h : pA k N c A P u) (w : wf c N P) (hg : g < 8) : (wd c P.1 P.2.1 P.2.2 g → f_X3_isWord F g A = some (1, A)) ∧ (¬ wd c P.1 P.2.1 P.2.2 g → f_X3_isWord F g A = some (0, A)) :=
  wd_A hg X.1 (by have := X.2.1; omega) h.2.2.2.1 h.2.2.2.2.1 h.2.2.2.2.2.1 h.2.2.2.2.2.2.1 w.1 w.2.1 w.2.2.2.1
theorem wdB {k N F g : Nat} {c : Nat → Nat} {B : si_St} {P : Nat × Nat × Nat} {u : Nat → Nat → Nat} (X : cx N F c k) (h : pB N c B P u) (w : wf c N P) (hg : g < 8) : (wd c P.1 P.2.1 P.2.2 g → f_X10_isWord F g B = some (1, B)) ∧ (¬ wd c P.1 P.2.1 P.2.2 g → f_X10_isWord F g B = some (0, B)) :=
  wd_B hg X.1 (by have := X.2.1; omega) h.2.1 h.2.2.1 h.2.2.2.1 h.2.2.2.2.1 w.1 w.2.1 w.2.2.2.1
def um (u : Nat → Nat → Nat) (x : Nat) : Nat → Nat → Nat := uu (uu u 2 0 (u 2 0 + 1)) 8 (u 2 0) x
theorem um_n {u : Nat → Nat → Nat} {x : Nat} : um u x 2 0 = u 2 0 + 1 ∧ um u x 8 (u 2 0) = x := by
  unfold um
  exact ⟨rfl, uu_e⟩
theorem um_o {u : Nat → Nat → Nat} {x i j : Nat} (h : ¬ (j = 2 ∧ i = 0)) (h2 : ¬ (j = 8 ∧ i = u 2 0)) : um u x j i = u j i := by
  unfold um
  rw [uu_o (by omega), uu_o (by omega)]
theorem um_ok {u : Nat → Nat → Nat} {x : Nat} (o : iv_mok u) (h : u 2 0 < 10) (h1 : 1 ≤ x) (h2 : x ≤ 1000098) : iv_mok (um u x) := by
  obtain ⟨o1, o2, o3, o4, o5, o6, o7, o8⟩ := o
  obtain ⟨n1, n2⟩ := um_n (u := u) (x := x)
  refine ⟨o1, o2, by rw [n1]; omega, o4, fun i hi => ?_, fun i hi => ?_, fun i hi => ?_, fun i hi => ?_⟩
  · rw [um_o (by omega) (by omega), um_o (by omega) (by omega), um_o (by omega) (by omega), um_o (by omega) (by omega), um_o (by omega) (by omega)]
    exact o5 i hi
  · rw [n1] at hi
    by_cases e : i = u 2 0
    · rw [e, n2]
      exact ⟨h1, h2⟩
    · rw [um_o (by omega) (by omega)]
      exact o6 i (by omega)
  · rw [um_o (by omega) (by omega), um_o (by omega) (by omega)]
    exact o7 i hi
  · rw [um_o (by omega) (by omega)]
    exact o8 i hi
theorem massA {k N F x : Nat} {c : Nat → Nat} {A : si_St} {P : Nat × Nat × Nat} {u : Nat → Nat → Nat} (hk : k = 69 ∨ k = 78) (h : pA k N c A P u) (hn : u 2 0 < 10) : ∃ A', f_X3_readMass_h87 F k (nI x) A = some A' ∧ fA k A A' ∧ pA k N c A' P (um u x) := by
  have hk1 := k_ne1 hk
  have hA : A.1 k 2 = nI (u 2 0) := h.2.2.2.2.2.2.2.1 2 (by decide)
  obtain ⟨n1, n2⟩ := um_n (u := u) (x := x)
  unfold f_X3_readMass_h87 f_X3_readMass_h114
  rw [if_pos h.1, hA, (wr_m hk).2.2.2.2.1 hn, Option.bind_some, pa_1, hA, sm_pt, Option.bind_some, nI_1]
  have f : fA k A (si_ps (si_pa A (k + 5) (u 2 0) (nI x)) k 2 (nI (u 2 0 + 1))) := (fA.pa (by omega) (by omega)).tr fA.ps
  refine ⟨_, rfl, f, h.up hk f (fun j => ps_o (fun e => hk1 e.1.symm)) ?_⟩
  obtain ⟨m1, m2, m3, m4, m5⟩ := h.2.2.2.2.2.2.2
  have row : ∀ j i, ¬ (j = 5 ∧ i = u 2 0) → (si_ps (si_pa A (k + 5) (u 2 0) (nI x)) k 2 (nI (u 2 0 + 1))).2.1 (k + j) i = A.2.1 (k + j) i := fun j i hn => by
    rw [ps_21, pa_if, if_neg (by omega)]
  refine ⟨fun j hj => ?_, fun i hi => ?_, fun i hi => ?_, fun i hi => ?_, fun i hi => ?_⟩
  · by_cases e : j = 2
    · rw [e, n1]
      exact ps_e
    · rw [ps_o (fun h => e h.2), um_o (by omega) (by omega)]
      exact m1 j hj
  · dsimp only
    rw [um_o (by omega) (by omega), um_o (by omega) (by omega), um_o (by omega) (by omega), um_o (by omega) (by omega), row 1 i (by omega), row 2 i (by omega), row 3 i (by omega), row 4 i (by omega)]
    exact m2 i hi
  · rw [n1] at hi
    by_cases e : i = u 2 0
    · rw [e, n2]
      dsimp only
      rw [ps_21]
      exact pa_e
    · dsimp only
      rw [um_o (by omega) (by omega), row 5 i (by omega)]
      exact m3 i (by omega)
  · dsimp only
    rw [um_o (by omega) (by omega), um_o (by omega) (by omega), row 6 i (by omega), row 7 i (by omega)]
    exact m4 i hi
  · dsimp only
    rw [um_o (by omega) (by omega), row 8 i (by omega)]
    exact m5 i hi
theorem massB {N F x : Nat} {c : Nat → Nat} {B : si_St} {P : Nat × Nat × Nat} {u : Nat → Nat → Nat} (h : pB N c B P u) (hn : u 2 0 < 10) : ∃ B', f_X10_massLine_h111 F (nI (u 2 0)) (nI x) B = some (1, B') ∧ fB B B' ∧ pB N c B' P (um u x) := by
  obtain ⟨n1, n2⟩ := um_n (u := u) (x := x)
  have hp := h.pa (r := 102) (i := u 2 0) (v := nI x) (by omega) (fun _ => Nat.le_refl _) (by omega) (by decide) (by decide)
  have h30 : (si_pa B 102 (u 2 0) (nI x)).1 87 30 = nI (u 2 0) := h.2.2.2.2.2.2.2.2.2.2.1
  unfold f_X10_massLine_h111
  rw [wr_102 hn, Option.bind_some, h30, sm_pt, Option.bind_some, sm_bz1, Option.bind_some, nI_1]
  refine ⟨_, rfl, (fB.pa (by decide) (by decide)).tr (fB.ps (by decide) (by decide)), hp.up (fB.ps (by decide) (by decide)) (fun j hj => ps_o (fun e => by omega)) ?_⟩
  obtain ⟨m1, m2, m3, m4, m5, m6, m7, m8⟩ := hp.2.2.2.2.2.2.2.2
  refine ⟨(ps_o (by decide)).trans m1, (ps_o (by decide)).trans m2, by rw [n1]; exact ps_e, (ps_o (by decide)).trans m4, fun i hi => ?_, fun i hi => ?_, fun i hi => ?_, fun i hi => ?_⟩
  · rw [um_o (by omega) (by omega), um_o (by omega) (by omega), um_o (by omega) (by omega), um_o (by omega) (by omega)]
    exact m5 i hi
  · rw [n1] at hi
    by_cases e : i = u 2 0
    · rw [e, n2, ps_21]
      exact pa_e
    · rw [um_o (by omega) (by omega)]
      exact m6 i (by omega)
  · rw [um_o (by omega) (by omega), um_o (by omega) (by omega)]
    exact m7 i hi
  · rw [um_o (by omega) (by omega)]
    exact m8 i hi
theorem eA.h87 {F e p k : Nat} {x : Int32} {A : si_St} (h : eA e p A) : f_X3_readMass_h87 F k x A = some A := by
  unfold f_X3_readMass_h87 f_X3_readMass_h114
  rw [if_neg h.ne]
theorem ln_mass {k N F : Nat} {c : Nat → Nat} {A : si_St} {P : Nat × Nat × Nat} {u : Nat → Nat → Nat} (X : cx N F c k) (h : pA k N c A P u) (w : wf c N P) (o : iv_mok u) : po 0 k N c A P u (f_X3_readMass F k A) (f_X10_massLine F) := by
  have hk := X.2.2.2
  have o2 := o.2.2.1
  have hA2 : A.1 k 2 = nI (u 2 0) := h.2.2.2.2.2.2.2.1 2 (by decide)
  have one : ¬ (1 : Int32) = 0 := by decide
  unfold f_X3_readMass
  rw [hA2]
  rcases kw (a := u 2 0) (m := 10) X h w (by omega) (by decide) with ⟨ha, A1, a1, a2, a3, a4, a5, a6⟩ | ⟨ha, A1, e, p, a1, a2, a3, a6⟩
  · have a1' : f_X3_takeKeyword F (nI (u 2 0)) 10 A = some A1 := a1
    rw [a1', Option.bind_some]
    rcases num (lo := 1) (H := 1000000) (hi := 999999) X a3 a4 (by decide) (fun v hv => hi_n (H := 999999) hv (by decide)) with ⟨v, A2, P2, n1, -, n2, n3, n4, n5, n6, n7, n8, n9⟩ | ⟨A2, e, p, m1, -, m5, m6, m9⟩
    · have n1' : f_X3_takeNumber F 1 999999 A1 = some (nI v, A2) := n1
      have fr2 : fA k A A2 := a2.A.tr n5.A
      rw [n1', Option.bind_some]
      dsimp only
      rw [if_pos n6.1]
      have pre : ∀ B, pB N c B P u → ∃ B2, f_X10_massLine F B = (Option.bind (f_X10_isWord F 5 B2) fun q12 => if q12.1 = 0 then (Option.bind (f_X10_isWord F 6 q12.2) fun q13 => if q13.1 = 0 then (f_X10_massLine_h111 F (nI (u 2 0)) (nI v) q13.2) else (f_X10_massLine_h60 F (nI (u 2 0)) (nI v) q12.1 q13.2)) else (f_X10_massLine_h60 F (nI (u 2 0)) (nI v) q12.1 q12.2)) ∧ fB B B2 ∧ pB N c B2 P2 u := fun B hB => by
        have h30 : B.1 87 30 = nI (u 2 0) := hB.2.2.2.2.2.2.2.2.2.2.1
        obtain ⟨B1, q1, q2, q3⟩ := a6 B hB
        obtain ⟨B2, r1, r2, r3, r4⟩ := n9 B1 q3
        have r1' : f_X10_takes F 1 999999 B1 = some (1, B2) := r1
        refine ⟨B2, ?_, q2.B.tr r2.B, r3⟩
        unfold f_X10_massLine f_X10_massLine_h17
        rw [h30, Option.bind_some, if_neg (show ¬ 10 ≤ nI (u 2 0) from nI_ge (b := 10) ha (by decide)), q1, Option.bind_some, if_neg one]
        dsimp only
        rw [r1', Option.bind_some, if_neg one]
        dsimp only
        rw [r4, Option.bind_some]
      have wA5 := wdA (g := 5) X n6 n7 (by decide)
      have wA6 := wdA (g := 6) X n6 n7 (by decide)
      by_cases c5 : wd c P2.1 P2.2.1 P2.2.2 5
      · rw [wA5.1 c5, Option.bind_some, if_neg one]
        dsimp only
        obtain ⟨A3, b1, b2, b3⟩ := advA X n6 n7
        have pw := pt_wf (c := c) n7.2.1
        rw [b1, Option.bind_some]
        have pre2 : ∀ B, pB N c B P u → ∃ B3, f_X10_massLine F B = f_X10_massLine_h84 F (nI (u 2 0)) (nI v) 1 99 0 B3 ∧ fB B B3 ∧ pB N c B3 (pt c N P2.2.1) u := fun B hB => by
          obtain ⟨B2, r1, r2, r3⟩ := pre B hB
          obtain ⟨B3, s1, s2, s3, -⟩ := advB X r3 n7
          refine ⟨B3, ?_, r2.tr s2.B, s3⟩
          rw [r1, (wdB (g := 5) X r3 n7 (by decide)).1 c5, Option.bind_some, if_neg one]
          unfold f_X10_massLine_h60 f_X10_massLine_h76
          dsimp only
          rw [s1, Option.bind_some, if_neg one]
        rcases num (lo := 0) (H := 100) (hi := 99) X b3 pw.1 (by decide) (fun v hv => hi_n (H := 99) hv (by decide)) with ⟨v2, A4, P4, k1, -, k2, k3, k4, k5, k6, k7, k8, k9⟩ | ⟨A4, e, p, m1, -, m5, m6, m9⟩
        · have k1' : f_X3_takeNumber F 0 99 A3 = some (nI v2, A4) := k1
          rw [k1', Option.bind_some]
          dsimp only
          rw [nI_add, Option.bind_some]
          obtain ⟨A5, z1, z2, z3⟩ := massA (F := F) (x := v + v2) hk k6 ha
          have hp := pw.2
          have hp2 := n7.1
          refine Or.inl ⟨A5, P4, um u (v + v2), z1, ((fr2.tr b2.A).tr k5.A).tr z2, z3, k7, um_ok o ha (by omega) (by omega), by omega, fun B hB => ?_⟩
          obtain ⟨B3, r1, r2, r3⟩ := pre2 B hB
          obtain ⟨B4, s1, s2, s3, s4⟩ := k9 B3 r3
          have s1' : f_X10_takes F 0 99 B3 = some (1, B4) := s1
          obtain ⟨B5, t1, t2, t3⟩ := massB (F := F) (x := v + v2) s3 ha
          refine ⟨B5, ?_, (r2.tr s2.B).tr t2, t3⟩
          rw [r1]
          unfold f_X10_massLine_h84 f_X10_massLine_h109
          rw [s1', Option.bind_some, if_neg one, if_neg one]
          dsimp only
          rw [s4, nI_add, Option.bind_some]
          exact t1
        · have m1' : f_X3_takeNumber F 0 99 A3 = some (0, A4) := m1
          rw [m1', Option.bind_some]
          dsimp only
          rw [Option.bind_some, m6.h87]
          refine Or.inr ⟨A4, e, p, rfl, (fr2.tr b2.A).tr m5.A, m6, fun B hB => ?_⟩
          obtain ⟨B3, r1, r2, r3⟩ := pre2 B hB
          obtain ⟨B4, s1, s2, s3⟩ := m9 B3 r3
          have s1' : f_X10_takes F 0 99 B3 = some (0, B4) := s1
          refine ⟨B4, ?_, r2.tr s2.B, s3⟩
          rw [r1]
          unfold f_X10_massLine_h84
          rw [s1', Option.bind_some, if_pos rfl, sm_bz0, Option.bind_some]
      · rw [wA5.2 c5, Option.bind_some, if_pos rfl]
        unfold f_X3_readMass_h51
        dsimp only
        rw [if_pos n6.1]
        by_cases c6 : wd c P2.1 P2.2.1 P2.2.2 6
        · rw [wA6.1 c6, Option.bind_some, if_neg one]
          dsimp only
          obtain ⟨A3, b1, b2, b3⟩ := advA X n6 n7
          have pw := pt_wf (c := c) n7.2.1
          have ehi : si_min 99 (nI v - 1) = nI (min 99 (v - 1)) := by
            have e1 : nI v - 1 = nI (v - 1) := sm_sub (b := 1) n2
            rw [e1]
            exact sg_min (a := 99) (by decide) (by omega)
          rw [b1, Option.bind_some, ehi]
          have pre2 : ∀ B, pB N c B P u → ∃ B3, f_X10_massLine F B = f_X10_massLine_h84 F (nI (u 2 0)) (nI v) 0 (nI (min 99 (v - 1))) 0 B3 ∧ fB B B3 ∧ pB N c B3 (pt c N P2.2.1) u := fun B hB => by
            obtain ⟨B2, r1, r2, r3⟩ := pre B hB
            obtain ⟨B3, s1, s2, s3, -⟩ := advB X r3 n7
            refine ⟨B3, ?_, r2.tr s2.B, s3⟩
            rw [r1, (wdB (g := 5) X r3 n7 (by decide)).2 c5, Option.bind_some, if_pos rfl]
            unfold f_X10_massLine_h60 f_X10_massLine_h76
            dsimp only
            rw [(wdB (g := 6) X r3 n7 (by decide)).1 c6, Option.bind_some, if_neg one]
            dsimp only
            rw [s1, Option.bind_some, if_pos rfl]
            by_cases c9 : v ≤ 99
            · have e1 : nI v - 1 = nI (v - 1) := sm_sub (b := 1) n2
              rw [if_pos (show nI v ≤ 99 from nI_le (b := 99) c9 (by decide)), e1, Nat.min_eq_right (show v - 1 ≤ 99 by omega)]
            · rw [if_neg (show ¬ nI v ≤ 99 from nI_ge (a := 99) (by omega) (by omega)), Nat.min_eq_left (show 99 ≤ v - 1 by omega)]
              rfl
          rcases num (lo := 0) (H := min 99 (v - 1) + 1) (hi := nI (min 99 (v - 1))) X b3 pw.1 (by decide) (fun x hx => hi_n hx (by omega)) with ⟨v2, A4, P4, k1, -, k2, k3, k4, k5, k6, k7, k8, k9⟩ | ⟨A4, e, p, m1, -, m5, m6, m9⟩
          · have k1' : f_X3_takeNumber F 0 (nI (min 99 (v - 1))) A3 = some (nI v2, A4) := k1
            have hmin : v2 ≤ v - 1 := by
              have := Nat.min_le_right 99 (v - 1)
              omega
            rw [k1', Option.bind_some]
            dsimp only
            rw [sm_sub (show v2 ≤ v by omega), Option.bind_some]
            obtain ⟨A5, z1, z2, z3⟩ := massA (F := F) (x := v - v2) hk k6 ha
            have hp := pw.2
            have hp2 := n7.1
            refine Or.inl ⟨A5, P4, um u (v - v2), z1, ((fr2.tr b2.A).tr k5.A).tr z2, z3, k7, um_ok o ha (by omega) (by omega), by omega, fun B hB => ?_⟩
            obtain ⟨B3, r1, r2, r3⟩ := pre2 B hB
            obtain ⟨B4, s1, s2, s3, s4⟩ := k9 B3 r3
            have s1' : f_X10_takes F 0 (nI (min 99 (v - 1))) B3 = some (1, B4) := s1
            obtain ⟨B5, t1, t2, t3⟩ := massB (F := F) (x := v - v2) s3 ha
            refine ⟨B5, ?_, (r2.tr s2.B).tr t2, t3⟩
            rw [r1]
            unfold f_X10_massLine_h84 f_X10_massLine_h109
            rw [s1', Option.bind_some, if_neg one, if_pos rfl]
            dsimp only
            have e2 : nI v + -nI v2 = nI (v - v2) := by
              rw [← sm_sub (show v2 ≤ v by omega)]
              exact (Int32.sub_eq_add_neg _ _).symm
            rw [s4, e2, Option.bind_some]
            exact t1
          · have m1' : f_X3_takeNumber F 0 (nI (min 99 (v - 1))) A3 = some (0, A4) := m1
            rw [m1', Option.bind_some]
            dsimp only
            rw [Option.bind_some, m6.h87]
            refine Or.inr ⟨A4, e, p, rfl, (fr2.tr b2.A).tr m5.A, m6, fun B hB => ?_⟩
            obtain ⟨B3, r1, r2, r3⟩ := pre2 B hB
            obtain ⟨B4, s1, s2, s3⟩ := m9 B3 r3
            have s1' : f_X10_takes F 0 (nI (min 99 (v - 1))) B3 = some (0, B4) := s1
            refine ⟨B4, ?_, r2.tr s2.B, s3⟩
            rw [r1]
            unfold f_X10_massLine_h84
            rw [s1', Option.bind_some, if_pos rfl, sm_bz0, Option.bind_some]
        · rw [wA6.2 c6, Option.bind_some, if_pos rfl]
          dsimp only
          obtain ⟨A5, z1, z2, z3⟩ := massA (F := F) (x := v) hk n6 ha
          refine Or.inl ⟨A5, P2, um u v, z1, fr2.tr z2, z3, n7, um_ok o ha n2 (by omega), by omega, fun B hB => ?_⟩
          obtain ⟨B2, r1, r2, r3⟩ := pre B hB
          obtain ⟨B5, t1, t2, t3⟩ := massB (F := F) (x := v) r3 ha
          refine ⟨B5, ?_, r2.tr t2, t3⟩
          rw [r1, (wdB (g := 5) X r3 n7 (by decide)).2 c5, Option.bind_some, if_pos rfl]
          dsimp only
          rw [(wdB (g := 6) X r3 n7 (by decide)).2 c6, Option.bind_some, if_pos rfl]
          exact t1
    · have m1' : f_X3_takeNumber F 1 999999 A1 = some (0, A2) := m1
      rw [m1', Option.bind_some]
      unfold f_X3_readMass_h51
      dsimp only
      rw [if_neg m6.ne, if_neg m6.ne, m6.h87]
      refine Or.inr ⟨A2, e, p, rfl, a2.A.tr m5.A, m6, fun B hB => ?_⟩
      have h30 : B.1 87 30 = nI (u 2 0) := hB.2.2.2.2.2.2.2.2.2.2.1
      obtain ⟨B1, q1, q2, q3⟩ := a6 B hB
      obtain ⟨B2, s1, s2, s3⟩ := m9 B1 q3
      have s1' : f_X10_takes F 1 999999 B1 = some (0, B2) := s1
      refine ⟨B2, ?_, q2.B.tr s2.B, s3⟩
      unfold f_X10_massLine f_X10_massLine_h17 f_X10_massLine_h33
      rw [h30, Option.bind_some, if_neg (show ¬ 10 ≤ nI (u 2 0) from nI_ge (b := 10) ha (by decide)), q1, Option.bind_some, if_neg one]
      dsimp only
      rw [s1', Option.bind_some, if_pos rfl, sm_bz0, Option.bind_some]
  · have a1' : f_X3_takeKeyword F (nI (u 2 0)) 10 A = some A1 := a1
    rw [a1', Option.bind_some, a3.num, Option.bind_some]
    unfold f_X3_readMass_h51
    dsimp only
    rw [if_neg a3.ne, if_neg a3.ne, a3.h87]
    refine Or.inr ⟨A1, e, p, rfl, a2.A, a3, fun B hB => ?_⟩
    have h30 : B.1 87 30 = nI (u 2 0) := hB.2.2.2.2.2.2.2.2.2.2.1
    obtain ⟨B1, q1, q2, q3⟩ := a6 B hB
    refine ⟨B1, ?_, q2.B, q3⟩
    unfold f_X10_massLine f_X10_massLine_h17 f_X10_massLine_h33
    rw [h30, Option.bind_some, if_pos (show 10 ≤ nI (u 2 0) from nI_le (a := 10) ha (by omega)), q1, Option.bind_some, if_pos rfl, sm_bz0, Option.bind_some]
