/-! parse: a statement, all statements -/
theorem po_cg {s k N : Nat} {c : Nat → Nat} {A : si_St} {P : Nat × Nat × Nat} {u : Nat → Nat → Nat} {a a' : Option si_St} {g g' : si_St → Option (Int32 × si_St)} (h : po s k N c A P u a g) (ha : a' = a) (hg : ∀ B, pB N c B P u → g' B = g B) : po s k N c A P u a' g' := by
  rcases h with ⟨A', P', u', h1, h2, h3, h4, h5, h6, h7⟩ | ⟨A', e, p, h1, h2, h3, h7⟩
  · refine Or.inl ⟨A', P', u', ha.trans h1, h2, h3, h4, h5, h6, fun B hB => ?_⟩
    rw [hg B hB]
    exact h7 B hB
  · refine Or.inr ⟨A', e, p, ha.trans h1, h2, h3, fun B hB => ?_⟩
    rw [hg B hB]
    exact h7 B hB
theorem po_semi {k N F : Nat} {c : Nat → Nat} {A : si_St} {P : Nat × Nat × Nat} {u : Nat → Nat → Nat} {a : Option si_St} {g : si_St → Option (Int32 × si_St)} (X : cx N F c k) (h : po 0 k N c A P u a g) : po 1 k N c A P u (Option.bind a fun S => f_X3_readStatement_h105 F k S) (fun B => Option.bind (g B) fun q => f_X10_statement_h85 F q.1 q.2) := by
  have one : ¬ (1 : Int32) = 0 := by decide
  rcases h with ⟨A', P', u', h1, h2, h3, h4, h5, h6, h7⟩ | ⟨A', e, p, h1, h2, h3, h7⟩
  · rw [h1, Option.bind_some]
    unfold f_X3_readStatement_h105 f_X3_takeSemicolon f_X3_takeSemicolon_h28
    rw [if_pos h3.1, h3.2.2.2.2.2.2.1]
    have w4 := h4.2.2.2.1
    by_cases c3 : P'.2.2 = 3
    · obtain ⟨A2, a1, a2, a3⟩ := advA X h3 h4
      have pw := pt_wf (c := c) h4.2.1
      have hp := pw.2
      have hlt := h4.2.2.1 (by omega)
      rw [if_pos (show nI P'.2.2 = 3 by rw [c3]; rfl), a1, Option.bind_some, Option.bind_some]
      refine Or.inl ⟨A2, _, u', rfl, h2.tr a2.A, a3, pw.1, h5, by omega, fun B hB => ?_⟩
      obtain ⟨B', b1, b2, b3⟩ := h7 B hB
      obtain ⟨B2, s1, s2, s3, -⟩ := advB X b3 h4
      refine ⟨B2, ?_, b2.tr s2.B, s3⟩
      show (Option.bind (g B) fun q => f_X10_statement_h85 F q.1 q.2) = _
      rw [b1, Option.bind_some]
      unfold f_X10_statement_h85
      dsimp only
      rw [if_neg one, if_pos (show B'.1 87 19 = 3 by rw [b3.2.2.2.2.1, c3]; rfl), s1, Option.bind_some, sm_bz1, Option.bind_some]
    · obtain ⟨A2, a1, a2, a3⟩ := failA0 (F := F) (e := 1) (by decide) (by decide) h3
      have a1' : f_X3_fail F 1 A' = some A2 := a1
      rw [if_neg (show ¬ nI P'.2.2 = 3 from sm_ne (b := 3) c3 (by omega) (by decide)), a1', Option.bind_some, Option.bind_some]
      refine Or.inr ⟨A2, 1, _, rfl, h2.tr a2.A, a3, fun B hB => ?_⟩
      obtain ⟨B', b1, b2, b3⟩ := h7 B hB
      obtain ⟨B2, s1, s2, s3⟩ := failB (F := F) (e := 1) b3
      have s1' : f_X10_fails F 1 B' = some (0, B2) := s1
      refine ⟨B2, ?_, b2.tr s2.B, s3⟩
      show (Option.bind (g B) fun q => f_X10_statement_h85 F q.1 q.2) = _
      rw [b1, Option.bind_some]
      unfold f_X10_statement_h85
      dsimp only
      rw [if_neg one, if_neg (show ¬ B'.1 87 19 = 3 by rw [b3.2.2.2.2.1]; exact sm_ne (b := 3) c3 (by omega) (by decide)), s1', Option.bind_some]
      dsimp only
      rw [sm_bz0, Option.bind_some]
  · rw [h1, Option.bind_some]
    unfold f_X3_readStatement_h105 f_X3_takeSemicolon
    rw [if_neg h3.ne, Option.bind_some]
    refine Or.inr ⟨A', e, p, rfl, h2, h3, fun B hB => ?_⟩
    obtain ⟨B', b1, b2, b3⟩ := h7 B hB
    refine ⟨B', ?_, b2, b3⟩
    show (Option.bind (g B) fun q => f_X10_statement_h85 F q.1 q.2) = _
    rw [b1, Option.bind_some]
    unfold f_X10_statement_h85
    dsimp only
    rw [if_pos rfl, sm_bz0, Option.bind_some]
theorem ln_bad {k N F : Nat} {c : Nat → Nat} {A : si_St} {P : Nat × Nat × Nat} {u : Nat → Nat → Nat} (h : pA k N c A P u) : po 0 k N c A P u (f_X3_fail F 1 A) (f_X10_fails F 1) := by
  obtain ⟨A2, a1, a2, a3⟩ := failA0 (F := F) (e := 1) (by decide) (by decide) h
  refine Or.inr ⟨A2, 1, _, a1, a2.A, a3, fun B hB => ?_⟩
  obtain ⟨B2, s1, s2, s3⟩ := failB (F := F) (e := 1) hB
  exact ⟨B2, s1, s2.B, s3⟩
theorem st_ment {k N F : Nat} {c : Nat → Nat} {A : si_St} {P : Nat × Nat × Nat} {u : Nat → Nat → Nat} (X : cx N F c k) (h : pA k N c A P u) (w : wf c N P) (o : iv_mok u) : po 1 k N c A P u (f_X3_readStatement F k A) (f_X10_statement F) := by
  have one : ¬ (1 : Int32) = 0 := by decide
  have wA := fun g (hg : g < 8) => wdA (g := g) X h w hg
  have wB := fun B (hB : pB N c B P u) g (hg : g < 8) => wdB (g := g) X hB w hg
  unfold f_X3_readStatement
  by_cases c0 : wd c P.1 P.2.1 P.2.2 0
  · refine po_cg (po_semi X (ln_trader X h w o)) ?_ (fun B hB => ?_)
    · rw [(wA 0 (by decide)).1 c0, Option.bind_some, if_neg one]
      exact (Option.bind_assoc ..).symm
    · unfold f_X10_statement
      rw [(wB B hB 0 (by decide)).1 c0, Option.bind_some, if_neg one]
  · by_cases c1 : wd c P.1 P.2.1 P.2.2 1
    · refine po_cg (po_semi X (ln_scale X h w o)) ?_ (fun B hB => ?_)
      · rw [(wA 0 (by decide)).2 c0, Option.bind_some, if_pos rfl]
        dsimp only
        rw [(wA 1 (by decide)).1 c1, Option.bind_some, if_neg one]
      · unfold f_X10_statement
        rw [(wB B hB 0 (by decide)).2 c0, Option.bind_some, if_pos rfl]
        dsimp only
        rw [(wB B hB 1 (by decide)).1 c1, Option.bind_some, if_neg one]
    · by_cases c2 : wd c P.1 P.2.1 P.2.2 2
      · refine po_cg (po_semi X (ln_mass X h w o)) ?_ (fun B hB => ?_)
        · rw [(wA 0 (by decide)).2 c0, Option.bind_some, if_pos rfl]
          dsimp only
          rw [(wA 1 (by decide)).2 c1, Option.bind_some, if_pos rfl]
          dsimp only
          rw [(wA 2 (by decide)).1 c2, Option.bind_some, if_neg one]
        · unfold f_X10_statement
          rw [(wB B hB 0 (by decide)).2 c0, Option.bind_some, if_pos rfl]
          dsimp only
          rw [(wB B hB 1 (by decide)).2 c1, Option.bind_some, if_pos rfl]
          dsimp only
          rw [(wB B hB 2 (by decide)).1 c2, Option.bind_some, if_neg one]
      · by_cases c3 : wd c P.1 P.2.1 P.2.2 3
        · refine po_cg (po_semi X (ln_set X h w o)) ?_ (fun B hB => ?_)
          · rw [(wA 0 (by decide)).2 c0, Option.bind_some, if_pos rfl]
            dsimp only
            rw [(wA 1 (by decide)).2 c1, Option.bind_some, if_pos rfl]
            dsimp only
            rw [(wA 2 (by decide)).2 c2, Option.bind_some, if_pos rfl]
            dsimp only
            rw [(wA 3 (by decide)).1 c3, Option.bind_some, if_neg one]
          · unfold f_X10_statement
            rw [(wB B hB 0 (by decide)).2 c0, Option.bind_some, if_pos rfl]
            dsimp only
            rw [(wB B hB 1 (by decide)).2 c1, Option.bind_some, if_pos rfl]
            dsimp only
            rw [(wB B hB 2 (by decide)).2 c2, Option.bind_some, if_pos rfl]
            dsimp only
            rw [(wB B hB 3 (by decide)).1 c3, Option.bind_some, if_neg one]
        · by_cases c4 : wd c P.1 P.2.1 P.2.2 4
          · refine po_cg (po_semi X (ln_term X h w o)) ?_ (fun B hB => ?_)
            · rw [(wA 0 (by decide)).2 c0, Option.bind_some, if_pos rfl]
              dsimp only
              rw [(wA 1 (by decide)).2 c1, Option.bind_some, if_pos rfl]
              dsimp only
              rw [(wA 2 (by decide)).2 c2, Option.bind_some, if_pos rfl]
              dsimp only
              rw [(wA 3 (by decide)).2 c3, Option.bind_some, if_pos rfl]
              dsimp only
              rw [(wA 4 (by decide)).1 c4, Option.bind_some, if_neg one]
            · unfold f_X10_statement
              rw [(wB B hB 0 (by decide)).2 c0, Option.bind_some, if_pos rfl]
              dsimp only
              rw [(wB B hB 1 (by decide)).2 c1, Option.bind_some, if_pos rfl]
              dsimp only
              rw [(wB B hB 2 (by decide)).2 c2, Option.bind_some, if_pos rfl]
              dsimp only
              rw [(wB B hB 3 (by decide)).2 c3, Option.bind_some, if_pos rfl]
              dsimp only
              rw [(wB B hB 4 (by decide)).1 c4, Option.bind_some, if_neg one]
          · refine po_cg (po_semi X (ln_bad (F := F) h)) ?_ (fun B hB => ?_)
            · rw [(wA 0 (by decide)).2 c0, Option.bind_some, if_pos rfl]
              dsimp only
              rw [(wA 1 (by decide)).2 c1, Option.bind_some, if_pos rfl]
              dsimp only
              rw [(wA 2 (by decide)).2 c2, Option.bind_some, if_pos rfl]
              dsimp only
              rw [(wA 3 (by decide)).2 c3, Option.bind_some, if_pos rfl]
              dsimp only
              rw [(wA 4 (by decide)).2 c4, Option.bind_some, if_pos rfl]
            · unfold f_X10_statement
              rw [(wB B hB 0 (by decide)).2 c0, Option.bind_some, if_pos rfl]
              dsimp only
              rw [(wB B hB 1 (by decide)).2 c1, Option.bind_some, if_pos rfl]
              dsimp only
              rw [(wB B hB 2 (by decide)).2 c2, Option.bind_some, if_pos rfl]
              dsimp only
              rw [(wB B hB 3 (by decide)).2 c3, Option.bind_some, if_pos rfl]
              dsimp only
              rw [(wB B hB 4 (by decide)).2 c4, Option.bind_some, if_pos rfl]
theorem st_all {k N F : Nat} {c : Nat → Nat} (X : cx N F c k) : ∀ (d cnt n : Nat) (A : si_St) (P : Nat × Nat × Nat) (u : Nat → Nat → Nat), pA k N c A P u → wf c N P → iv_mok u → cnt ≤ P.1 → N ≤ P.1 + d → d + 1 < n →
    (∃ A' P' u', f_X3_readMarket_l31 F k n (nI N) (nI cnt) A = some (0, A') ∧ fA k A A' ∧ pA k N c A' P' u' ∧ iv_mok u' ∧ ∀ B, pB N c B P u → ∃ B', fB B B' ∧ pB N c B' P' u' ∧ ∀ m, d + 1 < m → f_X10_parse_l93 F m 1 B = f_X10_parse_h112 F 1 B') ∨
    (∃ A' e p, f_X3_readMarket_l31 F k n (nI N) (nI cnt) A = some (nI e, A') ∧ fA k A A' ∧ eA e p A' ∧ ∀ B, pB N c B P u → ∃ B', fB B B' ∧ eB e p B' ∧ ∀ m, d + 1 < m → f_X10_parse_l93 F m 1 B = some (nI e, B'))
  | d, cnt, 0, A, P, u, _, _, _, _, _, hn => absurd hn (Nat.not_lt_zero _)
  | d, cnt, n + 1, A, P, u, h, w, o, hc, hd, hn => by
    have one : ¬ (1 : Int32) = 0 := by decide
    have x1 := X.1
    have eA1 : f_X3_readMarket_l31 F k (n + 1) (nI N) (nI cnt) A = f_X3_readMarket_h31 F k (f_X3_readMarket_l31 F k n) (nI N) (nI cnt) A := rfl
    have w1 := w.1
    have w2 := w.2.1
    have w4 := w.2.2.2.1
    rw [eA1]
    by_cases c0 : P.2.2 = 0
    · have hk0 : A.1 1 7 = 0 := by rw [h.2.2.2.2.2.2.1, c0]; rfl
      refine Or.inl ⟨A, P, u, ?_, fA.rf A, h, o, fun B hB => ⟨B, fB.rf B, hB, fun m hm => ?_⟩⟩
      · unfold f_X3_readMarket_h31 f_X3_readMarket_h61
        rw [hk0, if_pos rfl, h.1]
        split <;> rfl
      · obtain ⟨m, rfl⟩ : ∃ q, m = q + 1 := ⟨m - 1, by omega⟩
        show f_X10_parse_h93 F (f_X10_parse_l93 F m) 1 B = _
        unfold f_X10_parse_h93
        rw [if_neg one, if_pos (show B.1 87 19 = 0 by rw [hB.2.2.2.2.1, c0]; rfl)]
    · have hlt := w.2.2.1 c0
      obtain ⟨d, rfl⟩ : ∃ q, d = q + 1 := ⟨d - 1, by omega⟩
      have stepB : ∀ B, pB N c B P u → ∀ m, f_X10_parse_l93 F (m + 1) 1 B = Option.bind (f_X10_statement F B) fun q2 => f_X10_parse_l93 F m q2.1 q2.2 := fun B hB m => by
        show f_X10_parse_h93 F (f_X10_parse_l93 F m) 1 B = _
        unfold f_X10_parse_h93
        rw [if_neg one, if_neg (show ¬ B.1 87 19 = 0 by rw [hB.2.2.2.2.1]; exact sm_ne (b := 0) c0 (by omega) (by decide))]
      have stepA : f_X3_readMarket_h31 F k (f_X3_readMarket_l31 F k n) (nI N) (nI cnt) A = Option.bind (f_X3_readStatement F k A) fun S1 => f_X3_readMarket_l31 F k n (nI N) (nI (cnt + 1)) S1 := by
        unfold f_X3_readMarket_h31
        rw [if_neg (nI_ge (by omega) (by omega)), if_neg (show ¬ A.1 1 7 = 0 by rw [h.2.2.2.2.2.2.1]; exact sm_ne (b := 0) c0 (by omega) (by decide)), if_pos h.1]
        have e : ∀ S1 : si_St, (Option.bind (some (nI cnt + 1)) fun v2 => f_X3_readMarket_l31 F k n (nI N) v2 S1) = f_X3_readMarket_l31 F k n (nI N) (nI (cnt + 1)) S1 := fun S1 => by rw [Option.bind_some, nI_1]
        simp only [e]
      rw [stepA]
      rcases st_ment X h w o with ⟨A', P', u', h1, h2, h3, h4, h5, h6, h7⟩ | ⟨A', e, p, h1, h2, h3, h7⟩
      · rw [h1, Option.bind_some]
        rcases st_all X d (cnt + 1) n A' P' u' h3 h4 h5 (by omega) (by omega) (by omega) with ⟨A2, P2, u2, r1, r2, r3, r4, r5⟩ | ⟨A2, e, p, r1, r2, r3, r5⟩
        · refine Or.inl ⟨A2, P2, u2, r1, h2.tr r2, r3, r4, fun B hB => ?_⟩
          obtain ⟨B', b1, b2, b3⟩ := h7 B hB
          obtain ⟨B2, s1, s2, s3⟩ := r5 B' b3
          refine ⟨B2, b2.tr s1, s2, fun m hm => ?_⟩
          obtain ⟨m, rfl⟩ : ∃ q, m = q + 1 := ⟨m - 1, by omega⟩
          rw [stepB B hB, b1, Option.bind_some]
          exact s3 m (by omega)
        · refine Or.inr ⟨A2, e, p, r1, h2.tr r2, r3, fun B hB => ?_⟩
          obtain ⟨B', b1, b2, b3⟩ := h7 B hB
          obtain ⟨B2, s1, s2, s3⟩ := r5 B' b3
          refine ⟨B2, b2.tr s1, s2, fun m hm => ?_⟩
          obtain ⟨m, rfl⟩ : ∃ q, m = q + 1 := ⟨m - 1, by omega⟩
          rw [stepB B hB, b1, Option.bind_some]
          exact s3 m (by omega)
      · rw [h1, Option.bind_some]
        refine Or.inr ⟨A', e, p, ?_, h2, h3, fun B hB => ?_⟩
        · obtain ⟨n, rfl⟩ : ∃ q, n = q + 1 := ⟨n - 1, by omega⟩
          show f_X3_readMarket_h31 F k (f_X3_readMarket_l31 F k n) (nI N) (nI (cnt + 1)) A' = _
          unfold f_X3_readMarket_h31 f_X3_readMarket_h61
          rw [if_neg h3.ne, h3.1]
          split
          · rfl
          · split <;> rfl
        · obtain ⟨B', b1, b2, b3⟩ := h7 B hB
          refine ⟨B', b2, b3, fun m hm => ?_⟩
          obtain ⟨m, rfl⟩ : ∃ q, m = q + 2 := ⟨m - 2, by omega⟩
          rw [stepB B hB, b1, Option.bind_some]
          show f_X10_parse_h93 F (f_X10_parse_l93 F m) 0 B' = _
          unfold f_X10_parse_h93 f_X10_parse_h112
          rw [if_pos rfl, if_pos rfl, b3.1]
