/-! parse: st_parse -/
theorem st_parse {F : Nat} {x : Int32} (hF : 1100 ≤ F) : st_ok (f_X9_parse F x) (f_X10_parse F x) := by
  intro S h
  obtain ⟨u, mk, hmk, ⟨g0, g1, g2, ⟨n, hn, gb1, gb2, gb3⟩, g4, gR⟩⟩ := id h
  have hat : iv_at S u mk := ⟨g0, g1, g2, ⟨n, hn, gb1, gb2, gb3⟩, g4, gR⟩
  have e15 : (si_ps S 87 0 0).1 87 15 = nI n := (ps_o (by decide)).trans gb2
  by_cases hw : 0 ≤ x ∧ x ≤ nI n
  · obtain ⟨N, hN, rfl⟩ : ∃ N, N < 2 ^ 31 ∧ x = nI N := by
      have h1 : 0 ≤ x.toInt := Int32.le_iff_toInt_le.mp hw.1
      refine ⟨x.toInt.toNat, ?_, ?_⟩
      · have := x.toInt_lt
        omega
      · apply Int32.toInt_inj.mp
        have := x.toInt_lt
        rw [nI_toInt (by omega)]
        omega
    have hNn : N ≤ n := (nI_leI hN (by omega)).mp hw.2
    have hpos : ¬ nI N < 0 := fun h => by
      have h1 := hw.1
      rw [fa_lt] at h
      rw [fa_le] at h1
      omega
    obtain ⟨k, hk, hmk2, hne, r0, r1, hnew⟩ : ∃ k, (k = 69 ∨ k = 78) ∧ (mk = 69 ∨ mk = 78) ∧ mk ≠ k ∧ S.2.2.2 0 = mk ∧ S.2.2.2 1 = k ∧ ∀ T : si_St, T.2.2.2 0 = k → T.2.2.2 1 = mk → iv_mks T k := by
      rcases hmk with ⟨e1, e2, e3⟩ | ⟨e1, e2, e3⟩
      · exact ⟨78, Or.inr rfl, Or.inl e1, by omega, e2.trans e1.symm, e3, fun T h1 h2 => Or.inr ⟨rfl, h1, h2.trans e1⟩⟩
      · exact ⟨69, Or.inl rfl, Or.inr e1, by omega, e2.trans e1.symm, e3, fun T h1 h2 => Or.inl ⟨rfl, h1, h2.trans e1⟩⟩
    have hcc : ∀ i, i < N → (S.2.1 2 i &&& 255).toNatClampNeg < 256 ∧ S.2.1 2 i = bv ((S.2.1 2 i &&& 255).toNatClampNeg) := fun i hi => by
      obtain ⟨b, hb, e⟩ := bv_ex (gb3 i (by omega)).2
      rw [e, (bv_tab b hb).1, nI_clamp (by omega)]
      exact ⟨hb, rfl⟩
    obtain ⟨c, hc1, hc2⟩ : ∃ c : Nat → Nat, (∀ i, i < N → c i < 256) ∧ ∀ i, i < N → S.2.1 2 i = bv (c i) := ⟨fun i => (S.2.1 2 i &&& 255).toNatClampNeg, fun i hi => (hcc i hi).1, fun i hi => (hcc i hi).2⟩
    have X : cx N F c k := ⟨by omega, hF, hc1, hk⟩
    obtain ⟨A1, a1, a2, a3⟩ := rm_start X hc2
    have pw := pt_wf (c := c) (Nat.zero_le N)
    have start : ∀ S1 : si_St, (∀ a j, ¬ (a = 87 → False) → S1.1 a j = S.1 a j) → S1.2.1 97 = S.2.1 97 → ∃ B1, f_X10_parse F (nI N) S1 = f_X10_parse_l93 F F 1 B1 ∧ fP S1 B1 ∧ B1.1 87 15 = 0 ∧ pB N c B1 (pt c N 0) uz := fun S1 h1 h97 => by
      refine pm_start X (fun i hi => ?_) ⟨n, by omega, hNn, ?_⟩
      · rw [h97, ← (gb3 i (by omega)).1]
        exact hc2 i hi
      · rw [h1 87 15 (fun h => h rfl)]
        exact gb2
    have hX : f_X9_parse F (nI N) S = (Option.bind (f_X3_readMarket_l31 F k F (nI N) 0 A1) fun q2 => Option.bind (si_pt q2.2 1 1 0) fun S3 => if q2.1 = 0 then (Option.bind (f_X9_takeDraft F S3) fun S4 => f_X9_parse_h46 F q2.1 S4) else (f_X9_parse_h46 F q2.1 S3)) := by
      unfold f_X9_parse
      rw [if_neg hpos, gb1, if_pos hw.2, mk_0 r1 hk, Option.bind_some, a1]
    rcases st_all X N 0 F A1 _ uz a3 pw.1 uz_ok (Nat.zero_le _) (by omega) (by omega) with ⟨A2, P2, u2, l1, l2, l3, l4, l5⟩ | ⟨A2, e, p, l1, l2, l3, l5⟩
    · have l1' : f_X3_readMarket_l31 F k F (nI N) 0 A1 = some (0, A2) := l1
      have fr : fA k S A2 := a2.tr l2
      have hk1 := k_ne1 hk
      have m3 : iv_mk ((si_ps A2 1 1 0).1 k) (fun j => (si_ps A2 1 1 0).2.1 (k + j)) u2 := l3.2.2.2.2.2.2.2.cg (fun j _ => ps_o (fun e => hk1 e.1)) (fun j _ _ => rfl)
      have e0 : (si_ps A2 1 1 0).2.2.2 0 = mk := by rw [show (si_ps A2 1 1 0).2.2.2 = A2.2.2.2 from rfl, fr.2.2]; exact r0
      have e1 : (si_ps A2 1 1 0).2.2.2 1 = k := by rw [show (si_ps A2 1 1 0).2.2.2 = A2.2.2.2 from rfl, fr.2.2]; exact r1
      obtain ⟨S1, t1, t2, t3, t4, t5, t6, t7, t8, t9, t10, t11, t12, t13⟩ := td_all (F := F) hk hmk2 e0 e1 hF l4 m3
      have sc : ∀ a j, a ≠ 3 → a ≠ 7 → a ≠ 21 → a ≠ 27 → a ≠ 42 → ¬ (a = 1 ∧ j = 1) → S1.1 a j = A2.1 a j := fun a j h3 h7 h21 h27 h42 h1 => by rw [t2 a j h3 h7 h21 h27 h42, ps_o h1]
      have rw1 : ∀ r, r ≠ 4 → ¬ (17 ≤ r ∧ r ≤ 20) → S1.2.1 r = A2.2.1 r := fun r h4 h17 => t3 r h4 h17
      obtain ⟨B1, b1, b2, b15, b3⟩ := start S1 (fun a j h9 => by
        have h87 : a = 87 := Decidable.byContradiction (fun h => h9 (fun e => h e))
        rw [h87, sc 87 j (by decide) (by decide) (by decide) (by decide) (by decide) (by omega), fr.1 87 j (by omega) (by omega)]) (by rw [rw1 97 (by decide) (by decide), fr.2.1 97 (by omega)])
      obtain ⟨B2, v1, v2, v3⟩ := l5 B1 b3
      obtain ⟨T, w1, w2, w3, w4, w5, w6, w7, w8⟩ := be_all (F := F) hF l4 v2.2.2.2.2.2.2.2.2
      have fBT : fP S1 B2 := b2.tr (fP.B v1)
      have Tsc : ∀ a j, a ≠ 87 → T.1 a j = S1.1 a j := fun a j ha => by rw [w2.1 a j (by omega), fBT.1 a j (by omega)]
      have Trw : ∀ r, ¬ (88 ≤ r ∧ r ≤ 96) → ¬ (98 ≤ r ∧ r ≤ 105) → r ≠ 112 → T.2.1 r = S1.2.1 r := fun r h1 h2 h3 => by rw [w2.2.1 r h1 h3, fBT.2.1 r h2]
      have T22 : T.2.2 = S1.2.2 := w2.2.2.trans fBT.2.2
      have hS1m : iv_mk (T.1 k) (fun j => T.2.1 (k + j)) u2 := l3.2.2.2.2.2.2.2.cg (fun j _ => by rw [Tsc k j (by omega), sc k j (by omega) (by omega) (by omega) (by omega) (by omega) (by omega)]) (fun j h1 h8 => by rw [Trw (k + j) (by omega) (by omega) (by omega), rw1 (k + j) (by omega) (by omega)])
      refine ⟨0, S1, T, ?_, ?_, u2, k, hnew T (by rw [T22]; exact t4) (by rw [T22]; exact t5), l4, hS1m, w3, ⟨0, Nat.zero_le _, ?_, ?_, fun i hi => absurd hi (Nat.not_lt_zero _)⟩, ?_, ?_, ?_, ⟨⟨0, Nat.zero_le _, ?_, w7, fun v hv => absurd hv (Nat.not_lt_zero _)⟩, fun x hx => ?_⟩, ⟨0, 0, Nat.zero_le _, by decide, ?_, ?_, w4, trivial⟩, Or.inl ⟨?_, w5⟩, Or.inl ⟨?_, w6⟩, ?_⟩
      · rw [hX, l1', Option.bind_some, sm_pt, Option.bind_some, if_pos rfl, t1]
        rfl
      · rw [b1, v3 F (by omega)]
        unfold f_X10_parse_h112
        rw [if_neg (show ¬ (1 : Int32) = 0 by decide), w1]
        rfl
      · rw [Tsc 1 1 (by decide), t2 1 1 (by decide) (by decide) (by decide) (by decide) (by decide)]
        exact ps_e
      · rw [w2.1 87 15 (by decide), v1.1 87 15 (by decide)]
        exact b15
      · rw [Tsc 1 2 (by decide), sc 1 2 (by decide) (by decide) (by decide) (by decide) (by decide) (by decide), l3.2.1, w2.1 87 22 (by decide), v2.2.2.2.2.2.2.2.1]
      · rw [Tsc 3 1 (by decide), Trw 4 (by decide) (by decide) (by decide)]
        exact t6
      · rw [Tsc 3 3 (by decide), Tsc 3 5 (by decide), T22]
        exact t7
      · rw [Tsc 7 0 (by decide)]
        exact t8
      · obtain ⟨q1, q2, q3, q4⟩ := t13 x hx
        obtain ⟨y1, y2, y3, y4⟩ := w8 x hx
        have gx := l4.2.2.2.2.2.2.1 x hx
        have hp2 : 2 ≤ 2 ^ u2 9 x := by
          have h4 : 2 ^ 1 ≤ 2 ^ u2 9 x := Nat.pow_le_pow_right (by decide) (by omega)
          exact h4
        refine ⟨2 ^ u2 9 x - 1, 2 ^ u2 9 x - 1, u2 10 x, 0, ?_, y1, ?_, y2, ?_, y3, ?_, y4, by omega, by omega, by omega, gx.2.2, Or.inl ⟨rfl, Nat.le_refl _⟩, Or.inl (by omega)⟩
        · show T.2.1 17 x = _
          rw [Trw 17 (by decide) (by decide) (by decide)]
          exact q1
        · show T.2.1 18 x = _
          rw [Trw 18 (by decide) (by decide) (by decide)]
          exact q2
        · show T.2.1 19 x = _
          rw [Trw 19 (by decide) (by decide) (by decide)]
          exact q3
        · show T.2.1 20 x = _
          rw [Trw 20 (by decide) (by decide) (by decide)]
          exact q4
      · rw [Tsc 21 0 (by decide)]
        exact t9
      · rw [Tsc 21 1 (by decide)]
        exact t10
      · rw [Tsc 27 2 (by decide)]
        exact t11
      · rw [Tsc 42 2 (by decide)]
        exact t12
      · rw [Trw 66 (by decide) (by decide) (by decide), Trw 67 (by decide) (by decide) (by decide), Trw 68 (by decide) (by decide) (by decide), rw1 66 (by decide) (by decide), rw1 67 (by decide) (by decide), rw1 68 (by decide) (by decide), fr.2.1 66 (by omega), fr.2.1 67 (by omega), fr.2.1 68 (by omega)]
        exact hat.2.2.2.2.2.2.2.2.2.2.2
    · have l1' : f_X3_readMarket_l31 F k F (nI N) 0 A1 = some (nI e, A2) := l1
      have fr : fA k S A2 := a2.tr l2
      have hk1 := k_ne1 hk
      have he0 : ¬ nI e = 0 := by rw [← l3.1]; exact l3.ne
      obtain ⟨B1, b1, b2, b15, b3⟩ := start (si_ps A2 1 1 0) (fun a j h9 => by
        have h87 : a = 87 := Decidable.byContradiction (fun h => h9 (fun e => h e))
        rw [h87, ps_o (by omega), fr.1 87 j (by omega) (by omega)]) (by
        show A2.2.1 97 = _
        rw [fr.2.1 97 (by omega)])
      obtain ⟨B2, v1, v2, v3⟩ := l5 B1 b3
      have fBT : fP (si_ps A2 1 1 0) B2 := b2.tr (fP.B v1)
      refine ⟨nI e, si_ps A2 1 1 0, B2, ?_, ?_, u, mk, ?_, hat.goF hmk2 hk hne (fun a j hak ha1 h87 => ?_) (fun r hr1 hr2 => ?_) ?_ ?_ ?_ ?_⟩
      · rw [hX, l1', Option.bind_some, sm_pt, Option.bind_some, if_neg he0]
        rfl
      · rw [b1, v3 F (by omega)]
      · have e22 : B2.2.2.2 = S.2.2.2 := by rw [fBT.2.2]; show A2.2.2.2 = _; rw [fr.2.2]
        unfold iv_mks
        rw [e22]
        exact hmk
      · rw [fBT.1 a j h87, ps_o (fun e => ha1 e.1), fr.1 a j (fun e => ha1 e.1) hak]
      · rw [fBT.2.1 r hr2]
        show A2.2.1 r = _
        rw [fr.2.1 r hr1]
      · rw [fBT.2.2]
        show A2.2.2 = _
        rw [fr.2.2]
      · rw [fBT.1 1 1 (by decide)]
        exact ps_e
      · rw [v1.1 87 15 (by decide)]
        exact b15
      · rw [fBT.1 1 2 (by decide), ps_o (by decide), l3.2.2.2, v2.2]
  · refine ⟨-1, S, si_ps S 87 0 0, ?_, ?_, h.go (iv_th S)⟩
    · unfold f_X9_parse f_X9_parse_h15
      by_cases h0 : x < 0
      · rw [if_pos h0]
      · rw [if_neg h0, gb1, if_neg (fun h2 => hw ⟨by
          rw [fa_lt] at h0
          rw [fa_le]
          omega, h2⟩)]
    · unfold f_X10_parse
      rw [sm_pt, Option.bind_some, e15, sm_win (a := 0) (b := nI n) (by decide) rfl, if_neg hw, Option.bind_some, if_pos rfl]
