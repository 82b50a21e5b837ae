/-! parse: a scale -/
theorem ln_scale {k N F : Nat} {c : Nat → Nat} {A : si_St} {P : Nat × Nat × Nat} {u : Nat → Nat → Nat} (X : cx N F c k) (h : pA k N c A P u) (w : wf c N P) (o : iv_mok u) : po 0 k N c A P u (f_X3_readScale F k A) (f_X10_scaleLine F) := by
  have hk := X.2.2.2
  have hk1 := k_ne1 hk
  have o0 := o.1
  have o1 := o.2.1
  have hA1 : A.1 k 1 = nI (u 1 0) := h.2.2.2.2.2.2.2.1 1 (by decide)
  have one : ¬ (1 : Int32) = 0 := by decide
  unfold f_X3_readScale f_X3_readScale_h111
  rw [hA1]
  rcases kw (a := u 1 0) (m := 24) X h w (by omega) (by decide) with ⟨ha, A1, a1, a2, a3, a4, a5, a6⟩ | ⟨ha, A1, e, p, a1, a2, a3, a6⟩
  · have a1' : f_X3_takeKeyword F (nI (u 1 0)) 24 A = some A1 := a1
    have t0 : A1.1 k 0 = nI (u 0 0) := a3.2.2.2.2.2.2.2.1 0 (by decide)
    have fr1 : fA k A A1 := a2.A
    rw [a1', Option.bind_some, t0]
    rcases num (lo := 0) (H := u 0 0) (hi := nI (u 0 0) - 1) X a3 a4 (by decide) (fun v hv => hi_m hv (by omega)) with ⟨v1, A2, P2, n11, -, n12, n13, n14, n15, n16, n17, n18, n19⟩ | ⟨A2, e, p, m1, -, m5, m6, m9⟩
    · have n11' : f_X3_takeNumber F 0 (nI (u 0 0) - 1) A1 = some (nI v1, A2) := n11
      have fr2 : fA k A A2 := fr1.tr n15.A
      rw [n11', Option.bind_some]
      dsimp only
      rcases num (lo := 0) (H := 3) (hi := 2) X n16 n17 (by decide) (fun v hv => hi_n (H := 2) hv (by decide)) with ⟨v2, A3, P3, n21, -, n22, n23, n24, n25, n26, n27, n28, n29⟩ | ⟨A3, e, p, m1, -, m5, m6, m9⟩
      · have n21' : f_X3_takeNumber F 0 2 A2 = some (nI v2, A3) := n21
        have fr3 : fA k A A3 := fr2.tr n25.A
        rw [n21', Option.bind_some]
        dsimp only
        rcases num (lo := 1) (H := 1001) (hi := 1000) X n26 n27 (by decide) (fun v hv => hi_n (H := 1000) hv (by decide)) with ⟨v3, A4, P4, n31, -, n32, n33, n34, n35, n36, n37, n38, n39⟩ | ⟨A4, e, p, m1, -, m5, m6, m9⟩
        · have n31' : f_X3_takeNumber F 1 1000 A3 = some (nI v3, A4) := n31
          have fr4 : fA k A A4 := fr3.tr n35.A
          rw [n31', Option.bind_some]
          dsimp only
          rw [li_mulL]
          rcases num (lo := 20 * v3) (H := 1000000) (hi := 999999) X n36 n37 (by omega) (fun v hv => hi_n (H := 999999) hv (by decide)) with ⟨v4, A5, P5, n41, -, n42, n43, n44, n45, n46, n47, n48, n49⟩ | ⟨A5, e, p, m1, -, m5, m6, m9⟩
          · have n41' : f_X3_takeNumber F (nI (20 * v3)) 999999 A4 = some (nI v4, A5) := n41
            have fr5 : fA k A A5 := fr4.tr n45.A
            rw [n41', Option.bind_some]
            dsimp only
            have hA5 : A5.1 k 1 = nI (u 1 0) := n46.2.2.2.2.2.2.2.1 1 (by decide)
            rw [if_pos n46.1, hA5, (wr_m hk).1 ha, Option.bind_some, pa_1, hA5, (wr_m hk).2.1 ha, Option.bind_some, pa_1, pa_1, hA5, (wr_m hk).2.2.1 ha, Option.bind_some, pa_1, pa_1, pa_1, hA5, (wr_m hk).2.2.2.1 ha, Option.bind_some, pa_1, pa_1, pa_1, pa_1, hA5, sm_pt, Option.bind_some, nI_1]
            have fS : fA k A5 (aS k (u 1 0) A5 (nI v1) (nI v2) (nI v3) (nI v4)) := ((((fA.pa (by omega) (by omega)).tr (fA.pa (by omega) (by omega))).tr (fA.pa (by omega) (by omega))).tr (fA.pa (by omega) (by omega))).tr fA.ps
            refine Or.inl ⟨aS k (u 1 0) A5 (nI v1) (nI v2) (nI v3) (nI v4), P5, us u v1 v2 v3 v4, rfl, fr5.tr fS, n46.up hk fS (fun j => ps_o (fun e => hk1 e.1.symm)) (aS_mk n46.2.2.2.2.2.2.2), n47, us_ok o ha n13 n23 n32 (by omega) n42 n44, by omega, fun B hB => ?_⟩
            have hB25 : B.1 87 25 = nI (u 1 0) := hB.2.2.2.2.2.2.2.2.2.1
            unfold f_X10_scaleLine f_X10_scaleLine_h17 f_X10_scaleLine_h37
            obtain ⟨B1, q1, q2, q3⟩ := a6 B hB
            have h24 : B1.1 87 24 = nI (u 0 0) := q3.2.2.2.2.2.2.2.2.1
            rw [hB25, Option.bind_some, if_neg (show ¬ 24 ≤ nI (u 1 0) from nI_ge (b := 24) ha (by decide)), q1, Option.bind_some, if_neg one]
            dsimp only
            rw [h24]
            obtain ⟨B2, s11, s12, s13, s14⟩ := n19 B1 q3
            have s11' : f_X10_takes F 0 (nI (u 0 0) - 1) B1 = some (1, B2) := s11
            rw [s11', Option.bind_some, if_neg one]
            dsimp only
            rw [s14, wr_98 ha, Option.bind_some]
            have r2 := s13.pa (r := 98) (i := u 1 0) (v := nI v1) (fun _ => Nat.le_refl _) (by omega) (by omega) (by decide) (by decide)
            have g2 : fB B (si_pa B2 98 (u 1 0) (nI v1)) := (q2.B.tr s12.B).tr (fB.pa (by decide) (by decide))
            have w2 : (si_pa B2 98 (u 1 0) (nI v1)).2.1 98 (u 1 0) = nI v1 := pa_e
            generalize si_pa B2 98 (u 1 0) (nI v1) = D2 at r2 g2 w2  ⊢
            obtain ⟨B3, s21, s22, s23, s24⟩ := n29 D2 r2
            have s21' : f_X10_takes F 0 2 D2 = some (1, B3) := s21
            rw [s21', Option.bind_some, if_neg one]
            dsimp only
            rw [s24, wr_99 ha, Option.bind_some]
            have r3 := s23.pa (r := 99) (i := u 1 0) (v := nI v2) (fun _ => Nat.le_refl _) (by omega) (by omega) (by decide) (by decide)
            have g3 : fB B (si_pa B3 99 (u 1 0) (nI v2)) := (g2.tr s22.B).tr (fB.pa (by decide) (by decide))
            have w3 : (si_pa B3 99 (u 1 0) (nI v2)).2.1 99 (u 1 0) = nI v2 := pa_e
            have w3_1 : (si_pa B3 99 (u 1 0) (nI v2)).2.1 98 (u 1 0) = nI v1 := by rw [pa_o (by decide), s22.1]; exact w2
            generalize si_pa B3 99 (u 1 0) (nI v2) = D3 at r3 g3 w3 w3_1 ⊢
            obtain ⟨B4, s31, s32, s33, s34⟩ := n39 D3 r3
            have s31' : f_X10_takes F 1 1000 D3 = some (1, B4) := s31
            rw [s31', Option.bind_some, if_neg one]
            dsimp only
            rw [s34, wr_100 ha, Option.bind_some]
            have r4 := s33.pa (r := 100) (i := u 1 0) (v := nI v3) (fun _ => Nat.le_refl _) (by omega) (by omega) (by decide) (by decide)
            have g4 : fB B (si_pa B4 100 (u 1 0) (nI v3)) := (g3.tr s32.B).tr (fB.pa (by decide) (by decide))
            have w4 : (si_pa B4 100 (u 1 0) (nI v3)).2.1 100 (u 1 0) = nI v3 := pa_e
            have w4_1 : (si_pa B4 100 (u 1 0) (nI v3)).2.1 98 (u 1 0) = nI v1 := by rw [pa_o (by decide), s32.1]; exact w3_1
            have w4_2 : (si_pa B4 100 (u 1 0) (nI v3)).2.1 99 (u 1 0) = nI v2 := by rw [pa_o (by decide), s32.1]; exact w3
            generalize si_pa B4 100 (u 1 0) (nI v3) = D4 at r4 g4 w4 w4_1 w4_2 ⊢
            rw [rd_100 ha, Option.bind_some, w4, li_mulL]
            obtain ⟨B5, s41, s42, s43, s44⟩ := n49 D4 r4
            have s41' : f_X10_takes F (nI (20 * v3)) 999999 D4 = some (1, B5) := s41
            rw [s41', Option.bind_some, if_neg one]
            dsimp only
            rw [s44, wr_101 ha, Option.bind_some]
            have r5 := s43.pa (r := 101) (i := u 1 0) (v := nI v4) (fun _ => Nat.le_refl _) (by omega) (by omega) (by decide) (by decide)
            have g5 : fB B (si_pa B5 101 (u 1 0) (nI v4)) := (g4.tr s42.B).tr (fB.pa (by decide) (by decide))
            have w5 : (si_pa B5 101 (u 1 0) (nI v4)).2.1 101 (u 1 0) = nI v4 := pa_e
            have w5_1 : (si_pa B5 101 (u 1 0) (nI v4)).2.1 98 (u 1 0) = nI v1 := by rw [pa_o (by decide), s42.1]; exact w4_1
            have w5_2 : (si_pa B5 101 (u 1 0) (nI v4)).2.1 99 (u 1 0) = nI v2 := by rw [pa_o (by decide), s42.1]; exact w4_2
            have w5_3 : (si_pa B5 101 (u 1 0) (nI v4)).2.1 100 (u 1 0) = nI v3 := by rw [pa_o (by decide), s42.1]; exact w4
            generalize si_pa B5 101 (u 1 0) (nI v4) = D5 at r5 g5 w5 w5_1 w5_2 w5_3 ⊢
            have h25 : D5.1 87 25 = nI (u 1 0) := r5.2.2.2.2.2.2.2.2.2.1
            rw [h25, sm_pt, Option.bind_some, sm_bz1, Option.bind_some, nI_1]
            exact ⟨_, rfl, g5.tr (fB.ps (by decide) (by decide)), r5.up (fB.ps (by decide) (by decide)) (fun j hj => ps_o (fun e => by omega)) (md_us r5.2.2.2.2.2.2.2.2 w5_1 w5_2 w5_3 w5)⟩
          · have m1' : f_X3_takeNumber F (nI (20 * v3)) 999999 A4 = some (0, A5) := m1
            refine Or.inr ⟨A5, e, p, ?_, fr4.tr m5.A, m6, fun B hB => ?_⟩
            · rw [m1', Option.bind_some]
              dsimp only
              rw [if_neg m6.ne]
            · have hB25 : B.1 87 25 = nI (u 1 0) := hB.2.2.2.2.2.2.2.2.2.1
              unfold f_X10_scaleLine f_X10_scaleLine_h17 f_X10_scaleLine_h37
              obtain ⟨B1, q1, q2, q3⟩ := a6 B hB
              have h24 : B1.1 87 24 = nI (u 0 0) := q3.2.2.2.2.2.2.2.2.1
              rw [hB25, Option.bind_some, if_neg (show ¬ 24 ≤ nI (u 1 0) from nI_ge (b := 24) ha (by decide)), q1, Option.bind_some, if_neg one]
              dsimp only
              rw [h24]
              obtain ⟨B2, s11, s12, s13, s14⟩ := n19 B1 q3
              have s11' : f_X10_takes F 0 (nI (u 0 0) - 1) B1 = some (1, B2) := s11
              rw [s11', Option.bind_some, if_neg one]
              dsimp only
              rw [s14, wr_98 ha, Option.bind_some]
              have r2 := s13.pa (r := 98) (i := u 1 0) (v := nI v1) (fun _ => Nat.le_refl _) (by omega) (by omega) (by decide) (by decide)
              have g2 : fB B (si_pa B2 98 (u 1 0) (nI v1)) := (q2.B.tr s12.B).tr (fB.pa (by decide) (by decide))
              have w2 : (si_pa B2 98 (u 1 0) (nI v1)).2.1 98 (u 1 0) = nI v1 := pa_e
              generalize si_pa B2 98 (u 1 0) (nI v1) = D2 at r2 g2 w2  ⊢
              obtain ⟨B3, s21, s22, s23, s24⟩ := n29 D2 r2
              have s21' : f_X10_takes F 0 2 D2 = some (1, B3) := s21
              rw [s21', Option.bind_some, if_neg one]
              dsimp only
              rw [s24, wr_99 ha, Option.bind_some]
              have r3 := s23.pa (r := 99) (i := u 1 0) (v := nI v2) (fun _ => Nat.le_refl _) (by omega) (by omega) (by decide) (by decide)
              have g3 : fB B (si_pa B3 99 (u 1 0) (nI v2)) := (g2.tr s22.B).tr (fB.pa (by decide) (by decide))
              have w3 : (si_pa B3 99 (u 1 0) (nI v2)).2.1 99 (u 1 0) = nI v2 := pa_e
              have w3_1 : (si_pa B3 99 (u 1 0) (nI v2)).2.1 98 (u 1 0) = nI v1 := by rw [pa_o (by decide), s22.1]; exact w2
              generalize si_pa B3 99 (u 1 0) (nI v2) = D3 at r3 g3 w3 w3_1 ⊢
              obtain ⟨B4, s31, s32, s33, s34⟩ := n39 D3 r3
              have s31' : f_X10_takes F 1 1000 D3 = some (1, B4) := s31
              rw [s31', Option.bind_some, if_neg one]
              dsimp only
              rw [s34, wr_100 ha, Option.bind_some]
              have r4 := s33.pa (r := 100) (i := u 1 0) (v := nI v3) (fun _ => Nat.le_refl _) (by omega) (by omega) (by decide) (by decide)
              have g4 : fB B (si_pa B4 100 (u 1 0) (nI v3)) := (g3.tr s32.B).tr (fB.pa (by decide) (by decide))
              have w4 : (si_pa B4 100 (u 1 0) (nI v3)).2.1 100 (u 1 0) = nI v3 := pa_e
              have w4_1 : (si_pa B4 100 (u 1 0) (nI v3)).2.1 98 (u 1 0) = nI v1 := by rw [pa_o (by decide), s32.1]; exact w3_1
              have w4_2 : (si_pa B4 100 (u 1 0) (nI v3)).2.1 99 (u 1 0) = nI v2 := by rw [pa_o (by decide), s32.1]; exact w3
              generalize si_pa B4 100 (u 1 0) (nI v3) = D4 at r4 g4 w4 w4_1 w4_2 ⊢
              rw [rd_100 ha, Option.bind_some, w4, li_mulL]
              obtain ⟨B5, s1, s2, s3⟩ := m9 D4 r4
              have s1' : f_X10_takes F (nI (20 * v3)) 999999 D4 = some (0, B5) := s1
              rw [s1', Option.bind_some, if_pos rfl, sm_bz0, Option.bind_some]
              exact ⟨B5, rfl, g4.tr s2.B, s3⟩
        · have m1' : f_X3_takeNumber F 1 1000 A3 = some (0, A4) := m1
          refine Or.inr ⟨A4, e, p, ?_, fr3.tr m5.A, m6, fun B hB => ?_⟩
          · rw [m1', Option.bind_some]
            dsimp only
            rw [m6.num, Option.bind_some]
            dsimp only
            rw [if_neg m6.ne]
          · have hB25 : B.1 87 25 = nI (u 1 0) := hB.2.2.2.2.2.2.2.2.2.1
            unfold f_X10_scaleLine f_X10_scaleLine_h17 f_X10_scaleLine_h37
            obtain ⟨B1, q1, q2, q3⟩ := a6 B hB
            have h24 : B1.1 87 24 = nI (u 0 0) := q3.2.2.2.2.2.2.2.2.1
            rw [hB25, Option.bind_some, if_neg (show ¬ 24 ≤ nI (u 1 0) from nI_ge (b := 24) ha (by decide)), q1, Option.bind_some, if_neg one]
            dsimp only
            rw [h24]
            obtain ⟨B2, s11, s12, s13, s14⟩ := n19 B1 q3
            have s11' : f_X10_takes F 0 (nI (u 0 0) - 1) B1 = some (1, B2) := s11
            rw [s11', Option.bind_some, if_neg one]
            dsimp only
            rw [s14, wr_98 ha, Option.bind_some]
            have r2 := s13.pa (r := 98) (i := u 1 0) (v := nI v1) (fun _ => Nat.le_refl _) (by omega) (by omega) (by decide) (by decide)
            have g2 : fB B (si_pa B2 98 (u 1 0) (nI v1)) := (q2.B.tr s12.B).tr (fB.pa (by decide) (by decide))
            have w2 : (si_pa B2 98 (u 1 0) (nI v1)).2.1 98 (u 1 0) = nI v1 := pa_e
            generalize si_pa B2 98 (u 1 0) (nI v1) = D2 at r2 g2 w2  ⊢
            obtain ⟨B3, s21, s22, s23, s24⟩ := n29 D2 r2
            have s21' : f_X10_takes F 0 2 D2 = some (1, B3) := s21
            rw [s21', Option.bind_some, if_neg one]
            dsimp only
            rw [s24, wr_99 ha, Option.bind_some]
            have r3 := s23.pa (r := 99) (i := u 1 0) (v := nI v2) (fun _ => Nat.le_refl _) (by omega) (by omega) (by decide) (by decide)
            have g3 : fB B (si_pa B3 99 (u 1 0) (nI v2)) := (g2.tr s22.B).tr (fB.pa (by decide) (by decide))
            have w3 : (si_pa B3 99 (u 1 0) (nI v2)).2.1 99 (u 1 0) = nI v2 := pa_e
            have w3_1 : (si_pa B3 99 (u 1 0) (nI v2)).2.1 98 (u 1 0) = nI v1 := by rw [pa_o (by decide), s22.1]; exact w2
            generalize si_pa B3 99 (u 1 0) (nI v2) = D3 at r3 g3 w3 w3_1 ⊢
            obtain ⟨B4, s1, s2, s3⟩ := m9 D3 r3
            have s1' : f_X10_takes F 1 1000 D3 = some (0, B4) := s1
            rw [s1', Option.bind_some, if_pos rfl, sm_bz0, Option.bind_some]
            exact ⟨B4, rfl, g3.tr s2.B, s3⟩
      · have m1' : f_X3_takeNumber F 0 2 A2 = some (0, A3) := m1
        refine Or.inr ⟨A3, e, p, ?_, fr2.tr m5.A, m6, fun B hB => ?_⟩
        · rw [m1', Option.bind_some]
          dsimp only
          rw [m6.num, Option.bind_some]
          dsimp only
          rw [m6.num, Option.bind_some]
          dsimp only
          rw [if_neg m6.ne]
        · have hB25 : B.1 87 25 = nI (u 1 0) := hB.2.2.2.2.2.2.2.2.2.1
          unfold f_X10_scaleLine f_X10_scaleLine_h17 f_X10_scaleLine_h37
          obtain ⟨B1, q1, q2, q3⟩ := a6 B hB
          have h24 : B1.1 87 24 = nI (u 0 0) := q3.2.2.2.2.2.2.2.2.1
          rw [hB25, Option.bind_some, if_neg (show ¬ 24 ≤ nI (u 1 0) from nI_ge (b := 24) ha (by decide)), q1, Option.bind_some, if_neg one]
          dsimp only
          rw [h24]
          obtain ⟨B2, s11, s12, s13, s14⟩ := n19 B1 q3
          have s11' : f_X10_takes F 0 (nI (u 0 0) - 1) B1 = some (1, B2) := s11
          rw [s11', Option.bind_some, if_neg one]
          dsimp only
          rw [s14, wr_98 ha, Option.bind_some]
          have r2 := s13.pa (r := 98) (i := u 1 0) (v := nI v1) (fun _ => Nat.le_refl _) (by omega) (by omega) (by decide) (by decide)
          have g2 : fB B (si_pa B2 98 (u 1 0) (nI v1)) := (q2.B.tr s12.B).tr (fB.pa (by decide) (by decide))
          have w2 : (si_pa B2 98 (u 1 0) (nI v1)).2.1 98 (u 1 0) = nI v1 := pa_e
          generalize si_pa B2 98 (u 1 0) (nI v1) = D2 at r2 g2 w2  ⊢
          obtain ⟨B3, s1, s2, s3⟩ := m9 D2 r2
          have s1' : f_X10_takes F 0 2 D2 = some (0, B3) := s1
          rw [s1', Option.bind_some, if_pos rfl, sm_bz0, Option.bind_some]
          exact ⟨B3, rfl, g2.tr s2.B, s3⟩
    · have m1' : f_X3_takeNumber F 0 (nI (u 0 0) - 1) A1 = some (0, A2) := m1
      refine Or.inr ⟨A2, e, p, ?_, fr1.tr m5.A, m6, fun B hB => ?_⟩
      · rw [m1', Option.bind_some]
        dsimp only
        rw [m6.num, Option.bind_some]
        dsimp only
        rw [m6.num, Option.bind_some]
        dsimp only
        rw [m6.num, Option.bind_some]
        dsimp only
        rw [if_neg m6.ne]
      · have hB25 : B.1 87 25 = nI (u 1 0) := hB.2.2.2.2.2.2.2.2.2.1
        unfold f_X10_scaleLine f_X10_scaleLine_h17 f_X10_scaleLine_h37
        obtain ⟨B1, q1, q2, q3⟩ := a6 B hB
        have h24 : B1.1 87 24 = nI (u 0 0) := q3.2.2.2.2.2.2.2.2.1
        rw [hB25, Option.bind_some, if_neg (show ¬ 24 ≤ nI (u 1 0) from nI_ge (b := 24) ha (by decide)), q1, Option.bind_some, if_neg one]
        dsimp only
        rw [h24]
        obtain ⟨B2, s1, s2, s3⟩ := m9 B1 q3
        have s1' : f_X10_takes F 0 (nI (u 0 0) - 1) B1 = some (0, B2) := s1
        rw [s1', Option.bind_some, if_pos rfl, sm_bz0, Option.bind_some]
        exact ⟨B2, rfl, q2.B.tr s2.B, s3⟩
  · have a1' : f_X3_takeKeyword F (nI (u 1 0)) 24 A = some A1 := a1
    refine Or.inr ⟨A1, e, p, ?_, a2.A, a3, fun B hB => ?_⟩
    · rw [a1', Option.bind_some, a3.num, Option.bind_some]
      dsimp only
      rw [a3.num, Option.bind_some]
      dsimp only
      rw [a3.num, Option.bind_some]
      dsimp only
      rw [a3.num, Option.bind_some]
      dsimp only
      rw [if_neg a3.ne]
    · obtain ⟨B1, q1, q2, q3⟩ := a6 B hB
      refine ⟨B1, ?_, q2.B, q3⟩
      have hB25 : B.1 87 25 = nI (u 1 0) := hB.2.2.2.2.2.2.2.2.2.1
      unfold f_X10_scaleLine f_X10_scaleLine_h17 f_X10_scaleLine_h37
      rw [hB25, Option.bind_some, if_pos (show 24 ≤ nI (u 1 0) from nI_le (a := 24) ha (by omega)), q1, Option.bind_some, if_pos rfl, sm_bz0, Option.bind_some]
