/-! the law: every row of the script, and the whole script -/
theorem lw_step {F L x : Nat} {xs : Nat → Int32} {r : Int32 → si_St → Option (Int32 × si_St)} (hF : 7448 ≤ F) (hL : L ≤ 3072) (hx : x + 6 ≤ L) (hr : lw_on r (nI x)) {S : si_St} (hI : iv_all S) (he : ¬ (Int32.ofNat L) - 6 < nI x) : ∃ S2, f_L_law_h23 F L xs r (nI x) S = some (1, S2) := by
  have x0 : si_xs L xs (nI x) = some (xs x) := sm_xs (by omega) (by omega)
  have x1 : si_xs L xs (nI x + 1) = some (xs (x + 1)) := by rw [li_addR]; exact sm_xs (by omega) (by omega)
  have x2 : si_xs L xs (nI x + 2) = some (xs (x + 2)) := by rw [li_addR]; exact sm_xs (by omega) (by omega)
  have x3 : si_xs L xs (nI x + 3) = some (xs (x + 3)) := by rw [li_addR]; exact sm_xs (by omega) (by omega)
  have x4 : si_xs L xs (nI x + 4) = some (xs (x + 4)) := by rw [li_addR]; exact sm_xs (by omega) (by omega)
  have x5 : si_xs L xs (nI x + 5) = some (xs (x + 5)) := by rw [li_addR]; exact sm_xs (by omega) (by omega)
  unfold f_L_law_h23
  rw [if_neg he, x0, Option.bind_some]
  by_cases h0 : (xs x &&& 63) = 0
  · rw [if_pos h0]
    simp only [x1, x2, x3, x4, x5, Option.bind_some]
    exact lw_go (st_append (F := F) (by omega)) hr hI
  · rw [if_neg h0]
    by_cases h1 : (xs x &&& 63) = 1
    · rw [if_pos h1]
      simp only [x1, Option.bind_some]
      exact lw_go (st_parse (F := F) (by omega)) hr hI
    · rw [if_neg h1]
      by_cases h2 : (xs x &&& 63) = 2
      · rw [if_pos h2]
        exact lw_go (st_errorPosition (F := F)) hr hI
      · rw [if_neg h2]
        by_cases h3 : (xs x &&& 63) = 3
        · rw [if_pos h3]
          exact lw_go (st_traderCount (F := F)) hr hI
        · rw [if_neg h3]
          by_cases h4 : (xs x &&& 63) = 4
          · rw [if_pos h4]
            exact lw_go (st_scaleCount (F := F)) hr hI
          · rw [if_neg h4]
            by_cases h5 : (xs x &&& 63) = 5
            · rw [if_pos h5]
              exact lw_go (st_massCount (F := F)) hr hI
            · rw [if_neg h5]
              by_cases h6 : (xs x &&& 63) = 6
              · rw [if_pos h6]
                exact lw_go (st_setCount (F := F)) hr hI
              · rw [if_neg h6]
                by_cases h7 : (xs x &&& 63) = 7
                · rw [if_pos h7]
                  simp only [x1, Option.bind_some]
                  exact lw_go (st_trader (F := F)) hr hI
                · rw [if_neg h7]
                  by_cases h8 : (xs x &&& 63) = 8
                  · rw [if_pos h8]
                    simp only [x1, Option.bind_some]
                    exact lw_go (st_capacity (F := F)) hr hI
                  · rw [if_neg h8]
                    by_cases h9 : (xs x &&& 63) = 9
                    · rw [if_pos h9]
                      simp only [x1, x2, Option.bind_some]
                      unfold f_L_law_h534
                      exact lw_go3 (st_baseTolerance (F := F)) hr hI
                    · rw [if_neg h9]
                      by_cases h10 : (xs x &&& 63) = 10
                      · rw [if_pos h10]
                        simp only [x1, Option.bind_some]
                        exact lw_go (st_massValue (F := F)) hr hI
                      · rw [if_neg h10]
                        by_cases h11 : (xs x &&& 63) = 11
                        · rw [if_pos h11]
                          simp only [x1, Option.bind_some]
                          exact lw_go (st_fewestMasses (F := F) (by omega)) hr hI
                        · rw [if_neg h11]
                          by_cases h12 : (xs x &&& 63) = 12
                          · rw [if_pos h12]
                            simp only [x1, Option.bind_some]
                            exact lw_go (st_closestLoad (F := F) (by omega)) hr hI
                          · rw [if_neg h12]
                            by_cases h13 : (xs x &&& 63) = 13
                            · rw [if_pos h13]
                              simp only [x1, Option.bind_some]
                              exact lw_go (st_twoPans (F := F) (by omega)) hr hI
                            · rw [if_neg h13]
                              by_cases h14 : (xs x &&& 63) = 14
                              · rw [if_pos h14]
                                simp only [x1, x2, Option.bind_some]
                                exact lw_go (st_startVisit (F := F) (by omega)) hr hI
                              · rw [if_neg h14]
                                by_cases h15 : (xs x &&& 63) = 15
                                · rw [if_pos h15]
                                  exact lw_go (st_visitCount (F := F)) hr hI
                                · rw [if_neg h15]
                                  by_cases h16 : (xs x &&& 63) = 16
                                  · rw [if_pos h16]
                                    simp only [x1, Option.bind_some]
                                    exact lw_go (st_visitScale (F := F)) hr hI
                                  · rw [if_neg h16]
                                    by_cases h17 : (xs x &&& 63) = 17
                                    · rw [if_pos h17]
                                      simp only [x1, Option.bind_some]
                                      exact lw_go (st_isInService (F := F)) hr hI
                                    · rw [if_neg h17]
                                      by_cases h18 : (xs x &&& 63) = 18
                                      · rw [if_pos h18]
                                        simp only [x1, x2, x3, Option.bind_some]
                                        exact lw_go (st_record (F := F) (by omega)) hr hI
                                      · rw [if_neg h18]
                                        by_cases h19 : (xs x &&& 63) = 19
                                        · rw [if_pos h19]
                                          simp only [x1, Option.bind_some]
                                          exact lw_go (st_testCount (F := F)) hr hI
                                        · rw [if_neg h19]
                                          by_cases h20 : (xs x &&& 63) = 20
                                          · rw [if_pos h20]
                                            simp only [x1, x2, Option.bind_some]
                                            unfold f_L_law_h876
                                            exact lw_go3 (st_testLoad (F := F) (by omega)) hr hI
                                          · rw [if_neg h20]
                                            by_cases h21 : (xs x &&& 63) = 21
                                            · rw [if_pos h21]
                                              simp only [x1, x2, Option.bind_some]
                                              unfold f_L_law_h944
                                              exact lw_go3 (st_testError (F := F) (by omega)) hr hI
                                            · rw [if_neg h21]
                                              by_cases h22 : (xs x &&& 63) = 22
                                              · rw [if_pos h22]
                                                simp only [x1, x2, Option.bind_some]
                                                obtain ⟨c, v, S1, S2, e1, e2, g3, g4, g5⟩ := st_testPasses (F := F) (x := xs (x + 1)) (y := xs (x + 2)) (by omega) S hI
                                                have e3 : f_X10_thrown F S2 = some (c, S2) := by
                                                  unfold f_X10_thrown
                                                  rw [g3]
                                                unfold f_L_law_h1013 f_L_law_h1019
                                                rw [e1, Option.bind_some]
                                                dsimp only
                                                rw [e2, Option.bind_some]
                                                dsimp only
                                                rw [e3, Option.bind_some]
                                                dsimp only
                                                rw [if_pos rfl]
                                                by_cases c0 : c = 0
                                                · have e4 : si_rl S2 113 0 = some (S2.2.2.1 113 0) := sm_rl (i := 0) (by decide) (by decide)
                                                  rw [if_pos c0, e4, Option.bind_some, g4 c0]
                                                  by_cases v0 : v = 0
                                                  · rw [if_pos v0, if_pos v0, lg_cmp0, if_pos rfl]
                                                    exact hr S2 g5
                                                  · rw [if_neg v0, if_neg v0, lg_cmp0, if_pos rfl]
                                                    exact hr S2 g5
                                                · rw [if_neg c0]
                                                  exact hr S2 g5
                                              · rw [if_neg h22]
                                                by_cases h23 : (xs x &&& 63) = 23
                                                · rw [if_pos h23]
                                                  simp only [x1, Option.bind_some]
                                                  exact lw_go (st_verdict (F := F) (by omega)) hr hI
                                                · rw [if_neg h23]
                                                  by_cases h24 : (xs x &&& 63) = 24
                                                  · rw [if_pos h24]
                                                    simp only [x1, Option.bind_some]
                                                    unfold f_L_law_h1100
                                                    exact lw_go3 (st_adjustment (F := F) (by omega)) hr hI
                                                  · rw [if_neg h24]
                                                    by_cases h25 : (xs x &&& 63) = 25
                                                    · rw [if_pos h25]
                                                      simp only [x1, Option.bind_some]
                                                      exact lw_go (st_adjustedVerdict (F := F) (by omega)) hr hI
                                                    · rw [if_neg h25]
                                                      by_cases h26 : (xs x &&& 63) = 26
                                                      · rw [if_pos h26]
                                                        simp only [x1, Option.bind_some]
                                                        exact lw_go (st_closeVisit (F := F) (by omega)) hr hI
                                                      · rw [if_neg h26]
                                                        by_cases h27 : (xs x &&& 63) = 27
                                                        · rw [if_pos h27]
                                                          simp only [x1, Option.bind_some]
                                                          exact lw_go (st_isClosed (F := F)) hr hI
                                                        · rw [if_neg h27]
                                                          by_cases h28 : (xs x &&& 63) = 28
                                                          · rw [if_pos h28]
                                                            simp only [x1, x2, Option.bind_some]
                                                            exact lw_go (st_sealState (F := F) (by omega)) hr hI
                                                          · rw [if_neg h28]
                                                            by_cases h29 : (xs x &&& 63) = 29
                                                            · rw [if_pos h29]
                                                              simp only [x1, x2, Option.bind_some]
                                                              exact lw_go (st_expiryDay (F := F) (by omega)) hr hI
                                                            · rw [if_neg h29]
                                                              by_cases h30 : (xs x &&& 63) = 30
                                                              · rw [if_pos h30]
                                                                simp only [x1, x2, Option.bind_some]
                                                                exact lw_go (st_scalesWith (F := F) (by omega)) hr hI
                                                              · rw [if_neg h30]
                                                                by_cases h31 : (xs x &&& 63) = 31
                                                                · rw [if_pos h31]
                                                                  simp only [x1, x2, Option.bind_some]
                                                                  exact lw_go (st_risk (F := F) (by omega)) hr hI
                                                                · rw [if_neg h31]
                                                                  by_cases h32 : (xs x &&& 63) = 32
                                                                  · rw [if_pos h32]
                                                                    simp only [x1, Option.bind_some]
                                                                    exact lw_go (st_riskiestTrader (F := F) (by omega)) hr hI
                                                                  · rw [if_neg h32]
                                                                    by_cases h33 : (xs x &&& 63) = 33
                                                                    · rw [if_pos h33]
                                                                      simp only [x1, x2, x3, Option.bind_some]
                                                                      exact lw_go (st_lot (F := F) (by omega)) hr hI
                                                                    · rw [if_neg h33]
                                                                      by_cases h34 : (xs x &&& 63) = 34
                                                                      · rw [if_pos h34]
                                                                        simp only [x1, Option.bind_some]
                                                                        exact lw_go (st_weightCount (F := F)) hr hI
                                                                      · rw [if_neg h34]
                                                                        by_cases h35 : (xs x &&& 63) = 35
                                                                        · rw [if_pos h35]
                                                                          simp only [x1, x2, x3, x4, Option.bind_some]
                                                                          exact lw_go (st_weigh (F := F) (by omega)) hr hI
                                                                        · rw [if_neg h35]
                                                                          by_cases h36 : (xs x &&& 63) = 36
                                                                          · rw [if_pos h36]
                                                                            simp only [x1, Option.bind_some]
                                                                            exact lw_go (st_weighingCount (F := F)) hr hI
                                                                          · rw [if_neg h36]
                                                                            by_cases h37 : (xs x &&& 63) = 37
                                                                            · rw [if_pos h37]
                                                                              simp only [x1, Option.bind_some]
                                                                              exact lw_go (st_hypothesisCount (F := F) (by omega)) hr hI
                                                                            · rw [if_neg h37]
                                                                              by_cases h38 : (xs x &&& 63) = 38
                                                                              · rw [if_pos h38]
                                                                                simp only [x1, Option.bind_some]
                                                                                exact lw_go (st_heavySuspects (F := F)) hr hI
                                                                              · rw [if_neg h38]
                                                                                by_cases h39 : (xs x &&& 63) = 39
                                                                                · rw [if_pos h39]
                                                                                  simp only [x1, Option.bind_some]
                                                                                  exact lw_go (st_lightSuspects (F := F)) hr hI
                                                                                · rw [if_neg h39]
                                                                                  by_cases h40 : (xs x &&& 63) = 40
                                                                                  · rw [if_pos h40]
                                                                                    simp only [x1, Option.bind_some]
                                                                                    exact lw_go (st_canBeGenuine (F := F)) hr hI
                                                                                  · rw [if_neg h40]
                                                                                    by_cases h41 : (xs x &&& 63) = 41
                                                                                    · rw [if_pos h41]
                                                                                      simp only [x1, Option.bind_some]
                                                                                      exact lw_go (st_finding (F := F) (by omega)) hr hI
                                                                                    · rw [if_neg h41]
                                                                                      by_cases h42 : (xs x &&& 63) = 42
                                                                                      · rw [if_pos h42]
                                                                                        simp only [x1, Option.bind_some]
                                                                                        exact lw_go (st_weighingsNeeded (F := F) (by omega)) hr hI
                                                                                      · rw [if_neg h42]
                                                                                        by_cases h43 : (xs x &&& 63) = 43
                                                                                        · rw [if_pos h43]
                                                                                          simp only [x1, Option.bind_some]
                                                                                          exact lw_go (st_bestLeft (F := F) (by omega)) hr hI
                                                                                        · rw [if_neg h43]
                                                                                          by_cases h44 : (xs x &&& 63) = 44
                                                                                          · rw [if_pos h44]
                                                                                            simp only [x1, Option.bind_some]
                                                                                            exact lw_go (st_bestRight (F := F) (by omega)) hr hI
                                                                                          · rw [if_neg h44]
                                                                                            by_cases h45 : (xs x &&& 63) = 45
                                                                                            · rw [if_pos h45]
                                                                                              rw [x1, x2, Option.bind_some, Option.bind_some]
                                                                                              unfold f_L_law_h1732 f_L_law_h1756
                                                                                              simp only [x1, x2, Option.bind_some]
                                                                                              by_cases c : xs (x + 2) = 0
                                                                                              · simp only [if_pos c]
                                                                                                exact lw_go (st_fewestWeighings (F := F) (by omega)) hr hI
                                                                                              · simp only [if_neg c]
                                                                                                exact lw_go (st_fewestWeighings (F := F) (by omega)) hr hI
                                                                                            · rw [if_neg h45]
                                                                                              by_cases h46 : (xs x &&& 63) = 46
                                                                                              · rw [if_pos h46]
                                                                                                exact lw_go (st_undo (F := F) (by omega)) hr hI
                                                                                              · rw [if_neg h46]
                                                                                                by_cases h47 : (xs x &&& 63) = 47
                                                                                                · rw [if_pos h47]
                                                                                                  exact lw_go (st_undoDepth (F := F)) hr hI
                                                                                                · rw [if_neg h47]
                                                                                                  by_cases h48 : (xs x &&& 63) = 48
                                                                                                  · rw [if_pos h48]
                                                                                                    simp only [x1, Option.bind_some]
                                                                                                    exact lw_go (st_saveSnapshot (F := F) (by omega)) hr hI
                                                                                                  · rw [if_neg h48]
                                                                                                    by_cases h49 : (xs x &&& 63) = 49
                                                                                                    · rw [if_pos h49]
                                                                                                      simp only [x1, Option.bind_some]
                                                                                                      exact lw_go (st_restoreSnapshot (F := F) (by omega)) hr hI
                                                                                                    · rw [if_neg h49]
                                                                                                      exact hr S hI
theorem lw_end {L x : Nat} (hL : L ≤ 3072) (hx : x ≤ 4000) : (Int32.ofNat L) - 6 < nI x ↔ L < x + 6 := by
  have h6 : (6 : Int32).toInt = 6 := by decide
  have e : (Int32.ofNat L) = nI L := rfl
  rw [e, fa_lt, Jvm.Kit.i32_sub (by rw [nI_toInt (by omega), h6]; omega) (by rw [nI_toInt (by omega), h6]; omega), nI_toInt (by omega), nI_toInt (by omega), h6]
  omega
theorem lw_script {F L : Nat} {xs : Nat → Int32} (hF : 7448 ≤ F) (hL : L ≤ 3072) : ∀ n k S, k ≤ 520 → L < 6 * (k + n + 1) → iv_all S → ∃ S2, f_L_law_l23 F L xs (n + 1) (nI (6 * k)) S = some (1, S2)
  | 0, k, S, hk, h, _ => by
    refine ⟨S, ?_⟩
    show f_L_law_h23 F L xs _ (nI (6 * k)) S = _
    unfold f_L_law_h23
    rw [if_pos ((lw_end hL (by omega)).mpr (by omega))]
  | n + 1, k, S, hk, h, hI => by
    show ∃ S2, f_L_law_h23 F L xs (f_L_law_l23 F L xs (n + 1)) (nI (6 * k)) S = some (1, S2)
    by_cases he : L < 6 * k + 6
    · refine ⟨S, ?_⟩
      unfold f_L_law_h23
      rw [if_pos ((lw_end hL (by omega)).mpr he)]
    · refine lw_step hF hL (by omega) (fun T hT => ?_) hI (fun h2 => he ((lw_end hL (by omega)).mp h2))
      have e : nI (6 * k) + 6 = nI (6 * (k + 1)) := by
        rw [li_addR]
        rfl
      rw [e]
      exact lw_script hF hL n (k + 1) T (by omega) (by omega) hT
theorem law_ok {L : Nat} {xs : Nat → Int32} (hL : L ≤ 3072) : ∃ S2, f_L_law_l23 10000 L xs 513 0 si_S0 = some (1, S2) :=
  lw_script (F := 10000) (by decide) hL 512 0 si_S0 (by decide) (by omega) iv_S0
