-- sealState, expiryDay, risk, scalesWith
theorem sy_i3 {S S' : si_St} (e : iv_same S S') : S'.1 87 3 = S.1 87 3 ∧ S'.1 87 2 = S.1 87 2 := ⟨e.1 87 3 rfl, e.1 87 2 rfl⟩
theorem st_sealState {F : Nat} {x y : Int32} (hF : 1000 ≤ F) : st_ok (f_X9_sealState F x y) (f_X10_sealState F x y) := by
  intro S h
  obtain ⟨u, mk, hmk, hat⟩ := id h
  obtain ⟨g0, g1, g2, g3, g4, g5, g6, g7, -⟩ := id hat
  obtain ⟨⟨V, hV, hc, hn, hv⟩, hq⟩ := id g7
  have hm := iv_mkof hmk
  have e := h.go (iv_th S)
  have h24 := g0.2.1
  have hs1 : S.1 mk 1 = nI (u 1 0) := g1.1 1 (by decide)
  rcases sm_cases x (u 1 0) (by omega) with ⟨s, hs, rfl⟩ | hx
  · rcases sm_cases y 10000 (by decide) with ⟨dd, hdd, rfl⟩ | hy
    · obtain ⟨T, D, eT, iT, sT, t7, ht, mT, -⟩ := sy_both (F := F) hmk h hat hc hV (show dd ≤ 9999 by omega) hF
      refine ⟨nI (sy_st D u dd V s), T, si_ps T 87 0 0, ?_, ?_, iT.go (iv_th T)⟩
      · unfold f_X9_sealState
        rw [f9_hasScale hm.1 hs1 (by omega), if_pos (sm_in hs (by omega)), Option.bind_some]
        dsimp only
        rw [if_neg sm_10, f9_isDay, if_pos (sm_in hdd (by decide)), Option.bind_some]
        dsimp only
        rw [if_neg sm_10, hm.1, Option.bind_some, eT, Option.bind_some, rd_58 (by omega), Option.bind_some, (ht s hs).1]
      · unfold f_X10_sealState f_X10_sealState_h30
        rw [iv_pt0, Option.bind_some, f10_isScale (S := si_ps T 87 0 0) (n := u 1 0) ((sy_i3 sT).1.trans g2.2.1) (by omega), if_pos (sm_in hs (by omega)), Option.bind_some]
        dsimp only
        rw [if_neg sm_10, f10_isDay, if_pos (sm_in hdd (by decide)), Option.bind_some]
        dsimp only
        rw [if_neg sm_10, sy_mst mT hs (by omega) (by omega), Option.bind_some]
    · refine ⟨-1, S, si_ps S 87 0 0, ?_, ?_, e⟩
      · unfold f_X9_sealState
        rw [f9_hasScale hm.1 hs1 (by omega), if_pos (sm_in hs (by omega)), Option.bind_some]
        dsimp only
        rw [if_neg sm_10, f9_isDay, if_neg hy]
        rfl
      · unfold f_X10_sealState
        rw [iv_pt0, Option.bind_some, f10_isScale (S := si_ps S 87 0 0) (n := u 1 0) g2.2.1 (by omega), if_pos (sm_in hs (by omega)), Option.bind_some]
        dsimp only
        rw [if_neg sm_10, f10_isDay, if_neg hy]
        rfl
  · refine ⟨-1, S, si_ps S 87 0 0, ?_, ?_, e⟩
    · unfold f_X9_sealState
      rw [f9_hasScale hm.1 hs1 (by omega), if_neg hx]
      rfl
    · unfold f_X10_sealState
      rw [iv_pt0, Option.bind_some, f10_isScale (S := si_ps S 87 0 0) (n := u 1 0) g2.2.1 (by omega), if_neg hx]
      rfl
theorem st_risk {F : Nat} {x y : Int32} (hF : 1000 ≤ F) : st_ok (f_X9_risk F x y) (f_X10_risk F x y) := by
  intro S h
  obtain ⟨u, mk, hmk, hat⟩ := id h
  obtain ⟨g0, g1, g2, g3, g4, g5, g6, g7, -⟩ := id hat
  obtain ⟨⟨V, hV, hc, hn, hv⟩, hq⟩ := id g7
  have hm := iv_mkof hmk
  have e := h.go (iv_th S)
  have h24 := g0.2.1
  have hs1 : S.1 mk 1 = nI (u 1 0) := g1.1 1 (by decide)
  rcases sm_cases x (u 1 0) (by omega) with ⟨s, hs, rfl⟩ | hx
  · rcases sm_cases y 10000 (by decide) with ⟨dd, hdd, rfl⟩ | hy
    · obtain ⟨T, D, eT, iT, sT, t7, ht, mT, -⟩ := sy_both (F := F) hmk h hat hc hV (show dd ≤ 9999 by omega) hF
      refine ⟨nI (sy_rk D u dd V (u 1 0) s), T, si_ps T 87 0 0, ?_, ?_, iT.go (iv_th T)⟩
      · unfold f_X9_risk
        rw [f9_hasScale hm.1 hs1 (by omega), if_pos (sm_in hs (by omega)), Option.bind_some]
        dsimp only
        rw [if_neg sm_10, f9_isDay, if_pos (sm_in hdd (by decide)), Option.bind_some]
        dsimp only
        rw [if_neg sm_10, hm.1, Option.bind_some, eT, Option.bind_some, rd_60 (by omega), Option.bind_some, (ht s hs).2.2]
      · unfold f_X10_risk f_X10_risk_h30
        rw [iv_pt0, Option.bind_some, f10_isScale (S := si_ps T 87 0 0) (n := u 1 0) ((sy_i3 sT).1.trans g2.2.1) (by omega), if_pos (sm_in hs (by omega)), Option.bind_some]
        dsimp only
        rw [if_neg sm_10, f10_isDay, if_pos (sm_in hdd (by decide)), Option.bind_some]
        dsimp only
        rw [if_neg sm_10, sy_mrk mT hs (by omega) (by omega), Option.bind_some]
    · refine ⟨-1, S, si_ps S 87 0 0, ?_, ?_, e⟩
      · unfold f_X9_risk
        rw [f9_hasScale hm.1 hs1 (by omega), if_pos (sm_in hs (by omega)), Option.bind_some]
        dsimp only
        rw [if_neg sm_10, f9_isDay, if_neg hy]
        rfl
      · unfold f_X10_risk
        rw [iv_pt0, Option.bind_some, f10_isScale (S := si_ps S 87 0 0) (n := u 1 0) g2.2.1 (by omega), if_pos (sm_in hs (by omega)), Option.bind_some]
        dsimp only
        rw [if_neg sm_10, f10_isDay, if_neg hy]
        rfl
  · refine ⟨-1, S, si_ps S 87 0 0, ?_, ?_, e⟩
    · unfold f_X9_risk
      rw [f9_hasScale hm.1 hs1 (by omega), if_neg hx]
      rfl
    · unfold f_X10_risk
      rw [iv_pt0, Option.bind_some, f10_isScale (S := si_ps S 87 0 0) (n := u 1 0) g2.2.1 (by omega), if_neg hx]
      rfl
theorem st_expiryDay {F : Nat} {x y : Int32} (hF : 1000 ≤ F) : st_ok (f_X9_expiryDay F x y) (f_X10_expiryDay F x y) := by
  intro S h
  obtain ⟨u, mk, hmk, hat⟩ := id h
  obtain ⟨g0, g1, g2, g3, g4, g5, g6, g7, -⟩ := id hat
  obtain ⟨⟨V, hV, hc, hn, hv⟩, hq⟩ := id g7
  have hm := iv_mkof hmk
  have e := h.go (iv_th S)
  have h24 := g0.2.1
  have hs1 : S.1 mk 1 = nI (u 1 0) := g1.1 1 (by decide)
  rcases sm_cases x (u 1 0) (by omega) with ⟨s, hs, rfl⟩ | hx
  · rcases sm_cases y 10000 (by decide) with ⟨dd, hdd, rfl⟩ | hy
    · obtain ⟨T, D, eT, iT, sT, t7, ht, mT, -⟩ := sy_both (F := F) hmk h hat hc hV (show dd ≤ 9999 by omega) hF
      have hX : f_X9_expiryDay F (nI s) (nI dd) S = if nI (sy_st D u dd V s) = 1 then some (T.2.1 59 s * 360, T) else some (-2, T) := by
        unfold f_X9_expiryDay f_X9_expiryDay_h64
        rw [f9_hasScale hm.1 hs1 (by omega), if_pos (sm_in hs (by omega)), Option.bind_some]
        dsimp only
        rw [if_neg sm_10, f9_isDay, if_pos (sm_in hdd (by decide)), Option.bind_some]
        dsimp only
        rw [if_neg sm_10, hm.1, Option.bind_some, eT, Option.bind_some, rd_58 (by omega), Option.bind_some, (ht s hs).1, rd_59 (by omega), Option.bind_some]
      have hM : f_X10_expiryDay F (nI s) (nI dd) T = if nI (sy_st D u dd V s) = 1 then (Option.bind (f_X10_expires F (sy_lo (sy_la D dd s V)) (si_ps T 87 0 0)) fun q6 => some (q6.1, q6.2)) else some (-2, si_ps T 87 0 0) := by
        unfold f_X10_expiryDay f_X10_expiryDay_h47
        rw [iv_pt0, Option.bind_some, f10_isScale (S := si_ps T 87 0 0) (n := u 1 0) ((sy_i3 sT).1.trans g2.2.1) (by omega), if_pos (sm_in hs (by omega)), Option.bind_some]
        dsimp only
        rw [if_neg sm_10, f10_isDay, if_pos (sm_in hdd (by decide)), Option.bind_some]
        dsimp only
        rw [if_neg sm_10, sy_mst mT hs (by omega) (by omega), Option.bind_some]
        dsimp only
        rw [sy_last mT hs (by omega) (by omega), Option.bind_some]
      by_cases h1 : sy_st D u dd V s = 1
      · have h1' : nI (sy_st D u dd V s) = 1 := by rw [h1]; rfl
        rw [if_pos h1'] at hX hM
        have h59 := (ht s hs).2.1 h1
        cases hla : sy_la D dd s V with
        | none =>
          have : sy_st D u dd V s = 0 := by
            unfold sy_st
            rw [hla]
            rfl
          omega
        | some v =>
          rw [hla] at h59 hM
          obtain ⟨ex, ey⟩ := sy_exp (F := F) mT hla
          have e59 : T.2.1 59 s = nI (sy_ey D u s v) := h59
          refine ⟨nI (sy_ey D u s v * 360), T, si_ps T 87 0 0, ?_, ?_, iT.go (iv_th T)⟩
          · rw [hX, e59, li_mulR]
          · have exM : f_X10_expires F (sy_lo (some v)) (si_ps T 87 0 0) = some (nI (sy_ey D u s v * 360), si_ps T 87 0 0) := ex
            rw [hM, exM, Option.bind_some]
      · have h1' : ¬ nI (sy_st D u dd V s) = 1 := sm_ne (b := 1) h1 (by have := sy_st_le (D := D) (u := u) (dd := dd) (V := V) (s := s); omega) (by decide)
        rw [if_neg h1'] at hX hM
        exact ⟨-2, T, si_ps T 87 0 0, hX, hM, iT.go (iv_th T)⟩
    · refine ⟨-1, S, si_ps S 87 0 0, ?_, ?_, e⟩
      · unfold f_X9_expiryDay
        rw [f9_hasScale hm.1 hs1 (by omega), if_pos (sm_in hs (by omega)), Option.bind_some]
        dsimp only
        rw [if_neg sm_10, f9_isDay, if_neg hy]
        rfl
      · unfold f_X10_expiryDay
        rw [iv_pt0, Option.bind_some, f10_isScale (S := si_ps S 87 0 0) (n := u 1 0) g2.2.1 (by omega), if_pos (sm_in hs (by omega)), Option.bind_some]
        dsimp only
        rw [if_neg sm_10, f10_isDay, if_neg hy]
        rfl
  · refine ⟨-1, S, si_ps S 87 0 0, ?_, ?_, e⟩
    · unfold f_X9_expiryDay
      rw [f9_hasScale hm.1 hs1 (by omega), if_neg hx]
      rfl
    · unfold f_X10_expiryDay
      rw [iv_pt0, Option.bind_some, f10_isScale (S := si_ps S 87 0 0) (n := u 1 0) g2.2.1 (by omega), if_neg hx]
      rfl
theorem sm_or0 (x : Int32) : x ||| 0 = x := b_ext (fun i _ => by rw [b_or, b_0, Bool.or_false])
def sy_sw (D : sy_D) (u : Nat → Nat → Nat) (dd V : Nat) (x : Int32) : Nat → Int32
  | 0 => 0
  | k + 1 => if nI (sy_st D u dd V k) = x then sy_sw D u dd V x k ||| (1 <<< (nI k &&& 31)) else sy_sw D u dd V x k
theorem st_scalesWith {F : Nat} {x y : Int32} (hF : 1000 ≤ F) : st_ok (f_X9_scalesWith F x y) (f_X10_scalesWith F x y) := by
  intro S h
  obtain ⟨u, mk, hmk, hat⟩ := id h
  obtain ⟨g0, g1, g2, g3, g4, g5, g6, g7, -⟩ := id hat
  obtain ⟨⟨V, hV, hc, hn, hv⟩, hq⟩ := id g7
  have hm := iv_mkof hmk
  have e := h.go (iv_th S)
  have h24 := g0.2.1
  have hw : ∀ S' : si_St, f_X10_within F x.toInt64 0 3 S' = some (if 0 ≤ x ∧ x ≤ 3 then 1 else 0, S') := fun S' => sm_win (a := 0) (b := 3) (by decide) (by decide)
  by_cases hx : 0 ≤ x ∧ x ≤ 3
  · have x0 : ¬ x < 0 := fun h => (fa_of_lt h).2.1 hx.1
    have x3 : ¬ 3 < x := fun h => (fa_of_lt h).2.1 hx.2
    rcases sm_cases y 10000 (by decide) with ⟨dd, hdd, rfl⟩ | hy
    · obtain ⟨T, D, eT, iT, sT, t7, ht, mT, -⟩ := sy_both (F := F) hmk h hat hc hV (show dd ≤ 9999 by omega) hF
      refine ⟨sy_sw D u dd V x (u 1 0), T, si_ps T 87 0 0, ?_, ?_, iT.go (iv_th T)⟩
      · have hl : f_X6_scalesIn F x T = some (sy_sw D u dd V x (u 1 0), T) := lp_go (fun t k => f_X6_scalesIn_l4 F t x (sy_sw D u dd V x k) (nI k) T) (some (sy_sw D u dd V x (u 1 0), T)) (u 1 0) (fun t => by
          show f_X6_scalesIn_h4 F (f_X6_scalesIn_l4 F t) x _ (nI (u 1 0)) T = _
          unfold f_X6_scalesIn_h4
          rw [t7, if_pos (Int32.le_refl _)]) (fun t k hk => by
          show f_X6_scalesIn_h4 F (f_X6_scalesIn_l4 F t) x _ (nI k) T = f_X6_scalesIn_l4 F t x (if nI (sy_st D u dd V k) = x then sy_sw D u dd V x k ||| (1 <<< (nI k &&& 31)) else sy_sw D u dd V x k) (nI (k + 1)) T
          unfold f_X6_scalesIn_h4 f_X6_scalesIn_h28
          rw [t7, if_neg (nI_ge hk (by omega)), rd_58 (by omega), Option.bind_some, (ht k hk).1, Option.bind_some, Option.bind_some, Option.bind_some, nI_1]
          by_cases hz : nI (sy_st D u dd V k) = x
          · rw [if_pos hz, if_pos hz]
          · rw [if_neg hz, if_neg hz]) F 0 (Nat.zero_le _) (by omega)
        unfold f_X9_scalesWith
        rw [if_neg x0, if_neg x3, f9_isDay, if_pos (sm_in hdd (by decide)), Option.bind_some]
        dsimp only
        rw [if_neg sm_10, hm.1, Option.bind_some, eT, Option.bind_some, hl]
        rfl
      · have hn3 : (si_ps T 87 0 0).1 87 3 = nI (u 1 0) := (sy_i3 sT).1.trans g2.2.1
        have hl : f_X10_scalesWith_l31 F F x (nI dd) 0 0 (si_ps T 87 0 0) = some (sy_sw D u dd V x (u 1 0), si_ps T 87 0 0) := lp_go (fun t k => f_X10_scalesWith_l31 F t x (nI dd) (sy_sw D u dd V x k) (nI k) (si_ps T 87 0 0)) (some (sy_sw D u dd V x (u 1 0), si_ps T 87 0 0)) (u 1 0) (fun t => by
          show f_X10_scalesWith_h31 F (f_X10_scalesWith_l31 F t) x (nI dd) _ (nI (u 1 0)) (si_ps T 87 0 0) = _
          unfold f_X10_scalesWith_h31
          rw [hn3, if_pos (Int32.le_refl _)]) (fun t k hk => by
          show f_X10_scalesWith_h31 F (f_X10_scalesWith_l31 F t) x (nI dd) _ (nI k) (si_ps T 87 0 0) = f_X10_scalesWith_l31 F t x (nI dd) (if nI (sy_st D u dd V k) = x then sy_sw D u dd V x k ||| (1 <<< (nI k &&& 31)) else sy_sw D u dd V x k) (nI (k + 1)) (si_ps T 87 0 0)
          unfold f_X10_scalesWith_h31 f_X10_scalesWith_h60
          rw [hn3, if_neg (nI_ge hk (by omega)), sy_mst mT hk (by omega) (by omega), Option.bind_some]
          dsimp only
          rw [Option.bind_some, Option.bind_some, Option.bind_some, Option.bind_some, nI_1, sm_or0]
          by_cases hz : nI (sy_st D u dd V k) = x
          · rw [if_pos hz, if_pos hz]
          · rw [if_neg hz, if_neg hz]) F 0 (Nat.zero_le _) (by omega)
        unfold f_X10_scalesWith
        rw [iv_pt0, Option.bind_some, hw, if_pos hx, Option.bind_some]
        dsimp only
        rw [if_neg sm_10, f10_isDay, if_pos (sm_in hdd (by decide)), Option.bind_some]
        dsimp only
        rw [if_neg sm_10, hl]
    · refine ⟨-1, S, si_ps S 87 0 0, ?_, ?_, e⟩
      · unfold f_X9_scalesWith
        rw [if_neg x0, if_neg x3, f9_isDay, if_neg hy]
        rfl
      · unfold f_X10_scalesWith
        rw [iv_pt0, Option.bind_some, hw, if_pos hx, Option.bind_some]
        dsimp only
        rw [if_neg sm_10, f10_isDay, if_neg hy]
        rfl
  · refine ⟨-1, S, si_ps S 87 0 0, ?_, ?_, e⟩
    · unfold f_X9_scalesWith f_X9_scalesWith_h16
      by_cases x0 : x < 0
      · rw [if_pos x0]
      · rw [if_neg x0, if_pos (fa_of_nle (fun h => hx ⟨fa_of_nlt x0, h⟩))]
    · unfold f_X10_scalesWith
      rw [iv_pt0, Option.bind_some, hw, if_neg hx]
      rfl
-- riskiestTrader
def sy_tr (D : sy_D) (u : Nat → Nat → Nat) (dd V t : Nat) : Nat → Nat
  | 0 => 0
  | k + 1 => sy_tr D u dd V t k + (if u 4 k = t then sy_rk D u dd V (u 1 0) k else 0)
def sy_bo (f : Nat → Nat) : Nat → Nat
  | 0 => 0
  | j + 1 => if f j ≤ f (sy_bo f j) then sy_bo f j else j
theorem sy_bo_lt {f : Nat → Nat} : ∀ j, 0 < j → sy_bo f j < j
  | 0, h => absurd h (by omega)
  | j + 1, _ => by
    show (if f j ≤ f (sy_bo f j) then sy_bo f j else j) < j + 1
    split
    · by_cases hj : j = 0
      · subst hj
        exact Nat.zero_lt_one
      · have := sy_bo_lt (f := f) j (by omega)
        omega
    · omega
theorem sy_rk_le {D : sy_D} {u : Nat → Nat → Nat} {dd V n s : Nat} : sy_rk D u dd V n s ≤ 6 + V + n := by
  have h1 := sy_bs_le (sy_st D u dd V s)
  have h2 := sy_fa_le (D := D) (dd := dd) (s := s) V
  have h3 := sy_rj_le (D := D) (u := u) (dd := dd) (V := V) (t := u 4 s) n
  unfold sy_rk
  omega
theorem sy_rk_pos {D : sy_D} {u : Nat → Nat → Nat} {dd V n s : Nat} : 1 ≤ sy_rk D u dd V n s := by
  have h1 := sy_bs_le (sy_st D u dd V s)
  unfold sy_rk
  omega
theorem sy_tr_le {D : sy_D} {u : Nat → Nat → Nat} {dd V t : Nat} (hV : V ≤ 30) (hn : u 1 0 ≤ 24) : ∀ k, sy_tr D u dd V t k ≤ 60 * k
  | 0 => Nat.le_refl 0
  | k + 1 => by
    have ih := sy_tr_le (D := D) (u := u) (dd := dd) (V := V) (t := t) hV hn k
    have h1 := sy_rk_le (D := D) (u := u) (dd := dd) (V := V) (n := u 1 0) (s := k)
    show sy_tr D u dd V t k + (if u 4 k = t then sy_rk D u dd V (u 1 0) k else 0) ≤ 60 * (k + 1)
    split <;> omega
theorem st_riskiestTrader {F : Nat} {y : Int32} (hF : 1000 ≤ F) : st_ok (f_X9_riskiestTrader F y) (f_X10_riskiestTrader F y) := by
  intro S h
  obtain ⟨u, mk, hmk, hat⟩ := id h
  obtain ⟨g0, g1, g2, g3, g4, g5, g6, g7, -⟩ := id hat
  obtain ⟨⟨V, hV, hc, hn, hv⟩, hq⟩ := id g7
  have hm := iv_mkof hmk
  have e := h.go (iv_th S)
  have h24 := g0.2.1
  have h8 := g0.1
  have hs0 : S.1 mk 0 = nI (u 0 0) := g1.1 0 (by decide)
  rcases sm_cases y 10000 (by decide) with ⟨dd, hdd, rfl⟩ | hy
  · obtain ⟨T, D, eT, iT, sT, t7, ht, mT, mS⟩ := sy_both (F := F) hmk h hat hc hV (show dd ≤ 9999 by omega) hF
    have tl := fun t => sy_tr_le (D := D) (u := u) (dd := dd) (t := t) hV h24 (u 1 0)
    -- the other side
    have hM : ∀ S' : si_St, sy_m (si_ps S' 87 0 0) u V D → f_X10_riskiestTrader F (nI dd) S' = some (if u 0 0 = 0 then -2 else nI (sy_bo (fun t => sy_tr D u dd V t (u 1 0)) (u 0 0)), si_ps S' 87 0 0) := by
      intro S' mS'
      have m2 : (si_ps S' 87 0 0).1 87 2 = nI (u 0 0) := mS'.2.1.1
      have m3 : (si_ps S' 87 0 0).1 87 3 = nI (u 1 0) := mS'.2.1.2.1
      have inner : ∀ t a b (j : Nat), j < 8 → f_X10_riskiestTrader_l37 F (f_X10_riskiestTrader_l22 F t) F (nI dd) a b (nI j) 0 0 (si_ps S' 87 0 0) = if nI (sy_tr D u dd V j (u 1 0)) ≤ b then f_X10_riskiestTrader_l22 F t (nI dd) a b (nI (j + 1)) (si_ps S' 87 0 0) else f_X10_riskiestTrader_l22 F t (nI dd) (nI j) (nI (sy_tr D u dd V j (u 1 0))) (nI (j + 1)) (si_ps S' 87 0 0) := by
        intro t a b j hj8
        exact lp_go (fun t2 k => f_X10_riskiestTrader_l37 F (f_X10_riskiestTrader_l22 F t) t2 (nI dd) a b (nI j) (nI (sy_tr D u dd V j k)) (nI k) (si_ps S' 87 0 0)) _ (u 1 0) (fun t2 => by
          show f_X10_riskiestTrader_h37 F (f_X10_riskiestTrader_l22 F t) (f_X10_riskiestTrader_l37 F (f_X10_riskiestTrader_l22 F t) t2) (nI dd) a b (nI j) _ (nI (u 1 0)) (si_ps S' 87 0 0) = _
          unfold f_X10_riskiestTrader_h37 f_X10_riskiestTrader_h92
          rw [m3, if_pos (Int32.le_refl _), Option.bind_some, Option.bind_some, nI_1]) (fun t2 k hk => by
          have h4k := (mS'.2.1.2.2.2.2.1 k hk).1
          have q4k := (g0.2.2.2.2.1 k hk).1
          show f_X10_riskiestTrader_h37 F (f_X10_riskiestTrader_l22 F t) (f_X10_riskiestTrader_l37 F (f_X10_riskiestTrader_l22 F t) t2) (nI dd) a b (nI j) _ (nI k) (si_ps S' 87 0 0) = f_X10_riskiestTrader_l37 F (f_X10_riskiestTrader_l22 F t) t2 (nI dd) a b (nI j) (nI (sy_tr D u dd V j k + (if u 4 k = j then sy_rk D u dd V (u 1 0) k else 0))) (nI (k + 1)) (si_ps S' 87 0 0)
          unfold f_X10_riskiestTrader_h37 f_X10_riskiestTrader_h71
          rw [m3, if_neg (nI_ge hk (by omega)), rd_89 (by omega), Option.bind_some, h4k, sy_mrk mS' hk (by omega) (by omega), Option.bind_some]
          dsimp only
          rw [Option.bind_some, Option.bind_some, Option.bind_some, Option.bind_some, nI_1, nI_add]
          by_cases hj : u 4 k = j
          · rw [if_pos (by rw [hj]), if_pos hj]
          · have hz : nI (sy_tr D u dd V j k) + 0 = nI (sy_tr D u dd V j k + 0) := nI_add _ 0
            rw [if_neg (sm_ne hj (by omega) (by omega)), if_neg hj, hz]) F 0 (Nat.zero_le _) (by omega)
      have outer : ∀ t j, j ≤ u 0 0 → u 0 0 < t + j → 0 < j → f_X10_riskiestTrader_l22 F t (nI dd) (nI (sy_bo (fun t => sy_tr D u dd V t (u 1 0)) j)) (nI (sy_tr D u dd V (sy_bo (fun t => sy_tr D u dd V t (u 1 0)) j) (u 1 0))) (nI j) (si_ps S' 87 0 0) = some (nI (sy_bo (fun t => sy_tr D u dd V t (u 1 0)) (u 0 0)), si_ps S' 87 0 0) := by
        intro t
        induction t with
        | zero => intro j h1 h2; omega
        | succ t ih =>
          intro j h1 h2 h3
          show f_X10_riskiestTrader_h22 F (f_X10_riskiestTrader_l22 F t) (nI dd) _ _ (nI j) (si_ps S' 87 0 0) = _
          unfold f_X10_riskiestTrader_h22
          by_cases hj : j = u 0 0
          · rw [m2, hj, if_pos (Int32.le_refl _)]
          · have hb := sy_bo_lt (f := fun t => sy_tr D u dd V t (u 1 0)) j h3
            have ih2 := ih (j + 1) (by omega) (by omega) (by omega)
            have sj : sy_bo (fun t => sy_tr D u dd V t (u 1 0)) (j + 1) = if sy_tr D u dd V j (u 1 0) ≤ sy_tr D u dd V (sy_bo (fun t => sy_tr D u dd V t (u 1 0)) j) (u 1 0) then sy_bo (fun t => sy_tr D u dd V t (u 1 0)) j else j := rfl
            have t1 := tl j
            have t2 := tl (sy_bo (fun t => sy_tr D u dd V t (u 1 0)) j)
            rw [m2, if_neg (nI_ge (by omega) (by omega)), inner t _ _ j (by omega)]
            by_cases hc : sy_tr D u dd V j (u 1 0) ≤ sy_tr D u dd V (sy_bo (fun t => sy_tr D u dd V t (u 1 0)) j) (u 1 0)
            · rw [if_pos hc] at sj
              rw [if_pos (nI_le hc (by omega))]
              rw [sj] at ih2
              exact ih2
            · rw [if_neg hc] at sj
              rw [if_neg (nI_ge (by omega) (by omega))]
              rw [sj] at ih2
              exact ih2
      unfold f_X10_riskiestTrader
      rw [iv_pt0, Option.bind_some, f10_isDay, if_pos (sm_in hdd (by decide)), Option.bind_some]
      dsimp only
      rw [if_neg sm_10]
      obtain ⟨f, hf⟩ : ∃ f, F = f + 1 := ⟨F - 1, by omega⟩
      have e1 : f_X10_riskiestTrader_l22 F F (nI dd) (-2) (-1) 0 (si_ps S' 87 0 0) = f_X10_riskiestTrader_h22 F (f_X10_riskiestTrader_l22 F f) (nI dd) (-2) (-1) (nI 0) (si_ps S' 87 0 0) := by
        have e2 : f_X10_riskiestTrader_l22 F F (nI dd) (-2) (-1) 0 (si_ps S' 87 0 0) = f_X10_riskiestTrader_l22 F (f + 1) (nI dd) (-2) (-1) 0 (si_ps S' 87 0 0) := by rw [← hf]
        exact e2
      rw [e1]
      unfold f_X10_riskiestTrader_h22
      by_cases h0 : u 0 0 = 0
      · rw [m2, h0, if_pos (Int32.le_refl _), if_pos rfl]
      · have t0 := tl 0
        have hneg : ¬ nI (sy_tr D u dd V 0 (u 1 0)) ≤ -1 := by
          intro hh
          have h9 := (fa_le _ _).mp hh
          have h8 : (nI (sy_tr D u dd V 0 (u 1 0))).toInt = (sy_tr D u dd V 0 (u 1 0) : Int) := nI_toInt (by omega)
          have h7 : (-1 : Int32).toInt = -1 := by decide
          omega
        rw [m2, if_neg (nI_ge (by omega) (by omega)), inner f _ _ 0 (by omega), if_neg hneg, if_neg h0]
        have b1 : sy_bo (fun t => sy_tr D u dd V t (u 1 0)) 1 = 0 := by
          show (if sy_tr D u dd V 0 (u 1 0) ≤ sy_tr D u dd V 0 (u 1 0) then 0 else 0) = 0
          rw [ite_self]
        have o := outer f 1 (by omega) (by omega) (by decide)
        rw [b1] at o
        exact o
    by_cases h0 : u 0 0 = 0
    · refine ⟨-2, S, si_ps S 87 0 0, ?_, ?_, e⟩
      · unfold f_X9_riskiestTrader
        rw [f9_isDay, if_pos (sm_in hdd (by decide)), Option.bind_some]
        dsimp only
        rw [if_neg sm_10, hm.1, Option.bind_some, hs0, if_pos (by rw [h0]; rfl)]
      · rw [hM S mS, if_pos h0]
    · -- the class
      obtain ⟨T1, ef, x1, y1, z1, w1⟩ := sy_fill (F := F) (k := 64) (n := 8) (v := 0) (S := T) rfl (by decide) hF
      have hmT : si_mk T 0 2 = some mk := by
        unfold si_mk
        rw [sT.2.2.2.2.1]
        exact hm.1
      have mkT : T.1 mk 0 = nI (u 0 0) := by
        rw [sT.1 mk 0 (by rcases hm.2 with rfl | rfl <;> rfl)]
        exact hs0
      have mkA : ∀ s, s < u 1 0 → T.2.1 (mk + 1) s = nI (u 4 s) := by
        intro s hs
        rw [sT.2.1 (mk + 1) (by rcases hm.2 with rfl | rfl <;> rfl)]
        exact (g1.2.1 s hs).1
      have walk : ∃ T2, f_X6_traderAtMostRisk_l10 F mk F 0 T1 = some (nI (sy_bo (fun t => sy_tr D u dd V t (u 1 0)) (u 0 0)), T2) ∧ T2.1 = T.1 ∧ (∀ r, r ≠ 64 → T2.2.1 r = T.2.1 r) ∧ T2.2.2 = T.2.2 := by
        exact lp_inv (fun t k Z => f_X6_traderAtMostRisk_l10 F mk t (nI k) Z) (fun k Z => Z.1 = T.1 ∧ (∀ r, r ≠ 64 → Z.2.1 r = T.2.1 r) ∧ Z.2.2 = T.2.2 ∧ ∀ t, t < 8 → Z.2.1 64 t = nI (sy_tr D u dd V t k)) (fun o => ∃ T2, o = some (nI (sy_bo (fun t => sy_tr D u dd V t (u 1 0)) (u 0 0)), T2) ∧ T2.1 = T.1 ∧ (∀ r, r ≠ 64 → T2.2.1 r = T.2.1 r) ∧ T2.2.2 = T.2.2) (u 1 0) (fun t Z ⟨a1, a2, a3, a4⟩ => by
          refine ⟨Z, ?_, a1, a2, a3⟩
          show f_X6_traderAtMostRisk_h10 F mk (f_X6_traderAtMostRisk_l10 F mk t) (nI (u 1 0)) Z = _
          unfold f_X6_traderAtMostRisk_h10
          rw [a1, t7, if_pos (Int32.le_refl _)]
          have b1 : sy_bo (fun t => sy_tr D u dd V t (u 1 0)) 1 = 0 := by
            show (if sy_tr D u dd V 0 (u 1 0) ≤ sy_tr D u dd V 0 (u 1 0) then 0 else 0) = 0
            rw [ite_self]
          have own : ∀ t j, j ≤ u 0 0 → u 0 0 < t + j → 0 < j → f_X6_traderAtMostRisk_l48 F mk t (nI (sy_bo (fun t => sy_tr D u dd V t (u 1 0)) j)) (nI j) Z = some (nI (sy_bo (fun t => sy_tr D u dd V t (u 1 0)) (u 0 0)), Z) := by
            intro t
            induction t with
            | zero => intro j h1 h2; omega
            | succ t ih =>
              intro j h1 h2 h3
              show f_X6_traderAtMostRisk_h48 F mk (f_X6_traderAtMostRisk_l48 F mk t) _ (nI j) Z = _
              unfold f_X6_traderAtMostRisk_h48 f_X6_traderAtMostRisk_h73
              rw [a1, mkT]
              by_cases hj : j = u 0 0
              · rw [hj, if_pos (Int32.le_refl _)]
              · have hb := sy_bo_lt (f := fun t => sy_tr D u dd V t (u 1 0)) j h3
                have ih2 := ih (j + 1) (by omega) (by omega) (by omega)
                have sj : sy_bo (fun t => sy_tr D u dd V t (u 1 0)) (j + 1) = if sy_tr D u dd V j (u 1 0) ≤ sy_tr D u dd V (sy_bo (fun t => sy_tr D u dd V t (u 1 0)) j) (u 1 0) then sy_bo (fun t => sy_tr D u dd V t (u 1 0)) j else j := rfl
                have t1 := tl j
                have t2 := tl (sy_bo (fun t => sy_tr D u dd V t (u 1 0)) j)
                rw [if_neg (nI_ge (by omega) (by omega)), rd_64 (by omega), Option.bind_some, a4 j (by omega), rd_64 (by omega), Option.bind_some, a4 _ (by omega), Option.bind_some, Option.bind_some, nI_1]
                by_cases hc : sy_tr D u dd V j (u 1 0) ≤ sy_tr D u dd V (sy_bo (fun t => sy_tr D u dd V t (u 1 0)) j) (u 1 0)
                · rw [if_pos hc] at sj
                  rw [if_pos (nI_le hc (by omega))]
                  rw [sj] at ih2
                  exact ih2
                · rw [if_neg hc] at sj
                  rw [if_neg (nI_ge (by omega) (by omega))]
                  rw [sj] at ih2
                  exact ih2
          have o := own F 1 (by omega) (by omega) (by decide)
          rw [b1] at o
          exact o) (fun t k Z hk ⟨a1, a2, a3, a4⟩ => by
          have q4k := (g0.2.2.2.2.1 k hk).1
          have rk := sy_rk_le (D := D) (u := u) (dd := dd) (V := V) (n := u 1 0) (s := k)
          refine ⟨si_pa Z 64 (u 4 k) (nI (sy_tr D u dd V (u 4 k) k + sy_rk D u dd V (u 1 0) k)), ⟨a1, fun r hr => (pa_o hr).trans (a2 r hr), a3, fun t ht8 => ?_⟩, ?_⟩
          · show _ = nI (sy_tr D u dd V t k + (if u 4 k = t then sy_rk D u dd V (u 1 0) k else 0))
            by_cases htu : t = u 4 k
            · subst htu
              rw [pa_e, if_pos rfl]
            · rw [pa_s htu, a4 t ht8, if_neg (fun h => htu h.symm)]
              rfl
          · show f_X6_traderAtMostRisk_h10 F mk (f_X6_traderAtMostRisk_l10 F mk t) (nI k) Z = _
            unfold f_X6_traderAtMostRisk_h10
            rw [a1, t7, if_neg (nI_ge hk (by omega)), rd_m1 hm.2 (by omega), Option.bind_some, a2 (mk + 1) (by have := hm.2; omega), mkA k hk, rd_64 (by omega), Option.bind_some, a4 _ (by omega), rd_60 (by omega), Option.bind_some, a2 60 (by decide), (ht k hk).2.2, nI_add, wr_64 (by omega), Option.bind_some, Option.bind_some, nI_1]) F 0 T1 (Nat.zero_le _) (by omega) ⟨x1, y1, z1, fun t ht8 => w1 t ht8⟩
      obtain ⟨T2, ew, b1, b2, b3⟩ := walk
      have sT2 : iv_same T T2 := ⟨fun _ _ _ => by rw [b1], fun k hk => b2 k (fun h => by rw [h] at hk; exact absurd hk (by decide)), by rw [b3], by rw [b3], by rw [b3], by rw [b3]⟩
      refine ⟨nI (sy_bo (fun t => sy_tr D u dd V t (u 1 0)) (u 0 0)), T2, si_ps T2 87 0 0, ?_, ?_, (iT.go sT2).go (iv_th T2)⟩
      · unfold f_X9_riskiestTrader
        rw [f9_isDay, if_pos (sm_in hdd (by decide)), Option.bind_some]
        dsimp only
        rw [if_neg sm_10, hm.1, Option.bind_some, hs0, if_neg (nI_ne0 (by omega) (by omega)), Option.bind_some, eT, Option.bind_some, hmT, Option.bind_some]
        unfold f_X6_traderAtMostRisk
        rw [ef, Option.bind_some, ew, Option.bind_some]
      · have m2 : sy_m (si_ps T2 87 0 0) u V D := by
          obtain ⟨c0, c1, c2, c3, c4⟩ := mT
          have r88 : (si_ps T2 87 0 0).2.1 88 = (si_ps T 87 0 0).2.1 88 := b2 88 (by decide)
          refine ⟨c0, c1.cg (by show T2.1 87 2 = T.1 87 2; rw [b1]) (by show T2.1 87 3 = T.1 87 3; rw [b1]) (by show T2.1 87 8 = T.1 87 8; rw [b1]) (by show T2.1 87 10 = T.1 87 10; rw [b1]) (fun r r1 r2 => b2 r (by omega)), c2, by rw [r88]; exact c3, fun v hv => by rw [r88]; exact c4 v hv⟩
        rw [hM T2 m2, if_neg h0]
  · refine ⟨-1, S, si_ps S 87 0 0, ?_, ?_, e⟩
    · unfold f_X9_riskiestTrader
      rw [f9_isDay, if_neg hy]
      rfl
    · unfold f_X10_riskiestTrader
      rw [iv_pt0, Option.bind_some, f10_isDay, if_neg hy]
      rfl
