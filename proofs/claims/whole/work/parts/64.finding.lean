-- hypothesisCount, finding
theorem fd_one_2 : ∀ a, a < 64 → ∀ b, b < 64 → sb_pc (64 * a + b) = 1 → ∃ w, w < 12 ∧ 64 * a + b = 2 ^ w := by decide +kernel
theorem fd_one {n : Nat} (h : n < 4096) (h1 : sb_pc n = 1) : ∃ w, w < 12 ∧ n = 2 ^ w := by
  have e := fd_one_2 (n / 64) (by omega) (n % 64) (by omega)
  rw [Nat.div_add_mod] at e
  exact e h1
theorem fd_ntz {F w : Nat} {S : si_St} (h : w < 12) : f_J6_numberOfTrailingZeros_0f7a4 F (nI (2 ^ w)) S = some (nI w, S) := by
  have hw : w = 0 ∨ w = 1 ∨ w = 2 ∨ w = 3 ∨ w = 4 ∨ w = 5 ∨ w = 6 ∨ w = 7 ∨ w = 8 ∨ w = 9 ∨ w = 10 ∨ w = 11 := by omega
  rcases hw with rfl | rfl | rfl | rfl | rfl | rfl | rfl | rfl | rfl | rfl | rfl | rfl <;> rfl
theorem fd_hx {F k h l g : Nat} {S : si_St} (hk : k < 4) (a1 : S.2.1 17 k = nI h) (a2 : S.2.1 18 k = nI l) (a3 : S.2.1 19 k = nI g) (hh : h < 4096) (hl : l < 4096) : f_X8_hypothesesOf F (nI k) S = some (nI (sb_pc h + sb_pc l + g), S) := by
  unfold f_X8_hypothesesOf
  rw [rd_17 hk, Option.bind_some, a1, sb_bc hh, Option.bind_some]
  dsimp only
  rw [rd_18 hk, Option.bind_some, a2, sb_bc hl, Option.bind_some]
  dsimp only
  rw [rd_19 hk, Option.bind_some, a3, nI_add, nI_add]
theorem fd_hm {F k h l g : Nat} {S : si_St} (hk : k < 4) (hF : 13 ≤ F) (a1 : S.2.1 88 (661 + k) = nI h) (a2 : S.2.1 88 (665 + k) = nI l) (a3 : S.2.1 88 (669 + k) = nI g) (hh : h < 4096) (hl : l < 4096) : f_X10_countOf F (nI k) S = some (nI (sb_pc h + sb_pc l + g), S) := by
  unfold f_X10_countOf
  rw [li_addL, rd_88 (by omega), Option.bind_some, a1, sb_bits hh hF, Option.bind_some]
  dsimp only
  rw [li_addL, rd_88 (by omega), Option.bind_some, a2, sb_bits hl hF, Option.bind_some]
  dsimp only
  rw [li_addL, rd_88 (by omega), Option.bind_some, a3, nI_add, nI_add]
theorem st_hypothesisCount {F : Nat} {x : Int32} (hF : 13 ≤ F) : st_ok (f_X9_hypothesisCount F x) (f_X10_hypothesisCount F x) := by
  intro S h
  obtain ⟨u, mk, hmk, g0, g1, g2, g3, g4, g5, g6, ⟨hvv, hq⟩, -⟩ := id h
  have hm := iv_mkof hmk
  have e := h.go (iv_th S)
  have hu4 := g0.2.2.2.1
  rcases sm_cases x (u 3 0) (by omega) with ⟨k, hk, rfl⟩ | hx
  · obtain ⟨q91, q92, q93⟩ := g0.2.2.2.2.2.2.1 k hk
    have h2n : 2 ^ u 9 k ≤ 2 ^ 12 := Nat.pow_le_pow_right (by decide) q92
    obtain ⟨hh, l, g, w, p1, b1, p2, b2, p3, b3, p4, b4, hhn, hln, -⟩ := hq k hk
    refine ⟨nI (sb_pc hh + sb_pc l + g), S, si_ps S 87 0 0, ?_, ?_, e⟩
    · unfold f_X9_hypothesisCount f_X9_hypothesisCount_h20
      rw [f9_hasSet hm.1 (g1.1 3 (by decide)) (by omega), if_pos (sm_in hk (by omega)), Option.bind_some]
      dsimp only
      rw [if_neg sm_10, fd_hx (by omega) p1 p2 p3 (by omega) (by omega)]
      rfl
    · unfold f_X10_hypothesisCount f_X10_hypothesisCount_h22
      rw [iv_pt0, Option.bind_some, f10_isSet (S := si_ps S 87 0 0) (n := u 3 0) g2.2.2.2.1 (by omega), if_pos (sm_in hk (by omega)), Option.bind_some]
      dsimp only
      rw [if_neg sm_10, fd_hm (S := si_ps S 87 0 0) (by omega) hF b1 b2 b3 (by omega) (by omega)]
      rfl
  · refine ⟨-1, S, si_ps S 87 0 0, ?_, ?_, e⟩
    · unfold f_X9_hypothesisCount
      rw [f9_hasSet hm.1 (g1.1 3 (by decide)) (by omega), if_neg hx]
      rfl
    · unfold f_X10_hypothesisCount
      rw [iv_pt0, Option.bind_some, f10_isSet (S := si_ps S 87 0 0) (n := u 3 0) g2.2.2.2.1 (by omega), if_neg hx]
      rfl
theorem fd_pw {i w : Nat} (hi : i < 31) (hw : w < 31) (h : i ≠ w) : ¬ nI (2 ^ i) = nI (2 ^ w) := by
  have h1 : 2 ^ i < 2 ^ 31 := Nat.pow_lt_pow_right (by decide) hi
  have h2 : 2 ^ w < 2 ^ 31 := Nat.pow_lt_pow_right (by decide) hw
  intro e
  have e2 := sm_inj h1 h2 e
  exact h ((Nat.pow_right_inj (by decide)).mp e2)
theorem fd_0 {w : Nat} (hw : w < 31) : ¬ nI 0 = nI (2 ^ w) := by
  have h2 : 2 ^ w < 2 ^ 31 := Nat.pow_lt_pow_right (by decide) hw
  have h3 : 0 < 2 ^ w := Nat.pow_pos (by decide)
  intro e
  have e2 := sm_inj (a := 0) (by decide) h2 e
  omega
theorem st_finding {F : Nat} {x : Int32} (hF : 14 ≤ F) : st_ok (f_X9_finding F x) (f_X10_finding F x) := by
  intro S h
  obtain ⟨u, mk, hmk, g0, g1, g2, g3, g4, g5, g6, ⟨hvv, hq⟩, -⟩ := id h
  have hm := iv_mkof hmk
  have e := h.go (iv_th S)
  have hu4 := g0.2.2.2.1
  rcases sm_cases x (u 3 0) (by omega) with ⟨k, hk, rfl⟩ | hx
  · obtain ⟨q91, q92, q93⟩ := g0.2.2.2.2.2.2.1 k hk
    have h2n : 2 ^ u 9 k ≤ 2 ^ 12 := Nat.pow_le_pow_right (by decide) q92
    have c94 : (si_ps S 87 0 0).2.1 94 k = nI (u 9 k) := (g2.2.2.2.2.2.2.1 k hk).1
    obtain ⟨hh, l, g, w, p1, b1, p2, b2, p3, b3, p4, b4, hhn, hln, -, hg, hor, hpos⟩ := hq k hk
    have p1' : S.2.1 17 k = nI hh := p1
    have p2' : S.2.1 18 k = nI l := p2
    have b1' : (si_ps S 87 0 0).2.1 88 (661 + k) = nI hh := b1
    have b2' : (si_ps S 87 0 0).2.1 88 (665 + k) = nI l := b2
    have l1 := sb_le12 hh
    have l2 := sb_le12 l
    have hX : f_X9_finding F (nI k) S = Option.bind (f_X8_onlyHypothesis F (nI k) S) fun q2 => some (q2.1, q2.2) := by
      unfold f_X9_finding f_X9_finding_h20
      rw [f9_hasSet hm.1 (g1.1 3 (by decide)) (by omega), if_pos (sm_in hk (by omega)), Option.bind_some]
      dsimp only
      rw [if_neg sm_10]
    have hM : f_X10_finding F (nI k) S = if nI (sb_pc hh + sb_pc l + g) ≤ 1 then f_X10_finding_l29 F F (nI k) 0 (si_ps S 87 0 0) else some (-2, si_ps S 87 0 0) := by
      unfold f_X10_finding
      rw [iv_pt0, Option.bind_some, f10_isSet (S := si_ps S 87 0 0) (n := u 3 0) g2.2.2.2.1 (by omega), if_pos (sm_in hk (by omega)), Option.bind_some]
      dsimp only
      rw [if_neg sm_10, fd_hm (S := si_ps S 87 0 0) (by omega) (by omega) b1 b2 b3 (by omega) (by omega), Option.bind_some]
    unfold f_X8_onlyHypothesis at hX
    rw [fd_hx (by omega) p1 p2 p3 (by omega) (by omega), Option.bind_some] at hX
    dsimp only at hX
    rw [rd_17 (by omega), Option.bind_some, rd_18 (by omega), Option.bind_some, Option.bind_some, Option.bind_some, p1', p2'] at hX
    -- one step of the other side's walk
    have stp : ∀ t j, j < u 9 k → f_X10_finding_l29 F (t + 1) (nI k) (nI j) (si_ps S 87 0 0) = if nI hh = nI (2 ^ j) then some (nI (1 + 2 * j), si_ps S 87 0 0) else if nI l = nI (2 ^ j) then some (nI (2 + 2 * j), si_ps S 87 0 0) else f_X10_finding_l29 F t (nI k) (nI (j + 1)) (si_ps S 87 0 0) := by
      intro t j hj
      show f_X10_finding_h29 F (f_X10_finding_l29 F t) (nI k) (nI j) (si_ps S 87 0 0) = _
      unfold f_X10_finding_h29
      rw [rd_94 (by omega), Option.bind_some, c94, if_neg (nI_ge hj (by omega)), li_addL, rd_88 (by omega), Option.bind_some, b1', sm_pow j (by omega), li_addL, rd_88 (by omega), Option.bind_some, b2', Option.bind_some, nI_1, li_mulL, li_addL, li_addL]
    have fin : ∀ t, f_X10_finding_l29 F (t + 1) (nI k) (nI (u 9 k)) (si_ps S 87 0 0) = some (0, si_ps S 87 0 0) := by
      intro t
      show f_X10_finding_h29 F (f_X10_finding_l29 F t) (nI k) (nI (u 9 k)) (si_ps S 87 0 0) = _
      unfold f_X10_finding_h29
      rw [rd_94 (by omega), Option.bind_some, c94, if_pos (Int32.le_refl _)]
    have hp : 0 < sb_pc hh + sb_pc l + g := by
      have z1 := sb_pos hh (by omega)
      have z2 := sb_pos l (by omega)
      omega
    by_cases h1 : sb_pc hh + sb_pc l + g = 1
    · rw [h1, if_pos (show nI 1 ≤ 1 from Int32.le_refl _)] at hM
      rw [h1, if_pos (show nI 1 = 1 from rfl)] at hX
      have z1 := sb_pos hh (by omega)
      have z2 := sb_pos l (by omega)
      have cs : (sb_pc hh = 1 ∧ l = 0) ∨ (hh = 0 ∧ sb_pc l = 1) ∨ (hh = 0 ∧ l = 0) := by omega
      rcases cs with ⟨c1, rfl⟩ | ⟨rfl, c1⟩ | ⟨rfl, rfl⟩
      · obtain ⟨w0, hw0, rfl⟩ := fd_one (by omega) c1
        have hwn : w0 < u 9 k := (Nat.pow_lt_pow_iff_right (by decide)).mp hhn
        have hne : ¬ nI (2 ^ w0) = 0 := fun h => fd_0 (show w0 < 31 by omega) h.symm
        refine ⟨nI (1 + 2 * w0), S, si_ps S 87 0 0, ?_, ?_, e⟩
        · rw [hX, if_neg hne, fd_ntz hw0]
          show some (1 + 2 * nI w0, S) = _
          rw [li_mulL, li_addL]
        · rw [hM]
          exact lp_go (fun t j => f_X10_finding_l29 F t (nI k) (nI j) (si_ps S 87 0 0)) (some (nI (1 + 2 * w0), si_ps S 87 0 0)) w0 (fun t => by
            rw [stp t w0 hwn, if_pos rfl]) (fun t j hj => by
            rw [stp t j (by omega), if_neg (fd_pw (by omega) (by omega) (by omega)), if_neg (fd_0 (by omega))]) F 0 (by omega) (by omega)
      · obtain ⟨w0, hw0, rfl⟩ := fd_one (by omega) c1
        have hwn : w0 < u 9 k := (Nat.pow_lt_pow_iff_right (by decide)).mp hln
        have hne : ¬ nI (2 ^ w0) = 0 := fun h => fd_0 (show w0 < 31 by omega) h.symm
        refine ⟨nI (2 + 2 * w0), S, si_ps S 87 0 0, ?_, ?_, e⟩
        · rw [hX, if_pos (show nI 0 = 0 from rfl), if_neg hne, fd_ntz hw0]
          show some (2 + 2 * nI w0, S) = _
          rw [li_mulL, li_addL]
        · rw [hM]
          exact lp_go (fun t j => f_X10_finding_l29 F t (nI k) (nI j) (si_ps S 87 0 0)) (some (nI (2 + 2 * w0), si_ps S 87 0 0)) w0 (fun t => by
            rw [stp t w0 hwn, if_neg (fd_0 (by omega)), if_pos rfl]) (fun t j hj => by
            rw [stp t j (by omega), if_neg (fd_0 (by omega)), if_neg (fd_pw (by omega) (by omega) (by omega))]) F 0 (by omega) (by omega)
      · refine ⟨0, S, si_ps S 87 0 0, ?_, ?_, e⟩
        · rw [hX, if_pos (show nI 0 = 0 from rfl), if_pos (show nI 0 = 0 from rfl)]
          rfl
        · rw [hM]
          exact lp_go (fun t j => f_X10_finding_l29 F t (nI k) (nI j) (si_ps S 87 0 0)) (some (0, si_ps S 87 0 0)) (u 9 k) fin (fun t j hj => by
            rw [stp t j hj, if_neg (fd_0 (by omega)), if_neg (fd_0 (by omega))]) F 0 (by omega) (by omega)
    · refine ⟨-2, S, si_ps S 87 0 0, ?_, ?_, e⟩
      · rw [hX, if_neg (show ¬ nI (sb_pc hh + sb_pc l + g) = 1 from sm_ne (b := 1) h1 (by omega) (by decide))]
        rfl
      · rw [hM, if_neg (show ¬ nI (sb_pc hh + sb_pc l + g) ≤ 1 from nI_ge (a := 1) (by omega) (by omega))]
  · refine ⟨-1, S, si_ps S 87 0 0, ?_, ?_, e⟩
    · unfold f_X9_finding
      rw [f9_hasSet hm.1 (g1.1 3 (by decide)) (by omega), if_neg hx]
      rfl
    · unfold f_X10_finding
      rw [iv_pt0, Option.bind_some, f10_isSet (S := si_ps S 87 0 0) (n := u 3 0) g2.2.2.2.1 (by omega), if_neg hx]
      rfl
-- fewestMasses, closestLoad
def fm_f (so : Nat → Int32) (x : Int32) : Nat → Option Nat
  | 0 => none
  | k + 1 => if so k = x then (match fm_f so x k with
    | none => some k
    | some b => if sb_pc k < sb_pc b then some k else some b) else fm_f so x k
def fm_b : Option Nat → Int32
  | none => -2
  | some b => nI b
def fm_c : Option Nat → Int32
  | none => 11
  | some b => nI (sb_pc b)
theorem fm_lt {so : Nat → Int32} {x : Int32} : ∀ {k b : Nat}, fm_f so x k = some b → b < k
  | 0, b, h => nomatch h
  | k + 1, b, h => by
    have h' : (if so k = x then (match fm_f so x k with
      | none => some k
      | some b => if sb_pc k < sb_pc b then some k else some b) else fm_f so x k) = some b := h
    by_cases hc : so k = x
    · rw [if_pos hc] at h'
      cases hf : fm_f so x k with
      | none =>
        rw [hf] at h'
        have := Option.some.inj h'
        omega
      | some b2 =>
        have := fm_lt hf
        rw [hf] at h'
        dsimp only at h'
        by_cases h2 : sb_pc k < sb_pc b2
        · rw [if_pos h2] at h'
          have := Option.some.inj h'
          omega
        · rw [if_neg h2] at h'
          have := Option.some.inj h'
          omega
    · rw [if_neg hc] at h'
      have := fm_lt h'
      omega
theorem fm_10_2 : ∀ a, a < 32 → ∀ b, b < 32 → sb_pc (32 * a + b) ≤ 10 := by decide +kernel
theorem fm_10 {n : Nat} (h : n < 1024) : sb_pc n ≤ 10 := by
  have e := fm_10_2 (n / 32) (by omega) (n % 32) (by omega)
  rw [Nat.div_add_mod] at e
  exact e
theorem st_fewestMasses {F : Nat} {x : Int32} (hF : 1100 ≤ F) : st_ok (f_X9_fewestMasses F x) (f_X10_fewestMasses F x) := by
  intro S h
  obtain ⟨u, mk, hmk, g0, g1, g2, g3, g4, ⟨g51, g52⟩, -⟩ := id h
  have e := h.go (iv_th S)
  have hm10 := g0.2.2.1
  have h2m : 2 ^ u 2 0 ≤ 2 ^ 10 := Nat.pow_le_pow_right (by decide) hm10
  by_cases h0 : 0 ≤ x
  · have hX : f_X1_smallestSet F x S = some (fm_b (fm_f (S.2.1 4) x (2 ^ u 2 0)), S) := by
      have hl := lp_go (fun t k => f_X1_smallestSet_l9 F t x (fm_b (fm_f (S.2.1 4) x k)) (fm_c (fm_f (S.2.1 4) x k)) (nI k) S) (some (fm_b (fm_f (S.2.1 4) x (2 ^ u 2 0)), S)) (2 ^ u 2 0) (fun t => by
        show f_X1_smallestSet_h9 F (f_X1_smallestSet_l9 F t) x _ _ (nI (2 ^ u 2 0)) S = _
        unfold f_X1_smallestSet_h9
        rw [g51, if_pos (Int32.le_refl _)]) (fun t k hk => by
        have hpk := fm_10 (n := k) (by omega)
        show f_X1_smallestSet_h9 F (f_X1_smallestSet_l9 F t) x _ _ (nI k) S = f_X1_smallestSet_l9 F t x (fm_b (if S.2.1 4 k = x then (match fm_f (S.2.1 4) x k with
          | none => some k
          | some b => if sb_pc k < sb_pc b then some k else some b) else fm_f (S.2.1 4) x k)) (fm_c (if S.2.1 4 k = x then (match fm_f (S.2.1 4) x k with
          | none => some k
          | some b => if sb_pc k < sb_pc b then some k else some b) else fm_f (S.2.1 4) x k)) (nI (k + 1)) S
        have hb := fun b => @fm_lt (S.2.1 4) x k b
        unfold f_X1_smallestSet_h9 f_X1_smallestSet_h47
        rw [g51, if_neg (nI_ge hk (by omega)), rd_4 (by omega), Option.bind_some, sb_bc (by omega), Option.bind_some]
        dsimp only
        rw [sb_bc (by omega), Option.bind_some, Option.bind_some, Option.bind_some, nI_1]
        by_cases hc : S.2.1 4 k = x
        · rw [if_pos hc, if_pos hc]
          cases hf : fm_f (S.2.1 4) x k with
          | none =>
            have h11 : ¬ ((11 : Int32) ≤ nI (sb_pc k)) := nI_ge (b := 11) (by omega) (by decide)
            rw [if_neg (show ¬ fm_c none ≤ nI (sb_pc k) from h11)]
            rfl
          | some b =>
            have hbk := hb b hf
            have hpb := fm_10 (n := b) (by omega)
            dsimp only
            by_cases h2 : sb_pc k < sb_pc b
            · rw [if_neg (show ¬ fm_c (some b) ≤ nI (sb_pc k) from nI_ge h2 (by omega)), if_pos h2]
              rfl
            · rw [if_pos (show fm_c (some b) ≤ nI (sb_pc k) from nI_le (by omega) (by omega)), if_neg h2]
        · rw [if_neg hc, if_neg hc]) F 0 (Nat.zero_le _) (by omega)
      exact hl
    have hM : f_X10_fewestMasses F x S = some (fm_b (fm_f (S.2.1 4) x (2 ^ u 2 0)), si_ps S 87 0 0) := by
      have hs8 : (si_ps S 87 0 0).1 87 8 = nI (u 2 0) := g2.2.2.1
      have hl := lp_go (fun t k => f_X10_fewestMasses_l16 F t x (fm_b (fm_f (S.2.1 4) x k)) (nI k) (si_ps S 87 0 0)) (some (fm_b (fm_f (S.2.1 4) x (2 ^ u 2 0)), si_ps S 87 0 0)) (2 ^ u 2 0) (fun t => by
        show f_X10_fewestMasses_h16 F (f_X10_fewestMasses_l16 F t) x _ (nI (2 ^ u 2 0)) (si_ps S 87 0 0) = _
        unfold f_X10_fewestMasses_h16
        rw [hs8, sm_pow _ (by omega), if_pos (Int32.le_refl _)]) (fun t k hk => by
        have hpk := fm_10 (n := k) (by omega)
        show f_X10_fewestMasses_h16 F (f_X10_fewestMasses_l16 F t) x _ (nI k) (si_ps S 87 0 0) = f_X10_fewestMasses_l16 F t x (fm_b (if S.2.1 4 k = x then (match fm_f (S.2.1 4) x k with
          | none => some k
          | some b => if sb_pc k < sb_pc b then some k else some b) else fm_f (S.2.1 4) x k)) (nI (k + 1)) (si_ps S 87 0 0)
        have hb := fun b => @fm_lt (S.2.1 4) x k b
        unfold f_X10_fewestMasses_h16 f_X10_fewestMasses_h52 f_X10_fewestMasses_h54
        rw [hs8, sm_pow _ (by omega), if_neg (nI_ge hk (by omega)), sm_sumOf (S := si_ps S 87 0 0) (m := u 2 0) (f := u 8) hs8 hm10 (fun i hi => g2.2.2.2.2.2.1 i hi) (by omega), Option.bind_some, ← g52 k hk]
        dsimp only
        rw [sb_bits (by omega) (by omega), Option.bind_some, Option.bind_some, nI_1]
        by_cases hc : S.2.1 4 k = x
        · rw [if_pos hc, if_pos hc]
          cases hf : fm_f (S.2.1 4) x k with
          | none =>
            rw [if_pos (show fm_b none = -2 from rfl)]
            rfl
          | some b =>
            have hbk := hb b hf
            have hpb := fm_10 (n := b) (by omega)
            have h2' : ¬ fm_b (some b) = -2 := by
              intro hz
              have h9 := congrArg Int32.toInt hz
              have h8 : (nI b).toInt = (b : Int) := nI_toInt (by omega)
              have h7 : (-2 : Int32).toInt = -2 := by decide
              have h6 : (fm_b (some b)).toInt = (nI b).toInt := rfl
              omega
            have eb : f_X10_bits F (fm_b (some b)) (si_ps S 87 0 0) = some (nI (sb_pc b), si_ps S 87 0 0) := sb_bits (by omega) (by omega)
            rw [if_neg h2']
            dsimp only
            rw [eb, Option.bind_some]
            dsimp only
            rw [Option.bind_some]
            by_cases h2 : sb_pc k < sb_pc b
            · rw [if_neg (nI_ge h2 (by omega)), if_pos h2]
              rfl
            · rw [if_pos (nI_le (by omega) (by omega)), if_neg h2]
        · rw [if_neg hc, if_neg hc, Option.bind_some]) F 0 (Nat.zero_le _) (by omega)
      unfold f_X10_fewestMasses
      rw [iv_pt0, Option.bind_some, if_pos h0]
      exact hl
    refine ⟨_, S, si_ps S 87 0 0, ?_, hM, e⟩
    unfold f_X9_fewestMasses f_X9_fewestMasses_h16
    rw [if_pos h0, hX]
    rfl
  · refine ⟨-1, S, si_ps S 87 0 0, ?_, ?_, e⟩
    · unfold f_X9_fewestMasses
      rw [if_neg h0]
      rfl
    · unfold f_X10_fewestMasses
      rw [iv_pt0, Option.bind_some, if_neg h0]
def cl_f (so : Nat → Int32) (x : Int32) : Nat → Int32
  | 0 => 0
  | k + 1 => if x < so k then cl_f so x k else if so k ≤ cl_f so x k then cl_f so x k else so k
theorem st_closestLoad {F : Nat} {x : Int32} (hF : 1100 ≤ F) : st_ok (f_X9_closestLoad F x) (f_X10_closestLoad F x) := by
  intro S h
  obtain ⟨u, mk, hmk, g0, g1, g2, g3, g4, ⟨g51, g52⟩, -⟩ := id h
  have e := h.go (iv_th S)
  have hm10 := g0.2.2.1
  have h2m : 2 ^ u 2 0 ≤ 2 ^ 10 := Nat.pow_le_pow_right (by decide) hm10
  by_cases h0 : 0 ≤ x
  · have hX : f_X1_greatestSumUpTo F x S = some (cl_f (S.2.1 4) x (2 ^ u 2 0), S) := by
      have hl := lp_go (fun t k => f_X1_greatestSumUpTo_l4 F t x (cl_f (S.2.1 4) x k) (nI k) S) (some (cl_f (S.2.1 4) x (2 ^ u 2 0), S)) (2 ^ u 2 0) (fun t => by
        show f_X1_greatestSumUpTo_h4 F (f_X1_greatestSumUpTo_l4 F t) x _ (nI (2 ^ u 2 0)) S = _
        unfold f_X1_greatestSumUpTo_h4
        rw [g51, if_pos (Int32.le_refl _)]) (fun t k hk => by
        show f_X1_greatestSumUpTo_h4 F (f_X1_greatestSumUpTo_l4 F t) x (cl_f (S.2.1 4) x k) (nI k) S = f_X1_greatestSumUpTo_l4 F t x (if x < S.2.1 4 k then cl_f (S.2.1 4) x k else if S.2.1 4 k ≤ cl_f (S.2.1 4) x k then cl_f (S.2.1 4) x k else S.2.1 4 k) (nI (k + 1)) S
        unfold f_X1_greatestSumUpTo_h4 f_X1_greatestSumUpTo_h39
        rw [g51, if_neg (nI_ge hk (by omega)), rd_4 (by omega), Option.bind_some, Option.bind_some, Option.bind_some, Option.bind_some, Option.bind_some, nI_1]
        by_cases c1 : x < S.2.1 4 k
        · rw [if_pos c1, if_pos c1]
        · rw [if_neg c1, if_neg c1]
          by_cases c2 : S.2.1 4 k ≤ cl_f (S.2.1 4) x k
          · rw [if_pos c2, if_pos c2]
          · rw [if_neg c2, if_neg c2]) F 0 (Nat.zero_le _) (by omega)
      exact hl
    have hM : f_X10_closestLoad F x S = some (cl_f (S.2.1 4) x (2 ^ u 2 0), si_ps S 87 0 0) := by
      have hs8 : (si_ps S 87 0 0).1 87 8 = nI (u 2 0) := g2.2.2.1
      have hl := lp_go (fun t k => f_X10_closestLoad_l15 F t x (cl_f (S.2.1 4) x k) (nI k) (si_ps S 87 0 0)) (some (cl_f (S.2.1 4) x (2 ^ u 2 0), si_ps S 87 0 0)) (2 ^ u 2 0) (fun t => by
        show f_X10_closestLoad_h15 F (f_X10_closestLoad_l15 F t) x _ (nI (2 ^ u 2 0)) (si_ps S 87 0 0) = _
        unfold f_X10_closestLoad_h15
        rw [hs8, sm_pow _ (by omega), if_pos (Int32.le_refl _)]) (fun t k hk => by
        show f_X10_closestLoad_h15 F (f_X10_closestLoad_l15 F t) x (cl_f (S.2.1 4) x k) (nI k) (si_ps S 87 0 0) = f_X10_closestLoad_l15 F t x (if x < S.2.1 4 k then cl_f (S.2.1 4) x k else if S.2.1 4 k ≤ cl_f (S.2.1 4) x k then cl_f (S.2.1 4) x k else S.2.1 4 k) (nI (k + 1)) (si_ps S 87 0 0)
        unfold f_X10_closestLoad_h15 f_X10_closestLoad_h49 f_X10_closestLoad_h50
        rw [hs8, sm_pow _ (by omega), if_neg (nI_ge hk (by omega)), sm_sumOf (S := si_ps S 87 0 0) (m := u 2 0) (f := u 8) hs8 hm10 (fun i hi => g2.2.2.2.2.2.1 i hi) (by omega), Option.bind_some, ← g52 k hk]
        dsimp only
        rw [Option.bind_some, Option.bind_some, nI_1]
        by_cases c1 : x < S.2.1 4 k
        · rw [if_pos c1, if_pos c1]
        · rw [if_neg c1, if_neg c1]
          by_cases c2 : S.2.1 4 k ≤ cl_f (S.2.1 4) x k
          · rw [if_pos c2, if_pos c2]
          · rw [if_neg c2, if_neg c2]) F 0 (Nat.zero_le _) (by omega)
      unfold f_X10_closestLoad
      rw [iv_pt0, Option.bind_some, if_pos h0]
      exact hl
    refine ⟨_, S, si_ps S 87 0 0, ?_, hM, e⟩
    unfold f_X9_closestLoad f_X9_closestLoad_h16
    rw [if_pos h0, hX]
    rfl
  · refine ⟨-1, S, si_ps S 87 0 0, ?_, ?_, e⟩
    · unfold f_X9_closestLoad
      rw [if_neg h0]
      rfl
    · unfold f_X10_closestLoad
      rw [iv_pt0, Option.bind_some, if_neg h0]
