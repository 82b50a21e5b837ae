/-! twoPans: the other side's search, and both together -/
def tr_v (f : Nat → Nat) (n x R L : Nat) : Prop := R &&& L = 0 ∧ sm_sum f n R = x + sm_sum f n L
def tr_J (f : Nat → Nat) (n x r l : Nat) (ans best : Int32) : Prop := (ans = -2 ∧ best = nI 99 ∧ ∀ R L, L < 2 ^ n → (R < r ∨ (R = r ∧ L < l)) → ¬ tr_v f n x R L) ∨ ∃ R0 L0, R0 < 2 ^ n ∧ L0 < 2 ^ n ∧ (R0 < r ∨ (R0 = r ∧ L0 < l)) ∧ tr_v f n x R0 L0 ∧ ans = nI (R0 + 1024 * L0) ∧ best = nI (sb_pc R0 + sb_pc L0) ∧ ∀ R L, L < 2 ^ n → (R < r ∨ (R = r ∧ L < l)) → tr_v f n x R L → tw_key R0 L0 ≤ tw_key R L
theorem tr_no {f : Nat → Nat} {n x r l : Nat} {ans best : Int32} (h : tr_J f n x r l ans best) (hv : ¬ tr_v f n x r l) : tr_J f n x r (l + 1) ans best := by
  rcases h with ⟨h1, h2, h3⟩ | ⟨R0, L0, g1, g2, g3, g4, g5, g6, g7⟩
  · refine Or.inl ⟨h1, h2, fun R L hL hb hv2 => ?_⟩
    by_cases e : R = r ∧ L = l
    · rw [e.1, e.2] at hv2
      exact hv hv2
    · exact h3 R L hL (by omega) hv2
  · refine Or.inr ⟨R0, L0, g1, g2, by omega, g4, g5, g6, fun R L hL hb hv2 => ?_⟩
    by_cases e : R = r ∧ L = l
    · rw [e.1, e.2] at hv2
      exact absurd hv2 hv
    · exact g7 R L hL (by omega) hv2
theorem tr_row {f : Nat → Nat} {n x r l : Nat} {ans best : Int32} (h : tr_J f n x r l ans best) (hv : ∀ L, l ≤ L → L < 2 ^ n → ¬ tr_v f n x r L) : tr_J f n x (r + 1) 0 ans best := by
  rcases h with ⟨h1, h2, h3⟩ | ⟨R0, L0, g1, g2, g3, g4, g5, g6, g7⟩
  · refine Or.inl ⟨h1, h2, fun R L hL hb hv2 => ?_⟩
    by_cases e : R = r ∧ l ≤ L
    · rw [e.1] at hv2
      exact hv L e.2 hL hv2
    · exact h3 R L hL (by omega) hv2
  · refine Or.inr ⟨R0, L0, g1, g2, by omega, g4, g5, g6, fun R L hL hb hv2 => ?_⟩
    by_cases e : R = r ∧ l ≤ L
    · rw [e.1] at hv2
      exact absurd hv2 (hv L e.2 hL)
    · exact g7 R L hL (by omega) hv2
theorem tr_yes {f : Nat → Nat} {n x r l : Nat} {ans best : Int32} (hn : n ≤ 10) (hr : r < 2 ^ n) (hl : l < 2 ^ n) (h : tr_J f n x r l ans best) (hv : tr_v f n x r l) : (best ≤ nI (sb_pc r + sb_pc l) → tr_J f n x r (l + 1) ans best) ∧ (¬ best ≤ nI (sb_pc r + sb_pc l) → tr_J f n x r (l + 1) (nI (r + 1024 * l)) (nI (sb_pc r + sb_pc l))) := by
  have h10 : 2 ^ n ≤ 2 ^ 10 := Nat.pow_le_pow_right (by decide) hn
  have b1 : sb_pc r ≤ 10 := fm_10 (by omega)
  have b2 : sb_pc l ≤ 10 := fm_10 (by omega)
  rcases h with ⟨h1, h2, h3⟩ | ⟨R0, L0, g1, g2, g3, g4, g5, g6, g7⟩
  · constructor
    · intro hb
      rw [h2, nI_leI (by omega) (by omega)] at hb
      omega
    · intro _
      refine Or.inr ⟨r, l, hr, hl, by omega, hv, rfl, rfl, fun R L hL hb hv2 => ?_⟩
      by_cases e : R = r ∧ L = l
      · rw [e.1, e.2]
        exact Nat.le_refl _
      · exact absurd hv2 (h3 R L hL (by omega))
  · have b3 : sb_pc R0 ≤ 10 := fm_10 (by omega)
    have b4 : sb_pc L0 ≤ 10 := fm_10 (by omega)
    rw [g6, nI_leI (by omega) (by omega)]
    constructor
    · intro hb
      refine Or.inr ⟨R0, L0, g1, g2, by omega, g4, g5, rfl, fun R L hL hb2 hv2 => ?_⟩
      by_cases e : R = r ∧ L = l
      · rw [e.1, e.2]
        unfold tw_key
        omega
      · exact g7 R L hL (by omega) hv2
    · intro hb
      refine Or.inr ⟨r, l, hr, hl, by omega, hv, rfl, rfl, fun R L hL hb2 hv2 => ?_⟩
      by_cases e : R = r ∧ L = l
      · rw [e.1, e.2]
        exact Nat.le_refl _
      · have q : tw_key r l ≤ tw_key R0 L0 := by
          unfold tw_key
          generalize sb_pc r + sb_pc l = A at *
          generalize sb_pc R0 + sb_pc L0 = B at *
          clear g7 hb2 g3
          omega
        exact Nat.le_trans q (g7 R L hL (by omega) hv2)
theorem tr_sb {f : Nat → Nat} {M st : Nat} : ∀ m, (∀ i, i < m → f i ≤ M) → sm_sum f m st ≤ m * M
  | 0, _ => Nat.zero_le _
  | m + 1, h => by
    have h1 := tr_sb (st := st) m (fun i hi => h i (by omega))
    have h2 := h m (by omega)
    rw [Nat.succ_mul]
    show sm_sum f m st + (if st.testBit m = true then f m else 0) ≤ _
    split <;> omega
theorem tr_in {F n x r : Nat} {T : si_St} {f : Nat → Nat} (r52 : Int32 → Int32 → Int32 → Int32 → Int32 → si_St → Option (Int32 × si_St)) (hn : n ≤ 10) (hx : x < 2 ^ 31) (hf : ∀ i, i < n → f i ≤ 1000098) (hr : r < 2 ^ n) (h106 : ∀ i, i < 2 ^ n → T.2.1 106 i = nI (sm_sum f n i)) (hF : 1100 ≤ F) {ans best : Int32} (hJ : tr_J f n x r 0 ans best) : ∃ ans' best', tr_J f n x (r + 1) 0 ans' best' ∧ f_X10_twoPans_l61 F r52 F (nI x) (nI (2 ^ n)) ans best (nI r) 0 T = r52 (nI x) (nI (2 ^ n)) ans' best' (nI (r + 1)) T := by
  have h10 : 2 ^ n ≤ 2 ^ 10 := Nat.pow_le_pow_right (by decide) hn
  have sb : ∀ i, sm_sum f n i ≤ 10000980 := fun i => by
    have := tr_sb (st := i) n hf
    have h2 : n * 1000098 ≤ 10 * 1000098 := Nat.mul_le_mul_right _ hn
    omega
  have sr := sb r
  by_cases hlt : sm_sum f n r < x
  · refine ⟨ans, best, tr_row hJ (fun L _ hL hv => ?_), ?_⟩
    · have := hv.2
      omega
    · obtain ⟨G, rfl⟩ : ∃ G, F = G + 1 := ⟨F - 1, by omega⟩
      show f_X10_twoPans_h61 (G + 1) r52 _ (nI x) (nI (2 ^ n)) ans best (nI r) 0 T = _
      unfold f_X10_twoPans_h61 f_X10_twoPans_h144
      rw [if_neg (show ¬ nI (2 ^ n) ≤ 0 from nI_ge (a := 0) (by omega) (by omega)), rd_106 (by omega), Option.bind_some, h106 r hr, if_pos (nI_lt hlt hx), Option.bind_some, nI_1]
  · have hl := lp_inv (fun t k (s : Int32 × Int32) => f_X10_twoPans_l61 F r52 t (nI x) (nI (2 ^ n)) s.1 s.2 (nI r) (nI k) T) (fun k s => tr_J f n x r k s.1 s.2) (fun o => ∃ ans' best', tr_J f n x (r + 1) 0 ans' best' ∧ o = r52 (nI x) (nI (2 ^ n)) ans' best' (nI (r + 1)) T) (2 ^ n) (fun t s hI => by
      show ∃ ans' best', _ ∧ f_X10_twoPans_h61 F r52 _ (nI x) (nI (2 ^ n)) s.1 s.2 (nI r) (nI (2 ^ n)) T = _
      unfold f_X10_twoPans_h61 f_X10_twoPans_h144
      rw [if_pos (Int32.le_refl _), Option.bind_some, nI_1]
      exact ⟨_, _, tr_row hI (fun L h1 h2 => by omega), rfl⟩) (fun t k s hk hI => by
      show ∃ s' : Int32 × Int32, _ ∧ f_X10_twoPans_h61 F r52 (f_X10_twoPans_l61 F r52 t) (nI x) (nI (2 ^ n)) s.1 s.2 (nI r) (nI k) T = f_X10_twoPans_l61 F r52 t (nI x) (nI (2 ^ n)) s'.1 s'.2 (nI r) (nI (k + 1)) T
      have sk := sb k
      unfold f_X10_twoPans_h61 f_X10_twoPans_h138
      rw [if_neg (nI_ge hk (by omega)), rd_106 (by omega), rd_106 (by omega), Option.bind_some, h106 r hr, if_neg (fun h => hlt ((nI_ltI (by omega) hx).mp h)), fa_and, Option.bind_some, Option.bind_some, Option.bind_some, h106 k hk, nI_1]
      by_cases c1 : r &&& k = 0
      · have c1' : nI (k &&& r) = 0 := by rw [Nat.and_comm, c1]; rfl
        rw [if_pos c1']
        by_cases c2 : sm_sum f n r = x + sm_sum f n k
        · have c2' : nI (sm_sum f n r) - nI (sm_sum f n k) = nI x := by
            rw [c2, sm_sub (by omega)]
            congr 1
            omega
          have hv : tr_v f n x r k := ⟨c1, c2⟩
          obtain ⟨y1, y2⟩ := tr_yes hn hr hk hI hv
          have hbits : f_X10_bits F (nI k ||| nI r) T = some (nI (sb_pc r + sb_pc k), T) := by
            have c3 : k &&& r = 0 := by rw [Nat.and_comm, c1]
            rw [fa_or, sb_bits (Nat.lt_of_lt_of_le (Nat.or_lt_two_pow hk hr) (by omega)) (by omega), sb_add c3, Nat.add_comm]
          rw [if_pos c2', hbits, Option.bind_some]
          dsimp only
          by_cases c3 : s.2 ≤ nI (sb_pc r + sb_pc k)
          · rw [if_pos c3]
            exact ⟨s, y1 c3, rfl⟩
          · rw [if_neg c3, hbits, Option.bind_some]
            dsimp only
            rw [Option.bind_some, Option.bind_some, li_mulL, nI_add]
            exact ⟨(_, _), y2 c3, rfl⟩
        · have c2' : ¬ nI (sm_sum f n r) - nI (sm_sum f n k) = nI x := fun h => c2 (by
            have h2 : nI (sm_sum f n r) = nI (x + sm_sum f n k) := by
              rw [← nI_add, ← h]
              exact (Int32.sub_add_cancel _ _).symm
            exact (nI_eq (by omega) (by omega)).mp h2)
          rw [if_neg c2']
          exact ⟨s, tr_no hI (fun hv => c2 hv.2), rfl⟩
      · have c1' : ¬ nI (k &&& r) = 0 := fun h => c1 (by
          have hb : k &&& r ≤ k := Nat.and_le_left
          have := (nI_eq (b := 0) (by omega) (by omega)).mp h
          rw [Nat.and_comm]
          exact this)
        rw [if_neg c1']
        exact ⟨s, tr_no hI (fun hv => c1 hv.1), rfl⟩) F 0 (ans, best) (Nat.zero_le _) (by omega) hJ
    exact hl
theorem tr_out {F n x : Nat} {T : si_St} {f : Nat → Nat} (hn : n ≤ 10) (hx : x < 2 ^ 31) (hf : ∀ i, i < n → f i ≤ 1000098) (h106 : ∀ i, i < 2 ^ n → T.2.1 106 i = nI (sm_sum f n i)) (hF : 1100 ≤ F) : ∃ r, f_X10_twoPans_l52 F F (nI x) (nI (2 ^ n)) (-2) 99 0 T = some (r, T) ∧ tw_A f n x r := by
  have h10 : 2 ^ n ≤ 2 ^ 10 := Nat.pow_le_pow_right (by decide) hn
  have hl := lp_inv (fun t k (s : Int32 × Int32) => f_X10_twoPans_l52 F t (nI x) (nI (2 ^ n)) s.1 s.2 (nI k) T) (fun k s => tr_J f n x k 0 s.1 s.2) (fun o => ∃ r, o = some (r, T) ∧ tw_A f n x r) (2 ^ n) (fun t s hI => by
    show ∃ r, f_X10_twoPans_h52 F _ (nI x) (nI (2 ^ n)) s.1 s.2 (nI (2 ^ n)) T = _ ∧ _
    unfold f_X10_twoPans_h52
    rw [if_pos (Int32.le_refl _)]
    refine ⟨_, rfl, ?_⟩
    rcases hI with ⟨h1, h2, h3⟩ | ⟨R0, L0, g1, g2, g3, g4, g5, g6, g7⟩
    · refine Or.inl ⟨h1, fun k hk => ?_⟩
      obtain ⟨R, L, hR, hL, h0, hs, -⟩ := hk
      exact h3 R L hL (Or.inl hR) ⟨h0, hs⟩
    · refine Or.inr ⟨R0, L0, by omega, by omega, ⟨R0, L0, g1, g2, g4.1, g4.2, rfl⟩, fun k hk => ?_, g5⟩
      obtain ⟨R, L, hR, hL, h0, hs, rfl⟩ := hk
      exact g7 R L hL (Or.inl hR) ⟨h0, hs⟩) (fun t k s hk hI => by
    obtain ⟨ans', best', a1, a2⟩ := tr_in (F := F) (f_X10_twoPans_l52 F t) hn hx hf hk h106 hF hI
    refine ⟨(ans', best'), a1, ?_⟩
    show f_X10_twoPans_h52 F (f_X10_twoPans_l52 F t) (nI x) (nI (2 ^ n)) s.1 s.2 (nI k) T = _
    unfold f_X10_twoPans_h52
    rw [if_neg (nI_ge hk (by omega))]
    exact a2) F 0 (-2, 99) (Nat.zero_le _) (by omega) (Or.inl ⟨rfl, rfl, fun R L _ hb => by omega⟩)
  exact hl
theorem tr_all {F n x : Nat} {S : si_St} {f : Nat → Nat} (hn : n ≤ 10) (hx : x < 2 ^ 31) (hf : ∀ i, i < n → f i ≤ 1000098) (hs8 : S.1 87 8 = nI n) (h93 : ∀ i, i < n → S.2.1 93 i = nI (f i)) (hF : 1100 ≤ F) : ∃ r T, f_X10_twoPans F (nI x) S = some (r, T) ∧ tw_A f n x r ∧ iv_same S T := by
  have h10 : 2 ^ n ≤ 2 ^ 10 := Nat.pow_le_pow_right (by decide) hn
  have hl := lp_inv (fun t k T => f_X10_twoPans_l20 F t (nI x) (nI (2 ^ n)) (nI k) T) (fun k T => T.1 87 8 = nI n ∧ (∀ i, i < n → T.2.1 93 i = nI (f i)) ∧ iv_same S T ∧ ∀ i, i < k → T.2.1 106 i = nI (sm_sum f n i)) (fun o => ∃ r T, o = some (r, T) ∧ tw_A f n x r ∧ iv_same S T) (2 ^ n) (fun t T hI => by
    obtain ⟨i1, i2, i3, i4⟩ := hI
    show ∃ r T2, f_X10_twoPans_h20 F _ (nI x) (nI (2 ^ n)) (nI (2 ^ n)) T = _ ∧ _
    unfold f_X10_twoPans_h20
    rw [if_pos (Int32.le_refl _)]
    obtain ⟨r, a1, a2⟩ := tr_out (F := F) hn hx hf i4 hF
    exact ⟨r, T, a1, a2, i3⟩) (fun t k T hk hI => by
    obtain ⟨i1, i2, i3, i4⟩ := hI
    show ∃ T', _ ∧ f_X10_twoPans_h20 F (f_X10_twoPans_l20 F t) (nI x) (nI (2 ^ n)) (nI k) T = f_X10_twoPans_l20 F t (nI x) (nI (2 ^ n)) (nI (k + 1)) T'
    unfold f_X10_twoPans_h20
    rw [if_neg (nI_ge hk (by omega)), sm_sumOf i1 hn i2 (by omega), Option.bind_some]
    dsimp only
    rw [wr_106 (by omega), Option.bind_some, Option.bind_some, nI_1]
    refine ⟨si_pa T 106 k (nI (sm_sum f n k)), ⟨i1, fun i hi => ?_, i3.tr (iv_same.pa rfl), fun i hi => ?_⟩, rfl⟩
    · rw [pa_o (by decide)]
      exact i2 i hi
    · by_cases e : i = k
      · rw [e, pa_e]
      · rw [pa_s e]
        exact i4 i (by omega)) F 0 (si_ps S 87 0 0) (Nat.zero_le _) (by omega) ⟨hs8, h93, iv_th S, fun i hi => absurd hi (Nat.not_lt_zero _)⟩
  obtain ⟨r, T, a1, a2, a3⟩ := hl
  refine ⟨r, T, ?_, a2, a3⟩
  unfold f_X10_twoPans
  rw [iv_pt0, Option.bind_some, if_pos (nI_pos' hx)]
  have e : (si_ps S 87 0 0).1 87 8 = nI n := hs8
  rw [e, sm_pow _ (by omega), Option.bind_some]
  exact a1
theorem st_twoPans {F : Nat} {x : Int32} (hF : 1100 ≤ F) : st_ok (f_X9_twoPans F x) (f_X10_twoPans F x) := by
  intro S h
  obtain ⟨u, mk, hmk, g0, g1, g2, g3, g4, g5, g6, -⟩ := id h
  by_cases h0 : 0 ≤ x
  · obtain ⟨n, hn, rfl⟩ : ∃ n, n < 2 ^ 31 ∧ x = nI n := by
      have h1 : 0 ≤ x.toInt := Int32.le_iff_toInt_le.mp h0
      refine ⟨x.toInt.toNat, ?_, ?_⟩
      · have := x.toInt_lt
        omega
      · apply Int32.toInt_inj.mp
        have := x.toInt_lt
        rw [nI_toInt (by omega)]
        omega
    have hf : ∀ i, i < u 2 0 → u 8 i ≤ 1000098 := fun i hi => (g0.2.2.2.2.2.1 i hi).2
    obtain ⟨r, a1, a2⟩ := tp_cl (F := F) hn g6 hf (by omega)
    obtain ⟨s, T, b1, b2, b3⟩ := tr_all (F := F) (S := S) (f := u 8) g0.2.2.1 hn hf g2.2.2.1 g2.2.2.2.2.2.1 hF
    have e := tw_A1 a2 b2
    subst e
    refine ⟨r, S, T, ?_, b1, h.go b3⟩
    unfold f_X9_twoPans f_X9_twoPans_h16
    rw [if_pos h0, a1]
    rfl
  · refine ⟨-1, S, si_ps S 87 0 0, ?_, ?_, h.go (iv_th S)⟩
    · unfold f_X9_twoPans
      rw [if_neg h0]
      rfl
    · unfold f_X10_twoPans
      rw [iv_pt0, Option.bind_some, if_neg h0]
