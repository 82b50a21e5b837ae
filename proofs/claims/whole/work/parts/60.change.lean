-- the end of a change, in general
theorem ch_end {mk d p : Nat} {S SX K SM : si_St} {u : Nat → Nat → Nat} {vb wb : Nat → Nat → Int32} (hmk : iv_mks S mk) (hat : iv_at S u mk) (hd : d ≤ 12) (hp : p < 12) (hch : iv_ch u (fun j => S.2.1 (22 + j)) (fun k i => S.2.1 110 (677 * k + i)) d p (S.1 7 0) (fun j => S.2.1 (7 + j)) (fun j => S.2.1 (16 + j))) (eSX : iv_sE iv_xsV iv_xaV S SX) (x0 : SX.1 21 0 = nI (min (d + 1) 12)) (x1 : SX.1 21 1 = nI ((p + 1) % 12)) (x88 : SX.2.1 88 = S.2.1 88) (x110 : SX.2.1 110 = S.2.1 110) (k1 : ∀ a b, ¬ (a = 87 ∧ b = 41) → K.1 a b = (si_ps SX 87 0 0).1 a b) (k2 : K.1 87 41 = nI (min (d + 1) 12)) (k3 : ∀ r, r ≠ 110 → K.2.1 r = (si_ps SX 87 0 0).2.1 r) (k4 : K.2.2 = (si_ps SX 87 0 0).2.2) (k5 : d < 12 → (∀ j i, j < d → i < 677 → K.2.1 110 (677 * j + i) = (si_ps SX 87 0 0).2.1 110 (677 * j + i)) ∧ ∀ i, i < 677 → K.2.1 110 (677 * d + i) = (si_ps SX 87 0 0).2.1 88 i) (k6 : d = 12 → (∀ j i, j < 11 → i < 677 → K.2.1 110 (677 * j + i) = (si_ps SX 87 0 0).2.1 110 (677 * (j + 1) + i)) ∧ ∀ i, i < 677 → K.2.1 110 (677 * 11 + i) = (si_ps SX 87 0 0).2.1 88 i) (s1 : SM.1 = K.1) (s2 : ∀ r, r ≠ 88 → SM.2.1 r = K.2.1 r) (s3 : SM.2.2 = K.2.2) (hv : iv_view u (SX.1 7 0) (fun j => SX.2.1 (7 + j)) (fun j => SX.2.1 (16 + j)) (SM.2.1 88)) (hh : ∀ j i, j < 5 → i ≠ p → i < 12 → SX.2.1 (22 + j) i = S.2.1 (22 + j) i) (he : iv_eq (S.1 7 0) (fun j => S.2.1 (7 + j)) vb (fun j => S.2.1 (16 + j)) wb) (step : ∀ (und2 : Nat → Nat → Int32) (n : Nat), iv_view u (S.1 7 0) vb wb (und2 n) → iv_ch u (fun j => SX.2.1 (22 + j)) und2 n p (S.1 7 0) vb wb → iv_ch u (fun j => SX.2.1 (22 + j)) und2 (n + 1) ((p + 1) % 12) (SX.1 7 0) (fun j => SX.2.1 (7 + j)) (fun j => SX.2.1 (16 + j))) : iv_mks SM mk ∧ iv_at SM u mk := by
  have hm := (iv_mkof hmk).2
  have hu4 := hat.1.2.2.2.1
  have g7 : iv_view u (S.1 7 0) (fun j => S.2.1 (7 + j)) (fun j => S.2.1 (16 + j)) (S.2.1 88) := hat.2.2.2.2.2.2.2.1
  have r : ∀ q, q ≠ 88 → q ≠ 110 → SM.2.1 q = SX.2.1 q := fun q h1 h2 => (s2 q h1).trans (k3 q h2)
  have s7 : SM.1 7 0 = SX.1 7 0 := by
    rw [s1, k1 7 0 (by omega)]
    rfl
  have sd0 : SM.1 21 0 = nI (min (d + 1) 12) := by
    rw [s1, k1 21 0 (by omega)]
    exact x0
  have sd1 : SM.1 21 1 = nI ((p + 1) % 12) := by
    rw [s1, k1 21 1 (by omega)]
    exact x1
  have sd2 : SM.1 87 41 = nI (min (d + 1) 12) := by rw [s1, k2]
  have eSE : iv_sE iv_xsV iv_xaV S SM := by
    obtain ⟨a1, a2, a3, a4, a5, a6⟩ := eSX
    have k4' : SM.2.2 = SX.2.2 := s3.trans k4
    refine ⟨fun a b hab hx => ?_, fun q hq hx => ?_, ?_, ?_, ?_, ?_⟩
    · have e1 : SM.1 a b = (si_ps SX 87 0 0).1 a b := by
        rw [s1]
        exact k1 a b (fun h => hx (by rw [h.1, h.2]; decide))
      rw [e1, ps_o (fun h => by rw [h.1, h.2] at hab; exact absurd hab (by decide))]
      exact a1 a b hab hx
    · rw [r q (fun h => hx (by rw [h]; decide)) (fun h => hx (by rw [h]; decide))]
      exact a2 q hq hx
    all_goals
      rw [k4']
      assumption
  have hpush := iv_hist.push hu4 hd hp (und := S.2.1 110) (und' := SM.2.1 110) hh hch g7 he step (fun hd2 => by
    obtain ⟨A, B⟩ := k5 hd2
    refine ⟨fun j i hj hi => ?_, fun i hi => ?_⟩
    · rw [s2 _ (by decide), A j i hj hi]
      show SX.2.1 110 _ = _
      rw [x110]
    · rw [s2 _ (by decide), B i hi]
      show SX.2.1 88 _ = _
      rw [x88]) (fun hd2 => by
    obtain ⟨A, B⟩ := k6 hd2
    refine ⟨fun j i hj hi => ?_, fun i hi => ?_⟩
    · rw [s2 _ (by decide), A j i hj hi]
      show SX.2.1 110 _ = _
      rw [x110]
    · rw [s2 _ (by decide), B i hi]
      show SX.2.1 88 _ = _
      rw [x88])
  refine ⟨hmk.go eSE, iv_at.goV hm hat eSE ?_ ?_⟩
  · rw [s7]
    exact hv.cg (fun j h1 h8 => r _ (by omega) (by omega)) (fun j h1 h4 => r _ (by omega) (by omega))
  · rw [sd0, sd1, sd2, s7]
    obtain ⟨d2, p2, q1, q2, q3, q4, q5, q6⟩ := hpush
    exact ⟨d2, p2, q1, q2, q3, q4, q5, iv_ch.cg (fun j hj => r _ (by omega) (by omega)) _ _ _ _ _ _ _ (fun j h1 h8 => r _ (by omega) (by omega)) (fun j h1 h4 => r _ (by omega) (by omega)) q6⟩
theorem sn_Ao {S : si_St} {p k x d r : Nat} (h1 : r ≠ 22) (h2 : r ≠ 23) : (sn_A S p k x d).2.1 r = S.2.1 r := by
  unfold sn_A
  rw [ps_2, ps_2, pa_o h2, pa_o h1]
theorem sn_A1 {S : si_St} {p k x d a b : Nat} (h : a ≠ 21) : (sn_A S p k x d).1 a b = S.1 a b := by
  unfold sn_A
  rw [ps_o (fun q => h q.1), ps_o (fun q => h q.1)]
  rfl
theorem sn_A22 {S : si_St} {p k x d : Nat} : (sn_A S p k x d).2.1 22 p = nI k := by
  unfold sn_A
  rw [ps_2, ps_2, pa_o (by decide), pa_e]
theorem sn_A23 {S : si_St} {p k x d : Nat} : (sn_A S p k x d).2.1 23 p = nI x := by
  unfold sn_A
  rw [ps_2, ps_2, pa_e]
theorem sn_Ahh {S : si_St} {p k x d j i : Nat} (hi : i ≠ p) : (sn_A S p k x d).2.1 (22 + j) i = S.2.1 (22 + j) i := by
  unfold sn_A
  rw [ps_2, ps_2]
  have hj2 : j = 0 ∨ j = 1 ∨ 2 ≤ j := by omega
  rcases hj2 with rfl | rfl | hj2
  · rw [pa_o (by decide), pa_s hi]
  · rw [pa_s hi, pa_o (by decide)]
  · rw [pa_o (by omega), pa_o (by omega)]
theorem sn_AsE {S : si_St} {p k x d : Nat} : iv_sE iv_xsV iv_xaV S (sn_A S p k x d) := (((iv_sE.pa (by decide)).tr (iv_sE.pa (by decide))).tr (iv_sE.ps (by decide))).tr (iv_sE.ps (by decide))
-- record
theorem sm_pow : ∀ m, m < 31 → (1 : Int32) <<< (nI m &&& 31) = nI (2 ^ m) := by decide +kernel
theorem sm_win {F : Nat} {x a b : Int32} {A B : Int64} (hA : A = a.toInt64) (hB : B = b.toInt64) {S : si_St} : f_X10_within F x.toInt64 A B S = some (if a ≤ x ∧ x ≤ b then 1 else 0, S) := by
  rw [sm_within, hA, hB]
  by_cases h : a ≤ x ∧ x ≤ b
  · rw [if_pos h, if_pos ⟨(sm_toL _ _).mpr h.1, (sm_toL _ _).mpr h.2⟩]
  · rw [if_neg h, if_neg (fun h2 => h ⟨(sm_toL _ _).mp h2.1, (sm_toL _ _).mp h2.2⟩)]
def sn_RN (K : si_St) (i n : Nat) (a b : Int32) : si_St := si_pa (si_pa (si_pa K 88 (181 + (8 * i + n)) a) 88 (421 + (8 * i + n)) b) 88 (151 + i) (nI (n + 1))
theorem st_record {F : Nat} {x y z : Int32} (hF : 7448 ≤ F) : st_ok (f_X9_record F x y z) (f_X10_record F x y z) := by
  intro S h
  obtain ⟨u, mk, hmk, hat⟩ := id h
  obtain ⟨g0, g1, g2, g3, g4, g5, g6, g7, ⟨d, p, hd, hp, e0, e1, e2, hch⟩, g9, g10, g11⟩ := id hat
  obtain ⟨⟨V, hV, hc, hn, hv⟩, hq⟩ := id g7
  have hm := iv_mkof hmk
  have e := h.go (iv_th S)
  have hm10 := g0.2.2.1
  have h2m : 2 ^ u 2 0 ≤ 2 ^ 10 := Nat.pow_le_pow_right (by decide) hm10
  have h2p : 0 < 2 ^ u 2 0 := Nat.pow_pos (by decide)
  have hno : (f_X9_record F x y z S = some (-1, S)) → (f_X10_record F x y z S = some (-1, si_ps S 87 0 0)) → ∃ r S1 S2, f_X9_record F x y z S = some (r, S1) ∧ f_X10_record F x y z S1 = some (r, S2) ∧ iv_all S2 := fun h1 h2 => ⟨-1, S, _, h1, h2, e⟩
  rcases sm_cases x V (by omega) with ⟨i, hi, rfl⟩ | hx
  · have vX : f_X9_hasVisit F (nI i) S = some (1, S) := by rw [f9_hasVisit hc (by omega), if_pos (sm_in hi (by omega))]
    have vM : ∀ S' : si_St, S'.2.1 88 0 = nI V → f_X10_isVisit F (nI i) S' = some (1, S') := fun S' h => by rw [f10_isVisit h (by omega), if_pos (sm_in hi (by omega))]
    obtain ⟨⟨s, hs, a1, m1, n, hn8, a5, m5, ht⟩, -, -, h4⟩ := hv i hi
    have a1' : S.2.1 8 i = nI s := a1
    have a5' : S.2.1 12 i = nI n := a5
    have c4 : S.2.1 (mk + 4) s = nI (u 7 s) := (g1.2.1 s hs).2.2.2
    have b4 := (g2.2.2.2.2.1 s hs).2.2.2
    have hcap := (g0.2.2.2.2.1 s hs).2.2.2.2.2
    have hs24 := g0.2.1
    have mM : ∀ S' : si_St, S'.1 87 8 = nI (u 2 0) → f_X10_within F y.toInt64 0 (Int32.toInt64 (((1 : Int32) <<< ((S'.1 87 8) &&& 31)) - 1)) S' = some (if 0 ≤ y ∧ y < nI (2 ^ u 2 0) then 1 else 0, S') := by
      intro S' h
      rw [h, sm_pow _ (by omega), sm_has (by omega)]
    rcases sm_cases y (2 ^ u 2 0) (by omega) with ⟨st, hst, rfl⟩ | hy
    · have yX : f_X1_hasMasses F (nI st) S = some (1, S) := by rw [f9_hasMasses g5.1 (by omega), if_pos (sm_in hst (by omega))]
      have so : S.2.1 4 st = nI (sm_sum (u 8) (u 2 0) st) := g5.2 st hst
      have smM : ∀ S' : si_St, S'.1 87 8 = nI (u 2 0) → S'.2.1 93 = S.2.1 93 → f_X10_sumOf F (nI st) S' = some (nI (sm_sum (u 8) (u 2 0) st), S') := fun S' h h2 => sm_sumOf (m := u 2 0) (f := u 8) h hm10 (fun i hi => by rw [h2]; exact g2.2.2.2.2.2.1 i hi) (by omega)
      have sle : sm_sum (u 8) (u 2 0) st < 2 ^ 30 := by
        have : ∀ m, m ≤ u 2 0 → sm_sum (u 8) m st ≤ 1000098 * m := by
          intro m
          induction m with
          | zero => exact fun _ => Nat.le_refl _
          | succ m ih =>
            intro hm2
            have h1 := ih (by omega)
            have h2 := (g0.2.2.2.2.2.1 m (by omega)).2
            show sm_sum (u 8) m st + (if st.testBit m = true then u 8 m else 0) ≤ _
            split <;> omega
        have := this (u 2 0) (Nat.le_refl _)
        omega
      generalize hld : sm_sum (u 8) (u 2 0) st = ld at so smM sle
      have w : ∀ S' : si_St, f_X10_within F z.toInt64 (-1999999) 1999999 S' = some (if -1999999 ≤ z ∧ z ≤ 1999999 then 1 else 0, S') := fun S' => sm_win (a := -1999999) (b := 1999999) (by decide) (by decide)
      have hX : f_X9_record F (nI i) (nI st) z S = if -1999999 ≤ z ∧ z ≤ 1999999 then (if ld ≤ u 7 s then (if S.2.1 11 i = -1 then (if n < 8 then (Option.bind (f_X0_add F 1 (nI i) S) fun S9 => Option.bind (f_X7_addTest F (nI i) (nI st) (nI ld) (z - nI ld) S9) fun q10 => some (q10.1, q10.2)) else some (-3, S)) else some (-2, S)) else some (-1, S)) else some (-1, S) := by
        unfold f_X9_record f_X9_record_h31
        rw [vX, Option.bind_some]
        dsimp only
        rw [if_neg sm_10, yX, Option.bind_some]
        dsimp only
        rw [if_neg sm_10]
        by_cases h1 : z < -1999999
        · rw [if_pos h1, if_neg (fun h => (fa_of_lt h1).2.1 h.1)]
        · rw [if_neg h1]
          by_cases h2 : z ≤ 1999999
          · rw [if_pos h2, if_pos ⟨fa_of_nlt h1, h2⟩, rd_4 (by omega), Option.bind_some, so, hm.1, Option.bind_some, rd_8 (by omega), Option.bind_some, a1', rd_m4 hm.2 (by omega), Option.bind_some, c4]
            by_cases h3 : ld ≤ u 7 s
            · rw [if_pos (nI_le h3 (by omega)), if_pos h3, f9_isOpen (by omega), Option.bind_some]
              by_cases h5 : S.2.1 11 i = -1
              · rw [if_pos h5, if_pos h5]
                dsimp only
                rw [if_neg sm_10, rd_12 (by omega), Option.bind_some, a5']
                by_cases h6 : n < 8
                · rw [if_pos ((li_ltR (n := 8) (by decide) (by omega)).mpr h6), if_pos h6]
                · rw [if_neg (fun h => h6 ((li_ltR (n := 8) (by decide) (by omega)).mp h)), if_neg h6]
              · rw [if_neg h5, if_neg h5]
                dsimp only
                rw [if_pos rfl]
            · rw [if_neg (nI_ge (by omega) (by omega)), if_neg h3]
          · rw [if_neg h2, if_neg (fun h => h2 h.2)]
      have hM : ∀ S' : si_St, S'.2.1 88 = S.2.1 88 → S'.1 87 8 = nI (u 2 0) → S'.2.1 93 = S.2.1 93 → S'.2.1 92 = S.2.1 92 → f_X10_record F (nI i) (nI st) z S' = if -1999999 ≤ z ∧ z ≤ 1999999 then (if ld ≤ u 7 s then (if S.2.1 88 (61 + i) = 1 then some (-2, si_ps S' 87 0 0) else (if nI n = 8 then some (-3, si_ps S' 87 0 0) else (Option.bind (f_X10_keeps F (si_ps S' 87 0 0)) fun S10 => Option.bind (si_wr S10 88 ((181 + (8 * nI i)) + nI n) (nI st)) fun S11 => Option.bind (si_wr S11 88 ((421 + (8 * nI i)) + nI n) z) fun S12 => Option.bind (si_rd S12 88 (151 + nI i)) fun v13 => Option.bind (si_wr S12 88 (151 + nI i) (v13 + 1)) fun S14 => some (nI n, S14)))) else some (-1, si_ps S' 87 0 0)) else some (-1, si_ps S' 87 0 0) := by
        intro S' r88 r8 r93 r92
        have q88 : (si_ps S' 87 0 0).2.1 88 = S.2.1 88 := r88
        have q92 : (si_ps S' 87 0 0).2.1 92 = S.2.1 92 := r92
        unfold f_X10_record f_X10_record_h66
        rw [iv_pt0, Option.bind_some, vM (si_ps S' 87 0 0) (by rw [q88]; exact hn), Option.bind_some]
        dsimp only
        rw [if_neg sm_10, mM (si_ps S' 87 0 0) r8, if_pos (sm_in hst (by omega)), Option.bind_some]
        dsimp only
        rw [if_neg sm_10, smM (si_ps S' 87 0 0) r8 r93, Option.bind_some]
        dsimp only
        rw [li_addL, rd_88 (by omega), Option.bind_some, q88, m1, rd_92 (by omega), Option.bind_some, q92, b4]
        by_cases h3 : ld ≤ u 7 s
        · rw [if_neg (nI_nlt h3 (by omega)), w, Option.bind_some]
          by_cases h1 : -1999999 ≤ z ∧ z ≤ 1999999
          · rw [if_pos h1, if_pos h1]
            dsimp only
            rw [if_neg sm_10, if_pos h3, li_addL, rd_88 (by omega), Option.bind_some, q88, li_addL, rd_88 (by omega), Option.bind_some, q88, m5]
          · rw [if_neg h1, if_neg h1]
            dsimp only
            rw [if_pos rfl]
        · rw [if_pos (nI_lt (by omega) (by omega)), if_neg h3, ite_self]
      by_cases h1 : -1999999 ≤ z ∧ z ≤ 1999999
      · rw [if_pos h1] at hX
        by_cases h3 : ld ≤ u 7 s
        · rw [if_pos h3] at hX
          have hM2 : ∀ S' : si_St, S'.2.1 88 = S.2.1 88 → S'.1 87 8 = nI (u 2 0) → S'.2.1 93 = S.2.1 93 → S'.2.1 92 = S.2.1 92 → _ := fun S' r1 r2 r3 r4 => (hM S' r1 r2 r3 r4).trans ((if_pos h1).trans (if_pos h3))
          have op : (S.2.1 11 i = -1 ∧ S.2.1 88 (61 + i) = 0) ∨ (¬ S.2.1 11 i = -1 ∧ S.2.1 88 (61 + i) = 1) := by
            rcases h4 with ⟨q1, q2⟩ | ⟨r, hr5, q1, q2, q3⟩
            · exact Or.inl ⟨q1, q2⟩
            · refine Or.inr ⟨?_, q2⟩
              have q1' : S.2.1 11 i = nI r := q1
              rw [q1']
              exact sm_m1 (by omega)
          rcases op with ⟨o1, o2⟩ | ⟨o1, o2⟩
          · have z01 : ¬ ((0 : Int32) = 1) := by decide
            rw [if_pos o1] at hX
            by_cases h8 : n < 8
            · -- a test more
              have n8 : ¬ nI n = 8 := fun h => by
                have h9 : n = 8 := (li_eqR (n := 8) (by decide) (by omega)).mp h
                omega
              have ha : f_X0_add F (nI 1) (nI i) S = some (sn_A S p 1 i d) := sm_add hd hp e0 e1
              have a5A : (sn_A S p 1 i d).2.1 12 i = nI n := by rw [sn_Ao (by decide) (by decide)]; exact a5'
              have hX2 : f_X9_record F (nI i) (nI st) z S = some (nI n, sn_T (sn_A S p 1 i d) i n (nI st) (nI ld) (z - nI ld)) := by
                rw [hX, if_pos h8]
                show Option.bind (f_X0_add F (nI 1) (nI i) S) _ = _
                rw [ha, Option.bind_some, f9_addTest (by omega) h8 a5A]
                rfl
              generalize hSX : sn_T (sn_A S p 1 i d) i n (nI st) (nI ld) (z - nI ld) = SX at hX2
              have xo : ∀ r, r ≠ 12 → r ≠ 13 → r ≠ 14 → r ≠ 15 → r ≠ 22 → r ≠ 23 → SX.2.1 r = S.2.1 r := by
                intro r r1 r2 r3 r4 r5 r6
                rw [← hSX]
                unfold sn_T
                rw [pa_o r1, pa_o r4, pa_o r3, pa_o r2, sn_Ao r5 r6]
              have x1A : SX.1 = (sn_A S p 1 i d).1 := by rw [← hSX]; rfl
              have x41 : (si_ps SX 87 0 0).1 87 41 = nI d := by
                rw [ps_o (by omega), x1A, sn_A1 (by decide)]
                exact e2
              obtain ⟨K, hK, k1, k2, k3, k4, k5, k6⟩ := sm_keepsU (F := F) hd hF x41
              have k88 : K.2.1 88 = S.2.1 88 := (k3 88 (by decide)).trans (xo 88 (by decide) (by decide) (by decide) (by decide) (by decide) (by decide))
              have hM3 : f_X10_record F (nI i) (nI st) z SX = some (nI n, sn_RN K i n (nI st) z) := by
                have x8 : SX.1 87 8 = nI (u 2 0) := by
                  rw [x1A, sn_A1 (by decide)]
                  exact g2.2.2.1
                have v151 : ∀ a b, (si_pa (si_pa K 88 (181 + (8 * i + n)) a) 88 (421 + (8 * i + n)) b).2.1 88 (151 + i) = nI n := by
                  intro a b
                  rw [pa_s (by omega), pa_s (by omega), k88]
                  exact m5
                rw [hM SX (xo 88 (by decide) (by decide) (by decide) (by decide) (by decide) (by decide)) x8 (xo 93 (by decide) (by decide) (by decide) (by decide) (by decide) (by decide)) (xo 92 (by decide) (by decide) (by decide) (by decide) (by decide) (by decide)), if_pos h1, if_pos h3, o2, if_neg z01, if_neg n8, hK, Option.bind_some, li_mulL, li_addL, nI_add, Nat.add_assoc, wr_88 (by omega), Option.bind_some, li_addL, nI_add, Nat.add_assoc, wr_88 (by omega), Option.bind_some, li_addL, rd_88 (by omega), Option.bind_some, v151, nI_1, wr_88 (by omega)]
                rfl
              refine ⟨nI n, SX, _, hX2, hM3, u, mk, ?_⟩
              have tA : ∀ j q, 1 ≤ j → j ≤ 8 → (j = 5 → q ≠ i) → (6 ≤ j → q ≠ 8 * i + n) → SX.2.1 (7 + j) q = S.2.1 (7 + j) q := by
                intro j q j1 j8 j5 j6
                rw [← hSX]
                unfold sn_T
                have hj : j = 5 ∨ j = 6 ∨ j = 7 ∨ j = 8 ∨ j < 5 := by omega
                rcases hj with rfl | rfl | rfl | rfl | hj
                · rw [pa_s (j5 rfl), pa_o (by decide), pa_o (by decide), pa_o (by decide), sn_Ao (by decide) (by decide)]
                · rw [pa_o (by decide), pa_o (by decide), pa_o (by decide), pa_s (j6 (by decide)), sn_Ao (by decide) (by decide)]
                · rw [pa_o (by decide), pa_o (by decide), pa_s (j6 (by decide)), pa_o (by decide), sn_Ao (by decide) (by decide)]
                · rw [pa_o (by decide), pa_s (j6 (by decide)), pa_o (by decide), pa_o (by decide), sn_Ao (by decide) (by decide)]
                · rw [pa_o (by omega), pa_o (by omega), pa_o (by omega), pa_o (by omega), sn_Ao (by omega) (by omega)]
              have tN : SX.2.1 12 i = nI (n + 1) ∧ SX.2.1 13 (8 * i + n) = nI st ∧ SX.2.1 14 (8 * i + n) = nI ld ∧ SX.2.1 15 (8 * i + n) = z - nI ld := by
                rw [← hSX]
                unfold sn_T
                refine ⟨pa_e, ?_, ?_, ?_⟩
                · rw [pa_o (by decide), pa_o (by decide), pa_o (by decide), pa_e]
                · rw [pa_o (by decide), pa_o (by decide), pa_e]
                · rw [pa_o (by decide), pa_e]
              have mo : ∀ q, q ≠ 181 + (8 * i + n) → q ≠ 421 + (8 * i + n) → q ≠ 151 + i → (sn_RN K i n (nI st) z).2.1 88 q = S.2.1 88 q := by
                intro q q1 q2 q3
                unfold sn_RN
                rw [pa_s q3, pa_s q2, pa_s q1, k88]
              have mN : (sn_RN K i n (nI st) z).2.1 88 (151 + i) = nI (n + 1) ∧ (sn_RN K i n (nI st) z).2.1 88 (181 + (8 * i + n)) = nI st ∧ (sn_RN K i n (nI st) z).2.1 88 (421 + (8 * i + n)) = z := by
                unfold sn_RN
                refine ⟨pa_e, ?_, ?_⟩
                · rw [pa_s (by omega), pa_s (by omega), pa_e]
                · rw [pa_s (by omega), pa_e]
              have s7 : SX.1 7 0 = S.1 7 0 := by rw [x1A, sn_A1 (by decide)]
              have zb : -1999999 ≤ z.toInt ∧ z.toInt ≤ 1999999 := by
                have q1 := (fa_le _ _).mp h1.1
                have q2 := (fa_le _ _).mp h1.2
                have c1 : (-1999999 : Int32).toInt = -1999999 := by decide
                have c2 : (1999999 : Int32).toInt = 1999999 := by decide
                omega
              refine ch_end (K := K) (SX := SX) hmk hat hd hp hch ?_ ?_ ?_ (xo 88 (by decide) (by decide) (by decide) (by decide) (by decide) (by decide)) (xo 110 (by decide) (by decide) (by decide) (by decide) (by decide) (by decide)) k1 k2 k3 k4 k5 k6 rfl (fun r hr => by unfold sn_RN; rw [pa_o hr, pa_o hr, pa_o hr]) rfl ?_ ?_ (vb := iv_up (fun j => SX.2.1 (7 + j)) 5 i (SX.2.1 12 i - 1)) (wb := fun j => SX.2.1 (16 + j)) ?_ ?_
              · rw [← hSX]
                exact ((((sn_AsE).tr (iv_sE.pa (by decide))).tr (iv_sE.pa (by decide))).tr (iv_sE.pa (by decide))).tr (iv_sE.pa (by decide))
              · rw [x1A]; rfl
              · rw [x1A]; rfl
              · refine ⟨⟨V, hV, s7.trans hc, (mo 0 (by omega) (by omega) (by omega)).trans hn, fun v hvV => ?_⟩, fun k hk => ?_⟩
                · obtain ⟨⟨s2, hs2, p1, b1, n2, hn2, p5, b5, ht2⟩, ⟨d2, hd2, p2, b2⟩, ⟨bb, hbb, p3, b3⟩, hcl⟩ := hv v hvV
                  refine ⟨?_, ⟨d2, hd2, (tA 2 v (by decide) (by decide) (by omega) (by omega)).trans p2, (mo _ (by omega) (by omega) (by omega)).trans b2⟩, ⟨bb, hbb, (tA 3 v (by decide) (by decide) (by omega) (by omega)).trans p3, (mo _ (by omega) (by omega) (by omega)).trans b3⟩, ?_⟩
                  · have old : ∀ t, t < n2 → (v = i → t ≠ n) → ∃ st2, st2 < 2 ^ u 2 0 ∧ sm_sum (u 8) (u 2 0) st2 ≤ u 7 s2 ∧ SX.2.1 13 (8 * v + t) = nI st2 ∧ (sn_RN K i n (nI st) z).2.1 88 (181 + (8 * v + t)) = nI st2 ∧ SX.2.1 14 (8 * v + t) = nI (sm_sum (u 8) (u 2 0) st2) ∧ -1999999 ≤ ((sn_RN K i n (nI st) z).2.1 88 (421 + (8 * v + t))).toInt ∧ ((sn_RN K i n (nI st) z).2.1 88 (421 + (8 * v + t))).toInt ≤ 1999999 ∧ SX.2.1 15 (8 * v + t) = (sn_RN K i n (nI st) z).2.1 88 (421 + (8 * v + t)) - nI (sm_sum (u 8) (u 2 0) st2) := by
                      intro t ht3 hvt
                      obtain ⟨st2, w1, w2, w3, w4, w5, w6, w7, w8⟩ := ht2 t ht3
                      have hne : 8 * v + t ≠ 8 * i + n := by omega
                      have q4 := mo (421 + (8 * v + t)) (by omega) (by omega) (by omega)
                      rw [q4]
                      exact ⟨st2, w1, w2, (tA 6 _ (by decide) (by decide) (by omega) (fun _ => hne)).trans w3, (mo _ (by omega) (by omega) (by omega)).trans w4, (tA 7 _ (by decide) (by decide) (by omega) (fun _ => hne)).trans w5, w6, w7, (tA 8 _ (by decide) (by decide) (by omega) (fun _ => hne)).trans w8⟩
                    refine ⟨s2, hs2, (tA 1 v (by decide) (by decide) (by omega) (by omega)).trans p1, (mo _ (by omega) (by omega) (by omega)).trans b1, ?_⟩
                    by_cases hvi : v = i
                    · subst hvi
                      have en : n2 = n := sm_inj (by omega) (by omega) (p5.symm.trans a5)
                      have es : s2 = s := sm_inj (by omega) (by omega) (p1.symm.trans a1)
                      subst en
                      subst es
                      refine ⟨n2 + 1, by omega, tN.1, mN.1, fun t ht3 => ?_⟩
                      by_cases htn : t = n2
                      · subst htn
                        refine ⟨st, hst, by rw [hld]; exact h3, tN.2.1, mN.2.1, by rw [hld]; exact tN.2.2.1, ?_, ?_, ?_⟩
                        · rw [mN.2.2]; exact zb.1
                        · rw [mN.2.2]; exact zb.2
                        · rw [mN.2.2, hld]; exact tN.2.2.2
                      · exact old t (by omega) (fun _ => htn)
                    · exact ⟨n2, hn2, (tA 5 v (by decide) (by decide) (fun _ => hvi) (by omega)).trans p5, (mo _ (by omega) (by omega) (by omega)).trans b5, fun t ht3 => old t ht3 (fun h => absurd h hvi)⟩
                  · rcases hcl with ⟨q1, q2⟩ | ⟨r, hr5, q1, q2, q3⟩
                    · exact Or.inl ⟨(tA 4 v (by decide) (by decide) (by omega) (by omega)).trans q1, (mo _ (by omega) (by omega) (by omega)).trans q2⟩
                    · exact Or.inr ⟨r, hr5, (tA 4 v (by decide) (by decide) (by omega) (by omega)).trans q1, (mo _ (by omega) (by omega) (by omega)).trans q2, (mo _ (by omega) (by omega) (by omega)).trans q3⟩
                · obtain ⟨hh, l, g, ww, p1, b1, p2, b2, p3, b3, p4, b4, hrest⟩ := hq k hk
                  have hk4 := g0.2.2.2.1
                  have W : ∀ j, 1 ≤ j → j ≤ 4 → SX.2.1 (16 + j) k = S.2.1 (16 + j) k := fun j j1 j4 => congrFun (xo _ (by omega) (by omega) (by omega) (by omega) (by omega) (by omega)) k
                  exact ⟨hh, l, g, ww, (W 1 (by decide) (by decide)).trans p1, (mo _ (by omega) (by omega) (by omega)).trans b1, (W 2 (by decide) (by decide)).trans p2, (mo _ (by omega) (by omega) (by omega)).trans b2, (W 3 (by decide) (by decide)).trans p3, (mo _ (by omega) (by omega) (by omega)).trans b3, (W 4 (by decide) (by decide)).trans p4, (mo _ (by omega) (by omega) (by omega)).trans b4, hrest⟩
              · intro j q hj hq2 _
                rw [← hSX]
                unfold sn_T
                rw [pa_o (by omega), pa_o (by omega), pa_o (by omega), pa_o (by omega), sn_Ahh hq2]
              · have g7' := g7
                rw [hc] at g7' ⊢
                refine iv_eq.of g7' hV (fun v hvV => ⟨fun j j1 j5 => ?_, fun t j hex j6 j8 => ?_⟩) (fun j q j1 j4 _ => congrFun (xo _ (by omega) (by omega) (by omega) (by omega) (by omega) (by omega)) q)
                · unfold iv_up
                  by_cases hc5 : j = 5 ∧ v = i
                  · rw [if_pos hc5, hc5.1, hc5.2, tN.1, sm_pred]
                    exact a5'.symm
                  · rw [if_neg hc5]
                    exact tA j v j1 (by omega) (fun h5 hvi => hc5 ⟨h5, hvi⟩) (by omega)
                · obtain ⟨n2, q1, q2, q3⟩ := hex
                  unfold iv_up
                  rw [if_neg (fun h => by omega)]
                  refine tA j _ (by omega) j8 (by omega) (fun _ hne => ?_)
                  have hvi : v = i := by omega
                  subst hvi
                  have en : n2 = n := sm_inj (by omega) (by omega) (q1.symm.trans a5)
                  omega
              · intro und2 n2 hv2 hc2
                have hpp : ((p + 1) % 12 + 11) % 12 = p := by omega
                refine ⟨1, i, ?_, ?_, Or.inr (Or.inl ⟨rfl, by omega, ?_, ?_⟩)⟩
                · rw [hpp, ← hSX]
                  show (sn_A S p 1 i d).2.1 22 p = _
                  exact sn_A22
                · rw [hpp, ← hSX]
                  show (sn_A S p 1 i d).2.1 23 p = _
                  exact sn_A23
                · rw [s7]
                  exact hv2
                · rw [hpp, s7]
                  exact hc2
            · have h88 : n = 8 := by omega
              subst h88
              refine ⟨-3, S, si_ps S 87 0 0, ?_, ?_, e⟩
              · rw [hX, if_neg (by decide)]
              · rw [hM S rfl g2.2.2.1 rfl rfl, if_pos h1, if_pos h3, o2, if_neg z01, if_pos (show nI 8 = 8 from rfl)]
          · refine ⟨-2, S, si_ps S 87 0 0, ?_, ?_, e⟩
            · rw [hX, if_neg o1]
            · rw [hM S rfl g2.2.2.1 rfl rfl, if_pos h1, if_pos h3, o2, if_pos rfl]
        · refine hno ?_ ?_
          · rw [hX, if_neg h3]
          · rw [hM S rfl g2.2.2.1 rfl rfl, if_pos h1, if_neg h3]
      · refine hno ?_ ?_
        · rw [hX, if_neg h1]
        · rw [hM S rfl g2.2.2.1 rfl rfl, if_neg h1]
    · refine hno ?_ ?_
      · unfold f_X9_record f_X9_record_h31
        rw [vX, Option.bind_some]
        dsimp only
        rw [if_neg sm_10, f9_hasMasses g5.1 (by omega), if_neg hy]
        rfl
      · unfold f_X10_record f_X10_record_h66
        rw [iv_pt0, Option.bind_some, vM (si_ps S 87 0 0) hn, Option.bind_some]
        dsimp only
        rw [if_neg sm_10, mM (si_ps S 87 0 0) g2.2.2.1, if_neg hy]
        rfl
  · refine hno ?_ ?_
    · unfold f_X9_record f_X9_record_h31
      rw [f9_hasVisit hc (by omega), if_neg hx]
      rfl
    · unfold f_X10_record f_X10_record_h66
      rw [iv_pt0, Option.bind_some, f10_isVisit (S := si_ps S 87 0 0) (n := V) hn (by omega), if_neg hx]
      rfl
