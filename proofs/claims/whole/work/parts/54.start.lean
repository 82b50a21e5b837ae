-- startVisit
theorem sm_hasL {F : Nat} {x : Int32} {c : Int64} (n : Nat) {S : si_St} (hn : n < 2 ^ 31) (hc : c = Int32.toInt64 (nI n - 1)) : f_X10_within F x.toInt64 0 c S = some (if 0 ≤ x ∧ x < nI n then 1 else 0, S) := by
  rw [hc, sm_has hn]
theorem sm_10 : ¬ ((1 : Int32) = 0) := by decide
theorem iv_eq.of {u : Nat → Nat → Nat} {V : Nat} {va va' wa wa' : Nat → Nat → Int32} {nw : Nat → Int32} (h : iv_view u (nI V) va wa nw) (hV : V ≤ 30) (hr : ∀ v, v < V → (∀ j, 1 ≤ j → j ≤ 5 → va' j v = va j v) ∧ ∀ t j, (∃ n, va 5 v = nI n ∧ n ≤ 8 ∧ t < n) → 6 ≤ j → j ≤ 8 → va' j (8 * v + t) = va j (8 * v + t)) (hw : ∀ j i, 1 ≤ j → j ≤ 4 → i < 4 → wa' j i = wa j i) : iv_eq (nI V) va va' wa wa' := by
  obtain ⟨⟨V2, hV2, hc2, hn, hv⟩, -⟩ := h
  have hVV : V = V2 := sm_inj (by omega) (by omega) hc2
  subst hVV
  refine ⟨V, fun v => (va 5 v).toNatClampNeg, hV, rfl, fun v hvV => ?_, hw⟩
  obtain ⟨⟨s, hs, a1, m1, n, hn8, a5, m5, ht⟩, -⟩ := hv v hvV
  obtain ⟨r1, r6⟩ := hr v hvV
  have e : (va 5 v).toNatClampNeg = n := by rw [a5, nI_clamp (by omega)]
  dsimp only
  rw [e]
  exact ⟨hn8, a5, r1, fun t j ht => r6 t j ⟨n, a5, hn8, ht⟩⟩
def sn_N (S : si_St) (V : Nat) (x y b : Int32) : si_St := si_ps (si_pa (si_pa (si_pa (si_pa (si_pa S 8 V x) 9 V y) 10 V b) 11 V (-1)) 12 V 0) 7 0 (nI (V + 1))
theorem sv_add {F V : Nat} {x y : Int32} {S : si_St} (hc : S.1 7 0 = nI V) (hV : V < 30) (hF : 31 ≤ F) : f_X7_addVisit F x y S = some (nI V, sn_N S V x y (sv_b (sa_an (fun v => decide (S.2.1 8 v = x ∧ S.2.1 11 v = 0)) V))) := by
  unfold f_X7_addVisit
  rw [hc, Option.bind_some, wr_8 hV, Option.bind_some, wr_9 hV, Option.bind_some]
  have hp := sv_pass (F := F) (x := x) (S := si_pa (si_pa S 8 V x) 9 V y) hc (by omega) F 0 (by omega) (by omega) rfl
  have hcg : sa_an (fun v => decide ((si_pa (si_pa S 8 V x) 9 V y).2.1 8 v = x ∧ (si_pa (si_pa S 8 V x) 9 V y).2.1 11 v = 0)) V = sa_an (fun v => decide (S.2.1 8 v = x ∧ S.2.1 11 v = 0)) V := by
    refine sa_an_cong (fun v hv => ?_)
    have e1 : (si_pa (si_pa S 8 V x) 9 V y).2.1 8 v = S.2.1 8 v := by
      rw [pa_o (by decide), pa_s (by omega)]
    have e2 : (si_pa (si_pa S 8 V x) 9 V y).2.1 11 v = S.2.1 11 v := by
      rw [pa_o (by decide), pa_o (by decide)]
    rw [e1, e2]
  rw [hcg] at hp
  have hp2 : f_X7_hasPassed F x (si_pa (si_pa S 8 V x) 9 V y) = some (sv_b (sa_an (fun v => decide (S.2.1 8 v = x ∧ S.2.1 11 v = 0)) V), si_pa (si_pa S 8 V x) 9 V y) := hp
  rw [hp2, Option.bind_some]
  generalize sa_an (fun v => decide (S.2.1 8 v = x ∧ S.2.1 11 v = 0)) V = b
  have fin : ∀ t : Int32, f_X7_addVisit_h37 F (nI V) t (nI V) (si_pa (si_pa S 8 V x) 9 V y) = some (nI V, sn_N S V x y t) := by
    intro t
    have h3 : (si_pa (si_pa (si_pa (si_pa (si_pa S 8 V x) 9 V y) 10 V t) 11 V (-1)) 12 V 0).1 7 0 = nI V := hc
    unfold f_X7_addVisit_h37
    rw [wr_10 hV, Option.bind_some, wr_11 hV, Option.bind_some, wr_12 hV, Option.bind_some, h3, nI_1]
    rfl
  cases b
  · exact fin 0
  · exact fin 1
def sn_NM (K : si_St) (V : Nat) (x y b : Int32) : si_St := si_pa (si_pa (si_pa (si_pa (si_pa (si_pa (si_pa K 88 (1 + V) x) 88 (31 + V) y) 88 (61 + V) 0) 88 (91 + V) 0) 88 (121 + V) b) 88 (151 + V) 0) 88 0 (nI (V + 1))
theorem sv_madd {F V : Nat} {x y b : Int32} {S K : si_St} (hK : f_X10_keeps F S = some K) (hn : S.2.1 88 0 = nI V) (hn2 : K.2.1 88 0 = nI V) (hV : V < 30) : sv_E F x y 0 b S = some (nI V, sn_NM K V x y b) := by
  have h30 : ¬ nI V = 30 := fun h => by
    have h3 : V = 30 := (li_eqR (n := 30) (by decide) (by omega)).mp h
    omega
  have h4 : (si_pa (si_pa (si_pa (si_pa (si_pa (si_pa K 88 (1 + V) x) 88 (31 + V) y) 88 (61 + V) 0) 88 (91 + V) 0) 88 (121 + V) b) 88 (151 + V) 0).2.1 88 0 = nI V := by
    rw [pa_s (by omega), pa_s (by omega), pa_s (by omega), pa_s (by omega), pa_s (by omega), pa_s (by omega), hn2]
  unfold sv_E
  rw [if_pos rfl, rd_88z, Option.bind_some, hn, if_neg h30, hK, Option.bind_some, li_addL, wr_88 (by omega), Option.bind_some, li_addL, wr_88 (by omega), Option.bind_some, li_addL, wr_88 (by omega), Option.bind_some, li_addL, wr_88 (by omega), Option.bind_some, li_addL, wr_88 (by omega), Option.bind_some, li_addL, wr_88 (by omega), Option.bind_some, rd_88z, Option.bind_some, h4, nI_1, wr_88z]
  rfl
theorem st_startVisit {F : Nat} {x y : Int32} (hF : 7448 ≤ F) : st_ok (f_X9_startVisit F x y) (f_X10_startVisit F x y) := by
  intro S h
  obtain ⟨u, mk, hmk, hat⟩ := id h
  obtain ⟨g0, g1, g2, g3, g4, g5, g6, g7, ⟨d, p, hd, hp, e0, e1, e2, hch⟩, g9, g10, g11⟩ := id hat
  obtain ⟨⟨V, hV, hc, hn, hv⟩, hq⟩ := id g7
  have hm := iv_mkof hmk
  have hu4 := g0.2.2.2.1
  have e := h.go (iv_th S)
  have hN : u 1 0 < 2 ^ 31 := by have := g0.2.1; omega
  have hs1 : S.1 mk 1 = nI (u 1 0) := g1.1 1 (by decide)
  rcases sm_cases x (u 1 0) hN with ⟨s, hs, rfl⟩ | hno
  · rcases sm_cases y 10000 (by decide) with ⟨dd, hdd, rfl⟩ | hno
    · -- both walk
      have hc88 : (si_ps S 87 0 0).2.1 88 0 = nI V := hn
      obtain ⟨r', el, hr⟩ := sv_last (F := F) (x := nI s) (y := nI dd) hc hV F 0 0 (by omega) (by omega) (iff_of_true (nI_pos' (by omega)) rfl)
      have eo := sv_open (F := F) (x := nI s) hc hV F 0 (by omega) (by omega) rfl
      have hX : f_X9_startVisit F (nI s) (nI dd) S = if r' ≤ nI dd then (if sa_an (fun v => decide (S.2.1 8 v = nI s ∧ S.2.1 11 v = -1)) V = true then some (-2, S) else if nI V < 30 then (Option.bind (f_X7_addVisit F (nI s) (nI dd) S) fun q5 => Option.bind (f_X0_add F 0 q5.1 q5.2) fun S6 => some (q5.1, S6)) else some (-3, S)) else some (-1, S) := by
        unfold f_X9_startVisit f_X9_startVisit_h27
        have el' : f_X7_lastDayOf F (nI s) S = some (r', S) := el
        have eo' : f_X7_hasOpenVisit F (nI s) S = _ := eo
        rw [f9_hasScale hm.1 hs1 hN, if_pos (sm_in hs hN)]
        simp only [Option.bind_some, if_neg sm_10, f9_isDay, if_pos (sm_in hdd (by decide)), el', eo', hc]
        by_cases hb : sa_an (fun v => decide (S.2.1 8 v = nI s ∧ S.2.1 11 v = -1)) V = true
        · simp only [if_pos hb, if_neg sm_10]
        · simp only [if_neg hb, if_pos]
      have hM : ∀ S' : si_St, S'.1 87 3 = nI (u 1 0) → S'.2.1 88 = S.2.1 88 → f_X10_startVisit F (nI s) (nI dd) S' = if sa_an (fun v => decide (S.2.1 88 (1 + v) = nI s ∧ ¬ S.2.1 88 (31 + v) ≤ nI dd)) V = true then some (-1, si_ps S' 87 0 0) else sv_E F (nI s) (nI dd) (sv_b (sa_an (fun v => decide (S.2.1 88 (1 + v) = nI s ∧ S.2.1 88 (61 + v) = 0)) V)) (sv_b (sa_an (fun v => decide (S.2.1 88 (1 + v) = nI s ∧ S.2.1 88 (61 + v) = 1 ∧ S.2.1 88 (91 + v) = 0)) V)) (si_ps S' 87 0 0) := by
        intro S' h1 h2
        have h2' : (si_ps S' 87 0 0).2.1 88 = S.2.1 88 := h2
        have ew := sv_walk (F := F) (x := nI s) (y := nI dd) (S := si_ps S' 87 0 0) (V := V) (by rw [h2']; exact hn) hV F 0 (by omega) (by omega) rfl
        rw [h2'] at ew
        unfold f_X10_startVisit f_X10_startVisit_h25
        rw [iv_pt0, Option.bind_some, f10_isScale (S := si_ps S' 87 0 0) (n := u 1 0) h1 hN, if_pos (sm_in hs hN)]
        simp only [Option.bind_some, if_neg sm_10, sm_hasL 10000 (c := 9999) (by decide) (by decide), if_pos (sm_in hdd (by decide))]
        exact ew
      -- the same on both sides
      have cL : sa_an (fun v => decide (S.2.1 8 v = nI s ∧ ¬ S.2.1 9 v ≤ nI dd)) V = sa_an (fun v => decide (S.2.1 88 (1 + v) = nI s ∧ ¬ S.2.1 88 (31 + v) ≤ nI dd)) V := by
        refine sa_an_cong (fun v hvV => ?_)
        obtain ⟨⟨s2, hs2, a1, m1, -⟩, ⟨d2, hd2, a2, m2⟩, -⟩ := hv v hvV
        have a1' : S.2.1 8 v = nI s2 := a1
        have a2' : S.2.1 9 v = nI d2 := a2
        rw [a1', a2', m1, m2]
      have cO : sa_an (fun v => decide (S.2.1 8 v = nI s ∧ S.2.1 11 v = -1)) V = sa_an (fun v => decide (S.2.1 88 (1 + v) = nI s ∧ S.2.1 88 (61 + v) = 0)) V := by
        refine sa_an_cong (fun v hvV => ?_)
        obtain ⟨⟨s2, hs2, a1, m1, -⟩, -, -, h4⟩ := hv v hvV
        have a1' : S.2.1 8 v = nI s2 := a1
        rw [a1', m1]
        rcases h4 with ⟨q1, q2⟩ | ⟨r, hr5, q1, q2, q3⟩
        · have q1' : S.2.1 11 v = -1 := q1
          rw [q1', q2]
          simp only [and_true]
        · have q1' : S.2.1 11 v = nI r := q1
          rw [q1', q2]
          simp only [li_m1 (show r < 2147483648 by omega), sm_10, and_false]
      have cP : sa_an (fun v => decide (S.2.1 8 v = nI s ∧ S.2.1 11 v = 0)) V = sa_an (fun v => decide (S.2.1 88 (1 + v) = nI s ∧ S.2.1 88 (61 + v) = 1 ∧ S.2.1 88 (91 + v) = 0)) V := by
        refine sa_an_cong (fun v hvV => ?_)
        obtain ⟨⟨s2, hs2, a1, m1, -⟩, -, -, h4⟩ := hv v hvV
        have a1' : S.2.1 8 v = nI s2 := a1
        rw [a1', m1]
        rcases h4 with ⟨q1, q2⟩ | ⟨r, hr5, q1, q2, q3⟩
        · have q1' : S.2.1 11 v = -1 := q1
          have z1 : ¬ ((-1 : Int32) = 0) := by decide
          have z2 : ¬ ((0 : Int32) = 1) := by decide
          rw [q1', q2]
          simp only [z1, z2, false_and, and_false]
        · have q1' : S.2.1 11 v = nI r := q1
          rw [q1', q2, q3]
          simp only [true_and]
      rw [cL] at hr
      rw [cO] at hX
      generalize hLe : sa_an (fun v => decide (S.2.1 88 (1 + v) = nI s ∧ ¬ S.2.1 88 (31 + v) ≤ nI dd)) V = late at hr hM
      generalize hOe : sa_an (fun v => decide (S.2.1 88 (1 + v) = nI s ∧ S.2.1 88 (61 + v) = 0)) V = opn at hX hM
      cases late with
      | true =>
        refine ⟨-1, S, si_ps S 87 0 0, ?_, ?_, e⟩
        · rw [hX, if_neg (fun h => absurd (hr.mp h) (by decide))]
        · rw [hM S g2.2.1 rfl, if_pos rfl]
      | false =>
        rw [if_pos (hr.mpr rfl)] at hX
        cases opn with
        | true =>
          refine ⟨-2, S, si_ps S 87 0 0, ?_, ?_, e⟩
          · rw [hX, if_pos rfl]
          · rw [hM S g2.2.1 rfl, if_neg (by decide)]
            rfl
        | false =>
          rw [if_neg (by decide)] at hX
          by_cases hV2 : V < 30
          · -- a visit more
            have h30 : nI V < 30 := (li_ltR (n := 30) (by decide) (by omega)).mpr hV2
            rw [if_pos h30, sv_add hc hV2 (by omega), Option.bind_some, cP] at hX
            generalize sa_an (fun v => decide (S.2.1 88 (1 + v) = nI s ∧ S.2.1 88 (61 + v) = 1 ∧ S.2.1 88 (91 + v) = 0)) V = pas at hX hM
            have ha : f_X0_add F (nI 0) (nI V) (sn_N S V (nI s) (nI dd) (sv_b pas)) = some (sn_A (sn_N S V (nI s) (nI dd) (sv_b pas)) p 0 V d) := sm_add hd hp e0 e1
            have hX2 : f_X9_startVisit F (nI s) (nI dd) S = some (nI V, sn_A (sn_N S V (nI s) (nI dd) (sv_b pas)) p 0 V d) := by
              rw [hX]
              show Option.bind (f_X0_add F (nI 0) (nI V) (sn_N S V (nI s) (nI dd) (sv_b pas))) _ = _
              rw [ha]
              rfl
            generalize hSX : sn_A (sn_N S V (nI s) (nI dd) (sv_b pas)) p 0 V d = SX at hX2
            have x88 : SX.2.1 88 = S.2.1 88 := by rw [← hSX]; rfl
            have x110 : SX.2.1 110 = S.2.1 110 := by rw [← hSX]; rfl
            have x41 : (si_ps SX 87 0 0).1 87 41 = nI d := by rw [← hSX]; exact e2
            obtain ⟨K, hK, k1, k2, k3, k4, k5, k6⟩ := sm_keepsU (F := F) hd hF x41
            have k3' : ∀ r, r ≠ 110 → K.2.1 r = SX.2.1 r := k3
            have hM2 : f_X10_startVisit F (nI s) (nI dd) SX = some (nI V, sn_NM K V (nI s) (nI dd) (sv_b pas)) := by
              rw [hM SX (by rw [← hSX]; exact g2.2.1) x88, if_neg (by decide)]
              exact sv_madd hK (by show SX.2.1 88 0 = _; rw [x88]; exact hn) (by rw [k3' 88 (by decide), x88]; exact hn) hV2
            refine ⟨nI V, SX, _, hX2, hM2, u, mk, ?_⟩
            generalize hSM : sn_NM K V (nI s) (nI dd) (sv_b pas) = SM
            have m1 : ∀ a b, SM.1 a b = K.1 a b := by rw [← hSM]; exact fun _ _ => rfl
            have m2 : ∀ r, r ≠ 88 → SM.2.1 r = K.2.1 r := by
              intro r hr
              rw [← hSM]
              unfold sn_NM
              rw [pa_o hr, pa_o hr, pa_o hr, pa_o hr, pa_o hr, pa_o hr, pa_o hr]
            have m3 : ∀ i, i ≠ 0 → i ≠ 1 + V → i ≠ 31 + V → i ≠ 61 + V → i ≠ 91 + V → i ≠ 121 + V → i ≠ 151 + V → SM.2.1 88 i = S.2.1 88 i := by
              intro i h1 h2 h3 h4 h5 h6 h7
              rw [← hSM]
              unfold sn_NM
              rw [pa_s h1, pa_s h7, pa_s h6, pa_s h5, pa_s h4, pa_s h3, pa_s h2, k3' 88 (by decide), x88]
            have xo : ∀ r, r ≠ 88 → r ≠ 110 → r ≠ 22 → r ≠ 23 → SM.2.1 r = (sn_N S V (nI s) (nI dd) (sv_b pas)).2.1 r := by
              intro r h1 h2 h3 h4
              rw [m2 r h1, k3' r h2, ← hSX]
              unfold sn_A
              rw [ps_2, ps_2, pa_o h4, pa_o h3]
            have nA : ∀ j i, 1 ≤ j → j ≤ 8 → (j ≤ 5 → i ≠ V) → SM.2.1 (7 + j) i = S.2.1 (7 + j) i := by
              intro j i h1 h2 h3
              rw [xo _ (by omega) (by omega) (by omega) (by omega)]
              unfold sn_N
              rw [ps_2]
              have hj : j = 1 ∨ j = 2 ∨ j = 3 ∨ j = 4 ∨ j = 5 ∨ 6 ≤ j := by omega
              rcases hj with rfl | rfl | rfl | rfl | rfl | hj
              · rw [pa_o (by decide), pa_o (by decide), pa_o (by decide), pa_o (by decide), pa_s (h3 (by decide))]
              · rw [pa_o (by decide), pa_o (by decide), pa_o (by decide), pa_s (h3 (by decide)), pa_o (by decide)]
              · rw [pa_o (by decide), pa_o (by decide), pa_s (h3 (by decide)), pa_o (by decide), pa_o (by decide)]
              · rw [pa_o (by decide), pa_s (h3 (by decide)), pa_o (by decide), pa_o (by decide), pa_o (by decide)]
              · rw [pa_s (h3 (by decide)), pa_o (by decide), pa_o (by decide), pa_o (by decide), pa_o (by decide)]
              · rw [pa_o (by omega), pa_o (by omega), pa_o (by omega), pa_o (by omega), pa_o (by omega)]
            have nW : ∀ j, 1 ≤ j → j ≤ 4 → SM.2.1 (16 + j) = S.2.1 (16 + j) := by
              intro j h1 h2
              rw [xo _ (by omega) (by omega) (by omega) (by omega)]
              unfold sn_N
              rw [ps_2, pa_o (by omega), pa_o (by omega), pa_o (by omega), pa_o (by omega), pa_o (by omega)]
            have n8 : SM.2.1 8 V = nI s ∧ SM.2.1 9 V = nI dd ∧ SM.2.1 10 V = sv_b pas ∧ SM.2.1 11 V = -1 ∧ SM.2.1 12 V = nI 0 := by
              refine ⟨?_, ?_, ?_, ?_, ?_⟩ <;> rw [xo _ (by decide) (by decide) (by decide) (by decide)] <;> unfold sn_N <;> rw [ps_2]
              · rw [pa_o (by decide), pa_o (by decide), pa_o (by decide), pa_o (by decide), pa_e]
              · rw [pa_o (by decide), pa_o (by decide), pa_o (by decide), pa_e]
              · rw [pa_o (by decide), pa_o (by decide), pa_e]
              · rw [pa_o (by decide), pa_e]
              · rw [pa_e]
                rfl
            have w8 : SM.2.1 88 0 = nI (V + 1) ∧ SM.2.1 88 (1 + V) = nI s ∧ SM.2.1 88 (31 + V) = nI dd ∧ SM.2.1 88 (61 + V) = 0 ∧ SM.2.1 88 (121 + V) = sv_b pas ∧ SM.2.1 88 (151 + V) = nI 0 := by
              rw [← hSM]
              unfold sn_NM
              refine ⟨pa_e, ?_, ?_, ?_, ?_, ?_⟩
              · rw [pa_s (by omega), pa_s (by omega), pa_s (by omega), pa_s (by omega), pa_s (by omega), pa_s (by omega), pa_e]
              · rw [pa_s (by omega), pa_s (by omega), pa_s (by omega), pa_s (by omega), pa_s (by omega), pa_e]
              · rw [pa_s (by omega), pa_s (by omega), pa_s (by omega), pa_s (by omega), pa_e]
              · rw [pa_s (by omega), pa_s (by omega), pa_e]
              · rw [pa_s (by omega), pa_e]
                rfl
            have s7 : SM.1 7 0 = nI (V + 1) := by
              rw [m1, k1 7 0 (by omega), ← hSX]
              rfl
            have sd0 : SM.1 21 0 = nI (min (d + 1) 12) := by
              rw [m1, k1 21 0 (by omega), ← hSX]
              rfl
            have sd1 : SM.1 21 1 = nI ((p + 1) % 12) := by
              rw [m1, k1 21 1 (by omega), ← hSX]
              rfl
            have sd2 : SM.1 87 41 = nI (min (d + 1) 12) := by rw [m1, k2]
            have eSE : iv_sE iv_xsV iv_xaV S SM := by
              refine ⟨fun a b hab hx => ?_, fun r hr hx => ?_, ?_, ?_, ?_, ?_⟩
              · rw [m1, k1 a b (fun h => hx (by rw [h.1, h.2]; decide)), ← hSX]
                unfold sn_A sn_N
                rw [ps_o (fun h => by rw [h.1, h.2] at hab; exact absurd hab (by decide)), ps_o (fun h => hx (by rw [h.1, h.2]; decide)), ps_o (fun h => hx (by rw [h.1, h.2]; decide)), pa_1, pa_1, ps_o (fun h => hx (by rw [h.1, h.2]; decide))]
                rfl
              · have q : ∀ z, z ∈ iv_xaV → r ≠ z := fun z hz h => hx (h ▸ hz)
                rw [xo r (q _ (by decide)) (q _ (by decide)) (q _ (by decide)) (q _ (by decide))]
                unfold sn_N
                rw [ps_2, pa_o (q _ (by decide)), pa_o (q _ (by decide)), pa_o (q _ (by decide)), pa_o (q _ (by decide)), pa_o (q _ (by decide))]
              all_goals
                have k4' : SM.2.2 = S.2.2 := by
                  rw [← hSM]
                  show K.2.2 = S.2.2
                  rw [k4, ← hSX]
                  rfl
                rw [k4']
            have hv' : iv_view u (nI (V + 1)) (fun j => SM.2.1 (7 + j)) (fun j => SM.2.1 (16 + j)) (SM.2.1 88) := by
              refine ⟨⟨V + 1, by omega, rfl, w8.1, fun v hvV => ?_⟩, fun k hk => ?_⟩
              · by_cases hvv : v = V
                · subst hvv
                  refine ⟨⟨s, hs, n8.1, w8.2.1, 0, by decide, n8.2.2.2.2, w8.2.2.2.2.2, fun t ht => absurd ht (Nat.not_lt_zero t)⟩, ⟨dd, by omega, n8.2.1, w8.2.2.1⟩, ?_, Or.inl ⟨n8.2.2.2.1, w8.2.2.2.1⟩⟩
                  cases pas
                  · exact ⟨0, by decide, n8.2.2.1, w8.2.2.2.2.1⟩
                  · exact ⟨1, by decide, n8.2.2.1, w8.2.2.2.2.1⟩
                · obtain ⟨⟨s2, hs2, a1, b1, n, hn8, a5, b5, ht⟩, ⟨d2, hd2, a2, b2⟩, ⟨bb, hbb, a3, b3⟩, h4⟩ := hv v (by omega)
                  have A : ∀ j, 1 ≤ j → j ≤ 5 → SM.2.1 (7 + j) v = S.2.1 (7 + j) v := fun j h1 h2 => nA j v h1 (by omega) (fun _ => hvv)
                  refine ⟨⟨s2, hs2, (A 1 (by decide) (by decide)).trans a1, (m3 _ (by omega) (by omega) (by omega) (by omega) (by omega) (by omega) (by omega)).trans b1, n, hn8, (A 5 (by decide) (by decide)).trans a5, (m3 _ (by omega) (by omega) (by omega) (by omega) (by omega) (by omega) (by omega)).trans b5, fun t htn => ?_⟩, ⟨d2, hd2, (A 2 (by decide) (by decide)).trans a2, (m3 _ (by omega) (by omega) (by omega) (by omega) (by omega) (by omega) (by omega)).trans b2⟩, ⟨bb, hbb, (A 3 (by decide) (by decide)).trans a3, (m3 _ (by omega) (by omega) (by omega) (by omega) (by omega) (by omega) (by omega)).trans b3⟩, ?_⟩
                  · obtain ⟨st, p1, p2, p3, p4, p5, p6, p7, p8⟩ := ht t htn
                    have q4 := m3 (421 + (8 * v + t)) (by omega) (by omega) (by omega) (by omega) (by omega) (by omega) (by omega)
                    rw [q4]
                    exact ⟨st, p1, p2, (nA 6 _ (by decide) (by decide) (by omega)).trans p3, (m3 _ (by omega) (by omega) (by omega) (by omega) (by omega) (by omega) (by omega)).trans p4, (nA 7 _ (by decide) (by decide) (by omega)).trans p5, p6, p7, (nA 8 _ (by decide) (by decide) (by omega)).trans p8⟩
                  · rcases h4 with ⟨q1, q2⟩ | ⟨r, hr5, q1, q2, q3⟩
                    · exact Or.inl ⟨(A 4 (by decide) (by decide)).trans q1, (m3 _ (by omega) (by omega) (by omega) (by omega) (by omega) (by omega) (by omega)).trans q2⟩
                    · exact Or.inr ⟨r, hr5, (A 4 (by decide) (by decide)).trans q1, (m3 _ (by omega) (by omega) (by omega) (by omega) (by omega) (by omega) (by omega)).trans q2, (m3 _ (by omega) (by omega) (by omega) (by omega) (by omega) (by omega) (by omega)).trans q3⟩
              · obtain ⟨hh, l, g, w, a1, b1, a2, b2, a3, b3, a4, b4, hrest⟩ := hq k hk
                exact ⟨hh, l, g, w, (congrFun (nW 1 (by decide) (by decide)) k).trans a1, (m3 _ (by omega) (by omega) (by omega) (by omega) (by omega) (by omega) (by omega)).trans b1, (congrFun (nW 2 (by decide) (by decide)) k).trans a2, (m3 _ (by omega) (by omega) (by omega) (by omega) (by omega) (by omega) (by omega)).trans b2, (congrFun (nW 3 (by decide) (by decide)) k).trans a3, (m3 _ (by omega) (by omega) (by omega) (by omega) (by omega) (by omega) (by omega)).trans b3, (congrFun (nW 4 (by decide) (by decide)) k).trans a4, (m3 _ (by omega) (by omega) (by omega) (by omega) (by omega) (by omega) (by omega)).trans b4, hrest⟩
            rw [hc] at hch g7
            have hpp : ((p + 1) % 12 + 11) % 12 = p := by omega
            have h22 : SM.2.1 22 p = nI 0 ∧ SM.2.1 23 p = nI V := by
              refine ⟨?_, ?_⟩ <;> rw [m2 _ (by decide), k3' _ (by decide), ← hSX] <;> unfold sn_A <;> rw [ps_2, ps_2]
              · rw [pa_o (by decide), pa_e]
              · rw [pa_e]
            have h22o : ∀ j i, j < 5 → i ≠ p → i < 12 → SM.2.1 (22 + j) i = S.2.1 (22 + j) i := by
              intro j i hj hi _
              rw [m2 _ (by omega), k3' _ (by omega), ← hSX]
              unfold sn_A sn_N
              rw [ps_2, ps_2]
              have hj2 : j = 0 ∨ j = 1 ∨ 2 ≤ j := by omega
              rcases hj2 with rfl | rfl | hj2
              · rw [pa_o (by decide), pa_s hi]
                rfl
              · rw [pa_s hi, pa_o (by decide)]
                rfl
              · rw [pa_o (by omega), pa_o (by omega), ps_2, pa_o (by omega), pa_o (by omega), pa_o (by omega), pa_o (by omega), pa_o (by omega)]
            refine ⟨hmk.go eSE, iv_at.goV hm.2 hat eSE (by rw [s7]; exact hv') ?_⟩
            rw [sd0, sd1, sd2, s7]
            refine iv_hist.push hu4 hd hp h22o hch g7 (iv_eq.of g7 hV (fun v hvV => ⟨fun j h1 h2 => nA j v h1 (by omega) (fun _ => by omega), fun t j _ h1 h2 => nA j _ (by omega) h2 (by omega)⟩) (fun j i h1 h2 _ => congrFun (nW j h1 h2) i)) ?_ ?_ ?_
            · intro und2 n hv2 hc2
              refine ⟨0, V, ?_, ?_, Or.inl ⟨rfl, rfl, hv2, ?_⟩⟩
              · rw [hpp]; exact h22.1
              · rw [hpp]; exact h22.2
              · rw [hpp]; exact hc2
            · intro hd2
              obtain ⟨A, B⟩ := k5 hd2
              refine ⟨fun j i hj hi => ?_, fun i hi => ?_⟩
              · rw [m2 _ (by decide), A j i hj hi]
                show SX.2.1 110 _ = _
                rw [x110]
              · rw [m2 _ (by decide), B i hi]
                show SX.2.1 88 _ = _
                rw [x88]
            · intro hd2
              obtain ⟨A, B⟩ := k6 hd2
              refine ⟨fun j i hj hi => ?_, fun i hi => ?_⟩
              · rw [m2 _ (by decide), A j i hj hi]
                show SX.2.1 110 _ = _
                rw [x110]
              · rw [m2 _ (by decide), B i hi]
                show SX.2.1 88 _ = _
                rw [x88]
          · -- no room
            have hV3 : V = 30 := by omega
            subst hV3
            refine ⟨-3, S, si_ps S 87 0 0, ?_, ?_, e⟩
            · rw [hX, if_neg (by decide)]
            · rw [hM S g2.2.1 rfl, if_neg (by decide)]
              unfold sv_E
              rw [if_pos (show sv_b false = 0 from rfl), rd_88z, Option.bind_some, hc88, if_pos (by decide)]
    · refine ⟨-1, S, si_ps S 87 0 0, ?_, ?_, e⟩
      · unfold f_X9_startVisit f_X9_startVisit_h27
        rw [f9_hasScale hm.1 hs1 hN, if_pos (sm_in hs hN)]
        simp only [Option.bind_some, if_neg sm_10, f9_isDay, if_neg hno, if_pos]
      · unfold f_X10_startVisit f_X10_startVisit_h25
        rw [iv_pt0, Option.bind_some, f10_isScale (S := si_ps S 87 0 0) (n := u 1 0) g2.2.1 hN, if_pos (sm_in hs hN)]
        simp only [Option.bind_some, if_neg sm_10, sm_hasL 10000 (c := 9999) (by decide) (by decide), if_neg hno, if_pos]
  · refine ⟨-1, S, si_ps S 87 0 0, ?_, ?_, e⟩
    · unfold f_X9_startVisit f_X9_startVisit_h27
      rw [f9_hasScale hm.1 hs1 hN, if_neg hno]
      rfl
    · unfold f_X10_startVisit f_X10_startVisit_h25
      rw [iv_pt0, Option.bind_some, f10_isScale (S := si_ps S 87 0 0) (n := u 1 0) g2.2.1 hN, if_neg hno]
      rfl
