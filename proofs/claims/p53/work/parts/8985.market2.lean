theorem one_ne : (1 : Int32) ≠ 0 := by decide
theorem mk_set {F N : Nat} (hF : 10 ≤ F) (hN : N ≤ 1000) {j : Nat} (hj : j < N) (r : Int32 → si_St → Option si_St) {S : si_St} {T : List Nat} {f g : Nat → Int32} (h : mR S T 95 (2 * N) f g) (g3 : g 3 ≠ 0) (hT : T.length ≤ 390) : ∃ a b, 2 ≤ a ∧ a ≤ 7 ∧ b ≤ 1 ∧ ∃ S', f_L_market_h397 F r (nI (2 * j)) S = r (nI (2 * (j + 1))) S' ∧ mR S' (T ++ stx (3, [a, b])) 95 (2 * N) (fun i => if i = 2 * j + 1 then nI b else if i = 2 * j then nI a else f i) g ∧ dn CM 3 3000 S S' := by
  unfold f_L_market_h397
  rw [if_neg (not_not_intro (h.g 3 g3)), h.al, Option.bind_some, if_neg (fun h => by have := (nI_leI (by omega) (by omega)).mp h; omega), if_neg (not_not_intro (h.g 3 g3))]
  obtain ⟨a, S1, ha, e1, h1, d1⟩ := h.draw (F := F) (m := 6) mK5 (by decide) (by decide)
  have e1 : f_L_draw F 91 6 S = some (nI a, S1) := e1
  rw [e1, Option.bind_some]
  unfold f_L_market_h418
  dsimp only
  have e2a : (2 : Int32) + nI a = nI (2 + a) := nI_add 2 a
  obtain ⟨e2, h2, d2⟩ := h1.wr (i := 2 * j) (v := nI (2 + a)) mK5 (by omega) (by omega)
  obtain ⟨b, S3, hb, e3, h3, d3⟩ := h2.draw (F := F) (m := 2) mK5 (by decide) (by decide)
  have e3 : f_L_draw F 91 2 (si_pa S1 95 (2 * j) (nI (2 + a))) = some (nI b, S3) := e3
  rw [e2a, e2, Option.bind_some, if_neg (not_not_intro (h2.g 3 g3)), e3, Option.bind_some]
  unfold f_L_market_h432
  dsimp only
  obtain ⟨e4, h4, d4⟩ := h3.wr (i := 2 * j + 1) (v := nI b) mK5 (by omega) (by omega)
  obtain ⟨S5, e5, h5, d5⟩ := h4.str (F := F) (g0 := 13) mK5 (by decide) (by decide) (by omega)
  rw [nI_1, e4, Option.bind_some, if_neg (not_not_intro h4.o), e5, Option.bind_some]
  unfold f_L_market_h439
  have k1 := dgs_len (2 + a)
  have hl13 : (tx 13).length = 4 := rfl
  obtain ⟨S6, e6, h6, d6⟩ := h5.int (F := F) (x := 2 + a) mK5 hF (by omega) (by rw [List.length_append]; omega)
  rw [if_neg (not_not_intro (h5.g 3 g3)), h5.rd (i := 2 * j) (by omega) (by omega), Option.bind_some]
  simp only [if_neg (by omega : ¬ 2 * j = 2 * j + 1), if_true]
  rw [if_neg (not_not_intro h5.o), e6, Option.bind_some]
  unfold f_L_market_h448
  rw [if_neg (not_not_intro (h6.g 3 g3)), nI_1, h6.rd (i := 2 * j + 1) (by omega) (by omega), Option.bind_some]
  simp only [if_true]
  obtain ⟨q, hq⟩ : ∃ q, q = (if b = 1 then 14 else 15) := ⟨_, rfl⟩
  have hd : (if nI b = 1 then f_L_market_h467 F r (nI (2 * j)) 14 S6 else f_L_market_h467 F r (nI (2 * j)) 15 S6) = f_L_market_h467 F r (nI (2 * j)) q S6 := by
    by_cases h9 : b = 1
    · rw [if_pos (by rw [h9]; rfl), hq, if_pos h9]
    · rw [if_neg (show ¬ nI b = (1 : Int32) from fun (h : nI b = nI 1) => h9 ((nI_eq (by omega) (by decide)).mp h)), hq, if_neg h9]
  have hq1 : q = 14 ∨ q = 15 := by
    rw [hq]
    split
    · exact Or.inl rfl
    · exact Or.inr rfl
  rw [hd]
  unfold f_L_market_h467 f_L_market_h470
  obtain ⟨S7, e7, h7, d7⟩ := h6.str (F := F) (g0 := q) mK5 (by omega) (by omega) (by simp only [List.length_append]; omega)
  rw [if_neg (not_not_intro h6.o), e7, Option.bind_some, Option.bind_some, nI_add2]
  have hx : T ++ tx 13 ++ dgs (2 + a) ++ tx q = T ++ stx (3, [2 + a, b]) := by
    show _ = T ++ (tx 13 ++ dgs (2 + a) ++ tx (if b = 1 then 14 else 15))
    rw [← hq]
    simp only [List.append_assoc]
  rw [hx] at h7
  exact ⟨2 + a, b, by omega, by omega, by omega, S7, rfl, h7, ((d1.cm (by decide)).tr ((d2.cm (by decide)).tr ((d3.cm (by decide)).tr ((d4.cm (by decide)).tr ((d5.cm (by decide)).tr ((d6.cm (by decide)).tr (d7.cm (by decide)))))))).up (by omega) (by omega)⟩
theorem mk_se {F N : Nat} (hF : 10 ≤ F) (hN : N ≤ 1000) : ∀ m n j (S : si_St) (T : List Nat) (f g : Nat → Int32), N = j + m → m < n → mR S T 95 (2 * N) f g → g 3 ≠ 0 → g 4 = 0 → T.length + 30 * m ≤ 390 → ∃ se : List (Nat × Nat), se.length = m ∧ (∀ x ∈ se, 2 ≤ x.1 ∧ x.1 ≤ 7 ∧ x.2 ≤ 1) ∧ ∃ S' f', f_L_market_l397 F n (nI (2 * j)) S = f_L_market_h481 F (sd_mkA S' 96 3) ∧ mR S' (T ++ (se.map fun x => (3, [x.1, x.2])).flatMap stx) 95 (2 * N) f' g ∧ (∀ i, i < 2 * j → f' i = f i) ∧ (∀ i, i < m → f' (2 * (j + i)) = nI (se.getD i (0, 0)).1 ∧ f' (2 * (j + i) + 1) = nI (se.getD i (0, 0)).2) ∧ dn CM (3 * m) (3000 * m) S S' := by
  intro m
  induction m with
  | zero =>
    intro n j S T f g htj hmn h g3 g4 hT
    obtain ⟨n, rfl⟩ : ∃ k, n = k + 1 := ⟨n - 1, by omega⟩
    unfold f_L_market_l397 f_L_market_h397
    rw [if_neg (not_not_intro (h.g 3 g3)), h.al, Option.bind_some, if_pos (nI_le (by omega) (by omega))]
    obtain ⟨e, -, -⟩ := h.na (k2 := 96) (n2 := 3) (j2 := 4) rfl (by decide) (by decide) g4 (by decide)
    have e : sd_na S 96 3 = some (sd_mkA S 96 3) := e
    rw [e, Option.bind_some]
    refine ⟨[], rfl, fun x hx => absurd hx (List.not_mem_nil), S, f, rfl, ?_, fun i _ => rfl, fun i hi => absurd hi (Nat.not_lt_zero _), dn.rf.up (by omega) (by omega)⟩
    rw [List.map_nil, List.flatMap_nil, List.append_nil]
    exact h
  | succ m ih =>
    intro n j S T f g htj hmn h g3 g4 hT
    obtain ⟨n, rfl⟩ : ∃ k, n = k + 1 := ⟨n - 1, by omega⟩
    unfold f_L_market_l397
    obtain ⟨a, b, ha, ha2, hb, S1, e1, h1, d1⟩ := mk_set (F := F) hF hN (j := j) (by omega) (f_L_market_l397 F n) h g3 (by omega)
    have hl := stx_len (t := 0) (x := (3, [a, b])) ⟨ha, ha2, hb⟩
    obtain ⟨se, hm, hall, S', f', e, h', hlo, hhi, d⟩ := ih n (j + 1) S1 (T ++ stx (3, [a, b])) _ g (by omega) (by omega) h1 g3 g4 (by rw [List.length_append]; omega)
    refine ⟨(a, b) :: se, by rw [List.length_cons, hm], fun y hy => ?_, S', f', e1.trans e, ?_, fun i hi => ?_, fun i hi => ?_, (d1.tr d).up (by omega) (by omega)⟩
    · rcases List.mem_cons.mp hy with h9 | h9
      · rw [h9]; exact ⟨ha, ha2, hb⟩
      · exact hall y h9
    · rw [List.map_cons, List.flatMap_cons, ← List.append_assoc]
      exact h'
    · rw [hlo i (by omega), if_neg (by omega), if_neg (by omega)]
    · cases i with
      | zero =>
        rw [hlo _ (by omega), hlo _ (by omega), if_neg (by omega), if_pos (by omega), if_pos (by omega)]
        exact ⟨rfl, rfl⟩
      | succ i =>
        have := hhi i (by omega)
        rw [show j + 1 + i = j + (i + 1) by omega] at this
        exact this
-- the whole of market, from a builder with nothing in it
def MST (t : Nat) (ms : List (Nat × List Nat)) (se : List (Nat × Nat)) (tm : List Nat) : List (Nat × List Nat) := List.replicate t (0, []) ++ (ms ++ ((se.map fun x => (3, [x.1, x.2])) ++ tm.map fun d => (4, [d])))
def okM (t : Nat) (ms : List (Nat × List Nat)) (se : List (Nat × Nat)) (tm : List Nat) : Prop := (1 ≤ t ∧ t ≤ 3) ∧ (∃ sc ma, ms = sc ++ ma ∧ (1 ≤ sc.length ∧ sc.length ≤ 4) ∧ (ma.length ≤ 6) ∧ (∀ x ∈ sc, okS t x ∧ ∃ a b c d, x = (1, [a, b, c, d])) ∧ (∀ x ∈ ma, okS t x ∧ ∃ a b c, x = (2, [a, b, c]))) ∧ ((1 ≤ se.length ∧ se.length ≤ 2) ∧ ∀ x ∈ se, 2 ≤ x.1 ∧ x.1 ≤ 7 ∧ x.2 ≤ 1) ∧ tm.length ≤ 1 ∧ ∀ d ∈ tm, 1 ≤ d ∧ d ≤ 5
theorem mk_end {F : Nat} (hF : 10 ≤ F) {S0 : si_St} {T : List Nat} {f g : Nat → Int32} {N : Nat} (h : mR S0 T 95 (2 * N) f g) (g4 : g 4 = 0) (g3 : g 3 = 1) (hN : N ≤ 100) (hT : T.length ≤ 385) : ∃ tm : List Nat, tm.length ≤ 1 ∧ (∀ d ∈ tm, 1 ≤ d ∧ d ≤ 5) ∧ ∃ S', f_L_market_h481 F (sd_mkA S0 96 3) = some S' ∧ bd S' (T ++ (tm.map fun d => (4, [d])).flatMap stx) ∧ (sd_ok S' 92 ∧ S'.1 92 3 = 1) ∧ (sd_ok S' 95 ∧ sd_ln S' 95 = 2 * N ∧ S'.2.1 95 = f) ∧ dn CM 4 4000 S0 S' := by
  obtain ⟨-, h0, d0⟩ := h.na (k2 := 96) (n2 := 3) (j2 := 4) rfl (by decide) (by decide) g4 (by decide)
  unfold f_L_market_h481
  obtain ⟨e1, h1, d1⟩ := h0.wr (i := 0) (v := 2) mK6 (by decide) (by decide)
  obtain ⟨e2, h2, d2⟩ := h1.wr (i := 1) (v := 2) mK6 (by decide) (by decide)
  obtain ⟨e3, h3, d3⟩ := h2.wr (i := 2) (v := 2) mK6 (by decide) (by decide)
  obtain ⟨e4, h4, d4⟩ := h3.pi (j2 := 4) (v := 1) mK6
  have e1 : sd_wr (sd_mkA S0 96 3) 96 0 2 = some (si_pa (sd_mkA S0 96 3) 96 0 2) := e1
  obtain ⟨S1, hS1⟩ : ∃ S1, S1 = si_pa (sd_mkA S0 96 3) 96 0 2 := ⟨_, rfl⟩
  rw [← hS1] at e1 h1 d1 e2 h2 d2 e3 h3 d3 e4 h4 d4
  have e2 : sd_wr S1 96 1 2 = some (si_pa S1 96 1 2) := e2
  obtain ⟨S2, hS2⟩ : ∃ S2, S2 = si_pa S1 96 1 2 := ⟨_, rfl⟩
  rw [← hS2] at e2 h2 d2 e3 h3 d3 e4 h4 d4
  have e3 : sd_wr S2 96 2 2 = some (si_pa S2 96 2 2) := e3
  rw [e1, Option.bind_some, e2, Option.bind_some, e3, Option.bind_some, e4, Option.bind_some]
  obtain ⟨v, S5, hv, e5, h5, d5⟩ := h4.draw (F := F) (m := 2) mK6 (by decide) (by decide)
  have e5 : f_L_draw F 91 2 (si_ps (si_pa S2 96 2 2) 92 4 1) = some (nI v, S5) := e5
  rw [e5, Option.bind_some]
  have cm5 : ∀ {a b : Nat} {C : List Nat} {S S' : si_St}, dn C a b S S' → (∀ k ∈ C, k ∈ [87, 88, 91, 92, 96, 100]) → dn [87, 88, 91, 92, 96, 100] a b S S' := fun d hs => d.mo hs (Nat.le_refl _) (Nat.le_refl _)
  have D5 : dn [87, 88, 91, 92, 96, 100] 1 3 S0 S5 := ((cm5 d0 (by decide)).tr ((cm5 d1 (by decide)).tr ((cm5 d2 (by decide)).tr ((cm5 d3 (by decide)).tr ((cm5 d4 (by decide)).tr (cm5 d5 (by decide))))))).up (by omega) (by omega)
  have fin : ∀ (S' : si_St) (a b : Nat) (g' : Nat → Int32), dn [87, 88, 91, 92, 96, 100] a b S0 S' → (sd_ok S' 92 ∧ ∀ j, S'.1 92 j = g' j) → g' 3 = 1 → (sd_ok S' 92 ∧ S'.1 92 3 = 1) ∧ (sd_ok S' 95 ∧ sd_ln S' 95 = 2 * N ∧ S'.2.1 95 = f) := fun S' a b g' d hg hg3 => ⟨⟨hg.1, (hg.2 3).trans hg3⟩, d.ok (by decide) h.2.2.2.1, (d.2.2.1 95 (by decide) (by decide)).1.trans h.2.2.2.2.1, (d.1 95 (by decide)).2.1.trans h.2.2.2.2.2⟩
  unfold f_L_market_h501
  dsimp only
  by_cases hv0 : v = 0
  · rw [if_pos (by rw [hv0]; rfl), if_neg (not_not_intro (h5.g 4 one_ne))]
    obtain ⟨w, S6, hw, e6, h6, d6⟩ := h5.draw (F := F) (m := 5) mK6 (by decide) (by decide)
    have e6 : f_L_draw F 91 5 S5 = some (nI w, S6) := e6
    rw [e6, Option.bind_some]
    unfold f_L_market_h515
    dsimp only
    obtain ⟨e7, h7, d7⟩ := h6.wr (i := 1) (v := nI (1 + w)) mK6 (by decide) (by decide)
    have e7 : sd_wr S6 96 1 (nI (1 + w)) = some (si_pa S6 96 1 (nI (1 + w))) := e7
    obtain ⟨S8, e8, h8, d8⟩ := h7.str (F := F) (g0 := 16) mK6 (by decide) (by decide) (by omega)
    rw [nI_1a, e7, Option.bind_some, if_neg (not_not_intro h7.o), e8, Option.bind_some]
    unfold f_L_market_h523
    have hr := h8.rd (i := 1) (by decide) (by decide)
    have hr : sd_rd S8 96 1 = some (nI (1 + w)) := hr
    have hl16 : (tx 16).length = 7 := rfl
    have k1 := dgs_len (1 + w)
    obtain ⟨S9, e9, h9, d9⟩ := h8.int (F := F) (x := 1 + w) mK6 hF (by omega) (by rw [List.length_append]; omega)
    rw [if_neg (not_not_intro (h8.g 4 one_ne)), hr, Option.bind_some, if_neg (not_not_intro h8.o), e9, Option.bind_some]
    unfold f_L_market_h532 f_L_market_h537 f_L_market_h538
    obtain ⟨S10, e10, h10, d10⟩ := h9.chr (F := F) (c := 59) mK6 (by decide) (by simp only [List.length_append]; omega)
    have e10 : f_J4_append_cf468 F 59 S9 = some S10 := e10
    rw [if_neg (not_not_intro h9.o), e10, Option.bind_some]
    have D10 : dn [87, 88, 91, 92, 96, 100] 4 4000 S0 S10 := (D5.tr ((cm5 d6 (by decide)).tr ((cm5 d7 (by decide)).tr ((cm5 d8 (by decide)).tr ((cm5 d9 (by decide)).tr (cm5 d10 (by decide))))))).up (by omega) (by omega)
    have hx : T ++ tx 16 ++ dgs (1 + w) ++ [59] = T ++ ([1 + w].map fun d => (4, [d])).flatMap stx := by
      show _ = T ++ ((tx 16 ++ dgs (1 + w) ++ [59]) ++ [])
      simp only [List.append_assoc, List.append_nil]
    rw [hx] at h10
    obtain ⟨a1, a2⟩ := fin S10 _ _ _ D10 h10.2.2.1 g3
    exact ⟨[1 + w], Nat.le_refl 1, fun d hd => by rw [List.mem_singleton.mp hd]; omega, S10, rfl, h10.1, a1, a2, D10.cm (by decide)⟩
  · rw [if_neg (nI_ne0 (by omega) (by omega))]
    unfold f_L_market_h538
    obtain ⟨a1, a2⟩ := fin S5 _ _ _ D5 h5.2.2.1 g3
    refine ⟨[], by decide, fun d hd => absurd hd (List.not_mem_nil), S5, rfl, ?_, a1, a2, (D5.cm (by decide)).up (by omega) (by omega)⟩
    rw [List.map_nil, List.flatMap_nil, List.append_nil]
    exact h5.1
theorem mk_all {F : Nat} {S : si_St} (hF : 10 ≤ F) (hb : bd S []) (o91 : sd_ok S 91) (l91 : sd_ln S 91 = 1) : ∃ t ms se tm, okM t ms se tm ∧ ∃ S', f_L_market F S = some S' ∧ bd S' ((MST t ms se tm).flatMap stx) ∧ (sd_ok S' 92 ∧ S'.1 92 3 = 1) ∧ (sd_ok S' 95 ∧ sd_ln S' 95 = 2 * se.length ∧ ∀ i, i < se.length → S'.2.1 95 (2 * i) = nI (se.getD i (0, 0)).1 ∧ S'.2.1 95 (2 * i + 1) = nI (se.getD i (0, 0)).2) ∧ dn CM 100 100000 S S' := by
  unfold f_L_market f_L_market_h0 f_L_market_h3 f_L_market_h7 f_L_market_h15
  have hfr : sd_frb S 92 = true := dr_frb (by decide) (by decide) hb.2.2.2.2.2.2 ⟨by omega, by omega, by omega, by omega, by omega, by omega⟩
  have e0 : sd_no S 92 5 = some (sd_mkO S 92 5) := if_pos hfr
  obtain ⟨S1, hS1⟩ : ∃ S1, S1 = sd_mkO S 92 5 := ⟨_, rfl⟩
  rw [← hS1] at e0
  have d1 : dn [92] 1 5 S S1 := by rw [hS1]; exact dn.mkO (by decide) (by decide) (by decide)
  have o92 : sd_ok S1 92 := by rw [hS1]; exact dr_lv_mkO (by decide) (by decide)
  have z92 : ∀ j, S1.1 92 j = 0 := fun j => by rw [hS1]; exact (if_pos rfl : (if 92 = 92 then (0 : Int32) else S.1 92 j) = 0)
  have b1 := hb.go d1 (by decide) (by decide) (by decide)
  have o1 := d1.ok (by decide) o91
  have l1 := ((d1.2.2.1 91 (by decide) (by decide)).1).trans l91
  have ei : f_X10_init F S1 = some S1 := by unfold f_X10_init f_X10_init_h0; rfl
  rw [e0, Option.bind_some, ei, Option.bind_some]
  obtain ⟨v, x, hv, e2⟩ := dw_draw (F := F) (m := 3) o1 l1 (by decide) (by decide)
  have e2 : f_L_draw F 91 3 S1 = some (nI v, si_pa S1 91 0 x) := e2
  obtain ⟨S2, hS2⟩ : ∃ S2, S2 = si_pa S1 91 0 x := ⟨_, rfl⟩
  rw [← hS2] at e2
  have d2 : dn [91] 0 0 S1 S2 := by rw [hS2]; exact dn.pa (by decide)
  have o2 : sd_ok S2 91 := by rw [hS2]; exact o1
  have l2 : sd_ln S2 91 = 1 := by rw [hS2]; exact l1
  have b2 := b1.go d2 (by decide) (by decide) (by decide)
  have o922 := d2.ok (by decide) o92
  have z2 : ∀ j, S2.1 92 j = 0 := fun j => ((d2.1 92 (by decide)).1 j).trans (z92 j)
  rw [e2, Option.bind_some]
  dsimp only
  rw [nI_1a, dr_pi o922, Option.bind_some]
  obtain ⟨S3, hS3⟩ : ∃ S3, S3 = si_ps S2 92 0 (nI (1 + v)) := ⟨_, rfl⟩
  rw [← hS3]
  have d3 : dn [92] 0 0 S2 S3 := by rw [hS3]; exact dn.ps (by decide)
  have b3 := b2.go d3 (by decide) (by decide) (by decide)
  have o3 := d3.ok (by decide) o2
  have l3 := ((d3.2.2.1 91 (by decide) (by decide)).1).trans l2
  have o923 : sd_ok S3 92 := by rw [hS3]; exact o922
  have z3 : ∀ j, S3.1 92 j = if j = 0 then nI (1 + v) else 0 := fun j => by
    rw [hS3]
    by_cases h9 : j = 0
    · rw [h9, ps_e, if_pos rfl]
    · rw [ps_o (by omega), if_neg h9]; exact z2 j
  obtain ⟨S4, u, hu, e4, b4, o4, l4, o924, z4, d4⟩ := mk_tr (F := F) (t := 1 + v) (by omega) (1 + v) F 0 S3 [] (fun _ => 0) (fun j => if j = 0 then nI (1 + v) else 0) (by omega) (by omega) b3 o3 l3 o923 z3 (if_pos rfl) (by show 0 + _ ≤ _; omega)
  have e4 : f_L_market_l21 F F 0 S3 = f_L_market_h50 F (nI u) 1 4 S4 := e4
  rw [e4]
  rw [List.nil_append] at b4
  have hTt : ((List.replicate (1 + v) ((0, []) : Nat × List Nat)).flatMap stx).length ≤ 21 := by
    have key : ∀ v, v < 3 → ((List.replicate (1 + v) ((0, []) : Nat × List Nat)).flatMap stx).length ≤ 21 := by decide
    exact key v hv
  obtain ⟨Tt, hTte⟩ : ∃ Tt, Tt = (List.replicate (1 + v) ((0, []) : Nat × List Nat)).flatMap stx := ⟨_, rfl⟩
  rw [← hTte] at b4 hTt
  -- the scales
  have hm4 : mR S4 Tt 91 1 (S4.2.1 91) (fun j => if j = 0 then nI (1 + v) else 0) := ⟨b4, ⟨o4, l4⟩, ⟨o924, z4⟩, o4, l4, rfl⟩
  unfold f_L_market_h50 f_L_market_h54
  obtain ⟨e5, h5, d5⟩ := hm4.na (k2 := 93) (n2 := 4 * (1 + u)) (j2 := 1) rfl (by decide) (by decide) rfl (by omega)
  obtain ⟨e6, h6, d6⟩ := h5.pi (j2 := 1) (v := 1) mK3
  rw [nI_1a, nI_4m, e5, Option.bind_some, e6, Option.bind_some]
  obtain ⟨sc, hsc, hsc2, S7, w, f7, hw, e7, h7, d7⟩ := mk_sc (F := F) (N := 1 + u) (t := 1 + v) hF (by omega) (by omega) (by omega) (1 + u) F 0 _ Tt _ _ (by omega) (by omega) h6 rfl one_ne (by omega)
  have e7 : f_L_market_l59 F F 0 (si_ps (sd_mkA S4 93 (4 * (1 + u))) 92 1 1) = f_L_market_h220 F (nI w) 3 S7 := e7
  rw [e7]
  have fl : ∀ (ms : List (Nat × List Nat)), (∀ x ∈ ms, (stx x).length ≤ 30) → (ms.flatMap stx).length ≤ 30 * ms.length := fun ms => by
    induction ms with
    | nil => intro _; exact Nat.le_refl _
    | cons x ms ih =>
      intro h
      have h1 := h x (List.mem_cons_self ..)
      have h2 := ih (fun y hy => h y (List.mem_cons_of_mem _ hy))
      rw [List.flatMap_cons, List.length_append, List.length_cons]
      omega
  have hl7 := fl sc (fun x hx => stx_len (hsc2 x hx).1)
  -- the masses
  unfold f_L_market_h220 f_L_market_h223
  obtain ⟨e8, h8, d8⟩ := h7.na (k2 := 94) (n2 := 3 + w) (j2 := 2) rfl (by decide) (by decide) rfl (by omega)
  obtain ⟨e9, h9, d9⟩ := h8.pi (j2 := 2) (v := 1) mK4
  have e8a : (3 : Int32) + nI w = nI (3 + w) := nI_add 3 w
  rw [e8a, e8, Option.bind_some, e9, Option.bind_some]
  obtain ⟨ma, hma, hma2, S10, y, f10, hy, e10, h10, d10⟩ := mk_ms (F := F) (N := 3 + w) hF (by omega) (3 + w) F 0 _ (Tt ++ sc.flatMap stx) _ _ (by omega) (by omega) h9 one_ne (by rw [List.length_append]; omega)
  have e10 : f_L_market_l228 F F 0 (si_ps (sd_mkA S7 94 (3 + w)) 92 2 1) = f_L_market_h388 F (nI y) 1 2 S10 := e10
  rw [e10]
  have hl10 := fl ma (fun x hx => stx_len ((hma2 x hx).1 0))
  unfold f_L_market_h388 f_L_market_h392
  obtain ⟨e11, h11, d11⟩ := h10.na (k2 := 95) (n2 := 2 * (1 + y)) (j2 := 3) rfl (by decide) (by decide) rfl (by omega)
  obtain ⟨e12, h12, d12⟩ := h11.pi (j2 := 3) (v := 1) mK5
  rw [nI_1a, nI_2m, e11, Option.bind_some, e12, Option.bind_some]
  obtain ⟨se, hse, hse2, S13, f13, e13, h13, -, hv13, d13⟩ := mk_se (F := F) (N := 1 + y) hF (by omega) (1 + y) F 0 _ (Tt ++ sc.flatMap stx ++ ma.flatMap stx) _ _ (by omega) (by omega) h12 one_ne rfl (by rw [List.length_append, List.length_append]; omega)
  have e13 : f_L_market_l397 F F 0 (si_ps (sd_mkA S10 95 (2 * (1 + y))) 92 3 1) = f_L_market_h481 F (sd_mkA S13 96 3) := e13
  rw [e13]
  have hl13 := fl (se.map fun x => (3, [x.1, x.2])) (fun x hx => by
    obtain ⟨z, hz, rfl⟩ := List.mem_map.mp hx
    exact stx_len (t := 0) (hse2 z hz))
  rw [List.length_map] at hl13
  obtain ⟨tm, ht1, ht2, S14, e14, b14, o14, r14, d14⟩ := mk_end (F := F) hF h13 rfl rfl (by omega) (by rw [List.length_append, List.length_append, List.length_append]; omega)
  refine ⟨1 + v, sc ++ ma, se, tm, ⟨⟨by omega, by omega⟩, ⟨sc, ma, rfl, ⟨by omega, by omega⟩, by omega, hsc2, fun x hx => ⟨(hma2 x hx).1 _, (hma2 x hx).2⟩⟩, ⟨⟨by omega, by omega⟩, hse2⟩, ht1, ht2⟩, S14, e14, ?_, o14, ⟨r14.1, by rw [r14.2.1, hse], fun i hi => ?_⟩, ?_⟩
  · have hx : Tt ++ sc.flatMap stx ++ ma.flatMap stx ++ (se.map fun x => (3, [x.1, x.2])).flatMap stx ++ (tm.map fun d => (4, [d])).flatMap stx = (MST (1 + v) (sc ++ ma) se tm).flatMap stx := by
      unfold MST
      rw [hTte]
      simp only [List.flatMap_append, List.append_assoc]
    rw [hx] at b14
    exact b14
  · have := hv13 i (by omega)
    rw [Nat.zero_add] at this
    rw [r14.2.2]
    exact this
  · exact ((d1.cm (by decide)).tr ((d2.cm (by decide)).tr ((d3.cm (by decide)).tr (d4.tr ((d5.cm (by decide)).tr ((d6.cm (by decide)).tr (d7.tr ((d8.cm (by decide)).tr ((d9.cm (by decide)).tr (d10.tr ((d11.cm (by decide)).tr ((d12.cm (by decide)).tr (d13.tr d14))))))))))))).up (by omega) (by omega)
