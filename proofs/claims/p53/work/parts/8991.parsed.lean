-- PARSE, ON A TEXT THAT GOES ON WELL
-- the class between two loads
def cl0 (S : si_St) : Prop := ((S.2.2.2 0 = 69 ∧ S.2.2.2 1 = 78) ∨ (S.2.2.2 0 = 78 ∧ S.2.2.2 1 = 69)) ∧ S.1 1 1 = 0 ∧ iv_sv sv_spl sv_mix (S.2.1 66) (S.2.1 67) (S.2.1 68)
-- the class with its sets: of set x the number n, the suspects h and l, and whether it can be genuine
def cls (S : si_St) (q : Nat) (n h l g w : Nat → Nat) : Prop := cl0 S ∧ q ≤ 4 ∧ S.1 (S.2.2.2 0) 3 = nI q ∧ (∀ x, x < q → S.2.1 (S.2.2.2 0 + 6) x = nI (n x) ∧ S.2.1 17 x = nI (h x) ∧ S.2.1 18 x = nI (l x) ∧ S.2.1 19 x = nI (g x) ∧ S.2.1 20 x = nI (w x)) ∧ (∃ d p, d ≤ 12 ∧ p < 12 ∧ S.1 21 0 = nI d ∧ S.1 21 1 = nI p)
theorem parse_ok {F : Nat} {T : List Nat} {S : si_St} {p t : Nat} {ms : List (Nat × List Nat)} {se : List (Nat × Nat)} {tm : List Nat} (hF : 1100 ≤ F) (hT : T.length ≤ 800) (hc : ∀ c ∈ T, c < 128) (hm : (S.2.2.2 0 = 69 ∧ S.2.2.2 1 = 78) ∨ (S.2.2.2 0 = 78 ∧ S.2.2.2 1 = 69)) (hsv : iv_sv sv_spl sv_mix (S.2.1 66) (S.2.1 67) (S.2.1 68)) (hp : T.length ≤ p) (hp2 : p < 2 ^ 20) (hf : fed S T p) (ok : okM t ms se tm) (hTe : T = (MST t ms se tm).flatMap stx) : ∃ S', f_X9_parse F (nI T.length) S = some (0, S') ∧ cls S' se.length (fun x => (se.getD x (0, 0)).1) (fun x => 2 ^ (se.getD x (0, 0)).1 - 1) (fun x => 2 ^ (se.getD x (0, 0)).1 - 1) (fun x => (se.getD x (0, 0)).2) (fun _ => 0) ∧ dn on_X9_parse 0 0 S S' := by
  obtain ⟨k, mk, hk, hmk, hne, r0, r1⟩ : ∃ k mk, (k = 69 ∨ k = 78) ∧ (mk = 69 ∨ mk = 78) ∧ ((mk = 69 ∧ k = 78) ∨ (mk = 78 ∧ k = 69)) ∧ S.2.2.2 0 = mk ∧ S.2.2.2 1 = k := by
    rcases hm with ⟨a, b⟩ | ⟨a, b⟩
    · exact ⟨78, 69, Or.inr rfl, Or.inl rfl, Or.inl ⟨rfl, rfl⟩, a, b⟩
    · exact ⟨69, 78, Or.inl rfl, Or.inr rfl, Or.inr ⟨rfl, rfl⟩, a, b⟩
  have X : cx T.length F (ch T) k := ⟨hT, hF, fun i _ => by have := ch_128 hc i; omega, hk⟩
  obtain ⟨A1, a1, a2, a3⟩ := rm_start (F := F) (k := k) (N := T.length) (c := ch T) (S := S) X (fun i hi => by
    have h128 := ch_128 hc i
    rw [hf.2 i (by omega), (bv_tab _ (by omega)).2.2.2.2.2.2.2.2 h128])
  have hrd : rd_ k T.length (ch T) A1 0 ((MST t ms se tm).flatMap stx) uz := by
    refine ⟨⟨by rw [← hTe, Nat.zero_add], fun i hi => ?_⟩, a3⟩
    rw [← hTe] at hi ⊢
    rw [Nat.zero_add]
    unfold ch
    rw [if_pos hi]
  obtain ⟨A2, u, b1, b2, b3, b4, b5⟩ := rl_all X ok hrd
  obtain ⟨S3, hS3⟩ : ∃ S3, S3 = si_ps A2 1 1 0 := ⟨_, rfl⟩
  have hk1 : k ≠ 1 := k_ne1 hk
  have fa : fA k S A2 := a2.tr b2
  have q0 : S3.2.2.2 0 = mk := by rw [hS3]; show A2.2.2.2 0 = mk; rw [fa.2.2]; exact r0
  have q1 : S3.2.2.2 1 = k := by rw [hS3]; show A2.2.2.2 1 = k; rw [fa.2.2]; exact r1
  have m3 : iv_mk (S3.1 k) (fun j => S3.2.1 (k + j)) u := by
    rw [hS3]
    obtain ⟨m1, m2⟩ := b3
    exact ⟨fun j hj => by rw [ps_o (by omega)]; exact m1 j hj, m2⟩
  obtain ⟨S4, c1, c2, c3, c4, c5, -, -, c8⟩ := td_all (F := F) hk hmk q0 q1 hF b4 m3
  have e : f_X9_parse F (nI T.length) S = some (0, S4) := by
    unfold f_X9_parse f_X9_parse_h46
    rw [if_neg (nI_pos (by omega)), hf.1, if_pos (nI_le hp (by omega)), mk_0 r1 hk, Option.bind_some, a1, b1, Option.bind_some, sm_pt, Option.bind_some, if_pos rfl, ← hS3, c1, Option.bind_some]
  obtain ⟨k1, k2, k3, k4, k5, k6⟩ := b5
  have f1 : ∀ j, S4.1 k j = S3.1 k j := fun j => c2 k j (by omega) (by omega) (by omega) (by omega) (by omega)
  have f2 : S4.2.1 (k + 6) = S3.2.1 (k + 6) := c3 _ (by omega) (by omega)
  refine ⟨S4, e, ⟨⟨?_, ?_, ?_⟩, by have := ok.2.2.1.1.2; omega, ?_, fun x hx => ?_, ?_⟩, ?_⟩
  · rw [c4, c5]
    rcases hne with ⟨h1, h2⟩ | ⟨h1, h2⟩ <;> rw [h1, h2]
    · exact Or.inr ⟨rfl, rfl⟩
    · exact Or.inl ⟨rfl, rfl⟩
  · rw [c2 1 1 (by decide) (by decide) (by decide) (by decide) (by decide), hS3]
    exact ps_e
  · rw [c3 66 (by decide) (by decide), c3 67 (by decide) (by decide), c3 68 (by decide) (by decide), hS3, ps_21, fa.2.1 66 (by omega), fa.2.1 67 (by omega), fa.2.1 68 (by omega)]
    exact hsv
  · rw [c4, f1, m3.1 3 (by decide), k4]
  · obtain ⟨h1, h2⟩ := k5 x hx
    rw [← k4] at hx
    obtain ⟨w1, w2, w3, w4⟩ := c8.2.2.2.2.2 x hx
    dsimp only
    rw [c4, f2, w1, w2, w3, w4, ← h1, ← h2]
    exact ⟨(m3.2.2.2.1 x hx).1, rfl, rfl, rfl, rfl⟩
  · exact ⟨0, 0, by decide, by decide, c8.2.1, c8.2.2.1⟩
  · have := fr_X9_parse F (nI T.length) S (0, S4) e
    exact dn.on this (fun _ h => h)
-- LOADS
def lm (S : si_St) (se : List (Nat × Nat)) : Prop := (sd_ok S 92 ∧ S.1 92 3 = 1) ∧ (sd_ok S 95 ∧ sd_ln S 95 = 2 * se.length ∧ ∀ i, i < se.length → S.2.1 95 (2 * i) = nI (se.getD i (0, 0)).1 ∧ S.2.1 95 (2 * i + 1) = nI (se.getD i (0, 0)).2)
theorem lm.go {S S' : si_St} {se : List (Nat × Nat)} {a b : Nat} {C : List Nat} (h : lm S se) (d : dn C a b S S') (h92 : 92 ∉ C) (h95 : 95 ∉ C) : lm S' se := by
  obtain ⟨⟨o1, f1⟩, o2, l, r⟩ := h
  exact ⟨⟨d.ok h92 o1, by rw [(d.1 92 h92).1]; exact f1⟩, d.ok h95 o2, (d.2.2.1 95 (by decide) h95).1.trans l, by rw [(d.1 95 h95).2.1]; exact r⟩
theorem MST_len {t : Nat} {ms : List (Nat × List Nat)} {se : List (Nat × Nat)} {tm : List Nat} (ok : okM t ms se tm) : ((MST t ms se tm).flatMap stx).length ≤ 400 := by
  obtain ⟨⟨t1, t3⟩, ⟨sc, ma, hms, ⟨sc1, sc4⟩, ma6, hsc, hma⟩, ⟨⟨se1, se2⟩, hse⟩, tm1, htm⟩ := ok
  have fl : ∀ (ms : List (Nat × List Nat)), (∀ x ∈ ms, (stx x).length ≤ 30) → (ms.flatMap stx).length ≤ 30 * ms.length := fun ms => by
    induction ms with
    | nil => intro _; exact Nat.le_refl _
    | cons x ms ih =>
      intro h
      have h1 := h x (List.mem_cons_self ..)
      have h2 := ih (fun y hy => h y (List.mem_cons_of_mem _ hy))
      rw [List.flatMap_cons, List.length_append, List.length_cons]
      omega
  have l0 : ((List.replicate t ((0, []) : Nat × List Nat)).flatMap stx).length ≤ 21 := by
    have key : ∀ v, v ≤ 3 → ((List.replicate v ((0, []) : Nat × List Nat)).flatMap stx).length ≤ 21 := by decide
    exact key t t3
  have l1 := fl sc (fun x hx => stx_len (hsc x hx).1)
  have l2 := fl ma (fun x hx => stx_len (hma x hx).1)
  have l3 := fl (se.map fun x => (3, [x.1, x.2])) (fun x hx => by
    obtain ⟨z, hz, rfl⟩ := List.mem_map.mp hx
    exact stx_len (t := 0) (hse z hz))
  have l4 : ((tm.map fun d => ((4, [d]) : Nat × List Nat)).flatMap stx).length ≤ 12 := by
    cases tm with
    | nil => exact Nat.zero_le _
    | cons d tl =>
      cases tl with
      | nil =>
        have := dgs_len d
        show ((tx 16 ++ dgs d ++ [59]) ++ []).length ≤ 12
        simp only [List.length_append, List.length_cons, List.length_nil]
        have h16 : (tx 16).length = 7 := rfl
        omega
      | cons _ _ => rw [List.length_cons, List.length_cons] at tm1; omega
  rw [List.length_map] at l3
  unfold MST
  rw [hms]
  simp only [List.flatMap_append, List.length_append]
  omega
def CL : List Nat := [1, 2, 3, 4, 5, 6, 7, 17, 18, 19, 20, 21, 27, 42, 69, 70, 71, 72, 73, 74, 75, 76, 77, 78, 79, 80, 81, 82, 83, 84, 85, 86, 87, 88, 89, 90, 91, 92, 93, 94, 95, 96, 97, 100, 1000]
theorem dn.cl {C : List Nat} {a b : Nat} {S S' : si_St} (h : dn C a b S S') (hs : ∀ k ∈ C, k ∈ CL) : dn CL a b S S' := h.mo hs (Nat.le_refl _) (Nat.le_refl _)
theorem loads_ok {F : Nat} {S : si_St} (hF : 1100 ≤ F) (x : Int32) (h0 : cl0 S) : ∃ S' se, f_L_loads F x S = some S' ∧ ((1 ≤ se.length ∧ se.length ≤ 2) ∧ ∀ y ∈ se, 2 ≤ y.1 ∧ y.1 ≤ 7 ∧ y.2 ≤ 1) ∧ lm S' se ∧ cls S' se.length (fun x => (se.getD x (0, 0)).1) (fun x => 2 ^ (se.getD x (0, 0)).1 - 1) (fun x => 2 ^ (se.getD x (0, 0)).1 - 1) (fun x => (se.getD x (0, 0)).2) (fun _ => 0) ∧ dn CL 200 200000 S S' := by
  obtain ⟨hm, h11, hsv⟩ := h0
  have hs : S.2.2.2 0 < 87 ∧ S.2.2.2 1 < 87 := by omega
  unfold f_L_loads f_L_loads_h0 f_L_loads_h3 f_L_loads_h7 f_L_loads_h11
  have hfr : sd_frb S 87 = true := dr_frb (by decide) (by decide) hs ⟨by omega, by omega, by omega, by omega, by omega, by omega⟩
  have e0 : sd_no S 87 4 = some (sd_mkO S 87 4) := if_pos hfr
  obtain ⟨S1, hS1⟩ : ∃ S1, S1 = sd_mkO S 87 4 := ⟨_, rfl⟩
  rw [← hS1] at e0
  have d1 : dn [87] 1 4 S S1 := by rw [hS1]; exact dn.mkO (by decide) (by decide) (by decide)
  have o87 : sd_ok S1 87 := by rw [hS1]; exact dr_lv_mkO (by decide) (by decide)
  have z87 : ∀ j, S1.1 87 j = 0 := fun j => by rw [hS1]; exact (if_pos rfl : (if 87 = 87 then (0 : Int32) else S.1 87 j) = 0)
  have hs1 : S1.2.2.2 0 < 87 ∧ S1.2.2.2 1 < 87 := by rw [(d1.2.1 (by decide)).1, (d1.2.1 (by decide)).2]; exact hs
  -- the builder, empty
  have hb : ∃ S2, f_J4_init_da8c8 F S1 = some S2 ∧ bd S2 [] ∧ dn [87, 88] 1 16 S1 S2 := by
    unfold f_J4_init_da8c8 f_J4_init_da8c8_h0 f_J5_init_d00df f_J5_init_d00df_h0 f_J5_init_d00df_h14 f_J4_init_da8c8_h6
    have hfr8 : sd_frb S1 88 = true := dr_frb (by decide) (by decide) hs1 ⟨fun _ => z87 0, by omega, by omega, by omega, by omega, by omega⟩
    have ena : sd_na S1 88 16 = some (sd_mkA S1 88 16) := dr_na (n := 16) hfr8 (by decide)
    have dA : dn [88] 1 16 S1 (sd_mkA S1 88 16) := dn.mkA (by decide) (by decide) (by decide)
    have oA := dA.ok (by decide) o87
    have oA8 : sd_ok (sd_mkA S1 88 16) 88 := dr_lv_mkA (by decide) (by decide)
    have oB : sd_ok (si_ps (sd_mkA S1 88 16) 87 0 1) 87 := oA
    rw [if_neg (by decide), ena, Option.bind_some, dr_pi oA, Option.bind_some, dr_pi oB, Option.bind_some, Option.bind_some]
    have m1 : ∀ {a b : Nat} {C : List Nat} {S S' : si_St}, dn C a b S S' → (∀ k ∈ C, k ∈ [87, 88]) → dn [87, 88] a b S S' := fun d hs => d.mo hs (Nat.le_refl _) (Nat.le_refl _)
    have dd : dn [87, 88] 1 16 S1 (si_ps (si_ps (sd_mkA S1 88 16) 87 0 1) 87 1 0) := ((m1 dA (by decide)).tr ((m1 (dn.ps (C := [87]) (by decide)) (by decide)).tr (m1 (dn.ps (C := [87]) (by decide)) (by decide)))).up (by omega) (by omega)
    have l88 : sd_ln (si_ps (si_ps (sd_mkA S1 88 16) 87 0 1) 87 1 0) 88 = 16 := sd_mkA_ln (S := S1)
    refine ⟨_, rfl, ⟨⟨oA, oA8⟩, ⟨?_, ps_e, ?_⟩, ⟨Nat.zero_le _, ?_⟩, fun i hi => absurd hi (Nat.not_lt_zero _), fun t ht => absurd ht (List.not_mem_nil), fun i => ?_, ?_⟩, dd⟩
    · rw [ps_o (by decide), ps_e]; exact one_ne
    · rw [ps_o (by decide), ps_o (by decide)]
      exact z87 3
    · rw [l88]; decide
    · have : (si_ps (si_ps (sd_mkA S1 88 16) 87 0 1) 87 1 0).2.1 88 i = 0 := (if_pos rfl : (if 88 = 88 then (0 : Int32) else S1.2.1 88 i) = 0)
      rw [this]; rfl
    · rw [(dd.2.1 (by decide)).1, (dd.2.1 (by decide)).2]; exact hs1
  obtain ⟨S2, e2, b2, d2⟩ := hb
  rw [e0, Option.bind_some, e2, Option.bind_some]
  have hs2 := b2.2.2.2.2.2.2
  have hfr91 : sd_frb S2 91 = true := dr_frb (by decide) (by decide) hs2 ⟨by omega, by omega, by omega, by omega, by omega, by omega⟩
  have ena : sd_na S2 91 1 = some (sd_mkA S2 91 1) := dr_na (n := 1) hfr91 (by decide)
  have d3 : dn [91] 1 1 S2 (sd_mkA S2 91 1) := dn.mkA (by decide) (by decide) (by decide)
  have o91 : sd_ok (sd_mkA S2 91 1) 91 := dr_lv_mkA (by decide) (by decide)
  have l91 : sd_ln (sd_mkA S2 91 1) 91 = 1 := sd_mkA_ln
  have ewr : sd_wr (sd_mkA S2 91 1) 91 0 x = some (si_pa (sd_mkA S2 91 1) 91 0 x) := dr_wr (i := 0) o91 (by omega) (by omega)
  rw [ena, Option.bind_some, ewr, Option.bind_some]
  have d4 : dn [91] 0 0 (sd_mkA S2 91 1) (si_pa (sd_mkA S2 91 1) 91 0 x) := dn.pa (by decide)
  have b4 := (b2.go d3 (by decide) (by decide) (by decide)).go d4 (by decide) (by decide) (by decide)
  obtain ⟨t, ms, se, tm, ok, S5, e5, b5, o5, r5, d5⟩ := mk_all (F := F) (by omega) b4 o91 l91
  rw [e5, Option.bind_some]
  obtain ⟨T, hT⟩ : ∃ T, T = (MST t ms se tm).flatMap stx := ⟨_, rfl⟩
  have hTl : T.length ≤ 400 := by rw [hT]; exact MST_len ok
  rw [← hT] at b5
  have hc := b5.2.2.2.2.1
  have hl5 : lm S5 se := ⟨o5, r5⟩
  unfold f_L_loads_h19 f_L_loads_h24 f_L_loads_h35 f_L_loads_h38 f_L_loads_h46
  rw [if_neg (not_not_intro b5.1.1), bd_length b5, Option.bind_some]
  dsimp only
  rw [if_neg (show ¬ (800 : Int32) < nI T.length from (nI_nlt (by omega) (by decide) : ¬ nI 800 < nI T.length)), if_neg (not_not_intro b5.1.1)]
  obtain ⟨S6, e6, t6, d6⟩ := st_of (F := F) b5
  rw [e6, Option.bind_some]
  have m : ∀ {a b : Nat} {C : List Nat} {S S' : si_St}, dn C a b S S' → (∀ k ∈ C, k ∈ [87, 88, 89, 90, 91, 92, 93, 94, 95, 96, 100]) → dn [87, 88, 89, 90, 91, 92, 93, 94, 95, 96, 100] a b S S' := fun d hs => d.mo hs (Nat.le_refl _) (Nat.le_refl _)
  have D6 : dn [87, 88, 89, 90, 91, 92, 93, 94, 95, 96, 100] 106 110000 S S6 := ((m d1 (by decide)).tr ((m d2 (by decide)).tr ((m d3 (by decide)).tr ((m d4 (by decide)).tr ((m d5 (by decide)).tr (m d6 (by decide))))))).up (by omega) (by omega)
  have f6 : fed S6 T 0 := ⟨by rw [(D6.1 1 (by decide)).1]; exact h11, fun i hi => absurd hi (Nat.not_lt_zero _)⟩
  have r06 := D6.2.1 (by decide)
  have hb6 := b5.go d6 (by decide) (by decide) (by decide)
  obtain ⟨S7, p7, e7, p71, p72, f7, d7, k7⟩ := feed_all (F := F) (T := T) (by omega) hTl 25 F 0 S6 (by omega) (by omega) (by omega) t6 f6 (by rw [r06.1, r06.2]; exact hs)
  have e7 : f_L_feeds F S6 = some (1, S7) := e7
  rw [e7, Option.bind_some]
  dsimp only
  have hb7 := hb6.go d7 (by decide) (by decide) (by decide)
  rw [if_neg (by decide), if_neg (not_not_intro hb7.1.1), bd_length hb7, Option.bind_some]
  dsimp only
  have r07 : S7.2.2.2 0 = S.2.2.2 0 ∧ S7.2.2.2 1 = S.2.2.2 1 := ⟨k7.2.2.2.1.trans r06.1, k7.2.2.2.2.trans r06.2⟩
  have sv7 : ∀ r, 66 ≤ r → r ≤ 68 → S7.2.1 r = S.2.1 r := fun r h1 h2 => (k7.2.1 r (by omega) (by omega)).trans (D6.1 r (fun h => by simp only [List.mem_cons, List.not_mem_nil, or_false] at h; omega)).2.1
  obtain ⟨S8, e8, c8, d8⟩ := parse_ok (F := F) (T := T) (S := S7) (p := p7) hF (by omega) hc (by rw [r07.1, r07.2]; exact hm) (by rw [sv7 66 (by decide) (by decide), sv7 67 (by decide) (by decide), sv7 68 (by decide) (by decide)]; exact hsv) p71 (by omega) f7 ok hT
  rw [e8, Option.bind_some]
  dsimp only
  rw [if_pos rfl]
  have hl8 : lm S8 se := ((hl5.go d6 (by decide) (by decide)).go d7 (by decide) (by decide)).go d8 (by decide) (by decide)
  exact ⟨S8, se, rfl, ok.2.2.1, hl8, c8, ((D6.cl (by decide)).tr ((d7.cl (by decide)).tr (d8.cl (by decide)))).up (by omega) (by omega)⟩
