-- FEEDS
theorem feed_in {F p n0 : Nat} {T : List Nat} (hT : T.length ≤ 400) (hp : p ≤ 500) (r4 : Int32 → Int32 → si_St → Option (Int32 × si_St)) : ∀ m n i (S : si_St), 20 = i + m → m < n → st S T → sd_ok S 97 → sd_ln S 97 = 5 → (∀ q, q < 5 → S.2.1 97 q = nI (wv T (p + 4 * q) (if i ≤ 4 * q then 0 else if i ≤ 4 * q + 4 then i - 4 * q else 4))) → ∃ S', f_L_feeds_l20 F r4 n (nI n0) (nI p) (nI i) S = (Option.bind (f_X9_append F (nI (wv T p 4)) (nI (wv T (p + 4) 4)) (nI (wv T (p + 8) 4)) (nI (wv T (p + 12) 4)) (nI (wv T (p + 16) 4)) S') fun q10 => if q10.1 = nI (n0 + 20) then (Option.bind (some (nI p + 20)) fun v11 => r4 (nI (n0 + 20)) v11 q10.2) else (Option.bind (si_bz 0) fun v12 => some (v12, q10.2))) ∧ dn [97] 0 0 S S' := by
  intro m
  induction m with
  | zero =>
    intro n i S hi hmn hst o97 l97 hrow
    obtain ⟨n, rfl⟩ : ∃ k, n = k + 1 := ⟨n - 1, by omega⟩
    have hi20 : i = 20 := by omega
    refine ⟨S, ?_, dn.rf⟩
    show f_L_feeds_h20 F r4 (f_L_feeds_l20 F r4 n) (nI n0) (nI p) (nI i) S = _
    unfold f_L_feeds_h20
    have r : ∀ q, q < 5 → sd_rd S 97 (nI q) = some (nI (wv T (p + 4 * q) 4)) := fun q hq => by
      rw [dr_rd o97 (by omega) (by omega), hrow q hq, if_neg (by omega)]
      congr 3
      split <;> omega
    have r0 : sd_rd S 97 0 = _ := r 0 (by decide)
    have r1 : sd_rd S 97 1 = _ := r 1 (by decide)
    have r2 : sd_rd S 97 2 = _ := r 2 (by decide)
    have r3 : sd_rd S 97 3 = _ := r 3 (by decide)
    have r4' : sd_rd S 97 4 = _ := r 4 (by decide)
    rw [if_pos (show (20 : Int32) ≤ nI i by rw [hi20]; exact Int32.le_refl _), Option.bind_some, r0, Option.bind_some, r1, Option.bind_some, r2, Option.bind_some, r3, Option.bind_some, r4', Option.bind_some]
    have e : nI n0 + (20 : Int32) = nI (n0 + 20) := nI_add n0 20
    rw [e]
    rfl
  | succ m ih =>
    intro n i S hi hmn hst o97 l97 hrow
    obtain ⟨n, rfl⟩ : ∃ k, n = k + 1 := ⟨n - 1, by omega⟩
    show ∃ S', f_L_feeds_h20 F r4 (f_L_feeds_l20 F r4 n) (nI n0) (nI p) (nI i) S = _ ∧ _
    unfold f_L_feeds_h20
    have hq : i / 4 < 5 := by omega
    have ed : nI i / (4 : Int32) = nI (i / 4) := pk_div (d := 4) (by omega) (by decide) (by decide)
    have hv : S.2.1 97 (i / 4) = nI (wv T (p + 4 * (i / 4)) (i % 4)) := by
      rw [hrow _ hq]
      congr 2
      split
      · omega
      · split <;> omega
    have hc : ch T (p + i) < 128 := ch_128 hst.2.2.2.2 _
    have hw : wv T (p + 4 * (i / 4)) (i % 4) < 2 ^ 24 := by
      have := wv_lt hst.2.2.2.2 (p + 4 * (i / 4)) (i % 4)
      have h3 : 256 ^ (i % 4) ≤ 256 ^ 3 := Nat.pow_le_pow_right (by decide) (by omega)
      exact Nat.lt_of_lt_of_le this h3
    rw [if_neg (show ¬ (20 : Int32) ≤ nI i from fun (h : nI 20 ≤ nI i) => by have := (nI_leI (by decide) (by omega)).mp h; omega), ed, dr_rd o97 (by omega) (by omega), Option.bind_some, if_neg (not_not_intro hst.1.1), st_length hst, Option.bind_some, hv]
    unfold f_L_feeds_h51
    have hfin : ∀ (S0 : si_St), S0 = S → ∃ S', f_L_feeds_h67 F r4 (f_L_feeds_l20 F r4 n) (nI n0) (nI p) (nI i) (nI (ch T (p + i))) (nI (wv T (p + 4 * (i / 4)) (i % 4)) <<< ((8 : Int32) &&& 31)) (nI (i / 4)) S0 = (Option.bind (f_X9_append F (nI (wv T p 4)) (nI (wv T (p + 4) 4)) (nI (wv T (p + 8) 4)) (nI (wv T (p + 12) 4)) (nI (wv T (p + 16) 4)) S') fun q10 => if q10.1 = nI (n0 + 20) then (Option.bind (some (nI p + 20)) fun v11 => r4 (nI (n0 + 20)) v11 q10.2) else (Option.bind (si_bz 0) fun v12 => some (v12, q10.2))) ∧ dn [97] 0 0 S S' := fun S0 hS0 => by
      rw [hS0]
      unfold f_L_feeds_h67
      rw [wv_or hw (by omega), dr_wr o97 (by omega) (by omega), Option.bind_some, nI_1, Option.bind_some]
      have d : dn [97] 0 0 S (si_pa S 97 (i / 4) (nI (wv T (p + 4 * (i / 4)) (i % 4) * 256 + ch T (p + i)))) := dn.pa (by decide)
      obtain ⟨S', e, d'⟩ := ih n (i + 1) (si_pa S 97 (i / 4) (nI (wv T (p + 4 * (i / 4)) (i % 4) * 256 + ch T (p + i)))) (by omega) (by omega) (hst.go d (by decide) (by decide)) o97 l97 (fun q hq2 => by
        by_cases h9 : q = i / 4
        · rw [h9, pa_e]
          congr 1
          have e1 : (if i + 1 ≤ 4 * (i / 4) then 0 else if i + 1 ≤ 4 * (i / 4) + 4 then i + 1 - 4 * (i / 4) else 4) = i % 4 + 1 := by
            rw [if_neg (by omega), if_pos (by omega)]
            omega
          rw [e1]
          show _ = wv T (p + 4 * (i / 4)) (i % 4) * 256 + ch T (p + 4 * (i / 4) + i % 4)
          rw [show p + 4 * (i / 4) + i % 4 = p + i by omega]
        · rw [pa_s h9, hrow q hq2]
          congr 2
          split <;> split <;> first | rfl | omega | (split <;> first | rfl | omega | (split <;> first | rfl | omega)))
      exact ⟨S', e, (d.tr d').up (by omega) (by omega)⟩
    dsimp only
    rw [nI_add]
    by_cases hlt : p + i < T.length
    · rw [if_neg (fun h => by have := (nI_leI (by omega) (by omega)).mp h; omega), if_neg (not_not_intro hst.1.1), st_charAt hst hlt (by omega), Option.bind_some]
      unfold f_L_feeds_h62
      dsimp only
      have : T.getD (p + i) 0 = ch T (p + i) := by unfold ch; rw [if_pos hlt]
      rw [this]
      exact hfin S rfl
    · rw [if_pos (nI_le (by omega) (by omega))]
      have : (32 : Int32) = nI (ch T (p + i)) := by unfold ch; rw [if_neg hlt]; rfl
      rw [this]
      exact hfin S rfl
-- the class's part: what it has taken so far
def fed (S : si_St) (T : List Nat) (n : Nat) : Prop := S.1 1 1 = nI n ∧ ∀ i, i < n → S.2.1 2 i = nI (ch T i)
-- what is not the class's is left alone, and of the class only its reader
def ky (C : List Nat) (S S' : si_St) : Prop := (∀ k j, k < 87 → ¬ (k = 1 ∧ j = 1) → S'.1 k j = S.1 k j) ∧ (∀ k, k < 87 → k ≠ 2 → S'.2.1 k = S.2.1 k) ∧ (∀ k, k < 87 → S'.2.2.1 k = S.2.2.1 k) ∧ (S'.2.2.2 0 = S.2.2.2 0 ∧ S'.2.2.2 1 = S.2.2.2 1)
theorem app_20 {F n : Nat} {T : List Nat} {S : si_St} (hF : 5 ≤ F) (hn : n + 20 ≤ 800) (hT : ∀ t ∈ T, t < 128) (h : fed S T n) : ∃ t, f_X9_append F (nI (wv T n 4)) (nI (wv T (n + 4) 4)) (nI (wv T (n + 8) 4)) (nI (wv T (n + 12) 4)) (nI (wv T (n + 16) 4)) S = some (nI (n + 20), ap_C S 1 1 (nI (n + 20)) 2 t) ∧ ∀ i, i < n + 20 → t i = nI (ch T i) := by
  obtain ⟨b1, b2⟩ := h
  have hcI : nI n + 20 ≤ 800 := (sm_800 (by omega)).mpr hn
  refine ⟨ap_t (ap_t (ap_t (ap_t (ap_t (S.2.1 2) n (ap_4 (nI (wv T n 4)))) (n + 4) (ap_4 (nI (wv T (n + 4) 4)))) (n + 8) (ap_4 (nI (wv T (n + 8) 4)))) (n + 12) (ap_4 (nI (wv T (n + 12) 4)))) (n + 16) (ap_4 (nI (wv T (n + 16) 4))), ?_, fun i hi => ?_⟩
  · unfold f_X9_append
    rw [b1, if_pos hcI, ap_x4 hF (by omega) b1, Option.bind_some, ap_x4 (n := n + 4) hF (by omega) (ap_C_1 ..), Option.bind_some, ap_C_2, ap_CC, ap_x4 (n := n + 8) hF (by omega) (ap_C_1 ..), Option.bind_some, ap_C_2, ap_CC, ap_x4 (n := n + 12) hF (by omega) (ap_C_1 ..), Option.bind_some, ap_C_2, ap_CC, ap_x4 (n := n + 16) hF (by omega) (ap_C_1 ..), Option.bind_some, ap_C_2, ap_CC]
    exact congrArg (fun z => some (z, _)) (ap_C_1 ..)
  · have g4 : ∀ (b i : Nat), i < 4 → [nI (ch T b), nI (ch T (b + 1)), nI (ch T (b + 2)), nI (ch T (b + 3))].getD i 0 = nI (ch T (b + i)) := fun b i hi => by
      rcases (by omega : i = 0 ∨ i = 1 ∨ i = 2 ∨ i = 3) with h | h | h | h <;> rw [h] <;> rfl
    have l4 : ∀ x, (ap_4 x).length = 4 := fun _ => rfl
    rw [ap_tg, l4]
    by_cases h5 : n + 16 ≤ i ∧ i < n + 16 + 4
    · rw [if_pos h5, ap_4N hT, g4 _ _ (by omega), show n + 16 + (i - (n + 16)) = i by omega]
    rw [if_neg h5, ap_tg, l4]
    by_cases h5 : n + 12 ≤ i ∧ i < n + 12 + 4
    · rw [if_pos h5, ap_4N hT, g4 _ _ (by omega), show n + 12 + (i - (n + 12)) = i by omega]
    rw [if_neg h5, ap_tg, l4]
    by_cases h5 : n + 8 ≤ i ∧ i < n + 8 + 4
    · rw [if_pos h5, ap_4N hT, g4 _ _ (by omega), show n + 8 + (i - (n + 8)) = i by omega]
    rw [if_neg h5, ap_tg, l4]
    by_cases h5 : n + 4 ≤ i ∧ i < n + 4 + 4
    · rw [if_pos h5, ap_4N hT, g4 _ _ (by omega), show n + 4 + (i - (n + 4)) = i by omega]
    rw [if_neg h5, ap_tg, l4]
    by_cases h5 : n ≤ i ∧ i < n + 4
    · rw [if_pos h5, ap_4N hT, g4 _ _ (by omega), show n + (i - n) = i by omega]
    rw [if_neg h5]
    exact b2 i (by omega)
theorem feed_all {F : Nat} {T : List Nat} (hF : 100 ≤ F) (hT : T.length ≤ 400) : ∀ m n p (S : si_St), T.length ≤ p + 20 * m → p ≤ T.length + 20 → m < n → st S T → fed S T p → (S.2.2.2 0 < 87 ∧ S.2.2.2 1 < 87) → ∃ S' p', f_L_feeds_l4 F n (nI p) (nI p) S = some (1, S') ∧ T.length ≤ p' ∧ p' ≤ T.length + 20 ∧ fed S' T p' ∧ dn [1, 2, 97] m (5 * m) S S' ∧ ky [] S S' := by
  have hbase : ∀ n p (S : si_St), T.length ≤ p → p ≤ T.length + 20 → st S T → fed S T p → ∃ S' p', f_L_feeds_l4 F (n + 1) (nI p) (nI p) S = some (1, S') ∧ T.length ≤ p' ∧ p' ≤ T.length + 20 ∧ fed S' T p' ∧ dn [1, 2, 97] 0 0 S S' ∧ ky [] S S' := fun n p S h1 h2 hst hf => by
    show ∃ S' p', f_L_feeds_h4 F (f_L_feeds_l4 F n) (nI p) (nI p) S = _ ∧ _
    unfold f_L_feeds_h4 f_L_feeds_h9
    rw [if_neg (not_not_intro hst.1.1), st_length hst, Option.bind_some]
    dsimp only
    rw [if_pos (nI_le h1 (by omega)), sm_bz1, Option.bind_some]
    exact ⟨S, p, rfl, h1, h2, hf, dn.rf, fun _ _ _ _ => rfl, fun _ _ _ => rfl, fun _ _ => rfl, rfl, rfl⟩
  intro m
  induction m with
  | zero =>
    intro n p S h1 h2 hmn hst hf hs
    obtain ⟨n, rfl⟩ : ∃ k, n = k + 1 := ⟨n - 1, by omega⟩
    exact hbase n p S (by omega) h2 hst hf
  | succ m ih =>
    intro n p S h1 h2 hmn hst hf hs
    obtain ⟨n, rfl⟩ : ∃ k, n = k + 1 := ⟨n - 1, by omega⟩
    by_cases hle : T.length ≤ p
    · obtain ⟨S', p', a1, a2, a3, a4, a5, a6⟩ := hbase n p S hle h2 hst hf
      exact ⟨S', p', a1, a2, a3, a4, a5.up (by omega) (by omega), a6⟩
    show ∃ S' p', f_L_feeds_h4 F (f_L_feeds_l4 F n) (nI p) (nI p) S = _ ∧ _
    unfold f_L_feeds_h4 f_L_feeds_h9
    rw [if_neg (not_not_intro hst.1.1), st_length hst, Option.bind_some]
    dsimp only
    have hfr : sd_frb S 97 = true := dr_frb (by decide) (by decide) hs ⟨by omega, by omega, by omega, by omega, by omega, by omega⟩
    have ena : sd_na S 97 5 = some (sd_mkA S 97 5) := dr_na (n := 5) hfr (by decide)
    rw [if_neg (fun h => by have := (nI_leI (by omega) (by omega)).mp h; omega), ena, Option.bind_some]
    unfold f_L_feeds_h15
    have dA : dn [97] 1 5 S (sd_mkA S 97 5) := dn.mkA (by decide) (by decide) (by decide)
    obtain ⟨S1, e1, d1⟩ := feed_in (F := F) (p := p) (n0 := p) hT (by omega) (f_L_feeds_l4 F n) 20 F 0 (sd_mkA S 97 5) (by omega) (by omega) (hst.go dA (by decide) (by decide)) (dr_lv_mkA (by decide) (by decide)) (sd_mkA_ln (S := S)) (fun q hq => by
      rw [if_pos (Nat.zero_le _)]
      exact (if_pos rfl : (if 97 = 97 then (0 : Int32) else S.2.1 97 q) = 0))
    have e1 : f_L_feeds_l20 F (f_L_feeds_l4 F n) F (nI p) (nI p) 0 (sd_mkA S 97 5) = _ := e1
    have d01 : dn [97] 1 5 S S1 := (dA.tr d1).up (by omega) (by omega)
    have f1 : fed S1 T p := ⟨by rw [(d01.1 1 (by decide)).1]; exact hf.1, by rw [(d01.1 2 (by decide)).2.1]; exact hf.2⟩
    obtain ⟨t, e2, ht⟩ := app_20 (F := F) (n := p) (by omega) (by omega) hst.2.2.2.2 f1
    have e3 : nI p + (20 : Int32) = nI (p + 20) := nI_add p 20
    rw [e1, e2, Option.bind_some, if_pos rfl, e3, Option.bind_some]
    obtain ⟨S2, hS2⟩ : ∃ S2, S2 = ap_C S1 1 1 (nI (p + 20)) 2 t := ⟨_, rfl⟩
    have d2 : dn [1, 2] 0 0 S1 S2 := by
      rw [hS2]
      refine dn.eq rfl (fun k hk => ⟨fun j => ?_, ?_, rfl⟩)
      · show (if k = 1 ∧ j = 1 then _ else S1.1 k j) = _
        rw [if_neg (fun h => hk (by rw [h.1]; decide))]
      · show (if k = 2 then t else S1.2.1 k) = _
        rw [if_neg (fun h => hk (by rw [h]; decide))]
    have f2 : fed S2 T (p + 20) := by
      rw [hS2]
      exact ⟨ap_C_1 .., fun i hi => by rw [ap_C_2]; exact ht i hi⟩
    have r01 := d01.2.1 (by decide)
    have r12 : S2.2.2.2 = S1.2.2.2 := by rw [hS2]; rfl
    obtain ⟨S', p', a1, a2, a3, a4, a5, a6⟩ := ih n (p + 20) S2 (by omega) (by omega) (by omega) ((hst.go d01 (by decide) (by decide)).go d2 (by decide) (by decide)) f2 (by rw [r12, r01.1, r01.2]; exact hs)
    dsimp only
    rw [← hS2]
    have mm : ∀ {a b : Nat} {C : List Nat} {S S' : si_St}, dn C a b S S' → (∀ k ∈ C, k ∈ [1, 2, 97]) → dn [1, 2, 97] a b S S' := fun d hs => d.mo hs (Nat.le_refl _) (Nat.le_refl _)
    refine ⟨S', p', a1, a2, a3, a4, ((mm d01 (by decide)).tr ((mm d2 (by decide)).tr a5)).up (by omega) (by omega), ?_⟩
    obtain ⟨k1, k2, k3, k4, k5⟩ := a6
    have n97 : ∀ k, k < 87 → k ∉ [97] := fun k hk h => by rw [List.mem_singleton] at h; omega
    refine ⟨fun k j hk hn => ?_, fun k hk hn => ?_, fun k hk => ?_, ?_, ?_⟩
    · rw [k1 k j hk hn, hS2]
      show (if k = 1 ∧ j = 1 then _ else S1.1 k j) = _
      rw [if_neg hn, (d01.1 k (n97 k hk)).1]
    · rw [k2 k hk hn, hS2]
      show (if k = 2 then t else S1.2.1 k) = _
      rw [if_neg hn, (d01.1 k (n97 k hk)).2.1]
    · rw [k3 k hk, hS2]
      show S1.2.2.1 k = _
      rw [(d01.1 k (n97 k hk)).2.2]
    · rw [k4, r12, r01.1]
    · rw [k5, r12, r01.2]
