-- the survey of all scales on a day
theorem lp_inv {σ α : Type} (L : Nat → Nat → σ → α) (I : Nat → σ → Prop) (P : α → Prop) (n : Nat) (hend : ∀ t s, I n s → P (L (t + 1) n s)) (hstep : ∀ t k s, k < n → I k s → ∃ s', I (k + 1) s' ∧ L (t + 1) k s = L t (k + 1) s') : ∀ t k s, k ≤ n → n < t + k → I k s → P (L t k s)
  | 0, k, s, h1, h2, _ => absurd h2 (by omega)
  | t + 1, k, s, h1, h2, h3 => by
    by_cases hk : k = n
    · subst hk
      exact hend t s h3
    · obtain ⟨s', h4, h5⟩ := hstep t k s (by omega) h3
      rw [h5]
      exact lp_inv L I P n hend hstep t (k + 1) s' (by omega) (by omega) h4
/-- the visits as both sides have them: scale, day, verdict, closed -/
abbrev sy_D : Type := (Nat → Nat) × (Nat → Nat) × (Nat → Nat) × (Nat → Bool)
def sy_ok (S : si_St) (u : Nat → Nat → Nat) (V : Nat) (D : sy_D) : Prop := V ≤ 30 ∧ S.1 7 0 = nI V ∧ S.2.1 88 0 = nI V ∧ ∀ v, v < V → D.1 v < u 1 0 ∧ D.2.1 v ≤ 9999 ∧ S.2.1 8 v = nI (D.1 v) ∧ S.2.1 9 v = nI (D.2.1 v) ∧ S.2.1 88 (1 + v) = nI (D.1 v) ∧ S.2.1 88 (31 + v) = nI (D.2.1 v) ∧ D.2.2.1 v ≤ 5 ∧ ((D.2.2.2 v = false ∧ S.2.1 11 v = -1 ∧ S.2.1 88 (61 + v) = 0) ∨ (D.2.2.2 v = true ∧ S.2.1 11 v = nI (D.2.2.1 v) ∧ S.2.1 88 (61 + v) = 1 ∧ S.2.1 88 (91 + v) = nI (D.2.2.1 v)))
def sy_ct (D : sy_D) (dd v : Nat) : Bool := D.2.2.2 v && decide (D.2.1 v ≤ dd)
def sy_la (D : sy_D) (dd s : Nat) : Nat → Option Nat
  | 0 => none
  | k + 1 => if D.1 k = s ∧ sy_ct D dd k = true then some k else sy_la D dd s k
def sy_fa (D : sy_D) (dd s : Nat) : Nat → Nat
  | 0 => 0
  | k + 1 => sy_fa D dd s k + (if D.1 k = s ∧ sy_ct D dd k = true ∧ D.2.2.1 k ≠ 0 then 1 else 0)
def sy_tm (u : Nat → Nat → Nat) (s : Nat) : Nat := if u 11 (u 5 s) = 0 then 2 else u 11 (u 5 s)
def sy_ey (D : sy_D) (u : Nat → Nat → Nat) (s v : Nat) : Nat := D.2.1 v / 360 + sy_tm u s
def sy_so (D : sy_D) (u : Nat → Nat → Nat) (dd s : Nat) : Option Nat → Nat
  | none => 0
  | some v => if D.2.2.1 v = 0 then (if dd / 360 < sy_ey D u s v then 1 else 2) else 3
def sy_st (D : sy_D) (u : Nat → Nat → Nat) (dd V s : Nat) : Nat := sy_so D u dd s (sy_la D dd s V)
def sy_eo (D : sy_D) (u : Nat → Nat → Nat) (s : Nat) : Option Nat → Nat
  | none => 0
  | some v => sy_ey D u s v
def sy_rj (D : sy_D) (u : Nat → Nat → Nat) (dd V t : Nat) : Nat → Nat
  | 0 => 0
  | k + 1 => sy_rj D u dd V t k + (if u 4 k = t ∧ sy_st D u dd V k = 3 then 1 else 0)
def sy_bs (st : Nat) : Nat := if st = 0 then 4 else if st = 1 then 1 else if st = 2 then 3 else 6
def sy_rk (D : sy_D) (u : Nat → Nat → Nat) (dd V n s : Nat) : Nat := sy_bs (sy_st D u dd V s) + sy_fa D dd s V + (sy_rj D u dd V (u 4 s) n - (if sy_st D u dd V s = 3 then 1 else 0))
theorem sy_la_lt {D : sy_D} {dd s : Nat} : ∀ {k v : Nat}, sy_la D dd s k = some v → v < k ∧ D.1 v = s ∧ sy_ct D dd v = true
  | 0, v, h => nomatch h
  | k + 1, v, h => by
    have h' : (if D.1 k = s ∧ sy_ct D dd k = true then some k else sy_la D dd s k) = some v := h
    by_cases hc : D.1 k = s ∧ sy_ct D dd k = true
    · rw [if_pos hc] at h'
      have e := Option.some.inj h'
      subst e
      exact ⟨by omega, hc.1, hc.2⟩
    · rw [if_neg hc] at h'
      have := sy_la_lt h'
      exact ⟨by omega, this.2⟩
theorem sy_fa_le {D : sy_D} {dd s : Nat} : ∀ k, sy_fa D dd s k ≤ k
  | 0 => Nat.le_refl 0
  | k + 1 => by
    have := sy_fa_le (D := D) (dd := dd) (s := s) k
    show sy_fa D dd s k + (if D.1 k = s ∧ sy_ct D dd k = true ∧ D.2.2.1 k ≠ 0 then 1 else 0) ≤ k + 1
    split <;> omega
theorem sy_rj_le {D : sy_D} {u : Nat → Nat → Nat} {dd V t : Nat} : ∀ k, sy_rj D u dd V t k ≤ k
  | 0 => Nat.le_refl 0
  | k + 1 => by
    have := sy_rj_le (D := D) (u := u) (dd := dd) (V := V) (t := t) k
    show sy_rj D u dd V t k + (if u 4 k = t ∧ sy_st D u dd V k = 3 then 1 else 0) ≤ k + 1
    split <;> omega
theorem sy_rj_pos {D : sy_D} {u : Nat → Nat → Nat} {dd V s : Nat} (h : sy_st D u dd V s = 3) : ∀ k, s < k → 1 ≤ sy_rj D u dd V (u 4 s) k
  | 0, h1 => absurd h1 (Nat.not_lt_zero s)
  | k + 1, h1 => by
    show 1 ≤ sy_rj D u dd V (u 4 s) k + (if u 4 k = u 4 s ∧ sy_st D u dd V k = 3 then 1 else 0)
    by_cases hk : s = k
    · subst hk
      rw [if_pos ⟨rfl, h⟩]
      omega
    · have := sy_rj_pos h k (by omega)
      omega
theorem sy_tm_le {u : Nat → Nat → Nat} (g0 : iv_mok u) {s : Nat} (hs : s < u 1 0) : sy_tm u s ≤ 5 ∧ 1 ≤ sy_tm u s := by
  have h := g0.2.2.2.2.2.2.2 (u 5 s) (g0.2.2.2.2.1 s hs).2.1
  unfold sy_tm
  split <;> omega
theorem sy_st_le {D : sy_D} {u : Nat → Nat → Nat} {dd V s : Nat} : sy_st D u dd V s ≤ 3 := by
  unfold sy_st sy_so
  split
  · omega
  · split
    · split <;> omega
    · omega
theorem sy_bs_le (s : Nat) : sy_bs s ≤ 6 ∧ 1 ≤ sy_bs s := by
  unfold sy_bs
  split
  · omega
  · split
    · omega
    · split <;> omega
/-- only the survey's own places differ -/
def sy_fr (B T : si_St) : Prop := T.1 = B.1 ∧ (∀ r, r < 57 ∨ 64 < r → T.2.1 r = B.2.1 r) ∧ T.2.2 = B.2.2
theorem sy_fr.rf (B : si_St) : sy_fr B B := ⟨rfl, fun _ _ => rfl, rfl⟩
theorem sy_fr.pa {B T : si_St} {k i : Nat} {v : Int32} (h : sy_fr B T) (h1 : 57 ≤ k) (h2 : k ≤ 64) : sy_fr B (si_pa T k i v) := ⟨h.1, fun r hr => (pa_o (by omega)).trans (h.2.1 r hr), h.2.2⟩
-- the third walk
theorem sy_risk1 {F mk s n V dd : Nat} {B T : si_St} {u : Nat → Nat → Nat} {D : sy_D} (hm : mk = 69 ∨ mk = 78) (g0 : iv_mok u) (g1 : iv_mk (B.1 mk) (fun j => B.2.1 (mk + j)) u) (hn : n = u 1 0) (hV : V ≤ 30) (hf : sy_fr B T) (hs : s < n) (h58 : T.2.1 58 s = nI (sy_st D u dd V s)) (h62 : T.2.1 62 s = nI (sy_fa D dd s V)) (h63 : ∀ t, t < 8 → T.2.1 63 t = nI (sy_rj D u dd V t n)) : f_X6_findRisk F mk (nI s) T = some (si_pa T 60 s (nI (sy_rk D u dd V n s))) := by
  have h24 := g0.2.1
  have h8 := g0.1
  have q4 := (g0.2.2.2.2.1 s (by omega)).1
  have m4 : T.2.1 (mk + 1) s = nI (u 4 s) := by
    rw [hf.2.1 (mk + 1) (by omega)]
    exact (g1.2.1 s (by omega)).1
  have f1 := sy_fa_le (D := D) (dd := dd) (s := s) V
  have r1 := sy_rj_le (D := D) (u := u) (dd := dd) (V := V) (t := u 4 s) n
  have b1 := sy_bs_le (sy_st D u dd V s)
  have bR : f_X6_baseRisk F (nI (sy_st D u dd V s)) T = some (nI (sy_bs (sy_st D u dd V s)), T) := by
    have h4 : sy_st D u dd V s = 0 ∨ sy_st D u dd V s = 1 ∨ sy_st D u dd V s = 2 ∨ sy_st D u dd V s = 3 := by
      have := sy_st_le (D := D) (u := u) (dd := dd) (V := V) (s := s)
      omega
    rcases h4 with h | h | h | h <;> rw [h] <;> rfl
  unfold f_X6_findRisk f_X6_findRisk_h28
  rw [rd_58 (by omega), Option.bind_some, h58, rd_m1 hm (by omega), Option.bind_some, m4, rd_63 (by omega), Option.bind_some, h63 _ (by omega)]
  unfold sy_rk
  by_cases h3 : sy_st D u dd V s = 3
  · have hp := sy_rj_pos (D := D) (u := u) (dd := dd) (V := V) (s := s) h3 n hs
    have e1 : nI (sy_rj D u dd V (u 4 s) n) - 1 = nI (sy_rj D u dd V (u 4 s) n - 1) := sm_sub (b := 1) hp
    rw [if_pos (show nI (sy_st D u dd V s) = 3 by rw [h3]; rfl), if_pos h3, Option.bind_some, bR, Option.bind_some]
    dsimp only
    rw [rd_62 (by omega), Option.bind_some, h62, nI_add, wr_60 (by omega), Option.bind_some, e1, nI_add]
  · have e1 : nI (sy_rj D u dd V (u 4 s) n) - 0 = nI (sy_rj D u dd V (u 4 s) n - 0) := sm_sub (b := 0) (Nat.zero_le _)
    have h3' : ¬ nI (sy_st D u dd V s) = 3 := sm_ne (b := 3) h3 (by have := sy_st_le (D := D) (u := u) (dd := dd) (V := V) (s := s); omega) (by decide)
    rw [if_neg h3', if_neg h3, Option.bind_some, bR, Option.bind_some]
    dsimp only
    rw [rd_62 (by omega), Option.bind_some, h62, nI_add, wr_60 (by omega), Option.bind_some, e1, nI_add]
def sy_P (B : si_St) (D : sy_D) (u : Nat → Nat → Nat) (dd V n : Nat) (o : Option si_St) : Prop := ∃ T, o = some T ∧ sy_fr B T ∧ ∀ s, s < n → T.2.1 58 s = nI (sy_st D u dd V s) ∧ (sy_st D u dd V s = 1 → T.2.1 59 s = nI (sy_eo D u s (sy_la D dd s V))) ∧ T.2.1 60 s = nI (sy_rk D u dd V n s)
theorem sy_walk3 {F mk n V dd : Nat} {B T : si_St} {u : Nat → Nat → Nat} {D : sy_D} (hm : mk = 69 ∨ mk = 78) (g0 : iv_mok u) (g1 : iv_mk (B.1 mk) (fun j => B.2.1 (mk + j)) u) (hn : n = u 1 0) (hV : V ≤ 30) (hb : B.1 57 7 = nI n) (hF : 25 ≤ F) (hf : sy_fr B T) (h58 : ∀ s, s < n → T.2.1 58 s = nI (sy_st D u dd V s) ∧ (sy_st D u dd V s = 1 → T.2.1 59 s = nI (sy_eo D u s (sy_la D dd s V)))) (h62 : ∀ s, s < n → T.2.1 62 s = nI (sy_fa D dd s V)) (h63 : ∀ t, t < 8 → T.2.1 63 t = nI (sy_rj D u dd V t n)) : sy_P B D u dd V n (f_X6_take_l143 F mk F 0 T) := by
  have h24 := g0.2.1
  exact lp_inv (fun t k T => f_X6_take_l143 F mk t (nI k) T) (fun k T => sy_fr B T ∧ (∀ s, s < n → T.2.1 58 s = nI (sy_st D u dd V s) ∧ (sy_st D u dd V s = 1 → T.2.1 59 s = nI (sy_eo D u s (sy_la D dd s V)))) ∧ (∀ s, s < n → T.2.1 62 s = nI (sy_fa D dd s V)) ∧ (∀ t, t < 8 → T.2.1 63 t = nI (sy_rj D u dd V t n)) ∧ ∀ s, s < k → T.2.1 60 s = nI (sy_rk D u dd V n s)) (sy_P B D u dd V n) n (fun t T ⟨a1, a2, a3, a4, a5⟩ => by
    refine ⟨T, ?_, a1, fun s hs => ⟨(a2 s hs).1, (a2 s hs).2, a5 s hs⟩⟩
    show f_X6_take_h143 F mk (f_X6_take_l143 F mk t) (nI n) T = _
    unfold f_X6_take_h143
    rw [a1.1, hb, if_pos (Int32.le_refl _)]) (fun t k T hk ⟨a1, a2, a3, a4, a5⟩ => by
    refine ⟨si_pa T 60 k (nI (sy_rk D u dd V n k)), ⟨a1.pa (by decide) (by decide), fun s hs => ?_, fun s hs => ?_, fun t ht => ?_, fun s hs => ?_⟩, ?_⟩
    · rw [pa_o (by decide), pa_o (by decide)]
      exact a2 s hs
    · rw [pa_o (by decide)]
      exact a3 s hs
    · rw [pa_o (by decide)]
      exact a4 t ht
    · by_cases hsk : s = k
      · subst hsk
        exact pa_e
      · rw [pa_s hsk]
        exact a5 s (by omega)
    · show f_X6_take_h143 F mk (f_X6_take_l143 F mk t) (nI k) T = _
      unfold f_X6_take_h143
      rw [a1.1, hb, if_neg (nI_ge hk (by omega)), sy_risk1 hm g0 g1 hn hV a1 hk (a2 k hk).1 (a3 k hk) a4, Option.bind_some, Option.bind_some, nI_1]) F 0 T (Nat.zero_le _) (by omega) ⟨hf, h58, h62, h63, fun s hs => absurd hs (Nat.not_lt_zero s)⟩
-- the second walk
def sy_ol : Option Nat → Int32
  | none => -1
  | some v => nI v
theorem sy_term {F mk s : Nat} {T B : si_St} {u : Nat → Nat → Nat} (hm : mk = 69 ∨ mk = 78) (g0 : iv_mok u) (g1 : iv_mk (B.1 mk) (fun j => B.2.1 (mk + j)) u) (hf : sy_fr B T) (hs : s < u 1 0) : f_X2_termOfScale F mk (nI s) T = some (nI (sy_tm u s), T) := by
  have h24 := g0.2.1
  have q5 := (g0.2.2.2.2.1 s hs).2.1
  have q11 := g0.2.2.2.2.2.2.2 (u 5 s) q5
  have m5 : T.2.1 (mk + 2) s = nI (u 5 s) := by
    rw [hf.2.1 (mk + 2) (by omega)]
    exact (g1.2.1 s hs).2.1
  have m11 : T.2.1 (mk + 8) (u 5 s) = nI (u 11 (u 5 s)) := by
    rw [hf.2.1 (mk + 8) (by omega)]
    exact g1.2.2.2.2 (u 5 s) q5
  unfold f_X2_termOfScale f_X2_termOfScale_h21 sy_tm
  rw [rd_m2 hm (by omega), Option.bind_some, m5, rd_m8 hm (by omega), Option.bind_some, m11]
  by_cases h0 : u 11 (u 5 s) = 0
  · rw [if_pos (by rw [h0]; rfl), if_pos h0]
    rfl
  · rw [if_neg (nI_ne0 (by omega) (by omega)), if_neg h0]
theorem sy_state1 {F mk s V dd : Nat} {B T : si_St} {u : Nat → Nat → Nat} {D : sy_D} (hm : mk = 69 ∨ mk = 78) (g0 : iv_mok u) (g1 : iv_mk (B.1 mk) (fun j => B.2.1 (mk + j)) u) (hD : sy_ok B u V D) (hdd : dd ≤ 9999) (hf : sy_fr B T) (hs : s < u 1 0) (h61 : T.2.1 61 s = sy_ol (sy_la D dd s V)) (h63 : ∀ t, t < 8 → T.2.1 63 t = nI (sy_rj D u dd V t s)) : ∃ T', f_X6_findState F mk (nI s) (nI dd) T = some T' ∧ sy_fr B T' ∧ (∀ q, q ≠ s → T'.2.1 58 q = T.2.1 58 q ∧ T'.2.1 59 q = T.2.1 59 q) ∧ T'.2.1 58 s = nI (sy_st D u dd V s) ∧ (sy_st D u dd V s = 1 → T'.2.1 59 s = nI (sy_eo D u s (sy_la D dd s V))) ∧ T'.2.1 61 = T.2.1 61 ∧ T'.2.1 62 = T.2.1 62 ∧ ∀ t, t < 8 → T'.2.1 63 t = nI (sy_rj D u dd V t (s + 1)) := by
  have h24 := g0.2.1
  have h8 := g0.1
  have q4 := (g0.2.2.2.2.1 s hs).1
  have hrj : ∀ t, sy_rj D u dd V t (s + 1) = sy_rj D u dd V t s + (if u 4 s = t ∧ sy_st D u dd V s = 3 then 1 else 0) := fun _ => rfl
  have sS : sy_st D u dd V s = sy_so D u dd s (sy_la D dd s V) := rfl
  unfold f_X6_findState f_X6_findState_h115 f_X6_findState_h114
  rw [rd_61 (by omega), Option.bind_some, h61]
  show ∃ T', (Option.bind (si_wr T 59 (nI s) (nI 0)) _) = some T' ∧ _
  rw [wr_59 (by omega), Option.bind_some]
  cases hla : sy_la D dd s V with
  | none =>
    rw [hla] at sS
    have s0 : sy_st D u dd V s = 0 := sS
    refine ⟨si_pa (si_pa T 59 s (nI 0)) 58 s (nI 0), ?_, (hf.pa (by decide) (by decide)).pa (by decide) (by decide), fun q hq => ⟨?_, ?_⟩, ?_, fun h => ?_, ?_, ?_, fun t ht => ?_⟩
    · rw [if_pos (show sy_ol none = -1 from rfl)]
      show Option.bind (si_wr (si_pa T 59 s (nI 0)) 58 (nI s) (nI 0)) _ = _
      rw [wr_58 (by omega), Option.bind_some]
    · rw [pa_s hq, pa_o (by decide)]
    · rw [pa_o (by decide), pa_s hq]
    · rw [pa_e, s0]
    · rw [s0] at h
      exact absurd h (by decide)
    · rw [pa_o (by decide), pa_o (by decide)]
    · rw [pa_o (by decide), pa_o (by decide)]
    · rw [pa_o (by decide), pa_o (by decide), h63 t ht, hrj, if_neg (fun h => by rw [s0] at h; exact absurd h.2 (by decide))]
      rfl
  | some v =>
    rw [hla] at sS
    obtain ⟨hv, hsc, hct⟩ := sy_la_lt hla
    obtain ⟨hV, hB7, hB88, hDv⟩ := hD
    obtain ⟨d1, d2, d3, d4, d5, d6, d7, d8⟩ := hDv v hv
    have hcl : D.2.2.2 v = true := by
      unfold sy_ct at hct
      rw [Bool.and_eq_true] at hct
      exact hct.1
    have hrow : B.2.1 11 v = nI (D.2.2.1 v) := by
      rcases d8 with ⟨c1, -⟩ | ⟨-, c2, -⟩
      · rw [hcl] at c1
        cases c1
      · exact c2
    have t11 : (si_pa T 59 s (nI 0)).2.1 11 v = nI (D.2.2.1 v) := by
      rw [pa_o (by decide), hf.2.1 11 (by decide)]
      exact hrow
    have t9 : (si_pa T 59 s (nI 0)).2.1 9 v = nI (D.2.1 v) := by
      rw [pa_o (by decide), hf.2.1 9 (by decide)]
      exact d4
    have hvI : ¬ sy_ol (some v) = -1 := sm_m1 (by omega)
    rw [if_neg hvI]
    show ∃ T', (Option.bind (si_rd (si_pa T 59 s (nI 0)) 11 (nI v)) fun v4 => if v4 = 0 then (Option.bind (si_rd (si_pa T 59 s (nI 0)) 9 (nI v)) _) else _) = some T' ∧ _
    rw [rd_11 (by omega), Option.bind_some, t11, rd_9 (by omega), Option.bind_some, t9]
    by_cases h0 : D.2.2.1 v = 0
    · have hsS : sy_st D u dd V s = if dd / 360 < sy_ey D u s v then 1 else 2 := sS.trans (if_pos h0)
      have e360 : nI (D.2.1 v) / 360 = nI (D.2.1 v / 360) := pk_div (d := 360) (by omega) (by decide) (by decide)
      have e361 : nI dd / 360 = nI (dd / 360) := pk_div (d := 360) (by omega) (by decide) (by decide)
      have ht := sy_tm_le g0 hs
      rw [if_pos (by rw [h0]; rfl), sy_term hm g0 g1 (hf.pa (by decide) (by decide)) hs, Option.bind_some]
      dsimp only
      rw [e360, e361, nI_add, wr_59 (by omega), Option.bind_some, rd_59 (by omega), Option.bind_some, pa_e]
      have hey : sy_ey D u s v = D.2.1 v / 360 + sy_tm u s := rfl
      rw [← hey]
      have fin : ∀ z, z ≤ 2 → sy_st D u dd V s = z → ∃ T', (Option.bind (si_wr (si_pa (si_pa T 59 s (nI 0)) 59 s (nI (sy_ey D u s v))) 58 (nI s) (nI z)) fun S1 => some S1) = some T' ∧ sy_fr B T' ∧ (∀ q, q ≠ s → T'.2.1 58 q = T.2.1 58 q ∧ T'.2.1 59 q = T.2.1 59 q) ∧ T'.2.1 58 s = nI (sy_st D u dd V s) ∧ (sy_st D u dd V s = 1 → T'.2.1 59 s = nI (sy_eo D u s (some v))) ∧ T'.2.1 61 = T.2.1 61 ∧ T'.2.1 62 = T.2.1 62 ∧ ∀ t, t < 8 → T'.2.1 63 t = nI (sy_rj D u dd V t (s + 1)) := by
        intro z hz hst
        refine ⟨si_pa (si_pa (si_pa T 59 s (nI 0)) 59 s (nI (sy_ey D u s v))) 58 s (nI z), ?_, ((hf.pa (by decide) (by decide)).pa (by decide) (by decide)).pa (by decide) (by decide), fun q hq => ⟨?_, ?_⟩, ?_, fun h => ?_, ?_, ?_, fun t ht => ?_⟩
        · rw [wr_58 (by omega), Option.bind_some]
        · rw [pa_s hq, pa_o (by decide), pa_o (by decide)]
        · rw [pa_o (by decide), pa_s hq, pa_s hq]
        · rw [pa_e, hst]
        · rw [pa_o (by decide), pa_e]
          rfl
        · rw [pa_o (by decide), pa_o (by decide), pa_o (by decide)]
        · rw [pa_o (by decide), pa_o (by decide), pa_o (by decide)]
        · rw [pa_o (by decide), pa_o (by decide), pa_o (by decide), h63 t ht, hrj, if_neg (fun h => by rw [hst] at h; omega)]
          rfl
      by_cases hlt : dd / 360 < sy_ey D u s v
      · rw [if_neg (nI_ge hlt (by omega))]
        rw [if_pos hlt] at hsS
        exact fin 1 (by decide) hsS
      · rw [if_pos (nI_le (by omega) (by omega))]
        rw [if_neg hlt] at hsS
        exact fin 2 (by decide) hsS
    · have hsS : sy_st D u dd V s = 3 := sS.trans (if_neg h0)
      have m4 : (si_pa (si_pa T 59 s (nI 0)) 58 s (nI 3)).2.1 (mk + 1) s = nI (u 4 s) := by
        rw [pa_o (by omega), pa_o (by omega), hf.2.1 (mk + 1) (by omega)]
        exact (g1.2.1 s hs).1
      have t63 : (si_pa (si_pa T 59 s (nI 0)) 58 s (nI 3)).2.1 63 (u 4 s) = nI (sy_rj D u dd V (u 4 s) s) := by
        rw [pa_o (by decide), pa_o (by decide)]
        exact h63 _ (by omega)
      refine ⟨si_pa (si_pa (si_pa T 59 s (nI 0)) 58 s (nI 3)) 63 (u 4 s) (nI (sy_rj D u dd V (u 4 s) s + 1)), ?_, ((hf.pa (by decide) (by decide)).pa (by decide) (by decide)).pa (by decide) (by decide), fun q hq => ⟨?_, ?_⟩, ?_, fun h => ?_, ?_, ?_, fun t ht => ?_⟩
      · rw [if_neg (nI_ne0 (by omega) (by omega))]
        show Option.bind (si_wr (si_pa T 59 s (nI 0)) 58 (nI s) (nI 3)) _ = _
        rw [wr_58 (by omega), Option.bind_some, rd_m1 hm (by omega), Option.bind_some, m4, rd_63 (by omega), Option.bind_some, t63, nI_1, wr_63 (by omega), Option.bind_some]
      · rw [pa_o (by decide), pa_s hq, pa_o (by decide)]
      · rw [pa_o (by decide), pa_o (by decide), pa_s hq]
      · rw [pa_o (by decide), pa_e, hsS]
      · rw [hsS] at h
        exact absurd h (by decide)
      · rw [pa_o (by decide), pa_o (by decide), pa_o (by decide)]
      · rw [pa_o (by decide), pa_o (by decide), pa_o (by decide)]
      · rw [hrj]
        by_cases htu : t = u 4 s
        · subst htu
          rw [pa_e, if_pos ⟨rfl, hsS⟩]
        · rw [pa_s htu, pa_o (by decide), pa_o (by decide), h63 t ht, if_neg (fun h => htu h.1.symm)]
          rfl
theorem sy_walk2 {F mk n V dd : Nat} {B T : si_St} {u : Nat → Nat → Nat} {D : sy_D} (hm : mk = 69 ∨ mk = 78) (g0 : iv_mok u) (g1 : iv_mk (B.1 mk) (fun j => B.2.1 (mk + j)) u) (hn : n = u 1 0) (hD : sy_ok B u V D) (hdd : dd ≤ 9999) (hb : B.1 57 7 = nI n) (hF : 25 ≤ F) (hf : sy_fr B T) (h61 : ∀ s, s < 24 → T.2.1 61 s = sy_ol (sy_la D dd s V)) (h62 : ∀ s, s < 24 → T.2.1 62 s = nI (sy_fa D dd s V)) (h63 : ∀ t, t < 8 → T.2.1 63 t = nI 0) : sy_P B D u dd V n (f_X6_take_l116 F mk F (nI dd) 0 T) := by
  have h24 := g0.2.1
  exact lp_inv (fun t k T => f_X6_take_l116 F mk t (nI dd) (nI k) T) (fun k T => sy_fr B T ∧ (∀ s, s < k → T.2.1 58 s = nI (sy_st D u dd V s) ∧ (sy_st D u dd V s = 1 → T.2.1 59 s = nI (sy_eo D u s (sy_la D dd s V)))) ∧ (∀ s, s < 24 → T.2.1 61 s = sy_ol (sy_la D dd s V)) ∧ (∀ s, s < 24 → T.2.1 62 s = nI (sy_fa D dd s V)) ∧ (∀ t, t < 8 → T.2.1 63 t = nI (sy_rj D u dd V t k))) (sy_P B D u dd V n) n (fun t T ⟨a1, a2, a3, a4, a5⟩ => by
    show sy_P B D u dd V n (f_X6_take_h116 F mk (f_X6_take_l116 F mk t) (nI dd) (nI n) T)
    unfold f_X6_take_h116
    rw [a1.1, hb, if_pos (Int32.le_refl _)]
    exact sy_walk3 hm g0 g1 hn hD.1 hb hF a1 a2 (fun s hs => a4 s (by omega)) a5) (fun t k T hk ⟨a1, a2, a3, a4, a5⟩ => by
    obtain ⟨T', e, b1, b2, b3, b4, b5, b6, b7⟩ := sy_state1 (F := F) hm g0 g1 hD hdd a1 (show k < u 1 0 by omega) (a3 k (by omega)) a5
    refine ⟨T', ⟨b1, fun s hs => ?_, fun s hs => by rw [b5]; exact a3 s hs, fun s hs => by rw [b6]; exact a4 s hs, b7⟩, ?_⟩
    · by_cases hsk : s = k
      · subst hsk
        exact ⟨b3, b4⟩
      · rw [(b2 s hsk).1, (b2 s hsk).2]
        exact a2 s (by omega)
    · show f_X6_take_h116 F mk (f_X6_take_l116 F mk t) (nI dd) (nI k) T = _
      unfold f_X6_take_h116
      rw [a1.1, hb, if_neg (nI_ge hk (by omega)), e, Option.bind_some, Option.bind_some, nI_1]) F 0 T (Nat.zero_le _) (by omega) ⟨hf, fun s hs => absurd hs (Nat.not_lt_zero s), h61, h62, h63⟩
-- the first walk
theorem sy_walk1 {F mk n V dd : Nat} {B T : si_St} {u : Nat → Nat → Nat} {D : sy_D} (hm : mk = 69 ∨ mk = 78) (g0 : iv_mok u) (g1 : iv_mk (B.1 mk) (fun j => B.2.1 (mk + j)) u) (hn : n = u 1 0) (hD : sy_ok B u V D) (hdd : dd ≤ 9999) (hb : B.1 57 7 = nI n) (hF : 31 ≤ F) (hf : sy_fr B T) (h61 : ∀ s, s < 24 → T.2.1 61 s = -1) (h62 : ∀ s, s < 24 → T.2.1 62 s = nI 0) (h63 : ∀ t, t < 8 → T.2.1 63 t = nI 0) : sy_P B D u dd V n (f_X6_take_l35 F mk F (nI dd) 0 T) := by
  have h24 := g0.2.1
  have hV := hD.1
  exact lp_inv (fun t k T => f_X6_take_l35 F mk t (nI dd) (nI k) T) (fun k T => sy_fr B T ∧ (∀ s, s < 24 → T.2.1 61 s = sy_ol (sy_la D dd s k)) ∧ (∀ s, s < 24 → T.2.1 62 s = nI (sy_fa D dd s k)) ∧ (∀ t, t < 8 → T.2.1 63 t = nI 0)) (sy_P B D u dd V n) V (fun t T ⟨a1, a3, a4, a5⟩ => by
    show sy_P B D u dd V n (f_X6_take_h35 F mk (f_X6_take_l35 F mk t) (nI dd) (nI V) T)
    unfold f_X6_take_h35
    rw [a1.1, hD.2.1, if_pos (Int32.le_refl _)]
    exact sy_walk2 hm g0 g1 hn hD hdd hb (by omega) a1 a3 a4 a5) (fun t k T hk ⟨a1, a3, a4, a5⟩ => by
    obtain ⟨d1, d2, d3, d4, d5, d6, d7, d8⟩ := hD.2.2.2 k hk
    have t8 : T.2.1 8 k = nI (D.1 k) := by rw [a1.2.1 8 (by decide)]; exact d3
    have t9 : T.2.1 9 k = nI (D.2.1 k) := by rw [a1.2.1 9 (by decide)]; exact d4
    have lk : ∀ s, sy_la D dd s (k + 1) = if D.1 k = s ∧ sy_ct D dd k = true then some k else sy_la D dd s k := fun _ => rfl
    have fk : ∀ s, sy_fa D dd s (k + 1) = sy_fa D dd s k + (if D.1 k = s ∧ sy_ct D dd k = true ∧ D.2.2.1 k ≠ 0 then 1 else 0) := fun _ => rfl
    have h107 : ∀ T2 : si_St, f_X6_take_h107 F mk (f_X6_take_l35 F mk t) (nI dd) (nI k) T2 = f_X6_take_l35 F mk t (nI dd) (nI (k + 1)) T2 := by
      intro T2
      unfold f_X6_take_h107
      rw [Option.bind_some, nI_1]
    have skip : sy_ct D dd k = false → (sy_fr B T ∧ (∀ s, s < 24 → T.2.1 61 s = sy_ol (sy_la D dd s (k + 1))) ∧ (∀ s, s < 24 → T.2.1 62 s = nI (sy_fa D dd s (k + 1))) ∧ (∀ t, t < 8 → T.2.1 63 t = nI 0)) := by
      intro hc
      refine ⟨a1, fun s hs => ?_, fun s hs => ?_, a5⟩
      · rw [lk, if_neg (fun h => by rw [hc] at h; exact absurd h.2 (by decide))]
        exact a3 s hs
      · rw [fk, if_neg (fun h => by rw [hc] at h; exact absurd h.2.1 (by decide))]
        exact a4 s hs
    have s0 : f_X6_take_l35 F mk (t + 1) (nI dd) (nI k) T = (Option.bind (f_X7_isOpen F (nI k) T) fun q7 => if q7.1 = 0 then (Option.bind (si_rd q7.2 9 (nI k)) fun v8 => if nI dd < v8 then (f_X6_take_h107 F mk (f_X6_take_l35 F mk t) (nI dd) (nI k) q7.2) else (Option.bind (si_rd q7.2 8 (nI k)) fun v9 => Option.bind (si_wr q7.2 61 v9 (nI k)) fun S10 => Option.bind (si_rd S10 62 v9) fun v11 => Option.bind (si_rd S10 11 (nI k)) fun v12 => if v12 = 0 then (f_X6_take_h105 F mk (f_X6_take_l35 F mk t) (nI dd) (nI k) 0 v11 v9 S10) else (f_X6_take_h105 F mk (f_X6_take_l35 F mk t) (nI dd) (nI k) 1 v11 v9 S10))) else (f_X6_take_h107 F mk (f_X6_take_l35 F mk t) (nI dd) (nI k) q7.2)) := by
      show f_X6_take_h35 F mk (f_X6_take_l35 F mk t) (nI dd) (nI k) T = _
      unfold f_X6_take_h35
      rw [a1.1, hD.2.1, if_neg (nI_ge hk (by omega))]
    rw [f9_isOpen (by omega), Option.bind_some, a1.2.1 11 (by decide)] at s0
    dsimp only at s0
    rcases d8 with ⟨c1, c2, -⟩ | ⟨c1, c2, -⟩
    · refine ⟨T, skip (by unfold sy_ct; rw [c1]; rfl), ?_⟩
      show f_X6_take_l35 F mk (t + 1) (nI dd) (nI k) T = _
      rw [s0, if_pos c2, if_neg sm_10, h107]
    · have c2' : ¬ B.2.1 11 k = -1 := by rw [c2]; exact sm_m1 (by omega)
      rw [if_neg c2', if_pos rfl, rd_9 (by omega), Option.bind_some, t9] at s0
      by_cases hlt : dd < D.2.1 k
      · refine ⟨T, skip (by unfold sy_ct; rw [c1, decide_eq_false (by omega)]; rfl), ?_⟩
        show f_X6_take_l35 F mk (t + 1) (nI dd) (nI k) T = _
        rw [s0, if_pos (nI_lt hlt (by omega)), h107]
      · have hct : sy_ct D dd k = true := by unfold sy_ct; rw [c1, decide_eq_true (by omega)]; rfl
        have t62 : (si_pa T 61 (D.1 k) (nI k)).2.1 62 (D.1 k) = nI (sy_fa D dd (D.1 k) k) := by
          rw [pa_o (by decide)]
          exact a4 _ (by omega)
        have t11 : (si_pa T 61 (D.1 k) (nI k)).2.1 11 k = nI (D.2.2.1 k) := by
          rw [pa_o (by decide), a1.2.1 11 (by decide)]
          exact c2
        rw [if_neg (nI_nlt (by omega) (by omega)), rd_8 (by omega), Option.bind_some, t8, wr_61 (by omega), Option.bind_some, rd_62 (by omega), Option.bind_some, rd_11 (by omega), Option.bind_some, t62, t11] at s0
        have h105 : ∀ z : Nat, f_X6_take_h105 F mk (f_X6_take_l35 F mk t) (nI dd) (nI k) (nI z) (nI (sy_fa D dd (D.1 k) k)) (nI (D.1 k)) (si_pa T 61 (D.1 k) (nI k)) = f_X6_take_l35 F mk t (nI dd) (nI (k + 1)) (si_pa (si_pa T 61 (D.1 k) (nI k)) 62 (D.1 k) (nI (sy_fa D dd (D.1 k) k + z))) := by
          intro z
          unfold f_X6_take_h105
          rw [nI_add, wr_62 (by omega), Option.bind_some, h107]
        refine ⟨si_pa (si_pa T 61 (D.1 k) (nI k)) 62 (D.1 k) (nI (sy_fa D dd (D.1 k) k + if D.2.2.1 k = 0 then 0 else 1)), ⟨(a1.pa (by decide) (by decide)).pa (by decide) (by decide), fun s hs => ?_, fun s hs => ?_, fun t ht => ?_⟩, ?_⟩
        · rw [pa_o (by decide), lk]
          by_cases hsc : s = D.1 k
          · subst hsc
            rw [pa_e, if_pos ⟨rfl, hct⟩]
            rfl
          · rw [pa_s hsc, if_neg (fun h => hsc h.1.symm)]
            exact a3 s hs
        · rw [fk]
          by_cases hsc : s = D.1 k
          · subst hsc
            rw [pa_e]
            by_cases h0 : D.2.2.1 k = 0
            · rw [if_pos h0, if_neg (fun h => h.2.2 h0)]
            · rw [if_neg h0, if_pos ⟨rfl, hct, h0⟩]
          · rw [pa_s hsc, pa_o (by decide), if_neg (fun h => hsc h.1.symm)]
            exact a4 s hs
        · rw [pa_o (by decide), pa_o (by decide)]
          exact a5 t ht
        · show f_X6_take_l35 F mk (t + 1) (nI dd) (nI k) T = _
          rw [s0]
          by_cases h0 : D.2.2.1 k = 0
          · rw [if_pos (by rw [h0]; rfl), if_pos h0]
            exact h105 0
          · rw [if_neg (nI_ne0 (by omega) (by omega)), if_neg h0]
            exact h105 1) F 0 T (Nat.zero_le _) (by omega) ⟨hf, h61, h62, h63⟩
-- Arrays.fill
theorem sy_fill {F k n : Nat} {v : Int32} {S : si_St} (hl : si_ln k = n) (hn : n < 1000) (hF : 1000 ≤ F) : ∃ T, f_J7_fill_53178 F k v S = some T ∧ T.1 = S.1 ∧ (∀ r, r ≠ k → T.2.1 r = S.2.1 r) ∧ T.2.2 = S.2.2 ∧ ∀ i, i < n → T.2.1 k i = v := by
  unfold f_J7_fill_53178
  rw [hl, Option.bind_some]
  exact lp_inv (fun t i T => f_J7_fill_53178_l5 F k t v (nI i) (nI n) T) (fun i T => T.1 = S.1 ∧ (∀ r, r ≠ k → T.2.1 r = S.2.1 r) ∧ T.2.2 = S.2.2 ∧ ∀ j, j < i → T.2.1 k j = v) (fun o => ∃ T, o = some T ∧ T.1 = S.1 ∧ (∀ r, r ≠ k → T.2.1 r = S.2.1 r) ∧ T.2.2 = S.2.2 ∧ ∀ i, i < n → T.2.1 k i = v) n (fun t T ⟨a1, a2, a3, a4⟩ => by
    refine ⟨T, ?_, a1, a2, a3, a4⟩
    show f_J7_fill_53178_h5 F k (f_J7_fill_53178_l5 F k t) v (nI n) (nI n) T = _
    unfold f_J7_fill_53178_h5
    rw [if_pos (Int32.le_refl _)]) (fun t i T hi ⟨a1, a2, a3, a4⟩ => by
    refine ⟨si_pa T k i v, ⟨a1, fun r hr => (pa_o hr).trans (a2 r hr), a3, fun j hj => ?_⟩, ?_⟩
    · by_cases hji : j = i
      · subst hji
        exact pa_e
      · rw [pa_s hji]
        exact a4 j (by omega)
    · show f_J7_fill_53178_h5 F k (f_J7_fill_53178_l5 F k t) v (nI i) (nI n) T = _
      unfold f_J7_fill_53178_h5
      rw [if_neg (nI_ge hi (by omega)), sm_wr (by omega) (by omega), Option.bind_some, Option.bind_some, nI_1]) F 0 S (Nat.zero_le _) (by omega) ⟨rfl, fun _ _ => rfl, rfl, fun j hj => absurd hj (Nat.not_lt_zero j)⟩
theorem sy_take {F mk V dd : Nat} {S : si_St} {u : Nat → Nat → Nat} {D : sy_D} (hm : mk = 69 ∨ mk = 78) (g0 : iv_mok u) (g1 : iv_mk (S.1 mk) (fun j => S.2.1 (mk + j)) u) (hD : sy_ok S u V D) (hdd : dd ≤ 9999) (hF : 1000 ≤ F) : ∃ T, f_X6_take F mk (nI dd) S = some T ∧ iv_same S T ∧ T.1 57 7 = nI (u 1 0) ∧ sy_fr (si_ps S 57 7 (nI (u 1 0))) T ∧ ∀ s, s < u 1 0 → T.2.1 58 s = nI (sy_st D u dd V s) ∧ (sy_st D u dd V s = 1 → T.2.1 59 s = nI (sy_eo D u s (sy_la D dd s V))) ∧ T.2.1 60 s = nI (sy_rk D u dd V (u 1 0) s) := by
  have hs1 : S.1 mk 1 = nI (u 1 0) := g1.1 1 (by decide)
  obtain ⟨T1, e1, x1, y1, z1, w1⟩ := sy_fill (F := F) (k := 61) (n := 24) (v := -1) (S := si_ps S 57 7 (nI (u 1 0))) rfl (by decide) hF
  obtain ⟨T2, e2, x2, y2, z2, w2⟩ := sy_fill (F := F) (k := 62) (n := 24) (v := 0) (S := T1) rfl (by decide) hF
  obtain ⟨T3, e3, x3, y3, z3, w3⟩ := sy_fill (F := F) (k := 63) (n := 8) (v := 0) (S := T2) rfl (by decide) hF
  have fr : sy_fr (si_ps S 57 7 (nI (u 1 0))) T3 := ⟨by rw [x3, x2, x1], fun r hr => by rw [y3 r (by omega), y2 r (by omega), y1 r (by omega)], by rw [z3, z2, z1]⟩
  have g1' : iv_mk ((si_ps S 57 7 (nI (u 1 0))).1 mk) (fun j => (si_ps S 57 7 (nI (u 1 0))).2.1 (mk + j)) u := g1.cg (fun j _ => ps_o (fun h => by omega)) (fun _ _ _ => rfl)
  have hD' : sy_ok (si_ps S 57 7 (nI (u 1 0))) u V D := ⟨hD.1, (ps_o (by decide)).trans hD.2.1, hD.2.2⟩
  obtain ⟨T, eT, f1, f2⟩ := sy_walk1 (F := F) hm g0 g1' rfl hD' hdd ps_e (by omega) fr (fun s hs => by rw [y3 61 (by decide), y2 61 (by decide)]; exact w1 s hs) (fun s hs => by rw [y3 62 (by decide)]; exact w2 s hs) w3
  refine ⟨T, ?_, ?_, ?_, f1, f2⟩
  · unfold f_X6_take
    rw [hs1, sm_pt, Option.bind_some, e1, Option.bind_some, e2, Option.bind_some, e3, Option.bind_some]
    exact eT
  · refine (iv_same.ps (S := S) (k := 57) (j := 7) (v := nI (u 1 0)) rfl).tr ⟨fun k j hk => ?_, fun k hk => ?_, ?_, ?_, ?_, ?_⟩
    · rw [f1.1]
    · refine f1.2.1 k ?_
      have h1 : ∀ q, q ≠ k ∨ iv_ra q = true := fun q => by
        by_cases h : q = k
        · exact Or.inr (h ▸ hk)
        · exact Or.inl h
      have c57 := (h1 57).resolve_right (by decide)
      have c58 := (h1 58).resolve_right (by decide)
      have c59 := (h1 59).resolve_right (by decide)
      have c60 := (h1 60).resolve_right (by decide)
      have c61 := (h1 61).resolve_right (by decide)
      have c62 := (h1 62).resolve_right (by decide)
      have c63 := (h1 63).resolve_right (by decide)
      have c64 := (h1 64).resolve_right (by decide)
      omega
    all_goals rw [f1.2.2]
  · rw [f1.1]
    exact ps_e
