-- the survey of all scales on a day
theorem lp_inv {σ α : Type} (L : Nat → Nat → σ → α) (I : Nat → σ → Prop) (P : α → Prop) (n : Nat) (hend : ∀ t s, I n s → P (L (t + 1) n s)) (hstep : ∀ t k s, k < n → I k s → ∃ s', I (k + 1) s' ∧ L (t + 1) k s = L t (k + 1) s') : ∀ t k s, k ≤ n → n < t + k → I k s → P (L t k s)
  | 0, k, s, h1, h2, _ => absurd h2 (by omega)
  | t + 1, k, s, h1, h2, h3 => by
    by_cases hk : k = n
    · subst hk
      exact hend t s h3
    · obtain ⟨s', h4, h5⟩ := hstep t k s (by omega) h3
      rw [h5]
      exact lp_inv L I P n hend hstep t (k + 1) s' (by omega) (by omega) h4
/-- the visits as both sides have them: scale, day, verdict, closed -/
abbrev sy_D : Type := (Nat → Nat) × (Nat → Nat) × (Nat → Nat) × (Nat → Bool)
def sy_ok (S : si_St) (u : Nat → Nat → Nat) (V : Nat) (D : sy_D) : Prop := V ≤ 30 ∧ S.1 7 0 = nI V ∧ S.2.1 88 0 = nI V ∧ ∀ v, v < V → D.1 v < u 1 0 ∧ D.2.1 v ≤ 9999 ∧ S.2.1 8 v = nI (D.1 v) ∧ S.2.1 9 v = nI (D.2.1 v) ∧ S.2.1 88 (1 + v) = nI (D.1 v) ∧ S.2.1 88 (31 + v) = nI (D.2.1 v) ∧ D.2.2.1 v ≤ 5 ∧ ((D.2.2.2 v = false ∧ S.2.1 11 v = -1 ∧ S.2.1 88 (61 + v) = 0) ∨ (D.2.2.2 v = true ∧ S.2.1 11 v = nI (D.2.2.1 v) ∧ S.2.1 88 (61 + v) = 1 ∧ S.2.1 88 (91 + v) = nI (D.2.2.1 v)))
def sy_ct (D : sy_D) (dd v : Nat) : Bool := D.2.2.2 v && decide (D.2.1 v ≤ dd)
def sy_la (D : sy_D) (dd s : Nat) : Nat → Option Nat
  | 0 => none
  | k + 1 => if D.1 k = s ∧ sy_ct D dd k = true then some k else sy_la D dd s k
def sy_fa (D : sy_D) (dd s : Nat) : Nat → Nat
  | 0 => 0
  | k + 1 => sy_fa D dd s k + (if D.1 k = s ∧ sy_ct D dd k = true ∧ D.2.2.1 k ≠ 0 then 1 else 0)
def sy_tm (u : Nat → Nat → Nat) (s : Nat) : Nat := if u 11 (u 5 s) = 0 then 2 else u 11 (u 5 s)
def sy_ey (D : sy_D) (u : Nat → Nat → Nat) (s v : Nat) : Nat := D.2.1 v / 360 + sy_tm u s
def sy_so (D : sy_D) (u : Nat → Nat → Nat) (dd s : Nat) : Option Nat → Nat
  | none => 0
  | some v => if D.2.2.1 v = 0 then (if dd / 360 < sy_ey D u s v then 1 else 2) else 3
def sy_st (D : sy_D) (u : Nat → Nat → Nat) (dd V s : Nat) : Nat := sy_so D u dd s (sy_la D dd s V)
def sy_eo (D : sy_D) (u : Nat → Nat → Nat) (s : Nat) : Option Nat → Nat
  | none => 0
  | some v => sy_ey D u s v
def sy_rj (D : sy_D) (u : Nat → Nat → Nat) (dd V t : Nat) : Nat → Nat
  | 0 => 0
  | k + 1 => sy_rj D u dd V t k + (if u 4 k = t ∧ sy_st D u dd V k = 3 then 1 else 0)
def sy_bs (st : Nat) : Nat := if st = 0 then 4 else if st = 1 then 1 else if st = 2 then 3 else 6
def sy_rk (D : sy_D) (u : Nat → Nat → Nat) (dd V n s : Nat) : Nat := sy_bs (sy_st D u dd V s) + sy_fa D dd s V + (sy_rj D u dd V (u 4 s) n - (if sy_st D u dd V s = 3 then 1 else 0))
theorem sy_la_lt {D : sy_D} {dd s : Nat} : ∀ {k v : Nat}, sy_la D dd s k = some v → v < k ∧ D.1 v = s ∧ sy_ct D dd v = true
  | 0, v, h => nomatch h
  | k + 1, v, h => by
    have h' : (if D.1 k = s ∧ sy_ct D dd k = true then some k else sy_la D dd s k) = some v := h
    by_cases hc : D.1 k = s ∧ sy_ct D dd k = true
    · rw [if_pos hc] at h'
      have e := Option.some.inj h'
      subst e
      exact ⟨by omega, hc.1, hc.2⟩
    · rw [if_neg hc] at h'
      have := sy_la_lt h'
      exact ⟨by omega, this.2⟩
theorem sy_fa_le {D : sy_D} {dd s : Nat} : ∀ k, sy_fa D dd s k ≤ k
  | 0 => Nat.le_refl 0
  | k + 1 => by
    have := sy_fa_le (D := D) (dd := dd) (s := s) k
    show sy_fa D dd s k + (if D.1 k = s ∧ sy_ct D dd k = true ∧ D.2.2.1 k ≠ 0 then 1 else 0) ≤ k + 1
    split <;> omega
theorem sy_rj_le {D : sy_D} {u : Nat → Nat → Nat} {dd V t : Nat} : ∀ k, sy_rj D u dd V t k ≤ k
  | 0 => Nat.le_refl 0
  | k + 1 => by
    have := sy_rj_le (D := D) (u := u) (dd := dd) (V := V) (t := t) k
    show sy_rj D u dd V t k + (if u 4 k = t ∧ sy_st D u dd V k = 3 then 1 else 0) ≤ k + 1
    split <;> omega
theorem sy_rj_pos {D : sy_D} {u : Nat → Nat → Nat} {dd V s : Nat} (h : sy_st D u dd V s = 3) : ∀ k, s < k → 1 ≤ sy_rj D u dd V (u 4 s) k
  | 0, h1 => absurd h1 (Nat.not_lt_zero s)
  | k + 1, h1 => by
    show 1 ≤ sy_rj D u dd V (u 4 s) k + (if u 4 k = u 4 s ∧ sy_st D u dd V k = 3 then 1 else 0)
    by_cases hk : s = k
    · subst hk
      rw [if_pos ⟨rfl, h⟩]
      omega
    · have := sy_rj_pos h k (by omega)
      omega
theorem sy_tm_le {u : Nat → Nat → Nat} (g0 : iv_mok u) {s : Nat} (hs : s < u 1 0) : sy_tm u s ≤ 5 ∧ 1 ≤ sy_tm u s := by
  have h := g0.2.2.2.2.2.2.2 (u 5 s) (g0.2.2.2.2.1 s hs).2.1
  unfold sy_tm
  split <;> omega
theorem sy_st_le {D : sy_D} {u : Nat → Nat → Nat} {dd V s : Nat} : sy_st D u dd V s ≤ 3 := by
  unfold sy_st sy_so
  split
  · omega
  · split
    · split <;> omega
    · omega
theorem sy_bs_le (s : Nat) : sy_bs s ≤ 6 ∧ 1 ≤ sy_bs s := by
  unfold sy_bs
  split
  · omega
  · split
    · omega
    · split <;> omega
/-- only the survey's own places differ -/
def sy_fr (B T : si_St) : Prop := T.1 = B.1 ∧ (∀ r, r < 57 ∨ 64 < r → T.2.1 r = B.2.1 r) ∧ T.2.2 = B.2.2
theorem sy_fr.rf (B : si_St) : sy_fr B B := ⟨rfl, fun _ _ => rfl, rfl⟩
theorem sy_fr.pa {B T : si_St} {k i : Nat} {v : Int32} (h : sy_fr B T) (h1 : 57 ≤ k) (h2 : k ≤ 64) : sy_fr B (si_pa T k i v) := ⟨h.1, fun r hr => (pa_o (by omega)).trans (h.2.1 r hr), h.2.2⟩
def sy_P (B : si_St) (D : sy_D) (u : Nat → Nat → Nat) (dd V n : Nat) (o : Option si_St) : Prop := ∃ T, o = some T ∧ sy_fr B T ∧ ∀ s, s < n → T.2.1 58 s = nI (sy_st D u dd V s) ∧ (sy_st D u dd V s = 1 → T.2.1 59 s = nI (sy_eo D u s (sy_la D dd s V))) ∧ T.2.1 60 s = nI (sy_rk D u dd V n s)
-- the second walk
def sy_ol : Option Nat → Int32
  | none => -1
  | some v => nI v
-- Arrays.fill
theorem sy_fill {F k n : Nat} {v : Int32} {S : si_St} (hl : si_ln k = n) (hn : n < 1000) (hF : 1000 ≤ F) : ∃ T, f_J7_fill_53178 F k v S = some T ∧ T.1 = S.1 ∧ (∀ r, r ≠ k → T.2.1 r = S.2.1 r) ∧ T.2.2 = S.2.2 ∧ ∀ i, i < n → T.2.1 k i = v := by
  unfold f_J7_fill_53178
  rw [hl, Option.bind_some]
  exact lp_inv (fun t i T => f_J7_fill_53178_l5 F k t v (nI i) (nI n) T) (fun i T => T.1 = S.1 ∧ (∀ r, r ≠ k → T.2.1 r = S.2.1 r) ∧ T.2.2 = S.2.2 ∧ ∀ j, j < i → T.2.1 k j = v) (fun o => ∃ T, o = some T ∧ T.1 = S.1 ∧ (∀ r, r ≠ k → T.2.1 r = S.2.1 r) ∧ T.2.2 = S.2.2 ∧ ∀ i, i < n → T.2.1 k i = v) n (fun t T ⟨a1, a2, a3, a4⟩ => by
    refine ⟨T, ?_, a1, a2, a3, a4⟩
    show f_J7_fill_53178_h5 F k (f_J7_fill_53178_l5 F k t) v (nI n) (nI n) T = _
    unfold f_J7_fill_53178_h5
    rw [if_pos (Int32.le_refl _)]) (fun t i T hi ⟨a1, a2, a3, a4⟩ => by
    refine ⟨si_pa T k i v, ⟨a1, fun r hr => (pa_o hr).trans (a2 r hr), a3, fun j hj => ?_⟩, ?_⟩
    · by_cases hji : j = i
      · subst hji
        exact pa_e
      · rw [pa_s hji]
        exact a4 j (by omega)
    · show f_J7_fill_53178_h5 F k (f_J7_fill_53178_l5 F k t) v (nI i) (nI n) T = _
      unfold f_J7_fill_53178_h5
      rw [if_neg (nI_ge hi (by omega)), sm_wr (by omega) (by omega), Option.bind_some, Option.bind_some, nI_1]) F 0 S (Nat.zero_le _) (by omega) ⟨rfl, fun _ _ => rfl, rfl, fun j hj => absurd hj (Nat.not_lt_zero j)⟩
