-- the other side's seals and risks
def sy_m (S : si_St) (u : Nat → Nat → Nat) (V : Nat) (D : sy_D) : Prop := iv_mok u ∧ iv_mm (S.1 87) S.2.1 u ∧ V ≤ 30 ∧ S.2.1 88 0 = nI V ∧ ∀ v, v < V → D.1 v < u 1 0 ∧ D.2.1 v ≤ 9999 ∧ S.2.1 88 (1 + v) = nI (D.1 v) ∧ S.2.1 88 (31 + v) = nI (D.2.1 v) ∧ D.2.2.1 v ≤ 5 ∧ ((D.2.2.2 v = false ∧ S.2.1 88 (61 + v) = 0) ∨ (D.2.2.2 v = true ∧ S.2.1 88 (61 + v) = 1 ∧ S.2.1 88 (91 + v) = nI (D.2.2.1 v)))
theorem sy_of {S : si_St} {u : Nat → Nat → Nat} {V : Nat} (g0 : iv_mok u) (hV : V ≤ 30) (h7 : S.1 7 0 = nI V) (hv : iv_view u (nI V) (fun j => S.2.1 (7 + j)) (fun j => S.2.1 (16 + j)) (S.2.1 88)) : ∃ D, sy_ok S u V D := by
  obtain ⟨⟨V2, hV2, hc, hn, hv⟩, -⟩ := hv
  have hVV : V = V2 := sm_inj (by omega) (by omega) hc
  subst hVV
  refine ⟨(fun v => (S.2.1 8 v).toNatClampNeg, fun v => (S.2.1 9 v).toNatClampNeg, fun v => if S.2.1 11 v = -1 then 0 else (S.2.1 11 v).toNatClampNeg, fun v => !decide (S.2.1 11 v = -1)), hV, h7, hn, fun v hvV => ?_⟩
  obtain ⟨⟨s, hs, a1, m1, -⟩, ⟨d, hd, a2, m2⟩, -, h4⟩ := hv v hvV
  have h24 := g0.2.1
  have a1' : S.2.1 8 v = nI s := a1
  have a2' : S.2.1 9 v = nI d := a2
  dsimp only
  rw [a1', a2', m1, m2, nI_clamp (n := d) (by omega), nI_clamp (n := s) (by omega)]
  rcases h4 with ⟨q1, q2⟩ | ⟨r, hr5, q1, q2, q3⟩
  · have q1' : S.2.1 11 v = -1 := q1
    rw [q1', q2, if_pos rfl]
    exact ⟨hs, hd, rfl, rfl, rfl, rfl, by decide, Or.inl ⟨rfl, rfl, rfl⟩⟩
  · have q1' : S.2.1 11 v = nI r := q1
    have qm : ¬ nI r = -1 := sm_m1 (by omega)
    rw [q1', q2, q3, if_neg qm, nI_clamp (by omega), decide_eq_false qm]
    exact ⟨hs, hd, rfl, rfl, rfl, rfl, hr5, Or.inr ⟨rfl, rfl, rfl, rfl⟩⟩
theorem sy_mof {S T : si_St} {u : Nat → Nat → Nat} {V : Nat} {D : sy_D} (g0 : iv_mok u) (g2 : iv_mm (S.1 87) S.2.1 u) (h : sy_ok S u V D) (e1 : ∀ j, j ≠ 0 → T.1 87 j = S.1 87 j) (e2 : ∀ r, 88 ≤ r → r ≤ 96 → T.2.1 r = S.2.1 r) : sy_m T u V D := by
  obtain ⟨hV, -, h88, hv⟩ := h
  refine ⟨g0, g2.cg (e1 2 (by decide)) (e1 3 (by decide)) (e1 8 (by decide)) (e1 10 (by decide)) (fun r r1 r2 => e2 r (by omega) r2), hV, by rw [e2 88 (by decide) (by decide)]; exact h88, fun v hvV => ?_⟩
  obtain ⟨d1, d2, d3, d4, d5, d6, d7, d8⟩ := hv v hvV
  rw [e2 88 (by decide) (by decide)]
  refine ⟨d1, d2, d5, d6, d7, d8.imp (fun h => ⟨h.1, h.2.2⟩) (fun h => ⟨h.1, h.2.2.1, h.2.2.2⟩)⟩
def sy_lo : Option Nat → Int32
  | none => -2
  | some v => nI v
def sy_ot (D : sy_D) (u : Nat → Nat → Nat) (dd V s : Nat) : Nat → Nat
  | 0 => 0
  | k + 1 => sy_ot D u dd V s k + (if k ≠ s ∧ u 4 k = u 4 s ∧ sy_st D u dd V k = 3 then 1 else 0)
theorem sy_ot_rj {D : sy_D} {u : Nat → Nat → Nat} {dd V s : Nat} : ∀ k, sy_ot D u dd V s k + (if s < k ∧ sy_st D u dd V s = 3 then 1 else 0) = sy_rj D u dd V (u 4 s) k
  | 0 => by
    rw [if_neg (fun h => absurd h.1 (Nat.not_lt_zero s))]
    rfl
  | k + 1 => by
    have ih := sy_ot_rj (D := D) (u := u) (dd := dd) (V := V) (s := s) k
    show sy_ot D u dd V s k + (if k ≠ s ∧ u 4 k = u 4 s ∧ sy_st D u dd V k = 3 then 1 else 0) + (if s < k + 1 ∧ sy_st D u dd V s = 3 then 1 else 0) = sy_rj D u dd V (u 4 s) k + (if u 4 k = u 4 s ∧ sy_st D u dd V k = 3 then 1 else 0)
    rw [← ih]
    by_cases hks : k = s
    · subst hks
      rw [if_neg (show ¬ (k ≠ k ∧ u 4 k = u 4 k ∧ sy_st D u dd V k = 3) from fun h => h.1 rfl), if_neg (show ¬ (k < k ∧ sy_st D u dd V k = 3) from fun h => absurd h.1 (Nat.lt_irrefl k))]
      by_cases h3 : sy_st D u dd V k = 3
      · rw [if_pos ⟨by omega, h3⟩, if_pos ⟨rfl, h3⟩]
      · rw [if_neg (fun h => h3 h.2), if_neg (fun h => h3 h.2)]
    · have e1 : (k ≠ s ∧ u 4 k = u 4 s ∧ sy_st D u dd V k = 3) ↔ (u 4 k = u 4 s ∧ sy_st D u dd V k = 3) := ⟨fun h => h.2, fun h => ⟨hks, h⟩⟩
      have e2 : (s < k + 1 ∧ sy_st D u dd V s = 3) ↔ (s < k ∧ sy_st D u dd V s = 3) := ⟨fun h => ⟨by omega, h.2⟩, fun h => ⟨by omega, h.2⟩⟩
      simp only [e1, e2]
      omega
