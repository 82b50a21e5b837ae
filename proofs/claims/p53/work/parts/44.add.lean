-- a change is noted
def sn_A (S : si_St) (p k x d : Nat) : si_St := si_ps (si_ps (si_pa (si_pa S 22 p (nI k)) 23 p (nI x)) 21 1 (nI ((p + 1) % 12))) 21 0 (nI (min (d + 1) 12))
theorem sm_min12 {d : Nat} (hd : d ≤ 12) : si_min (nI d + 1) 12 = nI (min (d + 1) 12) := by
  have h : ∀ d, d < 13 → si_min (nI d + 1) 12 = nI (min (d + 1) 12) := by decide +kernel
  exact h d (by omega)
theorem sm_add {F d p k x : Nat} {S : si_St} (hd : d ≤ 12) (hp : p < 12) (h0 : S.1 21 0 = nI d) (h1 : S.1 21 1 = nI p) : f_X0_add F (nI k) (nI x) S = some (sn_A S p k x d) := by
  have a1 : (si_pa S 22 p (nI k)).1 21 1 = nI p := h1
  have a2 : (si_pa (si_pa S 22 p (nI k)) 23 p (nI x)).1 21 1 = nI p := h1
  have a3 : (si_ps (si_pa (si_pa S 22 p (nI k)) 23 p (nI x)) 21 1 (nI ((p + 1) % 12))).1 21 0 = nI d := h0
  have e : (nI p + 1) - (nI p + 1) / 12 * 12 = nI ((p + 1) % 12) := by
    rw [nI_1]
    exact pk_rem (a := p + 1) (d := 12) (by omega) (by decide) (by decide)
  unfold f_X0_add
  rw [h1, sm_wr (show p < 12 from hp) (by decide), Option.bind_some, a1, sm_wr (show p < 12 from hp) (by decide), Option.bind_some, a2, e, sm_pt, Option.bind_some, a3, sm_min12 hd, sm_pt, Option.bind_some]
  rfl

