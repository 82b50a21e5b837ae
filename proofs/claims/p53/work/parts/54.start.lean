theorem sm_10 : ¬ ((1 : Int32) = 0) := by decide
theorem iv_eq.of {u : Nat → Nat → Nat} {V : Nat} {va va' wa wa' : Nat → Nat → Int32} {nw : Nat → Int32} (h : iv_view u (nI V) va wa nw) (hV : V ≤ 30) (hr : ∀ v, v < V → (∀ j, 1 ≤ j → j ≤ 5 → va' j v = va j v) ∧ ∀ t j, (∃ n, va 5 v = nI n ∧ n ≤ 8 ∧ t < n) → 6 ≤ j → j ≤ 8 → va' j (8 * v + t) = va j (8 * v + t)) (hw : ∀ j i, 1 ≤ j → j ≤ 4 → i < 4 → wa' j i = wa j i) : iv_eq (nI V) va va' wa wa' := by
  obtain ⟨⟨V2, hV2, hc2, hn, hv⟩, -⟩ := h
  have hVV : V = V2 := sm_inj (by omega) (by omega) hc2
  subst hVV
  refine ⟨V, fun v => (va 5 v).toNatClampNeg, hV, rfl, fun v hvV => ?_, hw⟩
  obtain ⟨⟨s, hs, a1, m1, n, hn8, a5, m5, ht⟩, -⟩ := hv v hvV
  obtain ⟨r1, r6⟩ := hr v hvV
  have e : (va 5 v).toNatClampNeg = n := by rw [a5, nI_clamp (by omega)]
  dsimp only
  rw [e]
  exact ⟨hn8, a5, r1, fun t j ht => r6 t j ⟨n, a5, hn8, ht⟩⟩
def sn_N (S : si_St) (V : Nat) (x y b : Int32) : si_St := si_ps (si_pa (si_pa (si_pa (si_pa (si_pa S 8 V x) 9 V y) 10 V b) 11 V (-1)) 12 V 0) 7 0 (nI (V + 1))
def sn_NM (K : si_St) (V : Nat) (x y b : Int32) : si_St := si_pa (si_pa (si_pa (si_pa (si_pa (si_pa (si_pa K 88 (1 + V) x) 88 (31 + V) y) 88 (61 + V) 0) 88 (91 + V) 0) 88 (121 + V) b) 88 (151 + V) 0) 88 0 (nI (V + 1))
