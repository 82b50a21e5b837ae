/-! parse: a statement, all statements -/
theorem po_cg {s k N : Nat} {c : Nat → Nat} {A : si_St} {P : Nat × Nat × Nat} {u : Nat → Nat → Nat} {a a' : Option si_St} {g g' : si_St → Option (Int32 × si_St)} (h : po s k N c A P u a g) (ha : a' = a) (hg : ∀ B, pB N c B P u → g' B = g B) : po s k N c A P u a' g' := by
  rcases h with ⟨A', P', u', h1, h2, h3, h4, h5, h6, h7⟩ | ⟨A', e, p, h1, h2, h3, h7⟩
  · refine Or.inl ⟨A', P', u', ha.trans h1, h2, h3, h4, h5, h6, fun B hB => ?_⟩
    rw [hg B hB]
    exact h7 B hB
  · refine Or.inr ⟨A', e, p, ha.trans h1, h2, h3, fun B hB => ?_⟩
    rw [hg B hB]
    exact h7 B hB
