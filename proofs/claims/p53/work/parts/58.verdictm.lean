/-- the picture of a visit on both sides -/
theorem vd_of {S : si_St} {u : Nat → Nat → Nat} {mk V i : Nat} (hm : mk = 69 ∨ mk = 78) (g0 : iv_mok u) (g1 : iv_mk (S.1 mk) (fun j => S.2.1 (mk + j)) u) (g2 : iv_mm (S.1 87) S.2.1 u) (hv : iv_view u (nI V) (fun j => S.2.1 (7 + j)) (fun j => S.2.1 (16 + j)) (S.2.1 88)) (hV : V ≤ 30) (hi : i < V) : ∃ s n b, vd_C u i s n b (fun t => (S.2.1 13 (8 * i + t)).toNatClampNeg) ∧ vd_X S mk u i s n b (fun t => (S.2.1 13 (8 * i + t)).toNatClampNeg) (fun t => S.2.1 15 (8 * i + t)) ∧ vd_M S u i s n b (fun t => (S.2.1 13 (8 * i + t)).toNatClampNeg) (fun t => S.2.1 15 (8 * i + t)) := by
  obtain ⟨⟨V2, hV2, hc, hn, hv⟩, -⟩ := hv
  have hVV : V = V2 := sm_inj (by omega) (by omega) hc
  subst hVV
  obtain ⟨⟨s, hs, a1, m1, n, hn8, a5, m5, ht⟩, -, ⟨b, hb, a3, m3⟩, -⟩ := hv i hi
  have h2 : 2 ^ u 2 0 ≤ 2 ^ 10 := Nat.pow_le_pow_right (by decide) g0.2.2.1
  have key : ∀ t, t < n → ∃ st, (S.2.1 13 (8 * i + t)).toNatClampNeg = st ∧ st < 2 ^ u 2 0 ∧ sm_sum (u 8) (u 2 0) st ≤ u 7 s ∧ S.2.1 13 (8 * i + t) = nI st ∧ S.2.1 88 (181 + (8 * i + t)) = nI st ∧ S.2.1 14 (8 * i + t) = nI (sm_sum (u 8) (u 2 0) st) ∧ S.2.1 15 (8 * i + t) = S.2.1 88 (421 + (8 * i + t)) - nI (sm_sum (u 8) (u 2 0) st) := by
    intro t htn
    obtain ⟨st, p1, p2, p3, p4, p5, -, -, p8⟩ := ht t htn
    have p3' : S.2.1 13 (8 * i + t) = nI st := p3
    exact ⟨st, by rw [p3', nI_clamp (by omega)], p1, p2, p3, p4, p5, p8⟩
  refine ⟨s, n, b, ⟨g0, by omega, hs, hn8, hb, fun t htn => ?_⟩, ⟨hm, g1, a1, a3, a5, fun t htn => ?_⟩, ⟨g2, m1, m3, m5, fun t htn => ?_⟩⟩
  · obtain ⟨st, e, p1, p2, -⟩ := key t htn
    dsimp only
    rw [e]
    exact ⟨p1, p2⟩
  · obtain ⟨st, e, p1, p2, p3, p4, p5, p8⟩ := key t htn
    dsimp only
    rw [e]
    exact ⟨p3, p5, rfl⟩
  · obtain ⟨st, e, p1, p2, p3, p4, p5, p8⟩ := key t htn
    dsimp only
    rw [e]
    exact ⟨p4, p8.symm⟩
