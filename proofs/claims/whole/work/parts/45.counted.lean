-- the rows are the same at all places that count
def iv_eq (c : Int32) (va va' wa wa' : Nat → Nat → Int32) : Prop := ∃ (V : Nat) (n : Nat → Nat), V ≤ 30 ∧ c = nI V ∧ (∀ v, v < V → n v ≤ 8 ∧ va 5 v = nI (n v) ∧ (∀ j, 1 ≤ j → j ≤ 5 → va' j v = va j v) ∧ ∀ t j, t < n v → 6 ≤ j → j ≤ 8 → va' j (8 * v + t) = va j (8 * v + t)) ∧ ∀ j i, 1 ≤ j → j ≤ 4 → i < 4 → wa' j i = wa j i
theorem sm_inj {a b : Nat} (ha : a < 2 ^ 31) (hb : b < 2 ^ 31) (h : nI a = nI b) : a = b := (nI_eq ha hb).mp h
theorem iv_eq.view {u : Nat → Nat → Nat} {c : Int32} {va va' wa wa' : Nat → Nat → Int32} {nw : Nat → Int32} (hu : u 3 0 ≤ 4) (he : iv_eq c va va' wa wa') (h : iv_view u c va wa nw) : iv_view u c va' wa' nw := by
  obtain ⟨V, cn, hV, hc, hr, hw⟩ := he
  obtain ⟨⟨V2, hV2, hc2, hn, hv⟩, hq⟩ := h
  have hVV : V = V2 := sm_inj (by omega) (by omega) (hc.symm.trans hc2)
  subst hVV
  refine ⟨⟨V, hV, hc, hn, fun v hvV => ?_⟩, fun k hk => ?_⟩
  · obtain ⟨n8, n5, r1, r6⟩ := hr v hvV
    obtain ⟨⟨s, hs, a1, m1, n, hn8, a5, m5, ht⟩, ⟨d, hd, a2, m2⟩, ⟨b, hb, a3, m3⟩, h4⟩ := hv v hvV
    have hnn : cn v = n := sm_inj (by omega) (by omega) (n5.symm.trans a5)
    refine ⟨⟨s, hs, (r1 1 (by decide) (by decide)).trans a1, m1, n, hn8, (r1 5 (by decide) (by decide)).trans a5, m5, fun t htn => ?_⟩, ⟨d, hd, (r1 2 (by decide) (by decide)).trans a2, m2⟩, ⟨b, hb, (r1 3 (by decide) (by decide)).trans a3, m3⟩, ?_⟩
    · obtain ⟨st, p1, p2, p3, p4, p5, p6, p7, p8⟩ := ht t htn
      exact ⟨st, p1, p2, (r6 t 6 (by omega) (by decide) (by decide)).trans p3, p4, (r6 t 7 (by omega) (by decide) (by decide)).trans p5, p6, p7, (r6 t 8 (by omega) (by decide) (by decide)).trans p8⟩
    · rcases h4 with ⟨q1, q2⟩ | ⟨r, hr5, q1, q2, q3⟩
      · exact Or.inl ⟨(r1 4 (by decide) (by decide)).trans q1, q2⟩
      · exact Or.inr ⟨r, hr5, (r1 4 (by decide) (by decide)).trans q1, q2, q3⟩
  · obtain ⟨hh, l, g, w, a1, m1, a2, m2, a3, m3, a4, m4, hrest⟩ := hq k hk
    exact ⟨hh, l, g, w, (hw 1 k (by omega) (by omega) (by omega)).trans a1, m1, (hw 2 k (by omega) (by omega) (by omega)).trans a2, m2, (hw 3 k (by omega) (by omega) (by omega)).trans a3, m3, (hw 4 k (by omega) (by omega) (by omega)).trans a4, m4, hrest⟩
