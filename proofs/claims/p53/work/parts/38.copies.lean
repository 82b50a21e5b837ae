-- copies of rows, and what is kept of the visits and sets where the written places are the same
theorem sm_ca_s {S : si_St} {k0 k2 a b i : Nat} (hk : k0 ≠ k2) : si_pa (si_ca S k0 a k2 b i) k2 (b + i) ((si_ca S k0 a k2 b i).2.1 k0 (a + i)) = si_ca S k0 a k2 b (i + 1) := by
  have e : (si_ca S k0 a k2 b i).2.1 k0 (a + i) = S.2.1 k0 (a + i) := if_neg (fun h => hk h.1)
  rw [e]
  refine congrArg (fun z => (S.1, z, S.2.2)) ?_
  funext x j
  show (if x = k2 ∧ j = b + i then S.2.1 k0 (a + i) else if x = k2 ∧ b ≤ j ∧ j < b + i then S.2.1 k0 (a + (j - b)) else S.2.1 x j) = (if x = k2 ∧ b ≤ j ∧ j < b + (i + 1) then S.2.1 k0 (a + (j - b)) else S.2.1 x j)
  by_cases hx : x = k2
  · by_cases hj : j = b + i
    · rw [if_pos ⟨hx, hj⟩, if_pos ⟨hx, by omega, by omega⟩, show j - b = i by omega]
    · rw [if_neg (fun h => hj h.2)]
      by_cases h3 : b ≤ j ∧ j < b + i
      · rw [if_pos ⟨hx, h3.1, h3.2⟩, if_pos ⟨hx, h3.1, by omega⟩]
      · rw [if_neg (fun h => h3 h.2), if_neg (fun h => h3 ⟨h.2.1, by omega⟩)]
  · rw [if_neg (fun h => hx h.1), if_neg (fun h => hx h.1), if_neg (fun h => hx h.1)]
theorem sm_ca_0 {S : si_St} {k0 k2 a b : Nat} : si_ca S k0 a k2 b 0 = S := by
  refine congrArg (fun z => (S.1, z, S.2.2)) ?_
  funext x j
  show (if x = k2 ∧ b ≤ j ∧ j < b + 0 then S.2.1 k0 (a + (j - b)) else S.2.1 x j) = S.2.1 x j
  rw [if_neg (fun h => by omega)]
theorem sm_cpi {S : si_St} {k0 k2 a b n : Nat} (h1 : a + n ≤ si_ln k0) (h2 : b + n ≤ si_ln k2) (l0 : si_ln k0 < 2 ^ 31) (l2 : si_ln k2 < 2 ^ 31) : si_cpi S k0 (nI a) k2 (nI b) (nI n) = some (si_ca S k0 a k2 b n) := by
  unfold si_cpi
  rw [nI_clamp (by omega), nI_clamp (by omega), nI_clamp (by omega), if_pos ⟨nI_pos (by omega), nI_pos (by omega), nI_pos (by omega), h1, h2⟩]
theorem iv_view.eq {u : Nat → Nat → Nat} {c : Int32} {va va' wa wa' : Nat → Nat → Int32} {nw nw' : Nat → Int32} (hu : u 3 0 ≤ 4) (h1 : ∀ j i, 1 ≤ j → j ≤ 5 → i < 30 → va' j i = va j i) (h2 : ∀ j i, 6 ≤ j → j ≤ 8 → i < 240 → va' j i = va j i) (h3 : ∀ j i, 1 ≤ j → j ≤ 4 → i < 4 → wa' j i = wa j i) (h4 : ∀ i, i < 677 → nw' i = nw i) (h : iv_view u c va wa nw) : iv_view u c va' wa' nw' := by
  obtain ⟨⟨V, hV, hc, hn, hv⟩, hq⟩ := h
  refine ⟨⟨V, hV, hc, (h4 0 (by decide)).trans hn, fun v hvV => ?_⟩, fun k hk => ?_⟩
  · obtain ⟨⟨s, hs, a1, m1, n, hn8, a5, m5, ht⟩, ⟨d, hd, a2, m2⟩, ⟨b, hb, a3, m3⟩, hr⟩ := hv v hvV
    refine ⟨⟨s, hs, (h1 1 v (by omega) (by omega) (by omega)).trans a1, (h4 _ (by omega)).trans m1, n, hn8, (h1 5 v (by omega) (by omega) (by omega)).trans a5, (h4 _ (by omega)).trans m5, fun t htn => ?_⟩, ⟨d, hd, (h1 2 v (by omega) (by omega) (by omega)).trans a2, (h4 _ (by omega)).trans m2⟩, ⟨b, hb, (h1 3 v (by omega) (by omega) (by omega)).trans a3, (h4 _ (by omega)).trans m3⟩, ?_⟩
    · obtain ⟨st, p1, p2, p3, p4, p5, p6, p7, p8⟩ := ht t htn
      have e := h4 (421 + (8 * v + t)) (by omega)
      refine ⟨st, p1, p2, (h2 6 _ (by omega) (by omega) (by omega)).trans p3, (h4 _ (by omega)).trans p4, (h2 7 _ (by omega) (by omega) (by omega)).trans p5, ?_, ?_, ?_⟩
      · rw [e]; exact p6
      · rw [e]; exact p7
      · rw [e]; exact (h2 8 _ (by omega) (by omega) (by omega)).trans p8
    · rcases hr with ⟨q1, q2⟩ | ⟨r, hr5, q1, q2, q3⟩
      · exact Or.inl ⟨(h1 4 v (by omega) (by omega) (by omega)).trans q1, (h4 _ (by omega)).trans q2⟩
      · exact Or.inr ⟨r, hr5, (h1 4 v (by omega) (by omega) (by omega)).trans q1, (h4 _ (by omega)).trans q2, (h4 _ (by omega)).trans q3⟩
  · obtain ⟨hh, l, g, w, a1, m1, a2, m2, a3, m3, a4, m4, hrest⟩ := hq k hk
    exact ⟨hh, l, g, w, (h3 1 k (by omega) (by omega) (by omega)).trans a1, (h4 _ (by omega)).trans m1, (h3 2 k (by omega) (by omega) (by omega)).trans a2, (h4 _ (by omega)).trans m2, (h3 3 k (by omega) (by omega) (by omega)).trans a3, (h4 _ (by omega)).trans m3, (h3 4 k (by omega) (by omega) (by omega)).trans a4, (h4 _ (by omega)).trans m4, hrest⟩

