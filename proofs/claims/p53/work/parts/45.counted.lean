-- the rows are the same at all places that count
def iv_eq (c : Int32) (va va' wa wa' : Nat → Nat → Int32) : Prop := ∃ (V : Nat) (n : Nat → Nat), V ≤ 30 ∧ c = nI V ∧ (∀ v, v < V → n v ≤ 8 ∧ va 5 v = nI (n v) ∧ (∀ j, 1 ≤ j → j ≤ 5 → va' j v = va j v) ∧ ∀ t j, t < n v → 6 ≤ j → j ≤ 8 → va' j (8 * v + t) = va j (8 * v + t)) ∧ ∀ j i, 1 ≤ j → j ≤ 4 → i < 4 → wa' j i = wa j i
theorem sm_inj {a b : Nat} (ha : a < 2 ^ 31) (hb : b < 2 ^ 31) (h : nI a = nI b) : a = b := (nI_eq ha hb).mp h
theorem iv_eq.view {u : Nat → Nat → Nat} {c : Int32} {va va' wa wa' : Nat → Nat → Int32} {nw : Nat → Int32} (hu : u 3 0 ≤ 4) (he : iv_eq c va va' wa wa') (h : iv_view u c va wa nw) : iv_view u c va' wa' nw := by
  obtain ⟨V, cn, hV, hc, hr, hw⟩ := he
  obtain ⟨⟨V2, hV2, hc2, hn, hv⟩, hq⟩ := h
  have hVV : V = V2 := sm_inj (by omega) (by omega) (hc.symm.trans hc2)
  subst hVV
  refine ⟨⟨V, hV, hc, hn, fun v hvV => ?_⟩, fun k hk => ?_⟩
  · obtain ⟨n8, n5, r1, r6⟩ := hr v hvV
    obtain ⟨⟨s, hs, a1, m1, n, hn8, a5, m5, ht⟩, ⟨d, hd, a2, m2⟩, ⟨b, hb, a3, m3⟩, h4⟩ := hv v hvV
    have hnn : cn v = n := sm_inj (by omega) (by omega) (n5.symm.trans a5)
    refine ⟨⟨s, hs, (r1 1 (by decide) (by decide)).trans a1, m1, n, hn8, (r1 5 (by decide) (by decide)).trans a5, m5, fun t htn => ?_⟩, ⟨d, hd, (r1 2 (by decide) (by decide)).trans a2, m2⟩, ⟨b, hb, (r1 3 (by decide) (by decide)).trans a3, m3⟩, ?_⟩
    · obtain ⟨st, p1, p2, p3, p4, p5, p6, p7, p8⟩ := ht t htn
      exact ⟨st, p1, p2, (r6 t 6 (by omega) (by decide) (by decide)).trans p3, p4, (r6 t 7 (by omega) (by decide) (by decide)).trans p5, p6, p7, (r6 t 8 (by omega) (by decide) (by decide)).trans p8⟩
    · rcases h4 with ⟨q1, q2⟩ | ⟨r, hr5, q1, q2, q3⟩
      · exact Or.inl ⟨(r1 4 (by decide) (by decide)).trans q1, q2⟩
      · exact Or.inr ⟨r, hr5, (r1 4 (by decide) (by decide)).trans q1, q2, q3⟩
  · obtain ⟨hh, l, g, w, a1, m1, a2, m2, a3, m3, a4, m4, hrest⟩ := hq k hk
    exact ⟨hh, l, g, w, (hw 1 k (by omega) (by omega) (by omega)).trans a1, m1, (hw 2 k (by omega) (by omega) (by omega)).trans a2, m2, (hw 3 k (by omega) (by omega) (by omega)).trans a3, m3, (hw 4 k (by omega) (by omega) (by omega)).trans a4, m4, hrest⟩
theorem iv_up.at {a a' : Nat → Nat → Int32} {j i q v : Nat} {x x' : Int32} (h : a' q v = a q v) (hx : q = j → v = i → x' = x) : iv_up a' j i x' q v = iv_up a j i x q v := by
  unfold iv_up
  by_cases hc : q = j ∧ v = i
  · rw [if_pos hc, if_pos hc, hx hc.1 hc.2]
  · rw [if_neg hc, if_neg hc, h]
theorem iv_ch.eq {u : Nat → Nat → Nat} {hi und : Nat → Nat → Int32} (hu : u 3 0 ≤ 4) : ∀ (d p : Nat) (c : Int32) (va va' wa wa' : Nat → Nat → Int32), iv_eq c va va' wa wa' → iv_ch u hi und d p c va wa → iv_ch u hi und d p c va' wa'
  | 0, _, _, _, _, _, _, _, _ => trivial
  | d + 1, p, c, va, va', wa, wa', he, h => by
    obtain ⟨k, x, h0, h1, h2⟩ := h
    refine ⟨k, x, h0, h1, ?_⟩
    obtain ⟨V, cn, hV, hc, hr, hw⟩ := id he
    rcases h2 with ⟨a1, a2, a3, a4⟩ | ⟨a1, a2, a3, a4⟩ | ⟨a1, a2, a3, a4⟩ | ⟨a1, a2, a3, a4⟩
    · obtain ⟨⟨V2, hV2, hc2, -⟩, -⟩ := id a3
      have hVV : V = V2 + 1 := by
        refine sm_inj (by omega) (by omega) ?_
        rw [← hc, a2, ← nI_1, hc2, nI_1]
      have e : iv_eq (nI x) va va' wa wa' := ⟨V2, cn, hV2, hc2, fun v hv => hr v (by omega), hw⟩
      exact Or.inl ⟨a1, a2, e.view hu a3, iv_ch.eq hu d _ _ _ _ _ _ e a4⟩
    · have e : iv_eq c (iv_up va 5 x (va 5 x - 1)) (iv_up va' 5 x (va' 5 x - 1)) wa wa' := by
        obtain ⟨⟨V2, hV2, hc2, -, hv⟩, -⟩ := id a3
        have hVV : V = V2 := sm_inj (by omega) (by omega) (hc.symm.trans hc2)
        refine ⟨V, fun v => if v = x then cn v - 1 else cn v, hV, hc, fun v hvV => ?_, hw⟩
        obtain ⟨n8, n5, r1, r6⟩ := hr v hvV
        obtain ⟨⟨s, hs, -, -, n, hn8, a5, -⟩, -⟩ := hv v (by omega)
        have hcn : iv_up va 5 x (va 5 x - 1) 5 v = nI (if v = x then cn v - 1 else cn v) := by
          by_cases hx : v = x
          · subst hx
            have e5 : iv_up va 5 v (va 5 v - 1) 5 v = va 5 v - 1 := if_pos ⟨rfl, rfl⟩
            rw [if_pos rfl, e5]
            rw [e5, n5] at a5
            have h9 : cn v = n + 1 := by
              refine sm_inj (by omega) (by omega) ?_
              rw [← nI_1, ← a5]
              exact (Int32.sub_add_cancel _ _).symm
            rw [n5, h9, sm_pred]
            rfl
          · rw [if_neg hx]
            exact (if_neg (fun h => hx h.2)).trans n5
        refine ⟨by dsimp only; split <;> omega, hcn, fun j hj1 hj5 => iv_up.at (r1 j hj1 hj5) (fun h5 hx => by rw [← hx, r1 5 (by decide) (by decide)]), fun t j ht hj6 hj8 => iv_up.at (r6 t j (by dsimp only at ht; split at ht <;> omega) hj6 hj8) (fun h5 => absurd h5 (by omega))⟩
      exact Or.inr (Or.inl ⟨a1, a2, e.view hu a3, iv_ch.eq hu d _ _ _ _ _ _ e a4⟩)
    · have e : iv_eq c (iv_up va 4 x (-1)) (iv_up va' 4 x (-1)) wa wa' := by
        refine ⟨V, cn, hV, hc, fun v hvV => ?_, hw⟩
        obtain ⟨n8, n5, r1, r6⟩ := hr v hvV
        exact ⟨n8, (if_neg (fun h => absurd h.1 (by decide))).trans n5, fun j hj1 hj5 => iv_up.at (r1 j hj1 hj5) (fun _ _ => rfl), fun t j ht hj6 hj8 => iv_up.at (r6 t j ht hj6 hj8) (fun _ _ => rfl)⟩
      exact Or.inr (Or.inr (Or.inl ⟨a1, a2, e.view hu a3, iv_ch.eq hu d _ _ _ _ _ _ e a4⟩))
    · have e : iv_eq c va va' (iv_up (iv_up (iv_up (iv_up wa 1 x (hi 2 ((p + 11) % 12))) 2 x (hi 3 ((p + 11) % 12))) 3 x (hi 4 ((p + 11) % 12))) 4 x (wa 4 x - 1)) (iv_up (iv_up (iv_up (iv_up wa' 1 x (hi 2 ((p + 11) % 12))) 2 x (hi 3 ((p + 11) % 12))) 3 x (hi 4 ((p + 11) % 12))) 4 x (wa' 4 x - 1)) :=
        ⟨V, cn, hV, hc, hr, fun j i hj1 hj4 hi4 => iv_up.at (iv_up.at (iv_up.at (iv_up.at (hw j i hj1 hj4 hi4) (fun _ _ => rfl)) (fun _ _ => rfl)) (fun _ _ => rfl)) (fun _ _ => by rw [hw 4 x (by decide) (by decide) a2])⟩
      exact Or.inr (Or.inr (Or.inr ⟨a1, a2, e.view hu a3, iv_ch.eq hu d _ _ _ _ _ _ e a4⟩))

