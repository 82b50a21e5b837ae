-- the history grows: copies within a row, the oldest change forgotten, the same changes elsewhere
theorem sm_ca_t {S : si_St} {k0 k2 a b i : Nat} (hk : b ≤ a) : si_pa (si_ca S k0 a k2 b i) k2 (b + i) ((si_ca S k0 a k2 b i).2.1 k0 (a + i)) = si_ca S k0 a k2 b (i + 1) := by
  have e : (si_ca S k0 a k2 b i).2.1 k0 (a + i) = S.2.1 k0 (a + i) := if_neg (fun h => by omega)
  rw [e]
  refine congrArg (fun z => (S.1, z, S.2.2)) ?_
  funext x j
  show (if x = k2 ∧ j = b + i then S.2.1 k0 (a + i) else if x = k2 ∧ b ≤ j ∧ j < b + i then S.2.1 k0 (a + (j - b)) else S.2.1 x j) = (if x = k2 ∧ b ≤ j ∧ j < b + (i + 1) then S.2.1 k0 (a + (j - b)) else S.2.1 x j)
  by_cases hx : x = k2
  · by_cases hj : j = b + i
    · rw [if_pos ⟨hx, hj⟩, if_pos ⟨hx, by omega, by omega⟩, show j - b = i by omega]
    · rw [if_neg (fun h => hj h.2)]
      by_cases h3 : b ≤ j ∧ j < b + i
      · rw [if_pos ⟨hx, h3.1, h3.2⟩, if_pos ⟨hx, h3.1, by omega⟩]
      · rw [if_neg (fun h => h3 h.2), if_neg (fun h => h3 ⟨h.2.1, by omega⟩)]
  · rw [if_neg (fun h => hx h.1), if_neg (fun h => hx h.1), if_neg (fun h => hx h.1)]
def sn_K (S : si_St) (d : Nat) : si_St := si_ps (si_ca S 88 0 110 (677 * d) 677) 87 41 (nI (d + 1))
def sn_K12 (S : si_St) : si_St := sn_K (si_ca (si_ps S 87 41 (nI 11)) 110 677 110 0 7447) 11
theorem iv_ch.cut {u : Nat → Nat → Nat} {hi und : Nat → Nat → Int32} : ∀ (d p : Nat) (c : Int32) (va wa : Nat → Nat → Int32), iv_ch u hi und (d + 1) p c va wa → iv_ch u hi (fun k => und (k + 1)) d p c va wa
  | 0, _, _, _, _, _ => trivial
  | d + 1, p, c, va, wa, h => by
    obtain ⟨k, x, h0, h1, h2⟩ := h
    refine ⟨k, x, h0, h1, ?_⟩
    rcases h2 with ⟨a1, a2, a3, a4⟩ | ⟨a1, a2, a3, a4⟩ | ⟨a1, a2, a3, a4⟩ | ⟨a1, a2, a3, a4⟩
    · exact Or.inl ⟨a1, a2, a3, iv_ch.cut d _ _ _ _ a4⟩
    · exact Or.inr (Or.inl ⟨a1, a2, a3, iv_ch.cut d _ _ _ _ a4⟩)
    · exact Or.inr (Or.inr (Or.inl ⟨a1, a2, a3, iv_ch.cut d _ _ _ _ a4⟩))
    · exact Or.inr (Or.inr (Or.inr ⟨a1, a2, a3, iv_ch.cut d _ _ _ _ a4⟩))
theorem iv_ch.pu {u : Nat → Nat → Nat} {hi hi' und und' : Nat → Nat → Int32} {p0 : Nat} (hu : u 3 0 ≤ 4) (hh : ∀ j i, j < 5 → i ≠ p0 → i < 12 → hi' j i = hi j i) : ∀ (d p : Nat) (c : Int32) (va wa : Nat → Nat → Int32), (∀ t, t < d → (p + 11 * (t + 1)) % 12 ≠ p0) → (∀ k i, k < d → i < 677 → und' k i = und k i) → iv_ch u hi und d p c va wa → iv_ch u hi' und' d p c va wa
  | 0, _, _, _, _, _, _, _ => trivial
  | d + 1, p, c, va, wa, hp, hn, h => by
    obtain ⟨k, x, h0, h1, h2⟩ := h
    have hq : (p + 11) % 12 ≠ p0 := by
      have := hp 0 (by omega)
      omega
    have e : ∀ j, j < 5 → hi' j ((p + 11) % 12) = hi j ((p + 11) % 12) := fun j hj => hh j _ hj hq (Nat.mod_lt _ (by decide))
    have hp2 : ∀ t, t < d → ((p + 11) % 12 + 11 * (t + 1)) % 12 ≠ p0 := fun t ht => by
      have := hp (t + 1) (by omega)
      omega
    have hn2 : ∀ k i, k < d → i < 677 → und' k i = und k i := fun k i hk hi => hn k i (by omega) hi
    have vw : ∀ c va wa, iv_view u c va wa (und d) → iv_view u c va wa (und' d) := fun c va wa h => h.eq hu (fun _ _ _ _ _ => rfl) (fun _ _ _ _ _ => rfl) (fun _ _ _ _ _ => rfl) (fun i hi => hn d i (by omega) hi)
    refine ⟨k, x, (e 0 (by decide)).trans h0, (e 1 (by decide)).trans h1, ?_⟩
    rw [e 2 (by decide), e 3 (by decide), e 4 (by decide)]
    rcases h2 with ⟨a1, a2, a3, a4⟩ | ⟨a1, a2, a3, a4⟩ | ⟨a1, a2, a3, a4⟩ | ⟨a1, a2, a3, a4⟩
    · exact Or.inl ⟨a1, a2, vw _ _ _ a3, iv_ch.pu hu hh d _ _ _ _ hp2 hn2 a4⟩
    · exact Or.inr (Or.inl ⟨a1, a2, vw _ _ _ a3, iv_ch.pu hu hh d _ _ _ _ hp2 hn2 a4⟩)
    · exact Or.inr (Or.inr (Or.inl ⟨a1, a2, vw _ _ _ a3, iv_ch.pu hu hh d _ _ _ _ hp2 hn2 a4⟩))
    · exact Or.inr (Or.inr (Or.inr ⟨a1, a2, vw _ _ _ a3, iv_ch.pu hu hh d _ _ _ _ hp2 hn2 a4⟩))

