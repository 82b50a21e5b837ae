-- the history grows by one change
theorem iv_hist.push {u : Nat → Nat → Nat} (hu : u 3 0 ≤ 4) {d p : Nat} (hd : d ≤ 12) (hp : p < 12) {hi hi' : Nat → Nat → Int32} {und und' nw : Nat → Int32} {c c' : Int32} {va wa vb wb va' wa' : Nat → Nat → Int32} (hh : ∀ j i, j < 5 → i ≠ p → i < 12 → hi' j i = hi j i) (hch : iv_ch u hi (fun k i => und (677 * k + i)) d p c va wa) (hv : iv_view u c va wa nw) (he : iv_eq c va vb wa wb) (step : ∀ (und2 : Nat → Nat → Int32) (n : Nat), iv_view u c vb wb (und2 n) → iv_ch u hi' und2 n p c vb wb → iv_ch u hi' und2 (n + 1) ((p + 1) % 12) c' va' wa') (hA : d < 12 → (∀ j i, j < d → i < 677 → und' (677 * j + i) = und (677 * j + i)) ∧ ∀ i, i < 677 → und' (677 * d + i) = nw i) (hB : d = 12 → (∀ j i, j < 11 → i < 677 → und' (677 * j + i) = und (677 * (j + 1) + i)) ∧ ∀ i, i < 677 → und' (677 * 11 + i) = nw i) : iv_hist u (nI (min (d + 1) 12)) (nI ((p + 1) % 12)) (nI (min (d + 1) 12)) hi' und' c' va' wa' := by
  have go : ∀ n, n < 12 → iv_ch u hi' (fun k i => und' (677 * k + i)) n p c va wa → (∀ i, i < 677 → und' (677 * n + i) = nw i) → iv_ch u hi' (fun k i => und' (677 * k + i)) (n + 1) ((p + 1) % 12) c' va' wa' := fun n hn hc hb =>
    step (fun k i => und' (677 * k + i)) n (he.view hu (hv.eq hu (fun _ _ _ _ _ => rfl) (fun _ _ _ _ _ => rfl) (fun _ _ _ _ _ => rfl) hb)) (iv_ch.eq hu n p c va vb wa wb he hc)
  have hq : (p + 1) % 12 < 12 := Nat.mod_lt _ (by decide)
  by_cases h : d < 12
  · obtain ⟨A, B⟩ := hA h
    rw [show min (d + 1) 12 = d + 1 by omega]
    exact ⟨d + 1, (p + 1) % 12, by omega, hq, rfl, rfl, rfl, go d h (iv_ch.pu hu hh d p c va wa (fun t ht => by omega) (fun k i hk hi => A k i hk hi) hch) B⟩
  · have h12 : d = 12 := by omega
    subst h12
    obtain ⟨A, B⟩ := hB rfl
    exact ⟨12, (p + 1) % 12, by decide, hq, rfl, rfl, rfl, go 11 (by decide) (iv_ch.pu hu hh 11 p c va wa (fun t ht => by omega) (fun k i hk hi => A k i hk hi) (iv_ch.cut 11 p c va wa hch)) B⟩

