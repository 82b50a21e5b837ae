/-! twoPans: the class's search -/
def tw_key (R L : Nat) : Nat := (sb_pc R + sb_pc L) * 1048576 + R * 1024 + L
def tw_A (f : Nat → Nat) (n x : Nat) (r : Int32) : Prop := (r = -2 ∧ ∀ k, ¬ tw_W f n x k) ∨ ∃ R L, R < 1024 ∧ L < 1024 ∧ tw_W f n x (tw_key R L) ∧ (∀ k, tw_W f n x k → tw_key R L ≤ k) ∧ r = nI (R + 1024 * L)
theorem tw_A1 {f : Nat → Nat} {n x : Nat} {r s : Int32} (h1 : tw_A f n x r) (h2 : tw_A f n x s) : r = s := by
  rcases h1 with ⟨a1, a2⟩ | ⟨R, L, hR, hL, a1, a2, a3⟩
  · rcases h2 with ⟨b1, b2⟩ | ⟨R', L', hR', hL', b1, b2, b3⟩
    · rw [a1, b1]
    · exact absurd b1 (a2 _)
  · rcases h2 with ⟨b1, b2⟩ | ⟨R', L', hR', hL', b1, b2, b3⟩
    · exact absurd a1 (b2 _)
    · have e1 := a2 _ b1
      have e2 := b2 _ a1
      have e : tw_key R L = tw_key R' L' := by omega
      unfold tw_key at e
      have e3 : R = R' := by omega
      have e4 : L = L' := by omega
      rw [a3, b3, e3, e4]
theorem tw_Wb {f : Nat → Nat} {n x k : Nat} (hn : n ≤ 10) (h : tw_W f n x k) : k < 16777215 ∧ ∃ R L, R < 1024 ∧ L < 1024 ∧ k = tw_key R L := by
  obtain ⟨R, L, hR, hL, h0, -, rfl⟩ := h
  have h10 : 2 ^ n ≤ 2 ^ 10 := Nat.pow_le_pow_right (by decide) hn
  have h12 : sb_pc R ≤ 10 := fm_10 (by omega)
  have h13 : sb_pc (R ||| L) ≤ 10 := fm_10 (Nat.lt_of_lt_of_le (Nat.or_lt_two_pow hR hL) h10)
  rw [sb_add h0] at h13
  refine ⟨by omega, R, L, by omega, by omega, rfl⟩
def tp_I (f : Nat → Nat) (a b x c : Nat) (s : Int64) : Prop := (s = lN 16777215 ∧ ∀ i j, i < c → j < 3 ^ b → ¬ tw_v f 0 a i + tw_v f a b j = (x : Int)) ∨ ∃ i0 j0, i0 < 3 ^ a ∧ j0 < 3 ^ b ∧ tw_v f 0 a i0 + tw_v f a b j0 = (x : Int) ∧ s = lN (tw_lo 0 a i0 + tw_lo a b j0) ∧ ∀ i j, i < c → j < 3 ^ b → tw_v f 0 a i + tw_v f a b j = (x : Int) → tw_lo 0 a i0 + tw_lo a b j0 ≤ tw_lo 0 a i + tw_lo a b j
theorem tp_no {f : Nat → Nat} {a b x c : Nat} {s : Int64} (h : tp_I f a b x c s) (hc : ∀ j, j < 3 ^ b → ¬ tw_v f 0 a c + tw_v f a b j = (x : Int)) : tp_I f a b x (c + 1) s := by
  rcases h with ⟨h1, h2⟩ | ⟨i0, j0, g1, g2, g3, g4, g5⟩
  · refine Or.inl ⟨h1, fun i j hi hj => ?_⟩
    by_cases e : i = c
    · rw [e]
      exact hc j hj
    · exact h2 i j (by omega) hj
  · refine Or.inr ⟨i0, j0, g1, g2, g3, g4, fun i j hi hj hv => ?_⟩
    by_cases e : i = c
    · rw [e] at hv
      exact absurd hv (hc j hj)
    · exact g5 i j (by omega) hj hv
theorem tl_min {a b : Nat} (ha : a < 2 ^ 63) (hb : b < 2 ^ 63) : si_minl (lN a) (lN b) = lN (if b < a then b else a) := by
  show (if lN b < lN a then lN b else lN a) = _
  have e : lN b < lN a ↔ b < a := by
    rw [Int64.lt_iff_toInt_lt, tl_k ha, tl_k hb]
    omega
  by_cases h : b < a
  · rw [if_pos (e.mpr h), if_pos h]
  · rw [if_neg (fun h2 => h (e.mp h2)), if_neg h]
theorem tp_yes {f : Nat → Nat} {a b x c j0 : Nat} {s : Int64} (lob : ∀ i j, tw_lo 0 a i + tw_lo a b j < 16777215) (h : tp_I f a b x c s) (hc : c < 3 ^ a) (hj0 : j0 < 3 ^ b) (hv : tw_v f 0 a c + tw_v f a b j0 = (x : Int)) (hm : ∀ j, j < 3 ^ b → tw_v f 0 a c + tw_v f a b j = (x : Int) → tw_lo a b j0 ≤ tw_lo a b j) : tp_I f a b x (c + 1) (si_minl s (lN (tw_lo 0 a c + tw_lo a b j0))) := by
  have l0 := lob c j0
  rcases h with ⟨h1, h2⟩ | ⟨i1, j1, g1, g2, g3, g4, g5⟩
  · rw [h1, tl_min (by omega) (by omega), if_pos l0]
    refine Or.inr ⟨c, j0, hc, hj0, hv, rfl, fun i j hi hj hv2 => ?_⟩
    by_cases e : i = c
    · rw [e] at hv2 ⊢
      have := hm j hj hv2
      omega
    · exact absurd hv2 (h2 i j (by omega) hj)
  · have l1 := lob i1 j1
    rw [g4, tl_min (by omega) (by omega)]
    by_cases hlt : tw_lo 0 a c + tw_lo a b j0 < tw_lo 0 a i1 + tw_lo a b j1
    · rw [if_pos hlt]
      refine Or.inr ⟨c, j0, hc, hj0, hv, rfl, fun i j hi hj hv2 => ?_⟩
      by_cases e : i = c
      · rw [e] at hv2 ⊢
        have := hm j hj hv2
        omega
      · have := g5 i j (by omega) hj hv2
        omega
    · rw [if_neg hlt]
      refine Or.inr ⟨i1, j1, g1, g2, g3, rfl, fun i j hi hj hv2 => ?_⟩
      by_cases e : i = c
      · rw [e] at hv2 ⊢
        have := hm j hj hv2
        omega
      · exact g5 i j (by omega) hj hv2
