-- the first state keeps what both sides keep
def si_S0 : si_St := (fun k j => if k = 1 ∧ j = 2 then -2 else if k = 3 ∧ (j = 1 ∨ j = 3 ∨ j = 5) then 1 else if k = 87 ∧ j = 22 then -2 else 0, fun k => if k = 96 then upd (upd (upd (fun _ => 0) 0 2) 1 2) 2 2 else fun _ => 0, fun _ _ => 0, fun d => if d = 0 then 69 else 78)
theorem iv_S0 : iv_all si_S0 := by
  have z : ∀ i, i < 1 → i = 0 := fun i h => by omega
  refine ⟨fun _ _ => 0, 69, Or.inl ⟨rfl, rfl, rfl⟩, ⟨by decide, by decide, by decide, by decide, fun i h => absurd h (Nat.not_lt_zero _), fun i h => absurd h (Nat.not_lt_zero _), fun i h => absurd h (Nat.not_lt_zero _), fun c _ => Nat.zero_le 5⟩, ⟨fun j hj => ?_, fun i h => absurd h (Nat.not_lt_zero _), fun i h => absurd h (Nat.not_lt_zero _), fun i h => absurd h (Nat.not_lt_zero _), fun c _ => rfl⟩, ⟨rfl, rfl, rfl, rfl, fun i h => absurd h (Nat.not_lt_zero _), fun i h => absurd h (Nat.not_lt_zero _), fun i h => absurd h (Nat.not_lt_zero _), fun c hc => ?_⟩, ⟨0, by decide, rfl, rfl, fun i h => absurd h (Nat.not_lt_zero _)⟩, rfl, ⟨rfl, fun st h => rfl⟩, ⟨0, 0, rfl, by decide, by decide, rfl, rfl, fun i h => ?_, fun i h => ⟨0, by decide, ?_⟩, fun j h => ⟨0, by decide, ?_⟩, fun i j h h2 => Int.le_refl _⟩, ⟨⟨0, by decide, rfl, rfl, fun v h => absurd h (Nat.not_lt_zero _)⟩, fun k h => absurd h (Nat.not_lt_zero _)⟩, ⟨0, 0, by decide, by decide, rfl, rfl, rfl, trivial⟩, Or.inl ⟨rfl, rfl⟩, Or.inl ⟨rfl, rfl⟩, fun n h => Or.inl rfl⟩
  · have : j = 0 ∨ j = 1 ∨ j = 2 ∨ j = 3 := by omega
    rcases this with rfl | rfl | rfl | rfl <;> rfl
  · have : c = 0 ∨ c = 1 ∨ c = 2 := by omega
    rcases this with rfl | rfl | rfl <;> rfl
  · rfl
  · rfl
  · have : j = 0 := by
      have h3 : (3 : Nat) ^ 0 = 1 := rfl
      omega
    subst this
    rfl

