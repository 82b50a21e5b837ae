/-! parse: the draft taken over by the other side -/
def fN (S T : si_St) : Prop := (∀ a j, ¬ (a = 87 ∧ (j = 2 ∨ j = 3 ∨ j = 8 ∨ j = 10 ∨ j = 41)) → T.1 a j = S.1 a j) ∧ (∀ r, ¬ (88 ≤ r ∧ r ≤ 96) → r ≠ 112 → T.2.1 r = S.2.1 r) ∧ T.2.2 = S.2.2
def be_ok (u : Nat → Nat → Nat) (T : si_St) : Prop := iv_mm (T.1 87) T.2.1 u ∧ T.1 87 41 = 0 ∧ T.2.1 112 0 = 0 ∧ T.2.1 112 1 = 0 ∧ T.2.1 88 0 = 0 ∧ ∀ x, x < u 3 0 → T.2.1 88 (661 + x) = nI (2 ^ u 9 x - 1) ∧ T.2.1 88 (665 + x) = nI (2 ^ u 9 x - 1) ∧ T.2.1 88 (669 + x) = nI (u 10 x) ∧ T.2.1 88 (673 + x) = 0
