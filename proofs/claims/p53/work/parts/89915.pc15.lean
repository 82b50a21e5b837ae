-- THE HYPOTHESES OF A SET AS BITS
def hb_pc (n : Nat) : Nat := fb_ct (fun i => n.testBit i) 15
theorem hb_c0 : ∀ a, a < 32 → ∀ b, b < 128 → sb_g5 (sb_g4 (sb_g3 (sb_g2 (sb_g1 (128 * (32 * 0 + a) + b))))) &&& 63 = hb_pc (128 * (32 * 0 + a) + b) := by decide +kernel
theorem hb_c1 : ∀ a, a < 32 → ∀ b, b < 128 → sb_g5 (sb_g4 (sb_g3 (sb_g2 (sb_g1 (128 * (32 * 1 + a) + b))))) &&& 63 = hb_pc (128 * (32 * 1 + a) + b) := by decide +kernel
theorem hb_c2 : ∀ a, a < 32 → ∀ b, b < 128 → sb_g5 (sb_g4 (sb_g3 (sb_g2 (sb_g1 (128 * (32 * 2 + a) + b))))) &&& 63 = hb_pc (128 * (32 * 2 + a) + b) := by decide +kernel
theorem hb_c3 : ∀ a, a < 32 → ∀ b, b < 128 → sb_g5 (sb_g4 (sb_g3 (sb_g2 (sb_g1 (128 * (32 * 3 + a) + b))))) &&& 63 = hb_pc (128 * (32 * 3 + a) + b) := by decide +kernel
theorem hb_c4 : ∀ a, a < 32 → ∀ b, b < 128 → sb_g5 (sb_g4 (sb_g3 (sb_g2 (sb_g1 (128 * (32 * 4 + a) + b))))) &&& 63 = hb_pc (128 * (32 * 4 + a) + b) := by decide +kernel
theorem hb_c5 : ∀ a, a < 32 → ∀ b, b < 128 → sb_g5 (sb_g4 (sb_g3 (sb_g2 (sb_g1 (128 * (32 * 5 + a) + b))))) &&& 63 = hb_pc (128 * (32 * 5 + a) + b) := by decide +kernel
theorem hb_c6 : ∀ a, a < 32 → ∀ b, b < 128 → sb_g5 (sb_g4 (sb_g3 (sb_g2 (sb_g1 (128 * (32 * 6 + a) + b))))) &&& 63 = hb_pc (128 * (32 * 6 + a) + b) := by decide +kernel
theorem hb_c7 : ∀ a, a < 32 → ∀ b, b < 128 → sb_g5 (sb_g4 (sb_g3 (sb_g2 (sb_g1 (128 * (32 * 7 + a) + b))))) &&& 63 = hb_pc (128 * (32 * 7 + a) + b) := by decide +kernel
theorem hb_all_2 : ∀ a, a < 256 → ∀ b, b < 128 → sb_g5 (sb_g4 (sb_g3 (sb_g2 (sb_g1 (128 * a + b))))) &&& 63 = hb_pc (128 * a + b) := fun a ha b hb => by
  have e : 32 * (a / 32) + a % 32 = a := Nat.div_add_mod a 32
  have h2 : a % 32 < 32 := Nat.mod_lt _ (by decide)
  rcases (by omega : a / 32 = 0 ∨ a / 32 = 1 ∨ a / 32 = 2 ∨ a / 32 = 3 ∨ a / 32 = 4 ∨ a / 32 = 5 ∨ a / 32 = 6 ∨ a / 32 = 7) with h | h | h | h | h | h | h | h <;> rw [h] at e <;> rw [← e]
  · exact hb_c0 _ h2 b hb
  · exact hb_c1 _ h2 b hb
  · exact hb_c2 _ h2 b hb
  · exact hb_c3 _ h2 b hb
  · exact hb_c4 _ h2 b hb
  · exact hb_c5 _ h2 b hb
  · exact hb_c6 _ h2 b hb
  · exact hb_c7 _ h2 b hb
theorem hb_all : ∀ n, n < 2 ^ 15 → sb_g5 (sb_g4 (sb_g3 (sb_g2 (sb_g1 n)))) &&& 63 = hb_pc n := fun n h => by
  have e := hb_all_2 (n / 128) (by omega) (n % 128) (by omega)
  rw [Nat.div_add_mod] at e
  exact e
theorem hb_bc {F n : Nat} {S : si_St} (h : n < 2 ^ 15) : f_J6_bitCount_0f7a4 F (nI n) S = some (nI (hb_pc n), S) := by
  have l1 : sb_g1 n ≤ n := Nat.sub_le _ _
  have l2 : sb_g2 (sb_g1 n) ≤ 2 * n := by
    have a := Nat.and_le_left (n := sb_g1 n) (m := 858993459)
    have b := Nat.and_le_left (n := sb_g1 n / 4) (m := 858993459)
    unfold sb_g2
    omega
  have l3 : sb_g3 (sb_g2 (sb_g1 n)) ≤ 4 * n := by
    have a := Nat.and_le_left (n := sb_g2 (sb_g1 n) + sb_g2 (sb_g1 n) / 16) (m := 252645135)
    unfold sb_g3
    omega
  have l4 : sb_g4 (sb_g3 (sb_g2 (sb_g1 n))) ≤ 8 * n := by
    unfold sb_g4
    omega
  have e1 : nI n - (si_ushr (nI n) 1 &&& 1431655765) = nI (sb_g1 n) := by
    rw [sb_u (n := n) 1 1 (by omega) (by decide)]
    show nI n - (nI (n / 2 ^ 1) &&& nI 1431655765) = _
    rw [fa_and, pk_sub (by have := Nat.and_le_left (n := n / 2 ^ 1) (m := 1431655765); omega)]
    rfl
  have e2 : (nI (sb_g1 n) &&& 858993459) + (si_ushr (nI (sb_g1 n)) 2 &&& 858993459) = nI (sb_g2 (sb_g1 n)) := by
    rw [sb_u (n := sb_g1 n) 2 2 (by omega) (by decide)]
    show (nI (sb_g1 n) &&& nI 858993459) + (nI (sb_g1 n / 2 ^ 2) &&& nI 858993459) = _
    rw [fa_and, fa_and, nI_add]
    rfl
  have e3 : (nI (sb_g2 (sb_g1 n)) + si_ushr (nI (sb_g2 (sb_g1 n))) 4) &&& 252645135 = nI (sb_g3 (sb_g2 (sb_g1 n))) := by
    rw [sb_u (n := sb_g2 (sb_g1 n)) 4 4 (by omega) (by decide), nI_add]
    show nI (sb_g2 (sb_g1 n) + sb_g2 (sb_g1 n) / 2 ^ 4) &&& nI 252645135 = _
    rw [fa_and]
    rfl
  have e4 : nI (sb_g3 (sb_g2 (sb_g1 n))) + si_ushr (nI (sb_g3 (sb_g2 (sb_g1 n)))) 8 = nI (sb_g4 (sb_g3 (sb_g2 (sb_g1 n)))) := by
    rw [sb_u (n := sb_g3 (sb_g2 (sb_g1 n))) 8 8 (by omega) (by decide), nI_add]
    rfl
  have e5 : nI (sb_g4 (sb_g3 (sb_g2 (sb_g1 n)))) + si_ushr (nI (sb_g4 (sb_g3 (sb_g2 (sb_g1 n))))) 16 = nI (sb_g5 (sb_g4 (sb_g3 (sb_g2 (sb_g1 n))))) := by
    rw [sb_u (n := sb_g4 (sb_g3 (sb_g2 (sb_g1 n)))) 16 16 (by omega) (by decide), nI_add]
    rfl
  unfold f_J6_bitCount_0f7a4
  rw [e1, Option.bind_some, e2, Option.bind_some, e3, Option.bind_some, e4, Option.bind_some, e5, Option.bind_some]
  show some (nI (sb_g5 (sb_g4 (sb_g3 (sb_g2 (sb_g1 n))))) &&& nI 63, S) = _
  rw [fa_and, hb_all n h]
