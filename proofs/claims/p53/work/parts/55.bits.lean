-- how many bits a small set has
def sb_pc (n : Nat) : Nat := fb_ct (fun i => n.testBit i) 12
def sb_g1 (n : Nat) : Nat := n - ((n / 2) &&& 1431655765)
def sb_g2 (n : Nat) : Nat := (n &&& 858993459) + ((n / 4) &&& 858993459)
def sb_g3 (n : Nat) : Nat := (n + n / 16) &&& 252645135
def sb_g4 (n : Nat) : Nat := n + n / 256
def sb_g5 (n : Nat) : Nat := n + n / 65536
theorem sb_all_2 : ∀ a, a < 64 → ∀ b, b < 64 → sb_g5 (sb_g4 (sb_g3 (sb_g2 (sb_g1 (64 * a + b))))) &&& 63 = sb_pc (64 * a + b) := by decide +kernel
theorem sb_all : ∀ n, n < 4096 → sb_g5 (sb_g4 (sb_g3 (sb_g2 (sb_g1 n)))) &&& 63 = sb_pc n := fun n h => by
  have e := sb_all_2 (n / 64) (by omega) (n % 64) (by omega)
  rw [Nat.div_add_mod] at e
  exact e
theorem sb_low_2 : ∀ a, a < 64 → ∀ b, b < 64 → (64 * a + b) ≠ 0 → sb_pc ((64 * a + b) &&& ((64 * a + b) - 1)) + 1 = sb_pc (64 * a + b) := by decide +kernel
theorem sb_low : ∀ n, n < 4096 → n ≠ 0 → sb_pc (n &&& (n - 1)) + 1 = sb_pc n := fun n h => by
  have e := sb_low_2 (n / 64) (by omega) (n % 64) (by omega)
  rw [Nat.div_add_mod] at e
  exact e
theorem sb_le12 (n : Nat) : sb_pc n ≤ 12 := fb_ct_le _ _
theorem sb_pos_2 : ∀ a, a < 64 → ∀ b, b < 64 → (sb_pc (64 * a + b) = 0 ↔ (64 * a + b) = 0) := by decide +kernel
theorem sb_pos : ∀ n, n < 4096 → (sb_pc n = 0 ↔ n = 0) := fun n h => by
  have e := sb_pos_2 (n / 64) (by omega) (n % 64) (by omega)
  rw [Nat.div_add_mod] at e
  exact e
theorem sb_u {n : Nat} (s : Int32) (k : Nat) (hn : n < 2 ^ 32) (hs : ((s.toUInt32 &&& Int32.toUInt32 31).toBitVec % 32).toNat = k) : si_ushr (nI n) s = nI (n / 2 ^ k) := pk_ushrN hn s k hs
theorem sb_bc {F n : Nat} {S : si_St} (h : n < 4096) : f_J6_bitCount_0f7a4 F (nI n) S = some (nI (sb_pc n), S) := by
  have l1 : sb_g1 n ≤ n := Nat.sub_le _ _
  have l2 : sb_g2 (sb_g1 n) ≤ 2 * n := by
    have a := Nat.and_le_left (n := sb_g1 n) (m := 858993459)
    have b := Nat.and_le_left (n := sb_g1 n / 4) (m := 858993459)
    unfold sb_g2
    omega
  have l3 : sb_g3 (sb_g2 (sb_g1 n)) ≤ 4 * n := by
    have a := Nat.and_le_left (n := sb_g2 (sb_g1 n) + sb_g2 (sb_g1 n) / 16) (m := 252645135)
    unfold sb_g3
    omega
  have l4 : sb_g4 (sb_g3 (sb_g2 (sb_g1 n))) ≤ 8 * n := by
    unfold sb_g4
    omega
  have e1 : nI n - (si_ushr (nI n) 1 &&& 1431655765) = nI (sb_g1 n) := by
    rw [sb_u (n := n) 1 1 (by omega) (by decide)]
    show nI n - (nI (n / 2 ^ 1) &&& nI 1431655765) = _
    rw [fa_and, pk_sub (by have := Nat.and_le_left (n := n / 2 ^ 1) (m := 1431655765); omega)]
    rfl
  have e2 : (nI (sb_g1 n) &&& 858993459) + (si_ushr (nI (sb_g1 n)) 2 &&& 858993459) = nI (sb_g2 (sb_g1 n)) := by
    rw [sb_u (n := sb_g1 n) 2 2 (by omega) (by decide)]
    show (nI (sb_g1 n) &&& nI 858993459) + (nI (sb_g1 n / 2 ^ 2) &&& nI 858993459) = _
    rw [fa_and, fa_and, nI_add]
    rfl
  have e3 : (nI (sb_g2 (sb_g1 n)) + si_ushr (nI (sb_g2 (sb_g1 n))) 4) &&& 252645135 = nI (sb_g3 (sb_g2 (sb_g1 n))) := by
    rw [sb_u (n := sb_g2 (sb_g1 n)) 4 4 (by omega) (by decide), nI_add]
    show nI (sb_g2 (sb_g1 n) + sb_g2 (sb_g1 n) / 2 ^ 4) &&& nI 252645135 = _
    rw [fa_and]
    rfl
  have e4 : nI (sb_g3 (sb_g2 (sb_g1 n))) + si_ushr (nI (sb_g3 (sb_g2 (sb_g1 n)))) 8 = nI (sb_g4 (sb_g3 (sb_g2 (sb_g1 n)))) := by
    rw [sb_u (n := sb_g3 (sb_g2 (sb_g1 n))) 8 8 (by omega) (by decide), nI_add]
    rfl
  have e5 : nI (sb_g4 (sb_g3 (sb_g2 (sb_g1 n)))) + si_ushr (nI (sb_g4 (sb_g3 (sb_g2 (sb_g1 n))))) 16 = nI (sb_g5 (sb_g4 (sb_g3 (sb_g2 (sb_g1 n))))) := by
    rw [sb_u (n := sb_g4 (sb_g3 (sb_g2 (sb_g1 n)))) 16 16 (by omega) (by decide), nI_add]
    rfl
  unfold f_J6_bitCount_0f7a4
  rw [e1, Option.bind_some, e2, Option.bind_some, e3, Option.bind_some, e4, Option.bind_some, e5, Option.bind_some]
  show some (nI (sb_g5 (sb_g4 (sb_g3 (sb_g2 (sb_g1 n))))) &&& nI 63, S) = _
  rw [fa_and, sb_all n h]
