-- hypothesisCount, finding
theorem fd_one_2 : ∀ a, a < 64 → ∀ b, b < 64 → sb_pc (64 * a + b) = 1 → ∃ w, w < 12 ∧ 64 * a + b = 2 ^ w := by decide +kernel
theorem fd_one {n : Nat} (h : n < 4096) (h1 : sb_pc n = 1) : ∃ w, w < 12 ∧ n = 2 ^ w := by
  have e := fd_one_2 (n / 64) (by omega) (n % 64) (by omega)
  rw [Nat.div_add_mod] at e
  exact e h1
theorem fd_ntz {F w : Nat} {S : si_St} (h : w < 12) : f_J6_numberOfTrailingZeros_0f7a4 F (nI (2 ^ w)) S = some (nI w, S) := by
  have hw : w = 0 ∨ w = 1 ∨ w = 2 ∨ w = 3 ∨ w = 4 ∨ w = 5 ∨ w = 6 ∨ w = 7 ∨ w = 8 ∨ w = 9 ∨ w = 10 ∨ w = 11 := by omega
  rcases hw with rfl | rfl | rfl | rfl | rfl | rfl | rfl | rfl | rfl | rfl | rfl | rfl <;> rfl
theorem fd_hx {F k h l g : Nat} {S : si_St} (hk : k < 4) (a1 : S.2.1 17 k = nI h) (a2 : S.2.1 18 k = nI l) (a3 : S.2.1 19 k = nI g) (hh : h < 4096) (hl : l < 4096) : f_X8_hypothesesOf F (nI k) S = some (nI (sb_pc h + sb_pc l + g), S) := by
  unfold f_X8_hypothesesOf
  rw [rd_17 hk, Option.bind_some, a1, sb_bc hh, Option.bind_some]
  dsimp only
  rw [rd_18 hk, Option.bind_some, a2, sb_bc hl, Option.bind_some]
  dsimp only
  rw [rd_19 hk, Option.bind_some, a3, nI_add, nI_add]
theorem fd_pw {i w : Nat} (hi : i < 31) (hw : w < 31) (h : i ≠ w) : ¬ nI (2 ^ i) = nI (2 ^ w) := by
  have h1 : 2 ^ i < 2 ^ 31 := Nat.pow_lt_pow_right (by decide) hi
  have h2 : 2 ^ w < 2 ^ 31 := Nat.pow_lt_pow_right (by decide) hw
  intro e
  have e2 := sm_inj h1 h2 e
  exact h ((Nat.pow_right_inj (by decide)).mp e2)
theorem fd_0 {w : Nat} (hw : w < 31) : ¬ nI 0 = nI (2 ^ w) := by
  have h2 : 2 ^ w < 2 ^ 31 := Nat.pow_lt_pow_right (by decide) hw
  have h3 : 0 < 2 ^ w := Nat.pow_pos (by decide)
  intro e
  have e2 := sm_inj (a := 0) (by decide) h2 e
  omega
-- fewestMasses, closestLoad
def fm_f (so : Nat → Int32) (x : Int32) : Nat → Option Nat
  | 0 => none
  | k + 1 => if so k = x then (match fm_f so x k with
    | none => some k
    | some b => if sb_pc k < sb_pc b then some k else some b) else fm_f so x k
def fm_b : Option Nat → Int32
  | none => -2
  | some b => nI b
def fm_c : Option Nat → Int32
  | none => 11
  | some b => nI (sb_pc b)
theorem fm_lt {so : Nat → Int32} {x : Int32} : ∀ {k b : Nat}, fm_f so x k = some b → b < k
  | 0, b, h => nomatch h
  | k + 1, b, h => by
    have h' : (if so k = x then (match fm_f so x k with
      | none => some k
      | some b => if sb_pc k < sb_pc b then some k else some b) else fm_f so x k) = some b := h
    by_cases hc : so k = x
    · rw [if_pos hc] at h'
      cases hf : fm_f so x k with
      | none =>
        rw [hf] at h'
        have := Option.some.inj h'
        omega
      | some b2 =>
        have := fm_lt hf
        rw [hf] at h'
        dsimp only at h'
        by_cases h2 : sb_pc k < sb_pc b2
        · rw [if_pos h2] at h'
          have := Option.some.inj h'
          omega
        · rw [if_neg h2] at h'
          have := Option.some.inj h'
          omega
    · rw [if_neg hc] at h'
      have := fm_lt h'
      omega
theorem fm_10_2 : ∀ a, a < 32 → ∀ b, b < 32 → sb_pc (32 * a + b) ≤ 10 := by decide +kernel
theorem fm_10 {n : Nat} (h : n < 1024) : sb_pc n ≤ 10 := by
  have e := fm_10_2 (n / 32) (by omega) (n % 32) (by omega)
  rw [Nat.div_add_mod] at e
  exact e
def cl_f (so : Nat → Int32) (x : Int32) : Nat → Int32
  | 0 => 0
  | k + 1 => if x < so k then cl_f so x k else if so k ≤ cl_f so x k then cl_f so x k else so k
