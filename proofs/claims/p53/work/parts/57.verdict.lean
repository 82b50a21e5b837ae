-- LOOPS in general
theorem lp_any {α : Type} (L : Nat → Nat → α) (A B : α) (p : Nat → Bool) (n : Nat) (hend : ∀ t, L (t + 1) n = B) (hstep : ∀ t k, k < n → L (t + 1) k = if p k = true then A else L t (k + 1)) : ∀ t k, k ≤ n → n < t + k → sa_an p k = false → L t k = if sa_an p n = true then A else B
  | 0, k, h1, h2, _ => absurd h2 (by omega)
  | t + 1, k, h1, h2, h3 => by
    by_cases hk : k = n
    · subst hk
      rw [hend, h3, if_neg (by decide)]
    · rw [hstep t k (by omega)]
      cases hp : p k with
      | true => rw [if_pos rfl, sa_an_hit (p := p) (n := n) (k := k) (by omega) hp, if_pos rfl]
      | false =>
        rw [if_neg (by decide)]
        refine lp_any L A B p n hend hstep t (k + 1) (by omega) (by omega) ?_
        show (sa_an p k || p k) = false
        rw [h3, hp]
        rfl
theorem lp_go {α : Type} (L : Nat → Nat → α) (B : α) (n : Nat) (hend : ∀ t, L (t + 1) n = B) (hstep : ∀ t k, k < n → L (t + 1) k = L t (k + 1)) : ∀ t k, k ≤ n → n < t + k → L t k = B
  | 0, k, h1, h2 => absurd h2 (by omega)
  | t + 1, k, h1, h2 => by
    by_cases hk : k = n
    · subst hk
      exact hend t
    · rw [hstep t k (by omega)]
      exact lp_go L B n hend hstep t (k + 1) (by omega) (by omega)
theorem sv_bz (b : Bool) : si_bz (sv_b b) = some (sv_b b) := by cases b <;> rfl
theorem sv_ite (b : Bool) {α : Type} (x y : α) : (if sv_b b = 0 then x else y) = if b = true then y else x := by cases b <;> rfl
/-- a visit i of the scale s with n tests: st the sets, er the errors -/
def vd_C (u : Nat → Nat → Nat) (i s n b : Nat) (st : Nat → Nat) : Prop := iv_mok u ∧ i < 30 ∧ s < u 1 0 ∧ n ≤ 8 ∧ b ≤ 1 ∧ ∀ t, t < n → st t < 2 ^ u 2 0 ∧ sm_sum (u 8) (u 2 0) (st t) ≤ u 7 s
def vd_X (S : si_St) (mk : Nat) (u : Nat → Nat → Nat) (i s n b : Nat) (st : Nat → Nat) (er : Nat → Int32) : Prop := (mk = 69 ∨ mk = 78) ∧ iv_mk (S.1 mk) (fun j => S.2.1 (mk + j)) u ∧ S.2.1 8 i = nI s ∧ S.2.1 10 i = nI b ∧ S.2.1 12 i = nI n ∧ ∀ t, t < n → S.2.1 13 (8 * i + t) = nI (st t) ∧ S.2.1 14 (8 * i + t) = nI (sm_sum (u 8) (u 2 0) (st t)) ∧ S.2.1 15 (8 * i + t) = er t
def vd_M (S : si_St) (u : Nat → Nat → Nat) (i s n b : Nat) (st : Nat → Nat) (er : Nat → Int32) : Prop := iv_mm (S.1 87) S.2.1 u ∧ S.2.1 88 (1 + i) = nI s ∧ S.2.1 88 (121 + i) = nI b ∧ S.2.1 88 (151 + i) = nI n ∧ ∀ t, t < n → S.2.1 88 (181 + (8 * i + t)) = nI (st t) ∧ S.2.1 88 (421 + (8 * i + t)) - nI (sm_sum (u 8) (u 2 0) (st t)) = er t
/-- the tolerance of the visit at a test -/
def vd_t (u : Nat → Nat → Nat) (s b : Nat) (st : Nat → Nat) (t : Nat) : Nat := tv_t (u 5 s) (u 6 s) (sm_sum (u 8) (u 2 0) (st t)) * (1 + b)
def vd_e (st : Nat → Nat) (n : Nat) : Bool := sa_an (fun t => decide (st t = 0)) n
def vd_h (u : Nat → Nat → Nat) (s : Nat) (st : Nat → Nat) (n : Nat) : Bool := sa_an (fun t => decide (u 7 s ≤ 2 * sm_sum (u 8) (u 2 0) (st t))) n
def vd_r (st : Nat → Nat) (n : Nat) : Bool := sa_an (fun t => sa_an (fun v => decide (st t ≠ 0 ∧ st v = st t)) t) n
def vd_f (u : Nat → Nat → Nat) (s b : Nat) (st : Nat → Nat) (er : Nat → Int32) (sh : Int32) (n : Nat) : Bool := sa_an (fun t => decide (nI (vd_t u s b st t) < si_abs (er t - sh))) n
def vd_d (u : Nat → Nat → Nat) (s b : Nat) (st : Nat → Nat) (er : Nat → Int32) (n : Nat) : Bool := sa_an (fun t => sa_an (fun v => decide (st v = st t ∧ nI (vd_t u s b st t) < si_abs (er t - er v))) t) n
def vd_J (u : Nat → Nat → Nat) (s n b : Nat) (st : Nat → Nat) (er : Nat → Int32) (sh : Int32) : Nat := if vd_e st n = true then (if vd_h u s st n = true then (if vd_r st n = true then (if vd_f u s b st er sh n = true then 4 else if vd_d u s b st er n = true then 5 else 0) else 3) else 2) else 1
theorem vd_cap {u : Nat → Nat → Nat} {i s n b : Nat} {st : Nat → Nat} (c : vd_C u i s n b st) : u 7 s ≤ 999999 ∧ u 1 0 ≤ 24 ∧ u 2 0 ≤ 10 ∧ 1 ≤ u 6 s ∧ u 6 s ≤ 1000 := by
  obtain ⟨g0, -, hs, -⟩ := c
  have q := g0.2.2.2.2.1 s hs
  exact ⟨q.2.2.2.2.2, g0.2.1, g0.2.2.1, q.2.2.1, q.2.2.2.1⟩
theorem vd_st {u : Nat → Nat → Nat} {i s n b : Nat} {st : Nat → Nat} (c : vd_C u i s n b st) {t : Nat} (ht : t < n) : st t < 1024 ∧ sm_sum (u 8) (u 2 0) (st t) ≤ 999999 := by
  have h1 := vd_cap c
  obtain ⟨g0, -, hs, -, -, h⟩ := c
  have h2 : 2 ^ u 2 0 ≤ 2 ^ 10 := Nat.pow_le_pow_right (by decide) h1.2.2.1
  have h3 := h t ht
  exact ⟨by omega, by omega⟩
theorem vd_tl {u : Nat → Nat → Nat} {i s n b : Nat} {st : Nat → Nat} (c : vd_C u i s n b st) (t : Nat) : vd_t u s b st t ≤ 3000 := by
  have h1 := vd_cap c
  have h2 := tv_le (c := u 5 s) (d := u 6 s) (l := sm_sum (u 8) (u 2 0) (st t)) h1.2.2.2.2 h1.2.2.2.1
  have h3 : 1 + b ≤ 2 := by have := c.2.2.2.2.1; omega
  exact Nat.mul_le_mul h2 h3
-- the one side
theorem vx_ix (i t : Nat) : (nI i * 8) + nI t = nI (8 * i + t) := by
  show nI i * nI 8 + nI t = _
  rw [sm_mul, nI_add, Nat.mul_comm]
theorem vx_ix8 (i : Nat) : nI i * 8 = nI (8 * i) := by
  show nI i * nI 8 = _
  rw [sm_mul, Nat.mul_comm]
