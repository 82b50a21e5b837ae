-- an open visit; a test more
theorem f9_isOpen {F i : Nat} {S : si_St} (hi : i < 30) : f_X7_isOpen F (nI i) S = some (if S.2.1 11 i = -1 then 1 else 0, S) := by
  unfold f_X7_isOpen f_X7_isOpen_h15
  rw [sm_rd (show i < 30 from hi) (by decide), Option.bind_some]
  by_cases h1 : S.2.1 11 i = -1
  · rw [if_pos h1, if_pos h1]; rfl
  · rw [if_neg h1, if_neg h1]; rfl
def sn_T (S : si_St) (v n : Nat) (a b c : Int32) : si_St := si_pa (si_pa (si_pa (si_pa S 13 (8 * v + n) a) 14 (8 * v + n) b) 15 (8 * v + n) c) 12 v (nI (n + 1))
theorem f9_addTest {F v n : Nat} {a b c : Int32} {S : si_St} (hv : v < 30) (hn : n < 8) (h : S.2.1 12 v = nI n) : f_X7_addTest F (nI v) a b c S = some (nI n, sn_T S v n a b c) := by
  have h3 : ∀ a b c, (si_pa (si_pa (si_pa S 13 (8 * v + n) a) 14 (8 * v + n) b) 15 (8 * v + n) c).2.1 12 v = nI n := fun a b c => h
  have e8 : nI v * 8 + nI n = nI (8 * v + n) := by
    show nI v * nI 8 + nI n = _
    rw [sm_mul, nI_add, Nat.mul_comm]
  unfold f_X7_addTest
  rw [sm_rd (show v < 30 from hv) (by decide), Option.bind_some, h, Option.bind_some, e8, sm_wr (show 8 * v + n < 240 by omega) (by decide), Option.bind_some, sm_wr (show 8 * v + n < 240 by omega) (by decide), Option.bind_some, sm_wr (show 8 * v + n < 240 by omega) (by decide), Option.bind_some, sm_rd (show v < 30 from hv) (by decide), Option.bind_some, h3, nI_1, sm_wr (show v < 30 from hv) (by decide), Option.bind_some]
  rfl
