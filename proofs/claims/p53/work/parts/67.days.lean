-- sealState, expiryDay, risk, scalesWith
theorem sy_i3 {S S' : si_St} (e : iv_same S S') : S'.1 87 3 = S.1 87 3 ∧ S'.1 87 2 = S.1 87 2 := ⟨e.1 87 3 rfl, e.1 87 2 rfl⟩
theorem sm_or0 (x : Int32) : x ||| 0 = x := b_ext (fun i _ => by rw [b_or, b_0, Bool.or_false])
def sy_sw (D : sy_D) (u : Nat → Nat → Nat) (dd V : Nat) (x : Int32) : Nat → Int32
  | 0 => 0
  | k + 1 => if nI (sy_st D u dd V k) = x then sy_sw D u dd V x k ||| (1 <<< (nI k &&& 31)) else sy_sw D u dd V x k
-- riskiestTrader
def sy_tr (D : sy_D) (u : Nat → Nat → Nat) (dd V t : Nat) : Nat → Nat
  | 0 => 0
  | k + 1 => sy_tr D u dd V t k + (if u 4 k = t then sy_rk D u dd V (u 1 0) k else 0)
def sy_bo (f : Nat → Nat) : Nat → Nat
  | 0 => 0
  | j + 1 => if f j ≤ f (sy_bo f j) then sy_bo f j else j
theorem sy_bo_lt {f : Nat → Nat} : ∀ j, 0 < j → sy_bo f j < j
  | 0, h => absurd h (by omega)
  | j + 1, _ => by
    show (if f j ≤ f (sy_bo f j) then sy_bo f j else j) < j + 1
    split
    · by_cases hj : j = 0
      · subst hj
        exact Nat.zero_lt_one
      · have := sy_bo_lt (f := f) j (by omega)
        omega
    · omega
theorem sy_rk_le {D : sy_D} {u : Nat → Nat → Nat} {dd V n s : Nat} : sy_rk D u dd V n s ≤ 6 + V + n := by
  have h1 := sy_bs_le (sy_st D u dd V s)
  have h2 := sy_fa_le (D := D) (dd := dd) (s := s) V
  have h3 := sy_rj_le (D := D) (u := u) (dd := dd) (V := V) (t := u 4 s) n
  unfold sy_rk
  omega
theorem sy_rk_pos {D : sy_D} {u : Nat → Nat → Nat} {dd V n s : Nat} : 1 ≤ sy_rk D u dd V n s := by
  have h1 := sy_bs_le (sy_st D u dd V s)
  unfold sy_rk
  omega
theorem sy_tr_le {D : sy_D} {u : Nat → Nat → Nat} {dd V t : Nat} (hV : V ≤ 30) (hn : u 1 0 ≤ 24) : ∀ k, sy_tr D u dd V t k ≤ 60 * k
  | 0 => Nat.le_refl 0
  | k + 1 => by
    have ih := sy_tr_le (D := D) (u := u) (dd := dd) (V := V) (t := t) hV hn k
    have h1 := sy_rk_le (D := D) (u := u) (dd := dd) (V := V) (n := u 1 0) (s := k)
    show sy_tr D u dd V t k + (if u 4 k = t then sy_rk D u dd V (u 1 0) k else 0) ≤ 60 * (k + 1)
    split <;> omega
