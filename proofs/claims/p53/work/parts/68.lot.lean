-- lot
def lo_r (rk : Nat → Nat) (m s : Nat) : Nat := if m.testBit s = true then 0 else rk s
theorem lo_up (rk : Nat → Nat) (m d : Nat) : lo_r rk (m ||| 2 ^ d) = fun k => if k = d then 0 else lo_r rk m k := by
  funext k
  unfold lo_r
  rw [fb_bit_set]
  by_cases hk : k = d
  · rw [if_pos hk, decide_eq_true hk, Bool.or_true, if_pos rfl]
  · rw [if_neg hk, decide_eq_false hk, Bool.or_false]
theorem lo_find (f : Nat → Nat) : ∀ {n r : Nat}, r < fb_sm f n → ∃ d, d < n ∧ fb_sm f d ≤ r ∧ r < fb_sm f d + f d
  | 0, r, h => absurd h (Nat.not_lt_zero r)
  | n + 1, r, h => by
    rw [fb_sm_succ] at h
    by_cases h1 : r < fb_sm f n
    · obtain ⟨d, hd, h2⟩ := lo_find f h1
      exact ⟨d, by omega, h2⟩
    · exact ⟨n, by omega, by omega, h⟩
theorem lo_mono (f : Nat → Nat) {a b : Nat} (h : a ≤ b) : fb_sm f a ≤ fb_sm f b := by
  have e := fb_sm_mono f a (b - a)
  rw [Nat.add_sub_cancel' h] at e
  exact e
theorem lo_pos {rk : Nat → Nat} {m n i : Nat} (hr : ∀ s, s < n → 1 ≤ rk s) (hc : fb_ct (fun s => m.testBit s) n = i) (hi : i < n) : 1 ≤ fb_sm (lo_r rk m) n := by
  by_cases hall : ∀ k, k < n → m.testBit k = true
  · have := (fb_ct_all (p := fun s => m.testBit s) (n := n)).mpr hall
    omega
  · have ⟨k, hk⟩ : ∃ k, ¬ (k < n → m.testBit k = true) := Classical.not_forall.mp hall
    have hkn : k < n := Decidable.byContradiction (fun h => hk (fun h2 => absurd h2 h))
    have hkb : ¬ m.testBit k = true := fun h => hk (fun _ => h)
    have h1 := fb_sm_part (lo_r rk m) hkn
    have h2 : lo_r rk m k = rk k := if_neg hkb
    have h3 := hr k hkn
    omega
theorem lo_sum {rk : Nat → Nat} {m n d : Nat} (hd : d < n) : fb_sm (lo_r rk (m ||| 2 ^ d)) n + lo_r rk m d = fb_sm (lo_r rk m) n := by
  rw [lo_up]
  exact fb_sm_upd (lo_r rk m) 0 hd
theorem lo_cnt {m n d i : Nat} (hd : d < n) (hb : ¬ m.testBit d = true) (hc : fb_ct (fun s => m.testBit s) n = i) : fb_ct (fun s => (m ||| 2 ^ d).testBit s) n = i + 1 := by
  have e : (fun s => (m ||| 2 ^ d).testBit s) = fun k => if k = d then true else m.testBit k := by
    funext k
    rw [fb_bit_set]
    by_cases hk : k = d
    · rw [if_pos hk, decide_eq_true hk, Bool.or_true]
    · rw [if_neg hk, decide_eq_false hk, Bool.or_false]
  rw [e]
  have h := fb_ct_upd (fun s => m.testBit s) true hd
  rw [if_neg hb, if_pos rfl] at h
  omega
theorem lo_bound {rk : Nat → Nat} {m : Nat} (hr : ∀ s, rk s ≤ 60) : ∀ n, fb_sm (lo_r rk m) n ≤ n * 60 := fun n => fb_sm_bound (fun k _ => by
  unfold lo_r
  split
  · omega
  · exact hr k)
def lo_n (a : Nat) : Nat := (a * 1103515245 + 12345) % 2147483648
theorem lo_nx {a : Nat} (ha : a < 2147483648) : ((lN a * (1103515245 : Int64)) + (12345 : Int64)) - ((lN a * (1103515245 : Int64)) + (12345 : Int64)) / (2147483648 : Int64) * (2147483648 : Int64) = lN (lo_n a) := by
  have e : (lN a * (1103515245 : Int64)) + (12345 : Int64) = lN (a * 1103515245 + 12345) := by
    show lN a * lN 1103515245 + lN 12345 = _
    rw [lN_mul, lN_add]
  rw [e]
  exact pk_lRem (b := 2147483648) (by omega) (by decide) (by decide)
theorem lo_dv {b s : Nat} (hb : b < 2147483648) (hs : 0 < s) (hs2 : s < 2 ^ 31) : Int64.toInt32 ((lN b / (65536 : Int64)) - (lN b / (65536 : Int64)) / (Int32.toInt64 (nI s)) * (Int32.toInt64 (nI s))) = nI (b / 65536 % s) := by
  have e : lN b / (65536 : Int64) = lN (b / 65536) := pk_lDiv (b := 65536) (by omega) (by decide) (by decide)
  rw [e, nI_l hs2, pk_lRem (by omega) hs (by omega), lN_i]
theorem lo_n0 {s : Nat} (hs : 0 < s) (hs2 : s < 2 ^ 31) : ¬ Int32.toInt64 (nI s) = 0 := by
  rw [nI_l hs2]
  intro h
  have := (pk_lEQ (b := 0) (by omega) (by decide)).mp h
  omega
def lo_fr (B T : si_St) : Prop := T.1 = B.1 ∧ (∀ r, r ≠ 107 → T.2.1 r = B.2.1 r) ∧ T.2.2 = B.2.2
theorem sy_m.pa107 {S : si_St} {u : Nat → Nat → Nat} {V i : Nat} {v : Int32} {D : sy_D} (h : sy_m S u V D) : sy_m (si_pa S 107 i v) u V D := by
  obtain ⟨c0, c1, c2, c3, c4⟩ := h
  exact ⟨c0, c1.cg rfl rfl rfl rfl (fun r r1 r2 => pa_o (by omega)), c2, c3, c4⟩
