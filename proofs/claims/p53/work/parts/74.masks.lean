-- sets of weights: subsets in order, the lowest weights of a set
theorem mk_and2 {a b x y : Nat} (hx : x < 2) (hy : y < 2) : (2 * a + x) &&& (2 * b + y) = 2 * (a &&& b) + (x &&& y) := by
  have hxy : x &&& y < 2 := Nat.lt_of_le_of_lt Nat.and_le_left hx
  refine Nat.eq_of_testBit_eq (fun i => ?_)
  cases i with
  | zero =>
    rw [Nat.testBit_and, Nat.testBit_zero, Nat.testBit_zero, Nat.testBit_zero]
    have h : (x = 0 ∨ x = 1) ∧ (y = 0 ∨ y = 1) := by omega
    obtain ⟨h1, h2⟩ := h
    have e1 : (2 * a + x) % 2 = x := by omega
    have e2 : (2 * b + y) % 2 = y := by omega
    have e3 : (2 * (a &&& b) + (x &&& y)) % 2 = x &&& y := by omega
    rw [e1, e2, e3]
    rcases h1 with rfl | rfl <;> rcases h2 with rfl | rfl <;> rfl
  | succ i =>
    have e1 : (2 * a + x) / 2 = a := by omega
    have e2 : (2 * b + y) / 2 = b := by omega
    have e3 : (2 * (a &&& b) + (x &&& y)) / 2 = a &&& b := by omega
    rw [Nat.testBit_and, Nat.testBit_succ, Nat.testBit_succ, Nat.testBit_succ, e1, e2, e3, Nat.testBit_and]
theorem mk_or2 {a b x y : Nat} (hx : x < 2) (hy : y < 2) : (2 * a + x) ||| (2 * b + y) = 2 * (a ||| b) + (x ||| y) := by
  have h : (x = 0 ∨ x = 1) ∧ (y = 0 ∨ y = 1) := by omega
  obtain ⟨h1, h2⟩ := h
  have hxy : x ||| y < 2 := by rcases h1 with rfl | rfl <;> rcases h2 with rfl | rfl <;> decide
  refine Nat.eq_of_testBit_eq (fun i => ?_)
  cases i with
  | zero =>
    rw [Nat.testBit_or, Nat.testBit_zero, Nat.testBit_zero, Nat.testBit_zero]
    have e1 : (2 * a + x) % 2 = x := by omega
    have e2 : (2 * b + y) % 2 = y := by omega
    have e3 : (2 * (a ||| b) + (x ||| y)) % 2 = x ||| y := by omega
    rw [e1, e2, e3]
    rcases h1 with rfl | rfl <;> rcases h2 with rfl | rfl <;> rfl
  | succ i =>
    have e1 : (2 * a + x) / 2 = a := by omega
    have e2 : (2 * b + y) / 2 = b := by omega
    have e3 : (2 * (a ||| b) + (x ||| y)) / 2 = a ||| b := by omega
    rw [Nat.testBit_or, Nat.testBit_succ, Nat.testBit_succ, Nat.testBit_succ, e1, e2, e3, Nat.testBit_or]
theorem mk_sum : ∀ (K : Nat) {a b : Nat}, a < 2 ^ K → a &&& b = 0 → a ||| b = a + b
  | 0, a, b, ha, h => by
    have h0 : a = 0 := by
      have : (2 : Nat) ^ 0 = 1 := rfl
      omega
    subst h0
    rw [Nat.zero_or]
    omega
  | K + 1, a, b, ha, h => by
    have hp : 2 ^ (K + 1) = 2 * 2 ^ K := Nat.pow_succ' ..
    have e1 := mk_and2 (a := a / 2) (b := b / 2) (x := a % 2) (y := b % 2) (Nat.mod_lt _ (by decide)) (Nat.mod_lt _ (by decide))
    have e2 := mk_or2 (a := a / 2) (b := b / 2) (x := a % 2) (y := b % 2) (Nat.mod_lt _ (by decide)) (Nat.mod_lt _ (by decide))
    rw [Nat.div_add_mod, Nat.div_add_mod] at e1 e2
    rw [h] at e1
    have h2 : (a / 2) &&& (b / 2) = 0 := by omega
    have h3 : (a % 2) &&& (b % 2) = 0 := by omega
    have ih := mk_sum K (a := a / 2) (b := b / 2) (by omega) h2
    have h4 : (a % 2) ||| (b % 2) = a % 2 + b % 2 := by
      have h : (a % 2 = 0 ∨ a % 2 = 1) ∧ (b % 2 = 0 ∨ b % 2 = 1) := by omega
      obtain ⟨h5, h6⟩ := h
      rcases h5 with h5 | h5 <;> rcases h6 with h6 | h6 <;> rw [h5, h6] at h3 ⊢ <;> first | rfl | exact absurd h3 (by decide)
    rw [e2, ih, h4]
    omega
theorem mk_bit {x y : Nat} (hx : x < 2) (hy : y < 2) : (x &&& y = x) ↔ x ≤ y := by
  have h : (x = 0 ∨ x = 1) ∧ (y = 0 ∨ y = 1) := by omega
  obtain ⟨h1, h2⟩ := h
  rcases h1 with rfl | rfl <;> rcases h2 with rfl | rfl <;> decide
theorem mk_sub2 {t o : Nat} : (t &&& o = t) ↔ ((t / 2) &&& (o / 2) = t / 2 ∧ t % 2 ≤ o % 2) := by
  have e := mk_and2 (a := t / 2) (b := o / 2) (x := t % 2) (y := o % 2) (Nat.mod_lt _ (by decide)) (Nat.mod_lt _ (by decide))
  rw [Nat.div_add_mod, Nat.div_add_mod] at e
  rw [e, ← mk_bit (Nat.mod_lt _ (by decide)) (Nat.mod_lt _ (by decide))]
  have hxy : t % 2 &&& o % 2 < 2 := Nat.lt_of_le_of_lt Nat.and_le_left (Nat.mod_lt _ (by decide))
  constructor
  · intro h
    omega
  · rintro ⟨h1, h2⟩
    omega
theorem mk_le {t o : Nat} (h : t &&& o = t) : t ≤ o := by
  rw [← h]
  exact Nat.and_le_right
theorem mk_D : ∀ (K : Nat) {o r : Nat}, o < 2 ^ K → r &&& o = r → (r + (2 ^ K - 1 - o)) &&& o = r
  | 0, o, r, ho, hr => by
    have h0 : o = 0 := by
      have : (2 : Nat) ^ 0 = 1 := rfl
      omega
    subst h0
    rw [Nat.and_zero] at hr ⊢
    exact hr
  | K + 1, o, r, ho, hr => by
    obtain ⟨h1, h2⟩ := mk_sub2.mp hr
    have hp : 2 ^ (K + 1) = 2 * 2 ^ K := Nat.pow_succ' ..
    have ih := mk_D K (o := o / 2) (r := r / 2) (by omega) h1
    have hle := mk_le h1
    have e1 : r + (2 ^ (K + 1) - 1 - o) = 2 * (r / 2 + (2 ^ K - 1 - o / 2)) + (1 + r % 2 - o % 2) := by omega
    have e2 : o = 2 * (o / 2) + o % 2 := by omega
    have e3 : (1 + r % 2 - o % 2) &&& (o % 2) = r % 2 := by
      have h : (r % 2 = 0 ∨ r % 2 = 1) ∧ (o % 2 = 0 ∨ o % 2 = 1) := by omega
      obtain ⟨h3, h4⟩ := h
      rcases h3 with h3 | h3 <;> rcases h4 with h4 | h4 <;> rw [h3, h4] at h2 ⊢ <;> first | rfl | exact absurd h2 (by decide)
    have e4 : (r + (2 ^ (K + 1) - 1 - o)) &&& o = (2 * (r / 2 + (2 ^ K - 1 - o / 2)) + (1 + r % 2 - o % 2)) &&& (2 * (o / 2) + o % 2) := by rw [← e1, ← e2]
    rw [e4, mk_and2 (by omega) (Nat.mod_lt _ (by decide)), ih, e3]
    omega
def nx (K o r : Nat) : Nat := (r + (2 ^ K - o)) &&& o
theorem nx_top {K o : Nat} (ho : o < 2 ^ K) : nx K o o = 0 := by
  unfold nx
  rw [Nat.add_sub_cancel' (by omega)]
  refine Nat.eq_of_testBit_eq (fun i => ?_)
  rw [Nat.testBit_and, Nat.zero_testBit]
  by_cases hi : i = K
  · subst hi
    rw [Nat.testBit_lt_two_pow ho, Bool.and_false]
  · rw [Nat.testBit_two_pow_of_ne (Ne.symm hi), Bool.false_and]
theorem nx_spec : ∀ (K : Nat) {o r : Nat}, o < 2 ^ K → r &&& o = r → r ≠ o → r < nx K o r ∧ nx K o r &&& o = nx K o r ∧ ∀ t, t &&& o = t → r < t → nx K o r ≤ t
  | 0, o, r, ho, hr, hne => by
    exfalso
    have h0 : o = 0 := by
      have : (2 : Nat) ^ 0 = 1 := rfl
      omega
    subst h0
    rw [Nat.and_zero] at hr
    exact hne hr.symm
  | K + 1, o, r, ho, hr, hne => by
    obtain ⟨h1, h2⟩ := mk_sub2.mp hr
    have hp : 2 ^ (K + 1) = 2 * 2 ^ K := Nat.pow_succ' ..
    have hle := mk_le h1
    have e2 : o = 2 * (o / 2) + o % 2 := by omega
    have hsub : nx (K + 1) o r &&& o = nx (K + 1) o r := by
      unfold nx
      rw [Nat.and_assoc, Nat.and_self]
    by_cases hfe : r % 2 = o % 2
    · have hne2 : r / 2 ≠ o / 2 := fun h => hne (by omega)
      obtain ⟨i1, i2, i3⟩ := nx_spec K (o := o / 2) (r := r / 2) (by omega) h1 hne2
      have e1 : r + (2 ^ (K + 1) - o) = 2 * (r / 2 + (2 ^ K - o / 2)) + 0 := by omega
      have en : nx (K + 1) o r = 2 * nx K (o / 2) (r / 2) := by
        have e4 : nx (K + 1) o r = (2 * (r / 2 + (2 ^ K - o / 2)) + 0) &&& (2 * (o / 2) + o % 2) := by
          unfold nx
          rw [← e1, ← e2]
        rw [e4, mk_and2 (by decide) (Nat.mod_lt _ (by decide)), Nat.zero_and]
        rfl
      refine ⟨by omega, hsub, fun t ht hrt => ?_⟩
      obtain ⟨t1, t2⟩ := mk_sub2.mp ht
      by_cases htr : r / 2 < t / 2
      · have := i3 (t / 2) t1 htr
        omega
      · omega
    · have hr0 : r % 2 = 0 := by omega
      have ho1 : o % 2 = 1 := by omega
      have e1 : r + (2 ^ (K + 1) - o) = 2 * (r / 2 + (2 ^ K - 1 - o / 2)) + 1 := by omega
      have en : nx (K + 1) o r = r + 1 := by
        have e4 : nx (K + 1) o r = (2 * (r / 2 + (2 ^ K - 1 - o / 2)) + 1) &&& (2 * (o / 2) + o % 2) := by
          unfold nx
          rw [← e1, ← e2]
        rw [e4, mk_and2 (by decide) (Nat.mod_lt _ (by decide)), mk_D K (by omega) h1, ho1]
        have : 1 &&& 1 = 1 := rfl
        omega
      exact ⟨by omega, hsub, fun t _ hrt => by omega⟩
-- the lowest weights of a set
def dr (s : Nat) : Nat → Nat
  | 0 => s
  | m + 1 => dr s m &&& (dr s m - 1)
theorem dr_sub (s : Nat) : ∀ m, dr s m &&& s = dr s m
  | 0 => Nat.and_self s
  | m + 1 => by
    have ih := dr_sub s m
    show (dr s m &&& (dr s m - 1)) &&& s = dr s m &&& (dr s m - 1)
    rw [Nat.and_assoc, Nat.and_comm (dr s m - 1) s, ← Nat.and_assoc, ih]
theorem dr_it (s : Nat) : ∀ m, dr s (m + 1) = dr (s &&& (s - 1)) m
  | 0 => rfl
  | m + 1 => by
    show dr s (m + 1) &&& (dr s (m + 1) - 1) = dr (s &&& (s - 1)) m &&& (dr (s &&& (s - 1)) m - 1)
    rw [dr_it s m]
def low (s m : Nat) : Nat := s - dr s m
theorem sb_df_sub {h m : Nat} (hm : m &&& h = m) : sb_df h m = h - m := by
  have e : sb_df h m + m = h := by
    have h0 : sb_df h m &&& m = 0 := by
      refine Nat.eq_of_testBit_eq (fun i => ?_)
      rw [Nat.testBit_and, sb_df_tb, Nat.zero_testBit]
      cases h.testBit i <;> cases m.testBit i <;> rfl
    have h1 : sb_df h m ||| m = h := by
      refine Nat.eq_of_testBit_eq (fun i => ?_)
      have t : (m &&& h).testBit i = m.testBit i := by rw [hm]
      rw [Nat.testBit_and] at t
      rw [Nat.testBit_or, sb_df_tb]
      revert t
      cases h.testBit i <;> cases m.testBit i <;> decide
    have h2 := mk_sum (sb_df h m) (Nat.lt_two_pow_self) h0
    exact h2.symm.trans h1
  omega
theorem low_0 (s : Nat) : low s 0 = 0 := Nat.sub_self s
theorem low_s (s m : Nat) : low s (m + 1) = (s - (s &&& (s - 1))) + low (s &&& (s - 1)) m := by
  have h1 := mk_le (dr_sub (s &&& (s - 1)) m)
  have h2 : s &&& (s - 1) ≤ s := Nat.and_le_left
  unfold low
  rw [dr_it]
  omega
theorem mk_clr1 (a : Nat) : (2 * a + 1) &&& (2 * a + 1 - 1) = 2 * a := by
  have e := mk_and2 (a := a) (b := a) (x := 1) (y := 0) (by decide) (by decide)
  rw [Nat.and_self] at e
  exact e
theorem mk_clr0 (a : Nat) (ha : 0 < a) : (2 * a) &&& (2 * a - 1) = 2 * (a &&& (a - 1)) := by
  have e := mk_and2 (a := a) (b := a - 1) (x := 0) (y := 1) (by decide) (by decide)
  have e1 : 2 * (a - 1) + 1 = 2 * a - 1 := by omega
  rw [e1] at e
  exact e
theorem low_2 : ∀ (m a : Nat), low (2 * a) m = 2 * low a m
  | 0, a => by rw [low_0, low_0]
  | m + 1, a => by
    by_cases ha : 0 < a
    · have h2 : a &&& (a - 1) ≤ a := Nat.and_le_left
      rw [low_s, low_s, mk_clr0 a ha, low_2 m]
      omega
    · have h0 : a = 0 := by omega
      subst h0
      show low 0 (m + 1) = 2 * low 0 (m + 1)
      have : low 0 (m + 1) = 0 := Nat.zero_sub _
      omega
theorem low_21 (m a : Nat) : low (2 * a + 1) (m + 1) = 1 + 2 * low a m := by
  rw [low_s, mk_clr1, low_2]
  omega
theorem sb_2_2 : ∀ a, a < 64 → ∀ b, b < 32 → ∀ e, e < 2 → sb_pc (2 * (32 * a + b) + e) = e + sb_pc (32 * a + b) := by decide +kernel
theorem sb_2 {n e : Nat} (hn : n < 2048) (he : e < 2) : sb_pc (2 * n + e) = e + sb_pc n := by
  have h := sb_2_2 (n / 32) (by omega) (n % 32) (by omega) e he
  rw [Nat.div_add_mod] at h
  exact h
theorem low_all : ∀ (K : Nat) {s : Nat}, s < 2 ^ K → s < 4096 → ∀ m, m ≤ sb_pc s → low s m &&& s = low s m ∧ sb_pc (low s m) = m ∧ (0 < m → low s (m - 1) < low s m) ∧ ∀ t, t &&& s = t → sb_pc t = m → low s m ≤ t
  | 0, s, hs, h12, m, hm => by
    have h0 : s = 0 := by
      have : (2 : Nat) ^ 0 = 1 := rfl
      omega
    subst h0
    have p0 : sb_pc 0 = 0 := by decide
    have hm0 : m = 0 := by omega
    subst hm0
    exact ⟨rfl, p0, fun h => absurd h (by decide), fun t _ _ => Nat.zero_le t⟩
  | K + 1, s, hs, h12, m, hm => by
    have hp : 2 ^ (K + 1) = 2 * 2 ^ K := Nat.pow_succ' ..
    have es : s = 2 * (s / 2) + s % 2 := by omega
    have h2 : s % 2 = 0 ∨ s % 2 = 1 := by omega
    have hpc := sb_2 (n := s / 2) (e := s % 2) (by omega) (by omega)
    rw [← es] at hpc
    generalize hq : s / 2 = q at *
    cases m with
    | zero =>
      rw [low_0]
      exact ⟨Nat.zero_and s, by decide, fun h => absurd h (by decide), fun t _ _ => Nat.zero_le t⟩
    | succ m =>
      rcases h2 with h2 | h2
      · rw [h2] at es hpc
        obtain ⟨i1, i2, i3, i4⟩ := low_all K (s := q) (by omega) (by omega) (m + 1) (by omega)
        have hl : low s (m + 1) = 2 * low q (m + 1) + 0 := by
          rw [es]
          exact low_2 (m + 1) q
        have hl2 : low s m = 2 * low q m := by
          rw [es]
          exact low_2 m q
        have hlq := mk_le i1
        refine ⟨?_, ?_, fun _ => ?_, fun t ht hpt => ?_⟩
        · rw [hl, es, mk_and2 (by decide) (by decide), i1]
          rfl
        · rw [hl, sb_2 (by omega) (by decide), i2]
          omega
        · have := i3 (by omega)
          rw [Nat.add_sub_cancel] at this ⊢
          omega
        · obtain ⟨t1, t2⟩ := mk_sub2.mp ht
          rw [hq] at t1
          have tl := mk_le ht
          have et : t = 2 * (t / 2) + 0 := by omega
          have pt := sb_2 (n := t / 2) (e := 0) (by omega) (by decide)
          rw [← et] at pt
          have := i4 (t / 2) t1 (by omega)
          omega
      · rw [h2] at es hpc
        obtain ⟨i1, i2, i3, i4⟩ := low_all K (s := q) (by omega) (by omega) m (by omega)
        have hl : low s (m + 1) = 2 * low q m + 1 := by
          rw [es, low_21]
          omega
        have hlq := mk_le i1
        have hst : low s m < low s (m + 1) := by
          cases m with
          | zero =>
            rw [low_0]
            omega
          | succ m =>
            have h5 : low s (m + 1) = 2 * low q m + 1 := by
              rw [es, low_21]
              omega
            have := i3 (by omega)
            rw [Nat.add_sub_cancel] at this
            omega
        refine ⟨?_, ?_, fun _ => hst, fun t ht hpt => ?_⟩
        · rw [hl, es, mk_and2 (by decide) (by decide), i1]
          rfl
        · rw [hl, sb_2 (by omega) (by decide), i2]
          omega
        · obtain ⟨t1, t2⟩ := mk_sub2.mp ht
          rw [hq] at t1
          have tl := mk_le ht
          have pt := sb_2 (n := t / 2) (e := t % 2) (by omega) (by omega)
          have et : 2 * (t / 2) + t % 2 = t := by omega
          rw [et] at pt
          by_cases hf : t % 2 = 1
          · have := i4 (t / 2) t1 (by omega)
            omega
          · have hm1 : m + 1 ≤ sb_pc q := by
              have : sb_pc (t / 2) ≤ sb_pc q := by
                unfold sb_pc
                refine fb_ct_sub (fun k _ hk => ?_)
                have e : ((t / 2) &&& q).testBit k = true := by rw [t1]; exact hk
                rw [Nat.testBit_and, Bool.and_eq_true] at e
                exact e.2
              omega
            obtain ⟨j1, j2, j3, j4⟩ := low_all K (s := q) (by omega) (by omega) (m + 1) hm1
            have h6 := j4 (t / 2) t1 (by omega)
            have h7 := j3 (by omega)
            rw [Nat.add_sub_cancel] at h7
            omega

