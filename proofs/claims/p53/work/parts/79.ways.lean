/-! the ways to lay masses on two pans: right set, left set, how many, difference -/
def tw_R (a : Nat) : Nat → Nat → Nat
  | 0, _ => 0
  | n + 1, i => tw_R a n i + if i / 3 ^ n % 3 = 1 then 2 ^ (a + n) else 0
def tw_L (a : Nat) : Nat → Nat → Nat
  | 0, _ => 0
  | n + 1, i => tw_L a n i + if i / 3 ^ n % 3 = 2 then 2 ^ (a + n) else 0
def tw_c : Nat → Nat → Nat
  | 0, _ => 0
  | n + 1, i => tw_c n i + if i / 3 ^ n % 3 = 0 then 0 else 1
def tw_v (f : Nat → Nat) (a : Nat) : Nat → Nat → Int
  | 0, _ => 0
  | n + 1, i => tw_v f a n i + if i / 3 ^ n % 3 = 1 then (f (a + n) : Int) else if i / 3 ^ n % 3 = 2 then -(f (a + n) : Int) else 0
def tw_lo (a n i : Nat) : Nat := tw_c n i * 1048576 + tw_R a n i * 1024 + tw_L a n i
theorem tw_way (f : Nat → Nat) (a : Nat) : ∀ n i, sm_way f a n i = tw_v f a n i * 16777216 + (tw_lo a n i : Int)
  | 0, _ => by
    show (0 : Int) = 0 * 16777216 + ((0 * 1048576 + 0 * 1024 + 0 : Nat) : Int)
    omega
  | n + 1, i => by
    have ih := tw_way f a n i
    have e : (2 : Int) ^ (10 + (a + n)) = 1024 * ((2 ^ (a + n) : Nat) : Int) := by
      rw [Int.pow_add, Int.natCast_pow]
      rfl
    have e2 : (2 : Int) ^ (a + n) = ((2 ^ (a + n) : Nat) : Int) := by
      rw [Int.natCast_pow]
      rfl
    show sm_way f a n i + _ = _
    unfold tw_lo at ih ⊢
    show _ = (tw_v f a n i + if i / 3 ^ n % 3 = 1 then (f (a + n) : Int) else if i / 3 ^ n % 3 = 2 then -(f (a + n) : Int) else 0) * 16777216 + (((tw_c n i + if i / 3 ^ n % 3 = 0 then 0 else 1) * 1048576 + (tw_R a n i + if i / 3 ^ n % 3 = 1 then 2 ^ (a + n) else 0) * 1024 + (tw_L a n i + if i / 3 ^ n % 3 = 2 then 2 ^ (a + n) else 0) : Nat) : Int)
    rw [e, e2, ih]
    generalize 2 ^ (a + n) = X
    have c24 : (2 : Int) ^ 24 = 16777216 := by decide
    have c20 : (2 : Int) ^ 20 = 1048576 := by decide
    rw [c24, c20]
    by_cases h1 : i / 3 ^ n % 3 = 1
    · rw [if_pos h1, if_pos h1, if_neg (by omega), if_pos h1, if_neg (by omega)]
      omega
    · by_cases h2 : i / 3 ^ n % 3 = 2
      · rw [if_neg h1, if_pos h2, if_neg h1, if_pos h2, if_neg (by omega), if_neg h1, if_pos h2]
        omega
      · rw [if_neg h1, if_neg h2, if_neg h1, if_neg h2, if_pos (by omega), if_neg h1, if_neg h2]
        omega
theorem tw_bd (a : Nat) : ∀ n i, tw_R a n i + 2 ^ a ≤ 2 ^ (a + n) ∧ tw_L a n i + 2 ^ a ≤ 2 ^ (a + n) ∧ tw_c n i ≤ n
  | 0, _ => by
    refine ⟨?_, ?_, Nat.le_refl _⟩
    · show 0 + 2 ^ a ≤ 2 ^ a
      omega
    · show 0 + 2 ^ a ≤ 2 ^ a
      omega
  | n + 1, i => by
    obtain ⟨h1, h2, h3⟩ := tw_bd a n i
    have e : 2 ^ (a + (n + 1)) = 2 ^ (a + n) + 2 ^ (a + n) := by
      rw [← Nat.add_assoc, Nat.pow_succ]
      omega
    show (tw_R a n i + if i / 3 ^ n % 3 = 1 then 2 ^ (a + n) else 0) + 2 ^ a ≤ _ ∧ (tw_L a n i + if i / 3 ^ n % 3 = 2 then 2 ^ (a + n) else 0) + 2 ^ a ≤ _ ∧ (tw_c n i + if i / 3 ^ n % 3 = 0 then 0 else 1) ≤ n + 1
    rw [e]
    generalize 2 ^ (a + n) = X at *
    refine ⟨?_, ?_, ?_⟩
    · split <;> omega
    · split <;> omega
    · split <;> omega
theorem tw_vb {f : Nat → Nat} {a M : Nat} : ∀ n i, (∀ t, t < n → f (a + t) ≤ M) → -((n * M : Nat) : Int) ≤ tw_v f a n i ∧ tw_v f a n i ≤ ((n * M : Nat) : Int)
  | 0, _, _ => by
    show -((0 * M : Nat) : Int) ≤ 0 ∧ (0 : Int) ≤ ((0 * M : Nat) : Int)
    rw [Nat.zero_mul]
    decide
  | n + 1, i, hf => by
    obtain ⟨h1, h2⟩ := tw_vb n i (fun t ht => hf t (by omega)) (f := f) (M := M)
    have hn := hf n (by omega)
    rw [Nat.succ_mul]
    show _ ≤ tw_v f a n i + (if i / 3 ^ n % 3 = 1 then (f (a + n) : Int) else if i / 3 ^ n % 3 = 2 then -(f (a + n) : Int) else 0) ∧ tw_v f a n i + (if i / 3 ^ n % 3 = 1 then (f (a + n) : Int) else if i / 3 ^ n % 3 = 2 then -(f (a + n) : Int) else 0) ≤ _
    generalize n * M = X at *
    by_cases c1 : i / 3 ^ n % 3 = 1
    · rw [if_pos c1]
      omega
    · rw [if_neg c1]
      by_cases c2 : i / 3 ^ n % 3 = 2
      · rw [if_pos c2]
        omega
      · rw [if_neg c2]
        omega
/-- the same digits, the same way -/
theorem tw_cg (f : Nat → Nat) (a : Nat) : ∀ n i j, (∀ t, t < n → i / 3 ^ t % 3 = j / 3 ^ t % 3) → tw_R a n i = tw_R a n j ∧ tw_L a n i = tw_L a n j ∧ tw_c n i = tw_c n j ∧ tw_v f a n i = tw_v f a n j
  | 0, _, _, _ => ⟨rfl, rfl, rfl, rfl⟩
  | n + 1, i, j, h => by
    obtain ⟨h1, h2, h3, h4⟩ := tw_cg f a n i j (fun t ht => h t (by omega))
    have hn := h n (by omega)
    refine ⟨?_, ?_, ?_, ?_⟩
    · show tw_R a n i + (if i / 3 ^ n % 3 = 1 then 2 ^ (a + n) else 0) = tw_R a n j + (if j / 3 ^ n % 3 = 1 then 2 ^ (a + n) else 0)
      rw [h1, hn]
    · show tw_L a n i + (if i / 3 ^ n % 3 = 2 then 2 ^ (a + n) else 0) = tw_L a n j + (if j / 3 ^ n % 3 = 2 then 2 ^ (a + n) else 0)
      rw [h2, hn]
    · show tw_c n i + (if i / 3 ^ n % 3 = 0 then 0 else 1) = tw_c n j + (if j / 3 ^ n % 3 = 0 then 0 else 1)
      rw [h3, hn]
    · show tw_v f a n i + (if i / 3 ^ n % 3 = 1 then (f (a + n) : Int) else if i / 3 ^ n % 3 = 2 then -(f (a + n) : Int) else 0) = tw_v f a n j + (if j / 3 ^ n % 3 = 1 then (f (a + n) : Int) else if j / 3 ^ n % 3 = 2 then -(f (a + n) : Int) else 0)
      rw [h4, hn]
theorem tw_dg {n t : Nat} (ht : t < n) (i d : Nat) : (i + 3 ^ n * d) / 3 ^ t % 3 = i / 3 ^ t % 3 := by
  obtain ⟨k, rfl⟩ : ∃ k, n = t + (1 + k) := ⟨n - t - 1, by omega⟩
  rw [Nat.pow_add, Nat.mul_assoc, Nat.add_mul_div_left _ _ (Nat.pow_pos (by decide)), Nat.pow_add, Nat.mul_assoc]
  show (i / 3 ^ t + 3 * (3 ^ k * d)) % 3 = _
  omega
theorem tw_dn {n i : Nat} (hi : i < 3 ^ n) (d : Nat) : (i + 3 ^ n * d) / 3 ^ n = d := by
  rw [Nat.add_mul_div_left _ _ (Nat.pow_pos (by decide)), Nat.div_eq_of_lt hi]
  omega
/-- two halves -/
theorem tw_two (f : Nat → Nat) {a i : Nat} (hi : i < 3 ^ a) (j : Nat) : ∀ b, tw_R 0 (a + b) (i + 3 ^ a * j) = tw_R 0 a i + tw_R a b j ∧ tw_L 0 (a + b) (i + 3 ^ a * j) = tw_L 0 a i + tw_L a b j ∧ tw_c (a + b) (i + 3 ^ a * j) = tw_c a i + tw_c b j ∧ tw_v f 0 (a + b) (i + 3 ^ a * j) = tw_v f 0 a i + tw_v f a b j
  | 0 => by
    obtain ⟨h1, h2, h3, h4⟩ := tw_cg f 0 a (i + 3 ^ a * j) i (fun t ht => tw_dg ht i j)
    exact ⟨h1, h2, h3, h4.trans (Int.add_zero _).symm⟩
  | b + 1 => by
    obtain ⟨h1, h2, h3, h4⟩ := tw_two f hi j b
    have hd : (i + 3 ^ a * j) / 3 ^ (a + b) = j / 3 ^ b := by
      rw [Nat.pow_add, ← Nat.div_div_eq_div_mul, tw_dn hi]
    refine ⟨?_, ?_, ?_, ?_⟩
    · show tw_R 0 (a + b) _ + (if (i + 3 ^ a * j) / 3 ^ (a + b) % 3 = 1 then 2 ^ (0 + (a + b)) else 0) = tw_R 0 a i + (tw_R a b j + (if j / 3 ^ b % 3 = 1 then 2 ^ (a + b) else 0))
      rw [h1, hd, Nat.zero_add, Nat.add_assoc]
    · show tw_L 0 (a + b) _ + (if (i + 3 ^ a * j) / 3 ^ (a + b) % 3 = 2 then 2 ^ (0 + (a + b)) else 0) = tw_L 0 a i + (tw_L a b j + (if j / 3 ^ b % 3 = 2 then 2 ^ (a + b) else 0))
      rw [h2, hd, Nat.zero_add, Nat.add_assoc]
    · show tw_c (a + b) _ + (if (i + 3 ^ a * j) / 3 ^ (a + b) % 3 = 0 then 0 else 1) = tw_c a i + (tw_c b j + (if j / 3 ^ b % 3 = 0 then 0 else 1))
      rw [h3, hd, Nat.add_assoc]
    · show tw_v f 0 (a + b) _ + (if (i + 3 ^ a * j) / 3 ^ (a + b) % 3 = 1 then (f (0 + (a + b)) : Int) else if (i + 3 ^ a * j) / 3 ^ (a + b) % 3 = 2 then -(f (0 + (a + b)) : Int) else 0) = tw_v f 0 a i + (tw_v f a b j + (if j / 3 ^ b % 3 = 1 then (f (a + b) : Int) else if j / 3 ^ b % 3 = 2 then -(f (a + b) : Int) else 0))
      rw [h4, hd, Nat.zero_add, Int.add_assoc]
/-! sums over sets -/
theorem tw_top {x n i : Nat} (hx : x < 2 ^ n) : (x + 2 ^ n).testBit i = true ↔ x.testBit i = true ∨ i = n := by
  have h0 : x &&& 2 ^ n = 0 := dj_iff.mpr (fun k hk => by
    have h1 := tb_n hx hk.1
    have h2 := hk.2
    rw [Nat.testBit_two_pow] at h2
    have := of_decide_eq_true h2
    omega)
  rw [← or_add h0, or_tb, Nat.testBit_two_pow, decide_eq_true_iff]
  constructor
  · exact fun h => h.imp id Eq.symm
  · exact fun h => h.imp id Eq.symm
theorem tw_scg {f : Nat → Nat} {x y : Nat} : ∀ m, (∀ i, i < m → x.testBit i = y.testBit i) → sm_sum f m x = sm_sum f m y
  | 0, _ => rfl
  | m + 1, h => by
    show sm_sum f m x + (if x.testBit m = true then f m else 0) = sm_sum f m y + (if y.testBit m = true then f m else 0)
    rw [tw_scg m (fun i hi => h i (by omega)), h m (by omega)]
theorem tw_s0 {f : Nat → Nat} {x n : Nat} (hx : x < 2 ^ n) : sm_sum f (n + 1) x = sm_sum f n x := by
  show sm_sum f n x + (if x.testBit n = true then f n else 0) = _
  rw [if_neg (fun h => Nat.lt_irrefl _ (tb_n hx h))]
  rfl
theorem tw_s1 {f : Nat → Nat} {x n : Nat} (hx : x < 2 ^ n) : sm_sum f (n + 1) (x + 2 ^ n) = sm_sum f n x + f n := by
  show sm_sum f n (x + 2 ^ n) + (if (x + 2 ^ n).testBit n = true then f n else 0) = _
  rw [if_pos ((tw_top hx).mpr (Or.inr rfl)), tw_scg (f := f) (x := x + 2 ^ n) (y := x) n (fun i hi => by
    have h := tw_top (i := i) hx
    rw [Bool.eq_iff_iff, h]
    exact ⟨fun h => h.elim id (fun h => absurd h (by omega)), Or.inl⟩)]
theorem tw_pt : ∀ n, n < 12 → sb_pc (2 ^ n) = 1 := by decide +kernel
theorem tw_pc {x n : Nat} (hx : x < 2 ^ n) (hn : n < 12) : sb_pc (x + 2 ^ n) = sb_pc x + 1 := by
  have h0 : x &&& 2 ^ n = 0 := dj_iff.mpr (fun k hk => by
    have h1 := tb_n hx hk.1
    have h2 := hk.2
    rw [Nat.testBit_two_pow] at h2
    have := of_decide_eq_true h2
    omega)
  rw [← or_add h0, sb_add h0, tw_pt n hn]
theorem tw_dj {x y n : Nat} (hx : x < 2 ^ n) (hy : y < 2 ^ n) (h : x &&& y = 0) : (x + 2 ^ n) &&& y = 0 ∧ x &&& (y + 2 ^ n) = 0 := by
  have h' := dj_iff.mp h
  constructor
  · refine dj_iff.mpr (fun i hi => ?_)
    rcases (tw_top hx).mp hi.1 with h1 | rfl
    · exact h' i ⟨h1, hi.2⟩
    · exact Nat.lt_irrefl _ (tb_n hy hi.2)
  · refine dj_iff.mpr (fun i hi => ?_)
    rcases (tw_top hy).mp hi.2 with h1 | rfl
    · exact h' i ⟨hi.1, h1⟩
    · exact Nat.lt_irrefl _ (tb_n hx hi.1)
/-- what a way is -/
theorem tw_set (f : Nat → Nat) : ∀ n i, n ≤ 12 → tw_R 0 n i < 2 ^ n ∧ tw_L 0 n i < 2 ^ n ∧ tw_R 0 n i &&& tw_L 0 n i = 0 ∧ tw_c n i = sb_pc (tw_R 0 n i) + sb_pc (tw_L 0 n i) ∧ tw_v f 0 n i = (sm_sum f n (tw_R 0 n i) : Int) - (sm_sum f n (tw_L 0 n i) : Int)
  | 0, _, _ => ⟨show 0 < 2 ^ 0 from by decide, show 0 < 2 ^ 0 from by decide, show 0 &&& 0 = 0 from by decide, show 0 = sb_pc 0 + sb_pc 0 from by decide, rfl⟩
  | n + 1, i, hn => by
    obtain ⟨h1, h2, h3, h4, h5⟩ := tw_set f n i (by omega)
    have e : 2 ^ (n + 1) = 2 ^ n + 2 ^ n := by
      rw [Nat.pow_succ]
      omega
    have eR : tw_R 0 (n + 1) i = tw_R 0 n i + if i / 3 ^ n % 3 = 1 then 2 ^ n else 0 := by
      show tw_R 0 n i + (if i / 3 ^ n % 3 = 1 then 2 ^ (0 + n) else 0) = _
      rw [Nat.zero_add]
    have eL : tw_L 0 (n + 1) i = tw_L 0 n i + if i / 3 ^ n % 3 = 2 then 2 ^ n else 0 := by
      show tw_L 0 n i + (if i / 3 ^ n % 3 = 2 then 2 ^ (0 + n) else 0) = _
      rw [Nat.zero_add]
    have ec : tw_c (n + 1) i = tw_c n i + if i / 3 ^ n % 3 = 0 then 0 else 1 := rfl
    have ev : tw_v f 0 (n + 1) i = tw_v f 0 n i + if i / 3 ^ n % 3 = 1 then (f n : Int) else if i / 3 ^ n % 3 = 2 then -(f n : Int) else 0 := by
      show tw_v f 0 n i + (if i / 3 ^ n % 3 = 1 then (f (0 + n) : Int) else if i / 3 ^ n % 3 = 2 then -(f (0 + n) : Int) else 0) = _
      rw [Nat.zero_add]
    rw [eR, eL, ec, ev, e]
    by_cases c1 : i / 3 ^ n % 3 = 1
    · have c0 : ¬ i / 3 ^ n % 3 = 0 := by omega
      have c2 : ¬ i / 3 ^ n % 3 = 2 := by omega
      rw [if_pos c1, if_neg c2, if_neg c0, if_pos c1, Nat.add_zero, tw_s1 h1, tw_s0 h2, tw_pc h1 (by omega)]
      refine ⟨by omega, by omega, (tw_dj h1 h2 h3).1, by omega, by omega⟩
    · by_cases c2 : i / 3 ^ n % 3 = 2
      · have c0 : ¬ i / 3 ^ n % 3 = 0 := by omega
        rw [if_neg c1, if_pos c2, if_neg c0, if_neg c1, if_pos c2, Nat.add_zero, tw_s1 h2, tw_s0 h1, tw_pc h2 (by omega)]
        refine ⟨by omega, by omega, (tw_dj h1 h2 h3).2, by omega, by omega⟩
      · have c0 : i / 3 ^ n % 3 = 0 := by omega
        rw [if_neg c1, if_neg c2, if_pos c0, if_neg c1, if_neg c2, Nat.add_zero, Nat.add_zero, Nat.add_zero, Int.add_zero, tw_s0 h1, tw_s0 h2]
        refine ⟨by omega, by omega, h3, h4, h5⟩
/-- every pair of sets is a way -/
theorem tw_ex : ∀ n R L, R < 2 ^ n → L < 2 ^ n → R &&& L = 0 → ∃ i, i < 3 ^ n ∧ tw_R 0 n i = R ∧ tw_L 0 n i = L
  | 0, R, L, hR, hL, _ => ⟨0, by decide, by show 0 = R; omega, by show 0 = L; omega⟩
  | n + 1, R, L, hR, hL, h => by
    have e : 2 ^ (n + 1) = 2 ^ n + 2 ^ n := by
      rw [Nat.pow_succ]
      omega
    have e3 : 3 ^ (n + 1) = 3 ^ n + 3 ^ n + 3 ^ n := by
      rw [Nat.pow_succ]
      omega
    have step : ∀ R' L' d, d < 3 → R' < 2 ^ n → L' < 2 ^ n → R' &&& L' = 0 → ∃ i, i < 3 ^ (n + 1) ∧ tw_R 0 (n + 1) i = R' + (if d = 1 then 2 ^ n else 0) ∧ tw_L 0 (n + 1) i = L' + (if d = 2 then 2 ^ n else 0) := by
      intro R' L' d hd h1 h2 h3
      obtain ⟨i, hi, r, l⟩ := tw_ex n R' L' h1 h2 h3
      refine ⟨i + 3 ^ n * d, ?_, ?_, ?_⟩
      · have hd : d = 0 ∨ d = 1 ∨ d = 2 := by omega
        rcases hd with rfl | rfl | rfl <;> omega
      · obtain ⟨g1, -⟩ := tw_cg (fun _ => 0) 0 n (i + 3 ^ n * d) i (fun t ht => tw_dg ht i d)
        show tw_R 0 n (i + 3 ^ n * d) + (if (i + 3 ^ n * d) / 3 ^ n % 3 = 1 then 2 ^ (0 + n) else 0) = _
        rw [g1, r, tw_dn hi, Nat.mod_eq_of_lt hd, Nat.zero_add]
      · obtain ⟨-, g1, -⟩ := tw_cg (fun _ => 0) 0 n (i + 3 ^ n * d) i (fun t ht => tw_dg ht i d)
        show tw_L 0 n (i + 3 ^ n * d) + (if (i + 3 ^ n * d) / 3 ^ n % 3 = 2 then 2 ^ (0 + n) else 0) = _
        rw [g1, l, tw_dn hi, Nat.mod_eq_of_lt hd, Nat.zero_add]
    have hd := dj_iff.mp h
    by_cases c1 : R < 2 ^ n
    · by_cases c2 : L < 2 ^ n
      · obtain ⟨i, hi, r, l⟩ := step R L 0 (by decide) c1 c2 h
        exact ⟨i, hi, r.trans (Nat.add_zero _), l.trans (Nat.add_zero _)⟩
      · obtain ⟨L', rfl⟩ : ∃ L', L = L' + 2 ^ n := ⟨L - 2 ^ n, by omega⟩
        have hL' : L' < 2 ^ n := by omega
        obtain ⟨i, hi, r, l⟩ := step R L' 2 (by decide) c1 hL' (dj_iff.mpr (fun k hk => hd k ⟨hk.1, (tw_top hL').mpr (Or.inl hk.2)⟩))
        exact ⟨i, hi, r.trans (Nat.add_zero _), l⟩
    · obtain ⟨R', rfl⟩ : ∃ R', R = R' + 2 ^ n := ⟨R - 2 ^ n, by omega⟩
      have hR' : R' < 2 ^ n := by omega
      have c2 : L < 2 ^ n := Decidable.byContradiction (fun c2 => by
        obtain ⟨L', rfl⟩ : ∃ L', L = L' + 2 ^ n := ⟨L - 2 ^ n, by omega⟩
        exact hd n ⟨(tw_top hR').mpr (Or.inr rfl), (tw_top (show L' < 2 ^ n by omega)).mpr (Or.inr rfl)⟩)
      obtain ⟨i, hi, r, l⟩ := step R' L 1 (by decide) hR' c2 (dj_iff.mpr (fun k hk => hd k ⟨(tw_top hR').mpr (Or.inl hk.1), hk.2⟩))
      exact ⟨i, hi, r, l.trans (Nat.add_zero _)⟩
/-- a way that tells x: how many, right, left in one number -/
def tw_W (f : Nat → Nat) (n x k : Nat) : Prop := ∃ R L, R < 2 ^ n ∧ L < 2 ^ n ∧ R &&& L = 0 ∧ sm_sum f n R = x + sm_sum f n L ∧ k = (sb_pc R + sb_pc L) * 1048576 + R * 1024 + L
theorem tw_Wi {f : Nat → Nat} {a b x : Nat} (hab : a + b ≤ 10) (k : Nat) : tw_W f (a + b) x k ↔ ∃ i j, i < 3 ^ a ∧ j < 3 ^ b ∧ tw_v f 0 a i + tw_v f a b j = (x : Int) ∧ k = tw_lo 0 a i + tw_lo a b j := by
  constructor
  · rintro ⟨R, L, hR, hL, h0, hs, rfl⟩
    obtain ⟨i, hi, r, l⟩ := tw_ex (a + b) R L hR hL h0
    have hlt : i % 3 ^ a < 3 ^ a := Nat.mod_lt _ (Nat.pow_pos (by decide))
    have hi2 : i / 3 ^ a < 3 ^ b := by
      rw [Nat.pow_add] at hi
      exact Nat.div_lt_of_lt_mul hi
    have hsplit : i % 3 ^ a + 3 ^ a * (i / 3 ^ a) = i := Nat.mod_add_div _ _
    obtain ⟨t1, t2, t3, t4⟩ := tw_two f hlt (i / 3 ^ a) b
    obtain ⟨-, -, -, p4, p5⟩ := tw_set f (a + b) i (by omega)
    rw [hsplit] at t1 t2 t3 t4
    rw [r, l] at p4 p5
    rw [r] at t1
    rw [l] at t2
    refine ⟨i % 3 ^ a, i / 3 ^ a, hlt, hi2, by omega, ?_⟩
    unfold tw_lo
    omega
  · rintro ⟨i, j, hi, hj, hv, rfl⟩
    obtain ⟨t1, t2, t3, t4⟩ := tw_two f hi j b
    obtain ⟨p1, p2, p3, p4, p5⟩ := tw_set f (a + b) (i + 3 ^ a * j) (by omega)
    refine ⟨_, _, p1, p2, p3, by omega, ?_⟩
    unfold tw_lo
    omega

