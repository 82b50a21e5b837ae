def bz (P : Nat → Bool) : Nat → Nat
  | 0 => 0
  | m + 1 => bz P m ||| (if P m = true then 2 ^ m else 0)
theorem bz_tb {P : Nat → Bool} : ∀ m j, (bz P m).testBit j = (decide (j < m) && P j)
  | 0, j => by
    show (0 : Nat).testBit j = _
    rw [Nat.zero_testBit, decide_eq_false (Nat.not_lt_zero j), Bool.false_and]
  | m + 1, j => by
    show (bz P m ||| (if P m = true then 2 ^ m else 0)).testBit j = _
    rw [Nat.testBit_or, bz_tb m j]
    by_cases hP : P m = true
    · rw [if_pos hP, Nat.testBit_two_pow]
      by_cases hj : m = j
      · subst hj
        rw [decide_eq_true rfl, Bool.or_true, decide_eq_true (Nat.lt_succ_self m), hP]
        rfl
      · rw [decide_eq_false hj, Bool.or_false]
        congr 1
        exact decide_eq_decide.mpr (by omega)
    · rw [if_neg hP, Nat.zero_testBit, Bool.or_false]
      by_cases hj : m = j
      · subst hj
        rw [Bool.not_eq_true] at hP
        rw [hP, Bool.and_false, Bool.and_false]
      · congr 1
        exact decide_eq_decide.mpr (by omega)
theorem bz_lt {P : Nat → Bool} (m : Nat) : bz P m < 2 ^ m := by
  apply Nat.lt_pow_two_of_testBit
  intro i hi
  rw [bz_tb, decide_eq_false (by omega), Bool.false_and]
theorem bz_ext {P Q : Nat → Bool} {m : Nat} (h : ∀ j, j < m → P j = Q j) : bz P m = bz Q m := by
  apply Nat.eq_of_testBit_eq
  intro i
  rw [bz_tb, bz_tb]
  by_cases hi : i < m
  · rw [h i hi]
  · rw [decide_eq_false hi, Bool.false_and, Bool.false_and]
theorem bz_self {x m : Nat} (h : x < 2 ^ m) : bz (fun i => x.testBit i) m = x := by
  apply Nat.eq_of_testBit_eq
  intro i
  rw [bz_tb]
  by_cases hi : i < m
  · rw [decide_eq_true hi, Bool.true_and]
  · rw [decide_eq_false hi, Bool.false_and, Nat.testBit_lt_two_pow (Nat.lt_of_lt_of_le h (Nat.pow_le_pow_right (by decide) (by omega)))]
def eb (h l g j : Nat) : Bool := if j = 0 then g == 1 else if j % 2 = 1 then h.testBit ((j - 1) / 2) else l.testBit ((j - 1) / 2)
def enc (n h l g : Nat) : Nat := bz (eb h l g) (2 * n + 1)
theorem ct_ext {p q : Nat → Bool} : ∀ m, (∀ i, i < m → p i = q i) → fb_ct p m = fb_ct q m
  | 0, _ => rfl
  | m + 1, h => by rw [fb_ct_succ, fb_ct_succ, ct_ext m (fun i hi => h i (by omega)), h m (by omega)]
theorem ct_up {p : Nat → Bool} {n : Nat} (h : ∀ i, n ≤ i → p i = false) : ∀ k, fb_ct p (n + k) = fb_ct p n
  | 0 => rfl
  | k + 1 => by
    rw [show n + (k + 1) = n + k + 1 from rfl, fb_ct_succ, ct_up h k, h (n + k) (by omega), if_neg (by decide)]
    rfl
theorem ct_enc {h l g : Nat} (hg : g ≤ 1) : ∀ n, fb_ct (eb h l g) (2 * n + 1) = fb_ct (fun i => h.testBit i) n + fb_ct (fun i => l.testBit i) n + g
  | 0 => by
    show 0 + (if eb h l g 0 = true then 1 else 0) = 0 + 0 + g
    rcases (by omega : g = 0 ∨ g = 1) with h9 | h9 <;> rw [h9] <;> rfl
  | n + 1 => by
    rw [show 2 * (n + 1) + 1 = 2 * n + 1 + 1 + 1 by omega, fb_ct_succ, fb_ct_succ, ct_enc hg n, fb_ct_succ, fb_ct_succ]
    have e1 : eb h l g (2 * n + 1) = h.testBit n := by
      unfold eb
      rw [if_neg (by omega), if_pos (by omega), show (2 * n + 1 - 1) / 2 = n by omega]
    have e2 : eb h l g (2 * n + 1 + 1) = l.testBit n := by
      unfold eb
      rw [if_neg (by omega), if_neg (by omega), show (2 * n + 1 + 1 - 1) / 2 = n by omega]
    rw [e1, e2]
    omega
theorem pc_ct {h n : Nat} (hn : n ≤ 12) (hh : h < 2 ^ n) : fb_ct (fun i => h.testBit i) n = sb_pc h := by
  have := ct_up (p := fun i => h.testBit i) (n := n) (fun i hi => Nat.testBit_lt_two_pow (Nat.lt_of_lt_of_le hh (Nat.pow_le_pow_right (by decide) hi))) (12 - n)
  rw [show n + (12 - n) = 12 by omega] at this
  exact this.symm
theorem enc_lt {n h l g : Nat} : enc n h l g < 2 ^ (2 * n + 1) := bz_lt _
theorem enc_pc {n h l g : Nat} (hn : n ≤ 7) (hh : h < 2 ^ n) (hl : l < 2 ^ n) (hg : g ≤ 1) : hb_pc (enc n h l g) = sb_pc h + sb_pc l + g := by
  have e := ct_enc (h := h) (l := l) hg n
  rw [pc_ct (by omega) hh, pc_ct (by omega) hl] at e
  rw [← e]
  have hz : ∀ i, 2 * n + 1 ≤ i → (enc n h l g).testBit i = false := fun i hi => Nat.testBit_lt_two_pow (Nat.lt_of_lt_of_le enc_lt (Nat.pow_le_pow_right (by decide) hi))
  have := ct_up (p := fun i => (enc n h l g).testBit i) (n := 2 * n + 1) hz (15 - (2 * n + 1))
  rw [show 2 * n + 1 + (15 - (2 * n + 1)) = 15 by omega] at this
  show fb_ct (fun i => (enc n h l g).testBit i) 15 = _
  rw [this]
  exact ct_ext _ (fun i hi => by
    unfold enc
    rw [bz_tb, decide_eq_true hi, Bool.true_and])
theorem enc_lt15 {n h l g : Nat} (hn : n ≤ 7) : enc n h l g < 2 ^ 15 := Nat.lt_of_lt_of_le enc_lt (Nat.pow_le_pow_right (by decide) (by omega))
theorem enc_tb {n h l g j : Nat} (hj : j < 2 * n + 1) : (enc n h l g).testBit j = eb h l g j := by
  unfold enc
  rw [bz_tb, decide_eq_true hj, Bool.true_and]
theorem hb_shr {a v : Nat} (ha : a < 2 ^ 31) (hv : v < 16) : ((nI a >>> (nI v &&& 31)) &&& 1) = nI (if a.testBit v = true then 1 else 0) := by
  have hs : ∀ v, v < 16 → ((nI v &&& 31).toBitVec.smod 32).toNat = v := by decide +kernel
  rw [pk_shrN ha _ v (hs v hv), pk_andN (Nat.lt_of_le_of_lt (Nat.div_le_self _ _) (by omega)) 1 (by decide)]
  congr 1
  rw [Nat.testBit_eq_decide_div_mod_eq]
  have : a / 2 ^ v % 2 < 2 := Nat.mod_lt _ (by decide)
  by_cases h : a / 2 ^ v % 2 = 1
  · rw [if_pos (decide_eq_true h)]; exact h
  · rw [if_neg (by rw [decide_eq_false h]; decide)]
    show a / 2 ^ v % 2 = 0
    omega
theorem hb_1 {a v : Nat} (ha : a < 2 ^ 31) (hv : v < 16) : (((nI a >>> (nI v &&& 31)) &&& 1) = 1) ↔ a.testBit v = true := by
  rw [hb_shr ha hv]
  by_cases h : a.testBit v = true
  · rw [if_pos h]; exact ⟨fun _ => h, fun _ => rfl⟩
  · rw [if_neg h]; exact ⟨fun h2 => absurd h2 (by decide), fun h2 => absurd h2 h⟩
theorem hb_0 {a v : Nat} (ha : a < 2 ^ 31) (hv : v < 16) : (((nI a >>> (nI v &&& 31)) &&& 1) = 0) ↔ ¬ a.testBit v = true := by
  rw [hb_shr ha hv]
  by_cases h : a.testBit v = true
  · rw [if_pos h]; exact ⟨fun h2 => absurd h2 (by decide), fun h2 => absurd h h2⟩
  · rw [if_neg h]; exact ⟨fun _ => h, fun _ => rfl⟩
theorem hb_shl {v : Nat} (hv : v < 16) : (1 : Int32) <<< (nI v &&& 31) = nI (2 ^ v) := by
  have key : ∀ v, v < 16 → (1 : Int32) <<< (nI v &&& 31) = nI (2 ^ v) := by decide +kernel
  exact key v hv
theorem hb_or {x v : Nat} (hv : v < 16) : nI x ||| ((1 : Int32) <<< (nI v &&& 31)) = nI (x ||| 2 ^ v) := by
  rw [hb_shl hv, fa_or]
-- what a hypothesis says of a weighing
def rs (j a b : Nat) : Nat := if j = 0 then 0 else if a.testBit ((j - 1) / 2) = true then (if j % 2 = 1 then 1 else 2) else if b.testBit ((j - 1) / 2) = true then (if j % 2 = 1 then 2 else 1) else 0
theorem rs_3 (j a b : Nat) : rs j a b < 3 := by
  unfold rs
  split
  · decide
  · split
    · split <;> decide
    · split
      · split <;> decide
      · decide
theorem rs_ok {F j a b : Nat} {S : si_St} (hj : j < 16) (ha : a < 2 ^ 31) (hb : b < 2 ^ 31) : f_L_result F (nI j) (nI a) (nI b) S = some (nI (rs j a b), S) := by
  unfold f_L_result
  by_cases h0 : j = 0
  · rw [if_pos (by rw [h0]; rfl), h0]
    rfl
  have em : nI j - nI j / 2 * 2 = nI (j % 2) := pk_rem (d := 2) (by omega) (by decide) (by decide)
  have e1 : nI j - 1 = nI (j - 1) := pk_sub (b := 1) (by omega)
  have ed : nI (j - 1) / (2 : Int32) = nI ((j - 1) / 2) := pk_div (d := 2) (by omega) (by decide) (by decide)
  rw [if_neg (nI_ne0 (by omega) (by omega)), e1, ed, Option.bind_some, em]
  have main : ∀ (t : Int32) (p : Bool), (t = if p = true then 1 else 0) → f_L_result_h24 F (nI a) (nI b) (nI ((j - 1) / 2)) t S = some (nI (if a.testBit ((j - 1) / 2) = true then (if p = true then 1 else 2) else if b.testBit ((j - 1) / 2) = true then (if p = true then 2 else 1) else 0), S) := fun t p ht => by
    unfold f_L_result_h24 f_L_result_h45 f_L_result_h65
    have t0 : (t = 0) ↔ ¬ p = true := by
      rw [ht]
      cases p
      · exact ⟨fun _ => by decide, fun _ => rfl⟩
      · exact ⟨fun h => absurd h (by decide), fun h => absurd rfl h⟩
    by_cases hA : a.testBit ((j - 1) / 2) = true
    · rw [if_pos ((hb_1 ha (by omega)).mpr hA), if_pos hA]
      by_cases hp : p = true
      · rw [if_neg (fun h => (t0.mp h) hp), if_pos hp]; rfl
      · rw [if_pos (t0.mpr hp), if_neg hp]; rfl
    · rw [if_neg (fun h => hA ((hb_1 ha (by omega)).mp h)), if_neg hA]
      by_cases hB : b.testBit ((j - 1) / 2) = true
      · rw [if_pos ((hb_1 hb (by omega)).mpr hB), if_pos hB]
        by_cases hp : p = true
        · rw [if_neg (fun h => (t0.mp h) hp), if_pos hp]; rfl
        · rw [if_pos (t0.mpr hp), if_neg hp]; rfl
      · rw [if_neg (fun h => hB ((hb_1 hb (by omega)).mp h)), if_neg hB]; rfl
  unfold rs
  rw [if_neg h0]
  by_cases hm : j % 2 = 1
  · rw [if_pos (by rw [hm]; rfl), main 1 true rfl]
    simp only [if_pos hm, if_true]
  · rw [if_neg (show ¬ nI (j % 2) = (1 : Int32) from fun (h : nI (j % 2) = nI 1) => hm ((nI_eq (by omega) (by decide)).mp h)), main 0 false rfl]
    simp only [if_neg hm, Bool.false_eq_true, if_false]
-- what is left after a weighing
theorem enc_be {n h l g a b r : Nat} (hr : r < 3) (hab : a &&& b = 0) : bz (fun j => (enc n h l g).testBit j && rs j a b == r) (2 * n + 1) = enc n (we_s h a b r) (we_s l b a r) (if r = 0 then g else 0) := by
  unfold enc
  refine bz_ext (fun j hj => ?_)
  rw [bz_tb, decide_eq_true hj, Bool.true_and]
  have hx : ∀ i, ¬ (a.testBit i = true ∧ b.testBit i = true) := fun i h => by
    have : (a &&& b).testBit i = true := by rw [Nat.testBit_and, h.1, h.2]; rfl
    rw [hab, Nat.zero_testBit] at this
    exact absurd this (by decide)
  have hs : ∀ (x y : Nat) (h i : Nat), (we_s h x y r).testBit i = (h.testBit i && (if r = 0 then (!x.testBit i && !y.testBit i) else if r = 1 then x.testBit i else y.testBit i)) := fun x y h i => by
    unfold we_s
    rcases (by omega : r = 0 ∨ r = 1 ∨ r = 2) with h9 | h9 | h9 <;> rw [h9]
    · rw [if_pos rfl, if_pos rfl, sb_df_tb, Nat.testBit_or, Bool.not_or]
    · rw [if_neg (by decide), if_pos rfl, if_neg (by decide), if_pos rfl, Nat.testBit_and]
    · rw [if_neg (by decide), if_neg (by decide), if_neg (by decide), if_neg (by decide), Nat.testBit_and]
  unfold eb rs
  by_cases h0 : j = 0
  · rw [if_pos h0, if_pos h0, if_pos h0]
    rcases (by omega : r = 0 ∨ r = 1 ∨ r = 2) with h9 | h9 | h9 <;> rw [h9]
    · rw [if_pos rfl]
      show ((g == 1) && true) = _
      rw [Bool.and_true]
    · show ((g == 1) && false) = _
      rw [Bool.and_false]; rfl
    · show ((g == 1) && false) = _
      rw [Bool.and_false]; rfl
  · rw [if_neg h0, if_neg h0, if_neg h0, hs, hs]
    have := hx ((j - 1) / 2)
    generalize (j - 1) / 2 = i at *
    by_cases hm : j % 2 = 1
    · simp only [if_pos hm]
      rcases (by omega : r = 0 ∨ r = 1 ∨ r = 2) with h9 | h9 | h9 <;> rw [h9] <;> cases ha : a.testBit i <;> cases hb : b.testBit i <;> simp_all
    · simp only [if_neg hm]
      rcases (by omega : r = 0 ∨ r = 1 ∨ r = 2) with h9 | h9 | h9 <;> rw [h9] <;> cases ha : a.testBit i <;> cases hb : b.testBit i <;> simp_all
