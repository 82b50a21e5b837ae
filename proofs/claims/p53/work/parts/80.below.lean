/-! longs as whole numbers; the first way that is not below -/
theorem tl_shr (x : Int64) (k : Nat) (s : Int64) (hk : k < 64) (hs : s.toBitVec.smod 64 = BitVec.ofNat 64 k) : (x >>> s).toInt = x.toInt / 2 ^ k := by
  show (x >>> s).toBitVec.toInt = _
  have e : (x >>> s).toBitVec = x.toBitVec.sshiftRight k := by
    show x.toBitVec.sshiftRight' (s.toBitVec.smod 64) = _
    rw [hs]
    unfold BitVec.sshiftRight'
    rw [BitVec.toNat_ofNat, Nat.mod_eq_of_lt (by omega)]
  rw [e, BitVec.toInt_sshiftRight, Int.shiftRight_eq_div_pow]
  rfl
theorem tl_shr24 (x : Int64) : (x >>> ((24 : Int32).toInt64 &&& 63)).toInt = x.toInt / 16777216 := tl_shr x 24 _ (by decide) (by decide +kernel)
theorem tl_shr10 (x : Int64) : (x >>> ((10 : Int32).toInt64 &&& 63)).toInt = x.toInt / 1024 := tl_shr x 10 _ (by decide) (by decide +kernel)
theorem tl_shl24 {x : Int64} (h1 : -(2 ^ 39) < x.toInt) (h2 : x.toInt < 2 ^ 39) : (x <<< ((24 : Int32).toInt64 &&& 63)).toInt = x.toInt * 16777216 := by
  show (x <<< ((24 : Int32).toInt64 &&& 63)).toBitVec.toInt = _
  have e : (x <<< ((24 : Int32).toInt64 &&& 63)).toBitVec = x.toBitVec * BitVec.twoPow 64 24 := by
    show x.toBitVec <<< (((24 : Int32).toInt64 &&& 63).toBitVec.smod 64) = _
    have e2 : (((24 : Int32).toInt64 &&& 63).toBitVec.smod 64) = BitVec.ofNat 64 24 := by decide +kernel
    rw [e2, ← BitVec.shiftLeft_eq_mul_twoPow]
    rfl
  have e3 : (BitVec.twoPow 64 24).toInt = 16777216 := by decide +kernel
  rw [e, BitVec.toInt_mul, e3]
  show Int.bmod (x.toInt * 16777216) (2 ^ 64) = _
  rw [Int.bmod_eq_of_le (by omega) (by omega)]
theorem tl_sub {x y : Int64} (h1 : -(2 ^ 63) ≤ x.toInt - y.toInt) (h2 : x.toInt - y.toInt < 2 ^ 63) : (x - y).toInt = x.toInt - y.toInt := by
  rw [Int64.toInt_sub, Int.bmod_eq_of_le (by omega) (by omega)]
theorem tl_add {x y : Int64} (h1 : -(2 ^ 63) ≤ x.toInt + y.toInt) (h2 : x.toInt + y.toInt < 2 ^ 63) : (x + y).toInt = x.toInt + y.toInt := by
  rw [Int64.toInt_add, Int.bmod_eq_of_le (by omega) (by omega)]
theorem tl_N {v : Int64} {k : Nat} (h : v.toInt = (k : Int)) (hk : k < 2 ^ 63) : v = lN k := by
  apply Int64.toInt_inj.mp
  rw [h, lN_ti (by omega), if_pos hk]
theorem tl_k {k : Nat} (hk : k < 2 ^ 63) : (lN k).toInt = (k : Int) := by rw [lN_ti (by omega), if_pos hk]
theorem tl_mask (x : Int64) : (x &&& (16777215 : Int64)).toInt = x.toInt % 16777216 := by
  obtain ⟨n, hn, rfl⟩ := wb_of x
  have e : (16777215 : Int64) = lN (2 ^ 24 - 1) := rfl
  rw [e, wb_mask hn (by decide), lN_ti (by omega), lN_ti hn, if_pos (by omega)]
  by_cases h : n < 2 ^ 63
  · rw [if_pos h]
    omega
  · rw [if_neg h]
    omega
theorem tl_32 {k : Nat} (hk : k < 2 ^ 31) : (lN k).toInt32 = nI k := by
  apply Int32.toBitVec_inj.mp
  show (BitVec.ofNat 64 k).signExtend 32 = BitVec.ofNat 32 k
  rw [BitVec.signExtend_eq_setWidth_of_le _ (by decide)]
  apply BitVec.eq_of_toNat_eq
  rw [BitVec.toNat_setWidth, BitVec.toNat_ofNat, BitVec.toNat_ofNat]
  omega
theorem tl_c0 {x y : Int64} : lg_cmp x y = 0 ↔ x = y := by
  unfold lg_cmp
  constructor
  · intro h
    split at h
    · exact absurd h (by decide)
    · split at h
      · assumption
      · exact absurd h (by decide)
  · intro h
    subst h
    exact lg_cmp0 _
theorem tl_c {x y : Int64} : 0 ≤ lg_cmp x y ↔ y.toInt ≤ x.toInt := by
  unfold lg_cmp
  by_cases h : x > y
  · rw [if_pos h]
    have : y.toInt < x.toInt := Int64.lt_iff_toInt_lt.mp h
    exact ⟨fun _ => by omega, fun _ => by decide⟩
  · rw [if_neg h]
    have h' : ¬ y.toInt < x.toInt := fun h2 => h (Int64.lt_iff_toInt_lt.mpr h2)
    by_cases h2 : x = y
    · rw [if_pos h2, h2]
      exact ⟨fun _ => Int.le_refl _, fun _ => by decide⟩
    · rw [if_neg h2]
      have h3 : x.toInt ≠ y.toInt := fun h4 => h2 (Int64.toInt_inj.mp h4)
      exact ⟨fun h => absurd h (by decide), fun h => by omega⟩
theorem tb_t (w : Nat → Int64) (q : Int) : ∀ C, (∀ i j, i ≤ j → j < C → (w i).toInt ≤ (w j).toInt) → ∃ t, t ≤ C ∧ (∀ i, i < t → (w i).toInt < q) ∧ ∀ i, t ≤ i → i < C → q ≤ (w i).toInt
  | 0, _ => ⟨0, Nat.le_refl _, fun i hi => absurd hi (Nat.not_lt_zero _), fun i _ hi => absurd hi (Nat.not_lt_zero _)⟩
  | C + 1, h => by
    obtain ⟨t, h1, h2, h3⟩ := tb_t w q C (fun i j hij hj => h i j hij (by omega))
    by_cases ht : t = C
    · by_cases hq : (w C).toInt < q
      · exact ⟨C + 1, Nat.le_refl _, fun i hi => by
          by_cases hC : i = C
          · rw [hC]
            exact hq
          · exact h2 i (by omega), fun i hi hi2 => by omega⟩
      · exact ⟨t, by omega, h2, fun i hi hi2 => by
          have : i = C := by omega
          rw [this]
          omega⟩
    · refine ⟨t, by omega, h2, fun i hi hi2 => ?_⟩
      have q1 := h3 t (Nat.le_refl _) (by omega)
      have q2 := h t i hi hi2
      omega
theorem tb_z {F n p : Nat} {q : Int64} {S : si_St} : f_X1_firstNotBelow_l7 F (n + 1) q (nI p) 0 S = some (nI p, S) := by
  show f_X1_firstNotBelow_h7 F (f_X1_firstNotBelow_l7 F n) q (nI p) 0 S = _
  unfold f_X1_firstNotBelow_h7
  rw [if_pos (by decide)]
theorem tb_hf : ∀ s, s < 7 → nI (2 ^ (s + 1)) / 2 = nI (2 ^ s) := by decide +kernel
theorem tb_l {F C t : Nat} {q : Int64} {S : si_St} (hc : S.1 3 5 = nI C) (hC : C ≤ 243) (ht : t ≤ C) (h1 : ∀ i, i < t → (S.2.2.1 6 i).toInt < q.toInt) (h2 : ∀ i, t ≤ i → i < C → q.toInt ≤ (S.2.2.1 6 i).toInt) : ∀ s p n, s ≤ 7 → p ≤ t → t < p + 2 * 2 ^ s → s + 1 < n → f_X1_firstNotBelow_l7 F n q (nI p) (nI (2 ^ s)) S = some (nI t, S) := by
  have step : ∀ s p n, s ≤ 7 → p ≤ t → t < p + 2 * 2 ^ s → ∃ p', p' ≤ t ∧ t < p' + 2 ^ s ∧ f_X1_firstNotBelow_l7 F (n + 1) q (nI p) (nI (2 ^ s)) S = f_X1_firstNotBelow_l7 F n q (nI p') (nI (2 ^ s) / 2) S := by
    intro s p n hs hp hps
    have h128 : 2 ^ s ≤ 2 ^ 7 := Nat.pow_le_pow_right (by decide) hs
    have hpos : 0 < 2 ^ s := Nat.pow_pos (by decide)
    have e1 : nI p + nI (2 ^ s) = nI (p + 2 ^ s) := nI_add ..
    have hstep : f_X1_firstNotBelow_l7 F (n + 1) q (nI p) (nI (2 ^ s)) S = f_X1_firstNotBelow_h7 F (f_X1_firstNotBelow_l7 F n) q (nI p) (nI (2 ^ s)) S := rfl
    rw [hstep]
    unfold f_X1_firstNotBelow_h7 f_X1_firstNotBelow_h44
    rw [if_neg (show ¬ nI (2 ^ s) ≤ 0 from nI_ge (a := 0) hpos (by omega)), e1, hc]
    by_cases c1 : C < p + 2 ^ s
    · rw [if_pos (nI_lt c1 (by omega)), Option.bind_some]
      exact ⟨p, hp, by omega, rfl⟩
    · have e2 : nI (p + 2 ^ s) - 1 = nI (p + 2 ^ s - 1) := sm_sub (b := 1) (by omega)
      rw [if_neg (fun h => c1 ((nI_ltI (by omega) (by omega)).mp h)), e2, rl_6 (by omega), Option.bind_some]
      by_cases c2 : q.toInt ≤ (S.2.2.1 6 (p + 2 ^ s - 1)).toInt
      · rw [if_pos (tl_c.mpr c2), Option.bind_some]
        refine ⟨p, hp, Decidable.byContradiction (fun h => ?_), rfl⟩
        have := h1 (p + 2 ^ s - 1) (by omega)
        omega
      · rw [if_neg (fun h => c2 (tl_c.mp h)), Option.bind_some, Option.bind_some]
        refine ⟨p + 2 ^ s, Decidable.byContradiction (fun h => ?_), by omega, rfl⟩
        have := h2 (p + 2 ^ s - 1) (by omega) (by omega)
        omega
  intro s
  induction s with
  | zero =>
    intro p n hs hp hps hn
    obtain ⟨n, rfl⟩ : ∃ m, n = m + 2 := ⟨n - 2, by omega⟩
    obtain ⟨p', a1, a2, a3⟩ := step 0 p (n + 1) hs hp hps
    rw [a3]
    have e : p' = t := by omega
    rw [e]
    exact tb_z
  | succ s ih =>
    intro p n hs hp hps hn
    obtain ⟨n, rfl⟩ : ∃ m, n = m + 1 := ⟨n - 1, by omega⟩
    obtain ⟨p', a1, a2, a3⟩ := step (s + 1) p n hs hp hps
    rw [a3, tb_hf s (by omega)]
    have e : 2 ^ (s + 1) = 2 * 2 ^ s := by rw [Nat.pow_succ, Nat.mul_comm]
    exact ih p' n (by omega) a1 (by omega) (by omega)
theorem tb_first {F C : Nat} {q : Int64} {S : si_St} (hc : S.1 3 5 = nI C) (hC : C ≤ 243) (hs : ∀ i j, i ≤ j → j < C → (S.2.2.1 6 i).toInt ≤ (S.2.2.1 6 j).toInt) (hF : 10 ≤ F) : ∃ t, t ≤ C ∧ f_X1_firstNotBelow F q S = some (nI t, S) ∧ (∀ i, i < t → (S.2.2.1 6 i).toInt < q.toInt) ∧ ∀ i, t ≤ i → i < C → q.toInt ≤ (S.2.2.1 6 i).toInt := by
  obtain ⟨t, h1, h2, h3⟩ := tb_t (S.2.2.1 6) q.toInt C hs
  exact ⟨t, h1, tb_l (F := F) hc hC h1 h2 h3 7 0 F (by decide) (Nat.zero_le _) (by omega) (by omega), h2, h3⟩

