-- the sum of a set of masses; testLoad, testError
theorem sm_b1 : ∀ i, i < 32 → bt 1 i = decide (i = 0) := by decide +kernel
theorem sm_bit {x : Int32} {k : Nat} (hk : k < 32) : ((x >>> (nI k &&& 31)) &&& 1) = if bt x k = true then 1 else 0 := by
  apply b_ext
  intro i hi
  rw [b_and, b_sshr k hk x hi, sm_b1 i hi]
  by_cases h0 : i = 0
  · subst h0
    rw [if_pos (by omega), Nat.add_zero]
    by_cases h : bt x k = true
    · rw [if_pos h, h]; rfl
    · rw [if_neg h, Bool.eq_false_iff.mpr h]; rfl
  · rw [decide_eq_false h0, Bool.and_false]
    by_cases h : bt x k = true
    · rw [if_pos h, sm_b1 i hi, decide_eq_false h0]
    · rw [if_neg h, b_0]
theorem sm_btn {st k : Nat} (hk : k < 32) : bt (nI st) k = st.testBit k := by
  show (BitVec.ofNat 32 st).getLsbD k = _
  rw [BitVec.getLsbD_ofNat]
  simp [hk]
theorem sm_tb {st k : Nat} (hk : k < 32) : (((nI st >>> (nI k &&& 31)) &&& 1) = 1) ↔ st.testBit k = true := by
  rw [sm_bit hk, sm_btn hk]
  by_cases h : st.testBit k = true
  · rw [if_pos h]
    exact ⟨fun _ => h, fun _ => rfl⟩
  · rw [if_neg h]
    exact ⟨fun e => absurd e (by decide), fun e => absurd e h⟩
theorem sm_sumOf_l {F : Nat} {S : si_St} {m st : Nat} {f : Nat → Nat} (hs : S.1 87 8 = nI m) (hm : m ≤ 10) (ha : ∀ i, i < m → S.2.1 93 i = nI (f i)) : ∀ n k, k ≤ m → m < n + k → f_X10_sumOf_l4 F n (nI st) (nI (sm_sum f k st)) (nI k) S = some (nI (sm_sum f m st), S)
  | 0, k, h1, h2 => absurd h2 (by omega)
  | n + 1, k, h1, h2 => by
    show f_X10_sumOf_h4 F (f_X10_sumOf_l4 F n) (nI st) (nI (sm_sum f k st)) (nI k) S = _
    unfold f_X10_sumOf_h4 f_X10_sumOf_h32
    rw [hs]
    by_cases hk : k = m
    · subst hk
      rw [if_pos (Int32.le_refl _)]
    · rw [if_neg (nI_ge (show k < m by omega) (by omega))]
      have ih := sm_sumOf_l hs hm ha n (k + 1) (by omega) (by omega) (st := st) (F := F)
      by_cases hb : st.testBit k = true
      · rw [if_pos ((sm_tb (by omega)).mpr hb), sm_rd (show k < 10 by omega) (by decide), Option.bind_some, Option.bind_some, Option.bind_some, ha k (by omega), nI_add, nI_1]
        have e : sm_sum f k st + f k = sm_sum f (k + 1) st := by
          show _ = sm_sum f k st + (if st.testBit k = true then f k else 0)
          rw [if_pos hb]
        rw [e]
        exact ih
      · rw [if_neg (fun h => hb ((sm_tb (by omega)).mp h)), Option.bind_some, Option.bind_some, nI_1]
        have e : nI (sm_sum f k st) + 0 = nI (sm_sum f (k + 1) st) := by
          show nI (sm_sum f k st) + nI 0 = nI (sm_sum f k st + (if st.testBit k = true then f k else 0))
          rw [if_neg hb, nI_add]
        rw [e]
        exact ih
theorem sm_sumOf {F : Nat} {S : si_St} {m st : Nat} {f : Nat → Nat} (hs : S.1 87 8 = nI m) (hm : m ≤ 10) (ha : ∀ i, i < m → S.2.1 93 i = nI (f i)) (hF : 11 ≤ F) : f_X10_sumOf F (nI st) S = some (nI (sm_sum f m st), S) :=
  sm_sumOf_l hs hm ha F 0 (by omega) (by omega)
theorem st_testLoad {F : Nat} {x y : Int32} (hF : 11 ≤ F) : st_ok3 (f_L_testLoad F x y) (f_X10_testLoad F x y) := by
  intro S h
  obtain ⟨u, mk, hmk, g0, g1, g2, g3, g4, g5, g6, ⟨⟨V, hV, hc, hn, hv⟩, hq⟩, -⟩ := id h
  have no : ∀ (S : si_St), iv_all S → f_X9_hasTest F x y S = some (0, S) → f_X10_isTest F x y S = some (0, S) → ∃ c r S1 S2, f_L_testLoad F x y S = some (c, S1) ∧ f_X10_testLoad F x y S1 = some (r, S2) ∧ S2.1 87 0 = c ∧ (c = 0 → S2.2.2.1 113 0 = r.toInt64) ∧ iv_all S2 := by
    intro S h e1 e2
    refine ⟨1, 0, S, si_ps S 87 0 1, ?_, ?_, rfl, fun h => absurd h (by decide), iv_t3 h⟩
    · unfold f_L_testLoad f_X9_testLoad
      rw [e1]
      rfl
    · unfold f_X10_testLoad f_X10_testLoad_h15 f_X10_testLoad_h35
      rw [e2, Option.bind_some, if_pos rfl, iv_ptc]
      rfl
  rcases sm_cases x V (by omega) with ⟨i, hi, rfl⟩ | hno
  · obtain ⟨⟨s, hs, a1, m1, n, hn8, a5, m5, ht⟩, -⟩ := hv i hi
    rcases sm_cases y n (by omega) with ⟨j, hj, rfl⟩ | hno
    · obtain ⟨st, hst, hcap, b1, b2, b3, -⟩ := ht j hj
      have e1 : f_X9_hasTest F (nI i) (nI j) S = some (1, S) := by
        rw [f9_hasTest hc hV hi hn8 a5, if_pos (sm_in hj (by omega))]
      have e2 : ∀ v, f_X10_isTest F (nI i) (nI j) (si_pl S 113 0 v) = some (1, si_pl S 113 0 v) := by
        intro v
        rw [f10_isTest (S := si_pl S 113 0 v) hn hV hi hn8 m5, if_pos (sm_in hj (by omega))]
      have b3' : S.2.1 14 (8 * i + j) = nI (sm_sum (u 8) (u 2 0) st) := b3
      refine ⟨0, nI (sm_sum (u 8) (u 2 0) st), si_pl S 113 0 (nI (sm_sum (u 8) (u 2 0) st)).toInt64, si_ps (si_pl S 113 0 (nI (sm_sum (u 8) (u 2 0) st)).toInt64) 87 0 0, ?_, ?_, rfl, fun _ => rfl, iv_t3 (iv_o3 h)⟩
      · unfold f_L_testLoad f_X9_testLoad
        rw [e1]
        show Option.bind (Option.bind (si_rd S 14 (nI i * nI 8 + nI j)) _) _ = _
        rw [sm_mul, nI_add, Nat.mul_comm i 8, sm_rd (show 8 * i + j < 240 by omega) (by decide), b3']
        rfl
      · unfold f_X10_testLoad f_X10_testLoad_h15 f_X10_testLoad_h35
        rw [e2]
        show Option.bind (f_X10_loadOf F (nI i) (nI j) (si_ps (si_pl S 113 0 (nI (sm_sum (u 8) (u 2 0) st)).toInt64) 87 0 0)) _ = _
        unfold f_X10_loadOf
        show Option.bind (Option.bind (si_rd (si_ps (si_pl S 113 0 _) 87 0 0) 88 (nI 181 + nI 8 * nI i + nI j)) _) _ = _
        rw [sm_mul, nI_add, nI_add, Nat.add_assoc, sm_rd (show 181 + (8 * i + j) < 677 by omega) (by decide)]
        show Option.bind (Option.bind (f_X10_sumOf F (S.2.1 88 (181 + (8 * i + j))) _) _) _ = _
        rw [b2, sm_sumOf (S := si_ps (si_pl S 113 0 (nI (sm_sum (u 8) (u 2 0) st)).toInt64) 87 0 0) (m := u 2 0) (f := u 8) g2.2.2.1 g0.2.2.1 (fun i hi => g2.2.2.2.2.2.1 i hi) hF]
        rfl
    · refine no S h ?_ ?_
      · rw [f9_hasTest hc hV hi hn8 a5, if_neg hno]
      · rw [f10_isTest hn hV hi hn8 m5, if_neg hno]
  · exact no S h (f9_hasTestN hc hV hno) (f10_isTestN hn hV hno)
