-- LOOPS in general
theorem lp_any {α : Type} (L : Nat → Nat → α) (A B : α) (p : Nat → Bool) (n : Nat) (hend : ∀ t, L (t + 1) n = B) (hstep : ∀ t k, k < n → L (t + 1) k = if p k = true then A else L t (k + 1)) : ∀ t k, k ≤ n → n < t + k → sa_an p k = false → L t k = if sa_an p n = true then A else B
  | 0, k, h1, h2, _ => absurd h2 (by omega)
  | t + 1, k, h1, h2, h3 => by
    by_cases hk : k = n
    · subst hk
      rw [hend, h3, if_neg (by decide)]
    · rw [hstep t k (by omega)]
      cases hp : p k with
      | true => rw [if_pos rfl, sa_an_hit (p := p) (n := n) (k := k) (by omega) hp, if_pos rfl]
      | false =>
        rw [if_neg (by decide)]
        refine lp_any L A B p n hend hstep t (k + 1) (by omega) (by omega) ?_
        show (sa_an p k || p k) = false
        rw [h3, hp]
        rfl
theorem lp_go {α : Type} (L : Nat → Nat → α) (B : α) (n : Nat) (hend : ∀ t, L (t + 1) n = B) (hstep : ∀ t k, k < n → L (t + 1) k = L t (k + 1)) : ∀ t k, k ≤ n → n < t + k → L t k = B
  | 0, k, h1, h2 => absurd h2 (by omega)
  | t + 1, k, h1, h2 => by
    by_cases hk : k = n
    · subst hk
      exact hend t
    · rw [hstep t k (by omega)]
      exact lp_go L B n hend hstep t (k + 1) (by omega) (by omega)
theorem sv_bz (b : Bool) : si_bz (sv_b b) = some (sv_b b) := by cases b <;> rfl
theorem sv_ite (b : Bool) {α : Type} (x y : α) : (if sv_b b = 0 then x else y) = if b = true then y else x := by cases b <;> rfl
/-- a visit i of the scale s with n tests: st the sets, er the errors -/
def vd_C (u : Nat → Nat → Nat) (i s n b : Nat) (st : Nat → Nat) : Prop := iv_mok u ∧ i < 30 ∧ s < u 1 0 ∧ n ≤ 8 ∧ b ≤ 1 ∧ ∀ t, t < n → st t < 2 ^ u 2 0 ∧ sm_sum (u 8) (u 2 0) (st t) ≤ u 7 s
def vd_X (S : si_St) (mk : Nat) (u : Nat → Nat → Nat) (i s n b : Nat) (st : Nat → Nat) (er : Nat → Int32) : Prop := (mk = 69 ∨ mk = 78) ∧ iv_mk (S.1 mk) (fun j => S.2.1 (mk + j)) u ∧ S.2.1 8 i = nI s ∧ S.2.1 10 i = nI b ∧ S.2.1 12 i = nI n ∧ ∀ t, t < n → S.2.1 13 (8 * i + t) = nI (st t) ∧ S.2.1 14 (8 * i + t) = nI (sm_sum (u 8) (u 2 0) (st t)) ∧ S.2.1 15 (8 * i + t) = er t
def vd_M (S : si_St) (u : Nat → Nat → Nat) (i s n b : Nat) (st : Nat → Nat) (er : Nat → Int32) : Prop := iv_mm (S.1 87) S.2.1 u ∧ S.2.1 88 (1 + i) = nI s ∧ S.2.1 88 (121 + i) = nI b ∧ S.2.1 88 (151 + i) = nI n ∧ ∀ t, t < n → S.2.1 88 (181 + (8 * i + t)) = nI (st t) ∧ S.2.1 88 (421 + (8 * i + t)) - nI (sm_sum (u 8) (u 2 0) (st t)) = er t
/-- the tolerance of the visit at a test -/
def vd_t (u : Nat → Nat → Nat) (s b : Nat) (st : Nat → Nat) (t : Nat) : Nat := tv_t (u 5 s) (u 6 s) (sm_sum (u 8) (u 2 0) (st t)) * (1 + b)
def vd_e (st : Nat → Nat) (n : Nat) : Bool := sa_an (fun t => decide (st t = 0)) n
def vd_h (u : Nat → Nat → Nat) (s : Nat) (st : Nat → Nat) (n : Nat) : Bool := sa_an (fun t => decide (u 7 s ≤ 2 * sm_sum (u 8) (u 2 0) (st t))) n
def vd_r (st : Nat → Nat) (n : Nat) : Bool := sa_an (fun t => sa_an (fun v => decide (st t ≠ 0 ∧ st v = st t)) t) n
def vd_f (u : Nat → Nat → Nat) (s b : Nat) (st : Nat → Nat) (er : Nat → Int32) (sh : Int32) (n : Nat) : Bool := sa_an (fun t => decide (nI (vd_t u s b st t) < si_abs (er t - sh))) n
def vd_d (u : Nat → Nat → Nat) (s b : Nat) (st : Nat → Nat) (er : Nat → Int32) (n : Nat) : Bool := sa_an (fun t => sa_an (fun v => decide (st v = st t ∧ nI (vd_t u s b st t) < si_abs (er t - er v))) t) n
def vd_J (u : Nat → Nat → Nat) (s n b : Nat) (st : Nat → Nat) (er : Nat → Int32) (sh : Int32) : Nat := if vd_e st n = true then (if vd_h u s st n = true then (if vd_r st n = true then (if vd_f u s b st er sh n = true then 4 else if vd_d u s b st er n = true then 5 else 0) else 3) else 2) else 1
theorem vd_cap {u : Nat → Nat → Nat} {i s n b : Nat} {st : Nat → Nat} (c : vd_C u i s n b st) : u 7 s ≤ 999999 ∧ u 1 0 ≤ 24 ∧ u 2 0 ≤ 10 ∧ 1 ≤ u 6 s ∧ u 6 s ≤ 1000 := by
  obtain ⟨g0, -, hs, -⟩ := c
  have q := g0.2.2.2.2.1 s hs
  exact ⟨q.2.2.2.2.2, g0.2.1, g0.2.2.1, q.2.2.1, q.2.2.2.1⟩
theorem vd_st {u : Nat → Nat → Nat} {i s n b : Nat} {st : Nat → Nat} (c : vd_C u i s n b st) {t : Nat} (ht : t < n) : st t < 1024 ∧ sm_sum (u 8) (u 2 0) (st t) ≤ 999999 := by
  have h1 := vd_cap c
  obtain ⟨g0, -, hs, -, -, h⟩ := c
  have h2 : 2 ^ u 2 0 ≤ 2 ^ 10 := Nat.pow_le_pow_right (by decide) h1.2.2.1
  have h3 := h t ht
  exact ⟨by omega, by omega⟩
theorem vd_tl {u : Nat → Nat → Nat} {i s n b : Nat} {st : Nat → Nat} (c : vd_C u i s n b st) (t : Nat) : vd_t u s b st t ≤ 3000 := by
  have h1 := vd_cap c
  have h2 := tv_le (c := u 5 s) (d := u 6 s) (l := sm_sum (u 8) (u 2 0) (st t)) h1.2.2.2.2 h1.2.2.2.1
  have h3 : 1 + b ≤ 2 := by have := c.2.2.2.2.1; omega
  exact Nat.mul_le_mul h2 h3
-- the one side
theorem vx_ix (i t : Nat) : (nI i * 8) + nI t = nI (8 * i + t) := by
  show nI i * nI 8 + nI t = _
  rw [sm_mul, nI_add, Nat.mul_comm]
theorem vx_ix8 (i : Nat) : nI i * 8 = nI (8 * i) := by
  show nI i * nI 8 = _
  rw [sm_mul, Nat.mul_comm]
theorem vx_empty {F mk i s n b : Nat} {S : si_St} {u : Nat → Nat → Nat} {st : Nat → Nat} {er : Nat → Int32} (c : vd_C u i s n b st) (x : vd_X S mk u i s n b st er) (hF : 9 ≤ F) : f_X7_hasEmptyTest F (nI i) S = some (sv_b (vd_e st n), S) := by
  obtain ⟨g0, hi, hs, hn, hb, hst⟩ := id c
  obtain ⟨hm, g1, x1, x3, x5, xt⟩ := x
  have h := lp_any (fun t k => f_X7_hasEmptyTest_l2 F t (nI i) (nI k) S) (some (1, S)) (some (0, S)) (fun t => decide (st t = 0)) n (fun t => by
    show f_X7_hasEmptyTest_h2 F (f_X7_hasEmptyTest_l2 F t) (nI i) (nI n) S = _
    unfold f_X7_hasEmptyTest_h2
    rw [rd_12 hi, Option.bind_some, x5, if_pos (Int32.le_refl _)]
    rfl) (fun t k hk => by
    have h4 := vd_st c hk
    show f_X7_hasEmptyTest_h2 F (f_X7_hasEmptyTest_l2 F t) (nI i) (nI k) S = _
    unfold f_X7_hasEmptyTest_h2
    rw [rd_12 hi, Option.bind_some, x5, if_neg (nI_ge hk (by omega)), vx_ix, rd_13 (by omega), Option.bind_some, (xt k hk).1, Option.bind_some, nI_1]
    by_cases h0 : st k = 0
    · rw [if_pos (by rw [h0]; rfl), if_pos (decide_eq_true h0)]
      rfl
    · rw [if_neg (nI_ne0 (by omega) (by omega)), if_neg (by rw [decide_eq_false h0]; decide)]) F 0 (by omega) (by omega) rfl
  have e : f_X7_hasEmptyTest F (nI i) S = (fun t k => f_X7_hasEmptyTest_l2 F t (nI i) (nI k) S) F 0 := rfl
  refine (e.trans h).trans ?_
  show _ = some (sv_b (sa_an (fun t => decide (st t = 0)) n), S)
  cases sa_an (fun t => decide (st t = 0)) n <;> rfl
theorem vx_half {F mk i s n b : Nat} {S : si_St} {u : Nat → Nat → Nat} {st : Nat → Nat} {er : Nat → Int32} (c : vd_C u i s n b st) (x : vd_X S mk u i s n b st er) (hF : 9 ≤ F) : f_X7_reachesHalf F (nI i) (nI (u 7 s)) S = some (sv_b (vd_h u s st n), S) := by
  obtain ⟨g0, hi, hs, hn, hb, hst⟩ := id c
  obtain ⟨hm, g1, x1, x3, x5, xt⟩ := x
  have hcap := (vd_cap c).1
  have h := lp_any (fun t k => f_X7_reachesHalf_l2 F t (nI i) (nI (u 7 s)) (nI k) S) (some (1, S)) (some (0, S)) (fun t => decide (u 7 s ≤ 2 * sm_sum (u 8) (u 2 0) (st t))) n (fun t => by
    show f_X7_reachesHalf_h2 F (f_X7_reachesHalf_l2 F t) (nI i) (nI (u 7 s)) (nI n) S = _
    unfold f_X7_reachesHalf_h2
    rw [rd_12 hi, Option.bind_some, x5, if_pos (Int32.le_refl _)]
    rfl) (fun t k hk => by
    have h4 := vd_st c hk
    show f_X7_reachesHalf_h2 F (f_X7_reachesHalf_l2 F t) (nI i) (nI (u 7 s)) (nI k) S = _
    unfold f_X7_reachesHalf_h2
    rw [rd_12 hi, Option.bind_some, x5, if_neg (nI_ge hk (by omega)), vx_ix, rd_14 (by omega), Option.bind_some, (xt k hk).2.1, li_mulL, Option.bind_some, nI_1]
    by_cases h0 : u 7 s ≤ 2 * sm_sum (u 8) (u 2 0) (st k)
    · rw [if_neg (nI_nlt h0 (by omega)), if_pos (decide_eq_true h0)]
      rfl
    · rw [if_pos (nI_lt (by omega) (by omega)), if_neg (by rw [decide_eq_false h0]; decide)]) F 0 (by omega) (by omega) rfl
  have e : f_X7_reachesHalf F (nI i) (nI (u 7 s)) S = (fun t k => f_X7_reachesHalf_l2 F t (nI i) (nI (u 7 s)) (nI k) S) F 0 := rfl
  refine (e.trans h).trans ?_
  show _ = some (sv_b (sa_an (fun t => decide (u 7 s ≤ 2 * sm_sum (u 8) (u 2 0) (st t))) n), S)
  cases sa_an (fun t => decide (u 7 s ≤ 2 * sm_sum (u 8) (u 2 0) (st t))) n <;> rfl
theorem vx_repeat {F mk i s n b : Nat} {S : si_St} {u : Nat → Nat → Nat} {st : Nat → Nat} {er : Nat → Int32} (c : vd_C u i s n b st) (x : vd_X S mk u i s n b st er) (hF : 10 ≤ F) : f_X7_hasRepeat F (nI i) S = some (sv_b (vd_r st n), S) := by
  obtain ⟨g0, hi, hs, hn, hb, hst⟩ := id c
  obtain ⟨hm, g1, x1, x3, x5, xt⟩ := x
  have h := lp_any (fun t k => f_X7_hasRepeat_l7 F t (nI i) (nI (8 * i)) (nI k) S) (some (1, S)) (some (0, S)) (fun t => sa_an (fun v => decide (st t ≠ 0 ∧ st v = st t)) t) n (fun t => by
    show f_X7_hasRepeat_h7 F (f_X7_hasRepeat_l7 F t) (nI i) (nI (8 * i)) (nI n) S = _
    unfold f_X7_hasRepeat_h7
    rw [rd_12 hi, Option.bind_some, x5, if_pos (Int32.le_refl _)]
    rfl) (fun t k hk => by
    have h4 := vd_st c hk
    show f_X7_hasRepeat_h7 F (f_X7_hasRepeat_l7 F t) (nI i) (nI (8 * i)) (nI k) S = _
    unfold f_X7_hasRepeat_h7
    rw [rd_12 hi, Option.bind_some, x5, if_neg (nI_ge hk (by omega))]
    exact lp_any (fun t2 j => f_X7_hasRepeat_l20 F (f_X7_hasRepeat_l7 F t) t2 (nI i) (nI (8 * i)) (nI k) (nI j) S) (some (1, S)) (f_X7_hasRepeat_l7 F t (nI i) (nI (8 * i)) (nI (k + 1)) S) (fun v => decide (st k ≠ 0 ∧ st v = st k)) k (fun t2 => by
      show f_X7_hasRepeat_h20 F (f_X7_hasRepeat_l7 F t) (f_X7_hasRepeat_l20 F (f_X7_hasRepeat_l7 F t) t2) (nI i) (nI (8 * i)) (nI k) (nI k) S = _
      unfold f_X7_hasRepeat_h20
      rw [if_pos (Int32.le_refl _), Option.bind_some, nI_1]) (fun t2 j hj => by
      have h5 := vd_st c (show j < n by omega)
      show f_X7_hasRepeat_h20 F (f_X7_hasRepeat_l7 F t) (f_X7_hasRepeat_l20 F (f_X7_hasRepeat_l7 F t) t2) (nI i) (nI (8 * i)) (nI k) (nI j) S = _
      unfold f_X7_hasRepeat_h20 f_X7_hasRepeat_h59
      rw [if_neg (nI_ge hj (by omega)), nI_add, rd_13 (by omega), Option.bind_some, (xt k hk).1, Option.bind_some, nI_1, nI_add, rd_13 (by omega), Option.bind_some, Option.bind_some, (xt j (by omega)).1]
      by_cases h0 : st k = 0
      · rw [if_pos (by rw [h0]; rfl), if_neg (by rw [decide_eq_false (fun h => h.1 h0)]; decide)]
      · rw [if_neg (nI_ne0 (by omega) (by omega))]
        by_cases h6 : st j = st k
        · rw [if_pos (by rw [h6]), if_pos (decide_eq_true ⟨h0, h6⟩)]
          rfl
        · rw [if_neg (sm_ne (fun h => h6 h.symm) (by omega) (by omega)), if_neg (by rw [decide_eq_false (fun h => h6 h.2)]; decide)]) F 0 (by omega) (by omega) rfl) F 0 (by omega) (by omega) rfl
  have e : f_X7_hasRepeat F (nI i) S = (fun t k => f_X7_hasRepeat_l7 F t (nI i) (nI (8 * i)) (nI k) S) F 0 := by
    unfold f_X7_hasRepeat
    rw [vx_ix8]
    rfl
  refine (e.trans h).trans ?_
  show _ = some (sv_b (sa_an (fun t => sa_an (fun v => decide (st t ≠ 0 ∧ st v = st t)) t) n), S)
  cases sa_an (fun t => sa_an (fun v => decide (st t ≠ 0 ∧ st v = st t)) t) n <;> rfl
theorem vx_tol {F mk i s n b t : Nat} {S : si_St} {u : Nat → Nat → Nat} {st : Nat → Nat} {er : Nat → Int32} (c : vd_C u i s n b st) (x : vd_X S mk u i s n b st er) (ht : t < n) : f_X7_toleranceOf F mk (nI i) (nI t) S = some (nI (vd_t u s b st t), S) := by
  obtain ⟨g0, hi, hs, hn, hb, hst⟩ := id c
  obtain ⟨hm, g1, x1, x3, x5, xt⟩ := x
  have h4 := vd_st c ht
  have hcap := (vd_cap c).1
  have h2 : tv_t (u 5 s) (u 6 s) (sm_sum (u 8) (u 2 0) (st t)) ≤ 1500 := tv_le (vd_cap c).2.2.2.2 (vd_cap c).2.2.2.1
  unfold f_X7_toleranceOf f_X7_toleranceOf_h42
  rw [rd_8 hi, Option.bind_some, x1, vx_ix, rd_14 (by omega), Option.bind_some, (xt t ht).2.1, tv_x hm g0 g1 hs (by omega), Option.bind_some]
  dsimp only
  rw [rd_10 hi, Option.bind_some, x3]
  unfold vd_t
  have hb2 : b = 0 ∨ b = 1 := by omega
  rcases hb2 with rfl | rfl
  · rw [if_neg (by decide), Nat.mul_one]
  · rw [if_pos (show nI 1 = 1 from rfl), li_mulL, Nat.mul_comm]
theorem vx_within {F mk i s n b t : Nat} {S : si_St} {u : Nat → Nat → Nat} {st : Nat → Nat} {er : Nat → Int32} {sh : Int32} (c : vd_C u i s n b st) (x : vd_X S mk u i s n b st er) (ht : t < n) : f_X7_isWithinTolerance F mk (nI i) (nI t) sh S = some (sv_b (!decide (nI (vd_t u s b st t) < si_abs (er t - sh))), S) := by
  have hi := c.2.1
  have hn := c.2.2.2.1
  have ht3 := (x.2.2.2.2.2 t ht).2.2
  have tl := vx_tol (F := F) c x ht
  generalize hT : nI (vd_t u s b st t) = T at tl ⊢
  unfold f_X7_isWithinTolerance f_X7_isWithinTolerance_h36
  rw [vx_ix, rd_15 (by omega), Option.bind_some, ht3, Option.bind_some, tl, Option.bind_some]
  by_cases h : T < si_abs (er t - sh)
  · rw [if_pos h, decide_eq_true h]
    rfl
  · rw [if_neg h, decide_eq_false h]
    rfl
theorem vx_all {F mk i s n b : Nat} {S : si_St} {u : Nat → Nat → Nat} {st : Nat → Nat} {er : Nat → Int32} {sh : Int32} (c : vd_C u i s n b st) (x : vd_X S mk u i s n b st er) (hF : 9 ≤ F) : f_X7_allWithinTolerance F mk (nI i) sh S = some (sv_b (!vd_f u s b st er sh n), S) := by
  obtain ⟨g0, hi, hs, hn, hb, hst⟩ := id c
  have x5 := x.2.2.2.2.1
  have h := lp_any (fun t k => f_X7_allWithinTolerance_l3 F mk t (nI i) sh (nI k) S) (some (0, S)) (some (1, S)) (fun t => decide (nI (vd_t u s b st t) < si_abs (er t - sh))) n (fun t => by
    show f_X7_allWithinTolerance_h3 F mk (f_X7_allWithinTolerance_l3 F mk t) (nI i) sh (nI n) S = _
    unfold f_X7_allWithinTolerance_h3
    rw [rd_12 hi, Option.bind_some, x5, if_pos (Int32.le_refl _)]
    rfl) (fun t k hk => by
    show f_X7_allWithinTolerance_h3 F mk (f_X7_allWithinTolerance_l3 F mk t) (nI i) sh (nI k) S = _
    unfold f_X7_allWithinTolerance_h3
    rw [rd_12 hi, Option.bind_some, x5, if_neg (nI_ge hk (by omega)), vx_within c x hk, Option.bind_some]
    dsimp only
    rw [Option.bind_some, nI_1, sv_ite]
    cases decide (nI (vd_t u s b st k) < si_abs (er k - sh)) <;> rfl) F 0 (by omega) (by omega) rfl
  have e : f_X7_allWithinTolerance F mk (nI i) sh S = (fun t k => f_X7_allWithinTolerance_l3 F mk t (nI i) sh (nI k) S) F 0 := rfl
  refine (e.trans h).trans ?_
  show _ = some (sv_b (!sa_an (fun t => decide (nI (vd_t u s b st t) < si_abs (er t - sh))) n), S)
  cases sa_an (fun t => decide (nI (vd_t u s b st t) < si_abs (er t - sh))) n <;> rfl
theorem vx_agree {F mk i s n b : Nat} {S : si_St} {u : Nat → Nat → Nat} {st : Nat → Nat} {er : Nat → Int32} (c : vd_C u i s n b st) (x : vd_X S mk u i s n b st er) (hF : 10 ≤ F) : f_X7_repeatsAgree F mk (nI i) S = some (sv_b (!vd_d u s b st er n), S) := by
  obtain ⟨g0, hi, hs, hn, hb, hst⟩ := id c
  obtain ⟨hm, g1, x1, x3, x5, xt⟩ := id x
  have h := lp_any (fun t k => f_X7_repeatsAgree_l8 F mk t (nI i) (nI (8 * i)) (nI k) S) (some (0, S)) (some (1, S)) (fun t => sa_an (fun v => decide (st v = st t ∧ nI (vd_t u s b st t) < si_abs (er t - er v))) t) n (fun t => by
    show f_X7_repeatsAgree_h8 F mk (f_X7_repeatsAgree_l8 F mk t) (nI i) (nI (8 * i)) (nI n) S = _
    unfold f_X7_repeatsAgree_h8
    rw [rd_12 hi, Option.bind_some, x5, if_pos (Int32.le_refl _)]
    rfl) (fun t k hk => by
    have h4 := vd_st c hk
    show f_X7_repeatsAgree_h8 F mk (f_X7_repeatsAgree_l8 F mk t) (nI i) (nI (8 * i)) (nI k) S = _
    unfold f_X7_repeatsAgree_h8
    rw [rd_12 hi, Option.bind_some, x5, if_neg (nI_ge hk (by omega)), vx_tol c x hk, Option.bind_some]
    exact lp_any (fun t2 j => f_X7_repeatsAgree_l32 F mk (f_X7_repeatsAgree_l8 F mk t) t2 (nI i) (nI (8 * i)) (nI k) (nI (vd_t u s b st k)) (nI j) S) (some (0, S)) (f_X7_repeatsAgree_l8 F mk t (nI i) (nI (8 * i)) (nI (k + 1)) S) (fun v => decide (st v = st k ∧ nI (vd_t u s b st k) < si_abs (er k - er v))) k (fun t2 => by
      show f_X7_repeatsAgree_h32 F mk (f_X7_repeatsAgree_l8 F mk t) (f_X7_repeatsAgree_l32 F mk (f_X7_repeatsAgree_l8 F mk t) t2) (nI i) (nI (8 * i)) (nI k) _ (nI k) S = _
      unfold f_X7_repeatsAgree_h32
      rw [if_pos (Int32.le_refl _), Option.bind_some, nI_1]) (fun t2 j hj => by
      have h5 := vd_st c (show j < n by omega)
      show f_X7_repeatsAgree_h32 F mk (f_X7_repeatsAgree_l8 F mk t) (f_X7_repeatsAgree_l32 F mk (f_X7_repeatsAgree_l8 F mk t) t2) (nI i) (nI (8 * i)) (nI k) _ (nI j) S = _
      unfold f_X7_repeatsAgree_h32 f_X7_repeatsAgree_h65 f_X7_repeatsAgree_h101
      rw [if_neg (nI_ge hj (by omega)), nI_add, rd_13 (by omega), Option.bind_some, (xt k hk).1, nI_add, rd_13 (by omega), Option.bind_some, (xt j (by omega)).1, if_neg (show ¬ ((1 : Int32) = 0) by decide), if_pos (show (0 : Int32) = 0 from rfl), Option.bind_some, nI_1, rd_15 (by omega), Option.bind_some, (xt k hk).2.2, rd_15 (by omega), Option.bind_some, (xt j (by omega)).2.2]
      by_cases h6 : st j = st k
      · rw [if_pos (by rw [h6])]
        by_cases h7 : nI (vd_t u s b st k) < si_abs (er k - er j)
        · rw [if_neg (fa_of_lt h7).2.1, if_pos (decide_eq_true ⟨h6, h7⟩)]
          rfl
        · rw [if_pos (fa_of_nlt h7), if_neg (by rw [decide_eq_false (fun h => h7 h.2)]; decide)]
      · rw [if_neg (sm_ne (fun h => h6 h.symm) (by omega) (by omega)), if_neg (by rw [decide_eq_false (fun h => h6 h.1)]; decide)]) F 0 (by omega) (by omega) rfl) F 0 (by omega) (by omega) rfl
  have e : f_X7_repeatsAgree F mk (nI i) S = (fun t k => f_X7_repeatsAgree_l8 F mk t (nI i) (nI (8 * i)) (nI k) S) F 0 := by
    unfold f_X7_repeatsAgree
    rw [vx_ix8]
    rfl
  refine (e.trans h).trans ?_
  show _ = some (sv_b (!sa_an (fun t => sa_an (fun v => decide (st v = st t ∧ nI (vd_t u s b st t) < si_abs (er t - er v))) t) n), S)
  cases sa_an (fun t => sa_an (fun v => decide (st v = st t ∧ nI (vd_t u s b st t) < si_abs (er t - er v))) t) n <;> rfl
theorem vx_judge {F mk i s n b : Nat} {S : si_St} {u : Nat → Nat → Nat} {st : Nat → Nat} {er : Nat → Int32} {sh : Int32} (c : vd_C u i s n b st) (x : vd_X S mk u i s n b st er) (hF : 10 ≤ F) : f_X7_judge F mk (nI i) sh S = some (nI (vd_J u s n b st er sh), S) := by
  have hi := c.2.1
  have hs := c.2.2.1
  have hc := (vd_cap c).2.1
  have a4 : S.2.1 (mk + 4) s = nI (u 7 s) := (x.2.1.2.1 s hs).2.2.2
  unfold f_X7_judge f_X7_judge_h67 vd_J
  rw [vx_empty c x (by omega), Option.bind_some]
  dsimp only
  rw [sv_ite, rd_8 hi, Option.bind_some, x.2.2.1, rd_m4 x.1 (by omega), Option.bind_some, a4, vx_half c x (by omega), Option.bind_some]
  dsimp only
  rw [sv_ite, vx_repeat c x (by omega), Option.bind_some]
  dsimp only
  rw [sv_ite, vx_all c x (by omega), Option.bind_some]
  dsimp only
  rw [sv_ite, vx_agree c x (by omega), Option.bind_some]
  dsimp only
  rw [sv_ite]
  cases vd_e st n <;> cases vd_h u s st n <;> cases vd_r st n <;> cases vd_f u s b st er sh n <;> cases vd_d u s b st er n <;> rfl
