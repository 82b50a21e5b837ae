-- testPasses, adjustment, adjustedVerdict
theorem lq_1 (i : Nat) : (1 : Int32) + nI i = nI (1 + i) := li_addL 1 i
theorem lq_31 (i : Nat) : (31 : Int32) + nI i = nI (31 + i) := li_addL 31 i
theorem lq_61 (i : Nat) : (61 : Int32) + nI i = nI (61 + i) := li_addL 61 i
theorem lq_91 (i : Nat) : (91 : Int32) + nI i = nI (91 + i) := li_addL 91 i
theorem lq_121 (i : Nat) : (121 : Int32) + nI i = nI (121 + i) := li_addL 121 i
theorem lq_151 (i : Nat) : (151 : Int32) + nI i = nI (151 + i) := li_addL 151 i
theorem lq_181 (i : Nat) : (181 : Int32) + nI i = nI (181 + i) := li_addL 181 i
theorem lq_421 (i : Nat) : (421 : Int32) + nI i = nI (421 + i) := li_addL 421 i
theorem lq_661 (i : Nat) : (661 : Int32) + nI i = nI (661 + i) := li_addL 661 i
theorem lq_665 (i : Nat) : (665 : Int32) + nI i = nI (665 + i) := li_addL 665 i
theorem lq_669 (i : Nat) : (669 : Int32) + nI i = nI (669 + i) := li_addL 669 i
theorem lq_673 (i : Nat) : (673 : Int32) + nI i = nI (673 + i) := li_addL 673 i
theorem ad_floor {F : Nat} {x : Int32} {S : si_St} : f_J9_floorDiv_7cf53 F x 2 S = some (x >>> ((1 : Int32) &&& 31), S) := by
  have h2 : (2 : Int32).toInt = 2 := by decide
  have hx := fb_rng x
  have ed : (x / 2).toInt = x.toInt.tdiv 2 := by
    rw [Int32.toInt_div_of_ne_right x 2 (by decide), h2]
  rw [Int.tdiv_eq_ediv] at ed
  have es : (x >>> ((1 : Int32) &&& 31)).toInt = x.toInt / 2 := by
    rw [pk_shr x _ 1 (by decide), Int.shiftRight_eq_div_pow]
    rfl
  have hm : ((0 : Int32) ≤ x ^^^ 2) ↔ 0 ≤ x.toInt := by
    have e1 : (x ^^^ 2).toBitVec.msb = x.toBitVec.msb := by
      rw [Int32.toBitVec_xor, BitVec.msb_xor]
      have : (2 : Int32).toBitVec.msb = false := by decide
      rw [this, Bool.xor_false]
    rw [BitVec.msb_eq_toInt, BitVec.msb_eq_toInt, decide_eq_decide] at e1
    have e2 : (x ^^^ 2).toInt < 0 ↔ x.toInt < 0 := e1
    rw [fa_le]
    have : (0 : Int32).toInt = 0 := by decide
    omega
  unfold f_J9_floorDiv_7cf53 f_J9_floorDiv_7cf53_h21
  rw [if_neg (show ¬ ((2 : Int32) = 0) by decide), Option.bind_some]
  by_cases h0 : 0 ≤ x.toInt
  · rw [if_pos (hm.mpr h0)]
    rw [if_pos (Or.inl h0)] at ed
    refine congrArg (fun z => some (z, S)) (Int32.toInt_inj.mp ?_)
    omega
  · rw [if_neg (fun h => h0 (hm.mp h))]
    have em : (x / 2 * 2).toInt = (x / 2).toInt * 2 := by
      rw [fb_mulI, h2]
      · rw [h2, ed]
        split <;> (try have := Int.sign_eq_one_of_pos (show (0 : Int) < 2 by decide)) <;> omega
      · rw [h2, ed]
        split <;> (try have := Int.sign_eq_one_of_pos (show (0 : Int) < 2 by decide)) <;> omega
    by_cases hd : (2 : Int) ∣ x.toInt
    · rw [if_pos (Or.inr hd)] at ed
      have e : x / 2 * 2 = x := Int32.toInt_inj.mp (by omega)
      rw [if_pos e]
      refine congrArg (fun z => some (z, S)) (Int32.toInt_inj.mp ?_)
      omega
    · have h3 : ¬ (0 ≤ x.toInt ∨ (2 : Int) ∣ x.toInt) := by omega
      have sg : Int.sign 2 = 1 := by decide
      rw [if_neg h3, sg] at ed
      have e : ¬ x / 2 * 2 = x := by
        intro h
        have h4 := congrArg Int32.toInt h
        omega
      rw [if_neg e]
      refine congrArg (fun z => some (z, S)) (Int32.toInt_inj.mp ?_)
      have e1 : (1 : Int32).toInt = 1 := by decide
      rw [fb_subI (by omega) (by omega), e1]
      omega
def ad_mx (er : Nat → Int32) : Nat → Int32
  | 0 => er 0
  | k + 1 => si_max (ad_mx er k) (er k)
def ad_mn (er : Nat → Int32) : Nat → Int32
  | 0 => er 0
  | k + 1 => si_min (ad_mn er k) (er k)
def ad_mid (er : Nat → Int32) (n : Nat) : Int32 := (ad_mn er n + ad_mx er n) >>> ((1 : Int32) &&& 31)
theorem ad_mx1 (er : Nat → Int32) : ad_mx er 1 = er 0 := by
  show si_max (er 0) (er 0) = er 0
  unfold si_max
  rw [ite_self]
theorem ad_mn1 (er : Nat → Int32) : ad_mn er 1 = er 0 := by
  show si_min (er 0) (er 0) = er 0
  unfold si_min
  rw [ite_self]
theorem ad_x {F mk i s n b : Nat} {S : si_St} {u : Nat → Nat → Nat} {st : Nat → Nat} {er : Nat → Int32} (c : vd_C u i s n b st) (x : vd_X S mk u i s n b st er) (hF : 9 ≤ F) : f_X7_middleError F (nI i) S = some (if n = 0 then 0 else ad_mid er n, S) := by
  have hi := c.2.1
  have hn := c.2.2.2.1
  have x5 := x.2.2.2.2.1
  have xt := x.2.2.2.2.2
  unfold f_X7_middleError
  rw [rd_12 hi, Option.bind_some, x5]
  by_cases h0 : n = 0
  · subst h0
    rw [if_pos (show nI 0 = 0 from rfl), if_pos rfl]
  · have e0 : S.2.1 15 (8 * i) = er 0 := (xt 0 (by omega)).2.2
    rw [if_neg (nI_ne0 (by omega) (by omega)), if_neg h0, vx_ix8, Option.bind_some, rd_15 (by omega), Option.bind_some, Option.bind_some, e0]
    have h := lp_go (fun t k => f_X7_middleError_l34 F t (nI i) (nI (8 * i)) (ad_mx er k) (ad_mn er k) (nI k) S) (some (ad_mid er n, S)) n (fun t => by
      show f_X7_middleError_h34 F (f_X7_middleError_l34 F t) (nI i) (nI (8 * i)) _ _ (nI n) S = _
      unfold f_X7_middleError_h34
      rw [rd_12 hi, Option.bind_some, x5, if_pos (Int32.le_refl _), ad_floor, Option.bind_some]
      unfold ad_mid
      rw [Int32.add_comm (ad_mn er n)]) (fun t k hk => by
      show f_X7_middleError_h34 F (f_X7_middleError_l34 F t) (nI i) (nI (8 * i)) _ _ (nI k) S = _
      unfold f_X7_middleError_h34
      rw [rd_12 hi, Option.bind_some, x5, if_neg (nI_ge hk (by omega)), nI_add, rd_15 (by omega), Option.bind_some, Option.bind_some, Option.bind_some, Option.bind_some, Option.bind_some, (xt k hk).2.2, nI_1]
      rfl) F 1 (by omega) (by omega)

    rw [ad_mx1, ad_mn1] at h
    exact h
theorem ad_m {F i s n b : Nat} {S : si_St} {u : Nat → Nat → Nat} {st : Nat → Nat} {er : Nat → Int32} (c : vd_C u i s n b st) (x : vd_M S u i s n b st er) (hF : 11 ≤ F) (h0 : 0 < n) : f_X10_adjustmentOf F (nI i) S = some (ad_mid er n, S) := by
  have hi := c.2.1
  have hn := c.2.2.2.1
  have m5 := x.2.2.2.1
  unfold f_X10_adjustmentOf
  show Option.bind (f_X10_errorOf F (nI i) (nI 0) S) _ = _
  rw [vm_err c x hF h0, Option.bind_some]
  have h := lp_go (fun t k => f_X10_adjustmentOf_l12 F t (nI i) (ad_mn er k) (ad_mx er k) (nI k) S) (some (ad_mid er n, S)) n (fun t => by
    show f_X10_adjustmentOf_h12 F (f_X10_adjustmentOf_l12 F t) (nI i) _ _ (nI n) S = _
    unfold f_X10_adjustmentOf_h12
    rw [li_addL, rd_88 (by omega), Option.bind_some, m5, if_pos (Int32.le_refl _)]
    rfl) (fun t k hk => by
    show f_X10_adjustmentOf_h12 F (f_X10_adjustmentOf_l12 F t) (nI i) _ _ (nI k) S = f_X10_adjustmentOf_l12 F t (nI i) (si_min (ad_mn er k) (er k)) (si_max (ad_mx er k) (er k)) (nI (k + 1)) S
    unfold f_X10_adjustmentOf_h12 f_X10_adjustmentOf_h48 f_X10_adjustmentOf_h61
    rw [li_addL, rd_88 (by omega), Option.bind_some, m5, if_neg (nI_ge hk (by omega)), vm_err c x hF hk, Option.bind_some, nI_1]
    unfold si_min si_max
    generalize ad_mn er k = a
    generalize ad_mx er k = d
    generalize er k = e
    dsimp only
    rcases fa_three e a with h1 | h1 | h1 <;> rcases fa_three d e with h2 | h2 | h2
    all_goals
      first
      | (have q := fa_of_lt h1; have q2 := fa_of_lt h2; simp only [if_pos h1, if_pos h2, if_neg q.2.1, if_neg q2.2.1, if_pos q.1, if_pos q2.1, if_neg q.2.2.1, if_neg q2.2.2.1, Option.bind_some])
      | (subst h1; have q2 := fa_of_lt h2; simp only [if_pos (Int32.le_refl _), if_neg (Int32.lt_irrefl), if_pos h2, if_neg q2.2.1, if_pos q2.1, if_neg q2.2.2.1, Option.bind_some])
      | (subst h2; have q := fa_of_lt h1; simp only [if_pos (Int32.le_refl _), if_neg (Int32.lt_irrefl), if_pos h1, if_neg q.2.1, if_pos q.1, if_neg q.2.2.1, Option.bind_some])
      | (subst h1; subst h2; simp only [if_pos (Int32.le_refl _), if_neg (Int32.lt_irrefl), Option.bind_some])) F 1 (by omega) (by omega)

  rw [ad_mx1, ad_mn1] at h
  exact h
theorem st_adjustedVerdict {F : Nat} {x : Int32} (hF : 11 ≤ F) : st_ok (f_X9_adjustedVerdict F x) (f_X10_adjustedVerdict F x) := by
  intro S h
  obtain ⟨u, mk, hmk, g0, g1, g2, g3, g4, g5, g6, g7, -⟩ := id h
  obtain ⟨⟨V, hV, hc, hn, hv⟩, hq⟩ := id g7
  have e := h.go (iv_th S)
  have hm := iv_mkof hmk
  rcases sm_cases x V (by omega) with ⟨i, hi, rfl⟩ | hno
  · rw [hc] at g7
    obtain ⟨s, n, b, C, X, M⟩ := vd_of hm.2 g0 g1 g2 g7 hV hi
    generalize (fun t => (S.2.1 13 (8 * i + t)).toNatClampNeg) = st at C X M
    generalize (fun t => S.2.1 15 (8 * i + t)) = er at X M
    have M' : vd_M (si_ps S 87 0 0) u i s n b st er := M
    have hi30 := C.2.1
    have hn8 := C.2.2.2.1
    have m5 : (si_ps S 87 0 0).2.1 88 (151 + i) = nI n := M.2.2.2.1
    have hx : f_X9_adjustedVerdict F (nI i) S = some (nI (vd_J u s n b st er (if n = 0 then 0 else ad_mid er n)), S) := by
      unfold f_X9_adjustedVerdict f_X9_adjustedVerdict_h32
      rw [f9_hasVisit hc (by omega), if_pos (sm_in hi (by omega))]
      simp only [Option.bind_some, if_neg sm_10, hm.1, ad_x C X (show 9 ≤ F by omega), vx_judge C X (show 10 ≤ F by omega)]
    by_cases h0 : n = 0
    · subst h0
      refine ⟨1, S, si_ps S 87 0 0, ?_, ?_, e⟩
      · rw [hx]
        rfl
      · unfold f_X10_adjustedVerdict f_X10_adjustedVerdict_h42
        rw [iv_pt0, Option.bind_some, f10_isVisit (S := si_ps S 87 0 0) (n := V) hn (by omega), if_pos (sm_in hi (by omega))]
        simp only [Option.bind_some, if_neg sm_10, lq_151, rd_88 (show 151 + i < 677 by omega), m5, if_pos (show nI 0 = 0 from rfl)]
    · refine ⟨nI (vd_J u s n b st er (ad_mid er n)), S, si_ps S 87 0 0, ?_, ?_, e⟩
      · rw [hx, if_neg h0]
      · unfold f_X10_adjustedVerdict f_X10_adjustedVerdict_h42
        rw [iv_pt0, Option.bind_some, f10_isVisit (S := si_ps S 87 0 0) (n := V) hn (by omega), if_pos (sm_in hi (by omega))]
        simp only [Option.bind_some, if_neg sm_10, lq_151, rd_88 (show 151 + i < 677 by omega), m5, if_neg (nI_ne0 (show 0 < n by omega) (show n < 2 ^ 31 by omega)), ad_m C M' hF (show 0 < n by omega), vm_verdict C M' hF]
  · refine ⟨-1, S, si_ps S 87 0 0, ?_, ?_, e⟩
    · unfold f_X9_adjustedVerdict f_X9_adjustedVerdict_h32
      rw [f9_hasVisit hc (by omega), if_neg hno]
      rfl
    · unfold f_X10_adjustedVerdict f_X10_adjustedVerdict_h42
      rw [iv_pt0, Option.bind_some, f10_isVisit (S := si_ps S 87 0 0) (n := V) hn (by omega), if_neg hno]
      rfl
theorem st_adjustment {F : Nat} {x : Int32} (hF : 11 ≤ F) : st_ok3 (f_L_adjustment F x) (f_X10_adjustment F x) := by
  intro S h
  obtain ⟨u, mk, hmk, g0, g1, g2, g3, g4, g5, g6, g7, -⟩ := id h
  obtain ⟨⟨V, hV, hc, hn, hv⟩, hq⟩ := id g7
  have hm := iv_mkof hmk
  rcases sm_cases x V (by omega) with ⟨i, hi, rfl⟩ | hno
  · rw [hc] at g7
    obtain ⟨s, n, b, C, X, M⟩ := vd_of hm.2 g0 g1 g2 g7 hV hi
    generalize (fun t => (S.2.1 13 (8 * i + t)).toNatClampNeg) = st at C X M
    generalize (fun t => S.2.1 15 (8 * i + t)) = er at X M
    have hi30 := C.2.1
    have hn8 := C.2.2.2.1
    have m5 : S.2.1 88 (151 + i) = nI n := M.2.2.2.1
    have x5 := X.2.2.2.2.1
    by_cases h0 : n = 0
    · subst h0
      refine ⟨2, 0, S, si_ps S 87 0 2, ?_, ?_, rfl, fun h => absurd h (by decide), iv_t3 h⟩
      · unfold f_L_adjustment f_X9_adjustment
        rw [f9_hasVisit hc (by omega), if_pos (sm_in hi (by omega))]
        simp only [Option.bind_some, if_neg sm_10, rd_12 hi30, x5, if_pos (show nI 0 = 0 from rfl)]
        rfl
      · unfold f_X10_adjustment f_X10_adjustment_h31 f_X10_adjustment_h50
        rw [f10_isVisit hn (by omega), if_pos (sm_in hi (by omega))]
        simp only [Option.bind_some, if_neg sm_10, lq_151, rd_88 (show 151 + i < 677 by omega), m5, if_pos (show nI 0 = 0 from rfl)]
        rfl
    · have hx : f_L_adjustment F (nI i) S = some (0, si_pl S 113 0 (ad_mid er n).toInt64) := by
        unfold f_L_adjustment f_X9_adjustment
        rw [f9_hasVisit hc (by omega), if_pos (sm_in hi (by omega))]
        simp only [Option.bind_some, if_neg sm_10, rd_12 hi30, x5, if_neg (nI_ne0 (show 0 < n by omega) (show n < 2 ^ 31 by omega)), ad_x C X (show 9 ≤ F by omega), if_neg h0, if_pos]
        show Option.bind (si_wl S 113 (nI 0) _) _ = _
        rw [wl_113 (by decide)]
        rfl
      have M' : vd_M (si_ps (si_pl S 113 0 (ad_mid er n).toInt64) 87 0 0) u i s n b st er := M
      have am := ad_m (F := F) C M' hF (by omega)
      refine ⟨0, ad_mid er n, _, si_ps (si_pl S 113 0 (ad_mid er n).toInt64) 87 0 0, hx, ?_, rfl, fun _ => rfl, iv_t3 (iv_o3 h)⟩
      generalize hS1 : si_pl S 113 0 (ad_mid er n).toInt64 = S1 at am ⊢
      have e2 : S1.2.1 88 0 = nI V := by rw [← hS1]; exact hn
      have e3 : S1.2.1 88 (151 + i) = nI n := by rw [← hS1]; exact m5
      unfold f_X10_adjustment f_X10_adjustment_h31 f_X10_adjustment_h50
      rw [f10_isVisit e2 (by omega), if_pos (sm_in hi (by omega))]
      simp only [Option.bind_some, if_neg sm_10, lq_151, rd_88 (show 151 + i < 677 by omega), e3, if_neg (nI_ne0 (show 0 < n by omega) (show n < 2 ^ 31 by omega)), iv_ptc, ps_e, if_pos (Int32.le_refl 0), am]
  · refine ⟨1, 0, S, si_ps S 87 0 1, ?_, ?_, rfl, fun h => absurd h (by decide), iv_t3 h⟩
    · unfold f_L_adjustment f_X9_adjustment
      rw [f9_hasVisit hc (by omega), if_neg hno]
      rfl
    · unfold f_X10_adjustment f_X10_adjustment_h31 f_X10_adjustment_h50
      rw [f10_isVisit hn (by omega), if_neg hno]
      rfl
theorem st_testPasses {F : Nat} {x y : Int32} (hF : 11 ≤ F) : ∀ S, iv_all S → ∃ c r S1 S2, f_L_testPasses F x y S = some (c, S1) ∧ f_X10_testPasses F x y S1 = some (r, S2) ∧ S2.1 87 0 = c ∧ (c = 0 → S2.2.2.1 113 0 = if r = 0 then 0 else 1) ∧ iv_all S2 := by
  intro S h
  obtain ⟨u, mk, hmk, g0, g1, g2, g3, g4, g5, g6, g7, -⟩ := id h
  obtain ⟨⟨V, hV, hc, hn, hv⟩, hq⟩ := id g7
  have hm := iv_mkof hmk
  have no : f_X9_hasTest F x y S = some (0, S) → f_X10_isTest F x y S = some (0, S) → ∃ c r S1 S2, f_L_testPasses F x y S = some (c, S1) ∧ f_X10_testPasses F x y S1 = some (r, S2) ∧ S2.1 87 0 = c ∧ (c = 0 → S2.2.2.1 113 0 = if r = 0 then 0 else 1) ∧ iv_all S2 := by
    intro e1 e2
    refine ⟨1, 0, S, si_ps S 87 0 1, ?_, ?_, rfl, fun h => absurd h (by decide), iv_t3 h⟩
    · unfold f_L_testPasses f_X9_testPasses
      rw [e1]
      rfl
    · unfold f_X10_testPasses f_X10_testPasses_h15 f_X10_testPasses_h47 f_X10_testPasses_h48
      rw [e2, Option.bind_some, if_pos rfl, iv_ptc]
      rfl
  rcases sm_cases x V (by omega) with ⟨i, hi, rfl⟩ | hno
  · rw [hc] at g7
    obtain ⟨s, n, b, C, X, M⟩ := vd_of hm.2 g0 g1 g2 g7 hV hi
    generalize (fun t => (S.2.1 13 (8 * i + t)).toNatClampNeg) = st at C X M
    generalize (fun t => S.2.1 15 (8 * i + t)) = er at X M
    have hi30 := C.2.1
    have hn8 := C.2.2.2.1
    have m5 : S.2.1 88 (151 + i) = nI n := M.2.2.2.1
    have x5 := X.2.2.2.2.1
    rcases sm_cases y n (by omega) with ⟨j, hj, rfl⟩ | hno
    · have e1 : f_X9_hasTest F (nI i) (nI j) S = some (1, S) := by
        rw [f9_hasTest hc hV hi hn8 x5, if_pos (sm_in hj (by omega))]
      have w := vx_within (F := F) (sh := 0) C X hj
      rw [Int32.sub_zero] at w
      generalize hT : nI (vd_t u s b st j) = T at w
      have hx : f_L_testPasses F (nI i) (nI j) S = some (0, si_pl S 113 0 (if T < si_abs (er j) then 0 else 1)) := by
        unfold f_L_testPasses f_X9_testPasses f_L_testPasses_h16
        rw [e1]
        simp only [Option.bind_some, if_neg sm_10, hm.1, w, sv_bz, sv_ite, if_pos]
        have z : ∀ v, si_wl S 113 0 v = some (si_pl S 113 0 v) := fun v => wl_113 (i := 0) (by decide)
        rw [z, z]
        by_cases hlt : T < si_abs (er j)
        · rw [if_pos hlt, decide_eq_true hlt]
          rfl
        · rw [if_neg hlt, decide_eq_false hlt]
          rfl
      have M' : vd_M (si_ps (si_pl S 113 0 (if T < si_abs (er j) then 0 else 1)) 87 0 0) u i s n b st er := M
      have er1 := vm_err (F := F) C M' hF hj
      have tl1 := vm_tol (F := F) C M' hF hj
      rw [hT] at tl1
      refine ⟨0, if T < si_abs (er j) then 0 else 1, _, si_ps (si_pl S 113 0 (if T < si_abs (er j) then 0 else 1)) 87 0 0, hx, ?_, rfl, fun _ => ?_, iv_t3 (iv_o3 h)⟩
      · generalize hS1 : si_pl S 113 0 (if T < si_abs (er j) then (0 : Int64) else 1) = S1 at er1 tl1 ⊢
        have e2 : S1.2.1 88 0 = nI V := by rw [← hS1]; exact hn
        have e3 : S1.2.1 88 (151 + i) = nI n := by rw [← hS1]; exact m5
        unfold f_X10_testPasses f_X10_testPasses_h15 f_X10_testPasses_h47 f_X10_testPasses_h48
        rw [f10_isTest e2 hV hi hn8 e3, if_pos (sm_in hj (by omega))]
        simp only [Option.bind_some, if_neg sm_10, iv_ptc, ps_e, if_pos, er1, vm_size, tl1]
        by_cases hlt : T < si_abs (er j)
        · rw [if_pos hlt, if_pos hlt]
          rfl
        · rw [if_neg hlt, if_neg hlt]
          rfl
      · show (if T < si_abs (er j) then (0 : Int64) else 1) = _
        by_cases hlt : T < si_abs (er j)
        · rw [if_pos hlt, if_pos hlt, if_pos rfl]
        · rw [if_neg hlt, if_neg hlt, if_neg sm_10]
    · refine no ?_ ?_
      · rw [f9_hasTest hc hV hi hn8 x5, if_neg hno]
      · rw [f10_isTest hn hV hi hn8 m5, if_neg hno]
  · exact no (f9_hasTestN hc hV hno) (f10_isTestN hn hV hno)
