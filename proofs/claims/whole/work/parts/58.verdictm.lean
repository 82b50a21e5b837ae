-- the verdict on the other side
theorem vm_load {F i s n b t : Nat} {S : si_St} {u : Nat → Nat → Nat} {st : Nat → Nat} {er : Nat → Int32} (c : vd_C u i s n b st) (x : vd_M S u i s n b st er) (hF : 11 ≤ F) (ht : t < n) : f_X10_loadOf F (nI i) (nI t) S = some (nI (sm_sum (u 8) (u 2 0) (st t)), S) := by
  obtain ⟨g2, m1, m3, m5, mt⟩ := x
  have hn := c.2.2.2.1
  exact sm_loadOf (m := u 2 0) (f := u 8) g2.2.2.1 (vd_cap c).2.2.1 (fun i hi => g2.2.2.2.2.2.1 i hi) hF c.2.1 (by omega) (mt t ht).1
theorem vm_err {F i s n b t : Nat} {S : si_St} {u : Nat → Nat → Nat} {st : Nat → Nat} {er : Nat → Int32} (c : vd_C u i s n b st) (x : vd_M S u i s n b st er) (hF : 11 ≤ F) (ht : t < n) : f_X10_errorOf F (nI i) (nI t) S = some (er t, S) := by
  have hi := c.2.1
  have hn := c.2.2.2.1
  unfold f_X10_errorOf
  rw [li_mulL, li_addL, nI_add, Nat.add_assoc, rd_88 (by omega), Option.bind_some, vm_load c x hF ht, Option.bind_some]
  dsimp only
  rw [(x.2.2.2.2 t ht).2]
theorem vm_tol {F i s n b t : Nat} {S : si_St} {u : Nat → Nat → Nat} {st : Nat → Nat} {er : Nat → Int32} (c : vd_C u i s n b st) (x : vd_M S u i s n b st er) (hF : 11 ≤ F) (ht : t < n) : f_X10_toleranceOf F (nI i) (nI t) S = some (nI (vd_t u s b st t), S) := by
  have hi := c.2.1
  have h4 := vd_st c ht
  unfold f_X10_toleranceOf
  rw [li_addL, rd_88 (by omega), Option.bind_some, x.2.1, vm_load c x hF ht, Option.bind_some]
  dsimp only
  rw [tv_m c.1 x.1 c.2.2.1 (by omega), Option.bind_some]
  dsimp only
  rw [li_addL, rd_88 (by omega), Option.bind_some, x.2.2.1, li_addL, sm_mul]
  rfl
theorem vm_size {F : Nat} {x : Int32} {S : si_St} : f_X10_size F x S = some (si_abs x, S) := by
  unfold f_X10_size f_X10_size_h10 si_abs
  by_cases h : 0 ≤ x
  · rw [if_pos h, if_pos h]
  · rw [if_neg h, if_neg h]
    exact congrArg (fun z => some (z, S)) (by rw [Int32.sub_eq_add_neg, Int32.zero_add])
theorem vm_verdict {F i s n b : Nat} {S : si_St} {u : Nat → Nat → Nat} {st : Nat → Nat} {er : Nat → Int32} {sh : Int32} (c : vd_C u i s n b st) (x : vd_M S u i s n b st er) (hF : 11 ≤ F) : f_X10_verdictOf F (nI i) sh S = some (nI (vd_J u s n b st er sh), S) := by
  have hi := c.2.1
  have hn := c.2.2.2.1
  have hs := c.2.2.1
  obtain ⟨g2, m1, m3, m5, mt⟩ := id x
  have h := lp_go (fun t k => f_X10_verdictOf_l17 F t (nI i) sh (sv_b (vd_e st k)) (sv_b (vd_h u s st k)) (sv_b (vd_r st k)) (sv_b (!vd_f u s b st er sh k)) (sv_b (!vd_d u s b st er k)) (nI k) S) (some (nI (vd_J u s n b st er sh), S)) n (fun t => by
    show f_X10_verdictOf_h17 F (f_X10_verdictOf_l17 F t) (nI i) sh _ _ _ _ _ (nI n) S = _
    unfold f_X10_verdictOf_h17 f_X10_verdictOf_h281 vd_J
    rw [li_addL, rd_88 (by omega), Option.bind_some, m5, if_pos (Int32.le_refl _)]
    cases vd_e st n <;> cases vd_h u s st n <;> cases vd_r st n <;> cases vd_f u s b st er sh n <;> cases vd_d u s b st er n <;> rfl) (fun t k hk => by
    have h4 := vd_st c hk
    have hcap := vd_cap c
    have b4 := (g2.2.2.2.2.1 s hs).2.2.2
    show f_X10_verdictOf_h17 F (f_X10_verdictOf_l17 F t) (nI i) sh _ _ _ _ _ (nI k) S = f_X10_verdictOf_l17 F t (nI i) sh _ _ _ _ _ (nI (k + 1)) S
    have eE : vd_e st (k + 1) = (vd_e st k || decide (st k = 0)) := rfl
    have eH : vd_h u s st (k + 1) = (vd_h u s st k || decide (u 7 s ≤ 2 * sm_sum (u 8) (u 2 0) (st k))) := rfl
    have eR : vd_r st (k + 1) = (vd_r st k || sa_an (fun v => decide (st k ≠ 0 ∧ st v = st k)) k) := rfl
    have eF : vd_f u s b st er sh (k + 1) = (vd_f u s b st er sh k || decide (nI (vd_t u s b st k) < si_abs (er k - sh))) := rfl
    have eD : vd_d u s b st er (k + 1) = (vd_d u s b st er k || sa_an (fun v => decide (st v = st k ∧ nI (vd_t u s b st k) < si_abs (er k - er v))) k) := rfl
    rw [eE, eH, eR, eF, eD]
    generalize vd_e st k = e
    generalize vd_h u s st k = hf
    generalize vd_r st k = r
    generalize vd_f u s b st er sh k = f
    generalize vd_d u s b st er k = d
    -- the inner walk
    have inner : ∀ (e2 h2 f2 : Int32), f_X10_verdictOf_l139 F (f_X10_verdictOf_l17 F t) F (nI i) sh e2 h2 (sv_b r) f2 (sv_b (!d)) (nI k) (nI (st k)) 0 S = f_X10_verdictOf_l17 F t (nI i) sh e2 h2 (sv_b (r || sa_an (fun v => decide (st k ≠ 0 ∧ st v = st k)) k)) f2 (sv_b (!(d || sa_an (fun v => decide (st v = st k ∧ nI (vd_t u s b st k) < si_abs (er k - er v))) k))) (nI (k + 1)) S := by
      intro e2 h2 f2
      have hh := lp_go (fun t2 j => f_X10_verdictOf_l139 F (f_X10_verdictOf_l17 F t) t2 (nI i) sh e2 h2 (sv_b (r || sa_an (fun v => decide (st k ≠ 0 ∧ st v = st k)) j)) f2 (sv_b (!(d || sa_an (fun v => decide (st v = st k ∧ nI (vd_t u s b st k) < si_abs (er k - er v))) j))) (nI k) (nI (st k)) (nI j) S) (f_X10_verdictOf_l17 F t (nI i) sh e2 h2 (sv_b (r || sa_an (fun v => decide (st k ≠ 0 ∧ st v = st k)) k)) f2 (sv_b (!(d || sa_an (fun v => decide (st v = st k ∧ nI (vd_t u s b st k) < si_abs (er k - er v))) k))) (nI (k + 1)) S) k (fun t2 => by
        show f_X10_verdictOf_h139 F (f_X10_verdictOf_l17 F t) (f_X10_verdictOf_l139 F (f_X10_verdictOf_l17 F t) t2) (nI i) sh e2 h2 _ f2 _ (nI k) (nI (st k)) (nI k) S = _
        unfold f_X10_verdictOf_h139
        rw [if_pos (Int32.le_refl _), Option.bind_some, nI_1]) (fun t2 j hj => by
        have h5 := vd_st c (show j < n by omega)
        show f_X10_verdictOf_h139 F (f_X10_verdictOf_l17 F t) (f_X10_verdictOf_l139 F (f_X10_verdictOf_l17 F t) t2) (nI i) sh e2 h2 _ f2 _ (nI k) (nI (st k)) (nI j) S = f_X10_verdictOf_l139 F (f_X10_verdictOf_l17 F t) t2 (nI i) sh e2 h2 _ f2 _ (nI k) (nI (st k)) (nI (j + 1)) S
        have eA : sa_an (fun v => decide (st k ≠ 0 ∧ st v = st k)) (j + 1) = (sa_an (fun v => decide (st k ≠ 0 ∧ st v = st k)) j || decide (st k ≠ 0 ∧ st j = st k)) := rfl
        have eB : sa_an (fun v => decide (st v = st k ∧ nI (vd_t u s b st k) < si_abs (er k - er v))) (j + 1) = (sa_an (fun v => decide (st v = st k ∧ nI (vd_t u s b st k) < si_abs (er k - er v))) j || decide (st j = st k ∧ nI (vd_t u s b st k) < si_abs (er k - er j))) := rfl
        rw [eA, eB, ← Bool.or_assoc, ← Bool.or_assoc]
        generalize (r || sa_an (fun v => decide (st k ≠ 0 ∧ st v = st k)) j) = r1
        generalize (d || sa_an (fun v => decide (st v = st k ∧ nI (vd_t u s b st k) < si_abs (er k - er v))) j) = d1
        have s224 : ∀ a5 a7, f_X10_verdictOf_h224 F (f_X10_verdictOf_l17 F t) (f_X10_verdictOf_l139 F (f_X10_verdictOf_l17 F t) t2) (nI i) sh e2 h2 a5 f2 a7 (nI k) (nI (st k)) (nI j) S = f_X10_verdictOf_l139 F (f_X10_verdictOf_l17 F t) t2 (nI i) sh e2 h2 a5 f2 a7 (nI k) (nI (st k)) (nI (j + 1)) S := by
          intro a5 a7
          unfold f_X10_verdictOf_h224
          rw [Option.bind_some, nI_1]
        have s182 : ∀ a5, f_X10_verdictOf_h182 F (f_X10_verdictOf_l17 F t) (f_X10_verdictOf_l139 F (f_X10_verdictOf_l17 F t) t2) (nI i) sh e2 h2 f2 (sv_b (!d1)) (nI k) (nI (st k)) (nI j) a5 S = f_X10_verdictOf_l139 F (f_X10_verdictOf_l17 F t) t2 (nI i) sh e2 h2 a5 f2 (sv_b (!(d1 || decide (nI (vd_t u s b st k) < si_abs (er k - er j))))) (nI k) (nI (st k)) (nI (j + 1)) S := by
          intro a5
          unfold f_X10_verdictOf_h182 f_X10_verdictOf_h221 f_X10_verdictOf_h222
          rw [vm_err c x hF hk, Option.bind_some]
          dsimp only
          rw [vm_err c x hF (show j < n by omega), Option.bind_some]
          dsimp only
          rw [vm_size, Option.bind_some]
          dsimp only
          rw [vm_tol c x hF hk, Option.bind_some]
          dsimp only
          rw [s224, s224]
          by_cases h7 : nI (vd_t u s b st k) < si_abs (er k - er j)
          · rw [if_pos h7, decide_eq_true h7]
            cases d1 <;> rfl
          · rw [if_neg h7, decide_eq_false h7]
            cases d1 <;> rfl
        have s177 : f_X10_verdictOf_h177 F (f_X10_verdictOf_l17 F t) (f_X10_verdictOf_l139 F (f_X10_verdictOf_l17 F t) t2) (nI i) sh e2 h2 f2 (sv_b (!d1)) (nI k) (nI (st k)) (nI j) S = f_X10_verdictOf_h182 F (f_X10_verdictOf_l17 F t) (f_X10_verdictOf_l139 F (f_X10_verdictOf_l17 F t) t2) (nI i) sh e2 h2 f2 (sv_b (!d1)) (nI k) (nI (st k)) (nI j) 1 S := rfl
        unfold f_X10_verdictOf_h139
        rw [if_neg (nI_ge hj (by omega)), li_mulL, li_addL, nI_add, Nat.add_assoc, rd_88 (by omega), Option.bind_some, (mt j (by omega)).1, s177, s182, s182, s224]
        by_cases h6 : st j = st k
        · have w1 : decide (st j = st k ∧ nI (vd_t u s b st k) < si_abs (er k - er j)) = decide (nI (vd_t u s b st k) < si_abs (er k - er j)) := by
            rw [decide_eq_decide]
            exact ⟨fun h => h.2, fun h => ⟨h6, h⟩⟩
          rw [if_pos (by rw [h6]), w1]
          by_cases h0 : st k = 0
          · rw [if_pos (show nI (st k) = 0 by rw [h0]; rfl), decide_eq_false (p := st k ≠ 0 ∧ st j = st k) (fun h => h.1 h0)]
            cases r1 <;> rfl
          · rw [if_neg (nI_ne0 (by omega) (by omega)), decide_eq_true (p := st k ≠ 0 ∧ st j = st k) ⟨h0, h6⟩]
            cases r1 <;> rfl
        · rw [if_neg (sm_ne h6 (by omega) (by omega)), decide_eq_false (p := st k ≠ 0 ∧ st j = st k) (fun h => h6 h.2), decide_eq_false (p := st j = st k ∧ nI (vd_t u s b st k) < si_abs (er k - er j)) (fun h => h6 h.1), Bool.or_false, Bool.or_false]) F 0 (by omega) (by omega)
      have z1 : (r || sa_an (fun v => decide (st k ≠ 0 ∧ st v = st k)) 0) = r := Bool.or_false r
      have z2 : (d || sa_an (fun v => decide (st v = st k ∧ nI (vd_t u s b st k) < si_abs (er k - er v))) 0) = d := Bool.or_false d
      rw [z1, z2] at hh
      exact hh
    unfold f_X10_verdictOf_h17
    rw [li_addL, rd_88 (by omega), Option.bind_some, m5, if_neg (nI_ge hk (by omega)), li_mulL, li_addL, nI_add, Nat.add_assoc, rd_88 (by omega), Option.bind_some, (mt k hk).1]
    have s1 : (if sv_b e = 0 then (if nI (st k) = 0 then (f_X10_verdictOf_h59 F (f_X10_verdictOf_l17 F t) (nI i) sh (sv_b hf) (sv_b r) (sv_b (!f)) (sv_b (!d)) (nI k) (nI (st k)) S) else (f_X10_verdictOf_h64 F (f_X10_verdictOf_l17 F t) (nI i) sh (sv_b hf) (sv_b r) (sv_b (!f)) (sv_b (!d)) (nI k) (nI (st k)) 0 S)) else (f_X10_verdictOf_h59 F (f_X10_verdictOf_l17 F t) (nI i) sh (sv_b hf) (sv_b r) (sv_b (!f)) (sv_b (!d)) (nI k) (nI (st k)) S)) = f_X10_verdictOf_h64 F (f_X10_verdictOf_l17 F t) (nI i) sh (sv_b hf) (sv_b r) (sv_b (!f)) (sv_b (!d)) (nI k) (nI (st k)) (sv_b (e || decide (st k = 0))) S := by
      unfold f_X10_verdictOf_h59
      by_cases h0 : st k = 0
      · rw [if_pos (show nI (st k) = 0 by rw [h0]; rfl), decide_eq_true h0]
        cases e <;> rfl
      · rw [if_neg (nI_ne0 (by omega) (by omega)), decide_eq_false h0]
        cases e <;> rfl
    rw [s1]
    have s2 : f_X10_verdictOf_h64 F (f_X10_verdictOf_l17 F t) (nI i) sh (sv_b hf) (sv_b r) (sv_b (!f)) (sv_b (!d)) (nI k) (nI (st k)) (sv_b (e || decide (st k = 0))) S = f_X10_verdictOf_h100 F (f_X10_verdictOf_l17 F t) (nI i) sh (sv_b (e || decide (st k = 0))) (sv_b r) (sv_b (!f)) (sv_b (!d)) (nI k) (nI (st k)) (sv_b (hf || decide (u 7 s ≤ 2 * sm_sum (u 8) (u 2 0) (st k)))) S := by
      unfold f_X10_verdictOf_h64 f_X10_verdictOf_h95
      rw [vm_load c x hF hk, Option.bind_some]
      dsimp only
      rw [li_addL, rd_88 (by omega), Option.bind_some, m1, rd_92 (by omega), Option.bind_some, b4, li_mulL]
      by_cases h0 : u 7 s ≤ 2 * sm_sum (u 8) (u 2 0) (st k)
      · rw [if_neg (nI_nlt h0 (by omega)), decide_eq_true h0]
        cases hf <;> rfl
      · rw [if_pos (nI_lt (show 2 * sm_sum (u 8) (u 2 0) (st k) < u 7 s by omega) (by omega)), decide_eq_false h0]
        cases hf <;> rfl
    rw [s2]
    have s3 : ∀ e2 h2, f_X10_verdictOf_h100 F (f_X10_verdictOf_l17 F t) (nI i) sh e2 (sv_b r) (sv_b (!f)) (sv_b (!d)) (nI k) (nI (st k)) h2 S = f_X10_verdictOf_h134 F (f_X10_verdictOf_l17 F t) (nI i) sh e2 h2 (sv_b r) (sv_b (!d)) (nI k) (nI (st k)) (sv_b (!(f || decide (nI (vd_t u s b st k) < si_abs (er k - sh))))) S := by
      intro e2 h2
      unfold f_X10_verdictOf_h100 f_X10_verdictOf_h133
      rw [vm_err c x hF hk, Option.bind_some]
      dsimp only
      rw [vm_size, Option.bind_some]
      dsimp only
      rw [vm_tol c x hF hk, Option.bind_some]
      dsimp only
      by_cases h7 : nI (vd_t u s b st k) < si_abs (er k - sh)
      · rw [if_pos h7, decide_eq_true h7]
        cases f <;> rfl
      · rw [if_neg h7, decide_eq_false h7]
        cases f <;> rfl
    rw [s3]
    exact inner _ _ _) F 0 (by omega) (by omega)
  exact h
/-- the picture of a visit on both sides -/
theorem vd_of {S : si_St} {u : Nat → Nat → Nat} {mk V i : Nat} (hm : mk = 69 ∨ mk = 78) (g0 : iv_mok u) (g1 : iv_mk (S.1 mk) (fun j => S.2.1 (mk + j)) u) (g2 : iv_mm (S.1 87) S.2.1 u) (hv : iv_view u (nI V) (fun j => S.2.1 (7 + j)) (fun j => S.2.1 (16 + j)) (S.2.1 88)) (hV : V ≤ 30) (hi : i < V) : ∃ s n b, vd_C u i s n b (fun t => (S.2.1 13 (8 * i + t)).toNatClampNeg) ∧ vd_X S mk u i s n b (fun t => (S.2.1 13 (8 * i + t)).toNatClampNeg) (fun t => S.2.1 15 (8 * i + t)) ∧ vd_M S u i s n b (fun t => (S.2.1 13 (8 * i + t)).toNatClampNeg) (fun t => S.2.1 15 (8 * i + t)) := by
  obtain ⟨⟨V2, hV2, hc, hn, hv⟩, -⟩ := hv
  have hVV : V = V2 := sm_inj (by omega) (by omega) hc
  subst hVV
  obtain ⟨⟨s, hs, a1, m1, n, hn8, a5, m5, ht⟩, -, ⟨b, hb, a3, m3⟩, -⟩ := hv i hi
  have h2 : 2 ^ u 2 0 ≤ 2 ^ 10 := Nat.pow_le_pow_right (by decide) g0.2.2.1
  have key : ∀ t, t < n → ∃ st, (S.2.1 13 (8 * i + t)).toNatClampNeg = st ∧ st < 2 ^ u 2 0 ∧ sm_sum (u 8) (u 2 0) st ≤ u 7 s ∧ S.2.1 13 (8 * i + t) = nI st ∧ S.2.1 88 (181 + (8 * i + t)) = nI st ∧ S.2.1 14 (8 * i + t) = nI (sm_sum (u 8) (u 2 0) st) ∧ S.2.1 15 (8 * i + t) = S.2.1 88 (421 + (8 * i + t)) - nI (sm_sum (u 8) (u 2 0) st) := by
    intro t htn
    obtain ⟨st, p1, p2, p3, p4, p5, -, -, p8⟩ := ht t htn
    have p3' : S.2.1 13 (8 * i + t) = nI st := p3
    exact ⟨st, by rw [p3', nI_clamp (by omega)], p1, p2, p3, p4, p5, p8⟩
  refine ⟨s, n, b, ⟨g0, by omega, hs, hn8, hb, fun t htn => ?_⟩, ⟨hm, g1, a1, a3, a5, fun t htn => ?_⟩, ⟨g2, m1, m3, m5, fun t htn => ?_⟩⟩
  · obtain ⟨st, e, p1, p2, -⟩ := key t htn
    dsimp only
    rw [e]
    exact ⟨p1, p2⟩
  · obtain ⟨st, e, p1, p2, p3, p4, p5, p8⟩ := key t htn
    dsimp only
    rw [e]
    exact ⟨p3, p5, rfl⟩
  · obtain ⟨st, e, p1, p2, p3, p4, p5, p8⟩ := key t htn
    dsimp only
    rw [e]
    exact ⟨p4, p8.symm⟩
theorem st_verdict {F : Nat} {x : Int32} (hF : 11 ≤ F) : st_ok (f_X9_verdict F x) (f_X10_verdict F x) := by
  intro S h
  obtain ⟨u, mk, hmk, g0, g1, g2, g3, g4, g5, g6, g7, -⟩ := id h
  obtain ⟨⟨V, hV, hc, hn, hv⟩, hq⟩ := id g7
  have e := h.go (iv_th S)
  have hm := iv_mkof hmk
  rcases sm_cases x V (by omega) with ⟨i, hi, rfl⟩ | hno
  · rw [hc] at g7
    obtain ⟨s, n, b, C, X, M⟩ := vd_of hm.2 g0 g1 g2 g7 hV hi
    refine ⟨nI (vd_J u s n b (fun t => (S.2.1 13 (8 * i + t)).toNatClampNeg) (fun t => S.2.1 15 (8 * i + t)) 0), S, si_ps S 87 0 0, ?_, ?_, e⟩
    · unfold f_X9_verdict f_X9_verdict_h25
      rw [f9_hasVisit hc (by omega), if_pos (sm_in hi (by omega))]
      simp only [Option.bind_some, if_neg sm_10, hm.1, vx_judge C X (show 10 ≤ F by omega)]
    · have M' : vd_M (si_ps S 87 0 0) u i s n b (fun t => (S.2.1 13 (8 * i + t)).toNatClampNeg) (fun t => S.2.1 15 (8 * i + t)) := M
      unfold f_X10_verdict f_X10_verdict_h23
      rw [iv_pt0, Option.bind_some, f10_isVisit (S := si_ps S 87 0 0) (n := V) hn (by omega), if_pos (sm_in hi (by omega))]
      simp only [Option.bind_some, if_neg sm_10, vm_verdict C M' hF]
  · refine ⟨-1, S, si_ps S 87 0 0, ?_, ?_, e⟩
    · unfold f_X9_verdict f_X9_verdict_h25
      rw [f9_hasVisit hc (by omega), if_neg hno]
      rfl
    · unfold f_X10_verdict f_X10_verdict_h23
      rw [iv_pt0, Option.bind_some, f10_isVisit (S := si_ps S 87 0 0) (n := V) hn (by omega), if_neg hno]
      rfl
