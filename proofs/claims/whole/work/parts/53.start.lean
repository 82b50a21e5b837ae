-- startVisit: the loops
theorem sv_last {F V : Nat} {x y : Int32} {S : si_St} (hc : S.1 7 0 = nI V) (hV : V ≤ 30) : ∀ n k r, k ≤ V → V < n + k → (r ≤ y ↔ sa_an (fun v => decide (S.2.1 8 v = x ∧ ¬ S.2.1 9 v ≤ y)) k = false) → ∃ r', f_X7_lastDayOf_l4 F n x r (nI k) S = some (r', S) ∧ (r' ≤ y ↔ sa_an (fun v => decide (S.2.1 8 v = x ∧ ¬ S.2.1 9 v ≤ y)) V = false)
  | 0, k, r, h1, h2, _ => absurd h2 (by omega)
  | n + 1, k, r, h1, h2, h3 => by
    by_cases hk : k = V
    · subst hk
      refine ⟨r, ?_, h3⟩
      show f_X7_lastDayOf_h4 F (f_X7_lastDayOf_l4 F n) x r (nI k) S = _
      unfold f_X7_lastDayOf_h4
      rw [hc, if_pos (Int32.le_refl _)]
    · by_cases hx : S.2.1 8 k = x
      · obtain ⟨r', e, h⟩ := sv_last hc hV n (k + 1) (si_max r (S.2.1 9 k)) (by omega) (by omega) (by
          show si_max r (S.2.1 9 k) ≤ y ↔ (sa_an (fun v => decide (S.2.1 8 v = x ∧ ¬ S.2.1 9 v ≤ y)) k || decide (S.2.1 8 k = x ∧ ¬ S.2.1 9 k ≤ y)) = false
          rw [sa_max, Bool.or_eq_false_iff, h3, decide_eq_false_iff_not]
          constructor
          · exact fun h => ⟨h.1, fun h2 => h2.2 h.2⟩
          · exact fun h => ⟨h.1, Decidable.not_not.mp (fun h2 => h.2 ⟨hx, h2⟩)⟩)
        refine ⟨r', ?_, h⟩
        rw [← e]
        show f_X7_lastDayOf_h4 F (f_X7_lastDayOf_l4 F n) x r (nI k) S = _
        unfold f_X7_lastDayOf_h4 f_X7_lastDayOf_h33
        rw [hc, if_neg (nI_ge (show k < V by omega) (by omega)), rd_8 (by omega), Option.bind_some, if_pos hx, rd_9 (by omega), Option.bind_some, Option.bind_some, Option.bind_some, nI_1]
      · obtain ⟨r', e, h⟩ := sv_last hc hV n (k + 1) r (by omega) (by omega) (by
          show r ≤ y ↔ (sa_an (fun v => decide (S.2.1 8 v = x ∧ ¬ S.2.1 9 v ≤ y)) k || decide (S.2.1 8 k = x ∧ ¬ S.2.1 9 k ≤ y)) = false
          rw [Bool.or_eq_false_iff, h3, decide_eq_false_iff_not]
          exact ⟨fun h => ⟨h, fun h2 => hx h2.1⟩, fun h => h.1⟩)
        refine ⟨r', ?_, h⟩
        rw [← e]
        show f_X7_lastDayOf_h4 F (f_X7_lastDayOf_l4 F n) x r (nI k) S = _
        unfold f_X7_lastDayOf_h4 f_X7_lastDayOf_h33
        rw [hc, if_neg (nI_ge (show k < V by omega) (by omega)), rd_8 (by omega), Option.bind_some, if_neg hx, Option.bind_some, nI_1]
theorem sv_open {F V : Nat} {x : Int32} {S : si_St} (hc : S.1 7 0 = nI V) (hV : V ≤ 30) : ∀ n k, k ≤ V → V < n + k → sa_an (fun v => decide (S.2.1 8 v = x ∧ S.2.1 11 v = -1)) k = false → f_X7_hasOpenVisit_l2 F n x (nI k) S = some (if sa_an (fun v => decide (S.2.1 8 v = x ∧ S.2.1 11 v = -1)) V = true then 1 else 0, S)
  | 0, k, h1, h2, _ => absurd h2 (by omega)
  | n + 1, k, h1, h2, h3 => by
    show f_X7_hasOpenVisit_h2 F (f_X7_hasOpenVisit_l2 F n) x (nI k) S = _
    unfold f_X7_hasOpenVisit_h2 f_X7_hasOpenVisit_h30
    by_cases hk : k = V
    · subst hk
      rw [hc, if_pos (Int32.le_refl _), h3]
      rfl
    · rw [hc, if_neg (nI_ge (show k < V by omega) (by omega)), rd_8 (by omega), Option.bind_some]
      by_cases hx : S.2.1 8 k = x
      · rw [if_pos hx, f9_isOpen (show k < 30 by omega), Option.bind_some]
        by_cases h4 : S.2.1 11 k = -1
        · rw [sa_an_hit (p := fun v => decide (S.2.1 8 v = x ∧ S.2.1 11 v = -1)) (n := V) (k := k) (by omega) (decide_eq_true ⟨hx, h4⟩)]
          simp only [if_pos h4]
          rfl
        · simp only [if_neg h4, Option.bind_some, if_pos, nI_1]
          refine sv_open hc hV n (k + 1) (by omega) (by omega) ?_
          show (sa_an _ k || decide _) = false
          rw [h3, Bool.false_or, decide_eq_false (fun h => h4 h.2)]
      · rw [if_neg hx, Option.bind_some, nI_1]
        refine sv_open hc hV n (k + 1) (by omega) (by omega) ?_
        show (sa_an _ k || decide _) = false
        rw [h3, Bool.false_or, decide_eq_false (fun h => hx h.1)]
theorem sv_pass {F V : Nat} {x : Int32} {S : si_St} (hc : S.1 7 0 = nI V) (hV : V ≤ 30) : ∀ n k, k ≤ V → V < n + k → sa_an (fun v => decide (S.2.1 8 v = x ∧ S.2.1 11 v = 0)) k = false → f_X7_hasPassed_l2 F n x (nI k) S = some (if sa_an (fun v => decide (S.2.1 8 v = x ∧ S.2.1 11 v = 0)) V = true then 1 else 0, S)
  | 0, k, h1, h2, _ => absurd h2 (by omega)
  | n + 1, k, h1, h2, h3 => by
    show f_X7_hasPassed_h2 F (f_X7_hasPassed_l2 F n) x (nI k) S = _
    unfold f_X7_hasPassed_h2 f_X7_hasPassed_h31
    by_cases hk : k = V
    · subst hk
      rw [hc, if_pos (Int32.le_refl _), h3]
      rfl
    · rw [hc, if_neg (nI_ge (show k < V by omega) (by omega)), rd_8 (by omega), Option.bind_some]
      by_cases hx : S.2.1 8 k = x
      · rw [if_pos hx, rd_11 (show k < 30 by omega), Option.bind_some]
        by_cases h4 : S.2.1 11 k = 0
        · rw [sa_an_hit (p := fun v => decide (S.2.1 8 v = x ∧ S.2.1 11 v = 0)) (n := V) (k := k) (by omega) (decide_eq_true ⟨hx, h4⟩), if_pos h4]
          rfl
        · rw [if_neg h4, Option.bind_some, nI_1]
          refine sv_pass hc hV n (k + 1) (by omega) (by omega) ?_
          show (sa_an _ k || decide _) = false
          rw [h3, Bool.false_or, decide_eq_false (fun h => h4 h.2)]
      · rw [if_neg hx, Option.bind_some, nI_1]
        refine sv_pass hc hV n (k + 1) (by omega) (by omega) ?_
        show (sa_an _ k || decide _) = false
        rw [h3, Bool.false_or, decide_eq_false (fun h => hx h.1)]
/-- the other side's end of the walk -/
def sv_E (F : Nat) (x1 x2 x3 x4 : Int32) (S : si_St) : Option (Int32 × si_St) := if x3 = 0 then (Option.bind (si_rd S 88 0) fun v5 => if v5 = 30 then (some ((-3), S)) else (Option.bind (f_X10_keeps F S) fun S6 => Option.bind (si_wr S6 88 (1 + v5) x1) fun S7 => Option.bind (si_wr S7 88 (31 + v5) x2) fun S8 => Option.bind (si_wr S8 88 (61 + v5) 0) fun S9 => Option.bind (si_wr S9 88 (91 + v5) 0) fun S10 => Option.bind (si_wr S10 88 (121 + v5) x4) fun S11 => Option.bind (si_wr S11 88 (151 + v5) 0) fun S12 => Option.bind (si_rd S12 88 0) fun v13 => Option.bind (si_wr S12 88 0 (v13 + 1)) fun S14 => some (v5, S14))) else (some ((-2), S))
def sv_b (b : Bool) : Int32 := if b = true then 1 else 0
theorem sv_bor (a b : Bool) : sv_b (a || b) = if a = true then 1 else sv_b b := by cases a <;> rfl
theorem sv_b0 (a : Bool) : sv_b a = 0 ↔ a = false := by cases a <;> decide
theorem sv_walk {F V : Nat} {x y : Int32} {S : si_St} (hc : S.2.1 88 0 = nI V) (hV : V ≤ 30) : ∀ n k, k ≤ V → V < n + k → sa_an (fun v => decide (S.2.1 88 (1 + v) = x ∧ ¬ S.2.1 88 (31 + v) ≤ y)) k = false → f_X10_startVisit_l35 F n x y (sv_b (sa_an (fun v => decide (S.2.1 88 (1 + v) = x ∧ S.2.1 88 (61 + v) = 0)) k)) (sv_b (sa_an (fun v => decide (S.2.1 88 (1 + v) = x ∧ S.2.1 88 (61 + v) = 1 ∧ S.2.1 88 (91 + v) = 0)) k)) (nI k) S = if sa_an (fun v => decide (S.2.1 88 (1 + v) = x ∧ ¬ S.2.1 88 (31 + v) ≤ y)) V = true then some (-1, S) else sv_E F x y (sv_b (sa_an (fun v => decide (S.2.1 88 (1 + v) = x ∧ S.2.1 88 (61 + v) = 0)) V)) (sv_b (sa_an (fun v => decide (S.2.1 88 (1 + v) = x ∧ S.2.1 88 (61 + v) = 1 ∧ S.2.1 88 (91 + v) = 0)) V)) S
  | 0, k, h1, h2, _ => absurd h2 (by omega)
  | n + 1, k, h1, h2, h3 => by
    by_cases hk : k = V
    · subst hk
      rw [h3, if_neg (by decide)]
      show f_X10_startVisit_h35 F (f_X10_startVisit_l35 F n) x y _ _ (nI k) S = _
      unfold f_X10_startVisit_h35
      rw [rd_88z, Option.bind_some, hc, if_pos (Int32.le_refl _)]
      unfold sv_E
      rw [rd_88z, hc]
    · have ih := sv_walk (F := F) (x := x) (y := y) hc hV n (k + 1) (by omega) (by omega)
      generalize hz : (if sa_an (fun v => decide (S.2.1 88 (1 + v) = x ∧ ¬ S.2.1 88 (31 + v) ≤ y)) V = true then some ((-1 : Int32), S) else sv_E F x y (sv_b (sa_an (fun v => decide (S.2.1 88 (1 + v) = x ∧ S.2.1 88 (61 + v) = 0)) V)) (sv_b (sa_an (fun v => decide (S.2.1 88 (1 + v) = x ∧ S.2.1 88 (61 + v) = 1 ∧ S.2.1 88 (91 + v) = 0)) V)) S) = z at ih ⊢
      generalize hA : sa_an (fun v => decide (S.2.1 88 (1 + v) = x ∧ S.2.1 88 (61 + v) = 0)) k = A
      generalize hB : sa_an (fun v => decide (S.2.1 88 (1 + v) = x ∧ S.2.1 88 (61 + v) = 1 ∧ S.2.1 88 (91 + v) = 0)) k = B
      have i1 : sa_an (fun v => decide (S.2.1 88 (1 + v) = x ∧ ¬ S.2.1 88 (31 + v) ≤ y)) (k + 1) = (sa_an (fun v => decide (S.2.1 88 (1 + v) = x ∧ ¬ S.2.1 88 (31 + v) ≤ y)) k || decide (S.2.1 88 (1 + k) = x ∧ ¬ S.2.1 88 (31 + k) ≤ y)) := rfl
      have i2 : sa_an (fun v => decide (S.2.1 88 (1 + v) = x ∧ S.2.1 88 (61 + v) = 0)) (k + 1) = (sa_an (fun v => decide (S.2.1 88 (1 + v) = x ∧ S.2.1 88 (61 + v) = 0)) k || decide (S.2.1 88 (1 + k) = x ∧ S.2.1 88 (61 + k) = 0)) := rfl
      have i3 : sa_an (fun v => decide (S.2.1 88 (1 + v) = x ∧ S.2.1 88 (61 + v) = 1 ∧ S.2.1 88 (91 + v) = 0)) (k + 1) = (sa_an (fun v => decide (S.2.1 88 (1 + v) = x ∧ S.2.1 88 (61 + v) = 1 ∧ S.2.1 88 (91 + v) = 0)) k || decide (S.2.1 88 (1 + k) = x ∧ S.2.1 88 (61 + k) = 1 ∧ S.2.1 88 (91 + k) = 0)) := rfl
      rw [i1, i2, i3, h3, hA, hB, Bool.false_or, decide_eq_false_iff_not] at ih
      show f_X10_startVisit_h35 F (f_X10_startVisit_l35 F n) x y _ _ (nI k) S = _
      unfold f_X10_startVisit_h35 f_X10_startVisit_h136
      rw [rd_88z, Option.bind_some, hc, if_neg (nI_ge (show k < V by omega) (by omega)), li_addL, rd_88 (by omega), Option.bind_some]
      by_cases hx : S.2.1 88 (1 + k) = x
      · rw [if_pos hx, li_addL, rd_88 (by omega), Option.bind_some]
        by_cases hy : S.2.1 88 (31 + k) ≤ y
        · have ih2 := ih (fun h => h.2 hy)
          rw [if_pos hy]
          have s1 : ∀ t0, f_X10_startVisit_h100 F (f_X10_startVisit_l35 F n) x y (sv_b B) (nI k) t0 S = f_X10_startVisit_l35 F n x y t0 (sv_b (B || decide (S.2.1 88 (1 + k) = x ∧ S.2.1 88 (61 + k) = 1 ∧ S.2.1 88 (91 + k) = 0))) (nI (k + 1)) S := by
            intro t0
            unfold f_X10_startVisit_h100 f_X10_startVisit_h132 f_X10_startVisit_h134 f_X10_startVisit_h136
            rw [li_addL, rd_88 (by omega), Option.bind_some]
            by_cases h61 : S.2.1 88 (61 + k) = 1
            · rw [if_pos h61, li_addL, rd_88 (by omega), Option.bind_some]
              by_cases h91 : S.2.1 88 (91 + k) = 0
              · rw [if_pos h91, Option.bind_some, nI_1, decide_eq_true ⟨hx, h61, h91⟩, Bool.or_true]
                rfl
              · rw [if_neg h91, Option.bind_some, nI_1, decide_eq_false (fun h => h91 h.2.2), Bool.or_false]
            · rw [if_neg h61, Option.bind_some, nI_1, decide_eq_false (fun h => h61 h.2.1), Bool.or_false]
          have s2 : f_X10_startVisit_h95 F (f_X10_startVisit_l35 F n) x y (sv_b B) (nI k) S = f_X10_startVisit_h100 F (f_X10_startVisit_l35 F n) x y (sv_b B) (nI k) 1 S := rfl
          rw [s2, li_addL, rd_88 (by omega), Option.bind_some, s1, s1, ← ih2]
          by_cases hA0 : sv_b A = 0
          · rw [if_pos hA0, (sv_b0 A).mp hA0, Bool.false_or]
            by_cases h0 : S.2.1 88 (61 + k) = 0
            · rw [if_pos h0, decide_eq_true (p := S.2.1 88 (1 + k) = x ∧ S.2.1 88 (61 + k) = 0) ⟨hx, h0⟩]
              rfl
            · rw [if_neg h0, decide_eq_false (p := S.2.1 88 (1 + k) = x ∧ S.2.1 88 (61 + k) = 0) (fun h => h0 h.2)]
              rfl
          · have hA1 : A = true := ts_nf (fun h => hA0 ((sv_b0 A).mpr h))
            rw [if_neg hA0, hA1, Bool.true_or]
            rfl
        · rw [if_neg hy, ← hz, sa_an_hit (p := fun v => decide (S.2.1 88 (1 + v) = x ∧ ¬ S.2.1 88 (31 + v) ≤ y)) (n := V) (k := k) (by omega) (decide_eq_true ⟨hx, hy⟩), if_pos rfl]
      · rw [if_neg hx, Option.bind_some, nI_1]
        have ih2 := ih (fun h => hx h.1)
        rw [decide_eq_false (p := S.2.1 88 (1 + k) = x ∧ S.2.1 88 (61 + k) = 0) (fun h => hx h.1), decide_eq_false (p := S.2.1 88 (1 + k) = x ∧ S.2.1 88 (61 + k) = 1 ∧ S.2.1 88 (91 + k) = 0) (fun h => hx h.1), Bool.or_false, Bool.or_false] at ih2
        exact ih2
