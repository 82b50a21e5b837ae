-- ALL STATEMENTS OF A MARKET, READ
def nTr (ms : List (Nat × List Nat)) (t : Nat) : Prop := ∀ x ∈ ms, okS t x
-- what the reader knows of a draft after some statements: traders, sets
def kn (u : Nat → Nat → Nat) (t a b : Nat) (se : List (Nat × Nat)) (z : Nat) : Prop := u 0 0 = t ∧ u 1 0 ≤ a ∧ u 2 0 ≤ b ∧ u 3 0 = se.length ∧ (∀ i, i < se.length → u 9 i = (se.getD i (0, 0)).1 ∧ u 10 i = (se.getD i (0, 0)).2) ∧ (z = 0 → u 11 1 = 0)
theorem us_sets {u : Nat → Nat → Nat} {a b d e : Nat} {j i : Nat} (h : j = 0 ∨ j = 2 ∨ j = 3 ∨ 8 ≤ j) : us u a b d e j i = u j i := us_o (by omega) (by omega)
theorem rl_go {F k N : Nat} {A A' : si_St} {x3 : Nat} {n : Nat} (hx : x3 < N) (hN : N ≤ 800) (h3 : A.1 1 3 = 0) (h7 : ¬ A.1 1 7 = 0) (e : f_X3_readStatement F k A = some A') : f_X3_readMarket_l31 F k (n + 1) (nI N) (nI x3) A = f_X3_readMarket_l31 F k n (nI N) (nI (x3 + 1)) A' := by
  show f_X3_readMarket_h31 F k (f_X3_readMarket_l31 F k n) (nI N) (nI x3) A = _
  unfold f_X3_readMarket_h31
  rw [if_neg (fun h => by have := (nI_leI (by omega) (by omega)).mp h; omega), if_neg h7, if_pos h3, e, Option.bind_some, Option.bind_some, nI_1]
theorem stx_pos (x : Nat × List Nat) : ∃ w L, stx x = w :: L ∧ tk_lt w = true := by
  unfold stx
  split
  · exact ⟨_, _, rfl, rfl⟩
  · exact ⟨_, _, rfl, rfl⟩
  · exact ⟨_, _, rfl, rfl⟩
  · exact ⟨_, _, rfl, rfl⟩
  · exact ⟨_, _, rfl, rfl⟩
theorem rd_.kind {k N p w : Nat} {c : Nat → Nat} {A : si_St} {L : List Nat} {u : Nat → Nat → Nat} (h : rd_ k N c A p (w :: L) u) (hN : N ≤ 800) (hw : tk_lt w = true) : ¬ A.1 1 7 = 0 := by
  have h7 : A.1 1 7 = nI (pt c N p).2.2 := h.2.2.2.2.2.2.2.1
  have wf := h.wf
  obtain ⟨-, h2, h3⟩ := at_cons h.1
  have e := tok_st h.1 (tk_lt_bl hw)
  have : (pt c N p).2.2 ≠ 0 := by
    unfold pt
    rw [e, if_neg (by omega), h2, if_pos hw]
    show (if _ ≤ 8 then 1 else 4) ≠ 0
    split <;> decide
  rw [h7]
  exact nI_ne0 (by omega) (by have := wf.2.2.2.1; omega)
-- a list of statements of one kind, by the theorem of its statement
theorem rl_list {k N F : Nat} {c : Nat → Nat} (X : cx N F c k) (Q : Nat → (Nat → Nat → Nat) → Prop) (ms : List (Nat × List Nat)) (R : List Nat) (hst : ∀ i, i < ms.length → ∀ (A : si_St) (p : Nat) (L : List Nat) (u : Nat → Nat → Nat), rd_ k N c A p (stx (ms.getD i (0, [])) ++ L) u → iv_mok u → Q i u → ∃ A' u', f_X3_readStatement F k A = some A' ∧ fA k A A' ∧ rd_ k N c A' (p + (stx (ms.getD i (0, []))).length) L u' ∧ iv_mok u' ∧ Q (i + 1) u') : ∀ m i, ms.length = i + m → ∀ (A : si_St) (p x3 n : Nat) (u : Nat → Nat → Nat), x3 ≤ p → rd_ k N c A p ((ms.drop i).flatMap stx ++ R) u → iv_mok u → Q i u → ∃ A' p' x3' u', f_X3_readMarket_l31 F k (n + m) (nI N) (nI x3) A = f_X3_readMarket_l31 F k n (nI N) (nI x3') A' ∧ fA k A A' ∧ rd_ k N c A' p' R u' ∧ iv_mok u' ∧ Q ms.length u' ∧ x3' ≤ p' := by
  intro m
  induction m with
  | zero =>
    intro i hi A p x3 n u hx h o q
    rw [show ms.drop i = [] from List.drop_eq_nil_of_le (by omega), List.flatMap_nil, List.nil_append] at h
    exact ⟨A, p, x3, u, rfl, fA.rf A, h, o, by rw [hi]; exact q, hx⟩
  | succ m ih =>
    intro i hi A p x3 n u hx h o q
    have hd : ms.drop i = ms.getD i (0, []) :: ms.drop (i + 1) := by
      rw [List.getD_eq_getElem?_getD, List.getElem?_eq_getElem (by omega), Option.getD_some]
      exact List.drop_eq_getElem_cons (by omega)
    rw [hd, List.flatMap_cons, List.append_assoc] at h
    obtain ⟨A1, u1, a1, a2, a3, a4, a5⟩ := hst i (by omega) A p _ u h o q
    obtain ⟨w, W, hw, hw2⟩ := stx_pos (ms.getD i (0, []))
    have hpos : 1 ≤ (stx (ms.getD i (0, []))).length := by rw [hw, List.length_cons]; omega
    have hpN := a3.1.1
    have h7 : ¬ A.1 1 7 = 0 := by
      rw [hw, List.cons_append] at h
      exact h.kind X.1 hw2
    obtain ⟨A', p', x3', u', b1, b2, b3, b4, b5, b6⟩ := ih (i + 1) (by omega) A1 _ (x3 + 1) n u1 (by omega) a3 a4 a5
    refine ⟨A', p', x3', u', ?_, a2.tr b2, b3, b4, b5, b6⟩
    rw [show n + (m + 1) = n + m + 1 by omega, rl_go (by omega) X.1 h.2.1 h7 a1, b1]
theorem rl_end {k N F p x3 n : Nat} {c : Nat → Nat} {A : si_St} {u : Nat → Nat → Nat} (X : cx N F c k) (h : rd_ k N c A p [] u) (hx : x3 ≤ p) : f_X3_readMarket_l31 F k (n + 1) (nI N) (nI x3) A = some (0, A) := by
  show f_X3_readMarket_h31 F k (f_X3_readMarket_l31 F k n) (nI N) (nI x3) A = _
  have h7 : A.1 1 7 = nI (pt c N p).2.2 := h.2.2.2.2.2.2.2.1
  rw [tok_end h.1] at h7
  have h7 : A.1 1 7 = 0 := h7
  unfold f_X3_readMarket_h31 f_X3_readMarket_h61
  rw [h.2.1, if_pos h7]
  split <;> rfl
theorem rl_all {k N F t : Nat} {c : Nat → Nat} {A : si_St} {ms : List (Nat × List Nat)} {se : List (Nat × Nat)} {tm : List Nat} (X : cx N F c k) (ok : okM t ms se tm) (h : rd_ k N c A 0 ((MST t ms se tm).flatMap stx) uz) : ∃ A' u, f_X3_readMarket_l31 F k F (nI N) 0 A = some (0, A') ∧ fA k A A' ∧ iv_mk (A'.1 k) (fun j => A'.2.1 (k + j)) u ∧ iv_mok u ∧ kn u t 4 6 se tm.length := by
  obtain ⟨⟨t1, t3⟩, ⟨sc, ma, hms, ⟨sc1, sc4⟩, ma6, hsc, hma⟩, ⟨⟨se1, se2⟩, hse⟩, tm1, htm⟩ := ok
  unfold MST at h
  rw [hms] at h
  simp only [List.flatMap_append, List.append_assoc] at h
  have hF := X.2.1
  obtain ⟨f, hf⟩ : ∃ f, F = f + 1 + tm.length + se.length + ma.length + sc.length + t := ⟨F - 1 - tm.length - se.length - ma.length - sc.length - t, by omega⟩
  have e0 : f_X3_readMarket_l31 F k F (nI N) 0 A = f_X3_readMarket_l31 F k (f + 1 + tm.length + se.length + ma.length + sc.length + t) (nI N) (nI 0) A := by rw [← hf]; rfl
  rw [e0]
  -- traders
  have ht : ∀ i, i < (List.replicate t ((0, []) : Nat × List Nat)).length → (List.replicate t ((0, []) : Nat × List Nat)).getD i (0, []) = (0, []) := fun i hi => by
    rw [List.length_replicate] at hi
    rw [List.getD_eq_getElem?_getD, List.getElem?_replicate, if_pos hi]
    rfl
  obtain ⟨A1, p1, x1, u1, a1, a2, a3, a4, a5, a6⟩ := rl_list X (fun i u => kn u i 0 0 [] 0) (List.replicate t (0, [])) _ (fun i hi A p L u h o q => by
    rw [ht i hi] at h ⊢
    rw [List.length_replicate] at hi
    obtain ⟨q1, q2, q3, q4, q5, q6⟩ := q
    obtain ⟨A', b1, b2, b3, b4⟩ := rs_trader X h o (by omega)
    exact ⟨A', _, b1, b2, b3, b4, by rw [uu_e, q1], q2, q3, q4, q5, q6⟩) t 0 (by rw [List.length_replicate]; omega) A 0 0 (f + 1 + tm.length + se.length + ma.length + sc.length) uz (Nat.le_refl 0) (by rw [List.drop_zero]; exact h) uz_ok ⟨rfl, Nat.zero_le _, Nat.zero_le _, rfl, fun i hi => absurd hi (Nat.not_lt_zero _), fun _ => rfl⟩
  rw [a1]
  rw [List.length_replicate] at a5
  have a5 : kn u1 t 0 0 [] 0 := a5
  -- scales
  have gm : ∀ (l : List (Nat × List Nat)) i, i < l.length → l.getD i (0, []) ∈ l := fun l i hi => by
    rw [List.getD_eq_getElem?_getD, List.getElem?_eq_getElem hi]
    exact List.getElem_mem _
  obtain ⟨A2, p2, x2, u2, b1, b2, b3, b4, b5, b6⟩ := rl_list X (fun i u => kn u t i 0 [] 0) sc _ (fun i hi A p L u h o q => by
    obtain ⟨o1, a, b, d, e, he⟩ := hsc _ (gm sc i hi)
    rw [he] at h o1 ⊢
    obtain ⟨q1, q2, q3, q4, q5, q6⟩ := q
    obtain ⟨A', b1, b2, b3, b4⟩ := rs_scale X h o (by omega) (by rw [q1]; exact o1)
    refine ⟨A', _, b1, b2, b3, b4, by rw [us_sets (by omega)]; exact q1, ?_, by rw [us_sets (by omega)]; exact q3, by rw [us_sets (by omega)]; exact q4, fun i hi => absurd hi (Nat.not_lt_zero _), fun _ => by rw [us_sets (by omega)]; exact q6 rfl⟩
    rw [us_n.1]; omega) sc.length 0 (by omega) A1 p1 x1 (f + 1 + tm.length + se.length + ma.length) u1 a6 (by rw [List.drop_zero]; exact a3) a4 a5
  rw [b1]
  have b5 : kn u2 t sc.length 0 [] 0 := b5
  -- masses
  obtain ⟨A3, p3, x3, u3, c1, c2, c3, c4, c5, c6⟩ := rl_list X (fun i u => kn u t 4 i [] 0) ma _ (fun i hi A p L u h o q => by
    obtain ⟨o1, a, b, d, he⟩ := hma _ (gm ma i hi)
    rw [he] at h o1 ⊢
    obtain ⟨q1, q2, q3, q4, q5, q6⟩ := q
    obtain ⟨A', x, b1, b2, b3, b4⟩ := rs_mass X h o (by omega) o1
    have m0 : ∀ j i, j ≠ 2 → j ≠ 8 → um u x j i = u j i := fun j i h1 h2 => um_o (by omega) (by omega)
    refine ⟨A', _, b1, b2, b3, b4, by rw [m0 _ _ (by omega) (by omega)]; exact q1, by rw [m0 _ _ (by omega) (by omega)]; exact q2, ?_, by rw [m0 _ _ (by omega) (by omega)]; exact q4, fun i hi => absurd hi (Nat.not_lt_zero _), fun _ => by rw [m0 _ _ (by omega) (by omega)]; exact q6 rfl⟩
    rw [um_n.1]; omega) ma.length 0 (by omega) A2 p2 x2 (f + 1 + tm.length + se.length) u2 b6 (by rw [List.drop_zero]; exact b3) b4 ⟨b5.1, by have := b5.2.1; omega, b5.2.2.1, b5.2.2.2⟩
  rw [c1]
  have c5 : kn u3 t 4 ma.length [] 0 := c5
  -- sets
  have hsm : (se.map fun x => ((3, [x.1, x.2]) : Nat × List Nat)).length = se.length := List.length_map ..
  have hsg : ∀ i, i < se.length → (se.map fun x => ((3, [x.1, x.2]) : Nat × List Nat)).getD i (0, []) = (3, [(se.getD i (0, 0)).1, (se.getD i (0, 0)).2]) := fun i hi => by
    rw [List.getD_eq_getElem?_getD, List.getElem?_map, List.getD_eq_getElem?_getD, List.getElem?_eq_getElem hi]
    rfl
  have gs : ∀ i, i < se.length → se.getD i (0, 0) ∈ se := fun i hi => by
    rw [List.getD_eq_getElem?_getD, List.getElem?_eq_getElem hi]
    exact List.getElem_mem _
  have tk : ∀ i j, i < se.length → j < i → (se.take i).getD j (0, 0) = se.getD j (0, 0) := fun i j hi hj => by
    rw [List.getD_eq_getElem?_getD, List.getElem?_take, if_pos hj, List.getD_eq_getElem?_getD]
  obtain ⟨A4, p4, x4, u4, d1, d2, d3, d4, d5, d6⟩ := rl_list X (fun i u => kn u t 4 6 (se.take i) 0) (se.map fun x => (3, [x.1, x.2])) _ (fun i hi A p L u h o q => by
    rw [hsm] at hi
    rw [hsg i hi] at h ⊢
    obtain ⟨o1, o2, o3⟩ := hse _ (gs i hi)
    obtain ⟨q1, q2, q3, q4, q5, q6⟩ := q
    have hl : (se.take i).length = i := by rw [List.length_take]; omega
    have hl1 : (se.take (i + 1)).length = i + 1 := by rw [List.length_take]; omega
    rw [hl] at q4 q5
    obtain ⟨A', b1, b2, b3, b4⟩ := rs_set X h o (by omega) ⟨o1, o2, o3⟩
    obtain ⟨n1, n2, n3⟩ := ut_n (u := u) (x := (se.getD i (0, 0)).1) (y := (se.getD i (0, 0)).2)
    have m0 : ∀ j a, ¬ (j = 3 ∨ j = 9 ∨ j = 10) → ut u (se.getD i (0, 0)).1 (se.getD i (0, 0)).2 j a = u j a := fun j a h1 => ut_o (by omega) (by omega)
    refine ⟨A', _, b1, b2, b3, b4, by rw [m0 _ _ (by omega)]; exact q1, by rw [m0 _ _ (by omega)]; exact q2, by rw [m0 _ _ (by omega)]; exact q3, by rw [n1, q4, hl1], fun a ha => ?_, fun _ => by rw [m0 _ _ (by omega)]; exact q6 rfl⟩
    rw [hl1] at ha
    have htk : (se.take (i + 1)).getD a (0, 0) = se.getD a (0, 0) := by
      rw [List.getD_eq_getElem?_getD, List.getElem?_take, if_pos ha, List.getD_eq_getElem?_getD]
    rw [htk]
    by_cases h9 : a = i
    · rw [q4] at n2 n3
      rw [h9]
      exact ⟨n2, n3⟩
    · have := q5 a (by omega)
      rw [tk i a hi (by omega)] at this
      rw [ut_o (by omega) (by omega), ut_o (by omega) (by omega)]
      exact this) se.length 0 (by rw [hsm]; omega) A3 p3 x3 (f + 1 + tm.length) u3 c6 (by rw [List.drop_zero]; exact c3) c4 ⟨c5.1, c5.2.1, by have := c5.2.2.1; omega, c5.2.2.2.1, fun i hi => absurd hi (Nat.not_lt_zero _), c5.2.2.2.2.2⟩
  rw [d1]
  rw [hsm] at d5
  have d5 : kn u4 t 4 6 se 0 := by
    have e : se.take se.length = se := List.take_length
    have := d5
    rw [e] at this
    exact this
  -- the term
  have htl : (tm.map fun d => ((4, [d]) : Nat × List Nat)).length = tm.length := List.length_map ..
  obtain ⟨A5, p5, x5, u5, e1, e2, e3, e4, e5, e6⟩ := rl_list X (fun i u => kn u t 4 6 se i) (tm.map fun d => (4, [d])) [] (fun i hi A p L u h o q => by
    rw [htl] at hi
    have hi0 : i = 0 := by omega
    obtain ⟨d, hd, hdm⟩ : ∃ d, (tm.map fun d => ((4, [d]) : Nat × List Nat)).getD i (0, []) = (4, [d]) ∧ d ∈ tm := by
      refine ⟨tm[i], ?_, List.getElem_mem _⟩
      rw [List.getD_eq_getElem?_getD, List.getElem?_map, List.getElem?_eq_getElem hi]
      rfl
    rw [hd] at h ⊢
    obtain ⟨q1, q2, q3, q4, q5, q6⟩ := q
    obtain ⟨A', b1, b2, b3, b4⟩ := rs_term X h o (q6 hi0) (htm d hdm)
    have m0 : ∀ j a, j ≠ 11 → uu u 11 1 d j a = u j a := fun j a h1 => uu_o (by omega)
    exact ⟨A', _, b1, b2, b3, b4, by rw [m0 _ _ (by omega)]; exact q1, by rw [m0 _ _ (by omega)]; exact q2, by rw [m0 _ _ (by omega)]; exact q3, by rw [m0 _ _ (by omega)]; exact q4, fun a ha => by rw [m0 _ _ (by omega), m0 _ _ (by omega)]; exact q5 a ha, fun h => absurd h (by omega)⟩) tm.length 0 (by rw [htl]; omega) A4 p4 x4 (f + 1) u4 d6 (by rw [List.drop_zero, List.append_nil]; exact d3) d4 d5
  rw [e1, rl_end X e3 e6]
  rw [htl] at e5
  exact ⟨A5, u5, rfl, a2.tr (b2.tr (c2.tr (d2.tr e2))), e3.2.2.2.2.2.2.2.2, e4, e5⟩
