-- WHAT BOTH SIDES KEEP STAYS where only the named places change
/-- the same where it counts, but for the places xs and the rows xa -/
def iv_sE (xs : List (Nat × Nat)) (xa : List Nat) (S S' : si_St) : Prop := (∀ k j, iv_rs k j = true → (k, j) ∉ xs → S'.1 k j = S.1 k j) ∧ (∀ k, iv_ra k = true → k ∉ xa → S'.2.1 k = S.2.1 k) ∧ S'.2.2.1 5 = S.2.2.1 5 ∧ S'.2.2.1 6 = S.2.2.1 6 ∧ S'.2.2.2 0 = S.2.2.2 0 ∧ S'.2.2.2 1 = S.2.2.2 1
theorem iv_sE.rf (xs : List (Nat × Nat)) (xa : List Nat) (S : si_St) : iv_sE xs xa S S := ⟨fun _ _ _ _ => rfl, fun _ _ _ => rfl, rfl, rfl, rfl, rfl⟩
theorem iv_sE.tr {xs : List (Nat × Nat)} {xa : List Nat} {S S' S2 : si_St} (h : iv_sE xs xa S S') (h2 : iv_sE xs xa S' S2) : iv_sE xs xa S S2 := ⟨fun k j hk hx => (h2.1 k j hk hx).trans (h.1 k j hk hx), fun k hk hx => (h2.2.1 k hk hx).trans (h.2.1 k hk hx), h2.2.2.1.trans h.2.2.1, h2.2.2.2.1.trans h.2.2.2.1, h2.2.2.2.2.1.trans h.2.2.2.2.1, h2.2.2.2.2.2.trans h.2.2.2.2.2⟩
theorem iv_sE.of {xs : List (Nat × Nat)} {xa : List Nat} {S S' : si_St} (h : iv_same S S') : iv_sE xs xa S S' := ⟨fun k j hk _ => h.1 k j hk, fun k hk _ => h.2.1 k hk, h.2.2.1, h.2.2.2.1, h.2.2.2.2.1, h.2.2.2.2.2⟩
theorem iv_sE.ps {xs : List (Nat × Nat)} {xa : List Nat} {S : si_St} {k j : Nat} {v : Int32} (h : (k, j) ∈ xs) : iv_sE xs xa S (si_ps S k j v) := by
  refine ⟨fun a b _ hx => ?_, fun _ _ _ => rfl, rfl, rfl, rfl, rfl⟩
  show (if a = k ∧ b = j then v else S.1 a b) = S.1 a b
  rw [if_neg]
  rintro ⟨rfl, rfl⟩
  exact hx h
theorem iv_sE.pa {xs : List (Nat × Nat)} {xa : List Nat} {S : si_St} {k i : Nat} {v : Int32} (h : k ∈ xa) : iv_sE xs xa S (si_pa S k i v) := by
  refine ⟨fun _ _ _ _ => rfl, fun a _ hx => ?_, rfl, rfl, rfl, rfl⟩
  funext b
  show (if a = k ∧ b = i then v else S.2.1 a b) = S.2.1 a b
  rw [if_neg]
  rintro ⟨rfl, rfl⟩
  exact hx h
theorem iv_mks.go {xs : List (Nat × Nat)} {xa : List Nat} {S S' : si_St} {mk : Nat} (h : iv_mks S mk) (e : iv_sE xs xa S S') : iv_mks S' mk := by
  unfold iv_mks
  rw [e.2.2.2.2.1, e.2.2.2.2.2]
  exact h
def iv_xsB : List (Nat × Nat) := [(1, 1), (87, 15)]
def iv_xaB : List Nat := [2, 97]
theorem iv_at.goB {S S' : si_St} {u : Nat → Nat → Nat} {mk : Nat} (hm : mk = 69 ∨ mk = 78) (h : iv_at S u mk) (e : iv_sE iv_xsB iv_xaB S S') (c3 : iv_buf (S'.1 1 1) (S'.1 87 15) (S'.2.1 2) (S'.2.1 97)) : iv_at S' u mk := by
  obtain ⟨g0, g1, g2, g3, g4, g5, g6, g7, g8, g9, g10, g11⟩ := h
  obtain ⟨es, ea, l5, l6, -⟩ := e
  refine ⟨g0, ?_, ?_, c3, ?_, ?_, ?_, ?_, ?_, ?_, ?_, ?_⟩
  · refine g1.cg (fun j hj => ?_) (fun j h1 h8 => ?_)
    · have : j = 0 ∨ j = 1 ∨ j = 2 ∨ j = 3 := by omega
      rcases hm with rfl | rfl <;> rcases this with rfl | rfl | rfl | rfl <;> exact es _ _ rfl (by decide)
    · have : j = 1 ∨ j = 2 ∨ j = 3 ∨ j = 4 ∨ j = 5 ∨ j = 6 ∨ j = 7 ∨ j = 8 := by omega
      rcases hm with rfl | rfl <;> rcases this with rfl | rfl | rfl | rfl | rfl | rfl | rfl | rfl <;> exact ea _ rfl (by decide)
  · unfold iv_mm at g2 ⊢
    rw [es 87 2 rfl (by decide), es 87 3 rfl (by decide), es 87 8 rfl (by decide), es 87 10 rfl (by decide), ea 89 rfl (by decide), ea 90 rfl (by decide), ea 91 rfl (by decide), ea 92 rfl (by decide), ea 93 rfl (by decide), ea 94 rfl (by decide), ea 95 rfl (by decide), ea 96 rfl (by decide)]
    exact g2
  · rw [es 1 2 rfl (by decide), es 87 22 rfl (by decide)]
    exact g4
  · rw [es 3 1 rfl (by decide), ea 4 rfl (by decide)]
    exact g5
  · rw [es 3 3 rfl (by decide), es 3 5 rfl (by decide), l5, l6]
    exact g6
  · rw [es 7 0 rfl (by decide), ea 88 rfl (by decide)]
    refine g7.cg (fun j h1 h8 => ?_) (fun j h1 h4 => ?_)
    · have : j = 1 ∨ j = 2 ∨ j = 3 ∨ j = 4 ∨ j = 5 ∨ j = 6 ∨ j = 7 ∨ j = 8 := by omega
      rcases this with rfl | rfl | rfl | rfl | rfl | rfl | rfl | rfl <;> exact ea _ rfl (by decide)
    · have : j = 1 ∨ j = 2 ∨ j = 3 ∨ j = 4 := by omega
      rcases this with rfl | rfl | rfl | rfl <;> exact ea _ rfl (by decide)
  · unfold iv_hist at g8 ⊢
    rw [es 21 0 rfl (by decide), es 21 1 rfl (by decide), es 87 41 rfl (by decide), es 7 0 rfl (by decide), ea 110 rfl (by decide)]
    obtain ⟨d, p, q1, q2, q3, q4, q5, q6⟩ := g8
    refine ⟨d, p, q1, q2, q3, q4, q5, iv_ch.cg (fun j hj => ?_) _ _ _ _ _ _ _ (fun j h1 h8 => ?_) (fun j h1 h4 => ?_) q6⟩
    · have : j = 0 ∨ j = 1 ∨ j = 2 ∨ j = 3 ∨ j = 4 := by omega
      rcases this with rfl | rfl | rfl | rfl | rfl <;> exact ea _ rfl (by decide)
    · have : j = 1 ∨ j = 2 ∨ j = 3 ∨ j = 4 ∨ j = 5 ∨ j = 6 ∨ j = 7 ∨ j = 8 := by omega
      rcases this with rfl | rfl | rfl | rfl | rfl | rfl | rfl | rfl <;> exact ea _ rfl (by decide)
    · have : j = 1 ∨ j = 2 ∨ j = 3 ∨ j = 4 := by omega
      rcases this with rfl | rfl | rfl | rfl <;> exact ea _ rfl (by decide)
  · unfold iv_slot at g9 ⊢
    rw [es 27 2 rfl (by decide), es 28 0 rfl (by decide), ea 112 rfl (by decide), ea 111 rfl (by decide)]
    rcases g9 with h | ⟨h1, h2, h3⟩
    · exact Or.inl h
    · refine Or.inr ⟨h1, h2, h3.cg (fun j h1 h8 => ?_) (fun j h1 h4 => ?_)⟩
      · have : j = 1 ∨ j = 2 ∨ j = 3 ∨ j = 4 ∨ j = 5 ∨ j = 6 ∨ j = 7 ∨ j = 8 := by omega
        rcases this with rfl | rfl | rfl | rfl | rfl | rfl | rfl | rfl <;> exact ea _ rfl (by decide)
      · have : j = 1 ∨ j = 2 ∨ j = 3 ∨ j = 4 := by omega
        rcases this with rfl | rfl | rfl | rfl <;> exact ea _ rfl (by decide)
  · unfold iv_slot at g10 ⊢
    rw [es 42 2 rfl (by decide), es 43 0 rfl (by decide), ea 112 rfl (by decide), ea 111 rfl (by decide)]
    rcases g10 with h | ⟨h1, h2, h3⟩
    · exact Or.inl h
    · refine Or.inr ⟨h1, h2, h3.cg (fun j h1 h8 => ?_) (fun j h1 h4 => ?_)⟩
      · have : j = 1 ∨ j = 2 ∨ j = 3 ∨ j = 4 ∨ j = 5 ∨ j = 6 ∨ j = 7 ∨ j = 8 := by omega
        rcases this with rfl | rfl | rfl | rfl | rfl | rfl | rfl | rfl <;> exact ea _ rfl (by decide)
      · have : j = 1 ∨ j = 2 ∨ j = 3 ∨ j = 4 := by omega
        rcases this with rfl | rfl | rfl | rfl <;> exact ea _ rfl (by decide)
  · rw [ea 66 rfl (by decide), ea 67 rfl (by decide), ea 68 rfl (by decide)]
    exact g11
def iv_xsV : List (Nat × Nat) := [(7, 0), (21, 0), (21, 1), (87, 41)]
def iv_xaV : List Nat := [8, 9, 10, 11, 12, 13, 14, 15, 17, 18, 19, 20, 22, 23, 24, 25, 26, 88, 110]
theorem iv_at.goV {S S' : si_St} {u : Nat → Nat → Nat} {mk : Nat} (hm : mk = 69 ∨ mk = 78) (h : iv_at S u mk) (e : iv_sE iv_xsV iv_xaV S S') (c7 : iv_view u (S'.1 7 0) (fun j => S'.2.1 (7 + j)) (fun j => S'.2.1 (16 + j)) (S'.2.1 88)) (c8 : iv_hist u (S'.1 21 0) (S'.1 21 1) (S'.1 87 41) (fun j => S'.2.1 (22 + j)) (S'.2.1 110) (S'.1 7 0) (fun j => S'.2.1 (7 + j)) (fun j => S'.2.1 (16 + j))) : iv_at S' u mk := by
  obtain ⟨g0, g1, g2, g3, g4, g5, g6, g7, g8, g9, g10, g11⟩ := h
  obtain ⟨es, ea, l5, l6, -⟩ := e
  refine ⟨g0, ?_, ?_, ?_, ?_, ?_, ?_, c7, c8, ?_, ?_, ?_⟩
  · refine g1.cg (fun j hj => ?_) (fun j h1 h8 => ?_)
    · have : j = 0 ∨ j = 1 ∨ j = 2 ∨ j = 3 := by omega
      rcases hm with rfl | rfl <;> rcases this with rfl | rfl | rfl | rfl <;> exact es _ _ rfl (by decide)
    · have : j = 1 ∨ j = 2 ∨ j = 3 ∨ j = 4 ∨ j = 5 ∨ j = 6 ∨ j = 7 ∨ j = 8 := by omega
      rcases hm with rfl | rfl <;> rcases this with rfl | rfl | rfl | rfl | rfl | rfl | rfl | rfl <;> exact ea _ rfl (by decide)
  · unfold iv_mm at g2 ⊢
    rw [es 87 2 rfl (by decide), es 87 3 rfl (by decide), es 87 8 rfl (by decide), es 87 10 rfl (by decide), ea 89 rfl (by decide), ea 90 rfl (by decide), ea 91 rfl (by decide), ea 92 rfl (by decide), ea 93 rfl (by decide), ea 94 rfl (by decide), ea 95 rfl (by decide), ea 96 rfl (by decide)]
    exact g2
  · rw [es 1 1 rfl (by decide), es 87 15 rfl (by decide), ea 2 rfl (by decide), ea 97 rfl (by decide)]
    exact g3
  · rw [es 1 2 rfl (by decide), es 87 22 rfl (by decide)]
    exact g4
  · rw [es 3 1 rfl (by decide), ea 4 rfl (by decide)]
    exact g5
  · rw [es 3 3 rfl (by decide), es 3 5 rfl (by decide), l5, l6]
    exact g6
  · unfold iv_slot at g9 ⊢
    rw [es 27 2 rfl (by decide), es 28 0 rfl (by decide), ea 112 rfl (by decide), ea 111 rfl (by decide)]
    rcases g9 with h | ⟨h1, h2, h3⟩
    · exact Or.inl h
    · refine Or.inr ⟨h1, h2, h3.cg (fun j h1 h8 => ?_) (fun j h1 h4 => ?_)⟩
      · have : j = 1 ∨ j = 2 ∨ j = 3 ∨ j = 4 ∨ j = 5 ∨ j = 6 ∨ j = 7 ∨ j = 8 := by omega
        rcases this with rfl | rfl | rfl | rfl | rfl | rfl | rfl | rfl <;> exact ea _ rfl (by decide)
      · have : j = 1 ∨ j = 2 ∨ j = 3 ∨ j = 4 := by omega
        rcases this with rfl | rfl | rfl | rfl <;> exact ea _ rfl (by decide)
  · unfold iv_slot at g10 ⊢
    rw [es 42 2 rfl (by decide), es 43 0 rfl (by decide), ea 112 rfl (by decide), ea 111 rfl (by decide)]
    rcases g10 with h | ⟨h1, h2, h3⟩
    · exact Or.inl h
    · refine Or.inr ⟨h1, h2, h3.cg (fun j h1 h8 => ?_) (fun j h1 h4 => ?_)⟩
      · have : j = 1 ∨ j = 2 ∨ j = 3 ∨ j = 4 ∨ j = 5 ∨ j = 6 ∨ j = 7 ∨ j = 8 := by omega
        rcases this with rfl | rfl | rfl | rfl | rfl | rfl | rfl | rfl <;> exact ea _ rfl (by decide)
      · have : j = 1 ∨ j = 2 ∨ j = 3 ∨ j = 4 := by omega
        rcases this with rfl | rfl | rfl | rfl <;> exact ea _ rfl (by decide)
  · rw [ea 66 rfl (by decide), ea 67 rfl (by decide), ea 68 rfl (by decide)]
    exact g11
def iv_xsS : List (Nat × Nat) := [(27, 2), (28, 0), (42, 2), (43, 0)]
def iv_xaS : List Nat := [29, 30, 31, 32, 33, 34, 35, 36, 38, 39, 40, 41, 44, 45, 46, 47, 48, 49, 50, 51, 53, 54, 55, 56, 111, 112]
theorem iv_at.goS {S S' : si_St} {u : Nat → Nat → Nat} {mk : Nat} (hm : mk = 69 ∨ mk = 78) (h : iv_at S u mk) (e : iv_sE iv_xsS iv_xaS S S') (c9 : iv_slot u (S'.1 27 2) (S'.2.1 112 0) (S'.1 28 0) (fun j => S'.2.1 (28 + j)) (fun j => S'.2.1 (37 + j)) (fun i => S'.2.1 111 i)) (c10 : iv_slot u (S'.1 42 2) (S'.2.1 112 1) (S'.1 43 0) (fun j => S'.2.1 (43 + j)) (fun j => S'.2.1 (52 + j)) (fun i => S'.2.1 111 (677 + i))) : iv_at S' u mk := by
  obtain ⟨g0, g1, g2, g3, g4, g5, g6, g7, g8, g9, g10, g11⟩ := h
  obtain ⟨es, ea, l5, l6, -⟩ := e
  refine ⟨g0, ?_, ?_, ?_, ?_, ?_, ?_, ?_, ?_, c9, c10, ?_⟩
  · refine g1.cg (fun j hj => ?_) (fun j h1 h8 => ?_)
    · have : j = 0 ∨ j = 1 ∨ j = 2 ∨ j = 3 := by omega
      rcases hm with rfl | rfl <;> rcases this with rfl | rfl | rfl | rfl <;> exact es _ _ rfl (by decide)
    · have : j = 1 ∨ j = 2 ∨ j = 3 ∨ j = 4 ∨ j = 5 ∨ j = 6 ∨ j = 7 ∨ j = 8 := by omega
      rcases hm with rfl | rfl <;> rcases this with rfl | rfl | rfl | rfl | rfl | rfl | rfl | rfl <;> exact ea _ rfl (by decide)
  · unfold iv_mm at g2 ⊢
    rw [es 87 2 rfl (by decide), es 87 3 rfl (by decide), es 87 8 rfl (by decide), es 87 10 rfl (by decide), ea 89 rfl (by decide), ea 90 rfl (by decide), ea 91 rfl (by decide), ea 92 rfl (by decide), ea 93 rfl (by decide), ea 94 rfl (by decide), ea 95 rfl (by decide), ea 96 rfl (by decide)]
    exact g2
  · rw [es 1 1 rfl (by decide), es 87 15 rfl (by decide), ea 2 rfl (by decide), ea 97 rfl (by decide)]
    exact g3
  · rw [es 1 2 rfl (by decide), es 87 22 rfl (by decide)]
    exact g4
  · rw [es 3 1 rfl (by decide), ea 4 rfl (by decide)]
    exact g5
  · rw [es 3 3 rfl (by decide), es 3 5 rfl (by decide), l5, l6]
    exact g6
  · rw [es 7 0 rfl (by decide), ea 88 rfl (by decide)]
    refine g7.cg (fun j h1 h8 => ?_) (fun j h1 h4 => ?_)
    · have : j = 1 ∨ j = 2 ∨ j = 3 ∨ j = 4 ∨ j = 5 ∨ j = 6 ∨ j = 7 ∨ j = 8 := by omega
      rcases this with rfl | rfl | rfl | rfl | rfl | rfl | rfl | rfl <;> exact ea _ rfl (by decide)
    · have : j = 1 ∨ j = 2 ∨ j = 3 ∨ j = 4 := by omega
      rcases this with rfl | rfl | rfl | rfl <;> exact ea _ rfl (by decide)
  · unfold iv_hist at g8 ⊢
    rw [es 21 0 rfl (by decide), es 21 1 rfl (by decide), es 87 41 rfl (by decide), es 7 0 rfl (by decide), ea 110 rfl (by decide)]
    obtain ⟨d, p, q1, q2, q3, q4, q5, q6⟩ := g8
    refine ⟨d, p, q1, q2, q3, q4, q5, iv_ch.cg (fun j hj => ?_) _ _ _ _ _ _ _ (fun j h1 h8 => ?_) (fun j h1 h4 => ?_) q6⟩
    · have : j = 0 ∨ j = 1 ∨ j = 2 ∨ j = 3 ∨ j = 4 := by omega
      rcases this with rfl | rfl | rfl | rfl | rfl <;> exact ea _ rfl (by decide)
    · have : j = 1 ∨ j = 2 ∨ j = 3 ∨ j = 4 ∨ j = 5 ∨ j = 6 ∨ j = 7 ∨ j = 8 := by omega
      rcases this with rfl | rfl | rfl | rfl | rfl | rfl | rfl | rfl <;> exact ea _ rfl (by decide)
    · have : j = 1 ∨ j = 2 ∨ j = 3 ∨ j = 4 := by omega
      rcases this with rfl | rfl | rfl | rfl <;> exact ea _ rfl (by decide)
  · rw [ea 66 rfl (by decide), ea 67 rfl (by decide), ea 68 rfl (by decide)]
    exact g11
def iv_xsT : List (Nat × Nat) := []
def iv_xaT : List Nat := [66, 67, 68]
theorem iv_at.goT {S S' : si_St} {u : Nat → Nat → Nat} {mk : Nat} (hm : mk = 69 ∨ mk = 78) (h : iv_at S u mk) (e : iv_sE iv_xsT iv_xaT S S') (c11 : iv_sv sv_spl sv_mix (S'.2.1 66) (S'.2.1 67) (S'.2.1 68)) : iv_at S' u mk := by
  obtain ⟨g0, g1, g2, g3, g4, g5, g6, g7, g8, g9, g10, g11⟩ := h
  obtain ⟨es, ea, l5, l6, -⟩ := e
  refine ⟨g0, ?_, ?_, ?_, ?_, ?_, ?_, ?_, ?_, ?_, ?_, c11⟩
  · refine g1.cg (fun j hj => ?_) (fun j h1 h8 => ?_)
    · have : j = 0 ∨ j = 1 ∨ j = 2 ∨ j = 3 := by omega
      rcases hm with rfl | rfl <;> rcases this with rfl | rfl | rfl | rfl <;> exact es _ _ rfl (by decide)
    · have : j = 1 ∨ j = 2 ∨ j = 3 ∨ j = 4 ∨ j = 5 ∨ j = 6 ∨ j = 7 ∨ j = 8 := by omega
      rcases hm with rfl | rfl <;> rcases this with rfl | rfl | rfl | rfl | rfl | rfl | rfl | rfl <;> exact ea _ rfl (by decide)
  · unfold iv_mm at g2 ⊢
    rw [es 87 2 rfl (by decide), es 87 3 rfl (by decide), es 87 8 rfl (by decide), es 87 10 rfl (by decide), ea 89 rfl (by decide), ea 90 rfl (by decide), ea 91 rfl (by decide), ea 92 rfl (by decide), ea 93 rfl (by decide), ea 94 rfl (by decide), ea 95 rfl (by decide), ea 96 rfl (by decide)]
    exact g2
  · rw [es 1 1 rfl (by decide), es 87 15 rfl (by decide), ea 2 rfl (by decide), ea 97 rfl (by decide)]
    exact g3
  · rw [es 1 2 rfl (by decide), es 87 22 rfl (by decide)]
    exact g4
  · rw [es 3 1 rfl (by decide), ea 4 rfl (by decide)]
    exact g5
  · rw [es 3 3 rfl (by decide), es 3 5 rfl (by decide), l5, l6]
    exact g6
  · rw [es 7 0 rfl (by decide), ea 88 rfl (by decide)]
    refine g7.cg (fun j h1 h8 => ?_) (fun j h1 h4 => ?_)
    · have : j = 1 ∨ j = 2 ∨ j = 3 ∨ j = 4 ∨ j = 5 ∨ j = 6 ∨ j = 7 ∨ j = 8 := by omega
      rcases this with rfl | rfl | rfl | rfl | rfl | rfl | rfl | rfl <;> exact ea _ rfl (by decide)
    · have : j = 1 ∨ j = 2 ∨ j = 3 ∨ j = 4 := by omega
      rcases this with rfl | rfl | rfl | rfl <;> exact ea _ rfl (by decide)
  · unfold iv_hist at g8 ⊢
    rw [es 21 0 rfl (by decide), es 21 1 rfl (by decide), es 87 41 rfl (by decide), es 7 0 rfl (by decide), ea 110 rfl (by decide)]
    obtain ⟨d, p, q1, q2, q3, q4, q5, q6⟩ := g8
    refine ⟨d, p, q1, q2, q3, q4, q5, iv_ch.cg (fun j hj => ?_) _ _ _ _ _ _ _ (fun j h1 h8 => ?_) (fun j h1 h4 => ?_) q6⟩
    · have : j = 0 ∨ j = 1 ∨ j = 2 ∨ j = 3 ∨ j = 4 := by omega
      rcases this with rfl | rfl | rfl | rfl | rfl <;> exact ea _ rfl (by decide)
    · have : j = 1 ∨ j = 2 ∨ j = 3 ∨ j = 4 ∨ j = 5 ∨ j = 6 ∨ j = 7 ∨ j = 8 := by omega
      rcases this with rfl | rfl | rfl | rfl | rfl | rfl | rfl | rfl <;> exact ea _ rfl (by decide)
    · have : j = 1 ∨ j = 2 ∨ j = 3 ∨ j = 4 := by omega
      rcases this with rfl | rfl | rfl | rfl <;> exact ea _ rfl (by decide)
  · unfold iv_slot at g9 ⊢
    rw [es 27 2 rfl (by decide), es 28 0 rfl (by decide), ea 112 rfl (by decide), ea 111 rfl (by decide)]
    rcases g9 with h | ⟨h1, h2, h3⟩
    · exact Or.inl h
    · refine Or.inr ⟨h1, h2, h3.cg (fun j h1 h8 => ?_) (fun j h1 h4 => ?_)⟩
      · have : j = 1 ∨ j = 2 ∨ j = 3 ∨ j = 4 ∨ j = 5 ∨ j = 6 ∨ j = 7 ∨ j = 8 := by omega
        rcases this with rfl | rfl | rfl | rfl | rfl | rfl | rfl | rfl <;> exact ea _ rfl (by decide)
      · have : j = 1 ∨ j = 2 ∨ j = 3 ∨ j = 4 := by omega
        rcases this with rfl | rfl | rfl | rfl <;> exact ea _ rfl (by decide)
  · unfold iv_slot at g10 ⊢
    rw [es 42 2 rfl (by decide), es 43 0 rfl (by decide), ea 112 rfl (by decide), ea 111 rfl (by decide)]
    rcases g10 with h | ⟨h1, h2, h3⟩
    · exact Or.inl h
    · refine Or.inr ⟨h1, h2, h3.cg (fun j h1 h8 => ?_) (fun j h1 h4 => ?_)⟩
      · have : j = 1 ∨ j = 2 ∨ j = 3 ∨ j = 4 ∨ j = 5 ∨ j = 6 ∨ j = 7 ∨ j = 8 := by omega
        rcases this with rfl | rfl | rfl | rfl | rfl | rfl | rfl | rfl <;> exact ea _ rfl (by decide)
      · have : j = 1 ∨ j = 2 ∨ j = 3 ∨ j = 4 := by omega
        rcases this with rfl | rfl | rfl | rfl <;> exact ea _ rfl (by decide)

