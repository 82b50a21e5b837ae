/-! parse: what both readers hold, numbers, failures -/
def pA (k N : Nat) (c : Nat → Nat) (A : si_St) (P : Nat × Nat × Nat) (u : Nat → Nat → Nat) : Prop := A.1 1 3 = 0 ∧ A.1 1 2 = -2 ∧ A.1 1 4 = nI N ∧ (∀ i, i < N → A.2.1 2 i = bv (c i)) ∧ A.1 1 5 = nI P.1 ∧ A.1 1 6 = nI P.2.1 ∧ A.1 1 7 = nI P.2.2 ∧ iv_mk (A.1 k) (fun j => A.2.1 (k + j)) u
def md (s1 : Nat → Int32) (ar : Nat → Nat → Int32) (u : Nat → Nat → Nat) : Prop := s1 24 = nI (u 0 0) ∧ s1 25 = nI (u 1 0) ∧ s1 30 = nI (u 2 0) ∧ s1 32 = nI (u 3 0) ∧ (∀ i, i < u 1 0 → ar 98 i = nI (u 4 i) ∧ ar 99 i = nI (u 5 i) ∧ ar 100 i = nI (u 6 i) ∧ ar 101 i = nI (u 7 i)) ∧ (∀ i, i < u 2 0 → ar 102 i = nI (u 8 i)) ∧ (∀ i, i < u 3 0 → ar 103 i = nI (u 9 i) ∧ ar 104 i = nI (u 10 i)) ∧ ∀ c, c < 3 → ar 105 c = nI (u 11 c)
def pB (N : Nat) (c : Nat → Nat) (B : si_St) (P : Nat × Nat × Nat) (u : Nat → Nat → Nat) : Prop := B.1 87 16 = nI N ∧ (∀ i, i < N → B.2.1 97 i = bv (c i)) ∧ B.1 87 17 = nI P.1 ∧ B.1 87 18 = nI P.2.1 ∧ B.1 87 19 = nI P.2.2 ∧ (P.2.2 = 2 → B.1 87 20 = nI (dv c P.1 (P.2.1 - P.1))) ∧ B.1 87 21 = 0 ∧ B.1 87 22 = -2 ∧ md (B.1 87) B.2.1 u
def fA (k : Nat) (S T : si_St) : Prop := (∀ a j, ¬ (a = 1 ∧ 2 ≤ j) → a ≠ k → T.1 a j = S.1 a j) ∧ (∀ r, ¬ (k + 1 ≤ r ∧ r ≤ k + 8) → T.2.1 r = S.2.1 r) ∧ T.2.2 = S.2.2
def fB (S T : si_St) : Prop := (∀ a j, ¬ (a = 87 ∧ 16 ≤ j ∧ j ≤ 34) → T.1 a j = S.1 a j) ∧ (∀ r, ¬ (98 ≤ r ∧ r ≤ 105) → T.2.1 r = S.2.1 r) ∧ T.2.2 = S.2.2
def eA (e p : Nat) (A : si_St) : Prop := A.1 1 3 = nI e ∧ 1 ≤ e ∧ e ≤ 4 ∧ A.1 1 2 = nI p
def eB (e p : Nat) (B : si_St) : Prop := B.1 87 21 = nI e ∧ B.1 87 22 = nI p
def j1 : List Nat := [2, 3, 5, 6, 7]
def j8 : List Nat := [17, 18, 19, 20, 21, 22, 23]
theorem fA.rf {k : Nat} (S : si_St) : fA k S S := ⟨fun _ _ _ _ => rfl, fun _ _ => rfl, rfl⟩
theorem fA.tr {k : Nat} {S T U : si_St} (h1 : fA k S T) (h2 : fA k T U) : fA k S U := ⟨fun a j h h' => (h2.1 a j h h').trans (h1.1 a j h h'), fun r h => (h2.2.1 r h).trans (h1.2.1 r h), h2.2.2.trans h1.2.2⟩
theorem fB.rf (S : si_St) : fB S S := ⟨fun _ _ _ => rfl, fun _ _ => rfl, rfl⟩
theorem fB.tr {S T U : si_St} (h1 : fB S T) (h2 : fB T U) : fB S U := ⟨fun a j h => (h2.1 a j h).trans (h1.1 a j h), fun r h => (h2.2.1 r h).trans (h1.2.1 r h), h2.2.2.trans h1.2.2⟩
theorem j1_ge : ∀ j, j ∈ j1 → 2 ≤ j := by decide
theorem j8_ge : ∀ j, j ∈ j8 → 16 ≤ j ∧ j ≤ 34 := by decide
theorem fx.A {k : Nat} {S T : si_St} (h : fx 1 j1 S T) : fA k S T := ⟨fun a j hn _ => h.2 a j (fun e => hn ⟨e.1, j1_ge j e.2⟩), fun r _ => by rw [h.1], by rw [h.1]⟩
theorem fx.B {S T : si_St} (h : fx 87 j8 S T) : fB S T := ⟨fun a j hn => h.2 a j (fun e => hn ⟨e.1, j8_ge j e.2⟩), fun r _ => by rw [h.1], by rw [h.1]⟩
theorem fA.ps {k j : Nat} {S : si_St} {v : Int32} : fA k S (si_ps S k j v) := ⟨fun a i _ hk => ps_o (fun e => hk e.1), fun _ _ => rfl, rfl⟩
theorem fA.pa {k r i : Nat} {S : si_St} {v : Int32} (h1 : k + 1 ≤ r) (h2 : r ≤ k + 8) : fA k S (si_pa S r i v) := ⟨fun _ _ _ _ => rfl, fun a ha => pa_o (fun e => ha (by rw [e]; exact ⟨h1, h2⟩)), rfl⟩
theorem fB.ps {j : Nat} {S : si_St} {v : Int32} (h1 : 16 ≤ j) (h2 : j ≤ 34) : fB S (si_ps S 87 j v) := ⟨fun a i hn => ps_o (fun e => hn ⟨e.1, by rw [e.2]; exact ⟨h1, h2⟩⟩), fun _ _ => rfl, rfl⟩
theorem fB.pa {r i : Nat} {S : si_St} {v : Int32} (h1 : 98 ≤ r) (h2 : r ≤ 105) : fB S (si_pa S r i v) := ⟨fun _ _ _ => rfl, fun a ha => pa_o (fun e => ha (by rw [e]; exact ⟨h1, h2⟩)), rfl⟩
def cx (N F : Nat) (c : Nat → Nat) (k : Nat) : Prop := N ≤ 800 ∧ 1100 ≤ F ∧ (∀ i, i < N → c i < 256) ∧ (k = 69 ∨ k = 78)
theorem iv_mk.fx {k : Nat} (hk : k = 69 ∨ k = 78) {u : Nat → Nat → Nat} {A A' : si_St} (h : iv_mk (A.1 k) (fun j => A.2.1 (k + j)) u) (f : fx 1 j1 A A') : iv_mk (A'.1 k) (fun j => A'.2.1 (k + j)) u := by
  refine h.cg (fun j _ => f.2 k j (fun e => ?_)) (fun j _ _ => by rw [f.1])
  have := e.1
  omega
theorem md.fx {u : Nat → Nat → Nat} {B B' : si_St} (h : md (B.1 87) B.2.1 u) (f : fx 87 j8 B B') : md (B'.1 87) B'.2.1 u := by
  unfold md at h ⊢
  rw [f.1, f.2 87 24 (by decide), f.2 87 25 (by decide), f.2 87 30 (by decide), f.2 87 32 (by decide)]
  exact h
theorem advA {k N F : Nat} {c : Nat → Nat} {A : si_St} {P : Nat × Nat × Nat} {u : Nat → Nat → Nat} (X : cx N F c k) (h : pA k N c A P u) (w : wf c N P) : ∃ A', f_X3_advance F A = some A' ∧ fx 1 j1 A A' ∧ pA k N c A' (pt c N P.2.1) u := by
  obtain ⟨x1, x2, x3, x4⟩ := X
  obtain ⟨h1, h2, h3, h4, h5, h6, h7, h8⟩ := h
  obtain ⟨A', a1, a2, a3, a4, a5⟩ := tA_adv (F := F) x1 (by omega) x3 w.2.1 h3 h4 h6
  have f : fx 1 j1 A A' := a2.mo (by decide)
  exact ⟨A', a1, f, (a2.2 1 3 (by decide)).trans h1, (a2.2 1 2 (by decide)).trans h2, (a2.2 1 4 (by decide)).trans h3, fun i hi => by rw [a2.1]; exact h4 i hi, a3, a4, a5, h8.fx x4 f⟩
theorem failA {k N F e p : Nat} {c : Nat → Nat} {A : si_St} {P : Nat × Nat × Nat} {u : Nat → Nat → Nat} (he : 1 ≤ e) (he4 : e ≤ 4) (h : pA k N c A P u) : ∃ A', f_X3_failAt F (nI e) (nI p) A = some A' ∧ fx 1 j1 A A' ∧ eA e p A' := by
  unfold f_X3_failAt f_X3_failAt_h17
  rw [if_pos h.1, sm_pt, Option.bind_some, sm_pt, Option.bind_some]
  exact ⟨_, rfl, (fx.ps (by decide)).tr (fx.ps (by decide)), (ps_o (by decide)).trans ps_e, he, he4, ps_e⟩
theorem failA0 {k N F e : Nat} {c : Nat → Nat} {A : si_St} {P : Nat × Nat × Nat} {u : Nat → Nat → Nat} (he : 1 ≤ e) (he4 : e ≤ 4) (h : pA k N c A P u) : ∃ A', f_X3_fail F (nI e) A = some A' ∧ fx 1 j1 A A' ∧ eA e P.1 A' := by
  obtain ⟨A', a1, a2, a3⟩ := failA (F := F) (p := P.1) he he4 h
  refine ⟨A', ?_, a2, a3⟩
  unfold f_X3_fail
  rw [h.2.2.2.2.1, a1]
  rfl
theorem numA {k N F : Nat} {c : Nat → Nat} {A : si_St} {P : Nat × Nat × Nat} {u : Nat → Nat → Nat} (X : cx N F c k) (h : pA k N c A P u) (w : wf c N P) (h2 : P.2.2 = 2) : f_X3_numberOfToken F A = some (nI (dv c P.1 (P.2.1 - P.1)), A) := by
  obtain ⟨x1, x2, x3, x4⟩ := X
  obtain ⟨w1, w2, w3, w4, w5⟩ := w
  obtain ⟨w6, w7⟩ := w5 h2
  have hl := lp_go (fun t i => f_X3_numberOfToken_l7 F t (nI (dv c P.1 i)) (nI (P.1 + i)) A) (some (nI (dv c P.1 (P.2.1 - P.1)), A)) (P.2.1 - P.1) (fun t => by
    show f_X3_numberOfToken_h7 F _ _ (nI (P.1 + (P.2.1 - P.1))) A = _
    unfold f_X3_numberOfToken_h7
    rw [h.2.2.2.2.2.1, if_pos (nI_le (by omega) (by omega))]) (fun t i hi => by
    show f_X3_numberOfToken_h7 F (f_X3_numberOfToken_l7 F t) _ (nI (P.1 + i)) A = _
    unfold f_X3_numberOfToken_h7
    have hd := w7 (P.1 + i) (by omega) (by omega)
    rw [h.2.2.2.2.2.1, if_neg (nI_ge (by omega) (by omega)), rd_2 (by omega), Option.bind_some, h.2.2.2.1 _ (by omega), (bv_tab _ (x3 _ (by omega))).2.2.2.2.2.2.2.2 (by omega), Option.bind_some, Option.bind_some, nI_1]
    have e1 : nI (dv c P.1 i) * 10 + (nI (c (P.1 + i)) - 48) = nI (dv c P.1 (i + 1)) := by
      show nI (dv c P.1 i) * 10 + (nI (c (P.1 + i)) - nI 48) = nI (10 * dv c P.1 i + (c (P.1 + i) - 48))
      rw [sm_sub hd.1, li_mulR, nI_add]
      congr 1
      omega
    rw [e1]
    rfl) F 0 (Nat.zero_le _) (by omega)
  unfold f_X3_numberOfToken
  rw [h.2.2.2.2.1, Option.bind_some]
  exact hl
theorem eA.ne {e p : Nat} {A : si_St} (h : eA e p A) : ¬ A.1 1 3 = 0 := by
  rw [h.1]
  exact sm_ne (b := 0) (by have := h.2.1; omega) (by have := h.2.2.1; omega) (by decide)
theorem eA.num {F e p : Nat} {lo hi : Int32} {A : si_St} (h : eA e p A) : f_X3_takeNumber F lo hi A = some (0, A) := by
  unfold f_X3_takeNumber
  rw [if_neg h.ne]
