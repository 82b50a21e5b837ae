/-! parse: the draft grows; trader, scale -/
theorem wr_m {S : si_St} {mk i : Nat} {v : Int32} (hm : mk = 69 ∨ mk = 78) : (i < 24 → si_wr S (mk + 1) (nI i) v = some (si_pa S (mk + 1) i v)) ∧ (i < 24 → si_wr S (mk + 2) (nI i) v = some (si_pa S (mk + 2) i v)) ∧ (i < 24 → si_wr S (mk + 3) (nI i) v = some (si_pa S (mk + 3) i v)) ∧ (i < 24 → si_wr S (mk + 4) (nI i) v = some (si_pa S (mk + 4) i v)) ∧ (i < 10 → si_wr S (mk + 5) (nI i) v = some (si_pa S (mk + 5) i v)) ∧ (i < 4 → si_wr S (mk + 6) (nI i) v = some (si_pa S (mk + 6) i v)) ∧ (i < 4 → si_wr S (mk + 7) (nI i) v = some (si_pa S (mk + 7) i v)) ∧ (i < 3 → si_wr S (mk + 8) (nI i) v = some (si_pa S (mk + 8) i v)) := by
  rcases hm with rfl | rfl <;> exact ⟨fun h => sm_wr (show i < 24 from h) (by decide), fun h => sm_wr (show i < 24 from h) (by decide), fun h => sm_wr (show i < 24 from h) (by decide), fun h => sm_wr (show i < 24 from h) (by decide), fun h => sm_wr (show i < 10 from h) (by decide), fun h => sm_wr (show i < 4 from h) (by decide), fun h => sm_wr (show i < 4 from h) (by decide), fun h => sm_wr (show i < 3 from h) (by decide)⟩
theorem hi_m {v T : Nat} (hv : v ≤ 999999) (hT : T < 2 ^ 20) : nI v ≤ nI T - 1 ↔ v < T := by
  rw [Int32.le_iff_toInt_le, nI_toInt (by omega)]
  have h4 : (1 : Int32).toInt = 1 := by decide
  rw [Jvm.Kit.i32_sub (by rw [nI_toInt (by omega), h4]; omega) (by rw [nI_toInt (by omega), h4]; omega), nI_toInt (by omega), h4]
  omega
theorem hi_n {v H : Nat} (hv : v ≤ 999999) (hH : H < 2 ^ 31) : nI v ≤ nI H ↔ v < H + 1 := by
  rw [nI_leI (by omega) hH]
  omega
def uu (u : Nat → Nat → Nat) (j i v : Nat) : Nat → Nat → Nat := fun a b => if a = j ∧ b = i then v else u a b
theorem uu_e {u : Nat → Nat → Nat} {j i v : Nat} : uu u j i v j i = v := if_pos ⟨rfl, rfl⟩
theorem uu_o {u : Nat → Nat → Nat} {j i v a b : Nat} (h : ¬ (a = j ∧ b = i)) : uu u j i v a b = u a b := if_neg h
theorem pa_if {S : si_St} {k i a b : Nat} {v : Int32} : (si_pa S k i v).2.1 a b = if a = k ∧ b = i then v else S.2.1 a b := rfl
theorem ps_if {S : si_St} {k i a b : Nat} {v : Int32} : (si_ps S k i v).1 a b = if a = k ∧ b = i then v else S.1 a b := rfl
theorem ps_21 {S : si_St} {k i : Nat} {v : Int32} : (si_ps S k i v).2.1 = S.2.1 := rfl
def po (s k N : Nat) (c : Nat → Nat) (A : si_St) (P : Nat × Nat × Nat) (u : Nat → Nat → Nat) (a : Option si_St) (g : si_St → Option (Int32 × si_St)) : Prop :=
  (∃ A' P' u', a = some A' ∧ fA k A A' ∧ pA k N c A' P' u' ∧ wf c N P' ∧ iv_mok u' ∧ P.1 + s ≤ P'.1 ∧ ∀ B, pB N c B P u → ∃ B', g B = some (1, B') ∧ fB B B' ∧ pB N c B' P' u') ∨
  (∃ A' e p, a = some A' ∧ fA k A A' ∧ eA e p A' ∧ ∀ B, pB N c B P u → ∃ B', g B = some (0, B') ∧ fB B B' ∧ eB e p B')
/-- new draft, the same token -/
theorem pA.up {k N : Nat} {c : Nat → Nat} {A A' : si_St} {P : Nat × Nat × Nat} {u u' : Nat → Nat → Nat} (X : k = 69 ∨ k = 78) (h : pA k N c A P u) (f : fA k A A') (g : ∀ j, A'.1 1 j = A.1 1 j) (m : iv_mk (A'.1 k) (fun j => A'.2.1 (k + j)) u') : pA k N c A' P u' := by
  obtain ⟨h1, h2, h3, h4, h5, h6, h7, h8⟩ := h
  exact ⟨(g 3).trans h1, (g 2).trans h2, (g 4).trans h3, fun i hi => by rw [f.2.1 2 (by omega)]; exact h4 i hi, (g 5).trans h5, (g 6).trans h6, (g 7).trans h7, m⟩
theorem pB.up {N : Nat} {c : Nat → Nat} {B B' : si_St} {P : Nat × Nat × Nat} {u u' : Nat → Nat → Nat} (h : pB N c B P u) (f : fB B B') (g : ∀ j, j ≤ 23 → B'.1 87 j = B.1 87 j) (m : md (B'.1 87) B'.2.1 u') : pB N c B' P u' := by
  obtain ⟨h1, h2, h3, h4, h5, h6, h7, h8, h9⟩ := h
  exact ⟨(g 16 (by decide)).trans h1, fun i hi => by rw [f.2.1 97 (by omega)]; exact h2 i hi, (g 17 (by decide)).trans h3, (g 18 (by decide)).trans h4, (g 19 (by decide)).trans h5, fun e => (g 20 (by decide)).trans (h6 e), (g 21 (by decide)).trans h7, (g 22 (by decide)).trans h8, m⟩
theorem k_ne1 {k : Nat} (hk : k = 69 ∨ k = 78) : k ≠ 1 := by omega
/-- places beyond the counts don't matter -/
theorem md.pa {B : si_St} {u : Nat → Nat → Nat} {r i : Nat} {v : Int32} (h : md (B.1 87) B.2.1 u) (h1 : r ≤ 101 → u 1 0 ≤ i) (h2 : r = 102 → u 2 0 ≤ i) (h3 : r = 103 ∨ r = 104 → u 3 0 ≤ i) (h5 : r ≠ 105) (h6 : 98 ≤ r) : md ((si_pa B r i v).1 87) (si_pa B r i v).2.1 u := by
  obtain ⟨m1, m2, m3, m4, m5, m6, m7, m8⟩ := h
  refine ⟨m1, m2, m3, m4, fun j hj => ?_, fun j hj => ?_, fun j hj => ?_, fun j hj => ?_⟩
  · obtain ⟨q1, q2, q3, q4⟩ := m5 j hj
    exact ⟨(if_neg (by omega)).trans q1, (if_neg (by omega)).trans q2, (if_neg (by omega)).trans q3, (if_neg (by omega)).trans q4⟩
  · exact (if_neg (by omega)).trans (m6 j hj)
  · obtain ⟨q1, q2⟩ := m7 j hj
    exact ⟨(if_neg (by omega)).trans q1, (if_neg (by omega)).trans q2⟩
  · exact (if_neg (by omega)).trans (m8 j hj)
theorem pB.pa {N : Nat} {c : Nat → Nat} {B : si_St} {P : Nat × Nat × Nat} {u : Nat → Nat → Nat} {r i : Nat} {v : Int32} (h : pB N c B P u) (h1 : r ≤ 101 → u 1 0 ≤ i) (h2 : r = 102 → u 2 0 ≤ i) (h3 : r = 103 ∨ r = 104 → u 3 0 ≤ i) (h5 : r < 105) (h6 : 98 ≤ r) : pB N c (si_pa B r i v) P u := h.up (fB.pa h6 (by omega)) (fun _ _ => rfl) (md.pa h.2.2.2.2.2.2.2.2 h1 h2 h3 (by omega) h6)
def us (u : Nat → Nat → Nat) (a b d e : Nat) : Nat → Nat → Nat := uu (uu (uu (uu (uu u 1 0 (u 1 0 + 1)) 4 (u 1 0) a) 5 (u 1 0) b) 6 (u 1 0) d) 7 (u 1 0) e
theorem us_n {u : Nat → Nat → Nat} {a b d e : Nat} : us u a b d e 1 0 = u 1 0 + 1 ∧ us u a b d e 4 (u 1 0) = a ∧ us u a b d e 5 (u 1 0) = b ∧ us u a b d e 6 (u 1 0) = d ∧ us u a b d e 7 (u 1 0) = e := by
  unfold us
  refine ⟨rfl, ?_, ?_, ?_, uu_e⟩
  · rw [uu_o (by omega), uu_o (by omega), uu_o (by omega), uu_e]
  · rw [uu_o (by omega), uu_o (by omega), uu_e]
  · rw [uu_o (by omega), uu_e]
theorem us_o {u : Nat → Nat → Nat} {a b d e i j : Nat} (h : ¬ (j = 1 ∧ i = 0)) (h2 : ¬ (4 ≤ j ∧ j ≤ 7 ∧ i = u 1 0)) : us u a b d e j i = u j i := by
  unfold us
  rw [uu_o (by omega), uu_o (by omega), uu_o (by omega), uu_o (by omega), uu_o (by omega)]
theorem us_ok {u : Nat → Nat → Nat} {a b d e : Nat} (o : iv_mok u) (h : u 1 0 < 24) (ha : a < u 0 0) (hb : b < 3) (hd : 1 ≤ d) (hd2 : d ≤ 1000) (he : 20 * d ≤ e) (he2 : e ≤ 999999) : iv_mok (us u a b d e) := by
  obtain ⟨o1, o2, o3, o4, o5, o6, o7, o8⟩ := o
  obtain ⟨n1, n2, n3, n4, n5⟩ := us_n (u := u) (a := a) (b := b) (d := d) (e := e)
  refine ⟨o1, by rw [n1]; omega, o3, o4, fun i hi => ?_, fun i hi => ?_, fun i hi => ?_, fun i hi => ?_⟩
  · rw [n1] at hi
    by_cases e : i = u 1 0
    · rw [e, n2, n3, n4, n5]
      exact ⟨ha, hb, hd, hd2, he, he2⟩
    · rw [us_o (by omega) (by omega), us_o (by omega) (by omega), us_o (by omega) (by omega), us_o (by omega) (by omega), us_o (by omega) (by omega)]
      exact o5 i (by omega)
  · rw [us_o (by omega) (by omega)]
    exact o6 i hi
  · rw [us_o (by omega) (by omega), us_o (by omega) (by omega)]
    exact o7 i hi
  · rw [us_o (by omega) (by omega)]
    exact o8 i hi
def aS (k n : Nat) (A : si_St) (a b d e : Int32) : si_St := si_ps (si_pa (si_pa (si_pa (si_pa A (k + 1) n a) (k + 2) n b) (k + 3) n d) (k + 4) n e) k 1 (nI (n + 1))
theorem aS_mk {k : Nat} {A : si_St} {u : Nat → Nat → Nat} {a b d e : Nat} (m : iv_mk (A.1 k) (fun j => A.2.1 (k + j)) u) : iv_mk ((aS k (u 1 0) A (nI a) (nI b) (nI d) (nI e)).1 k) (fun j => (aS k (u 1 0) A (nI a) (nI b) (nI d) (nI e)).2.1 (k + j)) (us u a b d e) := by
  obtain ⟨m1, m2, m3, m4, m5⟩ := m
  obtain ⟨n1, n2, n3, n4, n5⟩ := us_n (u := u) (a := a) (b := b) (d := d) (e := e)
  have row : ∀ j i, ¬ (1 ≤ j ∧ j ≤ 4 ∧ i = u 1 0) → (aS k (u 1 0) A (nI a) (nI b) (nI d) (nI e)).2.1 (k + j) i = A.2.1 (k + j) i := fun j i hn => by
    unfold aS
    rw [ps_21, pa_if, if_neg (by omega), pa_if, if_neg (by omega), pa_if, if_neg (by omega), pa_if, if_neg (by omega)]
  refine ⟨fun j hj => ?_, fun i hi => ?_, fun i hi => ?_, fun i hi => ?_, fun i hi => ?_⟩
  · unfold aS
    by_cases e : j = 1
    · rw [e, n1]
      exact ps_e
    · rw [ps_o (fun h => e h.2), us_o (by omega) (by omega)]
      exact m1 j hj
  · rw [n1] at hi
    by_cases e : i = u 1 0
    · rw [e, n2, n3, n4, n5]
      unfold aS
      dsimp only
      rw [ps_21]
      refine ⟨?_, ?_, ?_, pa_e⟩
      · rw [pa_if, if_neg (by omega), pa_if, if_neg (by omega), pa_if, if_neg (by omega), pa_e]
      · rw [pa_if, if_neg (by omega), pa_if, if_neg (by omega), pa_e]
      · rw [pa_if, if_neg (by omega), pa_e]
    · dsimp only
      rw [us_o (by omega) (by omega), us_o (by omega) (by omega), us_o (by omega) (by omega), us_o (by omega) (by omega), row 1 i (by omega), row 2 i (by omega), row 3 i (by omega), row 4 i (by omega)]
      exact m2 i (by omega)
  · dsimp only
    rw [us_o (by omega) (by omega), row 5 i (by omega)]
    exact m3 i hi
  · dsimp only
    rw [us_o (by omega) (by omega), us_o (by omega) (by omega), row 6 i (by omega), row 7 i (by omega)]
    exact m4 i hi
  · dsimp only
    rw [us_o (by omega) (by omega), row 8 i (by omega)]
    exact m5 i hi
theorem md_us {B : si_St} {u : Nat → Nat → Nat} {a b d e : Nat} (m : md (B.1 87) B.2.1 u) (h1 : B.2.1 98 (u 1 0) = nI a) (h2 : B.2.1 99 (u 1 0) = nI b) (h3 : B.2.1 100 (u 1 0) = nI d) (h4 : B.2.1 101 (u 1 0) = nI e) : md ((si_ps B 87 25 (nI (u 1 0 + 1))).1 87) (si_ps B 87 25 (nI (u 1 0 + 1))).2.1 (us u a b d e) := by
  obtain ⟨m1, m2, m3, m4, m5, m6, m7, m8⟩ := m
  obtain ⟨n1, n2, n3, n4, n5⟩ := us_n (u := u) (a := a) (b := b) (d := d) (e := e)
  refine ⟨(ps_o (by decide)).trans m1, by rw [n1]; exact ps_e, (ps_o (by decide)).trans m3, (ps_o (by decide)).trans m4, fun i hi => ?_, fun i hi => ?_, fun i hi => ?_, fun i hi => ?_⟩
  · rw [n1] at hi
    by_cases e : i = u 1 0
    · rw [e, n2, n3, n4, n5]
      exact ⟨h1, h2, h3, h4⟩
    · rw [us_o (by omega) (by omega), us_o (by omega) (by omega), us_o (by omega) (by omega), us_o (by omega) (by omega)]
      exact m5 i (by omega)
  · rw [us_o (by omega) (by omega)]
    exact m6 i hi
  · rw [us_o (by omega) (by omega), us_o (by omega) (by omega)]
    exact m7 i hi
  · rw [us_o (by omega) (by omega)]
    exact m8 i hi

