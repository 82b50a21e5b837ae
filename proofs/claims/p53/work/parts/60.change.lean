-- the end of a change, in general
theorem ch_end {mk d p : Nat} {S SX K SM : si_St} {u : Nat → Nat → Nat} {vb wb : Nat → Nat → Int32} (hmk : iv_mks S mk) (hat : iv_at S u mk) (hd : d ≤ 12) (hp : p < 12) (hch : iv_ch u (fun j => S.2.1 (22 + j)) (fun k i => S.2.1 110 (677 * k + i)) d p (S.1 7 0) (fun j => S.2.1 (7 + j)) (fun j => S.2.1 (16 + j))) (eSX : iv_sE iv_xsV iv_xaV S SX) (x0 : SX.1 21 0 = nI (min (d + 1) 12)) (x1 : SX.1 21 1 = nI ((p + 1) % 12)) (x88 : SX.2.1 88 = S.2.1 88) (x110 : SX.2.1 110 = S.2.1 110) (k1 : ∀ a b, ¬ (a = 87 ∧ b = 41) → K.1 a b = (si_ps SX 87 0 0).1 a b) (k2 : K.1 87 41 = nI (min (d + 1) 12)) (k3 : ∀ r, r ≠ 110 → K.2.1 r = (si_ps SX 87 0 0).2.1 r) (k4 : K.2.2 = (si_ps SX 87 0 0).2.2) (k5 : d < 12 → (∀ j i, j < d → i < 677 → K.2.1 110 (677 * j + i) = (si_ps SX 87 0 0).2.1 110 (677 * j + i)) ∧ ∀ i, i < 677 → K.2.1 110 (677 * d + i) = (si_ps SX 87 0 0).2.1 88 i) (k6 : d = 12 → (∀ j i, j < 11 → i < 677 → K.2.1 110 (677 * j + i) = (si_ps SX 87 0 0).2.1 110 (677 * (j + 1) + i)) ∧ ∀ i, i < 677 → K.2.1 110 (677 * 11 + i) = (si_ps SX 87 0 0).2.1 88 i) (s1 : SM.1 = K.1) (s2 : ∀ r, r ≠ 88 → SM.2.1 r = K.2.1 r) (s3 : SM.2.2 = K.2.2) (hv : iv_view u (SX.1 7 0) (fun j => SX.2.1 (7 + j)) (fun j => SX.2.1 (16 + j)) (SM.2.1 88)) (hh : ∀ j i, j < 5 → i ≠ p → i < 12 → SX.2.1 (22 + j) i = S.2.1 (22 + j) i) (he : iv_eq (S.1 7 0) (fun j => S.2.1 (7 + j)) vb (fun j => S.2.1 (16 + j)) wb) (step : ∀ (und2 : Nat → Nat → Int32) (n : Nat), iv_view u (S.1 7 0) vb wb (und2 n) → iv_ch u (fun j => SX.2.1 (22 + j)) und2 n p (S.1 7 0) vb wb → iv_ch u (fun j => SX.2.1 (22 + j)) und2 (n + 1) ((p + 1) % 12) (SX.1 7 0) (fun j => SX.2.1 (7 + j)) (fun j => SX.2.1 (16 + j))) : iv_mks SM mk ∧ iv_at SM u mk := by
  have hm := (iv_mkof hmk).2
  have hu4 := hat.1.2.2.2.1
  have g7 : iv_view u (S.1 7 0) (fun j => S.2.1 (7 + j)) (fun j => S.2.1 (16 + j)) (S.2.1 88) := hat.2.2.2.2.2.2.2.1
  have r : ∀ q, q ≠ 88 → q ≠ 110 → SM.2.1 q = SX.2.1 q := fun q h1 h2 => (s2 q h1).trans (k3 q h2)
  have s7 : SM.1 7 0 = SX.1 7 0 := by
    rw [s1, k1 7 0 (by omega)]
    rfl
  have sd0 : SM.1 21 0 = nI (min (d + 1) 12) := by
    rw [s1, k1 21 0 (by omega)]
    exact x0
  have sd1 : SM.1 21 1 = nI ((p + 1) % 12) := by
    rw [s1, k1 21 1 (by omega)]
    exact x1
  have sd2 : SM.1 87 41 = nI (min (d + 1) 12) := by rw [s1, k2]
  have eSE : iv_sE iv_xsV iv_xaV S SM := by
    obtain ⟨a1, a2, a3, a4, a5, a6⟩ := eSX
    have k4' : SM.2.2 = SX.2.2 := s3.trans k4
    refine ⟨fun a b hab hx => ?_, fun q hq hx => ?_, ?_, ?_, ?_, ?_⟩
    · have e1 : SM.1 a b = (si_ps SX 87 0 0).1 a b := by
        rw [s1]
        exact k1 a b (fun h => hx (by rw [h.1, h.2]; decide))
      rw [e1, ps_o (fun h => by rw [h.1, h.2] at hab; exact absurd hab (by decide))]
      exact a1 a b hab hx
    · rw [r q (fun h => hx (by rw [h]; decide)) (fun h => hx (by rw [h]; decide))]
      exact a2 q hq hx
    all_goals
      rw [k4']
      assumption
  have hpush := iv_hist.push hu4 hd hp (und := S.2.1 110) (und' := SM.2.1 110) hh hch g7 he step (fun hd2 => by
    obtain ⟨A, B⟩ := k5 hd2
    refine ⟨fun j i hj hi => ?_, fun i hi => ?_⟩
    · rw [s2 _ (by decide), A j i hj hi]
      show SX.2.1 110 _ = _
      rw [x110]
    · rw [s2 _ (by decide), B i hi]
      show SX.2.1 88 _ = _
      rw [x88]) (fun hd2 => by
    obtain ⟨A, B⟩ := k6 hd2
    refine ⟨fun j i hj hi => ?_, fun i hi => ?_⟩
    · rw [s2 _ (by decide), A j i hj hi]
      show SX.2.1 110 _ = _
      rw [x110]
    · rw [s2 _ (by decide), B i hi]
      show SX.2.1 88 _ = _
      rw [x88])
  refine ⟨hmk.go eSE, iv_at.goV hm hat eSE ?_ ?_⟩
  · rw [s7]
    exact hv.cg (fun j h1 h8 => r _ (by omega) (by omega)) (fun j h1 h4 => r _ (by omega) (by omega))
  · rw [sd0, sd1, sd2, s7]
    obtain ⟨d2, p2, q1, q2, q3, q4, q5, q6⟩ := hpush
    exact ⟨d2, p2, q1, q2, q3, q4, q5, iv_ch.cg (fun j hj => r _ (by omega) (by omega)) _ _ _ _ _ _ _ (fun j h1 h8 => r _ (by omega) (by omega)) (fun j h1 h4 => r _ (by omega) (by omega)) q6⟩
theorem sn_Ao {S : si_St} {p k x d r : Nat} (h1 : r ≠ 22) (h2 : r ≠ 23) : (sn_A S p k x d).2.1 r = S.2.1 r := by
  unfold sn_A
  rw [ps_2, ps_2, pa_o h2, pa_o h1]
theorem sn_A1 {S : si_St} {p k x d a b : Nat} (h : a ≠ 21) : (sn_A S p k x d).1 a b = S.1 a b := by
  unfold sn_A
  rw [ps_o (fun q => h q.1), ps_o (fun q => h q.1)]
  rfl
theorem sn_A22 {S : si_St} {p k x d : Nat} : (sn_A S p k x d).2.1 22 p = nI k := by
  unfold sn_A
  rw [ps_2, ps_2, pa_o (by decide), pa_e]
theorem sn_A23 {S : si_St} {p k x d : Nat} : (sn_A S p k x d).2.1 23 p = nI x := by
  unfold sn_A
  rw [ps_2, ps_2, pa_e]
theorem sn_Ahh {S : si_St} {p k x d j i : Nat} (hi : i ≠ p) : (sn_A S p k x d).2.1 (22 + j) i = S.2.1 (22 + j) i := by
  unfold sn_A
  rw [ps_2, ps_2]
  have hj2 : j = 0 ∨ j = 1 ∨ 2 ≤ j := by omega
  rcases hj2 with rfl | rfl | hj2
  · rw [pa_o (by decide), pa_s hi]
  · rw [pa_s hi, pa_o (by decide)]
  · rw [pa_o (by omega), pa_o (by omega)]
theorem sn_AsE {S : si_St} {p k x d : Nat} : iv_sE iv_xsV iv_xaV S (sn_A S p k x d) := (((iv_sE.pa (by decide)).tr (iv_sE.pa (by decide))).tr (iv_sE.ps (by decide))).tr (iv_sE.ps (by decide))
-- record
theorem sm_pow : ∀ m, m < 31 → (1 : Int32) <<< (nI m &&& 31) = nI (2 ^ m) := by decide +kernel
def sn_RN (K : si_St) (i n : Nat) (a b : Int32) : si_St := si_pa (si_pa (si_pa K 88 (181 + (8 * i + n)) a) 88 (421 + (8 * i + n)) b) 88 (151 + i) (nI (n + 1))
