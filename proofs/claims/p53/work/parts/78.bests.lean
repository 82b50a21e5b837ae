-- bestLeft, bestRight
theorem bl_main {n h l g f s cl N : Nat} {wv : Nat → Nat → Nat → Nat → Nat} {tl : Nat → Nat → Nat → Nat → Prop} (hn : n ≤ 12) (Htp : tp n f s cl) (hN1 : 1 ≤ N) (hN : N ≤ 98) (H2 : ∀ a' b', a' < 2 ^ n → b' < 2 ^ n → a' &&& b' = 0 → (tl (sb_pc (f &&& a')) (sb_pc (f &&& b')) (sb_pc (s &&& a')) (sb_pc (s &&& b')) → bh n h l g a' b' = wv (sb_pc (f &&& a')) (sb_pc (f &&& b')) (sb_pc (s &&& a')) (sb_pc (s &&& b'))) ∧ (¬ tl (sb_pc (f &&& a')) (sb_pc (f &&& b')) (sb_pc (s &&& a')) (sb_pc (s &&& b')) → bh n h l g a' b' = 99)) (H3 : ∀ a b c d, a + b ≤ sb_pc f → c + d ≤ sb_pc s → wv a b c d < N → tl a b c d) (H4 : ∀ a b c d, a + b ≤ sb_pc f → c + d ≤ sb_pc s → tl a b c d → sv_gap (a + c) (b + d) ≤ sb_pc cl → N ≤ wv a b c d + 1) (H5 : ∀ a b c d, tl a b c d → 0 < a + b + c + d) (H6 : ∃ a b c d, a + b ≤ sb_pc f ∧ c + d ≤ sb_pc s ∧ sv_gap (a + c) (b + d) ≤ sb_pc cl ∧ wv a b c d < N) : ∃ L R, mb_P n h l g N L R ∧ (∀ a b, mb_P n h l g N a b → be_en L R ≤ be_en a b) ∧ lf (be_g23 wv (be_lw f s cl) N (sb_pc f) (sb_pc s)) 268435456 (sb_pc f + 1) = be_en L R := by
  have h12 : 2 ^ n ≤ 2 ^ 12 := Nat.pow_le_pow_right (by decide) hn
  -- a kind that leaves less gives a pair
  have V1 : ∀ a b c d, a + b ≤ sb_pc f → c + d ≤ sb_pc s → sv_gap (a + c) (b + d) ≤ sb_pc cl → wv a b c d < N → mb_P n h l g N (lw_l f s cl a b c d) (lw_r f s cl a b c d) := by
    intro a b c d hab hcd hg hw
    obtain ⟨q1, q2, q3, q4, q5, q6, q7, q8, q9, -, -⟩ := lw_ok hn Htp hab hcd hg
    have ht := H3 a b c d hab hcd hw
    have h4 := H4 a b c d hab hcd ht hg
    have h5 := H5 a b c d ht
    have h2 := (H2 _ _ q1 q2 q3).1
    rw [q6, q7, q8, q9] at h2
    have h2' := h2 ht
    have hp := sb_pos (lw_l f s cl a b c d) (by omega)
    exact ⟨q1, q2, q3, by omega, by omega, by omega⟩
  obtain ⟨a0, b0, c0, d0, e1, e2, e3, e4⟩ := H6
  obtain ⟨z, ⟨L, R, hP, hz⟩, hmin⟩ := pk_least (fun z => ∃ L R, mb_P n h l g N L R ∧ be_en L R = z) ⟨_, _, _, V1 a0 b0 c0 d0 e1 e2 e3 e4, rfl⟩
  have hm : ∀ a b, mb_P n h l g N a b → be_en L R ≤ be_en a b := by
    intro a b hab
    rw [hz]
    exact Nat.le_of_not_lt (fun hlt => hmin _ hlt ⟨a, b, hab, rfl⟩)
  refine ⟨L, R, hP, hm, Nat.le_antisymm ?_ ?_⟩
  · obtain ⟨p1, p2, p3, p4, p5, p6⟩ := hP
    obtain ⟨m1, m2, m3, m4⟩ := lw_min hn Htp p1 p2 p3 p5
    obtain ⟨h2a, h2b⟩ := H2 L R p1 p2 p3
    have htl : tl (sb_pc (f &&& L)) (sb_pc (f &&& R)) (sb_pc (s &&& L)) (sb_pc (s &&& R)) := Classical.byContradiction (fun hc => by
      have := h2b hc
      omega)
    have hw := h2a htl
    have hle := (be_le (wv := wv) (ev := be_lw f s cl) (N := N) (f := sb_pc f) (s := sb_pc s)).mp (Nat.le_refl _)
    have h9 := hle.2 _ _ _ _ m2 m3 (show wv (sb_pc (f &&& L)) (sb_pc (f &&& R)) (sb_pc (s &&& L)) (sb_pc (s &&& R)) < N by omega)
    refine Nat.le_trans h9 ?_
    unfold be_lw
    rw [if_pos m1]
    exact m4
  · have hL12 : L < 4096 := by have := hP.1; omega
    have hR12 : R < 4096 := by have := hP.2.1; omega
    have hlt := be_en_lt hL12 hR12
    rw [be_le]
    refine ⟨?_, fun a b c d hab hcd hw => ?_⟩
    · have pl : 2 * sb_pc L ≤ 12 := by
        obtain ⟨p1, p2, p3, p4, p5, p6⟩ := hP
        have q := sb_pc_or hn p1 p2 p3
        omega
      unfold be_en
      omega
    · unfold be_lw
      split
      · rename_i hg
        exact hm _ _ (V1 a b c d hab hcd hg hw)
      · have pl : 2 * sb_pc L ≤ 12 := by
          obtain ⟨p1, p2, p3, p4, p5, p6⟩ := hP
          have q := sb_pc_or hn p1 p2 p3
          omega
        unfold be_en
        omega
theorem tp_of {n h l : Nat} (hn : n ≤ 12) (hh : h < 2 ^ n) (hl : l < 2 ^ n) (hor : (h = l) ∨ h &&& l = 0) : tp n h (if h &&& l = 0 then l else 0) (sb_df (2 ^ n - 1) (h ||| l)) := by
  have hp : 0 < 2 ^ n := Nat.pow_pos (by decide)
  have cov : ∀ i, i < n → h.testBit i = true ∨ l.testBit i = true ∨ (sb_df (2 ^ n - 1) (h ||| l)).testBit i = true := by
    intro i hi
    by_cases q1 : h.testBit i = true
    · exact Or.inl q1
    · by_cases q2 : l.testBit i = true
      · exact Or.inr (Or.inl q2)
      · refine Or.inr (Or.inr (df_tb.mpr ⟨?_, fun q => (or_tb.mp q).elim q1 q2⟩))
        rw [Nat.testBit_two_pow_sub_one]
        exact decide_eq_true hi
  have dc : ∀ x, (∀ i, x.testBit i = true → h.testBit i = true ∨ l.testBit i = true) → x &&& sb_df (2 ^ n - 1) (h ||| l) = 0 := fun x hx => dj_iff.mpr (fun i hi => (df_tb.mp hi.2).2 (or_tb.mpr (hx i hi.1)))
  have hc : sb_df (2 ^ n - 1) (h ||| l) < 2 ^ n := sub_lt (n := n) (df_sub _ _) (by omega)
  by_cases h0 : h &&& l = 0
  · rw [if_pos h0]
    exact ⟨hh, hl, hc, h0, dc h (fun i q => Or.inl q), dc l (fun i q => Or.inr q), cov⟩
  · rw [if_neg h0]
    have e : h = l := hor.resolve_right h0
    refine ⟨hh, hp, hc, Nat.and_zero h, dc h (fun i q => Or.inl q), Nat.zero_and _, fun i hi => ?_⟩
    rcases cov i hi with q | q | q
    · exact Or.inl q
    · exact Or.inl (e ▸ q)
    · exact Or.inr (Or.inr q)
theorem pc_or {x a b : Nat} (hab : a &&& b = 0) : sb_pc (x &&& (a ||| b)) = sb_pc (x &&& a) + sb_pc (x &&& b) ∧ sb_pc (sb_df x (a ||| b)) + (sb_pc (x &&& a) + sb_pc (x &&& b)) = sb_pc x := by
  have e : x &&& (a ||| b) = (x &&& a) ||| (x &&& b) := Nat.and_or_distrib_left ..
  have d : (x &&& a) &&& (x &&& b) = 0 := dj_iff.mpr (fun i hi => dj_iff.mp hab i ⟨(and_tb.mp hi.1).2, (and_tb.mp hi.2).2⟩)
  have q1 : sb_pc (x &&& (a ||| b)) = sb_pc (x &&& a) + sb_pc (x &&& b) := by rw [e, sb_add d]
  have q2 := df_pc (a := x) (b := a ||| b)
  rw [q1] at q2
  exact ⟨q1, q2⟩
/-- unmixed -/
theorem bl_0 {n h l : Nat} (hn : n ≤ 12) (hh : h < 2 ^ n) (hl : l < 2 ^ n) (h0 : h &&& l = 0) (hN1 : 1 ≤ sv_spl n (sb_pc h) (sb_pc l)) (hN : sv_spl n (sb_pc h) (sb_pc l) ≤ 98) : ∃ L R, mb_P n h l 0 (sv_spl n (sb_pc h) (sb_pc l)) L R ∧ (∀ a b, mb_P n h l 0 (sv_spl n (sb_pc h) (sb_pc l)) a b → be_en L R ≤ be_en a b) ∧ lf (be_g23 (so_wv n (sb_pc h) (sb_pc l)) (be_lw h l (sb_df (2 ^ n - 1) (h ||| l))) (sv_spl n (sb_pc h) (sb_pc l)) (sb_pc h) (sb_pc l)) 268435456 (sb_pc h + 1) = be_en L R := by
  have Htp := tp_of hn hh hl (Or.inr h0)
  rw [if_pos h0] at Htp
  have hall := tp_all Htp hn
  have h2 : 2 ≤ sb_pc h + sb_pc l := Decidable.byContradiction (fun hc => by
    have e := sv_spl_0 (n := n) (h := sb_pc h) (l := sb_pc l) (by omega)
    omega)
  have C := fun z => sv_spl_le (n := n) (h := sb_pc h) (l := sb_pc l) (z := z) h2
  refine bl_main (tl := fun a b c d => a + d < sb_pc h + sb_pc l ∧ b + c < sb_pc h + sb_pc l ∧ 0 < a + b + c + d) hn Htp hN1 hN (fun a' b' ha hb hab => ?_) (fun a b c d hab hcd hw => ?_) (fun a b c d hab hcd ht hg => ?_) (fun a b c d ht => ht.2.2) ?_
  · obtain ⟨-, p1⟩ := pc_or (x := h) hab
    obtain ⟨-, p2⟩ := pc_or (x := l) hab
    have d1 : (h &&& a') &&& (l &&& b') = 0 := dj_iff.mpr (fun i hi => dj_iff.mp h0 i ⟨(and_tb.mp hi.1).1, (and_tb.mp hi.2).1⟩)
    have d2 : (h &&& b') &&& (l &&& a') = 0 := dj_iff.mpr (fun i hi => dj_iff.mp h0 i ⟨(and_tb.mp hi.1).1, (and_tb.mp hi.2).1⟩)
    have d3 : sb_df h (a' ||| b') &&& sb_df l (a' ||| b') = 0 := dj_iff.mpr (fun i hi => dj_iff.mp h0 i ⟨(df_tb.mp hi.1).1, (df_tb.mp hi.2).1⟩)
    have e1 : sb_pc (sb_df h (a' ||| b')) = sb_pc h - sb_pc (h &&& a') - sb_pc (h &&& b') := by omega
    have e2 : sb_pc (sb_df l (a' ||| b')) = sb_pc l - sb_pc (l &&& a') - sb_pc (l &&& b') := by omega
    have n1 : so_N n (sb_df h (a' ||| b')) (sb_df l (a' ||| b')) 0 = sv_spl n (sb_pc h - sb_pc (h &&& a') - sb_pc (h &&& b')) (sb_pc l - sb_pc (l &&& a') - sb_pc (l &&& b')) := by
      unfold so_N
      rw [if_pos d3, e1, e2]
    have n2 : so_N n (h &&& a') (l &&& b') 0 = sv_spl n (sb_pc (h &&& a')) (sb_pc (l &&& b')) := if_pos d1
    have n3 : so_N n (h &&& b') (l &&& a') 0 = sv_spl n (sb_pc (h &&& b')) (sb_pc (l &&& a')) := if_pos d2
    unfold bh
    rw [n1, n2, n3]
    refine ⟨fun ht => ?_, fun ht => ?_⟩
    · obtain ⟨t1, t2, t3⟩ := ht
      rw [if_neg (by omega), if_neg (by omega), if_neg (by omega)]
      rfl
    · by_cases t3 : 0 < sb_pc (h &&& a') + sb_pc (h &&& b') + sb_pc (l &&& a') + sb_pc (l &&& b')
      · rw [if_neg (by omega)]
        by_cases t1 : sb_pc (h &&& a') + sb_pc (l &&& b') < sb_pc h + sb_pc l
        · have t2 : ¬ sb_pc (h &&& b') + sb_pc (l &&& a') < sb_pc h + sb_pc l := fun t2 => ht ⟨t1, t2, t3⟩
          rw [if_neg (by omega), if_pos (by omega)]
        · rw [if_pos (by omega)]
      · rw [if_pos (by omega)]
  · have w : so_wv n (sb_pc h) (sb_pc l) a b c d = max (sv_spl n (sb_pc h - a - b) (sb_pc l - c - d)) (max (sv_spl n a d) (sv_spl n b c)) := rfl
    rw [w] at hw
    refine ⟨Decidable.byContradiction (fun t => ?_), Decidable.byContradiction (fun t => ?_), Decidable.byContradiction (fun t => ?_)⟩
    · have za : a = sb_pc h := by omega
      have zd : d = sb_pc l := by omega
      rw [za, zd] at hw
      omega
    · have zb : b = sb_pc h := by omega
      have zc : c = sb_pc l := by omega
      rw [zb, zc] at hw
      omega
    · have za : a = 0 := by omega
      have zb : b = 0 := by omega
      have zc : c = 0 := by omega
      have zd : d = 0 := by omega
      subst za zb zc zd
      have e2 : sb_pc h - 0 - 0 = sb_pc h := rfl
      have e3 : sb_pc l - 0 - 0 = sb_pc l := rfl
      rw [e2, e3] at hw
      omega
  · exact ((C _).mp (Nat.le_refl _)).2 a b c d ⟨hab, hcd, ht, by omega⟩
  · refine Classical.byContradiction (fun hno => ?_)
    have hz := (C (sv_spl n (sb_pc h) (sb_pc l) + 1)).mpr ⟨by omega, fun a b c d ok => ?_⟩
    · omega
    · obtain ⟨o1, o2, o3, o4⟩ := ok
      have w : so_wv n (sb_pc h) (sb_pc l) a b c d = max (sv_spl n (sb_pc h - a - b) (sb_pc l - c - d)) (max (sv_spl n a d) (sv_spl n b c)) := rfl
      have : ¬ so_wv n (sb_pc h) (sb_pc l) a b c d < sv_spl n (sb_pc h) (sb_pc l) := fun hw => hno ⟨a, b, c, d, o1, o2, by omega, hw⟩
      omega
/-- mixed -/
theorem bl_1 {n h g : Nat} (hn : n ≤ 12) (hh : h < 2 ^ n) (hg : g ≤ 1) (h0 : h ≠ 0) (hN1 : 1 ≤ sv_mix n (sb_pc h) g) (hN : sv_mix n (sb_pc h) g ≤ 98) : ∃ L R, mb_P n h h g (sv_mix n (sb_pc h) g) L R ∧ (∀ a b, mb_P n h h g (sv_mix n (sb_pc h) g) a b → be_en L R ≤ be_en a b) ∧ lf (be_g23 (fun a b _ _ => max (sv_mix n (sb_pc h - a - b) g) (sv_spl n a b)) (be_lw h 0 (sb_df (2 ^ n - 1) (h ||| h))) (sv_mix n (sb_pc h) g) (sb_pc h) (sb_pc 0)) 268435456 (sb_pc h + 1) = be_en L R := by
  have hhh : h &&& h = h := Nat.and_self h
  have Htp := tp_of hn hh hh (Or.inl rfl)
  rw [if_neg (by rw [hhh]; exact h0)] at Htp
  have h12 : 2 ^ n ≤ 2 ^ 12 := Nat.pow_le_pow_right (by decide) hn
  have p0 : sb_pc 0 = 0 := by decide
  have hall := tp_all Htp hn
  have hv : 1 ≤ sb_pc h := by
    have := sb_pos h (by omega)
    omega
  have C := fun z => sv_mix_le (n := n) (v := sb_pc h) (g := g) (z := z) (by omega) hg
  refine bl_main (tl := fun a b c d => 0 < a + b ∧ c = 0 ∧ d = 0) hn Htp hN1 hN (fun a' b' ha hb hab => ?_) (fun a b c d hab hcd hw => ?_) (fun a b c d hab hcd ht hgp => ?_) (fun a b c d ht => by omega) ?_
  · obtain ⟨-, p1⟩ := pc_or (x := h) hab
    have z1 : sb_pc (0 &&& a') = 0 := by rw [Nat.zero_and]; exact p0
    have z2 : sb_pc (0 &&& b') = 0 := by rw [Nat.zero_and]; exact p0
    have d1 : (h &&& a') &&& (h &&& b') = 0 := dj_iff.mpr (fun i hi => dj_iff.mp hab i ⟨(and_tb.mp hi.1).2, (and_tb.mp hi.2).2⟩)
    have d2 : (h &&& b') &&& (h &&& a') = 0 := by rw [Nat.and_comm]; exact d1
    have e1 : sb_pc (sb_df h (a' ||| b')) = sb_pc h - sb_pc (h &&& a') - sb_pc (h &&& b') := by omega
    have n1 : so_N n (sb_df h (a' ||| b')) (sb_df h (a' ||| b')) g = sv_mix n (sb_pc h - sb_pc (h &&& a') - sb_pc (h &&& b')) g := by
      unfold so_N
      rw [Nat.and_self, ← e1]
      by_cases hz : sb_df h (a' ||| b') = 0
      · rw [if_pos hz, hz, p0, sv_spl_0 (by omega), sv_mix_0 (by omega)]
      · rw [if_neg hz]
    have n2 : so_N n (h &&& a') (h &&& b') 0 = sv_spl n (sb_pc (h &&& a')) (sb_pc (h &&& b')) := if_pos d1
    have n3 : so_N n (h &&& b') (h &&& a') 0 = sv_spl n (sb_pc (h &&& a')) (sb_pc (h &&& b')) := (if_pos d2).trans (sv_spl_sym ..)
    unfold bh
    rw [n1, n2, n3, z1, z2, Nat.max_self]
    refine ⟨fun ht => ?_, fun ht => ?_⟩
    · rw [if_neg (by omega), if_neg (by omega), if_neg (by omega)]
    · rw [if_pos (by omega)]
  · rw [p0] at hcd
    refine ⟨Decidable.byContradiction (fun t => ?_), by omega, by omega⟩
    have za : a = 0 := by omega
    have zb : b = 0 := by omega
    subst za zb
    have e2 : sb_pc h - 0 - 0 = sb_pc h := rfl
    try dsimp only at hw
    rw [e2] at hw
    omega
  · obtain ⟨t1, t2, t3⟩ := ht
    subst t2 t3
    try simp only [Nat.add_zero] at hgp
    have q := ((C _).mp (Nat.le_refl _)).2 a b ⟨hab, t1, by omega⟩
    have q2 := sv_spl_sym n a b
    try dsimp only
    omega
  · refine Classical.byContradiction (fun hno => ?_)
    have hz := (C (sv_mix n (sb_pc h) g + 1)).mpr ⟨by omega, fun a b ok => ?_⟩
    · omega
    · obtain ⟨o1, o2, o3⟩ := ok
      have q2 := sv_spl_sym n a b
      have : ¬ max (sv_mix n (sb_pc h - a - b) g) (sv_spl n a b) < sv_mix n (sb_pc h) g := fun hw => hno ⟨a, b, 0, 0, o1, by omega, by simp only [Nat.add_zero]; omega, hw⟩
      omega
theorem bl_X {F n h l g : Nat} {T : si_St} (hn : n ≤ 12) (hg : g ≤ 1) (hh : h < 2 ^ n) (hl : l < 2 ^ n) (hor : (h = l) ∨ (h &&& l = 0 ∧ g = 0)) (Q : so_Q n h l g T) (sp : so_sp T n (sv_spl n)) (mi : ∀ g, g ≤ 1 → so_mi T n g (fun v => sv_mix n v g)) (hF : 101 ≤ F) : (so_N n h l g = 0 ∨ so_N n h l g = 99 → f_X5_bestWeighing F T = some (268435456, T)) ∧ (1 ≤ so_N n h l g → so_N n h l g ≤ 98 → ∃ L R, f_X5_bestWeighing F T = some (nI (be_en L R), T) ∧ mb_P n h l g (so_N n h l g) L R ∧ ∀ a b, mb_P n h l g (so_N n h l g) a b → be_en L R ≤ be_en a b) := by
  have h12 : 2 ^ n ≤ 2 ^ 12 := Nat.pow_le_pow_right (by decide) hn
  have hp : 0 < 2 ^ n := Nat.pow_pos (by decide)
  obtain ⟨nX, n99⟩ := so_needed (F := F) hn hg hh hl Q sp mi
  obtain ⟨q3, q4, q5, q6, q7, q8, q9, q10⟩ := Q
  have hcl : sb_df (2 ^ n - 1) (h ||| l) < 4096 := df_lt (by omega)
  have hpc := sb_pc_le hn hh
  constructor
  · intro hz
    unfold f_X5_bestWeighing f_X5_bestWeighing_h15
    rw [nX, Option.bind_some]
    try dsimp only
    rcases hz with hz | hz
    · rw [if_pos (show nI (so_N n h l g) = 0 by rw [hz]; rfl)]
    · rw [hz, if_neg (by decide), if_pos (show nI 99 = 99 from rfl)]
  · intro hN1 hN
    by_cases h0 : h &&& l = 0
    · have hg0 : g = 0 ∨ h = l := hor.elim (fun q => Or.inr q) (fun q => Or.inl q.2)
      have e : so_N n h l g = sv_spl n (sb_pc h) (sb_pc l) := if_pos h0
      rw [if_pos h0] at q4 q7 q9
      rw [e] at nX hN1 hN ⊢
      have hpo := sb_pc_or hn hh hl h0
      have hg00 : g = 0 := by
        rcases hor with rfl | ⟨-, q⟩
        · rw [Nat.and_self] at h0
          subst h0
          have p0 : sb_pc 0 = 0 := by decide
          rw [p0, sv_spl_0 (by omega)] at hN1
          omega
        · exact q
      subst hg00
      obtain ⟨L, R, hP, hm, hlf⟩ := bl_0 hn hh hl h0 hN1 hN
      refine ⟨L, R, ?_, hP, hm⟩
      rw [← hlf]
      exact be_best q6 q7 (by omega) hN hN1 hF nX (fun a b c d hab hcd => so_worst0 hn q3 q4 q6 q7 hpo sp hab hcd) (fun a b c d hab hcd => ⟨be_lowest (by omega) (by omega) hcl q8 q9 q10 (by omega) (by omega) hF, by
        have := be_en_lt (lw_l_lt (f := h) (s := l) (cl := sb_df (2 ^ n - 1) (h ||| l)) (a := a) (b := b) (c := c) (d := d) (by omega) (by omega) hcl) (lw_r_lt (f := h) (s := l) (cl := sb_df (2 ^ n - 1) (h ||| l)) (a := a) (b := b) (c := c) (d := d) (by omega) (by omega) hcl)
        unfold be_lw
        split <;> omega⟩)
    · have hel : h = l := hor.resolve_right (fun q => h0 q.1)
      subst hel
      have e : so_N n h h g = sv_mix n (sb_pc h) g := if_neg h0
      rw [if_neg h0] at q4 q7 q9
      rw [e] at nX hN1 hN ⊢
      have hne : h ≠ 0 := fun q => h0 (by rw [q]; rfl)
      obtain ⟨L, R, hP, hm, hlf⟩ := bl_1 hn hh hg hne hN1 hN
      have p0 : sb_pc 0 = 0 := by decide
      refine ⟨L, R, ?_, hP, hm⟩
      rw [← hlf]
      exact be_best q6 q7 (by omega) hN hN1 hF nX (fun a b c d hab hcd => so_worst1 hn hg q3 q4 q5 q6 hpc sp (mi g hg) hab) (fun a b c d hab hcd => ⟨be_lowest (by omega) (by decide) hcl q8 q9 q10 (by omega) (by omega) hF, by
        have := be_en_lt (lw_l_lt (f := h) (s := 0) (cl := sb_df (2 ^ n - 1) (h ||| h)) (a := a) (b := b) (c := c) (d := d) (by omega) (by decide) hcl) (lw_r_lt (f := h) (s := 0) (cl := sb_df (2 ^ n - 1) (h ||| h)) (a := a) (b := b) (c := c) (d := d) (by omega) (by decide) hcl)
        unfold be_lw
        split <;> omega⟩)
theorem bl_out {L R : Nat} (hL : L < 4096) (hR : R < 4096) (hp : 2 * sb_pc L ≤ 12) : ¬ nI (be_en L R) = 268435456 ∧ ((nI (be_en L R) >>> ((12 : Int32) &&& 31)) &&& 4095 = nI L) ∧ nI (be_en L R) &&& 4095 = nI R := by
  have hb : be_en L R < 13 * 16777216 := by unfold be_en; omega
  refine ⟨sm_ne (b := 268435456) (by omega) (by omega) (by decide), ?_, ?_⟩
  · rw [pk_shrN (by omega) _ 12 (by decide)]
    have e := fa_mask (be_en L R / 2 ^ 12) 12
    have e2 : be_en L R / 2 ^ 12 % 2 ^ 12 = L := by unfold be_en; omega
    rw [e2] at e
    exact e
  · have e := fa_mask (be_en L R) 12
    have e2 : be_en L R % 2 ^ 12 = R := by unfold be_en; omega
    rw [e2] at e
    exact e
