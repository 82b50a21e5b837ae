-- the other side's best weighing
def bh (n h l g a b : Nat) : Nat := if sb_pc (sb_df h (a ||| b)) + sb_pc (sb_df l (a ||| b)) + g = sb_pc h + sb_pc l + g then 99 else if sb_pc (h &&& a) + sb_pc (l &&& b) = sb_pc h + sb_pc l + g then 99 else if sb_pc (h &&& b) + sb_pc (l &&& a) = sb_pc h + sb_pc l + g then 99 else max (so_N n (sb_df h (a ||| b)) (sb_df l (a ||| b)) g) (max (so_N n (h &&& a) (l &&& b) 0) (so_N n (h &&& b) (l &&& a) 0))
theorem so_N99 {n h l g : Nat} (hg : g ≤ 1) : so_N n h l g ≤ 99 := by
  unfold so_N
  split
  · exact sv_spl_99
  · exact sv_mix_99 hg
theorem mb_behind {F n k h l g a b : Nat} {T : si_St} (hn : n ≤ 12) (hk : k < 4) (hg : g ≤ 1) (hh : h < 2 ^ n) (hl : l < 2 ^ n) (hor : (h = l) ∨ (h &&& l = 0 ∧ g = 0)) (b1 : T.2.1 88 (661 + k) = nI h) (b2 : T.2.1 88 (665 + k) = nI l) (b3 : T.2.1 88 (669 + k) = nI g) (o1 : so_o1 n (n + 1) 0 T) (o2 : so_o2 n (n + 1) T) (ha : a < 4096) (hb : b < 4096) (hab : a &&& b = 0) (hF : 13 ≤ F) : f_X10_behind F (nI k) (nI a) (nI b) T = some (nI (bh n h l g a b), T) := by
  have h12 : 2 ^ n ≤ 2 ^ 12 := Nat.pow_le_pow_right (by decide) hn
  have ph := sb_le12 h
  have pl := sb_le12 l
  have e0 := fd_hm (F := F) (S := T) hk hF b1 b2 b3 (by omega) (by omega)
  have dh : sb_df h (a ||| b) < 4096 := df_lt (by omega)
  have dl : sb_df l (a ||| b) < 4096 := df_lt (by omega)
  have ha1 := mk_le (and_subL h a)
  have hb1 := mk_le (and_subL h b)
  have la1 := mk_le (and_subL l a)
  have lb1 := mk_le (and_subL l b)
  have q1 := sb_le12 (sb_df h (a ||| b))
  have q2 := sb_le12 (sb_df l (a ||| b))
  have q3 := sb_le12 (h &&& a)
  have q4 := sb_le12 (l &&& b)
  have q5 := sb_le12 (h &&& b)
  have q6 := sb_le12 (l &&& a)
  have d1 : (h &&& a) &&& (l &&& b) = 0 := dj_iff.mpr (fun i hi => dj_iff.mp hab i ⟨(and_tb.mp hi.1).2, (and_tb.mp hi.2).2⟩)
  have d2 : (h &&& b) &&& (l &&& a) = 0 := dj_iff.mpr (fun i hi => dj_iff.mp hab i ⟨(and_tb.mp hi.2).2, (and_tb.mp hi.1).2⟩)
  have or1 : (sb_df h (a ||| b) = sb_df l (a ||| b)) ∨ (sb_df h (a ||| b) &&& sb_df l (a ||| b) = 0 ∧ g = 0) := by
    rcases hor with rfl | ⟨hz, hg0⟩
    · exact Or.inl rfl
    · exact Or.inr ⟨dj_iff.mpr (fun i hi => dj_iff.mp hz i ⟨(df_tb.mp hi.1).1, (df_tb.mp hi.2).1⟩), hg0⟩
  have n1 := so_needs (F := F) (T := T) hn hg (sub_lt (df_sub h (a ||| b)) hh) (sub_lt (df_sub l (a ||| b)) hl) or1 o1 o2 hF
  have n2 := so_needs (F := F) (T := T) (g := 0) hn (by decide) (sub_lt (and_subL h a) hh) (sub_lt (and_subL l b) hl) (Or.inr ⟨d1, rfl⟩) o1 o2 hF
  have n3 := so_needs (F := F) (T := T) (g := 0) hn (by decide) (sub_lt (and_subL h b) hh) (sub_lt (and_subL l a) hl) (Or.inr ⟨d2, rfl⟩) o1 o2 hF
  have w1 := so_N99 (n := n) (h := sb_df h (a ||| b)) (l := sb_df l (a ||| b)) hg
  have w2 := so_N99 (n := n) (h := h &&& a) (l := l &&& b) (g := 0) (by decide)
  have w3 := so_N99 (n := n) (h := h &&& b) (l := l &&& a) (g := 0) (by decide)
  have n2' : f_X10_needs F (nI (h &&& a)) (nI (l &&& b)) 0 T = some (nI (so_N n (h &&& a) (l &&& b) 0), T) := n2
  have n3' : f_X10_needs F (nI (h &&& b)) (nI (l &&& a)) 0 T = some (nI (so_N n (h &&& b) (l &&& a) 0), T) := n3
  unfold f_X10_behind f_X10_behind_h115 bh
  rw [li_addL, rd_88 (by omega), Option.bind_some, li_addL, rd_88 (by omega), Option.bind_some, Option.bind_some, e0, Option.bind_some, b1, b2]
  try dsimp only
  rw [we_df (by omega) ha hb, we_df (by omega) ha hb, fa_and, fa_and, fa_and, fa_and, sb_bits dh hF, Option.bind_some]
  try dsimp only
  rw [sb_bits dl hF, Option.bind_some]
  try dsimp only
  rw [li_addL, rd_88 (by omega), Option.bind_some, b3, nI_add, nI_add, Option.bind_some]
  by_cases c1 : sb_pc (sb_df h (a ||| b)) + sb_pc (sb_df l (a ||| b)) + g = sb_pc h + sb_pc l + g
  · rw [if_pos (by rw [c1]), if_pos c1]
    rfl
  · rw [if_neg (sm_ne c1 (by omega) (by omega)), if_neg c1, sb_bits (by omega) hF, Option.bind_some]
    try dsimp only
    rw [sb_bits (by omega) hF, Option.bind_some]
    try dsimp only
    rw [nI_add]
    by_cases c2 : sb_pc (h &&& a) + sb_pc (l &&& b) = sb_pc h + sb_pc l + g
    · rw [if_pos (by rw [c2]), if_pos c2]
      rfl
    · rw [if_neg (sm_ne c2 (by omega) (by omega)), if_neg c2, sb_bits (by omega) hF, Option.bind_some]
      try dsimp only
      rw [sb_bits (by omega) hF, Option.bind_some]
      try dsimp only
      rw [nI_add]
      by_cases c3 : sb_pc (h &&& b) + sb_pc (l &&& a) = sb_pc h + sb_pc l + g
      · rw [if_pos (by rw [c3]), if_pos c3]
        rfl
      · rw [if_neg (sm_ne c3 (by omega) (by omega)), if_neg c3, rd_88 (by omega), Option.bind_some, b3, n1, Option.bind_some]
        try dsimp only
        rw [n2', Option.bind_some]
        try dsimp only
        rw [n3', Option.bind_some]
        try dsimp only
        rw [so_worse (by omega) (by omega), Option.bind_some]
        try dsimp only
        rw [so_worse (by omega) (by omega), Option.bind_some]
theorem nx_I {o r : Nat} (ho : o < 4096) : (nI r - nI o) &&& nI o = nI (nx 32 o r) := by
  have e : nI r - nI o = nI (r + (2 ^ 32 - o)) := by
    have h1 : nI (r + (2 ^ 32 - o)) + nI o = nI r := by
      rw [nI_add]
      have h2 : r + (2 ^ 32 - o) + o = r + 2 ^ 32 := by omega
      rw [h2]
      refine Int32.toBitVec_inj.mp ?_
      show BitVec.ofNat 32 (r + 2 ^ 32) = BitVec.ofNat 32 r
      apply BitVec.eq_of_toNat_eq
      rw [BitVec.toNat_ofNat, BitVec.toNat_ofNat, Nat.add_mod_right]
    rw [← h1]
    exact Int32.add_sub_cancel _ _
  rw [e, fa_and]
  rfl
/-- what the other side looks for -/
def mb_P (n h l g N a b : Nat) : Prop := a < 2 ^ n ∧ b < 2 ^ n ∧ a &&& b = 0 ∧ 0 < a ∧ sb_pc a = sb_pc b ∧ bh n h l g a b = N - 1
theorem mb_best {F n k h l g N L R : Nat} {T : si_St} (hn : n ≤ 12) (hn2 : 2 ≤ n) (hk : k < 4) (hg : g ≤ 1) (hh : h < 2 ^ n) (hl : l < 2 ^ n) (hor : (h = l) ∨ (h &&& l = 0 ∧ g = 0)) (b1 : T.2.1 88 (661 + k) = nI h) (b2 : T.2.1 88 (665 + k) = nI l) (b3 : T.2.1 88 (669 + k) = nI g) (b4 : T.2.1 94 k = nI n) (o1 : so_o1 n (n + 1) 0 T) (o2 : so_o2 n (n + 1) T) (hN1 : 1 ≤ N) (hN : N ≤ 98) (hP : mb_P n h l g N L R) (hmin : ∀ a b, mb_P n h l g N a b → be_en L R ≤ be_en a b) (hF : 5000 ≤ F) : f_X10_best_l37 F F (nI k) (nI N) (nI (2 ^ n)) (nI 1) T = some (nI L, si_ps T 87 40 (nI R)) := by
  have h12 : 2 ^ n ≤ 2 ^ 12 := Nat.pow_le_pow_right (by decide) hn
  have hp : 0 < 2 ^ n := Nat.pow_pos (by decide)
  obtain ⟨pL, pR, pLR, pL0, ppc, pbh⟩ := id hP
  have eN : (nI N : Int32) - 1 = nI (N - 1) := sm_sub (b := 1) hN1
  -- one step of the innermost walk
  have step : ∀ r37 r53 t kk a o r, kk ≤ 12 → a < 2 ^ n → o = sb_df (2 ^ n - 1) a → r &&& o = r → 0 < r → f_X10_best_l77 F r37 r53 (t + 1) (nI k) (nI N) (nI (2 ^ n)) (nI kk) (nI a) (nI o) (nI r) T = if sb_pc a = kk then (if sb_pc r = kk ∧ bh n h l g a r = N - 1 then some (nI a, si_ps T 87 40 (nI r)) else f_X10_best_l77 F r37 r53 t (nI k) (nI N) (nI (2 ^ n)) (nI kk) (nI a) (nI o) (nI (nx 32 o r)) T) else r53 (nI k) (nI N) (nI (2 ^ n)) (nI kk) (nI (a + 1)) T := by
    intro r37 r53 t kk a o r hkk ha ho hr hr0
    have ho12 : o < 4096 := by rw [ho]; exact df_lt (by omega)
    have hrl := mk_le hr
    have hra : a &&& r = 0 := dj_iff.mpr (fun i hi => by
      have q := sub_iff.mp hr i hi.2
      rw [ho] at q
      exact (df_tb.mp q).2 hi.1)
    have pa := sb_le12 a
    have pr := sb_le12 r
    have bhle : bh n h l g a r ≤ 99 := by
      have w1 := so_N99 (n := n) (h := sb_df h (a ||| r)) (l := sb_df l (a ||| r)) hg
      have w2 := so_N99 (n := n) (h := h &&& a) (l := l &&& r) (g := 0) (by decide)
      have w3 := so_N99 (n := n) (h := h &&& r) (l := l &&& a) (g := 0) (by decide)
      unfold bh
      split
      · omega
      · split
        · omega
        · split <;> omega
    show f_X10_best_h77 F r37 r53 (f_X10_best_l77 F r37 r53 t) (nI k) (nI N) (nI (2 ^ n)) (nI kk) (nI a) (nI o) (nI r) T = _
    have s126 : f_X10_best_h126 F r37 r53 (f_X10_best_l77 F r37 r53 t) (nI k) (nI N) (nI (2 ^ n)) (nI kk) (nI a) (nI o) (nI r) T = f_X10_best_l77 F r37 r53 t (nI k) (nI N) (nI (2 ^ n)) (nI kk) (nI a) (nI o) (nI (nx 32 o r)) T := by
      unfold f_X10_best_h126
      rw [nx_I ho12, Option.bind_some]
    unfold f_X10_best_h77 f_X10_best_h139
    rw [if_neg (nI_ne0 hr0 (by omega)), sb_bits (by omega) (by omega), Option.bind_some]
    try dsimp only
    by_cases c1 : sb_pc a = kk
    · rw [if_pos (by rw [c1]), if_pos c1, sb_bits (by omega) (by omega), Option.bind_some]
      try dsimp only
      by_cases c2 : sb_pc r = kk
      · rw [if_pos (by rw [c2]), mb_behind hn hk hg hh hl hor b1 b2 b3 o1 o2 (by omega) (by omega) hra (by omega), Option.bind_some]
        try dsimp only
        rw [eN]
        by_cases c3 : bh n h l g a r = N - 1
        · rw [if_pos (by rw [c3]), if_pos ⟨c2, c3⟩, sm_pt, Option.bind_some]
        · rw [if_neg (sm_ne c3 (by omega) (by omega)), if_neg (fun q => c3 q.2), s126]
      · rw [if_neg (sm_ne c2 (by omega) (by omega)), if_neg (fun q => c2 q.1), s126]
    · rw [if_neg (sm_ne c1 (by omega) (by omega)), if_neg c1, Option.bind_some, nI_1]
  have step0 : ∀ r37 r53 t kk a o, f_X10_best_l77 F r37 r53 (t + 1) (nI k) (nI N) (nI (2 ^ n)) (nI kk) (nI a) (nI o) (nI 0) T = r53 (nI k) (nI N) (nI (2 ^ n)) (nI kk) (nI (a + 1)) T := by
    intro r37 r53 t kk a o
    show f_X10_best_h77 F r37 r53 (f_X10_best_l77 F r37 r53 t) (nI k) (nI N) (nI (2 ^ n)) (nI kk) (nI a) (nI o) (nI 0) T = _
    unfold f_X10_best_h77 f_X10_best_h139
    rw [if_pos (show nI 0 = 0 from rfl), Option.bind_some, nI_1]
  have inSkip : ∀ r37 r53 kk a o, kk ≤ 12 → a < 2 ^ n → o = sb_df (2 ^ n - 1) a → (sb_pc a = kk → ∀ r, r &&& o = r → 0 < r → ¬ (sb_pc r = kk ∧ bh n h l g a r = N - 1)) → ∀ t r, r &&& o = r → ((r = 0 ∧ 1 ≤ t) ∨ o + 2 ≤ t + r) → f_X10_best_l77 F r37 r53 t (nI k) (nI N) (nI (2 ^ n)) (nI kk) (nI a) (nI o) (nI r) T = r53 (nI k) (nI N) (nI (2 ^ n)) (nI kk) (nI (a + 1)) T := by
    intro r37 r53 kk a o hkk ha ho hno t
    have ho12 : o < 4096 := by rw [ho]; exact df_lt (by omega)
    induction t with
    | zero =>
      intro r hr ht
      have := mk_le hr
      omega
    | succ t ih =>
      intro r hr ht
      have hrl := mk_le hr
      by_cases hr0 : r = 0
      · subst hr0
        exact step0 r37 r53 t kk a o
      · rw [step r37 r53 t kk a o r hkk ha ho hr (by omega)]
        by_cases c1 : sb_pc a = kk
        · rw [if_pos c1, if_neg (hno c1 r hr (by omega))]
          by_cases hro : r = o
          · rw [hro, nx_top (by omega)]
            exact ih 0 (Nat.zero_and o) (Or.inl ⟨rfl, by omega⟩)
          · obtain ⟨n1, n2, -⟩ := nx_spec 32 (o := o) (r := r) (by omega) hr hro
            exact ih _ n2 (Or.inr (by omega))
        · rw [if_neg c1]
  have inFind : ∀ r37 r53 o, o = sb_df (2 ^ n - 1) L → R &&& o = R → (∀ r, r &&& o = r → 0 < r → r < R → ¬ (sb_pc r = sb_pc L ∧ bh n h l g L r = N - 1)) → ∀ t r, r &&& o = r → 0 < r → r ≤ R → R + 1 ≤ t + r → f_X10_best_l77 F r37 r53 t (nI k) (nI N) (nI (2 ^ n)) (nI (sb_pc L)) (nI L) (nI o) (nI r) T = some (nI L, si_ps T 87 40 (nI R)) := by
    intro r37 r53 o ho hR hno t
    have ho12 : o < 4096 := by rw [ho]; exact df_lt (by omega)
    induction t with
    | zero =>
      intro r hr hr0 hrR ht
      omega
    | succ t ih =>
      intro r hr hr0 hrR ht
      rw [step r37 r53 t (sb_pc L) L o r (sb_le12 L) pL ho hr hr0, if_pos rfl]
      by_cases hre : r = R
      · subst hre
        rw [if_pos ⟨ppc.symm, pbh⟩]
      · rw [if_neg (hno r hr hr0 (by omega))]
        have hRo := mk_le hR
        obtain ⟨n1, n2, n3⟩ := nx_spec 32 (o := o) (r := r) (by omega) hr (by omega)
        have := n3 R hR (by omega)
        exact ih _ n2 (by omega) this (by omega)
  -- the middle walk
  have start : ∀ r37 t kk a, a < 2 ^ n → f_X10_best_l53 F r37 (t + 1) (nI k) (nI N) (nI (2 ^ n)) (nI kk) (nI a) T = f_X10_best_l77 F r37 (f_X10_best_l53 F r37 t) F (nI k) (nI N) (nI (2 ^ n)) (nI kk) (nI a) (nI (sb_df (2 ^ n - 1) a)) (nI (nx 32 (sb_df (2 ^ n - 1) a) 0)) T := by
    intro r37 t kk a ha
    have ho12 : sb_df (2 ^ n - 1) a < 4096 := df_lt (by omega)
    show f_X10_best_h53 F r37 (f_X10_best_l53 F r37 t) (nI k) (nI N) (nI (2 ^ n)) (nI kk) (nI a) T = _
    have e1 : nI (2 ^ n) - 1 = nI (2 ^ n - 1) := sm_sub (b := 1) (by omega)
    unfold f_X10_best_h53
    rw [if_neg (nI_ge ha (by omega)), e1, we_df1 (by omega) (by omega), Option.bind_some]
    have e2 : nI (sb_df (2 ^ n - 1) a) &&& -nI (sb_df (2 ^ n - 1) a) = nI (nx 32 (sb_df (2 ^ n - 1) a) 0) := by
      rw [← nx_I ho12]
      have e3 : nI 0 - nI (sb_df (2 ^ n - 1) a) = -nI (sb_df (2 ^ n - 1) a) := by
        show (0 : Int32) - _ = _
        rw [Int32.sub_eq_add_neg, Int32.zero_add]
      rw [e3]
      refine b_ext (fun i _ => ?_)
      rw [b_and, b_and, Bool.and_comm]
    rw [e2, Option.bind_some]
  have r0 : ∀ o, o < 4096 → nx 32 o 0 &&& o = nx 32 o 0 ∧ (0 < o → 0 < nx 32 o 0 ∧ ∀ t, t &&& o = t → 0 < t → nx 32 o 0 ≤ t) ∧ (o = 0 → nx 32 o 0 = 0) := by
    intro o ho
    refine ⟨?_, fun h0 => ?_, fun h0 => ?_⟩
    · unfold nx
      rw [Nat.and_assoc, Nat.and_self]
    · obtain ⟨n1, n2, n3⟩ := nx_spec 32 (o := o) (r := 0) (by omega) (Nat.zero_and o) (by omega)
      exact ⟨n1, n3⟩
    · subst h0
      exact Nat.and_zero _
  have leftSkip : ∀ r37 t kk a, kk ≤ 12 → a < 2 ^ n → (∀ b, sb_pc a = kk → ¬ mb_P n h l g N a b) → 0 < a → f_X10_best_l53 F r37 (t + 1) (nI k) (nI N) (nI (2 ^ n)) (nI kk) (nI a) T = f_X10_best_l53 F r37 t (nI k) (nI N) (nI (2 ^ n)) (nI kk) (nI (a + 1)) T := by
    intro r37 t kk a hkk ha hno ha0
    have ho12 : sb_df (2 ^ n - 1) a < 4096 := df_lt (by omega)
    obtain ⟨z1, z2, z3⟩ := r0 _ ho12
    rw [start r37 t kk a ha]
    refine inSkip r37 _ kk a _ hkk ha rfl (fun c1 r hr hr0 hq => ?_) F _ z1 ?_
    · have hrn : r < 2 ^ n := by
        have q1 := mk_le hr
        have q2 := mk_le (df_sub (2 ^ n - 1) a)
        omega
      refine hno r c1 ⟨ha, hrn, dj_iff.mpr (fun i hi => (df_tb.mp (sub_iff.mp hr i hi.2)).2 hi.1), ha0, by rw [c1, hq.1], hq.2⟩
    · by_cases h0 : sb_df (2 ^ n - 1) a = 0
      · exact Or.inl ⟨z3 h0, by omega⟩
      · exact Or.inr (by omega)
  have midSkip : ∀ r37 kk, kk ≤ 12 → (∀ a b, sb_pc a = kk → ¬ mb_P n h l g N a b) → f_X10_best_l53 F r37 F (nI k) (nI N) (nI (2 ^ n)) (nI kk) (nI 1) T = r37 (nI k) (nI N) (nI (2 ^ n)) (nI (kk + 1)) T := by
    intro r37 kk hkk hno
    have hh := lp_go (fun t a => f_X10_best_l53 F r37 t (nI k) (nI N) (nI (2 ^ n)) (nI kk) (nI (a + 1)) T) (r37 (nI k) (nI N) (nI (2 ^ n)) (nI (kk + 1)) T) (2 ^ n - 1) (fun t => by
      show f_X10_best_h53 F r37 (f_X10_best_l53 F r37 t) (nI k) (nI N) (nI (2 ^ n)) (nI kk) (nI (2 ^ n - 1 + 1)) T = _
      have e1 : 2 ^ n - 1 + 1 = 2 ^ n := by omega
      unfold f_X10_best_h53
      rw [e1, if_pos (Int32.le_refl _), Option.bind_some, nI_1]) (fun t a ha => leftSkip r37 t kk (a + 1) hkk (by omega) (fun b c1 => hno (a + 1) b c1) (by omega)) F 0 (Nat.zero_le _) (by omega)
    exact hh
  have midFind : ∀ r37, f_X10_best_l53 F r37 F (nI k) (nI N) (nI (2 ^ n)) (nI (sb_pc L)) (nI 1) T = some (nI L, si_ps T 87 40 (nI R)) := by
    intro r37
    have hh := lp_go (fun t a => f_X10_best_l53 F r37 t (nI k) (nI N) (nI (2 ^ n)) (nI (sb_pc L)) (nI (a + 1)) T) (some (nI L, si_ps T 87 40 (nI R))) (L - 1) (fun t => by
      have e1 : L - 1 + 1 = L := by omega
      have ho12 : sb_df (2 ^ n - 1) L < 4096 := df_lt (by omega)
      have hRo : R &&& sb_df (2 ^ n - 1) L = R := sub_iff.mpr (fun i hi => df_tb.mpr ⟨by
        have q : R &&& (2 ^ n - 1) = R := Nat.and_two_pow_sub_one_of_lt_two_pow pR
        exact sub_iff.mp q i hi, fun hl => dj_iff.mp pLR i ⟨hl, hi⟩⟩)
      have hR0 : 0 < R := by
        have q1 := sb_pos L (by omega)
        have q2 := sb_pos R (by omega)
        omega
      obtain ⟨z1, z2, z3⟩ := r0 _ ho12
      have hol := mk_le hRo
      obtain ⟨z4, z5⟩ := z2 (by omega)
      rw [e1, start r37 t (sb_pc L) L pL]
      refine inFind r37 _ _ rfl hRo (fun r hr hr0 hrR hq => ?_) F _ z1 z4 (z5 R hRo hR0) (by omega)
      have hrn : r < 2 ^ n := by omega
      have q := hmin L r ⟨pL, hrn, dj_iff.mpr (fun i hi => (df_tb.mp (sub_iff.mp hr i hi.2)).2 hi.1), pL0, hq.1.symm, hq.2⟩
      unfold be_en at q
      omega) (fun t a ha => leftSkip r37 t (sb_pc L) (a + 1) (sb_le12 L) (by omega) (fun b c1 hq => by
      have q := hmin _ _ hq
      have q2 := hq.2.1
      unfold be_en at q
      rw [c1] at q
      omega) (by omega)) F 0 (Nat.zero_le _) (by omega)
    exact hh
  -- the outer walk
  have hK1 : 1 ≤ sb_pc L := by
    have q1 := sb_pos L (by omega)
    omega
  have hK2 : 2 * sb_pc L ≤ n := by
    have q := sb_pc_or hn pL pR pLR
    omega
  exact lp_go (fun t kk => f_X10_best_l37 F t (nI k) (nI N) (nI (2 ^ n)) (nI kk) T) (some (nI L, si_ps T 87 40 (nI R))) (sb_pc L) (fun t => by
    show f_X10_best_h37 F (f_X10_best_l37 F t) (nI k) (nI N) (nI (2 ^ n)) (nI (sb_pc L)) T = _
    unfold f_X10_best_h37
    rw [rd_94 (by omega), Option.bind_some, b4, li_mulL, if_neg (nI_nlt (by omega) (by omega))]
    exact midFind _) (fun t kk hkk => by
    show f_X10_best_h37 F (f_X10_best_l37 F t) (nI k) (nI N) (nI (2 ^ n)) (nI kk) T = _
    unfold f_X10_best_h37
    rw [rd_94 (by omega), Option.bind_some, b4, li_mulL, if_neg (nI_nlt (by omega) (by omega))]
    exact midSkip _ kk (by omega) (fun a b c1 hq => by
      have q := hmin _ _ hq
      have q1 := hq.1
      have q2 := hq.2.1
      unfold be_en at q
      rw [c1] at q
      omega)) F 1 hK1 (by omega)
