-- three disjoint sets that make up all weights
theorem dj_iff {a b : Nat} : a &&& b = 0 ↔ ∀ i, ¬ (a.testBit i = true ∧ b.testBit i = true) := by
  constructor
  · intro h i hi
    have t : (a &&& b).testBit i = true := by rw [Nat.testBit_and, hi.1, hi.2]; rfl
    rw [h, Nat.zero_testBit] at t
    cases t
  · intro h
    refine Nat.eq_of_testBit_eq (fun i => ?_)
    rw [Nat.testBit_and, Nat.zero_testBit]
    have := h i
    cases ha : a.testBit i <;> cases hb : b.testBit i <;> simp_all
theorem sub_iff {t s : Nat} : t &&& s = t ↔ ∀ i, t.testBit i = true → s.testBit i = true := by
  constructor
  · intro h i hi
    have e : (t &&& s).testBit i = true := by rw [h]; exact hi
    rw [Nat.testBit_and, Bool.and_eq_true] at e
    exact e.2
  · intro h
    refine Nat.eq_of_testBit_eq (fun i => ?_)
    rw [Nat.testBit_and]
    cases ht : t.testBit i with
    | false => rfl
    | true => rw [h i ht]; rfl
theorem sb_add {a b : Nat} (h0 : a &&& b = 0) : sb_pc (a ||| b) = sb_pc a + sb_pc b := by
  unfold sb_pc
  have q := fb_ct_or (p := fun i => a.testBit i) (q := fun i => b.testBit i) (n := 12) (fun k _ hk => dj_iff.mp h0 k hk)
  rw [← q]
  exact fb_ct_cong (fun k _ => Nat.testBit_or ..)
theorem sb_sub {t s : Nat} (h : t &&& s = t) : sb_pc t ≤ sb_pc s := by
  unfold sb_pc
  exact fb_ct_sub (fun k _ hk => sub_iff.mp h k hk)
theorem or_add {a b : Nat} (h0 : a &&& b = 0) : a ||| b = a + b := mk_sum a Nat.lt_two_pow_self h0
theorem and_tb {a b i : Nat} : (a &&& b).testBit i = true ↔ a.testBit i = true ∧ b.testBit i = true := by rw [Nat.testBit_and, Bool.and_eq_true]
theorem or_tb {a b i : Nat} : (a ||| b).testBit i = true ↔ a.testBit i = true ∨ b.testBit i = true := by rw [Nat.testBit_or, Bool.or_eq_true]
theorem df_tb {a b i : Nat} : (sb_df a b).testBit i = true ↔ a.testBit i = true ∧ ¬ b.testBit i = true := by
  rw [sb_df_tb, Bool.and_eq_true]
  cases b.testBit i <;> simp
theorem tb_ext {a b : Nat} (h : ∀ i, a.testBit i = true ↔ b.testBit i = true) : a = b := Nat.eq_of_testBit_eq (fun i => by
  have := h i
  cases ha : a.testBit i <;> cases hb : b.testBit i <;> simp_all)
theorem tb_n {a n i : Nat} (ha : a < 2 ^ n) (hi : a.testBit i = true) : i < n := Decidable.byContradiction (fun h => by
  rw [Nat.testBit_lt_two_pow (Nat.lt_of_lt_of_le ha (Nat.pow_le_pow_right (by decide) (by omega)))] at hi
  cases hi)
def tp (n f s cl : Nat) : Prop := f < 2 ^ n ∧ s < 2 ^ n ∧ cl < 2 ^ n ∧ f &&& s = 0 ∧ f &&& cl = 0 ∧ s &&& cl = 0 ∧ ∀ i, i < n → f.testBit i = true ∨ s.testBit i = true ∨ cl.testBit i = true
theorem tp_pc {n f s cl X : Nat} (h : tp n f s cl) (hX : X < 2 ^ n) : sb_pc X = sb_pc (f &&& X) + sb_pc (s &&& X) + sb_pc (cl &&& X) ∧ X = (f &&& X) + (s &&& X) + (cl &&& X) := by
  obtain ⟨h1, h2, h3, h4, h5, h6, h7⟩ := h
  have d1 : (f &&& X) &&& (s &&& X) = 0 := dj_iff.mpr (fun i hi => dj_iff.mp h4 i ⟨(and_tb.mp hi.1).1, (and_tb.mp hi.2).1⟩)
  have d2 : ((f &&& X) ||| (s &&& X)) &&& (cl &&& X) = 0 := dj_iff.mpr (fun i hi => by
    rcases or_tb.mp hi.1 with q | q
    · exact dj_iff.mp h5 i ⟨(and_tb.mp q).1, (and_tb.mp hi.2).1⟩
    · exact dj_iff.mp h6 i ⟨(and_tb.mp q).1, (and_tb.mp hi.2).1⟩)
  have e : (f &&& X) ||| (s &&& X) ||| (cl &&& X) = X := tb_ext (fun i => by
    rw [or_tb, or_tb, and_tb, and_tb, and_tb]
    constructor
    · rintro ((q | q) | q) <;> exact q.2
    · intro hi
      rcases h7 i (tb_n hX hi) with q | q | q
      · exact Or.inl (Or.inl ⟨q, hi⟩)
      · exact Or.inl (Or.inr ⟨q, hi⟩)
      · exact Or.inr ⟨q, hi⟩)
  refine ⟨?_, ?_⟩
  · have q := sb_add d2
    rw [sb_add d1, e] at q
    exact q
  · have q := or_add d2
    rw [e, or_add d1] at q
    exact q
theorem tp_all {n f s cl : Nat} (h : tp n f s cl) (hn : n ≤ 12) : sb_pc f + sb_pc s + sb_pc cl = n := by
  have hp : 0 < 2 ^ n := Nat.pow_pos (by decide)
  have e := (tp_pc h (X := 2 ^ n - 1) (by omega)).1
  have sub : ∀ x, x < 2 ^ n → x &&& (2 ^ n - 1) = x := fun x hx => Nat.and_two_pow_sub_one_of_lt_two_pow hx
  rw [sub f h.1, sub s h.2.1, sub cl h.2.2.1] at e
  have hpc : sb_pc (2 ^ n - 1) = n := by
    have hns : n = 0 ∨ n = 1 ∨ n = 2 ∨ n = 3 ∨ n = 4 ∨ n = 5 ∨ n = 6 ∨ n = 7 ∨ n = 8 ∨ n = 9 ∨ n = 10 ∨ n = 11 ∨ n = 12 := by omega
    rcases hns with rfl | rfl | rfl | rfl | rfl | rfl | rfl | rfl | rfl | rfl | rfl | rfl | rfl <;> decide +kernel
  omega
theorem low_f {s m : Nat} (hs : s < 4096) (hm : m ≤ sb_pc s) : low s m &&& s = low s m ∧ sb_pc (low s m) = m ∧ ∀ t, t &&& s = t → sb_pc t = m → low s m ≤ t := by
  obtain ⟨a, b, -, d⟩ := low_all 12 hs hs m hm
  exact ⟨a, b, d⟩
theorem and_subL (a b : Nat) : (a &&& b) &&& a = a &&& b := sub_iff.mpr (fun i hi => (and_tb.mp hi).1)
/-- three parts, each of one of three disjoint sets -/
theorem three {f s cl x y z : Nat} (h4 : f &&& s = 0) (h5 : f &&& cl = 0) (h6 : s &&& cl = 0) (hx : x &&& f = x) (hy : y &&& s = y) (hz : z &&& cl = z) : x ||| y ||| z = x + y + z ∧ sb_pc (x ||| y ||| z) = sb_pc x + sb_pc y + sb_pc z ∧ f &&& (x ||| y ||| z) = x ∧ s &&& (x ||| y ||| z) = y ∧ cl &&& (x ||| y ||| z) = z := by
  have X := sub_iff.mp hx
  have Y := sub_iff.mp hy
  have Z := sub_iff.mp hz
  have d4 := dj_iff.mp h4
  have d5 := dj_iff.mp h5
  have d6 := dj_iff.mp h6
  have d1 : x &&& y = 0 := dj_iff.mpr (fun i hi => d4 i ⟨X i hi.1, Y i hi.2⟩)
  have d2 : (x ||| y) &&& z = 0 := dj_iff.mpr (fun i hi => by
    rcases or_tb.mp hi.1 with q | q
    · exact d5 i ⟨X i q, Z i hi.2⟩
    · exact d6 i ⟨Y i q, Z i hi.2⟩)
  refine ⟨by rw [or_add d2, or_add d1], by rw [sb_add d2, sb_add d1], ?_, ?_, ?_⟩
  · refine tb_ext (fun i => ?_)
    rw [and_tb, or_tb, or_tb]
    constructor
    · rintro ⟨q1, (q2 | q2) | q2⟩
      · exact q2
      · exact absurd ⟨q1, Y i q2⟩ (d4 i)
      · exact absurd ⟨q1, Z i q2⟩ (d5 i)
    · exact fun q => ⟨X i q, Or.inl (Or.inl q)⟩
  · refine tb_ext (fun i => ?_)
    rw [and_tb, or_tb, or_tb]
    constructor
    · rintro ⟨q1, (q2 | q2) | q2⟩
      · exact absurd ⟨X i q2, q1⟩ (d4 i)
      · exact q2
      · exact absurd ⟨q1, Z i q2⟩ (d6 i)
    · exact fun q => ⟨Y i q, Or.inl (Or.inr q)⟩
  · refine tb_ext (fun i => ?_)
    rw [and_tb, or_tb, or_tb]
    constructor
    · rintro ⟨q1, (q2 | q2) | q2⟩
      · exact absurd ⟨X i q2, q1⟩ (d5 i)
      · exact absurd ⟨Y i q2, q1⟩ (d6 i)
      · exact q2
    · exact fun q => ⟨Z i q, Or.inr q⟩
theorem df_sub (a b : Nat) : sb_df a b &&& a = sb_df a b := sub_iff.mpr (fun i hi => (df_tb.mp hi).1)
theorem sub_tr {a b c : Nat} (h1 : a &&& b = a) (h2 : b &&& c = b) : a &&& c = a := sub_iff.mpr (fun i hi => sub_iff.mp h2 i (sub_iff.mp h1 i hi))
theorem df_pc {a b : Nat} : sb_pc (sb_df a b) + sb_pc (a &&& b) = sb_pc a := by
  have d : sb_df a b &&& (a &&& b) = 0 := dj_iff.mpr (fun i hi => (df_tb.mp hi.1).2 (and_tb.mp hi.2).2)
  have e : sb_df a b ||| (a &&& b) = a := tb_ext (fun i => by
    rw [or_tb, df_tb, and_tb]
    constructor
    · rintro (q | q) <;> exact q.1
    · intro q
      by_cases hb : b.testBit i = true
      · exact Or.inr ⟨q, hb⟩
      · exact Or.inl ⟨q, hb⟩)
  have q := sb_add d
  rw [e] at q
  omega
theorem sub_lt {t s n : Nat} (h : t &&& s = t) (hs : s < 2 ^ n) : t < 2 ^ n := Nat.lt_of_le_of_lt (mk_le h) hs
/-- the lowest weighing of a kind -/
theorem lw_ok {n f s cl a b c d : Nat} (hn : n ≤ 12) (h : tp n f s cl) (hab : a + b ≤ sb_pc f) (hcd : c + d ≤ sb_pc s) (hg : sv_gap (a + c) (b + d) ≤ sb_pc cl) : lw_l f s cl a b c d < 2 ^ n ∧ lw_r f s cl a b c d < 2 ^ n ∧ lw_l f s cl a b c d &&& lw_r f s cl a b c d = 0 ∧ sb_pc (lw_l f s cl a b c d) = a + c + ((b + d) - (a + c)) ∧ sb_pc (lw_r f s cl a b c d) = b + d + ((a + c) - (b + d)) ∧ sb_pc (f &&& lw_l f s cl a b c d) = a ∧ sb_pc (s &&& lw_l f s cl a b c d) = c ∧ sb_pc (f &&& lw_r f s cl a b c d) = b ∧ sb_pc (s &&& lw_r f s cl a b c d) = d ∧ lw_l f s cl a b c d = low f a + low s c + low cl ((b + d) - (a + c)) ∧ lw_r f s cl a b c d = low (sb_df f (lw_l f s cl a b c d)) b + low (sb_df s (lw_l f s cl a b c d)) d + low (sb_df cl (lw_l f s cl a b c d)) ((a + c) - (b + d)) := by
  obtain ⟨h1, h2, h3, h4, h5, h6, h7⟩ := id h
  have h12 : 2 ^ n ≤ 2 ^ 12 := Nat.pow_le_pow_right (by decide) hn
  have g2 : (b + d) - (a + c) ≤ sb_pc cl ∧ (a + c) - (b + d) ≤ sb_pc cl ∧ ((b + d) - (a + c) = 0 ∨ (a + c) - (b + d) = 0) := by
    unfold sv_gap at hg
    omega
  obtain ⟨a1, a2, -⟩ := low_f (s := f) (m := a) (by omega) (by omega)
  obtain ⟨c1, c2, -⟩ := low_f (s := s) (m := c) (by omega) (by omega)
  obtain ⟨x1, x2, -⟩ := low_f (s := cl) (m := (b + d) - (a + c)) (by omega) g2.1
  obtain ⟨l1, l2, l3, l4, l5⟩ := three h4 h5 h6 a1 c1 x1
  have eL : low f a ||| low s c ||| low cl ((b + d) - (a + c)) = lw_l f s cl a b c d := rfl
  rw [eL] at l1 l2 l3 l4 l5
  have eR : lw_r f s cl a b c d = low (sb_df f (lw_l f s cl a b c d)) b ||| low (sb_df s (lw_l f s cl a b c d)) d ||| low (sb_df cl (lw_l f s cl a b c d)) ((a + c) - (b + d)) := rfl
  have hL : lw_l f s cl a b c d < 2 ^ n := Nat.or_lt_two_pow (Nat.or_lt_two_pow (sub_lt a1 h1) (sub_lt c1 h2)) (sub_lt x1 h3)
  generalize lw_l f s cl a b c d = L at *
  have p1 := df_pc (a := f) (b := L)
  have p2 := df_pc (a := s) (b := L)
  have p3 := df_pc (a := cl) (b := L)
  rw [l3, a2] at p1
  rw [l4, c2] at p2
  rw [l5, x2] at p3
  have m1 := mk_le (df_sub f L)
  have m2 := mk_le (df_sub s L)
  have m3 := mk_le (df_sub cl L)
  obtain ⟨b1, b2, -⟩ := low_f (s := sb_df f L) (m := b) (by omega) (by omega)
  obtain ⟨d1, d2, -⟩ := low_f (s := sb_df s L) (m := d) (by omega) (by omega)
  obtain ⟨y1, y2, -⟩ := low_f (s := sb_df cl L) (m := (a + c) - (b + d)) (by omega) (by omega)
  obtain ⟨r1, r2, r3, r4, r5⟩ := three h4 h5 h6 (sub_tr b1 (df_sub f L)) (sub_tr d1 (df_sub s L)) (sub_tr y1 (df_sub cl L))
  have hR : low (sb_df f L) b ||| low (sb_df s L) d ||| low (sb_df cl L) ((a + c) - (b + d)) < 2 ^ n := Nat.or_lt_two_pow (Nat.or_lt_two_pow (sub_lt (sub_tr b1 (df_sub f L)) h1) (sub_lt (sub_tr d1 (df_sub s L)) h2)) (sub_lt (sub_tr y1 (df_sub cl L)) h3)
  have hLR : L &&& (low (sb_df f L) b ||| low (sb_df s L) d ||| low (sb_df cl L) ((a + c) - (b + d))) = 0 := dj_iff.mpr (fun i hi => by
    rcases or_tb.mp hi.2 with q | q
    · rcases or_tb.mp q with q | q
      · exact (df_tb.mp (sub_iff.mp b1 i q)).2 hi.1
      · exact (df_tb.mp (sub_iff.mp d1 i q)).2 hi.1
    · exact (df_tb.mp (sub_iff.mp y1 i q)).2 hi.1)
  rw [eR]
  refine ⟨hL, hR, hLR, by rw [l2, a2, c2, x2], by rw [r2, b2, d2, y2], by rw [l3, a2], by rw [l4, c2], by rw [r3, b2], by rw [r4, d2], l1, r1⟩
/-- .. is the lowest -/
theorem lw_min {n f s cl L R : Nat} (hn : n ≤ 12) (h : tp n f s cl) (hL : L < 2 ^ n) (hR : R < 2 ^ n) (hLR : L &&& R = 0) (hpc : sb_pc L = sb_pc R) : sv_gap (sb_pc (f &&& L) + sb_pc (s &&& L)) (sb_pc (f &&& R) + sb_pc (s &&& R)) ≤ sb_pc cl ∧ sb_pc (f &&& L) + sb_pc (f &&& R) ≤ sb_pc f ∧ sb_pc (s &&& L) + sb_pc (s &&& R) ≤ sb_pc s ∧ be_en (lw_l f s cl (sb_pc (f &&& L)) (sb_pc (f &&& R)) (sb_pc (s &&& L)) (sb_pc (s &&& R))) (lw_r f s cl (sb_pc (f &&& L)) (sb_pc (f &&& R)) (sb_pc (s &&& L)) (sb_pc (s &&& R))) ≤ be_en L R := by
  obtain ⟨h1, h2, h3, h4, h5, h6, h7⟩ := id h
  have h12 : 2 ^ n ≤ 2 ^ 12 := Nat.pow_le_pow_right (by decide) hn
  obtain ⟨eL, sL⟩ := tp_pc h hL
  obtain ⟨eR, sR⟩ := tp_pc h hR
  have two : ∀ x, sb_pc (x &&& L) + sb_pc (x &&& R) ≤ sb_pc x := by
    intro x
    have d : (x &&& L) &&& (x &&& R) = 0 := dj_iff.mpr (fun i hi => dj_iff.mp hLR i ⟨(and_tb.mp hi.1).2, (and_tb.mp hi.2).2⟩)
    have e : ((x &&& L) ||| (x &&& R)) &&& x = (x &&& L) ||| (x &&& R) := sub_iff.mpr (fun i hi => by
      rcases or_tb.mp hi with q | q <;> exact (and_tb.mp q).1)
    have q := sb_sub e
    rw [sb_add d] at q
    exact q
  have tf := two f
  have ts := two s
  have tc := two cl
  have hg : sv_gap (sb_pc (f &&& L) + sb_pc (s &&& L)) (sb_pc (f &&& R) + sb_pc (s &&& R)) ≤ sb_pc cl := by
    unfold sv_gap
    omega
  obtain ⟨q1, q2, q3, q4, q5, q6, q7, q8, q9, q10, q11⟩ := lw_ok hn h tf ts hg
  refine ⟨hg, tf, ts, ?_⟩
  obtain ⟨-, -, am⟩ := low_f (s := f) (m := sb_pc (f &&& L)) (by omega) (by omega)
  obtain ⟨-, -, cm⟩ := low_f (s := s) (m := sb_pc (s &&& L)) (by omega) (by omega)
  have am' := am _ (and_subL f L) rfl
  have cm' := cm _ (and_subL s L) rfl
  have hL1 := mk_le (and_subL f L)
  by_cases hK : sb_pc L = sb_pc (lw_l f s cl (sb_pc (f &&& L)) (sb_pc (f &&& R)) (sb_pc (s &&& L)) (sb_pc (s &&& R)))
  · have hx : (sb_pc (f &&& R) + sb_pc (s &&& R)) - (sb_pc (f &&& L) + sb_pc (s &&& L)) = sb_pc (cl &&& L) := by omega
    have hy : (sb_pc (f &&& L) + sb_pc (s &&& L)) - (sb_pc (f &&& R) + sb_pc (s &&& R)) = sb_pc (cl &&& R) := by omega
    obtain ⟨-, -, xm⟩ := low_f (s := cl) (m := sb_pc (cl &&& L)) (by omega) (by omega)
    have xm' := xm _ (and_subL cl L) rfl
    rw [hx] at q10
    rw [hy] at q11
    have hle : lw_l f s cl (sb_pc (f &&& L)) (sb_pc (f &&& R)) (sb_pc (s &&& L)) (sb_pc (s &&& R)) ≤ L := by omega
    by_cases hLe : lw_l f s cl (sb_pc (f &&& L)) (sb_pc (f &&& R)) (sb_pc (s &&& L)) (sb_pc (s &&& R)) = L
    · rw [hLe] at q11 ⊢
      have part : ∀ x, x < 4096 → low (sb_df x L) (sb_pc (x &&& R)) ≤ x &&& R := by
        intro x hx
        have hs : (x &&& R) &&& sb_df x L = x &&& R := sub_iff.mpr (fun i hi => df_tb.mpr ⟨(and_tb.mp hi).1, fun hl => dj_iff.mp hLR i ⟨hl, (and_tb.mp hi).2⟩⟩)
        obtain ⟨-, -, m⟩ := low_f (s := sb_df x L) (m := sb_pc (x &&& R)) (df_lt hx) (sb_sub hs)
        exact m _ hs rfl
      have p1 := part f (by omega)
      have p2 := part s (by omega)
      have p3 := part cl (by omega)
      unfold be_en
      omega
    · unfold be_en
      rw [← hK]
      omega
  · have hlt : sb_pc (lw_l f s cl (sb_pc (f &&& L)) (sb_pc (f &&& R)) (sb_pc (s &&& L)) (sb_pc (s &&& R))) < sb_pc L := by omega
    unfold be_en
    omega

