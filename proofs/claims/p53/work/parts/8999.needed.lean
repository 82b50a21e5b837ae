-- THE CLASS'S OWN ANSWERS ABOUT A SET'S WEIGHINGS
theorem cls.choose {F q x : Nat} {S : si_St} {n h l g w : Nat → Nat} (hF : 200 ≤ F) (c : cls S q n h l g w) (hx : x < q) (v : vs (n x) (h x) (l x) (g x)) : ∃ T, f_X9_chooseSet F (nI x) S = some T ∧ so_Q (n x) (h x) (l x) (g x) T ∧ so_sp T (n x) (sv_spl (n x)) ∧ (∀ g, g ≤ 1 → so_mi T (n x) g (fun v => sv_mix (n x) v g)) ∧ cls T q n h l g w ∧ dn [65, 66, 67, 68] 0 0 S T := by
  obtain ⟨k, hk, e1, e2⟩ := c.1.mk
  have hq := c.2.1
  obtain ⟨hn, a17, a18, a19, a20⟩ := c.2.2.2.1 x hx
  rw [e1] at hn
  obtain ⟨T, t1, t2, t3, t4, t5, t6, t7, t8⟩ := so_choose (F := F) (n := n x) (h := h x) (l := l x) (g := g x) (S := S) (by have := v.1.2; omega) v.2.1.1 v.2.1.2.1 hF c.1.2.2
  have d : dn [65, 66, 67, 68] 0 0 S T := dn.eq (by rw [t8]) (fun a ha => ⟨fun j => t6 a j (fun h => ha (by rw [h]; decide)), t7 a (fun h => ha (by rw [h]; decide)) (fun h => ha (by rw [h]; decide)) (fun h => ha (by rw [h]; decide)), by rw [t8]⟩)
  refine ⟨T, ?_, t2, t3, t4, ?_, d⟩
  · unfold f_X9_chooseSet
    rw [e2, Option.bind_some, (rd_m hk).2.2.2.2.2.1 (by omega), Option.bind_some, hn, rd_17 (by omega), Option.bind_some, a17, rd_18 (by omega), Option.bind_some, a18, rd_19 (by omega), Option.bind_some, a19, t1, Option.bind_some]
  · obtain ⟨⟨c1, c2, c3⟩, c4, c5, c6, c7⟩ := c
    rw [e1] at c5 c6
    have r0 : T.2.2.2 = S.2.2.2 := by rw [t8]
    refine ⟨⟨by rw [r0]; exact c1, by rw [t6 1 1 (by decide)]; exact c2, t5⟩, c4, ?_, fun y hy => ?_, ?_⟩
    · rw [r0, e1, t6 k 3 (by omega)]; exact c5
    · rw [r0, e1, t7 (k + 6) (by omega) (by omega) (by omega), t7 17 (by decide) (by decide) (by decide), t7 18 (by decide) (by decide) (by decide), t7 19 (by decide) (by decide) (by decide), t7 20 (by decide) (by decide) (by decide)]
      exact c6 y hy
    · rw [t6 21 0 (by decide), t6 21 1 (by decide)]; exact c7
theorem cls.wn {F q x : Nat} {S : si_St} {n h l g w : Nat → Nat} (hF : 200 ≤ F) (c : cls S q n h l g w) (hx : x < q) (v : vs (n x) (h x) (l x) (g x)) : ∃ T, f_X9_weighingsNeeded F (nI x) S = some (if so_N (n x) (h x) (l x) (g x) = 99 then -2 else nI (so_N (n x) (h x) (l x) (g x)), T) ∧ cls T q n h l g w ∧ dn [65, 66, 67, 68] 0 0 S T := by
  obtain ⟨T, t1, t2, t3, t4, t5, t6⟩ := c.choose hF hx v
  obtain ⟨n1, n2⟩ := so_needed (F := F) (by have := v.1.2; omega) v.2.1.2.2 v.2.1.1 v.2.1.2.1 t2 t3 t4
  refine ⟨T, ?_, t5, t6⟩
  unfold f_X9_weighingsNeeded
  rw [c.has hx, Option.bind_some]
  dsimp only
  rw [if_neg (by decide), t1, Option.bind_some, n1, Option.bind_some]
  dsimp only
  rw [so_orNone n2, Option.bind_some]
theorem cls.best0 {F q x : Nat} {S : si_St} {n h l g w : Nat → Nat} (hF : 200 ≤ F) (c : cls S q n h l g w) (hx : x < q) (v : vs (n x) (h x) (l x) (g x)) (hN : so_N (n x) (h x) (l x) (g x) = 0 ∨ so_N (n x) (h x) (l x) (g x) = 99) : (∃ T, f_X9_bestLeft F (nI x) S = some (-2, T) ∧ cls T q n h l g w ∧ dn [65, 66, 67, 68] 0 0 S T) ∧ (∃ T, f_X9_bestRight F (nI x) S = some (-2, T) ∧ cls T q n h l g w ∧ dn [65, 66, 67, 68] 0 0 S T) := by
  obtain ⟨T, t1, t2, t3, t4, t5, t6⟩ := c.choose hF hx v
  have hb := (bl_X (F := F) (by have := v.1.2; omega) v.2.1.2.2 v.2.1.1 v.2.1.2.1 v.2.2 t2 t3 t4 (by omega)).1 hN
  refine ⟨⟨T, ?_, t5, t6⟩, ⟨T, ?_, t5, t6⟩⟩
  · unfold f_X9_bestLeft f_X9_bestLeft_h39
    rw [c.has hx, Option.bind_some]
    dsimp only
    rw [if_neg (by decide), t1, Option.bind_some, hb, Option.bind_some]
    dsimp only
    rw [if_pos rfl]
  · unfold f_X9_bestRight f_X9_bestRight_h39
    rw [c.has hx, Option.bind_some]
    dsimp only
    rw [if_neg (by decide), t1, Option.bind_some, hb, Option.bind_some]
    dsimp only
    rw [if_pos rfl]
def mb_m (n h l g N L R : Nat) : Prop := mb_P n h l g N L R ∧ ∀ a b, mb_P n h l g N a b → be_en L R ≤ be_en a b
theorem mb_m.uq {n h l g N L R L2 R2 : Nat} (hn : n ≤ 7) (p : mb_m n h l g N L R) (q : mb_m n h l g N L2 R2) : L = L2 ∧ R = R2 := by
  have e : be_en L R = be_en L2 R2 := Nat.le_antisymm (p.2 _ _ q.1) (q.2 _ _ p.1)
  obtain ⟨⟨a1, a2, a3, a4, a5, a6⟩, -⟩ := p
  obtain ⟨⟨b1, b2, b3, b4, b5, b6⟩, -⟩ := q
  have s1 := sb_pc_or (by omega) a1 a2 a3
  have s2 := sb_pc_or (by omega) b1 b2 b3
  have x1 := p2_12 hn a1
  have x2 := p2_12 hn a2
  have x3 := p2_12 hn b1
  have x4 := p2_12 hn b2
  obtain ⟨-, o1, o2⟩ := bl_out x1 x2 (by omega)
  obtain ⟨-, o3, o4⟩ := bl_out x3 x4 (by omega)
  rw [e] at o1 o2
  exact ⟨(nI_eq (by omega) (by omega)).mp (o1.symm.trans o3), (nI_eq (by omega) (by omega)).mp (o2.symm.trans o4)⟩
theorem cls.best1 {F q x : Nat} {S : si_St} {n h l g w : Nat → Nat} (hF : 200 ≤ F) (c : cls S q n h l g w) (hx : x < q) (v : vs (n x) (h x) (l x) (g x)) (hN : 1 ≤ so_N (n x) (h x) (l x) (g x)) (hN2 : so_N (n x) (h x) (l x) (g x) ≤ 98) : ∃ L R, mb_m (n x) (h x) (l x) (g x) (so_N (n x) (h x) (l x) (g x)) L R ∧ (∃ T, f_X9_bestLeft F (nI x) S = some (nI L, T) ∧ cls T q n h l g w ∧ dn [65, 66, 67, 68] 0 0 S T) ∧ (∃ T, f_X9_bestRight F (nI x) S = some (nI R, T) ∧ cls T q n h l g w ∧ dn [65, 66, 67, 68] 0 0 S T) := by
  obtain ⟨T, t1, t2, t3, t4, t5, t6⟩ := c.choose hF hx v
  obtain ⟨L, R, hb, hm, hmin⟩ := (bl_X (F := F) (by have := v.1.2; omega) v.2.1.2.2 v.2.1.1 v.2.1.2.1 v.2.2 t2 t3 t4 (by omega)).2 hN hN2
  obtain ⟨a1, a2, a3, a4, a5, a6⟩ := id hm
  have hn := v.1.2
  have s1 := sb_pc_or (by omega) a1 a2 a3
  obtain ⟨o0, o1, o2⟩ := bl_out (p2_12 hn a1) (p2_12 hn a2) (by omega)
  refine ⟨L, R, ⟨hm, hmin⟩, ⟨T, ?_, t5, t6⟩, ⟨T, ?_, t5, t6⟩⟩
  · unfold f_X9_bestLeft f_X9_bestLeft_h39
    rw [c.has hx, Option.bind_some]
    dsimp only
    rw [if_neg (by decide), t1, Option.bind_some, hb, Option.bind_some]
    dsimp only
    rw [if_neg o0]
    unfold f_X5_leftPan
    rw [o1, Option.bind_some]
  · unfold f_X9_bestRight f_X9_bestRight_h39
    rw [c.has hx, Option.bind_some]
    dsimp only
    rw [if_neg (by decide), t1, Option.bind_some, hb, Option.bind_some]
    dsimp only
    rw [if_neg o0]
    unfold f_X5_rightPan
    rw [o2, Option.bind_some]
theorem so_N4 {n h l g : Nat} (h2 : 2 ≤ n) (h5 : n ≤ 5) (hh : h < 2 ^ n) (hl : l < 2 ^ n) (hg : g ≤ 1) : so_N n h l g ≤ 4 ∨ so_N n h l g = 99 := by
  rw [← soR_N h2 h5 hh hl hg]
  have kS : ∀ n, n < 6 → ∀ a, a < 6 → ∀ b, b < 6 → rS n a b ≤ 4 ∨ rS n a b = 99 := by decide +kernel
  have kM : ∀ n, n < 6 → ∀ a, a < 6 → ∀ b, b < 2 → rM n a b ≤ 4 ∨ rM n a b = 99 := by decide +kernel
  have p1 := sb_pc_le (by omega) hh
  have p2 := sb_pc_le (by omega) hl
  unfold soR
  split
  · exact kS n (by omega) _ (by omega) _ (by omega)
  · exact kM n (by omega) _ (by omega) _ (by omega)
-- needed's own three outcomes
theorem nd_be {F n a b X : Nat} {x4 : Int32} (hn : n ≤ 5) (ha : a < 2 ^ 31) (hb : b < 2 ^ 31) (hX : X < 2 ^ 15) : ∀ m f j (S : si_St), 2 * n + 1 = j + m → m < f → sd_ok S 99 → sd_ln S 99 = 3 → (∀ r, r < 3 → S.2.1 99 r = nI (bz (fun i => X.testBit i && rs i a b == r) j)) → ∃ S', f_L_needed_l167 F f (nI n) (nI X) x4 (nI a) (nI b) (nI j) S = f_L_needed_l215 F F (nI n) x4 0 S' ∧ dn [99] 0 0 S S' ∧ (∀ r, r < 3 → S'.2.1 99 r = nI (bz (fun i => X.testBit i && rs i a b == r) (2 * n + 1))) ∧ S'.2.2 = S.2.2 := by
  intro m
  induction m with
  | zero =>
    intro f j S hj hf o l hrow
    obtain ⟨f, rfl⟩ : ∃ k, f = k + 1 := ⟨f - 1, by omega⟩
    have e : j = 2 * n + 1 := by omega
    subst e
    refine ⟨S, ?_, dn.rf, hrow, rfl⟩
    show f_L_needed_h167 F (f_L_needed_l167 F f) (nI n) (nI X) x4 (nI a) (nI b) (nI (2 * n + 1)) S = _
    unfold f_L_needed_h167
    have e1 : (1 : Int32) + 2 * nI n = nI (1 + 2 * n) := by rw [nI_2m]; exact nI_1a _
    rw [e1, if_pos (nI_le (by omega) (by omega))]
  | succ m ih =>
    intro f j S hj hf o l hrow
    obtain ⟨f, rfl⟩ : ∃ k, f = k + 1 := ⟨f - 1, by omega⟩
    show ∃ S', f_L_needed_h167 F (f_L_needed_l167 F f) (nI n) (nI X) x4 (nI a) (nI b) (nI j) S = _ ∧ _
    unfold f_L_needed_h167
    have e1 : (1 : Int32) + 2 * nI n = nI (1 + 2 * n) := by rw [nI_2m]; exact nI_1a _
    rw [e1, if_neg (fun h => by have := (nI_leI (by omega) (by omega)).mp h; omega)]
    by_cases hb1 : X.testBit j = true
    · have h3 := rs_3 j a b
      rw [if_pos ((hb_1 (by omega) (by omega)).mpr hb1), rs_ok (by omega) ha hb, Option.bind_some]
      dsimp only
      rw [dr_rd o (by omega) (by omega), Option.bind_some, hrow _ h3, hb_or (by omega), dr_wr o (by omega) (by omega), Option.bind_some]
      unfold f_L_needed_h206
      rw [nI_1, Option.bind_some]
      have dd : dn [99] 0 0 S (si_pa S 99 (rs j a b) (nI (bz (fun i => X.testBit i && rs i a b == rs j a b) j ||| 2 ^ j))) := dn.pa (List.mem_singleton.mpr rfl)
      obtain ⟨S', e, d', hr, e2⟩ := ih f (j + 1) (si_pa S 99 (rs j a b) (nI (bz (fun i => X.testBit i && rs i a b == rs j a b) j ||| 2 ^ j))) (by omega) (by omega) o l (fun r hr => by
        show _ = nI (bz (fun i => X.testBit i && rs i a b == r) j ||| (if (X.testBit j && rs j a b == r) = true then 2 ^ j else 0))
        by_cases h9 : r = rs j a b
        · rw [h9, pa_e, if_pos (by rw [hb1]; simp)]
        · rw [pa_s h9, hrow r hr, if_neg (by rw [hb1]; simp; exact fun h => h9 h.symm), Nat.or_zero])
      exact ⟨S', e, (dd.tr d').up (by omega) (by omega), hr, e2⟩
    · rw [if_neg (fun h => hb1 ((hb_1 (by omega) (by omega)).mp h))]
      unfold f_L_needed_h206
      rw [nI_1, Option.bind_some]
      exact ih f (j + 1) S (by omega) (by omega) o l (fun r hr => by
        show _ = nI (bz (fun i => X.testBit i && rs i a b == r) j ||| (if (X.testBit j && rs j a b == r) = true then 2 ^ j else 0))
        rw [hrow r hr, if_neg (by rw [Bool.not_eq_true] at hb1; rw [hb1]; simp), Nat.or_zero])
theorem bh_out {n h l g a b N : Nat} (hab : bh n h l g a b = N) (hN : N < 99) : ∀ r, r < 3 → so_N n (we_s h a b r) (we_s l b a r) (if r = 0 then g else 0) ≤ N := by
  unfold bh at hab
  split at hab
  · omega
  · split at hab
    · omega
    · split at hab
      · omega
      · intro r hr
        have m1 := Nat.le_max_left (so_N n (sb_df h (a ||| b)) (sb_df l (a ||| b)) g) (max (so_N n (h &&& a) (l &&& b) 0) (so_N n (h &&& b) (l &&& a) 0))
        have m2 := Nat.le_max_right (so_N n (sb_df h (a ||| b)) (sb_df l (a ||| b)) g) (max (so_N n (h &&& a) (l &&& b) 0) (so_N n (h &&& b) (l &&& a) 0))
        have m3 := Nat.le_max_left (so_N n (h &&& a) (l &&& b) 0) (so_N n (h &&& b) (l &&& a) 0)
        have m4 := Nat.le_max_right (so_N n (h &&& a) (l &&& b) 0) (so_N n (h &&& b) (l &&& a) 0)
        unfold we_s
        rcases (by omega : r = 0 ∨ r = 1 ∨ r = 2) with h9 | h9 | h9 <;> rw [h9]
        · rw [if_pos rfl, if_pos rfl, if_pos rfl, Nat.or_comm b a]; omega
        · rw [if_neg (by decide), if_pos rfl, if_neg (by decide), if_pos rfl, if_neg (by decide)]; omega
        · rw [if_neg (by decide), if_neg (by decide), if_neg (by decide), if_neg (by decide), if_neg (by decide)]; omega
theorem nd_3 {F n a b h l g k : Nat} (hF : 100 ≤ F) (h2 : 2 ≤ n) (h5 : n ≤ 5) (hh : h < 2 ^ n) (hl : l < 2 ^ n) (hg : g ≤ 1) (hk1 : 1 ≤ k) (hk : k ≤ 4) (hor : h = l ∨ (h &&& l = 0 ∧ g = 0)) (hab : a &&& b = 0) (hN : ∀ r, r < 3 → so_N n (we_s h a b r) (we_s l b a r) (if r = 0 then g else 0) ≤ k - 1) : ∀ m f j (S : si_St), 3 = j + m → m < f → sd_ok S 99 → sd_ln S 99 = 3 → (S.2.2.2 0 < 87 ∧ S.2.2.2 1 < 87) → (∀ r, r < 3 → S.2.1 99 r = nI (enc n (we_s h a b r) (we_s l b a r) (if r = 0 then g else 0))) → ∃ S', f_L_needed_l215 F f (nI n) (nI k) (nI j) S = some (1, S') ∧ dn (DC 6) (60 * m) (180 * m) S S' := by
  intro m
  induction m with
  | zero =>
    intro f j S hj hf o ln hs hrow
    obtain ⟨f, rfl⟩ : ∃ k, f = k + 1 := ⟨f - 1, by omega⟩
    show ∃ S', f_L_needed_h215 F (f_L_needed_l215 F f) (nI n) (nI k) (nI j) S = _ ∧ _
    unfold f_L_needed_h215
    rw [if_pos (show (3 : Int32) ≤ nI j from (nI_le (a := 3) (by omega) (by omega))), sm_bz1, Option.bind_some]
    exact ⟨S, rfl, dn.rf⟩
  | succ m ih =>
    intro f j S hj hf o ln hs hrow
    obtain ⟨f, rfl⟩ : ∃ k, f = k + 1 := ⟨f - 1, by omega⟩
    show ∃ S', f_L_needed_h215 F (f_L_needed_l215 F f) (nI n) (nI k) (nI j) S = _ ∧ _
    unfold f_L_needed_h215
    have n99 : 99 ∉ DC 6 := by decide
    have nM : 1000 ∉ DC 6 := by decide
    have hg' : (if j = 0 then g else 0) ≤ 1 := by split <;> omega
    have hor' : we_s h a b j = we_s l b a j ∨ (we_s h a b j &&& we_s l b a j = 0 ∧ (if j = 0 then g else 0) = 0) := by
      rcases we_zero (g := g) (r := j) hab (by omega) (hor.imp (fun h => ⟨h, trivial⟩) (fun h => h)) with ⟨q1, q2, q3⟩ | ⟨q1, q2⟩
      · exact Or.inl q1
      · refine Or.inr ⟨q1, ?_⟩
        split
        · rename_i h9; exact q2 h9
        · rfl
    obtain ⟨S1, e1, d1⟩ := en_run (F := F) (n := n) (h := we_s h a b j) (l := we_s l b a j) (g := if j = 0 then g else 0) (k := k - 1) (S := S) hF h2 h5 (we_lt hh) (we_lt hl) hg' (by omega) hor' hs
    have ek : nI k - 1 = nI (k - 1) := pk_sub (b := 1) hk1
    rw [if_neg (show ¬ (3 : Int32) ≤ nI j from fun (h : nI 3 ≤ nI j) => by have := (nI_leI (by decide) (by omega)).mp h; omega), dr_rd o (by omega) (by omega), Option.bind_some, hrow j (by omega), ek, e1, Option.bind_some, if_pos (hN j (by omega))]
    unfold f_L_needed_h234
    dsimp only
    rw [if_neg (by decide), nI_1, Option.bind_some]
    obtain ⟨S2, e2, d2⟩ := ih f (j + 1) S1 (by omega) (by omega) (d1.ok n99 o) ((d1.2.2.1 99 (by decide) n99).1.trans ln) (by rw [(d1.2.1 nM).1, (d1.2.1 nM).2]; exact hs) (by rw [(d1.1 99 n99).2.1]; exact hrow)
    exact ⟨S2, e2, (d1.tr d2).up (by omega) (by omega)⟩
theorem cls.refs {S : si_St} {q : Nat} {n h l g w : Nat → Nat} (c : cls S q n h l g w) : S.2.2.2 0 < 87 ∧ S.2.2.2 1 < 87 := by
  have := c.1.1
  omega
def CN : List Nat := [65, 66, 67, 68, 99, 101, 102, 103, 104, 105, 106]
theorem DC6 : ∀ k ∈ DC 6, k ∈ CN := by decide
theorem dn.cn {C : List Nat} {a b : Nat} {S S' : si_St} (h : dn C a b S S') (hs : ∀ k ∈ C, k ∈ CN) : dn CN a b S S' := h.mo hs (Nat.le_refl _) (Nat.le_refl _)
theorem so_N0 {n h l g : Nat} (hn : n ≤ 7) (hg : g ≤ 1) (hh : h < 2 ^ n) (hl : l < 2 ^ n) (hor : h = l ∨ (h &&& l = 0 ∧ g = 0)) (hc : sb_pc h + sb_pc l + g < 2) : so_N n h l g = 0 := by
  have h0 : h &&& l = 0 := by
    rcases hor with h9 | h9
    · have : sb_pc h = 0 := by rw [← h9] at hc; omega
      have := (sb_pos h (p2_12 hn hh)).mp this
      rw [this, Nat.zero_and]
    · exact h9.1
  unfold so_N
  rw [if_pos h0]
  exact sv_spl_0 (by omega)
theorem so_N1 {n h l g : Nat} (h2 : 2 ≤ n) (h5 : n ≤ 5) (hg : g ≤ 1) (hh : h < 2 ^ n) (hl : l < 2 ^ n) (hor : h = l ∨ (h &&& l = 0 ∧ g = 0)) (hc : 2 ≤ sb_pc h + sb_pc l + g) : 1 ≤ so_N n h l g := by
  have e := (en_N (k := 0) h2 h5 hh hl hg (by decide) hor).1
  have hu : enT n 6 h l g 0 = if sb_pc h + sb_pc l + g < 2 then (true, 0) else if 3 ^ 0 < sb_pc h + sb_pc l + g then (false, 0) else enL (fun h l g => enT n 5 h l g (0 - 1)) h l g (lpp 1 (2 ^ n - 1)) := rfl
  rw [hu, if_neg (by omega), if_pos (by show 1 < _; omega)] at e
  have := of_decide_eq_false e.symm
  omega
theorem needed_ok {F q x : Nat} {S : si_St} {n h l g w : Nat → Nat} (hF : 200 ≤ F) (c : cls S q n h l g w) (hx : x < q) (v : vs (n x) (h x) (l x) (g x)) (h5 : n x ≤ 5) : ∃ S', f_L_needed F (nI x) (nI (n x)) (nI (enc (n x) (h x) (l x) (g x))) S = some (1, S') ∧ cls S' q n h l g w ∧ dn CN 400 2000 S S' := by
  have v0 := v
  obtain ⟨⟨v1, v2⟩, ⟨v3, v4, v5⟩, v6⟩ := v
  obtain ⟨T1, t1, tc1, td1⟩ := c.wn hF hx v0
  have hX := enc_lt15 (h := h x) (l := l x) (g := g x) v2
  have hpc := enc_pc v2 v3 v4 v5
  have l1 := sb_le12 (h x)
  have l2 := sb_le12 (l x)
  have n4 := so_N4 v1 h5 v3 v4 v5
  unfold f_L_needed f_L_needed_h0
  rw [t1, Option.bind_some]
  dsimp only
  have cgo : ∀ {S S' : si_St} {a b : Nat} {C : List Nat}, cls S q n h l g w → dn C a b S S' → 1000 ∉ C → (∀ k ∈ C, 87 ≤ k) → cls S' q n h l g w := fun c d h1 h2 => c.go d h1 h2
  have M6 : 1000 ∉ DC 6 := by decide
  have G6 : ∀ k ∈ DC 6, 87 ≤ k := by decide
  by_cases hc : 2 ≤ sb_pc (h x) + sb_pc (l x) + g x
  · have n1 := so_N1 v1 h5 v5 v3 v4 v6 hc
    have hcI : (2 : Int32) ≤ nI (hb_pc (enc (n x) (h x) (l x) (g x))) := by rw [hpc]; exact nI_le (a := 2) hc (by omega)
    by_cases h99 : so_N (n x) (h x) (l x) (g x) = 99
    · obtain ⟨T2, b1, bc1, bd1⟩ := (tc1.best0 (F := F) hF hx v0 (Or.inr h99)).1
      obtain ⟨T3, b2, bc2, bd2⟩ := (bc1.best0 (F := F) hF hx v0 (Or.inr h99)).2
      rw [if_pos h99, b1, Option.bind_some]
      dsimp only
      rw [b2, Option.bind_some]
      dsimp only
      rw [hb_bc hX, Option.bind_some]
      dsimp only
      rw [if_pos hcI, if_pos rfl, if_pos rfl, if_pos rfl]
      obtain ⟨T4, e4, d4⟩ := en_run (F := F) (k := 4) (S := T3) (by omega) v1 h5 v3 v4 v5 (by decide) v6 bc2.refs
      have e4 : f_L_isEnough F 6 (nI (enc (n x) (h x) (l x) (g x))) (nI (n x)) 4 T3 = _ := e4
      rw [e4, Option.bind_some, if_neg (by omega)]
      unfold f_L_needed_h85 f_L_needed_h93
      dsimp only
      rw [if_pos rfl, sm_bz1, Option.bind_some]
      exact ⟨T4, rfl, cgo bc2 d4 M6 G6, ((td1.cn (by decide)).tr ((bd1.cn (by decide)).tr ((bd2.cn (by decide)).tr (d4.cn DC6)))).up (by omega) (by omega)⟩
    · have n4 : so_N (n x) (h x) (l x) (g x) ≤ 4 := n4.resolve_right h99
      obtain ⟨L, R, hm, ⟨T2, b1, bc1, bd1⟩, -⟩ := tc1.best1 (F := F) hF hx v0 n1 (by omega)
      obtain ⟨L2, R2, hm2, -, ⟨T3, b2, bc2, bd2⟩⟩ := bc1.best1 (F := F) hF hx v0 n1 (by omega)
      obtain ⟨eL, eR⟩ := hm.uq v2 hm2
      rw [← eR] at b2
      rw [if_neg h99, b1, Option.bind_some]
      dsimp only
      rw [b2, Option.bind_some]
      dsimp only
      rw [hb_bc hX, Option.bind_some]
      dsimp only
      obtain ⟨⟨m1, m2, m3, m4, m5, m6⟩, -⟩ := hm
      have hLp := p2_12 v2 m1
      have hRp := p2_12 v2 m2
      have hRpos : 0 < R := by
        rcases Nat.eq_zero_or_pos R with h0 | h0
        · rw [h0] at m5
          have z0 : sb_pc 0 = 0 := by decide
          have := (sb_pos L hLp).mp (by omega)
          omega
        · exact h0
      have hn2 : ¬ nI (so_N (n x) (h x) (l x) (g x)) = -2 := by
        have key : ∀ k, k < 5 → ¬ nI k = -2 := by decide
        exact key _ (by omega)
      rw [if_pos hcI, if_neg hn2, if_neg (show ¬ nI (so_N (n x) (h x) (l x) (g x)) < (1 : Int32) from (nI_nlt n1 (by omega) : ¬ nI _ < nI 1))]
      obtain ⟨T4, e4, d4⟩ := en_run (F := F) (k := so_N (n x) (h x) (l x) (g x)) (S := T3) (by omega) v1 h5 v3 v4 v5 n4 v6 bc2.refs
      have c4 := cgo bc2 d4 M6 G6
      rw [e4, Option.bind_some, if_pos (Nat.le_refl _)]
      unfold f_L_needed_h107
      dsimp only
      have ek : nI (so_N (n x) (h x) (l x) (g x)) - 1 = nI (so_N (n x) (h x) (l x) (g x) - 1) := pk_sub (b := 1) n1
      obtain ⟨T5, e5, d5⟩ := en_run (F := F) (k := so_N (n x) (h x) (l x) (g x) - 1) (S := T4) (by omega) v1 h5 v3 v4 v5 (by omega) v6 c4.refs
      have c5 := cgo c4 d5 M6 G6
      rw [if_neg (by decide), ek, e5, Option.bind_some, if_neg (by omega)]
      unfold f_L_needed_h119
      dsimp only
      have s1 := sb_le12 L
      have s2 := sb_le12 R
      rw [if_pos rfl, if_neg (show ¬ nI L < (1 : Int32) from (nI_nlt m4 (by omega) : ¬ nI L < nI 1)), if_neg (show ¬ nI R < (1 : Int32) from (nI_nlt hRpos (by omega) : ¬ nI R < nI 1)), if_pos ((we_and0 hLp hRp).mpr m3), sb_bc hLp, Option.bind_some]
      dsimp only
      rw [sb_bc hRp, Option.bind_some]
      dsimp only
      rw [if_pos (by rw [m5])]
      have hfr : sd_frb T5 99 = true := dr_frb (by decide) (by decide) c5.refs ⟨by omega, by omega, by omega, by omega, by omega, by omega⟩
      have ena : sd_na T5 99 3 = some (sd_mkA T5 99 3) := dr_na (n := 3) hfr (by decide)
      have dA : dn [99] 1 3 T5 (sd_mkA T5 99 3) := dn.mkA (by decide) (by decide) (by decide)
      have o9 : sd_ok (sd_mkA T5 99 3) 99 := dr_lv_mkA (by decide) (by decide)
      have l9 : sd_ln (sd_mkA T5 99 3) 99 = 3 := sd_mkA_ln
      have c6 := cgo c5 dA (by decide) (by decide)
      rw [ena, Option.bind_some]
      unfold f_L_needed_h162
      obtain ⟨T7, e7, d7, r7, z7⟩ := nd_be (F := F) (n := n x) (a := L) (b := R) (X := enc (n x) (h x) (l x) (g x)) (x4 := nI (so_N (n x) (h x) (l x) (g x))) h5 (by omega) (by omega) hX (2 * n x + 1) F 0 (sd_mkA T5 99 3) (by omega) (by omega) o9 l9 (fun r hr => (if_pos rfl : (if 99 = 99 then (0 : Int32) else T5.2.1 99 r) = 0))
      have e7 : f_L_needed_l167 F F (nI (n x)) (nI (enc (n x) (h x) (l x) (g x))) (nI (so_N (n x) (h x) (l x) (g x))) (nI L) (nI R) 0 (sd_mkA T5 99 3) = _ := e7
      have c7 := cgo c6 d7 (by decide) (by decide)
      rw [e7]
      have o7 : sd_ok T7 99 := ⟨by decide, by decide, by unfold sd_lv; rw [z7]; exact o9.2.2⟩
      have ln7 : sd_ln T7 99 = 3 := by unfold sd_ln; rw [z7]; exact l9
      have hout := bh_out m6 (by omega)
      obtain ⟨T8, e8, d8⟩ := nd_3 (F := F) (by omega) v1 h5 v3 v4 v5 n1 n4 v6 m3 hout 3 F 0 T7 (by decide) (by omega) o7 ln7 c7.refs (fun r hr => by rw [r7 r hr, enc_be hr m3])
      have e8 : f_L_needed_l215 F F (nI (n x)) (nI (so_N (n x) (h x) (l x) (g x))) 0 T7 = _ := e8
      rw [e8]
      exact ⟨T8, rfl, cgo c7 d8 M6 G6, ((td1.cn (by decide)).tr ((bd1.cn (by decide)).tr ((bd2.cn (by decide)).tr ((d4.cn DC6).tr ((d5.cn DC6).tr ((dA.cn (by decide)).tr ((d7.cn (by decide)).tr (d8.cn DC6)))))))).up (by omega) (by omega)⟩
  · have n0 := so_N0 v2 v5 v3 v4 v6 (by omega)
    obtain ⟨T2, b1, bc1, bd1⟩ := (tc1.best0 (F := F) hF hx v0 (Or.inl n0)).1
    obtain ⟨T3, b2, bc2, bd2⟩ := (bc1.best0 (F := F) hF hx v0 (Or.inl n0)).2
    rw [if_neg (by omega), b1, Option.bind_some]
    dsimp only
    rw [b2, Option.bind_some]
    dsimp only
    rw [hb_bc hX, Option.bind_some]
    dsimp only
    rw [if_neg (show ¬ (2 : Int32) ≤ nI (hb_pc (enc (n x) (h x) (l x) (g x))) from fun (h : nI 2 ≤ nI _) => by rw [hpc] at h; have := (nI_leI (by decide) (by omega)).mp h; omega), n0, if_pos (by rfl), if_pos rfl, if_pos rfl]
    unfold f_L_needed_h57
    rw [sm_bz1, Option.bind_some]
    exact ⟨T3, rfl, bc2, ((td1.cn (by decide)).tr ((bd1.cn (by decide)).tr (bd2.cn (by decide)))).up (by omega) (by omega)⟩
