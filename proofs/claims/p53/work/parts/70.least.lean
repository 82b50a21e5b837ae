-- the class's solver: the worst of a weighing, the least worst
def so_sp (T : si_St) (n : Nat) (sp : Nat → Nat → Nat) : Prop := ∀ h l, h + l ≤ n → T.2.1 67 ((n * 13 + h) * 13 + l) = nI (sp h l) ∧ sp h l ≤ 99
def so_mi (T : si_St) (n g : Nat) (mi : Nat → Nat) : Prop := ∀ v, v ≤ n → T.2.1 68 ((n * 13 + v) * 2 + g) = nI (mi v) ∧ mi v ≤ 99
theorem so_splitAt {F n h l : Nat} {T : si_St} (h3 : T.1 65 3 = nI n) : f_X5_splitAt F (nI h) (nI l) T = some (nI ((n * 13 + h) * 13 + l), T) := by
  unfold f_X5_splitAt
  rw [h3, li_mulR, nI_add, li_mulR, nI_add]
theorem so_mixedAt {F n v g : Nat} {T : si_St} (h3 : T.1 65 3 = nI n) (h5 : T.1 65 5 = nI g) : f_X5_mixedAt F (nI v) T = some (nI ((n * 13 + v) * 2 + g), T) := by
  unfold f_X5_mixedAt
  rw [h3, h5, li_mulR, nI_add, li_mulR, nI_add]
theorem so_ix {n h l : Nat} (hn : n ≤ 12) (h1 : h + l ≤ n) : (n * 13 + h) * 13 + l < 2197 := by omega
theorem so_worst0 {F n f s a b c d : Nat} {T : si_St} {sp : Nat → Nat → Nat} (hn : n ≤ 12) (h3 : T.1 65 3 = nI n) (h4 : T.1 65 4 = 0) (h6 : T.1 65 6 = nI f) (h7 : T.1 65 7 = nI s) (hfs : f + s ≤ n) (hsp : so_sp T n sp) (hab : a + b ≤ f) (hcd : c + d ≤ s) : f_X5_worst F (nI a) (nI b) (nI c) (nI d) T = some (nI (max (sp (f - a - b) (s - c - d)) (max (sp a d) (sp b c))), T) ∧ max (sp (f - a - b) (s - c - d)) (max (sp a d) (sp b c)) ≤ 99 := by
  have p1 := hsp (f - a - b) (s - c - d) (by omega)
  have p2 := hsp a d (by omega)
  have p3 := hsp b c (by omega)
  refine ⟨?_, by omega⟩
  unfold f_X5_worst
  rw [h4, if_pos rfl, h6, h7, pk_sub (show a ≤ f by omega), pk_sub (show b ≤ f - a by omega), pk_sub (show c ≤ s by omega), pk_sub (show d ≤ s - c by omega), so_splitAt h3, Option.bind_some]
  try dsimp only
  rw [rd_67 (by omega), Option.bind_some, p1.1, so_splitAt h3, Option.bind_some]
  try dsimp only
  rw [rd_67 (by omega), Option.bind_some, p2.1, so_splitAt h3, Option.bind_some]
  try dsimp only
  rw [rd_67 (by omega), Option.bind_some, p3.1, sg_max (by omega) (by omega), sg_max (by omega) (by omega)]
theorem so_worst1 {F n f g a b : Nat} {T : si_St} {sp : Nat → Nat → Nat} {mi : Nat → Nat} {x3 x4 : Int32} (hn : n ≤ 12) (hg : g ≤ 1) (h3 : T.1 65 3 = nI n) (h4 : T.1 65 4 = 1) (h5 : T.1 65 5 = nI g) (h6 : T.1 65 6 = nI f) (hfs : f ≤ n) (hsp : so_sp T n sp) (hmi : so_mi T n g mi) (hab : a + b ≤ f) : f_X5_worst F (nI a) (nI b) x3 x4 T = some (nI (max (mi (f - a - b)) (sp a b)), T) ∧ max (mi (f - a - b)) (sp a b) ≤ 99 := by
  have p1 := hmi (f - a - b) (by omega)
  have p2 := hsp a b (by omega)
  refine ⟨?_, by omega⟩
  unfold f_X5_worst
  rw [h4, if_neg sm_10, h6, pk_sub (show a ≤ f by omega), pk_sub (show b ≤ f - a by omega), so_mixedAt h3 h5, Option.bind_some]
  try dsimp only
  rw [rd_68 (by omega), Option.bind_some, p1.1, so_splitAt h3, Option.bind_some]
  try dsimp only
  rw [rd_67 (by omega), Option.bind_some, p2.1, sg_max (by omega) (by omega)]
def so_g63 (wv : Nat → Nat → Nat → Nat → Nat) (cl a b c k w : Nat) : Nat := if sv_gap (a + c) (b + k) ≤ cl then min w (wv a b c k) else w
def so_g51 (wv : Nat → Nat → Nat → Nat → Nat) (cl s a b k w : Nat) : Nat := lf (so_g63 wv cl a b k) w (s - k + 1)
def so_g31 (wv : Nat → Nat → Nat → Nat → Nat) (cl s a k w : Nat) : Nat := lf (so_g51 wv cl s a k) w (s + 1)
def so_g20 (wv : Nat → Nat → Nat → Nat → Nat) (cl f s k w : Nat) : Nat := lf (so_g31 wv cl s k) w (min k (f - k) + 1)
theorem so_u63 {wv : Nat → Nat → Nat → Nat → Nat} {cl a b c : Nat} : ∀ k w, w ≤ 99 → so_g63 wv cl a b c k w ≤ 99 := by
  intro k w hw
  unfold so_g63
  split
  · omega
  · exact hw
theorem so_u51 {wv : Nat → Nat → Nat → Nat → Nat} {cl s a b : Nat} : ∀ k w, w ≤ 99 → so_g51 wv cl s a b k w ≤ 99 := fun k w hw => lf_ub so_u63 hw _
theorem so_u31 {wv : Nat → Nat → Nat → Nat → Nat} {cl s a : Nat} : ∀ k w, w ≤ 99 → so_g31 wv cl s a k w ≤ 99 := fun k w hw => lf_ub so_u51 hw _
theorem so_u20 {wv : Nat → Nat → Nat → Nat → Nat} {cl f s : Nat} : ∀ k w, w ≤ 99 → so_g20 wv cl f s k w ≤ 99 := fun k w hw => lf_ub so_u31 hw _
theorem so_least_le {wv : Nat → Nat → Nat → Nat → Nat} {cl f s z : Nat} : z ≤ lf (so_g20 wv cl f s) 99 (f + 1) ↔ z ≤ 99 ∧ ∀ a b c d, b ≤ a → a + b ≤ f → c + d ≤ s → sv_gap (a + c) (b + d) ≤ cl → z ≤ wv a b c d := by
  rw [lf_le (P := fun a => ∀ b, b < min a (f - a) + 1 → ∀ c, c < s + 1 → ∀ d, d < s - c + 1 → sv_gap (a + c) (b + d) ≤ cl → z ≤ wv a b c d)]
  · refine and_congr_right (fun _ => ⟨fun h a b c d h1 h2 h3 h4 => h a (by omega) b (by omega) c (by omega) d (by omega) h4, fun h a ha b hb c hc d hd h4 => h a b c d (by omega) (by omega) (by omega) h4⟩)
  · intro a w ha
    unfold so_g20
    rw [lf_le (P := fun b => ∀ c, c < s + 1 → ∀ d, d < s - c + 1 → sv_gap (a + c) (b + d) ≤ cl → z ≤ wv a b c d)]
    intro b w hb
    unfold so_g31
    rw [lf_le (P := fun c => ∀ d, d < s - c + 1 → sv_gap (a + c) (b + d) ≤ cl → z ≤ wv a b c d)]
    intro c w hc
    unfold so_g51
    rw [lf_le (P := fun d => sv_gap (a + c) (b + d) ≤ cl → z ≤ wv a b c d)]
    intro d w hd
    unfold so_g63
    split
    · rename_i h
      rw [Nat.le_min]
      exact ⟨fun h2 => ⟨h2.1, fun _ => h2.2⟩, fun h2 => ⟨h2.1, h2.2 h⟩⟩
    · rename_i h
      exact ⟨fun h2 => ⟨h2, fun h3 => absurd h3 h⟩, fun h2 => h2.1⟩
theorem so_least {F n f s : Nat} {T : si_St} {wv : Nat → Nat → Nat → Nat → Nat} (hn : n ≤ 12) (h3 : T.1 65 3 = nI n) (h6 : T.1 65 6 = nI f) (h7 : T.1 65 7 = nI s) (hfs : f + s ≤ n) (hF : 16 ≤ F) (hw : ∀ a b c d, a + b ≤ f → c + d ≤ s → f_X5_worst F (nI a) (nI b) (nI c) (nI d) T = some (nI (wv a b c d), T) ∧ wv a b c d ≤ 99) : f_X5_leastWorst F T = some (nI (lf (so_g20 wv (n - f - s) f s) 99 (f + 1)), T) := by
  have l63 : ∀ r20 r31 r51 w a b c, w ≤ 99 → a + b ≤ f → c ≤ s → f_X5_leastWorst_l63 F r20 r31 r51 F (nI (n - f - s)) (nI w) (nI a) (nI b) (nI c) 0 T = r51 (nI (n - f - s)) (nI (lf (so_g63 wv (n - f - s) a b c) w (s - c + 1))) (nI a) (nI b) (nI (c + 1)) T := by
    intro r20 r31 r51 w a b c hw9 hab hc
    exact lp_go (fun t k => f_X5_leastWorst_l63 F r20 r31 r51 t (nI (n - f - s)) (nI (lf (so_g63 wv (n - f - s) a b c) w k)) (nI a) (nI b) (nI c) (nI k) T) _ (s - c + 1) (fun t => by
      show f_X5_leastWorst_h63 F r20 r31 r51 (f_X5_leastWorst_l63 F r20 r31 r51 t) _ _ (nI a) (nI b) (nI c) (nI (s - c + 1)) T = _
      unfold f_X5_leastWorst_h63
      rw [h7, nI_add, if_pos (nI_lt (by omega) (by omega)), Option.bind_some, nI_1]) (fun t k hk => by
      obtain ⟨e1, e2⟩ := hw a b c k hab (by omega)
      have hu := lf_ub (so_u63 (wv := wv) (cl := n - f - s) (a := a) (b := b) (c := c)) hw9 k
      have hg : sv_gap (a + c) (b + k) < 2 ^ 31 := by unfold sv_gap; omega
      show f_X5_leastWorst_h63 F r20 r31 r51 (f_X5_leastWorst_l63 F r20 r31 r51 t) _ _ (nI a) (nI b) (nI c) (nI k) T = f_X5_leastWorst_l63 F r20 r31 r51 t _ (nI (so_g63 wv (n - f - s) a b c k (lf (so_g63 wv (n - f - s) a b c) w k))) (nI a) (nI b) (nI c) (nI (k + 1)) T
      unfold f_X5_leastWorst_h63 f_X5_leastWorst_h108
      rw [h7, nI_add c k, if_neg (nI_nlt (by omega) (by omega)), sg_abs (by omega) (by omega), e1]
      simp only [Option.bind_some]
      rw [sg_min (by omega) (by omega), nI_1]
      unfold so_g63
      by_cases hc2 : sv_gap (a + c) (b + k) ≤ n - f - s
      · rw [if_neg (nI_nlt hc2 (by omega)), if_pos hc2]
      · rw [if_pos (nI_lt (by omega) hg), if_neg hc2]) F 0 (Nat.zero_le _) (by omega)
  have l51 : ∀ r20 r31 w a b, w ≤ 99 → a + b ≤ f → f_X5_leastWorst_l51 F r20 r31 F (nI (n - f - s)) (nI w) (nI a) (nI b) 0 T = r31 (nI (n - f - s)) (nI (lf (so_g51 wv (n - f - s) s a b) w (s + 1))) (nI a) (nI (b + 1)) T := by
    intro r20 r31 w a b hw9 hab
    exact lp_go (fun t k => f_X5_leastWorst_l51 F r20 r31 t (nI (n - f - s)) (nI (lf (so_g51 wv (n - f - s) s a b) w k)) (nI a) (nI b) (nI k) T) _ (s + 1) (fun t => by
      show f_X5_leastWorst_h51 F r20 r31 (f_X5_leastWorst_l51 F r20 r31 t) _ _ (nI a) (nI b) (nI (s + 1)) T = _
      unfold f_X5_leastWorst_h51
      rw [h7, if_pos (nI_lt (by omega) (by omega)), Option.bind_some, nI_1]) (fun t k hk => by
      show f_X5_leastWorst_h51 F r20 r31 (f_X5_leastWorst_l51 F r20 r31 t) _ _ (nI a) (nI b) (nI k) T = _
      unfold f_X5_leastWorst_h51
      rw [h7, if_neg (nI_nlt (by omega) (by omega)), l63 _ _ _ _ _ _ _ (lf_ub so_u51 hw9 k) hab (by omega)]
      rfl) F 0 (Nat.zero_le _) (by omega)
  have l31 : ∀ r20 w a, w ≤ 99 → a ≤ f → f_X5_leastWorst_l31 F r20 F (nI (n - f - s)) (nI w) (nI a) 0 T = r20 (nI (n - f - s)) (nI (lf (so_g31 wv (n - f - s) s a) w (min a (f - a) + 1))) (nI (a + 1)) T := by
    intro r20 w a hw9 ha
    exact lp_go (fun t k => f_X5_leastWorst_l31 F r20 t (nI (n - f - s)) (nI (lf (so_g31 wv (n - f - s) s a) w k)) (nI a) (nI k) T) _ (min a (f - a) + 1) (fun t => by
      show f_X5_leastWorst_h31 F r20 (f_X5_leastWorst_l31 F r20 t) _ _ (nI a) (nI (min a (f - a) + 1)) T = _
      unfold f_X5_leastWorst_h31 f_X5_leastWorst_h126
      rw [h6, nI_add, Option.bind_some, nI_1]
      by_cases hc : a < min a (f - a) + 1
      · rw [if_pos (nI_lt hc (by omega))]
      · rw [if_neg (nI_nlt (by omega) (by omega)), if_pos (nI_lt (by omega) (by omega))]) (fun t k hk => by
      show f_X5_leastWorst_h31 F r20 (f_X5_leastWorst_l31 F r20 t) _ _ (nI a) (nI k) T = _
      unfold f_X5_leastWorst_h31
      rw [h6, nI_add, if_neg (nI_nlt (by omega) (by omega)), if_neg (nI_nlt (by omega) (by omega)), l51 _ _ _ _ _ (lf_ub so_u31 hw9 k) (by omega)]
      rfl) F 0 (Nat.zero_le _) (by omega)
  unfold f_X5_leastWorst
  rw [h3, h6, h7, pk_sub (by omega), pk_sub (by omega), Option.bind_some]
  exact lp_go (fun t k => f_X5_leastWorst_l20 F t (nI (n - f - s)) (nI (lf (so_g20 wv (n - f - s) f s) 99 k)) (nI k) T) _ (f + 1) (fun t => by
    show f_X5_leastWorst_h20 F (f_X5_leastWorst_l20 F t) _ _ (nI (f + 1)) T = _
    unfold f_X5_leastWorst_h20
    rw [h6, if_pos (nI_lt (by omega) (by omega))]) (fun t k hk => by
    show f_X5_leastWorst_h20 F (f_X5_leastWorst_l20 F t) _ _ (nI k) T = _
    unfold f_X5_leastWorst_h20
    rw [h6, if_neg (nI_nlt (by omega) (by omega)), l31 _ _ _ (lf_ub so_u20 (Nat.le_refl 99) k) (by omega)]
    rfl) F 0 (Nat.zero_le _) (by omega)
theorem so_more {F w : Nat} {T : si_St} (hw : w ≤ 99) : f_X5_oneMore F (nI w) T = some (nI (min 99 (w + 1)), T) := by
  unfold f_X5_oneMore f_X5_oneMore_h14
  by_cases h : w = 99
  · subst h
    rw [if_pos (show nI 99 = 99 from rfl)]
    rfl
  · rw [if_neg (show ¬ nI w = 99 from sm_ne (b := 99) h (by omega) (by decide)), nI_1, Nat.min_eq_right (by omega)]
/-- a split entry's number, from a table that has all smaller ones and 99 at the entry itself -/
theorem so_split_eq {n f s : Nat} {tb : Nat → Nat → Nat} (h2 : 2 ≤ f + s) (ht : ∀ h l, h + l < f + s → tb h l = sv_spl n h l) (h99 : tb f s = 99) : min 99 (lf (so_g20 (fun a b c d => max (tb (f - a - b) (s - c - d)) (max (tb a d) (tb b c))) (n - f - s) f s) 99 (f + 1) + 1) = sv_spl n f s := by
  refine sv_eq (fun z => ?_)
  rw [Nat.le_min, sv_spl_le h2]
  refine and_congr_right (fun h9 => ?_)
  have e1 : z ≤ lf (so_g20 (fun a b c d => max (tb (f - a - b) (s - c - d)) (max (tb a d) (tb b c))) (n - f - s) f s) 99 (f + 1) + 1 ↔ z - 1 ≤ lf (so_g20 (fun a b c d => max (tb (f - a - b) (s - c - d)) (max (tb a d) (tb b c))) (n - f - s) f s) 99 (f + 1) := by omega
  have eg : n - f - s = n - (f + s) := by omega
  rw [e1, so_least_le]
  constructor
  · rintro ⟨-, hall⟩ a b c d ok
    obtain ⟨o1, o2, ⟨o3, o4, o5⟩, o6⟩ := ok
    by_cases hba : b ≤ a
    · have h3 := hall a b c d hba o1 o2 (by rw [eg]; exact o6)
      try dsimp only at h3
      rw [ht _ _ (by omega), ht a d (by omega), ht b c (by omega)] at h3
      omega
    · have h3 := hall b a d c (by omega) (by omega) (by omega) (by rw [eg]; unfold sv_gap at o6 ⊢; omega)
      try dsimp only at h3
      rw [ht _ _ (by omega), ht b c (by omega), ht a d (by omega)] at h3
      have e2 : f - b - a = f - a - b := by omega
      have e3 : s - d - c = s - c - d := by omega
      rw [e2, e3] at h3
      omega
  · intro hall
    refine ⟨by omega, fun a b c d hba h1 h3 h4 => ?_⟩
    try dsimp only
    by_cases t1 : a + d < f + s
    · by_cases t2 : b + c < f + s
      · by_cases t3 : 0 < a + b + c + d
        · have h5 := hall a b c d ⟨h1, h3, ⟨t1, t2, t3⟩, by rw [eg] at h4; exact h4⟩
          rw [ht _ _ (by omega), ht a d (by omega), ht b c (by omega)]
          omega
        · have za : a = 0 := by omega
          have zb : b = 0 := by omega
          have zc : c = 0 := by omega
          have zd : d = 0 := by omega
          subst za zb zc zd
          have e2 : f - 0 - 0 = f := rfl
          have e3 : s - 0 - 0 = s := rfl
          rw [e2, e3, h99]
          omega
      · have zb : b = f := by omega
        have zc : c = s := by omega
        rw [zb, zc, h99]
        omega
    · have za : a = f := by omega
      have zd : d = s := by omega
      rw [za, zd, h99]
      omega
theorem so_mix_eq {n v g : Nat} {tb : Nat → Nat} (hg : g ≤ 1) (h2 : 1 ≤ v) (ht : ∀ w, w < v → tb w = sv_mix n w g) (h99 : tb v = 99) : min 99 (lf (so_g20 (fun a b _ _ => max (tb (v - a - b)) (sv_spl n a b)) (n - v - 0) v 0) 99 (v + 1) + 1) = sv_mix n v g := by
  refine sv_eq (fun z => ?_)
  rw [Nat.le_min, sv_mix_le (by omega) hg]
  refine and_congr_right (fun h9 => ?_)
  have e1 : z ≤ lf (so_g20 (fun a b _ _ => max (tb (v - a - b)) (sv_spl n a b)) (n - v - 0) v 0) 99 (v + 1) + 1 ↔ z - 1 ≤ lf (so_g20 (fun a b _ _ => max (tb (v - a - b)) (sv_spl n a b)) (n - v - 0) v 0) 99 (v + 1) := by omega
  rw [e1, so_least_le]
  constructor
  · rintro ⟨-, hall⟩ a b ⟨o1, o2, o3⟩
    by_cases hba : b ≤ a
    · have h3 := hall a b 0 0 hba o1 (by omega) o3
      try dsimp only at h3
      rw [ht _ (by omega)] at h3
      omega
    · have h3 := hall b a 0 0 (by omega) (by omega) (by omega) (by unfold sv_gap at o3 ⊢; omega)
      try dsimp only at h3
      rw [ht _ (by omega)] at h3
      have e2 : v - b - a = v - a - b := by omega
      rw [e2] at h3
      omega
  · intro hall
    refine ⟨by omega, fun a b c d hba h1 h3 h4 => ?_⟩
    try dsimp only
    have zc : c = 0 := by omega
    have zd : d = 0 := by omega
    subst zc zd
    by_cases t3 : 0 < a + b
    · have h5 := hall a b ⟨h1, t3, h4⟩
      rw [ht _ (by omega)]
      have := sv_spl_sym n a b
      omega
    · have za : a = 0 := by omega
      have zb : b = 0 := by omega
      subst za zb
      have e2 : v - 0 - 0 = v := rfl
      rw [e2, h99]
      omega

