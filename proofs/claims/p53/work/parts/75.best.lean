-- the class's best weighing
theorem we_df1 {h m : Nat} (hh : h < 4096) (hm : m < 4096) : nI h &&& (nI m ^^^ (-1)) = nI (sb_df h m) := by
  have e := we_df (b := 0) hh hm (by decide)
  rw [Nat.or_zero] at e
  have e2 : nI m ||| nI 0 = nI m := sm_or0 _
  rw [e2] at e
  exact e
theorem be_clr (r : Nat) (hr : r < 4096) : nI r &&& (nI r - 1) = nI (r &&& (r - 1)) := by
  by_cases h0 : r = 0
  · subst h0
    rfl
  · show nI r &&& (nI r - nI 1) = _
    rw [pk_sub (by omega), fa_and]
theorem be_low {F s m : Nat} {T : si_St} (hs : s < 4096) (hm : m < 100) (hF : 101 ≤ F) : f_X5_lowest F (nI s) (nI m) T = some (nI (low s m), T) := by
  have hd : ∀ k, dr s k ≤ s := fun k => mk_le (dr_sub s k)
  exact lp_go (fun t k => f_X5_lowest_l4 F t (nI s) (nI m) (nI (dr s k)) (nI k) T) (some (nI (low s m), T)) m (fun t => by
    show f_X5_lowest_h4 F (f_X5_lowest_l4 F t) (nI s) (nI m) _ (nI m) T = _
    have := hd m
    unfold f_X5_lowest_h4
    rw [if_pos (Int32.le_refl _), we_df1 hs (by omega), sb_df_sub (dr_sub s m)]
    rfl) (fun t k hk => by
    show f_X5_lowest_h4 F (f_X5_lowest_l4 F t) (nI s) (nI m) _ (nI k) T = _
    have := hd k
    unfold f_X5_lowest_h4
    rw [if_neg (nI_ge hk (by omega)), be_clr _ (by omega), Option.bind_some, nI_1, Option.bind_some]
    rfl) F 0 (Nat.zero_le _) (by omega)
theorem be_pm_2 : ∀ p, p < 32 → ∀ q, q < 32 → si_max (-(nI p - nI q)) 0 = nI (q - p) ∧ si_max (nI p - nI q) 0 = nI (p - q) := by decide +kernel
def lw_l (f s cl a b c d : Nat) : Nat := low f a ||| low s c ||| low cl ((b + d) - (a + c))
def lw_r (f s cl a b c d : Nat) : Nat := low (sb_df f (lw_l f s cl a b c d)) b ||| low (sb_df s (lw_l f s cl a b c d)) d ||| low (sb_df cl (lw_l f s cl a b c d)) ((a + c) - (b + d))
def be_en (l r : Nat) : Nat := (2 * sb_pc l * 4096 + l) * 4096 + r
def be_lw (f s cl a b c d : Nat) : Nat := if sv_gap (a + c) (b + d) ≤ sb_pc cl then be_en (lw_l f s cl a b c d) (lw_r f s cl a b c d) else 268435456
theorem low_le (s m : Nat) : low s m ≤ s := Nat.sub_le _ _
theorem low_lt {s m : Nat} (h : s < 4096) : low s m < 4096 := Nat.lt_of_le_of_lt (low_le s m) h
theorem or_lt {a b : Nat} (ha : a < 4096) (hb : b < 4096) : a ||| b < 4096 := Nat.or_lt_two_pow (n := 12) ha hb
theorem df_lt {a b : Nat} (ha : a < 4096) : sb_df a b < 4096 := Nat.lt_of_le_of_lt Nat.and_le_left ha
theorem lw_l_lt {f s cl a b c d : Nat} (hf : f < 4096) (hs : s < 4096) (hc : cl < 4096) : lw_l f s cl a b c d < 4096 := or_lt (or_lt (low_lt hf) (low_lt hs)) (low_lt hc)
theorem lw_r_lt {f s cl a b c d : Nat} (hf : f < 4096) (hs : s < 4096) (hc : cl < 4096) : lw_r f s cl a b c d < 4096 := or_lt (or_lt (low_lt (df_lt hf)) (low_lt (df_lt hs))) (low_lt (df_lt hc))
theorem be_en_lt {l r : Nat} (hl : l < 4096) (hr : r < 4096) : be_en l r < 25 * 16777216 := by
  have := sb_le12 l
  unfold be_en
  omega
theorem be_lowest {F f s cl a b c d : Nat} {T : si_St} (hf : f < 4096) (hs : s < 4096) (hc : cl < 4096) (h8 : T.1 65 8 = nI f) (h9 : T.1 65 9 = nI s) (h10 : T.1 65 10 = nI cl) (h1 : a + c < 32) (h2 : b + d < 32) (hF : 101 ≤ F) : f_X5_lowestWeighing F (nI a) (nI b) (nI c) (nI d) T = some (nI (be_lw f s cl a b c d), T) := by
  have hpc := sb_le12 cl
  have pm := be_pm_2 (a + c) h1 (b + d) h2
  have hg : sv_gap (a + c) (b + d) < 2 ^ 31 := by unfold sv_gap; omega
  have hL := lw_l_lt (a := a) (b := b) (c := c) (d := d) hf hs hc
  have hR := lw_r_lt (a := a) (b := b) (c := c) (d := d) hf hs hc
  unfold f_X5_lowestWeighing be_lw
  rw [h10, sb_bc hc, nI_add, sg_sub, nI_add, Option.bind_some, Option.bind_some]
  try dsimp only
  rw [sg_abs_2 _ h1 _ h2]
  by_cases hq : sv_gap (a + c) (b + d) ≤ sb_pc cl
  · rw [if_pos (nI_le hq (by omega)), if_pos hq, h8, be_low hf (by omega) hF, Option.bind_some]
    try dsimp only
    rw [h9, be_low hs (by omega) hF, Option.bind_some]
    try dsimp only
    rw [h10, pm.1, be_low hc (by omega) hF, Option.bind_some]
    try dsimp only
    rw [fa_or, fa_or, Option.bind_some, h8]
    have eL : low f a ||| low s c ||| low cl ((b + d) - (a + c)) = lw_l f s cl a b c d := rfl
    rw [eL, we_df1 hf hL, be_low (df_lt hf) (by omega) hF, Option.bind_some]
    try dsimp only
    rw [h9, we_df1 hs hL, be_low (df_lt hs) (by omega) hF, Option.bind_some]
    try dsimp only
    rw [h10, we_df1 hc hL, pm.2, be_low (df_lt hc) (by omega) hF, Option.bind_some]
    try dsimp only
    rw [fa_or, fa_or, Option.bind_some]
    have eR : low (sb_df f (lw_l f s cl a b c d)) b ||| low (sb_df s (lw_l f s cl a b c d)) d ||| low (sb_df cl (lw_l f s cl a b c d)) ((a + c) - (b + d)) = lw_r f s cl a b c d := rfl
    have hpl := sb_le12 (lw_l f s cl a b c d)
    rw [eR, sb_bc hL, Option.bind_some]
    try dsimp only
    rw [li_mulL, Option.bind_some, pk_shlN _ 12 (by decide) (by omega)]
    have e1 : nI (2 * sb_pc (lw_l f s cl a b c d) * 2 ^ 12) ||| nI (lw_l f s cl a b c d) = nI (2 * sb_pc (lw_l f s cl a b c d) * 4096 + lw_l f s cl a b c d) := by
      have := fa_or_sum (a := lw_l f s cl a b c d) (k := 12) (2 * sb_pc (lw_l f s cl a b c d)) hL
      rw [Nat.mul_comm (2 ^ 12)] at this
      exact this
    rw [e1, pk_shlN _ 12 (by decide) (by omega)]
    have e2 : nI ((2 * sb_pc (lw_l f s cl a b c d) * 4096 + lw_l f s cl a b c d) * 2 ^ 12) ||| nI (lw_r f s cl a b c d) = nI (be_en (lw_l f s cl a b c d) (lw_r f s cl a b c d)) := by
      have := fa_or_sum (a := lw_r f s cl a b c d) (k := 12) (2 * sb_pc (lw_l f s cl a b c d) * 4096 + lw_l f s cl a b c d) hR
      rw [Nat.mul_comm (2 ^ 12)] at this
      exact this
    rw [e2]
  · rw [if_neg (nI_ge (by omega) hg), if_neg hq]
    rfl
def be_g60 (wv ev : Nat → Nat → Nat → Nat → Nat) (N a b c k w : Nat) : Nat := if wv a b c k < N then min w (ev a b c k) else w
def be_g48 (wv ev : Nat → Nat → Nat → Nat → Nat) (N s a b k w : Nat) : Nat := lf (be_g60 wv ev N a b k) w (s - k + 1)
def be_g34 (wv ev : Nat → Nat → Nat → Nat → Nat) (N s a k w : Nat) : Nat := lf (be_g48 wv ev N s a k) w (s + 1)
def be_g23 (wv ev : Nat → Nat → Nat → Nat → Nat) (N f s k w : Nat) : Nat := lf (be_g34 wv ev N s k) w (f - k + 1)
theorem be_u60 {wv ev : Nat → Nat → Nat → Nat → Nat} {N a b c : Nat} : ∀ k w, w ≤ 268435456 → be_g60 wv ev N a b c k w ≤ 268435456 := by
  intro k w hw
  unfold be_g60
  split
  · omega
  · exact hw
theorem be_u48 {wv ev : Nat → Nat → Nat → Nat → Nat} {N s a b : Nat} : ∀ k w, w ≤ 268435456 → be_g48 wv ev N s a b k w ≤ 268435456 := fun k w hw => lf_ub be_u60 hw _
theorem be_u34 {wv ev : Nat → Nat → Nat → Nat → Nat} {N s a : Nat} : ∀ k w, w ≤ 268435456 → be_g34 wv ev N s a k w ≤ 268435456 := fun k w hw => lf_ub be_u48 hw _
theorem be_u23 {wv ev : Nat → Nat → Nat → Nat → Nat} {N f s : Nat} : ∀ k w, w ≤ 268435456 → be_g23 wv ev N f s k w ≤ 268435456 := fun k w hw => lf_ub be_u34 hw _
theorem be_le {wv ev : Nat → Nat → Nat → Nat → Nat} {N f s z : Nat} : z ≤ lf (be_g23 wv ev N f s) 268435456 (f + 1) ↔ z ≤ 268435456 ∧ ∀ a b c d, a + b ≤ f → c + d ≤ s → wv a b c d < N → z ≤ ev a b c d := by
  rw [lf_le (P := fun a => ∀ b, b < f - a + 1 → ∀ c, c < s + 1 → ∀ d, d < s - c + 1 → wv a b c d < N → z ≤ ev a b c d)]
  · refine and_congr_right (fun _ => ⟨fun h a b c d h1 h2 h3 => h a (by omega) b (by omega) c (by omega) d (by omega) h3, fun h a ha b hb c hc d hd h4 => h a b c d (by omega) (by omega) h4⟩)
  · intro a w ha
    unfold be_g23
    rw [lf_le (P := fun b => ∀ c, c < s + 1 → ∀ d, d < s - c + 1 → wv a b c d < N → z ≤ ev a b c d)]
    intro b w hb
    unfold be_g34
    rw [lf_le (P := fun c => ∀ d, d < s - c + 1 → wv a b c d < N → z ≤ ev a b c d)]
    intro c w hc
    unfold be_g48
    rw [lf_le (P := fun d => wv a b c d < N → z ≤ ev a b c d)]
    intro d w hd
    unfold be_g60
    split
    · rename_i h
      rw [Nat.le_min]
      exact ⟨fun h2 => ⟨h2.1, fun _ => h2.2⟩, fun h2 => ⟨h2.1, h2.2 h⟩⟩
    · rename_i h
      exact ⟨fun h2 => ⟨h2, fun h3 => absurd h3 h⟩, fun h2 => h2.1⟩
theorem be_best {F f s N : Nat} {T : si_St} {wv ev : Nat → Nat → Nat → Nat → Nat} (h6 : T.1 65 6 = nI f) (h7 : T.1 65 7 = nI s) (hfs : f + s ≤ 12) (hN : N ≤ 98) (hN1 : 1 ≤ N) (hF : 101 ≤ F) (hnd : f_X5_needed F T = some (nI N, T)) (hw : ∀ a b c d, a + b ≤ f → c + d ≤ s → f_X5_worst F (nI a) (nI b) (nI c) (nI d) T = some (nI (wv a b c d), T) ∧ wv a b c d ≤ 99) (he : ∀ a b c d, a + b ≤ f → c + d ≤ s → f_X5_lowestWeighing F (nI a) (nI b) (nI c) (nI d) T = some (nI (ev a b c d), T) ∧ ev a b c d < 2 ^ 31) : f_X5_bestWeighing F T = some (nI (lf (be_g23 wv ev N f s) 268435456 (f + 1)), T) := by
  have l60 : ∀ r23 r34 r48 w a b c, w ≤ 268435456 → a + b ≤ f → c ≤ s → f_X5_bestWeighing_l60 F r23 r34 r48 F (nI N) (nI w) (nI a) (nI b) (nI c) 0 T = r48 (nI N) (nI (lf (be_g60 wv ev N a b c) w (s - c + 1))) (nI a) (nI b) (nI (c + 1)) T := by
    intro r23 r34 r48 w a b c hw9 hab hc
    exact lp_go (fun t k => f_X5_bestWeighing_l60 F r23 r34 r48 t (nI N) (nI (lf (be_g60 wv ev N a b c) w k)) (nI a) (nI b) (nI c) (nI k) T) _ (s - c + 1) (fun t => by
      show f_X5_bestWeighing_h60 F r23 r34 r48 (f_X5_bestWeighing_l60 F r23 r34 r48 t) _ _ (nI a) (nI b) (nI c) (nI (s - c + 1)) T = _
      unfold f_X5_bestWeighing_h60
      rw [h7, nI_add, if_pos (nI_lt (by omega) (by omega)), Option.bind_some, nI_1]) (fun t k hk => by
      obtain ⟨e1, e2⟩ := hw a b c k hab (by omega)
      obtain ⟨e3, e4⟩ := he a b c k hab (by omega)
      have hu := lf_ub (be_u60 (wv := wv) (ev := ev) (N := N) (a := a) (b := b) (c := c)) hw9 k
      show f_X5_bestWeighing_h60 F r23 r34 r48 (f_X5_bestWeighing_l60 F r23 r34 r48 t) _ _ (nI a) (nI b) (nI c) (nI k) T = f_X5_bestWeighing_l60 F r23 r34 r48 t _ (nI (be_g60 wv ev N a b c k (lf (be_g60 wv ev N a b c) w k))) (nI a) (nI b) (nI c) (nI (k + 1)) T
      unfold f_X5_bestWeighing_h60 f_X5_bestWeighing_h103
      rw [h7, nI_add c k, if_neg (nI_nlt (by omega) (by omega)), e1]
      simp only [Option.bind_some]
      rw [e3]
      simp only [Option.bind_some]
      rw [sg_min (by omega) e4, nI_1]
      unfold be_g60
      by_cases hc2 : wv a b c k < N
      · rw [if_neg (nI_ge hc2 (by omega)), if_pos hc2]
      · rw [if_pos (nI_le (by omega) (by omega)), if_neg hc2]) F 0 (Nat.zero_le _) (by omega)
  have l48 : ∀ r23 r34 w a b, w ≤ 268435456 → a + b ≤ f → f_X5_bestWeighing_l48 F r23 r34 F (nI N) (nI w) (nI a) (nI b) 0 T = r34 (nI N) (nI (lf (be_g48 wv ev N s a b) w (s + 1))) (nI a) (nI (b + 1)) T := by
    intro r23 r34 w a b hw9 hab
    exact lp_go (fun t k => f_X5_bestWeighing_l48 F r23 r34 t (nI N) (nI (lf (be_g48 wv ev N s a b) w k)) (nI a) (nI b) (nI k) T) _ (s + 1) (fun t => by
      show f_X5_bestWeighing_h48 F r23 r34 (f_X5_bestWeighing_l48 F r23 r34 t) _ _ (nI a) (nI b) (nI (s + 1)) T = _
      unfold f_X5_bestWeighing_h48
      rw [h7, if_pos (nI_lt (by omega) (by omega)), Option.bind_some, nI_1]) (fun t k hk => by
      show f_X5_bestWeighing_h48 F r23 r34 (f_X5_bestWeighing_l48 F r23 r34 t) _ _ (nI a) (nI b) (nI k) T = _
      unfold f_X5_bestWeighing_h48
      rw [h7, if_neg (nI_nlt (by omega) (by omega)), l60 _ _ _ _ _ _ _ (lf_ub be_u48 hw9 k) hab (by omega)]
      rfl) F 0 (Nat.zero_le _) (by omega)
  have l34 : ∀ r23 w a, w ≤ 268435456 → a ≤ f → f_X5_bestWeighing_l34 F r23 F (nI N) (nI w) (nI a) 0 T = r23 (nI N) (nI (lf (be_g34 wv ev N s a) w (f - a + 1))) (nI (a + 1)) T := by
    intro r23 w a hw9 ha
    exact lp_go (fun t k => f_X5_bestWeighing_l34 F r23 t (nI N) (nI (lf (be_g34 wv ev N s a) w k)) (nI a) (nI k) T) _ (f - a + 1) (fun t => by
      show f_X5_bestWeighing_h34 F r23 (f_X5_bestWeighing_l34 F r23 t) _ _ (nI a) (nI (f - a + 1)) T = _
      unfold f_X5_bestWeighing_h34
      rw [h6, nI_add, if_pos (nI_lt (by omega) (by omega)), Option.bind_some, nI_1]) (fun t k hk => by
      show f_X5_bestWeighing_h34 F r23 (f_X5_bestWeighing_l34 F r23 t) _ _ (nI a) (nI k) T = _
      unfold f_X5_bestWeighing_h34
      rw [h6, nI_add, if_neg (nI_nlt (by omega) (by omega)), l48 _ _ _ _ _ (lf_ub be_u34 hw9 k) (by omega)]
      rfl) F 0 (Nat.zero_le _) (by omega)
  unfold f_X5_bestWeighing f_X5_bestWeighing_h15
  rw [hnd, Option.bind_some]
  try dsimp only
  rw [if_neg (nI_ne0 (by omega) (by omega)), if_neg (show ¬ nI N = 99 from sm_ne (b := 99) (by omega) (by omega) (by decide))]
  exact lp_go (fun t k => f_X5_bestWeighing_l23 F t (nI N) (nI (lf (be_g23 wv ev N f s) 268435456 k)) (nI k) T) _ (f + 1) (fun t => by
    show f_X5_bestWeighing_h23 F (f_X5_bestWeighing_l23 F t) _ _ (nI (f + 1)) T = _
    unfold f_X5_bestWeighing_h23
    rw [h6, if_pos (nI_lt (by omega) (by omega))]) (fun t k hk => by
    show f_X5_bestWeighing_h23 F (f_X5_bestWeighing_l23 F t) _ _ (nI k) T = _
    unfold f_X5_bestWeighing_h23
    rw [h6, if_neg (nI_nlt (by omega) (by omega)), l34 _ _ _ (lf_ub be_u23 (Nat.le_refl _) k) (by omega)]
    rfl) F 0 (Nat.zero_le _) (by omega)

