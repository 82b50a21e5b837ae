-- the other side's tables
theorem so_worse {F a b : Nat} {T : si_St} (ha : a < 2 ^ 31) (hb : b < 2 ^ 31) : f_X10_worse F (nI a) (nI b) T = some (nI (max a b), T) := by
  unfold f_X10_worse f_X10_worse_h10
  by_cases h : a ≤ b
  · rw [if_pos (nI_le h hb), Nat.max_eq_right h]
  · rw [if_neg (nI_ge (by omega) ha), Nat.max_eq_left (by omega)]
/-- the table one below s (and at s below j) -/
def so_o1 (n s j : Nat) (T : si_St) : Prop := ∀ h l, 2 ≤ h + l → h ≤ 12 → l ≤ 12 → (h + l < s ∨ (h + l = s ∧ h < j)) → T.2.1 108 (13 * h + l) = nI (sv_spl n h l)
def so_o2 (n k : Nat) (T : si_St) : Prop := ∀ v g, g ≤ 1 → 1 ≤ v → v < k → T.2.1 109 (2 * v + g) = nI (sv_mix n v g)
theorem so_one {F n s j h l : Nat} {T : si_St} (ho : so_o1 n s j T) (hh : h ≤ 12) (hl : l ≤ 12) (hs : h + l < s ∨ (h + l = s ∧ h < j)) : f_X10_oneOf F (nI h) (nI l) T = some (nI (sv_spl n h l), T) := by
  unfold f_X10_oneOf f_X10_oneOf_h22
  rw [nI_add]
  by_cases h2 : 2 ≤ h + l
  · rw [if_pos (show 2 ≤ nI (h + l) from nI_le (a := 2) h2 (by omega)), li_mulL, nI_add, rd_108 (by omega), Option.bind_some, ho h l h2 hh hl hs]
  · rw [if_neg (show ¬ 2 ≤ nI (h + l) from nI_ge (b := 2) (by omega) (by decide)), sv_spl_0 (by omega)]
    rfl
theorem so_both {F n k v g : Nat} {T : si_St} (ho : so_o2 n k T) (hg : g ≤ 1) (hv : v < k) (hk : v ≤ 12) : f_X10_bothOf F (nI v) (nI g) T = some (nI (sv_mix n v g), T) := by
  unfold f_X10_bothOf f_X10_bothOf_h23
  rw [li_mulL, nI_add]
  by_cases h2 : 2 ≤ 2 * v + g
  · rw [if_pos (show 2 ≤ nI (2 * v + g) from nI_le (a := 2) h2 (by omega)), rd_109 (by omega), Option.bind_some, ho v g hg (by omega) hv]
  · rw [if_neg (show ¬ 2 ≤ nI (2 * v + g) from nI_ge (b := 2) (by omega) (by decide)), sv_mix_0 (by omega)]
    rfl
def so_wv (n h l a b c d : Nat) : Nat := max (sv_spl n (h - a - b) (l - c - d)) (max (sv_spl n a d) (sv_spl n b c))
theorem so_wv99 {n h l a b c d : Nat} : so_wv n h l a b c d ≤ 99 := by
  have h1 := sv_spl_99 (n := n) (h := h - a - b) (l := l - c - d)
  have h2 := sv_spl_99 (n := n) (h := a) (l := d)
  have h3 := sv_spl_99 (n := n) (h := b) (l := c)
  unfold so_wv
  omega
def so_m37 (n h l a b c k w : Nat) : Nat := if (a + k < h + l ∧ b + c < h + l ∧ 0 < a + b + c + k) ∧ sv_gap (a + c) (b + k) ≤ n - (h + l) then min w (so_wv n h l a b c k + 1) else w
def so_m28 (n h l a b k w : Nat) : Nat := lf (so_m37 n h l a b k) w (l - k + 1)
def so_m16 (n h l a k w : Nat) : Nat := lf (so_m28 n h l a k) w (l + 1)
def so_m7 (n h l k w : Nat) : Nat := lf (so_m16 n h l k) w (h - k + 1)
theorem so_v37 {n h l a b c : Nat} : ∀ k w, w ≤ 99 → so_m37 n h l a b c k w ≤ 99 := by
  intro k w hw
  unfold so_m37
  split
  · omega
  · exact hw
theorem so_v28 {n h l a b : Nat} : ∀ k w, w ≤ 99 → so_m28 n h l a b k w ≤ 99 := fun k w hw => lf_ub so_v37 hw _
theorem so_v16 {n h l a : Nat} : ∀ k w, w ≤ 99 → so_m16 n h l a k w ≤ 99 := fun k w hw => lf_ub so_v28 hw _
theorem so_v7 {n h l : Nat} : ∀ k w, w ≤ 99 → so_m7 n h l k w ≤ 99 := fun k w hw => lf_ub so_v16 hw _
theorem so_m7_eq {n h l : Nat} (h2 : 2 ≤ h + l) : lf (so_m7 n h l) 99 (h + 1) = sv_spl n h l := by
  refine sv_eq (fun z => ?_)
  rw [sv_spl_le h2, lf_le (P := fun a => ∀ b, b < h - a + 1 → ∀ c, c < l + 1 → ∀ d, d < l - c + 1 → ((a + d < h + l ∧ b + c < h + l ∧ 0 < a + b + c + d) ∧ sv_gap (a + c) (b + d) ≤ n - (h + l)) → z ≤ so_wv n h l a b c d + 1)]
  · refine and_congr_right (fun _ => ⟨fun hh a b c d ok => ?_, fun hh a ha b hb c hc d hd ok => ?_⟩)
    · obtain ⟨o1, o2, o3, o4⟩ := ok
      exact hh a (by omega) b (by omega) c (by omega) d (by omega) ⟨o3, o4⟩
    · exact hh a b c d ⟨by omega, by omega, ok.1, ok.2⟩
  · intro a w ha
    unfold so_m7
    rw [lf_le (P := fun b => ∀ c, c < l + 1 → ∀ d, d < l - c + 1 → ((a + d < h + l ∧ b + c < h + l ∧ 0 < a + b + c + d) ∧ sv_gap (a + c) (b + d) ≤ n - (h + l)) → z ≤ so_wv n h l a b c d + 1)]
    intro b w hb
    unfold so_m16
    rw [lf_le (P := fun c => ∀ d, d < l - c + 1 → ((a + d < h + l ∧ b + c < h + l ∧ 0 < a + b + c + d) ∧ sv_gap (a + c) (b + d) ≤ n - (h + l)) → z ≤ so_wv n h l a b c d + 1)]
    intro c w hc
    unfold so_m28
    rw [lf_le (P := fun d => ((a + d < h + l ∧ b + c < h + l ∧ 0 < a + b + c + d) ∧ sv_gap (a + c) (b + d) ≤ n - (h + l)) → z ≤ so_wv n h l a b c d + 1)]
    intro d w hd
    unfold so_m37
    split
    · rename_i hq
      rw [Nat.le_min]
      exact ⟨fun h2 => ⟨h2.1, fun _ => h2.2⟩, fun h2 => ⟨h2.1, h2.2 hq⟩⟩
    · rename_i hq
      exact ⟨fun h2 => ⟨h2, fun h3 => absurd h3 hq⟩, fun h2 => h2.1⟩
theorem so_leastOne {F n h l j : Nat} {T : si_St} (hn : n ≤ 12) (hhl : h + l ≤ n) (h2 : 2 ≤ h + l) (ho : so_o1 n (h + l) j T) (hF : 16 ≤ F) : f_X10_leastOne F (nI h) (nI l) (nI (n - (h + l))) T = some (nI (sv_spl n h l), T) := by
  have l37 : ∀ r7 r16 r28 w a b c, w ≤ 99 → a + b ≤ h → c ≤ l → f_X10_leastOne_l37 F r7 r16 r28 F (nI h) (nI l) (nI (n - (h + l))) (nI w) (nI a) (nI b) (nI c) 0 T = r28 (nI h) (nI l) (nI (n - (h + l))) (nI (lf (so_m37 n h l a b c) w (l - c + 1))) (nI a) (nI b) (nI (c + 1)) T := by
    intro r7 r16 r28 w a b c hw9 hab hc
    exact lp_go (fun t k => f_X10_leastOne_l37 F r7 r16 r28 t (nI h) (nI l) (nI (n - (h + l))) (nI (lf (so_m37 n h l a b c) w k)) (nI a) (nI b) (nI c) (nI k) T) _ (l - c + 1) (fun t => by
      show f_X10_leastOne_h37 F r7 r16 r28 (f_X10_leastOne_l37 F r7 r16 r28 t) (nI h) (nI l) _ _ (nI a) (nI b) (nI c) (nI (l - c + 1)) T = _
      unfold f_X10_leastOne_h37
      rw [nI_add, if_pos (nI_lt (by omega) (by omega)), Option.bind_some, nI_1]) (fun t k hk => by
      have hu := lf_ub (so_v37 (n := n) (h := h) (l := l) (a := a) (b := b) (c := c)) hw9 k
      have hwv := so_wv99 (n := n) (h := h) (l := l) (a := a) (b := b) (c := c) (d := k)
      have hg : sv_gap (a + c) (b + k) < 2 ^ 31 := by unfold sv_gap; omega
      show f_X10_leastOne_h37 F r7 r16 r28 (f_X10_leastOne_l37 F r7 r16 r28 t) (nI h) (nI l) _ _ (nI a) (nI b) (nI c) (nI k) T = f_X10_leastOne_l37 F r7 r16 r28 t (nI h) (nI l) _ (nI (so_m37 n h l a b c k (lf (so_m37 n h l a b c) w k))) (nI a) (nI b) (nI c) (nI (k + 1)) T
      generalize lf (so_m37 n h l a b c) w k = W at hu ⊢
      have s178 : ∀ z, f_X10_leastOne_h178 F r7 r16 r28 (f_X10_leastOne_l37 F r7 r16 r28 t) (nI h) (nI l) (nI (n - (h + l))) (nI z) (nI a) (nI b) (nI c) (nI k) T = f_X10_leastOne_l37 F r7 r16 r28 t (nI h) (nI l) (nI (n - (h + l))) (nI z) (nI a) (nI b) (nI c) (nI (k + 1)) T := by
        intro z
        unfold f_X10_leastOne_h178
        rw [Option.bind_some, nI_1]
      have s99 : ∀ x9, f_X10_leastOne_h99 F r7 r16 r28 (f_X10_leastOne_l37 F r7 r16 r28 t) (nI h) (nI l) (nI (n - (h + l))) (nI W) (nI a) (nI b) (nI c) (nI k) x9 T = f_X10_leastOne_l37 F r7 r16 r28 t (nI h) (nI l) (nI (n - (h + l))) (nI W) (nI a) (nI b) (nI c) (nI (k + 1)) T := by
        intro x9
        unfold f_X10_leastOne_h99 f_X10_leastOne_h100
        rw [if_pos rfl, s178]
      unfold f_X10_leastOne_h37
      simp only [Option.bind_some, s99]
      rw [nI_add c k, if_neg (nI_nlt (by omega) (by omega)), nI_add a k, nI_add h l, nI_add b c, nI_add a b, nI_add (a + b) c, nI_add (a + b + c) k]
      unfold so_m37
      by_cases t1 : a + k < h + l
      · rw [if_neg (nI_ge t1 (by omega))]
        by_cases t2 : b + c < h + l
        · rw [if_neg (nI_ge t2 (by omega))]
          by_cases t3 : 0 < a + b + c + k
          · rw [if_neg (nI_nle t3 (by omega))]
            unfold f_X10_leastOne_h100 f_X10_leastOne_h176
            rw [if_neg sm_10, vm_size, Option.bind_some]
            try dsimp only
            rw [sg_abs (by omega) (by omega)]
            by_cases t4 : sv_gap (a + c) (b + k) ≤ n - (h + l)
            · rw [if_neg (nI_nlt t4 (by omega)), pk_sub (show a ≤ h by omega), pk_sub (show b ≤ h - a by omega), pk_sub (show c ≤ l by omega), pk_sub (show k ≤ l - c by omega), so_one ho (by omega) (by omega) (Or.inl (by omega)), Option.bind_some]
              try dsimp only
              rw [so_one ho (by omega) (by omega) (Or.inl t1), Option.bind_some]
              try dsimp only
              rw [so_one ho (by omega) (by omega) (Or.inl t2), Option.bind_some]
              try dsimp only
              have m1 := sv_spl_99 (n := n) (h := a) (l := k)
              have m2 := sv_spl_99 (n := n) (h := b) (l := c)
              have m3 := sv_spl_99 (n := n) (h := h - a - b) (l := l - c - k)
              rw [so_worse (by omega) (by omega), Option.bind_some]
              try dsimp only
              rw [so_worse (by omega) (by omega), Option.bind_some]
              try dsimp only
              rw [nI_1, s178, s178, if_pos (show (a + k < h + l ∧ b + c < h + l ∧ 0 < a + b + c + k) ∧ sv_gap (a + c) (b + k) ≤ n - (h + l) from ⟨⟨t1, t2, t3⟩, t4⟩)]
              have e : max (sv_spl n (h - a - b) (l - c - k)) (max (sv_spl n a k) (sv_spl n b c)) = so_wv n h l a b c k := rfl
              rw [e]
              by_cases t5 : W ≤ so_wv n h l a b c k + 1
              · rw [if_pos (nI_le t5 (by omega)), Nat.min_eq_left t5]
              · rw [if_neg (nI_ge (by omega) (by omega)), Nat.min_eq_right (by omega)]
            · rw [if_pos (nI_lt (by omega) hg), s178, if_neg (fun hq => t4 hq.2)]
          · have hz : a + b + c + k = 0 := by omega
            rw [if_pos (show nI (a + b + c + k) ≤ 0 by rw [hz]; exact Int32.le_refl _), if_neg (fun hq => t3 hq.1.2.2)]
        · rw [if_pos (nI_le (by omega) (by omega)), if_neg (fun hq => t2 hq.1.2.1)]
      · rw [if_pos (nI_le (by omega) (by omega)), if_neg (fun hq => t1 hq.1.1)]) F 0 (Nat.zero_le _) (by omega)
  have l28 : ∀ r7 r16 w a b, w ≤ 99 → a + b ≤ h → f_X10_leastOne_l28 F r7 r16 F (nI h) (nI l) (nI (n - (h + l))) (nI w) (nI a) (nI b) 0 T = r16 (nI h) (nI l) (nI (n - (h + l))) (nI (lf (so_m28 n h l a b) w (l + 1))) (nI a) (nI (b + 1)) T := by
    intro r7 r16 w a b hw9 hab
    exact lp_go (fun t k => f_X10_leastOne_l28 F r7 r16 t (nI h) (nI l) (nI (n - (h + l))) (nI (lf (so_m28 n h l a b) w k)) (nI a) (nI b) (nI k) T) _ (l + 1) (fun t => by
      show f_X10_leastOne_h28 F r7 r16 (f_X10_leastOne_l28 F r7 r16 t) (nI h) (nI l) _ _ (nI a) (nI b) (nI (l + 1)) T = _
      unfold f_X10_leastOne_h28
      rw [if_pos (nI_lt (by omega) (by omega)), Option.bind_some, nI_1]) (fun t k hk => by
      show f_X10_leastOne_h28 F r7 r16 (f_X10_leastOne_l28 F r7 r16 t) (nI h) (nI l) _ _ (nI a) (nI b) (nI k) T = _
      unfold f_X10_leastOne_h28
      rw [if_neg (nI_nlt (by omega) (by omega)), l37 _ _ _ _ _ _ _ (lf_ub so_v28 hw9 k) hab (by omega)]
      rfl) F 0 (Nat.zero_le _) (by omega)
  have l16 : ∀ r7 w a, w ≤ 99 → a ≤ h → f_X10_leastOne_l16 F r7 F (nI h) (nI l) (nI (n - (h + l))) (nI w) (nI a) 0 T = r7 (nI h) (nI l) (nI (n - (h + l))) (nI (lf (so_m16 n h l a) w (h - a + 1))) (nI (a + 1)) T := by
    intro r7 w a hw9 ha
    exact lp_go (fun t k => f_X10_leastOne_l16 F r7 t (nI h) (nI l) (nI (n - (h + l))) (nI (lf (so_m16 n h l a) w k)) (nI a) (nI k) T) _ (h - a + 1) (fun t => by
      show f_X10_leastOne_h16 F r7 (f_X10_leastOne_l16 F r7 t) (nI h) (nI l) _ _ (nI a) (nI (h - a + 1)) T = _
      unfold f_X10_leastOne_h16
      rw [nI_add, if_pos (nI_lt (by omega) (by omega)), Option.bind_some, nI_1]) (fun t k hk => by
      show f_X10_leastOne_h16 F r7 (f_X10_leastOne_l16 F r7 t) (nI h) (nI l) _ _ (nI a) (nI k) T = _
      unfold f_X10_leastOne_h16
      rw [nI_add, if_neg (nI_nlt (by omega) (by omega)), l28 _ _ _ _ _ (lf_ub so_v16 hw9 k) (by omega)]
      rfl) F 0 (Nat.zero_le _) (by omega)
  rw [← so_m7_eq h2]
  unfold f_X10_leastOne
  exact lp_go (fun t k => f_X10_leastOne_l7 F t (nI h) (nI l) (nI (n - (h + l))) (nI (lf (so_m7 n h l) 99 k)) (nI k) T) _ (h + 1) (fun t => by
    show f_X10_leastOne_h7 F (f_X10_leastOne_l7 F t) (nI h) (nI l) _ _ (nI (h + 1)) T = _
    unfold f_X10_leastOne_h7
    rw [if_pos (nI_lt (by omega) (by omega))]) (fun t k hk => by
    show f_X10_leastOne_h7 F (f_X10_leastOne_l7 F t) (nI h) (nI l) _ _ (nI k) T = _
    unfold f_X10_leastOne_h7
    rw [if_neg (nI_nlt (by omega) (by omega)), l16 _ _ _ (lf_ub so_v7 (Nat.le_refl 99) k) (by omega)]
    rfl) F 0 (Nat.zero_le _) (by omega)
def so_bv (n v g a b : Nat) : Nat := max (sv_mix n (v - a - b) g) (max (sv_spl n a b) (sv_spl n b a))
def so_b16 (n v g a k w : Nat) : Nat := if 0 < a + k ∧ sv_gap a k ≤ n - v then min w (so_bv n v g a k + 1) else w
def so_b7 (n v g k w : Nat) : Nat := lf (so_b16 n v g k) w (v - k + 1)
theorem so_w16 {n v g a : Nat} : ∀ k w, w ≤ 99 → so_b16 n v g a k w ≤ 99 := by
  intro k w hw
  unfold so_b16
  split
  · omega
  · exact hw
theorem so_w7 {n v g : Nat} : ∀ k w, w ≤ 99 → so_b7 n v g k w ≤ 99 := fun k w hw => lf_ub so_w16 hw _
theorem so_b7_eq {n v g : Nat} (hg : g ≤ 1) (h2 : 1 ≤ v) : lf (so_b7 n v g) 99 (v + 1) = sv_mix n v g := by
  refine sv_eq (fun z => ?_)
  rw [sv_mix_le (by omega) hg, lf_le (P := fun a => ∀ b, b < v - a + 1 → (0 < a + b ∧ sv_gap a b ≤ n - v) → z ≤ so_bv n v g a b + 1)]
  · refine and_congr_right (fun _ => ⟨fun hh a b ok => ?_, fun hh a ha b hb ok => ?_⟩)
    · obtain ⟨o1, o2, o3⟩ := ok
      exact hh a (by omega) b (by omega) ⟨o2, o3⟩
    · exact hh a b ⟨by omega, ok.1, ok.2⟩
  · intro a w ha
    unfold so_b7
    rw [lf_le (P := fun b => (0 < a + b ∧ sv_gap a b ≤ n - v) → z ≤ so_bv n v g a b + 1)]
    intro b w hb
    unfold so_b16
    split
    · rename_i hq
      rw [Nat.le_min]
      exact ⟨fun h2 => ⟨h2.1, fun _ => h2.2⟩, fun h2 => ⟨h2.1, h2.2 hq⟩⟩
    · rename_i hq
      exact ⟨fun h2 => ⟨h2, fun h3 => absurd h3 hq⟩, fun h2 => h2.1⟩
theorem so_leastBoth {F n v g k : Nat} {T : si_St} (hn : n ≤ 12) (hv : v ≤ n) (h2 : 1 ≤ v) (hg : g ≤ 1) (ho : so_o1 n (n + 1) 0 T) (ho2 : so_o2 n k T) (hk : v ≤ k) (hF : 16 ≤ F) : f_X10_leastBoth F (nI v) (nI g) (nI (n - v)) T = some (nI (sv_mix n v g), T) := by
  have l16 : ∀ r7 w a, w ≤ 99 → a ≤ v → f_X10_leastBoth_l16 F r7 F (nI v) (nI g) (nI (n - v)) (nI w) (nI a) 0 T = r7 (nI v) (nI g) (nI (n - v)) (nI (lf (so_b16 n v g a) w (v - a + 1))) (nI (a + 1)) T := by
    intro r7 w a hw9 ha
    exact lp_go (fun t j => f_X10_leastBoth_l16 F r7 t (nI v) (nI g) (nI (n - v)) (nI (lf (so_b16 n v g a) w j)) (nI a) (nI j) T) _ (v - a + 1) (fun t => by
      show f_X10_leastBoth_h16 F r7 (f_X10_leastBoth_l16 F r7 t) (nI v) (nI g) _ _ (nI a) (nI (v - a + 1)) T = _
      unfold f_X10_leastBoth_h16
      rw [nI_add, if_pos (nI_lt (by omega) (by omega)), Option.bind_some, nI_1]) (fun t j hj => by
      have hu := lf_ub (so_w16 (n := n) (v := v) (g := g) (a := a)) hw9 j
      have hgp : sv_gap a j < 2 ^ 31 := by unfold sv_gap; omega
      show f_X10_leastBoth_h16 F r7 (f_X10_leastBoth_l16 F r7 t) (nI v) (nI g) _ _ (nI a) (nI j) T = f_X10_leastBoth_l16 F r7 t (nI v) (nI g) _ (nI (so_b16 n v g a j (lf (so_b16 n v g a) w j))) (nI a) (nI (j + 1)) T
      generalize lf (so_b16 n v g a) w j = W at hu ⊢
      have s101 : ∀ z, f_X10_leastBoth_h101 F r7 (f_X10_leastBoth_l16 F r7 t) (nI v) (nI g) (nI (n - v)) (nI z) (nI a) (nI j) T = f_X10_leastBoth_l16 F r7 t (nI v) (nI g) (nI (n - v)) (nI z) (nI a) (nI (j + 1)) T := by
        intro z
        unfold f_X10_leastBoth_h101
        rw [Option.bind_some, nI_1]
      unfold f_X10_leastBoth_h16 f_X10_leastBoth_h99
      rw [nI_add, if_neg (nI_nlt (by omega) (by omega)), s101, vm_size, Option.bind_some]
      try dsimp only
      rw [sg_abs_2 a (by omega) j (by omega), s101]
      unfold so_b16
      by_cases t3 : 0 < a + j
      · rw [if_neg (nI_nle t3 (by omega))]
        by_cases t4 : sv_gap a j ≤ n - v
        · have m1 := sv_spl_99 (n := n) (h := a) (l := j)
          have m2 := sv_spl_99 (n := n) (h := j) (l := a)
          have m3 := sv_mix_99 (n := n) (v := v - a - j) hg
          rw [if_neg (nI_nlt t4 (by omega)), pk_sub (show a ≤ v by omega), pk_sub (show j ≤ v - a by omega), so_both ho2 hg (by omega) (by omega), Option.bind_some]
          try dsimp only
          rw [so_one ho (by omega) (by omega) (Or.inl (by omega)), Option.bind_some]
          try dsimp only
          rw [so_one ho (by omega) (by omega) (Or.inl (by omega)), Option.bind_some]
          try dsimp only
          rw [so_worse (by omega) (by omega), Option.bind_some]
          try dsimp only
          rw [so_worse (by omega) (by omega), Option.bind_some]
          try dsimp only
          rw [nI_1, s101, if_pos (show 0 < a + j ∧ sv_gap a j ≤ n - v from ⟨t3, t4⟩)]
          have e : max (sv_mix n (v - a - j) g) (max (sv_spl n a j) (sv_spl n j a)) = so_bv n v g a j := rfl
          have m4 : so_bv n v g a j ≤ 99 := by unfold so_bv; omega
          rw [e]
          by_cases t5 : W ≤ so_bv n v g a j + 1
          · rw [if_pos (nI_le t5 (by omega)), Nat.min_eq_left t5]
          · rw [if_neg (nI_ge (by omega) (by omega)), Nat.min_eq_right (by omega), s101]
        · rw [if_pos (nI_lt (by omega) hgp), if_neg (fun hq => t4 hq.2)]
      · have hz : a + j = 0 := by omega
        rw [if_pos (show nI (a + j) ≤ 0 by rw [hz]; exact Int32.le_refl _), if_neg (fun hq => t3 hq.1)]) F 0 (Nat.zero_le _) (by omega)
  rw [← so_b7_eq hg h2]
  unfold f_X10_leastBoth
  exact lp_go (fun t j => f_X10_leastBoth_l7 F t (nI v) (nI g) (nI (n - v)) (nI (lf (so_b7 n v g) 99 j)) (nI j) T) _ (v + 1) (fun t => by
    show f_X10_leastBoth_h7 F (f_X10_leastBoth_l7 F t) (nI v) (nI g) _ _ (nI (v + 1)) T = _
    unfold f_X10_leastBoth_h7
    rw [if_pos (nI_lt (by omega) (by omega))]) (fun t j hj => by
    show f_X10_leastBoth_h7 F (f_X10_leastBoth_l7 F t) (nI v) (nI g) _ _ (nI j) T = _
    unfold f_X10_leastBoth_h7
    rw [if_neg (nI_nlt (by omega) (by omega)), l16 _ _ _ (lf_ub so_w7 (Nat.le_refl 99) j) (by omega)]
    rfl) F 0 (Nat.zero_le _) (by omega)
/-- only the two tables differ -/
def so_mf (B T : si_St) : Prop := T.1 = B.1 ∧ (∀ r, r ≠ 108 → r ≠ 109 → T.2.1 r = B.2.1 r) ∧ T.2.2 = B.2.2
theorem so_mf.pa {B T : si_St} {k i : Nat} {v : Int32} (h : so_mf B T) (hk : k = 108 ∨ k = 109) : so_mf B (si_pa T k i v) := ⟨h.1, fun r r1 r2 => (pa_o (by omega)).trans (h.2.1 r r1 r2), h.2.2⟩
theorem so_lays {F n : Nat} {B : si_St} (hn : n ≤ 12) (hn2 : 2 ≤ n) (hF : 16 ≤ F) : ∃ T, f_X10_lays F (nI n) B = some T ∧ so_mf B T ∧ so_o1 n (n + 1) 0 T ∧ so_o2 n (n + 1) T := by
  have w2 : ∀ Z, so_mf B Z → so_o1 n (n + 1) 0 Z → ∃ T, f_X10_lays_l52 F F (nI n) 1 Z = some T ∧ so_mf B T ∧ so_o1 n (n + 1) 0 T ∧ so_o2 n (n + 1) T := by
    intro Z f1 o1
    exact lp_inv (fun t k Y => f_X10_lays_l52 F t (nI n) (nI k) Y) (fun k Y => so_mf B Y ∧ so_o1 n (n + 1) 0 Y ∧ so_o2 n k Y ∧ 1 ≤ k) (fun o => ∃ T, o = some T ∧ so_mf B T ∧ so_o1 n (n + 1) 0 T ∧ so_o2 n (n + 1) T) (n + 1) (fun t Y ⟨a1, a2, a3, a4⟩ => by
      refine ⟨Y, ?_, a1, a2, a3⟩
      show f_X10_lays_h52 F (f_X10_lays_l52 F t) (nI n) (nI (n + 1)) Y = _
      unfold f_X10_lays_h52
      rw [if_pos (nI_lt (by omega) (by omega))]) (fun t k Y hk ⟨a1, a2, a3, a4⟩ => by
      have b2 : so_o1 n (n + 1) 0 (si_pa Y 109 (2 * k + 0) (nI (sv_mix n k 0))) := fun h l h1 h2 h3 h4 => by rw [pa_o (by decide)]; exact a2 h l h1 h2 h3 h4
      have b3 : so_o2 n k (si_pa Y 109 (2 * k + 0) (nI (sv_mix n k 0))) := fun v g h1 h2 h3 => by rw [pa_s (by omega)]; exact a3 v g h1 h2 h3
      refine ⟨si_pa (si_pa Y 109 (2 * k + 0) (nI (sv_mix n k 0))) 109 (2 * k + 1) (nI (sv_mix n k 1)), ⟨(a1.pa (Or.inr rfl)).pa (Or.inr rfl), fun h l h1 h2 h3 h4 => by rw [pa_o (by decide)]; exact b2 h l h1 h2 h3 h4, fun v g h1 h2 h3 => ?_, by omega⟩, ?_⟩
      · by_cases hvk : v = k
        · subst hvk
          have hg2 : g = 0 ∨ g = 1 := by omega
          rcases hg2 with rfl | rfl
          · rw [pa_s (by omega), pa_e]
          · rw [pa_e]
        · rw [pa_s (by omega)]
          exact b3 v g h1 h2 (by omega)
      · show f_X10_lays_h52 F (f_X10_lays_l52 F t) (nI n) (nI k) Y = _
        have e0 := so_leastBoth (F := F) (g := 0) hn (show k ≤ n by omega) a4 (by decide) a2 a3 (Nat.le_refl k) hF
        have e1 := so_leastBoth (F := F) (g := 1) hn (show k ≤ n by omega) a4 (by decide) b2 b3 (Nat.le_refl k) hF
        unfold f_X10_lays_h52
        rw [if_neg (nI_nlt (by omega) (by omega)), pk_sub (by omega)]
        show Option.bind (f_X10_leastBoth F (nI k) (nI 0) (nI (n - k)) Y) _ = _
        rw [e0, Option.bind_some]
        try dsimp only
        rw [li_mulL]
        show Option.bind (si_wr Y 109 (nI (2 * k + 0)) (nI (sv_mix n k 0))) _ = _
        rw [wr_109 (by omega), Option.bind_some]
        show Option.bind (f_X10_leastBoth F (nI k) (nI 1) (nI (n - k)) _) _ = _
        rw [e1, Option.bind_some]
        try dsimp only
        rw [nI_1, wr_109 (by omega), Option.bind_some, nI_1, Option.bind_some]) F 1 Z (by omega) (by omega) ⟨f1, o1, fun v g h1 h2 h3 => absurd h3 (by omega), Nat.le_refl 1⟩
  unfold f_X10_lays
  exact lp_inv (fun t s Y => f_X10_lays_l2 F t (nI n) (nI s) Y) (fun s Y => so_mf B Y ∧ so_o1 n s 0 Y ∧ 2 ≤ s) (fun o => ∃ T, o = some T ∧ so_mf B T ∧ so_o1 n (n + 1) 0 T ∧ so_o2 n (n + 1) T) (n + 1) (fun t Y ⟨a1, a2, a3⟩ => by
    obtain ⟨T, q⟩ := w2 Y a1 a2
    refine ⟨T, ?_, q.2⟩
    show f_X10_lays_h2 F (f_X10_lays_l2 F t) (nI n) (nI (n + 1)) Y = _
    unfold f_X10_lays_h2
    rw [if_pos (nI_lt (by omega) (by omega))]
    exact q.1) (fun t s Y hs ⟨a1, a2, a3⟩ => by
    have hin := lp_inv (fun t2 h Z => f_X10_lays_l9 F (f_X10_lays_l2 F t) t2 (nI n) (nI s) (nI h) Z) (fun h Z => so_mf B Z ∧ so_o1 n s h Z) (fun o => ∃ Z, (so_mf B Z ∧ so_o1 n (s + 1) 0 Z ∧ 2 ≤ s + 1) ∧ o = f_X10_lays_l2 F t (nI n) (nI (s + 1)) Z) (s + 1) (fun t2 Z ⟨b1, b2⟩ => by
      refine ⟨Z, ⟨b1, fun h l h1 h2 h3 h4 => b2 h l h1 h2 h3 (by omega), by omega⟩, ?_⟩
      show f_X10_lays_h9 F (f_X10_lays_l2 F t) (f_X10_lays_l9 F (f_X10_lays_l2 F t) t2) (nI n) (nI s) (nI (s + 1)) Z = _
      unfold f_X10_lays_h9
      rw [if_pos (nI_lt (by omega) (by omega)), Option.bind_some, nI_1]) (fun t2 h Z hh ⟨b1, b2⟩ => by
      have hsum : h + (s - h) = s := by omega
      have e := so_leastOne (F := F) (n := n) (h := h) (l := s - h) (j := h) (T := Z) hn (by omega) (by omega) (by rw [hsum]; exact b2) hF
      rw [hsum] at e
      refine ⟨si_pa Z 108 (13 * h + (s - h)) (nI (sv_spl n h (s - h))), ⟨b1.pa (Or.inl rfl), fun h' l' h1 h2 h3 h4 => ?_⟩, ?_⟩
      · by_cases hc : h' = h ∧ l' = s - h
        · obtain ⟨rfl, rfl⟩ := hc
          exact pa_e
        · rw [pa_s (by omega)]
          exact b2 h' l' h1 h2 h3 (by omega)
      · show f_X10_lays_h9 F (f_X10_lays_l2 F t) (f_X10_lays_l9 F (f_X10_lays_l2 F t) t2) (nI n) (nI s) (nI h) Z = _
        unfold f_X10_lays_h9
        rw [if_neg (nI_nlt (by omega) (by omega)), pk_sub (show h ≤ s by omega), pk_sub (show s ≤ n by omega), e, Option.bind_some]
        try dsimp only
        have ei : 13 * h + s - h = 13 * h + (s - h) := by omega
        rw [li_mulL, nI_add, pk_sub (by omega), ei, wr_108 (by omega), Option.bind_some, nI_1, Option.bind_some]) F 0 Y (Nat.zero_le _) (by omega) ⟨a1, a2⟩
    obtain ⟨Z, hZ, eZ⟩ := hin
    refine ⟨Z, hZ, ?_⟩
    rw [← eZ]
    show f_X10_lays_h2 F (f_X10_lays_l2 F t) (nI n) (nI s) Y = _
    unfold f_X10_lays_h2
    rw [if_neg (nI_nlt (by omega) (by omega))]
    rfl) F 2 B (by omega) (by omega) ⟨⟨rfl, fun _ _ _ => rfl, rfl⟩, fun h l h1 h2 h3 h4 => absurd h4 (by omega), Nat.le_refl 2⟩
