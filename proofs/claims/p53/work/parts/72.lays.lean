/-- the table one below s (and at s below j) -/
def so_o1 (n s j : Nat) (T : si_St) : Prop := ∀ h l, 2 ≤ h + l → h ≤ 12 → l ≤ 12 → (h + l < s ∨ (h + l = s ∧ h < j)) → T.2.1 108 (13 * h + l) = nI (sv_spl n h l)
def so_o2 (n k : Nat) (T : si_St) : Prop := ∀ v g, g ≤ 1 → 1 ≤ v → v < k → T.2.1 109 (2 * v + g) = nI (sv_mix n v g)
def so_wv (n h l a b c d : Nat) : Nat := max (sv_spl n (h - a - b) (l - c - d)) (max (sv_spl n a d) (sv_spl n b c))
theorem so_wv99 {n h l a b c d : Nat} : so_wv n h l a b c d ≤ 99 := by
  have h1 := sv_spl_99 (n := n) (h := h - a - b) (l := l - c - d)
  have h2 := sv_spl_99 (n := n) (h := a) (l := d)
  have h3 := sv_spl_99 (n := n) (h := b) (l := c)
  unfold so_wv
  omega
def so_m37 (n h l a b c k w : Nat) : Nat := if (a + k < h + l ∧ b + c < h + l ∧ 0 < a + b + c + k) ∧ sv_gap (a + c) (b + k) ≤ n - (h + l) then min w (so_wv n h l a b c k + 1) else w
def so_m28 (n h l a b k w : Nat) : Nat := lf (so_m37 n h l a b k) w (l - k + 1)
def so_m16 (n h l a k w : Nat) : Nat := lf (so_m28 n h l a k) w (l + 1)
def so_m7 (n h l k w : Nat) : Nat := lf (so_m16 n h l k) w (h - k + 1)
theorem so_v37 {n h l a b c : Nat} : ∀ k w, w ≤ 99 → so_m37 n h l a b c k w ≤ 99 := by
  intro k w hw
  unfold so_m37
  split
  · omega
  · exact hw
theorem so_v28 {n h l a b : Nat} : ∀ k w, w ≤ 99 → so_m28 n h l a b k w ≤ 99 := fun k w hw => lf_ub so_v37 hw _
theorem so_v16 {n h l a : Nat} : ∀ k w, w ≤ 99 → so_m16 n h l a k w ≤ 99 := fun k w hw => lf_ub so_v28 hw _
theorem so_v7 {n h l : Nat} : ∀ k w, w ≤ 99 → so_m7 n h l k w ≤ 99 := fun k w hw => lf_ub so_v16 hw _
theorem so_m7_eq {n h l : Nat} (h2 : 2 ≤ h + l) : lf (so_m7 n h l) 99 (h + 1) = sv_spl n h l := by
  refine sv_eq (fun z => ?_)
  rw [sv_spl_le h2, lf_le (P := fun a => ∀ b, b < h - a + 1 → ∀ c, c < l + 1 → ∀ d, d < l - c + 1 → ((a + d < h + l ∧ b + c < h + l ∧ 0 < a + b + c + d) ∧ sv_gap (a + c) (b + d) ≤ n - (h + l)) → z ≤ so_wv n h l a b c d + 1)]
  · refine and_congr_right (fun _ => ⟨fun hh a b c d ok => ?_, fun hh a ha b hb c hc d hd ok => ?_⟩)
    · obtain ⟨o1, o2, o3, o4⟩ := ok
      exact hh a (by omega) b (by omega) c (by omega) d (by omega) ⟨o3, o4⟩
    · exact hh a b c d ⟨by omega, by omega, ok.1, ok.2⟩
  · intro a w ha
    unfold so_m7
    rw [lf_le (P := fun b => ∀ c, c < l + 1 → ∀ d, d < l - c + 1 → ((a + d < h + l ∧ b + c < h + l ∧ 0 < a + b + c + d) ∧ sv_gap (a + c) (b + d) ≤ n - (h + l)) → z ≤ so_wv n h l a b c d + 1)]
    intro b w hb
    unfold so_m16
    rw [lf_le (P := fun c => ∀ d, d < l - c + 1 → ((a + d < h + l ∧ b + c < h + l ∧ 0 < a + b + c + d) ∧ sv_gap (a + c) (b + d) ≤ n - (h + l)) → z ≤ so_wv n h l a b c d + 1)]
    intro c w hc
    unfold so_m28
    rw [lf_le (P := fun d => ((a + d < h + l ∧ b + c < h + l ∧ 0 < a + b + c + d) ∧ sv_gap (a + c) (b + d) ≤ n - (h + l)) → z ≤ so_wv n h l a b c d + 1)]
    intro d w hd
    unfold so_m37
    split
    · rename_i hq
      rw [Nat.le_min]
      exact ⟨fun h2 => ⟨h2.1, fun _ => h2.2⟩, fun h2 => ⟨h2.1, h2.2 hq⟩⟩
    · rename_i hq
      exact ⟨fun h2 => ⟨h2, fun h3 => absurd h3 hq⟩, fun h2 => h2.1⟩
def so_bv (n v g a b : Nat) : Nat := max (sv_mix n (v - a - b) g) (max (sv_spl n a b) (sv_spl n b a))
def so_b16 (n v g a k w : Nat) : Nat := if 0 < a + k ∧ sv_gap a k ≤ n - v then min w (so_bv n v g a k + 1) else w
def so_b7 (n v g k w : Nat) : Nat := lf (so_b16 n v g k) w (v - k + 1)
theorem so_w16 {n v g a : Nat} : ∀ k w, w ≤ 99 → so_b16 n v g a k w ≤ 99 := by
  intro k w hw
  unfold so_b16
  split
  · omega
  · exact hw
theorem so_w7 {n v g : Nat} : ∀ k w, w ≤ 99 → so_b7 n v g k w ≤ 99 := fun k w hw => lf_ub so_w16 hw _
theorem so_b7_eq {n v g : Nat} (hg : g ≤ 1) (h2 : 1 ≤ v) : lf (so_b7 n v g) 99 (v + 1) = sv_mix n v g := by
  refine sv_eq (fun z => ?_)
  rw [sv_mix_le (by omega) hg, lf_le (P := fun a => ∀ b, b < v - a + 1 → (0 < a + b ∧ sv_gap a b ≤ n - v) → z ≤ so_bv n v g a b + 1)]
  · refine and_congr_right (fun _ => ⟨fun hh a b ok => ?_, fun hh a ha b hb ok => ?_⟩)
    · obtain ⟨o1, o2, o3⟩ := ok
      exact hh a (by omega) b (by omega) ⟨o2, o3⟩
    · exact hh a b ⟨by omega, ok.1, ok.2⟩
  · intro a w ha
    unfold so_b7
    rw [lf_le (P := fun b => (0 < a + b ∧ sv_gap a b ≤ n - v) → z ≤ so_bv n v g a b + 1)]
    intro b w hb
    unfold so_b16
    split
    · rename_i hq
      rw [Nat.le_min]
      exact ⟨fun h2 => ⟨h2.1, fun _ => h2.2⟩, fun h2 => ⟨h2.1, h2.2 hq⟩⟩
    · rename_i hq
      exact ⟨fun h2 => ⟨h2, fun h3 => absurd h3 hq⟩, fun h2 => h2.1⟩
/-- only the two tables differ -/
def so_mf (B T : si_St) : Prop := T.1 = B.1 ∧ (∀ r, r ≠ 108 → r ≠ 109 → T.2.1 r = B.2.1 r) ∧ T.2.2 = B.2.2
theorem so_mf.pa {B T : si_St} {k i : Nat} {v : Int32} (h : so_mf B T) (hk : k = 108 ∨ k = 109) : so_mf B (si_pa T k i v) := ⟨h.1, fun r r1 r2 => (pa_o (by omega)).trans (h.2.1 r r1 r2), h.2.2⟩
