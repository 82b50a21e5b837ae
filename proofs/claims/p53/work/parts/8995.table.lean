-- THE NUMBERS OF WEIGHINGS FOR SETS OF 2 TO 5 AND OF 12
def tS : Nat → List (List Nat)
  | 2 => [[0, 0, 1], [0, 99], [1]]
  | 3 => [[0, 0, 1, 1], [0, 1, 1], [1, 1], [1]]
  | 4 => [[0, 0, 1, 1, 2], [0, 1, 1, 2], [1, 1, 2], [1, 2], [2]]
  | 5 => [[0, 0, 1, 1, 2, 2], [0, 1, 1, 2, 2], [1, 1, 2, 2], [1, 2, 2], [2, 2], [2]]
  | 12 => [[0, 0, 1, 1, 2, 2, 2, 2, 2, 2, 3, 3, 3], [0, 1, 1, 2, 2, 2, 2, 2, 2, 3, 3, 3], [1, 1, 2, 2, 2, 2, 2, 2, 3, 3, 3], [1, 2, 2, 2, 2, 2, 2, 3, 3, 3], [2, 2, 2, 2, 2, 2, 3, 3, 3], [2, 2, 2, 2, 2, 3, 3, 3], [2, 2, 2, 2, 3, 3, 3], [2, 2, 2, 3, 3, 3], [2, 2, 3, 3, 3], [2, 3, 3, 3], [3, 3, 3], [3, 3], [3]]
  | _ => []
def tM : Nat → List (List Nat)
  | 2 => [[0, 0], [1, 1], [99, 99]]
  | 3 => [[0, 0], [1, 1], [2, 2], [2, 2]]
  | 4 => [[0, 0], [1, 1], [2, 2], [2, 2], [3, 3]]
  | 5 => [[0, 0], [1, 1], [2, 2], [2, 2], [2, 2], [3, 3]]
  | 12 => [[0, 0], [1, 1], [2, 2], [2, 2], [2, 2], [3, 3], [3, 3], [3, 3], [3, 3], [3, 3], [3, 3], [3, 3], [3, 3]]
  | _ => []
def rS (n h l : Nat) : Nat := ((tS n).getD h []).getD l 0
def rM (n v g : Nat) : Nat := ((tM n).getD v []).getD g 0
def rSb (n m h l : Nat) : Nat := if h + l < m then rS n h l else 99
abbrev cS (n f s : Nat) : Prop := (f + s < 2 → rS n f s = 0) ∧ (2 ≤ f + s → min 99 (lf (so_g20 (fun a b c d => max (rSb n (f + s) (f - a - b) (s - c - d)) (max (rSb n (f + s) a d) (rSb n (f + s) b c))) (n - f - s) f s) 99 (f + 1) + 1) = rS n f s)
theorem rS_ok {n : Nat} (h : ∀ f, f < n + 1 → ∀ s, s < n + 1 → f + s ≤ n → cS n f s) : ∀ m f s, f + s ≤ m → f + s ≤ n → rS n f s = sv_spl n f s := by
  intro m
  induction m with
  | zero =>
    intro f s hm hn
    rw [(h f (by omega) s (by omega) hn).1 (by omega), sv_spl_0 (by omega)]
  | succ m ih =>
    intro f s hm hn
    by_cases h2 : f + s < 2
    · rw [(h f (by omega) s (by omega) hn).1 h2, sv_spl_0 h2]
    · rw [← (h f (by omega) s (by omega) hn).2 (by omega)]
      refine so_split_eq (tb := rSb n (f + s)) (by omega) (fun a b hab => ?_) ?_
      · unfold rSb
        rw [if_pos hab]
        exact ih a b (by omega) (by omega)
      · unfold rSb
        rw [if_neg (by omega)]
def lS (n a b : Nat) : Nat := if a + b ≤ n then rS n a b else sv_spl n a b
def rMb (n m g v : Nat) : Nat := if v < m then rM n v g else 99
abbrev cM (n g v : Nat) : Prop := (v = 0 → rM n v g = 0) ∧ (1 ≤ v → min 99 (lf (so_g20 (fun a b _ _ => max (rMb n v g (v - a - b)) (lS n a b)) (n - v - 0) v 0) 99 (v + 1) + 1) = rM n v g)
theorem rM_ok {n g : Nat} (hg : g ≤ 1) (hS : ∀ f s, f + s ≤ n → rS n f s = sv_spl n f s) (h : ∀ v, v < n + 1 → cM n g v) : ∀ m v, v ≤ m → v ≤ n → rM n v g = sv_mix n v g := by
  have hl : lS n = sv_spl n := by
    funext a b
    unfold lS
    by_cases h9 : a + b ≤ n
    · rw [if_pos h9]; exact hS a b h9
    · rw [if_neg h9]
  intro m
  induction m with
  | zero =>
    intro v hm hn
    rw [(h v (by omega)).1 (by omega), sv_mix_0 (by omega)]
  | succ m ih =>
    intro v hm hn
    by_cases h2 : v = 0
    · rw [(h v (by omega)).1 h2, sv_mix_0 (by omega)]
    · rw [← (h v (by omega)).2 (by omega), hl]
      refine so_mix_eq (tb := rMb n v g) hg (by omega) (fun a hab => ?_) ?_
      · unfold rMb
        rw [if_pos hab]
        exact ih a (by omega) (by omega)
      · unfold rMb
        rw [if_neg (by omega)]

set_option maxRecDepth 100000 in
theorem rS_2 : ∀ f s, f + s ≤ 2 → rS 2 f s = sv_spl 2 f s := fun f s h => rS_ok (by decide +kernel) (f + s) f s (Nat.le_refl _) h
set_option maxRecDepth 100000 in
theorem rM_2_0 : ∀ v, v ≤ 2 → rM 2 v 0 = sv_mix 2 v 0 := fun v h => rM_ok (by decide) rS_2 (by decide +kernel) v v (Nat.le_refl _) h
set_option maxRecDepth 100000 in
theorem rM_2_1 : ∀ v, v ≤ 2 → rM 2 v 1 = sv_mix 2 v 1 := fun v h => rM_ok (by decide) rS_2 (by decide +kernel) v v (Nat.le_refl _) h
set_option maxRecDepth 100000 in
theorem rS_3 : ∀ f s, f + s ≤ 3 → rS 3 f s = sv_spl 3 f s := fun f s h => rS_ok (by decide +kernel) (f + s) f s (Nat.le_refl _) h
set_option maxRecDepth 100000 in
theorem rM_3_0 : ∀ v, v ≤ 3 → rM 3 v 0 = sv_mix 3 v 0 := fun v h => rM_ok (by decide) rS_3 (by decide +kernel) v v (Nat.le_refl _) h
set_option maxRecDepth 100000 in
theorem rM_3_1 : ∀ v, v ≤ 3 → rM 3 v 1 = sv_mix 3 v 1 := fun v h => rM_ok (by decide) rS_3 (by decide +kernel) v v (Nat.le_refl _) h
set_option maxRecDepth 100000 in
theorem rS_4 : ∀ f s, f + s ≤ 4 → rS 4 f s = sv_spl 4 f s := fun f s h => rS_ok (by decide +kernel) (f + s) f s (Nat.le_refl _) h
set_option maxRecDepth 100000 in
theorem rM_4_0 : ∀ v, v ≤ 4 → rM 4 v 0 = sv_mix 4 v 0 := fun v h => rM_ok (by decide) rS_4 (by decide +kernel) v v (Nat.le_refl _) h
set_option maxRecDepth 100000 in
theorem rM_4_1 : ∀ v, v ≤ 4 → rM 4 v 1 = sv_mix 4 v 1 := fun v h => rM_ok (by decide) rS_4 (by decide +kernel) v v (Nat.le_refl _) h
set_option maxRecDepth 100000 in
theorem rS_5 : ∀ f s, f + s ≤ 5 → rS 5 f s = sv_spl 5 f s := fun f s h => rS_ok (by decide +kernel) (f + s) f s (Nat.le_refl _) h
set_option maxRecDepth 100000 in
theorem rM_5_0 : ∀ v, v ≤ 5 → rM 5 v 0 = sv_mix 5 v 0 := fun v h => rM_ok (by decide) rS_5 (by decide +kernel) v v (Nat.le_refl _) h
set_option maxRecDepth 100000 in
theorem rM_5_1 : ∀ v, v ≤ 5 → rM 5 v 1 = sv_mix 5 v 1 := fun v h => rM_ok (by decide) rS_5 (by decide +kernel) v v (Nat.le_refl _) h
set_option maxRecDepth 100000 in
theorem rS_12 : ∀ f s, f + s ≤ 12 → rS 12 f s = sv_spl 12 f s := fun f s h => rS_ok (by decide +kernel) (f + s) f s (Nat.le_refl _) h
set_option maxRecDepth 100000 in
theorem rM_12_0 : ∀ v, v ≤ 12 → rM 12 v 0 = sv_mix 12 v 0 := fun v h => rM_ok (by decide) rS_12 (by decide +kernel) v v (Nat.le_refl _) h
set_option maxRecDepth 100000 in
theorem rM_12_1 : ∀ v, v ≤ 12 → rM 12 v 1 = sv_mix 12 v 1 := fun v h => rM_ok (by decide) rS_12 (by decide +kernel) v v (Nat.le_refl _) h
