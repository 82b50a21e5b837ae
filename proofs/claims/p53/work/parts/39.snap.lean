-- saveSnapshot
theorem sn_o {S : si_St} {k0 a k1 b n x : Nat} (h : x ≠ k1) : (si_ca S k0 a k1 b n).2.1 x = S.2.1 x := funext fun _ => if_neg (fun h2 => h h2.1)
theorem sn_i {S : si_St} {k0 k1 n j : Nat} (h : j < n) : (si_ca S k0 0 k1 0 n).2.1 k1 j = S.2.1 k0 j := by
  show (if k1 = k1 ∧ 0 ≤ j ∧ j < 0 + n then S.2.1 k0 (0 + (j - 0)) else S.2.1 k1 j) = S.2.1 k0 j
  rw [if_pos ⟨rfl, by omega, by omega⟩, Nat.zero_add, Nat.sub_zero]
theorem sn_c {S : si_St} {k0 a k1 b n : Nat} : (si_ca S k0 a k1 b n).1 = S.1 := rfl
theorem sn_p {S : si_St} {k j : Nat} {v : Int32} : (si_ps S k j v).2.1 = S.2.1 := rfl
theorem sn_q {S : si_St} {k i : Nat} {v : Int32} : (si_pa S k i v).1 = S.1 := rfl
theorem sn_po {S : si_St} {k i x : Nat} {v : Int32} (h : x ≠ k) : (si_pa S k i v).2.1 x = S.2.1 x := funext fun _ => if_neg (fun h2 => h h2.1)
theorem sm_pt (S : si_St) (k j : Nat) (v : Int32) : si_pt S k j v = some (si_ps S k j v) := rfl
theorem sm_pz1 (S : si_St) (k j : Nat) : si_pz S k j 1 = some (si_ps S k j 1) := rfl
theorem iv_sE.ca {xs : List (Nat × Nat)} {xa : List Nat} {S : si_St} {k0 a k1 b n : Nat} (h : k1 ∈ xa) : iv_sE xs xa S (si_ca S k0 a k1 b n) := ⟨fun _ _ _ _ => rfl, fun k _ hx => sn_o (fun e => hx (e ▸ h)), rfl, rfl, rfl, rfl⟩
theorem sm_cpi4 {S : si_St} {k0 k2 : Nat} (h1 : 4 ≤ si_ln k0) (h2 : 4 ≤ si_ln k2) (l0 : si_ln k0 < 2 ^ 31) (l2 : si_ln k2 < 2 ^ 31) : si_cpi S k0 0 k2 0 4 = some (si_ca S k0 0 k2 0 4) := sm_cpi (a := 0) (b := 0) (n := 4) (by omega) (by omega) l0 l2
theorem sm_cpi30 {S : si_St} {k0 k2 : Nat} (h1 : 30 ≤ si_ln k0) (h2 : 30 ≤ si_ln k2) (l0 : si_ln k0 < 2 ^ 31) (l2 : si_ln k2 < 2 ^ 31) : si_cpi S k0 0 k2 0 30 = some (si_ca S k0 0 k2 0 30) := sm_cpi (a := 0) (b := 0) (n := 30) (by omega) (by omega) l0 l2
theorem sm_cpi240 {S : si_St} {k0 k2 : Nat} (h1 : 240 ≤ si_ln k0) (h2 : 240 ≤ si_ln k2) (l0 : si_ln k0 < 2 ^ 31) (l2 : si_ln k2 < 2 ^ 31) : si_cpi S k0 0 k2 0 240 = some (si_ca S k0 0 k2 0 240) := sm_cpi (a := 0) (b := 0) (n := 240) (by omega) (by omega) l0 l2
/-- the visits of one cell in the other -/
def sn_V (S : si_St) (d s : Nat) : si_St := si_ca (si_ca (si_ca (si_ca (si_ca (si_ca (si_ca (si_ca (si_ps S d 0 (S.1 s 0)) (s + 1) 0 (d + 1) 0 30) (s + 2) 0 (d + 2) 0 30) (s + 3) 0 (d + 3) 0 30) (s + 4) 0 (d + 4) 0 30) (s + 5) 0 (d + 5) 0 30) (s + 6) 0 (d + 6) 0 240) (s + 7) 0 (d + 7) 0 240) (s + 8) 0 (d + 8) 0 240
def sn_W (S : si_St) (d s : Nat) : si_St := si_ca (si_ca (si_ca (si_ca (S) (s + 1) 0 (d + 1) 0 4) (s + 2) 0 (d + 2) 0 4) (s + 3) 0 (d + 3) 0 4) (s + 4) 0 (d + 4) 0 4
theorem sn_V1_28_7 {S : si_St} {j i : Nat} (h1 : 1 ≤ j) (h2 : j ≤ 5) (hi : i < 30) : (sn_V S 28 7).2.1 (28 + j) i = S.2.1 (7 + j) i := by
  have hj : j = 1 ∨ j = 2 ∨ j = 3 ∨ j = 4 ∨ j = 5 := by omega
  unfold sn_V
  rcases hj with rfl | rfl | rfl | rfl | rfl
  all_goals simp (disch := first | omega | assumption) only [sn_o, sn_i, sn_p, Nat.reduceAdd]
theorem sn_V6_28_7 {S : si_St} {j i : Nat} (h1 : 6 ≤ j) (h2 : j ≤ 8) (hi : i < 240) : (sn_V S 28 7).2.1 (28 + j) i = S.2.1 (7 + j) i := by
  have hj : j = 6 ∨ j = 7 ∨ j = 8 := by omega
  unfold sn_V
  rcases hj with rfl | rfl | rfl
  all_goals simp (disch := first | omega | assumption) only [sn_o, sn_i, sn_p, Nat.reduceAdd]
theorem sn_V1_43_7 {S : si_St} {j i : Nat} (h1 : 1 ≤ j) (h2 : j ≤ 5) (hi : i < 30) : (sn_V S 43 7).2.1 (43 + j) i = S.2.1 (7 + j) i := by
  have hj : j = 1 ∨ j = 2 ∨ j = 3 ∨ j = 4 ∨ j = 5 := by omega
  unfold sn_V
  rcases hj with rfl | rfl | rfl | rfl | rfl
  all_goals simp (disch := first | omega | assumption) only [sn_o, sn_i, sn_p, Nat.reduceAdd]
theorem sn_V6_43_7 {S : si_St} {j i : Nat} (h1 : 6 ≤ j) (h2 : j ≤ 8) (hi : i < 240) : (sn_V S 43 7).2.1 (43 + j) i = S.2.1 (7 + j) i := by
  have hj : j = 6 ∨ j = 7 ∨ j = 8 := by omega
  unfold sn_V
  rcases hj with rfl | rfl | rfl
  all_goals simp (disch := first | omega | assumption) only [sn_o, sn_i, sn_p, Nat.reduceAdd]
theorem sn_V1_7_28 {S : si_St} {j i : Nat} (h1 : 1 ≤ j) (h2 : j ≤ 5) (hi : i < 30) : (sn_V S 7 28).2.1 (7 + j) i = S.2.1 (28 + j) i := by
  have hj : j = 1 ∨ j = 2 ∨ j = 3 ∨ j = 4 ∨ j = 5 := by omega
  unfold sn_V
  rcases hj with rfl | rfl | rfl | rfl | rfl
  all_goals simp (disch := first | omega | assumption) only [sn_o, sn_i, sn_p, Nat.reduceAdd]
theorem sn_V6_7_28 {S : si_St} {j i : Nat} (h1 : 6 ≤ j) (h2 : j ≤ 8) (hi : i < 240) : (sn_V S 7 28).2.1 (7 + j) i = S.2.1 (28 + j) i := by
  have hj : j = 6 ∨ j = 7 ∨ j = 8 := by omega
  unfold sn_V
  rcases hj with rfl | rfl | rfl
  all_goals simp (disch := first | omega | assumption) only [sn_o, sn_i, sn_p, Nat.reduceAdd]
theorem sn_V1_7_43 {S : si_St} {j i : Nat} (h1 : 1 ≤ j) (h2 : j ≤ 5) (hi : i < 30) : (sn_V S 7 43).2.1 (7 + j) i = S.2.1 (43 + j) i := by
  have hj : j = 1 ∨ j = 2 ∨ j = 3 ∨ j = 4 ∨ j = 5 := by omega
  unfold sn_V
  rcases hj with rfl | rfl | rfl | rfl | rfl
  all_goals simp (disch := first | omega | assumption) only [sn_o, sn_i, sn_p, Nat.reduceAdd]
theorem sn_V6_7_43 {S : si_St} {j i : Nat} (h1 : 6 ≤ j) (h2 : j ≤ 8) (hi : i < 240) : (sn_V S 7 43).2.1 (7 + j) i = S.2.1 (43 + j) i := by
  have hj : j = 6 ∨ j = 7 ∨ j = 8 := by omega
  unfold sn_V
  rcases hj with rfl | rfl | rfl
  all_goals simp (disch := first | omega | assumption) only [sn_o, sn_i, sn_p, Nat.reduceAdd]
theorem sn_W37_16 {S : si_St} {j i : Nat} (h1 : 1 ≤ j) (h2 : j ≤ 4) (hi : i < 4) : (sn_W S 37 16).2.1 (37 + j) i = S.2.1 (16 + j) i := by
  have hj : j = 1 ∨ j = 2 ∨ j = 3 ∨ j = 4 := by omega
  unfold sn_W
  rcases hj with rfl | rfl | rfl | rfl
  all_goals simp (disch := first | omega | assumption) only [sn_o, sn_i, sn_p, Nat.reduceAdd]
theorem sn_W52_16 {S : si_St} {j i : Nat} (h1 : 1 ≤ j) (h2 : j ≤ 4) (hi : i < 4) : (sn_W S 52 16).2.1 (52 + j) i = S.2.1 (16 + j) i := by
  have hj : j = 1 ∨ j = 2 ∨ j = 3 ∨ j = 4 := by omega
  unfold sn_W
  rcases hj with rfl | rfl | rfl | rfl
  all_goals simp (disch := first | omega | assumption) only [sn_o, sn_i, sn_p, Nat.reduceAdd]
theorem sn_W16_37 {S : si_St} {j i : Nat} (h1 : 1 ≤ j) (h2 : j ≤ 4) (hi : i < 4) : (sn_W S 16 37).2.1 (16 + j) i = S.2.1 (37 + j) i := by
  have hj : j = 1 ∨ j = 2 ∨ j = 3 ∨ j = 4 := by omega
  unfold sn_W
  rcases hj with rfl | rfl | rfl | rfl
  all_goals simp (disch := first | omega | assumption) only [sn_o, sn_i, sn_p, Nat.reduceAdd]
theorem sn_W16_52 {S : si_St} {j i : Nat} (h1 : 1 ≤ j) (h2 : j ≤ 4) (hi : i < 4) : (sn_W S 16 52).2.1 (16 + j) i = S.2.1 (52 + j) i := by
  have hj : j = 1 ∨ j = 2 ∨ j = 3 ∨ j = 4 := by omega
  unfold sn_W
  rcases hj with rfl | rfl | rfl | rfl
  all_goals simp (disch := first | omega | assumption) only [sn_o, sn_i, sn_p, Nat.reduceAdd]
theorem sn_Vo {S : si_St} {d s x : Nat} (h : ∀ j, 1 ≤ j → j ≤ 8 → x ≠ d + j) : (sn_V S d s).2.1 x = S.2.1 x := by
  unfold sn_V
  rw [sn_o (h 8 (by decide) (by decide)), sn_o (h 7 (by decide) (by decide)), sn_o (h 6 (by decide) (by decide)), sn_o (h 5 (by decide) (by decide)), sn_o (h 4 (by decide) (by decide)), sn_o (h 3 (by decide) (by decide)), sn_o (h 2 (by decide) (by decide)), sn_o (h 1 (by decide) (by decide))]
  rfl
theorem sn_Wo {S : si_St} {d s x : Nat} (h : ∀ j, 1 ≤ j → j ≤ 4 → x ≠ d + j) : (sn_W S d s).2.1 x = S.2.1 x := by
  unfold sn_W
  rw [sn_o (h 4 (by decide) (by decide)), sn_o (h 3 (by decide) (by decide)), sn_o (h 2 (by decide) (by decide)), sn_o (h 1 (by decide) (by decide))]
theorem sn_V1 {S : si_St} {d s : Nat} : (sn_V S d s).1 = (si_ps S d 0 (S.1 s 0)).1 := rfl
theorem sn_W1 {S : si_St} {d s : Nat} : (sn_W S d s).1 = S.1 := rfl
theorem sn_VE {xs : List (Nat × Nat)} {xa : List Nat} {S : si_St} {d s : Nat} (h0 : (d, 0) ∈ xs) (h : ∀ j, 1 ≤ j → j ≤ 8 → d + j ∈ xa) : iv_sE xs xa S (sn_V S d s) := by
  unfold sn_V
  exact (iv_sE.ps h0) |>.tr (iv_sE.ca (h 1 (by decide) (by decide))) |>.tr (iv_sE.ca (h 2 (by decide) (by decide))) |>.tr (iv_sE.ca (h 3 (by decide) (by decide))) |>.tr (iv_sE.ca (h 4 (by decide) (by decide))) |>.tr (iv_sE.ca (h 5 (by decide) (by decide))) |>.tr (iv_sE.ca (h 6 (by decide) (by decide))) |>.tr (iv_sE.ca (h 7 (by decide) (by decide))) |>.tr (iv_sE.ca (h 8 (by decide) (by decide)))
theorem sn_WE {xs : List (Nat × Nat)} {xa : List Nat} {S : si_St} {d s : Nat} (h : ∀ j, 1 ≤ j → j ≤ 4 → d + j ∈ xa) : iv_sE xs xa S (sn_W S d s) := by
  unfold sn_W
  exact (iv_sE.ca (h 1 (by decide) (by decide))) |>.tr (iv_sE.ca (h 2 (by decide) (by decide))) |>.tr (iv_sE.ca (h 3 (by decide) (by decide))) |>.tr (iv_sE.ca (h 4 (by decide) (by decide)))

