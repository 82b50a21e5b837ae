/-! parse: bytes and words -/
def bv (k : Nat) : Int32 := si_i2b (nI k)
theorem bv_tab : ∀ k, k < 256 → (bv k &&& 255 = nI k ∧ (bv k < 97 ↔ (k < 97 ∨ 128 ≤ k)) ∧ (122 < bv k ↔ (122 < k ∧ k < 128)) ∧ (bv k = 32 ↔ k = 32) ∧ (bv k = 10 ↔ k = 10) ∧ (bv k < 48 ↔ (k < 48 ∨ 128 ≤ k)) ∧ (57 < bv k ↔ (57 < k ∧ k < 128)) ∧ (bv k = 59 ↔ k = 59) ∧ (k < 128 → bv k = nI k)) := by decide +kernel
theorem bv_ex {b : Int32} (h : si_i2b b = b) : ∃ k, k < 256 ∧ b = bv k := by
  obtain ⟨n, hn, rfl⟩ := wb_of32 b
  refine ⟨n % 2 ^ 8, Nat.mod_lt _ (by decide), ?_⟩
  rw [← h]
  unfold bv
  refine sm_i2b_bits (fun i hi => ?_)
  rw [sm_btn (by omega), sm_btn (by omega), Nat.testBit_mod_two_pow, decide_eq_true hi, Bool.true_and]
def wn (g : Nat) : Nat := si_slen.getD g 0
def wc (g i : Nat) : Int32 := (si_sbyt.getD g []).getD i 0
theorem wn_tab : ∀ g, g < 8 → wn g ≤ 6 ∧ si_sl g >>> ((0 : Int32) &&& 31) = nI (wn g) ∧ si_sl g = nI (wn g) := by decide +kernel
theorem wc_tab : ∀ g, g < 8 → ∀ i, i < wn g → si_sb g (nI i) = some (wc g i) ∧ si_gn .char (si_i2c (wc g i &&& 255)) = some (wc g i) ∧ si_gn .char (wc g i) = some (wc g i) := by decide +kernel
theorem wn_J {F g : Nat} {S : si_St} (hg : g < 8) : f_J0_length_8abf5 F g S = some (nI (wn g), S) := by
  unfold f_J0_length_8abf5 f_J0_coder_7d493 f_J0_coder_7d493_h14
  rw [if_neg (by decide), show si_gn .byte 0 = some 0 from by decide +kernel, Option.bind_some, Option.bind_some]
  dsimp only
  rw [(wn_tab g hg).2.1]
theorem wc_J {F g i : Nat} {S : si_St} (hg : g < 8) (hi : i < wn g) : f_J0_charAt_5068e F g (nI i) S = some (wc g i, S) := by
  obtain ⟨h1, h2, h3⟩ := wc_tab g hg i hi
  obtain ⟨t1, t2, t3⟩ := wn_tab g hg
  have e1 : f_J0_isLatin1_aae02 F g S = some (1, S) := by
    unfold f_J0_isLatin1_aae02 f_J0_isLatin1_aae02_h18
    rw [if_neg (by decide), if_pos rfl, sm_bz1]
    rfl
  have e2 : f_J0_checkIndex_df160 F (nI i) (si_sl g) S = some S := by
    unfold f_J0_checkIndex_df160 f_J3_checkIndex_8e157
    rw [t3, if_neg (fun h => by
      have := nI_pos' (n := i) (by omega)
      rw [fa_lt] at h
      rw [fa_le] at this
      omega), if_pos (nI_lt hi (by omega))]
    rfl
  unfold f_J0_charAt_5068e f_J1_charAt_3b067
  rw [e1, Option.bind_some, if_neg (show ¬ (1 : Int32) = 0 by decide)]
  dsimp only
  rw [e2, Option.bind_some, h1, Option.bind_some, h2, Option.bind_some, Option.bind_some]
  dsimp only
  rw [h3, Option.bind_some]
/-- the token st .. en of kind kd is the word g -/
def wd (c : Nat → Nat) (st en kd g : Nat) : Prop := kd = 1 ∧ en - st = wn g ∧ ∀ i, i < wn g → bv (c (st + i)) = wc g i
theorem wd_A1 {F g N st : Nat} {c : Nat → Nat} {A : si_St} (hg : g < 8) (hN : N ≤ 800) (ht : ∀ i, i < N → A.2.1 2 i = bv (c i)) (h5 : A.1 1 5 = nI st) (hb : st + wn g ≤ N) : ∀ n k, k ≤ wn g → wn g < n + k → (∀ i, i < k → bv (c (st + i)) = wc g i) → ((∀ i, i < wn g → bv (c (st + i)) = wc g i) → f_X3_isWord_l28 F g n (nI k) A = some (1, A)) ∧ (¬ (∀ i, i < wn g → bv (c (st + i)) = wc g i) → f_X3_isWord_l28 F g n (nI k) A = some (0, A))
  | 0, k, h1, h2, _ => absurd h2 (by omega)
  | n + 1, k, h1, h2, h3 => by
    have hw := (wn_tab g hg).1
    have e : f_X3_isWord_l28 F g (n + 1) (nI k) A = f_X3_isWord_h28 F g (f_X3_isWord_l28 F g n) (nI k) A := rfl
    rw [e]
    unfold f_X3_isWord_h28
    rw [wn_J hg, Option.bind_some]
    dsimp only
    by_cases hk : k = wn g
    · subst hk
      rw [if_pos (Int32.le_refl _), sm_bz1]
      exact ⟨fun _ => rfl, fun h => absurd h3 h⟩
    · rw [if_neg (nI_ge (by omega) (by omega)), h5, nI_add, rd_2 (by omega), Option.bind_some, wc_J hg (by omega), Option.bind_some, ht _ (by omega)]
      dsimp only
      by_cases hc : bv (c (st + k)) = wc g k
      · rw [if_pos hc, Option.bind_some, nI_1]
        exact wd_A1 hg hN ht h5 hb n (k + 1) (by omega) (by omega) (fun i hi => by
          by_cases hik : i = k
          · rw [hik]
            exact hc
          · exact h3 i (by omega))
      · rw [if_neg hc, sm_bz0]
        exact ⟨fun h => absurd (h k (by omega)) hc, fun _ => rfl⟩
theorem wd_A {F g N st en kd : Nat} {c : Nat → Nat} {A : si_St} (hg : g < 8) (hN : N ≤ 800) (hF : 10 ≤ F) (ht : ∀ i, i < N → A.2.1 2 i = bv (c i)) (h5 : A.1 1 5 = nI st) (h6 : A.1 1 6 = nI en) (h7 : A.1 1 7 = nI kd) (hse : st ≤ en) (heN : en ≤ N) (hkd : kd ≤ 4) : (wd c st en kd g → f_X3_isWord F g A = some (1, A)) ∧ (¬ wd c st en kd g → f_X3_isWord F g A = some (0, A)) := by
  have hw := (wn_tab g hg).1
  unfold f_X3_isWord f_X3_isWord_h24
  rw [h7, h6, h5, sm_sub hse, wn_J hg, Option.bind_some, sm_bz0]
  dsimp only
  by_cases c1 : kd = 1
  · rw [if_pos (show nI kd = 1 by rw [c1]; rfl)]
    by_cases c2 : en - st = wn g
    · rw [if_pos (by rw [c2])]
      have h := wd_A1 (F := F) hg hN ht h5 (show st + wn g ≤ N by omega) F 0 (Nat.zero_le _) (by omega) (fun i hi => absurd hi (Nat.not_lt_zero _))
      exact ⟨fun hw => h.1 hw.2.2, fun hn => h.2 (fun h2 => hn ⟨c1, c2, h2⟩)⟩
    · rw [if_neg (sm_ne c2 (by omega) (by omega))]
      exact ⟨fun h => absurd h.2.1 c2, fun _ => rfl⟩
  · rw [if_neg (show ¬ nI kd = 1 from sm_ne (b := 1) c1 (by omega) (by omega))]
    exact ⟨fun h => absurd h.1 c1, fun _ => rfl⟩
theorem wd_B1 {F g N st : Nat} {c : Nat → Nat} {B : si_St} (hg : g < 8) (hN : N ≤ 800) (ht : ∀ i, i < N → B.2.1 97 i = bv (c i)) (h5 : B.1 87 17 = nI st) (hb : st + wn g ≤ N) : ∀ n k, k ≤ wn g → wn g < n + k → (∀ i, i < k → bv (c (st + i)) = wc g i) → ((∀ i, i < wn g → bv (c (st + i)) = wc g i) → f_X10_isWord_l32 F g n 1 (nI k) B = some (1, B)) ∧ (¬ (∀ i, i < wn g → bv (c (st + i)) = wc g i) → 1 < n → f_X10_isWord_l32 F g n 1 (nI k) B = some (0, B))
  | 0, k, h1, h2, _ => absurd h2 (by omega)
  | n + 1, k, h1, h2, h3 => by
    have hw := (wn_tab g hg).1
    have e : ∀ n y x, f_X10_isWord_l32 F g (n + 1) y x B = f_X10_isWord_h32 F g (f_X10_isWord_l32 F g n) y x B := fun _ _ _ => rfl
    rw [e]
    unfold f_X10_isWord_h32 f_X10_isWord_h75 f_X10_isWord_h68
    rw [wn_J hg, Option.bind_some]
    dsimp only
    by_cases hk : k = wn g
    · subst hk
      rw [if_pos (Int32.le_refl _), sm_bz1]
      exact ⟨fun _ => rfl, fun h => absurd h3 h⟩
    · rw [if_neg (nI_ge (by omega) (by omega)), if_neg (show ¬ (1 : Int32) = 0 by decide), h5, nI_add, rd_97 (by omega), Option.bind_some, wc_J hg (by omega), Option.bind_some, ht _ (by omega)]
      dsimp only
      rw [Option.bind_some, nI_1]
      by_cases hc : bv (c (st + k)) = wc g k
      · rw [if_pos hc]
        have ih := wd_B1 (F := F) hg hN ht h5 hb n (k + 1) (by omega) (by omega) (fun i hi => by
          by_cases hik : i = k
          · rw [hik]
            exact hc
          · exact h3 i (by omega))
        refine ⟨ih.1, fun h _ => ih.2 h ?_⟩
        refine Decidable.byContradiction (fun hn => h (fun i hi => ?_))
        by_cases hik : i = k
        · rw [hik]
          exact hc
        · exact h3 i (by omega)
      · rw [if_neg hc, Option.bind_some]
        refine ⟨fun h => absurd (h k (by omega)) hc, fun _ hn => ?_⟩
        obtain ⟨m, rfl⟩ : ∃ m, n = m + 1 := ⟨n - 1, by omega⟩
        rw [e]
        unfold f_X10_isWord_h32 f_X10_isWord_h75
        rw [wn_J hg, Option.bind_some]
        dsimp only
        rw [if_pos rfl, sm_bz0]
        split <;> rfl
theorem wd_B0 {F g : Nat} {B : si_St} (hg : g < 8) (hF : 10 ≤ F) : f_X10_isWord_l32 F g F 0 0 B = some (0, B) := by
  obtain ⟨m, rfl⟩ : ∃ m, F = m + 1 := ⟨F - 1, by omega⟩
  show f_X10_isWord_h32 (m + 1) g _ 0 0 B = _
  unfold f_X10_isWord_h32 f_X10_isWord_h75
  rw [wn_J hg, Option.bind_some]
  dsimp only
  rw [if_pos rfl, sm_bz0]
  split <;> rfl
theorem wd_B {F g N st en kd : Nat} {c : Nat → Nat} {B : si_St} (hg : g < 8) (hN : N ≤ 800) (hF : 10 ≤ F) (ht : ∀ i, i < N → B.2.1 97 i = bv (c i)) (h5 : B.1 87 17 = nI st) (h6 : B.1 87 18 = nI en) (h7 : B.1 87 19 = nI kd) (hse : st ≤ en) (heN : en ≤ N) (hkd : kd ≤ 4) : (wd c st en kd g → f_X10_isWord F g B = some (1, B)) ∧ (¬ wd c st en kd g → f_X10_isWord F g B = some (0, B)) := by
  have hw := (wn_tab g hg).1
  unfold f_X10_isWord f_X10_isWord_h28 f_X10_isWord_h29
  rw [h7, h6, h5, sm_sub hse, wn_J hg, Option.bind_some, wd_B0 hg hF]
  dsimp only
  by_cases c1 : kd = 1
  · rw [if_pos (show nI kd = 1 by rw [c1]; rfl)]
    by_cases c2 : en - st = wn g
    · rw [if_pos (by rw [c2])]
      have h := wd_B1 (F := F) hg hN ht h5 (show st + wn g ≤ N by omega) F 0 (Nat.zero_le _) (by omega) (fun i hi => absurd hi (Nat.not_lt_zero _))
      exact ⟨fun hw => h.1 hw.2.2, fun hn => h.2 (fun h2 => hn ⟨c1, c2, h2⟩) (by omega)⟩
    · rw [if_neg (sm_ne c2 (by omega) (by omega))]
      exact ⟨fun h => absurd h.2.1 c2, fun _ => rfl⟩
  · rw [if_neg (show ¬ nI kd = 1 from sm_ne (b := 1) c1 (by omega) (by omega))]
    exact ⟨fun h => absurd h.1 c1, fun _ => rfl⟩
