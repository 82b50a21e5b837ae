/-! parse: bytes and words -/
def bv (k : Nat) : Int32 := si_i2b (nI k)
theorem bv_tab : ∀ k, k < 256 → (bv k &&& 255 = nI k ∧ (bv k < 97 ↔ (k < 97 ∨ 128 ≤ k)) ∧ (122 < bv k ↔ (122 < k ∧ k < 128)) ∧ (bv k = 32 ↔ k = 32) ∧ (bv k = 10 ↔ k = 10) ∧ (bv k < 48 ↔ (k < 48 ∨ 128 ≤ k)) ∧ (57 < bv k ↔ (57 < k ∧ k < 128)) ∧ (bv k = 59 ↔ k = 59) ∧ (k < 128 → bv k = nI k)) := by decide +kernel
theorem bv_ex {b : Int32} (h : si_i2b b = b) : ∃ k, k < 256 ∧ b = bv k := by
  obtain ⟨n, hn, rfl⟩ := wb_of32 b
  refine ⟨n % 2 ^ 8, Nat.mod_lt _ (by decide), ?_⟩
  rw [← h]
  unfold bv
  refine sm_i2b_bits (fun i hi => ?_)
  rw [sm_btn (by omega), sm_btn (by omega), Nat.testBit_mod_two_pow, decide_eq_true hi, Bool.true_and]
def wn (g : Nat) : Nat := si_slen.getD g 0
def wc (g i : Nat) : Int32 := (si_sbyt.getD g []).getD i 0
theorem wn_tab : ∀ g, g < 8 → wn g ≤ 6 ∧ si_sl g >>> ((0 : Int32) &&& 31) = nI (wn g) ∧ si_sl g = nI (wn g) := by decide +kernel
theorem wc_tab : ∀ g, g < 8 → ∀ i, i < wn g → si_sb g (nI i) = some (wc g i) ∧ si_gn .char (si_i2c (wc g i &&& 255)) = some (wc g i) ∧ si_gn .char (wc g i) = some (wc g i) := by decide +kernel
theorem wc_J {F g i : Nat} {S : si_St} (hg : g < 8) (hi : i < wn g) : f_J0_charAt_5068e F g (nI i) S = some (wc g i, S) := by
  obtain ⟨h1, h2, h3⟩ := wc_tab g hg i hi
  obtain ⟨t1, t2, t3⟩ := wn_tab g hg
  have e1 : f_J0_isLatin1_aae02 F g S = some (1, S) := by
    unfold f_J0_isLatin1_aae02 f_J0_isLatin1_aae02_h18
    rw [if_neg (by decide), if_pos rfl, sm_bz1]
    rfl
  have e2 : f_J0_checkIndex_df160 F (nI i) (si_sl g) S = some S := by
    unfold f_J0_checkIndex_df160 f_J3_checkIndex_8e157
    rw [t3, if_neg (fun h => by
      have := nI_pos' (n := i) (by omega)
      rw [fa_lt] at h
      rw [fa_le] at this
      omega), if_pos (nI_lt hi (by omega))]
    rfl
  unfold f_J0_charAt_5068e f_J1_charAt_3b067
  rw [e1, Option.bind_some, if_neg (show ¬ (1 : Int32) = 0 by decide)]
  dsimp only
  rw [e2, Option.bind_some, h1, Option.bind_some, h2, Option.bind_some, Option.bind_some]
  dsimp only
  rw [h3, Option.bind_some]
/-- the token st .. en of kind kd is the word g -/
def wd (c : Nat → Nat) (st en kd g : Nat) : Prop := kd = 1 ∧ en - st = wn g ∧ ∀ i, i < wn g → bv (c (st + i)) = wc g i
