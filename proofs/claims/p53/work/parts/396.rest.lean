-- restoreSnapshot
def sn_RM (X : si_St) (t : Nat) : si_St := si_ps (si_ca (si_ps X 87 0 0) 111 (677 * t) 88 0 677) 87 41 0
theorem sn_RMo {X : si_St} {t r : Nat} (h : r ≠ 88) : (sn_RM X t).2.1 r = X.2.1 r := by
  unfold sn_RM
  exact sn_o h
theorem sn_RMi {X : si_St} {t i : Nat} (hi : i < 677) : (sn_RM X t).2.1 88 i = X.2.1 111 (677 * t + i) := by
  show (if 88 = 88 ∧ 0 ≤ i ∧ i < 0 + 677 then X.2.1 111 (677 * t + (i - 0)) else X.2.1 88 i) = _
  rw [if_pos ⟨rfl, by omega, by omega⟩, Nat.sub_zero]
def sn_RX0 (S : si_St) : si_St := si_ps (si_ps (sn_W (sn_V S 7 28) 16 37) 21 0 0) 21 1 0
theorem sn_RE0 {S : si_St} : iv_sE iv_xsV iv_xaV S (sn_RM (sn_RX0 S) 0) := by
  have h8 : ∀ j, 1 ≤ j → j ≤ 8 → 7 + j ∈ iv_xaV := fun j h1 h2 => by
    have : j = 1 ∨ j = 2 ∨ j = 3 ∨ j = 4 ∨ j = 5 ∨ j = 6 ∨ j = 7 ∨ j = 8 := by omega
    rcases this with rfl | rfl | rfl | rfl | rfl | rfl | rfl | rfl <;> decide
  have h4 : ∀ j, 1 ≤ j → j ≤ 4 → 16 + j ∈ iv_xaV := fun j h1 h2 => by
    have : j = 1 ∨ j = 2 ∨ j = 3 ∨ j = 4 := by omega
    rcases this with rfl | rfl | rfl | rfl <;> decide
  exact (((((((sn_VE (by decide) h8)).tr (sn_WE h4)).tr (iv_sE.ps (by decide))).tr (iv_sE.ps (by decide))).tr (iv_sE.of (iv_same.ps rfl))).tr (iv_sE.ca (by decide))).tr (iv_sE.ps (by decide))
theorem sn_RN0 {S : si_St} {u : Nat → Nat → Nat} (hu : u 3 0 ≤ 4) (hV : iv_view u (S.1 28 0) (fun j => S.2.1 (28 + j)) (fun j => S.2.1 (37 + j)) (fun i => S.2.1 111 i)) : iv_view u ((sn_RM (sn_RX0 S) 0).1 7 0) (fun j => (sn_RM (sn_RX0 S) 0).2.1 (7 + j)) (fun j => (sn_RM (sn_RX0 S) 0).2.1 (16 + j)) ((sn_RM (sn_RX0 S) 0).2.1 88) := by
  refine hV.eq hu (fun j i h1 h2 hi => ?_) (fun j i h1 h2 hi => ?_) (fun j i h1 h2 hi => ?_) (fun i hi => ?_)
  · show (sn_RM (sn_RX0 S) 0).2.1 (7 + j) i = S.2.1 (28 + j) i
    rw [sn_RMo (by omega)]
    show (sn_W (sn_V S 7 28) 16 37).2.1 (7 + j) i = _
    rw [sn_Wo (fun q _ _ => by omega)]
    exact sn_V1_7_28 h1 h2 hi
  · show (sn_RM (sn_RX0 S) 0).2.1 (7 + j) i = S.2.1 (28 + j) i
    rw [sn_RMo (by omega)]
    show (sn_W (sn_V S 7 28) 16 37).2.1 (7 + j) i = _
    rw [sn_Wo (fun q _ _ => by omega)]
    exact sn_V6_7_28 h1 h2 hi
  · show (sn_RM (sn_RX0 S) 0).2.1 (16 + j) i = S.2.1 (37 + j) i
    rw [sn_RMo (by omega)]
    show (sn_W (sn_V S 7 28) 16 37).2.1 (16 + j) i = _
    rw [sn_W16_37 h1 h2 hi, sn_Vo (fun q _ _ => by omega)]
  · rw [sn_RMi hi]
    show (sn_W (sn_V S 7 28) 16 37).2.1 111 (677 * 0 + i) = S.2.1 111 i
    rw [sn_Wo (fun q _ _ => by omega), sn_Vo (fun q _ _ => by omega), show 677 * 0 + i = i by omega]
def sn_RX1 (S : si_St) : si_St := si_ps (si_ps (sn_W (sn_V S 7 43) 16 52) 21 0 0) 21 1 0
theorem sn_RE1 {S : si_St} : iv_sE iv_xsV iv_xaV S (sn_RM (sn_RX1 S) 1) := by
  have h8 : ∀ j, 1 ≤ j → j ≤ 8 → 7 + j ∈ iv_xaV := fun j h1 h2 => by
    have : j = 1 ∨ j = 2 ∨ j = 3 ∨ j = 4 ∨ j = 5 ∨ j = 6 ∨ j = 7 ∨ j = 8 := by omega
    rcases this with rfl | rfl | rfl | rfl | rfl | rfl | rfl | rfl <;> decide
  have h4 : ∀ j, 1 ≤ j → j ≤ 4 → 16 + j ∈ iv_xaV := fun j h1 h2 => by
    have : j = 1 ∨ j = 2 ∨ j = 3 ∨ j = 4 := by omega
    rcases this with rfl | rfl | rfl | rfl <;> decide
  exact (((((((sn_VE (by decide) h8)).tr (sn_WE h4)).tr (iv_sE.ps (by decide))).tr (iv_sE.ps (by decide))).tr (iv_sE.of (iv_same.ps rfl))).tr (iv_sE.ca (by decide))).tr (iv_sE.ps (by decide))
theorem sn_RN1 {S : si_St} {u : Nat → Nat → Nat} (hu : u 3 0 ≤ 4) (hV : iv_view u (S.1 43 0) (fun j => S.2.1 (43 + j)) (fun j => S.2.1 (52 + j)) (fun i => S.2.1 111 (677 + i))) : iv_view u ((sn_RM (sn_RX1 S) 1).1 7 0) (fun j => (sn_RM (sn_RX1 S) 1).2.1 (7 + j)) (fun j => (sn_RM (sn_RX1 S) 1).2.1 (16 + j)) ((sn_RM (sn_RX1 S) 1).2.1 88) := by
  refine hV.eq hu (fun j i h1 h2 hi => ?_) (fun j i h1 h2 hi => ?_) (fun j i h1 h2 hi => ?_) (fun i hi => ?_)
  · show (sn_RM (sn_RX1 S) 1).2.1 (7 + j) i = S.2.1 (43 + j) i
    rw [sn_RMo (by omega)]
    show (sn_W (sn_V S 7 43) 16 52).2.1 (7 + j) i = _
    rw [sn_Wo (fun q _ _ => by omega)]
    exact sn_V1_7_43 h1 h2 hi
  · show (sn_RM (sn_RX1 S) 1).2.1 (7 + j) i = S.2.1 (43 + j) i
    rw [sn_RMo (by omega)]
    show (sn_W (sn_V S 7 43) 16 52).2.1 (7 + j) i = _
    rw [sn_Wo (fun q _ _ => by omega)]
    exact sn_V6_7_43 h1 h2 hi
  · show (sn_RM (sn_RX1 S) 1).2.1 (16 + j) i = S.2.1 (52 + j) i
    rw [sn_RMo (by omega)]
    show (sn_W (sn_V S 7 43) 16 52).2.1 (16 + j) i = _
    rw [sn_W16_52 h1 h2 hi, sn_Vo (fun q _ _ => by omega)]
  · rw [sn_RMi hi]
    show (sn_W (sn_V S 7 43) 16 52).2.1 111 (677 * 1 + i) = S.2.1 111 (677 + i)
    rw [sn_Wo (fun q _ _ => by omega), sn_Vo (fun q _ _ => by omega), show 677 * 1 + i = (677 + i) by omega]
