-- saveSnapshot: one step of both
theorem iv_slot.eq {u : Nat → Nat → Nat} {f f' g g' c c' : Int32} {va va' wa wa' : Nat → Nat → Int32} {nw nw' : Nat → Int32} (hu : u 3 0 ≤ 4) (hf : f' = f) (hg : g' = g) (hc : c' = c) (h1 : ∀ j i, 1 ≤ j → j ≤ 5 → i < 30 → va' j i = va j i) (h2 : ∀ j i, 6 ≤ j → j ≤ 8 → i < 240 → va' j i = va j i) (h3 : ∀ j i, 1 ≤ j → j ≤ 4 → i < 4 → wa' j i = wa j i) (h4 : ∀ i, i < 677 → nw' i = nw i) (h : iv_slot u f g c va wa nw) : iv_slot u f' g' c' va' wa' nw' := by
  subst hf hg hc
  rcases h with h | ⟨a, b, h⟩
  · exact Or.inl h
  · exact Or.inr ⟨a, b, h.eq hu h1 h2 h3 h4⟩
theorem sm_wz1 (S : si_St) (k : Nat) (i : Int32) : si_wz S k i 1 = si_wr S k i 1 := rfl
def sn_M (X : si_St) (t : Nat) : si_St := si_pa (si_ca (si_ps X 87 0 0) 88 0 111 (677 * t) 677) 112 t 1
theorem sn_Mo {X : si_St} {t r : Nat} (h : r ≠ 112) (h2 : r ≠ 111) : (sn_M X t).2.1 r = X.2.1 r := by
  unfold sn_M
  rw [sn_po h, sn_o h2]
  rfl
theorem sn_Mi {X : si_St} {t i : Nat} (hi : i < 677) : (sn_M X t).2.1 111 (677 * t + i) = X.2.1 88 i := by
  unfold sn_M
  rw [sn_po (by decide)]
  show (if 111 = 111 ∧ 677 * t ≤ 677 * t + i ∧ 677 * t + i < 677 * t + 677 then X.2.1 88 (0 + (677 * t + i - 677 * t)) else _) = _
  rw [if_pos ⟨rfl, by omega, by omega⟩, show 0 + (677 * t + i - 677 * t) = i by omega]
theorem sn_Mn {X : si_St} {t i : Nat} (hi : ¬ (677 * t ≤ i ∧ i < 677 * t + 677)) : (sn_M X t).2.1 111 i = X.2.1 111 i := by
  unfold sn_M
  rw [sn_po (by decide)]
  exact if_neg (fun h => hi h.2)
theorem sn_M8 {X : si_St} {t i : Nat} (hi : i ≠ t) : (sn_M X t).2.1 112 i = X.2.1 112 i := if_neg (fun h => hi h.2)
def sn_X0 (S : si_St) : si_St := si_ps (sn_W (sn_V S 28 7) 37 16) 27 2 1
theorem sn_Xo0 {S : si_St} {r : Nat} (h : ∀ j, 1 ≤ j → j ≤ 8 → r ≠ 28 + j) (h2 : ∀ j, 1 ≤ j → j ≤ 4 → r ≠ 37 + j) : (sn_X0 S).2.1 r = S.2.1 r := (sn_Wo h2).trans (sn_Vo h)
theorem sn_E0 {S : si_St} : iv_sE iv_xsS iv_xaS S (sn_M (sn_X0 S) 0) := by
  have h8 : ∀ j, 1 ≤ j → j ≤ 8 → 28 + j ∈ iv_xaS := fun j h1 h2 => by
    have : j = 1 ∨ j = 2 ∨ j = 3 ∨ j = 4 ∨ j = 5 ∨ j = 6 ∨ j = 7 ∨ j = 8 := by omega
    rcases this with rfl | rfl | rfl | rfl | rfl | rfl | rfl | rfl <;> decide
  have h4 : ∀ j, 1 ≤ j → j ≤ 4 → 37 + j ∈ iv_xaS := fun j h1 h2 => by
    have : j = 1 ∨ j = 2 ∨ j = 3 ∨ j = 4 := by omega
    rcases this with rfl | rfl | rfl | rfl <;> decide
  exact ((((((sn_VE (by decide) h8)).tr (sn_WE h4)).tr (iv_sE.ps (by decide))).tr (iv_sE.of (iv_same.ps rfl))).tr (iv_sE.ca (by decide))).tr (iv_sE.pa (by decide))
theorem sn_N0 {S : si_St} {u : Nat → Nat → Nat} (hu : u 3 0 ≤ 4) (hV : iv_view u (S.1 7 0) (fun j => S.2.1 (7 + j)) (fun j => S.2.1 (16 + j)) (S.2.1 88)) : iv_slot u ((sn_M (sn_X0 S) 0).1 27 2) ((sn_M (sn_X0 S) 0).2.1 112 0) ((sn_M (sn_X0 S) 0).1 28 0) (fun j => (sn_M (sn_X0 S) 0).2.1 (28 + j)) (fun j => (sn_M (sn_X0 S) 0).2.1 (37 + j)) (fun i => (sn_M (sn_X0 S) 0).2.1 111 i) := by
  refine (Or.inr ⟨rfl, rfl, hV.eq hu (fun j i h1 h2 hi => ?_) (fun j i h1 h2 hi => ?_) (fun j i h1 h2 hi => ?_) (fun i hi => ?_)⟩)
  · show (sn_M (sn_X0 S) 0).2.1 (28 + j) i = S.2.1 (7 + j) i
    rw [sn_Mo (by omega) (by omega)]
    show (sn_W (sn_V S 28 7) 37 16).2.1 (28 + j) i = _
    rw [sn_Wo (fun q _ _ => by omega)]
    exact sn_V1_28_7 h1 h2 hi
  · show (sn_M (sn_X0 S) 0).2.1 (28 + j) i = S.2.1 (7 + j) i
    rw [sn_Mo (by omega) (by omega)]
    show (sn_W (sn_V S 28 7) 37 16).2.1 (28 + j) i = _
    rw [sn_Wo (fun q _ _ => by omega)]
    exact sn_V6_28_7 h1 h2 hi
  · show (sn_M (sn_X0 S) 0).2.1 (37 + j) i = S.2.1 (16 + j) i
    rw [sn_Mo (by omega) (by omega)]
    show (sn_W (sn_V S 28 7) 37 16).2.1 (37 + j) i = _
    rw [sn_W37_16 h1 h2 hi, sn_Vo (fun q _ _ => by omega)]
  · have h9 := sn_Mi (X := sn_X0 S) (t := 0) hi
    rw [show 677 * 0 + i = i by omega] at h9
    exact h9.trans (congrFun (sn_Xo0 (fun q _ _ => by omega) (fun q _ _ => by omega)) i)
theorem sn_O0 {S : si_St} {u : Nat → Nat → Nat} (hu : u 3 0 ≤ 4) (hO : iv_slot u (S.1 42 2) (S.2.1 112 1) (S.1 43 0) (fun j => S.2.1 (43 + j)) (fun j => S.2.1 (52 + j)) (fun i => S.2.1 111 (677 + i))) : iv_slot u ((sn_M (sn_X0 S) 0).1 42 2) ((sn_M (sn_X0 S) 0).2.1 112 1) ((sn_M (sn_X0 S) 0).1 43 0) (fun j => (sn_M (sn_X0 S) 0).2.1 (43 + j)) (fun j => (sn_M (sn_X0 S) 0).2.1 (52 + j)) (fun i => (sn_M (sn_X0 S) 0).2.1 111 (677 + i)) := by
  refine (hO.eq hu rfl (sn_M8 (by decide)) rfl (fun j i h1 h2 hi => ?_) (fun j i h1 h2 hi => ?_) (fun j i h1 h2 hi => ?_) (fun i hi => ?_))
  · exact congrFun ((sn_Mo (by omega) (by omega)).trans (sn_Xo0 (fun q _ _ => by omega) (fun q _ _ => by omega))) i
  · exact congrFun ((sn_Mo (by omega) (by omega)).trans (sn_Xo0 (fun q _ _ => by omega) (fun q _ _ => by omega))) i
  · exact congrFun ((sn_Mo (by omega) (by omega)).trans (sn_Xo0 (fun q _ _ => by omega) (fun q _ _ => by omega))) i
  · exact (sn_Mn (X := sn_X0 S) (t := 0) (i := 677 + i) (by omega)).trans (congrFun (sn_Xo0 (fun q _ _ => by omega) (fun q _ _ => by omega)) _)
def sn_X1 (S : si_St) : si_St := si_ps (sn_W (sn_V S 43 7) 52 16) 42 2 1
theorem sn_Xo1 {S : si_St} {r : Nat} (h : ∀ j, 1 ≤ j → j ≤ 8 → r ≠ 43 + j) (h2 : ∀ j, 1 ≤ j → j ≤ 4 → r ≠ 52 + j) : (sn_X1 S).2.1 r = S.2.1 r := (sn_Wo h2).trans (sn_Vo h)
theorem sn_E1 {S : si_St} : iv_sE iv_xsS iv_xaS S (sn_M (sn_X1 S) 1) := by
  have h8 : ∀ j, 1 ≤ j → j ≤ 8 → 43 + j ∈ iv_xaS := fun j h1 h2 => by
    have : j = 1 ∨ j = 2 ∨ j = 3 ∨ j = 4 ∨ j = 5 ∨ j = 6 ∨ j = 7 ∨ j = 8 := by omega
    rcases this with rfl | rfl | rfl | rfl | rfl | rfl | rfl | rfl <;> decide
  have h4 : ∀ j, 1 ≤ j → j ≤ 4 → 52 + j ∈ iv_xaS := fun j h1 h2 => by
    have : j = 1 ∨ j = 2 ∨ j = 3 ∨ j = 4 := by omega
    rcases this with rfl | rfl | rfl | rfl <;> decide
  exact ((((((sn_VE (by decide) h8)).tr (sn_WE h4)).tr (iv_sE.ps (by decide))).tr (iv_sE.of (iv_same.ps rfl))).tr (iv_sE.ca (by decide))).tr (iv_sE.pa (by decide))
theorem sn_N1 {S : si_St} {u : Nat → Nat → Nat} (hu : u 3 0 ≤ 4) (hV : iv_view u (S.1 7 0) (fun j => S.2.1 (7 + j)) (fun j => S.2.1 (16 + j)) (S.2.1 88)) : iv_slot u ((sn_M (sn_X1 S) 1).1 42 2) ((sn_M (sn_X1 S) 1).2.1 112 1) ((sn_M (sn_X1 S) 1).1 43 0) (fun j => (sn_M (sn_X1 S) 1).2.1 (43 + j)) (fun j => (sn_M (sn_X1 S) 1).2.1 (52 + j)) (fun i => (sn_M (sn_X1 S) 1).2.1 111 (677 + i)) := by
  refine (Or.inr ⟨rfl, rfl, hV.eq hu (fun j i h1 h2 hi => ?_) (fun j i h1 h2 hi => ?_) (fun j i h1 h2 hi => ?_) (fun i hi => ?_)⟩)
  · show (sn_M (sn_X1 S) 1).2.1 (43 + j) i = S.2.1 (7 + j) i
    rw [sn_Mo (by omega) (by omega)]
    show (sn_W (sn_V S 43 7) 52 16).2.1 (43 + j) i = _
    rw [sn_Wo (fun q _ _ => by omega)]
    exact sn_V1_43_7 h1 h2 hi
  · show (sn_M (sn_X1 S) 1).2.1 (43 + j) i = S.2.1 (7 + j) i
    rw [sn_Mo (by omega) (by omega)]
    show (sn_W (sn_V S 43 7) 52 16).2.1 (43 + j) i = _
    rw [sn_Wo (fun q _ _ => by omega)]
    exact sn_V6_43_7 h1 h2 hi
  · show (sn_M (sn_X1 S) 1).2.1 (52 + j) i = S.2.1 (16 + j) i
    rw [sn_Mo (by omega) (by omega)]
    show (sn_W (sn_V S 43 7) 52 16).2.1 (52 + j) i = _
    rw [sn_W52_16 h1 h2 hi, sn_Vo (fun q _ _ => by omega)]
  · have h9 := sn_Mi (X := sn_X1 S) (t := 1) hi
    rw [show 677 * 1 + i = 677 + i by omega] at h9
    exact h9.trans (congrFun (sn_Xo1 (fun q _ _ => by omega) (fun q _ _ => by omega)) i)
theorem sn_O1 {S : si_St} {u : Nat → Nat → Nat} (hu : u 3 0 ≤ 4) (hO : iv_slot u (S.1 27 2) (S.2.1 112 0) (S.1 28 0) (fun j => S.2.1 (28 + j)) (fun j => S.2.1 (37 + j)) (fun i => S.2.1 111 i)) : iv_slot u ((sn_M (sn_X1 S) 1).1 27 2) ((sn_M (sn_X1 S) 1).2.1 112 0) ((sn_M (sn_X1 S) 1).1 28 0) (fun j => (sn_M (sn_X1 S) 1).2.1 (28 + j)) (fun j => (sn_M (sn_X1 S) 1).2.1 (37 + j)) (fun i => (sn_M (sn_X1 S) 1).2.1 111 i) := by
  refine (hO.eq hu rfl (sn_M8 (by decide)) rfl (fun j i h1 h2 hi => ?_) (fun j i h1 h2 hi => ?_) (fun j i h1 h2 hi => ?_) (fun i hi => ?_))
  · exact congrFun ((sn_Mo (by omega) (by omega)).trans (sn_Xo1 (fun q _ _ => by omega) (fun q _ _ => by omega))) i
  · exact congrFun ((sn_Mo (by omega) (by omega)).trans (sn_Xo1 (fun q _ _ => by omega) (fun q _ _ => by omega))) i
  · exact congrFun ((sn_Mo (by omega) (by omega)).trans (sn_Xo1 (fun q _ _ => by omega) (fun q _ _ => by omega))) i
  · exact (sn_Mn (X := sn_X1 S) (t := 1) (i := i) (by omega)).trans (congrFun (sn_Xo1 (fun q _ _ => by omega) (fun q _ _ => by omega)) _)
