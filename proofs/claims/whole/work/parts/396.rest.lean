-- restoreSnapshot
def sn_RM (X : si_St) (t : Nat) : si_St := si_ps (si_ca (si_ps X 87 0 0) 111 (677 * t) 88 0 677) 87 41 0
theorem sm_mrest {F t : Nat} {X : si_St} (ht : t < 2) (hF : 678 ≤ F) (h1 : X.2.1 112 t = 1) : f_X10_restoreSnapshot F (nI t) X = some (1, sn_RM X t) := by
  have e : (1 : Int64) = Int32.toInt64 (nI 2 - 1) := by decide
  unfold f_X10_restoreSnapshot
  rw [sm_pt, Option.bind_some, e, sm_has (by decide), if_pos (sm_in ht (by decide))]
  show Option.bind (si_rd (si_ps X 87 0 0) 112 (nI t)) _ = _
  rw [sm_rd (show t < 2 from ht) (by decide)]
  show (if X.2.1 112 t = 0 then _ else Option.bind (f_X10_copies F 111 88 (nI 677 * nI t) (nI 0) (nI 677) (si_ps X 87 0 0)) _) = _
  rw [h1, if_neg (by decide), sm_mul, sm_copies (by decide) (show 677 * t + 677 ≤ 1354 by omega) (by decide) (by decide) (by decide) (by omega), Option.bind_some, sm_pt]
  rfl
theorem sm_mrest0 {F t : Nat} {X : si_St} (ht : t < 2) (h1 : X.2.1 112 t = 0) : f_X10_restoreSnapshot F (nI t) X = some (0, si_ps X 87 0 0) := by
  have e : (1 : Int64) = Int32.toInt64 (nI 2 - 1) := by decide
  unfold f_X10_restoreSnapshot f_X10_restoreSnapshot_h24
  rw [sm_pt, Option.bind_some, e, sm_has (by decide), if_pos (sm_in ht (by decide))]
  show Option.bind (si_rd (si_ps X 87 0 0) 112 (nI t)) _ = _
  rw [sm_rd (show t < 2 from ht) (by decide)]
  show (if X.2.1 112 t = 0 then _ else _) = _
  rw [h1, if_pos rfl]
  rfl
theorem sn_RMo {X : si_St} {t r : Nat} (h : r ≠ 88) : (sn_RM X t).2.1 r = X.2.1 r := by
  unfold sn_RM
  exact sn_o h
theorem sn_RMi {X : si_St} {t i : Nat} (hi : i < 677) : (sn_RM X t).2.1 88 i = X.2.1 111 (677 * t + i) := by
  show (if 88 = 88 ∧ 0 ≤ i ∧ i < 0 + 677 then X.2.1 111 (677 * t + (i - 0)) else X.2.1 88 i) = _
  rw [if_pos ⟨rfl, by omega, by omega⟩, Nat.sub_zero]
def sn_RX0 (S : si_St) : si_St := si_ps (si_ps (sn_W (sn_V S 7 28) 16 37) 21 0 0) 21 1 0
theorem sn_RE0 {S : si_St} : iv_sE iv_xsV iv_xaV S (sn_RM (sn_RX0 S) 0) := by
  have h8 : ∀ j, 1 ≤ j → j ≤ 8 → 7 + j ∈ iv_xaV := fun j h1 h2 => by
    have : j = 1 ∨ j = 2 ∨ j = 3 ∨ j = 4 ∨ j = 5 ∨ j = 6 ∨ j = 7 ∨ j = 8 := by omega
    rcases this with rfl | rfl | rfl | rfl | rfl | rfl | rfl | rfl <;> decide
  have h4 : ∀ j, 1 ≤ j → j ≤ 4 → 16 + j ∈ iv_xaV := fun j h1 h2 => by
    have : j = 1 ∨ j = 2 ∨ j = 3 ∨ j = 4 := by omega
    rcases this with rfl | rfl | rfl | rfl <;> decide
  exact (((((((sn_VE (by decide) h8)).tr (sn_WE h4)).tr (iv_sE.ps (by decide))).tr (iv_sE.ps (by decide))).tr (iv_sE.of (iv_same.ps rfl))).tr (iv_sE.ca (by decide))).tr (iv_sE.ps (by decide))
theorem sn_RN0 {S : si_St} {u : Nat → Nat → Nat} (hu : u 3 0 ≤ 4) (hV : iv_view u (S.1 28 0) (fun j => S.2.1 (28 + j)) (fun j => S.2.1 (37 + j)) (fun i => S.2.1 111 i)) : iv_view u ((sn_RM (sn_RX0 S) 0).1 7 0) (fun j => (sn_RM (sn_RX0 S) 0).2.1 (7 + j)) (fun j => (sn_RM (sn_RX0 S) 0).2.1 (16 + j)) ((sn_RM (sn_RX0 S) 0).2.1 88) := by
  refine hV.eq hu (fun j i h1 h2 hi => ?_) (fun j i h1 h2 hi => ?_) (fun j i h1 h2 hi => ?_) (fun i hi => ?_)
  · show (sn_RM (sn_RX0 S) 0).2.1 (7 + j) i = S.2.1 (28 + j) i
    rw [sn_RMo (by omega)]
    show (sn_W (sn_V S 7 28) 16 37).2.1 (7 + j) i = _
    rw [sn_Wo (fun q _ _ => by omega)]
    exact sn_V1_7_28 h1 h2 hi
  · show (sn_RM (sn_RX0 S) 0).2.1 (7 + j) i = S.2.1 (28 + j) i
    rw [sn_RMo (by omega)]
    show (sn_W (sn_V S 7 28) 16 37).2.1 (7 + j) i = _
    rw [sn_Wo (fun q _ _ => by omega)]
    exact sn_V6_7_28 h1 h2 hi
  · show (sn_RM (sn_RX0 S) 0).2.1 (16 + j) i = S.2.1 (37 + j) i
    rw [sn_RMo (by omega)]
    show (sn_W (sn_V S 7 28) 16 37).2.1 (16 + j) i = _
    rw [sn_W16_37 h1 h2 hi, sn_Vo (fun q _ _ => by omega)]
  · rw [sn_RMi hi]
    show (sn_W (sn_V S 7 28) 16 37).2.1 111 (677 * 0 + i) = S.2.1 111 i
    rw [sn_Wo (fun q _ _ => by omega), sn_Vo (fun q _ _ => by omega), show 677 * 0 + i = i by omega]
theorem sm_xrest0 {F : Nat} {S : si_St} (h : S.1 27 2 = 1) : f_X9_restoreSnapshot F (nI 0) S = some (1, sn_RX0 S) := by
  unfold f_X9_restoreSnapshot f_X9_slotAt f_X9_slotAt_h15
  have e : (nI 0 = 0) = True := by decide
  have h4 : ¬ ¬ si_kd 27 = 4 := by decide
  simp only [e, if_true, if_false, Option.bind_some]
  rw [if_neg (by decide), if_neg (by decide), if_neg h4, h, if_neg (by decide), if_neg h4, sm_cV_7_28, Option.bind_some, if_neg h4, sm_cW_16_37, Option.bind_some]
  rfl
theorem sm_xrest0n {F : Nat} {S : si_St} (h : S.1 27 2 = 0) : f_X9_restoreSnapshot F (nI 0) S = some (0, S) := by
  unfold f_X9_restoreSnapshot f_X9_restoreSnapshot_h20 f_X9_slotAt f_X9_slotAt_h15
  have e : (nI 0 = 0) = True := by decide
  have h4 : ¬ ¬ si_kd 27 = 4 := by decide
  simp only [e, if_true, if_false, Option.bind_some]
  rw [if_neg (by decide), if_neg (by decide), if_neg h4, h, if_pos rfl]
  rfl
def sn_RX1 (S : si_St) : si_St := si_ps (si_ps (sn_W (sn_V S 7 43) 16 52) 21 0 0) 21 1 0
theorem sn_RE1 {S : si_St} : iv_sE iv_xsV iv_xaV S (sn_RM (sn_RX1 S) 1) := by
  have h8 : ∀ j, 1 ≤ j → j ≤ 8 → 7 + j ∈ iv_xaV := fun j h1 h2 => by
    have : j = 1 ∨ j = 2 ∨ j = 3 ∨ j = 4 ∨ j = 5 ∨ j = 6 ∨ j = 7 ∨ j = 8 := by omega
    rcases this with rfl | rfl | rfl | rfl | rfl | rfl | rfl | rfl <;> decide
  have h4 : ∀ j, 1 ≤ j → j ≤ 4 → 16 + j ∈ iv_xaV := fun j h1 h2 => by
    have : j = 1 ∨ j = 2 ∨ j = 3 ∨ j = 4 := by omega
    rcases this with rfl | rfl | rfl | rfl <;> decide
  exact (((((((sn_VE (by decide) h8)).tr (sn_WE h4)).tr (iv_sE.ps (by decide))).tr (iv_sE.ps (by decide))).tr (iv_sE.of (iv_same.ps rfl))).tr (iv_sE.ca (by decide))).tr (iv_sE.ps (by decide))
theorem sn_RN1 {S : si_St} {u : Nat → Nat → Nat} (hu : u 3 0 ≤ 4) (hV : iv_view u (S.1 43 0) (fun j => S.2.1 (43 + j)) (fun j => S.2.1 (52 + j)) (fun i => S.2.1 111 (677 + i))) : iv_view u ((sn_RM (sn_RX1 S) 1).1 7 0) (fun j => (sn_RM (sn_RX1 S) 1).2.1 (7 + j)) (fun j => (sn_RM (sn_RX1 S) 1).2.1 (16 + j)) ((sn_RM (sn_RX1 S) 1).2.1 88) := by
  refine hV.eq hu (fun j i h1 h2 hi => ?_) (fun j i h1 h2 hi => ?_) (fun j i h1 h2 hi => ?_) (fun i hi => ?_)
  · show (sn_RM (sn_RX1 S) 1).2.1 (7 + j) i = S.2.1 (43 + j) i
    rw [sn_RMo (by omega)]
    show (sn_W (sn_V S 7 43) 16 52).2.1 (7 + j) i = _
    rw [sn_Wo (fun q _ _ => by omega)]
    exact sn_V1_7_43 h1 h2 hi
  · show (sn_RM (sn_RX1 S) 1).2.1 (7 + j) i = S.2.1 (43 + j) i
    rw [sn_RMo (by omega)]
    show (sn_W (sn_V S 7 43) 16 52).2.1 (7 + j) i = _
    rw [sn_Wo (fun q _ _ => by omega)]
    exact sn_V6_7_43 h1 h2 hi
  · show (sn_RM (sn_RX1 S) 1).2.1 (16 + j) i = S.2.1 (52 + j) i
    rw [sn_RMo (by omega)]
    show (sn_W (sn_V S 7 43) 16 52).2.1 (16 + j) i = _
    rw [sn_W16_52 h1 h2 hi, sn_Vo (fun q _ _ => by omega)]
  · rw [sn_RMi hi]
    show (sn_W (sn_V S 7 43) 16 52).2.1 111 (677 * 1 + i) = S.2.1 111 (677 + i)
    rw [sn_Wo (fun q _ _ => by omega), sn_Vo (fun q _ _ => by omega), show 677 * 1 + i = (677 + i) by omega]
theorem sm_xrest1 {F : Nat} {S : si_St} (h : S.1 42 2 = 1) : f_X9_restoreSnapshot F (nI 1) S = some (1, sn_RX1 S) := by
  unfold f_X9_restoreSnapshot f_X9_slotAt f_X9_slotAt_h15
  have e : (nI 1 = 0) = False := by decide
  have h4 : ¬ ¬ si_kd 42 = 4 := by decide
  simp only [e, if_true, if_false, Option.bind_some]
  rw [if_neg (by decide), if_neg (by decide), if_neg h4, h, if_neg (by decide), if_neg h4, sm_cV_7_43, Option.bind_some, if_neg h4, sm_cW_16_52, Option.bind_some]
  rfl
theorem sm_xrest1n {F : Nat} {S : si_St} (h : S.1 42 2 = 0) : f_X9_restoreSnapshot F (nI 1) S = some (0, S) := by
  unfold f_X9_restoreSnapshot f_X9_restoreSnapshot_h20 f_X9_slotAt f_X9_slotAt_h15
  have e : (nI 1 = 0) = False := by decide
  have h4 : ¬ ¬ si_kd 42 = 4 := by decide
  simp only [e, if_true, if_false, Option.bind_some]
  rw [if_neg (by decide), if_neg (by decide), if_neg h4, h, if_pos rfl]
  rfl
theorem st_restoreSnapshot {F : Nat} {x : Int32} (hF : 678 ≤ F) : st_ok (f_X9_restoreSnapshot F x) (f_X10_restoreSnapshot F x) := by
  intro S h
  obtain ⟨u, mk, hmk, hat⟩ := id h
  obtain ⟨g0, g1, g2, g3, g4, g5, g6, g7, g8, g9, g10, g11⟩ := id hat
  have hu := g0.2.2.2.1
  have hm : mk = 69 ∨ mk = 78 := hmk.imp (fun h => h.1) (fun h => h.1)
  rcases sm_cases x 2 (by decide) with ⟨t, ht, rfl⟩ | hno
  · have : t = 0 ∨ t = 1 := by omega
    rcases this with rfl | rfl
    · rcases g9 with ⟨f0, m0⟩ | ⟨f1, m1, hv⟩
      · exact ⟨0, S, si_ps S 87 0 0, sm_xrest0n f0, sm_mrest0 (by decide) m0, h.go (iv_th S)⟩
      · refine ⟨1, sn_RX0 S, sn_RM (sn_RX0 S) 0, sm_xrest0 f1, sm_mrest (by decide) hF ?_, u, mk, hmk.go sn_RE0, iv_at.goV hm hat sn_RE0 (sn_RN0 hu hv) ⟨0, 0, by decide, by decide, rfl, rfl, rfl, trivial⟩⟩
        exact (congrFun ((sn_Wo (fun q _ _ => by omega)).trans (sn_Vo (fun q _ _ => by omega))) 0).trans m1
    · rcases g10 with ⟨f0, m0⟩ | ⟨f1, m1, hv⟩
      · exact ⟨0, S, si_ps S 87 0 0, sm_xrest1n f0, sm_mrest0 (by decide) m0, h.go (iv_th S)⟩
      · refine ⟨1, sn_RX1 S, sn_RM (sn_RX1 S) 1, sm_xrest1 f1, sm_mrest (by decide) hF ?_, u, mk, hmk.go sn_RE1, iv_at.goV hm hat sn_RE1 (sn_RN1 hu hv) ⟨0, 0, by decide, by decide, rfl, rfl, rfl, trivial⟩⟩
        exact (congrFun ((sn_Wo (fun q _ _ => by omega)).trans (sn_Vo (fun q _ _ => by omega))) 1).trans m1
  · refine ⟨0, S, si_ps S 87 0 0, ?_, ?_, h.go (iv_th S)⟩
    · unfold f_X9_restoreSnapshot f_X9_restoreSnapshot_h20
      by_cases h1 : x < 0
      · rw [if_pos h1]; rfl
      · have h2 : (2 : Int32) ≤ x := fa_of_nlt (fun h2 => hno ⟨sm_nneg h1, h2⟩)
        rw [if_neg h1, if_pos h2]; rfl
    · have e : (1 : Int64) = Int32.toInt64 (nI 2 - 1) := by decide
      unfold f_X10_restoreSnapshot
      rw [sm_pt, Option.bind_some, e, sm_has (by decide), if_neg hno]
      rfl
