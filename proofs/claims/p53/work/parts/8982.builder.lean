-- THE BUILDER: its text T, in the first bytes of its row
def bd (S : si_St) (T : List Nat) : Prop := (sd_ok S 87 ∧ sd_ok S 88) ∧ (S.1 87 0 ≠ 0 ∧ S.1 87 1 = 0 ∧ S.1 87 3 = nI T.length) ∧ (T.length ≤ sd_ln S 88 ∧ sd_ln S 88 ≤ 1000) ∧ (∀ i, i < T.length → S.2.1 88 i = nI (T.getD i 0)) ∧ (∀ t ∈ T, t < 128) ∧ (∀ i, fits .byte (.int (S.2.1 88 i)) = true) ∧ (S.2.2.2 0 < 87 ∧ S.2.2.2 1 < 87)
theorem bd_fit {n : Nat} (h : n < 128) : fits .byte (.int (nI n)) = true := by
  have key : ∀ n, n < 128 → fits .byte (.int (nI n)) = true := by decide +kernel
  exact key n h
theorem bd_sub_le {q m : Nat} (hq : q < 2 ^ 30) (hm : m < 2 ^ 30) : (nI q - nI m ≤ 0) ↔ q ≤ m := by
  rw [Int32.le_iff_toInt_le, pk_sub_toInt hq hm, Int32.toInt_zero]
  omega
theorem bd_max {a b : Nat} (ha : a < 2 ^ 31) (hb : b < 2 ^ 31) : si_max (nI a) (nI b) = nI (if a < b then b else a) := by
  show (if nI a < nI b then nI b else nI a) = _
  by_cases h : a < b
  · rw [if_pos (nI_lt h hb), if_pos h]
  · rw [if_neg (nI_nlt (Nat.le_of_not_lt h) ha), if_neg h]
theorem bd_min {a b : Nat} (ha : a < 2 ^ 31) (hb : b < 2 ^ 31) : si_min (nI a) (nI b) = nI (if b < a then b else a) := by
  show (if nI b < nI a then nI b else nI a) = _
  by_cases h : b < a
  · rw [if_pos (nI_lt h ha), if_pos h]
  · rw [if_neg (nI_nlt (Nat.le_of_not_lt h) hb), if_neg h]
def bd_cap (q m : Nat) : Nat := m + (if q - m < m + 2 then m + 2 else q - m)
theorem bd_ncap {F q : Nat} {S : si_St} (o87 : sd_ok S 87) (o88 : sd_ok S 88) (f0 : S.1 87 0 ≠ 0) (f1 : S.1 87 1 = 0) (hm : sd_ln S 88 ≤ 1000) (hq : sd_ln S 88 < q) (hq2 : q ≤ 450) : f_J5_newCapacity_0f7a4 F (nI q) S = some (nI (bd_cap q (sd_ln S 88)), S) := by
  obtain ⟨m, hme⟩ : ∃ m, m = sd_ln S 88 := ⟨_, rfl⟩
  have e1 : nI m + (2 : Int32) = nI (m + 2) := nI_add m 2
  have hb : bd_cap q m ≤ 1400 := by unfold bd_cap; split <;> omega
  have hb0 : 0 < bd_cap q m := by unfold bd_cap; split <;> omega
  have e2 : nI m + si_max (nI (q - m)) (nI (m + 2)) = nI (bd_cap q m) := by
    rw [bd_max (by omega) (by omega), nI_add]
    rfl
  unfold f_J5_newCapacity_0f7a4 f_J5_newCapacity_0f7a4_h0
  rw [if_neg (not_not_intro ⟨o87, f0⟩), dr_al o88, Option.bind_some, dr_gi o87, Option.bind_some, f1, sb_shl0, Option.bind_some, ← hme, pk_sub (by omega), Option.bind_some, Option.bind_some, sb_shl0, e1]
  unfold f_J8_newLength_cabcc
  rw [e2, Option.bind_some, if_neg (nI_nle hb0 (by omega)), if_neg (show ¬ (2147483639 : Int32) < nI (bd_cap q m) from (nI_nlt (by omega) (by decide) : ¬ nI 2147483639 < nI (bd_cap q m))), Option.bind_some]
  dsimp only
  rw [if_neg (show ¬ nI (bd_cap q m) = (2147483647 : Int32) from fun (h : nI (bd_cap q m) = nI 2147483647) => by have := (nI_eq (by omega) (by decide)).mp h; omega), dr_gi o87, Option.bind_some, f1, sb_shr0]
theorem bd_copy {F n : Nat} {S : si_St} (o88 : sd_ok S 88) (hs : S.2.2.2 0 < 87 ∧ S.2.2.2 1 < 87) (hm : sd_ln S 88 < n) (hn : n ≤ 100000) (hfit : ∀ i, fits .byte (.int (S.2.1 88 i)) = true) : f_J7_copyOf_9075b F (nI n) S = some (sd_ca (sd_mkA S 100 n) (S.2.1 88) 100 0 0 (sd_ln S 88)) := by
  obtain ⟨m, hme⟩ : ∃ m, m = sd_ln S 88 := ⟨_, rfl⟩
  have hfr : sd_frb S 100 = true := dr_frb (by decide) (by decide) hs ⟨by omega, by omega, by omega, by omega, by omega, by omega⟩
  unfold f_J7_copyOf_9075b f_J7_copyOf_9075b_h0
  rw [dr_al o88, Option.bind_some, if_neg (fun h => by have := (nI_eq (by omega) (by omega)).mp h; omega), dr_na hfr hn, Option.bind_some]
  unfold f_J7_copyOf_9075b_h17
  have o88' : sd_ok (sd_mkA S 100 n) 88 := (dn.mkA (C := [100]) (S := S) (n := n) (by decide) (by decide) (by decide)).ok (by decide) o88
  have l88 : sd_ln (sd_mkA S 100 n) 88 = m := ((dn.mkA (C := [100]) (S := S) (k := 100) (n := n) (by decide) (by decide) (by decide)).2.2.1 88 (by decide) (by decide)).1.trans hme.symm
  have r88 : (sd_mkA S 100 n).2.1 88 = S.2.1 88 := rfl
  have hmin : si_min (nI m) (nI n) = nI m := by rw [bd_min (by omega) (by omega), if_neg (by omega)]
  rw [dr_al o88', Option.bind_some, l88, hmin]
  have hc : sd_cp (sd_mkA S 100 n) 88 0 100 0 (nI m) = some (sd_ca (sd_mkA S 100 n) (S.2.1 88) 100 0 0 m) := by
    unfold sd_cp
    rw [nI_clamp (n := m) (by omega), l88, sd_mkA_ln, r88]
    refine if_pos ⟨o88', dr_lv_mkA (by decide) (by decide), by decide, by decide, nI_pos (by omega), by show 0 + m ≤ m; omega, by show 0 + m ≤ n; omega, ?_⟩
    exact List.all_eq_true.mpr (fun i _ => hfit _)
  rw [hc, Option.bind_some, hme]
theorem bd_ensure {F q : Nat} {S : si_St} {T : List Nat} (h : bd S T) (hT : T.length ≤ 400) (hq : q ≤ 450) : ∃ S', f_J5_ensureCapacityInternal_d00df F (nI q) S = some S' ∧ bd S' T ∧ q ≤ sd_ln S' 88 ∧ dn [87, 88, 100] 1 1000 S S' := by
  have hb := h
  obtain ⟨⟨o87, o88⟩, ⟨f0, f1, f3⟩, ⟨l1, l2⟩, hr, ht, hfit, hs⟩ := h
  unfold f_J5_ensureCapacityInternal_d00df f_J5_ensureCapacityInternal_d00df_h0
  rw [if_neg (not_not_intro ⟨o87, f0⟩), dr_al o88, Option.bind_some, dr_gi o87, Option.bind_some, f1, sb_shr0, Option.bind_some]
  by_cases hc : q ≤ sd_ln S 88
  · rw [if_pos ((bd_sub_le (by omega) (by omega)).mpr hc)]
    exact ⟨S, rfl, hb, hc, dn.rf.mo (fun _ h => h) (by omega) (by omega)⟩
  · rw [if_neg (fun h => hc ((bd_sub_le (by omega) (by omega)).mp h)), if_neg (not_not_intro ⟨o87, f0⟩), if_neg (not_not_intro o87), bd_ncap o87 o88 f0 f1 l2 (by omega) hq, Option.bind_some]
    obtain ⟨n, hn⟩ : ∃ n, n = bd_cap q (sd_ln S 88) := ⟨_, rfl⟩
    have hn1 : sd_ln S 88 < n ∧ q ≤ n ∧ n ≤ 1000 := by
      rw [hn]
      unfold bd_cap
      split <;> omega
    unfold f_J5_ensureCapacityInternal_d00df_h27
    dsimp only
    rw [dr_gi o87, Option.bind_some, f1, sb_shl0, ← hn, bd_copy o88 hs hn1.1 (by omega) hfit, Option.bind_some]
    unfold f_J5_ensureCapacityInternal_d00df_h35 f_J5_ensureCapacityInternal_d00df_h38
    obtain ⟨S1, hS1⟩ : ∃ S1, S1 = sd_ca (sd_mkA S 100 n) (S.2.1 88) 100 0 0 (sd_ln S 88) := ⟨_, rfl⟩
    have d1 : dn [100] 1 n S S1 := by
      rw [hS1]
      exact ((dn.mkA (by decide) (by decide) (by decide)).tr (dn.ca (by decide))).up (by omega) (by omega)
    have p87 := d1.ok (by decide) o87
    have p88 := d1.ok (by decide) o88
    have p100 : sd_ok S1 100 := by
      rw [hS1]
      exact dr_lv_mkA (S := S) (n := n) (by decide) (by decide)
    have g0 : S1.1 87 0 ≠ 0 := by rw [(d1.1 87 (by decide)).1 0]; exact f0
    have gr := d1.2.1 (by decide)
    have hgw : sd_gw S1 = some (sd_rn S1) := if_pos ⟨p87, p88, p100, g0, by rw [gr.1]; exact hs.1, by rw [gr.2]; exact hs.2⟩
    rw [← hS1, hgw, Option.bind_some]
    have d2 : dn [87, 88, 100] 1 1000 S (sd_rn S1) := ((d1.mo (fun k hk => by simp at hk; simp [hk]) (Nat.le_refl _) (Nat.le_refl _)).tr (dn.rn (C := [87, 88, 100]) (by decide) (by decide))).up (by omega) (by omega)
    have l100 : sd_ln S1 100 = n := by rw [hS1]; exact sd_mkA_ln
    have lr : sd_ln (sd_rn S1) 88 = n := (show sd_ln (sd_rn S1) 88 = sd_ln S1 100 from rfl).trans l100
    have r100 : ∀ i, (sd_rn S1).2.1 88 i = if i < sd_ln S 88 then S.2.1 88 i else 0 := fun i => by
      show S1.2.1 100 i = _
      rw [hS1]
      show (if 100 = 100 ∧ 0 ≤ i ∧ i < 0 + sd_ln S 88 then S.2.1 88 (0 + (i - 0)) else (if 100 = 100 then (0 : Int32) else S.2.1 100 i)) = _
      by_cases hi : i < sd_ln S 88
      · rw [if_pos ⟨rfl, Nat.zero_le _, by omega⟩, if_pos hi, Nat.zero_add, Nat.sub_zero]
      · rw [if_neg (fun h => hi (by omega)), if_neg hi, if_pos rfl]
    refine ⟨sd_rn S1, rfl, ⟨⟨⟨by decide, by decide, p87.2.2⟩, ⟨by decide, by decide, p88.2.2⟩⟩, ⟨g0, ?_, ?_⟩, ⟨by omega, by omega⟩, fun i hi => ?_, ht, fun i => ?_, ?_⟩, by omega, d2⟩
    · exact ((d1.1 87 (by decide)).1 1).trans f1
    · exact ((d1.1 87 (by decide)).1 3).trans f3
    · rw [r100, if_pos (by omega)]
      exact hr i hi
    · rw [r100]
      split
      · exact hfit i
      · rfl
    · exact ⟨by show S1.2.2.2 0 < 87; rw [gr.1]; exact hs.1, by show S1.2.2.2 1 < 87; rw [gr.2]; exact hs.2⟩
theorem bd_isLatin {F : Nat} {S : si_St} (o87 : sd_ok S 87) (f1 : S.1 87 1 = 0) : f_J5_isLatin1_aae02 F S = some (1, S) := by
  unfold f_J5_isLatin1_aae02 f_J5_isLatin1_aae02_h0 f_J5_isLatin1_aae02_h18
  rw [if_neg (by decide), dr_gi o87, Option.bind_some, f1, if_pos rfl]
  rfl
theorem bd_i2b {c : Nat} (h : c < 128) : vp_nar .byte (si_i2b (nI c)) = nI c := by
  have key : ∀ c, c < 128 → vp_nar .byte (si_i2b (nI c)) = nI c := by decide +kernel
  exact key c h
theorem bd_getD_app {T : List Nat} {c i : Nat} (h : i < T.length + 1) : (T ++ [c]).getD i 0 = if i = T.length then c else T.getD i 0 := by
  by_cases hi : i = T.length
  · rw [if_pos hi, hi, List.getD_eq_getElem?_getD, List.getElem?_append_right (Nat.le_refl _), Nat.sub_self]
    rfl
  · rw [if_neg hi, List.getD_eq_getElem?_getD, List.getElem?_append_left (by omega), List.getD_eq_getElem?_getD]
theorem bd_char {F c : Nat} {S : si_St} {T : List Nat} (h : bd S T) (hT : T.length ≤ 400) (hc : c < 128) : ∃ S', f_J4_append_cf468 F (nI c) S = some S' ∧ bd S' (T ++ [c]) ∧ dn [87, 88, 100] 1 1000 S S' := by
  have o87 := h.1.1
  have f3 := h.2.1.2.2
  obtain ⟨S1, e1, b1, l1, d1⟩ := bd_ensure (F := F) (q := T.length + 1) h hT (by omega)
  obtain ⟨⟨p87, p88⟩, ⟨g0, g1, g3⟩, ⟨m1, m2⟩, hr, ht, hfit, hs⟩ := b1
  unfold f_J4_append_cf468 f_J4_append_cf468_h0 f_J5_append_3fe6f f_J5_append_3fe6f_h0 f_J4_append_cf468_h5
  have e0 : nI T.length + 1 = nI (T.length + 1) := nI_1 _
  rw [if_neg (not_not_intro o87), dr_gi o87, Option.bind_some, if_neg (not_not_intro o87), f3, e0, e1, Option.bind_some]
  unfold f_J5_append_3fe6f_h10
  rw [if_neg (not_not_intro p87), bd_isLatin p87 g1, Option.bind_some]
  unfold f_J5_append_3fe6f_h14
  have ec : f_J1_canEncode_fc78d F (nI c) S1 = some (1, S1) := by
    unfold f_J1_canEncode_fc78d f_J1_canEncode_fc78d_h12
    rw [if_neg (show ¬ (255 : Int32) < nI c from (nI_nlt (by omega) (by decide) : ¬ nI 255 < nI c))]
    rfl
  dsimp only
  rw [if_neg (by decide), ec, Option.bind_some]
  dsimp only
  rw [if_neg (by decide), if_neg (not_not_intro ⟨p87, g0⟩), dr_gi p87, Option.bind_some, dr_pi p87, Option.bind_some, g3, e0, bd_i2b hc, dr_wr (S := si_ps S1 87 3 (nI (T.length + 1))) p88 (by show T.length < sd_ln S1 88; omega) (by show sd_ln S1 88 < 2 ^ 31; omega), Option.bind_some, Option.bind_some]
  refine ⟨_, rfl, ⟨⟨p87, p88⟩, ⟨?_, ?_, ?_⟩, ⟨?_, m2⟩, fun i hi => ?_, fun t hm => ?_, fun i => ?_, hs⟩, (d1.tr ((dn.ps (C := [87, 88, 100]) (by decide)).tr (dn.pa (C := [87, 88, 100]) (by decide)))).up (by omega) (by omega)⟩
  · rw [pa_1, ps_o (by omega)]; exact g0
  · rw [pa_1, ps_o (by omega)]; exact g1
  · rw [pa_1, ps_e, List.length_append]; rfl
  · rw [List.length_append]; show T.length + 1 ≤ sd_ln S1 88; omega
  · rw [List.length_append] at hi
    rw [bd_getD_app hi]
    by_cases h9 : i = T.length
    · rw [if_pos h9, h9, pa_e]
    · rw [if_neg h9, pa_s h9]
      exact hr i (by have : i < T.length + 1 := hi; omega)
  · rcases List.mem_append.mp hm with h9 | h9
    · exact ht t h9
    · rw [List.mem_singleton.mp h9]; exact hc
  · by_cases h9 : i = T.length
    · rw [h9, pa_e]; exact bd_fit hc
    · rw [pa_s h9]; exact hfit i
theorem bd_length {F : Nat} {S : si_St} {T : List Nat} (h : bd S T) : f_J4_length_8abf5 F S = some (nI T.length, S) := by
  obtain ⟨⟨o87, o88⟩, ⟨f0, f1, f3⟩, -⟩ := h
  unfold f_J4_length_8abf5 f_J4_length_8abf5_h0 f_J5_length_8abf5 f_J5_length_8abf5_h0 f_J4_length_8abf5_h4
  rw [if_neg (not_not_intro o87), dr_gi o87, Option.bind_some, Option.bind_some, f3]
