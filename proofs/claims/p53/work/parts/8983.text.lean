-- THE BUILDER TAKES A TEXT, AND A NUMBER BELOW 10000
def tx : Nat → List Nat
  | 8 => [116, 114, 97, 100, 101, 114, 59]
  | 9 => [115, 99, 97, 108, 101, 32]
  | 10 => [109, 97, 115, 115, 32]
  | 11 => [32, 112, 108, 117, 115, 32]
  | 12 => [32, 109, 105, 110, 117, 115, 32]
  | 13 => [115, 101, 116, 32]
  | 14 => [32, 109, 97, 121, 98, 101, 59]
  | 15 => [59]
  | 16 => [116, 101, 114, 109, 32, 49, 32]
  | _ => []
theorem tx_ln {g : Nat} (h8 : 8 ≤ g) (h : g < 17) : si_sl g = nI (tx g).length ∧ si_slen.getD g 0 = (tx g).length ∧ (tx g).length ≤ 7 := by
  have key : ∀ g, g < 17 → 8 ≤ g → si_sl g = nI (tx g).length ∧ si_slen.getD g 0 = (tx g).length ∧ (tx g).length ≤ 7 := by decide +kernel
  exact key g h h8
theorem tx_by {g : Nat} (h8 : 8 ≤ g) (h : g < 17) : (∀ j, j < (tx g).length → (si_sbyt.getD g []).getD j 0 = nI ((tx g).getD j 0)) ∧ (∀ t ∈ tx g, t < 128) ∧ sd_fit (fun j => (si_sbyt.getD g []).getD j 0) 0 (si_slen.getD g 0) = true := by
  have key : ∀ g, g < 17 → 8 ≤ g → (∀ j, j < (tx g).length → (si_sbyt.getD g []).getD j 0 = nI ((tx g).getD j 0)) ∧ (∀ t ∈ tx g, t < 128) ∧ sd_fit (fun j => (si_sbyt.getD g []).getD j 0) 0 (si_slen.getD g 0) = true := by decide +kernel
  exact key g h h8
theorem bd_getD_app2 {T U : List Nat} {i : Nat} : (T ++ U).getD i 0 = if i < T.length then T.getD i 0 else U.getD (i - T.length) 0 := by
  by_cases hi : i < T.length
  · rw [if_pos hi, List.getD_eq_getElem?_getD, List.getElem?_append_left hi, List.getD_eq_getElem?_getD]
  · rw [if_neg hi, List.getD_eq_getElem?_getD, List.getElem?_append_right (by omega), List.getD_eq_getElem?_getD]
theorem bd_fin {S S2 : si_St} {T U : List Nat} (h : bd S T) (e1 : S2.1 = S.1) (e2 : S2.2.2 = S.2.2) (hl : T.length + U.length ≤ sd_ln S 88) (hU : ∀ j, j < U.length → S2.2.1 88 (T.length + j) = nI (U.getD j 0)) (hlo : ∀ i, i < T.length → S2.2.1 88 i = S.2.1 88 i) (hf : ∀ i, fits .byte (.int (S2.2.1 88 i)) = true) (hu : ∀ t ∈ U, t < 128) : bd (si_ps S2 87 3 (nI (T.length + U.length))) (T ++ U) := by
  obtain ⟨⟨o87, o88⟩, ⟨f0, f1, f3⟩, ⟨l1, l2⟩, hr, ht, hfit, hs⟩ := h
  have k1 : ∀ k, sd_ln S2 k = sd_ln S k := fun k => by unfold sd_ln; rw [e2]
  have k2 : ∀ k, sd_ok S k → sd_ok S2 k := fun k hk => ⟨hk.1, hk.2.1, by unfold sd_lv; rw [e2]; exact hk.2.2⟩
  refine ⟨⟨k2 _ o87, k2 _ o88⟩, ⟨?_, ?_, ?_⟩, ⟨?_, ?_⟩, fun i hi => ?_, fun t hm => ?_, hf, ?_⟩
  · rw [ps_o (by omega), e1]; exact f0
  · rw [ps_o (by omega), e1]; exact f1
  · rw [ps_e, List.length_append]
  · show (T ++ U).length ≤ sd_ln S2 88; rw [k1, List.length_append]; exact hl
  · show sd_ln S2 88 ≤ 1000; rw [k1]; exact l2
  · rw [List.length_append] at hi
    rw [ps_21, bd_getD_app2]
    by_cases h9 : i < T.length
    · rw [if_pos h9, hlo i h9]; exact hr i h9
    · rw [if_neg h9]
      have := hU (i - T.length) (by omega)
      rw [show T.length + (i - T.length) = i by omega] at this
      exact this
  · rcases List.mem_append.mp hm with h9 | h9
    · exact ht t h9
    · exact hu t h9
  · show S2.2.2.2 0 < 87 ∧ S2.2.2.2 1 < 87
    rw [e2]; exact hs
theorem bd_gn : si_gn .byte 0 = some 0 := by decide +kernel
theorem bd_coder {F g : Nat} {S : si_St} : f_J0_coder_7d493 F g S = some (0, S) := by
  unfold f_J0_coder_7d493
  rw [if_neg (by decide), bd_gn, Option.bind_some]
theorem bd_str {F g : Nat} {S : si_St} {T : List Nat} (h8 : 8 ≤ g) (hg : g < 17) (h : bd S T) (hT : T.length ≤ 400) : ∃ S', f_J4_append_15ec4 F g S = some S' ∧ bd S' (T ++ tx g) ∧ dn [87, 88, 100] 1 1000 S S' := by
  have o87 := h.1.1
  have f3 := h.2.1.2.2
  obtain ⟨x1, x2, x3⟩ := tx_ln h8 hg
  obtain ⟨y1, y2, y3⟩ := tx_by h8 hg
  obtain ⟨S1, e1, b1, l1, d1⟩ := bd_ensure (F := F) (q := T.length + (tx g).length) h hT (by omega)
  have hb1 := b1
  obtain ⟨⟨p87, p88⟩, ⟨g0, g1, g3⟩, ⟨m1, m2⟩, hr, ht, hfit, hs⟩ := b1
  have hlen : f_J0_length_8abf5 F g S = some (nI (tx g).length, S) := by
    unfold f_J0_length_8abf5
    rw [bd_coder, Option.bind_some, x1]
    dsimp only
    rw [sb_shr0]
  unfold f_J4_append_15ec4 f_J4_append_15ec4_h0 f_J5_append_cf1ce f_J5_append_cf1ce_h0 f_J4_append_15ec4_h5 f_J5_append_cf1ce_h13 f_J5_append_cf1ce_h24 f_J5_append_cf1ce_h33
  rw [if_neg (not_not_intro o87), hlen, Option.bind_some]
  dsimp only
  rw [dr_gi o87, Option.bind_some, if_neg (not_not_intro o87), f3, nI_add, e1, Option.bind_some, dr_gi p87, Option.bind_some, if_neg (not_not_intro p87), g3]
  have hput : f_J5_putStringAt_47b60 F g (nI T.length) S1 = some (sd_ca S1 (fun j => (si_sbyt.getD g []).getD j 0) 88 0 T.length (tx g).length) := by
    have hcs : sd_cs S1 g 0 88 (nI T.length) (nI (tx g).length) = some (sd_ca S1 (fun j => (si_sbyt.getD g []).getD j 0) 88 0 T.length (tx g).length) := by
      unfold sd_cs
      rw [nI_clamp (n := T.length) (by omega), nI_clamp (n := (tx g).length) (by omega), x2, ← x2]
      exact if_pos ⟨p88, by decide, nI_pos (by omega), nI_pos (by omega), by show 0 + _ ≤ _; omega, by omega, y3⟩
    unfold f_J5_putStringAt_47b60 f_J5_putStringAt_47b60_h0 f_J5_inflateIfNeededFor_a7421 f_J5_inflateIfNeededFor_a7421_h0 f_J5_inflateIfNeededFor_a7421_h14 f_J5_inflateIfNeededFor_a7421_h21
    rw [if_neg (not_not_intro p87), if_neg (by decide), dr_gi p87, Option.bind_some, bd_coder, Option.bind_some, g1]
    dsimp only
    rw [if_pos rfl, Option.bind_some]
    unfold f_J5_putStringAt_47b60_h5 f_J0_getBytes_840e7 f_J0_getBytes_840e7_h0 f_J0_getBytes_840e7_h4 f_J5_putStringAt_47b60_h18
    rw [if_neg (not_not_intro ⟨p87, g0⟩), dr_gi p87, Option.bind_some, bd_coder, Option.bind_some, g1]
    dsimp only
    rw [if_pos rfl, sb_shl0, x1, hcs, Option.bind_some, Option.bind_some]
  rw [hput, Option.bind_some]
  obtain ⟨S2, hS2⟩ : ∃ S2, S2 = sd_ca S1 (fun j => (si_sbyt.getD g []).getD j 0) 88 0 T.length (tx g).length := ⟨_, rfl⟩
  rw [← hS2]
  have p87' : sd_ok S2 87 := by rw [hS2]; exact p87
  have z3 : S2.1 87 3 = nI T.length := by rw [hS2]; exact g3
  rw [dr_gi p87', Option.bind_some, z3, nI_add, dr_pi p87', Option.bind_some, Option.bind_some]
  have row : ∀ i, S2.2.1 88 i = if T.length ≤ i ∧ i < T.length + (tx g).length then (si_sbyt.getD g []).getD (i - T.length) 0 else S1.2.1 88 i := fun i => by
    rw [hS2]
    show (if 88 = 88 ∧ T.length ≤ i ∧ i < T.length + (tx g).length then (si_sbyt.getD g []).getD (0 + (i - T.length)) 0 else S1.2.1 88 i) = _
    by_cases h9 : T.length ≤ i ∧ i < T.length + (tx g).length
    · rw [if_pos ⟨rfl, h9⟩, if_pos h9, Nat.zero_add]
    · rw [if_neg (fun h => h9 h.2), if_neg h9]
  refine ⟨_, rfl, bd_fin hb1 (by rw [hS2]; rfl) (by rw [hS2]; rfl) (by omega) (fun j hj => ?_) (fun i hi => ?_) (fun i => ?_) y2, ?_⟩
  · rw [row, if_pos ⟨by omega, by omega⟩, Nat.add_sub_cancel_left]
    exact y1 j hj
  · rw [row, if_neg (by omega)]
  · rw [row]
    by_cases h9 : T.length ≤ i ∧ i < T.length + (tx g).length
    · rw [if_pos h9, y1 _ (by omega)]
      refine bd_fit (y2 _ ?_)
      rw [List.getD_eq_getElem?_getD, List.getElem?_eq_getElem (by omega : i - T.length < (tx g).length)]
      exact List.getElem_mem _
    · rw [if_neg h9]; exact hfit i
  · rw [hS2]
    exact (d1.tr ((dn.ca (C := [87, 88, 100]) (by decide)).tr (dn.ps (C := [87, 88, 100]) (by decide)))).up (by omega) (by omega)
-- numbers
def dgs (n : Nat) : List Nat := if n < 10 then [48 + n] else if n < 100 then [48 + n / 10, 48 + n % 10] else if n < 1000 then [48 + n / 100, 48 + n % 100 / 10, 48 + n % 100 % 10] else [48 + n / 100 / 10, 48 + n / 100 % 10, 48 + n % 100 / 10, 48 + n % 100 % 10]
theorem bn_z (n : Nat) : -nI n = nI 0 - nI n := (Int32.zero_sub (nI n)).symm
theorem bn_toInt {n : Nat} (h : n < 2 ^ 30) : (-nI n).toInt = -(n : Int) := by
  rw [bn_z, pk_sub_toInt (by omega) h]
  omega
theorem bn_lt {a b : Nat} (ha : a < 2 ^ 30) (hb : b < 2 ^ 30) : (-nI a < -nI b) ↔ b < a := by
  rw [Int32.lt_iff_toInt_lt, bn_toInt ha, bn_toInt hb]
  omega
theorem bn_le {a b : Nat} (ha : a < 2 ^ 30) (hb : b < 2 ^ 30) : (-nI a ≤ -nI b) ↔ b ≤ a := by
  rw [Int32.le_iff_toInt_le, bn_toInt ha, bn_toInt hb]
  omega
theorem bn_div {n : Nat} (h : n < 10000) : -nI n / 100 = -nI (n / 100) := Int32.toInt_inj.mp (by
  have e : (100 : Int32).toInt = ((100 : Nat) : Int) := by decide
  rw [Int32.toInt_div, bn_toInt (by omega), bn_toInt (by omega), e, Int.neg_tdiv, ← Int.ofNat_tdiv]
  exact Int.bmod_eq_of_le (by omega) (by omega))
theorem bn_rem {n : Nat} : -nI (n / 100) * 100 - -nI n = nI (n % 100) := by
  have e : -nI (n / 100) * 100 - -nI n = nI n - nI (n / 100) * nI 100 := by
    rw [Int32.sub_neg, Int32.neg_mul, Int32.add_comm, ← Int32.sub_eq_add_neg]
    rfl
  rw [e, pk_mul, pk_sub (by omega)]
  congr 1
  omega
theorem bn_dec {k : Nat} : nI (k + 1) + (-1) = nI k := by
  rw [← Int32.sub_eq_add_neg]
  exact nI_pred k
theorem bn_neg (n : Nat) : -(-nI n) = nI n := Int32.neg_neg
theorem bn_dg {r : Nat} (h : r < 100) : sd_dg 100 (nI r) = some (nI (48 + r % 10)) ∧ sd_dg 101 (nI r) = some (nI (48 + r / 10)) := by
  have key : ∀ r, r < 100 → sd_dg 100 (nI r) = some (nI (48 + r % 10)) ∧ sd_dg 101 (nI r) = some (nI (48 + r / 10)) := by decide +kernel
  exact key r h
theorem bn_nar {c : Nat} (h : c < 128) : vp_nar .byte (nI c) = nI c := by
  have key : ∀ c, c < 128 → vp_nar .byte (nI c) = nI c := by decide +kernel
  exact key c h
theorem bn_size {F n : Nat} {S : si_St} (hF : 10 ≤ F) (hn : n < 10000) : f_J6_stringSize_0f7a4 F (nI n) S = some (nI (dgs n).length, S) := by
  obtain ⟨f, rfl⟩ : ∃ f, F = f + 4 := ⟨F - 4, by omega⟩
  unfold f_J6_stringSize_0f7a4
  rw [if_neg (nI_pos (by omega)), Option.bind_some]
  unfold f_J6_stringSize_0f7a4_h11
  have l1 : ∀ a b : Nat, b < 2 ^ 30 → (-nI n ≤ -nI b ↔ b ≤ n) := fun a b hb => bn_le (by omega) hb
  have q1 : (-nI n ≤ (-10 : Int32)) ↔ 10 ≤ n := l1 0 10 (by decide)
  have q2 : (-nI n ≤ (10 * -10 : Int32)) ↔ 100 ≤ n := l1 0 100 (by decide)
  have q3 : (-nI n ≤ (10 * (10 * -10) : Int32)) ↔ 1000 ≤ n := l1 0 1000 (by decide)
  have q4 : (-nI n ≤ (10 * (10 * (10 * -10)) : Int32)) ↔ 10000 ≤ n := l1 0 10000 (by decide)
  unfold dgs
  unfold f_J6_stringSize_0f7a4_l16 f_J6_stringSize_0f7a4_h16
  rw [if_neg (by decide)]
  by_cases h1 : n < 10
  · rw [if_neg (fun h => by have := q1.mp h; omega), if_pos h1]
    rfl
  rw [if_pos (q1.mpr (by omega)), if_neg h1, Option.bind_some, Option.bind_some]
  unfold f_J6_stringSize_0f7a4_l16 f_J6_stringSize_0f7a4_h16
  rw [if_neg (by decide)]
  by_cases h2 : n < 100
  · rw [if_neg (fun h => by have := q2.mp h; omega), if_pos h2]
    rfl
  rw [if_pos (q2.mpr (by omega)), if_neg h2, Option.bind_some, Option.bind_some]
  unfold f_J6_stringSize_0f7a4_l16 f_J6_stringSize_0f7a4_h16
  rw [if_neg (by decide)]
  by_cases h3 : n < 1000
  · rw [if_neg (fun h => by have := q3.mp h; omega), if_pos h3]
    rfl
  rw [if_pos (q3.mpr (by omega)), if_neg h3, Option.bind_some, Option.bind_some]
  unfold f_J6_stringSize_0f7a4_l16 f_J6_stringSize_0f7a4_h16
  rw [if_neg (by decide), if_neg (fun h => by have := q4.mp h; omega)]
  rfl
theorem dr_wr1 {S : si_St} {k i p : Nat} {v w : Int32} (h : sd_ok S k) (hi : i < sd_ln S k) (hl : sd_ln S k < 2 ^ 31) : sd_wr (si_pa S k p w) k (nI i) v = some (si_pa (si_pa S k p w) k i v) := dr_wr (S := si_pa S k p w) h hi hl
-- the last one or two digits, and a step of two
theorem bn_one {F m p : Nat} {r : Int32 → Int32 → Int32 → si_St → Option (Int32 × si_St)} {S : si_St} (o : sd_ok S 88) (hl : p < sd_ln S 88) (hl2 : sd_ln S 88 ≤ 1000) (hm : m < 10) : f_J6_getChars_ba4f3_h22 F r (-nI m) (nI (p + 1)) 0 S = some (nI p, si_pa S 88 p (nI (48 + m))) := by
  unfold f_J6_getChars_ba4f3_h22
  rw [if_pos (show (-100 : Int32) < -nI m from (bn_lt (a := 100) (by decide) (by omega)).mpr (by omega)), bn_dec, Option.bind_some, bn_neg, (bn_dg (by omega)).1, Option.bind_some, bn_nar (by omega), dr_wr o hl (by omega), Option.bind_some, if_pos (show (-9 : Int32) ≤ -nI m from (bn_le (a := 9) (by decide) (by omega)).mpr (by omega))]
  unfold f_J6_getChars_ba4f3_h104 f_J6_getChars_ba4f3_h118
  rw [if_pos rfl, Nat.mod_eq_of_lt hm]
theorem bn_two {F m p : Nat} {r : Int32 → Int32 → Int32 → si_St → Option (Int32 × si_St)} {S : si_St} (o : sd_ok S 88) (hl : p + 1 < sd_ln S 88) (hl2 : sd_ln S 88 ≤ 1000) (hm : m < 100) (hm2 : 10 ≤ m) : f_J6_getChars_ba4f3_h22 F r (-nI m) (nI (p + 2)) 0 S = some (nI p, si_pa (si_pa S 88 (p + 1) (nI (48 + m % 10))) 88 p (nI (48 + m / 10))) := by
  unfold f_J6_getChars_ba4f3_h22
  rw [if_pos (show (-100 : Int32) < -nI m from (bn_lt (a := 100) (by decide) (by omega)).mpr (by omega)), bn_dec, Option.bind_some, bn_neg, (bn_dg (by omega)).1, Option.bind_some, bn_nar (by omega), dr_wr o hl (by omega), Option.bind_some, if_neg (fun h : (-9 : Int32) ≤ -nI m => by have := (bn_le (a := 9) (by decide) (by omega)).mp h; omega), bn_dec, Option.bind_some, (bn_dg (by omega)).2, Option.bind_some, bn_nar (by omega), dr_wr1 o (by omega) (by omega), Option.bind_some]
  unfold f_J6_getChars_ba4f3_h104 f_J6_getChars_ba4f3_h118
  rw [if_pos rfl]
theorem bn_step {F n p : Nat} {r : Int32 → Int32 → Int32 → si_St → Option (Int32 × si_St)} {S : si_St} (o : sd_ok S 88) (hl : p + 1 < sd_ln S 88) (hl2 : sd_ln S 88 ≤ 1000) (hn : n < 10000) (hn2 : 100 ≤ n) : f_J6_getChars_ba4f3_h22 F r (-nI n) (nI (p + 2)) 0 S = r (-nI (n / 100)) (nI p) 0 (si_pa (si_pa S 88 (p + 1) (nI (48 + n % 100 % 10))) 88 p (nI (48 + n % 100 / 10))) := by
  unfold f_J6_getChars_ba4f3_h22
  rw [if_neg (fun h : (-100 : Int32) < -nI n => by have := (bn_lt (a := 100) (by decide) (by omega)).mp h; omega), bn_div hn, Option.bind_some, bn_rem, Option.bind_some, bn_dec, Option.bind_some, (bn_dg (by omega)).1, Option.bind_some, bn_nar (by omega), dr_wr o hl (by omega), Option.bind_some, bn_dec, Option.bind_some, (bn_dg (by omega)).2, Option.bind_some, bn_nar (by omega), dr_wr1 o (by omega) (by omega), Option.bind_some]
theorem bn_chars {F n p : Nat} {S : si_St} (hF : 10 ≤ F) (o : sd_ok S 88) (hl : p + (dgs n).length ≤ sd_ln S 88) (hl2 : sd_ln S 88 ≤ 1000) (hn : n < 10000) (hfit : ∀ i, fits .byte (.int (S.2.1 88 i)) = true) : ∃ S2, f_J6_getChars_ba4f3 F (nI n) (nI (p + (dgs n).length)) S = some (nI p, S2) ∧ S2.1 = S.1 ∧ S2.2.2 = S.2.2 ∧ (∀ j, j < (dgs n).length → S2.2.1 88 (p + j) = nI ((dgs n).getD j 0)) ∧ (∀ i, i < p → S2.2.1 88 i = S.2.1 88 i) ∧ (∀ i, fits .byte (.int (S2.2.1 88 i)) = true) ∧ (∀ k, k ≠ 88 → S2.2.1 k = S.2.1 k) ∧ (∀ t ∈ dgs n, t < 128) := by
  obtain ⟨f, rfl⟩ : ∃ f, F = f + 2 := ⟨F - 2, by omega⟩
  have fp : ∀ {S : si_St} {p c : Nat}, (∀ i, fits .byte (.int (S.2.1 88 i)) = true) → c < 128 → ∀ i, fits .byte (.int ((si_pa S 88 p (nI c)).2.1 88 i)) = true := fun {S} {p} {c} h hc i => by
    rw [pa_if]
    split
    · exact bd_fit hc
    · exact h i
  have gl : ∀ {S : si_St} {a b : Nat} {v : Int32}, (si_pa S 88 a v).2.1 88 b = if b = a then v else S.2.1 88 b := fun {S} {a} {b} {v} => by
    rw [pa_if]
    by_cases h : b = a
    · rw [if_pos ⟨rfl, h⟩, if_pos h]
    · rw [if_neg (fun h2 => h h2.2), if_neg h]
  unfold f_J6_getChars_ba4f3 f_J6_getChars_ba4f3_h0
  rw [if_pos (nI_pos' (by omega))]
  unfold f_J6_getChars_ba4f3_h12
  rw [if_pos rfl, Option.bind_some]
  unfold f_J6_getChars_ba4f3_l22
  unfold dgs at hl ⊢
  by_cases h1 : n < 10
  · rw [if_pos h1] at hl ⊢
    have hl : p + 1 ≤ sd_ln S 88 := hl
    refine ⟨_, bn_one o (by omega) hl2 h1, rfl, rfl, fun j hj => ?_, fun i hi => ?_, fp hfit (by omega), fun k hk => pa_o hk, fun t ht => ?_⟩
    · have hj : j < 1 := hj
      have : j = 0 := by omega
      rw [this]
      exact pa_e
    · rw [gl, if_neg (by omega)]
    · rw [List.mem_singleton.mp ht]; omega
  rw [if_neg h1] at hl ⊢
  by_cases h2 : n < 100
  · rw [if_pos h2] at hl ⊢
    have hl : p + 2 ≤ sd_ln S 88 := hl
    refine ⟨_, bn_two o (by omega) hl2 h2 (by omega), rfl, rfl, fun j hj => ?_, fun i hi => ?_, fp (fp hfit (by omega)) (by omega), fun k hk => (pa_o hk).trans (pa_o hk), fun t ht => ?_⟩
    · have hj : j < 2 := hj
      rcases (by omega : j = 0 ∨ j = 1) with h | h <;> rw [h]
      · exact pa_e
      · rw [gl, if_neg (by omega), gl, if_pos rfl]; rfl
    · rw [gl, if_neg (by omega), gl, if_neg (by omega)]
    · simp only [List.mem_cons, List.not_mem_nil, or_false] at ht; omega
  rw [if_neg h2] at hl ⊢
  by_cases h3 : n < 1000
  · rw [if_pos h3] at hl ⊢
    have hl : p + 3 ≤ sd_ln S 88 := hl
    obtain ⟨S1, hS1⟩ : ∃ S1, S1 = si_pa (si_pa S 88 (p + 2) (nI (48 + n % 100 % 10))) 88 (p + 1) (nI (48 + n % 100 / 10)) := ⟨_, rfl⟩
    have e2 : S1.2.2 = S.2.2 := by rw [hS1]; rfl
    have hst : f_J6_getChars_ba4f3_h22 (f + 2) (f_J6_getChars_ba4f3_l22 (f + 2) (f + 1)) (-nI n) (nI (p + 3)) 0 S = some (nI p, si_pa S1 88 p (nI (48 + n / 100))) := (bn_step (p := p + 1) o (by omega) hl2 hn (by omega)).trans (by rw [← hS1]; unfold f_J6_getChars_ba4f3_l22; exact bn_one (p := p) (S := S1) ⟨o.1, o.2.1, by unfold sd_lv; rw [e2]; exact o.2.2⟩ (by unfold sd_ln; rw [e2]; exact (by omega : p < sd_ln S 88)) (by unfold sd_ln; rw [e2]; exact hl2) (by omega))
    refine ⟨_, hst, by rw [hS1]; rfl, by rw [hS1]; rfl, fun j hj => ?_, fun i hi => ?_, fp (by rw [hS1]; exact fp (fp hfit (by omega)) (by omega)) (by omega), fun k hk => ?_, fun t ht => ?_⟩
    · have hj : j < 3 := hj
      rw [hS1]
      rcases (by omega : j = 0 ∨ j = 1 ∨ j = 2) with h | h | h <;> rw [h]
      · exact pa_e
      · rw [gl, if_neg (by omega), gl, if_pos rfl]; rfl
      · rw [gl, if_neg (by omega), gl, if_neg (by omega), gl, if_pos rfl]; rfl
    · rw [hS1, gl, if_neg (by omega), gl, if_neg (by omega), gl, if_neg (by omega)]
    · rw [hS1]; exact (pa_o hk).trans ((pa_o hk).trans (pa_o hk))
    · simp only [List.mem_cons, List.not_mem_nil, or_false] at ht; omega
  rw [if_neg h3] at hl ⊢
  have hl : p + 4 ≤ sd_ln S 88 := hl
  obtain ⟨S1, hS1⟩ : ∃ S1, S1 = si_pa (si_pa S 88 (p + 3) (nI (48 + n % 100 % 10))) 88 (p + 2) (nI (48 + n % 100 / 10)) := ⟨_, rfl⟩
  have e2 : S1.2.2 = S.2.2 := by rw [hS1]; rfl
  have hst : f_J6_getChars_ba4f3_h22 (f + 2) (f_J6_getChars_ba4f3_l22 (f + 2) (f + 1)) (-nI n) (nI (p + 4)) 0 S = some (nI p, si_pa (si_pa S1 88 (p + 1) (nI (48 + n / 100 % 10))) 88 p (nI (48 + n / 100 / 10))) := (bn_step (p := p + 2) o (by omega) hl2 hn (by omega)).trans (by rw [← hS1]; unfold f_J6_getChars_ba4f3_l22; exact bn_two (p := p) (S := S1) ⟨o.1, o.2.1, by unfold sd_lv; rw [e2]; exact o.2.2⟩ (by unfold sd_ln; rw [e2]; exact (by omega : p + 1 < sd_ln S 88)) (by unfold sd_ln; rw [e2]; exact hl2) (by omega) (by omega))
  refine ⟨_, hst, by rw [hS1]; rfl, by rw [hS1]; rfl, fun j hj => ?_, fun i hi => ?_, fp (fp (by rw [hS1]; exact fp (fp hfit (by omega)) (by omega)) (by omega)) (by omega), fun k hk => ?_, fun t ht => ?_⟩
  · have hj : j < 4 := hj
    rw [hS1]
    rcases (by omega : j = 0 ∨ j = 1 ∨ j = 2 ∨ j = 3) with h | h | h | h <;> rw [h]
    · exact pa_e
    · rw [gl, if_neg (by omega), gl, if_pos rfl]; rfl
    · rw [gl, if_neg (by omega), gl, if_neg (by omega), gl, if_pos rfl]; rfl
    · rw [gl, if_neg (by omega), gl, if_neg (by omega), gl, if_neg (by omega), gl, if_pos rfl]; rfl
  · rw [hS1, gl, if_neg (by omega), gl, if_neg (by omega), gl, if_neg (by omega), gl, if_neg (by omega)]
  · rw [hS1]; exact (pa_o hk).trans ((pa_o hk).trans ((pa_o hk).trans (pa_o hk)))
  · simp only [List.mem_cons, List.not_mem_nil, or_false] at ht; omega
theorem dgs_len (n : Nat) : (dgs n).length ≤ 4 := by
  unfold dgs
  split
  · exact (by decide : 1 ≤ 4)
  · split
    · exact (by decide : 2 ≤ 4)
    · split
      · exact (by decide : 3 ≤ 4)
      · exact Nat.le_refl 4
theorem bd_int {F n : Nat} {S : si_St} {T : List Nat} (hF : 10 ≤ F) (hn : n < 10000) (h : bd S T) (hT : T.length ≤ 400) : ∃ S', f_J4_append_bf812 F (nI n) S = some S' ∧ bd S' (T ++ dgs n) ∧ dn [87, 88, 100] 1 1000 S S' := by
  have o87 := h.1.1
  have f3 := h.2.1.2.2
  have hd := dgs_len n
  obtain ⟨S1, e1, b1, l1, d1⟩ := bd_ensure (F := F) (q := T.length + (dgs n).length) h hT (by omega)
  have hb1 := b1
  obtain ⟨⟨p87, p88⟩, ⟨g0, g1, g3⟩, ⟨m1, m2⟩, hr, ht, hfit, hs⟩ := b1
  obtain ⟨S2, e2, a1, a2, a3, a4, a5, a6, a7⟩ := bn_chars (F := F) (n := n) (p := T.length) (S := S1) hF p88 l1 m2 hn hfit
  unfold f_J4_append_bf812 f_J4_append_bf812_h0 f_J5_append_c97b9 f_J5_append_c97b9_h0 f_J4_append_bf812_h5 f_J5_append_c97b9_h17 f_J5_append_c97b9_h21 f_J5_append_c97b9_h33
  have p87' : sd_ok S2 87 := ⟨p87.1, p87.2.1, by unfold sd_lv; rw [a2]; exact p87.2.2⟩
  rw [if_neg (not_not_intro o87), dr_gi o87, Option.bind_some, bn_size hF hn, Option.bind_some]
  dsimp only
  rw [f3, nI_add, Option.bind_some, if_neg (not_not_intro o87), e1, Option.bind_some, if_neg (not_not_intro p87), bd_isLatin p87 g1, Option.bind_some]
  dsimp only
  rw [if_neg (by decide), if_neg (not_not_intro ⟨p87, g0⟩), e2, Option.bind_some]
  dsimp only
  rw [dr_pi p87', Option.bind_some, Option.bind_some]
  refine ⟨_, rfl, bd_fin hb1 a1 a2 l1 a3 a4 a5 a7, ?_⟩
  have d2 : dn [87, 88, 100] 0 0 S1 S2 := dn.eq (by rw [a2]) (fun k hk => ⟨fun j => by rw [a1], a6 k (fun h => hk (by rw [h]; decide)), by rw [a2]⟩)
  exact (d1.tr (d2.tr (dn.ps (C := [87, 88, 100]) (by decide)))).up (by omega) (by omega)
