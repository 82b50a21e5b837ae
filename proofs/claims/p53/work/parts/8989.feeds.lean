-- THE TEXT AS A STRING, AND FED TO THE CLASS
def st (S : si_St) (T : List Nat) : Prop := (sd_ok S 89 ∧ sd_ok S 90) ∧ (S.1 89 0 ≠ 0 ∧ S.1 89 1 = 0) ∧ sd_ln S 90 = T.length ∧ (∀ i, i < T.length → S.2.1 90 i = nI (T.getD i 0)) ∧ ∀ t ∈ T, t < 128
theorem getD_128 {T : List Nat} (h : ∀ t ∈ T, t < 128) (i : Nat) : T.getD i 0 < 128 := by
  rw [List.getD_eq_getElem?_getD]
  by_cases hi : i < T.length
  · rw [List.getElem?_eq_getElem hi]
    exact h _ (List.getElem_mem _)
  · rw [List.getElem?_eq_none (by omega)]
    decide
theorem st.go {S S' : si_St} {T : List Nat} {a b : Nat} {C : List Nat} (h : st S T) (d : dn C a b S S') (h89 : 89 ∉ C) (h90 : 90 ∉ C) : st S' T := by
  obtain ⟨⟨o1, o2⟩, ⟨f0, f1⟩, l, r, t⟩ := h
  exact ⟨⟨d.ok h89 o1, d.ok h90 o2⟩, ⟨by rw [(d.1 89 h89).1]; exact f0, by rw [(d.1 89 h89).1]; exact f1⟩, (d.2.2.1 90 (by decide) h90).1.trans l, by rw [(d.1 90 h90).2.1]; exact r, t⟩
theorem st_length {F : Nat} {S : si_St} {T : List Nat} (h : st S T) : f_J0_length_8abf5_d F S = some (nI T.length, S) := by
  obtain ⟨⟨o1, o2⟩, ⟨f0, f1⟩, l, r, t⟩ := h
  unfold f_J0_length_8abf5_d f_J0_length_8abf5_d_h0 f_J0_coder_7d493_d f_J0_coder_7d493_d_h0 f_J0_length_8abf5_d_h9
  rw [if_neg (not_not_intro ⟨o1, f0⟩), dr_al o2, Option.bind_some, if_neg (not_not_intro o1), if_neg (by decide), dr_gi o1, Option.bind_some, f1, bd_gn, Option.bind_some, Option.bind_some, l]
  dsimp only
  rw [sb_shr0]
theorem st_chr {c : Nat} (h : c < 128) : si_gn .char (si_i2c (nI c &&& 255)) = some (nI c) ∧ si_gn .char (nI c) = some (nI c) := by
  have key : ∀ c, c < 128 → si_gn .char (si_i2c (nI c &&& 255)) = some (nI c) ∧ si_gn .char (nI c) = some (nI c) := by decide +kernel
  exact key c h
theorem st_charAt {F i : Nat} {S : si_St} {T : List Nat} (h : st S T) (hi : i < T.length) (hT : T.length ≤ 800) : f_J0_charAt_5068e_d F (nI i) S = some (nI (T.getD i 0), S) := by
  obtain ⟨⟨o1, o2⟩, ⟨f0, f1⟩, l, r, t⟩ := h
  have hc := st_chr (getD_128 t i)
  unfold f_J0_charAt_5068e_d f_J0_charAt_5068e_d_h0 f_J0_isLatin1_aae02_d f_J0_isLatin1_aae02_d_h0 f_J0_isLatin1_aae02_d_h18
  rw [if_neg (not_not_intro o1), if_neg (by decide), dr_gi o1, Option.bind_some, f1, if_pos rfl, sm_bz1, Option.bind_some, Option.bind_some]
  unfold f_J0_charAt_5068e_d_h4
  dsimp only
  rw [if_neg (by decide), if_neg (not_not_intro ⟨o1, f0⟩)]
  unfold f_J1_charAt_3b067_d f_J1_charAt_3b067_d_h0 f_J0_checkIndex_df160 f_J3_checkIndex_8e157 f_J0_charAt_5068e_d_h15
  rw [dr_al o2, Option.bind_some, l, if_neg (nI_pos (by omega)), if_pos (nI_lt hi (by omega)), Option.bind_some, Option.bind_some]
  dsimp only
  rw [dr_rd o2 (by omega) (by omega), Option.bind_some, r i hi, hc.1, Option.bind_some, Option.bind_some]
  dsimp only
  rw [hc.2, Option.bind_some]
theorem st_of {F : Nat} {S : si_St} {T : List Nat} (h : bd S T) : ∃ S', f_J4_toString_0e30d F S = some S' ∧ st S' T ∧ dn [89, 90] 2 1010 S S' := by
  obtain ⟨⟨o87, o88⟩, ⟨f0, f1, f3⟩, ⟨l1, l2⟩, hr, ht, hfit, hs⟩ := h
  unfold f_J4_toString_0e30d f_J4_toString_0e30d_h0 f_J4_toString_0e30d_h3 f_J4_toString_0e30d_h8 f_J0_init_81219 f_J0_init_81219_h0 f_J0_init_81219_h6 f_J0_init_db425 f_J0_init_db425_h0 f_J0_init_db425_h8 f_J5_getValue_6d5f1 f_J5_getValue_6d5f1_h0
  have hfr : sd_frb S 89 = true := dr_frb (by decide) (by decide) hs ⟨by omega, by omega, by omega, by omega, by omega, by omega⟩
  have e0 : sd_no S 89 4 = some (sd_mkO S 89 4) := if_pos hfr
  obtain ⟨S1, hS1⟩ : ∃ S1, S1 = sd_mkO S 89 4 := ⟨_, rfl⟩
  rw [← hS1] at e0
  have d1 : dn [89] 1 4 S S1 := by rw [hS1]; exact dn.mkO (by decide) (by decide) (by decide)
  have p89 : sd_ok S1 89 := by rw [hS1]; exact dr_lv_mkO (by decide) (by decide)
  have b1 : bd S1 T := bd.go ⟨⟨o87, o88⟩, ⟨f0, f1, f3⟩, ⟨l1, l2⟩, hr, ht, hfit, hs⟩ d1 (by decide) (by decide) (by decide)
  obtain ⟨⟨p87, p88⟩, ⟨g0, g1, g3⟩, ⟨m1, m2⟩, hr1, -, hfit1, hs1⟩ := id b1
  have z89 : S1.1 89 0 = 0 := by rw [hS1]; exact (if_pos rfl : (if 89 = 89 then (0 : Int32) else S.1 89 0) = 0)
  rw [e0, Option.bind_some, if_neg (not_not_intro p87), if_neg (not_not_intro ⟨p87, g0⟩), Option.bind_some, if_neg (not_not_intro p87), bd_length b1, Option.bind_some]
  unfold f_J0_init_db425_h13
  dsimp only
  rw [if_neg (not_not_intro p87), bd_isLatin p87 g1, Option.bind_some]
  unfold f_J0_init_db425_h19 f_J0_init_db425_h35
  dsimp only
  rw [if_neg (by decide), dr_pi p89, Option.bind_some]
  obtain ⟨S2, hS2⟩ : ∃ S2, S2 = si_ps S1 89 1 0 := ⟨_, rfl⟩
  rw [← hS2]
  have d2 : dn [89] 0 0 S1 S2 := by rw [hS2]; exact dn.ps (by decide)
  have q88 : sd_ok S2 88 := d2.ok (by decide) p88
  have z2 : S2.1 89 0 = 0 := by rw [hS2, ps_o (by decide)]; exact z89
  have z21 : S2.1 89 1 = 0 := by rw [hS2, ps_e]
  have q89 : sd_ok S2 89 := by rw [hS2]; exact p89
  have e88 : S2.2.1 88 = S.2.1 88 := ((d1.tr d2).mo (D := [89]) (fun _ h => h) (Nat.le_refl _) (Nat.le_refl _)).1 88 (by decide) |>.2.1
  have l88 : sd_ln S2 88 = sd_ln S 88 := ((d2.2.2.1 88 (by decide) (by decide)).1).trans (d1.2.2.1 88 (by decide) (by decide)).1
  have hs2 : S2.2.2.2 0 < 87 ∧ S2.2.2.2 1 < 87 := by rw [(d2.2.1 (by decide)).1, (d2.2.1 (by decide)).2]; exact hs1
  have hfr90 : sd_frb S2 90 = true := dr_frb (by decide) (by decide) hs2 ⟨by omega, fun _ => z2, by omega, by omega, by omega, by omega⟩
  have hcr : ∃ S3, f_J7_copyOfRange_39247 F 0 (nI T.length) S2 = some S3 ∧ sd_ok S3 90 ∧ sd_ln S3 90 = T.length ∧ (∀ i, i < T.length → S3.2.1 90 i = S.2.1 88 i) ∧ dn [90] 1 1000 S2 S3 := by
    unfold f_J7_copyOfRange_39247 f_J7_copyOfRange_39247_h0 f_J7_copyOfRange_39247_h21 f_J7_copyOfRange_39247_h10 f_J7_copyOfRange_39247_h16
    rw [if_pos rfl, dr_al q88, Option.bind_some, l88]
    by_cases hc : T.length = sd_ln S 88
    · rw [if_pos (by rw [hc])]
      have ec : sd_cn S2 88 90 = some (sd_mkC S2 88 90) := by
        unfold sd_cn
        exact if_pos ⟨q88, by decide, hfr90, by omega, List.all_eq_true.mpr (fun i _ => by rw [e88]; exact hfit _)⟩
      have o90 : sd_ok (sd_mkC S2 88 90) 90 := dr_lv_mkA (S := S2) (n := sd_ln S2 88) (by decide) (by decide)
      have dC : dn [90] 1 (sd_ln S2 88) S2 (sd_mkC S2 88 90) := dn.mkC (by decide) (by decide) (by decide)
      rw [ec, Option.bind_some, if_neg (not_not_intro o90)]
      refine ⟨_, rfl, o90, ?_, fun i hi => ?_, dC.up (Nat.le_refl _) (by omega)⟩
      · have : sd_ln (sd_mkC S2 88 90) 90 = sd_ln S2 88 := sd_mkA_ln (S := S2)
        omega
      · rw [← e88]
        exact (if_pos rfl : (if 90 = 90 then S2.2.1 88 i else S2.2.1 90 i) = _)
    · rw [if_neg (fun h => hc ((nI_eq (by omega) (by omega)).mp h))]
      unfold f_J7_copyOfRangeByte_39247 f_J7_copyOfRangeByte_39247_h0 f_J7_copyOfRangeByte_39247_h12 f_J7_checkLength_df160
      have es : nI T.length - 0 = nI T.length := pk_sub (b := 0) (by omega)
      have dA : dn [90] 1 T.length S2 (sd_mkA S2 90 T.length) := dn.mkA (by decide) (by decide) (by decide)
      have r88 := dA.ok (by decide) q88
      have rl : sd_ln (sd_mkA S2 90 T.length) 88 = sd_ln S 88 := (dA.2.2.1 88 (by decide) (by decide)).1.trans l88
      have es2 : nI (sd_ln S 88) - 0 = nI (sd_ln S 88) := pk_sub (b := 0) (by omega)
      have o90 : sd_ok (sd_mkA S2 90 T.length) 90 := dr_lv_mkA (by decide) (by decide)
      rw [if_pos (nI_pos' (by omega)), Option.bind_some, es, Option.bind_some, dr_na hfr90 (by omega), Option.bind_some, dr_al r88, Option.bind_some, rl, es2, bd_min (by omega) (by omega), if_pos (by omega)]
      have hcp : sd_cp (sd_mkA S2 90 T.length) 88 0 90 0 (nI T.length) = some (sd_ca (sd_mkA S2 90 T.length) (S2.2.1 88) 90 0 0 T.length) := by
        unfold sd_cp
        rw [nI_clamp (n := T.length) (by omega), rl, sd_mkA_ln]
        refine if_pos ⟨r88, o90, by decide, by decide, nI_pos (by omega), by show 0 + _ ≤ _; omega, by show 0 + _ ≤ _; omega, ?_⟩
        exact List.all_eq_true.mpr (fun i _ => by
          show fits .byte (.int (S2.2.1 88 _)) = true
          rw [e88]; exact hfit _)
      rw [hcp, Option.bind_some, Option.bind_some]
      refine ⟨_, rfl, o90, sd_mkA_ln (S := S2), fun i hi => ?_, (dA.tr (dn.ca (by decide))).up (by omega) (by omega)⟩
      rw [← e88]
      show (if 90 = 90 ∧ 0 ≤ i ∧ i < 0 + T.length then S2.2.1 88 (0 + (i - 0)) else _) = _
      rw [if_pos ⟨rfl, Nat.zero_le _, by omega⟩, Nat.zero_add, Nat.sub_zero]
  obtain ⟨S3, e3, o90, l90, r90, d3⟩ := hcr
  have q89' : sd_ok S3 89 := d3.ok (by decide) q89
  rw [e3, Option.bind_some, dr_pi q89', Option.bind_some, Option.bind_some, Option.bind_some]
  refine ⟨_, rfl, ⟨⟨q89', o90⟩, ⟨?_, ?_⟩, l90, fun i hi => ?_, ht⟩, ?_⟩
  · rw [ps_e]; exact one_ne
  · rw [ps_o (by decide), (d3.1 89 (by decide)).1]; exact z21
  · show S3.2.1 90 i = _
    rw [r90 i hi]; exact hr i hi
  · have m1 : ∀ {a b : Nat} {C : List Nat} {S S' : si_St}, dn C a b S S' → (∀ k ∈ C, k ∈ [89, 90]) → dn [89, 90] a b S S' := fun d hs => d.mo hs (Nat.le_refl _) (Nat.le_refl _)
    exact ((m1 d1 (by decide)).tr ((m1 d2 (by decide)).tr ((m1 d3 (by decide)).tr (m1 (dn.ps (C := [89]) (by decide)) (by decide))))).up (by omega) (by omega)
-- four characters in a number, and back
def ch (T : List Nat) (j : Nat) : Nat := if j < T.length then T.getD j 0 else 32
theorem ch_128 {T : List Nat} (h : ∀ t ∈ T, t < 128) (j : Nat) : ch T j < 128 := by
  unfold ch
  split
  · exact getD_128 h j
  · decide
def wv (T : List Nat) (b : Nat) : Nat → Nat
  | 0 => 0
  | j + 1 => wv T b j * 256 + ch T (b + j)
theorem wv_lt {T : List Nat} (h : ∀ t ∈ T, t < 128) (b : Nat) : ∀ j, wv T b j < 256 ^ j
  | 0 => by show 0 < 1; decide
  | j + 1 => by
    have h1 := wv_lt h b j
    have h2 := ch_128 h (b + j)
    show wv T b j * 256 + ch T (b + j) < 256 ^ (j + 1)
    rw [Nat.pow_succ]
    omega
theorem wv_or {w c : Nat} (hw : w < 2 ^ 24) (hc : c < 256) : (nI w <<< ((8 : Int32) &&& 31)) ||| nI c = nI (w * 256 + c) := by
  rw [pk_shlN (8 &&& 31) 8 (by decide) (by omega), fa_or]
  congr 1
  have : w * 2 ^ 8 ||| c = w * 2 ^ 8 + c := by
    have := Nat.shiftLeft_add_eq_or_of_lt (i := 8) (b := c) (by omega) w
    rw [Nat.shiftLeft_eq] at this
    exact this.symm
  exact this
theorem i2b_mod {x : Nat} (hx : x < 2 ^ 32) (h : x % 256 < 128) : si_i2b (nI x) = nI (x % 256) := by
  have key : ∀ c, c < 128 → si_i2b (nI c) = nI c := by decide +kernel
  rw [← key _ h]
  have hb : ∀ (n : Nat) (i : Nat), i < 8 → bt (nI n) i = n.testBit i := fun n i hi => by
    unfold bt
    show (Int32.ofNat n).toBitVec.getLsbD i = _
    rw [Int32.toBitVec_ofNat', BitVec.getLsbD_ofNat, decide_eq_true (show i < 32 by omega), Bool.true_and]
  refine sm_i2b_bits (fun i hi => ?_)
  rw [hb x i hi, hb (x % 256) i hi, show (256 : Nat) = 2 ^ 8 by decide, Nat.testBit_mod_two_pow, decide_eq_true hi, Bool.true_and]
theorem ap_bN {w s : Nat} (hw : w < 2 ^ 32) (hs : s ≤ 24) (h : w / 2 ^ s % 256 < 128) : ap_b (nI w) s = nI (w / 2 ^ s % 256) := by
  unfold ap_b
  have hsh : si_ushr (nI w) (nI s) = nI (w / 2 ^ s) := sb_u (nI s) s hw (by
    have key : ∀ s, s ≤ 24 → (((nI s).toUInt32 &&& Int32.toUInt32 31).toBitVec % 32).toNat = s := by decide +kernel
    exact key s hs)
  rw [hsh]
  exact i2b_mod (Nat.lt_of_le_of_lt (Nat.div_le_self _ _) hw) h
theorem ap_4N {T : List Nat} (h : ∀ t ∈ T, t < 128) (b : Nat) : ap_4 (nI (wv T b 4)) = [nI (ch T b), nI (ch T (b + 1)), nI (ch T (b + 2)), nI (ch T (b + 3))] := by
  have c0 := ch_128 h b
  have c1 := ch_128 h (b + 1)
  have c2 := ch_128 h (b + 2)
  have c3 := ch_128 h (b + 3)
  have hw : wv T b 4 = ((ch T b * 256 + ch T (b + 1)) * 256 + ch T (b + 2)) * 256 + ch T (b + 3) := by
    show (((0 * 256 + ch T (b + 0)) * 256 + ch T (b + 1)) * 256 + ch T (b + 2)) * 256 + ch T (b + 3) = _
    rw [Nat.zero_mul, Nat.zero_add, Nat.add_zero]
  generalize ch T b = x0 at *
  generalize ch T (b + 1) = x1 at *
  generalize ch T (b + 2) = x2 at *
  generalize ch T (b + 3) = x3 at *
  rw [hw]
  have e24 : (((x0 * 256 + x1) * 256 + x2) * 256 + x3) / 2 ^ 24 % 256 = x0 := by omega
  have e16 : (((x0 * 256 + x1) * 256 + x2) * 256 + x3) / 2 ^ 16 % 256 = x1 := by omega
  have e8 : (((x0 * 256 + x1) * 256 + x2) * 256 + x3) / 2 ^ 8 % 256 = x2 := by omega
  have e0 : (((x0 * 256 + x1) * 256 + x2) * 256 + x3) / 2 ^ 0 % 256 = x3 := by omega
  unfold ap_4
  rw [ap_bN (by omega) (by decide) (by omega), ap_bN (by omega) (by decide) (by omega), ap_bN (by omega) (by decide) (by omega), ap_bN (by omega) (by decide) (by omega), e24, e16, e8, e0]
theorem ap_tg : ∀ (bs : List Int32) (t : Nat → Int32) (n i : Nat), ap_t t n bs i = if n ≤ i ∧ i < n + bs.length then bs.getD (i - n) 0 else t i
  | [], t, n, i => by
    rw [if_neg (by rw [List.length_nil]; omega)]
    rfl
  | b :: bs, t, n, i => by
    show ap_t (fun i => if i = n then b else t i) (n + 1) bs i = _
    rw [ap_tg bs _ (n + 1) i, List.length_cons]
    by_cases h1 : i = n
    · rw [if_neg (by omega), if_pos h1, if_pos (by omega), h1, Nat.sub_self]
      rfl
    · by_cases h2 : n + 1 ≤ i ∧ i < n + 1 + bs.length
      · rw [if_pos h2, if_pos (by omega), show i - n = i - (n + 1) + 1 by omega]
        rfl
      · rw [if_neg h2, if_neg h1, if_neg (by omega)]
