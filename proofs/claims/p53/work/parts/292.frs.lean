def on_J6_numberOfTrailingZeros_0f7a4 : List Nat := []
theorem fr_J6_numberOfTrailingZeros_0f7a4_h74 (F : Nat) (x0 : Int32) (x1 : Int32) (S : si_St) (o : Int32 × si_St) (h : f_J6_numberOfTrailingZeros_0f7a4_h74 F x0 x1 S = some o) : sd_on on_J6_numberOfTrailingZeros_0f7a4 S o.2 := by
  have g : sd_on on_J6_numberOfTrailingZeros_0f7a4 S S := sd_on.rf
  unfold f_J6_numberOfTrailingZeros_0f7a4_h74 at h
  obtain rfl := Option.some.inj h
  exact g
theorem fr_J6_numberOfTrailingZeros_0f7a4_h62 (F : Nat) (x0 : Int32) (x1 : Int32) (S : si_St) (o : Int32 × si_St) (h : f_J6_numberOfTrailingZeros_0f7a4_h62 F x0 x1 S = some o) : sd_on on_J6_numberOfTrailingZeros_0f7a4 S o.2 := by
  have g : sd_on on_J6_numberOfTrailingZeros_0f7a4 S S := sd_on.rf
  unfold f_J6_numberOfTrailingZeros_0f7a4_h62 at h
  rcases Decidable.em (x0 ≤ 4) with c64 | c64
  · have h := si_ip c64 h
    exact g.tr (fr_J6_numberOfTrailingZeros_0f7a4_h74 F _ _ _ _ h)
  · have h := si_in c64 h
    obtain ⟨v1, ev1, h⟩ := si_ob h
    obtain ⟨v2, ev2, h⟩ := si_ob h
    exact g.tr (fr_J6_numberOfTrailingZeros_0f7a4_h74 F _ _ _ _ h)
theorem fr_J6_numberOfTrailingZeros_0f7a4_h49 (F : Nat) (x0 : Int32) (x1 : Int32) (S : si_St) (o : Int32 × si_St) (h : f_J6_numberOfTrailingZeros_0f7a4_h49 F x0 x1 S = some o) : sd_on on_J6_numberOfTrailingZeros_0f7a4 S o.2 := by
  have g : sd_on on_J6_numberOfTrailingZeros_0f7a4 S S := sd_on.rf
  unfold f_J6_numberOfTrailingZeros_0f7a4_h49 at h
  rcases Decidable.em (x0 ≤ 16) with c52 | c52
  · have h := si_ip c52 h
    exact g.tr (fr_J6_numberOfTrailingZeros_0f7a4_h62 F _ _ _ _ h)
  · have h := si_in c52 h
    obtain ⟨v3, ev3, h⟩ := si_ob h
    obtain ⟨v4, ev4, h⟩ := si_ob h
    exact g.tr (fr_J6_numberOfTrailingZeros_0f7a4_h62 F _ _ _ _ h)
theorem fr_J6_numberOfTrailingZeros_0f7a4_h34 (F : Nat) (x0 : Int32) (x1 : Int32) (S : si_St) (o : Int32 × si_St) (h : f_J6_numberOfTrailingZeros_0f7a4_h34 F x0 x1 S = some o) : sd_on on_J6_numberOfTrailingZeros_0f7a4 S o.2 := by
  have g : sd_on on_J6_numberOfTrailingZeros_0f7a4 S S := sd_on.rf
  unfold f_J6_numberOfTrailingZeros_0f7a4_h34 at h
  rcases Decidable.em (x0 ≤ 256) with c38 | c38
  · have h := si_ip c38 h
    exact g.tr (fr_J6_numberOfTrailingZeros_0f7a4_h49 F _ _ _ _ h)
  · have h := si_in c38 h
    obtain ⟨v5, ev5, h⟩ := si_ob h
    obtain ⟨v6, ev6, h⟩ := si_ob h
    exact g.tr (fr_J6_numberOfTrailingZeros_0f7a4_h49 F _ _ _ _ h)
theorem fr_J6_numberOfTrailingZeros_0f7a4 (F : Nat) (x0 : Int32) (S : si_St) (o : Int32 × si_St) (h : f_J6_numberOfTrailingZeros_0f7a4 F x0 S = some o) : sd_on on_J6_numberOfTrailingZeros_0f7a4 S o.2 := by
  have g : sd_on on_J6_numberOfTrailingZeros_0f7a4 S S := sd_on.rf
  unfold f_J6_numberOfTrailingZeros_0f7a4 at h
  obtain ⟨v7, ev7, h⟩ := si_ob h
  rcases Decidable.em (0 < v7) with c9 | c9
  · have h := si_ip c9 h
    rcases Decidable.em (v7 ≤ 65536) with c23 | c23
    · have h := si_ip c23 h
      exact g.tr (fr_J6_numberOfTrailingZeros_0f7a4_h34 F _ _ _ _ h)
    · have h := si_in c23 h
      obtain ⟨v8, ev8, h⟩ := si_ob h
      obtain ⟨v9, ev9, h⟩ := si_ob h
      exact g.tr (fr_J6_numberOfTrailingZeros_0f7a4_h34 F _ _ _ _ h)
  · have h := si_in c9 h
    obtain rfl := Option.some.inj h
    exact g
def on_J6_bitCount_0f7a4 : List Nat := []
theorem fr_J6_bitCount_0f7a4 (F : Nat) (x0 : Int32) (S : si_St) (o : Int32 × si_St) (h : f_J6_bitCount_0f7a4 F x0 S = some o) : sd_on on_J6_bitCount_0f7a4 S o.2 := by
  have g : sd_on on_J6_bitCount_0f7a4 S S := sd_on.rf
  unfold f_J6_bitCount_0f7a4 at h
  obtain ⟨v1, ev1, h⟩ := si_ob h
  obtain ⟨v2, ev2, h⟩ := si_ob h
  obtain ⟨v3, ev3, h⟩ := si_ob h
  obtain ⟨v4, ev4, h⟩ := si_ob h
  obtain ⟨v5, ev5, h⟩ := si_ob h
  obtain rfl := Option.some.inj h
  exact g
theorem fr_J7_fill_53178_h5 (F : Nat) (k0 : Nat) (hk0 : si_kd k0 = 12) (r5 : Int32 → Int32 → Int32 → si_St → Option (si_St)) (hr5 : ∀ (x1 : Int32) (x2 : Int32) (x3 : Int32) (S : si_St) (o : si_St), r5 x1 x2 x3 S = some o → sd_on [k0] S o) (x1 : Int32) (x2 : Int32) (x3 : Int32) (S : si_St) (o : si_St) (h : f_J7_fill_53178_h5 F k0 r5 x1 x2 x3 S = some o) : sd_on [k0] S o := by
  have g : sd_on [k0] S S := sd_on.rf
  unfold f_J7_fill_53178_h5 at h
  rcases Decidable.em (x3 ≤ x2) with c7 | c7
  · have h := si_ip c7 h
    obtain rfl := Option.some.inj h
    exact g
  · have h := si_in c7 h
    obtain ⟨S1, eS1, h⟩ := si_ob h
    have g := g.tr (on_wr eS1 (List.mem_singleton.mpr rfl))
    obtain ⟨v2, ev2, h⟩ := si_ob h
    exact g.tr (hr5 _ _ _ _ _ h)
theorem fr_J7_fill_53178_l5 (F : Nat) (k0 : Nat) (hk0 : si_kd k0 = 12) : ∀ (n : Nat) (x1 : Int32) (x2 : Int32) (x3 : Int32) (S : si_St) (o : si_St), f_J7_fill_53178_l5 F k0 n x1 x2 x3 S = some o → sd_on [k0] S o := by
  intro n
  induction n with
  | zero => intro x1 x2 x3 S o h; cases h
  | succ n ih =>
    intro x1 x2 x3 S o h
    exact fr_J7_fill_53178_h5 F k0 hk0 (f_J7_fill_53178_l5 F k0 n) ih x1 x2 x3 S o h
theorem fr_J7_fill_53178 (F : Nat) (k0 : Nat) (hk0 : si_kd k0 = 12) (x1 : Int32) (S : si_St) (o : si_St) (h : f_J7_fill_53178 F k0 x1 S = some o) : sd_on [k0] S o := by
  have g : sd_on [k0] S S := sd_on.rf
  unfold f_J7_fill_53178 at h
  obtain ⟨v3, ev3, h⟩ := si_ob h
  exact g.tr (fr_J7_fill_53178_l5 F k0 hk0 F _ _ _ _ _ h)
def on_J0_coder_7d493 : List Nat := []
theorem fr_J0_coder_7d493 (F : Nat) (g0 : Nat) (hg0 : g0 < 17) (S : si_St) (o : Int32 × si_St) (h : f_J0_coder_7d493 F g0 S = some o) : sd_on on_J0_coder_7d493 S o.2 := by
  have g : sd_on on_J0_coder_7d493 S S := sd_on.rf
  unfold f_J0_coder_7d493 at h
  rcases Decidable.em ((1 : Int32) = 0) with c3 | c3
  · have h := si_ip c3 h
    cases h
  · have h := si_in c3 h
    obtain ⟨v1, ev1, h⟩ := si_ob h
    obtain rfl := Option.some.inj h
    exact g
def on_J0_length_8abf5 : List Nat := []
theorem fr_J0_length_8abf5 (F : Nat) (g0 : Nat) (hg0 : g0 < 17) (S : si_St) (o : Int32 × si_St) (h : f_J0_length_8abf5 F g0 S = some o) : sd_on on_J0_length_8abf5 S o.2 := by
  have g : sd_on on_J0_length_8abf5 S S := sd_on.rf
  unfold f_J0_length_8abf5 at h
  obtain ⟨q1, eq1, h⟩ := si_ob h
  have g := g.tr ((fr_J0_coder_7d493 F g0 hg0 S q1 eq1).mono (by decide))
  obtain rfl := Option.some.inj h
  exact g
def on_J0_isLatin1_aae02 : List Nat := []
theorem fr_J0_isLatin1_aae02_h18 (F : Nat) (g0 : Nat) (hg0 : g0 < 17) (t0 : Int32) (S : si_St) (o : Int32 × si_St) (h : f_J0_isLatin1_aae02_h18 F g0 t0 S = some o) : sd_on on_J0_isLatin1_aae02 S o.2 := by
  have g : sd_on on_J0_isLatin1_aae02 S S := sd_on.rf
  unfold f_J0_isLatin1_aae02_h18 at h
  obtain ⟨v1, ev1, h⟩ := si_ob h
  obtain rfl := Option.some.inj h
  exact g
theorem fr_J0_isLatin1_aae02_h17 (F : Nat) (g0 : Nat) (hg0 : g0 < 17) (S : si_St) (o : Int32 × si_St) (h : f_J0_isLatin1_aae02_h17 F g0 S = some o) : sd_on on_J0_isLatin1_aae02 S o.2 := by
  have g : sd_on on_J0_isLatin1_aae02 S S := sd_on.rf
  unfold f_J0_isLatin1_aae02_h17 at h
  exact g.tr (fr_J0_isLatin1_aae02_h18 F g0 hg0 _ _ _ h)
theorem fr_J0_isLatin1_aae02 (F : Nat) (g0 : Nat) (hg0 : g0 < 17) (S : si_St) (o : Int32 × si_St) (h : f_J0_isLatin1_aae02 F g0 S = some o) : sd_on on_J0_isLatin1_aae02 S o.2 := by
  have g : sd_on on_J0_isLatin1_aae02 S S := sd_on.rf
  unfold f_J0_isLatin1_aae02 at h
  rcases Decidable.em ((1 : Int32) = 0) with c3 | c3
  · have h := si_ip c3 h
    exact g.tr (fr_J0_isLatin1_aae02_h17 F g0 hg0 _ _ h)
  · have h := si_in c3 h
    rcases Decidable.em ((0 : Int32) = 0) with c10 | c10
    · have h := si_ip c10 h
      exact g.tr (fr_J0_isLatin1_aae02_h18 F g0 hg0 _ _ _ h)
    · have h := si_in c10 h
      exact g.tr (fr_J0_isLatin1_aae02_h17 F g0 hg0 _ _ h)
def on_J3_checkIndex_8e157 : List Nat := []
theorem fr_J3_checkIndex_8e157 (F : Nat) (x0 : Int32) (x1 : Int32) (S : si_St) (o : Int32 × si_St) (h : f_J3_checkIndex_8e157 F x0 x1 S = some o) : sd_on on_J3_checkIndex_8e157 S o.2 := by
  have g : sd_on on_J3_checkIndex_8e157 S S := sd_on.rf
  unfold f_J3_checkIndex_8e157 at h
  rcases Decidable.em (x0 < 0) with c1 | c1
  · have h := si_ip c1 h
    cases h
  · have h := si_in c1 h
    rcases Decidable.em (x0 < x1) with c6 | c6
    · have h := si_ip c6 h
      obtain rfl := Option.some.inj h
      exact g
    · have h := si_in c6 h
      cases h
def on_J0_checkIndex_df160 : List Nat := []
theorem fr_J0_checkIndex_df160 (F : Nat) (x0 : Int32) (x1 : Int32) (S : si_St) (o : si_St) (h : f_J0_checkIndex_df160 F x0 x1 S = some o) : sd_on on_J0_checkIndex_df160 S o := by
  have g : sd_on on_J0_checkIndex_df160 S S := sd_on.rf
  unfold f_J0_checkIndex_df160 at h
  obtain ⟨q1, eq1, h⟩ := si_ob h
  have g := g.tr ((fr_J3_checkIndex_8e157 F x0 x1 S q1 eq1).mono (by decide))
  obtain rfl := Option.some.inj h
  exact g
def on_J1_charAt_3b067 : List Nat := []
theorem fr_J1_charAt_3b067 (F : Nat) (g0 : Nat) (hg0 : g0 < 17) (x1 : Int32) (S : si_St) (o : Int32 × si_St) (h : f_J1_charAt_3b067 F g0 x1 S = some o) : sd_on on_J1_charAt_3b067 S o.2 := by
  have g : sd_on on_J1_charAt_3b067 S S := sd_on.rf
  unfold f_J1_charAt_3b067 at h
  obtain ⟨S1, eS1, h⟩ := si_ob h
  have g := g.tr ((fr_J0_checkIndex_df160 F x1 (si_sl g0) S S1 eS1).mono (by decide))
  obtain ⟨v2, ev2, h⟩ := si_ob h
  obtain ⟨v3, ev3, h⟩ := si_ob h
  obtain rfl := Option.some.inj h
  exact g
def on_J0_charAt_5068e : List Nat := []
theorem fr_J0_charAt_5068e (F : Nat) (g0 : Nat) (hg0 : g0 < 17) (x1 : Int32) (S : si_St) (o : Int32 × si_St) (h : f_J0_charAt_5068e F g0 x1 S = some o) : sd_on on_J0_charAt_5068e S o.2 := by
  have g : sd_on on_J0_charAt_5068e S S := sd_on.rf
  unfold f_J0_charAt_5068e at h
  obtain ⟨q1, eq1, h⟩ := si_ob h
  have g := g.tr ((fr_J0_isLatin1_aae02 F g0 hg0 S q1 eq1).mono (by decide))
  rcases Decidable.em (q1.1 = 0) with c4 | c4
  · have h := si_ip c4 h
    cases h
  · have h := si_in c4 h
    obtain ⟨q2, eq2, h⟩ := si_ob h
    have g := g.tr ((fr_J1_charAt_3b067 F g0 hg0 x1 q1.2 q2 eq2).mono (by decide))
    obtain ⟨v3, ev3, h⟩ := si_ob h
    obtain rfl := Option.some.inj h
    exact g
def on_X2_clear : List Nat := [69, 70, 71, 72, 73, 74, 75, 76, 77, 78, 79, 80, 81, 82, 83, 84, 85, 86]
theorem fr_X2_clear (F : Nat) (k0 : Nat) (hk0 : si_kd k0 = 2) (S : si_St) (o : si_St) (h : f_X2_clear F k0 S = some o) : sd_on on_X2_clear S o := by
  have g : sd_on on_X2_clear S S := sd_on.rf
  unfold f_X2_clear at h
  obtain ⟨S1, eS1, h⟩ := si_ob h
  have g := g.tr (on_pt eS1 (sd_mkin0 hk0 (by decide)))
  obtain ⟨S2, eS2, h⟩ := si_ob h
  have g := g.tr (on_pt eS2 (sd_mkin0 hk0 (by decide)))
  obtain ⟨S3, eS3, h⟩ := si_ob h
  have g := g.tr (on_pt eS3 (sd_mkin0 hk0 (by decide)))
  obtain ⟨S4, eS4, h⟩ := si_ob h
  have g := g.tr (on_pt eS4 (sd_mkin0 hk0 (by decide)))
  obtain ⟨S5, eS5, h⟩ := si_ob h
  have g := g.tr ((fr_J7_fill_53178 F (k0 + 8) (sk_2_8 hk0) 0 S4 S5 eS5).mono (fun k hk => by rw [List.mem_singleton.mp hk]; exact sd_mkin hk0 (by decide) (by decide)))
  obtain rfl := Option.some.inj h
  exact g
def on_X1_firstNotBelow : List Nat := []
theorem fr_X1_firstNotBelow_h44 (F : Nat) (r7 : Int64 → Int32 → Int32 → si_St → Option (Int32 × si_St)) (hr7 : ∀ (x1 : Int64) (x3 : Int32) (x4 : Int32) (S : si_St) (o : Int32 × si_St), r7 x1 x3 x4 S = some o → sd_on on_X1_firstNotBelow S o.2) (x1 : Int64) (x3 : Int32) (x4 : Int32) (S : si_St) (o : Int32 × si_St) (h : f_X1_firstNotBelow_h44 F r7 x1 x3 x4 S = some o) : sd_on on_X1_firstNotBelow S o.2 := by
  have g : sd_on on_X1_firstNotBelow S S := sd_on.rf
  unfold f_X1_firstNotBelow_h44 at h
  obtain ⟨v1, ev1, h⟩ := si_ob h
  exact g.tr (hr7 _ _ _ _ _ h)
theorem fr_X1_firstNotBelow_h7 (F : Nat) (r7 : Int64 → Int32 → Int32 → si_St → Option (Int32 × si_St)) (hr7 : ∀ (x1 : Int64) (x3 : Int32) (x4 : Int32) (S : si_St) (o : Int32 × si_St), r7 x1 x3 x4 S = some o → sd_on on_X1_firstNotBelow S o.2) (x1 : Int64) (x3 : Int32) (x4 : Int32) (S : si_St) (o : Int32 × si_St) (h : f_X1_firstNotBelow_h7 F r7 x1 x3 x4 S = some o) : sd_on on_X1_firstNotBelow S o.2 := by
  have g : sd_on on_X1_firstNotBelow S S := sd_on.rf
  unfold f_X1_firstNotBelow_h7 at h
  rcases Decidable.em (x4 ≤ 0) with c9 | c9
  · have h := si_ip c9 h
    obtain rfl := Option.some.inj h
    exact g
  · have h := si_in c9 h
    rcases Decidable.em ((S.1 3 5) < (x3 + x4)) with c20 | c20
    · have h := si_ip c20 h
      exact g.tr (fr_X1_firstNotBelow_h44 F r7 hr7 _ _ _ _ _ h)
    · have h := si_in c20 h
      obtain ⟨v2, ev2, h⟩ := si_ob h
      rcases Decidable.em (0 ≤ (lg_cmp v2 x1)) with c36 | c36
      · have h := si_ip c36 h
        exact g.tr (fr_X1_firstNotBelow_h44 F r7 hr7 _ _ _ _ _ h)
      · have h := si_in c36 h
        obtain ⟨v3, ev3, h⟩ := si_ob h
        exact g.tr (fr_X1_firstNotBelow_h44 F r7 hr7 _ _ _ _ _ h)
theorem fr_X1_firstNotBelow_l7 (F : Nat) : ∀ (n : Nat) (x1 : Int64) (x3 : Int32) (x4 : Int32) (S : si_St) (o : Int32 × si_St), f_X1_firstNotBelow_l7 F n x1 x3 x4 S = some o → sd_on on_X1_firstNotBelow S o.2 := by
  intro n
  induction n with
  | zero => intro x1 x3 x4 S o h; cases h
  | succ n ih =>
    intro x1 x3 x4 S o h
    exact fr_X1_firstNotBelow_h7 F (f_X1_firstNotBelow_l7 F n) ih x1 x3 x4 S o h
theorem fr_X1_firstNotBelow (F : Nat) (x1 : Int64) (S : si_St) (o : Int32 × si_St) (h : f_X1_firstNotBelow F x1 S = some o) : sd_on on_X1_firstNotBelow S o.2 := by
  have g : sd_on on_X1_firstNotBelow S S := sd_on.rf
  unfold f_X1_firstNotBelow at h
  exact g.tr (fr_X1_firstNotBelow_l7 F F _ _ _ _ _ h)
def on_X1_listWays : List Nat := [3, 5]
theorem fr_X1_listWays_h67 (F : Nat) (k1 : Nat) (hk1 : si_kd k1 = 2) (r15 : Int32 → Int32 → si_St → Option (si_St)) (r67 : Int32 → Int32 → Int64 → Int64 → Int32 → si_St → Option (si_St)) (hr15 : ∀ (x3 : Int32) (x4 : Int32) (S : si_St) (o : si_St), r15 x3 x4 S = some o → sd_on on_X1_listWays S o) (hr67 : ∀ (x3 : Int32) (x4 : Int32) (x7 : Int64) (x9 : Int64) (x11 : Int32) (S : si_St) (o : si_St), r67 x3 x4 x7 x9 x11 S = some o → sd_on on_X1_listWays S o) (x3 : Int32) (x4 : Int32) (x7 : Int64) (x9 : Int64) (x11 : Int32) (S : si_St) (o : si_St) (h : f_X1_listWays_h67 F k1 r15 r67 x3 x4 x7 x9 x11 S = some o) : sd_on on_X1_listWays S o := by
  have g : sd_on on_X1_listWays S S := sd_on.rf
  unfold f_X1_listWays_h67 at h
  rcases Decidable.em ((S.1 3 3) ≤ x11) with c73 | c73
  · have h := si_ip c73 h
    obtain ⟨S1, eS1, h⟩ := si_ob h
    have g := g.tr (on_pt eS1 (by decide))
    obtain ⟨v2, ev2, h⟩ := si_ob h
    exact g.tr (hr15 _ _ _ _ h)
  · have h := si_in c73 h
    obtain ⟨v3, ev3, h⟩ := si_ob h
    obtain ⟨S4, eS4, h⟩ := si_ob h
    have g := g.tr (on_wl eS4 (by decide))
    obtain ⟨v5, ev5, h⟩ := si_ob h
    obtain ⟨S6, eS6, h⟩ := si_ob h
    have g := g.tr (on_wl eS6 (by decide))
    obtain ⟨v7, ev7, h⟩ := si_ob h
    exact g.tr (hr67 _ _ _ _ _ _ _ h)
theorem fr_X1_listWays_l67 (F : Nat) (k1 : Nat) (hk1 : si_kd k1 = 2) (r15 : Int32 → Int32 → si_St → Option (si_St)) (hr15 : ∀ (x3 : Int32) (x4 : Int32) (S : si_St) (o : si_St), r15 x3 x4 S = some o → sd_on on_X1_listWays S o) : ∀ (n : Nat) (x3 : Int32) (x4 : Int32) (x7 : Int64) (x9 : Int64) (x11 : Int32) (S : si_St) (o : si_St), f_X1_listWays_l67 F k1 r15 n x3 x4 x7 x9 x11 S = some o → sd_on on_X1_listWays S o := by
  intro n
  induction n with
  | zero => intro x3 x4 x7 x9 x11 S o h; cases h
  | succ n ih =>
    intro x3 x4 x7 x9 x11 S o h
    exact fr_X1_listWays_h67 F k1 hk1 r15 (f_X1_listWays_l67 F k1 r15 n) hr15 ih x3 x4 x7 x9 x11 S o h
theorem fr_X1_listWays_h15 (F : Nat) (k1 : Nat) (hk1 : si_kd k1 = 2) (r15 : Int32 → Int32 → si_St → Option (si_St)) (hr15 : ∀ (x3 : Int32) (x4 : Int32) (S : si_St) (o : si_St), r15 x3 x4 S = some o → sd_on on_X1_listWays S o) (x3 : Int32) (x4 : Int32) (S : si_St) (o : si_St) (h : f_X1_listWays_h15 F k1 r15 x3 x4 S = some o) : sd_on on_X1_listWays S o := by
  have g : sd_on on_X1_listWays S S := sd_on.rf
  unfold f_X1_listWays_h15 at h
  rcases Decidable.em (x3 ≤ x4) with c18 | c18
  · have h := si_ip c18 h
    obtain rfl := Option.some.inj h
    exact g
  · have h := si_in c18 h
    obtain ⟨v8, ev8, h⟩ := si_ob h
    obtain ⟨v9, ev9, h⟩ := si_ob h
    obtain ⟨v10, ev10, h⟩ := si_ob h
    obtain ⟨v11, ev11, h⟩ := si_ob h
    exact g.tr (fr_X1_listWays_l67 F k1 hk1 r15 hr15 F _ _ _ _ _ _ _ h)
theorem fr_X1_listWays_l15 (F : Nat) (k1 : Nat) (hk1 : si_kd k1 = 2) : ∀ (n : Nat) (x3 : Int32) (x4 : Int32) (S : si_St) (o : si_St), f_X1_listWays_l15 F k1 n x3 x4 S = some o → sd_on on_X1_listWays S o := by
  intro n
  induction n with
  | zero => intro x3 x4 S o h; cases h
  | succ n ih =>
    intro x3 x4 S o h
    exact fr_X1_listWays_h15 F k1 hk1 (f_X1_listWays_l15 F k1 n) ih x3 x4 S o h
theorem fr_X1_listWays (F : Nat) (k1 : Nat) (hk1 : si_kd k1 = 2) (x2 : Int32) (x3 : Int32) (S : si_St) (o : si_St) (h : f_X1_listWays F k1 x2 x3 S = some o) : sd_on on_X1_listWays S o := by
  have g : sd_on on_X1_listWays S S := sd_on.rf
  unfold f_X1_listWays at h
  obtain ⟨S12, eS12, h⟩ := si_ob h
  have g := g.tr (on_wl eS12 (by decide))
  obtain ⟨S13, eS13, h⟩ := si_ob h
  have g := g.tr (on_pt eS13 (by decide))
  exact g.tr (fr_X1_listWays_l15 F k1 hk1 F _ _ _ _ h)
def on_X1_sortWays : List Nat := [3, 6]
theorem fr_X1_sortWays_h7 (F : Nat) (r7 : Int32 → si_St → Option (si_St)) (hr7 : ∀ (x1 : Int32) (S : si_St) (o : si_St), r7 x1 S = some o → sd_on on_X1_sortWays S o) (x1 : Int32) (S : si_St) (o : si_St) (h : f_X1_sortWays_h7 F r7 x1 S = some o) : sd_on on_X1_sortWays S o := by
  have g : sd_on on_X1_sortWays S S := sd_on.rf
  unfold f_X1_sortWays_h7 at h
  rcases Decidable.em ((S.1 3 3) ≤ x1) with c12 | c12
  · have h := si_ip c12 h
    obtain rfl := Option.some.inj h
    exact g
  · have h := si_in c12 h
    obtain ⟨v1, ev1, h⟩ := si_ob h
    obtain ⟨q2, eq2, h⟩ := si_ob h
    have g := g.tr ((fr_X1_firstNotBelow F v1 S q2 eq2).mono (by decide))
    obtain ⟨S3, eS3, h⟩ := si_ob h
    have g := g.tr (on_cpl eS3 (by decide))
    obtain ⟨v4, ev4, h⟩ := si_ob h
    obtain ⟨S5, eS5, h⟩ := si_ob h
    have g := g.tr (on_wl eS5 (by decide))
    obtain ⟨S6, eS6, h⟩ := si_ob h
    have g := g.tr (on_pt eS6 (by decide))
    obtain ⟨v7, ev7, h⟩ := si_ob h
    exact g.tr (hr7 _ _ _ h)
theorem fr_X1_sortWays_l7 (F : Nat) : ∀ (n : Nat) (x1 : Int32) (S : si_St) (o : si_St), f_X1_sortWays_l7 F n x1 S = some o → sd_on on_X1_sortWays S o := by
  intro n
  induction n with
  | zero => intro x1 S o h; cases h
  | succ n ih =>
    intro x1 S o h
    exact fr_X1_sortWays_h7 F (f_X1_sortWays_l7 F n) ih x1 S o h
theorem fr_X1_sortWays (F : Nat) (S : si_St) (o : si_St) (h : f_X1_sortWays F S = some o) : sd_on on_X1_sortWays S o := by
  have g : sd_on on_X1_sortWays S S := sd_on.rf
  unfold f_X1_sortWays at h
  obtain ⟨S8, eS8, h⟩ := si_ob h
  have g := g.tr (on_pt eS8 (by decide))
  exact g.tr (fr_X1_sortWays_l7 F F _ _ _ h)
def on_X1_learn : List Nat := [3, 4, 5, 6]
theorem fr_X1_learn_h24 (F : Nat) (k1 : Nat) (hk1 : si_kd k1 = 2) (r14 : Int32 → si_St → Option (si_St)) (r24 : Int32 → Int32 → si_St → Option (si_St)) (hr14 : ∀ (x2 : Int32) (S : si_St) (o : si_St), r14 x2 S = some o → sd_on on_X1_learn S o) (hr24 : ∀ (x2 : Int32) (x3 : Int32) (S : si_St) (o : si_St), r24 x2 x3 S = some o → sd_on on_X1_learn S o) (x2 : Int32) (x3 : Int32) (S : si_St) (o : si_St) (h : f_X1_learn_h24 F k1 r14 r24 x2 x3 S = some o) : sd_on on_X1_learn S o := by
  have g : sd_on on_X1_learn S S := sd_on.rf
  unfold f_X1_learn_h24 at h
  rcases Decidable.em ((S.1 3 1) ≤ x3) with c29 | c29
  · have h := si_ip c29 h
    obtain ⟨S1, eS1, h⟩ := si_ob h
    have g := g.tr (on_pt eS1 (by decide))
    obtain ⟨v2, ev2, h⟩ := si_ob h
    exact g.tr (hr14 _ _ _ h)
  · have h := si_in c29 h
    obtain ⟨v3, ev3, h⟩ := si_ob h
    obtain ⟨v4, ev4, h⟩ := si_ob h
    obtain ⟨S5, eS5, h⟩ := si_ob h
    have g := g.tr (on_wr eS5 (by decide))
    obtain ⟨v6, ev6, h⟩ := si_ob h
    exact g.tr (hr24 _ _ _ _ h)
theorem fr_X1_learn_l24 (F : Nat) (k1 : Nat) (hk1 : si_kd k1 = 2) (r14 : Int32 → si_St → Option (si_St)) (hr14 : ∀ (x2 : Int32) (S : si_St) (o : si_St), r14 x2 S = some o → sd_on on_X1_learn S o) : ∀ (n : Nat) (x2 : Int32) (x3 : Int32) (S : si_St) (o : si_St), f_X1_learn_l24 F k1 r14 n x2 x3 S = some o → sd_on on_X1_learn S o := by
  intro n
  induction n with
  | zero => intro x2 x3 S o h; cases h
  | succ n ih =>
    intro x2 x3 S o h
    exact fr_X1_learn_h24 F k1 hk1 r14 (f_X1_learn_l24 F k1 r14 n) hr14 ih x2 x3 S o h
theorem fr_X1_learn_h14 (F : Nat) (k1 : Nat) (hk1 : si_kd k1 = 2) (r14 : Int32 → si_St → Option (si_St)) (hr14 : ∀ (x2 : Int32) (S : si_St) (o : si_St), r14 x2 S = some o → sd_on on_X1_learn S o) (x2 : Int32) (S : si_St) (o : si_St) (h : f_X1_learn_h14 F k1 r14 x2 S = some o) : sd_on on_X1_learn S o := by
  have g : sd_on on_X1_learn S S := sd_on.rf
  unfold f_X1_learn_h14 at h
  rcases Decidable.em ((S.1 k1 2) ≤ x2) with c19 | c19
  · have h := si_ip c19 h
    obtain ⟨v7, ev7, h⟩ := si_ob h
    obtain ⟨S8, eS8, h⟩ := si_ob h
    have g := g.tr ((fr_X1_listWays F k1 hk1 v7 (S.1 k1 2) S S8 eS8).mono (by decide))
    obtain ⟨S9, eS9, h⟩ := si_ob h
    have g := g.tr ((fr_X1_sortWays F S8 S9 eS9).mono (by decide))
    obtain ⟨S10, eS10, h⟩ := si_ob h
    have g := g.tr ((fr_X1_listWays F k1 hk1 0 v7 S9 S10 eS10).mono (by decide))
    obtain rfl := Option.some.inj h
    exact g
  · have h := si_in c19 h
    exact g.tr (fr_X1_learn_l24 F k1 hk1 r14 hr14 F _ _ _ _ h)
theorem fr_X1_learn_l14 (F : Nat) (k1 : Nat) (hk1 : si_kd k1 = 2) : ∀ (n : Nat) (x2 : Int32) (S : si_St) (o : si_St), f_X1_learn_l14 F k1 n x2 S = some o → sd_on on_X1_learn S o := by
  intro n
  induction n with
  | zero => intro x2 S o h; cases h
  | succ n ih =>
    intro x2 S o h
    exact fr_X1_learn_h14 F k1 hk1 (f_X1_learn_l14 F k1 n) ih x2 S o h
theorem fr_X1_learn (F : Nat) (k1 : Nat) (hk1 : si_kd k1 = 2) (S : si_St) (o : si_St) (h : f_X1_learn F k1 S = some o) : sd_on on_X1_learn S o := by
  have g : sd_on on_X1_learn S S := sd_on.rf
  unfold f_X1_learn at h
  obtain ⟨S11, eS11, h⟩ := si_ob h
  have g := g.tr (on_pt eS11 (by decide))
  obtain ⟨S12, eS12, h⟩ := si_ob h
  have g := g.tr (on_wr eS12 (by decide))
  exact g.tr (fr_X1_learn_l14 F k1 hk1 F _ _ _ h)
def on_X8_put : List Nat := [17, 18, 19]
theorem fr_X8_put (F : Nat) (x1 : Int32) (x2 : Int32) (x3 : Int32) (x4 : Int32) (S : si_St) (o : si_St) (h : f_X8_put F x1 x2 x3 x4 S = some o) : sd_on on_X8_put S o := by
  have g : sd_on on_X8_put S S := sd_on.rf
  unfold f_X8_put at h
  obtain ⟨S1, eS1, h⟩ := si_ob h
  have g := g.tr (on_wr eS1 (by decide))
  obtain ⟨S2, eS2, h⟩ := si_ob h
  have g := g.tr (on_wr eS2 (by decide))
  obtain ⟨S3, eS3, h⟩ := si_ob h
  have g := g.tr (on_wr eS3 (by decide))
  obtain rfl := Option.some.inj h
  exact g
def on_X8_reset : List Nat := [17, 18, 19, 20]
theorem fr_X8_reset_h2 (F : Nat) (k1 : Nat) (hk1 : si_kd k1 = 2) (r2 : Int32 → si_St → Option (si_St)) (hr2 : ∀ (x2 : Int32) (S : si_St) (o : si_St), r2 x2 S = some o → sd_on on_X8_reset S o) (x2 : Int32) (S : si_St) (o : si_St) (h : f_X8_reset_h2 F k1 r2 x2 S = some o) : sd_on on_X8_reset S o := by
  have g : sd_on on_X8_reset S S := sd_on.rf
  unfold f_X8_reset_h2 at h
  rcases Decidable.em ((S.1 k1 3) ≤ x2) with c7 | c7
  · have h := si_ip c7 h
    obtain rfl := Option.some.inj h
    exact g
  · have h := si_in c7 h
    obtain ⟨v1, ev1, h⟩ := si_ob h
    obtain ⟨v2, ev2, h⟩ := si_ob h
    obtain ⟨v3, ev3, h⟩ := si_ob h
    obtain ⟨S4, eS4, h⟩ := si_ob h
    have g := g.tr ((fr_X8_put F x2 v2 v2 v3 S S4 eS4).mono (by decide))
    obtain ⟨S5, eS5, h⟩ := si_ob h
    have g := g.tr (on_wr eS5 (by decide))
    obtain ⟨v6, ev6, h⟩ := si_ob h
    exact g.tr (hr2 _ _ _ h)
theorem fr_X8_reset_l2 (F : Nat) (k1 : Nat) (hk1 : si_kd k1 = 2) : ∀ (n : Nat) (x2 : Int32) (S : si_St) (o : si_St), f_X8_reset_l2 F k1 n x2 S = some o → sd_on on_X8_reset S o := by
  intro n
  induction n with
  | zero => intro x2 S o h; cases h
  | succ n ih =>
    intro x2 S o h
    exact fr_X8_reset_h2 F k1 hk1 (f_X8_reset_l2 F k1 n) ih x2 S o h
theorem fr_X8_reset (F : Nat) (k1 : Nat) (hk1 : si_kd k1 = 2) (S : si_St) (o : si_St) (h : f_X8_reset F k1 S = some o) : sd_on on_X8_reset S o := by
  have g : sd_on on_X8_reset S S := sd_on.rf
  unfold f_X8_reset at h
  exact g.tr (fr_X8_reset_l2 F k1 hk1 F _ _ _ h)
def on_X8_suspectsAfter : List Nat := []
theorem fr_X8_suspectsAfter (F : Nat) (x0 : Int32) (x1 : Int32) (x2 : Int32) (x3 : Int32) (S : si_St) (o : Int32 × si_St) (h : f_X8_suspectsAfter F x0 x1 x2 x3 S = some o) : sd_on on_X8_suspectsAfter S o.2 := by
  have g : sd_on on_X8_suspectsAfter S S := sd_on.rf
  unfold f_X8_suspectsAfter at h
  rcases Decidable.em (x3 = 1) with c1_0 | c1_0
  · have h := si_ip c1_0 h
    obtain rfl := Option.some.inj h
    exact g
  · have h := si_in c1_0 h
    rcases Decidable.em (x3 = 2) with c1_1 | c1_1
    · have h := si_ip c1_1 h
      obtain rfl := Option.some.inj h
      exact g
    · have h := si_in c1_1 h
      obtain rfl := Option.some.inj h
      exact g
def on_X8_hypothesesOf : List Nat := []
theorem fr_X8_hypothesesOf (F : Nat) (x1 : Int32) (S : si_St) (o : Int32 × si_St) (h : f_X8_hypothesesOf F x1 S = some o) : sd_on on_X8_hypothesesOf S o.2 := by
  have g : sd_on on_X8_hypothesesOf S S := sd_on.rf
  unfold f_X8_hypothesesOf at h
  obtain ⟨v1, ev1, h⟩ := si_ob h
  obtain ⟨q2, eq2, h⟩ := si_ob h
  have g := g.tr ((fr_J6_bitCount_0f7a4 F v1 S q2 eq2).mono (by decide))
  obtain ⟨v3, ev3, h⟩ := si_ob h
  obtain ⟨q4, eq4, h⟩ := si_ob h
  have g := g.tr ((fr_J6_bitCount_0f7a4 F v3 q2.2 q4 eq4).mono (by decide))
  obtain ⟨v5, ev5, h⟩ := si_ob h
  obtain rfl := Option.some.inj h
  exact g
def on_X8_onlyHypothesis : List Nat := []
theorem fr_X8_onlyHypothesis (F : Nat) (x1 : Int32) (S : si_St) (o : Int32 × si_St) (h : f_X8_onlyHypothesis F x1 S = some o) : sd_on on_X8_onlyHypothesis S o.2 := by
  have g : sd_on on_X8_onlyHypothesis S S := sd_on.rf
  unfold f_X8_onlyHypothesis at h
  obtain ⟨q1, eq1, h⟩ := si_ob h
  have g := g.tr ((fr_X8_hypothesesOf F x1 S q1 eq1).mono (by decide))
  rcases Decidable.em (q1.1 = 1) with c6 | c6
  · have h := si_ip c6 h
    obtain ⟨v2, ev2, h⟩ := si_ob h
    rcases Decidable.em (v2 = 0) with c18 | c18
    · have h := si_ip c18 h
      obtain ⟨v3, ev3, h⟩ := si_ob h
      rcases Decidable.em (v3 = 0) with c41 | c41
      · have h := si_ip c41 h
        obtain rfl := Option.some.inj h
        exact g
      · have h := si_in c41 h
        obtain ⟨v4, ev4, h⟩ := si_ob h
        obtain ⟨q5, eq5, h⟩ := si_ob h
        have g := g.tr ((fr_J6_numberOfTrailingZeros_0f7a4 F v4 q1.2 q5 eq5).mono (by decide))
        obtain rfl := Option.some.inj h
        exact g
    · have h := si_in c18 h
      obtain ⟨v6, ev6, h⟩ := si_ob h
      obtain ⟨q7, eq7, h⟩ := si_ob h
      have g := g.tr ((fr_J6_numberOfTrailingZeros_0f7a4 F v6 q1.2 q7 eq7).mono (by decide))
      obtain rfl := Option.some.inj h
      exact g
  · have h := si_in c6 h
    obtain rfl := Option.some.inj h
    exact g
def on_X0_clear : List Nat := [21]
theorem fr_X0_clear (F : Nat) (S : si_St) (o : si_St) (h : f_X0_clear F S = some o) : sd_on on_X0_clear S o := by
  have g : sd_on on_X0_clear S S := sd_on.rf
  unfold f_X0_clear at h
  obtain ⟨S1, eS1, h⟩ := si_ob h
  have g := g.tr (on_pt eS1 (by decide))
  obtain ⟨S2, eS2, h⟩ := si_ob h
  have g := g.tr (on_pt eS2 (by decide))
  obtain rfl := Option.some.inj h
  exact g
def on_X0_add : List Nat := [21, 22, 23]
theorem fr_X0_add (F : Nat) (x1 : Int32) (x2 : Int32) (S : si_St) (o : si_St) (h : f_X0_add F x1 x2 S = some o) : sd_on on_X0_add S o := by
  have g : sd_on on_X0_add S S := sd_on.rf
  unfold f_X0_add at h
  obtain ⟨S1, eS1, h⟩ := si_ob h
  have g := g.tr (on_wr eS1 (by decide))
  obtain ⟨S2, eS2, h⟩ := si_ob h
  have g := g.tr (on_wr eS2 (by decide))
  obtain ⟨S3, eS3, h⟩ := si_ob h
  have g := g.tr (on_pt eS3 (by decide))
  obtain ⟨S4, eS4, h⟩ := si_ob h
  have g := g.tr (on_pt eS4 (by decide))
  obtain rfl := Option.some.inj h
  exact g
def on_X0_addWeighing : List Nat := [21, 22, 23, 24, 25, 26]
theorem fr_X0_addWeighing (F : Nat) (x1 : Int32) (S : si_St) (o : si_St) (h : f_X0_addWeighing F x1 S = some o) : sd_on on_X0_addWeighing S o := by
  have g : sd_on on_X0_addWeighing S S := sd_on.rf
  unfold f_X0_addWeighing at h
  obtain ⟨v1, ev1, h⟩ := si_ob h
  obtain ⟨S2, eS2, h⟩ := si_ob h
  have g := g.tr (on_wr eS2 (by decide))
  obtain ⟨v3, ev3, h⟩ := si_ob h
  obtain ⟨S4, eS4, h⟩ := si_ob h
  have g := g.tr (on_wr eS4 (by decide))
  obtain ⟨v5, ev5, h⟩ := si_ob h
  obtain ⟨S6, eS6, h⟩ := si_ob h
  have g := g.tr (on_wr eS6 (by decide))
  obtain ⟨S7, eS7, h⟩ := si_ob h
  have g := g.tr ((fr_X0_add F 3 x1 S6 S7 eS7).mono (by decide))
  obtain rfl := Option.some.inj h
  exact g
def on_X3_addBytes : List Nat := [1, 2]
theorem fr_X3_addBytes_h46 (F : Nat) (S : si_St) (o : si_St) (h : f_X3_addBytes_h46 F S = some o) : sd_on on_X3_addBytes S o := by
  have g : sd_on on_X3_addBytes S S := sd_on.rf
  unfold f_X3_addBytes_h46 at h
  obtain rfl := Option.some.inj h
  exact g
theorem fr_X3_addBytes_h3 (F : Nat) (r3 : Int32 → Int32 → si_St → Option (si_St)) (hr3 : ∀ (x1 : Int32) (x2 : Int32) (S : si_St) (o : si_St), r3 x1 x2 S = some o → sd_on on_X3_addBytes S o) (x1 : Int32) (x2 : Int32) (S : si_St) (o : si_St) (h : f_X3_addBytes_h3 F r3 x1 x2 S = some o) : sd_on on_X3_addBytes S o := by
  have g : sd_on on_X3_addBytes S S := sd_on.rf
  unfold f_X3_addBytes_h3 at h
  rcases Decidable.em (x2 < 0) with c4 | c4
  · have h := si_ip c4 h
    exact g.tr (fr_X3_addBytes_h46 F _ _ h)
  · have h := si_in c4 h
    rcases Decidable.em (800 ≤ (S.1 1 1)) with c14 | c14
    · have h := si_ip c14 h
      exact g.tr (fr_X3_addBytes_h46 F _ _ h)
    · have h := si_in c14 h
      obtain ⟨S1, eS1, h⟩ := si_ob h
      have g := g.tr (on_wr eS1 (by decide))
      obtain ⟨S2, eS2, h⟩ := si_ob h
      have g := g.tr (on_pt eS2 (by decide))
      obtain ⟨v3, ev3, h⟩ := si_ob h
      exact g.tr (hr3 _ _ _ _ h)
theorem fr_X3_addBytes_l3 (F : Nat) : ∀ (n : Nat) (x1 : Int32) (x2 : Int32) (S : si_St) (o : si_St), f_X3_addBytes_l3 F n x1 x2 S = some o → sd_on on_X3_addBytes S o := by
  intro n
  induction n with
  | zero => intro x1 x2 S o h; cases h
  | succ n ih =>
    intro x1 x2 S o h
    exact fr_X3_addBytes_h3 F (f_X3_addBytes_l3 F n) ih x1 x2 S o h
theorem fr_X3_addBytes (F : Nat) (x1 : Int32) (S : si_St) (o : si_St) (h : f_X3_addBytes F x1 S = some o) : sd_on on_X3_addBytes S o := by
  have g : sd_on on_X3_addBytes S S := sd_on.rf
  unfold f_X3_addBytes at h
  exact g.tr (fr_X3_addBytes_l3 F F _ _ _ _ h)
def on_X3_isWord : List Nat := []
theorem fr_X3_isWord_h24 (F : Nat) (g1 : Nat) (hg1 : g1 < 17) (S : si_St) (o : Int32 × si_St) (h : f_X3_isWord_h24 F g1 S = some o) : sd_on on_X3_isWord S o.2 := by
  have g : sd_on on_X3_isWord S S := sd_on.rf
  unfold f_X3_isWord_h24 at h
  obtain ⟨v1, ev1, h⟩ := si_ob h
  obtain rfl := Option.some.inj h
  exact g
theorem fr_X3_isWord_h28 (F : Nat) (g1 : Nat) (hg1 : g1 < 17) (r28 : Int32 → si_St → Option (Int32 × si_St)) (hr28 : ∀ (x2 : Int32) (S : si_St) (o : Int32 × si_St), r28 x2 S = some o → sd_on on_X3_isWord S o.2) (x2 : Int32) (S : si_St) (o : Int32 × si_St) (h : f_X3_isWord_h28 F g1 r28 x2 S = some o) : sd_on on_X3_isWord S o.2 := by
  have g : sd_on on_X3_isWord S S := sd_on.rf
  unfold f_X3_isWord_h28 at h
  obtain ⟨q2, eq2, h⟩ := si_ob h
  have g := g.tr ((fr_J0_length_8abf5 F g1 hg1 S q2 eq2).mono (by decide))
  rcases Decidable.em (q2.1 ≤ x2) with c33 | c33
  · have h := si_ip c33 h
    obtain ⟨v3, ev3, h⟩ := si_ob h
    obtain rfl := Option.some.inj h
    exact g
  · have h := si_in c33 h
    obtain ⟨v4, ev4, h⟩ := si_ob h
    obtain ⟨q5, eq5, h⟩ := si_ob h
    have g := g.tr ((fr_J0_charAt_5068e F g1 hg1 x2 q2.2 q5 eq5).mono (by decide))
    rcases Decidable.em (v4 = q5.1) with c52 | c52
    · have h := si_ip c52 h
      obtain ⟨v6, ev6, h⟩ := si_ob h
      exact g.tr (hr28 _ _ _ h)
    · have h := si_in c52 h
      obtain ⟨v7, ev7, h⟩ := si_ob h
      obtain rfl := Option.some.inj h
      exact g
theorem fr_X3_isWord_l28 (F : Nat) (g1 : Nat) (hg1 : g1 < 17) : ∀ (n : Nat) (x2 : Int32) (S : si_St) (o : Int32 × si_St), f_X3_isWord_l28 F g1 n x2 S = some o → sd_on on_X3_isWord S o.2 := by
  intro n
  induction n with
  | zero => intro x2 S o h; cases h
  | succ n ih =>
    intro x2 S o h
    exact fr_X3_isWord_h28 F g1 hg1 (f_X3_isWord_l28 F g1 n) ih x2 S o h
theorem fr_X3_isWord (F : Nat) (g1 : Nat) (hg1 : g1 < 17) (S : si_St) (o : Int32 × si_St) (h : f_X3_isWord F g1 S = some o) : sd_on on_X3_isWord S o.2 := by
  have g : sd_on on_X3_isWord S S := sd_on.rf
  unfold f_X3_isWord at h
  rcases Decidable.em ((S.1 1 7) = 1) with c5 | c5
  · have h := si_ip c5 h
    obtain ⟨q8, eq8, h⟩ := si_ob h
    have g := g.tr ((fr_J0_length_8abf5 F g1 hg1 S q8 eq8).mono (by decide))
    rcases Decidable.em (((S.1 1 6) - (S.1 1 5)) = q8.1) with c21 | c21
    · have h := si_ip c21 h
      exact g.tr (fr_X3_isWord_l28 F g1 hg1 F _ _ _ h)
    · have h := si_in c21 h
      exact g.tr (fr_X3_isWord_h24 F g1 hg1 _ _ h)
  · have h := si_in c5 h
    exact g.tr (fr_X3_isWord_h24 F g1 hg1 _ _ h)
def on_X3_passRun : List Nat := [1]
theorem fr_X3_passRun_h50 (F : Nat) (S : si_St) (o : si_St) (h : f_X3_passRun_h50 F S = some o) : sd_on on_X3_passRun S o := by
  have g : sd_on on_X3_passRun S S := sd_on.rf
  unfold f_X3_passRun_h50 at h
  obtain rfl := Option.some.inj h
  exact g
theorem fr_X3_passRun_h0 (F : Nat) (r0 : Int32 → Int32 → si_St → Option (si_St)) (hr0 : ∀ (x1 : Int32) (x2 : Int32) (S : si_St) (o : si_St), r0 x1 x2 S = some o → sd_on on_X3_passRun S o) (x1 : Int32) (x2 : Int32) (S : si_St) (o : si_St) (h : f_X3_passRun_h0 F r0 x1 x2 S = some o) : sd_on on_X3_passRun S o := by
  have g : sd_on on_X3_passRun S S := sd_on.rf
  unfold f_X3_passRun_h0 at h
  rcases Decidable.em ((S.1 1 4) ≤ (S.1 1 6)) with c8 | c8
  · have h := si_ip c8 h
    exact g.tr (fr_X3_passRun_h50 F _ _ h)
  · have h := si_in c8 h
    obtain ⟨v1, ev1, h⟩ := si_ob h
    rcases Decidable.em (v1 < x1) with c21 | c21
    · have h := si_ip c21 h
      exact g.tr (fr_X3_passRun_h50 F _ _ h)
    · have h := si_in c21 h
      obtain ⟨v2, ev2, h⟩ := si_ob h
      rcases Decidable.em (x2 < v2) with c34 | c34
      · have h := si_ip c34 h
        exact g.tr (fr_X3_passRun_h50 F _ _ h)
      · have h := si_in c34 h
        obtain ⟨S3, eS3, h⟩ := si_ob h
        have g := g.tr (on_pt eS3 (by decide))
        exact g.tr (hr0 _ _ _ _ h)
theorem fr_X3_passRun_l0 (F : Nat) : ∀ (n : Nat) (x1 : Int32) (x2 : Int32) (S : si_St) (o : si_St), f_X3_passRun_l0 F n x1 x2 S = some o → sd_on on_X3_passRun S o := by
  intro n
  induction n with
  | zero => intro x1 x2 S o h; cases h
  | succ n ih =>
    intro x1 x2 S o h
    exact fr_X3_passRun_h0 F (f_X3_passRun_l0 F n) ih x1 x2 S o h
theorem fr_X3_passRun (F : Nat) (x1 : Int32) (x2 : Int32) (S : si_St) (o : si_St) (h : f_X3_passRun F x1 x2 S = some o) : sd_on on_X3_passRun S o := by
  have g : sd_on on_X3_passRun S S := sd_on.rf
  unfold f_X3_passRun at h
  exact g.tr (fr_X3_passRun_l0 F F _ _ _ _ h)
def on_X3_advance : List Nat := [1]
theorem fr_X3_advance_h204 (F : Nat) (S : si_St) (o : si_St) (h : f_X3_advance_h204 F S = some o) : sd_on on_X3_advance S o := by
  have g : sd_on on_X3_advance S S := sd_on.rf
  unfold f_X3_advance_h204 at h
  obtain rfl := Option.some.inj h
  exact g
theorem fr_X3_advance_h201 (F : Nat) (t0 : Int32) (S : si_St) (o : si_St) (h : f_X3_advance_h201 F t0 S = some o) : sd_on on_X3_advance S o := by
  have g : sd_on on_X3_advance S S := sd_on.rf
  unfold f_X3_advance_h201 at h
  obtain ⟨S1, eS1, h⟩ := si_ob h
  have g := g.tr (on_pt eS1 (by decide))
  exact g.tr (fr_X3_advance_h204 F _ _ h)
theorem fr_X3_advance_h179 (F : Nat) (x1 : Int32) (S : si_St) (o : si_St) (h : f_X3_advance_h179 F x1 S = some o) : sd_on on_X3_advance S o := by
  have g : sd_on on_X3_advance S S := sd_on.rf
  unfold f_X3_advance_h179 at h
  obtain ⟨S2, eS2, h⟩ := si_ob h
  have g := g.tr (on_pt eS2 (by decide))
  rcases Decidable.em (x1 = 59) with c193 | c193
  · have h := si_ip c193 h
    exact g.tr (fr_X3_advance_h201 F _ _ _ h)
  · have h := si_in c193 h
    exact g.tr (fr_X3_advance_h201 F _ _ _ h)
theorem fr_X3_advance_h173 (F : Nat) (t0 : Int32) (S : si_St) (o : si_St) (h : f_X3_advance_h173 F t0 S = some o) : sd_on on_X3_advance S o := by
  have g : sd_on on_X3_advance S S := sd_on.rf
  unfold f_X3_advance_h173 at h
  obtain ⟨S3, eS3, h⟩ := si_ob h
  have g := g.tr (on_pt eS3 (by decide))
  exact g.tr (fr_X3_advance_h204 F _ _ h)
theorem fr_X3_advance_h133 (F : Nat) (x1 : Int32) (S : si_St) (o : si_St) (h : f_X3_advance_h133 F x1 S = some o) : sd_on on_X3_advance S o := by
  have g : sd_on on_X3_advance S S := sd_on.rf
  unfold f_X3_advance_h133 at h
  rcases Decidable.em (x1 < 48) with c136 | c136
  · have h := si_ip c136 h
    exact g.tr (fr_X3_advance_h179 F _ _ _ h)
  · have h := si_in c136 h
    rcases Decidable.em (57 < x1) with c142 | c142
    · have h := si_ip c142 h
      exact g.tr (fr_X3_advance_h179 F _ _ _ h)
    · have h := si_in c142 h
      obtain ⟨S4, eS4, h⟩ := si_ob h
      have g := g.tr ((fr_X3_passRun F 48 57 S S4 eS4).mono (by decide))
      rcases Decidable.em (6 < ((S4.1 1 6) - (S4.1 1 5))) with c165 | c165
      · have h := si_ip c165 h
        exact g.tr (fr_X3_advance_h173 F _ _ _ h)
      · have h := si_in c165 h
        exact g.tr (fr_X3_advance_h173 F _ _ _ h)
theorem fr_X3_advance_h127 (F : Nat) (t0 : Int32) (S : si_St) (o : si_St) (h : f_X3_advance_h127 F t0 S = some o) : sd_on on_X3_advance S o := by
  have g : sd_on on_X3_advance S S := sd_on.rf
  unfold f_X3_advance_h127 at h
  obtain ⟨S5, eS5, h⟩ := si_ob h
  have g := g.tr (on_pt eS5 (by decide))
  exact g.tr (fr_X3_advance_h204 F _ _ h)
theorem fr_X3_advance_h52 (F : Nat) (S : si_St) (o : si_St) (h : f_X3_advance_h52 F S = some o) : sd_on on_X3_advance S o := by
  have g : sd_on on_X3_advance S S := sd_on.rf
  unfold f_X3_advance_h52 at h
  obtain ⟨S6, eS6, h⟩ := si_ob h
  have g := g.tr (on_pt eS6 (by decide))
  rcases Decidable.em ((S6.1 1 6) < (S6.1 1 4)) with c68 | c68
  · have h := si_ip c68 h
    obtain ⟨v7, ev7, h⟩ := si_ob h
    rcases Decidable.em (v7 < 97) with c90 | c90
    · have h := si_ip c90 h
      exact g.tr (fr_X3_advance_h133 F _ _ _ h)
    · have h := si_in c90 h
      rcases Decidable.em (122 < v7) with c96 | c96
      · have h := si_ip c96 h
        exact g.tr (fr_X3_advance_h133 F _ _ _ h)
      · have h := si_in c96 h
        obtain ⟨S8, eS8, h⟩ := si_ob h
        have g := g.tr ((fr_X3_passRun F 97 122 S6 S8 eS8).mono (by decide))
        rcases Decidable.em (8 < ((S8.1 1 6) - (S8.1 1 5))) with c119 | c119
        · have h := si_ip c119 h
          exact g.tr (fr_X3_advance_h127 F _ _ _ h)
        · have h := si_in c119 h
          exact g.tr (fr_X3_advance_h127 F _ _ _ h)
  · have h := si_in c68 h
    obtain ⟨S9, eS9, h⟩ := si_ob h
    have g := g.tr (on_pt eS9 (by decide))
    obtain rfl := Option.some.inj h
    exact g
theorem fr_X3_advance_h39 (F : Nat) (r0 : si_St → Option (si_St)) (hr0 : ∀ (S : si_St) (o : si_St), r0 S = some o → sd_on on_X3_advance S o) (S : si_St) (o : si_St) (h : f_X3_advance_h39 F r0 S = some o) : sd_on on_X3_advance S o := by
  have g : sd_on on_X3_advance S S := sd_on.rf
  unfold f_X3_advance_h39 at h
  obtain ⟨S10, eS10, h⟩ := si_ob h
  have g := g.tr (on_pt eS10 (by decide))
  exact g.tr (hr0 _ _ h)
theorem fr_X3_advance_h0 (F : Nat) (r0 : si_St → Option (si_St)) (hr0 : ∀ (S : si_St) (o : si_St), r0 S = some o → sd_on on_X3_advance S o) (S : si_St) (o : si_St) (h : f_X3_advance_h0 F r0 S = some o) : sd_on on_X3_advance S o := by
  have g : sd_on on_X3_advance S S := sd_on.rf
  unfold f_X3_advance_h0 at h
  rcases Decidable.em ((S.1 1 4) ≤ (S.1 1 6)) with c8 | c8
  · have h := si_ip c8 h
    exact g.tr (fr_X3_advance_h52 F _ _ h)
  · have h := si_in c8 h
    obtain ⟨v11, ev11, h⟩ := si_ob h
    rcases Decidable.em (v11 = 32) with c22 | c22
    · have h := si_ip c22 h
      exact g.tr (fr_X3_advance_h39 F r0 hr0 _ _ h)
    · have h := si_in c22 h
      obtain ⟨v12, ev12, h⟩ := si_ob h
      rcases Decidable.em (v12 = 10) with c36 | c36
      · have h := si_ip c36 h
        exact g.tr (fr_X3_advance_h39 F r0 hr0 _ _ h)
      · have h := si_in c36 h
        exact g.tr (fr_X3_advance_h52 F _ _ h)
theorem fr_X3_advance_l0 (F : Nat) : ∀ (n : Nat) (S : si_St) (o : si_St), f_X3_advance_l0 F n S = some o → sd_on on_X3_advance S o := by
  intro n
  induction n with
  | zero => intro S o h; cases h
  | succ n ih =>
    intro S o h
    exact fr_X3_advance_h0 F (f_X3_advance_l0 F n) ih S o h
theorem fr_X3_advance (F : Nat) (S : si_St) (o : si_St) (h : f_X3_advance F S = some o) : sd_on on_X3_advance S o := by
  have g : sd_on on_X3_advance S S := sd_on.rf
  unfold f_X3_advance at h
  exact g.tr (fr_X3_advance_l0 F F _ _ h)
def on_X3_failAt : List Nat := [1]
theorem fr_X3_failAt_h17 (F : Nat) (S : si_St) (o : si_St) (h : f_X3_failAt_h17 F S = some o) : sd_on on_X3_failAt S o := by
  have g : sd_on on_X3_failAt S S := sd_on.rf
  unfold f_X3_failAt_h17 at h
  obtain rfl := Option.some.inj h
  exact g
theorem fr_X3_failAt (F : Nat) (x1 : Int32) (x2 : Int32) (S : si_St) (o : si_St) (h : f_X3_failAt F x1 x2 S = some o) : sd_on on_X3_failAt S o := by
  have g : sd_on on_X3_failAt S S := sd_on.rf
  unfold f_X3_failAt at h
  rcases Decidable.em ((S.1 1 3) = 0) with c4 | c4
  · have h := si_ip c4 h
    obtain ⟨S1, eS1, h⟩ := si_ob h
    have g := g.tr (on_pt eS1 (by decide))
    obtain ⟨S2, eS2, h⟩ := si_ob h
    have g := g.tr (on_pt eS2 (by decide))
    exact g.tr (fr_X3_failAt_h17 F _ _ h)
  · have h := si_in c4 h
    exact g.tr (fr_X3_failAt_h17 F _ _ h)
def on_X3_fail : List Nat := [1]
theorem fr_X3_fail (F : Nat) (x1 : Int32) (S : si_St) (o : si_St) (h : f_X3_fail F x1 S = some o) : sd_on on_X3_fail S o := by
  have g : sd_on on_X3_fail S S := sd_on.rf
  unfold f_X3_fail at h
  obtain ⟨S1, eS1, h⟩ := si_ob h
  have g := g.tr ((fr_X3_failAt F x1 (S.1 1 5) S S1 eS1).mono (by decide))
  obtain rfl := Option.some.inj h
  exact g
def on_X3_takeSemicolon : List Nat := [1]
theorem fr_X3_takeSemicolon_h28 (F : Nat) (S : si_St) (o : si_St) (h : f_X3_takeSemicolon_h28 F S = some o) : sd_on on_X3_takeSemicolon S o := by
  have g : sd_on on_X3_takeSemicolon S S := sd_on.rf
  unfold f_X3_takeSemicolon_h28 at h
  obtain rfl := Option.some.inj h
  exact g
theorem fr_X3_takeSemicolon (F : Nat) (S : si_St) (o : si_St) (h : f_X3_takeSemicolon F S = some o) : sd_on on_X3_takeSemicolon S o := by
  have g : sd_on on_X3_takeSemicolon S S := sd_on.rf
  unfold f_X3_takeSemicolon at h
  rcases Decidable.em ((S.1 1 3) = 0) with c4 | c4
  · have h := si_ip c4 h
    rcases Decidable.em ((S.1 1 7) = 3) with c13 | c13
    · have h := si_ip c13 h
      obtain ⟨S2, eS2, h⟩ := si_ob h
      have g := g.tr ((fr_X3_advance F S S2 eS2).mono (by decide))
      exact g.tr (fr_X3_takeSemicolon_h28 F _ _ h)
    · have h := si_in c13 h
      obtain ⟨S1, eS1, h⟩ := si_ob h
      have g := g.tr ((fr_X3_fail F 1 S S1 eS1).mono (by decide))
      exact g.tr (fr_X3_takeSemicolon_h28 F _ _ h)
  · have h := si_in c4 h
    obtain rfl := Option.some.inj h
    exact g
def on_X3_numberOfToken : List Nat := []
theorem fr_X3_numberOfToken_h7 (F : Nat) (r7 : Int32 → Int32 → si_St → Option (Int32 × si_St)) (hr7 : ∀ (x1 : Int32) (x2 : Int32) (S : si_St) (o : Int32 × si_St), r7 x1 x2 S = some o → sd_on on_X3_numberOfToken S o.2) (x1 : Int32) (x2 : Int32) (S : si_St) (o : Int32 × si_St) (h : f_X3_numberOfToken_h7 F r7 x1 x2 S = some o) : sd_on on_X3_numberOfToken S o.2 := by
  have g : sd_on on_X3_numberOfToken S S := sd_on.rf
  unfold f_X3_numberOfToken_h7 at h
  rcases Decidable.em ((S.1 1 6) ≤ x2) with c12 | c12
  · have h := si_ip c12 h
    obtain rfl := Option.some.inj h
    exact g
  · have h := si_in c12 h
    obtain ⟨v1, ev1, h⟩ := si_ob h
    obtain ⟨v2, ev2, h⟩ := si_ob h
    obtain ⟨v3, ev3, h⟩ := si_ob h
    exact g.tr (hr7 _ _ _ _ h)
theorem fr_X3_numberOfToken_l7 (F : Nat) : ∀ (n : Nat) (x1 : Int32) (x2 : Int32) (S : si_St) (o : Int32 × si_St), f_X3_numberOfToken_l7 F n x1 x2 S = some o → sd_on on_X3_numberOfToken S o.2 := by
  intro n
  induction n with
  | zero => intro x1 x2 S o h; cases h
  | succ n ih =>
    intro x1 x2 S o h
    exact fr_X3_numberOfToken_h7 F (f_X3_numberOfToken_l7 F n) ih x1 x2 S o h
theorem fr_X3_numberOfToken (F : Nat) (S : si_St) (o : Int32 × si_St) (h : f_X3_numberOfToken F S = some o) : sd_on on_X3_numberOfToken S o.2 := by
  have g : sd_on on_X3_numberOfToken S S := sd_on.rf
  unfold f_X3_numberOfToken at h
  obtain ⟨v4, ev4, h⟩ := si_ob h
  exact g.tr (fr_X3_numberOfToken_l7 F F _ _ _ _ h)
def on_X3_takeNumber : List Nat := [1]
theorem fr_X3_takeNumber_h39 (F : Nat) (S : si_St) (o : Int32 × si_St) (h : f_X3_takeNumber_h39 F S = some o) : sd_on on_X3_takeNumber S o.2 := by
  have g : sd_on on_X3_takeNumber S S := sd_on.rf
  unfold f_X3_takeNumber_h39 at h
  obtain ⟨S1, eS1, h⟩ := si_ob h
  have g := g.tr ((fr_X3_fail F 3 S S1 eS1).mono (by decide))
  obtain rfl := Option.some.inj h
  exact g
theorem fr_X3_takeNumber (F : Nat) (x1 : Int32) (x2 : Int32) (S : si_St) (o : Int32 × si_St) (h : f_X3_takeNumber F x1 x2 S = some o) : sd_on on_X3_takeNumber S o.2 := by
  have g : sd_on on_X3_takeNumber S S := sd_on.rf
  unfold f_X3_takeNumber at h
  rcases Decidable.em ((S.1 1 3) = 0) with c4 | c4
  · have h := si_ip c4 h
    rcases Decidable.em ((S.1 1 7) = 2) with c14 | c14
    · have h := si_ip c14 h
      obtain ⟨q2, eq2, h⟩ := si_ob h
      have g := g.tr ((fr_X3_numberOfToken F S q2 eq2).mono (by decide))
      rcases Decidable.em (q2.1 < x1) with c31 | c31
      · have h := si_ip c31 h
        exact g.tr (fr_X3_takeNumber_h39 F _ _ h)
      · have h := si_in c31 h
        rcases Decidable.em (q2.1 ≤ x2) with c36 | c36
        · have h := si_ip c36 h
          obtain ⟨S3, eS3, h⟩ := si_ob h
          have g := g.tr ((fr_X3_advance F q2.2 S3 eS3).mono (by decide))
          obtain rfl := Option.some.inj h
          exact g
        · have h := si_in c36 h
          exact g.tr (fr_X3_takeNumber_h39 F _ _ h)
    · have h := si_in c14 h
      obtain ⟨S4, eS4, h⟩ := si_ob h
      have g := g.tr ((fr_X3_fail F 1 S S4 eS4).mono (by decide))
      obtain rfl := Option.some.inj h
      exact g
  · have h := si_in c4 h
    obtain rfl := Option.some.inj h
    exact g
def on_X3_takeKeyword : List Nat := [1]
theorem fr_X3_takeKeyword_h17 (F : Nat) (S : si_St) (o : si_St) (h : f_X3_takeKeyword_h17 F S = some o) : sd_on on_X3_takeKeyword S o := by
  have g : sd_on on_X3_takeKeyword S S := sd_on.rf
  unfold f_X3_takeKeyword_h17 at h
  obtain rfl := Option.some.inj h
  exact g
theorem fr_X3_takeKeyword (F : Nat) (x1 : Int32) (x2 : Int32) (S : si_St) (o : si_St) (h : f_X3_takeKeyword F x1 x2 S = some o) : sd_on on_X3_takeKeyword S o := by
  have g : sd_on on_X3_takeKeyword S S := sd_on.rf
  unfold f_X3_takeKeyword at h
  rcases Decidable.em (x1 < x2) with c2 | c2
  · have h := si_ip c2 h
    obtain ⟨S1, eS1, h⟩ := si_ob h
    have g := g.tr ((fr_X3_advance F S S1 eS1).mono (by decide))
    exact g.tr (fr_X3_takeKeyword_h17 F _ _ h)
  · have h := si_in c2 h
    obtain ⟨S2, eS2, h⟩ := si_ob h
    have g := g.tr ((fr_X3_fail F 4 S S2 eS2).mono (by decide))
    exact g.tr (fr_X3_takeKeyword_h17 F _ _ h)
def on_X3_readTerm : List Nat := [1, 69, 70, 71, 72, 73, 74, 75, 76, 77, 78, 79, 80, 81, 82, 83, 84, 85, 86]
theorem fr_X3_readTerm_h61 (F : Nat) (k1 : Nat) (hk1 : si_kd k1 = 2) (S : si_St) (o : si_St) (h : f_X3_readTerm_h61 F k1 S = some o) : sd_on on_X3_readTerm S o := by
  have g : sd_on on_X3_readTerm S S := sd_on.rf
  unfold f_X3_readTerm_h61 at h
  obtain rfl := Option.some.inj h
  exact g
theorem fr_X3_readTerm_h38 (F : Nat) (k1 : Nat) (hk1 : si_kd k1 = 2) (x3 : Int32) (S : si_St) (o : si_St) (h : f_X3_readTerm_h38 F k1 x3 S = some o) : sd_on on_X3_readTerm S o := by
  have g : sd_on on_X3_readTerm S S := sd_on.rf
  unfold f_X3_readTerm_h38 at h
  obtain ⟨q1, eq1, h⟩ := si_ob h
  have g := g.tr ((fr_X3_takeNumber F 1 5 S q1 eq1).mono (by decide))
  rcases Decidable.em ((q1.2.1 1 3) = 0) with c50 | c50
  · have h := si_ip c50 h
    obtain ⟨S2, eS2, h⟩ := si_ob h
    have g := g.tr (on_wr eS2 (sd_mkin hk1 (by decide) (by decide)))
    exact g.tr (fr_X3_readTerm_h61 F k1 hk1 _ _ h)
  · have h := si_in c50 h
    exact g.tr (fr_X3_readTerm_h61 F k1 hk1 _ _ h)
theorem fr_X3_readTerm (F : Nat) (k1 : Nat) (hk1 : si_kd k1 = 2) (S : si_St) (o : si_St) (h : f_X3_readTerm F k1 S = some o) : sd_on on_X3_readTerm S o := by
  have g : sd_on on_X3_readTerm S S := sd_on.rf
  unfold f_X3_readTerm at h
  obtain ⟨S3, eS3, h⟩ := si_ob h
  have g := g.tr ((fr_X3_advance F S S3 eS3).mono (by decide))
  obtain ⟨v4, ev4, h⟩ := si_ob h
  obtain ⟨q5, eq5, h⟩ := si_ob h
  have g := g.tr ((fr_X3_takeNumber F 0 2 S3 q5 eq5).mono (by decide))
  rcases Decidable.em ((q5.2.1 1 3) = 0) with c20 | c20
  · have h := si_ip c20 h
    obtain ⟨v6, ev6, h⟩ := si_ob h
    rcases Decidable.em (v6 = 0) with c29 | c29
    · have h := si_ip c29 h
      exact g.tr (fr_X3_readTerm_h38 F k1 hk1 _ _ _ h)
    · have h := si_in c29 h
      obtain ⟨S7, eS7, h⟩ := si_ob h
      have g := g.tr ((fr_X3_failAt F 2 v4 q5.2 S7 eS7).mono (by decide))
      exact g.tr (fr_X3_readTerm_h38 F k1 hk1 _ _ _ h)
  · have h := si_in c20 h
    exact g.tr (fr_X3_readTerm_h38 F k1 hk1 _ _ _ h)
def on_X3_readSet : List Nat := [1, 69, 70, 71, 72, 73, 74, 75, 76, 77, 78, 79, 80, 81, 82, 83, 84, 85, 86]
theorem fr_X3_readSet_h92 (F : Nat) (k1 : Nat) (hk1 : si_kd k1 = 2) (S : si_St) (o : si_St) (h : f_X3_readSet_h92 F k1 S = some o) : sd_on on_X3_readSet S o := by
  have g : sd_on on_X3_readSet S S := sd_on.rf
  unfold f_X3_readSet_h92 at h
  obtain rfl := Option.some.inj h
  exact g
theorem fr_X3_readSet_h81 (F : Nat) (k1 : Nat) (hk1 : si_kd k1 = 2) (t0 : Int32) (t1 : Int32) (S : si_St) (o : si_St) (h : f_X3_readSet_h81 F k1 t0 t1 S = some o) : sd_on on_X3_readSet S o := by
  have g : sd_on on_X3_readSet S S := sd_on.rf
  unfold f_X3_readSet_h81 at h
  obtain ⟨S1, eS1, h⟩ := si_ob h
  have g := g.tr (on_wr eS1 (sd_mkin hk1 (by decide) (by decide)))
  obtain ⟨S2, eS2, h⟩ := si_ob h
  have g := g.tr (on_pt eS2 (sd_mkin0 hk1 (by decide)))
  exact g.tr (fr_X3_readSet_h92 F k1 hk1 _ _ h)
theorem fr_X3_readSet_h47 (F : Nat) (k1 : Nat) (hk1 : si_kd k1 = 2) (x2 : Int32) (x3 : Int32) (S : si_St) (o : si_St) (h : f_X3_readSet_h47 F k1 x2 x3 S = some o) : sd_on on_X3_readSet S o := by
  have g : sd_on on_X3_readSet S S := sd_on.rf
  unfold f_X3_readSet_h47 at h
  rcases Decidable.em ((S.1 1 3) = 0) with c51 | c51
  · have h := si_ip c51 h
    obtain ⟨S3, eS3, h⟩ := si_ob h
    have g := g.tr (on_wr eS3 (sd_mkin hk1 (by decide) (by decide)))
    rcases Decidable.em (x3 = 0) with c73 | c73
    · have h := si_ip c73 h
      exact g.tr (fr_X3_readSet_h81 F k1 hk1 _ _ _ _ h)
    · have h := si_in c73 h
      exact g.tr (fr_X3_readSet_h81 F k1 hk1 _ _ _ _ h)
  · have h := si_in c51 h
    exact g.tr (fr_X3_readSet_h92 F k1 hk1 _ _ h)
theorem fr_X3_readSet_h38 (F : Nat) (k1 : Nat) (hk1 : si_kd k1 = 2) (x2 : Int32) (t0 : Int32) (S : si_St) (o : si_St) (h : f_X3_readSet_h38 F k1 x2 t0 S = some o) : sd_on on_X3_readSet S o := by
  have g : sd_on on_X3_readSet S S := sd_on.rf
  unfold f_X3_readSet_h38 at h
  rcases Decidable.em (t0 = 0) with c40 | c40
  · have h := si_ip c40 h
    exact g.tr (fr_X3_readSet_h47 F k1 hk1 _ _ _ _ h)
  · have h := si_in c40 h
    obtain ⟨S4, eS4, h⟩ := si_ob h
    have g := g.tr ((fr_X3_advance F S S4 eS4).mono (by decide))
    exact g.tr (fr_X3_readSet_h47 F k1 hk1 _ _ _ _ h)
theorem fr_X3_readSet_h37 (F : Nat) (k1 : Nat) (hk1 : si_kd k1 = 2) (x2 : Int32) (S : si_St) (o : si_St) (h : f_X3_readSet_h37 F k1 x2 S = some o) : sd_on on_X3_readSet S o := by
  have g : sd_on on_X3_readSet S S := sd_on.rf
  unfold f_X3_readSet_h37 at h
  exact g.tr (fr_X3_readSet_h38 F k1 hk1 _ _ _ _ h)
theorem fr_X3_readSet (F : Nat) (k1 : Nat) (hk1 : si_kd k1 = 2) (S : si_St) (o : si_St) (h : f_X3_readSet F k1 S = some o) : sd_on on_X3_readSet S o := by
  have g : sd_on on_X3_readSet S S := sd_on.rf
  unfold f_X3_readSet at h
  obtain ⟨S5, eS5, h⟩ := si_ob h
  have g := g.tr ((fr_X3_takeKeyword F (S.1 k1 3) 4 S S5 eS5).mono (by decide))
  obtain ⟨q6, eq6, h⟩ := si_ob h
  have g := g.tr ((fr_X3_takeNumber F 2 12 S5 q6 eq6).mono (by decide))
  rcases Decidable.em ((q6.2.1 1 3) = 0) with c21 | c21
  · have h := si_ip c21 h
    obtain ⟨q7, eq7, h⟩ := si_ob h
    have g := g.tr ((fr_X3_isWord F 7 (by decide) q6.2 q7 eq7).mono (by decide))
    rcases Decidable.em (q7.1 = 0) with c30 | c30
    · have h := si_ip c30 h
      exact g.tr (fr_X3_readSet_h37 F k1 hk1 _ _ _ h)
    · have h := si_in c30 h
      exact g.tr (fr_X3_readSet_h38 F k1 hk1 _ _ _ _ h)
  · have h := si_in c21 h
    exact g.tr (fr_X3_readSet_h37 F k1 hk1 _ _ _ h)
def on_X3_readMass : List Nat := [1, 69, 70, 71, 72, 73, 74, 75, 76, 77, 78, 79, 80, 81, 82, 83, 84, 85, 86]
theorem fr_X3_readMass_h114 (F : Nat) (k1 : Nat) (hk1 : si_kd k1 = 2) (S : si_St) (o : si_St) (h : f_X3_readMass_h114 F k1 S = some o) : sd_on on_X3_readMass S o := by
  have g : sd_on on_X3_readMass S S := sd_on.rf
  unfold f_X3_readMass_h114 at h
  obtain rfl := Option.some.inj h
  exact g
theorem fr_X3_readMass_h87 (F : Nat) (k1 : Nat) (hk1 : si_kd k1 = 2) (x2 : Int32) (S : si_St) (o : si_St) (h : f_X3_readMass_h87 F k1 x2 S = some o) : sd_on on_X3_readMass S o := by
  have g : sd_on on_X3_readMass S S := sd_on.rf
  unfold f_X3_readMass_h87 at h
  rcases Decidable.em ((S.1 1 3) = 0) with c91 | c91
  · have h := si_ip c91 h
    obtain ⟨S1, eS1, h⟩ := si_ob h
    have g := g.tr (on_wr eS1 (sd_mkin hk1 (by decide) (by decide)))
    obtain ⟨S2, eS2, h⟩ := si_ob h
    have g := g.tr (on_pt eS2 (sd_mkin0 hk1 (by decide)))
    exact g.tr (fr_X3_readMass_h114 F k1 hk1 _ _ h)
  · have h := si_in c91 h
    exact g.tr (fr_X3_readMass_h114 F k1 hk1 _ _ h)
theorem fr_X3_readMass_h51 (F : Nat) (k1 : Nat) (hk1 : si_kd k1 = 2) (x2 : Int32) (S : si_St) (o : si_St) (h : f_X3_readMass_h51 F k1 x2 S = some o) : sd_on on_X3_readMass S o := by
  have g : sd_on on_X3_readMass S S := sd_on.rf
  unfold f_X3_readMass_h51 at h
  rcases Decidable.em ((S.1 1 3) = 0) with c55 | c55
  · have h := si_ip c55 h
    obtain ⟨q3, eq3, h⟩ := si_ob h
    have g := g.tr ((fr_X3_isWord F 6 (by decide) S q3 eq3).mono (by decide))
    rcases Decidable.em (q3.1 = 0) with c64 | c64
    · have h := si_ip c64 h
      exact g.tr (fr_X3_readMass_h87 F k1 hk1 _ _ _ h)
    · have h := si_in c64 h
      obtain ⟨S4, eS4, h⟩ := si_ob h
      have g := g.tr ((fr_X3_advance F q3.2 S4 eS4).mono (by decide))
      obtain ⟨q5, eq5, h⟩ := si_ob h
      have g := g.tr ((fr_X3_takeNumber F 0 (si_min 99 (x2 - 1)) S4 q5 eq5).mono (by decide))
      obtain ⟨v6, ev6, h⟩ := si_ob h
      exact g.tr (fr_X3_readMass_h87 F k1 hk1 _ _ _ h)
  · have h := si_in c55 h
    exact g.tr (fr_X3_readMass_h87 F k1 hk1 _ _ _ h)
theorem fr_X3_readMass (F : Nat) (k1 : Nat) (hk1 : si_kd k1 = 2) (S : si_St) (o : si_St) (h : f_X3_readMass F k1 S = some o) : sd_on on_X3_readMass S o := by
  have g : sd_on on_X3_readMass S S := sd_on.rf
  unfold f_X3_readMass at h
  obtain ⟨S7, eS7, h⟩ := si_ob h
  have g := g.tr ((fr_X3_takeKeyword F (S.1 k1 2) 10 S S7 eS7).mono (by decide))
  obtain ⟨q8, eq8, h⟩ := si_ob h
  have g := g.tr ((fr_X3_takeNumber F 1 999999 S7 q8 eq8).mono (by decide))
  rcases Decidable.em ((q8.2.1 1 3) = 0) with c22 | c22
  · have h := si_ip c22 h
    obtain ⟨q9, eq9, h⟩ := si_ob h
    have g := g.tr ((fr_X3_isWord F 5 (by decide) q8.2 q9 eq9).mono (by decide))
    rcases Decidable.em (q9.1 = 0) with c31 | c31
    · have h := si_ip c31 h
      exact g.tr (fr_X3_readMass_h51 F k1 hk1 _ _ _ h)
    · have h := si_in c31 h
      obtain ⟨S10, eS10, h⟩ := si_ob h
      have g := g.tr ((fr_X3_advance F q9.2 S10 eS10).mono (by decide))
      obtain ⟨q11, eq11, h⟩ := si_ob h
      have g := g.tr ((fr_X3_takeNumber F 0 99 S10 q11 eq11).mono (by decide))
      obtain ⟨v12, ev12, h⟩ := si_ob h
      exact g.tr (fr_X3_readMass_h87 F k1 hk1 _ _ _ h)
  · have h := si_in c22 h
    exact g.tr (fr_X3_readMass_h51 F k1 hk1 _ _ _ h)
def on_X3_readScale : List Nat := [1, 69, 70, 71, 72, 73, 74, 75, 76, 77, 78, 79, 80, 81, 82, 83, 84, 85, 86]
theorem fr_X3_readScale_h111 (F : Nat) (k1 : Nat) (hk1 : si_kd k1 = 2) (S : si_St) (o : si_St) (h : f_X3_readScale_h111 F k1 S = some o) : sd_on on_X3_readScale S o := by
  have g : sd_on on_X3_readScale S S := sd_on.rf
  unfold f_X3_readScale_h111 at h
  obtain rfl := Option.some.inj h
  exact g
theorem fr_X3_readScale (F : Nat) (k1 : Nat) (hk1 : si_kd k1 = 2) (S : si_St) (o : si_St) (h : f_X3_readScale F k1 S = some o) : sd_on on_X3_readScale S o := by
  have g : sd_on on_X3_readScale S S := sd_on.rf
  unfold f_X3_readScale at h
  obtain ⟨S1, eS1, h⟩ := si_ob h
  have g := g.tr ((fr_X3_takeKeyword F (S.1 k1 1) 24 S S1 eS1).mono (by decide))
  obtain ⟨q2, eq2, h⟩ := si_ob h
  have g := g.tr ((fr_X3_takeNumber F 0 ((S1.1 k1 0) - 1) S1 q2 eq2).mono (by decide))
  obtain ⟨q3, eq3, h⟩ := si_ob h
  have g := g.tr ((fr_X3_takeNumber F 0 2 q2.2 q3 eq3).mono (by decide))
  obtain ⟨q4, eq4, h⟩ := si_ob h
  have g := g.tr ((fr_X3_takeNumber F 1 1000 q3.2 q4 eq4).mono (by decide))
  obtain ⟨q5, eq5, h⟩ := si_ob h
  have g := g.tr ((fr_X3_takeNumber F (20 * q4.1) 999999 q4.2 q5 eq5).mono (by decide))
  rcases Decidable.em ((q5.2.1 1 3) = 0) with c56 | c56
  · have h := si_ip c56 h
    obtain ⟨S6, eS6, h⟩ := si_ob h
    have g := g.tr (on_wr eS6 (sd_mkin hk1 (by decide) (by decide)))
    obtain ⟨S7, eS7, h⟩ := si_ob h
    have g := g.tr (on_wr eS7 (sd_mkin hk1 (by decide) (by decide)))
    obtain ⟨S8, eS8, h⟩ := si_ob h
    have g := g.tr (on_wr eS8 (sd_mkin hk1 (by decide) (by decide)))
    obtain ⟨S9, eS9, h⟩ := si_ob h
    have g := g.tr (on_wr eS9 (sd_mkin hk1 (by decide) (by decide)))
    obtain ⟨S10, eS10, h⟩ := si_ob h
    have g := g.tr (on_pt eS10 (sd_mkin0 hk1 (by decide)))
    exact g.tr (fr_X3_readScale_h111 F k1 hk1 _ _ h)
  · have h := si_in c56 h
    exact g.tr (fr_X3_readScale_h111 F k1 hk1 _ _ h)
def on_X3_readStatement : List Nat := [1, 69, 70, 71, 72, 73, 74, 75, 76, 77, 78, 79, 80, 81, 82, 83, 84, 85, 86]
theorem fr_X3_readStatement_h105 (F : Nat) (k1 : Nat) (hk1 : si_kd k1 = 2) (S : si_St) (o : si_St) (h : f_X3_readStatement_h105 F k1 S = some o) : sd_on on_X3_readStatement S o := by
  have g : sd_on on_X3_readStatement S S := sd_on.rf
  unfold f_X3_readStatement_h105 at h
  obtain ⟨S1, eS1, h⟩ := si_ob h
  have g := g.tr ((fr_X3_takeSemicolon F S S1 eS1).mono (by decide))
  obtain rfl := Option.some.inj h
  exact g
theorem fr_X3_readStatement (F : Nat) (k1 : Nat) (hk1 : si_kd k1 = 2) (S : si_St) (o : si_St) (h : f_X3_readStatement F k1 S = some o) : sd_on on_X3_readStatement S o := by
  have g : sd_on on_X3_readStatement S S := sd_on.rf
  unfold f_X3_readStatement at h
  obtain ⟨q2, eq2, h⟩ := si_ob h
  have g := g.tr ((fr_X3_isWord F 0 (by decide) S q2 eq2).mono (by decide))
  rcases Decidable.em (q2.1 = 0) with c6 | c6
  · have h := si_ip c6 h
    obtain ⟨q3, eq3, h⟩ := si_ob h
    have g := g.tr ((fr_X3_isWord F 1 (by decide) q2.2 q3 eq3).mono (by decide))
    rcases Decidable.em (q3.1 = 0) with c38 | c38
    · have h := si_ip c38 h
      obtain ⟨q4, eq4, h⟩ := si_ob h
      have g := g.tr ((fr_X3_isWord F 2 (by decide) q3.2 q4 eq4).mono (by decide))
      rcases Decidable.em (q4.1 = 0) with c55 | c55
      · have h := si_ip c55 h
        obtain ⟨q5, eq5, h⟩ := si_ob h
        have g := g.tr ((fr_X3_isWord F 3 (by decide) q4.2 q5 eq5).mono (by decide))
        rcases Decidable.em (q5.1 = 0) with c72 | c72
        · have h := si_ip c72 h
          obtain ⟨q6, eq6, h⟩ := si_ob h
          have g := g.tr ((fr_X3_isWord F 4 (by decide) q5.2 q6 eq6).mono (by decide))
          rcases Decidable.em (q6.1 = 0) with c89 | c89
          · have h := si_ip c89 h
            obtain ⟨S7, eS7, h⟩ := si_ob h
            have g := g.tr ((fr_X3_fail F 1 q6.2 S7 eS7).mono (by decide))
            exact g.tr (fr_X3_readStatement_h105 F k1 hk1 _ _ h)
          · have h := si_in c89 h
            obtain ⟨S8, eS8, h⟩ := si_ob h
            have g := g.tr ((fr_X3_readTerm F k1 hk1 q6.2 S8 eS8).mono (by decide))
            exact g.tr (fr_X3_readStatement_h105 F k1 hk1 _ _ h)
        · have h := si_in c72 h
          obtain ⟨S9, eS9, h⟩ := si_ob h
          have g := g.tr ((fr_X3_readSet F k1 hk1 q5.2 S9 eS9).mono (by decide))
          exact g.tr (fr_X3_readStatement_h105 F k1 hk1 _ _ h)
      · have h := si_in c55 h
        obtain ⟨S10, eS10, h⟩ := si_ob h
        have g := g.tr ((fr_X3_readMass F k1 hk1 q4.2 S10 eS10).mono (by decide))
        exact g.tr (fr_X3_readStatement_h105 F k1 hk1 _ _ h)
    · have h := si_in c38 h
      obtain ⟨S11, eS11, h⟩ := si_ob h
      have g := g.tr ((fr_X3_readScale F k1 hk1 q3.2 S11 eS11).mono (by decide))
      exact g.tr (fr_X3_readStatement_h105 F k1 hk1 _ _ h)
  · have h := si_in c6 h
    obtain ⟨S12, eS12, h⟩ := si_ob h
    have g := g.tr ((fr_X3_takeKeyword F (q2.2.1 k1 0) 8 q2.2 S12 eS12).mono (by decide))
    obtain ⟨S13, eS13, h⟩ := si_ob h
    have g := g.tr (on_pt eS13 (sd_mkin0 hk1 (by decide)))
    exact g.tr (fr_X3_readStatement_h105 F k1 hk1 _ _ h)
def on_X3_readMarket : List Nat := [1, 69, 70, 71, 72, 73, 74, 75, 76, 77, 78, 79, 80, 81, 82, 83, 84, 85, 86]
theorem fr_X3_readMarket_h61 (F : Nat) (k2 : Nat) (hk2 : si_kd k2 = 2) (S : si_St) (o : Int32 × si_St) (h : f_X3_readMarket_h61 F k2 S = some o) : sd_on on_X3_readMarket S o.2 := by
  have g : sd_on on_X3_readMarket S S := sd_on.rf
  unfold f_X3_readMarket_h61 at h
  obtain rfl := Option.some.inj h
  exact g
theorem fr_X3_readMarket_h31 (F : Nat) (k2 : Nat) (hk2 : si_kd k2 = 2) (r31 : Int32 → Int32 → si_St → Option (Int32 × si_St)) (hr31 : ∀ (x1 : Int32) (x3 : Int32) (S : si_St) (o : Int32 × si_St), r31 x1 x3 S = some o → sd_on on_X3_readMarket S o.2) (x1 : Int32) (x3 : Int32) (S : si_St) (o : Int32 × si_St) (h : f_X3_readMarket_h31 F k2 r31 x1 x3 S = some o) : sd_on on_X3_readMarket S o.2 := by
  have g : sd_on on_X3_readMarket S S := sd_on.rf
  unfold f_X3_readMarket_h31 at h
  rcases Decidable.em (x1 ≤ x3) with c33 | c33
  · have h := si_ip c33 h
    exact g.tr (fr_X3_readMarket_h61 F k2 hk2 _ _ h)
  · have h := si_in c33 h
    rcases Decidable.em ((S.1 1 7) = 0) with c40 | c40
    · have h := si_ip c40 h
      exact g.tr (fr_X3_readMarket_h61 F k2 hk2 _ _ h)
    · have h := si_in c40 h
      rcases Decidable.em ((S.1 1 3) = 0) with c47 | c47
      · have h := si_ip c47 h
        obtain ⟨S1, eS1, h⟩ := si_ob h
        have g := g.tr ((fr_X3_readStatement F k2 hk2 S S1 eS1).mono (by decide))
        obtain ⟨v2, ev2, h⟩ := si_ob h
        exact g.tr (hr31 _ _ _ _ h)
      · have h := si_in c47 h
        exact g.tr (fr_X3_readMarket_h61 F k2 hk2 _ _ h)
theorem fr_X3_readMarket_l31 (F : Nat) (k2 : Nat) (hk2 : si_kd k2 = 2) : ∀ (n : Nat) (x1 : Int32) (x3 : Int32) (S : si_St) (o : Int32 × si_St), f_X3_readMarket_l31 F k2 n x1 x3 S = some o → sd_on on_X3_readMarket S o.2 := by
  intro n
  induction n with
  | zero => intro x1 x3 S o h; cases h
  | succ n ih =>
    intro x1 x3 S o h
    exact fr_X3_readMarket_h31 F k2 hk2 (f_X3_readMarket_l31 F k2 n) ih x1 x3 S o h
theorem fr_X3_readMarket (F : Nat) (k2 : Nat) (hk2 : si_kd k2 = 2) (x1 : Int32) (S : si_St) (o : Int32 × si_St) (h : f_X3_readMarket F k2 x1 S = some o) : sd_on on_X3_readMarket S o.2 := by
  have g : sd_on on_X3_readMarket S S := sd_on.rf
  unfold f_X3_readMarket at h
  obtain ⟨S3, eS3, h⟩ := si_ob h
  have g := g.tr ((fr_X2_clear F k2 hk2 S S3 eS3).mono (by decide))
  obtain ⟨S4, eS4, h⟩ := si_ob h
  have g := g.tr (on_pt eS4 (by decide))
  obtain ⟨S5, eS5, h⟩ := si_ob h
  have g := g.tr (on_pt eS5 (by decide))
  obtain ⟨S6, eS6, h⟩ := si_ob h
  have g := g.tr (on_pt eS6 (by decide))
  obtain ⟨S7, eS7, h⟩ := si_ob h
  have g := g.tr (on_pt eS7 (by decide))
  obtain ⟨S8, eS8, h⟩ := si_ob h
  have g := g.tr ((fr_X3_advance F S7 S8 eS8).mono (by decide))
  exact g.tr (fr_X3_readMarket_l31 F k2 hk2 F _ _ _ _ h)
def on_X5_oneMore : List Nat := []
theorem fr_X5_oneMore_h14 (F : Nat) (t0 : Int32) (S : si_St) (o : Int32 × si_St) (h : f_X5_oneMore_h14 F t0 S = some o) : sd_on on_X5_oneMore S o.2 := by
  have g : sd_on on_X5_oneMore S S := sd_on.rf
  unfold f_X5_oneMore_h14 at h
  obtain rfl := Option.some.inj h
  exact g
theorem fr_X5_oneMore (F : Nat) (x0 : Int32) (S : si_St) (o : Int32 × si_St) (h : f_X5_oneMore F x0 S = some o) : sd_on on_X5_oneMore S o.2 := by
  have g : sd_on on_X5_oneMore S S := sd_on.rf
  unfold f_X5_oneMore at h
  rcases Decidable.em (x0 = 99) with c3 | c3
  · have h := si_ip c3 h
    exact g.tr (fr_X5_oneMore_h14 F _ _ _ h)
  · have h := si_in c3 h
    exact g.tr (fr_X5_oneMore_h14 F _ _ _ h)
def on_X5_leftPan : List Nat := []
theorem fr_X5_leftPan (F : Nat) (x0 : Int32) (S : si_St) (o : Int32 × si_St) (h : f_X5_leftPan F x0 S = some o) : sd_on on_X5_leftPan S o.2 := by
  have g : sd_on on_X5_leftPan S S := sd_on.rf
  unfold f_X5_leftPan at h
  obtain rfl := Option.some.inj h
  exact g
def on_X5_rightPan : List Nat := []
theorem fr_X5_rightPan (F : Nat) (x0 : Int32) (S : si_St) (o : Int32 × si_St) (h : f_X5_rightPan F x0 S = some o) : sd_on on_X5_rightPan S o.2 := by
  have g : sd_on on_X5_rightPan S S := sd_on.rf
  unfold f_X5_rightPan at h
  obtain rfl := Option.some.inj h
  exact g
def on_X5_lowest : List Nat := []
theorem fr_X5_lowest_h4 (F : Nat) (r4 : Int32 → Int32 → Int32 → Int32 → si_St → Option (Int32 × si_St)) (hr4 : ∀ (x0 : Int32) (x1 : Int32) (x2 : Int32) (x3 : Int32) (S : si_St) (o : Int32 × si_St), r4 x0 x1 x2 x3 S = some o → sd_on on_X5_lowest S o.2) (x0 : Int32) (x1 : Int32) (x2 : Int32) (x3 : Int32) (S : si_St) (o : Int32 × si_St) (h : f_X5_lowest_h4 F r4 x0 x1 x2 x3 S = some o) : sd_on on_X5_lowest S o.2 := by
  have g : sd_on on_X5_lowest S S := sd_on.rf
  unfold f_X5_lowest_h4 at h
  rcases Decidable.em (x1 ≤ x3) with c6 | c6
  · have h := si_ip c6 h
    obtain rfl := Option.some.inj h
    exact g
  · have h := si_in c6 h
    obtain ⟨v1, ev1, h⟩ := si_ob h
    obtain ⟨v2, ev2, h⟩ := si_ob h
    exact g.tr (hr4 _ _ _ _ _ _ h)
theorem fr_X5_lowest_l4 (F : Nat) : ∀ (n : Nat) (x0 : Int32) (x1 : Int32) (x2 : Int32) (x3 : Int32) (S : si_St) (o : Int32 × si_St), f_X5_lowest_l4 F n x0 x1 x2 x3 S = some o → sd_on on_X5_lowest S o.2 := by
  intro n
  induction n with
  | zero => intro x0 x1 x2 x3 S o h; cases h
  | succ n ih =>
    intro x0 x1 x2 x3 S o h
    exact fr_X5_lowest_h4 F (f_X5_lowest_l4 F n) ih x0 x1 x2 x3 S o h
theorem fr_X5_lowest (F : Nat) (x0 : Int32) (x1 : Int32) (S : si_St) (o : Int32 × si_St) (h : f_X5_lowest F x0 x1 S = some o) : sd_on on_X5_lowest S o.2 := by
  have g : sd_on on_X5_lowest S S := sd_on.rf
  unfold f_X5_lowest at h
  exact g.tr (fr_X5_lowest_l4 F F _ _ _ _ _ _ h)
def on_X5_splitAt : List Nat := []
theorem fr_X5_splitAt (F : Nat) (x1 : Int32) (x2 : Int32) (S : si_St) (o : Int32 × si_St) (h : f_X5_splitAt F x1 x2 S = some o) : sd_on on_X5_splitAt S o.2 := by
  have g : sd_on on_X5_splitAt S S := sd_on.rf
  unfold f_X5_splitAt at h
  obtain rfl := Option.some.inj h
  exact g
def on_X5_mixedAt : List Nat := []
theorem fr_X5_mixedAt (F : Nat) (x1 : Int32) (S : si_St) (o : Int32 × si_St) (h : f_X5_mixedAt F x1 S = some o) : sd_on on_X5_mixedAt S o.2 := by
  have g : sd_on on_X5_mixedAt S S := sd_on.rf
  unfold f_X5_mixedAt at h
  obtain rfl := Option.some.inj h
  exact g
def on_X5_worst : List Nat := []
theorem fr_X5_worst (F : Nat) (x1 : Int32) (x2 : Int32) (x3 : Int32) (x4 : Int32) (S : si_St) (o : Int32 × si_St) (h : f_X5_worst F x1 x2 x3 x4 S = some o) : sd_on on_X5_worst S o.2 := by
  have g : sd_on on_X5_worst S S := sd_on.rf
  unfold f_X5_worst at h
  rcases Decidable.em ((S.1 65 4) = 0) with c4 | c4
  · have h := si_ip c4 h
    obtain ⟨q1, eq1, h⟩ := si_ob h
    have g := g.tr ((fr_X5_splitAt F (((S.1 65 6) - x1) - x2) (((S.1 65 7) - x3) - x4) S q1 eq1).mono (by decide))
    obtain ⟨v2, ev2, h⟩ := si_ob h
    obtain ⟨q3, eq3, h⟩ := si_ob h
    have g := g.tr ((fr_X5_splitAt F x1 x4 q1.2 q3 eq3).mono (by decide))
    obtain ⟨v4, ev4, h⟩ := si_ob h
    obtain ⟨q5, eq5, h⟩ := si_ob h
    have g := g.tr ((fr_X5_splitAt F x2 x3 q3.2 q5 eq5).mono (by decide))
    obtain ⟨v6, ev6, h⟩ := si_ob h
    obtain rfl := Option.some.inj h
    exact g
  · have h := si_in c4 h
    obtain ⟨q7, eq7, h⟩ := si_ob h
    have g := g.tr ((fr_X5_mixedAt F (((S.1 65 6) - x1) - x2) S q7 eq7).mono (by decide))
    obtain ⟨v8, ev8, h⟩ := si_ob h
    obtain ⟨q9, eq9, h⟩ := si_ob h
    have g := g.tr ((fr_X5_splitAt F x1 x2 q7.2 q9 eq9).mono (by decide))
    obtain ⟨v10, ev10, h⟩ := si_ob h
    obtain rfl := Option.some.inj h
    exact g
def on_X5_leastWorst : List Nat := []
theorem fr_X5_leastWorst_h126 (F : Nat) (r20 : Int32 → Int32 → Int32 → si_St → Option (Int32 × si_St)) (hr20 : ∀ (x1 : Int32) (x2 : Int32) (x3 : Int32) (S : si_St) (o : Int32 × si_St), r20 x1 x2 x3 S = some o → sd_on on_X5_leastWorst S o.2) (x1 : Int32) (x2 : Int32) (x3 : Int32) (S : si_St) (o : Int32 × si_St) (h : f_X5_leastWorst_h126 F r20 x1 x2 x3 S = some o) : sd_on on_X5_leastWorst S o.2 := by
  have g : sd_on on_X5_leastWorst S S := sd_on.rf
  unfold f_X5_leastWorst_h126 at h
  obtain ⟨v1, ev1, h⟩ := si_ob h
  exact g.tr (hr20 _ _ _ _ _ h)
theorem fr_X5_leastWorst_h108 (F : Nat) (r20 : Int32 → Int32 → Int32 → si_St → Option (Int32 × si_St)) (r31 : Int32 → Int32 → Int32 → Int32 → si_St → Option (Int32 × si_St)) (r51 : Int32 → Int32 → Int32 → Int32 → Int32 → si_St → Option (Int32 × si_St)) (r63 : Int32 → Int32 → Int32 → Int32 → Int32 → Int32 → si_St → Option (Int32 × si_St)) (hr20 : ∀ (x1 : Int32) (x2 : Int32) (x3 : Int32) (S : si_St) (o : Int32 × si_St), r20 x1 x2 x3 S = some o → sd_on on_X5_leastWorst S o.2) (hr31 : ∀ (x1 : Int32) (x2 : Int32) (x3 : Int32) (x4 : Int32) (S : si_St) (o : Int32 × si_St), r31 x1 x2 x3 x4 S = some o → sd_on on_X5_leastWorst S o.2) (hr51 : ∀ (x1 : Int32) (x2 : Int32) (x3 : Int32) (x4 : Int32) (x5 : Int32) (S : si_St) (o : Int32 × si_St), r51 x1 x2 x3 x4 x5 S = some o → sd_on on_X5_leastWorst S o.2) (hr63 : ∀ (x1 : Int32) (x2 : Int32) (x3 : Int32) (x4 : Int32) (x5 : Int32) (x6 : Int32) (S : si_St) (o : Int32 × si_St), r63 x1 x2 x3 x4 x5 x6 S = some o → sd_on on_X5_leastWorst S o.2) (x1 : Int32) (x2 : Int32) (x3 : Int32) (x4 : Int32) (x5 : Int32) (x6 : Int32) (S : si_St) (o : Int32 × si_St) (h : f_X5_leastWorst_h108 F r20 r31 r51 r63 x1 x2 x3 x4 x5 x6 S = some o) : sd_on on_X5_leastWorst S o.2 := by
  have g : sd_on on_X5_leastWorst S S := sd_on.rf
  unfold f_X5_leastWorst_h108 at h
  obtain ⟨v2, ev2, h⟩ := si_ob h
  exact g.tr (hr63 _ _ _ _ _ _ _ _ h)
theorem fr_X5_leastWorst_h63 (F : Nat) (r20 : Int32 → Int32 → Int32 → si_St → Option (Int32 × si_St)) (r31 : Int32 → Int32 → Int32 → Int32 → si_St → Option (Int32 × si_St)) (r51 : Int32 → Int32 → Int32 → Int32 → Int32 → si_St → Option (Int32 × si_St)) (r63 : Int32 → Int32 → Int32 → Int32 → Int32 → Int32 → si_St → Option (Int32 × si_St)) (hr20 : ∀ (x1 : Int32) (x2 : Int32) (x3 : Int32) (S : si_St) (o : Int32 × si_St), r20 x1 x2 x3 S = some o → sd_on on_X5_leastWorst S o.2) (hr31 : ∀ (x1 : Int32) (x2 : Int32) (x3 : Int32) (x4 : Int32) (S : si_St) (o : Int32 × si_St), r31 x1 x2 x3 x4 S = some o → sd_on on_X5_leastWorst S o.2) (hr51 : ∀ (x1 : Int32) (x2 : Int32) (x3 : Int32) (x4 : Int32) (x5 : Int32) (S : si_St) (o : Int32 × si_St), r51 x1 x2 x3 x4 x5 S = some o → sd_on on_X5_leastWorst S o.2) (hr63 : ∀ (x1 : Int32) (x2 : Int32) (x3 : Int32) (x4 : Int32) (x5 : Int32) (x6 : Int32) (S : si_St) (o : Int32 × si_St), r63 x1 x2 x3 x4 x5 x6 S = some o → sd_on on_X5_leastWorst S o.2) (x1 : Int32) (x2 : Int32) (x3 : Int32) (x4 : Int32) (x5 : Int32) (x6 : Int32) (S : si_St) (o : Int32 × si_St) (h : f_X5_leastWorst_h63 F r20 r31 r51 r63 x1 x2 x3 x4 x5 x6 S = some o) : sd_on on_X5_leastWorst S o.2 := by
  have g : sd_on on_X5_leastWorst S S := sd_on.rf
  unfold f_X5_leastWorst_h63 at h
  rcases Decidable.em ((S.1 65 7) < (x5 + x6)) with c72 | c72
  · have h := si_ip c72 h
    obtain ⟨v3, ev3, h⟩ := si_ob h
    exact g.tr (hr51 _ _ _ _ _ _ _ h)
  · have h := si_in c72 h
    rcases Decidable.em (x1 < (si_abs (((x3 + x5) - x4) - x6))) with c89 | c89
    · have h := si_ip c89 h
      exact g.tr (fr_X5_leastWorst_h108 F r20 r31 r51 r63 hr20 hr31 hr51 hr63 _ _ _ _ _ _ _ _ h)
    · have h := si_in c89 h
      obtain ⟨q4, eq4, h⟩ := si_ob h
      have g := g.tr ((fr_X5_worst F x3 x4 x5 x6 S q4 eq4).mono (by decide))
      obtain ⟨v5, ev5, h⟩ := si_ob h
      exact g.tr (fr_X5_leastWorst_h108 F r20 r31 r51 r63 hr20 hr31 hr51 hr63 _ _ _ _ _ _ _ _ h)
theorem fr_X5_leastWorst_l63 (F : Nat) (r20 : Int32 → Int32 → Int32 → si_St → Option (Int32 × si_St)) (r31 : Int32 → Int32 → Int32 → Int32 → si_St → Option (Int32 × si_St)) (r51 : Int32 → Int32 → Int32 → Int32 → Int32 → si_St → Option (Int32 × si_St)) (hr20 : ∀ (x1 : Int32) (x2 : Int32) (x3 : Int32) (S : si_St) (o : Int32 × si_St), r20 x1 x2 x3 S = some o → sd_on on_X5_leastWorst S o.2) (hr31 : ∀ (x1 : Int32) (x2 : Int32) (x3 : Int32) (x4 : Int32) (S : si_St) (o : Int32 × si_St), r31 x1 x2 x3 x4 S = some o → sd_on on_X5_leastWorst S o.2) (hr51 : ∀ (x1 : Int32) (x2 : Int32) (x3 : Int32) (x4 : Int32) (x5 : Int32) (S : si_St) (o : Int32 × si_St), r51 x1 x2 x3 x4 x5 S = some o → sd_on on_X5_leastWorst S o.2) : ∀ (n : Nat) (x1 : Int32) (x2 : Int32) (x3 : Int32) (x4 : Int32) (x5 : Int32) (x6 : Int32) (S : si_St) (o : Int32 × si_St), f_X5_leastWorst_l63 F r20 r31 r51 n x1 x2 x3 x4 x5 x6 S = some o → sd_on on_X5_leastWorst S o.2 := by
  intro n
  induction n with
  | zero => intro x1 x2 x3 x4 x5 x6 S o h; cases h
  | succ n ih =>
    intro x1 x2 x3 x4 x5 x6 S o h
    exact fr_X5_leastWorst_h63 F r20 r31 r51 (f_X5_leastWorst_l63 F r20 r31 r51 n) hr20 hr31 hr51 ih x1 x2 x3 x4 x5 x6 S o h
theorem fr_X5_leastWorst_h51 (F : Nat) (r20 : Int32 → Int32 → Int32 → si_St → Option (Int32 × si_St)) (r31 : Int32 → Int32 → Int32 → Int32 → si_St → Option (Int32 × si_St)) (r51 : Int32 → Int32 → Int32 → Int32 → Int32 → si_St → Option (Int32 × si_St)) (hr20 : ∀ (x1 : Int32) (x2 : Int32) (x3 : Int32) (S : si_St) (o : Int32 × si_St), r20 x1 x2 x3 S = some o → sd_on on_X5_leastWorst S o.2) (hr31 : ∀ (x1 : Int32) (x2 : Int32) (x3 : Int32) (x4 : Int32) (S : si_St) (o : Int32 × si_St), r31 x1 x2 x3 x4 S = some o → sd_on on_X5_leastWorst S o.2) (hr51 : ∀ (x1 : Int32) (x2 : Int32) (x3 : Int32) (x4 : Int32) (x5 : Int32) (S : si_St) (o : Int32 × si_St), r51 x1 x2 x3 x4 x5 S = some o → sd_on on_X5_leastWorst S o.2) (x1 : Int32) (x2 : Int32) (x3 : Int32) (x4 : Int32) (x5 : Int32) (S : si_St) (o : Int32 × si_St) (h : f_X5_leastWorst_h51 F r20 r31 r51 x1 x2 x3 x4 x5 S = some o) : sd_on on_X5_leastWorst S o.2 := by
  have g : sd_on on_X5_leastWorst S S := sd_on.rf
  unfold f_X5_leastWorst_h51 at h
  rcases Decidable.em ((S.1 65 7) < x5) with c57 | c57
  · have h := si_ip c57 h
    obtain ⟨v6, ev6, h⟩ := si_ob h
    exact g.tr (hr31 _ _ _ _ _ _ h)
  · have h := si_in c57 h
    exact g.tr (fr_X5_leastWorst_l63 F r20 r31 r51 hr20 hr31 hr51 F _ _ _ _ _ _ _ _ h)
theorem fr_X5_leastWorst_l51 (F : Nat) (r20 : Int32 → Int32 → Int32 → si_St → Option (Int32 × si_St)) (r31 : Int32 → Int32 → Int32 → Int32 → si_St → Option (Int32 × si_St)) (hr20 : ∀ (x1 : Int32) (x2 : Int32) (x3 : Int32) (S : si_St) (o : Int32 × si_St), r20 x1 x2 x3 S = some o → sd_on on_X5_leastWorst S o.2) (hr31 : ∀ (x1 : Int32) (x2 : Int32) (x3 : Int32) (x4 : Int32) (S : si_St) (o : Int32 × si_St), r31 x1 x2 x3 x4 S = some o → sd_on on_X5_leastWorst S o.2) : ∀ (n : Nat) (x1 : Int32) (x2 : Int32) (x3 : Int32) (x4 : Int32) (x5 : Int32) (S : si_St) (o : Int32 × si_St), f_X5_leastWorst_l51 F r20 r31 n x1 x2 x3 x4 x5 S = some o → sd_on on_X5_leastWorst S o.2 := by
  intro n
  induction n with
  | zero => intro x1 x2 x3 x4 x5 S o h; cases h
  | succ n ih =>
    intro x1 x2 x3 x4 x5 S o h
    exact fr_X5_leastWorst_h51 F r20 r31 (f_X5_leastWorst_l51 F r20 r31 n) hr20 hr31 ih x1 x2 x3 x4 x5 S o h
theorem fr_X5_leastWorst_h31 (F : Nat) (r20 : Int32 → Int32 → Int32 → si_St → Option (Int32 × si_St)) (r31 : Int32 → Int32 → Int32 → Int32 → si_St → Option (Int32 × si_St)) (hr20 : ∀ (x1 : Int32) (x2 : Int32) (x3 : Int32) (S : si_St) (o : Int32 × si_St), r20 x1 x2 x3 S = some o → sd_on on_X5_leastWorst S o.2) (hr31 : ∀ (x1 : Int32) (x2 : Int32) (x3 : Int32) (x4 : Int32) (S : si_St) (o : Int32 × si_St), r31 x1 x2 x3 x4 S = some o → sd_on on_X5_leastWorst S o.2) (x1 : Int32) (x2 : Int32) (x3 : Int32) (x4 : Int32) (S : si_St) (o : Int32 × si_St) (h : f_X5_leastWorst_h31 F r20 r31 x1 x2 x3 x4 S = some o) : sd_on on_X5_leastWorst S o.2 := by
  have g : sd_on on_X5_leastWorst S S := sd_on.rf
  unfold f_X5_leastWorst_h31 at h
  rcases Decidable.em (x3 < x4) with c34 | c34
  · have h := si_ip c34 h
    exact g.tr (fr_X5_leastWorst_h126 F r20 hr20 _ _ _ _ _ h)
  · have h := si_in c34 h
    rcases Decidable.em ((S.1 65 6) < (x3 + x4)) with c45 | c45
    · have h := si_ip c45 h
      exact g.tr (fr_X5_leastWorst_h126 F r20 hr20 _ _ _ _ _ h)
    · have h := si_in c45 h
      exact g.tr (fr_X5_leastWorst_l51 F r20 r31 hr20 hr31 F _ _ _ _ _ _ _ h)
theorem fr_X5_leastWorst_l31 (F : Nat) (r20 : Int32 → Int32 → Int32 → si_St → Option (Int32 × si_St)) (hr20 : ∀ (x1 : Int32) (x2 : Int32) (x3 : Int32) (S : si_St) (o : Int32 × si_St), r20 x1 x2 x3 S = some o → sd_on on_X5_leastWorst S o.2) : ∀ (n : Nat) (x1 : Int32) (x2 : Int32) (x3 : Int32) (x4 : Int32) (S : si_St) (o : Int32 × si_St), f_X5_leastWorst_l31 F r20 n x1 x2 x3 x4 S = some o → sd_on on_X5_leastWorst S o.2 := by
  intro n
  induction n with
  | zero => intro x1 x2 x3 x4 S o h; cases h
  | succ n ih =>
    intro x1 x2 x3 x4 S o h
    exact fr_X5_leastWorst_h31 F r20 (f_X5_leastWorst_l31 F r20 n) hr20 ih x1 x2 x3 x4 S o h
theorem fr_X5_leastWorst_h20 (F : Nat) (r20 : Int32 → Int32 → Int32 → si_St → Option (Int32 × si_St)) (hr20 : ∀ (x1 : Int32) (x2 : Int32) (x3 : Int32) (S : si_St) (o : Int32 × si_St), r20 x1 x2 x3 S = some o → sd_on on_X5_leastWorst S o.2) (x1 : Int32) (x2 : Int32) (x3 : Int32) (S : si_St) (o : Int32 × si_St) (h : f_X5_leastWorst_h20 F r20 x1 x2 x3 S = some o) : sd_on on_X5_leastWorst S o.2 := by
  have g : sd_on on_X5_leastWorst S S := sd_on.rf
  unfold f_X5_leastWorst_h20 at h
  rcases Decidable.em ((S.1 65 6) < x3) with c25 | c25
  · have h := si_ip c25 h
    obtain rfl := Option.some.inj h
    exact g
  · have h := si_in c25 h
    exact g.tr (fr_X5_leastWorst_l31 F r20 hr20 F _ _ _ _ _ _ h)
theorem fr_X5_leastWorst_l20 (F : Nat) : ∀ (n : Nat) (x1 : Int32) (x2 : Int32) (x3 : Int32) (S : si_St) (o : Int32 × si_St), f_X5_leastWorst_l20 F n x1 x2 x3 S = some o → sd_on on_X5_leastWorst S o.2 := by
  intro n
  induction n with
  | zero => intro x1 x2 x3 S o h; cases h
  | succ n ih =>
    intro x1 x2 x3 S o h
    exact fr_X5_leastWorst_h20 F (f_X5_leastWorst_l20 F n) ih x1 x2 x3 S o h
theorem fr_X5_leastWorst (F : Nat) (S : si_St) (o : Int32 × si_St) (h : f_X5_leastWorst F S = some o) : sd_on on_X5_leastWorst S o.2 := by
  have g : sd_on on_X5_leastWorst S S := sd_on.rf
  unfold f_X5_leastWorst at h
  obtain ⟨v7, ev7, h⟩ := si_ob h
  exact g.tr (fr_X5_leastWorst_l20 F F _ _ _ _ _ h)
def on_X5_fillMixedNeeds : List Nat := [65, 68]
theorem fr_X5_fillMixedNeeds_h54 (F : Nat) (r17 : Int32 → si_St → Option (si_St)) (hr17 : ∀ (x2 : Int32) (S : si_St) (o : si_St), r17 x2 S = some o → sd_on on_X5_fillMixedNeeds S o) (x2 : Int32) (t0 : Int32) (t1 : Int32) (S : si_St) (o : si_St) (h : f_X5_fillMixedNeeds_h54 F r17 x2 t0 t1 S = some o) : sd_on on_X5_fillMixedNeeds S o := by
  have g : sd_on on_X5_fillMixedNeeds S S := sd_on.rf
  unfold f_X5_fillMixedNeeds_h54 at h
  obtain ⟨S1, eS1, h⟩ := si_ob h
  have g := g.tr (on_wr eS1 (by decide))
  obtain ⟨v2, ev2, h⟩ := si_ob h
  exact g.tr (hr17 _ _ _ h)
theorem fr_X5_fillMixedNeeds_h17 (F : Nat) (r17 : Int32 → si_St → Option (si_St)) (hr17 : ∀ (x2 : Int32) (S : si_St) (o : si_St), r17 x2 S = some o → sd_on on_X5_fillMixedNeeds S o) (x2 : Int32) (S : si_St) (o : si_St) (h : f_X5_fillMixedNeeds_h17 F r17 x2 S = some o) : sd_on on_X5_fillMixedNeeds S o := by
  have g : sd_on on_X5_fillMixedNeeds S S := sd_on.rf
  unfold f_X5_fillMixedNeeds_h17 at h
  rcases Decidable.em ((S.1 65 3) < x2) with c22 | c22
  · have h := si_ip c22 h
    obtain rfl := Option.some.inj h
    exact g
  · have h := si_in c22 h
    obtain ⟨S3, eS3, h⟩ := si_ob h
    have g := g.tr (on_pt eS3 (by decide))
    obtain ⟨q4, eq4, h⟩ := si_ob h
    have g := g.tr ((fr_X5_mixedAt F x2 S3 q4 eq4).mono (by decide))
    rcases Decidable.em (x2 = 0) with c40 | c40
    · have h := si_ip c40 h
      exact g.tr (fr_X5_fillMixedNeeds_h54 F r17 hr17 _ _ _ _ _ h)
    · have h := si_in c40 h
      obtain ⟨q5, eq5, h⟩ := si_ob h
      have g := g.tr ((fr_X5_leastWorst F q4.2 q5 eq5).mono (by decide))
      obtain ⟨q6, eq6, h⟩ := si_ob h
      have g := g.tr ((fr_X5_oneMore F q5.1 q5.2 q6 eq6).mono (by decide))
      exact g.tr (fr_X5_fillMixedNeeds_h54 F r17 hr17 _ _ _ _ _ h)
theorem fr_X5_fillMixedNeeds_l17 (F : Nat) : ∀ (n : Nat) (x2 : Int32) (S : si_St) (o : si_St), f_X5_fillMixedNeeds_l17 F n x2 S = some o → sd_on on_X5_fillMixedNeeds S o := by
  intro n
  induction n with
  | zero => intro x2 S o h; cases h
  | succ n ih =>
    intro x2 S o h
    exact fr_X5_fillMixedNeeds_h17 F (f_X5_fillMixedNeeds_l17 F n) ih x2 S o h
theorem fr_X5_fillMixedNeeds (F : Nat) (x1 : Int32) (S : si_St) (o : si_St) (h : f_X5_fillMixedNeeds F x1 S = some o) : sd_on on_X5_fillMixedNeeds S o := by
  have g : sd_on on_X5_fillMixedNeeds S S := sd_on.rf
  unfold f_X5_fillMixedNeeds at h
  obtain ⟨S7, eS7, h⟩ := si_ob h
  have g := g.tr (on_pz eS7 (by decide))
  obtain ⟨S8, eS8, h⟩ := si_ob h
  have g := g.tr (on_pt eS8 (by decide))
  obtain ⟨S9, eS9, h⟩ := si_ob h
  have g := g.tr (on_pt eS9 (by decide))
  exact g.tr (fr_X5_fillMixedNeeds_l17 F F _ _ _ h)
def on_X5_fillSplitNeeds : List Nat := [65, 67]
theorem fr_X5_fillSplitNeeds_h57 (F : Nat) (r12 : Int32 → si_St → Option (si_St)) (r22 : Int32 → Int32 → si_St → Option (si_St)) (hr12 : ∀ (x1 : Int32) (S : si_St) (o : si_St), r12 x1 S = some o → sd_on on_X5_fillSplitNeeds S o) (hr22 : ∀ (x1 : Int32) (x2 : Int32) (S : si_St) (o : si_St), r22 x1 x2 S = some o → sd_on on_X5_fillSplitNeeds S o) (x1 : Int32) (x2 : Int32) (t0 : Int32) (S : si_St) (o : si_St) (h : f_X5_fillSplitNeeds_h57 F r12 r22 x1 x2 t0 S = some o) : sd_on on_X5_fillSplitNeeds S o := by
  have g : sd_on on_X5_fillSplitNeeds S S := sd_on.rf
  unfold f_X5_fillSplitNeeds_h57 at h
  obtain ⟨q1, eq1, h⟩ := si_ob h
  have g := g.tr ((fr_X5_splitAt F (S.1 65 6) (S.1 65 7) S q1 eq1).mono (by decide))
  obtain ⟨S2, eS2, h⟩ := si_ob h
  have g := g.tr (on_wr eS2 (by decide))
  obtain ⟨q3, eq3, h⟩ := si_ob h
  have g := g.tr ((fr_X5_splitAt F (S2.1 65 7) (S2.1 65 6) S2 q3 eq3).mono (by decide))
  obtain ⟨S4, eS4, h⟩ := si_ob h
  have g := g.tr (on_wr eS4 (by decide))
  obtain ⟨v5, ev5, h⟩ := si_ob h
  exact g.tr (hr22 _ _ _ _ h)
theorem fr_X5_fillSplitNeeds_h22 (F : Nat) (r12 : Int32 → si_St → Option (si_St)) (r22 : Int32 → Int32 → si_St → Option (si_St)) (hr12 : ∀ (x1 : Int32) (S : si_St) (o : si_St), r12 x1 S = some o → sd_on on_X5_fillSplitNeeds S o) (hr22 : ∀ (x1 : Int32) (x2 : Int32) (S : si_St) (o : si_St), r22 x1 x2 S = some o → sd_on on_X5_fillSplitNeeds S o) (x1 : Int32) (x2 : Int32) (S : si_St) (o : si_St) (h : f_X5_fillSplitNeeds_h22 F r12 r22 x1 x2 S = some o) : sd_on on_X5_fillSplitNeeds S o := by
  have g : sd_on on_X5_fillSplitNeeds S S := sd_on.rf
  unfold f_X5_fillSplitNeeds_h22 at h
  rcases Decidable.em (x1 < (2 * x2)) with c26 | c26
  · have h := si_ip c26 h
    obtain ⟨v6, ev6, h⟩ := si_ob h
    exact g.tr (hr12 _ _ _ h)
  · have h := si_in c26 h
    obtain ⟨S7, eS7, h⟩ := si_ob h
    have g := g.tr (on_pt eS7 (by decide))
    obtain ⟨S8, eS8, h⟩ := si_ob h
    have g := g.tr (on_pt eS8 (by decide))
    rcases Decidable.em (1 < x1) with c43 | c43
    · have h := si_ip c43 h
      obtain ⟨q9, eq9, h⟩ := si_ob h
      have g := g.tr ((fr_X5_leastWorst F S8 q9 eq9).mono (by decide))
      obtain ⟨q10, eq10, h⟩ := si_ob h
      have g := g.tr ((fr_X5_oneMore F q9.1 q9.2 q10 eq10).mono (by decide))
      exact g.tr (fr_X5_fillSplitNeeds_h57 F r12 r22 hr12 hr22 _ _ _ _ _ h)
    · have h := si_in c43 h
      exact g.tr (fr_X5_fillSplitNeeds_h57 F r12 r22 hr12 hr22 _ _ _ _ _ h)
theorem fr_X5_fillSplitNeeds_l22 (F : Nat) (r12 : Int32 → si_St → Option (si_St)) (hr12 : ∀ (x1 : Int32) (S : si_St) (o : si_St), r12 x1 S = some o → sd_on on_X5_fillSplitNeeds S o) : ∀ (n : Nat) (x1 : Int32) (x2 : Int32) (S : si_St) (o : si_St), f_X5_fillSplitNeeds_l22 F r12 n x1 x2 S = some o → sd_on on_X5_fillSplitNeeds S o := by
  intro n
  induction n with
  | zero => intro x1 x2 S o h; cases h
  | succ n ih =>
    intro x1 x2 S o h
    exact fr_X5_fillSplitNeeds_h22 F r12 (f_X5_fillSplitNeeds_l22 F r12 n) hr12 ih x1 x2 S o h
theorem fr_X5_fillSplitNeeds_h12 (F : Nat) (r12 : Int32 → si_St → Option (si_St)) (hr12 : ∀ (x1 : Int32) (S : si_St) (o : si_St), r12 x1 S = some o → sd_on on_X5_fillSplitNeeds S o) (x1 : Int32) (S : si_St) (o : si_St) (h : f_X5_fillSplitNeeds_h12 F r12 x1 S = some o) : sd_on on_X5_fillSplitNeeds S o := by
  have g : sd_on on_X5_fillSplitNeeds S S := sd_on.rf
  unfold f_X5_fillSplitNeeds_h12 at h
  rcases Decidable.em ((S.1 65 3) < x1) with c17 | c17
  · have h := si_ip c17 h
    obtain rfl := Option.some.inj h
    exact g
  · have h := si_in c17 h
    exact g.tr (fr_X5_fillSplitNeeds_l22 F r12 hr12 F _ _ _ _ h)
theorem fr_X5_fillSplitNeeds_l12 (F : Nat) : ∀ (n : Nat) (x1 : Int32) (S : si_St) (o : si_St), f_X5_fillSplitNeeds_l12 F n x1 S = some o → sd_on on_X5_fillSplitNeeds S o := by
  intro n
  induction n with
  | zero => intro x1 S o h; cases h
  | succ n ih =>
    intro x1 S o h
    exact fr_X5_fillSplitNeeds_h12 F (f_X5_fillSplitNeeds_l12 F n) ih x1 S o h
theorem fr_X5_fillSplitNeeds (F : Nat) (S : si_St) (o : si_St) (h : f_X5_fillSplitNeeds F S = some o) : sd_on on_X5_fillSplitNeeds S o := by
  have g : sd_on on_X5_fillSplitNeeds S S := sd_on.rf
  unfold f_X5_fillSplitNeeds at h
  obtain ⟨S11, eS11, h⟩ := si_ob h
  have g := g.tr (on_pz eS11 (by decide))
  obtain ⟨S12, eS12, h⟩ := si_ob h
  have g := g.tr (on_pt eS12 (by decide))
  exact g.tr (fr_X5_fillSplitNeeds_l12 F F _ _ _ h)
def on_X5_forgetNeeds : List Nat := [67, 68]
theorem fr_X5_forgetNeeds_h51 (F : Nat) (r51 : Int32 → si_St → Option (si_St)) (hr51 : ∀ (x1 : Int32) (S : si_St) (o : si_St), r51 x1 S = some o → sd_on on_X5_forgetNeeds S o) (x1 : Int32) (S : si_St) (o : si_St) (h : f_X5_forgetNeeds_h51 F r51 x1 S = some o) : sd_on on_X5_forgetNeeds S o := by
  have g : sd_on on_X5_forgetNeeds S S := sd_on.rf
  unfold f_X5_forgetNeeds_h51 at h
  rcases Decidable.em (((((S.1 65 3) + 1) * 13) * 2) ≤ x1) with c63 | c63
  · have h := si_ip c63 h
    obtain rfl := Option.some.inj h
    exact g
  · have h := si_in c63 h
    obtain ⟨S1, eS1, h⟩ := si_ob h
    have g := g.tr (on_wr eS1 (by decide))
    obtain ⟨v2, ev2, h⟩ := si_ob h
    exact g.tr (hr51 _ _ _ h)
theorem fr_X5_forgetNeeds_l51 (F : Nat) : ∀ (n : Nat) (x1 : Int32) (S : si_St) (o : si_St), f_X5_forgetNeeds_l51 F n x1 S = some o → sd_on on_X5_forgetNeeds S o := by
  intro n
  induction n with
  | zero => intro x1 S o h; cases h
  | succ n ih =>
    intro x1 S o h
    exact fr_X5_forgetNeeds_h51 F (f_X5_forgetNeeds_l51 F n) ih x1 S o h
theorem fr_X5_forgetNeeds_h11 (F : Nat) (r11 : Int32 → si_St → Option (si_St)) (hr11 : ∀ (x1 : Int32) (S : si_St) (o : si_St), r11 x1 S = some o → sd_on on_X5_forgetNeeds S o) (x1 : Int32) (S : si_St) (o : si_St) (h : f_X5_forgetNeeds_h11 F r11 x1 S = some o) : sd_on on_X5_forgetNeeds S o := by
  have g : sd_on on_X5_forgetNeeds S S := sd_on.rf
  unfold f_X5_forgetNeeds_h11 at h
  rcases Decidable.em (((((S.1 65 3) + 1) * 13) * 13) ≤ x1) with c24 | c24
  · have h := si_ip c24 h
    obtain ⟨v3, ev3, h⟩ := si_ob h
    exact g.tr (fr_X5_forgetNeeds_l51 F F _ _ _ h)
  · have h := si_in c24 h
    obtain ⟨S4, eS4, h⟩ := si_ob h
    have g := g.tr (on_wr eS4 (by decide))
    obtain ⟨v5, ev5, h⟩ := si_ob h
    exact g.tr (hr11 _ _ _ h)
theorem fr_X5_forgetNeeds_l11 (F : Nat) : ∀ (n : Nat) (x1 : Int32) (S : si_St) (o : si_St), f_X5_forgetNeeds_l11 F n x1 S = some o → sd_on on_X5_forgetNeeds S o := by
  intro n
  induction n with
  | zero => intro x1 S o h; cases h
  | succ n ih =>
    intro x1 S o h
    exact fr_X5_forgetNeeds_h11 F (f_X5_forgetNeeds_l11 F n) ih x1 S o h
theorem fr_X5_forgetNeeds (F : Nat) (S : si_St) (o : si_St) (h : f_X5_forgetNeeds F S = some o) : sd_on on_X5_forgetNeeds S o := by
  have g : sd_on on_X5_forgetNeeds S S := sd_on.rf
  unfold f_X5_forgetNeeds at h
  obtain ⟨v6, ev6, h⟩ := si_ob h
  exact g.tr (fr_X5_forgetNeeds_l11 F F _ _ _ h)
def on_X5_needed : List Nat := []
theorem fr_X5_needed_h40 (F : Nat) (t0 : Int32) (S : si_St) (o : Int32 × si_St) (h : f_X5_needed_h40 F t0 S = some o) : sd_on on_X5_needed S o.2 := by
  have g : sd_on on_X5_needed S S := sd_on.rf
  unfold f_X5_needed_h40 at h
  obtain rfl := Option.some.inj h
  exact g
theorem fr_X5_needed (F : Nat) (S : si_St) (o : Int32 × si_St) (h : f_X5_needed F S = some o) : sd_on on_X5_needed S o.2 := by
  have g : sd_on on_X5_needed S S := sd_on.rf
  unfold f_X5_needed at h
  rcases Decidable.em ((S.1 65 4) = 0) with c4 | c4
  · have h := si_ip c4 h
    obtain ⟨q1, eq1, h⟩ := si_ob h
    have g := g.tr ((fr_X5_splitAt F (S.1 65 6) (S.1 65 7) S q1 eq1).mono (by decide))
    obtain ⟨v2, ev2, h⟩ := si_ob h
    exact g.tr (fr_X5_needed_h40 F _ _ _ h)
  · have h := si_in c4 h
    obtain ⟨q3, eq3, h⟩ := si_ob h
    have g := g.tr ((fr_X5_mixedAt F (S.1 65 6) S q3 eq3).mono (by decide))
    obtain ⟨v4, ev4, h⟩ := si_ob h
    exact g.tr (fr_X5_needed_h40 F _ _ _ h)
def on_X5_choose : List Nat := [65, 66, 67, 68]
theorem fr_X5_choose_h84 (F : Nat) (x2 : Int32) (x3 : Int32) (t0 : Int32) (S : si_St) (o : si_St) (h : f_X5_choose_h84 F x2 x3 t0 S = some o) : sd_on on_X5_choose S o := by
  have g : sd_on on_X5_choose S S := sd_on.rf
  unfold f_X5_choose_h84 at h
  obtain ⟨S1, eS1, h⟩ := si_ob h
  have g := g.tr (on_pt eS1 (by decide))
  obtain ⟨S2, eS2, h⟩ := si_ob h
  have g := g.tr (on_pt eS2 (by decide))
  obtain ⟨q3, eq3, h⟩ := si_ob h
  have g := g.tr ((fr_J6_bitCount_0f7a4 F (S2.1 65 8) S2 q3 eq3).mono (by decide))
  obtain ⟨S4, eS4, h⟩ := si_ob h
  have g := g.tr (on_pt eS4 (by decide))
  obtain ⟨q5, eq5, h⟩ := si_ob h
  have g := g.tr ((fr_J6_bitCount_0f7a4 F (S4.1 65 9) S4 q5 eq5).mono (by decide))
  obtain ⟨S6, eS6, h⟩ := si_ob h
  have g := g.tr (on_pt eS6 (by decide))
  obtain rfl := Option.some.inj h
  exact g
theorem fr_X5_choose_h57 (F : Nat) (x2 : Int32) (x3 : Int32) (x4 : Int32) (t0 : Int32) (S : si_St) (o : si_St) (h : f_X5_choose_h57 F x2 x3 x4 t0 S = some o) : sd_on on_X5_choose S o := by
  have g : sd_on on_X5_choose S S := sd_on.rf
  unfold f_X5_choose_h57 at h
  obtain ⟨S7, eS7, h⟩ := si_ob h
  have g := g.tr (on_pz eS7 (by decide))
  obtain ⟨S8, eS8, h⟩ := si_ob h
  have g := g.tr (on_pt eS8 (by decide))
  obtain ⟨S9, eS9, h⟩ := si_ob h
  have g := g.tr (on_pt eS9 (by decide))
  rcases Decidable.em ((S9.1 65 4) = 0) with c76 | c76
  · have h := si_ip c76 h
    exact g.tr (fr_X5_choose_h84 F _ _ _ _ _ h)
  · have h := si_in c76 h
    exact g.tr (fr_X5_choose_h84 F _ _ _ _ _ h)
theorem fr_X5_choose_h45 (F : Nat) (x2 : Int32) (x3 : Int32) (x4 : Int32) (S : si_St) (o : si_St) (h : f_X5_choose_h45 F x2 x3 x4 S = some o) : sd_on on_X5_choose S o := by
  have g : sd_on on_X5_choose S S := sd_on.rf
  unfold f_X5_choose_h45 at h
  rcases Decidable.em ((x2 &&& x3) = 0) with c49 | c49
  · have h := si_ip c49 h
    exact g.tr (fr_X5_choose_h57 F _ _ _ _ _ _ h)
  · have h := si_in c49 h
    exact g.tr (fr_X5_choose_h57 F _ _ _ _ _ _ h)
theorem fr_X5_choose (F : Nat) (x1 : Int32) (x2 : Int32) (x3 : Int32) (x4 : Int32) (S : si_St) (o : si_St) (h : f_X5_choose F x1 x2 x3 x4 S = some o) : sd_on on_X5_choose S o := by
  have g : sd_on on_X5_choose S S := sd_on.rf
  unfold f_X5_choose at h
  obtain ⟨S10, eS10, h⟩ := si_ob h
  have g := g.tr (on_pt eS10 (by decide))
  obtain ⟨v11, ev11, h⟩ := si_ob h
  rcases Decidable.em (v11 = 0) with c14 | c14
  · have h := si_ip c14 h
    obtain ⟨S12, eS12, h⟩ := si_ob h
    have g := g.tr ((fr_X5_forgetNeeds F S10 S12 eS12).mono (by decide))
    obtain ⟨S13, eS13, h⟩ := si_ob h
    have g := g.tr ((fr_X5_fillSplitNeeds F S12 S13 eS13).mono (by decide))
    obtain ⟨S14, eS14, h⟩ := si_ob h
    have g := g.tr ((fr_X5_fillMixedNeeds F 0 S13 S14 eS14).mono (by decide))
    obtain ⟨S15, eS15, h⟩ := si_ob h
    have g := g.tr ((fr_X5_fillMixedNeeds F 1 S14 S15 eS15).mono (by decide))
    obtain ⟨S16, eS16, h⟩ := si_ob h
    have g := g.tr (on_wz eS16 (by decide))
    exact g.tr (fr_X5_choose_h45 F _ _ _ _ _ h)
  · have h := si_in c14 h
    exact g.tr (fr_X5_choose_h45 F _ _ _ _ _ h)
def on_X5_lowestWeighing : List Nat := []
theorem fr_X5_lowestWeighing (F : Nat) (x1 : Int32) (x2 : Int32) (x3 : Int32) (x4 : Int32) (S : si_St) (o : Int32 × si_St) (h : f_X5_lowestWeighing F x1 x2 x3 x4 S = some o) : sd_on on_X5_lowestWeighing S o.2 := by
  have g : sd_on on_X5_lowestWeighing S S := sd_on.rf
  unfold f_X5_lowestWeighing at h
  obtain ⟨v1, ev1, h⟩ := si_ob h
  obtain ⟨q2, eq2, h⟩ := si_ob h
  have g := g.tr ((fr_J6_bitCount_0f7a4 F (S.1 65 10) S q2 eq2).mono (by decide))
  rcases Decidable.em ((si_abs v1) ≤ q2.1) with c22 | c22
  · have h := si_ip c22 h
    obtain ⟨q3, eq3, h⟩ := si_ob h
    have g := g.tr ((fr_X5_lowest F (q2.2.1 65 8) x1 q2.2 q3 eq3).mono (by decide))
    obtain ⟨q4, eq4, h⟩ := si_ob h
    have g := g.tr ((fr_X5_lowest F (q3.2.1 65 9) x3 q3.2 q4 eq4).mono (by decide))
    obtain ⟨q5, eq5, h⟩ := si_ob h
    have g := g.tr ((fr_X5_lowest F (q4.2.1 65 10) (si_max (-v1) 0) q4.2 q5 eq5).mono (by decide))
    obtain ⟨v6, ev6, h⟩ := si_ob h
    obtain ⟨q7, eq7, h⟩ := si_ob h
    have g := g.tr ((fr_X5_lowest F ((q5.2.1 65 8) &&& (v6 ^^^ (-1))) x2 q5.2 q7 eq7).mono (by decide))
    obtain ⟨q8, eq8, h⟩ := si_ob h
    have g := g.tr ((fr_X5_lowest F ((q7.2.1 65 9) &&& (v6 ^^^ (-1))) x4 q7.2 q8 eq8).mono (by decide))
    obtain ⟨q9, eq9, h⟩ := si_ob h
    have g := g.tr ((fr_X5_lowest F ((q8.2.1 65 10) &&& (v6 ^^^ (-1))) (si_max v1 0) q8.2 q9 eq9).mono (by decide))
    obtain ⟨v10, ev10, h⟩ := si_ob h
    obtain ⟨q11, eq11, h⟩ := si_ob h
    have g := g.tr ((fr_J6_bitCount_0f7a4 F v6 q9.2 q11 eq11).mono (by decide))
    obtain ⟨v12, ev12, h⟩ := si_ob h
    obtain rfl := Option.some.inj h
    exact g
  · have h := si_in c22 h
    obtain rfl := Option.some.inj h
    exact g
def on_X5_bestWeighing : List Nat := []
theorem fr_X5_bestWeighing_h15 (F : Nat) (S : si_St) (o : Int32 × si_St) (h : f_X5_bestWeighing_h15 F S = some o) : sd_on on_X5_bestWeighing S o.2 := by
  have g : sd_on on_X5_bestWeighing S S := sd_on.rf
  unfold f_X5_bestWeighing_h15 at h
  obtain rfl := Option.some.inj h
  exact g
theorem fr_X5_bestWeighing_h103 (F : Nat) (r23 : Int32 → Int32 → Int32 → si_St → Option (Int32 × si_St)) (r34 : Int32 → Int32 → Int32 → Int32 → si_St → Option (Int32 × si_St)) (r48 : Int32 → Int32 → Int32 → Int32 → Int32 → si_St → Option (Int32 × si_St)) (r60 : Int32 → Int32 → Int32 → Int32 → Int32 → Int32 → si_St → Option (Int32 × si_St)) (hr23 : ∀ (x1 : Int32) (x2 : Int32) (x3 : Int32) (S : si_St) (o : Int32 × si_St), r23 x1 x2 x3 S = some o → sd_on on_X5_bestWeighing S o.2) (hr34 : ∀ (x1 : Int32) (x2 : Int32) (x3 : Int32) (x4 : Int32) (S : si_St) (o : Int32 × si_St), r34 x1 x2 x3 x4 S = some o → sd_on on_X5_bestWeighing S o.2) (hr48 : ∀ (x1 : Int32) (x2 : Int32) (x3 : Int32) (x4 : Int32) (x5 : Int32) (S : si_St) (o : Int32 × si_St), r48 x1 x2 x3 x4 x5 S = some o → sd_on on_X5_bestWeighing S o.2) (hr60 : ∀ (x1 : Int32) (x2 : Int32) (x3 : Int32) (x4 : Int32) (x5 : Int32) (x6 : Int32) (S : si_St) (o : Int32 × si_St), r60 x1 x2 x3 x4 x5 x6 S = some o → sd_on on_X5_bestWeighing S o.2) (x1 : Int32) (x2 : Int32) (x3 : Int32) (x4 : Int32) (x5 : Int32) (x6 : Int32) (S : si_St) (o : Int32 × si_St) (h : f_X5_bestWeighing_h103 F r23 r34 r48 r60 x1 x2 x3 x4 x5 x6 S = some o) : sd_on on_X5_bestWeighing S o.2 := by
  have g : sd_on on_X5_bestWeighing S S := sd_on.rf
  unfold f_X5_bestWeighing_h103 at h
  obtain ⟨v1, ev1, h⟩ := si_ob h
  exact g.tr (hr60 _ _ _ _ _ _ _ _ h)
theorem fr_X5_bestWeighing_h60 (F : Nat) (r23 : Int32 → Int32 → Int32 → si_St → Option (Int32 × si_St)) (r34 : Int32 → Int32 → Int32 → Int32 → si_St → Option (Int32 × si_St)) (r48 : Int32 → Int32 → Int32 → Int32 → Int32 → si_St → Option (Int32 × si_St)) (r60 : Int32 → Int32 → Int32 → Int32 → Int32 → Int32 → si_St → Option (Int32 × si_St)) (hr23 : ∀ (x1 : Int32) (x2 : Int32) (x3 : Int32) (S : si_St) (o : Int32 × si_St), r23 x1 x2 x3 S = some o → sd_on on_X5_bestWeighing S o.2) (hr34 : ∀ (x1 : Int32) (x2 : Int32) (x3 : Int32) (x4 : Int32) (S : si_St) (o : Int32 × si_St), r34 x1 x2 x3 x4 S = some o → sd_on on_X5_bestWeighing S o.2) (hr48 : ∀ (x1 : Int32) (x2 : Int32) (x3 : Int32) (x4 : Int32) (x5 : Int32) (S : si_St) (o : Int32 × si_St), r48 x1 x2 x3 x4 x5 S = some o → sd_on on_X5_bestWeighing S o.2) (hr60 : ∀ (x1 : Int32) (x2 : Int32) (x3 : Int32) (x4 : Int32) (x5 : Int32) (x6 : Int32) (S : si_St) (o : Int32 × si_St), r60 x1 x2 x3 x4 x5 x6 S = some o → sd_on on_X5_bestWeighing S o.2) (x1 : Int32) (x2 : Int32) (x3 : Int32) (x4 : Int32) (x5 : Int32) (x6 : Int32) (S : si_St) (o : Int32 × si_St) (h : f_X5_bestWeighing_h60 F r23 r34 r48 r60 x1 x2 x3 x4 x5 x6 S = some o) : sd_on on_X5_bestWeighing S o.2 := by
  have g : sd_on on_X5_bestWeighing S S := sd_on.rf
  unfold f_X5_bestWeighing_h60 at h
  rcases Decidable.em ((S.1 65 7) < (x5 + x6)) with c69 | c69
  · have h := si_ip c69 h
    obtain ⟨v2, ev2, h⟩ := si_ob h
    exact g.tr (hr48 _ _ _ _ _ _ _ h)
  · have h := si_in c69 h
    obtain ⟨q3, eq3, h⟩ := si_ob h
    have g := g.tr ((fr_X5_worst F x3 x4 x5 x6 S q3 eq3).mono (by decide))
    rcases Decidable.em (x1 ≤ q3.1) with c84 | c84
    · have h := si_ip c84 h
      exact g.tr (fr_X5_bestWeighing_h103 F r23 r34 r48 r60 hr23 hr34 hr48 hr60 _ _ _ _ _ _ _ _ h)
    · have h := si_in c84 h
      obtain ⟨q4, eq4, h⟩ := si_ob h
      have g := g.tr ((fr_X5_lowestWeighing F x3 x4 x5 x6 q3.2 q4 eq4).mono (by decide))
      obtain ⟨v5, ev5, h⟩ := si_ob h
      exact g.tr (fr_X5_bestWeighing_h103 F r23 r34 r48 r60 hr23 hr34 hr48 hr60 _ _ _ _ _ _ _ _ h)
theorem fr_X5_bestWeighing_l60 (F : Nat) (r23 : Int32 → Int32 → Int32 → si_St → Option (Int32 × si_St)) (r34 : Int32 → Int32 → Int32 → Int32 → si_St → Option (Int32 × si_St)) (r48 : Int32 → Int32 → Int32 → Int32 → Int32 → si_St → Option (Int32 × si_St)) (hr23 : ∀ (x1 : Int32) (x2 : Int32) (x3 : Int32) (S : si_St) (o : Int32 × si_St), r23 x1 x2 x3 S = some o → sd_on on_X5_bestWeighing S o.2) (hr34 : ∀ (x1 : Int32) (x2 : Int32) (x3 : Int32) (x4 : Int32) (S : si_St) (o : Int32 × si_St), r34 x1 x2 x3 x4 S = some o → sd_on on_X5_bestWeighing S o.2) (hr48 : ∀ (x1 : Int32) (x2 : Int32) (x3 : Int32) (x4 : Int32) (x5 : Int32) (S : si_St) (o : Int32 × si_St), r48 x1 x2 x3 x4 x5 S = some o → sd_on on_X5_bestWeighing S o.2) : ∀ (n : Nat) (x1 : Int32) (x2 : Int32) (x3 : Int32) (x4 : Int32) (x5 : Int32) (x6 : Int32) (S : si_St) (o : Int32 × si_St), f_X5_bestWeighing_l60 F r23 r34 r48 n x1 x2 x3 x4 x5 x6 S = some o → sd_on on_X5_bestWeighing S o.2 := by
  intro n
  induction n with
  | zero => intro x1 x2 x3 x4 x5 x6 S o h; cases h
  | succ n ih =>
    intro x1 x2 x3 x4 x5 x6 S o h
    exact fr_X5_bestWeighing_h60 F r23 r34 r48 (f_X5_bestWeighing_l60 F r23 r34 r48 n) hr23 hr34 hr48 ih x1 x2 x3 x4 x5 x6 S o h
theorem fr_X5_bestWeighing_h48 (F : Nat) (r23 : Int32 → Int32 → Int32 → si_St → Option (Int32 × si_St)) (r34 : Int32 → Int32 → Int32 → Int32 → si_St → Option (Int32 × si_St)) (r48 : Int32 → Int32 → Int32 → Int32 → Int32 → si_St → Option (Int32 × si_St)) (hr23 : ∀ (x1 : Int32) (x2 : Int32) (x3 : Int32) (S : si_St) (o : Int32 × si_St), r23 x1 x2 x3 S = some o → sd_on on_X5_bestWeighing S o.2) (hr34 : ∀ (x1 : Int32) (x2 : Int32) (x3 : Int32) (x4 : Int32) (S : si_St) (o : Int32 × si_St), r34 x1 x2 x3 x4 S = some o → sd_on on_X5_bestWeighing S o.2) (hr48 : ∀ (x1 : Int32) (x2 : Int32) (x3 : Int32) (x4 : Int32) (x5 : Int32) (S : si_St) (o : Int32 × si_St), r48 x1 x2 x3 x4 x5 S = some o → sd_on on_X5_bestWeighing S o.2) (x1 : Int32) (x2 : Int32) (x3 : Int32) (x4 : Int32) (x5 : Int32) (S : si_St) (o : Int32 × si_St) (h : f_X5_bestWeighing_h48 F r23 r34 r48 x1 x2 x3 x4 x5 S = some o) : sd_on on_X5_bestWeighing S o.2 := by
  have g : sd_on on_X5_bestWeighing S S := sd_on.rf
  unfold f_X5_bestWeighing_h48 at h
  rcases Decidable.em ((S.1 65 7) < x5) with c54 | c54
  · have h := si_ip c54 h
    obtain ⟨v6, ev6, h⟩ := si_ob h
    exact g.tr (hr34 _ _ _ _ _ _ h)
  · have h := si_in c54 h
    exact g.tr (fr_X5_bestWeighing_l60 F r23 r34 r48 hr23 hr34 hr48 F _ _ _ _ _ _ _ _ h)
theorem fr_X5_bestWeighing_l48 (F : Nat) (r23 : Int32 → Int32 → Int32 → si_St → Option (Int32 × si_St)) (r34 : Int32 → Int32 → Int32 → Int32 → si_St → Option (Int32 × si_St)) (hr23 : ∀ (x1 : Int32) (x2 : Int32) (x3 : Int32) (S : si_St) (o : Int32 × si_St), r23 x1 x2 x3 S = some o → sd_on on_X5_bestWeighing S o.2) (hr34 : ∀ (x1 : Int32) (x2 : Int32) (x3 : Int32) (x4 : Int32) (S : si_St) (o : Int32 × si_St), r34 x1 x2 x3 x4 S = some o → sd_on on_X5_bestWeighing S o.2) : ∀ (n : Nat) (x1 : Int32) (x2 : Int32) (x3 : Int32) (x4 : Int32) (x5 : Int32) (S : si_St) (o : Int32 × si_St), f_X5_bestWeighing_l48 F r23 r34 n x1 x2 x3 x4 x5 S = some o → sd_on on_X5_bestWeighing S o.2 := by
  intro n
  induction n with
  | zero => intro x1 x2 x3 x4 x5 S o h; cases h
  | succ n ih =>
    intro x1 x2 x3 x4 x5 S o h
    exact fr_X5_bestWeighing_h48 F r23 r34 (f_X5_bestWeighing_l48 F r23 r34 n) hr23 hr34 ih x1 x2 x3 x4 x5 S o h
theorem fr_X5_bestWeighing_h34 (F : Nat) (r23 : Int32 → Int32 → Int32 → si_St → Option (Int32 × si_St)) (r34 : Int32 → Int32 → Int32 → Int32 → si_St → Option (Int32 × si_St)) (hr23 : ∀ (x1 : Int32) (x2 : Int32) (x3 : Int32) (S : si_St) (o : Int32 × si_St), r23 x1 x2 x3 S = some o → sd_on on_X5_bestWeighing S o.2) (hr34 : ∀ (x1 : Int32) (x2 : Int32) (x3 : Int32) (x4 : Int32) (S : si_St) (o : Int32 × si_St), r34 x1 x2 x3 x4 S = some o → sd_on on_X5_bestWeighing S o.2) (x1 : Int32) (x2 : Int32) (x3 : Int32) (x4 : Int32) (S : si_St) (o : Int32 × si_St) (h : f_X5_bestWeighing_h34 F r23 r34 x1 x2 x3 x4 S = some o) : sd_on on_X5_bestWeighing S o.2 := by
  have g : sd_on on_X5_bestWeighing S S := sd_on.rf
  unfold f_X5_bestWeighing_h34 at h
  rcases Decidable.em ((S.1 65 6) < (x3 + x4)) with c42 | c42
  · have h := si_ip c42 h
    obtain ⟨v7, ev7, h⟩ := si_ob h
    exact g.tr (hr23 _ _ _ _ _ h)
  · have h := si_in c42 h
    exact g.tr (fr_X5_bestWeighing_l48 F r23 r34 hr23 hr34 F _ _ _ _ _ _ _ h)
theorem fr_X5_bestWeighing_l34 (F : Nat) (r23 : Int32 → Int32 → Int32 → si_St → Option (Int32 × si_St)) (hr23 : ∀ (x1 : Int32) (x2 : Int32) (x3 : Int32) (S : si_St) (o : Int32 × si_St), r23 x1 x2 x3 S = some o → sd_on on_X5_bestWeighing S o.2) : ∀ (n : Nat) (x1 : Int32) (x2 : Int32) (x3 : Int32) (x4 : Int32) (S : si_St) (o : Int32 × si_St), f_X5_bestWeighing_l34 F r23 n x1 x2 x3 x4 S = some o → sd_on on_X5_bestWeighing S o.2 := by
  intro n
  induction n with
  | zero => intro x1 x2 x3 x4 S o h; cases h
  | succ n ih =>
    intro x1 x2 x3 x4 S o h
    exact fr_X5_bestWeighing_h34 F r23 (f_X5_bestWeighing_l34 F r23 n) hr23 ih x1 x2 x3 x4 S o h
theorem fr_X5_bestWeighing_h23 (F : Nat) (r23 : Int32 → Int32 → Int32 → si_St → Option (Int32 × si_St)) (hr23 : ∀ (x1 : Int32) (x2 : Int32) (x3 : Int32) (S : si_St) (o : Int32 × si_St), r23 x1 x2 x3 S = some o → sd_on on_X5_bestWeighing S o.2) (x1 : Int32) (x2 : Int32) (x3 : Int32) (S : si_St) (o : Int32 × si_St) (h : f_X5_bestWeighing_h23 F r23 x1 x2 x3 S = some o) : sd_on on_X5_bestWeighing S o.2 := by
  have g : sd_on on_X5_bestWeighing S S := sd_on.rf
  unfold f_X5_bestWeighing_h23 at h
  rcases Decidable.em ((S.1 65 6) < x3) with c28 | c28
  · have h := si_ip c28 h
    obtain rfl := Option.some.inj h
    exact g
  · have h := si_in c28 h
    exact g.tr (fr_X5_bestWeighing_l34 F r23 hr23 F _ _ _ _ _ _ h)
theorem fr_X5_bestWeighing_l23 (F : Nat) : ∀ (n : Nat) (x1 : Int32) (x2 : Int32) (x3 : Int32) (S : si_St) (o : Int32 × si_St), f_X5_bestWeighing_l23 F n x1 x2 x3 S = some o → sd_on on_X5_bestWeighing S o.2 := by
  intro n
  induction n with
  | zero => intro x1 x2 x3 S o h; cases h
  | succ n ih =>
    intro x1 x2 x3 S o h
    exact fr_X5_bestWeighing_h23 F (f_X5_bestWeighing_l23 F n) ih x1 x2 x3 S o h
theorem fr_X5_bestWeighing (F : Nat) (S : si_St) (o : Int32 × si_St) (h : f_X5_bestWeighing F S = some o) : sd_on on_X5_bestWeighing S o.2 := by
  have g : sd_on on_X5_bestWeighing S S := sd_on.rf
  unfold f_X5_bestWeighing at h
  obtain ⟨q8, eq8, h⟩ := si_ob h
  have g := g.tr ((fr_X5_needed F S q8 eq8).mono (by decide))
  rcases Decidable.em (q8.1 = 0) with c6 | c6
  · have h := si_ip c6 h
    exact g.tr (fr_X5_bestWeighing_h15 F _ _ h)
  · have h := si_in c6 h
    rcases Decidable.em (q8.1 = 99) with c12 | c12
    · have h := si_ip c12 h
      exact g.tr (fr_X5_bestWeighing_h15 F _ _ h)
    · have h := si_in c12 h
      exact g.tr (fr_X5_bestWeighing_l23 F F _ _ _ _ _ h)
def on_X9_isWeighing : List Nat := []
theorem fr_X9_isWeighing_h71 (F : Nat) (t0 : Int32) (S : si_St) (o : Int32 × si_St) (h : f_X9_isWeighing_h71 F t0 S = some o) : sd_on on_X9_isWeighing S o.2 := by
  have g : sd_on on_X9_isWeighing S S := sd_on.rf
  unfold f_X9_isWeighing_h71 at h
  obtain ⟨v1, ev1, h⟩ := si_ob h
  obtain rfl := Option.some.inj h
  exact g
theorem fr_X9_isWeighing_h70 (F : Nat) (S : si_St) (o : Int32 × si_St) (h : f_X9_isWeighing_h70 F S = some o) : sd_on on_X9_isWeighing S o.2 := by
  have g : sd_on on_X9_isWeighing S S := sd_on.rf
  unfold f_X9_isWeighing_h70 at h
  exact g.tr (fr_X9_isWeighing_h71 F _ _ _ h)
theorem fr_X9_isWeighing_h46 (F : Nat) (x1 : Int32) (x3 : Int32) (x4 : Int32) (t0 : Int32) (S : si_St) (o : Int32 × si_St) (h : f_X9_isWeighing_h46 F x1 x3 x4 t0 S = some o) : sd_on on_X9_isWeighing S o.2 := by
  have g : sd_on on_X9_isWeighing S S := sd_on.rf
  unfold f_X9_isWeighing_h46 at h
  rcases Decidable.em (x3 = 0) with c49 | c49
  · have h := si_ip c49 h
    exact g.tr (fr_X9_isWeighing_h70 F _ _ h)
  · have h := si_in c49 h
    rcases Decidable.em (x4 = 0) with c54 | c54
    · have h := si_ip c54 h
      exact g.tr (fr_X9_isWeighing_h70 F _ _ h)
    · have h := si_in c54 h
      rcases Decidable.em (t0 = 0) with c59 | c59
      · have h := si_ip c59 h
        exact g.tr (fr_X9_isWeighing_h70 F _ _ h)
      · have h := si_in c59 h
        rcases Decidable.em (x1 = 0) with c63 | c63
        · have h := si_ip c63 h
          exact g.tr (fr_X9_isWeighing_h70 F _ _ h)
        · have h := si_in c63 h
          exact g.tr (fr_X9_isWeighing_h71 F _ _ _ h)
theorem fr_X9_isWeighing_h28 (F : Nat) (x1 : Int32) (x2 : Int32) (x3 : Int32) (t0 : Int32) (S : si_St) (o : Int32 × si_St) (h : f_X9_isWeighing_h28 F x1 x2 x3 t0 S = some o) : sd_on on_X9_isWeighing S o.2 := by
  have g : sd_on on_X9_isWeighing S S := sd_on.rf
  unfold f_X9_isWeighing_h28 at h
  obtain ⟨q2, eq2, h⟩ := si_ob h
  have g := g.tr ((fr_J6_bitCount_0f7a4 F x1 S q2 eq2).mono (by decide))
  obtain ⟨q3, eq3, h⟩ := si_ob h
  have g := g.tr ((fr_J6_bitCount_0f7a4 F x2 q2.2 q3 eq3).mono (by decide))
  rcases Decidable.em (q2.1 = q3.1) with c38 | c38
  · have h := si_ip c38 h
    exact g.tr (fr_X9_isWeighing_h46 F _ _ _ _ _ _ h)
  · have h := si_in c38 h
    exact g.tr (fr_X9_isWeighing_h46 F _ _ _ _ _ _ h)
theorem fr_X9_isWeighing_h16 (F : Nat) (x1 : Int32) (x2 : Int32) (t0 : Int32) (S : si_St) (o : Int32 × si_St) (h : f_X9_isWeighing_h16 F x1 x2 t0 S = some o) : sd_on on_X9_isWeighing S o.2 := by
  have g : sd_on on_X9_isWeighing S S := sd_on.rf
  unfold f_X9_isWeighing_h16 at h
  rcases Decidable.em ((x1 &&& x2) = 0) with c20 | c20
  · have h := si_ip c20 h
    exact g.tr (fr_X9_isWeighing_h28 F _ _ _ _ _ _ h)
  · have h := si_in c20 h
    exact g.tr (fr_X9_isWeighing_h28 F _ _ _ _ _ _ h)
theorem fr_X9_isWeighing (F : Nat) (x0 : Int32) (x1 : Int32) (x2 : Int32) (S : si_St) (o : Int32 × si_St) (h : f_X9_isWeighing F x0 x1 x2 S = some o) : sd_on on_X9_isWeighing S o.2 := by
  have g : sd_on on_X9_isWeighing S S := sd_on.rf
  unfold f_X9_isWeighing at h
  rcases Decidable.em (((x1 ||| x2) &&& (-(1 <<< (x0 &&& 31)))) = 0) with c8 | c8
  · have h := si_ip c8 h
    exact g.tr (fr_X9_isWeighing_h16 F _ _ _ _ _ h)
  · have h := si_in c8 h
    exact g.tr (fr_X9_isWeighing_h16 F _ _ _ _ _ h)
def on_X9_orNone : List Nat := []
theorem fr_X9_orNone_h12 (F : Nat) (t0 : Int32) (S : si_St) (o : Int32 × si_St) (h : f_X9_orNone_h12 F t0 S = some o) : sd_on on_X9_orNone S o.2 := by
  have g : sd_on on_X9_orNone S S := sd_on.rf
  unfold f_X9_orNone_h12 at h
  obtain rfl := Option.some.inj h
  exact g
theorem fr_X9_orNone (F : Nat) (x0 : Int32) (S : si_St) (o : Int32 × si_St) (h : f_X9_orNone F x0 S = some o) : sd_on on_X9_orNone S o.2 := by
  have g : sd_on on_X9_orNone S S := sd_on.rf
  unfold f_X9_orNone at h
  rcases Decidable.em (x0 = 99) with c3 | c3
  · have h := si_ip c3 h
    exact g.tr (fr_X9_orNone_h12 F _ _ _ h)
  · have h := si_in c3 h
    exact g.tr (fr_X9_orNone_h12 F _ _ _ h)
def on_X9_hasSet : List Nat := []
theorem fr_X9_hasSet_h20 (F : Nat) (t0 : Int32) (S : si_St) (o : Int32 × si_St) (h : f_X9_hasSet_h20 F t0 S = some o) : sd_on on_X9_hasSet S o.2 := by
  have g : sd_on on_X9_hasSet S S := sd_on.rf
  unfold f_X9_hasSet_h20 at h
  obtain ⟨v1, ev1, h⟩ := si_ob h
  obtain rfl := Option.some.inj h
  exact g
theorem fr_X9_hasSet_h19 (F : Nat) (S : si_St) (o : Int32 × si_St) (h : f_X9_hasSet_h19 F S = some o) : sd_on on_X9_hasSet S o.2 := by
  have g : sd_on on_X9_hasSet S S := sd_on.rf
  unfold f_X9_hasSet_h19 at h
  exact g.tr (fr_X9_hasSet_h20 F _ _ _ h)
theorem fr_X9_hasSet (F : Nat) (x1 : Int32) (S : si_St) (o : Int32 × si_St) (h : f_X9_hasSet F x1 S = some o) : sd_on on_X9_hasSet S o.2 := by
  have g : sd_on on_X9_hasSet S S := sd_on.rf
  unfold f_X9_hasSet at h
  rcases Decidable.em (x1 < 0) with c1 | c1
  · have h := si_ip c1 h
    exact g.tr (fr_X9_hasSet_h19 F _ _ h)
  · have h := si_in c1 h
    obtain ⟨k92, ek92, h⟩ := si_ob h
    have hk92 := (si_mk_inv ek92).1
    rcases Decidable.em ((S.1 k92 3) ≤ x1) with c12 | c12
    · have h := si_ip c12 h
      exact g.tr (fr_X9_hasSet_h19 F _ _ h)
    · have h := si_in c12 h
      exact g.tr (fr_X9_hasSet_h20 F _ _ _ h)
def on_X9_chooseSet : List Nat := [65, 66, 67, 68]
theorem fr_X9_chooseSet (F : Nat) (x1 : Int32) (S : si_St) (o : si_St) (h : f_X9_chooseSet F x1 S = some o) : sd_on on_X9_chooseSet S o := by
  have g : sd_on on_X9_chooseSet S S := sd_on.rf
  unfold f_X9_chooseSet at h
  obtain ⟨k91, ek91, h⟩ := si_ob h
  have hk91 := (si_mk_inv ek91).1
  obtain ⟨v2, ev2, h⟩ := si_ob h
  obtain ⟨v3, ev3, h⟩ := si_ob h
  obtain ⟨v4, ev4, h⟩ := si_ob h
  obtain ⟨v5, ev5, h⟩ := si_ob h
  obtain ⟨S6, eS6, h⟩ := si_ob h
  have g := g.tr ((fr_X5_choose F v2 v3 v4 v5 S S6 eS6).mono (by decide))
  obtain rfl := Option.some.inj h
  exact g
def on_X9_append : List Nat := [1, 2]
theorem fr_X9_append (F : Nat) (x1 : Int32) (x2 : Int32) (x3 : Int32) (x4 : Int32) (x5 : Int32) (S : si_St) (o : Int32 × si_St) (h : f_X9_append F x1 x2 x3 x4 x5 S = some o) : sd_on on_X9_append S o.2 := by
  have g : sd_on on_X9_append S S := sd_on.rf
  unfold f_X9_append at h
  rcases Decidable.em (((S.1 1 1) + 20) ≤ 800) with c13 | c13
  · have h := si_ip c13 h
    obtain ⟨S1, eS1, h⟩ := si_ob h
    have g := g.tr ((fr_X3_addBytes F x1 S S1 eS1).mono (by decide))
    obtain ⟨S2, eS2, h⟩ := si_ob h
    have g := g.tr ((fr_X3_addBytes F x2 S1 S2 eS2).mono (by decide))
    obtain ⟨S3, eS3, h⟩ := si_ob h
    have g := g.tr ((fr_X3_addBytes F x3 S2 S3 eS3).mono (by decide))
    obtain ⟨S4, eS4, h⟩ := si_ob h
    have g := g.tr ((fr_X3_addBytes F x4 S3 S4 eS4).mono (by decide))
    obtain ⟨S5, eS5, h⟩ := si_ob h
    have g := g.tr ((fr_X3_addBytes F x5 S4 S5 eS5).mono (by decide))
    obtain rfl := Option.some.inj h
    exact g
  · have h := si_in c13 h
    obtain rfl := Option.some.inj h
    exact g
def on_X9_takeDraft : List Nat := [3, 4, 5, 6, 7, 17, 18, 19, 20, 21, 27, 42, 1000]
theorem fr_X9_takeDraft (F : Nat) (S : si_St) (o : si_St) (h : f_X9_takeDraft F S = some o) : sd_on on_X9_takeDraft S o := by
  have g : sd_on on_X9_takeDraft S S := sd_on.rf
  unfold f_X9_takeDraft at h
  obtain ⟨k91, ek91, h⟩ := si_ob h
  have hk91 := (si_mk_inv ek91).1
  obtain ⟨k92, ek92, h⟩ := si_ob h
  have hk92 := (si_mk_inv ek92).1
  obtain ⟨S3, eS3, h⟩ := si_ob h
  have g := g.tr (on_pm eS3 (by decide))
  obtain ⟨S4, eS4, h⟩ := si_ob h
  have g := g.tr (on_pm eS4 (by decide))
  obtain ⟨k95, ek95, h⟩ := si_ob h
  have hk95 := (si_mk_inv ek95).1
  obtain ⟨S6, eS6, h⟩ := si_ob h
  have g := g.tr ((fr_X1_learn F k95 hk95 S4 S6 eS6).mono (by decide))
  obtain ⟨S7, eS7, h⟩ := si_ob h
  have g := g.tr (on_pt eS7 (by decide))
  obtain ⟨k98, ek98, h⟩ := si_ob h
  have hk98 := (si_mk_inv ek98).1
  obtain ⟨S9, eS9, h⟩ := si_ob h
  have g := g.tr ((fr_X8_reset F k98 hk98 S7 S9 eS9).mono (by decide))
  obtain ⟨S10, eS10, h⟩ := si_ob h
  have g := g.tr ((fr_X0_clear F S9 S10 eS10).mono (by decide))
  obtain ⟨S11, eS11, h⟩ := si_ob h
  have g := g.tr (on_pz eS11 (by decide))
  obtain ⟨S12, eS12, h⟩ := si_ob h
  have g := g.tr (on_pz eS12 (by decide))
  obtain rfl := Option.some.inj h
  exact g
def on_X9_parse : List Nat := [1, 3, 4, 5, 6, 7, 17, 18, 19, 20, 21, 27, 42, 69, 70, 71, 72, 73, 74, 75, 76, 77, 78, 79, 80, 81, 82, 83, 84, 85, 86, 1000]
theorem fr_X9_parse_h15 (F : Nat) (S : si_St) (o : Int32 × si_St) (h : f_X9_parse_h15 F S = some o) : sd_on on_X9_parse S o.2 := by
  have g : sd_on on_X9_parse S S := sd_on.rf
  unfold f_X9_parse_h15 at h
  obtain rfl := Option.some.inj h
  exact g
theorem fr_X9_parse_h46 (F : Nat) (x2 : Int32) (S : si_St) (o : Int32 × si_St) (h : f_X9_parse_h46 F x2 S = some o) : sd_on on_X9_parse S o.2 := by
  have g : sd_on on_X9_parse S S := sd_on.rf
  unfold f_X9_parse_h46 at h
  obtain rfl := Option.some.inj h
  exact g
theorem fr_X9_parse (F : Nat) (x1 : Int32) (S : si_St) (o : Int32 × si_St) (h : f_X9_parse F x1 S = some o) : sd_on on_X9_parse S o.2 := by
  have g : sd_on on_X9_parse S S := sd_on.rf
  unfold f_X9_parse at h
  rcases Decidable.em (x1 < 0) with c1 | c1
  · have h := si_ip c1 h
    exact g.tr (fr_X9_parse_h15 F _ _ h)
  · have h := si_in c1 h
    rcases Decidable.em (x1 ≤ (S.1 1 1)) with c12 | c12
    · have h := si_ip c12 h
      obtain ⟨k91, ek91, h⟩ := si_ob h
      have hk91 := (si_mk_inv ek91).1
      obtain ⟨q2, eq2, h⟩ := si_ob h
      have g := g.tr ((fr_X3_readMarket F k91 hk91 x1 S q2 eq2).mono (by decide))
      obtain ⟨S3, eS3, h⟩ := si_ob h
      have g := g.tr (on_pt eS3 (by decide))
      rcases Decidable.em (q2.1 = 0) with c39 | c39
      · have h := si_ip c39 h
        obtain ⟨S4, eS4, h⟩ := si_ob h
        have g := g.tr ((fr_X9_takeDraft F S3 S4 eS4).mono (by decide))
        exact g.tr (fr_X9_parse_h46 F _ _ _ h)
      · have h := si_in c39 h
        exact g.tr (fr_X9_parse_h46 F _ _ _ h)
    · have h := si_in c12 h
      exact g.tr (fr_X9_parse_h15 F _ _ h)
def on_X9_weigh : List Nat := [17, 18, 19, 20, 21, 22, 23, 24, 25, 26]
theorem fr_X9_weigh_h25 (F : Nat) (S : si_St) (o : Int32 × si_St) (h : f_X9_weigh_h25 F S = some o) : sd_on on_X9_weigh S o.2 := by
  have g : sd_on on_X9_weigh S S := sd_on.rf
  unfold f_X9_weigh_h25 at h
  obtain rfl := Option.some.inj h
  exact g
theorem fr_X9_weigh_h38 (F : Nat) (S : si_St) (o : Int32 × si_St) (h : f_X9_weigh_h38 F S = some o) : sd_on on_X9_weigh S o.2 := by
  have g : sd_on on_X9_weigh S S := sd_on.rf
  unfold f_X9_weigh_h38 at h
  obtain rfl := Option.some.inj h
  exact g
theorem fr_X9_weigh_h94 (F : Nat) (x1 : Int32) (x5 : Int32) (x6 : Int32) (t0 : Int32) (S : si_St) (o : Int32 × si_St) (h : f_X9_weigh_h94 F x1 x5 x6 t0 S = some o) : sd_on on_X9_weigh S o.2 := by
  have g : sd_on on_X9_weigh S S := sd_on.rf
  unfold f_X9_weigh_h94 at h
  obtain ⟨q1, eq1, h⟩ := si_ob h
  have g := g.tr ((fr_J6_bitCount_0f7a4 F x5 S q1 eq1).mono (by decide))
  obtain ⟨q2, eq2, h⟩ := si_ob h
  have g := g.tr ((fr_J6_bitCount_0f7a4 F x6 q1.2 q2 eq2).mono (by decide))
  obtain ⟨v3, ev3, h⟩ := si_ob h
  rcases Decidable.em (v3 = 0) with c114 | c114
  · have h := si_ip c114 h
    obtain rfl := Option.some.inj h
    exact g
  · have h := si_in c114 h
    obtain ⟨v4, ev4, h⟩ := si_ob h
    rcases Decidable.em (v4 < 20) with c131 | c131
    · have h := si_ip c131 h
      obtain ⟨S5, eS5, h⟩ := si_ob h
      have g := g.tr ((fr_X0_addWeighing F x1 q2.2 S5 eS5).mono (by decide))
      obtain ⟨S6, eS6, h⟩ := si_ob h
      have g := g.tr ((fr_X8_put F x1 x5 x6 t0 S5 S6 eS6).mono (by decide))
      obtain ⟨v7, ev7, h⟩ := si_ob h
      obtain ⟨S8, eS8, h⟩ := si_ob h
      have g := g.tr (on_wr eS8 (by decide))
      obtain rfl := Option.some.inj h
      exact g
    · have h := si_in c131 h
      obtain rfl := Option.some.inj h
      exact g
theorem fr_X9_weigh (F : Nat) (x1 : Int32) (x2 : Int32) (x3 : Int32) (x4 : Int32) (S : si_St) (o : Int32 × si_St) (h : f_X9_weigh F x1 x2 x3 x4 S = some o) : sd_on on_X9_weigh S o.2 := by
  have g : sd_on on_X9_weigh S S := sd_on.rf
  unfold f_X9_weigh at h
  obtain ⟨q9, eq9, h⟩ := si_ob h
  have g := g.tr ((fr_X9_hasSet F x1 S q9 eq9).mono (by decide))
  rcases Decidable.em (q9.1 = 0) with c5 | c5
  · have h := si_ip c5 h
    exact g.tr (fr_X9_weigh_h25 F _ _ h)
  · have h := si_in c5 h
    obtain ⟨k910, ek910, h⟩ := si_ob h
    have hk910 := (si_mk_inv ek910).1
    obtain ⟨v11, ev11, h⟩ := si_ob h
    obtain ⟨q12, eq12, h⟩ := si_ob h
    have g := g.tr ((fr_X9_isWeighing F v11 x2 x3 q9.2 q12 eq12).mono (by decide))
    rcases Decidable.em (q12.1 = 0) with c22 | c22
    · have h := si_ip c22 h
      exact g.tr (fr_X9_weigh_h25 F _ _ h)
    · have h := si_in c22 h
      rcases Decidable.em (x4 < 0) with c29 | c29
      · have h := si_ip c29 h
        exact g.tr (fr_X9_weigh_h38 F _ _ h)
      · have h := si_in c29 h
        rcases Decidable.em (x4 ≤ 2) with c35 | c35
        · have h := si_ip c35 h
          obtain ⟨v13, ev13, h⟩ := si_ob h
          obtain ⟨q14, eq14, h⟩ := si_ob h
          have g := g.tr ((fr_X8_suspectsAfter F v13 x2 x3 x4 q12.2 q14 eq14).mono (by decide))
          obtain ⟨v15, ev15, h⟩ := si_ob h
          obtain ⟨q16, eq16, h⟩ := si_ob h
          have g := g.tr ((fr_X8_suspectsAfter F v15 x3 x2 x4 q14.2 q16 eq16).mono (by decide))
          rcases Decidable.em (x4 = 0) with c78 | c78
          · have h := si_ip c78 h
            obtain ⟨v17, ev17, h⟩ := si_ob h
            exact g.tr (fr_X9_weigh_h94 F _ _ _ _ _ _ h)
          · have h := si_in c78 h
            exact g.tr (fr_X9_weigh_h94 F _ _ _ _ _ _ h)
        · have h := si_in c35 h
          exact g.tr (fr_X9_weigh_h38 F _ _ h)
def on_X9_hypothesisCount : List Nat := []
theorem fr_X9_hypothesisCount_h20 (F : Nat) (t0 : Int32) (S : si_St) (o : Int32 × si_St) (h : f_X9_hypothesisCount_h20 F t0 S = some o) : sd_on on_X9_hypothesisCount S o.2 := by
  have g : sd_on on_X9_hypothesisCount S S := sd_on.rf
  unfold f_X9_hypothesisCount_h20 at h
  obtain rfl := Option.some.inj h
  exact g
theorem fr_X9_hypothesisCount (F : Nat) (x1 : Int32) (S : si_St) (o : Int32 × si_St) (h : f_X9_hypothesisCount F x1 S = some o) : sd_on on_X9_hypothesisCount S o.2 := by
  have g : sd_on on_X9_hypothesisCount S S := sd_on.rf
  unfold f_X9_hypothesisCount at h
  obtain ⟨q1, eq1, h⟩ := si_ob h
  have g := g.tr ((fr_X9_hasSet F x1 S q1 eq1).mono (by decide))
  rcases Decidable.em (q1.1 = 0) with c5 | c5
  · have h := si_ip c5 h
    exact g.tr (fr_X9_hypothesisCount_h20 F _ _ _ h)
  · have h := si_in c5 h
    obtain ⟨q2, eq2, h⟩ := si_ob h
    have g := g.tr ((fr_X8_hypothesesOf F x1 q1.2 q2 eq2).mono (by decide))
    exact g.tr (fr_X9_hypothesisCount_h20 F _ _ _ h)
def on_X9_heavySuspects : List Nat := []
theorem fr_X9_heavySuspects_h21 (F : Nat) (t0 : Int32) (S : si_St) (o : Int32 × si_St) (h : f_X9_heavySuspects_h21 F t0 S = some o) : sd_on on_X9_heavySuspects S o.2 := by
  have g : sd_on on_X9_heavySuspects S S := sd_on.rf
  unfold f_X9_heavySuspects_h21 at h
  obtain rfl := Option.some.inj h
  exact g
theorem fr_X9_heavySuspects (F : Nat) (x1 : Int32) (S : si_St) (o : Int32 × si_St) (h : f_X9_heavySuspects F x1 S = some o) : sd_on on_X9_heavySuspects S o.2 := by
  have g : sd_on on_X9_heavySuspects S S := sd_on.rf
  unfold f_X9_heavySuspects at h
  obtain ⟨q1, eq1, h⟩ := si_ob h
  have g := g.tr ((fr_X9_hasSet F x1 S q1 eq1).mono (by decide))
  rcases Decidable.em (q1.1 = 0) with c5 | c5
  · have h := si_ip c5 h
    exact g.tr (fr_X9_heavySuspects_h21 F _ _ _ h)
  · have h := si_in c5 h
    obtain ⟨v2, ev2, h⟩ := si_ob h
    exact g.tr (fr_X9_heavySuspects_h21 F _ _ _ h)
def on_X9_lightSuspects : List Nat := []
theorem fr_X9_lightSuspects_h21 (F : Nat) (t0 : Int32) (S : si_St) (o : Int32 × si_St) (h : f_X9_lightSuspects_h21 F t0 S = some o) : sd_on on_X9_lightSuspects S o.2 := by
  have g : sd_on on_X9_lightSuspects S S := sd_on.rf
  unfold f_X9_lightSuspects_h21 at h
  obtain rfl := Option.some.inj h
  exact g
theorem fr_X9_lightSuspects (F : Nat) (x1 : Int32) (S : si_St) (o : Int32 × si_St) (h : f_X9_lightSuspects F x1 S = some o) : sd_on on_X9_lightSuspects S o.2 := by
  have g : sd_on on_X9_lightSuspects S S := sd_on.rf
  unfold f_X9_lightSuspects at h
  obtain ⟨q1, eq1, h⟩ := si_ob h
  have g := g.tr ((fr_X9_hasSet F x1 S q1 eq1).mono (by decide))
  rcases Decidable.em (q1.1 = 0) with c5 | c5
  · have h := si_ip c5 h
    exact g.tr (fr_X9_lightSuspects_h21 F _ _ _ h)
  · have h := si_in c5 h
    obtain ⟨v2, ev2, h⟩ := si_ob h
    exact g.tr (fr_X9_lightSuspects_h21 F _ _ _ h)
def on_X9_canBeGenuine : List Nat := []
theorem fr_X9_canBeGenuine_h21 (F : Nat) (t0 : Int32) (S : si_St) (o : Int32 × si_St) (h : f_X9_canBeGenuine_h21 F t0 S = some o) : sd_on on_X9_canBeGenuine S o.2 := by
  have g : sd_on on_X9_canBeGenuine S S := sd_on.rf
  unfold f_X9_canBeGenuine_h21 at h
  obtain rfl := Option.some.inj h
  exact g
theorem fr_X9_canBeGenuine (F : Nat) (x1 : Int32) (S : si_St) (o : Int32 × si_St) (h : f_X9_canBeGenuine F x1 S = some o) : sd_on on_X9_canBeGenuine S o.2 := by
  have g : sd_on on_X9_canBeGenuine S S := sd_on.rf
  unfold f_X9_canBeGenuine at h
  obtain ⟨q1, eq1, h⟩ := si_ob h
  have g := g.tr ((fr_X9_hasSet F x1 S q1 eq1).mono (by decide))
  rcases Decidable.em (q1.1 = 0) with c5 | c5
  · have h := si_ip c5 h
    exact g.tr (fr_X9_canBeGenuine_h21 F _ _ _ h)
  · have h := si_in c5 h
    obtain ⟨v2, ev2, h⟩ := si_ob h
    exact g.tr (fr_X9_canBeGenuine_h21 F _ _ _ h)
def on_X9_finding : List Nat := []
theorem fr_X9_finding_h20 (F : Nat) (t0 : Int32) (S : si_St) (o : Int32 × si_St) (h : f_X9_finding_h20 F t0 S = some o) : sd_on on_X9_finding S o.2 := by
  have g : sd_on on_X9_finding S S := sd_on.rf
  unfold f_X9_finding_h20 at h
  obtain rfl := Option.some.inj h
  exact g
theorem fr_X9_finding (F : Nat) (x1 : Int32) (S : si_St) (o : Int32 × si_St) (h : f_X9_finding F x1 S = some o) : sd_on on_X9_finding S o.2 := by
  have g : sd_on on_X9_finding S S := sd_on.rf
  unfold f_X9_finding at h
  obtain ⟨q1, eq1, h⟩ := si_ob h
  have g := g.tr ((fr_X9_hasSet F x1 S q1 eq1).mono (by decide))
  rcases Decidable.em (q1.1 = 0) with c5 | c5
  · have h := si_ip c5 h
    exact g.tr (fr_X9_finding_h20 F _ _ _ h)
  · have h := si_in c5 h
    obtain ⟨q2, eq2, h⟩ := si_ob h
    have g := g.tr ((fr_X8_onlyHypothesis F x1 q1.2 q2 eq2).mono (by decide))
    exact g.tr (fr_X9_finding_h20 F _ _ _ h)
def on_X9_weighingsNeeded : List Nat := [65, 66, 67, 68]
theorem fr_X9_weighingsNeeded (F : Nat) (x1 : Int32) (S : si_St) (o : Int32 × si_St) (h : f_X9_weighingsNeeded F x1 S = some o) : sd_on on_X9_weighingsNeeded S o.2 := by
  have g : sd_on on_X9_weighingsNeeded S S := sd_on.rf
  unfold f_X9_weighingsNeeded at h
  obtain ⟨q1, eq1, h⟩ := si_ob h
  have g := g.tr ((fr_X9_hasSet F x1 S q1 eq1).mono (by decide))
  rcases Decidable.em (q1.1 = 0) with c5 | c5
  · have h := si_ip c5 h
    obtain rfl := Option.some.inj h
    exact g
  · have h := si_in c5 h
    obtain ⟨S2, eS2, h⟩ := si_ob h
    have g := g.tr ((fr_X9_chooseSet F x1 q1.2 S2 eS2).mono (by decide))
    obtain ⟨q3, eq3, h⟩ := si_ob h
    have g := g.tr ((fr_X5_needed F S2 q3 eq3).mono (by decide))
    obtain ⟨q4, eq4, h⟩ := si_ob h
    have g := g.tr ((fr_X9_orNone F q3.1 q3.2 q4 eq4).mono (by decide))
    obtain rfl := Option.some.inj h
    exact g
def on_X9_bestLeft : List Nat := [65, 66, 67, 68]
theorem fr_X9_bestLeft_h39 (F : Nat) (t0 : Int32) (S : si_St) (o : Int32 × si_St) (h : f_X9_bestLeft_h39 F t0 S = some o) : sd_on on_X9_bestLeft S o.2 := by
  have g : sd_on on_X9_bestLeft S S := sd_on.rf
  unfold f_X9_bestLeft_h39 at h
  obtain rfl := Option.some.inj h
  exact g
theorem fr_X9_bestLeft (F : Nat) (x1 : Int32) (S : si_St) (o : Int32 × si_St) (h : f_X9_bestLeft F x1 S = some o) : sd_on on_X9_bestLeft S o.2 := by
  have g : sd_on on_X9_bestLeft S S := sd_on.rf
  unfold f_X9_bestLeft at h
  obtain ⟨q1, eq1, h⟩ := si_ob h
  have g := g.tr ((fr_X9_hasSet F x1 S q1 eq1).mono (by decide))
  rcases Decidable.em (q1.1 = 0) with c5 | c5
  · have h := si_ip c5 h
    obtain rfl := Option.some.inj h
    exact g
  · have h := si_in c5 h
    obtain ⟨S2, eS2, h⟩ := si_ob h
    have g := g.tr ((fr_X9_chooseSet F x1 q1.2 S2 eS2).mono (by decide))
    obtain ⟨q3, eq3, h⟩ := si_ob h
    have g := g.tr ((fr_X5_bestWeighing F S2 q3 eq3).mono (by decide))
    rcases Decidable.em (q3.1 = 268435456) with c27 | c27
    · have h := si_ip c27 h
      exact g.tr (fr_X9_bestLeft_h39 F _ _ _ h)
    · have h := si_in c27 h
      obtain ⟨q4, eq4, h⟩ := si_ob h
      have g := g.tr ((fr_X5_leftPan F q3.1 q3.2 q4 eq4).mono (by decide))
      exact g.tr (fr_X9_bestLeft_h39 F _ _ _ h)
def on_X9_bestRight : List Nat := [65, 66, 67, 68]
theorem fr_X9_bestRight_h39 (F : Nat) (t0 : Int32) (S : si_St) (o : Int32 × si_St) (h : f_X9_bestRight_h39 F t0 S = some o) : sd_on on_X9_bestRight S o.2 := by
  have g : sd_on on_X9_bestRight S S := sd_on.rf
  unfold f_X9_bestRight_h39 at h
  obtain rfl := Option.some.inj h
  exact g
theorem fr_X9_bestRight (F : Nat) (x1 : Int32) (S : si_St) (o : Int32 × si_St) (h : f_X9_bestRight F x1 S = some o) : sd_on on_X9_bestRight S o.2 := by
  have g : sd_on on_X9_bestRight S S := sd_on.rf
  unfold f_X9_bestRight at h
  obtain ⟨q1, eq1, h⟩ := si_ob h
  have g := g.tr ((fr_X9_hasSet F x1 S q1 eq1).mono (by decide))
  rcases Decidable.em (q1.1 = 0) with c5 | c5
  · have h := si_ip c5 h
    obtain rfl := Option.some.inj h
    exact g
  · have h := si_in c5 h
    obtain ⟨S2, eS2, h⟩ := si_ob h
    have g := g.tr ((fr_X9_chooseSet F x1 q1.2 S2 eS2).mono (by decide))
    obtain ⟨q3, eq3, h⟩ := si_ob h
    have g := g.tr ((fr_X5_bestWeighing F S2 q3 eq3).mono (by decide))
    rcases Decidable.em (q3.1 = 268435456) with c27 | c27
    · have h := si_ip c27 h
      exact g.tr (fr_X9_bestRight_h39 F _ _ _ h)
    · have h := si_in c27 h
      obtain ⟨q4, eq4, h⟩ := si_ob h
      have g := g.tr ((fr_X5_rightPan F q3.1 q3.2 q4 eq4).mono (by decide))
      exact g.tr (fr_X9_bestRight_h39 F _ _ _ h)
def on_X9_fewestWeighings : List Nat := [65, 66, 67, 68]
theorem fr_X9_fewestWeighings_h11 (F : Nat) (S : si_St) (o : Int32 × si_St) (h : f_X9_fewestWeighings_h11 F S = some o) : sd_on on_X9_fewestWeighings S o.2 := by
  have g : sd_on on_X9_fewestWeighings S S := sd_on.rf
  unfold f_X9_fewestWeighings_h11 at h
  obtain rfl := Option.some.inj h
  exact g
theorem fr_X9_fewestWeighings_h35 (F : Nat) (t0 : Int32) (t1 : Int32) (t2 : Int32) (t3 : Int32) (S : si_St) (o : Int32 × si_St) (h : f_X9_fewestWeighings_h35 F t0 t1 t2 t3 S = some o) : sd_on on_X9_fewestWeighings S o.2 := by
  have g : sd_on on_X9_fewestWeighings S S := sd_on.rf
  unfold f_X9_fewestWeighings_h35 at h
  obtain ⟨S1, eS1, h⟩ := si_ob h
  have g := g.tr ((fr_X5_choose F t3 t2 t1 t0 S S1 eS1).mono (by decide))
  obtain ⟨q2, eq2, h⟩ := si_ob h
  have g := g.tr ((fr_X5_needed F S1 q2 eq2).mono (by decide))
  obtain ⟨q3, eq3, h⟩ := si_ob h
  have g := g.tr ((fr_X9_orNone F q2.1 q2.2 q3 eq3).mono (by decide))
  obtain rfl := Option.some.inj h
  exact g
theorem fr_X9_fewestWeighings (F : Nat) (x1 : Int32) (x2 : Int32) (S : si_St) (o : Int32 × si_St) (h : f_X9_fewestWeighings F x1 x2 S = some o) : sd_on on_X9_fewestWeighings S o.2 := by
  have g : sd_on on_X9_fewestWeighings S S := sd_on.rf
  unfold f_X9_fewestWeighings at h
  rcases Decidable.em (x1 < 2) with c2 | c2
  · have h := si_ip c2 h
    exact g.tr (fr_X9_fewestWeighings_h11 F _ _ h)
  · have h := si_in c2 h
    rcases Decidable.em (x1 ≤ 12) with c8 | c8
    · have h := si_ip c8 h
      obtain ⟨v4, ev4, h⟩ := si_ob h
      rcases Decidable.em (x2 = 0) with c27 | c27
      · have h := si_ip c27 h
        exact g.tr (fr_X9_fewestWeighings_h35 F _ _ _ _ _ _ h)
      · have h := si_in c27 h
        exact g.tr (fr_X9_fewestWeighings_h35 F _ _ _ _ _ _ h)
    · have h := si_in c8 h
      exact g.tr (fr_X9_fewestWeighings_h11 F _ _ h)
