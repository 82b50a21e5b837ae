-- WHAT A STEP OF THE LAW'S OWN LEAVES: all cells outside C, and at most a objects and b places more
def dn (C : List Nat) (a b : Nat) (S S' : si_St) : Prop := (∀ k, k ∉ C → (∀ j, S'.1 k j = S.1 k j) ∧ S'.2.1 k = S.2.1 k ∧ S'.2.2.1 k = S.2.2.1 k) ∧ (1000 ∉ C → S'.2.2.2 0 = S.2.2.2 0 ∧ S'.2.2.2 1 = S.2.2.2 1) ∧ (∀ k, k < 151 → k ∉ C → sd_ln S' k = sd_ln S k ∧ sd_lv S' k = sd_lv S k) ∧ sd_ct S' ≤ sd_ct S + a ∧ sd_sl S' ≤ sd_sl S + b
theorem dn.rf {C : List Nat} {S : si_St} : dn C 0 0 S S := ⟨fun _ _ => ⟨fun _ => rfl, rfl, rfl⟩, fun _ => ⟨rfl, rfl⟩, fun _ _ _ => ⟨rfl, rfl⟩, Nat.le_refl _, Nat.le_refl _⟩
theorem dn.tr {C : List Nat} {a b a' b' : Nat} {S S1 S2 : si_St} (h : dn C a b S S1) (h2 : dn C a' b' S1 S2) : dn C (a + a') (b + b') S S2 := by
  obtain ⟨p1, p2, p3, p4, p5⟩ := h
  obtain ⟨q1, q2, q3, q4, q5⟩ := h2
  refine ⟨fun k hk => ⟨fun j => ((q1 k hk).1 j).trans ((p1 k hk).1 j), (q1 k hk).2.1.trans (p1 k hk).2.1, (q1 k hk).2.2.trans (p1 k hk).2.2⟩, fun hk => ⟨(q2 hk).1.trans (p2 hk).1, (q2 hk).2.trans (p2 hk).2⟩, fun k h1 hk => ⟨(q3 k h1 hk).1.trans (p3 k h1 hk).1, (q3 k h1 hk).2.trans (p3 k h1 hk).2⟩, by omega, by omega⟩
theorem dn.mo {C D : List Nat} {a b a' b' : Nat} {S S1 : si_St} (h : dn C a b S S1) (hs : ∀ k ∈ C, k ∈ D) (ha : a ≤ a') (hb : b ≤ b') : dn D a' b' S S1 := by
  obtain ⟨p1, p2, p3, p4, p5⟩ := h
  exact ⟨fun k hk => p1 k (fun h => hk (hs k h)), fun hk => p2 (fun h => hk (hs _ h)), fun k h1 hk => p3 k h1 (fun h => hk (hs k h)), by omega, by omega⟩
theorem dn.up {C : List Nat} {a b a' b' : Nat} {S S1 : si_St} (h : dn C a b S S1) (ha : a ≤ a') (hb : b ≤ b') : dn C a' b' S S1 := h.mo (fun _ h => h) ha hb
theorem dn.on {L C : List Nat} {S S' : si_St} (h : sd_on L S S') (hs : ∀ k ∈ L, k ∈ C) : dn C 0 0 S S' := by
  obtain ⟨p1, p2, p3⟩ := h
  refine ⟨fun k hk => p1 k (fun h => hk (hs k h)), fun hk => p2 (fun h => hk (hs _ h)), fun k _ _ => ⟨p3 _ (by omega), ?_⟩, Nat.le_of_eq (p3 _ (by decide)), Nat.le_of_eq (p3 _ (by decide))⟩
  unfold sd_lv
  rw [p3 _ (by omega)]
theorem dn.eq {C : List Nat} {S S' : si_St} (h4 : S'.2.2.2 = S.2.2.2) (h : ∀ k, k ∉ C → (∀ j, S'.1 k j = S.1 k j) ∧ S'.2.1 k = S.2.1 k ∧ S'.2.2.1 k = S.2.2.1 k) : dn C 0 0 S S' := ⟨h, fun _ => by rw [h4]; exact ⟨rfl, rfl⟩, fun k _ _ => by unfold sd_ln sd_lv; rw [h4]; exact ⟨rfl, rfl⟩, by unfold sd_ct; rw [h4]; exact Nat.le_refl _, by unfold sd_sl; rw [h4]; exact Nat.le_refl _⟩
theorem dn.ps {C : List Nat} {S : si_St} {k j : Nat} {v : Int32} (hm : k ∈ C) : dn C 0 0 S (si_ps S k j v) := dn.eq rfl (fun a ha => ⟨fun b => if_neg (fun h9 => ha (by rw [h9.1]; exact hm)), rfl, rfl⟩)
theorem dn.pa {C : List Nat} {S : si_St} {k j : Nat} {v : Int32} (hm : k ∈ C) : dn C 0 0 S (si_pa S k j v) := dn.eq rfl (fun a ha => ⟨fun _ => rfl, funext fun b => if_neg (fun h9 => ha (by rw [h9.1]; exact hm)), rfl⟩)
theorem dn.ca {C : List Nat} {S : si_St} {f : Nat → Int32} {k1 a b n : Nat} (hm : k1 ∈ C) : dn C 0 0 S (sd_ca S f k1 a b n) := dn.eq rfl (fun x hx => ⟨fun _ => rfl, funext fun j => if_neg (fun h9 => hx (by rw [h9.1]; exact hm)), rfl⟩)
theorem dn.mkA {C : List Nat} {S : si_St} {k n : Nat} (hm : k ∈ C) (h87 : 87 ≤ k) (h151 : k < 151) : dn C 1 n S (sd_mkA S k n) := by
  have h2 := sd_mkA_ct (S := S) (n := n) h151
  refine ⟨fun a ha => ⟨fun _ => rfl, funext fun b => if_neg (fun h9 => ha (by rw [h9]; exact hm)), rfl⟩, fun _ => ⟨sd_mkA_ref ⟨h87, h151⟩ (by omega) (by omega) (by omega) (by omega), sd_mkA_ref ⟨h87, h151⟩ (by omega) (by omega) (by omega) (by omega)⟩, fun a h1 ha => ?_, Nat.le_of_eq h2.1, Nat.le_of_eq h2.2⟩
  have hne : a ≠ k := fun h9 => ha (by rw [h9]; exact hm)
  refine ⟨sd_mkA_ref ⟨h87, h151⟩ (by omega) (by omega) (by omega) (by omega), ?_⟩
  unfold sd_lv
  rw [sd_mkA_ref ⟨h87, h151⟩ (by omega) (by omega) (by omega) (by omega)]
theorem dn.mkO {C : List Nat} {S : si_St} {k n : Nat} (hm : k ∈ C) (h87 : 87 ≤ k) (h151 : k < 151) : dn C 1 n S (sd_mkO S k n) := by
  have h2 := sd_mkO_ct (S := S) (n := n) h151
  refine ⟨fun a ha => ⟨fun _ => if_neg (fun h9 => ha (by rw [h9]; exact hm)), rfl, rfl⟩, fun _ => ⟨sd_mkO_ref (by omega) (by omega) (by omega), sd_mkO_ref (by omega) (by omega) (by omega)⟩, fun a h1 ha => ?_, Nat.le_of_eq h2.1, Nat.le_of_eq h2.2⟩
  have hne : a ≠ k := fun h9 => ha (by rw [h9]; exact hm)
  refine ⟨sd_mkO_ref (by omega) (by omega) (by omega), ?_⟩
  unfold sd_lv
  rw [sd_mkO_ref (by omega) (by omega) (by omega)]
theorem dn.mkC {C : List Nat} {S : si_St} {k k0 : Nat} (hm : k ∈ C) (h87 : 87 ≤ k) (h151 : k < 151) : dn C 1 (sd_ln S k0) S (sd_mkC S k0 k) := by
  obtain ⟨p1, p2, p3, p4, p5⟩ := dn.mkA (S := S) (n := sd_ln S k0) hm h87 h151
  exact ⟨fun a ha => ⟨fun _ => rfl, funext fun b => if_neg (fun h9 => ha (by rw [h9]; exact hm)), rfl⟩, p2, p3, p4, p5⟩
theorem dn.rn {C : List Nat} {S : si_St} (h88 : 88 ∈ C) (h100 : 100 ∈ C) : dn C 0 0 S (sd_rn S) := by
  refine ⟨fun a ha => ⟨fun _ => rfl, funext fun b => if_neg (fun h9 => ha (by rw [h9]; exact h88)), rfl⟩, fun _ => ⟨rfl, rfl⟩, fun a h1 ha => ?_, Nat.le_refl _, Nat.le_refl _⟩
  have hne : a ≠ 88 := fun h9 => ha (by rw [h9]; exact h88)
  have hne2 : a ≠ 100 := fun h9 => ha (by rw [h9]; exact h100)
  refine ⟨?_, ?_⟩
  · show (if 2000 + a = 2088 then S.2.2.2 2100 else if 2000 + a = 4100 then 0 else S.2.2.2 (2000 + a)) = _
    rw [if_neg (by omega), if_neg (by omega)]
    rfl
  · show ((if 4000 + a = 2088 then S.2.2.2 2100 else if 4000 + a = 4100 then 0 else S.2.2.2 (4000 + a)) == 1) = _
    rw [if_neg (by omega), if_neg (by omega)]
    rfl
theorem dn.ok {C : List Nat} {a b k : Nat} {S S' : si_St} (h : dn C a b S S') (hk : k ∉ C) (ho : sd_ok S k) : sd_ok S' k := ⟨ho.1, ho.2.1, by rw [(h.2.2.1 k ho.2.1 hk).2]; exact ho.2.2⟩
-- reads and writes of the roles
theorem dr_rd {S : si_St} {k i : Nat} (h : sd_ok S k) (hi : i < sd_ln S k) (hl : sd_ln S k < 2 ^ 31) : sd_rd S k (nI i) = some (S.2.1 k i) := by
  unfold sd_rd
  rw [if_pos ⟨h, nI_in hi hl⟩, nI_clamp (by omega)]
theorem dr_wr {S : si_St} {k i : Nat} {v : Int32} (h : sd_ok S k) (hi : i < sd_ln S k) (hl : sd_ln S k < 2 ^ 31) : sd_wr S k (nI i) v = some (si_pa S k i v) := by
  unfold sd_wr
  rw [if_pos ⟨h, nI_in hi hl⟩, nI_clamp (by omega)]
theorem dr_al {S : si_St} {k : Nat} (h : sd_ok S k) : sd_al S k = some (nI (sd_ln S k)) := if_pos h
theorem dr_gi {S : si_St} {k j : Nat} (h : sd_ok S k) : sd_gi S k j = some (S.1 k j) := if_pos h
theorem dr_pi {S : si_St} {k j : Nat} {v : Int32} (h : sd_ok S k) : sd_pi S k j v = some (si_ps S k j v) := if_pos h
theorem dr_ok_ps {S : si_St} {k a j : Nat} {v : Int32} (h : sd_ok S k) : sd_ok (si_ps S a j v) k := h
theorem dr_ok_pa {S : si_St} {k a j : Nat} {v : Int32} (h : sd_ok S k) : sd_ok (si_pa S a j v) k := h
theorem dr_na {S : si_St} {k n : Nat} (hf : sd_frb S k = true) (hn : n ≤ 100000) : sd_na S k (nI n) = some (sd_mkA S k n) := by
  unfold sd_na
  rw [nI_clamp (by omega), if_pos ⟨hf, nI_pos (by omega), hn⟩]
theorem dr_lv_mkA {S : si_St} {k n : Nat} (h87 : 87 ≤ k) (h151 : k < 151) : sd_ok (sd_mkA S k n) k := ⟨h87, h151, by
  unfold sd_lv
  show ((if 4000 + k = 2000 + k then n else if 4000 + k = 4000 + k then 1 else _) == 1) = true
  rw [if_neg (by omega), if_pos rfl]
  rfl⟩
theorem dr_lv_mkO {S : si_St} {k n : Nat} (h87 : 87 ≤ k) (h151 : k < 151) : sd_ok (sd_mkO S k n) k := ⟨h87, h151, by
  unfold sd_lv
  show ((if 4000 + k = 4000 + k then 1 else _) == 1) = true
  rw [if_pos rfl]
  rfl⟩
theorem dr_frb {S : si_St} {k : Nat} (h87 : 87 ≤ k) (h151 : k < 151) (hr : S.2.2.2 0 < 87 ∧ S.2.2.2 1 < 87) (ho : (k = 88 → S.1 87 0 = 0) ∧ (k = 90 → S.1 89 0 = 0) ∧ (k = 93 → S.1 92 1 = 0) ∧ (k = 94 → S.1 92 2 = 0) ∧ (k = 95 → S.1 92 3 = 0) ∧ (k = 96 → S.1 92 4 = 0)) : sd_frb S k = true := by
  obtain ⟨o1, o2, o3, o4, o5, o6⟩ := ho
  simp only [sd_frb, Bool.and_eq_true, Bool.or_eq_true, decide_eq_true_eq, bne_iff_ne, ne_eq]
  exact ⟨⟨⟨⟨⟨⟨⟨⟨⟨h87, h151⟩, hr.1⟩, hr.2⟩, (Decidable.em (k = 88)).elim (fun h => Or.inr (o1 h)) Or.inl⟩, (Decidable.em (k = 90)).elim (fun h => Or.inr (o2 h)) Or.inl⟩, (Decidable.em (k = 93)).elim (fun h => Or.inr (o3 h)) Or.inl⟩, (Decidable.em (k = 94)).elim (fun h => Or.inr (o4 h)) Or.inl⟩, (Decidable.em (k = 95)).elim (fun h => Or.inr (o5 h)) Or.inl⟩, (Decidable.em (k = 96)).elim (fun h => Or.inr (o6 h)) Or.inl⟩
-- a number that is drawn
theorem dw_nat (v : Int32) : v = nI v.toBitVec.toNat := Int32.toBitVec_inj.mp (by
  show v.toBitVec = (Int32.ofNat v.toBitVec.toNat).toBitVec
  rw [Int32.toBitVec_ofNat']
  simp)
theorem dw_ushr (v : Int32) : ∃ X, X < 2 ^ 24 ∧ si_ushr v 8 = nI X := by
  have h := dw_nat v
  have hlt : v.toBitVec.toNat < 2 ^ 32 := v.toBitVec.isLt
  refine ⟨v.toBitVec.toNat / 2 ^ 8, by omega, ?_⟩
  conv => lhs; rw [h]
  exact sb_u 8 8 hlt (by decide)
theorem dw_draw {F k m : Nat} {S : si_St} (hok : sd_ok S k) (hln : sd_ln S k = 1) (h0 : 0 < m) (hm : m < 2 ^ 31) : ∃ v g, v < m ∧ f_L_draw F k (nI m) S = some (nI v, si_pa S k 0 g) := by
  obtain ⟨X, hX, hs⟩ := dw_ushr (S.2.1 k 0 * 1664525 + 1013904223)
  refine ⟨X % m, S.2.1 k 0 * 1664525 + 1013904223, Nat.mod_lt _ h0, ?_⟩
  unfold f_L_draw f_L_draw_h0
  have e1 : sd_rd S k 0 = some (S.2.1 k 0) := dr_rd (i := 0) hok (by omega) (by omega)
  have e2 : sd_wr S k 0 (S.2.1 k 0 * 1664525 + 1013904223) = some (si_pa S k 0 (S.2.1 k 0 * 1664525 + 1013904223)) := dr_wr (i := 0) hok (by omega) (by omega)
  have e3 : sd_rd (si_pa S k 0 (S.2.1 k 0 * 1664525 + 1013904223)) k 0 = some (S.2.1 k 0 * 1664525 + 1013904223) := by
    have := dr_rd (S := si_pa S k 0 (S.2.1 k 0 * 1664525 + 1013904223)) (k := k) (i := 0) hok (by show 0 < sd_ln S k; omega) (by show sd_ln S k < 2 ^ 31; omega)
    rw [pa_e] at this
    exact this
  rw [e1, Option.bind_some, e2, Option.bind_some, e3, Option.bind_some, if_neg (nI_ne0 h0 hm), hs, pk_rem (by omega) h0 hm]
