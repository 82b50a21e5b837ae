-- THE LAW'S OWN OBJECTS: which live, what was made so far; a change of addresses; rows
abbrev sd_ok (S : si_St) (k : Nat) : Prop := 87 ≤ k ∧ k < 151 ∧ sd_lv S k = true
abbrev sd_ct (S : si_St) : Nat := S.2.2.2 9000
abbrev sd_sl (S : si_St) : Nat := S.2.2.2 9001
def sd_le (S S' : si_St) : Prop := sd_ct S ≤ sd_ct S' ∧ sd_sl S ≤ sd_sl S'
theorem sd_le.rf {S : si_St} : sd_le S S := ⟨Nat.le_refl _, Nat.le_refl _⟩
theorem sd_le.tr {S S1 S2 : si_St} (h : sd_le S S1) (h2 : sd_le S1 S2) : sd_le S S2 := ⟨Nat.le_trans h.1 h2.1, Nat.le_trans h.2 h2.2⟩
theorem sd_le.eq {S S1 : si_St} (h : S1.2.2.2 = S.2.2.2) : sd_le S S1 := by unfold sd_le sd_ct sd_sl; rw [h]; exact ⟨Nat.le_refl _, Nat.le_refl _⟩
def sd_Ct (S0 S : si_St) (cs ss : Nat) : Prop := sd_ct S0 + cs ≤ sd_ct S ∧ sd_sl S0 + ss ≤ sd_sl S
theorem sd_Ct.up {S0 S S1 : si_St} {cs ss : Nat} (h : sd_Ct S0 S cs ss) (h2 : sd_le S S1) : sd_Ct S0 S1 cs ss := ⟨Nat.le_trans h.1 h2.1, Nat.le_trans h.2 h2.2⟩
abbrev sd_R (fr lo : Nat) (S0 Sf : si_St) : Room := { frames := fr, cells := sd_ct Sf - sd_ct S0, slots := sd_sl Sf - sd_sl S0, locals := lo }
theorem sd_Ct.room {S0 S Sf : si_St} {fr lo cs ss : Nat} (h : sd_Ct S0 S cs ss) (h2 : sd_le S Sf) : cs ≤ (sd_R fr lo S0 Sf).cells ∧ ss ≤ (sd_R fr lo S0 Sf).slots := by
  obtain ⟨h1, h3⟩ := h
  obtain ⟨h4, h5⟩ := h2
  exact ⟨by show cs ≤ sd_ct Sf - sd_ct S0; omega, by show ss ≤ sd_sl Sf - sd_sl S0; omega⟩
theorem sd_Ct.call {S0 S S1 Sf : si_St} {fr lo cs ss : Nat} (h : sd_Ct S0 S cs ss) (h1 : sd_le S S1) (h2 : sd_le S1 Sf) : cs + (sd_ct S1 - sd_ct S) ≤ (sd_R fr lo S0 Sf).cells ∧ ss + (sd_sl S1 - sd_sl S) ≤ (sd_R fr lo S0 Sf).slots := by
  obtain ⟨h3, h4⟩ := h
  obtain ⟨h5, h6⟩ := h1
  obtain ⟨h7, h8⟩ := h2
  exact ⟨by show cs + (sd_ct S1 - sd_ct S) ≤ sd_ct Sf - sd_ct S0; omega, by show ss + (sd_sl S1 - sd_sl S) ≤ sd_sl Sf - sd_sl S0; omega⟩
theorem sd_Ct.went {S0 S S1 : si_St} {cs ss : Nat} (h : sd_Ct S0 S cs ss) (h1 : sd_le S S1) : sd_Ct S0 S1 (cs + (sd_ct S1 - sd_ct S)) (ss + (sd_sl S1 - sd_sl S)) := by
  obtain ⟨h3, h4⟩ := h
  obtain ⟨h5, h6⟩ := h1
  exact ⟨by omega, by omega⟩
def sd_EE (AL : Nat → Bool) (E E' : si_Ev) : Prop := E'.1 = E.1 ∧ E'.2.2 = E.2.2 ∧ ∀ k, AL k = false → E'.2.1 k = E.2.1 k
theorem sd_EE.rf {AL : Nat → Bool} {E : si_Ev} : sd_EE AL E E := ⟨rfl, rfl, fun _ _ => rfl⟩
theorem sd_EE.tr {AL AL1 : Nat → Bool} {E E1 E2 : si_Ev} (h : sd_EE AL E E1) (hs : ∀ k, AL k = false → AL1 k = false) (h2 : sd_EE AL1 E1 E2) : sd_EE AL E E2 := ⟨h2.1.trans h.1, h2.2.1.trans h.2.1, fun k hk => (h2.2.2 k (hs k hk)).trans (h.2.2 k hk)⟩
theorem sd_EE.at {AL : Nat → Bool} {E E' : si_Ev} (h : sd_EE AL E E') (k : Nat) (hk : AL k = false) : E'.2.1 k = E.2.1 k := h.2.2 k hk
abbrev sd_one (k : Nat) : Nat → Bool := fun a => a == k
def sd_E1 (E : si_Ev) (k q : Nat) : si_Ev := (E.1, fun a => if a = k then q else E.2.1 a, E.2.2)
theorem sd_E1_EE {E : si_Ev} {k q : Nat} : sd_EE (sd_one k) E (sd_E1 E k q) := ⟨rfl, rfl, fun a ha => by
  show (if a = k then q else E.2.1 a) = E.2.1 a
  rw [if_neg (by simpa using ha)]⟩
-- pure steps over the roles
def sd_gi (S : si_St) (k j : Nat) : Option Int32 := if sd_ok S k then some (S.1 k j) else none
def sd_pi (S : si_St) (k j : Nat) (v : Int32) : Option si_St := if sd_ok S k then some (si_ps S k j v) else none
def sd_rd (S : si_St) (k : Nat) (i : Int32) : Option Int32 := if sd_ok S k ∧ ¬ (i < 0 ∨ sd_ln S k ≤ i.toNatClampNeg) then some (S.2.1 k i.toNatClampNeg) else none
def sd_wr (S : si_St) (k : Nat) (i v : Int32) : Option si_St := if sd_ok S k ∧ ¬ (i < 0 ∨ sd_ln S k ≤ i.toNatClampNeg) then some (si_pa S k i.toNatClampNeg v) else none
def sd_al (S : si_St) (k : Nat) : Option Int32 := if sd_ok S k then some (Int32.ofNat (sd_ln S k)) else none
def sd_ow (S : si_St) (k : Nat) : Prop := (k = 88 → S.1 87 0 = 0) ∧ (k = 90 → S.1 89 0 = 0) ∧ (k = 93 → S.1 92 1 = 0) ∧ (k = 94 → S.1 92 2 = 0) ∧ (k = 95 → S.1 92 3 = 0) ∧ (k = 96 → S.1 92 4 = 0)
def sd_fr (S : si_St) (k : Nat) : Prop := 87 ≤ k ∧ k < 151 ∧ S.2.2.2 0 < 87 ∧ S.2.2.2 1 < 87 ∧ sd_ow S k
def sd_frb (S : si_St) (k : Nat) : Bool := decide (87 ≤ k) && decide (k < 151) && decide (S.2.2.2 0 < 87) && decide (S.2.2.2 1 < 87) && (k != 88 || decide (S.1 87 0 = 0)) && (k != 90 || decide (S.1 89 0 = 0)) && (k != 93 || decide (S.1 92 1 = 0)) && (k != 94 || decide (S.1 92 2 = 0)) && (k != 95 || decide (S.1 92 3 = 0)) && (k != 96 || decide (S.1 92 4 = 0))
theorem sd_frb_of {S : si_St} {k : Nat} (h : sd_frb S k = true) : sd_fr S k := by
  simp only [sd_frb, Bool.and_eq_true, Bool.or_eq_true, decide_eq_true_eq, bne_iff_ne, ne_eq] at h
  obtain ⟨⟨⟨⟨⟨⟨⟨⟨⟨h1, h2⟩, h3⟩, h4⟩, h5⟩, h6⟩, h7⟩, h8⟩, h9⟩, h10⟩ := h
  exact ⟨h1, h2, h3, h4, fun e => h5.resolve_left (fun n => n e), fun e => h6.resolve_left (fun n => n e), fun e => h7.resolve_left (fun n => n e), fun e => h8.resolve_left (fun n => n e), fun e => h9.resolve_left (fun n => n e), fun e => h10.resolve_left (fun n => n e)⟩
def sd_mkA (S : si_St) (k n : Nat) : si_St := (S.1, fun a b => if a = k then 0 else S.2.1 a b, S.2.2.1, fun a => if a = 2000 + k then n else if a = 4000 + k then 1 else if a = 9000 then S.2.2.2 9000 + 1 else if a = 9001 then S.2.2.2 9001 + n else S.2.2.2 a)
def sd_mkO (S : si_St) (k n : Nat) : si_St := (fun a b => if a = k then 0 else S.1 a b, S.2.1, S.2.2.1, fun a => if a = 4000 + k then 1 else if a = 9000 then S.2.2.2 9000 + 1 else if a = 9001 then S.2.2.2 9001 + n else S.2.2.2 a)
def sd_na (S : si_St) (k : Nat) (n : Int32) : Option si_St := if sd_frb S k = true ∧ ¬ n < 0 ∧ n.toNatClampNeg ≤ 100000 then some (sd_mkA S k n.toNatClampNeg) else none
def sd_no (S : si_St) (k N : Nat) : Option si_St := if sd_frb S k = true then some (sd_mkO S k N) else none
def sd_rn (S : si_St) : si_St := (S.1, fun a b => if a = 88 then S.2.1 100 b else S.2.1 a b, S.2.2.1, fun a => if a = 2088 then S.2.2.2 2100 else if a = 4100 then 0 else S.2.2.2 a)
def sd_gw (S : si_St) : Option si_St := if sd_ok S 87 ∧ sd_ok S 88 ∧ sd_ok S 100 ∧ S.1 87 0 ≠ 0 ∧ S.2.2.2 0 < 87 ∧ S.2.2.2 1 < 87 then some (sd_rn S) else none
def sd_ca (S : si_St) (f : Nat → Int32) (k1 a b n : Nat) : si_St := (S.1, fun x j => if x = k1 ∧ b ≤ j ∧ j < b + n then f (a + (j - b)) else S.2.1 x j, S.2.2)
def sd_fit (f : Nat → Int32) (a n : Nat) : Bool := (List.range n).all fun i => fits .byte (.int (f (a + i)))
def sd_cp (S : si_St) (k0 : Nat) (sp : Int32) (k1 : Nat) (dp n : Int32) : Option si_St := if sd_ok S k0 ∧ sd_ok S k1 ∧ ¬ sp < 0 ∧ ¬ dp < 0 ∧ ¬ n < 0 ∧ sp.toNatClampNeg + n.toNatClampNeg ≤ sd_ln S k0 ∧ dp.toNatClampNeg + n.toNatClampNeg ≤ sd_ln S k1 ∧ sd_fit (S.2.1 k0) sp.toNatClampNeg n.toNatClampNeg = true then some (sd_ca S (S.2.1 k0) k1 sp.toNatClampNeg dp.toNatClampNeg n.toNatClampNeg) else none
def sd_cs (S : si_St) (g : Nat) (sp : Int32) (k1 : Nat) (dp n : Int32) : Option si_St := if sd_ok S k1 ∧ ¬ sp < 0 ∧ ¬ dp < 0 ∧ ¬ n < 0 ∧ sp.toNatClampNeg + n.toNatClampNeg ≤ si_slen.getD g 0 ∧ dp.toNatClampNeg + n.toNatClampNeg ≤ sd_ln S k1 ∧ sd_fit (fun j => (si_sbyt.getD g []).getD j 0) sp.toNatClampNeg n.toNatClampNeg = true then some (sd_ca S (fun j => (si_sbyt.getD g []).getD j 0) k1 sp.toNatClampNeg dp.toNatClampNeg n.toNatClampNeg) else none
def sd_mkC (S : si_St) (k0 k : Nat) : si_St := (S.1, fun a b => if a = k then S.2.1 k0 b else S.2.1 a b, S.2.2.1, (sd_mkA S k (sd_ln S k0)).2.2.2)
def sd_cn (S : si_St) (k0 k : Nat) : Option si_St := if sd_ok S k0 ∧ k0 ≠ k ∧ sd_frb S k = true ∧ sd_ln S k0 ≤ 100000 ∧ sd_fit (S.2.1 k0) 0 (sd_ln S k0) = true then some (sd_mkC S k0 k) else none
def sd_dg (t : Nat) (i : Int32) : Option Int32 := if i < 0 ∨ 100 ≤ i.toNatClampNeg then none else some ((if t = 100 then sd_ones else sd_tens).getD i.toNatClampNeg 0)
-- nothing that was made is unmade
theorem sd_if {α : Type} {c : Prop} [Decidable c] {x y : α} (h : (if c then some x else none) = some y) : c ∧ y = x := by
  by_cases hc : c
  · rw [if_pos hc] at h
    exact ⟨hc, (Option.some.inj h).symm⟩
  · rw [if_neg hc] at h
    cases h
theorem sd_ifn {α : Type} {c : Prop} [Decidable c] {x y : α} (h : (if c then none else some x) = some y) : ¬ c ∧ y = x := by
  by_cases hc : c
  · rw [if_pos hc] at h
    cases h
  · rw [if_neg hc] at h
    exact ⟨hc, (Option.some.inj h).symm⟩
theorem sd_pi_m {S S' : si_St} {k j : Nat} {v : Int32} (h : sd_pi S k j v = some S') : sd_le S S' := sd_le.eq (by rw [(sd_if h).2]; rfl)
theorem sd_wr_m {S S' : si_St} {k : Nat} {i v : Int32} (h : sd_wr S k i v = some S') : sd_le S S' := sd_le.eq (by rw [(sd_if h).2]; rfl)
theorem sd_cp_m {S S' : si_St} {k0 k1 : Nat} {sp dp n : Int32} (h : sd_cp S k0 sp k1 dp n = some S') : sd_le S S' := sd_le.eq (by rw [(sd_if h).2]; rfl)
theorem sd_cs_m {S S' : si_St} {k0 k1 : Nat} {sp dp n : Int32} (h : sd_cs S k0 sp k1 dp n = some S') : sd_le S S' := sd_le.eq (by rw [(sd_if h).2]; rfl)
theorem sd_mkA_ct {S : si_St} {k n : Nat} (h : k < 151) : (sd_mkA S k n).2.2.2 9000 = S.2.2.2 9000 + 1 ∧ (sd_mkA S k n).2.2.2 9001 = S.2.2.2 9001 + n := by
  refine ⟨?_, ?_⟩
  · show (if 9000 = 2000 + k then n else if 9000 = 4000 + k then 1 else if 9000 = 9000 then S.2.2.2 9000 + 1 else _) = _
    rw [if_neg (by omega), if_neg (by omega), if_pos rfl]
  · show (if 9001 = 2000 + k then n else if 9001 = 4000 + k then 1 else if 9001 = 9000 then S.2.2.2 9000 + 1 else if 9001 = 9001 then S.2.2.2 9001 + n else _) = _
    rw [if_neg (by omega), if_neg (by omega), if_neg (by omega), if_pos rfl]
theorem sd_mkO_ct {S : si_St} {k n : Nat} (h : k < 151) : (sd_mkO S k n).2.2.2 9000 = S.2.2.2 9000 + 1 ∧ (sd_mkO S k n).2.2.2 9001 = S.2.2.2 9001 + n := by
  refine ⟨?_, ?_⟩
  · show (if 9000 = 4000 + k then 1 else if 9000 = 9000 then S.2.2.2 9000 + 1 else _) = _
    rw [if_neg (by omega), if_pos rfl]
  · show (if 9001 = 4000 + k then 1 else if 9001 = 9000 then S.2.2.2 9000 + 1 else if 9001 = 9001 then S.2.2.2 9001 + n else _) = _
    rw [if_neg (by omega), if_neg (by omega), if_pos rfl]
theorem sd_na_m {S S' : si_St} {k : Nat} {n : Int32} (h : sd_na S k n = some S') : sd_le S S' := by
  obtain ⟨h1, rfl⟩ := sd_if h
  have h2 := sd_mkA_ct (S := S) (n := n.toNatClampNeg) (sd_frb_of h1.1).2.1
  exact ⟨Nat.le_trans (Nat.le_succ _) (Nat.le_of_eq h2.1.symm), Nat.le_trans (Nat.le_add_right _ _) (Nat.le_of_eq h2.2.symm)⟩
theorem sd_no_m {S S' : si_St} {k N : Nat} (h : sd_no S k N = some S') : sd_le S S' := by
  obtain ⟨h1, rfl⟩ := sd_if h
  have h2 := sd_mkO_ct (S := S) (n := N) (sd_frb_of h1).2.1
  exact ⟨Nat.le_trans (Nat.le_succ _) (Nat.le_of_eq h2.1.symm), Nat.le_trans (Nat.le_add_right _ _) (Nat.le_of_eq h2.2.symm)⟩
theorem sd_cn_m {S S' : si_St} {k0 k : Nat} (h : sd_cn S k0 k = some S') : sd_le S S' := by
  obtain ⟨h1, rfl⟩ := sd_if h
  have h2 := sd_mkA_ct (S := S) (n := sd_ln S k0) (sd_frb_of h1.2.2.1).2.1
  exact ⟨Nat.le_trans (Nat.le_succ _) (Nat.le_of_eq h2.1.symm), Nat.le_trans (Nat.le_add_right _ _) (Nat.le_of_eq h2.2.symm)⟩
theorem sd_gw_m {S S' : si_St} (h : sd_gw S = some S') : sd_le S S' := by
  obtain ⟨-, rfl⟩ := sd_if h
  exact ⟨Nat.le_of_eq rfl, Nat.le_of_eq rfl⟩
theorem sd_tab1 : ∀ a, a < 87 → ∀ t ∈ si_fl (si_kd a), ∀ d, t = some d → (d < 1000 → a + d < 87) ∧ (¬ d < 1000 → d = 1000 ∨ d = 1001) := by decide +kernel
theorem sd_kd_obj {a : Nat} (h : 20 ≤ sd_kd a) (h87 : 87 ≤ a) : a = 87 ∨ a = 89 ∨ a = 92 := by
  have key : ∀ b, b < 14 → 20 ≤ sd_kdL.getD b 12 → b = 0 ∨ b = 2 ∨ b = 5 := by decide
  unfold sd_kd at h
  by_cases hb : a - 87 < 14
  · have := key _ hb h
    omega
  · rw [List.getD_eq_getElem?_getD, List.getElem?_eq_none (by show 14 ≤ a - 87; omega)] at h
    exact absurd h (by decide)
theorem sd_world {D : va_G} {cl : List vw_C} {ws : va_W} {H : Heap} {A : Nat → Prop} {E' : si_Ev} {S' : si_St} (lb : Nat → Nat) (Lb : List Nat) (hinj : ∀ a ∈ sd_L S', ∀ b ∈ sd_L S', lb a = lb b → a = b) (hg : ∀ a ∈ sd_L S', ∃ i : Nat, Lb[i]? = some (lb a) ∧ ws[i]? = some (E'.2.1 a, si_en E' S' a)) (hP : va_P D cl ws H) (hD : va_D A ws) : va_P D cl (si_ww E' S') H ∧ va_D A (si_ww E' S') := by
  refine ⟨fun k q hk => ?_, fun i j p q hi hj hpq => ?_, fun k q hk => ?_⟩
  · obtain ⟨a, -, ha, rfl⟩ := si_ww_get hk
    obtain ⟨i, -, hi⟩ := hg a ha
    exact hP i _ hi
  · obtain ⟨a, ha0, ha, rfl⟩ := si_ww_get hi
    obtain ⟨b, hb0, hb, rfl⟩ := si_ww_get hj
    obtain ⟨x, hx, hx1⟩ := hg a ha
    obtain ⟨y, hy, hy1⟩ := hg b hb
    have hxy := hD.1 x y _ _ hx1 hy1 hpq
    subst hxy
    have hab := hinj a ha b hb (Option.some.inj (hx.symm.trans hy))
    subst hab
    exact (List.getElem?_inj (List.getElem?_eq_some_iff.mp ha0).1 (sd_nd S')).mp (ha0.trans hb0.symm)
  · obtain ⟨a, -, ha, rfl⟩ := si_ww_get hk
    obtain ⟨i, -, hi⟩ := hg a ha
    exact hD.2 i _ hi
theorem sd_ww_len {E : si_Ev} {S : si_St} : (si_ww E S).length = (sd_L S).length := by unfold si_ww; rw [List.length_map]
theorem sd_born {D : va_G} {cl : List vw_C} {H : Heap} {A : Nat → Prop} {E E' : si_Ev} {S S' : si_St} {k q : Nat} {e : va_E} (hk : k < 151) (hlv : ∀ a, a < 151 → a ≠ k → sd_lv S' a = sd_lv S a) (he : e = si_en E' S' k) (hq : E'.2.1 k = q) (ho : ∀ a ∈ sd_L S, a ≠ k → E'.2.1 a = E.2.1 a ∧ si_en E' S' a = si_en E S a) (hP : va_P D cl (si_ww E S ++ [(q, e)]) H) (hD : va_D A (si_ww E S ++ [(q, e)])) : va_P D cl (si_ww E' S') H ∧ va_D A (si_ww E' S') := by
  have hlt : ∀ a ∈ sd_L S', a < 151 := fun a ha => by
    rcases sd_mem.mp ha with h | h <;> omega
  refine sd_world (fun a => if a = k then 1000 else a) (sd_L S ++ [1000]) (fun a ha b hb h => ?_) (fun a ha => ?_) hP hD
  · have h1 := hlt a ha
    have h2 := hlt b hb
    by_cases hak : a = k
    · by_cases hbk : b = k
      · omega
      · rw [if_pos hak, if_neg hbk] at h
        omega
    · by_cases hbk : b = k
      · rw [if_neg hak, if_pos hbk] at h
        omega
      · rwa [if_neg hak, if_neg hbk] at h
  · by_cases hak : a = k
    · subst hak
      refine ⟨(sd_L S).length, ?_, ?_⟩
      · rw [List.getElem?_append_right (Nat.le_refl _), Nat.sub_self, if_pos rfl]
        rfl
      · rw [List.getElem?_append_right (by rw [sd_ww_len]; exact Nat.le_refl _), sd_ww_len, Nat.sub_self, hq, ← he]
        rfl
    · have haS : a ∈ sd_L S := by
        rcases sd_mem.mp ha with h | ⟨h1, h2, h3⟩
        · exact sd_mem.mpr (Or.inl h)
        · exact sd_mem.mpr (Or.inr ⟨h1, h2, by rw [← hlv a h2 hak]; exact h3⟩)
      obtain ⟨i, hi⟩ := List.getElem?_of_mem haS
      have hil : i < (sd_L S).length := (List.getElem?_eq_some_iff.mp hi).1
      refine ⟨i, ?_, ?_⟩
      · rw [List.getElem?_append_left hil, if_neg hak]
        exact hi
      · rw [List.getElem?_append_left (by rw [sd_ww_len]; exact hil), sd_ww_at hi, (ho a haS hak).1, (ho a haS hak).2]
theorem sd_en_keep {E E' : si_Ev} {S S' : si_St} {a k : Nat} (hk : 87 ≤ k) (hE : ∀ b, b ≠ k → E'.2.1 b = E.2.1 b) (hE2 : E'.2.2 = E.2.2) (hs : S.2.2.2 0 < 87 ∧ S.2.2.2 1 < 87) (how : 87 ≤ a → 20 ≤ sd_kd a → ∀ j : Nat, (sd_fl (sd_kd a))[j]? = some (some k) → S.1 a j = 0) (h1 : ∀ j, S'.1 a j = S.1 a j) (h2 : S'.2.1 a = S.2.1 a) (h3 : S'.2.2.1 a = S.2.2.1 a) (h4 : S'.2.2.2 0 = S.2.2.2 0 ∧ S'.2.2.2 1 = S.2.2.2 1) (h5 : sd_ln S' a = sd_ln S a) : si_en E' S' a = si_en E S a := by
  unfold si_en
  by_cases ha : a < 87
  · rw [if_pos ha, if_pos ha]
    unfold si_es
    rw [hE2, h2, h3]
    have hfs : si_fs E' S' a 0 (si_fl (si_kd a)) = si_fs E S a 0 (si_fl (si_kd a)) := by
      apply List.ext_getElem?
      intro i
      rw [si_fs_at, si_fs_at]
      cases ht : (si_fl (si_kd a))[i]? with
      | none => rfl
      | some t =>
        simp only [Option.map_some, Nat.zero_add]
        cases t with
        | none => simp only [si_fv, h1]
        | some d =>
          obtain ⟨g1, g2⟩ := sd_tab1 a ha _ (List.mem_of_getElem? ht) d rfl
          simp only [si_fv]
          by_cases hd : d < 1000
          · rw [if_pos hd, if_pos hd, hE _ (by have := g1 hd; omega)]
          · rw [if_neg hd, if_neg hd]
            rcases g2 hd with rfl | rfl
            · show some (Value.ref (E'.2.1 (S'.2.2.2 0))) = some (Value.ref (E.2.1 (S.2.2.2 0)))
              rw [h4.1, hE _ (by omega)]
            · show some (Value.ref (E'.2.1 (S'.2.2.2 1))) = some (Value.ref (E.2.1 (S.2.2.2 1)))
              rw [h4.2, hE _ (by omega)]
    rw [hfs]
  · rw [if_neg ha, if_neg ha]
    unfold sd_en
    rw [hE2, h2, h5]
    by_cases hb : sd_kd a < 20
    · rw [if_pos hb, if_pos hb]
    · rw [if_neg hb, if_neg hb]
      rw [sd_fs_congr2]
      intro i t ht
      cases t with
      | none => simp only [sd_fv, h1]
      | some d =>
        simp only [sd_fv, h1]
        by_cases hdk : d = k
        · subst hdk
          rw [if_pos (how (by omega) (by omega) i ht), if_pos (how (by omega) (by omega) i ht)]
        · rw [hE d hdk]
theorem sd_ow_fl {S : si_St} {k a : Nat} (h : sd_ow S k) (ha : 87 ≤ a) (hk : 20 ≤ sd_kd a) (j : Nat) (hj : (sd_fl (sd_kd a))[j]? = some (some k)) : S.1 a j = 0 := by
  obtain ⟨h1, h2, h3, h4, h5, h6⟩ := h
  rcases sd_kd_obj hk ha with rfl | rfl | rfl
  · have : j = 0 ∧ k = 88 := by
      have hl : j < 4 := (List.getElem?_eq_some_iff.mp hj).1
      have key : ∀ j, j < 4 → ∀ x ∈ (sd_fl (sd_kd 87))[j]?, ∀ k, x = some k → j = 0 ∧ k = 88 := by decide
      exact key j hl _ hj k rfl
    obtain ⟨rfl, rfl⟩ := this
    exact h1 rfl
  · have : j = 0 ∧ k = 90 := by
      have hl : j < 4 := (List.getElem?_eq_some_iff.mp hj).1
      have key : ∀ j, j < 4 → ∀ x ∈ (sd_fl (sd_kd 89))[j]?, ∀ k, x = some k → j = 0 ∧ k = 90 := by decide
      exact key j hl _ hj k rfl
    obtain ⟨rfl, rfl⟩ := this
    exact h2 rfl
  · have : (j = 1 ∧ k = 93) ∨ (j = 2 ∧ k = 94) ∨ (j = 3 ∧ k = 95) ∨ (j = 4 ∧ k = 96) := by
      have hl : j < 5 := (List.getElem?_eq_some_iff.mp hj).1
      have key : ∀ j, j < 5 → ∀ x ∈ (sd_fl (sd_kd 92))[j]?, ∀ k, x = some k → (j = 1 ∧ k = 93) ∨ (j = 2 ∧ k = 94) ∨ (j = 3 ∧ k = 95) ∨ (j = 4 ∧ k = 96) := by decide
      exact key j hl _ hj k rfl
    rcases this with ⟨rfl, rfl⟩ | ⟨rfl, rfl⟩ | ⟨rfl, rfl⟩ | ⟨rfl, rfl⟩
    · exact h3 rfl
    · exact h4 rfl
    · exact h5 rfl
    · exact h6 rfl
theorem sd_E1_ne {E : si_Ev} {k q : Nat} : ∀ b, b ≠ k → (sd_E1 E k q).2.1 b = E.2.1 b := fun b hb => if_neg hb
theorem sd_E1_at {E : si_Ev} {k q : Nat} : (sd_E1 E k q).2.1 k = q := if_pos rfl
theorem sd_mkA_ref {S : si_St} {k n a : Nat} (hk : 87 ≤ k ∧ k < 151) (h1 : a ≠ 2000 + k) (h2 : a ≠ 4000 + k) (h3 : a ≠ 9000) (h4 : a ≠ 9001) : (sd_mkA S k n).2.2.2 a = S.2.2.2 a := by
  show (if a = 2000 + k then n else if a = 4000 + k then 1 else if a = 9000 then _ else if a = 9001 then _ else S.2.2.2 a) = _
  rw [if_neg h1, if_neg h2, if_neg h3, if_neg h4]
theorem sd_mkO_ref {S : si_St} {k n a : Nat} (h2 : a ≠ 4000 + k) (h3 : a ≠ 9000) (h4 : a ≠ 9001) : (sd_mkO S k n).2.2.2 a = S.2.2.2 a := by
  show (if a = 4000 + k then 1 else if a = 9000 then _ else if a = 9001 then _ else S.2.2.2 a) = _
  rw [if_neg h2, if_neg h3, if_neg h4]
theorem sd_mkA_ln {S : si_St} {k n : Nat} : sd_ln (sd_mkA S k n) k = n := if_pos rfl
theorem sd_bornA {D : va_G} {cl : List vw_C} {H : Heap} {A : Nat → Prop} {E : si_Ev} {S : si_St} {k q n : Nat} (hf : sd_fr S k) (hkd : sd_kd k < 20) (hP : va_P D cl (si_ww E S ++ [(q, .inl (E.2.2.1 (sd_kd k), n, .inl fun _ => 0))]) H) (hD : va_D A (si_ww E S ++ [(q, .inl (E.2.2.1 (sd_kd k), n, .inl fun _ => 0))])) : va_P D cl (si_ww (sd_E1 E k q) (sd_mkA S k n)) H ∧ va_D A (si_ww (sd_E1 E k q) (sd_mkA S k n)) := by
  obtain ⟨f1, f2, f3, f4, f5⟩ := hf
  refine sd_born f2 (fun a h151 ha => ?_) ?_ sd_E1_at (fun a haS hak => ⟨sd_E1_ne a hak, ?_⟩) hP hD
  · unfold sd_lv
    rw [sd_mkA_ref ⟨f1, f2⟩ (by omega) (by omega) (by omega) (by omega)]
  · rw [si_en, if_neg (by omega), sd_en, if_pos hkd, sd_mkA_ln]
    have : (sd_mkA S k n).2.1 k = fun _ => 0 := by
      funext b
      show (if k = k then (0 : Int32) else _) = 0
      rw [if_pos rfl]
    rw [this]
    rfl
  · have ha151 : a < 151 := by rcases sd_mem.mp haS with h | h <;> omega
    refine sd_en_keep f1 sd_E1_ne rfl ⟨f3, f4⟩ (fun ha hk j hj => sd_ow_fl f5 ha hk j hj) (fun _ => rfl) ?_ rfl ⟨sd_mkA_ref ⟨f1, f2⟩ (by omega) (by omega) (by omega) (by omega), sd_mkA_ref ⟨f1, f2⟩ (by omega) (by omega) (by omega) (by omega)⟩ (sd_mkA_ref ⟨f1, f2⟩ (by omega) (by omega) (by omega) (by omega))
    funext b
    show (if a = k then (0 : Int32) else S.2.1 a b) = S.2.1 a b
    rw [if_neg hak]
theorem sd_bornO {D : va_G} {cl : List vw_C} {H : Heap} {A : Nat → Prop} {E : si_Ev} {S : si_St} {k q n : Nat} {fs : List Value} (hf : sd_fr S k) (hkd : ¬ sd_kd k < 20) (hfs : fs = (sd_fl (sd_kd k)).map fun t => match t with | none => Value.int 0 | some _ => .null) (hP : va_P D cl (si_ww E S ++ [(q, .inr (sd_ci (sd_kd k), fs))]) H) (hD : va_D A (si_ww E S ++ [(q, .inr (sd_ci (sd_kd k), fs))])) : va_P D cl (si_ww (sd_E1 E k q) (sd_mkO S k n)) H ∧ va_D A (si_ww (sd_E1 E k q) (sd_mkO S k n)) := by
  obtain ⟨f1, f2, f3, f4, f5⟩ := hf
  refine sd_born f2 (fun a h151 ha => ?_) ?_ sd_E1_at (fun a haS hak => ⟨sd_E1_ne a hak, ?_⟩) hP hD
  · unfold sd_lv
    rw [sd_mkO_ref (by omega) (by omega) (by omega)]
  · rw [si_en, if_neg (by omega), sd_en, if_neg hkd]
    have hz : ∀ j, (sd_mkO S k n).1 k j = 0 := fun j => if_pos rfl
    have : fs = sd_fs (sd_E1 E k q) (sd_mkO S k n) k 0 (sd_fl (sd_kd k)) := by
      rw [hfs]
      apply List.ext_getElem?
      intro i
      rw [sd_fs_at, List.getElem?_map]
      cases ht : (sd_fl (sd_kd k))[i]? with
      | none => rfl
      | some t =>
        cases t with
        | none => simp only [Option.map_some, sd_fv, hz]
        | some d => simp only [Option.map_some, sd_fv, hz, if_true]
    rw [this]
  · have ha151 : a < 151 := by rcases sd_mem.mp haS with h | h <;> omega
    refine sd_en_keep f1 sd_E1_ne rfl ⟨f3, f4⟩ (fun ha hk j hj => sd_ow_fl f5 ha hk j hj) (fun j => ?_) rfl rfl ⟨sd_mkO_ref (by omega) (by omega) (by omega), sd_mkO_ref (by omega) (by omega) (by omega)⟩ (sd_mkO_ref (by omega) (by omega) (by omega))
    show (if a = k then (0 : Int32) else S.1 a j) = S.1 a j
    rw [if_neg hak]
-- classes of the law's own objects
def sd_Cl (kd : Nat) (C : String) (T : u_T) (N : Nat) : Prop := 20 ≤ kd ∧ vwCl[sd_ci kd]? = some (C, T, N) ∧ (∀ w ∈ u_ws C T N, w ∈ si_GW) ∧ (sd_fl kd).length = N ∧ (∃ ty : Nat → FieldType, ∀ k, k < N → parseFieldDescriptor (T k).2.2.1 = some (ty k)) ∧ ∀ a, a < N → ∀ b, b < N → a ≠ b → (T a).2.1 ≠ (T b).2.1
theorem sd_in20 : ∀ w ∈ u_ws RJ4 TJ4 4, w ∈ si_GW := by
  have h : (u_ws RJ4 TJ4 4) = [514, 516, 518, 520].filterMap (fun i => lw_tbl[i]?) := by decide +kernel
  have hg : (u_ws RJ4 TJ4 4).all goodWord = true := by decide +kernel
  intro w hw
  have h1 := List.all_eq_true.mp hg w hw
  rw [h] at hw
  obtain ⟨i, -, hi⟩ := List.mem_filterMap.mp hw
  exact si_gw i hi h1
theorem sd_cl20 : sd_Cl 20 RJ4 TJ4 4 := ⟨by decide, rfl, sd_in20, rfl, ⟨tyJ4, tyJ4_ok⟩, nmJ4⟩
theorem sd_in21 : ∀ w ∈ u_ws RJ0 TJ0 4, w ∈ si_GW := by
  have h : (u_ws RJ0 TJ0 4) = [771, 773, 775, 777].filterMap (fun i => lw_tbl[i]?) := by decide +kernel
  have hg : (u_ws RJ0 TJ0 4).all goodWord = true := by decide +kernel
  intro w hw
  have h1 := List.all_eq_true.mp hg w hw
  rw [h] at hw
  obtain ⟨i, -, hi⟩ := List.mem_filterMap.mp hw
  exact si_gw i hi h1
theorem sd_cl21 : sd_Cl 21 RJ0 TJ0 4 := ⟨by decide, rfl, sd_in21, rfl, ⟨tyJ0, tyJ0_ok⟩, nmJ0⟩
theorem sd_in22 : ∀ w ∈ u_ws RX10 TX10 5, w ∈ si_GW := by
  have h : (u_ws RX10 TX10 5) = [537, 539, 541, 543, 545].filterMap (fun i => lw_tbl[i]?) := by decide +kernel
  have hg : (u_ws RX10 TX10 5).all goodWord = true := by decide +kernel
  intro w hw
  have h1 := List.all_eq_true.mp hg w hw
  rw [h] at hw
  obtain ⟨i, -, hi⟩ := List.mem_filterMap.mp hw
  exact si_gw i hi h1
theorem sd_cl22 : sd_Cl 22 RX10 TX10 5 := ⟨by decide, rfl, sd_in22, rfl, ⟨tyX10, tyX10_ok⟩, nmX10⟩
section SDR
variable {p : Program} {l : Launch} {e : Env} {R : Room} {s : State} {m : MethodId} {args : Array Value} {below : List Frame} {meth : Method} {c : Code} {H H0 : Heap} {locs : List Loc} {cells slots : Nat} {Q : State → Prop} {cc : ByteArray} {nL : Nat} {own : String} {E : si_Ev} {A : Nat → Prop} {S S' : si_St} {pc : Nat} {ls : Array Slot} {rest : List Value}
theorem sd_X {AL : Nat → Bool} {E' : si_Ev} (h : sd_EE AL E E') (X : si_Cx p s m args c cc nL own E A) : si_Cx p s m args c cc nL own E' A := by
  obtain ⟨a, b, d⟩ := E
  obtain ⟨a', b', d'⟩ := E'
  obtain ⟨h1, h2, -⟩ := h
  dsimp only at h1 h2
  subst h1
  subst h2
  exact X
theorem sd_at {k : Nat} (h : sd_ok S k) : ∃ i : Nat, (sd_L S)[i]? = some k ∧ (si_ww E S)[i]? = some (E.2.1 k, sd_en E S k) := by
  obtain ⟨i, hi⟩ := List.getElem?_of_mem (sd_mem.mpr (Or.inr h))
  refine ⟨i, hi, ?_⟩
  rw [sd_ww_at hi, si_en, if_neg (by have := h.1; omega)]
theorem sd_en_o {kd k : Nat} (h : 20 ≤ kd) (hk : sd_kd k = kd) : sd_en E S k = .inr (sd_ci kd, sd_fs E S k 0 (sd_fl kd)) := by
  unfold sd_en
  rw [hk, if_neg (by omega)]
theorem sd_en_a {kd k : Nat} (h : kd < 20) (hk : sd_kd k = kd) : sd_en E S k = .inl (E.2.2.1 kd, sd_ln S k, .inl (S.2.1 k)) := by
  unfold sd_en
  rw [hk, if_pos h]
theorem sd_get0 {kd : Nat} {C : String} {T : u_T} {N : Nat} (X : si_Cx p s m args c cc nL own E A) (hw : si_Ws E A H0 S H locs) (hcl : sd_Cl kd C T N) (j : Nat) (hj : j < N) {index : Nat} {ref : String} (hlk : (Cond.fieldLink own index ref (T j).2.1 (T j).2.2.1) ∈ si_GW ∨ ∃ host, (Cond.fieldLinkNest own index ref (T j).2.1 (T j).2.2.1 host) ∈ si_NW) (href : (T j).1 = ref) {k : Nat} (hk : sd_kd k = kd) (hok : sd_ok S k) {t : Option Nat} (hf : (sd_fl kd)[j]? = some t) (hdg : decode cc pc = .ok (.getfield index, 3)) (kk : W p l e R s m args below meth c H locs cells slots Q (F0 m (pc + 3) ls (sd_fv E S k j t :: rest))) : W p l e R s m args below meth c H locs cells slots Q (F0 m pc ls (.ref (E.2.1 k) :: rest)) := by
  obtain ⟨hx, hb, -, hown, hts, hK, hSt⟩ := X
  obtain ⟨h20, hcl1, hin, hlen, -, -⟩ := hcl
  obtain ⟨i, -, hi⟩ := sd_at (E := E) hok
  rw [sd_en_o h20 hk] at hi
  subst href
  have hv : (sd_fs E S k 0 (sd_fl kd))[j]? = some (sd_fv E S k j t) := by rw [sd_fs_at, hf]; simp
  rcases hlk with hlk | ⟨host, hlk⟩
  · exact va_get (D := E.1) (ci := sd_ci kd) hx hb hts hin hown hK hw.1 i hi hcl1 j hj (hts _ hlk) (fun _ h9 => h9) (v := sd_fv E S k j t) hv hdg kk
  · exact va_getN (D := E.1) (ci := sd_ci kd) hx hb hts hin hown hK hw.1 i hi hcl1 j hj (va_Nw.use rfl (hSt.2.2.2.choose_spec.2.2.1 _ hlk)) (fun _ h9 => h9) (v := sd_fv E S k j t) hv hdg kk
theorem sd_getI {kd : Nat} {C : String} {T : u_T} {N : Nat} (X : si_Cx p s m args c cc nL own E A) (hw : si_Ws E A H0 S H locs) (hcl : sd_Cl kd C T N) (j : Nat) (hj : j < N) {index : Nat} {ref : String} (hlk : (Cond.fieldLink own index ref (T j).2.1 (T j).2.2.1) ∈ si_GW ∨ ∃ host, (Cond.fieldLinkNest own index ref (T j).2.1 (T j).2.2.1 host) ∈ si_NW) (href : (T j).1 = ref) {k : Nat} (hk : sd_kd k = kd) (hf : (sd_fl kd)[j]? = some none) {v : Int32} (h : sd_gi S k j = some v) (hdg : decode cc pc = .ok (.getfield index, 3)) (kk : W p l e R s m args below meth c H locs cells slots Q (F0 m (pc + 3) ls (.int v :: rest))) : W p l e R s m args below meth c H locs cells slots Q (F0 m pc ls (.ref (E.2.1 k) :: rest)) := by
  obtain ⟨hok, rfl⟩ := sd_if h
  exact sd_get0 X hw hcl j hj hlk href hk hok hf hdg kk
theorem sd_getR {kd : Nat} {C : String} {T : u_T} {N : Nat} (X : si_Cx p s m args c cc nL own E A) (hw : si_Ws E A H0 S H locs) (hcl : sd_Cl kd C T N) (j : Nat) (hj : j < N) {index : Nat} {ref : String} (hlk : (Cond.fieldLink own index ref (T j).2.1 (T j).2.2.1) ∈ si_GW ∨ ∃ host, (Cond.fieldLinkNest own index ref (T j).2.1 (T j).2.2.1 host) ∈ si_NW) (href : (T j).1 = ref) {k t : Nat} (hk : sd_kd k = kd) (hf : (sd_fl kd)[j]? = some (some t)) (h : sd_ok S k ∧ S.1 k j ≠ 0) (hdg : decode cc pc = .ok (.getfield index, 3)) (kk : W p l e R s m args below meth c H locs cells slots Q (F0 m (pc + 3) ls (.ref (E.2.1 t) :: rest))) : W p l e R s m args below meth c H locs cells slots Q (F0 m pc ls (.ref (E.2.1 k) :: rest)) := by
  refine sd_get0 X hw hcl j hj hlk href hk h.1 hf hdg ?_
  have : sd_fv E S k j (some t) = .ref (E.2.1 t) := if_neg h.2
  rw [this]
  exact kk
theorem sd_fs_set {E' : si_Ev} {k j : Nat} {ts : List (Option Nat)} {t : Option Nat} {v : Value} (ht : ts[j]? = some t) (hv : sd_fv E' S' k j t = v) (ho : ∀ i t', i ≠ j → ts[i]? = some t' → sd_fv E' S' k i t' = sd_fv E S k i t') : (sd_fs E S k 0 ts).set j v = sd_fs E' S' k 0 ts := by
  have hj : j < ts.length := (List.getElem?_eq_some_iff.mp ht).1
  apply List.ext_getElem?
  intro i
  by_cases hi : i = j
  · subst hi
    rw [List.getElem?_set_self (by rw [sd_fs_len]; exact hj), sd_fs_at, ht]
    simp [hv]
  · rw [List.getElem?_set_ne (fun h => hi h.symm), sd_fs_at, sd_fs_at]
    cases h : ts[i]? with
    | none => rfl
    | some t' =>
      simp only [Option.map_some, Nat.zero_add]
      rw [ho i t' hi h]
theorem sd_set_ps {i k j kd : Nat} {t : Option Nat} {v : Value} {x : Int32} (h20 : 20 ≤ kd) (hk : sd_kd k = kd) (h87 : 87 ≤ k) (hi : (sd_L S)[i]? = some k) (hj : (sd_fl kd)[j]? = some t) (hv : sd_fv E (si_ps S k j x) k j t = v) : (si_ww E S).set i (E.2.1 k, .inr (sd_ci kd, (sd_fs E S k 0 (sd_fl kd)).set j v)) = si_ww E (si_ps S k j x) := by
  refine sd_ww_set hi rfl ?_ (fun a ha => ?_)
  · rw [si_en, if_neg (by omega), sd_en_o h20 hk, sd_fs_set hj hv]
    intro i t' hi ht
    cases t' with
    | none => simp [sd_fv, si_ps, hi]
    | some d => simp [sd_fv, si_ps, hi]
  · refine si_en_congr (fun j' => ?_) rfl rfl (fun _ _ => rfl) rfl
    simp [si_ps, ha]
theorem sd_put0 {kd : Nat} {C : String} {T : u_T} {N : Nat} (X : si_Cx p s m args c cc nL own E A) (hw : si_Ws E A H0 S H locs) (hcl : sd_Cl kd C T N) (j : Nat) (hj : j < N) {index : Nat} {ref : String} (hlk : (Cond.fieldLink own index ref (T j).2.1 (T j).2.2.1) ∈ si_GW ∨ ∃ host, (Cond.fieldLinkNest own index ref (T j).2.1 (T j).2.2.1 host) ∈ si_NW) (href : (T j).1 = ref) (hfin : (T j).2.2.2 = false ∨ ((T j).2.2.2 = true ∧ meth.name = "<init>" ∧ (T j).1 = own ∧ (Cond.fieldLink own index ref (T j).2.1 (T j).2.2.1) ∈ si_GW)) {k : Nat} (hk : sd_kd k = kd) (hok : sd_ok S k) {ty : FieldType} {v : Value} (hty : parseFieldDescriptor (T j).2.2.1 = some ty) (hn : narrow ty v = v) (hfit : fits ty v = true) (hdg : decode cc pc = .ok (.putfield index, 3)) (kk : ∀ (i : Nat) (H1 : Heap) (locs1 : List Loc), (sd_L S)[i]? = some k → va_P E.1 vwCl ((si_ww E S).set i (E.2.1 k, .inr (sd_ci kd, (sd_fs E S k 0 (sd_fl kd)).set j v))) H1 → va_D A ((si_ww E S).set i (E.2.1 k, .inr (sd_ci kd, (sd_fs E S k 0 (sd_fl kd)).set j v))) → va_S A H0 H1 locs1 → W p l e R s m args below meth c H1 locs1 cells slots Q (F0 m (pc + 3) ls rest)) : W p l e R s m args below meth c H locs cells slots Q (F0 m pc ls (v :: .ref (E.2.1 k) :: rest)) := by
  obtain ⟨hx, hb, -, hown, hts, hK, hSt⟩ := X
  obtain ⟨h20, hcl1, hin, hlen, ⟨tyf, htyf⟩, hnm⟩ := hcl
  obtain ⟨i, hi0, hi⟩ := sd_at (E := E) hok
  rw [sd_en_o h20 hk] at hi
  subst href
  have hl : j < (sd_fs E S k 0 (sd_fl kd)).length := by rw [sd_fs_len, hlen]; exact hj
  rcases hfin with hfin | ⟨hfin, hin2, hdecl, hlk2⟩
  · rcases hlk with hlk | ⟨host, hlk⟩
    · exact va_put (D := E.1) (ci := sd_ci kd) hx hb hts hin tyf htyf hnm hown hK hw.1 hw.2.1 hw.2.2 i hi hcl1 j hj (hts _ hlk) (fun _ h9 => h9) hfin hty hn hfit hl hdg (fun H1 locs1 h1 h2 h3 => kk i H1 locs1 hi0 h1 h2 h3)
    · exact va_putN (D := E.1) (ci := sd_ci kd) hx hb hts hin tyf htyf hnm hown hK hw.1 hw.2.1 hw.2.2 i hi hcl1 j hj (va_Nw.use rfl (hSt.2.2.2.choose_spec.2.2.1 _ hlk)) (fun _ h9 => h9) hfin hty hn hfit hl hdg (fun H1 locs1 h1 h2 h3 => kk i H1 locs1 hi0 h1 h2 h3)
  · exact va_putF (D := E.1) (ci := sd_ci kd) hx hb hts hin tyf htyf hnm hown hK hw.1 hw.2.1 hw.2.2 i hi hcl1 j hj (hts _ hlk2) (fun _ h9 => h9) hfin hin2 hdecl hty hn hfit hl hdg (fun H1 locs1 h1 h2 h3 => kk i H1 locs1 hi0 h1 h2 h3)
theorem sd_putI {kd : Nat} {C : String} {T : u_T} {N : Nat} (X : si_Cx p s m args c cc nL own E A) (hw : si_Ws E A H0 S H locs) (hcl : sd_Cl kd C T N) (j : Nat) (hj : j < N) {index : Nat} {ref : String} (hlk : (Cond.fieldLink own index ref (T j).2.1 (T j).2.2.1) ∈ si_GW ∨ ∃ host, (Cond.fieldLinkNest own index ref (T j).2.1 (T j).2.2.1 host) ∈ si_NW) (href : (T j).1 = ref) (hfin : (T j).2.2.2 = false ∨ ((T j).2.2.2 = true ∧ meth.name = "<init>" ∧ (T j).1 = own ∧ (Cond.fieldLink own index ref (T j).2.1 (T j).2.2.1) ∈ si_GW)) {k : Nat} (hk : sd_kd k = kd) (hf : (sd_fl kd)[j]? = some none) {ty : FieldType} {v : Int32} (hty : parseFieldDescriptor (T j).2.2.1 = some ty) (hn : narrow ty (.int v) = .int v) (hfit : fits ty (.int v) = true) (h : sd_pi S k j v = some S') (hdg : decode cc pc = .ok (.putfield index, 3)) (kk : ∀ (H1 : Heap) (locs1 : List Loc), si_Ws E A H0 S' H1 locs1 → W p l e R s m args below meth c H1 locs1 cells slots Q (F0 m (pc + 3) ls rest)) : W p l e R s m args below meth c H locs cells slots Q (F0 m pc ls (.int v :: .ref (E.2.1 k) :: rest)) := by
  obtain ⟨hok, rfl⟩ := sd_if h
  have h20 := hcl.1
  refine sd_put0 X hw hcl j hj hlk href hfin hk hok hty hn hfit hdg (fun i H1 locs1 hi h1 h2 h3 => kk H1 locs1 ?_)
  rw [sd_set_ps h20 hk hok.1 hi hf (x := v) (by simp [sd_fv, si_ps])] at h1 h2
  exact ⟨h1, h2, h3⟩
/-- a field takes the object of its role -/
theorem sd_putR {kd : Nat} {C : String} {T : u_T} {N : Nat} (X : si_Cx p s m args c cc nL own E A) (hw : si_Ws E A H0 S H locs) (hcl : sd_Cl kd C T N) (j : Nat) (hj : j < N) {index : Nat} {ref : String} (hlk : (Cond.fieldLink own index ref (T j).2.1 (T j).2.2.1) ∈ si_GW ∨ ∃ host, (Cond.fieldLinkNest own index ref (T j).2.1 (T j).2.2.1 host) ∈ si_NW) (href : (T j).1 = ref) (hfin : (T j).2.2.2 = false ∨ ((T j).2.2.2 = true ∧ meth.name = "<init>" ∧ (T j).1 = own ∧ (Cond.fieldLink own index ref (T j).2.1 (T j).2.2.1) ∈ si_GW)) {k t : Nat} (hk : sd_kd k = kd) (hf : (sd_fl kd)[j]? = some (some t)) {ty : FieldType} (hty : parseFieldDescriptor (T j).2.2.1 = some ty) (hr : ∃ e, ty = .array e) (h : sd_pi S k j 1 = some S') (hdg : decode cc pc = .ok (.putfield index, 3)) (kk : ∀ (H1 : Heap) (locs1 : List Loc), si_Ws E A H0 S' H1 locs1 → W p l e R s m args below meth c H1 locs1 cells slots Q (F0 m (pc + 3) ls rest)) : W p l e R s m args below meth c H locs cells slots Q (F0 m pc ls (.ref (E.2.1 t) :: .ref (E.2.1 k) :: rest)) := by
  obtain ⟨hok, rfl⟩ := sd_if h
  have h20 := hcl.1
  obtain ⟨e1, rfl⟩ := hr
  refine sd_put0 X hw hcl j hj hlk href hfin hk hok hty rfl rfl hdg (fun i H1 locs1 hi h1 h2 h3 => kk H1 locs1 ?_)
  rw [sd_set_ps h20 hk hok.1 hi hf (x := 1) (by simp [sd_fv, si_ps])] at h1 h2
  exact ⟨h1, h2, h3⟩
/-- the builder takes the greater copy in the place of its bytes -/
theorem sd_putG {index : Nat} (X : si_Cx p s m args c cc nL own E A) (hw : si_Ws E A H0 S H locs) (hlk : Cond.fieldLink own index "java/lang/AbstractStringBuilder" "value" "[B" ∈ si_GW) (h : sd_gw S = some S') (hdg : decode cc pc = .ok (.putfield index, 3)) (kk : ∀ (E1 : si_Ev) (H1 : Heap) (locs1 : List Loc), sd_EE (sd_one 88) E E1 → si_Ws E1 A H0 S' H1 locs1 → W p l e R s m args below meth c H1 locs1 cells slots Q (F0 m (pc + 3) ls rest)) : W p l e R s m args below meth c H locs cells slots Q (F0 m pc ls (.ref (E.2.1 100) :: .ref (E.2.1 87) :: rest)) := by
  obtain ⟨⟨ok87, ok88, ok100, hfl, hs0, hs1⟩, rfl⟩ := sd_if h
  refine sd_put0 X hw sd_cl20 0 (by decide) (Or.inl hlk) rfl (Or.inl rfl) (k := 87) rfl ok87 (ty := .array .byte) rfl rfl rfl hdg (fun i H1 locs1 hi h1 h2 h3 => kk (sd_E1 E 88 (E.2.1 100)) H1 locs1 sd_E1_EE ?_)
  have hlv : ∀ a, a < 151 → a ≠ 100 → sd_lv (sd_rn S) a = sd_lv S a := fun a ha hne => by
    unfold sd_lv
    show ((if 4000 + a = 2088 then S.2.2.2 2100 else if 4000 + a = 4100 then 0 else S.2.2.2 (4000 + a)) == 1) = _
    rw [if_neg (by omega), if_neg (by omega)]
  have hn100 : sd_lv (sd_rn S) 100 = false := rfl
  suffices hh : va_P E.1 vwCl (si_ww (sd_E1 E 88 (E.2.1 100)) (sd_rn S)) H1 ∧ va_D A (si_ww (sd_E1 E 88 (E.2.1 100)) (sd_rn S)) from ⟨hh.1, hh.2, h3⟩
  refine sd_world (fun a => if a = 88 then 100 else a) (sd_L S) (fun a ha b hb hab => ?_) (fun a ha => ?_) h1 h2
  · have na : ∀ x ∈ sd_L (sd_rn S), x ≠ 100 := fun x hx h9 => by
      subst h9
      rcases sd_mem.mp hx with q | ⟨-, -, q⟩
      · omega
      · rw [hn100] at q; cases q
    have := na a ha
    have := na b hb
    by_cases h8 : a = 88
    · by_cases h9 : b = 88
      · omega
      · rw [if_pos h8, if_neg h9] at hab; omega
    · by_cases h9 : b = 88
      · rw [if_neg h8, if_pos h9] at hab; omega
      · rwa [if_neg h8, if_neg h9] at hab
  · have hlt : a < 151 := by rcases sd_mem.mp ha with q | q <;> omega
    have hne : a ≠ 100 := fun h9 => by
      subst h9
      rcases sd_mem.mp ha with q | ⟨-, -, q⟩
      · omega
      · rw [hn100] at q; cases q
    by_cases h8 : a = 88
    · subst h8
      obtain ⟨j, hj⟩ := List.getElem?_of_mem (sd_mem.mpr (Or.inr ok100))
      have hij : i ≠ j := fun h9 => by
        subst h9
        rw [hi] at hj
        exact absurd (Option.some.inj hj) (by decide)
      refine ⟨j, by rw [if_pos rfl]; exact hj, ?_⟩
      rw [List.getElem?_set_ne hij, sd_ww_at hj, sd_E1_at, si_en, if_neg (by decide), si_en, if_neg (by decide), sd_en_a (kd := 11) (by decide) rfl, sd_en_a (kd := 11) (by decide) rfl]
      have e1 : (sd_rn S).2.1 88 = S.2.1 100 := rfl
      have e2 : sd_ln (sd_rn S) 88 = sd_ln S 100 := rfl
      rw [e1, e2]
      rfl
    · by_cases h7 : a = 87
      · subst h7
        refine ⟨i, by rw [if_neg (by decide)]; exact hi, ?_⟩
        rw [List.getElem?_set_self (by rw [sd_ww_len]; exact (List.getElem?_eq_some_iff.mp hi).1), sd_E1_ne 87 (by decide), si_en, if_neg (by decide), sd_en_o (kd := 20) (by decide) rfl]
        rw [sd_fs_set (S' := sd_rn S) (E' := sd_E1 E 88 (E.2.1 100)) (t := some 88) rfl (by
          show (if S.1 87 0 = 0 then Value.null else .ref ((sd_E1 E 88 (E.2.1 100)).2.1 88)) = _
          rw [if_neg hfl, sd_E1_at]) (fun i t' hi ht => by
          cases t' with
          | none => rfl
          | some d =>
            exfalso
            have hl : i < 4 := (List.getElem?_eq_some_iff.mp ht).1
            have key : ∀ i, i < 4 → i ≠ 0 → ∀ d, (sd_fl 20)[i]? ≠ some (some d) := by
              intro i h1 h2 d
              match i, h1, h2 with
              | 1, _, _ => simp [sd_fl]
              | 2, _, _ => simp [sd_fl]
              | 3, _, _ => simp [sd_fl]
            exact key i hl hi d ht)]
      · have haS : a ∈ sd_L S := by
          rcases sd_mem.mp ha with q | ⟨q1, q2, q3⟩
          · exact sd_mem.mpr (Or.inl q)
          · exact sd_mem.mpr (Or.inr ⟨q1, q2, by rw [← hlv a hlt hne]; exact q3⟩)
        obtain ⟨j, hj⟩ := List.getElem?_of_mem haS
        have hij : i ≠ j := fun h9 => by
          subst h9
          rw [hi] at hj
          exact h7 (Option.some.inj hj).symm
        refine ⟨j, by rw [if_neg h8]; exact hj, ?_⟩
        rw [List.getElem?_set_ne hij, sd_ww_at hj, sd_E1_ne a h8]
        have hkeep : si_en (sd_E1 E 88 (E.2.1 100)) (sd_rn S) a = si_en E S a := by
          refine sd_en_keep (k := 88) (by decide) sd_E1_ne rfl ⟨hs0, hs1⟩ (fun ha1 hk j hj => ?_) (fun _ => rfl) ?_ rfl ⟨rfl, rfl⟩ ?_
          · exfalso
            rcases sd_kd_obj hk ha1 with rfl | rfl | rfl
            · exact h7 rfl
            · have hl : j < 4 := (List.getElem?_eq_some_iff.mp hj).1
              have key : ∀ j, j < 4 → (sd_fl (sd_kd 89))[j]? ≠ some (some 88) := by decide
              exact key j hl hj
            · have hl : j < 5 := (List.getElem?_eq_some_iff.mp hj).1
              have key : ∀ j, j < 5 → (sd_fl (sd_kd 92))[j]? ≠ some (some 88) := by decide
              exact key j hl hj
          · funext b
            show (if a = 88 then S.2.1 100 b else S.2.1 a b) = _
            rw [if_neg h8]
          · show (if 2000 + a = 2088 then S.2.2.2 2100 else if 2000 + a = 4100 then 0 else S.2.2.2 (2000 + a)) = _
            rw [if_neg (by omega), if_neg (by omega)]
            rfl
        rw [hkeep]
-- arrays
theorem sd_arr {kd k : Nat} (h : sd_ok S k) (hk : sd_kd k = kd) (hkd : kd < 20) : ∃ i : Nat, (sd_L S)[i]? = some k ∧ (si_ww E S)[i]? = some (E.2.1 k, .inl (E.2.2.1 kd, sd_ln S k, .inl (S.2.1 k))) := by
  obtain ⟨i, h1, h2⟩ := sd_at (E := E) h
  exact ⟨i, h1, by rw [h2, sd_en_a hkd hk]⟩
theorem sd_set_pa {i k kd : Nat} {f : Nat → Int32} (hkd : kd < 20) (hk : sd_kd k = kd) (h87 : 87 ≤ k) (hi : (sd_L S)[i]? = some k) (h1 : S'.1 = S.1) (h2 : S'.2.1 k = f) (h3 : ∀ a, a ≠ k → S'.2.1 a = S.2.1 a) (h4 : S'.2.2 = S.2.2) : (si_ww E S).set i (E.2.1 k, .inl (E.2.2.1 kd, sd_ln S k, .inl f)) = si_ww E S' := by
  have h5 : ∀ a, S'.2.2.2 a = S.2.2.2 a := fun a => by rw [h4]
  refine sd_ww_set hi (sd_L_congr fun a => h5 _) ?_ (fun a ha => ?_)
  · rw [si_en, if_neg (by omega), sd_en_a hkd hk, h2]
    unfold sd_ln
    rw [h5]
  · exact si_en_congr (fun j' => by rw [h1]) (h3 a ha) (by rw [h4]) (fun _ _ => h5 _) (h5 _)
theorem sd_iald (X : si_Cx p s m args c cc nL own E A) (hw : si_Ws E A H0 S H locs) {k : Nat} {i v : Int32} (hk : sd_kd k = 12) (h : sd_rd S k i = some v) (hdg : decode cc pc = .ok (.iaload, 1)) (kk : W p l e R s m args below meth c H locs cells slots Q (F0 m (pc + 1) ls (.int v :: rest))) : W p l e R s m args below meth c H locs cells slots Q (F0 m pc ls (.int i :: .ref (E.2.1 k) :: rest)) := by
  obtain ⟨⟨h1, h2⟩, rfl⟩ := sd_if h
  obtain ⟨q, -, hq⟩ := sd_arr (E := E) h1 hk (by decide)
  exact va_iald X.1 X.2.1 X.2.2.2.2.2.1 hw.1 q 1 hq rfl h2 hdg kk
theorem sd_bald (X : si_Cx p s m args c cc nL own E A) (hw : si_Ws E A H0 S H locs) {k : Nat} {i v : Int32} (hk : sd_kd k = 11) (h : sd_rd S k i = some v) (hdg : decode cc pc = .ok (.baload, 1)) (kk : W p l e R s m args below meth c H locs cells slots Q (F0 m (pc + 1) ls (.int v :: rest))) : W p l e R s m args below meth c H locs cells slots Q (F0 m pc ls (.int i :: .ref (E.2.1 k) :: rest)) := by
  obtain ⟨⟨h1, h2⟩, rfl⟩ := sd_if h
  obtain ⟨q, -, hq⟩ := sd_arr (E := E) h1 hk (by decide)
  exact va_bald X.1 X.2.1 X.2.2.2.2.2.1 hw.1 q 0 hq rfl h2 hdg kk
theorem sd_iast (X : si_Cx p s m args c cc nL own E A) (hw : si_Ws E A H0 S H locs) {k : Nat} {i v : Int32} (hk : sd_kd k = 12) (h : sd_wr S k i v = some S') (hdg : decode cc pc = .ok (.iastore, 1)) (kk : ∀ (H1 : Heap) (locs1 : List Loc), si_Ws E A H0 S' H1 locs1 → W p l e R s m args below meth c H1 locs1 cells slots Q (F0 m (pc + 1) ls rest)) : W p l e R s m args below meth c H locs cells slots Q (F0 m pc ls (.int v :: .int i :: .ref (E.2.1 k) :: rest)) := by
  obtain ⟨⟨h1, h2⟩, rfl⟩ := sd_if h
  obtain ⟨q, hq0, hq⟩ := sd_arr (E := E) h1 hk (by decide)
  refine va_iast X.1 X.2.1 X.2.2.2.2.2.1 hw.1 hw.2.1 hw.2.2 q 1 hq rfl h2 hdg (fun H1 locs1 q1 q2 q3 => kk H1 locs1 ?_)
  have hs := sd_set_pa (E := E) (S := S) (S' := si_pa S k i.toNatClampNeg v) (f := upd (S.2.1 k) i.toNatClampNeg v) (by decide) hk h1.1 hq0 rfl (by funext b; simp [upd, si_pa]) (fun a ha => by funext b; simp [si_pa, ha]) rfl
  rw [hs] at q1 q2
  exact ⟨q1, q2, q3⟩
theorem sd_bast (X : si_Cx p s m args c cc nL own E A) (hw : si_Ws E A H0 S H locs) {k : Nat} {i v : Int32} (hk : sd_kd k = 11) (h : sd_wr S k i (vp_nar .byte v) = some S') (hdg : decode cc pc = .ok (.bastore, 1)) (kk : ∀ (H1 : Heap) (locs1 : List Loc), si_Ws E A H0 S' H1 locs1 → W p l e R s m args below meth c H1 locs1 cells slots Q (F0 m (pc + 1) ls rest)) : W p l e R s m args below meth c H locs cells slots Q (F0 m pc ls (.int v :: .int i :: .ref (E.2.1 k) :: rest)) := by
  obtain ⟨⟨h1, h2⟩, rfl⟩ := sd_if h
  obtain ⟨q, hq0, hq⟩ := sd_arr (E := E) h1 hk (by decide)
  refine va_bast X.1 X.2.1 X.2.2.2.2.2.1 hw.1 hw.2.1 hw.2.2 q 0 hq rfl h2 hdg (fun H1 locs1 q1 q2 q3 => kk H1 locs1 ?_)
  have hs := sd_set_pa (E := E) (S := S) (S' := si_pa S k i.toNatClampNeg (vp_nar .byte v)) (f := upd (S.2.1 k) i.toNatClampNeg (vp_nar .byte v)) (by decide) hk h1.1 hq0 rfl (by funext b; simp [upd, si_pa]) (fun a ha => by funext b; simp [si_pa, ha]) rfl
  rw [hs] at q1 q2
  exact ⟨q1, q2, q3⟩
theorem sd_alen {k : Nat} {v : Int32} (X : si_Cx p s m args c cc nL own E A) (hw : si_Ws E A H0 S H locs) (hk : sd_kd k = 11 ∨ sd_kd k = 12) (h : sd_al S k = some v) (hdg : decode cc pc = .ok (.arraylength, 1)) (kk : W p l e R s m args below meth c H locs cells slots Q (F0 m (pc + 1) ls (.int v :: rest))) : W p l e R s m args below meth c H locs cells slots Q (F0 m pc ls (.ref (E.2.1 k) :: rest)) := by
  obtain ⟨h1, rfl⟩ := sd_if h
  rcases hk with hk | hk
  · obtain ⟨q, -, hq⟩ := sd_arr (E := E) h1 hk (by decide)
    exact va_alen X.1 X.2.1 X.2.2.2.2.2.1 hw.1 q 0 (x := (sd_ln S k, .inl (S.2.1 k))) hq rfl rfl hdg kk
  · obtain ⟨q, -, hq⟩ := sd_arr (E := E) h1 hk (by decide)
    exact va_alen X.1 X.2.1 X.2.2.2.2.2.1 hw.1 q 1 (x := (sd_ln S k, .inl (S.2.1 k))) hq rfl rfl hdg kk
end SDR
