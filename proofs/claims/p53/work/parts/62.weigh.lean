-- weigh: which pans are a weighing
theorem we_bt (a i : Nat) (ha : a < 2 ^ 32) : bt (nI a) i = a.testBit i := by
  by_cases hi : i < 32
  · exact sm_btn hi
  · rw [b_big (by omega)]
    have h : a < 2 ^ i := Nat.lt_of_lt_of_le ha (Nat.pow_le_pow_right (by decide) (by omega))
    exact (Nat.testBit_lt_two_pow h).symm
theorem we_mask : ∀ n, n < 13 → ∀ i, i < 32 → bt (-((1 : Int32) <<< (nI n &&& 31))) i = decide (n ≤ i) := by decide +kernel
theorem we_in {x : Int32} {n : Nat} (hn : n < 13) (h : ∀ i, i < 32 → n ≤ i → bt x i = false) : ∃ a, a < 2 ^ n ∧ x = nI a := by
  obtain ⟨a, ha, rfl⟩ := wb_of32 x
  refine ⟨a, Nat.lt_pow_two_of_testBit a (fun i hi => ?_), rfl⟩
  by_cases h32 : i < 32
  · rw [← we_bt a i ha]
    exact h i h32 hi
  · have h : a < 2 ^ i := Nat.lt_of_lt_of_le ha (Nat.pow_le_pow_right (by decide) (by omega))
    exact Nat.testBit_lt_two_pow h
theorem we_known {x y : Int32} {n : Nat} (hn : n < 13) : (((x ||| y) &&& (-((1 : Int32) <<< (nI n &&& 31)))) = 0) ↔ ∃ a b, a < 2 ^ n ∧ b < 2 ^ n ∧ x = nI a ∧ y = nI b := by
  constructor
  · intro h
    have hb : ∀ i, i < 32 → n ≤ i → bt x i = false ∧ bt y i = false := by
      intro i hi hni
      have e := congrArg (fun z => bt z i) h
      rw [b_and, b_or, we_mask n hn i hi, decide_eq_true hni, Bool.and_true, b_0, Bool.or_eq_false_iff] at e
      exact e
    obtain ⟨a, ha, ea⟩ := we_in hn (fun i hi hni => (hb i hi hni).1)
    obtain ⟨b, hb2, eb⟩ := we_in hn (fun i hi hni => (hb i hi hni).2)
    exact ⟨a, b, ha, hb2, ea, eb⟩
  · rintro ⟨a, b, ha, hb, rfl, rfl⟩
    have h2 : 2 ^ n ≤ 2 ^ 12 := Nat.pow_le_pow_right (by decide) (by omega)
    refine b_ext (fun i hi => ?_)
    rw [b_and, b_or, we_mask n hn i hi, we_bt a i (by omega), we_bt b i (by omega), b_0]
    by_cases hni : n ≤ i
    · have h3 : 2 ^ n ≤ 2 ^ i := Nat.pow_le_pow_right (by decide) hni
      rw [Nat.testBit_lt_two_pow (show a < 2 ^ i by omega), Nat.testBit_lt_two_pow (show b < 2 ^ i by omega)]
      rfl
    · rw [decide_eq_false hni, Bool.and_false]
def we_P (n : Nat) (x y : Int32) : Prop := ∃ a b, a < 2 ^ n ∧ b < 2 ^ n ∧ x = nI a ∧ y = nI b ∧ a &&& b = 0 ∧ sb_pc a = sb_pc b ∧ 0 < a
theorem we_bcs {F : Nat} (x : Int32) (S : si_St) : ∃ r, f_J6_bitCount_0f7a4 F x S = some (r, S) := ⟨_, rfl⟩
theorem we_and0 {a b : Nat} (ha : a < 4096) (hb : b < 4096) : (nI a &&& nI b = 0) ↔ a &&& b = 0 := by
  have h := Nat.and_le_left (n := a) (m := b)
  rw [fa_and]
  exact li_eqR (n := 0) (by decide) (by omega)
theorem we_x {F n : Nat} {x y : Int32} {S : si_St} (hn : n ≤ 12) : (we_P n x y → f_X9_isWeighing F (nI n) x y S = some (1, S)) ∧ (¬ we_P n x y → f_X9_isWeighing F (nI n) x y S = some (0, S)) := by
  have h2 : 2 ^ n ≤ 2 ^ 12 := Nat.pow_le_pow_right (by decide) (by omega)
  have hk := we_known (x := x) (y := y) (n := n) (by omega)
  obtain ⟨r1, e1⟩ := we_bcs (F := F) x S
  obtain ⟨r2, e2⟩ := we_bcs (F := F) y S
  unfold f_X9_isWeighing f_X9_isWeighing_h16 f_X9_isWeighing_h28 f_X9_isWeighing_h46 f_X9_isWeighing_h70 f_X9_isWeighing_h71
  simp only [e1, e2, Option.bind_some]
  by_cases hK : ((x ||| y) &&& (-((1 : Int32) <<< (nI n &&& 31)))) = 0
  · rw [if_pos hK]
    obtain ⟨a, b, ha, hb, rfl, rfl⟩ := hk.mp hK
    rw [sb_bc (by omega)] at e1 e2
    have f1 := congrArg Prod.fst (Option.some.inj e1)
    have f2 := congrArg Prod.fst (Option.some.inj e2)
    dsimp only at f1 f2
    subst f1
    subst f2
    have p1 := sb_le12 a
    have p2 := sb_le12 b
    have z10 : ¬ ((1 : Int32) = 0) := by decide
    have h00 : (0 : Int32) = 0 := rfl
    have b0 : si_bz 0 = some 0 := rfl
    have b1 : si_bz 1 = some 1 := rfl
    simp only [if_neg z10, if_pos h00, b0, b1, Option.bind_some]
    by_cases c1 : a &&& b = 0
    · rw [if_pos ((we_and0 (by omega) (by omega)).mpr c1)]
      by_cases c2 : sb_pc a = sb_pc b
      · rw [if_pos (by rw [c2])]
        by_cases c3 : a = 0
        · refine ⟨fun ⟨a', b', q1, q2, q3, q4, q5, q6, q7⟩ => ?_, fun _ => by rw [if_pos (by rw [c3]; rfl)]⟩
          have := sm_inj (by omega) (by omega) q3
          omega
        · exact ⟨fun _ => by rw [if_neg (nI_ne0 (by omega) (by omega))], fun h => absurd ⟨a, b, ha, hb, rfl, rfl, c1, c2, by omega⟩ h⟩
      · have c2' : ¬ nI (sb_pc a) = nI (sb_pc b) := sm_ne c2 (by omega) (by omega)
        rw [if_neg c2']
        refine ⟨fun ⟨a', b', q1, q2, q3, q4, q5, q6, q7⟩ => ?_, fun _ => rfl⟩
        have i1 := sm_inj (by omega) (by omega) q3
        have i2 := sm_inj (by omega) (by omega) q4
        subst i1
        subst i2
        exact absurd q6 c2
    · rw [if_neg (fun h => c1 ((we_and0 (by omega) (by omega)).mp h))]
      refine ⟨fun ⟨a', b', q1, q2, q3, q4, q5, q6, q7⟩ => ?_, fun _ => ?_⟩
      · have i1 := sm_inj (by omega) (by omega) q3
        have i2 := sm_inj (by omega) (by omega) q4
        subst i1
        subst i2
        exact absurd q5 c1
      · simp only [if_true, ite_self]
  · rw [if_neg hK]
    have h00 : (0 : Int32) = 0 := rfl
    have b0 : si_bz 0 = some 0 := rfl
    simp only [if_true, b0, Option.bind_some, ite_self]
    exact ⟨fun ⟨a, b, q1, q2, q3, q4, _⟩ => absurd (hk.mpr ⟨a, b, q1, q2, q3, q4⟩) hK, fun _ => trivial⟩
/-- h without m -/
def sb_df (h m : Nat) : Nat := h &&& (h ^^^ m)
theorem sb_df_tb (h m i : Nat) : (sb_df h m).testBit i = (h.testBit i && !m.testBit i) := by
  unfold sb_df
  rw [Nat.testBit_and, Nat.testBit_xor]
  cases h.testBit i <;> cases m.testBit i <;> rfl
theorem we_df {h a b : Nat} (hh : h < 4096) (ha : a < 4096) (hb : b < 4096) : nI h &&& ((nI a ||| nI b) ^^^ (-1)) = nI (sb_df h (a ||| b)) := by
  have hl : sb_df h (a ||| b) ≤ h := Nat.and_le_left
  refine b_ext (fun i hi => ?_)
  rw [b_and, b_xor, b_or, b_m1 i hi, we_bt h i (by omega), we_bt a i (by omega), we_bt b i (by omega), we_bt _ i (by omega), sb_df_tb, Nat.testBit_or, Bool.xor_true]
/-- what is left of the suspects: r the result; near the pan that keeps them at 1, far at 2 -/
def we_s (h a b r : Nat) : Nat := if r = 0 then sb_df h (a ||| b) else if r = 1 then h &&& a else h &&& b
theorem we_s_le (h a b r : Nat) : we_s h a b r ≤ h := by
  unfold we_s
  split
  · exact Nat.and_le_left
  · split <;> exact Nat.and_le_left
theorem we_sx {F h a b r : Nat} {S : si_St} (hh : h < 4096) (ha : a < 4096) (hb : b < 4096) (hr : r < 3) : f_X8_suspectsAfter F (nI h) (nI a) (nI b) (nI r) S = some (nI (we_s h a b r), S) := by
  have h3 : r = 0 ∨ r = 1 ∨ r = 2 := by omega
  unfold f_X8_suspectsAfter we_s
  rcases h3 with rfl | rfl | rfl
  · rw [if_neg (by decide), if_neg (by decide), we_df hh ha hb, if_pos rfl]
  · rw [if_pos (show nI 1 = 1 from rfl), fa_and, if_neg (by decide), if_pos rfl]
  · rw [if_neg (by decide), if_pos (show nI 2 = 2 from rfl), fa_and, if_neg (by decide), if_neg (by decide)]
theorem we_zero {h l a b r g : Nat} (hab : a &&& b = 0) (hr : r < 3) (hi : (h = l ∧ True) ∨ (h &&& l = 0 ∧ g = 0)) : (we_s h a b r = we_s l b a r ∧ r = 0 ∧ h = l) ∨ (we_s h a b r &&& we_s l b a r = 0 ∧ (r = 0 → g = 0)) := by
  have h3 : r = 0 ∨ r = 1 ∨ r = 2 := by omega
  have key : ∀ p q : Nat, (∀ i, (p.testBit i && q.testBit i) = false) → p &&& q = 0 := by
    intro p q hpq
    refine Nat.eq_of_testBit_eq (fun i => ?_)
    rw [Nat.testBit_and, hpq i, Nat.zero_testBit]
  have tab : ∀ i, (a.testBit i && b.testBit i) = false := fun i => by rw [← Nat.testBit_and, hab, Nat.zero_testBit]
  unfold we_s
  rcases h3 with rfl | rfl | rfl
  · rw [if_pos rfl, if_pos rfl, Nat.or_comm b a]
    rcases hi with ⟨rfl, -⟩ | ⟨h0, hg⟩
    · exact Or.inl ⟨rfl, rfl, rfl⟩
    · refine Or.inr ⟨key _ _ (fun i => ?_), fun _ => hg⟩
      have t0 : (h.testBit i && l.testBit i) = false := by rw [← Nat.testBit_and, h0, Nat.zero_testBit]
      rw [sb_df_tb, sb_df_tb]
      revert t0
      cases h.testBit i <;> cases l.testBit i <;> cases (a ||| b).testBit i <;> decide
  · rw [if_neg (by decide), if_pos rfl, if_neg (by decide), if_pos rfl]
    refine Or.inr ⟨key _ _ (fun i => ?_), fun h => absurd h (by decide)⟩
    have t0 := tab i
    rw [Nat.testBit_and, Nat.testBit_and]
    revert t0
    cases h.testBit i <;> cases l.testBit i <;> cases a.testBit i <;> cases b.testBit i <;> decide
  · rw [if_neg (by decide), if_neg (by decide), if_neg (by decide), if_neg (by decide)]
    refine Or.inr ⟨key _ _ (fun i => ?_), fun h => absurd h (by decide)⟩
    have t0 := tab i
    rw [Nat.testBit_and, Nat.testBit_and]
    revert t0
    cases h.testBit i <;> cases l.testBit i <;> cases a.testBit i <;> cases b.testBit i <;> decide
def sn_X3 (S : si_St) (p k d : Nat) : si_St := sn_A (si_pa (si_pa (si_pa S 24 p (S.2.1 17 k)) 25 p (S.2.1 18 k)) 26 p (S.2.1 19 k)) p 3 k d
theorem we_add {F p k d : Nat} {S : si_St} (hd : d ≤ 12) (hp : p < 12) (hk : k < 4) (h0 : S.1 21 0 = nI d) (h1 : S.1 21 1 = nI p) : f_X0_addWeighing F (nI k) S = some (sn_X3 S p k d) := by
  have a1 : (si_pa S 24 p (S.2.1 17 k)).1 21 1 = nI p := h1
  have a2 : (si_pa (si_pa S 24 p (S.2.1 17 k)) 25 p (S.2.1 18 k)).1 21 1 = nI p := h1
  have ha : f_X0_add F (nI 3) (nI k) (si_pa (si_pa (si_pa S 24 p (S.2.1 17 k)) 25 p (S.2.1 18 k)) 26 p (S.2.1 19 k)) = some (sn_X3 S p k d) := sm_add hd hp h0 h1
  unfold f_X0_addWeighing
  rw [rd_17 hk, Option.bind_some, h1, wr_24 hp, Option.bind_some, rd_18 hk, Option.bind_some, pa_o (by decide), a1, wr_25 hp, Option.bind_some, rd_19 hk, Option.bind_some, pa_o (by decide), pa_o (by decide), a2, wr_26 hp, Option.bind_some]
  show Option.bind (f_X0_add F (nI 3) (nI k) _) _ = _
  rw [ha]
  rfl
def sn_XP (S : si_St) (k : Nat) (a b c w : Int32) : si_St := si_pa (si_pa (si_pa (si_pa S 17 k a) 18 k b) 19 k c) 20 k w
def sn_MP (S : si_St) (k : Nat) (a b c w : Int32) : si_St := si_pa (si_pa (si_pa (si_pa S 88 (661 + k) a) 88 (665 + k) b) 88 (669 + k) c) 88 (673 + k) w

