-- WHAT THE CLASS SAYS OF A SET
def vs (n h l g : Nat) : Prop := (2 ≤ n ∧ n ≤ 7) ∧ (h < 2 ^ n ∧ l < 2 ^ n ∧ g ≤ 1) ∧ (h = l ∨ (h &&& l = 0 ∧ g = 0))
theorem cl0.mk {S : si_St} (h : cl0 S) : ∃ k, (k = 69 ∨ k = 78) ∧ S.2.2.2 0 = k ∧ si_mk S 0 2 = some k := by
  rcases h.1 with ⟨a, b⟩ | ⟨a, b⟩
  · exact ⟨69, Or.inl rfl, a, mk_0 a (Or.inl rfl)⟩
  · exact ⟨78, Or.inr rfl, a, mk_0 a (Or.inr rfl)⟩
theorem cls.has {F q x : Nat} {S : si_St} {n h l g w : Nat → Nat} (c : cls S q n h l g w) (hx : x < q) : f_X9_hasSet F (nI x) S = some (1, S) := by
  obtain ⟨k, hk, e1, e2⟩ := c.1.mk
  have h3 := c.2.2.1
  have hq := c.2.1
  rw [e1] at h3
  unfold f_X9_hasSet f_X9_hasSet_h20
  rw [if_neg (nI_pos (by omega)), e2, Option.bind_some, h3, if_neg (fun h => by have := (nI_leI (by omega) (by omega)).mp h; omega), sm_bz1, Option.bind_some]
theorem cls.heavy {F q x : Nat} {S : si_St} {n h l g w : Nat → Nat} (c : cls S q n h l g w) (hx : x < q) : f_X9_heavySuspects F (nI x) S = some (nI (h x), S) := by
  have hq := c.2.1
  unfold f_X9_heavySuspects f_X9_heavySuspects_h21
  rw [c.has hx, Option.bind_some]
  dsimp only
  rw [if_neg (by decide), rd_17 (by omega), Option.bind_some, (c.2.2.2.1 x hx).2.1]
theorem cls.light {F q x : Nat} {S : si_St} {n h l g w : Nat → Nat} (c : cls S q n h l g w) (hx : x < q) : f_X9_lightSuspects F (nI x) S = some (nI (l x), S) := by
  have hq := c.2.1
  unfold f_X9_lightSuspects f_X9_lightSuspects_h21
  rw [c.has hx, Option.bind_some]
  dsimp only
  rw [if_neg (by decide), rd_18 (by omega), Option.bind_some, (c.2.2.2.1 x hx).2.2.1]
theorem cls.gen {F q x : Nat} {S : si_St} {n h l g w : Nat → Nat} (c : cls S q n h l g w) (hx : x < q) : f_X9_canBeGenuine F (nI x) S = some (nI (g x), S) := by
  have hq := c.2.1
  unfold f_X9_canBeGenuine f_X9_canBeGenuine_h21
  rw [c.has hx, Option.bind_some]
  dsimp only
  rw [if_neg (by decide), rd_19 (by omega), Option.bind_some, (c.2.2.2.1 x hx).2.2.2.1]
theorem p2_12 {n x : Nat} (hn : n ≤ 7) (hx : x < 2 ^ n) : x < 4096 := Nat.lt_of_lt_of_le hx (Nat.le_trans (Nat.pow_le_pow_right (by decide) hn) (by decide))
theorem cls.hyp {F q x : Nat} {S : si_St} {n h l g w : Nat → Nat} (c : cls S q n h l g w) (hx : x < q) (v : vs (n x) (h x) (l x) (g x)) : f_X9_hypothesisCount F (nI x) S = some (nI (sb_pc (h x) + sb_pc (l x) + g x), S) := by
  have hq := c.2.1
  obtain ⟨a1, a2, a3, a4, a5⟩ := c.2.2.2.1 x hx
  unfold f_X9_hypothesisCount f_X9_hypothesisCount_h20
  rw [c.has hx, Option.bind_some]
  dsimp only
  rw [if_neg (by decide), fd_hx (by omega) a2 a3 a4 (p2_12 v.1.2 v.2.1.1) (p2_12 v.1.2 v.2.1.2.1), Option.bind_some]
-- the only hypothesis left
def li (P : Nat → Bool) : Nat → Int32
  | 0 => -2
  | j + 1 => if P j = true then nI j else li P j
theorem li_one {P : Nat → Bool} {j0 : Nat} (h0 : P j0 = true) : ∀ m, j0 < m → (∀ j, j < m → j ≠ j0 → P j = false) → li P m = nI j0
  | 0, h, _ => absurd h (Nat.not_lt_zero _)
  | m + 1, h, h2 => by
    show (if P m = true then nI m else li P m) = _
    by_cases e : m = j0
    · rw [e, if_pos h0]
    · rw [h2 m (by omega) e, if_neg (by decide)]
      exact li_one h0 m (by omega) (fun j hj => h2 j (by omega))
theorem tb_pw {w i : Nat} : (2 ^ w).testBit i = decide (w = i) := Nat.testBit_two_pow
theorem cls.find {F q x : Nat} {S : si_St} {n h l g w : Nat → Nat} (c : cls S q n h l g w) (hx : x < q) (v : vs (n x) (h x) (l x) (g x)) : ∃ z, f_X9_finding F (nI x) S = some (z, S) ∧ (sb_pc (h x) + sb_pc (l x) + g x = 1 → z = li (eb (h x) (l x) (g x)) (2 * n x + 1)) ∧ (sb_pc (h x) + sb_pc (l x) + g x ≠ 1 → z = -2) := by
  have hq := c.2.1
  obtain ⟨a1, a2, a3, a4, a5⟩ := c.2.2.2.1 x hx
  obtain ⟨⟨v1, v2⟩, ⟨v3, v4, v5⟩, v6⟩ := v
  have b3 := p2_12 v2 v3
  have b4 := p2_12 v2 v4
  unfold f_X9_finding f_X9_finding_h20 f_X8_onlyHypothesis
  rw [c.has hx, Option.bind_some]
  dsimp only
  rw [if_neg (by decide), fd_hx (by omega) a2 a3 a4 b3 b4, Option.bind_some]
  dsimp only
  generalize h x = H at *
  generalize l x = L at *
  generalize g x = G at *
  generalize n x = N at *
  have l1 := sb_le12 H
  have l2 := sb_le12 L
  by_cases hc : sb_pc H + sb_pc L + G = 1
  · rw [if_pos (by rw [hc]; rfl), rd_17 (by omega), Option.bind_some, a2]
    have mul2 : ∀ k : Nat, (2 : Int32) * nI k = nI (2 * k) := nI_2m
    by_cases h0 : H = 0
    · rw [if_pos (by rw [h0]; rfl), rd_18 (by omega), Option.bind_some, a3]
      by_cases l0 : L = 0
      · rw [if_pos (by rw [l0]; rfl), Option.bind_some]
        refine ⟨_, rfl, fun _ => ?_, fun h => absurd hc h⟩
        have hp : sb_pc 0 = 0 := by decide
        rw [h0, l0, hp] at hc
        have hG : G = 1 := by omega
        rw [h0, l0, hG]
        exact (li_one (j0 := 0) rfl _ (by omega) (fun j hj hne => by
          unfold eb
          rw [if_neg hne, Nat.zero_testBit]
          split <;> rfl)).symm
      · have hl1 : sb_pc L = 1 ∧ G = 0 := by
          have := (sb_pos L b4)
          have : sb_pc L ≠ 0 := fun h => l0 (this.mp h)
          omega
        obtain ⟨z, hz, hz2⟩ := fd_one b4 hl1.1
        have hzN : z < N := by
          rw [hz2] at v4
          exact (Nat.pow_lt_pow_iff_right (by decide)).mp v4
        rw [if_neg (nI_ne0 (Nat.pos_of_ne_zero l0) (by omega)), Option.bind_some, hz2, fd_ntz hz, Option.bind_some, Option.bind_some]
        dsimp only
        have e2 : (2 : Int32) + 2 * nI z = nI (2 + 2 * z) := by rw [mul2]; exact nI_add 2 (2 * z)
        rw [e2]
        refine ⟨_, rfl, fun _ => ?_, fun h => absurd (by rw [hz2] at hc; exact hc) h⟩
        refine (li_one (j0 := 2 + 2 * z) ?_ _ (by omega) (fun j hj hne => ?_)).symm
        · unfold eb
          rw [if_neg (by omega), if_neg (by omega), show (2 + 2 * z - 1) / 2 = z by omega, tb_pw, decide_eq_true rfl]
        · unfold eb
          rw [h0, hl1.2]
          by_cases hj0 : j = 0
          · rw [if_pos hj0]; rfl
          · rw [if_neg hj0, Nat.zero_testBit, tb_pw]
            by_cases hm : j % 2 = 1
            · rw [if_pos hm]
            · rw [if_neg hm]
              exact decide_eq_false (by omega)
    · have hh1 : sb_pc H = 1 ∧ sb_pc L = 0 ∧ G = 0 := by
        have := (sb_pos H b3)
        have : sb_pc H ≠ 0 := fun h => h0 (this.mp h)
        omega
      have l0 : L = 0 := (sb_pos L b4).mp hh1.2.1
      obtain ⟨z, hz, hz2⟩ := fd_one b3 hh1.1
      have hzN : z < N := by
        rw [hz2] at v3
        exact (Nat.pow_lt_pow_iff_right (by decide)).mp v3
      rw [if_neg (nI_ne0 (Nat.pos_of_ne_zero h0) (by omega)), Option.bind_some, hz2, fd_ntz hz, Option.bind_some, Option.bind_some]
      dsimp only
      have e2 : (1 : Int32) + 2 * nI z = nI (1 + 2 * z) := by rw [mul2]; exact nI_add 1 (2 * z)
      rw [e2]
      refine ⟨_, rfl, fun _ => ?_, fun h => absurd (by rw [hz2] at hc; exact hc) h⟩
      refine (li_one (j0 := 1 + 2 * z) ?_ _ (by omega) (fun j hj hne => ?_)).symm
      · unfold eb
        rw [if_neg (by omega), if_pos (by omega), show (1 + 2 * z - 1) / 2 = z by omega, tb_pw, decide_eq_true rfl]
      · unfold eb
        rw [l0, hh1.2.2]
        by_cases hj0 : j = 0
        · rw [if_pos hj0]; rfl
        · rw [if_neg hj0, Nat.zero_testBit, tb_pw]
          by_cases hm : j % 2 = 1
          · rw [if_pos hm]
            exact decide_eq_false (by omega)
          · rw [if_neg hm]
  · rw [if_neg (show ¬ nI (sb_pc H + sb_pc L + G) = (1 : Int32) from fun (h : nI _ = nI 1) => hc ((nI_eq (by omega) (by decide)).mp h)), Option.bind_some]
    exact ⟨_, rfl, fun h => absurd h hc, fun _ => rfl⟩
-- SAID
theorem bz_st {x v : Nat} : bz (fun i => x.testBit i) (v + 1) = bz (fun i => x.testBit i) v ||| (if x.testBit v = true then 2 ^ v else 0) := rfl
theorem said_go {F n h l g : Nat} {x1 : Int32} {S : si_St} (hn : n ≤ 7) (hg : g ≤ 1) : ∀ m f j, 2 * n + 1 = j + m → m < f → f_L_said_l13 F f x1 (nI n) (nI (enc n h l g)) (nI (bz (fun i => h.testBit i) (j / 2))) (nI (bz (fun i => l.testBit i) ((j - 1) / 2))) (li (eb h l g) j) (nI j) S = f_L_said_h13 F (f_L_said_l13 F (f - m - 1)) x1 (nI n) (nI (enc n h l g)) (nI (bz (fun i => h.testBit i) n)) (nI (bz (fun i => l.testBit i) n)) (li (eb h l g) (2 * n + 1)) (nI (2 * n + 1)) S := by
  intro m
  induction m with
  | zero =>
    intro f j hj hf
    obtain ⟨f, rfl⟩ : ∃ k, f = k + 1 := ⟨f - 1, by omega⟩
    have e : j = 2 * n + 1 := by omega
    subst e
    rw [show (2 * n + 1) / 2 = n by omega, show (2 * n + 1 - 1) / 2 = n by omega]
    rfl
  | succ m ih =>
    intro f j hj hf
    obtain ⟨f, rfl⟩ : ∃ k, f = k + 1 := ⟨f - 1, by omega⟩
    have i2 := ih f (j + 1) (by omega) (by omega)
    rw [show f + 1 - (m + 1) - 1 = f - m - 1 by omega, ← i2]
    show f_L_said_h13 F (f_L_said_l13 F f) x1 (nI n) (nI (enc n h l g)) _ _ _ (nI j) S = _
    have hX : enc n h l g < 2 ^ 15 := enc_lt15 hn
    have htb := enc_tb (h := h) (l := l) (g := g) (show j < 2 * n + 1 by omega)
    unfold f_L_said_h13
    have e1 : (1 : Int32) + 2 * nI n = nI (1 + 2 * n) := by rw [nI_2m]; exact nI_1a _
    rw [e1, if_neg (fun h => by have := (nI_leI (by omega) (by omega)).mp h; omega)]
    have em : nI j - nI j / 2 * 2 = nI (j % 2) := pk_rem (d := 2) (by omega) (by decide) (by decide)
    have ev : (nI j - 1) / (2 : Int32) = nI ((j - 1) / 2) ∨ j = 0 := by
      by_cases h0 : j = 0
      · exact Or.inr h0
      · left
        have e1 : nI j - 1 = nI (j - 1) := pk_sub (b := 1) (by omega)
        rw [e1]
        exact pk_div (d := 2) (by omega) (by decide) (by decide)
    have hli : li (eb h l g) (j + 1) = if eb h l g j = true then nI j else li (eb h l g) j := rfl
    by_cases hb : eb h l g j = true
    · rw [if_neg (fun h => (hb_0 (by omega) (by omega)).mp h (by rw [htb]; exact hb))]
      rw [hli, if_pos hb]
      by_cases h0 : j = 0
      · rw [if_pos (by rw [h0]; exact Int32.le_refl _)]
        unfold f_L_said_h61 f_L_said_h86 f_L_said_h90
        rw [if_pos (by rw [h0]; exact Int32.le_refl _), nI_1, Option.bind_some, h0]
      · have ev := ev.resolve_right h0
        rw [if_neg (nI_nle (by omega) (by omega)), em]
        by_cases hm : j % 2 = 1
        · rw [if_pos (by rw [hm]; rfl), ev, hb_or (by omega), Option.bind_some]
          unfold f_L_said_h61 f_L_said_h86 f_L_said_h90
          rw [if_neg (nI_nle (by omega) (by omega)), em, if_neg (by rw [hm]; decide), nI_1, Option.bind_some]
          have hbt : h.testBit ((j - 1) / 2) = true := by
            unfold eb at hb
            rw [if_neg h0, if_pos hm] at hb
            exact hb
          have e2 : (j + 1) / 2 = (j - 1) / 2 + 1 := by omega
          have e3 : j / 2 = (j - 1) / 2 := by omega
          have e4 : (j + 1 - 1) / 2 = (j - 1) / 2 := by omega
          rw [e2, e3, e4, bz_st, if_pos hbt]
        · rw [if_neg (show ¬ nI (j % 2) = (1 : Int32) from fun (h : nI (j % 2) = nI 1) => hm ((nI_eq (by omega) (by decide)).mp h))]
          have hm0 : j % 2 = 0 := by omega
          unfold f_L_said_h61 f_L_said_h86 f_L_said_h90
          rw [if_neg (nI_nle (by omega) (by omega)), em, if_pos (by rw [hm0]; rfl), ev, hb_or (by omega), Option.bind_some, nI_1, Option.bind_some]
          have hbt : l.testBit ((j - 1) / 2) = true := by
            unfold eb at hb
            rw [if_neg h0, if_neg hm] at hb
            exact hb
          have e2 : (j + 1) / 2 = j / 2 := by omega
          have e4 : (j + 1 - 1) / 2 = (j - 1) / 2 + 1 := by omega
          rw [e2, e4, bz_st, if_pos hbt]
    · rw [if_pos ((hb_0 (by omega) (by omega)).mpr (by rw [htb]; exact hb))]
      unfold f_L_said_h90
      rw [hli, if_neg hb, nI_1, Option.bind_some]
      by_cases h0 : j = 0
      · rw [h0]
      · by_cases hm : j % 2 = 1
        · have hbt : ¬ h.testBit ((j - 1) / 2) = true := by
            unfold eb at hb
            rw [if_neg h0, if_pos hm] at hb
            exact hb
          have e2 : (j + 1) / 2 = (j - 1) / 2 + 1 := by omega
          have e3 : j / 2 = (j - 1) / 2 := by omega
          have e4 : (j + 1 - 1) / 2 = (j - 1) / 2 := by omega
          rw [e2, e3, e4, bz_st, if_neg hbt, Nat.or_zero]
        · have hbt : ¬ l.testBit ((j - 1) / 2) = true := by
            unfold eb at hb
            rw [if_neg h0, if_neg hm] at hb
            exact hb
          have e2 : (j + 1) / 2 = j / 2 := by omega
          have e4 : (j + 1 - 1) / 2 = (j - 1) / 2 + 1 := by omega
          rw [e2, e4, bz_st, if_neg hbt, Nat.or_zero]
theorem said_ok {F q x : Nat} {S : si_St} {n h l g w : Nat → Nat} (hF : 100 ≤ F) (c : cls S q n h l g w) (hx : x < q) (v : vs (n x) (h x) (l x) (g x)) : f_L_said F (nI x) (nI (n x)) (nI (enc (n x) (h x) (l x) (g x))) S = some (1, S) := by
  have e := said_go (F := F) (n := n x) (h := h x) (l := l x) (g := g x) (x1 := nI x) (S := S) v.1.2 v.2.1.2.2 (2 * n x + 1) F 0 (by omega) (by have := v.1.2; omega)
  have e : f_L_said_l13 F F (nI x) (nI (n x)) (nI (enc (n x) (h x) (l x) (g x))) 0 0 (-2) 0 S = _ := e
  unfold f_L_said
  rw [e, bz_self v.2.1.1, bz_self v.2.1.2.1]
  unfold f_L_said_h13
  have e1 : (1 : Int32) + 2 * nI (n x) = nI (1 + 2 * n x) := by rw [nI_2m]; exact nI_1a _
  have hn := v.1.2
  obtain ⟨z, f1, f2, f3⟩ := c.find (F := F) hx v
  have hX := enc_lt15 (h := h x) (l := l x) (g := g x) hn
  rw [e1, if_pos (nI_le (by omega) (by omega)), hb_bc hX, Option.bind_some, c.heavy hx, Option.bind_some]
  dsimp only
  rw [if_pos rfl, c.light hx, Option.bind_some]
  dsimp only
  rw [if_pos rfl, c.gen hx, Option.bind_some]
  dsimp only
  have hg1 : nI (enc (n x) (h x) (l x) (g x)) &&& 1 = nI (g x) := by
    rw [pk_andN (by omega) 1 (by decide)]
    congr 1
    have ht := enc_tb (n := n x) (h := h x) (l := l x) (g := g x) (j := 0) (by omega)
    rw [Nat.testBit_zero] at ht
    have he : eb (h x) (l x) (g x) 0 = (g x == 1) := rfl
    rw [he] at ht
    have hv := v.2.1.2.2
    have h2 : enc (n x) (h x) (l x) (g x) % 2 < 2 := Nat.mod_lt _ (by decide)
    rcases (by omega : g x = 0 ∨ g x = 1) with h9 | h9
    · rw [h9] at ht ⊢
      have := of_decide_eq_false ht
      show _ % 2 = 0
      omega
    · rw [h9] at ht ⊢
      exact of_decide_eq_true ht
  have hpc := enc_pc (n := n x) (h := h x) (l := l x) (g := g x) hn v.2.1.1 v.2.1.2.1 v.2.1.2.2
  have l1 := sb_le12 (h x)
  have l2 := sb_le12 (l x)
  have hv := v.2.1.2.2
  rw [if_pos hg1.symm, c.hyp hx v, Option.bind_some]
  dsimp only
  rw [if_pos (by rw [hpc]), f1, Option.bind_some]
  unfold f_L_said_h161 f_L_said_h169
  dsimp only
  by_cases hc : sb_pc (h x) + sb_pc (l x) + g x = 1
  · rw [if_pos (by rw [hpc, hc]; rfl), if_pos (f2 hc), sm_bz1, Option.bind_some]
  · rw [if_neg (show ¬ nI _ = (1 : Int32) from fun (h : nI _ = nI 1) => hc (by rw [← hpc]; exact (nI_eq (by rw [hpc]; omega) (by decide)).mp h)), if_pos (f3 hc), sm_bz1, Option.bind_some]
