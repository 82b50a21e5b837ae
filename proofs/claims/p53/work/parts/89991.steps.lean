-- ONE WEIGHING OF THE LAW'S
def PS (S : si_St) (se : List (Nat × Nat)) (h l g w : Nat → Nat) : Prop := lm S se ∧ cls S se.length (fun x => (se.getD x (0, 0)).1) h l g w ∧ (sd_ok S 98 ∧ sd_ln S 98 = 1) ∧ ∀ x, x < se.length → vs (se.getD x (0, 0)).1 (h x) (l x) (g x)
def CW : List Nat := [98, 17, 18, 19, 20, 21, 22, 23, 24, 25, 26] ++ (CN ++ CL)
theorem dn.cw {C : List Nat} {a b : Nat} {S S' : si_St} (h : dn C a b S S') (hs : ∀ k ∈ C, k ∈ CW) : dn CW a b S S' := h.mo hs (Nat.le_refl _) (Nat.le_refl _)
theorem PS.draw {F m : Nat} {S : si_St} {se : List (Nat × Nat)} {h l g w : Nat → Nat} (p : PS S se h l g w) (h0 : 0 < m) (hm : m < 2 ^ 31) : ∃ v S', v < m ∧ f_L_draw F 98 (nI m) S = some (nI v, S') ∧ PS S' se h l g w ∧ dn CW 0 0 S S' := by
  obtain ⟨p1, p2, ⟨o, ln⟩, p4⟩ := p
  obtain ⟨v, x, hv, e⟩ := dw_draw (F := F) o ln h0 hm
  have d : dn [98] 0 0 S (si_pa S 98 0 x) := dn.pa (by decide)
  exact ⟨v, _, hv, e, ⟨p1.go d (by decide) (by decide), p2.go d (by decide) (by decide), ⟨o, ln⟩, p4⟩, d.cw (by decide)⟩
theorem PS.g {S : si_St} {se : List (Nat × Nat)} {h l g w : Nat → Nat} (p : PS S se h l g w) : sd_ok S 92 ∧ S.1 92 3 ≠ 0 := ⟨p.1.1.1, by rw [p.1.1.2]; exact one_ne⟩
theorem PS.n {S : si_St} {se : List (Nat × Nat)} {h l g w : Nat → Nat} {x : Nat} (p : PS S se h l g w) (hx : x < se.length) : sd_rd S 95 (2 * nI x) = some (nI (se.getD x (0, 0)).1) := by
  obtain ⟨⟨-, o, ln, r⟩, c, -⟩ := p
  have := c.2.1
  rw [nI_2m, dr_rd o (by omega) (by omega), (r x hx).1]
theorem PS.k {S : si_St} {se : List (Nat × Nat)} {h l g w : Nat → Nat} {x : Nat} (p : PS S se h l g w) (hx : x < se.length) : sd_rd S 95 (2 * nI x + 1) = some (nI (se.getD x (0, 0)).2) := by
  obtain ⟨⟨-, o, ln, r⟩, c, -⟩ := p
  have := c.2.1
  rw [nI_2m, nI_1, dr_rd o (by omega) (by omega), (r x hx).2]
theorem enc_00 {n : Nat} : enc n 0 0 0 = 0 := by
  apply Nat.eq_of_testBit_eq
  intro i
  unfold enc
  rw [bz_tb, Nat.zero_testBit]
  have : eb 0 0 0 i = false := by
    unfold eb
    by_cases h0 : i = 0
    · rw [if_pos h0]; rfl
    · rw [if_neg h0, Nat.zero_testBit, ite_self]
  rw [this, Bool.and_false]
theorem enc_z {n h l g : Nat} (hn : n ≤ 7) (hh : h < 2 ^ n) (hl : l < 2 ^ n) (hg : g ≤ 1) : enc n h l g = 0 ↔ sb_pc h + sb_pc l + g = 0 := by
  constructor
  · intro e
    rw [← enc_pc hn hh hl hg, e]
    decide
  · intro e
    have h0 := (sb_pos h (p2_12 hn hh)).mp (by omega)
    have l0 := (sb_pos l (p2_12 hn hl)).mp (by omega)
    rw [h0, l0, show g = 0 by omega]
    exact enc_00
theorem vs_we {n h l g a b r : Nat} (v : vs n h l g) (hab : a &&& b = 0) (hr : r < 3) : vs n (we_s h a b r) (we_s l b a r) (if r = 0 then g else 0) := by
  obtain ⟨v1, ⟨v3, v4, v5⟩, v6⟩ := v
  refine ⟨v1, ⟨we_lt v3, we_lt v4, by split <;> omega⟩, ?_⟩
  rcases we_zero (g := g) (r := r) hab hr (v6.imp (fun h => ⟨h, trivial⟩) (fun h => h)) with ⟨q1, q2, q3⟩ | ⟨q1, q2⟩
  · exact Or.inl q1
  · refine Or.inr ⟨q1, ?_⟩
    split
    · rename_i h9; exact q2 h9
    · rfl
-- what the law keeps of the hypotheses
theorem lw_be {F L x a b r X : Nat} {xs : Nat → Int32} {r13 : Int32 → Int32 → si_St → Option (Int32 × si_St)} {r55 : Int32 → Int32 → Int32 → si_St → Option (Int32 × si_St)} {r152 : Int32 → Int32 → Int32 → Int32 → Int32 → Int32 → si_St → Option (Int32 × si_St)} {x2 x3 x7 x9 : Int32} {S : si_St} {se : List (Nat × Nat)} {h l g w : Nat → Nat} (p : PS S se h l g w) (hx : x < se.length) (ha : a < 2 ^ 31) (hb : b < 2 ^ 31) (hX : X < 2 ^ 15) (hr3 : r < 3) : ∀ m f j, 2 * (se.getD x (0, 0)).1 + 1 = j + m → m < f → f_L_law_l256 F L xs r13 r55 r152 f x2 x3 (nI x) x7 (nI X) x9 (nI a) (nI b) (nI r) (nI (bz (fun i => X.testBit i && rs i a b == r) j)) (nI j) S = (if nI a = 0 then (f_L_law_h341 F L xs r13 r55 r152 x2 x3 (nI x) x7 (nI X) x9 (nI a) (nI b) (nI r) (nI (bz (fun i => X.testBit i && rs i a b == r) (2 * (se.getD x (0, 0)).1 + 1))) S) else (Option.bind (f_J6_bitCount_0f7a4 F (nI a) S) fun q16 => Option.bind (f_J6_bitCount_0f7a4 F (nI b) q16.2) fun q17 => if q16.1 = q17.1 then (f_L_law_h342 F L xs r13 r55 r152 x2 x3 (nI x) x7 (nI X) x9 (nI a) (nI b) (nI r) (nI (bz (fun i => X.testBit i && rs i a b == r) (2 * (se.getD x (0, 0)).1 + 1))) 1 q17.2) else (f_L_law_h341 F L xs r13 r55 r152 x2 x3 (nI x) x7 (nI X) x9 (nI a) (nI b) (nI r) (nI (bz (fun i => X.testBit i && rs i a b == r) (2 * (se.getD x (0, 0)).1 + 1))) q17.2))) := by
  have hn := (p.2.2.2 x hx).1.2
  have e1 : (1 : Int32) + 2 * nI (se.getD x (0, 0)).1 = nI (1 + 2 * (se.getD x (0, 0)).1) := by rw [nI_2m]; exact nI_1a _
  intro m
  induction m with
  | zero =>
    intro f j hj hf
    obtain ⟨f, rfl⟩ : ∃ k, f = k + 1 := ⟨f - 1, by omega⟩
    have e : j = 2 * (se.getD x (0, 0)).1 + 1 := by omega
    subst e
    show f_L_law_h256 F L xs r13 r55 r152 (f_L_law_l256 F L xs r13 r55 r152 f) x2 x3 (nI x) x7 (nI X) x9 (nI a) (nI b) (nI r) _ (nI (2 * (se.getD x (0, 0)).1 + 1)) S = _
    unfold f_L_law_h256
    rw [if_neg (not_not_intro p.g), p.n hx, Option.bind_some, e1, if_pos (nI_le (by omega) (by omega))]
  | succ m ih =>
    intro f j hj hf
    obtain ⟨f, rfl⟩ : ∃ k, f = k + 1 := ⟨f - 1, by omega⟩
    rw [← ih f (j + 1) (by omega) (by omega)]
    show f_L_law_h256 F L xs r13 r55 r152 (f_L_law_l256 F L xs r13 r55 r152 f) x2 x3 (nI x) x7 (nI X) x9 (nI a) (nI b) (nI r) _ (nI j) S = _
    unfold f_L_law_h256
    have hstep : bz (fun i => X.testBit i && rs i a b == r) (j + 1) = bz (fun i => X.testBit i && rs i a b == r) j ||| (if (X.testBit j && rs j a b == r) = true then 2 ^ j else 0) := rfl
    rw [if_neg (not_not_intro p.g), p.n hx, Option.bind_some, e1, if_neg (fun h => by have := (nI_leI (by omega) (by omega)).mp h; omega), hstep]
    have h3 := rs_3 j a b
    have keep : ∀ S0 : si_St, f_L_law_h309 F L xs r13 r55 r152 (f_L_law_l256 F L xs r13 r55 r152 f) x2 x3 (nI x) x7 (nI X) x9 (nI a) (nI b) (nI r) (nI j) (nI (bz (fun i => X.testBit i && rs i a b == r) j)) S0 = f_L_law_l256 F L xs r13 r55 r152 f x2 x3 (nI x) x7 (nI X) x9 (nI a) (nI b) (nI r) (nI (bz (fun i => X.testBit i && rs i a b == r) j)) (nI (j + 1)) S0 := fun S0 => by
      unfold f_L_law_h309 f_L_law_h310
      have e0 : ∀ y : Nat, nI y ||| (0 : Int32) = nI y := fun y => (fa_or y 0).trans (by rw [Nat.or_zero])
      rw [e0, Option.bind_some, nI_1, Option.bind_some]
    by_cases hb1 : X.testBit j = true
    · rw [if_pos ((hb_1 (by omega) (by omega)).mpr hb1), rs_ok (by omega) ha hb, Option.bind_some]
      dsimp only
      by_cases hr : rs j a b = r
      · rw [if_pos (by rw [hr]), if_pos (by rw [hb1, hr]; simp)]
        unfold f_L_law_h310
        rw [hb_or (by omega), Option.bind_some, nI_1, Option.bind_some]
      · rw [if_neg (fun h => hr ((nI_eq (by omega) (by omega)).mp h)), if_neg (by rw [hb1]; simp; exact hr), keep, Nat.or_zero]
    · rw [if_neg (fun h => hb1 ((hb_1 (by omega) (by omega)).mp h)), if_neg (by rw [Bool.not_eq_true] at hb1; rw [hb1]; simp), keep, Nat.or_zero]
theorem lw_380 {F L y : Nat} {xs : Nat → Int32} {r13 : Int32 → Int32 → si_St → Option (Int32 × si_St)} {r55 : Int32 → Int32 → Int32 → si_St → Option (Int32 × si_St)} {r152 : Int32 → Int32 → Int32 → Int32 → Int32 → Int32 → si_St → Option (Int32 × si_St)} {x2 x3 x6 x7 x8 x14 t : Int32} {X' : Nat} {S : si_St} (hX : X' < 2 ^ 15) (hy : y < 100) : f_L_law_h380 F L xs r13 r55 r152 x2 x3 x6 x7 x8 (nI y) (nI X') x14 t t S = r152 x2 x3 x6 x7 (if x14 = 0 then x8 else if X' = 0 then x8 else nI X') (nI (y + 1)) S := by
  unfold f_L_law_h380 f_L_law_h400 f_L_law_h402
  rw [if_pos rfl]
  by_cases h1 : x14 = 0
  · rw [if_pos h1, if_pos h1, nI_1, Option.bind_some]
  · rw [if_neg h1, if_neg h1]
    by_cases h2 : X' = 0
    · rw [if_pos (by rw [h2]; rfl), if_pos h2, nI_1, Option.bind_some]
    · rw [if_neg (nI_ne0 (Nat.pos_of_ne_zero h2) (by omega)), if_neg h2, nI_1, Option.bind_some]
theorem lw_step {F L x y : Nat} {xs : Nat → Int32} {r13 : Int32 → Int32 → si_St → Option (Int32 × si_St)} {r55 : Int32 → Int32 → Int32 → si_St → Option (Int32 × si_St)} {r152 : Int32 → Int32 → Int32 → Int32 → Int32 → Int32 → si_St → Option (Int32 × si_St)} {x2 x3 x7 : Int32} {S : si_St} {se : List (Nat × Nat)} {h l g w : Nat → Nat} (hF : 200 ≤ F) (p : PS S se h l g w) (hx : x < se.length) (hw : w x < 20) (hy : y < 5) : ∃ S' h' l' g' w', f_L_law_h199 F L xs r13 r55 r152 x2 x3 (nI x) x7 (nI (enc (se.getD x (0, 0)).1 (h x) (l x) (g x))) (nI y) S = r152 x2 x3 (nI x) x7 (nI (enc (se.getD x (0, 0)).1 (h' x) (l' x) (g' x))) (nI (y + 1)) S' ∧ PS S' se h' l' g' w' ∧ w' x ≤ w x + 1 ∧ (∀ z, z ≠ x → h' z = h z ∧ l' z = l z ∧ g' z = g z ∧ w' z = w z) ∧ dn CW 0 0 S S' := by
  have v := p.2.2.2 x hx
  obtain ⟨⟨v1, v2⟩, ⟨v3, v4, v5⟩, v6⟩ := id v
  have hX := enc_lt15 (h := h x) (l := l x) (g := g x) v2
  have p27 : 2 ^ (se.getD x (0, 0)).1 ≤ 2 ^ 7 := Nat.pow_le_pow_right (by decide) v2
  unfold f_L_law_h199
  rw [if_neg (not_not_intro p.g), p.n hx, Option.bind_some, hb_shl (by omega)]
  obtain ⟨a, S1, ha, e1, p1, d1⟩ := p.draw (F := F) (m := 2 ^ (se.getD x (0, 0)).1) (Nat.two_pow_pos _) (by omega)
  rw [e1, Option.bind_some]
  unfold f_L_law_h216
  dsimp only
  rw [if_neg (not_not_intro p1.g), p1.n hx, Option.bind_some, hb_shl (by omega)]
  obtain ⟨t, S2, ht, e2, p2, d2⟩ := p1.draw (F := F) (m := 2 ^ (se.getD x (0, 0)).1) (Nat.two_pow_pos _) (by omega)
  rw [e2, Option.bind_some]
  unfold f_L_law_h235
  dsimp only
  have hand : nI t &&& (nI a ^^^ (-1)) = nI (sb_df t a) := by
    have := we_df (h := t) (a := a) (b := 0) (by omega) (by omega) (by decide)
    rw [fa_or, Nat.or_zero] at this
    exact this
  rw [hand, Option.bind_some]
  obtain ⟨b, hb⟩ : ∃ b, b = sb_df t a := ⟨_, rfl⟩
  rw [← hb]
  have hbt : b < 2 ^ (se.getD x (0, 0)).1 := by
    rw [hb]
    exact Nat.lt_of_le_of_lt (Nat.and_le_left) ht
  have hab : a &&& b = 0 := by
    apply Nat.eq_of_testBit_eq
    intro i
    rw [hb, Nat.testBit_and, sb_df_tb, Nat.zero_testBit]
    cases a.testBit i <;> simp
  obtain ⟨r, S3, hr, e3, p3, d3⟩ := p2.draw (F := F) (m := 3) (by decide) (by decide)
  have e3 : f_L_draw F 98 3 S2 = some (nI r, S3) := e3
  rw [e3, Option.bind_some]
  unfold f_L_law_h248
  dsimp only
  have D3 : dn CW 0 0 S S3 := (d1.tr (d2.tr d3)).up (by omega) (by omega)
  have eb0 := lw_be (F := F) (L := L) (xs := xs) (r13 := r13) (r55 := r55) (r152 := r152) (x2 := x2) (x3 := x3) (x7 := x7) (x9 := nI y) (a := a) (b := b) (r := r) (X := enc (se.getD x (0, 0)).1 (h x) (l x) (g x)) p3 hx (by omega) (by omega) hX hr (2 * (se.getD x (0, 0)).1 + 1) F 0 (by omega) (by omega)
  have eb0 : f_L_law_l256 F L xs r13 r55 r152 F x2 x3 (nI x) x7 (nI (enc (se.getD x (0, 0)).1 (h x) (l x) (g x))) (nI y) (nI a) (nI b) (nI r) 0 0 S3 = _ := eb0
  rw [eb0, enc_be hr hab]
  have v' := vs_we (a := a) (b := b) (r := r) v hab hr
  have hX' := enc_lt15 (h := we_s (h x) a b r) (l := we_s (l x) b a r) (g := if r = 0 then g x else 0) v2
  have hz := enc_z v2 v'.2.1.1 v'.2.1.2.1 v'.2.1.2.2
  have hpc' := enc_pc v2 v'.2.1.1 v'.2.1.2.1 v'.2.1.2.2
  have h341 : ¬ (0 < a ∧ sb_pc a = sb_pc b) → ∃ S' h' l' g' w', f_L_law_h341 F L xs r13 r55 r152 x2 x3 (nI x) x7 (nI (enc (se.getD x (0, 0)).1 (h x) (l x) (g x))) (nI y) (nI a) (nI b) (nI r) (nI (enc (se.getD x (0, 0)).1 (we_s (h x) a b r) (we_s (l x) b a r) (if r = 0 then g x else 0))) S3 = r152 x2 x3 (nI x) x7 (nI (enc (se.getD x (0, 0)).1 (h' x) (l' x) (g' x))) (nI (y + 1)) S' ∧ PS S' se h' l' g' w' ∧ w' x ≤ w x + 1 ∧ (∀ z, z ≠ x → h' z = h z ∧ l' z = l z ∧ g' z = g z ∧ w' z = w z) ∧ dn CW 0 0 S S' := fun hv => by
    unfold f_L_law_h341 f_L_law_h342
    rw [weigh_no (F := F) (r := r) p3.2.1 hx (p3.2.2.2 x hx) ha hbt hv, Option.bind_some, if_pos rfl]
    dsimp only
    rw [lw_380 hX' (by omega), if_pos rfl]
    exact ⟨S3, h, l, g, w, rfl, p3, by omega, fun _ _ => ⟨rfl, rfl, rfl, rfl⟩, D3⟩
  have s1 := sb_le12 a
  have s2 := sb_le12 b
  by_cases ha0 : a = 0
  · rw [if_pos (by rw [ha0]; rfl)]
    exact h341 (fun h => by omega)
  · rw [if_neg (nI_ne0 (Nat.pos_of_ne_zero ha0) (by omega)), sb_bc (by omega), Option.bind_some]
    dsimp only
    rw [sb_bc (by omega), Option.bind_some]
    dsimp only
    by_cases hpc : sb_pc a = sb_pc b
    · rw [if_pos (by rw [hpc])]
      unfold f_L_law_h342
      obtain ⟨S4, e4, d4, z4, c4⟩ := weigh_yes (F := F) (r := r) p3.2.1 hx (p3.2.2.2 x hx) hw ha hbt hab hr ⟨Nat.pos_of_ne_zero ha0, hpc⟩
      rw [e4, Option.bind_some, if_neg (by decide)]
      dsimp only
      by_cases hc0 : sb_pc (we_s (h x) a b r) + sb_pc (we_s (l x) b a r) + (if r = 0 then g x else 0) = 0
      · have hX0 := hz.mpr hc0
        rw [if_pos hc0, hX0, if_pos (show nI 0 = 0 from rfl), lw_380 (by decide) (by omega), if_neg (by decide), if_pos rfl, z4 hc0]
        exact ⟨S3, h, l, g, w, rfl, p3, by omega, fun _ _ => ⟨rfl, rfl, rfl, rfl⟩, D3⟩
      · have hX0 : enc (se.getD x (0, 0)).1 (we_s (h x) a b r) (we_s (l x) b a r) (if r = 0 then g x else 0) ≠ 0 := fun h => hc0 (hz.mp h)
        rw [if_neg hc0, if_neg (nI_ne0 (Nat.pos_of_ne_zero hX0) (by omega)), hb_bc hX', Option.bind_some, hpc']
        dsimp only
        rw [lw_380 hX' (by omega), if_neg (by decide), if_neg hX0]
        have u : ∀ (f : Nat → Nat) (v : Nat), up1 f x v x = v := fun f v => if_pos rfl
        have u2 : ∀ (f : Nat → Nat) (v z : Nat), z ≠ x → up1 f x v z = f z := fun f v z hz => if_neg hz
        refine ⟨S4, up1 h x (we_s (h x) a b r), up1 l x (we_s (l x) b a r), up1 g x (if r = 0 then g x else 0), up1 w x (w x + 1), ?_, ⟨p3.1.go d4 (by decide) (by decide), c4 hc0, ⟨d4.ok (by decide) p3.2.2.1.1, (d4.2.2.1 98 (by decide) (by decide)).1.trans p3.2.2.1.2⟩, fun z hz2 => ?_⟩, ?_, fun z hz2 => ⟨u2 _ _ _ hz2, u2 _ _ _ hz2, u2 _ _ _ hz2, u2 _ _ _ hz2⟩, (D3.tr (d4.cw (by decide))).up (by omega) (by omega)⟩
        · rw [u, u, u]
        · by_cases h9 : z = x
          · rw [h9, u, u, u]
            exact v'
          · rw [u2 _ _ _ h9, u2 _ _ _ h9, u2 _ _ _ h9]
            exact p3.2.2.2 z hz2
        · rw [u]; exact Nat.le_refl _
    · rw [if_neg (fun h => hpc ((nI_eq (by omega) (by omega)).mp h))]
      exact h341 (fun h => hpc h.2)
