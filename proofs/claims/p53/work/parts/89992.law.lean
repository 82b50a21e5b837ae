-- THE LAW'S LOOPS
theorem lw_five {F L x : Nat} {xs : Nat → Int32} {r13 : Int32 → Int32 → si_St → Option (Int32 × si_St)} {r55 : Int32 → Int32 → Int32 → si_St → Option (Int32 × si_St)} {x2 x3 x7 : Int32} {se : List (Nat × Nat)} (hF : 200 ≤ F) (hx : x < se.length) (hx7 : x7 = if (se.getD x (0, 0)).1 ≤ 5 then nI (se.getD x (0, 0)).1 else 0) : ∀ m f y (S : si_St) (h l g w : Nat → Nat), 5 = y + m → m < f → PS S se h l g w → w x ≤ y → ∃ S' h' l' g' w', f_L_law_l152 F L xs r13 r55 f x2 x3 (nI x) x7 (nI (enc (se.getD x (0, 0)).1 (h x) (l x) (g x))) (nI y) S = r55 x2 x3 (nI (x + 1)) S' ∧ PS S' se h' l' g' w' ∧ (∀ z, z ≠ x → h' z = h z ∧ l' z = l z ∧ g' z = g z ∧ w' z = w z) ∧ dn CW (400 * m) (2000 * m) S S' := by
  intro m
  induction m with
  | zero =>
    intro f y S h l g w hy hf p hw
    obtain ⟨f, rfl⟩ : ∃ k, f = k + 1 := ⟨f - 1, by omega⟩
    refine ⟨S, h, l, g, w, ?_, p, fun _ _ => ⟨rfl, rfl, rfl, rfl⟩, dn.rf⟩
    show f_L_law_h152 F L xs r13 r55 (f_L_law_l152 F L xs r13 r55 f) x2 x3 (nI x) x7 _ (nI y) S = _
    unfold f_L_law_h152
    rw [if_pos (show (5 : Int32) ≤ nI y from nI_le (a := 5) (by omega) (by omega)), nI_1, Option.bind_some]
  | succ m ih =>
    intro f y S h l g w hy hf p hw
    obtain ⟨f, rfl⟩ : ∃ k, f = k + 1 := ⟨f - 1, by omega⟩
    have v := p.2.2.2 x hx
    show ∃ S' h' l' g' w', f_L_law_h152 F L xs r13 r55 (f_L_law_l152 F L xs r13 r55 f) x2 x3 (nI x) x7 (nI (enc (se.getD x (0, 0)).1 (h x) (l x) (g x))) (nI y) S = _ ∧ _
    unfold f_L_law_h152
    have hsaid := said_ok (F := F) (by omega) p.2.1 hx v
    rw [if_neg (show ¬ (5 : Int32) ≤ nI y from fun (h : nI 5 ≤ nI y) => by have := (nI_leI (by decide) (by omega)).mp h; omega), if_neg (not_not_intro p.g), p.n hx, Option.bind_some, hsaid, Option.bind_some]
    dsimp only
    rw [if_neg (by decide)]
    have go : ∀ (S1 : si_St) (a b : Nat), PS S1 se h l g w → dn CW a b S S1 → a ≤ 400 → b ≤ 2000 → ∃ S' h' l' g' w', f_L_law_h199 F L xs r13 r55 (f_L_law_l152 F L xs r13 r55 f) x2 x3 (nI x) x7 (nI (enc (se.getD x (0, 0)).1 (h x) (l x) (g x))) (nI y) S1 = r55 x2 x3 (nI (x + 1)) S' ∧ PS S' se h' l' g' w' ∧ (∀ z, z ≠ x → h' z = h z ∧ l' z = l z ∧ g' z = g z ∧ w' z = w z) ∧ dn CW (400 * (m + 1)) (2000 * (m + 1)) S S' := fun S1 a b p1 d1 hla hlb => by
      obtain ⟨S2, h2, l2, g2, w2, e2, p2, w2', z2, d2⟩ := lw_step (F := F) (L := L) (xs := xs) (r13 := r13) (r55 := r55) (r152 := f_L_law_l152 F L xs r13 r55 f) (x2 := x2) (x3 := x3) (x7 := x7) (y := y) hF p1 hx (by omega) (by omega)
      obtain ⟨S3, h3, l3, g3, w3, e3, p3, z3, d3⟩ := ih f (y + 1) S2 h2 l2 g2 w2 (by omega) (by omega) p2 (by omega)
      refine ⟨S3, h3, l3, g3, w3, e2.trans e3, p3, fun z hz => ?_, (d1.tr (d2.tr d3)).up (by omega) (by omega)⟩
      obtain ⟨a1, a2, a3, a4⟩ := z2 z hz
      obtain ⟨b1, b2, b3, b4⟩ := z3 z hz
      exact ⟨b1.trans a1, b2.trans a2, b3.trans a3, b4.trans a4⟩
    by_cases h5 : (se.getD x (0, 0)).1 ≤ 5
    · have h7 : x7 = nI (se.getD x (0, 0)).1 := by rw [hx7, if_pos h5]
      have v1 := v.1.1
      obtain ⟨S1, e1, c1, d1⟩ := needed_ok (F := F) hF p.2.1 hx v h5
      have e1 : f_L_needed F (nI x) x7 (nI (enc (se.getD x (0, 0)).1 (h x) (l x) (g x))) S = some (1, S1) := by rw [h7]; exact e1
      rw [if_neg (by rw [h7]; exact nI_nle (by omega) (by omega)), e1, Option.bind_some]
      unfold f_L_law_h194
      dsimp only
      rw [if_neg (by decide)]
      exact go S1 400 2000 ⟨p.1.go d1 (by decide) (by decide), c1, ⟨d1.ok (by decide) p.2.2.1.1, (d1.2.2.1 98 (by decide) (by decide)).1.trans p.2.2.1.2⟩, p.2.2.2⟩ (d1.cw (by decide)) (Nat.le_refl _) (Nat.le_refl _)
    · have h7 : x7 = 0 := by rw [hx7, if_neg h5]
      rw [if_pos (by rw [h7]; exact Int32.le_refl _)]
      exact go S 0 0 p dn.rf (by omega) (by omega)
-- all hypotheses of a set, at first
theorem lw_ini {F L x s : Nat} {xs : Nat → Int32} {r13 : Int32 → Int32 → si_St → Option (Int32 × si_St)} {r55 : Int32 → Int32 → Int32 → si_St → Option (Int32 × si_St)} {x2 x3 x7 : Int32} {se : List (Nat × Nat)} {S : si_St} {h l g w : Nat → Nat} (p : PS S se h l g w) (hx : x < se.length) : ∀ m f j, 2 * (se.getD x (0, 0)).1 + 1 = j + m → m < f → s ≤ j → f_L_law_l115 F L xs r13 r55 f x2 x3 (nI x) x7 (nI (bz (fun i => decide (s ≤ i)) j)) (nI j) S = f_L_law_l152 F L xs r13 r55 F x2 x3 (nI x) x7 (nI (bz (fun i => decide (s ≤ i)) (2 * (se.getD x (0, 0)).1 + 1))) 0 S := by
  have hn := (p.2.2.2 x hx).1.2
  have e1 : (1 : Int32) + 2 * nI (se.getD x (0, 0)).1 = nI (1 + 2 * (se.getD x (0, 0)).1) := by rw [nI_2m]; exact nI_1a _
  intro m
  induction m with
  | zero =>
    intro f j hj hf hs
    obtain ⟨f, rfl⟩ : ∃ k, f = k + 1 := ⟨f - 1, by omega⟩
    have e : j = 2 * (se.getD x (0, 0)).1 + 1 := by omega
    subst e
    show f_L_law_h115 F L xs r13 r55 (f_L_law_l115 F L xs r13 r55 f) x2 x3 (nI x) x7 _ (nI (2 * (se.getD x (0, 0)).1 + 1)) S = _
    unfold f_L_law_h115
    rw [if_neg (not_not_intro p.g), p.n hx, Option.bind_some, e1, if_pos (nI_le (by omega) (by omega))]
  | succ m ih =>
    intro f j hj hf hs
    obtain ⟨f, rfl⟩ : ∃ k, f = k + 1 := ⟨f - 1, by omega⟩
    rw [← ih f (j + 1) (by omega) (by omega) (by omega)]
    show f_L_law_h115 F L xs r13 r55 (f_L_law_l115 F L xs r13 r55 f) x2 x3 (nI x) x7 _ (nI j) S = _
    unfold f_L_law_h115
    rw [if_neg (not_not_intro p.g), p.n hx, Option.bind_some, e1, if_neg (fun h => by have := (nI_leI (by omega) (by omega)).mp h; omega), hb_or (by omega), Option.bind_some, nI_1, Option.bind_some]
    have : bz (fun i => decide (s ≤ i)) (j + 1) = bz (fun i => decide (s ≤ i)) j ||| (if decide (s ≤ j) = true then 2 ^ j else 0) := rfl
    rw [this, if_pos (decide_eq_true hs)]
theorem enc_full {n k : Nat} (hk : k ≤ 1) : bz (fun i => decide ((if k = 1 then 0 else 1) ≤ i)) (2 * n + 1) = enc n (2 ^ n - 1) (2 ^ n - 1) k := by
  unfold enc
  refine bz_ext (fun j hj => ?_)
  unfold eb
  by_cases h0 : j = 0
  · rw [if_pos h0, h0]
    rcases (by omega : k = 0 ∨ k = 1) with h9 | h9 <;> rw [h9] <;> rfl
  · have ht : (2 ^ n - 1).testBit ((j - 1) / 2) = true := by
      rw [Nat.testBit_two_pow_sub_one]
      exact decide_eq_true (by omega)
    rw [if_neg h0, ht, ite_self]
    exact decide_eq_true (by split <;> omega)
def fresh (se : List (Nat × Nat)) (x : Nat) (h l g w : Nat → Nat) : Prop := ∀ z, x ≤ z → z < se.length → h z = 2 ^ (se.getD z (0, 0)).1 - 1 ∧ l z = 2 ^ (se.getD z (0, 0)).1 - 1 ∧ g z = (se.getD z (0, 0)).2 ∧ w z = 0
theorem lw_sets {F L : Nat} {xs : Nat → Int32} {r13 : Int32 → Int32 → si_St → Option (Int32 × si_St)} {x2 : Int32} {y : Nat} {se : List (Nat × Nat)} (hF : 200 ≤ F) : ∀ m f x (S : si_St) (h l g w : Nat → Nat), se.length = x + m → m < f → PS S se h l g w → fresh se x h l g w → ∃ S', f_L_law_l55 F L xs r13 f x2 (nI y) (nI x) S = r13 x2 (nI (y + 1)) S' ∧ cl0 S' ∧ dn CW (2000 * m) (10000 * m) S S' := by
  intro m
  induction m with
  | zero =>
    intro f x S h l g w hx hf p fr
    obtain ⟨f, rfl⟩ : ∃ k, f = k + 1 := ⟨f - 1, by omega⟩
    have hq := p.2.1.2.1
    refine ⟨S, ?_, p.2.1.1, dn.rf⟩
    show f_L_law_h55 F L xs r13 (f_L_law_l55 F L xs r13 f) x2 (nI y) (nI x) S = _
    unfold f_L_law_h55
    have ed : nI (2 * se.length) / (2 : Int32) = nI (2 * se.length / 2) := pk_div (d := 2) (by omega) (by decide) (by decide)
    rw [if_neg (not_not_intro p.g), dr_al p.1.2.1, p.1.2.2.1, Option.bind_some, ed, if_pos (nI_le (by omega) (by omega)), nI_1, Option.bind_some]
  | succ m ih =>
    intro f x S h l g w hx hf p fr
    obtain ⟨f, rfl⟩ : ∃ k, f = k + 1 := ⟨f - 1, by omega⟩
    have hq := p.2.1.2.1
    have hxl : x < se.length := by omega
    show ∃ S', f_L_law_h55 F L xs r13 (f_L_law_l55 F L xs r13 f) x2 (nI y) (nI x) S = _ ∧ _
    unfold f_L_law_h55
    have ed : nI (2 * se.length) / (2 : Int32) = nI (2 * se.length / 2) := pk_div (d := 2) (by omega) (by decide) (by decide)
    have v := p.2.2.2 x hxl
    obtain ⟨f1, f2, f3, f4⟩ := fr x (Nat.le_refl x) hxl
    have hk1 : (se.getD x (0, 0)).2 ≤ 1 := by rw [← f3]; exact v.2.1.2.2
    have hn := v.1.2
    rw [if_neg (not_not_intro p.g), dr_al p.1.2.1, p.1.2.2.1, Option.bind_some, ed, if_neg (fun h => by have := (nI_leI (by omega) (by omega)).mp h; omega), if_neg (not_not_intro p.g), p.n hxl, Option.bind_some]
    have main : ∀ x7 : Int32, (x7 = if (se.getD x (0, 0)).1 ≤ 5 then nI (se.getD x (0, 0)).1 else 0) → ∃ S', f_L_law_h89 F L xs r13 (f_L_law_l55 F L xs r13 f) x2 (nI y) (nI x) x7 S = r13 x2 (nI (y + 1)) S' ∧ cl0 S' ∧ dn CW (2000 * (m + 1)) (10000 * (m + 1)) S S' := fun x7 h7 => by
      unfold f_L_law_h89
      rw [if_neg (not_not_intro p.g), p.k hxl, Option.bind_some]
      have hd : (if nI (se.getD x (0, 0)).2 = 1 then f_L_law_h113 F L xs r13 (f_L_law_l55 F L xs r13 f) x2 (nI y) (nI x) x7 0 0 S else f_L_law_h113 F L xs r13 (f_L_law_l55 F L xs r13 f) x2 (nI y) (nI x) x7 0 1 S) = f_L_law_h113 F L xs r13 (f_L_law_l55 F L xs r13 f) x2 (nI y) (nI x) x7 0 (nI (if (se.getD x (0, 0)).2 = 1 then 0 else 1)) S := by
        by_cases h9 : (se.getD x (0, 0)).2 = 1
        · rw [if_pos (by rw [h9]; rfl), if_pos h9]; rfl
        · rw [if_neg (show ¬ nI (se.getD x (0, 0)).2 = (1 : Int32) from fun (h : nI _ = nI 1) => h9 ((nI_eq (by omega) (by decide)).mp h)), if_neg h9]; rfl
      rw [hd]
      unfold f_L_law_h113
      obtain ⟨s, hs⟩ : ∃ s, s = (if (se.getD x (0, 0)).2 = 1 then 0 else 1) := ⟨_, rfl⟩
      have hs1 : s ≤ 1 := by rw [hs]; split <;> decide
      have hbz : bz (fun i => decide (s ≤ i)) s = 0 := by
        apply Nat.eq_of_testBit_eq
        intro i
        rw [bz_tb, Nat.zero_testBit]
        by_cases h9 : i < s
        · rw [decide_eq_false (show ¬ s ≤ i by omega), Bool.and_false]
        · rw [decide_eq_false h9, Bool.false_and]
      have hi := lw_ini (F := F) (L := L) (xs := xs) (r13 := r13) (r55 := f_L_law_l55 F L xs r13 f) (x2 := x2) (x3 := nI y) (x7 := x7) (s := s) p hxl (2 * (se.getD x (0, 0)).1 + 1 - s) F s (by have := v.1.1; omega) (by omega) (Nat.le_refl s)
      rw [hbz] at hi
      have hi : f_L_law_l115 F L xs r13 (f_L_law_l55 F L xs r13 f) F x2 (nI y) (nI x) x7 0 (nI s) S = _ := hi
      rw [← hs, hi, hs, enc_full hk1]
      obtain ⟨S1, h1, l1, g1, w1, e1, p1, z1, d1⟩ := lw_five (F := F) (L := L) (xs := xs) (r13 := r13) (r55 := f_L_law_l55 F L xs r13 f) (x2 := x2) (x3 := nI y) (x7 := x7) hF hxl h7 5 F 0 S h l g w rfl (by omega) p (by omega)
      rw [f1, f2, f3] at e1
      have e1 : f_L_law_l152 F L xs r13 (f_L_law_l55 F L xs r13 f) F x2 (nI y) (nI x) x7 (nI (enc (se.getD x (0, 0)).1 (2 ^ (se.getD x (0, 0)).1 - 1) (2 ^ (se.getD x (0, 0)).1 - 1) (se.getD x (0, 0)).2)) 0 S = _ := e1
      rw [e1]
      obtain ⟨S2, e2, c2, d2⟩ := ih f (x + 1) S1 h1 l1 g1 w1 (by omega) (by omega) p1 (fun z hz hzl => by
        obtain ⟨a1, a2, a3, a4⟩ := z1 z (by omega)
        rw [a1, a2, a3, a4]
        exact fr z (by omega) hzl)
      exact ⟨S2, e2, c2, (d1.tr d2).up (by omega) (by omega)⟩
    by_cases h5 : (se.getD x (0, 0)).1 ≤ 5
    · rw [if_pos (show nI (se.getD x (0, 0)).1 ≤ (5 : Int32) from nI_le (b := 5) h5 (by decide))]
      exact main _ (if_pos h5).symm
    · rw [if_neg (show ¬ nI (se.getD x (0, 0)).1 ≤ (5 : Int32) from fun (h : nI _ ≤ nI 5) => h5 ((nI_leI (by omega) (by decide)).mp h))]
      exact main _ (if_neg h5).symm
theorem lw_loads {F L : Nat} {xs : Nat → Int32} (hF : 1100 ≤ F) (hL : L < 2 ^ 31) : ∀ m f j (S : si_St), 5 = j + m → m < f → cl0 S → ∃ S', f_L_law_l13 F L xs f (nI L) (nI j) S = some (1, S') ∧ dn CW (5000 * m) (300000 * m) S S' := by
  have fin : ∀ (S : si_St), cl0 S → ∃ S', f_L_law_h422 F L xs S = some (1, S') ∧ dn CW 0 0 S S' := fun S c => by
    obtain ⟨T, e, d⟩ := few_all (F := F) (L := L) (xs := xs) (S := S) (by omega) c.2.2
    exact ⟨T, e, d.cw (by decide)⟩
  intro m
  induction m with
  | zero =>
    intro f j S hj hf c
    obtain ⟨f, rfl⟩ : ∃ k, f = k + 1 := ⟨f - 1, by omega⟩
    show ∃ S', f_L_law_h13 F L xs (f_L_law_l13 F L xs f) (nI L) (nI j) S = _ ∧ _
    unfold f_L_law_h13
    by_cases hl : L ≤ j
    · rw [if_pos (nI_le hl (by omega))]
      exact fin S c
    · rw [if_neg (fun h => hl ((nI_leI (by omega) (by omega)).mp h)), if_pos (show (5 : Int32) ≤ nI j from nI_le (a := 5) (by omega) (by omega))]
      exact fin S c
  | succ m ih =>
    intro f j S hj hf c
    obtain ⟨f, rfl⟩ : ∃ k, f = k + 1 := ⟨f - 1, by omega⟩
    show ∃ S', f_L_law_h13 F L xs (f_L_law_l13 F L xs f) (nI L) (nI j) S = _ ∧ _
    unfold f_L_law_h13
    by_cases hl : L ≤ j
    · rw [if_pos (nI_le hl (by omega))]
      obtain ⟨S', e, d⟩ := fin S c
      exact ⟨S', e, d.up (by omega) (by omega)⟩
    · have hxs : si_xs L xs (nI j) = some (xs j) := by
        unfold si_xs
        rw [nI_clamp (by omega), if_neg (fun h => h.elim (nI_pos (by omega)) (by omega))]
      rw [if_neg (fun h => hl ((nI_leI (by omega) (by omega)).mp h)), if_neg (show ¬ (5 : Int32) ≤ nI j from fun (h : nI 5 ≤ nI j) => by have := (nI_leI (by decide) (by omega)).mp h; omega), hxs, Option.bind_some]
      obtain ⟨S1, se, e1, ⟨⟨q1, q2⟩, hse⟩, lm1, c1, d1⟩ := loads_ok (F := F) (S := S) hF (xs j) c
      rw [e1, Option.bind_some]
      unfold f_L_law_h30 f_L_law_h42
      have hfr : sd_frb S1 98 = true := dr_frb (by decide) (by decide) c1.refs ⟨by omega, by omega, by omega, by omega, by omega, by omega⟩
      have ena : sd_na S1 98 1 = some (sd_mkA S1 98 1) := dr_na (n := 1) hfr (by decide)
      have o98 : sd_ok (sd_mkA S1 98 1) 98 := dr_lv_mkA (by decide) (by decide)
      have l98 : sd_ln (sd_mkA S1 98 1) 98 = 1 := sd_mkA_ln
      have dA : dn [98] 1 1 S1 (sd_mkA S1 98 1) := dn.mkA (by decide) (by decide) (by decide)
      have ewr : sd_wr (sd_mkA S1 98 1) 98 0 (xs j + 1) = some (si_pa (sd_mkA S1 98 1) 98 0 (xs j + 1)) := dr_wr (i := 0) o98 (by omega) (by omega)
      have dP : dn [98] 0 0 (sd_mkA S1 98 1) (si_pa (sd_mkA S1 98 1) 98 0 (xs j + 1)) := dn.pa (by decide)
      have dd : dn [98] 1 1 S1 (si_pa (sd_mkA S1 98 1) 98 0 (xs j + 1)) := (dA.tr dP).up (by omega) (by omega)
      rw [ena, Option.bind_some, hxs, Option.bind_some, ewr, Option.bind_some]
      have gs : ∀ z, z < se.length → se.getD z (0, 0) ∈ se := fun z hz => by
        rw [List.getD_eq_getElem?_getD, List.getElem?_eq_getElem hz]
        exact List.getElem_mem _
      obtain ⟨S2, e2, c2, d2⟩ := lw_sets (F := F) (L := L) (xs := xs) (r13 := f_L_law_l13 F L xs f) (x2 := nI L) (y := j) (se := se) (by omega) se.length F 0 (si_pa (sd_mkA S1 98 1) 98 0 (xs j + 1)) (fun x => 2 ^ (se.getD x (0, 0)).1 - 1) (fun x => 2 ^ (se.getD x (0, 0)).1 - 1) (fun x => (se.getD x (0, 0)).2) (fun _ => 0) (by omega) (by omega) ⟨lm1.go dd (by decide) (by decide), c1.go dd (by decide) (by decide), ⟨o98, l98⟩, fun z hz => by
        obtain ⟨b1, b2, b3⟩ := hse _ (gs z hz)
        have hp : 2 ^ (se.getD z (0, 0)).1 - 1 < 2 ^ (se.getD z (0, 0)).1 := Nat.sub_lt (Nat.two_pow_pos _) (by decide)
        exact ⟨⟨b1, b2⟩, ⟨hp, hp, b3⟩, Or.inl rfl⟩⟩ (fun z _ _ => ⟨rfl, rfl, rfl, rfl⟩)
      have e2 : f_L_law_l55 F L xs (f_L_law_l13 F L xs f) F (nI L) (nI j) 0 (si_pa (sd_mkA S1 98 1) 98 0 (xs j + 1)) = _ := e2
      rw [e2]
      obtain ⟨S3, e3, d3⟩ := ih f (j + 1) S2 (by omega) (by omega) c2
      exact ⟨S3, e3, ((d1.cw (by decide)).tr ((dd.cw (by decide)).tr (d2.tr d3))).up (by omega) (by omega)⟩
theorem lw_law {F L : Nat} {xs : Nat → Int32} {S : si_St} (hF : 1100 ≤ F) (hL : L < 2 ^ 31) (c : cl0 S) : ∃ S', f_L_law_h8 F L xs S = some (1, S') ∧ sd_ct S' ≤ sd_ct S + 25000 ∧ sd_sl S' ≤ sd_sl S + 1500000 := by
  obtain ⟨S', e, d⟩ := lw_loads (F := F) (L := L) (xs := xs) hF hL 5 F 0 S rfl (by omega) c
  refine ⟨S', ?_, d.2.2.2.1, d.2.2.2.2⟩
  unfold f_L_law_h8
  rw [Option.bind_some]
  exact e
