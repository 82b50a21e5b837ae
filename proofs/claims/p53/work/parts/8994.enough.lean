-- ISENOUGH, AS A FUNCTION OF A SET'S SUSPECTS, WITH THE OBJECTS THAT IT MAKES
def enS (f : Nat → Nat → Nat → Bool × Nat) (h l g a b r : Nat) : Bool × Nat := if we_s h a b r = h ∧ we_s l b a r = l ∧ (if r = 0 then g else 0) = g then (false, 0) else f (we_s h a b r) (we_s l b a r) (if r = 0 then g else 0)
def enJ (f : Nat → Nat → Nat → Bool × Nat) (h l g a b : Nat) : Bool × Nat :=
  if (enS f h l g a b 0).1 = true then
    (if (enS f h l g a b 1).1 = true then ((enS f h l g a b 2).1, (enS f h l g a b 0).2 + ((enS f h l g a b 1).2 + (enS f h l g a b 2).2)) else (false, (enS f h l g a b 0).2 + (enS f h l g a b 1).2))
  else (false, (enS f h l g a b 0).2)
def enL (f : Nat → Nat → Nat → Bool × Nat) (h l g : Nat) : List (Nat × Nat) → Bool × Nat
  | [] => (false, 0)
  | p :: ps => if (enJ f h l g p.1 p.2).1 = true then (true, 1 + (enJ f h l g p.1 p.2).2) else ((enL f h l g ps).1, 1 + (enJ f h l g p.1 p.2).2 + (enL f h l g ps).2)
def pv (a b : Nat) : Bool := a &&& b == 0 && sb_pc a == sb_pc b
def rp (a b : Nat) : Nat → List (Nat × Nat)
  | 0 => []
  | m + 1 => if pv a b = true then (a, b) :: rp a (b + 1) m else rp a (b + 1) m
def lpp (a : Nat) : Nat → List (Nat × Nat)
  | 0 => []
  | m + 1 => rp a 1 (a - 1) ++ lpp (a + 1) m
def enT (n : Nat) : Nat → Nat → Nat → Nat → Nat → Bool × Nat
  | 0 => fun _ _ _ _ => (false, 0)
  | d + 1 => fun h l g k => if sb_pc h + sb_pc l + g < 2 then (true, 0) else if 3 ^ k < sb_pc h + sb_pc l + g then (false, 0) else enL (fun h l g => enT n d h l g (k - 1)) h l g (lpp 1 (2 ^ n - 1))
theorem enL_c {f : Nat → Nat → Nat → Bool × Nat} {h l g : Nat} {p : Nat × Nat} {ps : List (Nat × Nat)} : enL f h l g (p :: ps) = if (enJ f h l g p.1 p.2).1 = true then (true, 1 + (enJ f h l g p.1 p.2).2) else ((enL f h l g ps).1, 1 + (enJ f h l g p.1 p.2).2 + (enL f h l g ps).2) := rfl
theorem enL_app {f : Nat → Nat → Nat → Bool × Nat} {h l g : Nat} : ∀ p q : List (Nat × Nat), enL f h l g (p ++ q) = if (enL f h l g p).1 = true then enL f h l g p else ((enL f h l g q).1, (enL f h l g p).2 + (enL f h l g q).2)
  | [], q => by
    rw [List.nil_append, if_neg (show ¬ (enL f h l g []).1 = true from Bool.false_ne_true)]
    show _ = ((enL f h l g q).1, 0 + (enL f h l g q).2)
    rw [Nat.zero_add]
  | x :: p, q => by
    rw [List.cons_append, enL_c, enL_c]
    by_cases hx : (enJ f h l g x.1 x.2).1 = true
    · rw [if_pos hx, if_pos hx, if_pos rfl]
    · rw [if_neg hx, if_neg hx, enL_app p q]
      dsimp only
      by_cases hp : (enL f h l g p).1 = true
      · rw [if_pos hp, if_pos hp]
      · rw [if_neg hp, if_neg hp]
        dsimp only
        rw [Nat.add_assoc (1 + (enJ f h l g x.1 x.2).2)]
theorem enc_inj {n h l g h2 l2 g2 : Nat} (hh : h < 2 ^ n) (hl : l < 2 ^ n) (hg : g ≤ 1) (hh2 : h2 < 2 ^ n) (hl2 : l2 < 2 ^ n) (hg2 : g2 ≤ 1) (e : enc n h l g = enc n h2 l2 g2) : h = h2 ∧ l = l2 ∧ g = g2 := by
  have ht : ∀ j, j < 2 * n + 1 → eb h l g j = eb h2 l2 g2 j := fun j hj => by
    rw [← enc_tb hj, ← enc_tb hj, e]
  refine ⟨Nat.eq_of_testBit_eq (fun i => ?_), Nat.eq_of_testBit_eq (fun i => ?_), ?_⟩
  · by_cases hi : i < n
    · have := ht (2 * i + 1) (by omega)
      unfold eb at this
      rw [if_neg (by omega), if_pos (by omega), if_neg (by omega), if_pos (by omega), show (2 * i + 1 - 1) / 2 = i by omega] at this
      exact this
    · rw [Nat.testBit_lt_two_pow (Nat.lt_of_lt_of_le hh (Nat.pow_le_pow_right (by decide) (by omega))), Nat.testBit_lt_two_pow (Nat.lt_of_lt_of_le hh2 (Nat.pow_le_pow_right (by decide) (by omega)))]
  · by_cases hi : i < n
    · have := ht (2 * i + 2) (by omega)
      unfold eb at this
      rw [if_neg (by omega), if_neg (by omega), if_neg (by omega), if_neg (by omega), show (2 * i + 2 - 1) / 2 = i by omega] at this
      exact this
    · rw [Nat.testBit_lt_two_pow (Nat.lt_of_lt_of_le hl (Nat.pow_le_pow_right (by decide) (by omega))), Nat.testBit_lt_two_pow (Nat.lt_of_lt_of_le hl2 (Nat.pow_le_pow_right (by decide) (by omega)))]
  · have := ht 0 (by omega)
    have : (g == 1) = (g2 == 1) := this
    rcases (by omega : g = 0 ∨ g = 1) with h9 | h9 <;> rcases (by omega : g2 = 0 ∨ g2 = 1) with h8 | h8 <;> rw [h9, h8] at this ⊢ <;> exact absurd this (by decide)
def DC (d : Nat) : List Nat := (List.range d).map (101 + ·)
theorem DC_m {d k : Nat} : k ∈ DC d ↔ 101 ≤ k ∧ k < 101 + d := by
  unfold DC
  rw [List.mem_map]
  constructor
  · rintro ⟨x, hx, rfl⟩
    rw [List.mem_range] at hx
    omega
  · intro h
    exact ⟨k - 101, List.mem_range.mpr (by omega), by omega⟩
theorem we_lt {n h a b r : Nat} (h0 : h < 2 ^ n) : we_s h a b r < 2 ^ n := Nat.lt_of_le_of_lt (we_s_le h a b r) h0
def okE (F n d k : Nat) (rr : Int32 → Int32 → Int32 → si_St → Option (Int32 × si_St)) (f : Nat → Nat → Nat → Bool × Nat) : Prop := ∀ (h l g : Nat) (S : si_St), h < 2 ^ n → l < 2 ^ n → g ≤ 1 → (S.2.2.2 0 < 87 ∧ S.2.2.2 1 < 87) → ∃ S', rr (nI (enc n h l g)) (nI n) (nI k) S = some (if (f h l g).1 = true then 1 else 0, S') ∧ dn (DC d) (f h l g).2 (3 * (f h l g).2) S S'
-- the three outcomes of a weighing
theorem en_be {F n d a b X : Nat} {x2 : Int32} {rr : Int32 → Int32 → Int32 → si_St → Option (Int32 × si_St)} {r47 : Int32 → Int32 → Int32 → Int32 → si_St → Option (Int32 × si_St)} {r58 : Int32 → Int32 → Int32 → Int32 → Int32 → si_St → Option (Int32 × si_St)} (hn : n ≤ 5) (hd : d ≤ 6) (ha : a < 2 ^ 31) (hb : b < 2 ^ 31) (hX : X < 2 ^ 15) : ∀ m f j (S : si_St), 2 * n + 1 = j + m → m < f → sd_ok S (101 + d) → sd_ln S (101 + d) = 3 → (∀ r, r < 3 → S.2.1 (101 + d) r = nI (bz (fun i => X.testBit i && rs i a b == r) j)) → ∃ S', f_L_isEnoughB_l97 F d rr r47 r58 f (nI X) (nI n) x2 (nI a) (nI b) (nI j) S = f_L_isEnoughB_l148 F d rr r47 r58 F (nI X) (nI n) x2 (nI a) (nI b) 1 0 S' ∧ dn [101 + d] 0 0 S S' ∧ (∀ r, r < 3 → S'.2.1 (101 + d) r = nI (bz (fun i => X.testBit i && rs i a b == r) (2 * n + 1))) ∧ S'.2.2 = S.2.2 := by
  intro m
  induction m with
  | zero =>
    intro f j S hj hf o l hrow
    obtain ⟨f, rfl⟩ : ∃ k, f = k + 1 := ⟨f - 1, by omega⟩
    have e : j = 2 * n + 1 := by omega
    subst e
    refine ⟨S, ?_, dn.rf, hrow, rfl⟩
    show f_L_isEnoughB_h97 F d rr r47 r58 (f_L_isEnoughB_l97 F d rr r47 r58 f) (nI X) (nI n) x2 (nI a) (nI b) (nI (2 * n + 1)) S = _
    unfold f_L_isEnoughB_h97
    have e1 : (1 : Int32) + 2 * nI n = nI (1 + 2 * n) := by rw [nI_2m]; exact nI_1a _
    rw [e1, if_pos (nI_le (by omega) (by omega))]
  | succ m ih =>
    intro f j S hj hf o l hrow
    obtain ⟨f, rfl⟩ : ∃ k, f = k + 1 := ⟨f - 1, by omega⟩
    show ∃ S', f_L_isEnoughB_h97 F d rr r47 r58 (f_L_isEnoughB_l97 F d rr r47 r58 f) (nI X) (nI n) x2 (nI a) (nI b) (nI j) S = _ ∧ _
    unfold f_L_isEnoughB_h97
    have e1 : (1 : Int32) + 2 * nI n = nI (1 + 2 * n) := by rw [nI_2m]; exact nI_1a _
    rw [e1, if_neg (fun h => by have := (nI_leI (by omega) (by omega)).mp h; omega)]
    by_cases hb1 : X.testBit j = true
    · have h3 := rs_3 j a b
      rw [if_pos ((hb_1 (by omega) (by omega)).mpr hb1), rs_ok (by omega) ha hb, Option.bind_some]
      dsimp only
      rw [dr_rd o (by omega) (by omega), Option.bind_some, hrow _ h3, hb_or (by omega), dr_wr o (by omega) (by omega), Option.bind_some]
      unfold f_L_isEnoughB_h136
      rw [nI_1, Option.bind_some]
      have dd : dn [101 + d] 0 0 S (si_pa S (101 + d) (rs j a b) (nI (bz (fun i => X.testBit i && rs i a b == rs j a b) j ||| 2 ^ j))) := dn.pa (List.mem_singleton.mpr rfl)
      obtain ⟨S', e, d', hr, e2⟩ := ih f (j + 1) (si_pa S (101 + d) (rs j a b) (nI (bz (fun i => X.testBit i && rs i a b == rs j a b) j ||| 2 ^ j))) (by omega) (by omega) o l (fun r hr => by
        show _ = nI (bz (fun i => X.testBit i && rs i a b == r) j ||| (if (X.testBit j && rs j a b == r) = true then 2 ^ j else 0))
        by_cases h9 : r = rs j a b
        · rw [h9, pa_e, if_pos (by rw [hb1]; simp)]
        · rw [pa_s h9, hrow r hr, if_neg (by rw [hb1]; simp; exact fun h => h9 h.symm), Nat.or_zero])
      exact ⟨S', e, (dd.tr d').up (by omega) (by omega), hr, e2⟩
    · rw [if_neg (fun h => hb1 ((hb_1 (by omega) (by omega)).mp h))]
      unfold f_L_isEnoughB_h136
      rw [nI_1, Option.bind_some]
      exact ih f (j + 1) S (by omega) (by omega) o l (fun r hr => by
        show _ = nI (bz (fun i => X.testBit i && rs i a b == r) j ||| (if (X.testBit j && rs j a b == r) = true then 2 ^ j else 0))
        rw [hrow r hr, if_neg (by rw [Bool.not_eq_true] at hb1; rw [hb1]; simp), Nat.or_zero])
-- and what isEnough makes of them
theorem en_j {F n d k a b h l g : Nat} {x2 : Int32} {rr : Int32 → Int32 → Int32 → si_St → Option (Int32 × si_St)} {f : Nat → Nat → Nat → Bool × Nat} {r47 : Int32 → Int32 → Int32 → Int32 → si_St → Option (Int32 × si_St)} {r58 : Int32 → Int32 → Int32 → Int32 → Int32 → si_St → Option (Int32 × si_St)} (hF : 10 ≤ F) (hn : n ≤ 5) (hd : d ≤ 6) (hk : x2 - 1 = nI k) (hh : h < 2 ^ n) (hl : l < 2 ^ n) (hg : g ≤ 1) (hab : a &&& b = 0) (E : okE F n d k rr f) {S : si_St} (o : sd_ok S (101 + d)) (ln : sd_ln S (101 + d) = 3) (hs : S.2.2.2 0 < 87 ∧ S.2.2.2 1 < 87) (hrow : ∀ r, r < 3 → S.2.1 (101 + d) r = nI (enc n (we_s h a b r) (we_s l b a r) (if r = 0 then g else 0))) : ∃ S', f_L_isEnoughB_l148 F d rr r47 r58 F (nI (enc n h l g)) (nI n) x2 (nI a) (nI b) 1 0 S = (if (enJ f h l g a b).1 = true then some (1, S') else f_L_isEnoughB_h203 F d rr r47 r58 (nI (enc n h l g)) (nI n) x2 (nI a) (nI b) S') ∧ dn (DC d) (enJ f h l g a b).2 (3 * (enJ f h l g a b).2) S S' := by
  have h15 : ∀ {h l g}, enc n h l g < 2 ^ 15 := fun {h l g} => enc_lt15 (by omega)
  have n1 : 101 + d ∉ DC d := fun h => by rw [DC_m] at h; omega
  have nM : 1000 ∉ DC d := fun h => by rw [DC_m] at h; omega
  have hg' : ∀ r, (if r = 0 then g else 0) ≤ 1 := fun r => by split <;> omega
  -- one step
  have step : ∀ (r ff : Nat) (S : si_St), r < 3 → sd_ok S (101 + d) → sd_ln S (101 + d) = 3 → (S.2.2.2 0 < 87 ∧ S.2.2.2 1 < 87) → (∀ r, r < 3 → S.2.1 (101 + d) r = nI (enc n (we_s h a b r) (we_s l b a r) (if r = 0 then g else 0))) → ∃ S', f_L_isEnoughB_l148 F d rr r47 r58 (ff + 1) (nI (enc n h l g)) (nI n) x2 (nI a) (nI b) 1 (nI r) S = f_L_isEnoughB_l148 F d rr r47 r58 ff (nI (enc n h l g)) (nI n) x2 (nI a) (nI b) (if (enS f h l g a b r).1 = true then 1 else 0) (nI (r + 1)) S' ∧ dn (DC d) (enS f h l g a b r).2 (3 * (enS f h l g a b r).2) S S' := fun r ff S hr o ln hs hrow => by
    show ∃ S', f_L_isEnoughB_h148 F d rr r47 r58 (f_L_isEnoughB_l148 F d rr r47 r58 ff) (nI (enc n h l g)) (nI n) x2 (nI a) (nI b) 1 (nI r) S = _ ∧ _
    unfold f_L_isEnoughB_h148
    rw [if_neg (show ¬ (3 : Int32) ≤ nI r from fun (h : nI 3 ≤ nI r) => by have := (nI_leI (by decide) (by omega)).mp h; omega), if_neg (by decide), dr_rd o (by omega) (by omega), Option.bind_some, hrow r hr]
    unfold enS
    by_cases hc : we_s h a b r = h ∧ we_s l b a r = l ∧ (if r = 0 then g else 0) = g
    · rw [if_pos hc, hc.1, hc.2.1, hc.2.2, if_pos rfl]
      unfold f_L_isEnoughB_h187 f_L_isEnoughB_h188
      rw [nI_1, Option.bind_some, if_neg (show ¬ false = true by decide)]
      exact ⟨S, rfl, dn.rf⟩
    · rw [if_neg hc, if_neg (fun h2 => hc (enc_inj (we_lt hh) (we_lt hl) (hg' r) hh hl hg ((nI_eq (by have := h15 (h := we_s h a b r) (l := we_s l b a r) (g := if r = 0 then g else 0); omega) (by have := h15 (h := h) (l := l) (g := g); omega)).mp h2))), Option.bind_some, hk]
      obtain ⟨S', e, d'⟩ := E (we_s h a b r) (we_s l b a r) (if r = 0 then g else 0) S (we_lt hh) (we_lt hl) (hg' r) hs
      rw [e, Option.bind_some]
      unfold f_L_isEnoughB_h180 f_L_isEnoughB_h187 f_L_isEnoughB_h188
      dsimp only
      refine ⟨S', ?_, d'⟩
      by_cases hb : (f (we_s h a b r) (we_s l b a r) (if r = 0 then g else 0)).1 = true
      · rw [if_pos hb, if_neg (by decide), nI_1, Option.bind_some]
      · rw [if_neg hb, if_pos rfl, nI_1, Option.bind_some]
  -- when it is decided
  have stop : ∀ (ff : Nat) (x9 : Int32) (S : si_St), f_L_isEnoughB_l148 F d rr r47 r58 (ff + 1) (nI (enc n h l g)) (nI n) x2 (nI a) (nI b) 0 x9 S = f_L_isEnoughB_h203 F d rr r47 r58 (nI (enc n h l g)) (nI n) x2 (nI a) (nI b) S := fun ff x9 S => by
    show f_L_isEnoughB_h148 F d rr r47 r58 (f_L_isEnoughB_l148 F d rr r47 r58 ff) (nI (enc n h l g)) (nI n) x2 (nI a) (nI b) 0 x9 S = _
    unfold f_L_isEnoughB_h148 f_L_isEnoughB_h196
    rw [if_pos rfl]
    by_cases h9 : 3 ≤ x9
    · rw [if_pos h9]
    · rw [if_neg h9, if_pos rfl]
  have fin1 : ∀ (ff : Nat) (S : si_St), f_L_isEnoughB_l148 F d rr r47 r58 (ff + 1) (nI (enc n h l g)) (nI n) x2 (nI a) (nI b) 1 (nI 3) S = some (1, S) := fun ff S => by
    show f_L_isEnoughB_h148 F d rr r47 r58 (f_L_isEnoughB_l148 F d rr r47 r58 ff) (nI (enc n h l g)) (nI n) x2 (nI a) (nI b) 1 (nI 3) S = _
    unfold f_L_isEnoughB_h148 f_L_isEnoughB_h196
    rw [if_pos (by decide), if_neg (by decide), sm_bz1, Option.bind_some]
  have next : ∀ {r : Nat} {S S' : si_St} {x y : Nat}, dn (DC d) x y S S' → sd_ok S (101 + d) → sd_ln S (101 + d) = 3 → (S.2.2.2 0 < 87 ∧ S.2.2.2 1 < 87) → (∀ r, r < 3 → S.2.1 (101 + d) r = nI (enc n (we_s h a b r) (we_s l b a r) (if r = 0 then g else 0))) → sd_ok S' (101 + d) ∧ sd_ln S' (101 + d) = 3 ∧ (S'.2.2.2 0 < 87 ∧ S'.2.2.2 1 < 87) ∧ (∀ r, r < 3 → S'.2.1 (101 + d) r = nI (enc n (we_s h a b r) (we_s l b a r) (if r = 0 then g else 0))) := fun {r S S' x y} D o ln hs hrow => ⟨D.ok n1 o, (D.2.2.1 _ (by omega) n1).1.trans ln, by rw [(D.2.1 nM).1, (D.2.1 nM).2]; exact hs, by rw [(D.1 _ n1).2.1]; exact hrow⟩
  obtain ⟨ff, rfl⟩ : ∃ ff, F = ff + 4 := ⟨F - 4, by omega⟩
  obtain ⟨S1, e1, D1⟩ := step 0 (ff + 3) S (by decide) o ln hs hrow
  have e1 : f_L_isEnoughB_l148 (ff + 4) d rr r47 r58 (ff + 4) (nI (enc n h l g)) (nI n) x2 (nI a) (nI b) 1 0 S = _ := e1
  rw [e1]
  unfold enJ
  by_cases c0 : (enS f h l g a b 0).1 = true
  · rw [if_pos c0, if_pos c0]
    obtain ⟨o1, ln1, hs1, hr1⟩ := next (r := 0) D1 o ln hs hrow
    obtain ⟨S2, e2, D2⟩ := step 1 (ff + 2) S1 (by decide) o1 ln1 hs1 hr1
    rw [e2]
    by_cases c1 : (enS f h l g a b 1).1 = true
    · rw [if_pos c1, if_pos c1]
      obtain ⟨o2, ln2, hs2, hr2⟩ := next (r := 0) D2 o1 ln1 hs1 hr1
      obtain ⟨S3, e3, D3⟩ := step 2 (ff + 1) S2 (by decide) o2 ln2 hs2 hr2
      rw [e3]
      refine ⟨S3, ?_, (D1.tr (D2.tr D3)).up (by dsimp only; omega) (by dsimp only; omega)⟩
      dsimp only
      by_cases c2 : (enS f h l g a b 2).1 = true
      · rw [if_pos c2, if_pos c2, fin1]
      · rw [if_neg c2, if_neg c2, stop]
    · rw [if_neg c1, if_neg c1, stop]
      exact ⟨S2, by rw [if_neg Bool.false_ne_true], (D1.tr D2).up (by dsimp only; omega) (by dsimp only; omega)⟩
  · rw [if_neg c0, if_neg c0, stop]
    exact ⟨S1, by rw [if_neg Bool.false_ne_true], D1⟩
-- the pairs, right for one left, and left after left
theorem pv_iff {a b : Nat} : pv a b = true ↔ a &&& b = 0 ∧ sb_pc a = sb_pc b := by
  unfold pv
  rw [Bool.and_eq_true, beq_iff_eq, beq_iff_eq]
theorem en_r {F n d k a h l g : Nat} {x2 : Int32} {rr : Int32 → Int32 → Int32 → si_St → Option (Int32 × si_St)} {f : Nat → Nat → Nat → Bool × Nat} {r47 : Int32 → Int32 → Int32 → Int32 → si_St → Option (Int32 × si_St)} (hF : 100 ≤ F) (hn : n ≤ 5) (hd : d ≤ 6) (hk : x2 - 1 = nI k) (hh : h < 2 ^ n) (hl : l < 2 ^ n) (hg : g ≤ 1) (ha : a < 2 ^ n) (E : okE F n d k rr f) : ∀ m ff b (S : si_St), 1 ≤ b → a = b + m → m < ff → (S.2.2.2 0 < 87 ∧ S.2.2.2 1 < 87) → ∃ S', f_L_isEnoughB_l58 F d rr r47 ff (nI (enc n h l g)) (nI n) x2 (nI a) (nI b) S = (if (enL f h l g (rp a b m)).1 = true then some (1, S') else r47 (nI (enc n h l g)) (nI n) x2 (nI (a + 1)) S') ∧ dn (DC (d + 1)) (enL f h l g (rp a b m)).2 (3 * (enL f h l g (rp a b m)).2) S S' := by
  have h32 : 2 ^ n ≤ 2 ^ 5 := Nat.pow_le_pow_right (by decide) hn
  intro m
  induction m with
  | zero =>
    intro ff b S hb hab hf hs
    obtain ⟨ff, rfl⟩ : ∃ k, ff = k + 1 := ⟨ff - 1, by omega⟩
    show ∃ S', f_L_isEnoughB_h58 F d rr r47 (f_L_isEnoughB_l58 F d rr r47 ff) (nI (enc n h l g)) (nI n) x2 (nI a) (nI b) S = _ ∧ _
    unfold f_L_isEnoughB_h58
    rw [if_pos (nI_le (by omega) (by omega)), nI_1, Option.bind_some]
    exact ⟨S, (if_neg Bool.false_ne_true).symm, dn.rf⟩
  | succ m ih =>
    intro ff b S hb hab hf hs
    obtain ⟨ff, rfl⟩ : ∃ k, ff = k + 1 := ⟨ff - 1, by omega⟩
    show ∃ S', f_L_isEnoughB_h58 F d rr r47 (f_L_isEnoughB_l58 F d rr r47 ff) (nI (enc n h l g)) (nI n) x2 (nI a) (nI b) S = _ ∧ _
    unfold f_L_isEnoughB_h58
    have hr : rp a b (m + 1) = if pv a b = true then (a, b) :: rp a (b + 1) m else rp a (b + 1) m := rfl
    have skip : ∀ S0 : si_St, f_L_isEnoughB_h203 F d rr r47 (f_L_isEnoughB_l58 F d rr r47 ff) (nI (enc n h l g)) (nI n) x2 (nI a) (nI b) S0 = f_L_isEnoughB_l58 F d rr r47 ff (nI (enc n h l g)) (nI n) x2 (nI a) (nI (b + 1)) S0 := fun S0 => by
      unfold f_L_isEnoughB_h203
      rw [nI_1, Option.bind_some]
    rw [if_neg (fun h => by have := (nI_leI (by omega) (by omega)).mp h; omega)]
    by_cases h0 : a &&& b = 0
    · rw [if_pos ((we_and0 (by omega) (by omega)).mpr h0), sb_bc (by omega), Option.bind_some]
      dsimp only
      rw [sb_bc (by omega), Option.bind_some]
      dsimp only
      have l1 := sb_le12 a
      have l2 := sb_le12 b
      by_cases hc : sb_pc a = sb_pc b
      · have hp : pv a b = true := pv_iff.mpr ⟨h0, hc⟩
        rw [if_pos (by rw [hc]), hr, if_pos hp]
        have hfr : sd_frb S (101 + d) = true := dr_frb (by omega) (by omega) hs ⟨by omega, by omega, by omega, by omega, by omega, by omega⟩
        have ena : sd_na S (101 + d) 3 = some (sd_mkA S (101 + d) 3) := dr_na (n := 3) hfr (by decide)
        rw [ena, Option.bind_some]
        unfold f_L_isEnoughB_h92
        have dA : dn [101 + d] 1 3 S (sd_mkA S (101 + d) 3) := dn.mkA (List.mem_singleton.mpr rfl) (by omega) (by omega)
        have o1 : sd_ok (sd_mkA S (101 + d) 3) (101 + d) := dr_lv_mkA (by omega) (by omega)
        have ln1 : sd_ln (sd_mkA S (101 + d) 3) (101 + d) = 3 := sd_mkA_ln
        obtain ⟨S1, e1, d1, r1, t1⟩ := en_be (F := F) (x2 := x2) (rr := rr) (r47 := r47) (r58 := f_L_isEnoughB_l58 F d rr r47 ff) (a := a) (b := b) (X := enc n h l g) hn hd (by omega) (by omega) (enc_lt15 (by omega)) (2 * n + 1) F 0 (sd_mkA S (101 + d) 3) (by omega) (by omega) o1 ln1 (fun r hr => (if_pos rfl : (if 101 + d = 101 + d then (0 : Int32) else S.2.1 (101 + d) r) = 0))
        have e1 : f_L_isEnoughB_l97 F d rr r47 (f_L_isEnoughB_l58 F d rr r47 ff) F (nI (enc n h l g)) (nI n) x2 (nI a) (nI b) 0 (sd_mkA S (101 + d) 3) = _ := e1
        rw [e1]
        have d01 : dn [101 + d] 1 3 S S1 := (dA.tr d1).up (by omega) (by omega)
        have nM : 1000 ∉ [101 + d] := fun h => by rw [List.mem_singleton] at h; omega
        have o2 : sd_ok S1 (101 + d) := ⟨by omega, by omega, by unfold sd_lv; rw [t1]; exact o1.2.2⟩
        have ln2 : sd_ln S1 (101 + d) = 3 := by unfold sd_ln; rw [t1]; exact ln1
        have hs1 : S1.2.2.2 0 < 87 ∧ S1.2.2.2 1 < 87 := by rw [(d01.2.1 nM).1, (d01.2.1 nM).2]; exact hs
        obtain ⟨S2, e2, D2⟩ := en_j (F := F) (r47 := r47) (r58 := f_L_isEnoughB_l58 F d rr r47 ff) (by omega) hn hd hk hh hl hg h0 E o2 ln2 hs1 (fun r hr => by rw [r1 r hr, enc_be hr h0])
        rw [e2]
        have nM2 : 1000 ∉ DC d := fun h => by rw [DC_m] at h; omega
        have c1 : dn (DC (d + 1)) 1 3 S S1 := d01.mo (fun x hx => by rw [List.mem_singleton] at hx; rw [DC_m]; omega) (Nat.le_refl _) (Nat.le_refl _)
        have c2 : dn (DC (d + 1)) (enJ f h l g a b).2 (3 * (enJ f h l g a b).2) S1 S2 := D2.mo (fun x hx => by rw [DC_m] at hx ⊢; omega) (Nat.le_refl _) (Nat.le_refl _)
        rw [enL_c]
        dsimp only
        by_cases hj : (enJ f h l g a b).1 = true
        · rw [if_pos hj, if_pos hj]
          exact ⟨S2, (if_pos rfl).symm, (c1.tr c2).up (by dsimp only; omega) (by dsimp only; omega)⟩
        · rw [if_neg hj, if_neg hj, skip]
          obtain ⟨S3, e3, D3⟩ := ih ff (b + 1) S2 (by omega) (by omega) (by omega) (by rw [(D2.2.1 nM2).1, (D2.2.1 nM2).2]; exact hs1)
          exact ⟨S3, e3, (c1.tr (c2.tr D3)).up (by dsimp only; omega) (by dsimp only; omega)⟩
      · have hp : ¬ pv a b = true := fun h => hc (pv_iff.mp h).2
        rw [if_neg (fun h => hc ((nI_eq (by omega) (by omega)).mp h)), hr, if_neg hp, skip]
        exact ih ff (b + 1) S (by omega) (by omega) (by omega) hs
    · have hp : ¬ pv a b = true := fun h => h0 (pv_iff.mp h).1
      rw [if_neg (fun h => h0 ((we_and0 (by omega) (by omega)).mp h)), hr, if_neg hp, skip]
      exact ih ff (b + 1) S (by omega) (by omega) (by omega) hs
theorem en_l {F n d k h l g : Nat} {x2 : Int32} {rr : Int32 → Int32 → Int32 → si_St → Option (Int32 × si_St)} {f : Nat → Nat → Nat → Bool × Nat} (hF : 100 ≤ F) (hn : n ≤ 5) (hd : d ≤ 6) (hk : x2 - 1 = nI k) (hh : h < 2 ^ n) (hl : l < 2 ^ n) (hg : g ≤ 1) (E : okE F n d k rr f) : ∀ m ff a (S : si_St), 1 ≤ a → 2 ^ n = a + m → m < ff → (S.2.2.2 0 < 87 ∧ S.2.2.2 1 < 87) → ∃ S', f_L_isEnoughB_l47 F d rr ff (nI (enc n h l g)) (nI n) x2 (nI a) S = some (if (enL f h l g (lpp a m)).1 = true then 1 else 0, S') ∧ dn (DC (d + 1)) (enL f h l g (lpp a m)).2 (3 * (enL f h l g (lpp a m)).2) S S' := by
  have h32 : 2 ^ n ≤ 2 ^ 5 := Nat.pow_le_pow_right (by decide) hn
  have nM : 1000 ∉ DC (d + 1) := fun h => by rw [DC_m] at h; omega
  intro m
  induction m with
  | zero =>
    intro ff a S ha hab hf hs
    obtain ⟨ff, rfl⟩ : ∃ k, ff = k + 1 := ⟨ff - 1, by omega⟩
    show ∃ S', f_L_isEnoughB_h47 F d rr (f_L_isEnoughB_l47 F d rr ff) (nI (enc n h l g)) (nI n) x2 (nI a) S = _ ∧ _
    unfold f_L_isEnoughB_h47
    rw [hb_shl (by omega), if_pos (nI_le (by omega) (by omega)), sm_bz0, Option.bind_some]
    refine ⟨S, ?_, dn.rf⟩
    show _ = some (if false = true then (1 : Int32) else 0, S)
    rw [if_neg Bool.false_ne_true]
  | succ m ih =>
    intro ff a S ha hab hf hs
    obtain ⟨ff, rfl⟩ : ∃ k, ff = k + 1 := ⟨ff - 1, by omega⟩
    show ∃ S', f_L_isEnoughB_h47 F d rr (f_L_isEnoughB_l47 F d rr ff) (nI (enc n h l g)) (nI n) x2 (nI a) S = _ ∧ _
    unfold f_L_isEnoughB_h47
    rw [hb_shl (by omega), if_neg (fun h => by have := (nI_leI (by omega) (by omega)).mp h; omega)]
    obtain ⟨S1, e1, d1⟩ := en_r (F := F) (r47 := f_L_isEnoughB_l47 F d rr ff) hF hn hd hk hh hl hg (a := a) (by omega) E (a - 1) F 1 S (Nat.le_refl 1) (by omega) (by omega) hs
    have e1 : f_L_isEnoughB_l58 F d rr (f_L_isEnoughB_l47 F d rr ff) F (nI (enc n h l g)) (nI n) x2 (nI a) 1 S = _ := e1
    have hr : lpp a (m + 1) = rp a 1 (a - 1) ++ lpp (a + 1) m := rfl
    rw [e1, hr, enL_app]
    by_cases hc : (enL f h l g (rp a 1 (a - 1))).1 = true
    · rw [if_pos hc, if_pos hc]
      exact ⟨S1, by rw [if_pos hc], d1⟩
    · rw [if_neg hc, if_neg hc]
      obtain ⟨S2, e2, d2⟩ := ih ff (a + 1) S1 (by omega) (by omega) (by omega) (by rw [(d1.2.1 nM).1, (d1.2.1 nM).2]; exact hs)
      exact ⟨S2, e2, (d1.tr d2).up (by dsimp only; omega) (by dsimp only; omega)⟩
theorem en_3 {F n d k X C : Nat} {rr : Int32 → Int32 → Int32 → si_St → Option (Int32 × si_St)} {S : si_St} (hk : k ≤ 5) (hC : C ≤ 100) : ∀ m ff j, k = j + m → m < ff → f_L_isEnoughB_l18 F d rr ff (nI X) (nI n) (nI k) (nI C) (nI (3 ^ j)) (nI j) S = if 3 ^ k < C then some (0, S) else f_L_isEnoughB_l47 F d rr F (nI X) (nI n) (nI k) 1 S := by
  have h3 : ∀ j, j ≤ 5 → 3 ^ j ≤ 3 ^ 5 := fun j hj => Nat.pow_le_pow_right (by decide) hj
  intro m
  induction m with
  | zero =>
    intro ff j hj hf
    obtain ⟨ff, rfl⟩ : ∃ k, ff = k + 1 := ⟨ff - 1, by omega⟩
    have e : j = k := by omega
    subst e
    have := h3 j hk
    show f_L_isEnoughB_h18 F d rr (f_L_isEnoughB_l18 F d rr ff) (nI X) (nI n) (nI j) (nI C) (nI (3 ^ j)) (nI j) S = _
    unfold f_L_isEnoughB_h18
    rw [if_pos (Int32.le_refl _)]
    by_cases hc : 3 ^ j < C
    · rw [if_neg (fun h => by have := (nI_leI (by omega) (by omega)).mp h; omega), if_pos hc, sm_bz0, Option.bind_some]
    · rw [if_pos (nI_le (by omega) (by omega)), if_neg hc]
  | succ m ih =>
    intro ff j hj hf
    obtain ⟨ff, rfl⟩ : ∃ k, ff = k + 1 := ⟨ff - 1, by omega⟩
    show f_L_isEnoughB_h18 F d rr (f_L_isEnoughB_l18 F d rr ff) (nI X) (nI n) (nI k) (nI C) (nI (3 ^ j)) (nI j) S = _
    unfold f_L_isEnoughB_h18
    have e3 : nI (3 ^ j) * (3 : Int32) = nI (3 ^ (j + 1)) := pk_mul (3 ^ j) 3
    rw [if_neg (fun h => by have := (nI_leI (by omega) (by omega)).mp h; omega), e3, Option.bind_some, nI_1, Option.bind_some]
    exact ih ff (j + 1) (by omega) (by omega)
theorem en_ok {F n : Nat} (hF : 100 ≤ F) (hn : n ≤ 5) : ∀ d k, d ≤ 6 → k < d → okE F n d k (f_L_isEnough F d) (fun h l g => enT n d h l g k)
  | 0, k, _, h => absurd h (Nat.not_lt_zero _)
  | d + 1, k, hd, hkd => by
    intro h l g S hh hl hg hs
    show ∃ S', f_L_isEnoughB F d (f_L_isEnough F d) (nI (enc n h l g)) (nI n) (nI k) S = some (if (enT n (d + 1) h l g k).1 = true then 1 else 0, S') ∧ dn (DC (d + 1)) (enT n (d + 1) h l g k).2 (3 * (enT n (d + 1) h l g k).2) S S'
    have hpc := enc_pc (n := n) (by omega) hh hl hg
    have hX : enc n h l g < 2 ^ 15 := enc_lt15 (by omega)
    have l1 := sb_le12 h
    have l2 := sb_le12 l
    unfold f_L_isEnoughB f_L_isEnoughB_h0
    rw [hb_bc hX, Option.bind_some, hpc]
    dsimp only
    have hu : enT n (d + 1) h l g k = if sb_pc h + sb_pc l + g < 2 then (true, 0) else if 3 ^ k < sb_pc h + sb_pc l + g then (false, 0) else enL (fun h l g => enT n d h l g (k - 1)) h l g (lpp 1 (2 ^ n - 1)) := rfl
    rw [hu]
    by_cases c1 : sb_pc h + sb_pc l + g < 2
    · rw [if_neg (show ¬ (2 : Int32) ≤ nI _ from fun (h : nI 2 ≤ nI _) => by have := (nI_leI (by decide) (by omega)).mp h; omega), if_pos c1, sm_bz1, Option.bind_some, if_pos rfl]
      exact ⟨S, rfl, dn.rf⟩
    · have e3 := en_3 (F := F) (n := n) (d := d) (k := k) (X := enc n h l g) (C := sb_pc h + sb_pc l + g) (rr := f_L_isEnough F d) (S := S) (by omega) (by omega) k F 0 (by omega) (by omega)
      have e3 : f_L_isEnoughB_l18 F d (f_L_isEnough F d) F (nI (enc n h l g)) (nI n) (nI k) (nI (sb_pc h + sb_pc l + g)) 1 0 S = _ := e3
      rw [if_pos (show (2 : Int32) ≤ nI _ from (nI_le (a := 2) (by omega) (by omega))), if_neg c1, e3]
      by_cases c2 : 3 ^ k < sb_pc h + sb_pc l + g
      · rw [if_pos c2, if_pos c2, if_neg Bool.false_ne_true]
        exact ⟨S, rfl, dn.rf⟩
      · rw [if_neg c2, if_neg c2]
        have hk1 : 1 ≤ k := by
          rcases Nat.eq_zero_or_pos k with h0 | h0
          · rw [h0] at c2
            have : 3 ^ 0 = 1 := rfl
            omega
          · exact h0
        have hp : 1 ≤ 2 ^ n := Nat.one_le_two_pow
        have h32 : 2 ^ n ≤ 2 ^ 5 := Nat.pow_le_pow_right (by decide) hn
        exact en_l (F := F) hF hn (by omega) (x2 := nI k) (k := k - 1) (pk_sub (b := 1) hk1) hh hl hg (en_ok hF hn d (k - 1) (by omega) (by omega)) (2 ^ n - 1) F 1 S (Nat.le_refl 1) (by omega) (by omega) hs
