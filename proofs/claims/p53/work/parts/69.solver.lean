-- how many weighings are needed: the numbers
theorem sv_le {f : Nat → Nat} {z : Nat} : ∀ {n : Nat}, z ≤ sv_min f n ↔ z ≤ 99 ∧ ∀ k, k < n → z ≤ f k
  | 0 => ⟨fun h => ⟨h, fun k hk => absurd hk (Nat.not_lt_zero k)⟩, fun h => h.1⟩
  | n + 1 => by
    show z ≤ min (sv_min f n) (f n) ↔ _
    rw [Nat.le_min, sv_le]
    constructor
    · rintro ⟨⟨h1, h2⟩, h3⟩
      refine ⟨h1, fun k hk => ?_⟩
      by_cases h : k = n
      · subst h
        exact h3
      · exact h2 k (by omega)
    · rintro ⟨h1, h2⟩
      exact ⟨⟨h1, fun k hk => h2 k (by omega)⟩, h2 n (by omega)⟩
theorem sv_eq {x y : Nat} (h : ∀ z, z ≤ x ↔ z ≤ y) : x = y := Nat.le_antisymm ((h x).mp (Nat.le_refl x)) ((h y).mpr (Nat.le_refl y))
/-- a weighing of a + b heavy and c + d light suspects that tells something, with n weights in all -/
def sv_ok (n h l a b c d : Nat) : Prop := a + b ≤ h ∧ c + d ≤ l ∧ (a + d < h + l ∧ b + c < h + l ∧ 0 < a + b + c + d) ∧ sv_gap (a + c) (b + d) ≤ n - (h + l)
theorem sv_split_le {n t h l z : Nat} (h2 : 2 ≤ h + l) : z ≤ sv_split n (t + 1) h l ↔ z ≤ 99 ∧ ∀ a b c d, sv_ok n h l a b c d → z ≤ max (sv_split n t (h - a - b) (l - c - d)) (max (sv_split n t a d) (sv_split n t b c)) + 1 := by
  have e : sv_split n (t + 1) h l = sv_min (fun a => sv_min (fun b => sv_min (fun c => sv_min (fun d => if a + b ≤ h ∧ c + d ≤ l ∧ (a + d < h + l ∧ b + c < h + l ∧ 0 < a + b + c + d) ∧ sv_gap (a + c) (b + d) ≤ n - (h + l) then max (sv_split n t (h - a - b) (l - c - d)) (max (sv_split n t a d) (sv_split n t b c)) + 1 else 99) (l + 1)) (l + 1)) (h + 1)) (h + 1) := by
    show (if h + l < 2 then 0 else _) = _
    rw [if_neg (by omega)]
  rw [e, sv_le]
  constructor
  · rintro ⟨h9, ha⟩
    refine ⟨h9, fun a b c d hk => ?_⟩
    have h3 := (sv_le.mp (ha a (by have := hk.1; omega))).2 b (by have := hk.1; omega)
    have h4 := (sv_le.mp ((sv_le.mp h3).2 c (by have := hk.2.1; omega))).2 d (by have := hk.2.1; omega)
    exact Nat.le_trans h4 (Nat.le_of_eq (if_pos hk))
  · rintro ⟨h9, hk⟩
    refine ⟨h9, fun a _ => sv_le.mpr ⟨h9, fun b _ => sv_le.mpr ⟨h9, fun c _ => sv_le.mpr ⟨h9, fun d _ => ?_⟩⟩⟩⟩
    split
    · rename_i hc
      exact hk a b c d hc
    · exact h9
theorem sv_split_small {n : Nat} : ∀ {t h l : Nat}, h + l < 2 → sv_split n t h l = 0
  | 0, _, _, _ => rfl
  | t + 1, h, l, h2 => by
    show (if h + l < 2 then 0 else _) = 0
    rw [if_pos h2]
theorem sv_fuel {n : Nat} : ∀ {t h l : Nat}, h + l ≤ t → sv_split n (t + 1) h l = sv_split n t h l
  | 0, h, l, hh => by
    rw [sv_split_small (by omega), sv_split_small (by omega)]
  | t + 1, h, l, hh => by
    by_cases h2 : 2 ≤ h + l
    · refine sv_eq (fun z => ?_)
      rw [sv_split_le h2, sv_split_le h2]
      refine and_congr_right (fun _ => ⟨fun hk a b c d ok => ?_, fun hk a b c d ok => ?_⟩)
      · have h3 := hk a b c d ok
        obtain ⟨o1, o2, ⟨o3, o4, o5⟩, -⟩ := ok
        rw [sv_fuel (h := h - a - b) (l := l - c - d) (by omega), sv_fuel (h := a) (l := d) (by omega), sv_fuel (h := b) (l := c) (by omega)] at h3
        exact h3
      · have h3 := hk a b c d ok
        obtain ⟨o1, o2, ⟨o3, o4, o5⟩, -⟩ := ok
        rw [sv_fuel (h := h - a - b) (l := l - c - d) (by omega), sv_fuel (h := a) (l := d) (by omega), sv_fuel (h := b) (l := c) (by omega)]
        exact h3
    · rw [sv_split_small (by omega), sv_split_small (by omega)]
theorem sv_fuel2 {n h l : Nat} : ∀ {k : Nat}, sv_split n (h + l + k) h l = sv_spl n h l
  | 0 => rfl
  | k + 1 => by
    have e := sv_fuel (n := n) (t := h + l + k) (h := h) (l := l) (by omega)
    rw [sv_fuel2 (k := k)] at e
    exact e
theorem sv_fuel3 {n t h l : Nat} (ht : h + l ≤ t) : sv_split n t h l = sv_spl n h l := by
  have e := sv_fuel2 (n := n) (h := h) (l := l) (k := t - (h + l))
  rw [Nat.add_sub_cancel' ht] at e
  exact e
/-- the needs of heavy and light suspects, by what every weighing leaves -/
theorem sv_spl_le {n h l z : Nat} (h2 : 2 ≤ h + l) : z ≤ sv_spl n h l ↔ z ≤ 99 ∧ ∀ a b c d, sv_ok n h l a b c d → z ≤ max (sv_spl n (h - a - b) (l - c - d)) (max (sv_spl n a d) (sv_spl n b c)) + 1 := by
  obtain ⟨t, ht⟩ : ∃ t, h + l = t + 1 := ⟨h + l - 1, by omega⟩
  have e : sv_spl n h l = sv_split n (t + 1) h l := by
    unfold sv_spl
    rw [ht]
  rw [e, sv_split_le h2]
  refine and_congr_right (fun _ => ⟨fun hk a b c d ok => ?_, fun hk a b c d ok => ?_⟩)
  · have h3 := hk a b c d ok
    obtain ⟨o1, o2, ⟨o3, o4, o5⟩, -⟩ := ok
    rw [sv_fuel3 (h := h - a - b) (l := l - c - d) (by omega), sv_fuel3 (h := a) (l := d) (by omega), sv_fuel3 (h := b) (l := c) (by omega)] at h3
    exact h3
  · have h3 := hk a b c d ok
    obtain ⟨o1, o2, ⟨o3, o4, o5⟩, -⟩ := ok
    rw [sv_fuel3 (h := h - a - b) (l := l - c - d) (by omega), sv_fuel3 (h := a) (l := d) (by omega), sv_fuel3 (h := b) (l := c) (by omega)]
    exact h3
theorem sv_spl_0 {n h l : Nat} (h2 : h + l < 2) : sv_spl n h l = 0 := sv_split_small h2
theorem sv_spl_99 {n h l : Nat} : sv_spl n h l ≤ 99 := by
  by_cases h2 : 2 ≤ h + l
  · exact ((sv_spl_le h2).mp (Nat.le_refl _)).1
  · rw [sv_spl_0 (by omega)]
    omega
theorem sv_ok_sym {n h l a b c d : Nat} (ok : sv_ok n h l a b c d) : sv_ok n l h d c b a := by
  obtain ⟨o1, o2, ⟨o3, o4, o5⟩, o6⟩ := ok
  refine ⟨by omega, by omega, ⟨by omega, by omega, by omega⟩, ?_⟩
  unfold sv_gap at o6 ⊢
  omega
theorem sv_sym {n : Nat} : ∀ (k : Nat) {h l : Nat}, h + l ≤ k → sv_spl n h l = sv_spl n l h
  | 0, h, l, hk => by
    rw [sv_spl_0 (by omega), sv_spl_0 (by omega)]
  | k + 1, h, l, hk => by
    by_cases h2 : 2 ≤ h + l
    · have one : ∀ {h l z : Nat}, h + l ≤ k + 1 → 2 ≤ h + l → z ≤ sv_spl n h l → z ≤ sv_spl n l h := by
        intro h l z hk h2 hz
        rw [sv_spl_le h2] at hz
        rw [sv_spl_le (by omega)]
        refine ⟨hz.1, fun a b c d ok => ?_⟩
        have h3 := hz.2 d c b a (sv_ok_sym ok)
        obtain ⟨o1, o2, ⟨o3, o4, o5⟩, -⟩ := ok
        rw [sv_sym k (h := h - d - c) (l := l - b - a) (by omega), sv_sym k (h := d) (l := a) (by omega), sv_sym k (h := c) (l := b) (by omega)] at h3
        have e1 : l - b - a = l - a - b := by omega
        have e2 : h - d - c = h - c - d := by omega
        rw [e1, e2] at h3
        exact h3
      exact sv_eq (fun z => ⟨fun hz => one hk h2 hz, fun hz => one (by omega) (by omega) hz⟩)
    · rw [sv_spl_0 (by omega), sv_spl_0 (by omega)]
theorem sv_spl_sym (n h l : Nat) : sv_spl n h l = sv_spl n l h := sv_sym (h + l) (Nat.le_refl _)
-- the suspects of both kinds
def sv_okm (n v a b : Nat) : Prop := a + b ≤ v ∧ 0 < a + b ∧ sv_gap a b ≤ n - v
theorem sv_mixf_le {n t v g z : Nat} (h2 : 2 ≤ 2 * v + g) : z ≤ sv_mixf n (t + 1) v g ↔ z ≤ 99 ∧ ∀ a b, sv_okm n v a b → z ≤ max (sv_mixf n t (v - a - b) g) (max (sv_spl n a b) (sv_spl n b a)) + 1 := by
  have e : sv_mixf n (t + 1) v g = sv_min (fun a => sv_min (fun b => if a + b ≤ v ∧ 0 < a + b ∧ sv_gap a b ≤ n - v then max (sv_mixf n t (v - a - b) g) (max (sv_spl n a b) (sv_spl n b a)) + 1 else 99) (v + 1)) (v + 1) := by
    show (if 2 * v + g < 2 then 0 else _) = _
    rw [if_neg (by omega)]
  rw [e, sv_le]
  constructor
  · rintro ⟨h9, ha⟩
    refine ⟨h9, fun a b hk => ?_⟩
    have h3 := (sv_le.mp (ha a (by have := hk.1; omega))).2 b (by have := hk.1; omega)
    exact Nat.le_trans h3 (Nat.le_of_eq (if_pos hk))
  · rintro ⟨h9, hk⟩
    refine ⟨h9, fun a _ => sv_le.mpr ⟨h9, fun b _ => ?_⟩⟩
    split
    · rename_i hc
      exact hk a b hc
    · exact h9
theorem sv_mixf_small {n : Nat} : ∀ {t v g : Nat}, 2 * v + g < 2 → sv_mixf n t v g = 0
  | 0, _, _, _ => rfl
  | t + 1, v, g, h2 => by
    show (if 2 * v + g < 2 then 0 else _) = 0
    rw [if_pos h2]
theorem sv_mfuel {n g : Nat} : ∀ {t v : Nat}, v + 1 ≤ t → sv_mixf n (t + 1) v g = sv_mixf n t v g
  | 0, v, hh => absurd hh (by omega)
  | t + 1, v, hh => by
    by_cases h2 : 2 ≤ 2 * v + g
    · refine sv_eq (fun z => ?_)
      rw [sv_mixf_le h2, sv_mixf_le h2]
      refine and_congr_right (fun _ => ⟨fun hk a b ok => ?_, fun hk a b ok => ?_⟩)
      · have h3 := hk a b ok
        obtain ⟨o1, o2, -⟩ := ok
        rw [sv_mfuel (v := v - a - b) (by omega)] at h3
        exact h3
      · have h3 := hk a b ok
        obtain ⟨o1, o2, -⟩ := ok
        rw [sv_mfuel (v := v - a - b) (by omega)]
        exact h3
    · rw [sv_mixf_small (by omega), sv_mixf_small (by omega)]
theorem sv_mfuel2 {n v g : Nat} : ∀ {k : Nat}, sv_mixf n (v + 1 + k) v g = sv_mix n v g
  | 0 => rfl
  | k + 1 => by
    have e := sv_mfuel (n := n) (g := g) (t := v + 1 + k) (v := v) (by omega)
    rw [sv_mfuel2 (k := k)] at e
    exact e
theorem sv_mix_le {n v g z : Nat} (h2 : 2 ≤ 2 * v + g) (hg : g ≤ 1) : z ≤ sv_mix n v g ↔ z ≤ 99 ∧ ∀ a b, sv_okm n v a b → z ≤ max (sv_mix n (v - a - b) g) (max (sv_spl n a b) (sv_spl n b a)) + 1 := by
  have fu : ∀ w, w + 1 ≤ v → sv_mixf n v w g = sv_mix n w g := by
    intro w hw
    have e := sv_mfuel2 (n := n) (v := w) (g := g) (k := v - (w + 1))
    rw [Nat.add_sub_cancel' hw] at e
    exact e
  have e : sv_mix n v g = sv_mixf n (v + 1) v g := rfl
  rw [e, sv_mixf_le h2]
  refine and_congr_right (fun _ => ⟨fun hk a b ok => ?_, fun hk a b ok => ?_⟩)
  · have h3 := hk a b ok
    obtain ⟨o1, o2, -⟩ := ok
    rw [fu (v - a - b) (by omega)] at h3
    exact h3
  · have h3 := hk a b ok
    obtain ⟨o1, o2, -⟩ := ok
    rw [fu (v - a - b) (by omega)]
    exact h3
theorem sv_mix_0 {n v g : Nat} (h2 : 2 * v + g < 2) : sv_mix n v g = 0 := sv_mixf_small h2
theorem sv_mix_99 {n v g : Nat} (hg : g ≤ 1) : sv_mix n v g ≤ 99 := by
  by_cases h2 : 2 ≤ 2 * v + g
  · exact ((sv_mix_le h2 hg).mp (Nat.le_refl _)).1
  · rw [sv_mix_0 (by omega)]
    omega
-- a walk that keeps the least
def lf (g : Nat → Nat → Nat) (w : Nat) : Nat → Nat
  | 0 => w
  | k + 1 => g k (lf g w k)
theorem lf_le {g : Nat → Nat → Nat} {P : Nat → Prop} {z : Nat} : ∀ {n w : Nat}, (∀ k w, k < n → (z ≤ g k w ↔ z ≤ w ∧ P k)) → (z ≤ lf g w n ↔ z ≤ w ∧ ∀ k, k < n → P k)
  | 0, w, _ => ⟨fun h => ⟨h, fun k hk => absurd hk (Nat.not_lt_zero k)⟩, fun h => h.1⟩
  | n + 1, w, hg => by
    show z ≤ g n (lf g w n) ↔ _
    rw [hg n _ (by omega), lf_le (fun k w hk => hg k w (by omega))]
    constructor
    · rintro ⟨⟨h1, h2⟩, h3⟩
      refine ⟨h1, fun k hk => ?_⟩
      by_cases h : k = n
      · subst h
        exact h3
      · exact h2 k (by omega)
    · rintro ⟨h1, h2⟩
      exact ⟨⟨h1, fun k hk => h2 k (by omega)⟩, h2 n (by omega)⟩
theorem lf_ub {g : Nat → Nat → Nat} {B : Nat} (hg : ∀ k w, w ≤ B → g k w ≤ B) {w : Nat} (hw : w ≤ B) : ∀ n, lf g w n ≤ B
  | 0 => hw
  | n + 1 => hg n _ (lf_ub hg hw n)
theorem sg_abs_2 : ∀ p, p < 32 → ∀ q, q < 32 → si_abs (nI p - nI q) = nI (sv_gap p q) := by decide +kernel
theorem sg_sub (x y z : Int32) : x - y - z = x - (y + z) := by
  rw [Int32.sub_eq_add_neg, Int32.sub_eq_add_neg, Int32.sub_eq_add_neg, Int32.neg_add, Int32.add_assoc, Int32.sub_eq_add_neg]
theorem sg_abs {a b c d : Nat} (h1 : a + c < 32) (h2 : b + d < 32) : si_abs (((nI a + nI c) - nI b) - nI d) = nI (sv_gap (a + c) (b + d)) := by
  rw [sg_sub, nI_add, nI_add, sg_abs_2 _ h1 _ h2]
theorem sg_max {a b : Nat} (ha : a < 2 ^ 31) (hb : b < 2 ^ 31) : si_max (nI a) (nI b) = nI (max a b) := by
  unfold si_max
  by_cases h : a < b
  · rw [if_pos (nI_lt h hb), Nat.max_eq_right (by omega)]
  · rw [if_neg (nI_nlt (by omega) ha), Nat.max_eq_left (by omega)]
theorem sg_min {a b : Nat} (ha : a < 2 ^ 31) (hb : b < 2 ^ 31) : si_min (nI a) (nI b) = nI (min a b) := by
  unfold si_min
  by_cases h : b < a
  · rw [if_pos (nI_lt h ha), Nat.min_eq_right (by omega)]
  · rw [if_neg (nI_nlt (by omega) hb), Nat.min_eq_left (by omega)]

