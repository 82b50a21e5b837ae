-- WHAT BOTH SIDES KEEP: one market u (u 0 0 traders, u 1 0 scales, u 2 0 masses, u 3 0 sets; u 4 .. 7 of a scale its trader, its kind of accuracy, division, capacity; u 8 a mass; u 9, u 10 a set's weights, maybe; u 11 a term or 0)
def iv_mok (u : Nat → Nat → Nat) : Prop := u 0 0 ≤ 8 ∧ u 1 0 ≤ 24 ∧ u 2 0 ≤ 10 ∧ u 3 0 ≤ 4 ∧ (∀ i, i < u 1 0 → u 4 i < u 0 0 ∧ u 5 i < 3 ∧ 1 ≤ u 6 i ∧ u 6 i ≤ 1000 ∧ 20 * u 6 i ≤ u 7 i ∧ u 7 i ≤ 999999) ∧ (∀ i, i < u 2 0 → 1 ≤ u 8 i ∧ u 8 i ≤ 1000098) ∧ (∀ i, i < u 3 0 → 2 ≤ u 9 i ∧ u 9 i ≤ 12 ∧ u 10 i ≤ 1) ∧ ∀ c, c < 3 → u 11 c ≤ 5
def iv_mk (s1 : Nat → Int32) (ar : Nat → Nat → Int32) (u : Nat → Nat → Nat) : Prop := (∀ j, j < 4 → s1 j = nI (u j 0)) ∧ (∀ i, i < u 1 0 → ar 1 i = nI (u 4 i) ∧ ar 2 i = nI (u 5 i) ∧ ar 3 i = nI (u 6 i) ∧ ar 4 i = nI (u 7 i)) ∧ (∀ i, i < u 2 0 → ar 5 i = nI (u 8 i)) ∧ (∀ i, i < u 3 0 → ar 6 i = nI (u 9 i) ∧ ar 7 i = nI (u 10 i)) ∧ ∀ c, c < 3 → ar 8 c = nI (u 11 c)
def iv_mm (s1 : Nat → Int32) (ar : Nat → Nat → Int32) (u : Nat → Nat → Nat) : Prop := s1 2 = nI (u 0 0) ∧ s1 3 = nI (u 1 0) ∧ s1 8 = nI (u 2 0) ∧ s1 10 = nI (u 3 0) ∧ (∀ i, i < u 1 0 → ar 89 i = nI (u 4 i) ∧ ar 90 i = nI (u 5 i) ∧ ar 91 i = nI (u 6 i) ∧ ar 92 i = nI (u 7 i)) ∧ (∀ i, i < u 2 0 → ar 93 i = nI (u 8 i)) ∧ (∀ i, i < u 3 0 → ar 94 i = nI (u 9 i) ∧ ar 95 i = nI (u 10 i)) ∧ ∀ c, c < 3 → ar 96 c = nI (if u 11 c = 0 then 2 else u 11 c)
def iv_buf (n1 n2 : Int32) (t1 t2 : Nat → Int32) : Prop := ∃ n, n ≤ 800 ∧ n1 = nI n ∧ n2 = nI n ∧ ∀ i, i < n → t1 i = t2 i ∧ si_i2b (t1 i) = t1 i
/-- the sum of a set of masses -/
def sm_sum (f : Nat → Nat) : Nat → Nat → Nat
  | 0, _ => 0
  | m + 1, st => sm_sum f m st + if st.testBit m then f m else 0
def iv_ld (n : Int32) (so : Nat → Int32) (u : Nat → Nat → Nat) : Prop := n = nI (2 ^ u 2 0) ∧ ∀ st, st < 2 ^ u 2 0 → so st = nI (sm_sum (u 8) (u 2 0) st)
/-- a way to lay the masses a .. a + n - 1 on two pans, told by the digits of i to the base 3: the difference above bit 24, then how many, the right set, the left set -/
def sm_way (f : Nat → Nat) (a : Nat) : Nat → Nat → Int
  | 0, _ => 0
  | n + 1, i => sm_way f a n i + (if i / 3 ^ n % 3 = 1 then (f (a + n) : Int) * 2 ^ 24 + 2 ^ 20 + 2 ^ (10 + (a + n)) else if i / 3 ^ n % 3 = 2 then -((f (a + n) : Int) * 2 ^ 24) + 2 ^ 20 + 2 ^ (a + n) else 0)
def iv_way (n1 n2 : Int32) (w1 w2 : Nat → Int64) (u : Nat → Nat → Nat) : Prop := ∃ a b, a + b = u 2 0 ∧ a ≤ 5 ∧ b ≤ 5 ∧ n1 = nI (3 ^ a) ∧ n2 = nI (3 ^ b) ∧ (∀ i, i < 3 ^ a → (w1 i).toInt = sm_way (u 8) 0 a i) ∧ (∀ i, i < 3 ^ b → ∃ j, j < 3 ^ b ∧ (w2 i).toInt = sm_way (u 8) a b j) ∧ (∀ j, j < 3 ^ b → ∃ i, i < 3 ^ b ∧ (w2 i).toInt = sm_way (u 8) a b j) ∧ ∀ i j, i ≤ j → j < 3 ^ b → (w2 i).toInt ≤ (w2 j).toInt
/-- the visits of the one side (c of them, rows a 1 .. a 8) and of the other (one row nw) -/
def iv_vr (u : Nat → Nat → Nat) (c : Int32) (a : Nat → Nat → Int32) (nw : Nat → Int32) : Prop := ∃ V, V ≤ 30 ∧ c = nI V ∧ nw 0 = nI V ∧ ∀ v, v < V →
  (∃ s, s < u 1 0 ∧ a 1 v = nI s ∧ nw (1 + v) = nI s ∧ ∃ n, n ≤ 8 ∧ a 5 v = nI n ∧ nw (151 + v) = nI n ∧ ∀ t, t < n → ∃ st, st < 2 ^ u 2 0 ∧ sm_sum (u 8) (u 2 0) st ≤ u 7 s ∧ a 6 (8 * v + t) = nI st ∧ nw (181 + (8 * v + t)) = nI st ∧ a 7 (8 * v + t) = nI (sm_sum (u 8) (u 2 0) st) ∧ -1999999 ≤ (nw (421 + (8 * v + t))).toInt ∧ (nw (421 + (8 * v + t))).toInt ≤ 1999999 ∧ a 8 (8 * v + t) = nw (421 + (8 * v + t)) - nI (sm_sum (u 8) (u 2 0) st)) ∧
  (∃ d, d ≤ 9999 ∧ a 2 v = nI d ∧ nw (31 + v) = nI d) ∧ (∃ b, b ≤ 1 ∧ a 3 v = nI b ∧ nw (121 + v) = nI b) ∧
  ((a 4 v = -1 ∧ nw (61 + v) = 0) ∨ ∃ r, r ≤ 5 ∧ a 4 v = nI r ∧ nw (61 + v) = 1 ∧ nw (91 + v) = nI r)
/-- the sets: heavy and light suspects, genuine, weighings -/
def iv_wr (u : Nat → Nat → Nat) (a : Nat → Nat → Int32) (nw : Nat → Int32) : Prop := ∀ k, k < u 3 0 → ∃ h l g w, a 1 k = nI h ∧ nw (661 + k) = nI h ∧ a 2 k = nI l ∧ nw (665 + k) = nI l ∧ a 3 k = nI g ∧ nw (669 + k) = nI g ∧ a 4 k = nI w ∧ nw (673 + k) = nI w ∧ h < 2 ^ u 9 k ∧ l < 2 ^ u 9 k ∧ w ≤ 20 ∧ g ≤ 1 ∧ ((h = l ∧ g ≤ u 10 k) ∨ (h &&& l = 0 ∧ g = 0)) ∧ (0 < h ∨ 0 < l ∨ g = 1)
def iv_view (u : Nat → Nat → Nat) (c : Int32) (va wa : Nat → Nat → Int32) (nw : Nat → Int32) : Prop := iv_vr u c va nw ∧ iv_wr u wa nw
/-- a row's one place anew -/
def iv_up (a : Nat → Nat → Int32) (j i : Nat) (x : Int32) : Nat → Nat → Int32 := fun p q => if p = j ∧ q = i then x else a p q
/-- the latest d changes, the latest at the place before p of the ring hi (0 what, 1 of which, 2 .. 4 heavy, light, genuine before), each with what the other side keeps of it -/
def iv_ch (u : Nat → Nat → Nat) (hi : Nat → Nat → Int32) (und : Nat → Nat → Int32) : Nat → Nat → Int32 → (Nat → Nat → Int32) → (Nat → Nat → Int32) → Prop
  | 0, _, _, _, _ => True
  | d + 1, p, c, va, wa => ∃ k x, hi 0 ((p + 11) % 12) = nI k ∧ hi 1 ((p + 11) % 12) = nI x ∧
    ((k = 0 ∧ c = nI (x + 1) ∧ iv_view u (nI x) va wa (und d) ∧ iv_ch u hi und d ((p + 11) % 12) (nI x) va wa) ∨
     (k = 1 ∧ x < 30 ∧ iv_view u c (iv_up va 5 x (va 5 x - 1)) wa (und d) ∧ iv_ch u hi und d ((p + 11) % 12) c (iv_up va 5 x (va 5 x - 1)) wa) ∨
     (k = 2 ∧ x < 30 ∧ iv_view u c (iv_up va 4 x (-1)) wa (und d) ∧ iv_ch u hi und d ((p + 11) % 12) c (iv_up va 4 x (-1)) wa) ∨
     (k = 3 ∧ x < 4 ∧ iv_view u c va (iv_up (iv_up (iv_up (iv_up wa 1 x (hi 2 ((p + 11) % 12))) 2 x (hi 3 ((p + 11) % 12))) 3 x (hi 4 ((p + 11) % 12))) 4 x (wa 4 x - 1)) (und d) ∧ iv_ch u hi und d ((p + 11) % 12) c va (iv_up (iv_up (iv_up (iv_up wa 1 x (hi 2 ((p + 11) % 12))) 2 x (hi 3 ((p + 11) % 12))) 3 x (hi 4 ((p + 11) % 12))) 4 x (wa 4 x - 1))))
def iv_hist (u : Nat → Nat → Nat) (dp nx un : Int32) (hi : Nat → Nat → Int32) (und : Nat → Int32) (c : Int32) (va wa : Nat → Nat → Int32) : Prop := ∃ d p, d ≤ 12 ∧ p < 12 ∧ dp = nI d ∧ nx = nI p ∧ un = nI d ∧ iv_ch u hi (fun k i => und (677 * k + i)) d p c va wa
def iv_slot (u : Nat → Nat → Nat) (f g : Int32) (c : Int32) (va wa : Nat → Nat → Int32) (nw : Nat → Int32) : Prop := (f = 0 ∧ g = 0) ∨ (f = 1 ∧ g = 1 ∧ iv_view u c va wa nw)
/-- the places that count -/
def iv_rs (k j : Nat) : Bool := decide ((k, j) ∈ [(1, 1), (1, 2), (3, 1), (3, 3), (3, 5), (7, 0), (21, 0), (21, 1), (27, 2), (28, 0), (42, 2), (43, 0), (69, 0), (69, 1), (69, 2), (69, 3), (78, 0), (78, 1), (78, 2), (78, 3), (87, 2), (87, 3), (87, 8), (87, 10), (87, 15), (87, 22), (87, 41)])
def iv_ra (k : Nat) : Bool := decide (k ∈ [2, 4, 8, 9, 10, 11, 12, 13, 14, 15, 17, 18, 19, 20, 22, 23, 24, 25, 26, 29, 30, 31, 32, 33, 34, 35, 36, 38, 39, 40, 41, 44, 45, 46, 47, 48, 49, 50, 51, 53, 54, 55, 56, 66, 67, 68, 70, 71, 72, 73, 74, 75, 76, 77, 79, 80, 81, 82, 83, 84, 85, 86, 88, 89, 90, 91, 92, 93, 94, 95, 96, 97, 110, 111, 112])
/-- the tables of the solver for n weights: spl by heavy and light suspects, mix by suspects of both kinds and maybe -/
def iv_sv (spl : Nat → Nat → Nat → Nat) (mix : Nat → Nat → Nat → Nat) (rd sp mx : Nat → Int32) : Prop := ∀ n, n ≤ 12 → rd n = 0 ∨ (rd n = 1 ∧ (∀ h l, h + l ≤ n → sp ((n * 13 + h) * 13 + l) = nI (spl n h l)) ∧ ∀ v g, v ≤ n → g ≤ 1 → mx ((n * 13 + v) * 2 + g) = nI (mix n v g))
-- how many weighings are needed: the least over the weighings that tell something, 99 where there is none
def sv_min (f : Nat → Nat) : Nat → Nat
  | 0 => 99
  | n + 1 => min (sv_min f n) (f n)
def sv_gap (a b : Nat) : Nat := (a - b) + (b - a)
def sv_split (n : Nat) : Nat → Nat → Nat → Nat
  | 0, _, _ => 0
  | t + 1, h, l => if h + l < 2 then 0 else sv_min (fun a => sv_min (fun b => sv_min (fun c => sv_min (fun d => if a + b ≤ h ∧ c + d ≤ l ∧ (a + d < h + l ∧ b + c < h + l ∧ 0 < a + b + c + d) ∧ sv_gap (a + c) (b + d) ≤ n - (h + l) then max (sv_split n t (h - a - b) (l - c - d)) (max (sv_split n t a d) (sv_split n t b c)) + 1 else 99) (l + 1)) (l + 1)) (h + 1)) (h + 1)
def sv_spl (n h l : Nat) : Nat := sv_split n (h + l) h l
def sv_mixf (n : Nat) : Nat → Nat → Nat → Nat
  | 0, _, _ => 0
  | t + 1, v, g => if 2 * v + g < 2 then 0 else sv_min (fun a => sv_min (fun b => if a + b ≤ v ∧ 0 < a + b ∧ sv_gap a b ≤ n - v then max (sv_mixf n t (v - a - b) g) (max (sv_spl n a b) (sv_spl n b a)) + 1 else 99) (v + 1)) (v + 1)
def sv_mix (n v g : Nat) : Nat := sv_mixf n (v + 1) v g
/-- all that both sides keep, the market in force at the cell mk -/
def iv_at (S : si_St) (u : Nat → Nat → Nat) (mk : Nat) : Prop :=
  iv_mok u ∧ iv_mk (S.1 mk) (fun j => S.2.1 (mk + j)) u ∧ iv_mm (S.1 87) S.2.1 u ∧ iv_buf (S.1 1 1) (S.1 87 15) (S.2.1 2) (S.2.1 97) ∧ S.1 1 2 = S.1 87 22 ∧ iv_ld (S.1 3 1) (S.2.1 4) u ∧ iv_way (S.1 3 3) (S.1 3 5) (S.2.2.1 5) (S.2.2.1 6) u ∧
  iv_view u (S.1 7 0) (fun j => S.2.1 (7 + j)) (fun j => S.2.1 (16 + j)) (S.2.1 88) ∧ iv_hist u (S.1 21 0) (S.1 21 1) (S.1 87 41) (fun j => S.2.1 (22 + j)) (S.2.1 110) (S.1 7 0) (fun j => S.2.1 (7 + j)) (fun j => S.2.1 (16 + j)) ∧
  iv_slot u (S.1 27 2) (S.2.1 112 0) (S.1 28 0) (fun j => S.2.1 (28 + j)) (fun j => S.2.1 (37 + j)) (fun i => S.2.1 111 i) ∧ iv_slot u (S.1 42 2) (S.2.1 112 1) (S.1 43 0) (fun j => S.2.1 (43 + j)) (fun j => S.2.1 (52 + j)) (fun i => S.2.1 111 (677 + i)) ∧
  iv_sv sv_spl sv_mix (S.2.1 66) (S.2.1 67) (S.2.1 68)
def iv_mks (S : si_St) (mk : Nat) : Prop := (mk = 69 ∧ S.2.2.2 0 = 69 ∧ S.2.2.2 1 = 78) ∨ (mk = 78 ∧ S.2.2.2 0 = 78 ∧ S.2.2.2 1 = 69)
def iv_all (S : si_St) : Prop := ∃ u mk, iv_mks S mk ∧ iv_at S u mk
/-- the same where it counts -/
def iv_same (S S' : si_St) : Prop := (∀ k j, iv_rs k j = true → S'.1 k j = S.1 k j) ∧ (∀ k, iv_ra k = true → S'.2.1 k = S.2.1 k) ∧ S'.2.2.1 5 = S.2.2.1 5 ∧ S'.2.2.1 6 = S.2.2.1 6 ∧ S'.2.2.2 0 = S.2.2.2 0 ∧ S'.2.2.2 1 = S.2.2.2 1
theorem iv_same.rf (S : si_St) : iv_same S S := ⟨fun _ _ _ => rfl, fun _ _ => rfl, rfl, rfl, rfl, rfl⟩
theorem iv_same.tr {S S' S2 : si_St} (h : iv_same S S') (h2 : iv_same S' S2) : iv_same S S2 := ⟨fun k j hk => (h2.1 k j hk).trans (h.1 k j hk), fun k hk => (h2.2.1 k hk).trans (h.2.1 k hk), h2.2.2.1.trans h.2.2.1, h2.2.2.2.1.trans h.2.2.2.1, h2.2.2.2.2.1.trans h.2.2.2.2.1, h2.2.2.2.2.2.trans h.2.2.2.2.2⟩
theorem iv_same.ps {S : si_St} {k j : Nat} {v : Int32} (h : iv_rs k j = false) : iv_same S (si_ps S k j v) := by
  refine ⟨fun a b hab => ?_, fun _ _ => rfl, rfl, rfl, rfl, rfl⟩
  show (if a = k ∧ b = j then v else S.1 a b) = S.1 a b
  rw [if_neg]
  rintro ⟨rfl, rfl⟩
  rw [h] at hab
  cases hab
theorem iv_same.pa {S : si_St} {k i : Nat} {v : Int32} (h : iv_ra k = false) : iv_same S (si_pa S k i v) := by
  refine ⟨fun _ _ _ => rfl, fun a ha => ?_, rfl, rfl, rfl, rfl⟩
  funext b
  show (if a = k ∧ b = i then v else S.2.1 a b) = S.2.1 a b
  rw [if_neg]
  rintro ⟨rfl, rfl⟩
  rw [h] at ha
  cases ha
theorem iv_same.pl {S : si_St} {k i : Nat} {v : Int64} (h5 : k ≠ 5) (h6 : k ≠ 6) : iv_same S (si_pl S k i v) := by
  refine ⟨fun _ _ _ => rfl, fun _ _ => rfl, ?_, ?_, rfl, rfl⟩
  · funext b
    show (if 5 = k ∧ b = i then v else S.2.2.1 5 b) = S.2.2.1 5 b
    rw [if_neg (fun h => h5 h.1.symm)]
  · funext b
    show (if 6 = k ∧ b = i then v else S.2.2.1 6 b) = S.2.2.1 6 b
    rw [if_neg (fun h => h6 h.1.symm)]
theorem iv_mk.cg {s s' : Nat → Int32} {a a' : Nat → Nat → Int32} {u : Nat → Nat → Nat} (hs : ∀ j, j < 4 → s' j = s j) (ha : ∀ j, 1 ≤ j → j ≤ 8 → a' j = a j) (h : iv_mk s a u) : iv_mk s' a' u := by
  obtain ⟨h1, h2, h3, h4, h5⟩ := h
  refine ⟨fun j hj => (hs j hj).trans (h1 j hj), fun i hi => ?_, fun i hi => ?_, fun i hi => ?_, fun c hc => ?_⟩
  · rw [ha 1 (by decide) (by decide), ha 2 (by decide) (by decide), ha 3 (by decide) (by decide), ha 4 (by decide) (by decide)]
    exact h2 i hi
  · rw [ha 5 (by decide) (by decide)]
    exact h3 i hi
  · rw [ha 6 (by decide) (by decide), ha 7 (by decide) (by decide)]
    exact h4 i hi
  · rw [ha 8 (by decide) (by decide)]
    exact h5 c hc
theorem iv_vr.cg {u : Nat → Nat → Nat} {c : Int32} {a a' : Nat → Nat → Int32} {nw : Nat → Int32} (ha : ∀ j, 1 ≤ j → j ≤ 8 → a' j = a j) (h : iv_vr u c a nw) : iv_vr u c a' nw := by
  unfold iv_vr at h ⊢
  rw [ha 1 (by decide) (by decide), ha 2 (by decide) (by decide), ha 3 (by decide) (by decide), ha 4 (by decide) (by decide), ha 5 (by decide) (by decide), ha 6 (by decide) (by decide), ha 7 (by decide) (by decide), ha 8 (by decide) (by decide)]
  exact h
theorem iv_wr.cg {u : Nat → Nat → Nat} {a a' : Nat → Nat → Int32} {nw : Nat → Int32} (ha : ∀ j, 1 ≤ j → j ≤ 4 → a' j = a j) (h : iv_wr u a nw) : iv_wr u a' nw := by
  unfold iv_wr at h ⊢
  rw [ha 1 (by decide) (by decide), ha 2 (by decide) (by decide), ha 3 (by decide) (by decide), ha 4 (by decide) (by decide)]
  exact h
theorem iv_view.cg {u : Nat → Nat → Nat} {c : Int32} {va va' wa wa' : Nat → Nat → Int32} {nw : Nat → Int32} (hv : ∀ j, 1 ≤ j → j ≤ 8 → va' j = va j) (hw : ∀ j, 1 ≤ j → j ≤ 4 → wa' j = wa j) (h : iv_view u c va wa nw) : iv_view u c va' wa' nw := ⟨h.1.cg hv, h.2.cg hw⟩
theorem iv_up.cg {a a' : Nat → Nat → Int32} {n j i : Nat} {x x' : Int32} (h : ∀ q, 1 ≤ q → q ≤ n → a' q = a q) (hx : x' = x) : ∀ q, 1 ≤ q → q ≤ n → iv_up a' j i x' q = iv_up a j i x q := by
  intro q h1 h2
  funext b
  unfold iv_up
  rw [h q h1 h2, hx]
theorem iv_ch.cg {u : Nat → Nat → Nat} {hi hi' : Nat → Nat → Int32} {und : Nat → Nat → Int32} (hh : ∀ j, j < 5 → hi' j = hi j) : ∀ (d p : Nat) (c : Int32) (va va' wa wa' : Nat → Nat → Int32), (∀ j, 1 ≤ j → j ≤ 8 → va' j = va j) → (∀ j, 1 ≤ j → j ≤ 4 → wa' j = wa j) → iv_ch u hi und d p c va wa → iv_ch u hi' und d p c va' wa'
  | 0, _, _, _, _, _, _, _, _, _ => trivial
  | d + 1, p, c, va, va', wa, wa', hv, hw, h => by
    obtain ⟨k, x, h0, h1, h2⟩ := h
    refine ⟨k, x, by rw [hh 0 (by decide)]; exact h0, by rw [hh 1 (by decide)]; exact h1, ?_⟩
    rw [hh 2 (by decide), hh 3 (by decide), hh 4 (by decide)]
    rcases h2 with ⟨a1, a2, a3, a4⟩ | ⟨a1, a2, a3, a4⟩ | ⟨a1, a2, a3, a4⟩ | ⟨a1, a2, a3, a4⟩
    · exact Or.inl ⟨a1, a2, a3.cg hv hw, iv_ch.cg hh d _ _ _ _ _ _ hv hw a4⟩
    · have e : va' 5 x - 1 = va 5 x - 1 := by rw [hv 5 (by decide) (by decide)]
      exact Or.inr (Or.inl ⟨a1, a2, a3.cg (iv_up.cg hv e) hw, iv_ch.cg hh d _ _ _ _ _ _ (iv_up.cg hv e) hw a4⟩)
    · exact Or.inr (Or.inr (Or.inl ⟨a1, a2, a3.cg (iv_up.cg hv rfl) hw, iv_ch.cg hh d _ _ _ _ _ _ (iv_up.cg hv rfl) hw a4⟩))
    · have e : wa' 4 x - 1 = wa 4 x - 1 := by rw [hw 4 (by decide) (by decide)]
      exact Or.inr (Or.inr (Or.inr ⟨a1, a2, a3.cg hv (iv_up.cg (iv_up.cg (iv_up.cg (iv_up.cg hw rfl) rfl) rfl) e), iv_ch.cg hh d _ _ _ _ _ _ hv (iv_up.cg (iv_up.cg (iv_up.cg (iv_up.cg hw rfl) rfl) rfl) e) a4⟩))
theorem iv_all.go {S S' : si_St} (h : iv_all S) (e : iv_same S S') : iv_all S' := by
  obtain ⟨u, mk, hmk, g0, g1, g2, g3, g4, g5, g6, g7, g8, g9, g10, g11⟩ := h
  obtain ⟨es, ea, l5, l6, r0, r1⟩ := e
  have hm : mk = 69 ∨ mk = 78 := hmk.imp (fun h => h.1) (fun h => h.1)
  refine ⟨u, mk, ?_, g0, ?_, ?_, ?_, ?_, ?_, ?_, ?_, ?_, ?_, ?_, ?_⟩
  · unfold iv_mks
    rw [r0, r1]
    exact hmk
  · refine g1.cg (fun j hj => ?_) (fun j h1 h8 => ?_)
    · have : j = 0 ∨ j = 1 ∨ j = 2 ∨ j = 3 := by omega
      rcases hm with rfl | rfl <;> rcases this with rfl | rfl | rfl | rfl <;> exact es _ _ rfl
    · have : j = 1 ∨ j = 2 ∨ j = 3 ∨ j = 4 ∨ j = 5 ∨ j = 6 ∨ j = 7 ∨ j = 8 := by omega
      rcases hm with rfl | rfl <;> rcases this with rfl | rfl | rfl | rfl | rfl | rfl | rfl | rfl <;> exact ea _ rfl
  · unfold iv_mm at g2 ⊢
    rw [es 87 2 rfl, es 87 3 rfl, es 87 8 rfl, es 87 10 rfl, ea 89 rfl, ea 90 rfl, ea 91 rfl, ea 92 rfl, ea 93 rfl, ea 94 rfl, ea 95 rfl, ea 96 rfl]
    exact g2
  · rw [es 1 1 rfl, es 87 15 rfl, ea 2 rfl, ea 97 rfl]
    exact g3
  · rw [es 1 2 rfl, es 87 22 rfl]
    exact g4
  · rw [es 3 1 rfl, ea 4 rfl]
    exact g5
  · rw [es 3 3 rfl, es 3 5 rfl, l5, l6]
    exact g6
  · rw [es 7 0 rfl, ea 88 rfl]
    refine g7.cg (fun j h1 h8 => ?_) (fun j h1 h4 => ?_)
    · have : j = 1 ∨ j = 2 ∨ j = 3 ∨ j = 4 ∨ j = 5 ∨ j = 6 ∨ j = 7 ∨ j = 8 := by omega
      rcases this with rfl | rfl | rfl | rfl | rfl | rfl | rfl | rfl <;> exact ea _ rfl
    · have : j = 1 ∨ j = 2 ∨ j = 3 ∨ j = 4 := by omega
      rcases this with rfl | rfl | rfl | rfl <;> exact ea _ rfl
  · unfold iv_hist at g8 ⊢
    rw [es 21 0 rfl, es 21 1 rfl, es 87 41 rfl, es 7 0 rfl, ea 110 rfl]
    obtain ⟨d, p, q1, q2, q3, q4, q5, q6⟩ := g8
    refine ⟨d, p, q1, q2, q3, q4, q5, iv_ch.cg (fun j hj => ?_) _ _ _ _ _ _ _ (fun j h1 h8 => ?_) (fun j h1 h4 => ?_) q6⟩
    · have : j = 0 ∨ j = 1 ∨ j = 2 ∨ j = 3 ∨ j = 4 := by omega
      rcases this with rfl | rfl | rfl | rfl | rfl <;> exact ea _ rfl
    · have : j = 1 ∨ j = 2 ∨ j = 3 ∨ j = 4 ∨ j = 5 ∨ j = 6 ∨ j = 7 ∨ j = 8 := by omega
      rcases this with rfl | rfl | rfl | rfl | rfl | rfl | rfl | rfl <;> exact ea _ rfl
    · have : j = 1 ∨ j = 2 ∨ j = 3 ∨ j = 4 := by omega
      rcases this with rfl | rfl | rfl | rfl <;> exact ea _ rfl
  · unfold iv_slot at g9 ⊢
    rw [es 27 2 rfl, es 28 0 rfl, ea 112 rfl, ea 111 rfl]
    rcases g9 with h | ⟨h1, h2, h3⟩
    · exact Or.inl h
    · refine Or.inr ⟨h1, h2, h3.cg (fun j h1 h8 => ?_) (fun j h1 h4 => ?_)⟩
      · have : j = 1 ∨ j = 2 ∨ j = 3 ∨ j = 4 ∨ j = 5 ∨ j = 6 ∨ j = 7 ∨ j = 8 := by omega
        rcases this with rfl | rfl | rfl | rfl | rfl | rfl | rfl | rfl <;> exact ea _ rfl
      · have : j = 1 ∨ j = 2 ∨ j = 3 ∨ j = 4 := by omega
        rcases this with rfl | rfl | rfl | rfl <;> exact ea _ rfl
  · unfold iv_slot at g10 ⊢
    rw [es 42 2 rfl, es 43 0 rfl, ea 112 rfl, ea 111 rfl]
    rcases g10 with h | ⟨h1, h2, h3⟩
    · exact Or.inl h
    · refine Or.inr ⟨h1, h2, h3.cg (fun j h1 h8 => ?_) (fun j h1 h4 => ?_)⟩
      · have : j = 1 ∨ j = 2 ∨ j = 3 ∨ j = 4 ∨ j = 5 ∨ j = 6 ∨ j = 7 ∨ j = 8 := by omega
        rcases this with rfl | rfl | rfl | rfl | rfl | rfl | rfl | rfl <;> exact ea _ rfl
      · have : j = 1 ∨ j = 2 ∨ j = 3 ∨ j = 4 := by omega
        rcases this with rfl | rfl | rfl | rfl <;> exact ea _ rfl
  · rw [ea 66 rfl, ea 67 rfl, ea 68 rfl]
    exact g11

