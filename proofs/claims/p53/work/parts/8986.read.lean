-- READING A TEXT THAT IS KNOWN
def at_ (c : Nat → Nat) (N p : Nat) (L : List Nat) : Prop := p + L.length = N ∧ ∀ i, i < L.length → c (p + i) = L.getD i 0
theorem at_app {c : Nat → Nat} {N p : Nat} {W L : List Nat} (h : at_ c N p (W ++ L)) : at_ c N (p + W.length) L ∧ ∀ i, i < W.length → c (p + i) = W.getD i 0 := by
  obtain ⟨h1, h2⟩ := h
  rw [List.length_append] at h1 h2
  refine ⟨⟨by omega, fun i hi => ?_⟩, fun i hi => ?_⟩
  · have := h2 (W.length + i) (by omega)
    rw [bd_getD_app2, if_neg (by omega), Nat.add_sub_cancel_left] at this
    rw [← this]
    congr 1
    omega
  · have := h2 i (by omega)
    rw [bd_getD_app2, if_pos hi] at this
    exact this
theorem at_cons {c : Nat → Nat} {N p x : Nat} {L : List Nat} (h : at_ c N p (x :: L)) : at_ c N (p + 1) L ∧ c p = x ∧ p < N := by
  have h2 := at_app (W := [x]) h
  refine ⟨h2.1, h2.2 0 Nat.zero_lt_one, ?_⟩
  have := h.1
  rw [List.length_cons] at this
  omega
theorem rn_word {q : Nat → Bool} {c : Nat → Nat} : ∀ n d p, n ≤ d → (∀ i, i < n → q (c (p + i)) = true) → (n < d → ¬ q (c (p + n)) = true) → rn q c d p = p + n
  | 0, 0, p, _, _, _ => rfl
  | 0, d + 1, p, _, _, h => by
    unfold rn
    rw [if_neg (show ¬ q (c p) = true from h (by omega))]
    rfl
  | n + 1, 0, p, h, _, _ => absurd h (by omega)
  | n + 1, d + 1, p, h, h1, h2 => by
    unfold rn
    rw [if_pos (show q (c p) = true from h1 0 (by omega)), rn_word n d (p + 1) (by omega) (fun i hi => by
      have := h1 (i + 1) (by omega)
      rw [show p + 1 + i = p + (i + 1) by omega]
      exact this) (fun hd => by
      have := h2 (by omega)
      rw [show p + 1 + n = p + (n + 1) by omega]
      exact this)]
    omega
theorem tok_sp {c : Nat → Nat} {N p : Nat} {L : List Nat} (h : at_ c N p (32 :: L)) : pt c N p = pt c N (p + 1) := by
  obtain ⟨-, h2, h3⟩ := at_cons h
  have e : rn tk_bl c (N - p) p = rn tk_bl c (N - (p + 1)) (p + 1) := by
    rw [show N - p = N - (p + 1) + 1 by omega]
    show (if tk_bl (c p) = true then _ else _) = _
    rw [if_pos (by rw [h2]; rfl)]
  unfold pt
  rw [e]
theorem tok_st {c : Nat → Nat} {N p x : Nat} {L : List Nat} (h : at_ c N p (x :: L)) (hx : tk_bl x = false) : rn tk_bl c (N - p) p = p := by
  obtain ⟨-, h2, h3⟩ := at_cons h
  exact rn_word 0 (N - p) p (by omega) (fun i hi => absurd hi (by omega)) (fun _ => by
    rw [Nat.add_zero, h2, hx]
    decide)
theorem tok_end {c : Nat → Nat} {N p : Nat} (h : at_ c N p []) : pt c N p = (p, p, 0) := by
  have hp : p = N := h.1
  have e : rn tk_bl c (N - p) p = p := by rw [show N - p = 0 by omega]; rfl
  unfold pt
  rw [e, if_pos (by omega)]
theorem tok_semi {c : Nat → Nat} {N p : Nat} {L : List Nat} (h : at_ c N p (59 :: L)) : pt c N p = (p, p + 1, 3) := by
  obtain ⟨-, h2, h3⟩ := at_cons h
  unfold pt
  rw [tok_st h rfl, if_neg (by omega), h2, if_neg (by decide), if_neg (by decide), if_pos rfl]
def isL (W : List Nat) : Prop := 0 < W.length ∧ W.length ≤ 8 ∧ ∀ i, i < W.length → tk_lt (W.getD i 0) = true
def isD (W : List Nat) : Prop := 0 < W.length ∧ W.length ≤ 6 ∧ ∀ i, i < W.length → tk_dg (W.getD i 0) = true
theorem tk_lt_bl {x : Nat} (h : tk_lt x = true) : tk_bl x = false := by
  unfold tk_lt at h; unfold tk_bl
  have h := of_decide_eq_true h
  exact decide_eq_false (by omega)
theorem tk_dg_bl {x : Nat} (h : tk_dg x = true) : tk_bl x = false ∧ tk_lt x = false := by
  unfold tk_dg at h; unfold tk_bl tk_lt
  have h := of_decide_eq_true h
  exact ⟨decide_eq_false (by omega), decide_eq_false (by omega)⟩
theorem tok_run {q : Nat → Bool} {c : Nat → Nat} {N p : Nat} {W L : List Nat} {x : Nat} (h : at_ c N p (W ++ x :: L)) (hW : ∀ i, i < W.length → q (W.getD i 0) = true) (hx : q x = false) : rn q c (N - p) p = p + W.length := by
  obtain ⟨a1, a2⟩ := at_app h
  obtain ⟨-, b2, b3⟩ := at_cons a1
  exact rn_word W.length (N - p) p (by omega) (fun i hi => by rw [a2 i hi]; exact hW i hi) (fun _ => by rw [b2, hx]; decide)
theorem tok_bl0 {c : Nat → Nat} {N p : Nat} {W L : List Nat} (h : at_ c N p (W ++ L)) (h0 : 0 < W.length) (hb : tk_bl (W.getD 0 0) = false) : rn tk_bl c (N - p) p = p ∧ p < N := by
  obtain ⟨a1, a2⟩ := at_app h
  have := a1.1
  refine ⟨rn_word 0 (N - p) p (by omega) (fun i hi => absurd hi (by omega)) (fun _ => by
    rw [a2 0 h0, hb]
    decide), by omega⟩
theorem tok_word {c : Nat → Nat} {N p x : Nat} {W L : List Nat} (h : at_ c N p (W ++ x :: L)) (hW : isL W) (hx : tk_lt x = false) : pt c N p = (p, p + W.length, 1) := by
  obtain ⟨h0, h8, h1⟩ := hW
  obtain ⟨e1, e2⟩ := tok_bl0 h h0 (tk_lt_bl (h1 0 h0))
  have a2 := (at_app h).2 0 h0
  unfold pt
  rw [e1, if_neg (by omega), if_pos (show tk_lt (c p) = true by rw [show p = p + 0 from rfl, a2]; exact h1 0 h0), tok_run h h1 hx, if_pos (by omega)]
theorem tok_num {c : Nat → Nat} {N p x : Nat} {W L : List Nat} (h : at_ c N p (W ++ x :: L)) (hW : isD W) (hx : tk_dg x = false) : pt c N p = (p, p + W.length, 2) := by
  obtain ⟨h0, h8, h1⟩ := hW
  obtain ⟨e1, e2⟩ := tok_bl0 h h0 (tk_dg_bl (h1 0 h0)).1
  have a2 : c p = W.getD 0 0 := (at_app h).2 0 h0
  unfold pt
  rw [e1, if_neg (by omega), if_neg (show ¬ tk_lt (c p) = true by rw [a2, (tk_dg_bl (h1 0 h0)).2]; decide), if_pos (show tk_dg (c p) = true by rw [a2]; exact h1 0 h0), tok_run h h1 hx, if_pos (by omega)]
theorem isD_dgs {n : Nat} (hn : n < 10000) : isD (dgs n) := by
  have dg : ∀ d, d < 10 → tk_dg (48 + d) = true := by decide
  unfold isD dgs
  split
  · exact ⟨Nat.le_of_ble_eq_true rfl, Nat.le_of_ble_eq_true rfl, fun i hi => by
      have hi : i < 1 := hi
      rw [show i = 0 by omega]
      exact dg n (by omega)⟩
  · split
    · exact ⟨Nat.le_of_ble_eq_true rfl, Nat.le_of_ble_eq_true rfl, fun i hi => by
        have hi : i < 2 := hi
        rcases (by omega : i = 0 ∨ i = 1) with h | h <;> rw [h]
        · exact dg _ (by omega)
        · exact dg _ (by omega)⟩
    · split
      · exact ⟨Nat.le_of_ble_eq_true rfl, Nat.le_of_ble_eq_true rfl, fun i hi => by
          have hi : i < 3 := hi
          rcases (by omega : i = 0 ∨ i = 1 ∨ i = 2) with h | h | h <;> rw [h]
          · exact dg _ (by omega)
          · exact dg _ (by omega)
          · exact dg _ (by omega)⟩
      · exact ⟨Nat.le_of_ble_eq_true rfl, Nat.le_of_ble_eq_true rfl, fun i hi => by
          have hi : i < 4 := hi
          rcases (by omega : i = 0 ∨ i = 1 ∨ i = 2 ∨ i = 3) with h | h | h | h <;> rw [h]
          · exact dg _ (by omega)
          · exact dg _ (by omega)
          · exact dg _ (by omega)
          · exact dg _ (by omega)⟩
theorem dv_dgs {c : Nat → Nat} {p n : Nat} (hn : n < 10000) (h : ∀ i, i < (dgs n).length → c (p + i) = (dgs n).getD i 0) : dv c p (dgs n).length = n := by
  unfold dgs at h ⊢
  by_cases h1 : n < 10
  · rw [if_pos h1] at h ⊢
    have g0 := h 0 (Nat.le_of_ble_eq_true rfl)
    have g0 : c (p + 0) = 48 + n := g0
    show 10 * dv c p 0 + (c (p + 0) - 48) = n
    rw [g0]
    show 10 * 0 + (48 + n - 48) = n
    omega
  rw [if_neg h1] at h ⊢
  by_cases h2 : n < 100
  · rw [if_pos h2] at h ⊢
    have g0 : c (p + 0) = 48 + n / 10 := h 0 (Nat.le_of_ble_eq_true rfl)
    have g1 : c (p + 1) = 48 + n % 10 := h 1 (Nat.le_of_ble_eq_true rfl)
    show 10 * (10 * dv c p 0 + (c (p + 0) - 48)) + (c (p + 1) - 48) = n
    rw [g0, g1]
    show 10 * (10 * 0 + (48 + n / 10 - 48)) + (48 + n % 10 - 48) = n
    omega
  rw [if_neg h2] at h ⊢
  by_cases h3 : n < 1000
  · rw [if_pos h3] at h ⊢
    have g0 : c (p + 0) = 48 + n / 100 := h 0 (Nat.le_of_ble_eq_true rfl)
    have g1 : c (p + 1) = 48 + n % 100 / 10 := h 1 (Nat.le_of_ble_eq_true rfl)
    have g2 : c (p + 2) = 48 + n % 100 % 10 := h 2 (Nat.le_of_ble_eq_true rfl)
    show 10 * (10 * (10 * dv c p 0 + (c (p + 0) - 48)) + (c (p + 1) - 48)) + (c (p + 2) - 48) = n
    rw [g0, g1, g2]
    show 10 * (10 * (10 * 0 + (48 + n / 100 - 48)) + (48 + n % 100 / 10 - 48)) + (48 + n % 100 % 10 - 48) = n
    omega
  rw [if_neg h3] at h ⊢
  have g0 : c (p + 0) = 48 + n / 100 / 10 := h 0 (Nat.le_of_ble_eq_true rfl)
  have g1 : c (p + 1) = 48 + n / 100 % 10 := h 1 (Nat.le_of_ble_eq_true rfl)
  have g2 : c (p + 2) = 48 + n % 100 / 10 := h 2 (Nat.le_of_ble_eq_true rfl)
  have g3 : c (p + 3) = 48 + n % 100 % 10 := h 3 (Nat.le_of_ble_eq_true rfl)
  show 10 * (10 * (10 * (10 * dv c p 0 + (c (p + 0) - 48)) + (c (p + 1) - 48)) + (c (p + 2) - 48)) + (c (p + 3) - 48) = n
  rw [g0, g1, g2, g3]
  show 10 * (10 * (10 * (10 * 0 + (48 + n / 100 / 10 - 48)) + (48 + n / 100 % 10 - 48)) + (48 + n % 100 / 10 - 48)) + (48 + n % 100 % 10 - 48) = n
  omega
theorem wn_J {F g : Nat} {S : si_St} (hg : g < 8) : f_J0_length_8abf5 F g S = some (nI (wn g), S) := by
  unfold f_J0_length_8abf5
  rw [bd_coder, Option.bind_some]
  dsimp only
  rw [(wn_tab g hg).2.1]
theorem wd_A1 {F g N st : Nat} {c : Nat → Nat} {A : si_St} (hg : g < 8) (hN : N ≤ 800) (ht : ∀ i, i < N → A.2.1 2 i = bv (c i)) (h5 : A.1 1 5 = nI st) (hb : st + wn g ≤ N) : ∀ n k, k ≤ wn g → wn g < n + k → (∀ i, i < k → bv (c (st + i)) = wc g i) → ((∀ i, i < wn g → bv (c (st + i)) = wc g i) → f_X3_isWord_l28 F g n (nI k) A = some (1, A)) ∧ (¬ (∀ i, i < wn g → bv (c (st + i)) = wc g i) → f_X3_isWord_l28 F g n (nI k) A = some (0, A))
  | 0, k, h1, h2, _ => absurd h2 (by omega)
  | n + 1, k, h1, h2, h3 => by
    have hw := (wn_tab g hg).1
    have e : f_X3_isWord_l28 F g (n + 1) (nI k) A = f_X3_isWord_h28 F g (f_X3_isWord_l28 F g n) (nI k) A := rfl
    rw [e]
    unfold f_X3_isWord_h28
    rw [wn_J hg, Option.bind_some]
    dsimp only
    by_cases hk : k = wn g
    · subst hk
      rw [if_pos (Int32.le_refl _), sm_bz1]
      exact ⟨fun _ => rfl, fun h => absurd h3 h⟩
    · rw [if_neg (nI_ge (by omega) (by omega)), h5, nI_add, rd_2 (by omega), Option.bind_some, wc_J hg (by omega), Option.bind_some, ht _ (by omega)]
      dsimp only
      by_cases hc : bv (c (st + k)) = wc g k
      · rw [if_pos hc, Option.bind_some, nI_1]
        exact wd_A1 hg hN ht h5 hb n (k + 1) (by omega) (by omega) (fun i hi => by
          by_cases hik : i = k
          · rw [hik]
            exact hc
          · exact h3 i (by omega))
      · rw [if_neg hc, sm_bz0]
        exact ⟨fun h => absurd (h k (by omega)) hc, fun _ => rfl⟩
theorem wd_A {F g N st en kd : Nat} {c : Nat → Nat} {A : si_St} (hg : g < 8) (hN : N ≤ 800) (hF : 10 ≤ F) (ht : ∀ i, i < N → A.2.1 2 i = bv (c i)) (h5 : A.1 1 5 = nI st) (h6 : A.1 1 6 = nI en) (h7 : A.1 1 7 = nI kd) (hse : st ≤ en) (heN : en ≤ N) (hkd : kd ≤ 4) : (wd c st en kd g → f_X3_isWord F g A = some (1, A)) ∧ (¬ wd c st en kd g → f_X3_isWord F g A = some (0, A)) := by
  have hw := (wn_tab g hg).1
  unfold f_X3_isWord f_X3_isWord_h24
  rw [h7, h6, h5, sm_sub hse, wn_J hg, Option.bind_some, sm_bz0]
  dsimp only
  by_cases c1 : kd = 1
  · rw [if_pos (show nI kd = 1 by rw [c1]; rfl)]
    by_cases c2 : en - st = wn g
    · rw [if_pos (by rw [c2])]
      have h := wd_A1 (F := F) hg hN ht h5 (show st + wn g ≤ N by omega) F 0 (Nat.zero_le _) (by omega) (fun i hi => absurd hi (Nat.not_lt_zero _))
      exact ⟨fun hw => h.1 hw.2.2, fun hn => h.2 (fun h2 => hn ⟨c1, c2, h2⟩)⟩
    · rw [if_neg (sm_ne c2 (by omega) (by omega))]
      exact ⟨fun h => absurd h.2.1 c2, fun _ => rfl⟩
  · rw [if_neg (show ¬ nI kd = 1 from sm_ne (b := 1) c1 (by omega) (by omega))]
    exact ⟨fun h => absurd h.1 c1, fun _ => rfl⟩
theorem wdA {k N F g : Nat} {c : Nat → Nat} {A : si_St} {P : Nat × Nat × Nat} {u : Nat → Nat → Nat} (X : cx N F c k) (h : pA k N c A P u) (w : wf c N P) (hg : g < 8) : (wd c P.1 P.2.1 P.2.2 g → f_X3_isWord F g A = some (1, A)) ∧ (¬ wd c P.1 P.2.1 P.2.2 g → f_X3_isWord F g A = some (0, A)) :=
  wd_A hg X.1 (by have := X.2.1; omega) h.2.2.2.1 h.2.2.2.2.1 h.2.2.2.2.2.1 h.2.2.2.2.2.2.1 w.1 w.2.1 w.2.2.2.1
-- the steps of the reader on a text that goes on well
def wl : Nat → List Nat
  | 0 => [116, 114, 97, 100, 101, 114]
  | 1 => [115, 99, 97, 108, 101]
  | 2 => [109, 97, 115, 115]
  | 3 => [115, 101, 116]
  | 4 => [116, 101, 114, 109]
  | 5 => [112, 108, 117, 115]
  | 6 => [109, 105, 110, 117, 115]
  | _ => [109, 97, 121, 98, 101]
theorem wl_tab : ∀ g, g < 8 → (0 < (wl g).length ∧ (wl g).length ≤ 8 ∧ (∀ i, i < (wl g).length → tk_lt ((wl g).getD i 0) = true)) ∧ ∀ g2, g2 < 8 → ((wl g).length = wn g2 ∧ (∀ i, i < wn g2 → bv ((wl g).getD i 0) = wc g2 i) ↔ g = g2) := by decide +kernel
theorem wl_wd {c : Nat → Nat} {p g g2 : Nat} (hg : g < 8) (hg2 : g2 < 8) (h : ∀ i, i < (wl g).length → c (p + i) = (wl g).getD i 0) : wd c p (p + (wl g).length) 1 g2 ↔ g = g2 := by
  rw [← (wl_tab g hg).2 g2 hg2]
  unfold wd
  rw [Nat.add_sub_cancel_left]
  constructor
  · intro ⟨_, h2, h3⟩
    exact ⟨h2, fun i hi => by rw [← h i (by omega)]; exact h3 i hi⟩
  · intro ⟨h2, h3⟩
    exact ⟨rfl, h2, fun i hi => by rw [h i (by omega)]; exact h3 i hi⟩
-- where the reader stands: before L, at its first token
def rd_ (k N : Nat) (c : Nat → Nat) (A : si_St) (p : Nat) (L : List Nat) (u : Nat → Nat → Nat) : Prop := at_ c N p L ∧ pA k N c A (pt c N p) u
theorem rd_.wf {k N p : Nat} {c : Nat → Nat} {A : si_St} {L : List Nat} {u : Nat → Nat → Nat} (h : rd_ k N c A p L u) : wf c N (pt c N p) := (pt_wf (by have := h.1.1; omega)).1
theorem rd_.sp {k N p : Nat} {c : Nat → Nat} {A : si_St} {L : List Nat} {u : Nat → Nat → Nat} (h : rd_ k N c A p (32 :: L) u) : rd_ k N c A (p + 1) L u := ⟨(at_cons h.1).1, by rw [← tok_sp h.1]; exact h.2⟩
theorem rd_.isW {k N F p x g g2 : Nat} {c : Nat → Nat} {A : si_St} {L : List Nat} {u : Nat → Nat → Nat} (X : cx N F c k) (hg : g < 8) (h : rd_ k N c A p (wl g ++ x :: L) u) (hx : tk_lt x = false) (hg2 : g2 < 8) : f_X3_isWord F g2 A = some (if g = g2 then 1 else 0, A) := by
  have e := tok_word h.1 (wl_tab g hg).1 hx
  have w := wdA (g := g2) X h.2 h.wf hg2
  rw [e] at w
  have hi := wl_wd (c := c) (p := p) hg hg2 (at_app h.1).2
  by_cases h9 : g = g2
  · rw [if_pos h9]; exact w.1 (hi.mpr h9)
  · rw [if_neg h9]; exact w.2 (fun h => h9 (hi.mp h))
theorem rd_.noW {k N F p g2 : Nat} {c : Nat → Nat} {A : si_St} {L : List Nat} {u : Nat → Nat → Nat} (X : cx N F c k) (h : rd_ k N c A p (59 :: L) u) (hg2 : g2 < 8) : f_X3_isWord F g2 A = some (0, A) := by
  have w := wdA (g := g2) X h.2 h.wf hg2
  rw [tok_semi h.1] at w
  exact w.2 (fun h => absurd h.1 (show ¬ 3 = 1 by decide))
theorem rd_.adv {k N F p e kd : Nat} {c : Nat → Nat} {A : si_St} {W L : List Nat} {u : Nat → Nat → Nat} (X : cx N F c k) (h : rd_ k N c A p (W ++ L) u) (ht : pt c N p = (p, p + W.length, kd)) : ∃ A', f_X3_advance F A = some A' ∧ fA k A A' ∧ rd_ k N c A' (p + W.length) L u := by
  obtain ⟨A', a1, a2, a3⟩ := advA X h.2 h.wf
  rw [ht] at a3
  exact ⟨A', a1, a2.A, (at_app h.1).1, a3⟩
theorem rd_.word {k N F p x g : Nat} {c : Nat → Nat} {A : si_St} {L : List Nat} {u : Nat → Nat → Nat} (X : cx N F c k) (hg : g < 8) (h : rd_ k N c A p (wl g ++ x :: L) u) (hx : tk_lt x = false) : ∃ A', f_X3_advance F A = some A' ∧ fA k A A' ∧ rd_ k N c A' (p + (wl g).length) (x :: L) u := h.adv (e := 0) X (tok_word h.1 (wl_tab g hg).1 hx)
theorem rd_.semi {k N F p : Nat} {c : Nat → Nat} {A : si_St} {L : List Nat} {u : Nat → Nat → Nat} (X : cx N F c k) (h : rd_ k N c A p (59 :: L) u) : ∃ A', f_X3_takeSemicolon F A = some A' ∧ fA k A A' ∧ rd_ k N c A' (p + 1) L u := by
  obtain ⟨A', a1, a2, a3⟩ := rd_.adv (e := 0) (W := [59]) X h (tok_semi h.1)
  refine ⟨A', ?_, a2, a3⟩
  unfold f_X3_takeSemicolon f_X3_takeSemicolon_h28
  have h7 : A.1 1 7 = nI (pt c N p).2.2 := h.2.2.2.2.2.2.2.1
  rw [if_pos h.2.1, h7, tok_semi h.1, if_pos (show nI 3 = 3 from rfl), a1, Option.bind_some]
theorem rd_.num {k N F p x n lo hi : Nat} {c : Nat → Nat} {A : si_St} {L : List Nat} {u : Nat → Nat → Nat} (X : cx N F c k) (h : rd_ k N c A p (dgs n ++ x :: L) u) (hx : tk_dg x = false) (hn : n < 10000) (h1 : lo ≤ n) (h2 : n ≤ hi) (h3 : hi < 2 ^ 31) : ∃ A', f_X3_takeNumber F (nI lo) (nI hi) A = some (nI n, A') ∧ fA k A A' ∧ rd_ k N c A' (p + (dgs n).length) (x :: L) u := by
  have e := tok_num h.1 (isD_dgs hn) hx
  obtain ⟨A', a1, a2, a3⟩ := rd_.adv (e := 0) (W := dgs n) X h e
  refine ⟨A', ?_, a2, a3⟩
  have h7 : A.1 1 7 = nI (pt c N p).2.2 := h.2.2.2.2.2.2.2.1
  have hN := numA X h.2 h.wf (by rw [e])
  rw [e] at hN
  have hN : f_X3_numberOfToken F A = some (nI (dv c p (p + (dgs n).length - p)), A) := hN
  rw [Nat.add_sub_cancel_left, dv_dgs hn (at_app h.1).2] at hN
  unfold f_X3_takeNumber
  rw [if_pos h.2.1, h7, e, if_pos (show nI 2 = 2 from rfl), hN, Option.bind_some, if_neg (nI_nlt h1 (by omega)), if_pos (nI_le h2 h3), a1, Option.bind_some]
theorem rd_.kw {k N F p x g m M : Nat} {c : Nat → Nat} {A : si_St} {L : List Nat} {u : Nat → Nat → Nat} (X : cx N F c k) (hg : g < 8) (h : rd_ k N c A p (wl g ++ x :: L) u) (hx : tk_lt x = false) (hm : m < M) (hM : M < 2 ^ 31) : ∃ A', f_X3_takeKeyword F (nI m) (nI M) A = some A' ∧ fA k A A' ∧ rd_ k N c A' (p + (wl g).length) (x :: L) u := by
  obtain ⟨A', a1, a2, a3⟩ := h.word X hg hx
  refine ⟨A', ?_, a2, a3⟩
  unfold f_X3_takeKeyword f_X3_takeKeyword_h17
  rw [if_pos (nI_lt hm hM), a1, Option.bind_some]
