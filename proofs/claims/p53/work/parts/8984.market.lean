-- MARKET: what it says, as its text and its rows
def mR (S : si_St) (T : List Nat) (k n : Nat) (f : Nat → Int32) (g : Nat → Int32) : Prop := bd S T ∧ (sd_ok S 91 ∧ sd_ln S 91 = 1) ∧ (sd_ok S 92 ∧ ∀ j, S.1 92 j = g j) ∧ sd_ok S k ∧ sd_ln S k = n ∧ S.2.1 k = f
def mK (k : Nat) : Prop := k = 93 ∨ k = 94 ∨ k = 95 ∨ k = 96
theorem mR.go {S S' : si_St} {T T' : List Nat} {k n a b : Nat} {f g : Nat → Int32} {C : List Nat} (h : mR S T k n f g) (hb : bd S' T') (d : dn C a b S S') (h91 : 91 ∉ C) (h92 : 92 ∉ C) (hk : k ∉ C) (hkk : k < 151) : mR S' T' k n f g := by
  obtain ⟨-, ⟨o1, l1⟩, ⟨o2, hg⟩, o3, l3, h3⟩ := h
  exact ⟨hb, ⟨d.ok h91 o1, ((d.2.2.1 91 (by decide) h91).1).trans l1⟩, ⟨d.ok h92 o2, fun j => ((d.1 92 h92).1 j).trans (hg j)⟩, d.ok hk o3, ((d.2.2.1 k hkk hk).1).trans l3, ((d.1 k hk).2.1).trans h3⟩
theorem mK.nm {k : Nat} (h : mK k) : k ∉ [87, 88, 100] ∧ k < 151 ∧ k ≠ 91 ∧ k ≠ 88 ∧ 87 ≤ k := by
  rcases h with h | h | h | h <;> rw [h] <;> decide
theorem mR.str {F g0 : Nat} {S : si_St} {T : List Nat} {k n : Nat} {f g : Nat → Int32} (h : mR S T k n f g) (hk : mK k) (h8 : 8 ≤ g0) (hg : g0 < 17) (hT : T.length ≤ 400) : ∃ S', f_J4_append_15ec4 F g0 S = some S' ∧ mR S' (T ++ tx g0) k n f g ∧ dn [87, 88, 100] 1 1000 S S' := by
  obtain ⟨S', e, b, d⟩ := bd_str (F := F) h8 hg h.1 hT
  exact ⟨S', e, h.go b d (by decide) (by decide) hk.nm.1 hk.nm.2.1, d⟩
theorem mR.int {F x : Nat} {S : si_St} {T : List Nat} {k n : Nat} {f g : Nat → Int32} (h : mR S T k n f g) (hk : mK k) (hF : 10 ≤ F) (hx : x < 10000) (hT : T.length ≤ 400) : ∃ S', f_J4_append_bf812 F (nI x) S = some S' ∧ mR S' (T ++ dgs x) k n f g ∧ dn [87, 88, 100] 1 1000 S S' := by
  obtain ⟨S', e, b, d⟩ := bd_int (F := F) hF hx h.1 hT
  exact ⟨S', e, h.go b d (by decide) (by decide) hk.nm.1 hk.nm.2.1, d⟩
theorem mR.chr {F c : Nat} {S : si_St} {T : List Nat} {k n : Nat} {f g : Nat → Int32} (h : mR S T k n f g) (hk : mK k) (hc : c < 128) (hT : T.length ≤ 400) : ∃ S', f_J4_append_cf468 F (nI c) S = some S' ∧ mR S' (T ++ [c]) k n f g ∧ dn [87, 88, 100] 1 1000 S S' := by
  obtain ⟨S', e, b, d⟩ := bd_char (F := F) h.1 hT hc
  exact ⟨S', e, h.go b d (by decide) (by decide) hk.nm.1 hk.nm.2.1, d⟩
theorem bd.go {S S' : si_St} {T : List Nat} {a b : Nat} {C : List Nat} (h : bd S T) (d : dn C a b S S') (h87 : 87 ∉ C) (h88 : 88 ∉ C) (hM : 1000 ∉ C) : bd S' T := by
  obtain ⟨⟨o87, o88⟩, ⟨f0, f1, f3⟩, ⟨l1, l2⟩, hr, ht, hfit, hs⟩ := h
  have hl : sd_ln S' 88 = sd_ln S 88 := (d.2.2.1 88 (by decide) h88).1
  have hr8 : S'.2.1 88 = S.2.1 88 := (d.1 88 h88).2.1
  have hf : ∀ j, S'.1 87 j = S.1 87 j := (d.1 87 h87).1
  have hm := d.2.1 hM
  exact ⟨⟨d.ok h87 o87, d.ok h88 o88⟩, ⟨by rw [hf]; exact f0, by rw [hf]; exact f1, by rw [hf]; exact f3⟩, ⟨by rw [hl]; exact l1, by rw [hl]; exact l2⟩, by rw [hr8]; exact hr, ht, by rw [hr8]; exact hfit, by rw [hm.1, hm.2]; exact hs⟩
theorem mR.draw {F m : Nat} {S : si_St} {T : List Nat} {k n : Nat} {f g : Nat → Int32} (h : mR S T k n f g) (hk : mK k) (h0 : 0 < m) (hm : m < 2 ^ 31) : ∃ v S', v < m ∧ f_L_draw F 91 (nI m) S = some (nI v, S') ∧ mR S' T k n f g ∧ dn [91] 0 0 S S' := by
  obtain ⟨v, x, hv, e⟩ := dw_draw (F := F) h.2.1.1 h.2.1.2 h0 hm
  have d : dn [91] 0 0 S (si_pa S 91 0 x) := dn.pa (by decide)
  obtain ⟨b, ⟨o1, l1⟩, ⟨o2, hg⟩, o3, l3, h3⟩ := h
  refine ⟨v, _, hv, e, ⟨b.go d (by decide) (by decide) (by decide), ⟨o1, l1⟩, ⟨o2, hg⟩, o3, l3, (pa_o hk.nm.2.2.1).trans h3⟩, d⟩
theorem mR.rd {S : si_St} {T : List Nat} {k n i : Nat} {f g : Nat → Int32} (h : mR S T k n f g) (hi : i < n) (hn : n < 2 ^ 31) : sd_rd S k (nI i) = some (f i) := by
  obtain ⟨b, -, -, o3, l3, h3⟩ := h
  rw [← h3]
  exact dr_rd o3 (by omega) (by omega)
theorem mR.wr {S : si_St} {T : List Nat} {k n i : Nat} {f g : Nat → Int32} {v : Int32} (h : mR S T k n f g) (hk : mK k) (hi : i < n) (hn : n < 2 ^ 31) : sd_wr S k (nI i) v = some (si_pa S k i v) ∧ mR (si_pa S k i v) T k n (fun j => if j = i then v else f j) g ∧ dn [k] 0 0 S (si_pa S k i v) := by
  have d : dn [k] 0 0 S (si_pa S k i v) := dn.pa (List.mem_singleton.mpr rfl)
  obtain ⟨b, ⟨o1, l1⟩, ⟨o2, hg⟩, o3, l3, h3⟩ := h
  have n1 : ∀ x, x ≠ k → x ∉ [k] := fun x hx => by rw [List.mem_singleton]; exact hx
  have := hk.nm
  refine ⟨dr_wr o3 (by omega) (by omega), ⟨b.go d (n1 _ (fun h => by rw [← h] at this; exact absurd this.1 (by decide))) (n1 _ (fun h => this.2.2.2.1 h.symm)) (n1 _ (by omega)), ⟨o1, l1⟩, ⟨o2, hg⟩, o3, l3, funext fun j => ?_⟩, d⟩
  by_cases h9 : j = i
  · rw [h9, pa_e, if_pos rfl]
  · rw [pa_s h9, if_neg h9, h3]
theorem mR.g {S : si_St} {T : List Nat} {k n : Nat} {f g : Nat → Int32} (h : mR S T k n f g) (j : Nat) (hj : g j ≠ 0) : sd_ok S 92 ∧ S.1 92 j ≠ 0 := ⟨h.2.2.1.1, by rw [h.2.2.1.2 j]; exact hj⟩
theorem mR.o {S : si_St} {T : List Nat} {k n : Nat} {f g : Nat → Int32} (h : mR S T k n f g) : sd_ok S 87 := h.1.1.1
theorem mR.al {S : si_St} {T : List Nat} {k n : Nat} {f g : Nat → Int32} (h : mR S T k n f g) : sd_al S k = some (nI n) := by rw [dr_al h.2.2.2.1, h.2.2.2.2.1]
-- a new row
theorem mR.na {S : si_St} {T : List Nat} {k n k2 n2 j2 : Nat} {f g : Nat → Int32} (h : mR S T k n f g) (hj : k2 = 92 + j2) (hj0 : 1 ≤ j2) (hj4 : j2 ≤ 4) (h0 : g j2 = 0) (hn : n2 ≤ 100000) : sd_na S k2 (nI n2) = some (sd_mkA S k2 n2) ∧ mR (sd_mkA S k2 n2) T k2 n2 (fun _ => 0) g ∧ dn [k2] 1 n2 S (sd_mkA S k2 n2) := by
  obtain ⟨b, ⟨o1, l1⟩, ⟨o2, hg⟩, o3, l3, h3⟩ := h
  have dA : dn [k2] 1 n2 S (sd_mkA S k2 n2) := dn.mkA (List.mem_singleton.mpr rfl) (by omega) (by omega)
  have n1 : ∀ x, x ≠ k2 → x ∉ [k2] := fun x hx => by rw [List.mem_singleton]; exact hx
  have o2' := dA.ok (n1 92 (by omega)) o2
  have bA : bd (sd_mkA S k2 n2) T := b.go dA (n1 _ (by omega)) (n1 _ (by omega)) (n1 _ (by omega))
  have hA : mR (sd_mkA S k2 n2) T k2 n2 (fun _ => 0) g := ⟨bA, ⟨dA.ok (n1 91 (by omega)) o1, (dA.2.2.1 91 (by decide) (n1 91 (by omega))).1.trans l1⟩, ⟨o2', hg⟩, dr_lv_mkA (by omega) (by omega), sd_mkA_ln, funext fun _ => if_pos rfl⟩
  refine ⟨dr_na (dr_frb (by omega) (by omega) b.2.2.2.2.2.2 ⟨by omega, by omega, fun h => ?_, fun h => ?_, fun h => ?_, fun h => ?_⟩) hn, hA, dA⟩
  · rw [hg, ← h0]; congr 1; omega
  · rw [hg, ← h0]; congr 1; omega
  · rw [hg, ← h0]; congr 1; omega
  · rw [hg, ← h0]; congr 1; omega
theorem mR.pi {S : si_St} {T : List Nat} {k n j2 : Nat} {f g : Nat → Int32} {v : Int32} (h : mR S T k n f g) (hk : mK k) : sd_pi S 92 j2 v = some (si_ps S 92 j2 v) ∧ mR (si_ps S 92 j2 v) T k n f (fun j => if j = j2 then v else g j) ∧ dn [92] 0 0 S (si_ps S 92 j2 v) := by
  obtain ⟨b, ⟨o1, l1⟩, ⟨o2, hg⟩, o3, l3, h3⟩ := h
  have dP : dn [92] 0 0 S (si_ps S 92 j2 v) := dn.ps (by decide)
  refine ⟨dr_pi o2, ⟨b.go dP (by decide) (by decide) (by decide), ⟨o1, l1⟩, ⟨o2, fun j => ?_⟩, o3, l3, h3⟩, dP⟩
  by_cases h9 : j = j2
  · rw [h9, ps_e]
    exact (if_pos rfl).symm
  · rw [ps_o (by omega)]
    exact (hg j).trans (if_neg h9).symm
def CM : List Nat := [87, 88, 91, 92, 93, 94, 95, 96, 100]
theorem dn.cm {C : List Nat} {a b : Nat} {S S' : si_St} (h : dn C a b S S') (hs : ∀ k ∈ C, k ∈ CM) : dn CM a b S S' := h.mo hs (Nat.le_refl _) (Nat.le_refl _)
-- the statements, as kind and numbers
def stx : Nat × List Nat → List Nat
  | (1, [a, b, c, d]) => tx 9 ++ dgs a ++ [32] ++ dgs b ++ [32] ++ dgs c ++ [32] ++ dgs d ++ [59]
  | (2, [v, s, e]) => tx 10 ++ dgs v ++ (if s = 0 then [] else tx (if s = 1 then 11 else 12) ++ dgs e) ++ [59]
  | (3, [n, k]) => tx 13 ++ dgs n ++ tx (if k = 1 then 14 else 15)
  | (4, [d]) => tx 16 ++ dgs d ++ [59]
  | _ => tx 8
def okS (t : Nat) : Nat × List Nat → Prop
  | (0, []) => True
  | (1, [a, b, c, d]) => a < t ∧ b < 3 ∧ 1 ≤ c ∧ c ≤ 9 ∧ 20 * c ≤ d ∧ d < 20 * c + 4000
  | (2, [v, s, e]) => 11 ≤ v ∧ v ≤ 1000 ∧ s ≤ 2 ∧ (s ≠ 0 → 1 ≤ e ∧ e ≤ 8)
  | (3, [n, k]) => 2 ≤ n ∧ n ≤ 7 ∧ k ≤ 1
  | (4, [d]) => 1 ≤ d ∧ d ≤ 5
  | _ => False
theorem mk_tr {F t : Nat} (ht : t < 2 ^ 20) : ∀ m n j (S : si_St) (T : List Nat) (f g : Nat → Int32), t = j + m → m < n → bd S T → sd_ok S 91 → sd_ln S 91 = 1 → sd_ok S 92 → (∀ j, S.1 92 j = g j) → g 0 = nI t → T.length + 7 * m ≤ 400 → ∃ S' v, v < 4 ∧ f_L_market_l21 F n (nI j) S = f_L_market_h50 F (nI v) 1 4 S' ∧ bd S' (T ++ (List.replicate m (0, [])).flatMap stx) ∧ sd_ok S' 91 ∧ sd_ln S' 91 = 1 ∧ sd_ok S' 92 ∧ (∀ j, S'.1 92 j = g j) ∧ dn CM m (1000 * m) S S' := by
  intro m
  induction m with
  | zero =>
    intro n j S T f g htj hmn hb o1 l1 o2 hg hg0 hT
    obtain ⟨n, rfl⟩ : ∃ k, n = k + 1 := ⟨n - 1, by omega⟩
    unfold f_L_market_l21 f_L_market_h21
    rw [dr_gi o2, Option.bind_some, hg, hg0, if_pos (by rw [htj]; exact Int32.le_refl _)]
    obtain ⟨v, x, hv, e⟩ := dw_draw (F := F) (m := 4) o1 l1 (by decide) (by decide)
    have e : f_L_draw F 91 4 S = some (nI v, si_pa S 91 0 x) := e
    have d : dn [91] 0 0 S (si_pa S 91 0 x) := dn.pa (by decide)
    refine ⟨si_pa S 91 0 x, v, hv, by rw [e, Option.bind_some], ?_, o1, l1, o2, hg, d.cm (by decide)⟩
    rw [List.replicate_zero, List.flatMap_nil, List.append_nil]
    exact hb.go d (by decide) (by decide) (by decide)
  | succ m ih =>
    intro n j S T f g htj hmn hb o1 l1 o2 hg hg0 hT
    obtain ⟨n, rfl⟩ : ∃ k, n = k + 1 := ⟨n - 1, by omega⟩
    unfold f_L_market_l21 f_L_market_h21
    rw [dr_gi o2, Option.bind_some, hg, hg0, if_neg (fun h => by have := (nI_leI (by omega) (by omega)).mp h; omega), if_neg (not_not_intro hb.1.1)]
    obtain ⟨S1, e1, b1, d1⟩ := bd_str (F := F) (g := 8) (by decide) (by decide) hb (by omega)
    rw [e1, Option.bind_some]
    unfold f_L_market_h35
    rw [Option.bind_some, nI_1]
    have hl : (tx 8).length = 7 := rfl
    obtain ⟨S', v, hv, e, b, p1, p2, p3, p4, d⟩ := ih n (j + 1) S1 (T ++ tx 8) f g (by omega) (by omega) b1 (d1.ok (by decide) o1) ((d1.2.2.1 91 (by decide) (by decide)).1.trans l1) (d1.ok (by decide) o2) (fun i => ((d1.1 92 (by decide)).1 i).trans (hg i)) hg0 (by rw [List.length_append, hl]; omega)
    refine ⟨S', v, hv, e, ?_, p1, p2, p3, p4, ((d1.cm (by decide)).tr d).up (by omega) (by omega)⟩
    rw [List.replicate_succ, List.flatMap_cons, ← List.append_assoc]
    exact b
theorem mK3 : mK 93 := Or.inl rfl
theorem mK4 : mK 94 := Or.inr (Or.inl rfl)
theorem mK5 : mK 95 := Or.inr (Or.inr (Or.inl rfl))
theorem mK6 : mK 96 := Or.inr (Or.inr (Or.inr rfl))
theorem nI_add2 (a : Nat) : nI a + 2 = nI (a + 2) := nI_add a 2
theorem nI_add3 (a : Nat) : nI a + 3 = nI (a + 3) := nI_add a 3
theorem nI_add4 (a : Nat) : nI a + 4 = nI (a + 4) := nI_add a 4
theorem nI_1a (a : Nat) : 1 + nI a = nI (1 + a) := nI_add 1 a
theorem nI_2m (a : Nat) : 2 * nI a = nI (2 * a) := pk_mul 2 a
theorem nI_4m (a : Nat) : 4 * nI a = nI (4 * a) := pk_mul 4 a
theorem nI_20m (a : Nat) : 20 * nI a = nI (20 * a) := pk_mul 20 a
theorem stx_len {t : Nat} {x : Nat × List Nat} (h : okS t x) : (stx x).length ≤ 30 := by
  have key : ∀ n, (dgs n).length ≤ 4 := dgs_len
  unfold okS at h
  split at h
  · decide
  · rename_i a b c d
    have := key a; have := key b; have := key c; have := key d
    simp only [stx, List.length_append, tx, List.length_cons, List.length_nil]; omega
  · rename_i v s e
    have := key v; have := key e
    simp only [stx, List.length_append, tx, List.length_cons, List.length_nil]
    split
    · simp only [List.length_nil]; omega
    · split <;> simp only [List.length_append, List.length_cons, List.length_nil] <;> omega
  · rename_i n k
    have := key n
    simp only [stx, List.length_append, tx, List.length_cons, List.length_nil]
    split <;> simp only [List.length_cons, List.length_nil] <;> omega
  · rename_i d
    have := key d
    simp only [stx, List.length_append, tx, List.length_cons, List.length_nil]; omega
  · exact h.elim
theorem mk_scale {F N t : Nat} (hF : 10 ≤ F) (ht : t ≤ 1000) (ht0 : 0 < t) (hN : N ≤ 1000) {j : Nat} (hj : j < N) (r : Int32 → si_St → Option si_St) {S : si_St} {T : List Nat} {f g : Nat → Int32} (h : mR S T 93 (4 * N) f g) (g0 : g 0 = nI t) (g1 : g 1 ≠ 0) (hT : T.length ≤ 360) : ∃ x, okS t x ∧ (∃ a b c d, x = (1, [a, b, c, d])) ∧ ∃ S' f', f_L_market_h59 F r (nI (4 * j)) S = r (nI (4 * (j + 1))) S' ∧ mR S' (T ++ stx x) 93 (4 * N) f' g ∧ dn CM 9 9000 S S' := by
  unfold f_L_market_h59
  rw [if_neg (not_not_intro (h.g 1 g1)), h.al, Option.bind_some, if_neg (fun h => by have := (nI_leI (by omega) (by omega)).mp h; omega), if_neg (not_not_intro (h.g 1 g1)), dr_gi h.2.2.1.1, Option.bind_some, h.2.2.1.2 0, g0]
  obtain ⟨a, S1, ha, e1, h1, d1⟩ := h.draw (F := F) (m := t) mK3 ht0 (by omega)
  rw [e1, Option.bind_some]
  unfold f_L_market_h81
  dsimp only
  obtain ⟨e2, h2, d2⟩ := h1.wr (i := 4 * j) (v := nI a) mK3 (by omega) (by omega)
  obtain ⟨b, S3, hb, e3, h3, d3⟩ := h2.draw (F := F) (m := 3) mK3 (by decide) (by decide)
  have e3 : f_L_draw F 91 3 (si_pa S1 93 (4 * j) (nI a)) = some (nI b, S3) := e3
  rw [e2, Option.bind_some, if_neg (not_not_intro (h2.g 1 g1)), e3, Option.bind_some]
  unfold f_L_market_h94
  dsimp only
  obtain ⟨e4, h4, d4⟩ := h3.wr (i := 4 * j + 1) (v := nI b) mK3 (by omega) (by omega)
  obtain ⟨c, S5, hc, e5, h5, d5⟩ := h4.draw (F := F) (m := 9) mK3 (by decide) (by decide)
  have e5 : f_L_draw F 91 9 (si_pa S3 93 (4 * j + 1) (nI b)) = some (nI c, S5) := e5
  rw [nI_1, e4, Option.bind_some, if_neg (not_not_intro (h4.g 1 g1)), e5, Option.bind_some]
  unfold f_L_market_h109
  dsimp only
  obtain ⟨e6, h6, d6⟩ := h5.wr (i := 4 * j + 2) (v := nI (1 + c)) mK3 (by omega) (by omega)
  have r6 := h6.rd (i := 4 * j + 2) (by omega) (by omega)
  obtain ⟨w, S7, hw, e7, h7, d7⟩ := h6.draw (F := F) (m := 4000) mK3 (by decide) (by decide)
  have e7 : f_L_draw F 91 4000 (si_pa S5 93 (4 * j + 2) (nI (1 + c))) = some (nI w, S7) := e7
  rw [nI_add2, nI_1a, e6, Option.bind_some, if_neg (not_not_intro (h6.g 1 g1)), if_neg (not_not_intro (h6.g 1 g1)), r6, Option.bind_some, e7, Option.bind_some, if_pos rfl]
  unfold f_L_market_h136
  dsimp only
  obtain ⟨e8, h8, d8⟩ := h7.wr (i := 4 * j + 3) (v := nI (20 * (1 + c) + w)) mK3 (by omega) (by omega)
  obtain ⟨S9, e9, h9, d9⟩ := h8.str (F := F) (g0 := 9) mK3 (by decide) (by decide) (by omega)
  rw [nI_20m, nI_add, nI_add3, e8, Option.bind_some, if_neg (not_not_intro h8.o), e9, Option.bind_some]
  unfold f_L_market_h144
  have k1 := dgs_len a
  have k2 := dgs_len b
  have k3 := dgs_len (1 + c)
  have hl9 : (tx 9).length = 6 := rfl
  obtain ⟨S10, e10, h10, d10⟩ := h9.int (F := F) (x := a) mK3 hF (by omega) (by rw [List.length_append]; omega)
  rw [if_neg (not_not_intro (h9.g 1 g1)), h9.rd (i := 4 * j) (by omega) (by omega), Option.bind_some]
  simp only [if_neg (by omega : ¬ 4 * j = 4 * j + 3), if_neg (by omega : ¬ 4 * j = 4 * j + 2), if_neg (by omega : ¬ 4 * j = 4 * j + 1), if_true]
  rw [if_neg (not_not_intro h9.o), e10, Option.bind_some]
  unfold f_L_market_h153
  obtain ⟨S11, e11, h11, d11⟩ := h10.chr (F := F) (c := 32) mK3 (by decide) (by rw [List.length_append, List.length_append]; omega)
  have e11 : f_J4_append_cf468 F 32 S10 = some S11 := e11
  rw [if_neg (not_not_intro h10.o), e11, Option.bind_some]
  unfold f_L_market_h158
  obtain ⟨S12, e12, h12, d12⟩ := h11.int (F := F) (x := b) mK3 hF (by omega) (by simp only [List.length_append, List.length_cons, List.length_nil]; omega)
  rw [if_neg (not_not_intro (h11.g 1 g1)), nI_1, h11.rd (i := 4 * j + 1) (by omega) (by omega), Option.bind_some]
  simp only [if_neg (by omega : ¬ 4 * j + 1 = 4 * j + 3), if_neg (by omega : ¬ 4 * j + 1 = 4 * j + 2), if_true]
  rw [if_neg (not_not_intro h11.o), e12, Option.bind_some]
  unfold f_L_market_h169
  obtain ⟨S13, e13, h13, d13⟩ := h12.chr (F := F) (c := 32) mK3 (by decide) (by simp only [List.length_append, List.length_cons, List.length_nil]; omega)
  have e13 : f_J4_append_cf468 F 32 S12 = some S13 := e13
  rw [if_neg (not_not_intro h12.o), e13, Option.bind_some]
  unfold f_L_market_h174
  obtain ⟨S14, e14, h14, d14⟩ := h13.int (F := F) (x := 1 + c) mK3 hF (by omega) (by simp only [List.length_append, List.length_cons, List.length_nil]; omega)
  rw [if_neg (not_not_intro (h13.g 1 g1)), nI_add2, h13.rd (i := 4 * j + 2) (by omega) (by omega), Option.bind_some]
  simp only [if_neg (by omega : ¬ 4 * j + 2 = 4 * j + 3), if_true]
  rw [if_neg (not_not_intro h13.o), e14, Option.bind_some]
  unfold f_L_market_h185
  obtain ⟨S15, e15, h15, d15⟩ := h14.chr (F := F) (c := 32) mK3 (by decide) (by simp only [List.length_append, List.length_cons, List.length_nil]; omega)
  have e15 : f_J4_append_cf468 F 32 S14 = some S15 := e15
  rw [if_neg (not_not_intro h14.o), e15, Option.bind_some]
  unfold f_L_market_h190
  have hd : 20 * (1 + c) + w < 10000 := by omega
  have k4 := dgs_len (20 * (1 + c) + w)
  obtain ⟨S16, e16, h16, d16⟩ := h15.int (F := F) (x := 20 * (1 + c) + w) mK3 hF hd (by simp only [List.length_append, List.length_cons, List.length_nil]; omega)
  rw [if_neg (not_not_intro (h15.g 1 g1)), nI_add3, h15.rd (i := 4 * j + 3) (by omega) (by omega), Option.bind_some]
  simp only [if_true]
  rw [if_neg (not_not_intro h15.o), e16, Option.bind_some]
  unfold f_L_market_h201 f_L_market_h206
  obtain ⟨S17, e17, h17, d17⟩ := h16.chr (F := F) (c := 59) mK3 (by decide) (by simp only [List.length_append, List.length_cons, List.length_nil]; omega)
  have e17 : f_J4_append_cf468 F 59 S16 = some S17 := e17
  rw [if_neg (not_not_intro h16.o), e17, Option.bind_some, Option.bind_some, nI_add4]
  have hx : T ++ tx 9 ++ dgs a ++ [32] ++ dgs b ++ [32] ++ dgs (1 + c) ++ [32] ++ dgs (20 * (1 + c) + w) ++ [59] = T ++ stx (1, [a, b, 1 + c, 20 * (1 + c) + w]) := by
    show _ = T ++ (tx 9 ++ dgs a ++ [32] ++ dgs b ++ [32] ++ dgs (1 + c) ++ [32] ++ dgs (20 * (1 + c) + w) ++ [59])
    simp only [List.append_assoc]
  rw [hx] at h17
  refine ⟨(1, [a, b, 1 + c, 20 * (1 + c) + w]), ⟨ha, hb, by omega, by omega, by omega, by omega⟩, ⟨_, _, _, _, rfl⟩, S17, _, rfl, h17, ?_⟩
  exact ((d1.cm (by decide)).tr ((d2.cm (by decide)).tr ((d3.cm (by decide)).tr ((d4.cm (by decide)).tr ((d5.cm (by decide)).tr ((d6.cm (by decide)).tr ((d7.cm (by decide)).tr ((d8.cm (by decide)).tr ((d9.cm (by decide)).tr ((d10.cm (by decide)).tr ((d11.cm (by decide)).tr ((d12.cm (by decide)).tr ((d13.cm (by decide)).tr ((d14.cm (by decide)).tr ((d15.cm (by decide)).tr ((d16.cm (by decide)).tr (d17.cm (by decide)))))))))))))))))).up (by omega) (by omega)
theorem mk_sc {F N t : Nat} (hF : 10 ≤ F) (ht : t ≤ 1000) (ht0 : 0 < t) (hN : N ≤ 1000) : ∀ m n j (S : si_St) (T : List Nat) (f g : Nat → Int32), N = j + m → m < n → mR S T 93 (4 * N) f g → g 0 = nI t → g 1 ≠ 0 → T.length + 30 * m ≤ 360 → ∃ ms : List (Nat × List Nat), ms.length = m ∧ (∀ x ∈ ms, okS t x ∧ ∃ a b c d, x = (1, [a, b, c, d])) ∧ ∃ S' v f', v < 4 ∧ f_L_market_l59 F n (nI (4 * j)) S = f_L_market_h220 F (nI v) 3 S' ∧ mR S' (T ++ ms.flatMap stx) 93 (4 * N) f' g ∧ dn CM (9 * m) (9000 * m) S S' := by
  intro m
  induction m with
  | zero =>
    intro n j S T f g htj hmn h g0 g1 hT
    obtain ⟨n, rfl⟩ : ∃ k, n = k + 1 := ⟨n - 1, by omega⟩
    unfold f_L_market_l59 f_L_market_h59
    rw [if_neg (not_not_intro (h.g 1 g1)), h.al, Option.bind_some, if_pos (nI_le (by omega) (by omega))]
    obtain ⟨v, S1, hv, e, h1, d⟩ := h.draw (F := F) (m := 4) mK3 (by decide) (by decide)
    have e : f_L_draw F 91 4 S = some (nI v, S1) := e
    rw [e, Option.bind_some]
    refine ⟨[], rfl, fun x hx => absurd hx (List.not_mem_nil), S1, v, f, hv, rfl, ?_, d.cm (by decide)⟩
    rw [List.flatMap_nil, List.append_nil]
    exact h1
  | succ m ih =>
    intro n j S T f g htj hmn h g0 g1 hT
    obtain ⟨n, rfl⟩ : ∃ k, n = k + 1 := ⟨n - 1, by omega⟩
    unfold f_L_market_l59
    obtain ⟨x, ok, hx, S1, f1, e1, h1, d1⟩ := mk_scale (F := F) hF ht ht0 hN (j := j) (by omega) (f_L_market_l59 F n) h g0 g1 (by omega)
    have hl := stx_len ok
    obtain ⟨ms, hm, hall, S', v, f', hv, e, h', d⟩ := ih n (j + 1) S1 (T ++ stx x) f1 g (by omega) (by omega) h1 g0 g1 (by rw [List.length_append]; omega)
    refine ⟨x :: ms, by rw [List.length_cons, hm], fun y hy => ?_, S', v, f', hv, e1.trans e, ?_, (d1.tr d).up (by omega) (by omega)⟩
    · rcases List.mem_cons.mp hy with h9 | h9
      · rw [h9]; exact ⟨ok, hx⟩
      · exact hall y h9
    · rw [List.flatMap_cons, ← List.append_assoc]
      exact h'
-- a mass, once its value and its error are drawn
theorem mk_mass0 {F N : Nat} (hF : 10 ≤ F) (hN : N ≤ 1000) {j v e : Nat} (hj : j < N) (hv : 11 ≤ v) (hv2 : v ≤ 1000) (he : e ≤ 8) (r : Int32 → si_St → Option si_St) {S : si_St} {T : List Nat} {f g : Nat → Int32} (h : mR S T 94 N f g) (g2 : g 2 ≠ 0) (hT : T.length ≤ 360) : ∃ x, (∀ t, okS t x) ∧ (∃ a b c, x = (2, [a, b, c])) ∧ ∃ S' f', f_L_market_h289 F r (nI j) (nI v) (nI e) S = r (nI (j + 1)) S' ∧ mR S' (T ++ stx x) 94 N f' g ∧ dn CM 5 5000 S S' := by
  have hfin : ∀ (S : si_St) (U : List Nat) (f : Nat → Int32), mR S U 94 N f g → U.length ≤ 400 → ∃ S', f_L_market_h367 F r (nI j) S = r (nI (j + 1)) S' ∧ mR S' (U ++ [59]) 94 N f g ∧ dn [87, 88, 100] 1 1000 S S' := fun S U f h hU => by
    unfold f_L_market_h367 f_L_market_h373
    obtain ⟨S1, e1, h1, d1⟩ := h.chr (F := F) (c := 59) mK4 (by decide) hU
    have e1 : f_J4_append_cf468 F 59 S = some S1 := e1
    rw [if_neg (not_not_intro h.o), e1, Option.bind_some, Option.bind_some, nI_1]
    exact ⟨S1, rfl, h1, d1⟩
  have hl10 : (tx 10).length = 5 := rfl
  have hdv := dgs_len v
  have hde := dgs_len e
  have hmain : ∀ (x6 : Int32) (w : Int32) (s : Nat) (S : si_St) (f : Nat → Int32), (s = 1 ∨ s = 2) → (if x6 = 0 then (12 : Nat) else 11) = (if s = 1 then 11 else 12) → mR S T 94 N f g → ∃ x, (∀ t, okS t x) ∧ (∃ a b c, x = (2, [a, b, c])) ∧ ∃ S' f', f_L_market_h326 F r (nI j) (nI v) (nI e) x6 w (nI v) (nI j) S = r (nI (j + 1)) S' ∧ mR S' (T ++ stx x) 94 N f' g ∧ dn CM 5 5000 S S' := fun x6 w s S f hs hx6 h => by
    unfold f_L_market_h326
    obtain ⟨e1, h1, d1⟩ := h.wr (i := j) (v := nI v + w) mK4 hj (by omega)
    obtain ⟨S2, e2, h2, d2⟩ := h1.str (F := F) (g0 := 10) mK4 (by decide) (by decide) (by omega)
    rw [e1, Option.bind_some, if_neg (not_not_intro h1.o), e2, Option.bind_some]
    unfold f_L_market_h334
    obtain ⟨S3, e3, h3, d3⟩ := h2.int (F := F) (x := v) mK4 hF (by omega) (by rw [List.length_append]; omega)
    rw [if_neg (not_not_intro h2.o), e3, Option.bind_some]
    unfold f_L_market_h339
    by_cases he0 : e = 0
    · rw [if_pos (by rw [he0]; exact Int32.le_refl _)]
      obtain ⟨S4, e4, h4, d4⟩ := hfin S3 _ _ h3 (by rw [List.length_append, List.length_append]; omega)
      have hx : T ++ tx 10 ++ dgs v ++ [59] = T ++ stx (2, [v, 0, e]) := by
        show _ = T ++ (tx 10 ++ dgs v ++ [] ++ [59])
        simp only [List.append_assoc, List.nil_append]
      rw [hx] at h4
      exact ⟨(2, [v, 0, e]), fun t => ⟨hv, hv2, by omega, fun h => absurd rfl h⟩, ⟨_, _, _, rfl⟩, S4, _, e4, h4, ((d1.cm (by decide)).tr ((d2.cm (by decide)).tr ((d3.cm (by decide)).tr (d4.cm (by decide))))).up (by omega) (by omega)⟩
    · rw [if_neg (nI_nle (by omega) (by omega))]
      have hd : (if x6 = 0 then f_L_market_h358 F r (nI j) (nI e) 12 S3 else f_L_market_h358 F r (nI j) (nI e) 11 S3) = f_L_market_h358 F r (nI j) (nI e) (if s = 1 then 11 else 12) S3 := by
        rw [← hx6]
        by_cases h9 : x6 = 0
        · rw [if_pos h9, if_pos h9]
        · rw [if_neg h9, if_neg h9]
      rw [hd]
      unfold f_L_market_h358
      obtain ⟨q, hq⟩ : ∃ q, q = (if s = 1 then 11 else 12) := ⟨_, rfl⟩
      have hq1 : q = 11 ∨ q = 12 := by
        rw [hq]
        split
        · exact Or.inl rfl
        · exact Or.inr rfl
      have hql : (tx q).length ≤ 7 := by rcases hq1 with h9 | h9 <;> rw [h9] <;> decide
      rw [← hq]
      obtain ⟨S4, e4, h4, d4⟩ := h3.str (F := F) (g0 := q) mK4 (by omega) (by omega) (by rw [List.length_append, List.length_append]; omega)
      rw [if_neg (not_not_intro h3.o), e4, Option.bind_some]
      unfold f_L_market_h361 f_L_market_h366
      obtain ⟨S5, e5, h5, d5⟩ := h4.int (F := F) (x := e) mK4 hF (by omega) (by simp only [List.length_append]; omega)
      rw [if_neg (not_not_intro h4.o), e5, Option.bind_some]
      obtain ⟨S6, e6, h6, d6⟩ := hfin S5 _ _ h5 (by simp only [List.length_append]; omega)
      have hx : T ++ tx 10 ++ dgs v ++ tx q ++ dgs e ++ [59] = T ++ stx (2, [v, s, e]) := by
        show _ = T ++ (tx 10 ++ dgs v ++ (if s = 0 then [] else tx (if s = 1 then 11 else 12) ++ dgs e) ++ [59])
        rw [if_neg (by omega), ← hq]
        simp only [List.append_assoc]
      rw [hx] at h6
      exact ⟨(2, [v, s, e]), fun t => ⟨hv, hv2, by omega, fun _ => by omega⟩, ⟨_, _, _, rfl⟩, S6, _, e6, h6, ((d1.cm (by decide)).tr ((d2.cm (by decide)).tr ((d3.cm (by decide)).tr ((d4.cm (by decide)).tr ((d5.cm (by decide)).tr (d6.cm (by decide))))))).up (by omega) (by omega)⟩
  unfold f_L_market_h289 f_L_market_h296
  obtain ⟨s, S1, hs, e1, h1, d1⟩ := h.draw (F := F) (m := 2) mK4 (by decide) (by decide)
  have e1 : f_L_draw F 91 2 S = some (nI s, S1) := e1
  rw [e1, Option.bind_some]
  dsimp only
  by_cases hs0 : s = 0
  · rw [if_pos (by rw [hs0]; rfl)]
    unfold f_L_market_h304
    rw [if_neg (not_not_intro (h1.g 2 g2)), if_neg (by decide)]
    obtain ⟨x, a1, a2, S', f', e, h', d⟩ := hmain 1 (nI e) 1 S1 f (Or.inl rfl) (by decide) h1
    exact ⟨x, a1, a2, S', f', e, h', ((d1.cm (by decide)).tr d).up (by omega) (by omega)⟩
  · rw [if_neg (nI_ne0 (by omega) (by omega))]
    unfold f_L_market_h304
    rw [if_neg (not_not_intro (h1.g 2 g2)), if_pos rfl]
    obtain ⟨x, a1, a2, S', f', e, h', d⟩ := hmain 0 (-nI e) 2 S1 f (Or.inr rfl) (by decide) h1
    exact ⟨x, a1, a2, S', f', e, h', ((d1.cm (by decide)).tr d).up (by omega) (by omega)⟩
theorem mk_mass {F N : Nat} (hF : 10 ≤ F) (hN : N ≤ 1000) {j : Nat} (hj : j < N) (r : Int32 → si_St → Option si_St) {S : si_St} {T : List Nat} {f g : Nat → Int32} (h : mR S T 94 N f g) (g2 : g 2 ≠ 0) (hT : T.length ≤ 360) : ∃ x, (∀ t, okS t x) ∧ (∃ a b c, x = (2, [a, b, c])) ∧ ∃ S' f', f_L_market_h228 F r (nI j) S = r (nI (j + 1)) S' ∧ mR S' (T ++ stx x) 94 N f' g ∧ dn CM 5 5000 S S' := by
  unfold f_L_market_h228
  rw [if_neg (not_not_intro (h.g 2 g2)), h.al, Option.bind_some, if_neg (fun h => by have := (nI_leI (by omega) (by omega)).mp h; omega)]
  obtain ⟨u, S1, hu, e1, h1, d1⟩ := h.draw (F := F) (m := 9) mK4 (by decide) (by decide)
  have e1 : f_L_draw F 91 9 S = some (nI u, S1) := e1
  rw [e1, Option.bind_some]
  unfold f_L_market_h244
  dsimp only
  obtain ⟨s, S2, hs, e2, h2, d2⟩ := h1.draw (F := F) (m := 2) mK4 (by decide) (by decide)
  have e2 : f_L_draw F 91 2 S1 = some (nI s, S2) := e2
  rw [e2, Option.bind_some, nI_1a]
  have rest : ∀ (v : Nat) (S : si_St), 11 ≤ v → v ≤ 1000 → mR S T 94 N f g → ∃ x, (∀ t, okS t x) ∧ (∃ a b c, x = (2, [a, b, c])) ∧ ∃ S' f', (Option.bind (some (nI v)) fun v35 => Option.bind (f_L_draw F 91 3 S) fun q36 => f_L_market_h276 F r (nI j) v35 q36.1 q36.2) = r (nI (j + 1)) S' ∧ mR S' (T ++ stx x) 94 N f' g ∧ dn CM 5 5000 S S' := fun v S hv hv2 h => by
    obtain ⟨w, S3, hw, e3, h3, d3⟩ := h.draw (F := F) (m := 3) mK4 (by decide) (by decide)
    have e3 : f_L_draw F 91 3 S = some (nI w, S3) := e3
    rw [Option.bind_some, e3, Option.bind_some]
    unfold f_L_market_h276
    dsimp only
    by_cases hw0 : w = 0
    · rw [if_pos (by rw [hw0]; rfl)]
      obtain ⟨y, S4, hy, e4, h4, d4⟩ := h3.draw (F := F) (m := 9) mK4 (by decide) (by decide)
      have e4 : f_L_draw F 91 9 S3 = some (nI y, S4) := e4
      rw [e4, Option.bind_some]
      unfold f_L_market_h285
      dsimp only
      obtain ⟨x, a1, a2, S', f', e, h', d⟩ := mk_mass0 hF hN hj hv hv2 (e := y) (by omega) r h4 g2 hT
      exact ⟨x, a1, a2, S', f', e, h', ((d3.cm (by decide)).tr ((d4.cm (by decide)).tr d)).up (by omega) (by omega)⟩
    · rw [if_neg (nI_ne0 (by omega) (by omega))]
      obtain ⟨x, a1, a2, S', f', e, h', d⟩ := mk_mass0 hF hN hj hv hv2 (e := 0) (by omega) r h3 g2 hT
      exact ⟨x, a1, a2, S', f', e, h', ((d3.cm (by decide)).tr d).up (by omega) (by omega)⟩
  unfold f_L_market_h250
  dsimp only
  by_cases hs0 : s = 0
  · rw [if_pos (by rw [hs0]; rfl)]
    unfold f_L_market_h268
    have : nI (1 + u) + (100 : Int32) = nI (1 + u + 100) := nI_add (1 + u) 100
    rw [this]
    obtain ⟨x, a1, a2, S', f', e, h', d⟩ := rest (1 + u + 100) S2 (by omega) (by omega) h2
    exact ⟨x, a1, a2, S', f', e, h', ((d1.cm (by decide)).tr ((d2.cm (by decide)).tr d)).up (by omega) (by omega)⟩
  · rw [if_neg (nI_ne0 (by omega) (by omega))]
    obtain ⟨y, S3, hy, e3, h3, d3⟩ := h2.draw (F := F) (m := 900) mK4 (by decide) (by decide)
    have e3 : f_L_draw F 91 900 S2 = some (nI y, S3) := e3
    rw [e3, Option.bind_some]
    unfold f_L_market_h267 f_L_market_h268
    dsimp only
    have : (10 : Int32) + nI y = nI (10 + y) := nI_add 10 y
    rw [this, nI_add]
    obtain ⟨x, a1, a2, S', f', e, h', d⟩ := rest (1 + u + (10 + y)) S3 (by omega) (by omega) h3
    exact ⟨x, a1, a2, S', f', e, h', ((d1.cm (by decide)).tr ((d2.cm (by decide)).tr ((d3.cm (by decide)).tr d))).up (by omega) (by omega)⟩
theorem mk_ms {F N : Nat} (hF : 10 ≤ F) (hN : N ≤ 1000) : ∀ m n j (S : si_St) (T : List Nat) (f g : Nat → Int32), N = j + m → m < n → mR S T 94 N f g → g 2 ≠ 0 → T.length + 30 * m ≤ 360 → ∃ ms : List (Nat × List Nat), ms.length = m ∧ (∀ x ∈ ms, (∀ t, okS t x) ∧ ∃ a b c, x = (2, [a, b, c])) ∧ ∃ S' v f', v < 2 ∧ f_L_market_l228 F n (nI j) S = f_L_market_h388 F (nI v) 1 2 S' ∧ mR S' (T ++ ms.flatMap stx) 94 N f' g ∧ dn CM (5 * m) (5000 * m) S S' := by
  intro m
  induction m with
  | zero =>
    intro n j S T f g htj hmn h g2 hT
    obtain ⟨n, rfl⟩ : ∃ k, n = k + 1 := ⟨n - 1, by omega⟩
    unfold f_L_market_l228 f_L_market_h228
    rw [if_neg (not_not_intro (h.g 2 g2)), h.al, Option.bind_some, if_pos (nI_le (by omega) (by omega))]
    obtain ⟨v, S1, hv, e, h1, d⟩ := h.draw (F := F) (m := 2) mK4 (by decide) (by decide)
    have e : f_L_draw F 91 2 S = some (nI v, S1) := e
    rw [e, Option.bind_some]
    refine ⟨[], rfl, fun x hx => absurd hx (List.not_mem_nil), S1, v, f, hv, rfl, ?_, d.cm (by decide)⟩
    rw [List.flatMap_nil, List.append_nil]
    exact h1
  | succ m ih =>
    intro n j S T f g htj hmn h g2 hT
    obtain ⟨n, rfl⟩ : ∃ k, n = k + 1 := ⟨n - 1, by omega⟩
    unfold f_L_market_l228
    obtain ⟨x, ok, hx, S1, f1, e1, h1, d1⟩ := mk_mass (F := F) hF hN (j := j) (by omega) (f_L_market_l228 F n) h g2 (by omega)
    have hl := stx_len (ok 0)
    obtain ⟨ms, hm, hall, S', v, f', hv, e, h', d⟩ := ih n (j + 1) S1 (T ++ stx x) f1 g (by omega) (by omega) h1 g2 (by rw [List.length_append]; omega)
    refine ⟨x :: ms, by rw [List.length_cons, hm], fun y hy => ?_, S', v, f', hv, e1.trans e, ?_, (d1.tr d).up (by omega) (by omega)⟩
    · rcases List.mem_cons.mp hy with h9 | h9
      · rw [h9]; exact ⟨ok, hx⟩
      · exact hall y h9
    · rw [List.flatMap_cons, ← List.append_assoc]
      exact h'
