-- TOOLS: small numbers beside written ones, reads and writes of the written rows, is there such a place
theorem li_lit (n : Nat) : (OfNat.ofNat n : Int32) = nI (OfNat.ofNat n) := rfl
theorem li_addL (n a : Nat) : (OfNat.ofNat n : Int32) + nI a = nI (OfNat.ofNat n + a) := nI_add n a
theorem li_addR (n a : Nat) : nI a + (OfNat.ofNat n : Int32) = nI (a + OfNat.ofNat n) := nI_add a n
theorem li_mulL (n a : Nat) : (OfNat.ofNat n : Int32) * nI a = nI (OfNat.ofNat n * a) := sm_mul n a
theorem li_mulR (n a : Nat) : nI a * (OfNat.ofNat n : Int32) = nI (a * OfNat.ofNat n) := sm_mul a n
theorem li_leL {n a : Nat} (hn : (OfNat.ofNat n : Nat) < 2147483648) (ha : a < 2147483648) : ((OfNat.ofNat n : Int32) ≤ nI a) ↔ OfNat.ofNat n ≤ a := nI_leI hn ha
theorem li_leR {n a : Nat} (hn : (OfNat.ofNat n : Nat) < 2147483648) (ha : a < 2147483648) : (nI a ≤ (OfNat.ofNat n : Int32)) ↔ a ≤ OfNat.ofNat n := nI_leI ha hn
theorem li_ltL {n a : Nat} (hn : (OfNat.ofNat n : Nat) < 2147483648) (ha : a < 2147483648) : ((OfNat.ofNat n : Int32) < nI a) ↔ OfNat.ofNat n < a := nI_ltI hn ha
theorem li_ltR {n a : Nat} (hn : (OfNat.ofNat n : Nat) < 2147483648) (ha : a < 2147483648) : (nI a < (OfNat.ofNat n : Int32)) ↔ a < OfNat.ofNat n := nI_ltI ha hn
theorem li_eqL {n a : Nat} (hn : (OfNat.ofNat n : Nat) < 2147483648) (ha : a < 2147483648) : ((OfNat.ofNat n : Int32) = nI a) ↔ OfNat.ofNat n = a := nI_eq hn ha
theorem li_eqR {n a : Nat} (hn : (OfNat.ofNat n : Nat) < 2147483648) (ha : a < 2147483648) : (nI a = (OfNat.ofNat n : Int32)) ↔ a = OfNat.ofNat n := nI_eq ha hn
theorem li_le {a b : Nat} (ha : a < 2147483648) (hb : b < 2147483648) : nI a ≤ nI b ↔ a ≤ b := nI_leI ha hb
theorem li_lt {a b : Nat} (ha : a < 2147483648) (hb : b < 2147483648) : nI a < nI b ↔ a < b := nI_ltI ha hb
theorem li_eq {a b : Nat} (ha : a < 2147483648) (hb : b < 2147483648) : nI a = nI b ↔ a = b := nI_eq ha hb
theorem li_m1 {a : Nat} (ha : a < 2147483648) : (nI a = (-1)) ↔ False := iff_false_intro (sm_m1 ha)
theorem pa_e {S : si_St} {k i : Nat} {v : Int32} : (si_pa S k i v).2.1 k i = v := if_pos ⟨rfl, rfl⟩
theorem pa_s {S : si_St} {k i j : Nat} {v : Int32} (h : i ≠ j) : (si_pa S k j v).2.1 k i = S.2.1 k i := if_neg (fun h2 => h h2.2)
theorem pa_o {S : si_St} {k i r : Nat} {v : Int32} (h : r ≠ k) : (si_pa S k i v).2.1 r = S.2.1 r := sn_po h
theorem pa_1 {S : si_St} {k i : Nat} {v : Int32} : (si_pa S k i v).1 = S.1 := rfl
theorem ps_2 {S : si_St} {k j : Nat} {v : Int32} : (si_ps S k j v).2 = S.2 := rfl
theorem ps_e {S : si_St} {k j : Nat} {v : Int32} : (si_ps S k j v).1 k j = v := if_pos ⟨rfl, rfl⟩
theorem ps_o {S : si_St} {k j a b : Nat} {v : Int32} (h : ¬ (a = k ∧ b = j)) : (si_ps S k j v).1 a b = S.1 a b := if_neg h
theorem rd_m {S : si_St} {mk i : Nat} (hm : mk = 69 ∨ mk = 78) : (i < 24 → si_rd S (mk + 1) (nI i) = some (S.2.1 (mk + 1) i)) ∧ (i < 24 → si_rd S (mk + 2) (nI i) = some (S.2.1 (mk + 2) i)) ∧ (i < 24 → si_rd S (mk + 3) (nI i) = some (S.2.1 (mk + 3) i)) ∧ (i < 24 → si_rd S (mk + 4) (nI i) = some (S.2.1 (mk + 4) i)) ∧ (i < 10 → si_rd S (mk + 5) (nI i) = some (S.2.1 (mk + 5) i)) ∧ (i < 4 → si_rd S (mk + 6) (nI i) = some (S.2.1 (mk + 6) i)) ∧ (i < 4 → si_rd S (mk + 7) (nI i) = some (S.2.1 (mk + 7) i)) ∧ (i < 3 → si_rd S (mk + 8) (nI i) = some (S.2.1 (mk + 8) i)) := by
  rcases hm with rfl | rfl <;> exact ⟨fun h => sm_rd (show i < 24 from h) (by decide), fun h => sm_rd (show i < 24 from h) (by decide), fun h => sm_rd (show i < 24 from h) (by decide), fun h => sm_rd (show i < 24 from h) (by decide), fun h => sm_rd (show i < 10 from h) (by decide), fun h => sm_rd (show i < 4 from h) (by decide), fun h => sm_rd (show i < 4 from h) (by decide), fun h => sm_rd (show i < 3 from h) (by decide)⟩
theorem rd_m1 {S : si_St} {mk i : Nat} (hm : mk = 69 ∨ mk = 78) (h : i < 24) : si_rd S (mk + 1) (nI i) = some (S.2.1 (mk + 1) i) := (rd_m hm).1 h
theorem rd_m2 {S : si_St} {mk i : Nat} (hm : mk = 69 ∨ mk = 78) (h : i < 24) : si_rd S (mk + 2) (nI i) = some (S.2.1 (mk + 2) i) := (rd_m hm).2.1 h
theorem rd_m3 {S : si_St} {mk i : Nat} (hm : mk = 69 ∨ mk = 78) (h : i < 24) : si_rd S (mk + 3) (nI i) = some (S.2.1 (mk + 3) i) := (rd_m hm).2.2.1 h
theorem rd_m4 {S : si_St} {mk i : Nat} (hm : mk = 69 ∨ mk = 78) (h : i < 24) : si_rd S (mk + 4) (nI i) = some (S.2.1 (mk + 4) i) := (rd_m hm).2.2.2.1 h
theorem rd_m5 {S : si_St} {mk i : Nat} (hm : mk = 69 ∨ mk = 78) (h : i < 10) : si_rd S (mk + 5) (nI i) = some (S.2.1 (mk + 5) i) := (rd_m hm).2.2.2.2.1 h
theorem rd_m6 {S : si_St} {mk i : Nat} (hm : mk = 69 ∨ mk = 78) (h : i < 4) : si_rd S (mk + 6) (nI i) = some (S.2.1 (mk + 6) i) := (rd_m hm).2.2.2.2.2.1 h
theorem rd_m7 {S : si_St} {mk i : Nat} (hm : mk = 69 ∨ mk = 78) (h : i < 4) : si_rd S (mk + 7) (nI i) = some (S.2.1 (mk + 7) i) := (rd_m hm).2.2.2.2.2.2.1 h
theorem rd_m8 {S : si_St} {mk i : Nat} (hm : mk = 69 ∨ mk = 78) (h : i < 3) : si_rd S (mk + 8) (nI i) = some (S.2.1 (mk + 8) i) := (rd_m hm).2.2.2.2.2.2.2 h
theorem rd_2 {S : si_St} {i : Nat} (h : i < 800) : si_rd S 2 (nI i) = some (S.2.1 2 i) := sm_rd (show i < 800 from h) (by decide)
theorem wr_2 {S : si_St} {i : Nat} {v : Int32} (h : i < 800) : si_wr S 2 (nI i) v = some (si_pa S 2 i v) := sm_wr (show i < 800 from h) (by decide)
theorem rd_4 {S : si_St} {i : Nat} (h : i < 1024) : si_rd S 4 (nI i) = some (S.2.1 4 i) := sm_rd (show i < 1024 from h) (by decide)
theorem wr_4 {S : si_St} {i : Nat} {v : Int32} (h : i < 1024) : si_wr S 4 (nI i) v = some (si_pa S 4 i v) := sm_wr (show i < 1024 from h) (by decide)
theorem rl_5 {S : si_St} {i : Nat} (h : i < 243) : si_rl S 5 (nI i) = some (S.2.2.1 5 i) := sm_rl (show i < 243 from h) (by decide)
theorem wl_5 {S : si_St} {i : Nat} {v : Int64} (h : i < 243) : si_wl S 5 (nI i) v = some (si_pl S 5 i v) := sm_wl (show i < 243 from h) (by decide)
theorem rl_6 {S : si_St} {i : Nat} (h : i < 243) : si_rl S 6 (nI i) = some (S.2.2.1 6 i) := sm_rl (show i < 243 from h) (by decide)
theorem wl_6 {S : si_St} {i : Nat} {v : Int64} (h : i < 243) : si_wl S 6 (nI i) v = some (si_pl S 6 i v) := sm_wl (show i < 243 from h) (by decide)
theorem rd_8 {S : si_St} {i : Nat} (h : i < 30) : si_rd S 8 (nI i) = some (S.2.1 8 i) := sm_rd (show i < 30 from h) (by decide)
theorem wr_8 {S : si_St} {i : Nat} {v : Int32} (h : i < 30) : si_wr S 8 (nI i) v = some (si_pa S 8 i v) := sm_wr (show i < 30 from h) (by decide)
theorem rd_9 {S : si_St} {i : Nat} (h : i < 30) : si_rd S 9 (nI i) = some (S.2.1 9 i) := sm_rd (show i < 30 from h) (by decide)
theorem wr_9 {S : si_St} {i : Nat} {v : Int32} (h : i < 30) : si_wr S 9 (nI i) v = some (si_pa S 9 i v) := sm_wr (show i < 30 from h) (by decide)
theorem rd_10 {S : si_St} {i : Nat} (h : i < 30) : si_rd S 10 (nI i) = some (S.2.1 10 i) := sm_rd (show i < 30 from h) (by decide)
theorem wr_10 {S : si_St} {i : Nat} {v : Int32} (h : i < 30) : si_wr S 10 (nI i) v = some (si_pa S 10 i v) := sm_wr (show i < 30 from h) (by decide)
theorem rd_11 {S : si_St} {i : Nat} (h : i < 30) : si_rd S 11 (nI i) = some (S.2.1 11 i) := sm_rd (show i < 30 from h) (by decide)
theorem wr_11 {S : si_St} {i : Nat} {v : Int32} (h : i < 30) : si_wr S 11 (nI i) v = some (si_pa S 11 i v) := sm_wr (show i < 30 from h) (by decide)
theorem rd_12 {S : si_St} {i : Nat} (h : i < 30) : si_rd S 12 (nI i) = some (S.2.1 12 i) := sm_rd (show i < 30 from h) (by decide)
theorem wr_12 {S : si_St} {i : Nat} {v : Int32} (h : i < 30) : si_wr S 12 (nI i) v = some (si_pa S 12 i v) := sm_wr (show i < 30 from h) (by decide)
theorem rd_13 {S : si_St} {i : Nat} (h : i < 240) : si_rd S 13 (nI i) = some (S.2.1 13 i) := sm_rd (show i < 240 from h) (by decide)
theorem wr_13 {S : si_St} {i : Nat} {v : Int32} (h : i < 240) : si_wr S 13 (nI i) v = some (si_pa S 13 i v) := sm_wr (show i < 240 from h) (by decide)
theorem rd_14 {S : si_St} {i : Nat} (h : i < 240) : si_rd S 14 (nI i) = some (S.2.1 14 i) := sm_rd (show i < 240 from h) (by decide)
theorem wr_14 {S : si_St} {i : Nat} {v : Int32} (h : i < 240) : si_wr S 14 (nI i) v = some (si_pa S 14 i v) := sm_wr (show i < 240 from h) (by decide)
theorem rd_15 {S : si_St} {i : Nat} (h : i < 240) : si_rd S 15 (nI i) = some (S.2.1 15 i) := sm_rd (show i < 240 from h) (by decide)
theorem wr_15 {S : si_St} {i : Nat} {v : Int32} (h : i < 240) : si_wr S 15 (nI i) v = some (si_pa S 15 i v) := sm_wr (show i < 240 from h) (by decide)
theorem rd_17 {S : si_St} {i : Nat} (h : i < 4) : si_rd S 17 (nI i) = some (S.2.1 17 i) := sm_rd (show i < 4 from h) (by decide)
theorem wr_17 {S : si_St} {i : Nat} {v : Int32} (h : i < 4) : si_wr S 17 (nI i) v = some (si_pa S 17 i v) := sm_wr (show i < 4 from h) (by decide)
theorem rd_18 {S : si_St} {i : Nat} (h : i < 4) : si_rd S 18 (nI i) = some (S.2.1 18 i) := sm_rd (show i < 4 from h) (by decide)
theorem wr_18 {S : si_St} {i : Nat} {v : Int32} (h : i < 4) : si_wr S 18 (nI i) v = some (si_pa S 18 i v) := sm_wr (show i < 4 from h) (by decide)
theorem rd_19 {S : si_St} {i : Nat} (h : i < 4) : si_rd S 19 (nI i) = some (S.2.1 19 i) := sm_rd (show i < 4 from h) (by decide)
theorem wr_19 {S : si_St} {i : Nat} {v : Int32} (h : i < 4) : si_wr S 19 (nI i) v = some (si_pa S 19 i v) := sm_wr (show i < 4 from h) (by decide)
theorem rd_20 {S : si_St} {i : Nat} (h : i < 4) : si_rd S 20 (nI i) = some (S.2.1 20 i) := sm_rd (show i < 4 from h) (by decide)
theorem wr_20 {S : si_St} {i : Nat} {v : Int32} (h : i < 4) : si_wr S 20 (nI i) v = some (si_pa S 20 i v) := sm_wr (show i < 4 from h) (by decide)
theorem rd_22 {S : si_St} {i : Nat} (h : i < 12) : si_rd S 22 (nI i) = some (S.2.1 22 i) := sm_rd (show i < 12 from h) (by decide)
theorem wr_22 {S : si_St} {i : Nat} {v : Int32} (h : i < 12) : si_wr S 22 (nI i) v = some (si_pa S 22 i v) := sm_wr (show i < 12 from h) (by decide)
theorem rd_23 {S : si_St} {i : Nat} (h : i < 12) : si_rd S 23 (nI i) = some (S.2.1 23 i) := sm_rd (show i < 12 from h) (by decide)
theorem wr_23 {S : si_St} {i : Nat} {v : Int32} (h : i < 12) : si_wr S 23 (nI i) v = some (si_pa S 23 i v) := sm_wr (show i < 12 from h) (by decide)
theorem rd_24 {S : si_St} {i : Nat} (h : i < 12) : si_rd S 24 (nI i) = some (S.2.1 24 i) := sm_rd (show i < 12 from h) (by decide)
theorem wr_24 {S : si_St} {i : Nat} {v : Int32} (h : i < 12) : si_wr S 24 (nI i) v = some (si_pa S 24 i v) := sm_wr (show i < 12 from h) (by decide)
theorem rd_25 {S : si_St} {i : Nat} (h : i < 12) : si_rd S 25 (nI i) = some (S.2.1 25 i) := sm_rd (show i < 12 from h) (by decide)
theorem wr_25 {S : si_St} {i : Nat} {v : Int32} (h : i < 12) : si_wr S 25 (nI i) v = some (si_pa S 25 i v) := sm_wr (show i < 12 from h) (by decide)
theorem rd_26 {S : si_St} {i : Nat} (h : i < 12) : si_rd S 26 (nI i) = some (S.2.1 26 i) := sm_rd (show i < 12 from h) (by decide)
theorem wr_26 {S : si_St} {i : Nat} {v : Int32} (h : i < 12) : si_wr S 26 (nI i) v = some (si_pa S 26 i v) := sm_wr (show i < 12 from h) (by decide)
theorem rd_58 {S : si_St} {i : Nat} (h : i < 24) : si_rd S 58 (nI i) = some (S.2.1 58 i) := sm_rd (show i < 24 from h) (by decide)
theorem wr_58 {S : si_St} {i : Nat} {v : Int32} (h : i < 24) : si_wr S 58 (nI i) v = some (si_pa S 58 i v) := sm_wr (show i < 24 from h) (by decide)
theorem rd_59 {S : si_St} {i : Nat} (h : i < 24) : si_rd S 59 (nI i) = some (S.2.1 59 i) := sm_rd (show i < 24 from h) (by decide)
theorem wr_59 {S : si_St} {i : Nat} {v : Int32} (h : i < 24) : si_wr S 59 (nI i) v = some (si_pa S 59 i v) := sm_wr (show i < 24 from h) (by decide)
theorem rd_60 {S : si_St} {i : Nat} (h : i < 24) : si_rd S 60 (nI i) = some (S.2.1 60 i) := sm_rd (show i < 24 from h) (by decide)
theorem wr_60 {S : si_St} {i : Nat} {v : Int32} (h : i < 24) : si_wr S 60 (nI i) v = some (si_pa S 60 i v) := sm_wr (show i < 24 from h) (by decide)
theorem rd_61 {S : si_St} {i : Nat} (h : i < 24) : si_rd S 61 (nI i) = some (S.2.1 61 i) := sm_rd (show i < 24 from h) (by decide)
theorem wr_61 {S : si_St} {i : Nat} {v : Int32} (h : i < 24) : si_wr S 61 (nI i) v = some (si_pa S 61 i v) := sm_wr (show i < 24 from h) (by decide)
theorem rd_62 {S : si_St} {i : Nat} (h : i < 24) : si_rd S 62 (nI i) = some (S.2.1 62 i) := sm_rd (show i < 24 from h) (by decide)
theorem wr_62 {S : si_St} {i : Nat} {v : Int32} (h : i < 24) : si_wr S 62 (nI i) v = some (si_pa S 62 i v) := sm_wr (show i < 24 from h) (by decide)
theorem rd_63 {S : si_St} {i : Nat} (h : i < 8) : si_rd S 63 (nI i) = some (S.2.1 63 i) := sm_rd (show i < 8 from h) (by decide)
theorem wr_63 {S : si_St} {i : Nat} {v : Int32} (h : i < 8) : si_wr S 63 (nI i) v = some (si_pa S 63 i v) := sm_wr (show i < 8 from h) (by decide)
theorem rd_64 {S : si_St} {i : Nat} (h : i < 8) : si_rd S 64 (nI i) = some (S.2.1 64 i) := sm_rd (show i < 8 from h) (by decide)
theorem wr_64 {S : si_St} {i : Nat} {v : Int32} (h : i < 8) : si_wr S 64 (nI i) v = some (si_pa S 64 i v) := sm_wr (show i < 8 from h) (by decide)
theorem rd_66 {S : si_St} {i : Nat} (h : i < 13) : si_rd S 66 (nI i) = some (S.2.1 66 i) := sm_rd (show i < 13 from h) (by decide)
theorem wr_66 {S : si_St} {i : Nat} {v : Int32} (h : i < 13) : si_wr S 66 (nI i) v = some (si_pa S 66 i v) := sm_wr (show i < 13 from h) (by decide)
theorem rd_67 {S : si_St} {i : Nat} (h : i < 2197) : si_rd S 67 (nI i) = some (S.2.1 67 i) := sm_rd (show i < 2197 from h) (by decide)
theorem wr_67 {S : si_St} {i : Nat} {v : Int32} (h : i < 2197) : si_wr S 67 (nI i) v = some (si_pa S 67 i v) := sm_wr (show i < 2197 from h) (by decide)
theorem rd_68 {S : si_St} {i : Nat} (h : i < 338) : si_rd S 68 (nI i) = some (S.2.1 68 i) := sm_rd (show i < 338 from h) (by decide)
theorem wr_68 {S : si_St} {i : Nat} {v : Int32} (h : i < 338) : si_wr S 68 (nI i) v = some (si_pa S 68 i v) := sm_wr (show i < 338 from h) (by decide)
/-- is there such a place below n -/
def sa_an (p : Nat → Bool) : Nat → Bool
  | 0 => false
  | n + 1 => sa_an p n || p n
theorem sa_an_iff {p : Nat → Bool} : ∀ {n : Nat}, sa_an p n = true ↔ ∃ k, k < n ∧ p k = true
  | 0 => ⟨fun h => absurd h Bool.false_ne_true, fun ⟨k, h, _⟩ => absurd h (Nat.not_lt_zero k)⟩
  | n + 1 => by
    show (sa_an p n || p n) = true ↔ _
    rw [Bool.or_eq_true, sa_an_iff]
    constructor
    · rintro (⟨k, h1, h2⟩ | h)
      · exact ⟨k, by omega, h2⟩
      · exact ⟨n, by omega, h⟩
    · rintro ⟨k, h1, h2⟩
      by_cases h : k = n
      · subst h
        exact Or.inr h2
      · exact Or.inl ⟨k, by omega, h2⟩
theorem sa_an_hit {p : Nat → Bool} {n k : Nat} (h : k < n) (hp : p k = true) : sa_an p n = true := sa_an_iff.mpr ⟨k, h, hp⟩
theorem sa_an_cong {p q : Nat → Bool} : ∀ {n : Nat}, (∀ k, k < n → p k = q k) → sa_an p n = sa_an q n
  | 0, _ => rfl
  | n + 1, h => by
    show (sa_an p n || p n) = (sa_an q n || q n)
    rw [sa_an_cong (fun k hk => h k (by omega)), h n (by omega)]
theorem sa_an_no {p : Nat → Bool} {n : Nat} : sa_an p n = false ↔ ∀ k, k < n → p k = false := by
  rw [Bool.eq_false_iff, ne_eq, sa_an_iff]
  constructor
  · intro h k hk
    exact Bool.eq_false_iff.mpr (fun e => h ⟨k, hk, e⟩)
  · rintro h ⟨k, hk, e⟩
    rw [h k hk] at e
    cases e
theorem sa_max (a b y : Int32) : si_max a b ≤ y ↔ a ≤ y ∧ b ≤ y := by
  unfold si_max
  simp only [fa_le, fa_lt]
  by_cases h : a.toInt < b.toInt
  · rw [if_pos h]
    constructor <;> intro h2 <;> omega
  · rw [if_neg h]
    constructor <;> intro h2 <;> omega

