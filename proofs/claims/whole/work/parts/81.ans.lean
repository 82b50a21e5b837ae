/-! twoPans: the class's search -/
def tw_key (R L : Nat) : Nat := (sb_pc R + sb_pc L) * 1048576 + R * 1024 + L
def tw_A (f : Nat → Nat) (n x : Nat) (r : Int32) : Prop := (r = -2 ∧ ∀ k, ¬ tw_W f n x k) ∨ ∃ R L, R < 1024 ∧ L < 1024 ∧ tw_W f n x (tw_key R L) ∧ (∀ k, tw_W f n x k → tw_key R L ≤ k) ∧ r = nI (R + 1024 * L)
theorem tw_A1 {f : Nat → Nat} {n x : Nat} {r s : Int32} (h1 : tw_A f n x r) (h2 : tw_A f n x s) : r = s := by
  rcases h1 with ⟨a1, a2⟩ | ⟨R, L, hR, hL, a1, a2, a3⟩
  · rcases h2 with ⟨b1, b2⟩ | ⟨R', L', hR', hL', b1, b2, b3⟩
    · rw [a1, b1]
    · exact absurd b1 (a2 _)
  · rcases h2 with ⟨b1, b2⟩ | ⟨R', L', hR', hL', b1, b2, b3⟩
    · exact absurd a1 (b2 _)
    · have e1 := a2 _ b1
      have e2 := b2 _ a1
      have e : tw_key R L = tw_key R' L' := by omega
      unfold tw_key at e
      have e3 : R = R' := by omega
      have e4 : L = L' := by omega
      rw [a3, b3, e3, e4]
theorem tw_Wb {f : Nat → Nat} {n x k : Nat} (hn : n ≤ 10) (h : tw_W f n x k) : k < 16777215 ∧ ∃ R L, R < 1024 ∧ L < 1024 ∧ k = tw_key R L := by
  obtain ⟨R, L, hR, hL, h0, -, rfl⟩ := h
  have h10 : 2 ^ n ≤ 2 ^ 10 := Nat.pow_le_pow_right (by decide) hn
  have h12 : sb_pc R ≤ 10 := fm_10 (by omega)
  have h13 : sb_pc (R ||| L) ≤ 10 := fm_10 (Nat.lt_of_lt_of_le (Nat.or_lt_two_pow hR hL) h10)
  rw [sb_add h0] at h13
  refine ⟨by omega, R, L, by omega, by omega, rfl⟩
def tp_I (f : Nat → Nat) (a b x c : Nat) (s : Int64) : Prop := (s = lN 16777215 ∧ ∀ i j, i < c → j < 3 ^ b → ¬ tw_v f 0 a i + tw_v f a b j = (x : Int)) ∨ ∃ i0 j0, i0 < 3 ^ a ∧ j0 < 3 ^ b ∧ tw_v f 0 a i0 + tw_v f a b j0 = (x : Int) ∧ s = lN (tw_lo 0 a i0 + tw_lo a b j0) ∧ ∀ i j, i < c → j < 3 ^ b → tw_v f 0 a i + tw_v f a b j = (x : Int) → tw_lo 0 a i0 + tw_lo a b j0 ≤ tw_lo 0 a i + tw_lo a b j
theorem tp_no {f : Nat → Nat} {a b x c : Nat} {s : Int64} (h : tp_I f a b x c s) (hc : ∀ j, j < 3 ^ b → ¬ tw_v f 0 a c + tw_v f a b j = (x : Int)) : tp_I f a b x (c + 1) s := by
  rcases h with ⟨h1, h2⟩ | ⟨i0, j0, g1, g2, g3, g4, g5⟩
  · refine Or.inl ⟨h1, fun i j hi hj => ?_⟩
    by_cases e : i = c
    · rw [e]
      exact hc j hj
    · exact h2 i j (by omega) hj
  · refine Or.inr ⟨i0, j0, g1, g2, g3, g4, fun i j hi hj hv => ?_⟩
    by_cases e : i = c
    · rw [e] at hv
      exact absurd hv (hc j hj)
    · exact g5 i j (by omega) hj hv
theorem tl_min {a b : Nat} (ha : a < 2 ^ 63) (hb : b < 2 ^ 63) : si_minl (lN a) (lN b) = lN (if b < a then b else a) := by
  show (if lN b < lN a then lN b else lN a) = _
  have e : lN b < lN a ↔ b < a := by
    rw [Int64.lt_iff_toInt_lt, tl_k ha, tl_k hb]
    omega
  by_cases h : b < a
  · rw [if_pos (e.mpr h), if_pos h]
  · rw [if_neg (fun h2 => h (e.mp h2)), if_neg h]
theorem tp_yes {f : Nat → Nat} {a b x c j0 : Nat} {s : Int64} (lob : ∀ i j, tw_lo 0 a i + tw_lo a b j < 16777215) (h : tp_I f a b x c s) (hc : c < 3 ^ a) (hj0 : j0 < 3 ^ b) (hv : tw_v f 0 a c + tw_v f a b j0 = (x : Int)) (hm : ∀ j, j < 3 ^ b → tw_v f 0 a c + tw_v f a b j = (x : Int) → tw_lo a b j0 ≤ tw_lo a b j) : tp_I f a b x (c + 1) (si_minl s (lN (tw_lo 0 a c + tw_lo a b j0))) := by
  have l0 := lob c j0
  rcases h with ⟨h1, h2⟩ | ⟨i1, j1, g1, g2, g3, g4, g5⟩
  · rw [h1, tl_min (by omega) (by omega), if_pos l0]
    refine Or.inr ⟨c, j0, hc, hj0, hv, rfl, fun i j hi hj hv2 => ?_⟩
    by_cases e : i = c
    · rw [e] at hv2 ⊢
      have := hm j hj hv2
      omega
    · exact absurd hv2 (h2 i j (by omega) hj)
  · have l1 := lob i1 j1
    rw [g4, tl_min (by omega) (by omega)]
    by_cases hlt : tw_lo 0 a c + tw_lo a b j0 < tw_lo 0 a i1 + tw_lo a b j1
    · rw [if_pos hlt]
      refine Or.inr ⟨c, j0, hc, hj0, hv, rfl, fun i j hi hj hv2 => ?_⟩
      by_cases e : i = c
      · rw [e] at hv2 ⊢
        have := hm j hj hv2
        omega
      · have := g5 i j (by omega) hj hv2
        omega
    · rw [if_neg hlt]
      refine Or.inr ⟨i1, j1, g1, g2, g3, rfl, fun i j hi hj hv2 => ?_⟩
      by_cases e : i = c
      · rw [e] at hv2 ⊢
        have := hm j hj hv2
        omega
      · exact g5 i j (by omega) hj hv2
theorem tp_cl {F x : Nat} {S : si_St} {u : Nat → Nat → Nat} (hx : x < 2 ^ 31) (hw : iv_way (S.1 3 3) (S.1 3 5) (S.2.2.1 5) (S.2.2.1 6) u) (hf : ∀ i, i < u 2 0 → u 8 i ≤ 1000098) (hF : 300 ≤ F) : ∃ r, f_X1_fewestOnTwoPans F (nI x) S = some (r, S) ∧ tw_A (u 8) (u 2 0) x r := by
  obtain ⟨a, b, hab, ha, hb, n1, n2, w1, w2, w3, w4⟩ := hw
  have h3a : 3 ^ a ≤ 3 ^ 5 := Nat.pow_le_pow_right (by decide) ha
  have h3b : 3 ^ b ≤ 3 ^ 5 := Nat.pow_le_pow_right (by decide) hb
  have v1b : ∀ i, -5000490 ≤ tw_v (u 8) 0 a i ∧ tw_v (u 8) 0 a i ≤ 5000490 := fun i => by
    have := tw_vb (f := u 8) (a := 0) (M := 1000098) a i (fun t ht => by rw [Nat.zero_add]; exact hf t (by omega))
    omega
  have v2b : ∀ i, -5000490 ≤ tw_v (u 8) a b i ∧ tw_v (u 8) a b i ≤ 5000490 := fun i => by
    have := tw_vb (f := u 8) (a := a) (M := 1000098) b i (fun t ht => hf (a + t) (by omega))
    omega
  have lob : ∀ i j, tw_lo 0 a i + tw_lo a b j < 16777215 := fun i j => by
    have t1 := tw_bd 0 a i
    have t2 := tw_bd a b j
    have t3 : 2 ^ (a + b) ≤ 2 ^ 10 := Nat.pow_le_pow_right (by decide) (by omega)
    have t4 : 2 ^ 0 = 1 := rfl
    rw [Nat.zero_add, t4] at t1
    unfold tw_lo
    omega
  have W1 : ∀ i, i < 3 ^ a → (S.2.2.1 5 i).toInt = tw_v (u 8) 0 a i * 16777216 + (tw_lo 0 a i : Int) := fun i hi => (w1 i hi).trans (tw_way ..)
  have hl := lp_inv (fun t k s => f_X1_fewestOnTwoPans_l7 F t (nI x) s (nI k) S) (tp_I (u 8) a b x) (fun o => ∃ r, o = some (r, S) ∧ tw_A (u 8) (u 2 0) x r) (3 ^ a) (fun t s hI => by
    show ∃ r, f_X1_fewestOnTwoPans_h7 F (f_X1_fewestOnTwoPans_l7 F t) (nI x) s (nI (3 ^ a)) S = _ ∧ _
    unfold f_X1_fewestOnTwoPans_h7
    rw [n1, if_pos (Int32.le_refl _)]
    rcases hI with ⟨h1, h2⟩ | ⟨i0, j0, g1, g2, g3, g4, g5⟩
    · rw [h1, if_pos (show lg_cmp (lN 16777215) 16777215 = 0 from lg_cmp0 _)]
      refine ⟨_, rfl, Or.inl ⟨rfl, fun k hk => ?_⟩⟩
      rw [← hab] at hk
      obtain ⟨i, j, q1, q2, q3, -⟩ := (tw_Wi (by omega) k).mp hk
      exact h2 i j q1 q2 q3
    · have l0 := lob i0 j0
      have hW : tw_W (u 8) (u 2 0) x (tw_lo 0 a i0 + tw_lo a b j0) := by
        rw [← hab]
        exact (tw_Wi (by omega) _).mpr ⟨i0, j0, g1, g2, g3, rfl⟩
      obtain ⟨-, R, L, hR, hL, hk⟩ := tw_Wb (by omega) hW
      have hmin : ∀ k, tw_W (u 8) (u 2 0) x k → tw_lo 0 a i0 + tw_lo a b j0 ≤ k := fun k hk => by
        rw [← hab] at hk
        obtain ⟨i, j, q1, q2, q3, rfl⟩ := (tw_Wi (by omega) k).mp hk
        exact g5 i j q1 q2 q3
      rw [g4]
      generalize tw_lo 0 a i0 + tw_lo a b j0 = k at *
      have e1 : ¬ lg_cmp (lN k) 16777215 = 0 := fun h => by
        have h2 := congrArg Int64.toInt (tl_c0.mp h)
        have e : (16777215 : Int64) = lN 16777215 := rfl
        rw [e, tl_k (by omega), tl_k (by omega)] at h2
        omega
      have e2 : lN k >>> ((10 : Int32).toInt64 &&& 63) = lN (k / 1024) := tl_N (by rw [tl_shr10, tl_k (by omega)]; omega) (by omega)
      have m1 : nI (k / 1024) &&& 1023 = nI (k / 1024 % 1024) := fa_mask (k / 1024) 10
      have m2 : nI k &&& 1023 = nI (k % 1024) := fa_mask k 10
      rw [if_neg e1, e2, tl_32 (by omega), tl_32 (by omega), m1, m2, Option.bind_some, Option.bind_some]
      have r1 : k / 1024 % 1024 = R := by
        rw [hk]
        unfold tw_key
        omega
      have r2 : k % 1024 = L := by
        rw [hk]
        unfold tw_key
        omega
      refine ⟨_, rfl, Or.inr ⟨R, L, hR, hL, hk ▸ hW, hk ▸ hmin, ?_⟩⟩
      rw [r1, r2, li_mulL, nI_add]) (fun t k s hk hI => by
    show ∃ s', _ ∧ f_X1_fewestOnTwoPans_h7 F (f_X1_fewestOnTwoPans_l7 F t) (nI x) s (nI k) S = f_X1_fewestOnTwoPans_l7 F t (nI x) s' (nI (k + 1)) S
    have hw1 := W1 k hk
    have b1 := v1b k
    have l1 := lob k 0
    unfold f_X1_fewestOnTwoPans_h7 f_X1_fewestOnTwoPans_h91
    rw [n1, if_neg (nI_ge hk (by omega)), rl_5 (by omega), Option.bind_some, Option.bind_some]
    generalize S.2.2.1 5 k = w at *
    have hsh : (w >>> ((24 : Int32).toInt64 &&& 63)).toInt = tw_v (u 8) 0 a k := by
      rw [tl_shr24, hw1]
      omega
    have hxi : (nI x).toInt64.toInt = (x : Int) := by rw [Int32.toInt_toInt64, nI_toInt hx]
    have hv5 : ((nI x).toInt64 - (w >>> ((24 : Int32).toInt64 &&& 63))).toInt = (x : Int) - tw_v (u 8) 0 a k := by
      rw [tl_sub (by rw [hxi, hsh]; omega) (by rw [hxi, hsh]; omega), hxi, hsh]
    generalize (nI x).toInt64 - (w >>> ((24 : Int32).toInt64 &&& 63)) = v5 at *
    have hsl := tl_shl24 (x := v5) (by omega) (by omega)
    obtain ⟨p, hp, hfb, hlt, hge⟩ := tb_first (F := F) (q := v5 <<< ((24 : Int32).toInt64 &&& 63)) n2 (by omega) w4 (by omega)
    rw [hfb, Option.bind_some]
    dsimp only
    rw [n2]
    by_cases c1 : 3 ^ b ≤ p
    · rw [if_pos (nI_le c1 (by omega)), Option.bind_some, nI_1]
      refine ⟨s, tp_no hI (fun j hj hv => ?_), rfl⟩
      obtain ⟨i, hi, hij⟩ := w3 j hj
      have q1 := hlt i (by omega)
      rw [hij, tw_way, hsl, hv5] at q1
      omega
    · rw [if_neg (nI_ge (by omega) (by omega)), rl_6 (by omega), Option.bind_some]
      obtain ⟨j0, hj0, hpj⟩ := w2 p (by omega)
      rw [tw_way] at hpj
      have b2 := v2b j0
      have l2 := lob k j0
      have q0 := hge p (Nat.le_refl _) (by omega)
      rw [hpj, hsl, hv5] at q0
      have hsh2 : ((S.2.2.1 6 p) >>> ((24 : Int32).toInt64 &&& 63)).toInt = tw_v (u 8) a b j0 := by
        rw [tl_shr24, hpj]
        omega
      by_cases c2 : tw_v (u 8) 0 a k + tw_v (u 8) a b j0 = (x : Int)
      · have c2' : lg_cmp ((S.2.2.1 6 p) >>> ((24 : Int32).toInt64 &&& 63)) v5 = 0 := tl_c0.mpr (Int64.toInt_inj.mp (by rw [hsh2, hv5]; omega))
        rw [if_pos c2', rl_5 (by omega), Option.bind_some, Option.bind_some, Option.bind_some, Option.bind_some, nI_1]
        have hsum : (S.2.2.1 5 k + S.2.2.1 6 p) &&& (16777215 : Int64) = lN (tw_lo 0 a k + tw_lo a b j0) := by
          have hw1' := W1 k hk
          refine tl_N ?_ (by omega)
          rw [tl_mask, tl_add (by omega) (by omega), hw1', hpj]
          omega
        rw [hsum]
        refine ⟨_, tp_yes lob hI hk hj0 c2 (fun j hj hv => ?_), rfl⟩
        obtain ⟨i, hi, hij⟩ := w3 j hj
        rw [tw_way] at hij
        have l3 := lob k j
        by_cases c3 : i < p
        · have q1 := hlt i c3
          rw [hij, hsl, hv5] at q1
          omega
        · have q1 := w4 p i (by omega) hi
          rw [hij, hpj] at q1
          omega
      · have c2' : ¬ lg_cmp ((S.2.2.1 6 p) >>> ((24 : Int32).toInt64 &&& 63)) v5 = 0 := fun h => c2 (by
          have h2 := congrArg Int64.toInt (tl_c0.mp h)
          rw [hsh2, hv5] at h2
          omega)
        rw [if_neg c2', Option.bind_some, nI_1]
        refine ⟨s, tp_no hI (fun j hj hv => ?_), rfl⟩
        obtain ⟨i, hi, hij⟩ := w3 j hj
        rw [tw_way] at hij
        have l3 := lob k j
        by_cases c3 : i < p
        · have q1 := hlt i c3
          rw [hij, hsl, hv5] at q1
          omega
        · have q1 := w4 p i (by omega) hi
          rw [hij, hpj] at q1
          omega) F 0 (lN 16777215) (Nat.zero_le _) (by omega) (Or.inl ⟨rfl, fun i _ hi => absurd hi (Nat.not_lt_zero _)⟩)
  exact hl
