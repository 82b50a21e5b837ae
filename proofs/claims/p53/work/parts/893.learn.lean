/-! parse: what the class learns of the masses -/
theorem sm_cpl {S : si_St} {k0 k2 a b n : Nat} (h1 : a + n ≤ si_ln k0) (h2 : b + n ≤ si_ln k2) (l0 : si_ln k0 < 2 ^ 31) (l2 : si_ln k2 < 2 ^ 31) : si_cpl S k0 (nI a) k2 (nI b) (nI n) = some (si_cl S k0 a k2 b n) := by
  have hx : ∀ {m : Nat}, m < 2 ^ 31 → ¬ nI m < 0 := fun {m} hm h => by
    have h1 := nI_pos' (n := m) hm
    rw [fa_lt] at h
    rw [fa_le] at h1
    omega
  unfold si_cpl
  rw [nI_clamp (by omega), nI_clamp (by omega), nI_clamp (by omega), if_pos ⟨hx (by omega), hx (by omega), hx (by omega), h1, h2⟩]
theorem sw_d {f : Nat → Nat} {a t i d : Nat} (hi : i < 3 ^ t) (hd : d < 3) : sm_way f a (t + 1) (i + 3 ^ t * d) = sm_way f a t i + (if d = 1 then (f (a + t) : Int) * 2 ^ 24 + 2 ^ 20 + 2 ^ (10 + (a + t)) else if d = 2 then -((f (a + t) : Int) * 2 ^ 24) + 2 ^ 20 + 2 ^ (a + t) else 0) := by
  have e : sm_way f a t (i + 3 ^ t * d) = sm_way f a t i := by
    obtain ⟨g1, g2, g3, g4⟩ := tw_cg f a t (i + 3 ^ t * d) i (fun s hs => tw_dg hs i d)
    rw [tw_way, tw_way]
    unfold tw_lo
    rw [g1, g2, g3, g4]
  show sm_way f a t (i + 3 ^ t * d) + _ = _
  rw [e, tw_dn hi, Nat.mod_eq_of_lt hd]
theorem sw_p {x : Nat} (hx : x < 20) : (2 : Int) ^ x ≤ 1048576 ∧ 0 ≤ (2 : Int) ^ x ∧ (lN (2 ^ x)).toInt = (2 : Int) ^ x := by
  have e2 : 2 ^ x ≤ 2 ^ 20 := Nat.pow_le_pow_right (by decide) (by omega)
  have e3 : 2 ^ 20 = 1048576 := by decide
  rw [e3] at e2
  have e1 : (2 : Int) ^ x = ((2 ^ x : Nat) : Int) := by
    rw [Int.natCast_pow]
    rfl
  rw [e1, tl_k (by omega)]
  generalize 2 ^ x = X at *
  exact ⟨by omega, by omega, rfl⟩
theorem sw_b {f : Nat → Nat} {a t : Nat} (ht : t ≤ 5) (hat : a + t ≤ 10) (hf : ∀ s, s < t → f (a + s) ≤ 1000098) (i : Nat) : -(2 ^ 50) ≤ sm_way f a t i ∧ sm_way f a t i ≤ 2 ^ 50 := by
  have h1 := tw_vb (f := f) (a := a) (M := 1000098) t i hf
  have h2 := tw_bd a t i
  have h3 : 2 ^ (a + t) ≤ 2 ^ 10 := Nat.pow_le_pow_right (by decide) hat
  have e3 : 2 ^ 10 = 1024 := by decide
  rw [e3] at h3
  have h5 : t * 1000098 ≤ 5000490 := by omega
  rw [tw_way]
  unfold tw_lo
  generalize 2 ^ (a + t) = X at *
  generalize 2 ^ a = Y at *
  generalize tw_v f a t i = V at *
  generalize tw_R a t i = R at *
  generalize tw_L a t i = L at *
  generalize tw_c t i = C at *
  obtain ⟨M, hM⟩ : ∃ M, M = t * 1000098 := ⟨_, rfl⟩
  rw [← hM] at h1 h5
  have p50 : (2 : Int) ^ 50 = 1125899906842624 := by decide
  rw [p50]
  omega
def fR (S T : si_St) : Prop := T.1 = S.1 ∧ T.2.1 = S.2.1 ∧ (∀ r, r ≠ 5 → T.2.2.1 r = S.2.2.1 r) ∧ T.2.2.2 = S.2.2.2
theorem pl_if {S : si_St} {k i a b : Nat} {v : Int64} : (si_pl S k i v).2.2.1 a b = if a = k ∧ b = i then v else S.2.2.1 a b := rfl
theorem fR.pl {S : si_St} {i : Nat} {v : Int64} : fR S (si_pl S 5 i v) := ⟨rfl, rfl, fun r hr => funext fun b => if_neg (fun h => hr h.1), rfl⟩
theorem fR.tr {S T U : si_St} (h1 : fR S T) (h2 : fR T U) : fR S U := ⟨h2.1.trans h1.1, h2.2.1.trans h1.2.1, fun r hr => (h2.2.2.1 r hr).trans (h1.2.2.1 r hr), h2.2.2.2.trans h1.2.2.2⟩
theorem lw_in {F k t x a : Nat} {f : Nat → Nat} {x3 : Int32} {v10 v11 : Int64} {S : si_St} (r15 : Int32 → Int32 → si_St → Option si_St) (ht : t < 5) (hat : a + t < 10) (hF : 300 ≤ F) (hf : ∀ s, s < t + 1 → f (a + s) ≤ 1000098) (h33 : S.1 3 3 = nI (3 ^ t)) (h10 : v10.toInt = (f (a + t) : Int) * 2 ^ 24 + 2 ^ 20 + 2 ^ (10 + (a + t))) (h11 : v11.toInt = -((f (a + t) : Int) * 2 ^ 24) + 2 ^ 20 + 2 ^ (a + t)) (hW : ∀ i, i < 3 ^ t → (S.2.2.1 5 i).toInt = sm_way f a t i) : ∃ T, f_X1_listWays_l67 F k r15 F x3 (nI x) v10 v11 0 S = r15 x3 (nI (x + 1)) (si_ps T 3 3 (nI (3 ^ (t + 1)))) ∧ fR S T ∧ ∀ i, i < 3 ^ (t + 1) → (T.2.2.1 5 i).toInt = sm_way f a (t + 1) i := by
  have p3 : 3 ^ (t + 1) = 3 ^ t + 3 ^ t + 3 ^ t := by
    rw [Nat.pow_succ]
    omega
  have hpos : 0 < 3 ^ t := Nat.pow_pos (by decide)
  have h81 : 3 ^ t ≤ 3 ^ 4 := Nat.pow_le_pow_right (by decide) (by omega)
  have hb := sw_b (f := f) (a := a) (t := t) (by omega) (by omega) (fun s hs => hf s (by omega))
  have hft := hf t (by omega)
  have q1 := sw_p (x := 10 + (a + t)) (by omega)
  have q2 := sw_p (x := a + t) (by omega)
  have p24 : (2 : Int) ^ 24 = 16777216 := by decide
  have p20 : (2 : Int) ^ 20 = 1048576 := by decide
  have p50 : (2 : Int) ^ 50 = 1125899906842624 := by decide
  have w10 : -1125899906842624 ≤ v10.toInt ∧ v10.toInt ≤ 1125899906842624 := by
    rw [h10, p24, p20]
    generalize (2 : Int) ^ (10 + (a + t)) = Y at *
    clear hb hW h10 h11 q2
    omega
  have w11 : -1125899906842624 ≤ v11.toInt ∧ v11.toInt ≤ 1125899906842624 := by
    rw [h11, p24, p20]
    generalize (2 : Int) ^ (a + t) = Y at *
    clear hb hW h10 h11 q1
    omega
  have ad : ∀ (x y : Int64), -1125899906842624 ≤ x.toInt → x.toInt ≤ 1125899906842624 → -1125899906842624 ≤ y.toInt → y.toInt ≤ 1125899906842624 → (x + y).toInt = x.toInt + y.toInt := fun x y z1 z2 z3 z4 => tl_add (by omega) (by omega)
  rw [p50] at hb
  exact lp_inv (fun n j T => f_X1_listWays_l67 F k r15 n x3 (nI x) v10 v11 (nI j) T) (fun j T => fR S T ∧ (∀ i, i < 3 ^ t → (T.2.2.1 5 i).toInt = sm_way f a t i) ∧ ∀ i, i < j → (T.2.2.1 5 (3 ^ t + i)).toInt = sm_way f a t i + v10.toInt ∧ (T.2.2.1 5 (2 * 3 ^ t + i)).toInt = sm_way f a t i + v11.toInt) (fun o => ∃ T, o = r15 x3 (nI (x + 1)) (si_ps T 3 3 (nI (3 ^ (t + 1)))) ∧ fR S T ∧ ∀ i, i < 3 ^ (t + 1) → (T.2.2.1 5 i).toInt = sm_way f a (t + 1) i) (3 ^ t) (fun n T ⟨i1, i2, i3⟩ => by
    refine ⟨T, ?_, i1, fun i hi => ?_⟩
    · show f_X1_listWays_h67 F k r15 _ x3 (nI x) v10 v11 (nI (3 ^ t)) T = _
      unfold f_X1_listWays_h67
      rw [i1.1, h33, if_pos (Int32.le_refl _), sm_pt, Option.bind_some, Option.bind_some, nI_1, li_mulR, p3, show 3 ^ t * 3 = 3 ^ t + 3 ^ t + 3 ^ t by omega]
    · rw [p3] at hi
      by_cases c0 : i < 3 ^ t
      · have e := sw_d (f := f) (a := a) c0 (d := 0) (by decide)
        rw [show i + 3 ^ t * 0 = i by omega, if_neg (by decide), if_neg (by decide), Int.add_zero] at e
        rw [e]
        exact i2 i c0
      · by_cases c1 : i < 3 ^ t + 3 ^ t
        · obtain ⟨j, rfl⟩ : ∃ j, i = j + 3 ^ t * 1 := ⟨i - 3 ^ t, by omega⟩
          rw [sw_d (by omega) (by decide), if_pos rfl]
          have := (i3 j (by omega)).1
          rw [h10] at this
          rw [Nat.mul_one, Nat.add_comm]
          exact this
        · obtain ⟨j, rfl⟩ : ∃ j, i = j + 3 ^ t * 2 := ⟨i - 3 ^ t * 2, by omega⟩
          rw [sw_d (by omega) (by decide), if_neg (by decide), if_pos rfl]
          have := (i3 j (by omega)).2
          rw [h11] at this
          rw [Nat.mul_comm (3 ^ t) 2, Nat.add_comm]
          exact this) (fun n j T hj ⟨i1, i2, i3⟩ => by
    have bj := hb j
    have s10 : (T.2.2.1 5 j + v10).toInt = sm_way f a t j + v10.toInt := by
      rw [ad _ _ (by rw [i2 j hj]; exact bj.1) (by rw [i2 j hj]; exact bj.2) w10.1 w10.2, i2 j hj]
    have s11 : (T.2.2.1 5 j + v11).toInt = sm_way f a t j + v11.toInt := by
      rw [ad _ _ (by rw [i2 j hj]; exact bj.1) (by rw [i2 j hj]; exact bj.2) w11.1 w11.2, i2 j hj]
    refine ⟨si_pl (si_pl T 5 (3 ^ t + j) (T.2.2.1 5 j + v10)) 5 (2 * 3 ^ t + j) (T.2.2.1 5 j + v11), ⟨(i1.tr fR.pl).tr fR.pl, fun i hi => ?_, fun i hi => ?_⟩, ?_⟩
    · rw [pl_if, if_neg (by omega), pl_if, if_neg (by omega)]
      exact i2 i hi
    · by_cases e : i = j
      · rw [e, pl_if, if_neg (by omega), pl_if, if_pos ⟨rfl, rfl⟩, pl_if, if_pos ⟨rfl, rfl⟩]
        exact ⟨s10, s11⟩
      · rw [pl_if, if_neg (by omega), pl_if, if_neg (by omega), pl_if, if_neg (by omega), pl_if, if_neg (by omega)]
        exact i3 i (by omega)
    · show f_X1_listWays_h67 F k r15 (f_X1_listWays_l67 F k r15 n) x3 (nI x) v10 v11 (nI j) T = _
      unfold f_X1_listWays_h67
      have e33 : (si_pl T 5 (3 ^ t + j) (T.2.2.1 5 j + v10)).1 3 3 = nI (3 ^ t) := by rw [show (si_pl T 5 (3 ^ t + j) (T.2.2.1 5 j + v10)).1 = T.1 from rfl, i1.1, h33]
      have e5 : (si_pl T 5 (3 ^ t + j) (T.2.2.1 5 j + v10)).2.2.1 5 j = T.2.2.1 5 j := by rw [pl_if, if_neg (by omega)]
      rw [i1.1, h33, if_neg (nI_ge hj (by omega)), rl_5 (by omega), Option.bind_some, nI_add, wl_5 (by omega), Option.bind_some, rl_5 (by omega), Option.bind_some, e33, e5, li_mulL, nI_add, wl_5 (by omega), Option.bind_some, Option.bind_some, nI_1]) F 0 S (Nat.zero_le _) (by omega) ⟨⟨rfl, rfl, fun _ _ => rfl, rfl⟩, hW, fun i hi => absurd hi (Nat.not_lt_zero _)⟩
def fW (S T : si_St) : Prop := (∀ a j, ¬ (a = 3 ∧ j = 3) → T.1 a j = S.1 a j) ∧ T.2.1 = S.2.1 ∧ (∀ r, r ≠ 5 → T.2.2.1 r = S.2.2.1 r) ∧ T.2.2.2 = S.2.2.2
theorem fW.R {S T : si_St} (h : fR S T) : fW S T := ⟨fun a j _ => by rw [h.1], h.2⟩
theorem fW.tr {S T U : si_St} (h1 : fW S T) (h2 : fW T U) : fW S U := ⟨fun a j h => (h2.1 a j h).trans (h1.1 a j h), h2.2.1.trans h1.2.1, fun r hr => (h2.2.2.1 r hr).trans (h1.2.2.1 r hr), h2.2.2.2.trans h1.2.2.2⟩
theorem fW.ps {S : si_St} {v : Int32} : fW S (si_ps S 3 3 v) := ⟨fun a j h => ps_o h, rfl, fun _ _ => rfl, rfl⟩
theorem sh_1 {x : Nat} (hx : x < 20) : (1 : Int64) <<< ((nI x).toInt64 &&& 63) = lN (2 ^ x) := by
  have h := wb_shl 1 (k := x) (by omega)
  rw [Nat.one_mul] at h
  exact h
theorem lw_all {F k a m : Nat} {f : Nat → Nat} {S : si_St} (hk : k = 69 ∨ k = 78) (hm : m ≤ 5) (ham : a + m ≤ 10) (hF : 300 ≤ F) (hf : ∀ s, s < m → f (a + s) ≤ 1000098) (hr : ∀ s, s < m → S.2.1 (k + 5) (a + s) = nI (f (a + s))) : ∃ T, f_X1_listWays F k (nI a) (nI (a + m)) S = some T ∧ T.1 3 3 = nI (3 ^ m) ∧ fW S T ∧ ∀ i, i < 3 ^ m → (T.2.2.1 5 i).toInt = sm_way f a m i := by
  have hl := lp_inv (fun n t T => f_X1_listWays_l15 F k n (nI (a + m)) (nI (a + t)) T) (fun t T => T.1 3 3 = nI (3 ^ t) ∧ fW S T ∧ ∀ i, i < 3 ^ t → (T.2.2.1 5 i).toInt = sm_way f a t i) (fun o => ∃ T, o = some T ∧ T.1 3 3 = nI (3 ^ m) ∧ fW S T ∧ ∀ i, i < 3 ^ m → (T.2.2.1 5 i).toInt = sm_way f a m i) m (fun n T ⟨i1, i2, i3⟩ => by
    refine ⟨T, ?_, i1, i2, i3⟩
    show f_X1_listWays_h15 F k _ (nI (a + m)) (nI (a + m)) T = _
    unfold f_X1_listWays_h15
    rw [if_pos (Int32.le_refl _)]) (fun n t T ht ⟨i1, i2, i3⟩ => by
    have hft := hf t ht
    have hmass : T.2.1 (k + 5) (a + t) = nI (f (a + t)) := by rw [i2.2.1]; exact hr t ht
    have t9 : ((Int32.toInt64 (nI (f (a + t)))) <<< ((24 : Int32).toInt64 &&& 63)).toInt = (f (a + t) : Int) * 16777216 := by
      have e : (Int32.toInt64 (nI (f (a + t)))).toInt = (f (a + t) : Int) := by rw [Int32.toInt_toInt64, nI_toInt (by omega)]
      rw [tl_shl24 (by rw [e]; omega) (by rw [e]; omega), e]
    have c20 : (1048576 : Int64).toInt = 1048576 := by decide
    have p24 : (2 : Int) ^ 24 = 16777216 := by decide
    have p20 : (2 : Int) ^ 20 = 1048576 := by decide
    generalize hv9 : (Int32.toInt64 (nI (f (a + t)))) <<< ((24 : Int32).toInt64 &&& 63) = v9 at *
    obtain ⟨y2, y3, y1⟩ := sw_p (x := 10 + (a + t)) (by omega)
    obtain ⟨z2, z3, z1⟩ := sw_p (x := a + t) (by omega)
    have ad : ∀ (x y : Int64), -1125899906842624 ≤ x.toInt → x.toInt ≤ 1125899906842624 → -1125899906842624 ≤ y.toInt → y.toInt ≤ 1125899906842624 → (x + y).toInt = x.toInt + y.toInt := fun x y z1 z2 z3 z4 => tl_add (by omega) (by omega)
    have b9 : -1000000000000000 ≤ v9.toInt ∧ v9.toInt ≤ 1000000000000000 := by
      rw [t9]
      clear y1 y2 y3 z1 z2 z3 i3
      omega
    have neg9 : (-v9).toInt = -v9.toInt := by
      rw [Int64.toInt_neg, Int.bmod_eq_of_le (by omega) (by omega)]
    have h10 : ((v9 + (1048576 : Int64)) + lN (2 ^ (10 + (a + t)))).toInt = (f (a + t) : Int) * 2 ^ 24 + 2 ^ 20 + 2 ^ (10 + (a + t)) := by
      have e1 : (v9 + (1048576 : Int64)).toInt = v9.toInt + 1048576 := by rw [ad _ _ (by omega) (by omega) (by rw [c20]; decide) (by rw [c20]; decide), c20]
      rw [ad _ _ (by rw [e1]; omega) (by rw [e1]; omega) (by rw [y1]; omega) (by rw [y1]; omega), e1, y1, t9, p24, p20]
    have h11 : ((-v9 + (1048576 : Int64)) + lN (2 ^ (a + t))).toInt = -((f (a + t) : Int) * 2 ^ 24) + 2 ^ 20 + 2 ^ (a + t) := by
      have e1 : (-v9 + (1048576 : Int64)).toInt = -v9.toInt + 1048576 := by rw [ad _ _ (by rw [neg9]; omega) (by rw [neg9]; omega) (by rw [c20]; decide) (by rw [c20]; decide), c20, neg9]
      rw [ad _ _ (by rw [e1]; omega) (by rw [e1]; omega) (by rw [z1]; omega) (by rw [z1]; omega), e1, z1, t9, p24, p20]
    obtain ⟨T2, r1, r2, r3⟩ := lw_in (F := F) (k := k) (x := a + t) (x3 := nI (a + m)) (S := T) (f_X1_listWays_l15 F k n) (show t < 5 by omega) (by omega) hF (fun s hs => hf s (by omega)) i1 h10 h11 i3
    refine ⟨si_ps T2 3 3 (nI (3 ^ (t + 1))), ⟨ps_e, (i2.tr (fW.R r2)).tr fW.ps, fun i hi => r3 i hi⟩, ?_⟩
    show f_X1_listWays_h15 F k (f_X1_listWays_l15 F k n) (nI (a + m)) (nI (a + t)) T = _
    unfold f_X1_listWays_h15
    rw [if_neg (nI_ge (by omega) (by omega)), (rd_m hk).2.2.2.2.1 (by omega), Option.bind_some, hmass, Option.bind_some, hv9, li_addL, sh_1 (by omega), sh_1 (by omega), Option.bind_some, Option.bind_some]
    exact r1) F 0 (si_ps (si_pl S 5 0 0) 3 3 1) (Nat.zero_le _) (by omega) ⟨ps_e, (fW.R fR.pl).tr fW.ps, fun i hi => by
      have e0 : i = 0 := by
        have : 3 ^ 0 = 1 := rfl
        omega
      rw [e0]
      rfl⟩
  unfold f_X1_listWays
  have e0 : si_wl S 5 0 (0 : Int64) = some (si_pl S 5 0 0) := wl_5 (i := 0) (by decide)
  rw [e0, Option.bind_some, sm_pt, Option.bind_some]
  exact hl

