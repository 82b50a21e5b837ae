-- lot
def lo_r (rk : Nat → Nat) (m s : Nat) : Nat := if m.testBit s = true then 0 else rk s
theorem lo_up (rk : Nat → Nat) (m d : Nat) : lo_r rk (m ||| 2 ^ d) = fun k => if k = d then 0 else lo_r rk m k := by
  funext k
  unfold lo_r
  rw [fb_bit_set]
  by_cases hk : k = d
  · rw [if_pos hk, decide_eq_true hk, Bool.or_true, if_pos rfl]
  · rw [if_neg hk, decide_eq_false hk, Bool.or_false]
theorem lo_find (f : Nat → Nat) : ∀ {n r : Nat}, r < fb_sm f n → ∃ d, d < n ∧ fb_sm f d ≤ r ∧ r < fb_sm f d + f d
  | 0, r, h => absurd h (Nat.not_lt_zero r)
  | n + 1, r, h => by
    rw [fb_sm_succ] at h
    by_cases h1 : r < fb_sm f n
    · obtain ⟨d, hd, h2⟩ := lo_find f h1
      exact ⟨d, by omega, h2⟩
    · exact ⟨n, by omega, by omega, h⟩
theorem lo_mono (f : Nat → Nat) {a b : Nat} (h : a ≤ b) : fb_sm f a ≤ fb_sm f b := by
  have e := fb_sm_mono f a (b - a)
  rw [Nat.add_sub_cancel' h] at e
  exact e
theorem lo_pos {rk : Nat → Nat} {m n i : Nat} (hr : ∀ s, s < n → 1 ≤ rk s) (hc : fb_ct (fun s => m.testBit s) n = i) (hi : i < n) : 1 ≤ fb_sm (lo_r rk m) n := by
  by_cases hall : ∀ k, k < n → m.testBit k = true
  · have := (fb_ct_all (p := fun s => m.testBit s) (n := n)).mpr hall
    omega
  · have ⟨k, hk⟩ : ∃ k, ¬ (k < n → m.testBit k = true) := Classical.not_forall.mp hall
    have hkn : k < n := Decidable.byContradiction (fun h => hk (fun h2 => absurd h2 h))
    have hkb : ¬ m.testBit k = true := fun h => hk (fun _ => h)
    have h1 := fb_sm_part (lo_r rk m) hkn
    have h2 : lo_r rk m k = rk k := if_neg hkb
    have h3 := hr k hkn
    omega
theorem lo_sum {rk : Nat → Nat} {m n d : Nat} (hd : d < n) : fb_sm (lo_r rk (m ||| 2 ^ d)) n + lo_r rk m d = fb_sm (lo_r rk m) n := by
  rw [lo_up]
  exact fb_sm_upd (lo_r rk m) 0 hd
theorem lo_cnt {m n d i : Nat} (hd : d < n) (hb : ¬ m.testBit d = true) (hc : fb_ct (fun s => m.testBit s) n = i) : fb_ct (fun s => (m ||| 2 ^ d).testBit s) n = i + 1 := by
  have e : (fun s => (m ||| 2 ^ d).testBit s) = fun k => if k = d then true else m.testBit k := by
    funext k
    rw [fb_bit_set]
    by_cases hk : k = d
    · rw [if_pos hk, decide_eq_true hk, Bool.or_true]
    · rw [if_neg hk, decide_eq_false hk, Bool.or_false]
  rw [e]
  have h := fb_ct_upd (fun s => m.testBit s) true hd
  rw [if_neg hb, if_pos rfl] at h
  omega
theorem lo_bound {rk : Nat → Nat} {m : Nat} (hr : ∀ s, rk s ≤ 60) : ∀ n, fb_sm (lo_r rk m) n ≤ n * 60 := fun n => fb_sm_bound (fun k _ => by
  unfold lo_r
  split
  · omega
  · exact hr k)
/-- the class finds the scale -/
theorem lo_at {F m r n d : Nat} {T : si_St} {rk : Nat → Nat} (h7 : T.1 57 7 = nI n) (hn : n ≤ 24) (h60 : ∀ s, s < n → T.2.1 60 s = nI (rk s)) (hrk : ∀ s, rk s ≤ 60) (hd : d < n) (h1 : fb_sm (lo_r rk m) d ≤ r) (h2 : r < fb_sm (lo_r rk m) d + lo_r rk m d) (hF : 25 ≤ F) : f_X6_scaleAt F (nI r) (nI m) T = some (nI d, T) := by
  have hbd := lo_bound (rk := rk) (m := m) hrk d
  have hrd := hrk d
  have hld : lo_r rk m d ≤ rk d := by unfold lo_r; split <;> omega
  have hdb : ¬ m.testBit d = true := by
    intro h
    have : lo_r rk m d = 0 := if_pos h
    omega
  have tb : ∀ k, k < n → ((((nI m >>> (nI k &&& 31)) &&& 1) = 0) ↔ ¬ m.testBit k = true) := by
    intro k hk
    rw [sm_bit (by omega), sm_btn (by omega)]
    by_cases h : m.testBit k = true
    · rw [if_pos h]
      exact ⟨fun h3 => absurd h3 (by decide), fun h3 => absurd h h3⟩
    · rw [if_neg h]
      exact ⟨fun _ => h, fun _ => rfl⟩
  exact lp_go (fun t k => f_X6_scaleAt_l5 F t (nI m) (nI (r - fb_sm (lo_r rk m) k)) (nI k) T) (some (nI d, T)) d (fun t => by
    show f_X6_scaleAt_h5 F (f_X6_scaleAt_l5 F t) (nI m) _ (nI d) T = _
    have e : lo_r rk m d = rk d := if_neg hdb
    unfold f_X6_scaleAt_h5
    rw [h7, if_neg (nI_ge hd (by omega)), if_pos ((tb d hd).mpr hdb), rd_60 (by omega), Option.bind_some, h60 d hd, if_neg (nI_ge (by omega) (by omega))]) (fun t k hk => by
    have hmk := lo_mono (lo_r rk m) (show k + 1 ≤ d by omega)
    rw [fb_sm_succ] at hmk
    show f_X6_scaleAt_h5 F (f_X6_scaleAt_l5 F t) (nI m) _ (nI k) T = f_X6_scaleAt_l5 F t (nI m) (nI (r - (fb_sm (lo_r rk m) k + lo_r rk m k))) (nI (k + 1)) T
    unfold f_X6_scaleAt_h5 f_X6_scaleAt_h47
    rw [h7, if_neg (nI_ge (show k < n by omega) (by omega))]
    by_cases hb : m.testBit k = true
    · have e : lo_r rk m k = 0 := if_pos hb
      rw [if_neg (fun h => (tb k (by omega)).mp h hb), Option.bind_some, nI_1, e]
      rfl
    · have e : lo_r rk m k = rk k := if_neg hb
      have hrk2 := hrk k
      rw [if_pos ((tb k (by omega)).mpr hb), rd_60 (by omega), Option.bind_some, h60 k (by omega), if_pos (nI_le (by omega) (by omega)), Option.bind_some, pk_sub (by omega), Option.bind_some, Option.bind_some, nI_1, e, Nat.sub_sub]) F 0 (Nat.zero_le _) (by omega)
/-- the other side finds it -/
theorem lo_at2 {F m r n d t2 : Nat} {x2 x4 x8 : Int32} {a : Int64} {Z : si_St} {rk : Nat → Nat} (hn : n ≤ 24) (h107 : ∀ s, s < n → Z.2.1 107 s = nI (lo_r rk m s)) (hrk : ∀ s, rk s ≤ 60) (hd : d < n) (h1 : fb_sm (lo_r rk m) d ≤ r) (h2 : r < fb_sm (lo_r rk m) d + lo_r rk m d) (hF : 25 ≤ F) : f_X10_lot_l137 F (f_X10_lot_l99 F t2) F x2 x4 a 0 x8 (nI r) Z = f_X10_lot_l99 F t2 x2 (x4 - nI (lo_r rk m d)) a (nI d) (x8 + 1) (si_pa Z 107 d 0) := by
  have hbd := lo_bound (rk := rk) (m := m) hrk d
  have hld : ∀ k, lo_r rk m k ≤ 60 := by
    intro k
    unfold lo_r
    split
    · omega
    · exact hrk k
  have hldd := hld d
  exact lp_go (fun t k => f_X10_lot_l137 F (f_X10_lot_l99 F t2) t x2 x4 a (nI k) x8 (nI (r - fb_sm (lo_r rk m) k)) Z) (f_X10_lot_l99 F t2 x2 (x4 - nI (lo_r rk m d)) a (nI d) (x8 + 1) (si_pa Z 107 d 0)) d (fun t => by
    show f_X10_lot_h137 F (f_X10_lot_l99 F t2) (f_X10_lot_l137 F (f_X10_lot_l99 F t2) t) x2 x4 a (nI d) x8 _ Z = _
    unfold f_X10_lot_h137
    rw [rd_107 (by omega), Option.bind_some, h107 d hd, if_pos (nI_lt (by omega) (by omega)), Option.bind_some, Option.bind_some, wr_107 (by omega), Option.bind_some, Option.bind_some]) (fun t k hk => by
    have hmk := lo_mono (lo_r rk m) (show k + 1 ≤ d by omega)
    rw [fb_sm_succ] at hmk
    have hlk := hld k
    show f_X10_lot_h137 F (f_X10_lot_l99 F t2) (f_X10_lot_l137 F (f_X10_lot_l99 F t2) t) x2 x4 a (nI k) x8 _ Z = f_X10_lot_l137 F (f_X10_lot_l99 F t2) t x2 x4 a (nI (k + 1)) x8 (nI (r - (fb_sm (lo_r rk m) k + lo_r rk m k))) Z
    unfold f_X10_lot_h137
    rw [rd_107 (by omega), Option.bind_some, h107 k (by omega), if_neg (nI_nlt (by omega) (by omega)), Option.bind_some, pk_sub (by omega), Option.bind_some, Option.bind_some, nI_1, Nat.sub_sub]) F 0 (Nat.zero_le _) (by omega)
def lo_n (a : Nat) : Nat := (a * 1103515245 + 12345) % 2147483648
theorem lo_nx {a : Nat} (ha : a < 2147483648) : ((lN a * (1103515245 : Int64)) + (12345 : Int64)) - ((lN a * (1103515245 : Int64)) + (12345 : Int64)) / (2147483648 : Int64) * (2147483648 : Int64) = lN (lo_n a) := by
  have e : (lN a * (1103515245 : Int64)) + (12345 : Int64) = lN (a * 1103515245 + 12345) := by
    show lN a * lN 1103515245 + lN 12345 = _
    rw [lN_mul, lN_add]
  rw [e]
  exact pk_lRem (b := 2147483648) (by omega) (by decide) (by decide)
theorem lo_dv {b s : Nat} (hb : b < 2147483648) (hs : 0 < s) (hs2 : s < 2 ^ 31) : Int64.toInt32 ((lN b / (65536 : Int64)) - (lN b / (65536 : Int64)) / (Int32.toInt64 (nI s)) * (Int32.toInt64 (nI s))) = nI (b / 65536 % s) := by
  have e : lN b / (65536 : Int64) = lN (b / 65536) := pk_lDiv (b := 65536) (by omega) (by decide) (by decide)
  rw [e, nI_l hs2, pk_lRem (by omega) hs (by omega), lN_i]
theorem lo_n0 {s : Nat} (hs : 0 < s) (hs2 : s < 2 ^ 31) : ¬ Int32.toInt64 (nI s) = 0 := by
  rw [nI_l hs2]
  intro h
  have := (pk_lEQ (b := 0) (by omega) (by decide)).mp h
  omega
def lo_fr (B T : si_St) : Prop := T.1 = B.1 ∧ (∀ r, r ≠ 107 → T.2.1 r = B.2.1 r) ∧ T.2.2 = B.2.2
/-- both draw on -/
theorem lo_both {F n p : Nat} {T B : si_St} {rk : Nat → Nat} (h7 : T.1 57 7 = nI n) (hn : n ≤ 24) (h60 : ∀ s, s < n → T.2.1 60 s = nI (rk s)) (hrk : ∀ s, rk s ≤ 60) (hr1 : ∀ s, s < n → 1 ≤ rk s) (hp : p < n) (hF : 25 ≤ F) : ∀ c i m a t1 t2 last Z, i + c = p + 1 → c < t1 → c < t2 → a < 2147483648 → fb_ct (fun s => m.testBit s) n = i → lo_fr B Z → (∀ s, s < n → Z.2.1 107 s = nI (lo_r rk m s)) → ∃ r Z', f_X6_draw_l44 F t1 (nI p) (nI (fb_sm (lo_r rk m) n)) (lN a) (nI m) last (nI i) T = some (r, T) ∧ f_X10_lot_l99 F t2 (nI p) (nI (fb_sm (lo_r rk m) n)) (lN a) last (nI i) Z = some (r, Z') ∧ lo_fr B Z'
  | 0, i, m, a, 0, t2, last, Z, h1, h2, h3, h4, h5, h6, h8 => absurd h2 (by omega)
  | 0, i, m, a, t1 + 1, 0, last, Z, h1, h2, h3, h4, h5, h6, h8 => absurd h3 (by omega)
  | 0, i, m, a, t1 + 1, t2 + 1, last, Z, h1, h2, h3, h4, h5, h6, h8 => by
    refine ⟨last, Z, ?_, ?_, h6⟩
    · show f_X6_draw_h44 F (f_X6_draw_l44 F t1) (nI p) _ _ _ _ (nI i) T = _
      unfold f_X6_draw_h44 f_X6_draw_h123
      rw [if_pos (nI_lt (by omega) (by omega))]
    · show f_X10_lot_h99 F (f_X10_lot_l99 F t2) (nI p) _ _ _ (nI i) Z = _
      unfold f_X10_lot_h99
      rw [if_pos (nI_lt (by omega) (by omega))]
  | c + 1, i, m, a, 0, t2, last, Z, h1, h2, h3, h4, h5, h6, h8 => absurd h2 (by omega)
  | c + 1, i, m, a, t1 + 1, 0, last, Z, h1, h2, h3, h4, h5, h6, h8 => absurd h3 (by omega)
  | c + 1, i, m, a, t1 + 1, t2 + 1, last, Z, h1, h2, h3, h4, h5, h6, h8 => by
    have hs1 := lo_pos hr1 h5 (by omega)
    have hs2 := lo_bound (rk := rk) (m := m) hrk n
    have hln : lo_n a < 2147483648 := Nat.mod_lt _ (by decide)
    obtain ⟨d, hd, d1, d2⟩ := lo_find (lo_r rk m) (show lo_n a / 65536 % fb_sm (lo_r rk m) n < fb_sm (lo_r rk m) n from Nat.mod_lt _ (by omega))
    have hdb : ¬ m.testBit d = true := by
      intro h
      have : lo_r rk m d = 0 := if_pos h
      omega
    have hld : lo_r rk m d = rk d := if_neg hdb
    have hsum := lo_sum (rk := rk) (m := m) hd
    have hcnt := lo_cnt hd hdb h5
    have esub : nI (fb_sm (lo_r rk m) n) - nI (rk d) = nI (fb_sm (lo_r rk (m ||| 2 ^ d)) n) := by
      rw [pk_sub (by omega)]
      congr 1
      omega
    obtain ⟨r, Z', e1, e2, e3⟩ := lo_both (B := B) h7 hn h60 hrk hr1 hp hF c (i + 1) (m ||| 2 ^ d) (lo_n a) t1 t2 (nI d) (si_pa Z 107 d 0) (by omega) (by omega) (by omega) hln hcnt ⟨h6.1, fun q hq => (pa_o hq).trans (h6.2.1 q hq), h6.2.2⟩ (fun s hs => by
      rw [lo_up]
      dsimp only
      by_cases hsd : s = d
      · subst hsd
        rw [pa_e, if_pos rfl]
        rfl
      · rw [pa_s hsd, if_neg hsd]
        exact h8 s hs)
    refine ⟨r, Z', ?_, ?_, e3⟩
    · rw [← e1]
      have hd2 : ¬ nI d = -2 := by
        intro hz
        have h9 := congrArg Int32.toInt hz
        have h8 : (nI d).toInt = (d : Int) := nI_toInt (by omega)
        have h7 : (-2 : Int32).toInt = -2 := by decide
        omega
      show f_X6_draw_h44 F (f_X6_draw_l44 F t1) (nI p) _ _ _ _ (nI i) T = _
      unfold f_X6_draw_h44
      rw [if_neg (nI_nlt (by omega) (by omega)), if_neg (nI_nle (by omega) (by omega)), lo_nx h4, Option.bind_some, if_neg (lo_n0 (by omega) (by omega)), lo_dv hln (by omega) (by omega), lo_at h7 hn h60 hrk hd d1 d2 hF, Option.bind_some]
      dsimp only
      rw [if_neg hd2, sm_pow d (by omega), fa_or, Option.bind_some, rd_60 (by omega), Option.bind_some, h60 d hd, esub, Option.bind_some, Option.bind_some, nI_1]
    · rw [← e2]
      show f_X10_lot_h99 F (f_X10_lot_l99 F t2) (nI p) _ _ _ (nI i) Z = _
      unfold f_X10_lot_h99
      rw [if_neg (nI_nlt (by omega) (by omega)), lo_nx h4, Option.bind_some, if_neg (lo_n0 (by omega) (by omega)), lo_dv hln (by omega) (by omega), Option.bind_some, lo_at2 hn h8 hrk hd d1 d2 hF, hld, esub, nI_1]
theorem sy_m.pa107 {S : si_St} {u : Nat → Nat → Nat} {V i : Nat} {v : Int32} {D : sy_D} (h : sy_m S u V D) : sy_m (si_pa S 107 i v) u V D := by
  obtain ⟨c0, c1, c2, c3, c4⟩ := h
  exact ⟨c0, c1.cg rfl rfl rfl rfl (fun r r1 r2 => pa_o (by omega)), c2, c3, c4⟩
theorem st_lot {F : Nat} {x y z : Int32} (hF : 1000 ≤ F) : st_ok (f_X9_lot F x y z) (f_X10_lot F x y z) := by
  intro S h
  obtain ⟨u, mk, hmk, hat⟩ := id h
  obtain ⟨g0, g1, g2, g3, g4, g5, g6, g7, -⟩ := id hat
  obtain ⟨⟨V, hV, hc, hn, hv⟩, hq⟩ := id g7
  have hm := iv_mkof hmk
  have e := h.go (iv_th S)
  have h24 := g0.2.1
  have hs1 : S.1 mk 1 = nI (u 1 0) := g1.1 1 (by decide)
  have hw : ∀ S' : si_St, f_X10_within F x.toInt64 0 999999 S' = some (if 0 ≤ x ∧ x ≤ 999999 then 1 else 0, S') := fun S' => sm_win (a := 0) (b := 999999) (by decide) (by decide)
  by_cases hx : 0 ≤ x ∧ x ≤ 999999
  · have x0 : ¬ x < 0 := fun h => (fa_of_lt h).2.1 hx.1
    have x3 : ¬ 999999 < x := fun h => (fa_of_lt h).2.1 hx.2
    obtain ⟨a, ha, rfl⟩ := nI_of2 (M := 999999) (n := 999999) (by decide) x0 hx.2
    by_cases hy : y < 0
    · refine ⟨-1, S, si_ps S 87 0 0, ?_, ?_, e⟩
      · unfold f_X9_lot f_X9_lot_h22
        rw [if_neg x0, if_neg x3, if_pos hy]
      · unfold f_X10_lot f_X10_lot_h28
        rw [iv_pt0, Option.bind_some, hw, if_pos hx, Option.bind_some]
        dsimp only
        rw [if_neg sm_10, if_pos hy]
    · rcases sm_cases z 10000 (by decide) with ⟨dd, hdd, rfl⟩ | hz
      · have hX : f_X9_lot F (nI a) y (nI dd) S = if y < nI (u 1 0) then (Option.bind (f_X6_take F mk (nI dd) S) fun S4 => Option.bind (f_X6_draw F (nI a) y S4) fun q5 => some (q5.1, q5.2)) else some (-2, S) := by
          unfold f_X9_lot
          rw [if_neg x0, if_neg x3, if_neg hy, f9_isDay, if_pos (sm_in hdd (by decide)), Option.bind_some]
          dsimp only
          rw [if_neg sm_10, hm.1, Option.bind_some, hs1, Option.bind_some]
        have hM : ∀ S' : si_St, S'.1 87 3 = nI (u 1 0) → f_X10_lot F (nI a) y (nI dd) S' = if y < nI (u 1 0) then f_X10_lot_l47 F F (nI a) y (nI dd) 0 0 (si_ps S' 87 0 0) else some (-2, si_ps S' 87 0 0) := by
          intro S' h3
          have h3' : (si_ps S' 87 0 0).1 87 3 = nI (u 1 0) := h3
          unfold f_X10_lot
          rw [iv_pt0, Option.bind_some, hw, if_pos hx, Option.bind_some]
          dsimp only
          rw [if_neg sm_10, if_neg hy, f10_isDay, if_pos (sm_in hdd (by decide)), Option.bind_some]
          dsimp only
          rw [if_neg sm_10, h3']
        by_cases hyn : y < nI (u 1 0)
        · rw [if_pos hyn] at hX
          obtain ⟨p, hp, rfl⟩ : ∃ p, p < u 1 0 ∧ y = nI p := by
            rcases sm_cases y (u 1 0) (by omega) with h1 | h1
            · exact h1
            · exact absurd ⟨sm_nneg hy, hyn⟩ h1
          obtain ⟨T, D, eT, iT, sT, t7, ht, mT, -⟩ := sy_both (F := F) hmk h hat hc hV (show dd ≤ 9999 by omega) hF
          have hM2 := hM T ((sy_i3 sT).1.trans g2.2.1)
          rw [if_pos hyn] at hM2
          rw [eT, Option.bind_some] at hX
          have hrk : ∀ s, sy_rk D u dd V (u 1 0) s ≤ 60 := fun s => by
            have := sy_rk_le (D := D) (u := u) (dd := dd) (V := V) (n := u 1 0) (s := s)
            omega
          have h0r : ∀ s, lo_r (fun s => sy_rk D u dd V (u 1 0) s) 0 s = sy_rk D u dd V (u 1 0) s := fun s => if_neg (by rw [Nat.zero_testBit]; decide)
          -- the class adds up
          have hXs : f_X6_draw F (nI a) (nI p) T = f_X6_draw_l44 F F (nI p) (nI (fb_sm (lo_r (fun s => sy_rk D u dd V (u 1 0) s) 0) (u 1 0))) (lN a) (nI 0) (-2) (nI 0) T := by
            exact lp_go (fun t k => f_X6_draw_l5 F t (nI a) (nI p) (nI (fb_sm (lo_r (fun s => sy_rk D u dd V (u 1 0) s) 0) k)) (nI k) T) _ (u 1 0) (fun t => by
              show f_X6_draw_h5 F (f_X6_draw_l5 F t) (nI a) (nI p) _ (nI (u 1 0)) T = _
              unfold f_X6_draw_h5
              rw [t7, if_pos (Int32.le_refl _), Option.bind_some, nI_l (by omega)]
              rfl) (fun t k hk => by
              show f_X6_draw_h5 F (f_X6_draw_l5 F t) (nI a) (nI p) _ (nI k) T = _
              unfold f_X6_draw_h5
              rw [t7, if_neg (nI_ge hk (by omega)), rd_60 (by omega), Option.bind_some, (ht k hk).2.2, nI_add, Option.bind_some, Option.bind_some, nI_1, fb_sm_succ, h0r]) F 0 (Nat.zero_le _) (by omega)
          -- the other side too
          have hMs : ∃ Z, f_X10_lot_l47 F F (nI a) (nI p) (nI dd) 0 0 (si_ps T 87 0 0) = f_X10_lot_l99 F F (nI p) (nI (fb_sm (lo_r (fun s => sy_rk D u dd V (u 1 0) s) 0) (u 1 0))) (lN a) (-2) (nI 0) Z ∧ lo_fr (si_ps T 87 0 0) Z ∧ ∀ s, s < u 1 0 → Z.2.1 107 s = nI (lo_r (fun s => sy_rk D u dd V (u 1 0) s) 0 s) := by
            exact lp_inv (fun t k Z => f_X10_lot_l47 F t (nI a) (nI p) (nI dd) (nI (fb_sm (lo_r (fun s => sy_rk D u dd V (u 1 0) s) 0) k)) (nI k) Z) (fun k Z => sy_m Z u V D ∧ lo_fr (si_ps T 87 0 0) Z ∧ ∀ s, s < k → Z.2.1 107 s = nI (lo_r (fun s => sy_rk D u dd V (u 1 0) s) 0 s)) (fun o => ∃ Z, o = f_X10_lot_l99 F F (nI p) (nI (fb_sm (lo_r (fun s => sy_rk D u dd V (u 1 0) s) 0) (u 1 0))) (lN a) (-2) (nI 0) Z ∧ lo_fr (si_ps T 87 0 0) Z ∧ ∀ s, s < u 1 0 → Z.2.1 107 s = nI (lo_r (fun s => sy_rk D u dd V (u 1 0) s) 0 s)) (u 1 0) (fun t Z ⟨a1, a2, a3⟩ => by
              refine ⟨Z, ?_, a2, a3⟩
              have z3 : Z.1 87 3 = nI (u 1 0) := a1.2.1.2.1
              show f_X10_lot_h47 F (f_X10_lot_l47 F t) (nI a) (nI p) (nI dd) _ (nI (u 1 0)) Z = _
              unfold f_X10_lot_h47
              rw [z3, if_pos (Int32.le_refl _), Option.bind_some, nI_l (by omega)]
              rfl) (fun t k Z hk ⟨a1, a2, a3⟩ => by
              have z3 : Z.1 87 3 = nI (u 1 0) := a1.2.1.2.1
              refine ⟨si_pa Z 107 k (nI (sy_rk D u dd V (u 1 0) k)), ⟨a1.pa107, ⟨a2.1, fun q hq => (pa_o hq).trans (a2.2.1 q hq), a2.2.2⟩, fun s hs => ?_⟩, ?_⟩
              · by_cases hsk : s = k
                · subst hsk
                  rw [pa_e, h0r]
                · rw [pa_s hsk]
                  exact a3 s (by omega)
              · show f_X10_lot_h47 F (f_X10_lot_l47 F t) (nI a) (nI p) (nI dd) _ (nI k) Z = _
                unfold f_X10_lot_h47
                rw [z3, if_neg (nI_ge hk (by omega)), sy_mrk a1 hk (by omega) (by omega), Option.bind_some]
                dsimp only
                rw [wr_107 (by omega), Option.bind_some, rd_107 (by omega), Option.bind_some, pa_e, nI_add, Option.bind_some, Option.bind_some, nI_1, fb_sm_succ, h0r]) F 0 (si_ps T 87 0 0) (Nat.zero_le _) (by omega) ⟨mT, ⟨rfl, fun _ _ => rfl, rfl⟩, fun s hs => absurd hs (Nat.not_lt_zero s)⟩
          obtain ⟨Z, eZ, fZ, rZ⟩ := hMs
          obtain ⟨r, Z', q1, q2, q3⟩ := lo_both (F := F) (p := p) (B := si_ps T 87 0 0) t7 h24 (fun s hs => (ht s hs).2.2) hrk (fun s _ => sy_rk_pos) hp (by omega) (p + 1) 0 0 a F F (-2) Z (by omega) (by omega) (by omega) (by omega) ((fb_ct_zero (p := fun s => (0 : Nat).testBit s) (n := u 1 0)).mpr (fun k _ => Nat.zero_testBit k)) fZ rZ
          have sZ : iv_same (si_ps T 87 0 0) Z' := ⟨fun _ _ _ => by rw [q3.1], fun k hk => q3.2.1 k (fun h => by rw [h] at hk; exact absurd hk (by decide)), by rw [q3.2.2], by rw [q3.2.2], by rw [q3.2.2], by rw [q3.2.2]⟩
          refine ⟨r, T, Z', ?_, ?_, (iT.go (iv_th T)).go sZ⟩
          · rw [hX, hXs, q1]
            rfl
          · rw [hM2, eZ, q2]
        · rw [if_neg hyn] at hX
          refine ⟨-2, S, si_ps S 87 0 0, hX, ?_, e⟩
          rw [hM S g2.2.1, if_neg hyn]
      · refine ⟨-1, S, si_ps S 87 0 0, ?_, ?_, e⟩
        · unfold f_X9_lot
          rw [if_neg x0, if_neg x3, if_neg hy, f9_isDay, if_neg hz]
          rfl
        · unfold f_X10_lot
          rw [iv_pt0, Option.bind_some, hw, if_pos hx, Option.bind_some]
          dsimp only
          rw [if_neg sm_10, if_neg hy, f10_isDay, if_neg hz]
          rfl
  · refine ⟨-1, S, si_ps S 87 0 0, ?_, ?_, e⟩
    · unfold f_X9_lot f_X9_lot_h22
      by_cases x0 : x < 0
      · rw [if_pos x0]
      · rw [if_neg x0, if_pos (fa_of_nle (fun h => hx ⟨fa_of_nlt x0, h⟩))]
    · unfold f_X10_lot
      rw [iv_pt0, Option.bind_some, hw, if_neg hx]
      rfl
