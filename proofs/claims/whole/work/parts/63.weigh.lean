-- weigh
theorem sm_winN {F x a b : Nat} {A B : Int64} (hA : A = Int32.toInt64 (nI a)) (hB : B = Int32.toInt64 (nI b)) {S : si_St} (hx : x < 2 ^ 31) (ha : a < 2 ^ 31) (hb : b < 2 ^ 31) : f_X10_within F (nI x).toInt64 A B S = some (if a ≤ x ∧ x ≤ b then 1 else 0, S) := by
  rw [sm_win hA hB]
  by_cases h : a ≤ x ∧ x ≤ b
  · rw [if_pos h, if_pos ⟨nI_le h.1 hx, nI_le h.2 hb⟩]
  · rw [if_neg h, if_neg (fun h2 => h ⟨(nI_leI ha hx).mp h2.1, (nI_leI hx hb).mp h2.2⟩)]
theorem we_pan {F n : Nat} {x : Int32} {S : si_St} (hn : n < 31) : f_X10_within F x.toInt64 1 (Int32.toInt64 (nI (2 ^ n) - 1)) S = some (if 1 ≤ x ∧ x < nI (2 ^ n) then 1 else 0, S) := by
  have h2 : 2 ^ n ≤ 2 ^ 30 := Nat.pow_le_pow_right (by decide) (by omega)
  have hp : 0 < 2 ^ n := Nat.pow_pos (by decide)
  rw [sm_win (a := 1) (b := nI (2 ^ n) - 1) (by decide) rfl]
  have e : nI (2 ^ n) - 1 = nI (2 ^ n - 1) := sm_sub (b := 1) (by omega)
  have h3 : x ≤ nI (2 ^ n) - 1 ↔ x < nI (2 ^ n) := by
    rw [e, fa_le, fa_lt, nI_toInt (by omega), nI_toInt (by omega)]
    omega
  by_cases hc : 1 ≤ x ∧ x < nI (2 ^ n)
  · rw [if_pos hc, if_pos ⟨hc.1, h3.mpr hc.2⟩]
  · rw [if_neg hc, if_neg (fun h => hc ⟨h.1, h3.mp h.2⟩)]
/-- the other side's walk through its checks -/
theorem we_mx {F n k : Nat} {x y z : Int32} {S : si_St} (hn : n ≤ 12) (hF : 13 ≤ F) (hk : k < 4) (hs : f_X10_isSet F (nI k) (si_ps S 87 0 0) = some (1, si_ps S 87 0 0)) (hw : S.2.1 94 k = nI n) : (¬ (we_P n x y ∧ 0 ≤ z ∧ z ≤ 2) → f_X10_weigh F (nI k) x y z S = some (-1, si_ps S 87 0 0)) ∧ (we_P n x y → 0 ≤ z → z ≤ 2 → f_X10_weigh F (nI k) x y z S = if z = 0 then f_X10_weigh_h126 F (nI k) x y z (S.2.1 88 (661 + k)) (S.2.1 88 (665 + k)) (S.2.1 88 (669 + k)) (si_ps S 87 0 0) else f_X10_weigh_h126 F (nI k) x y z (S.2.1 88 (661 + k)) (S.2.1 88 (665 + k)) 0 (si_ps S 87 0 0)) := by
  have h2 : 2 ^ n ≤ 2 ^ 12 := Nat.pow_le_pow_right (by decide) (by omega)
  have q94 : (si_ps S 87 0 0).2.1 94 k = nI n := hw
  have q88 : (si_ps S 87 0 0).2.1 88 = S.2.1 88 := rfl
  have one : (1 : Int32) = nI 1 := rfl
  have inx : ∀ x : Int32, (1 ≤ x ∧ x < nI (2 ^ n)) → ∃ a, a < 2 ^ n ∧ 1 ≤ a ∧ x = nI a := by
    intro x h
    have h1 := (fa_le _ _).mp h.1
    have c1 : (1 : Int32).toInt = 1 := by decide
    have c0 : (0 : Int32).toInt = 0 := by decide
    rcases sm_cases x (2 ^ n) (by omega) with ⟨a, ha, rfl⟩ | hno
    · rw [c1, nI_toInt (by omega)] at h1
      exact ⟨a, ha, by omega, rfl⟩
    · refine absurd ⟨?_, h.2⟩ hno
      rw [fa_le, c0]
      omega
  have hw01 : f_X10_within F z.toInt64 0 2 (si_ps S 87 0 0) = some (if 0 ≤ z ∧ z ≤ 2 then 1 else 0, si_ps S 87 0 0) := sm_win (a := 0) (b := 2) (by decide) (by decide)
  have base : f_X10_weigh F (nI k) x y z S = (if 1 ≤ x ∧ x < nI (2 ^ n) then (if 1 ≤ y ∧ y < nI (2 ^ n) then (if (x &&& y) = 0 then (Option.bind (f_X10_bits F x (si_ps S 87 0 0)) fun q19 => Option.bind (f_X10_bits F y q19.2) fun q20 => if q19.1 = q20.1 then (Option.bind (f_X10_within F (Int32.toInt64 z) (0 : Int64) (2 : Int64) q20.2) fun q21 => if q21.1 = 0 then (f_X10_weigh_h81 F q21.2) else (Option.bind (si_rd q21.2 88 (661 + nI k)) fun v22 => Option.bind (si_rd q21.2 88 (665 + nI k)) fun v23 => if z = 0 then (Option.bind (si_rd q21.2 88 (669 + nI k)) fun v24 => f_X10_weigh_h126 F (nI k) x y z v22 v23 v24 q21.2) else (f_X10_weigh_h126 F (nI k) x y z v22 v23 0 q21.2))) else (f_X10_weigh_h81 F q20.2)) else some (-1, si_ps S 87 0 0)) else some (-1, si_ps S 87 0 0)) else some (-1, si_ps S 87 0 0)) := by
    have h81 : ∀ T, f_X10_weigh_h81 F T = some (-1, T) := fun _ => rfl
    unfold f_X10_weigh
    rw [iv_pt0, Option.bind_some, hs, Option.bind_some]
    dsimp only
    rw [if_neg sm_10, rd_94 (by omega), Option.bind_some, q94, sm_pow n (by omega), Option.bind_some, we_pan (by omega), Option.bind_some]
    by_cases c1 : 1 ≤ x ∧ x < nI (2 ^ n)
    · rw [if_pos c1, if_pos c1]
      dsimp only
      rw [if_neg sm_10, we_pan (by omega), Option.bind_some]
      by_cases c2 : 1 ≤ y ∧ y < nI (2 ^ n)
      · rw [if_pos c2, if_pos c2]
        dsimp only
        rw [if_neg sm_10, h81 (si_ps S 87 0 0)]
      · rw [if_neg c2, if_neg c2]
        dsimp only
        rw [if_pos rfl, h81]
    · rw [if_neg c1, if_neg c1]
      dsimp only
      rw [if_pos rfl, h81]
  constructor
  · intro hno
    rw [base]
    by_cases c1 : 1 ≤ x ∧ x < nI (2 ^ n)
    · rw [if_pos c1]
      by_cases c2 : 1 ≤ y ∧ y < nI (2 ^ n)
      · rw [if_pos c2]
        by_cases c3 : (x &&& y) = 0
        · rw [if_pos c3]
          obtain ⟨a, ha, ha1, rfl⟩ := inx x c1
          obtain ⟨b, hb, hb1, rfl⟩ := inx y c2
          have p1 := sb_le12 a
          have p2 := sb_le12 b
          rw [sb_bits (by omega) hF, Option.bind_some]
          dsimp only
          rw [sb_bits (by omega) hF, Option.bind_some]
          dsimp only
          by_cases c4 : sb_pc a = sb_pc b
          · rw [if_pos (by rw [c4]), hw01, Option.bind_some]
            by_cases c5 : 0 ≤ z ∧ z ≤ 2
            · exact absurd ⟨⟨a, b, ha, hb, rfl, rfl, (we_and0 (by omega) (by omega)).mp c3, c4, by omega⟩, c5⟩ hno
            · rw [if_neg c5]
              rfl
          · rw [if_neg (sm_ne c4 (by omega) (by omega))]
            rfl
        · rw [if_neg c3]
      · rw [if_neg c2]
    · rw [if_neg c1]
  · rintro ⟨a, b, ha, hb, rfl, rfl, c3, c4, c6⟩ z0 z2
    have hb0 : 0 < b := by
      have h1 := (sb_pos b (by omega)).mp
      have h3 := (sb_pos a (by omega)).mp
      by_cases hbz : b = 0
      · have h5 : sb_pc b = 0 := (sb_pos b (by omega)).mpr hbz
        have h6 := h3 (c4.trans h5)
        omega
      · omega
    rw [base, if_pos ⟨nI_le (a := 1) (by omega) (by omega), nI_lt ha (by omega)⟩, if_pos ⟨nI_le (a := 1) (by omega) (by omega), nI_lt hb (by omega)⟩, if_pos ((we_and0 (by omega) (by omega)).mpr c3), sb_bits (by omega) hF, Option.bind_some]
    dsimp only
    rw [sb_bits (by omega) hF, Option.bind_some]
    dsimp only
    rw [if_pos (by rw [c4]), hw01, if_pos ⟨z0, z2⟩, Option.bind_some]
    dsimp only
    rw [if_neg sm_10, li_addL, rd_88 (by omega), Option.bind_some, li_addL, rd_88 (by omega), Option.bind_some, li_addL, rd_88 (by omega), Option.bind_some, q88]
theorem st_weigh {F : Nat} {x y1 y2 z : Int32} (hF : 7448 ≤ F) : st_ok (f_X9_weigh F x y1 y2 z) (f_X10_weigh F x y1 y2 z) := by
  intro S h
  obtain ⟨u, mk, hmk, hat⟩ := id h
  obtain ⟨g0, g1, g2, g3, g4, g5, g6, g7, ⟨d, p, hd, hp, e0, e1, e2, hch⟩, g9, g10, g11⟩ := id hat
  obtain ⟨⟨V, hV, hc, hn, hv⟩, hq⟩ := id g7
  have hm := iv_mkof hmk
  have e := h.go (iv_th S)
  have hu4 := g0.2.2.2.1
  have hs1 : S.1 mk 3 = nI (u 3 0) := g1.1 3 (by decide)
  rcases sm_cases x (u 3 0) (by omega) with ⟨k, hk, rfl⟩ | hx
  · obtain ⟨q91, q92, q93⟩ := g0.2.2.2.2.2.2.1 k hk
    have c6 : S.2.1 (mk + 6) k = nI (u 9 k) := (g1.2.2.2.1 k hk).1
    have c94 : S.2.1 94 k = nI (u 9 k) := (g2.2.2.2.2.2.2.1 k hk).1
    have sM : ∀ S' : si_St, S'.1 87 10 = nI (u 3 0) → f_X10_isSet F (nI k) S' = some (1, S') := fun S' h => by rw [f10_isSet h (by omega), if_pos (sm_in hk (by omega))]
    have h2n : 2 ^ u 9 k ≤ 2 ^ 12 := Nat.pow_le_pow_right (by decide) q92
    obtain ⟨wx1, wx0⟩ := we_x (F := F) (x := y1) (y := y2) (S := S) q92
    have hX : f_X9_weigh F (nI k) y1 y2 z S = Option.bind (f_X9_isWeighing F (nI (u 9 k)) y1 y2 S) fun q12 => if q12.1 = 0 then some (-1, q12.2) else (if z < 0 then some (-1, q12.2) else (if z ≤ 2 then (Option.bind (si_rd q12.2 17 (nI k)) fun v13 => Option.bind (f_X8_suspectsAfter F v13 y1 y2 z q12.2) fun q14 => Option.bind (si_rd q14.2 18 (nI k)) fun v15 => Option.bind (f_X8_suspectsAfter F v15 y2 y1 z q14.2) fun q16 => if z = 0 then (Option.bind (si_rd q16.2 19 (nI k)) fun v17 => f_X9_weigh_h94 F (nI k) q14.1 q16.1 v17 q16.2) else (f_X9_weigh_h94 F (nI k) q14.1 q16.1 0 q16.2)) else some (-1, q12.2))) := by
      unfold f_X9_weigh f_X9_weigh_h25 f_X9_weigh_h38
      rw [f9_hasSet hm.1 hs1 (by omega), if_pos (sm_in hk (by omega)), Option.bind_some]
      dsimp only
      rw [if_neg sm_10, hm.1, Option.bind_some, rd_m6 hm.2 (by omega), Option.bind_some, c6]
    by_cases hP : we_P (u 9 k) y1 y2 ∧ 0 ≤ z ∧ z ≤ 2
    · obtain ⟨hP1, z0, z2⟩ := hP
      rw [wx1 hP1, Option.bind_some] at hX
      have hM := fun (S' : si_St) (h10 : S'.1 87 10 = nI (u 3 0)) (h94 : S'.2.1 94 k = nI (u 9 k)) => (we_mx (F := F) (z := z) q92 (by omega) (show k < 4 by omega) (sM (si_ps S' 87 0 0) h10) h94).2 hP1 z0 z2
      obtain ⟨a, b, ha, hb, rfl, rfl, hab, hpc, hapos⟩ := hP1
      obtain ⟨r, hr, rfl⟩ : ∃ r, r < 3 ∧ z = nI r := by
        obtain ⟨j, hj, hj2⟩ := nI_of2 (M := 2) (n := 2) (by decide) (fun hlt => (fa_of_lt hlt).2.1 z0) z2
        exact ⟨j, by omega, hj2⟩
      obtain ⟨hh, l, g, w, p1, b1, p2, b2, p3, b3, p4, b4, hhn, hln, hw20, hg1, hor, hpos⟩ := hq k hk
      have p1' : S.2.1 17 k = nI hh := p1
      have p2' : S.2.1 18 k = nI l := p2
      have p3' : S.2.1 19 k = nI g := p3
      have p4' : S.2.1 20 k = nI w := p4
      have z0' : ¬ nI r < 0 := nI_pos (by omega)
      have lh := we_s_le hh a b r
      have ll := we_s_le l b a r
      rw [if_neg sm_10, if_neg z0', if_pos z2, rd_17 (by omega), Option.bind_some, p1', we_sx (by omega) (by omega) (by omega) hr, Option.bind_some] at hX
      dsimp only at hX
      rw [rd_18 (by omega), Option.bind_some, p2', we_sx (by omega) (by omega) (by omega) hr, Option.bind_some] at hX
      dsimp only at hX
      rw [rd_19 (by omega), Option.bind_some, p3'] at hX
      -- genuine
      have hX2 : f_X9_weigh F (nI k) (nI a) (nI b) (nI r) S = f_X9_weigh_h94 F (nI k) (nI (we_s hh a b r)) (nI (we_s l b a r)) (nI (if r = 0 then g else 0)) S := by
        rw [hX]
        by_cases hr0 : r = 0
        · rw [if_pos (show nI r = 0 by rw [hr0]; rfl), if_pos hr0]
        · rw [if_neg (nI_ne0 (by omega) (by omega)), if_neg hr0]
          rfl
      have hM2 : ∀ S' : si_St, S'.1 87 10 = nI (u 3 0) → S'.2.1 94 k = nI (u 9 k) → S'.2.1 88 = S.2.1 88 → f_X10_weigh F (nI k) (nI a) (nI b) (nI r) S' = Option.bind (f_X10_bits F (nI (we_s hh a b r)) (si_ps S' 87 0 0)) fun q2 => Option.bind (f_X10_bits F (nI (we_s l b a r)) q2.2) fun q3 => Option.bind (some ((q2.1 + q3.1) + nI (if r = 0 then g else 0))) fun v4 => if v4 = 0 then (some ((-2), q3.2)) else (Option.bind (si_rd q3.2 88 (673 + nI k)) fun v5 => if v5 = 20 then (some ((-3), q3.2)) else (Option.bind (f_X10_keeps F q3.2) fun S6 => Option.bind (si_wr S6 88 (661 + nI k) (nI (we_s hh a b r))) fun S7 => Option.bind (si_wr S7 88 (665 + nI k) (nI (we_s l b a r))) fun S8 => Option.bind (si_wr S8 88 (669 + nI k) (nI (if r = 0 then g else 0))) fun S9 => Option.bind (si_rd S9 88 (673 + nI k)) fun v10 => Option.bind (si_wr S9 88 (673 + nI k) (v10 + 1)) fun S11 => some (v4, S11))) := by
        intro S' h10 h94 h88
        rw [hM S' h10 h94, h88, b1, b2, b3]
        have fin : ∀ G : Int32, f_X10_weigh_h126 F (nI k) (nI a) (nI b) (nI r) (nI hh) (nI l) G (si_ps S' 87 0 0) = f_X10_weigh_h183 F (nI k) (nI (we_s hh a b r)) G (if r = 0 then ((nI a ||| nI b) ^^^ (-1)) else if r = 1 then nI b else nI a) (nI l) (si_ps S' 87 0 0) := by
          intro G
          have h3 : r = 0 ∨ r = 1 ∨ r = 2 := by omega
          unfold f_X10_weigh_h126 f_X10_weigh_h154 we_s
          rcases h3 with rfl | rfl | rfl
          · rw [if_pos (show nI 0 = 0 from rfl), we_df (by omega) (by omega) (by omega), Option.bind_some, if_pos (show nI 0 = 0 from rfl), if_pos rfl, if_pos rfl]
          · rw [if_neg (show ¬ nI 1 = 0 by decide), if_pos (show nI 1 = 1 from rfl), fa_and, Option.bind_some, if_neg (show ¬ nI 1 = 0 by decide), if_pos (show nI 1 = 1 from rfl)]
            rfl
          · rw [if_neg (show ¬ nI 2 = 0 by decide), if_neg (show ¬ nI 2 = 1 by decide), fa_and, Option.bind_some, if_neg (show ¬ nI 2 = 0 by decide), if_neg (show ¬ nI 2 = 1 by decide)]
            rfl
        have lt : nI l &&& (if r = 0 then ((nI a ||| nI b) ^^^ (-1)) else if r = 1 then nI b else nI a) = nI (we_s l b a r) := by
          have h3 : r = 0 ∨ r = 1 ∨ r = 2 := by omega
          unfold we_s
          rcases h3 with rfl | rfl | rfl
          · rw [if_pos rfl, if_pos rfl, we_df (by omega) (by omega) (by omega), Nat.or_comm]
          · rw [if_neg (by decide), if_pos rfl, if_neg (by decide), if_pos rfl, fa_and]
          · rw [if_neg (by decide), if_neg (by decide), if_neg (by decide), if_neg (by decide), fa_and]
        rw [fin, fin]
        unfold f_X10_weigh_h183
        rw [lt, Option.bind_some, Option.bind_some]
        by_cases hr0 : r = 0
        · rw [if_pos (show nI r = 0 by rw [hr0]; rfl), if_pos hr0]
        · rw [if_neg (nI_ne0 (by omega) (by omega)), if_neg hr0]
          rfl
      have hg' : (if r = 0 then g else 0) ≤ 1 := by split <;> omega
      have hz := we_zero (g := g) hab hr (hor.imp (fun h => ⟨h.1, trivial⟩) id)
      have hg0 : r ≠ 0 → (if r = 0 then g else 0) = 0 := fun h => if_neg h
      have hgr : r = 0 → (if r = 0 then g else 0) = g := fun h => if_pos h
      generalize hG : (if r = 0 then g else 0) = g' at hX2 hM2 hg' hg0 hgr
      generalize hH : we_s hh a b r = h' at hX2 hM2 lh hz
      generalize hL : we_s l b a r = l' at hX2 hM2 ll hz
      have n1 := sb_le12 h'
      have n2 := sb_le12 l'
      unfold f_X9_weigh_h94 at hX2
      rw [sb_bc (by omega), Option.bind_some] at hX2
      dsimp only at hX2
      rw [sb_bc (by omega), Option.bind_some] at hX2
      dsimp only at hX2
      rw [nI_add, nI_add, Option.bind_some, rd_20 (by omega), Option.bind_some, p4'] at hX2
      by_cases hz0 : sb_pc h' + sb_pc l' + g' = 0
      · refine ⟨-2, S, si_ps S 87 0 0, ?_, ?_, e⟩
        · rw [hX2, if_pos (by rw [hz0]; rfl)]
        · rw [hM2 S g2.2.2.2.1 c94 rfl, sb_bits (by omega) (by omega), Option.bind_some]
          dsimp only
          rw [sb_bits (by omega) (by omega), Option.bind_some]
          dsimp only
          rw [nI_add, nI_add, Option.bind_some, if_pos (by rw [hz0]; rfl)]
      · have hz1 : ¬ nI (sb_pc h' + sb_pc l' + g') = 0 := nI_ne0 (by omega) (by omega)
        rw [if_neg hz1] at hX2
        by_cases hw : w < 20
        · -- a weighing more
          have w20 : ¬ nI w = 20 := fun h => by
            have h9 : w = 20 := (li_eqR (n := 20) (by decide) (by omega)).mp h
            omega
          rw [if_pos ((li_ltR (n := 20) (by decide) (by omega)).mpr hw), we_add hd hp (by omega) e0 e1, Option.bind_some] at hX2
          generalize hXA : sn_X3 S p k d = SA at hX2
          have ao : ∀ q, q ≠ 22 → q ≠ 23 → q ≠ 24 → q ≠ 25 → q ≠ 26 → SA.2.1 q = S.2.1 q := by
            intro q q1 q2 q3 q4 q5
            rw [← hXA]
            unfold sn_X3
            rw [sn_Ao q1 q2, pa_o q5, pa_o q4, pa_o q3]
          have hX3 : f_X9_weigh F (nI k) (nI a) (nI b) (nI r) S = some (nI (sb_pc h' + sb_pc l' + g'), sn_XP SA k (nI h') (nI l') (nI g') (nI (w + 1))) := by
            have v20 : ∀ a b c, (si_pa (si_pa (si_pa SA 17 k a) 18 k b) 19 k c).2.1 20 k = nI w := by
              intro a b c
              rw [pa_o (by decide), pa_o (by decide), pa_o (by decide), ao 20 (by decide) (by decide) (by decide) (by decide) (by decide)]
              exact p4'
            rw [hX2]
            unfold f_X8_put
            rw [wr_17 (by omega), Option.bind_some, wr_18 (by omega), Option.bind_some, wr_19 (by omega), Option.bind_some, Option.bind_some, rd_20 (by omega), Option.bind_some, v20, nI_1, wr_20 (by omega), Option.bind_some]
            rfl
          generalize hSX : sn_XP SA k (nI h') (nI l') (nI g') (nI (w + 1)) = SX at hX3
          have xo : ∀ q, q ≠ 17 → q ≠ 18 → q ≠ 19 → q ≠ 20 → SX.2.1 q = SA.2.1 q := by
            intro q q1 q2 q3 q4
            rw [← hSX]
            unfold sn_XP
            rw [pa_o q4, pa_o q3, pa_o q2, pa_o q1]
          have xoo : ∀ q, q < 17 ∨ 26 < q → SX.2.1 q = S.2.1 q := fun q hq => (xo q (by omega) (by omega) (by omega) (by omega)).trans (ao q (by omega) (by omega) (by omega) (by omega) (by omega))
          have xs : ∀ j q, 1 ≤ j → j ≤ 4 → q ≠ k → SX.2.1 (16 + j) q = S.2.1 (16 + j) q := by
            intro j q j1 j4 hqk
            rw [← hSX]
            unfold sn_XP
            have hj : j = 1 ∨ j = 2 ∨ j = 3 ∨ j = 4 := by omega
            rcases hj with rfl | rfl | rfl | rfl
            · rw [pa_o (by decide), pa_o (by decide), pa_o (by decide), pa_s hqk, ao _ (by decide) (by decide) (by decide) (by decide) (by decide)]
            · rw [pa_o (by decide), pa_o (by decide), pa_s hqk, pa_o (by decide), ao _ (by decide) (by decide) (by decide) (by decide) (by decide)]
            · rw [pa_o (by decide), pa_s hqk, pa_o (by decide), pa_o (by decide), ao _ (by decide) (by decide) (by decide) (by decide) (by decide)]
            · rw [pa_s hqk, pa_o (by decide), pa_o (by decide), pa_o (by decide), ao _ (by decide) (by decide) (by decide) (by decide) (by decide)]
          have xN : SX.2.1 17 k = nI h' ∧ SX.2.1 18 k = nI l' ∧ SX.2.1 19 k = nI g' ∧ SX.2.1 20 k = nI (w + 1) := by
            rw [← hSX]
            unfold sn_XP
            refine ⟨?_, ?_, ?_, pa_e⟩
            · rw [pa_o (by decide), pa_o (by decide), pa_o (by decide), pa_e]
            · rw [pa_o (by decide), pa_o (by decide), pa_e]
            · rw [pa_o (by decide), pa_e]
          have xH : SX.2.1 22 p = nI 3 ∧ SX.2.1 23 p = nI k ∧ SX.2.1 24 p = nI hh ∧ SX.2.1 25 p = nI l ∧ SX.2.1 26 p = nI g := by
            refine ⟨?_, ?_, ?_, ?_, ?_⟩ <;> rw [xo _ (by decide) (by decide) (by decide) (by decide), ← hXA] <;> unfold sn_X3
            · exact sn_A22
            · exact sn_A23
            · rw [sn_Ao (by decide) (by decide), pa_o (by decide), pa_o (by decide), pa_e]
              exact p1'
            · rw [sn_Ao (by decide) (by decide), pa_o (by decide), pa_e]
              exact p2'
            · rw [sn_Ao (by decide) (by decide), pa_e]
              exact p3'
          have x1A : SX.1 = SA.1 := by rw [← hSX]; rfl
          have x1o : ∀ a c, a ≠ 21 → SX.1 a c = S.1 a c := by
            intro a c hac
            rw [x1A, ← hXA]
            unfold sn_X3
            rw [sn_A1 hac]
            rfl
          have x41 : (si_ps SX 87 0 0).1 87 41 = nI d := by
            rw [ps_o (by omega), x1o _ _ (by decide)]
            exact e2
          obtain ⟨K, hK, k1, k2, k3, k4, k5, k6⟩ := sm_keepsU (F := F) hd hF x41
          have k88 : K.2.1 88 = S.2.1 88 := (k3 88 (by decide)).trans (xoo 88 (by decide))
          have hM3 : f_X10_weigh F (nI k) (nI a) (nI b) (nI r) SX = some (nI (sb_pc h' + sb_pc l' + g'), sn_MP K k (nI h') (nI l') (nI g') (nI (w + 1))) := by
            have q88 : (si_ps SX 87 0 0).2.1 88 (673 + k) = nI w := by
              show SX.2.1 88 (673 + k) = _
              rw [xoo 88 (by decide)]
              exact b4
            have v673 : ∀ a b c, (si_pa (si_pa (si_pa K 88 (661 + k) a) 88 (665 + k) b) 88 (669 + k) c).2.1 88 (673 + k) = nI w := by
              intro a b c
              rw [pa_s (by omega), pa_s (by omega), pa_s (by omega), k88]
              exact b4
            rw [hM2 SX (by rw [x1o _ _ (by decide)]; exact g2.2.2.2.1) (by rw [xoo 94 (by decide)]; exact c94) (xoo 88 (by decide)), sb_bits (by omega) (by omega), Option.bind_some]
            dsimp only
            rw [sb_bits (by omega) (by omega), Option.bind_some]
            dsimp only
            rw [nI_add, nI_add, Option.bind_some, if_neg hz1, li_addL, rd_88 (by omega), Option.bind_some, q88, if_neg w20, hK, Option.bind_some, li_addL, wr_88 (by omega), Option.bind_some, li_addL, wr_88 (by omega), Option.bind_some, li_addL, wr_88 (by omega), Option.bind_some, rd_88 (by omega), Option.bind_some, v673, nI_1, wr_88 (by omega), Option.bind_some]
            rfl
          refine ⟨_, SX, _, hX3, hM3, u, mk, ?_⟩
          have mo : ∀ q, q ≠ 661 + k → q ≠ 665 + k → q ≠ 669 + k → q ≠ 673 + k → (sn_MP K k (nI h') (nI l') (nI g') (nI (w + 1))).2.1 88 q = S.2.1 88 q := by
            intro q q1 q2 q3 q4
            unfold sn_MP
            rw [pa_s q4, pa_s q3, pa_s q2, pa_s q1, k88]
          have mN : (sn_MP K k (nI h') (nI l') (nI g') (nI (w + 1))).2.1 88 (661 + k) = nI h' ∧ (sn_MP K k (nI h') (nI l') (nI g') (nI (w + 1))).2.1 88 (665 + k) = nI l' ∧ (sn_MP K k (nI h') (nI l') (nI g') (nI (w + 1))).2.1 88 (669 + k) = nI g' ∧ (sn_MP K k (nI h') (nI l') (nI g') (nI (w + 1))).2.1 88 (673 + k) = nI (w + 1) := by
            unfold sn_MP
            refine ⟨?_, ?_, ?_, pa_e⟩
            · rw [pa_s (by omega), pa_s (by omega), pa_s (by omega), pa_e]
            · rw [pa_s (by omega), pa_s (by omega), pa_e]
            · rw [pa_s (by omega), pa_e]
          have s7 : SX.1 7 0 = S.1 7 0 := x1o _ _ (by decide)
          refine ch_end (K := K) (SX := SX) hmk hat hd hp hch ?_ ?_ ?_ (xoo 88 (by decide)) (xoo 110 (by decide)) k1 k2 k3 k4 k5 k6 rfl (fun r hr => by unfold sn_MP; rw [pa_o hr, pa_o hr, pa_o hr, pa_o hr]) rfl ?_ ?_ (vb := fun j => SX.2.1 (7 + j)) (wb := iv_up (iv_up (iv_up (iv_up (fun j => SX.2.1 (16 + j)) 1 k (SX.2.1 24 p)) 2 k (SX.2.1 25 p)) 3 k (SX.2.1 26 p)) 4 k (SX.2.1 20 k - 1)) ?_ ?_
          · rw [← hSX, ← hXA]
            exact (((((((iv_sE.pa (by decide)).tr (iv_sE.pa (by decide))).tr (iv_sE.pa (by decide))).tr sn_AsE).tr (iv_sE.pa (by decide))).tr (iv_sE.pa (by decide))).tr (iv_sE.pa (by decide))).tr (iv_sE.pa (by decide))
          · rw [x1A, ← hXA]; rfl
          · rw [x1A, ← hXA]; rfl
          · refine ⟨⟨V, hV, s7.trans hc, (mo 0 (by omega) (by omega) (by omega) (by omega)).trans hn, fun v hvV => ?_⟩, fun k2 hk2 => ?_⟩
            · obtain ⟨⟨s2, hs2, p1, b1, nn2, hn2, p5, b5, ht2⟩, ⟨d2, hd2, p2, b2⟩, ⟨bb, hbb, p3, b3⟩, hcl⟩ := hv v hvV
              have tA : ∀ j q, 1 ≤ j → j ≤ 8 → SX.2.1 (7 + j) q = S.2.1 (7 + j) q := fun j q j1 j8 => congrFun (xoo _ (by omega)) q
              refine ⟨⟨s2, hs2, (tA 1 v (by decide) (by decide)).trans p1, (mo _ (by omega) (by omega) (by omega) (by omega)).trans b1, nn2, hn2, (tA 5 v (by decide) (by decide)).trans p5, (mo _ (by omega) (by omega) (by omega) (by omega)).trans b5, fun t ht3 => ?_⟩, ⟨d2, hd2, (tA 2 v (by decide) (by decide)).trans p2, (mo _ (by omega) (by omega) (by omega) (by omega)).trans b2⟩, ⟨bb, hbb, (tA 3 v (by decide) (by decide)).trans p3, (mo _ (by omega) (by omega) (by omega) (by omega)).trans b3⟩, ?_⟩
              · obtain ⟨st2, w1, w2, w3, w4, w5, w6, w7, w8⟩ := ht2 t ht3
                have q4 := mo (421 + (8 * v + t)) (by omega) (by omega) (by omega) (by omega)
                rw [q4]
                exact ⟨st2, w1, w2, (tA 6 _ (by decide) (by decide)).trans w3, (mo _ (by omega) (by omega) (by omega) (by omega)).trans w4, (tA 7 _ (by decide) (by decide)).trans w5, w6, w7, (tA 8 _ (by decide) (by decide)).trans w8⟩
              · rcases hcl with ⟨q1, q2⟩ | ⟨r, hr5, q1, q2, q3⟩
                · exact Or.inl ⟨(tA 4 v (by decide) (by decide)).trans q1, (mo _ (by omega) (by omega) (by omega) (by omega)).trans q2⟩
                · exact Or.inr ⟨r, hr5, (tA 4 v (by decide) (by decide)).trans q1, (mo _ (by omega) (by omega) (by omega) (by omega)).trans q2, (mo _ (by omega) (by omega) (by omega) (by omega)).trans q3⟩
            · by_cases hkk : k2 = k
              · subst hkk
                refine ⟨h', l', g', w + 1, xN.1, mN.1, xN.2.1, mN.2.1, xN.2.2.1, mN.2.2.1, xN.2.2.2, mN.2.2.2, by omega, by omega, by omega, hg', ?_, ?_⟩
                · rcases hz with ⟨z1, z2, z3⟩ | ⟨z1, z2⟩
                  · rcases hor with ⟨o1, o2⟩ | ⟨o1, o2⟩
                    · refine Or.inl ⟨z1, ?_⟩
                      have := hgr z2
                      omega
                    · have := hgr z2
                      exact Or.inl ⟨z1, by omega⟩
                  · refine Or.inr ⟨z1, ?_⟩
                    by_cases hr0 : r = 0
                    · have := hgr hr0
                      have := z2 hr0
                      omega
                    · exact hg0 hr0
                · by_cases h0' : h' = 0
                  · by_cases l0' : l' = 0
                    · have e1 := (sb_pos h' (by omega)).mpr h0'
                      have e2 := (sb_pos l' (by omega)).mpr l0'
                      omega
                    · omega
                  · omega
              · obtain ⟨hh2, l2, g3, w2, a1, c1, a2, c2, a3, c3, a4, c4, hrest⟩ := hq k2 hk2
                exact ⟨hh2, l2, g3, w2, (xs 1 k2 (by decide) (by decide) hkk).trans a1, (mo _ (by omega) (by omega) (by omega) (by omega)).trans c1, (xs 2 k2 (by decide) (by decide) hkk).trans a2, (mo _ (by omega) (by omega) (by omega) (by omega)).trans c2, (xs 3 k2 (by decide) (by decide) hkk).trans a3, (mo _ (by omega) (by omega) (by omega) (by omega)).trans c3, (xs 4 k2 (by decide) (by decide) hkk).trans a4, (mo _ (by omega) (by omega) (by omega) (by omega)).trans c4, hrest⟩
          · intro j q hj hq2 _
            rw [xo _ (by omega) (by omega) (by omega) (by omega), ← hXA]
            unfold sn_X3
            rw [sn_Ahh hq2]
            have hj2 : j = 2 ∨ j = 3 ∨ j = 4 ∨ j < 2 := by omega
            rcases hj2 with rfl | rfl | rfl | hj2
            · rw [pa_o (by decide), pa_o (by decide), pa_s hq2]
            · rw [pa_o (by decide), pa_s hq2, pa_o (by decide)]
            · rw [pa_s hq2, pa_o (by decide), pa_o (by decide)]
            · rw [pa_o (by omega), pa_o (by omega), pa_o (by omega)]
          · have g7' := g7
            rw [hc] at g7' ⊢
            refine iv_eq.of g7' hV (fun v hvV => ⟨fun j j1 j5 => congrFun (xoo _ (by omega)) v, fun t j _ j6 j8 => congrFun (xoo _ (by omega)) _⟩) (fun j q j1 j4 hq4 => ?_)
            unfold iv_up
            by_cases hqk : q = k
            · subst hqk
              have hj : j = 1 ∨ j = 2 ∨ j = 3 ∨ j = 4 := by omega
              rcases hj with rfl | rfl | rfl | rfl
              · rw [if_neg (fun h => by omega), if_neg (fun h => by omega), if_neg (fun h => by omega), if_pos ⟨rfl, rfl⟩, xH.2.2.1]
                exact p1'.symm
              · rw [if_neg (fun h => by omega), if_neg (fun h => by omega), if_pos ⟨rfl, rfl⟩, xH.2.2.2.1]
                exact p2'.symm
              · rw [if_neg (fun h => by omega), if_pos ⟨rfl, rfl⟩, xH.2.2.2.2]
                exact p3'.symm
              · rw [if_pos ⟨rfl, rfl⟩, xN.2.2.2, sm_pred]
                exact p4'.symm
            · rw [if_neg (fun h => hqk h.2), if_neg (fun h => hqk h.2), if_neg (fun h => hqk h.2), if_neg (fun h => hqk h.2)]
              exact xs j q j1 j4 hqk
          · intro und2 nn hv2 hc2
            have hpp : ((p + 1) % 12 + 11) % 12 = p := by omega
            refine ⟨3, k, ?_, ?_, Or.inr (Or.inr (Or.inr ⟨rfl, by omega, ?_, ?_⟩))⟩
            · rw [hpp]
              exact xH.1
            · rw [hpp]
              exact xH.2.1
            · rw [hpp, s7]
              exact hv2
            · rw [hpp, s7]
              exact hc2
        · have hw2 : w = 20 := by omega
          subst hw2
          refine ⟨-3, S, si_ps S 87 0 0, ?_, ?_, e⟩
          · rw [hX2, if_neg (by decide)]
          · rw [hM2 S g2.2.2.2.1 c94 rfl, sb_bits (by omega) (by omega), Option.bind_some]
            dsimp only
            rw [sb_bits (by omega) (by omega), Option.bind_some]
            dsimp only
            have q88 : (si_ps S 87 0 0).2.1 88 (673 + k) = nI 20 := b4
            rw [nI_add, nI_add, Option.bind_some, if_neg hz1, li_addL, rd_88 (by omega), Option.bind_some, q88, if_pos (show nI 20 = 20 from rfl)]
    · refine ⟨-1, S, si_ps S 87 0 0, ?_, ?_, e⟩
      · rw [hX]
        by_cases hP1 : we_P (u 9 k) y1 y2
        · rw [wx1 hP1, Option.bind_some]
          dsimp only
          rw [if_neg sm_10]
          by_cases z0 : z < 0
          · rw [if_pos z0]
          · rw [if_neg z0, if_neg (fun z2 => hP ⟨hP1, fa_of_nlt z0, z2⟩)]
        · rw [wx0 hP1]
          rfl
      · exact (we_mx (F := F) (z := z) q92 (by omega) (show k < 4 by omega) (sM (si_ps S 87 0 0) g2.2.2.2.1) c94).1 hP
  · refine ⟨-1, S, si_ps S 87 0 0, ?_, ?_, e⟩
    · unfold f_X9_weigh f_X9_weigh_h25
      rw [f9_hasSet hm.1 hs1 (by omega), if_neg hx]
      rfl
    · unfold f_X10_weigh
      rw [iv_pt0, Option.bind_some, f10_isSet (S := si_ps S 87 0 0) (n := u 3 0) g2.2.2.2.1 (by omega), if_neg hx]
      rfl
