-- closeVisit
theorem iv_mm.cg {s s' : Nat → Int32} {a a' : Nat → Nat → Int32} {u : Nat → Nat → Nat} (h2 : s' 2 = s 2) (h3 : s' 3 = s 3) (h8 : s' 8 = s 8) (h10 : s' 10 = s 10) (ha : ∀ r, 89 ≤ r → r ≤ 96 → a' r = a r) (h : iv_mm s a u) : iv_mm s' a' u := by
  unfold iv_mm at h ⊢
  rw [h2, h3, h8, h10, ha 89 (by decide) (by decide), ha 90 (by decide) (by decide), ha 91 (by decide) (by decide), ha 92 (by decide) (by decide), ha 93 (by decide) (by decide), ha 94 (by decide) (by decide), ha 95 (by decide) (by decide), ha 96 (by decide) (by decide)]
  exact h
theorem vd_J5 {u : Nat → Nat → Nat} {s n b : Nat} {st : Nat → Nat} {er : Nat → Int32} {sh : Int32} : vd_J u s n b st er sh ≤ 5 := by
  unfold vd_J
  cases vd_e st n <;> cases vd_h u s st n <;> cases vd_r st n <;> cases vd_f u s b st er sh n <;> cases vd_d u s b st er n <;> decide
theorem st_closeVisit {F : Nat} {x : Int32} (hF : 7448 ≤ F) : st_ok (f_X9_closeVisit F x) (f_X10_closeVisit F x) := by
  intro S h
  obtain ⟨u, mk, hmk, hat⟩ := id h
  obtain ⟨g0, g1, g2, g3, g4, g5, g6, g7, ⟨d, p, hd, hp, e0, e1, e2, hch⟩, g9, g10, g11⟩ := id hat
  obtain ⟨⟨V, hV, hc, hn, hv⟩, hq⟩ := id g7
  have hm := iv_mkof hmk
  have e := h.go (iv_th S)
  rcases sm_cases x V (by omega) with ⟨i, hi, rfl⟩ | hx
  · have vX : f_X9_hasVisit F (nI i) S = some (1, S) := by rw [f9_hasVisit hc (by omega), if_pos (sm_in hi (by omega))]
    have vM : ∀ S' : si_St, S'.2.1 88 0 = nI V → f_X10_isVisit F (nI i) S' = some (1, S') := fun S' h => by rw [f10_isVisit h (by omega), if_pos (sm_in hi (by omega))]
    have op : (S.2.1 11 i = -1 ∧ S.2.1 88 (61 + i) = 0) ∨ (¬ S.2.1 11 i = -1 ∧ S.2.1 88 (61 + i) = 1) := by
      rcases (hv i hi).2.2.2 with ⟨q1, q2⟩ | ⟨r, hr5, q1, q2, q3⟩
      · exact Or.inl ⟨q1, q2⟩
      · refine Or.inr ⟨?_, q2⟩
        have q1' : S.2.1 11 i = nI r := q1
        rw [q1']
        exact sm_m1 (by omega)
    rcases op with ⟨o1, o2⟩ | ⟨o1, o2⟩
    · have g7' := g7
      rw [hc] at g7'
      obtain ⟨s, n, b, C, X, M⟩ := vd_of hm.2 g0 g1 g2 g7' hV hi
      generalize (fun t => (S.2.1 13 (8 * i + t)).toNatClampNeg) = st at C X M
      generalize (fun t => S.2.1 15 (8 * i + t)) = er at X M
      have hJ : vd_J u s n b st er 0 ≤ 5 := vd_J5
      have jX := vx_judge (F := F) (sh := 0) C X (by omega)
      have jM := fun S' (M' : vd_M S' u i s n b st er) => vm_verdict (F := F) (sh := 0) C M' (by omega)
      generalize vd_J u s n b st er 0 = J at hJ jX jM
      have ha : f_X0_add F (nI 2) (nI i) (si_pa S 11 i (nI J)) = some (sn_A (si_pa S 11 i (nI J)) p 2 i d) := sm_add hd hp e0 e1
      have hX2 : f_X9_closeVisit F (nI i) S = some (nI J, sn_A (si_pa S 11 i (nI J)) p 2 i d) := by
        unfold f_X9_closeVisit
        rw [vX, Option.bind_some]
        dsimp only
        rw [if_neg sm_10, f9_isOpen (by omega), if_pos o1, Option.bind_some]
        dsimp only
        rw [if_neg sm_10, hm.1, Option.bind_some, jX, Option.bind_some]
        dsimp only
        rw [wr_11 (by omega), Option.bind_some]
        show Option.bind (f_X0_add F (nI 2) (nI i) (si_pa S 11 i (nI J))) _ = _
        rw [ha, Option.bind_some, rd_11 (by omega), Option.bind_some, sn_Ao (by decide) (by decide), pa_e]
      generalize hSX : sn_A (si_pa S 11 i (nI J)) p 2 i d = SX at hX2
      have xo : ∀ r, r ≠ 11 → r ≠ 22 → r ≠ 23 → SX.2.1 r = S.2.1 r := by
        intro r r1 r5 r6
        rw [← hSX, sn_Ao r5 r6, pa_o r1]
      have x1o : ∀ a c, a ≠ 21 → SX.1 a c = S.1 a c := by
        intro a c hac
        rw [← hSX, sn_A1 hac]
        rfl
      have x41 : (si_ps SX 87 0 0).1 87 41 = nI d := by
        rw [ps_o (by omega), x1o _ _ (by decide)]
        exact e2
      obtain ⟨K, hK, k1, k2, k3, k4, k5, k6⟩ := sm_keepsU (F := F) hd hF x41
      have k88 : K.2.1 88 = S.2.1 88 := (k3 88 (by decide)).trans (xo 88 (by decide) (by decide) (by decide))
      have MK : vd_M (si_pa K 88 (61 + i) 1) u i s n b st er := by
        obtain ⟨a0, a1, a2, a3, a4⟩ := M
        have k1' : ∀ j, j ≠ 0 → j ≠ 41 → K.1 87 j = S.1 87 j := by
          intro j h1 h2
          rw [k1 87 j (fun h => h2 h.2), ps_o (fun h => h1 h.2), x1o _ _ (by decide)]
        have kk : ∀ q, q ≠ 61 + i → (si_pa K 88 (61 + i) 1).2.1 88 q = S.2.1 88 q := fun q hq => by rw [pa_s hq, k88]
        refine ⟨a0.cg (k1' 2 (by decide) (by decide)) (k1' 3 (by decide) (by decide)) (k1' 8 (by decide) (by decide)) (k1' 10 (by decide) (by decide)) (fun r r1 r2 => ?_), (kk _ (by omega)).trans a1, (kk _ (by omega)).trans a2, (kk _ (by omega)).trans a3, fun t ht => ?_⟩
        · rw [pa_o (by omega), k3 r (by omega)]
          exact xo r (by omega) (by omega) (by omega)
        · have hn8 := C.2.2.2.1
          have w := a4 t ht
          rw [kk _ (by omega), kk _ (by omega)]
          exact w
      have hM3 : f_X10_closeVisit F (nI i) SX = some (nI J, si_pa (si_pa K 88 (61 + i) 1) 88 (91 + i) (nI J)) := by
        have q88 : (si_ps SX 87 0 0).2.1 88 = S.2.1 88 := xo 88 (by decide) (by decide) (by decide)
        unfold f_X10_closeVisit
        rw [iv_pt0, Option.bind_some, vM (si_ps SX 87 0 0) (by rw [q88]; exact hn), Option.bind_some]
        dsimp only
        rw [if_neg sm_10, li_addL, rd_88 (by omega), Option.bind_some, q88, o2, if_neg (by decide), hK, Option.bind_some, wr_88 (by omega), Option.bind_some, jM _ MK, Option.bind_some]
        dsimp only
        rw [li_addL, wr_88 (by omega), Option.bind_some, rd_88 (by omega), Option.bind_some, pa_e]
      refine ⟨nI J, SX, _, hX2, hM3, u, mk, ?_⟩
      have tA : ∀ j q, 1 ≤ j → j ≤ 8 → (j = 4 → q ≠ i) → SX.2.1 (7 + j) q = S.2.1 (7 + j) q := by
        intro j q j1 j8 j4
        by_cases hj : j = 4
        · subst hj
          rw [← hSX, sn_Ao (by decide) (by decide), pa_s (j4 rfl)]
        · rw [xo _ (by omega) (by omega) (by omega)]
      have tN : SX.2.1 11 i = nI J := by rw [← hSX, sn_Ao (by decide) (by decide), pa_e]
      have mo : ∀ q, q ≠ 61 + i → q ≠ 91 + i → (si_pa (si_pa K 88 (61 + i) 1) 88 (91 + i) (nI J)).2.1 88 q = S.2.1 88 q := by
        intro q q1 q2
        rw [pa_s q2, pa_s q1, k88]
      have mN1 : (si_pa (si_pa K 88 (61 + i) 1) 88 (91 + i) (nI J)).2.1 88 (61 + i) = 1 := by rw [pa_s (by omega), pa_e]
      have mN2 : (si_pa (si_pa K 88 (61 + i) 1) 88 (91 + i) (nI J)).2.1 88 (91 + i) = nI J := pa_e
      have s7 : SX.1 7 0 = S.1 7 0 := x1o _ _ (by decide)
      refine ch_end (K := K) (SX := SX) hmk hat hd hp hch ?_ ?_ ?_ (xo 88 (by decide) (by decide) (by decide)) (xo 110 (by decide) (by decide) (by decide)) k1 k2 k3 k4 k5 k6 rfl (fun r hr => by rw [pa_o hr, pa_o hr]) rfl ?_ ?_ (vb := iv_up (fun j => SX.2.1 (7 + j)) 4 i (-1)) (wb := fun j => SX.2.1 (16 + j)) ?_ ?_
      · rw [← hSX]
        exact (iv_sE.pa (by decide)).tr sn_AsE
      · rw [← hSX]; rfl
      · rw [← hSX]; rfl
      · refine ⟨⟨V, hV, s7.trans hc, (mo 0 (by omega) (by omega)).trans hn, fun v hvV => ?_⟩, fun k hk => ?_⟩
        · obtain ⟨⟨s2, hs2, p1, b1, n2, hn2, p5, b5, ht2⟩, ⟨d2, hd2, p2, b2⟩, ⟨bb, hbb, p3, b3⟩, hcl⟩ := hv v hvV
          refine ⟨⟨s2, hs2, (tA 1 v (by decide) (by decide) (by omega)).trans p1, (mo _ (by omega) (by omega)).trans b1, n2, hn2, (tA 5 v (by decide) (by decide) (by omega)).trans p5, (mo _ (by omega) (by omega)).trans b5, fun t ht3 => ?_⟩, ⟨d2, hd2, (tA 2 v (by decide) (by decide) (by omega)).trans p2, (mo _ (by omega) (by omega)).trans b2⟩, ⟨bb, hbb, (tA 3 v (by decide) (by decide) (by omega)).trans p3, (mo _ (by omega) (by omega)).trans b3⟩, ?_⟩
          · obtain ⟨st2, w1, w2, w3, w4, w5, w6, w7, w8⟩ := ht2 t ht3
            have q4 := mo (421 + (8 * v + t)) (by omega) (by omega)
            rw [q4]
            exact ⟨st2, w1, w2, (tA 6 _ (by decide) (by decide) (by omega)).trans w3, (mo _ (by omega) (by omega)).trans w4, (tA 7 _ (by decide) (by decide) (by omega)).trans w5, w6, w7, (tA 8 _ (by decide) (by decide) (by omega)).trans w8⟩
          · by_cases hvi : v = i
            · subst hvi
              exact Or.inr ⟨J, hJ, tN, mN1, mN2⟩
            · rcases hcl with ⟨q1, q2⟩ | ⟨r, hr5, q1, q2, q3⟩
              · exact Or.inl ⟨(tA 4 v (by decide) (by decide) (fun _ => hvi)).trans q1, (mo _ (by omega) (by omega)).trans q2⟩
              · exact Or.inr ⟨r, hr5, (tA 4 v (by decide) (by decide) (fun _ => hvi)).trans q1, (mo _ (by omega) (by omega)).trans q2, (mo _ (by omega) (by omega)).trans q3⟩
        · obtain ⟨hh, l, g, ww, p1, b1, p2, b2, p3, b3, p4, b4, hrest⟩ := hq k hk
          have hk4 := g0.2.2.2.1
          have W : ∀ j, 1 ≤ j → j ≤ 4 → SX.2.1 (16 + j) k = S.2.1 (16 + j) k := fun j j1 j4 => congrFun (xo _ (by omega) (by omega) (by omega)) k
          exact ⟨hh, l, g, ww, (W 1 (by decide) (by decide)).trans p1, (mo _ (by omega) (by omega)).trans b1, (W 2 (by decide) (by decide)).trans p2, (mo _ (by omega) (by omega)).trans b2, (W 3 (by decide) (by decide)).trans p3, (mo _ (by omega) (by omega)).trans b3, (W 4 (by decide) (by decide)).trans p4, (mo _ (by omega) (by omega)).trans b4, hrest⟩
      · intro j q hj hq2 _
        rw [← hSX, sn_Ahh hq2, pa_o (by omega)]
      · rw [hc]
        refine iv_eq.of g7' hV (fun v hvV => ⟨fun j j1 j5 => ?_, fun t j hex j6 j8 => ?_⟩) (fun j q j1 j4 _ => congrFun (xo _ (by omega) (by omega) (by omega)) q)
        · unfold iv_up
          by_cases hc5 : j = 4 ∧ v = i
          · rw [if_pos hc5, hc5.1, hc5.2]
            exact o1.symm
          · rw [if_neg hc5]
            exact tA j v j1 (by omega) (fun h5 hvi => hc5 ⟨h5, hvi⟩)
        · unfold iv_up
          rw [if_neg (fun h => by omega)]
          exact tA j _ (by omega) j8 (by omega)
      · intro und2 n2 hv2 hc2
        have hpp : ((p + 1) % 12 + 11) % 12 = p := by omega
        refine ⟨2, i, ?_, ?_, Or.inr (Or.inr (Or.inl ⟨rfl, by omega, ?_, ?_⟩))⟩
        · rw [hpp, ← hSX]
          exact sn_A22
        · rw [hpp, ← hSX]
          exact sn_A23
        · rw [s7]
          exact hv2
        · rw [hpp, s7]
          exact hc2
    · refine ⟨-2, S, si_ps S 87 0 0, ?_, ?_, e⟩
      · unfold f_X9_closeVisit
        rw [vX, Option.bind_some]
        dsimp only
        rw [if_neg sm_10, f9_isOpen (by omega), if_neg o1]
        rfl
      · have q88 : (si_ps S 87 0 0).2.1 88 = S.2.1 88 := rfl
        unfold f_X10_closeVisit
        rw [iv_pt0, Option.bind_some, vM (si_ps S 87 0 0) hn, Option.bind_some]
        dsimp only
        rw [if_neg sm_10, li_addL, rd_88 (by omega), Option.bind_some, q88, o2, if_pos rfl]
  · refine ⟨-1, S, si_ps S 87 0 0, ?_, ?_, e⟩
    · unfold f_X9_closeVisit
      rw [f9_hasVisit hc (by omega), if_neg hx]
      rfl
    · unfold f_X10_closeVisit
      rw [iv_pt0, Option.bind_some, f10_isVisit (S := si_ps S 87 0 0) (n := V) hn (by omega), if_neg hx]
      rfl
