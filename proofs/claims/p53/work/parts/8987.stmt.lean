-- THE STATEMENTS, READ
theorem rs_trader {k N F p : Nat} {c : Nat → Nat} {A : si_St} {L : List Nat} {u : Nat → Nat → Nat} (X : cx N F c k) (h : rd_ k N c A p (stx (0, []) ++ L) u) (o : iv_mok u) (hu : u 0 0 < 8) : ∃ A', f_X3_readStatement F k A = some A' ∧ fA k A A' ∧ rd_ k N c A' (p + (stx (0, [])).length) L (uu u 0 0 (u 0 0 + 1)) ∧ iv_mok (uu u 0 0 (u 0 0 + 1)) := by
  have hk := X.2.2.2
  have hk1 := k_ne1 hk
  have h : rd_ k N c A p (wl 0 ++ 59 :: L) u := h
  have hA0 : A.1 k 0 = nI (u 0 0) := h.2.2.2.2.2.2.2.2.1 0 (by decide)
  unfold f_X3_readStatement
  rw [h.isW X (by decide) rfl (g2 := 0) (by decide), if_pos rfl, Option.bind_some]
  dsimp only
  rw [if_neg (by decide), hA0]
  obtain ⟨A1, a1, a2, a3⟩ := h.kw (m := u 0 0) (M := 8) X (by decide) rfl hu (by decide)
  have a1 : f_X3_takeKeyword F (nI (u 0 0)) 8 A = some A1 := a1
  have hA1 : A1.1 k 0 = nI (u 0 0) := a3.2.2.2.2.2.2.2.2.1 0 (by decide)
  rw [a1, Option.bind_some, hA1, sm_pt, Option.bind_some, nI_1]
  unfold f_X3_readStatement_h105
  have r2 : rd_ k N c (si_ps A1 k 0 (nI (u 0 0 + 1))) (p + (wl 0).length) (59 :: L) (uu u 0 0 (u 0 0 + 1)) := by
    refine ⟨a3.1, a3.2.up hk fA.ps (fun j => ps_o (fun e => hk1 e.1.symm)) ?_⟩
    obtain ⟨m1, m2, m3, m4, m5⟩ := a3.2.2.2.2.2.2.2.2
    refine ⟨fun j hj => ?_, fun i hi => m2 i hi, fun i hi => m3 i hi, fun i hi => m4 i hi, m5⟩
    by_cases e : j = 0
    · rw [e]
      exact ps_e
    · rw [ps_o (fun h => e h.2), uu_o (fun h => e h.1)]
      exact m1 j hj
  obtain ⟨A2, b1, b2, b3⟩ := r2.semi (F := F) X
  rw [b1, Option.bind_some]
  refine ⟨A2, rfl, (a2.tr fA.ps).tr b2, b3, ?_⟩
  obtain ⟨o1, o2, o3, o4, o5, o6, o7, o8⟩ := o
  refine ⟨(show u 0 0 + 1 ≤ 8 by omega), o2, o3, o4, fun i hi => ?_, o6, o7, o8⟩
  obtain ⟨q1, q2⟩ := o5 i hi
  exact ⟨(show u 4 i < u 0 0 + 1 by omega), q2⟩
theorem rs_scale {k N F p a b d e : Nat} {c : Nat → Nat} {A : si_St} {L : List Nat} {u : Nat → Nat → Nat} (X : cx N F c k) (h : rd_ k N c A p (stx (1, [a, b, d, e]) ++ L) u) (o : iv_mok u) (hu : u 1 0 < 24) (ok : okS (u 0 0) (1, [a, b, d, e])) : ∃ A', f_X3_readStatement F k A = some A' ∧ fA k A A' ∧ rd_ k N c A' (p + (stx (1, [a, b, d, e])).length) L (us u a b d e) ∧ iv_mok (us u a b d e) := by
  have hk := X.2.2.2
  have hk1 := k_ne1 hk
  obtain ⟨ha, hb, hd, hd2, he, he2⟩ := ok
  have o0 := o.1
  have hlen : (stx (1, [a, b, d, e])).length = (wl 1).length + 1 + (dgs a).length + 1 + (dgs b).length + 1 + (dgs d).length + 1 + (dgs e).length + 1 := by
    show (tx 9 ++ dgs a ++ [32] ++ dgs b ++ [32] ++ dgs d ++ [32] ++ dgs e ++ [59]).length = _
    simp only [List.length_append]
    rfl
  have ht : stx (1, [a, b, d, e]) ++ L = wl 1 ++ 32 :: (dgs a ++ 32 :: (dgs b ++ 32 :: (dgs d ++ 32 :: (dgs e ++ 59 :: L)))) := by
    show (tx 9 ++ dgs a ++ [32] ++ dgs b ++ [32] ++ dgs d ++ [32] ++ dgs e ++ [59]) ++ L = _
    show ((wl 1 ++ [32]) ++ dgs a ++ [32] ++ dgs b ++ [32] ++ dgs d ++ [32] ++ dgs e ++ [59]) ++ L = _
    simp only [List.append_assoc, List.cons_append, List.nil_append]
  rw [ht] at h
  have hA1 : A.1 k 1 = nI (u 1 0) := h.2.2.2.2.2.2.2.2.1 1 (by decide)
  unfold f_X3_readStatement
  rw [h.isW X (by decide) rfl (g2 := 0) (by decide), if_neg (by decide), Option.bind_some]
  dsimp only
  rw [if_pos rfl, h.isW X (by decide) rfl (g2 := 1) (by decide), if_pos rfl, Option.bind_some]
  dsimp only
  rw [if_neg (by decide)]
  unfold f_X3_readScale
  rw [hA1]
  obtain ⟨A1, a1, a2, a3⟩ := h.kw (m := u 1 0) (M := 24) X (by decide) rfl hu (by decide)
  have a1 : f_X3_takeKeyword F (nI (u 1 0)) 24 A = some A1 := a1
  rw [a1, Option.bind_some]
  have hA0 : A1.1 k 0 = nI (u 0 0) := a3.2.2.2.2.2.2.2.2.1 0 (by decide)
  have hs0 : nI (u 0 0) - 1 = nI (u 0 0 - 1) := pk_sub (b := 1) (by omega)
  obtain ⟨A2, b1, b2, b3⟩ := a3.sp.num (F := F) (lo := 0) (hi := u 0 0 - 1) X rfl (by omega) (by omega) (by omega) (by omega)
  have b1 : f_X3_takeNumber F 0 (nI (u 0 0 - 1)) A1 = some (nI a, A2) := b1
  rw [hA0, hs0, b1, Option.bind_some]
  dsimp only
  obtain ⟨A3, c1, c2, c3⟩ := b3.sp.num (F := F) (lo := 0) (hi := 2) X rfl (by omega) (by omega) (by omega) (by omega)
  have c1 : f_X3_takeNumber F 0 2 A2 = some (nI b, A3) := c1
  rw [c1, Option.bind_some]
  dsimp only
  obtain ⟨A4, d1, d2, d3⟩ := c3.sp.num (F := F) (lo := 1) (hi := 1000) X rfl (by omega) (by omega) (by omega) (by omega)
  have d1 : f_X3_takeNumber F 1 1000 A3 = some (nI d, A4) := d1
  rw [d1, Option.bind_some]
  dsimp only
  obtain ⟨A5, e1, e2, e3⟩ := d3.sp.num (F := F) (lo := 20 * d) (hi := 999999) X rfl (by omega) (by omega) (by omega) (by omega)
  have e1 : f_X3_takeNumber F (nI (20 * d)) 999999 A4 = some (nI e, A5) := e1
  rw [nI_20m, e1, Option.bind_some]
  dsimp only
  have hA5 : A5.1 k 1 = nI (u 1 0) := e3.2.2.2.2.2.2.2.2.1 1 (by decide)
  have wm := fun (S : si_St) (v : Int32) => wr_m (S := S) (i := u 1 0) (v := v) hk
  rw [if_pos e3.2.1, hA5, (wm A5 (nI a)).1 hu, Option.bind_some, pa_1, hA5, (wm _ (nI b)).2.1 hu, Option.bind_some, pa_1, pa_1, hA5, (wm _ (nI d)).2.2.1 hu, Option.bind_some, pa_1, pa_1, pa_1, hA5, (wm _ (nI e)).2.2.2.1 hu, Option.bind_some, pa_1, pa_1, pa_1, pa_1, hA5, sm_pt, Option.bind_some, nI_1]
  unfold f_X3_readScale_h111
  rw [Option.bind_some]
  unfold f_X3_readStatement_h105
  have fS : fA k A5 (aS k (u 1 0) A5 (nI a) (nI b) (nI d) (nI e)) := ((((fA.pa (by omega) (by omega)).tr (fA.pa (by omega) (by omega))).tr (fA.pa (by omega) (by omega))).tr (fA.pa (by omega) (by omega))).tr fA.ps
  have r2 : rd_ k N c (aS k (u 1 0) A5 (nI a) (nI b) (nI d) (nI e)) (p + (wl 1).length + 1 + (dgs a).length + 1 + (dgs b).length + 1 + (dgs d).length + 1 + (dgs e).length) (59 :: L) (us u a b d e) := ⟨e3.1, e3.2.up hk fS (fun j => ps_o (fun e => hk1 e.1.symm)) (aS_mk e3.2.2.2.2.2.2.2.2)⟩
  obtain ⟨A6, f1, f2, f3⟩ := r2.semi (F := F) X
  have f1 : f_X3_takeSemicolon F (si_ps (si_pa (si_pa (si_pa (si_pa A5 (k + 1) (u 1 0) (nI a)) (k + 2) (u 1 0) (nI b)) (k + 3) (u 1 0) (nI d)) (k + 4) (u 1 0) (nI e)) k 1 (nI (u 1 0 + 1))) = some A6 := f1
  rw [f1, Option.bind_some]
  refine ⟨A6, rfl, (a2.tr (b2.tr (c2.tr (d2.tr (e2.tr fS))))).tr f2, ?_, us_ok o hu ha hb hd (by omega) he (by omega)⟩
  rw [hlen]
  simp only [Nat.add_assoc] at f3 ⊢
  exact f3
theorem rs_mass {k N F p v s e : Nat} {c : Nat → Nat} {A : si_St} {L : List Nat} {u : Nat → Nat → Nat} (X : cx N F c k) (h : rd_ k N c A p (stx (2, [v, s, e]) ++ L) u) (o : iv_mok u) (hu : u 2 0 < 10) (ok : okS 0 (2, [v, s, e])) : ∃ A' x, f_X3_readStatement F k A = some A' ∧ fA k A A' ∧ rd_ k N c A' (p + (stx (2, [v, s, e])).length) L (um u x) ∧ iv_mok (um u x) := by
  have hk := X.2.2.2
  have hk1 := k_ne1 hk
  obtain ⟨hv, hv2, hs, hse⟩ := ok
  obtain ⟨W, hW⟩ : ∃ W, W = (if s = 0 then ([] : List Nat) else tx (if s = 1 then 11 else 12) ++ dgs e) := ⟨_, rfl⟩
  have ht : stx (2, [v, s, e]) = tx 10 ++ dgs v ++ W ++ [59] := by rw [hW]; rfl
  have h0 : rd_ k N c A p (wl 2 ++ 32 :: (dgs v ++ (W ++ 59 :: L))) u := by
    have : stx (2, [v, s, e]) ++ L = wl 2 ++ 32 :: (dgs v ++ (W ++ 59 :: L)) := by
      rw [ht]
      show ((wl 2 ++ [32]) ++ dgs v ++ W ++ [59]) ++ L = _
      simp only [List.append_assoc, List.cons_append, List.nil_append]
    rw [← this]
    exact h
  have hA2 : A.1 k 2 = nI (u 2 0) := h.2.2.2.2.2.2.2.2.1 2 (by decide)
  unfold f_X3_readStatement
  rw [h0.isW X (by decide) rfl (g2 := 0) (by decide), if_neg (by decide), Option.bind_some]
  dsimp only
  rw [if_pos rfl, h0.isW X (by decide) rfl (g2 := 1) (by decide), if_neg (by decide), Option.bind_some]
  dsimp only
  rw [if_pos rfl, h0.isW X (by decide) rfl (g2 := 2) (by decide), if_pos rfl, Option.bind_some]
  dsimp only
  rw [if_neg (by decide)]
  unfold f_X3_readMass
  rw [hA2]
  obtain ⟨A1, a1, a2, a3⟩ := h0.kw (m := u 2 0) (M := 10) X (by decide) rfl hu (by decide)
  have a1 : f_X3_takeKeyword F (nI (u 2 0)) 10 A = some A1 := a1
  rw [a1, Option.bind_some]
  have a4 := a3.sp
  have hend : ∀ (A2 : si_St) (q x : Nat) (hA : fA k A A2), rd_ k N c A2 q (59 :: L) u → 1 ≤ x → x ≤ 2000 → q + 1 = p + (stx (2, [v, s, e])).length → ∃ A' x2, (Option.bind (f_X3_readMass_h87 F k (nI x) A2) fun S10 => f_X3_readStatement_h105 F k S10) = some A' ∧ fA k A A' ∧ rd_ k N c A' (p + (stx (2, [v, s, e])).length) L (um u x2) ∧ iv_mok (um u x2) := fun A2 q x hA h2 hx1 hx2 hq => by
    obtain ⟨A3, b1, b2, b3⟩ := massA (F := F) (x := x) hk h2.2 hu
    have r2 : rd_ k N c A3 q (59 :: L) (um u x) := ⟨h2.1, b3⟩
    obtain ⟨A4, f1, f2, f3⟩ := r2.semi (F := F) X
    refine ⟨A4, x, ?_, (hA.tr b2).tr f2, by rw [← hq]; exact f3, um_ok o hu hx1 (by omega)⟩
    rw [b1, Option.bind_some]
    unfold f_X3_readStatement_h105
    rw [f1, Option.bind_some]
  by_cases hs0 : s = 0
  · rw [if_pos hs0] at hW
    rw [hW, List.nil_append] at a4
    obtain ⟨A2, b1, b2, b3⟩ := a4.num (F := F) (lo := 1) (hi := 999999) X rfl (by omega) (by omega) (by omega) (by omega)
    have b1 : f_X3_takeNumber F 1 999999 A1 = some (nI v, A2) := b1
    rw [b1, Option.bind_some]
    dsimp only
    rw [if_pos b3.2.1, b3.noW X (by decide), Option.bind_some]
    dsimp only
    rw [if_pos rfl]
    unfold f_X3_readMass_h51
    rw [if_pos b3.2.1, b3.noW X (by decide), Option.bind_some]
    dsimp only
    rw [if_pos rfl]
    have := hend A2 _ v (a2.tr b2) b3 (by omega) (by omega) (by
      rw [ht, hW]
      simp only [List.length_append, List.length_nil]
      show p + 4 + 1 + (dgs v).length + 1 = p + (5 + (dgs v).length + 0 + 1)
      omega)
    exact this
  · rw [if_neg hs0] at hW
    obtain ⟨g, hg⟩ : ∃ g, g = (if s = 1 then 5 else 6) := ⟨_, rfl⟩
    have hg1 : (g = 5 ∧ s = 1) ∨ (g = 6 ∧ s ≠ 1) := by
      rw [hg]
      by_cases h9 : s = 1
      · rw [if_pos h9]; exact Or.inl ⟨rfl, h9⟩
      · rw [if_neg h9]; exact Or.inr ⟨rfl, h9⟩
    have htg : tx (if s = 1 then 11 else 12) = 32 :: (wl g ++ [32]) := by
      rcases hg1 with ⟨h1, h2⟩ | ⟨h1, h2⟩
      · rw [h1, if_pos h2]; rfl
      · rw [h1, if_neg h2]; rfl
    have hW2 : W ++ 59 :: L = 32 :: (wl g ++ 32 :: (dgs e ++ 59 :: L)) := by
      rw [hW, htg]
      simp only [List.append_assoc, List.cons_append, List.nil_append]
    rw [hW2] at a4
    obtain ⟨he1, he8⟩ := hse hs0
    have g8 : g < 8 := by omega
    obtain ⟨A2, b1, b2, b3⟩ := a4.num (F := F) (lo := 1) (hi := 999999) X rfl (by omega) (by omega) (by omega) (by omega)
    have b1 : f_X3_takeNumber F 1 999999 A1 = some (nI v, A2) := b1
    have b4 := b3.sp
    have hq : ∀ q, q = p + (wl 2).length + 1 + (dgs v).length + 1 + (wl g).length + 1 + (dgs e).length → q + 1 = p + (stx (2, [v, s, e])).length := fun q hq => by
      rw [hq, ht, hW, htg]
      simp only [List.length_append, List.length_cons, List.length_nil]
      show p + 4 + 1 + (dgs v).length + 1 + (wl g).length + 1 + (dgs e).length + 1 = p + (5 + (dgs v).length + ((wl g).length + (0 + 1) + 1 + (dgs e).length) + (0 + 1))
      omega
    rw [b1, Option.bind_some]
    dsimp only
    rw [if_pos b3.2.1, b4.isW X g8 rfl (g2 := 5) (by decide), Option.bind_some]
    dsimp only
    obtain ⟨A3, c1, c2, c3⟩ := b4.word (F := F) X g8 rfl
    rcases hg1 with ⟨h1, h2⟩ | ⟨h1, h2⟩
    · rw [if_pos h1, if_neg (by decide), c1, Option.bind_some]
      obtain ⟨A4, d1, d2, d3⟩ := c3.sp.num (F := F) (lo := 0) (hi := 99) X rfl (by omega) (by omega) (by omega) (by omega)
      have d1 : f_X3_takeNumber F 0 99 A3 = some (nI e, A4) := d1
      rw [d1, Option.bind_some]
      dsimp only
      rw [nI_add, Option.bind_some]
      exact hend A4 _ (v + e) (a2.tr (b2.tr (c2.tr d2))) d3 (by omega) (by omega) (hq _ rfl)
    · rw [if_neg (by omega : ¬ g = 5), if_pos rfl]
      unfold f_X3_readMass_h51
      rw [if_pos b3.2.1, b4.isW X g8 rfl (g2 := 6) (by decide), if_pos h1, Option.bind_some]
      dsimp only
      rw [if_neg (by decide), c1, Option.bind_some]
      have hv1 : nI v - 1 = nI (v - 1) := pk_sub (b := 1) (by omega)
      have hmin : si_min 99 (nI (v - 1)) = nI (if v - 1 < 99 then v - 1 else 99) := bd_min (a := 99) (by omega) (by omega)
      obtain ⟨A4, d1, d2, d3⟩ := c3.sp.num (F := F) (lo := 0) (hi := if v - 1 < 99 then v - 1 else 99) X rfl (by omega) (by omega) (by split <;> omega) (by split <;> omega)
      have d1 : f_X3_takeNumber F 0 (nI (if v - 1 < 99 then v - 1 else 99)) A3 = some (nI e, A4) := d1
      rw [hv1, hmin, d1, Option.bind_some]
      dsimp only
      rw [pk_sub (by omega), Option.bind_some]
      exact hend A4 _ (v - e) (a2.tr (b2.tr (c2.tr d2))) d3 (by omega) (by omega) (hq _ rfl)
theorem rs_set {k N F p n y : Nat} {c : Nat → Nat} {A : si_St} {L : List Nat} {u : Nat → Nat → Nat} (X : cx N F c k) (h : rd_ k N c A p (stx (3, [n, y]) ++ L) u) (o : iv_mok u) (hu : u 3 0 < 4) (ok : okS 0 (3, [n, y])) : ∃ A', f_X3_readStatement F k A = some A' ∧ fA k A A' ∧ rd_ k N c A' (p + (stx (3, [n, y])).length) L (ut u n y) ∧ iv_mok (ut u n y) := by
  have hk := X.2.2.2
  have hk1 := k_ne1 hk
  obtain ⟨hn, hn2, hy⟩ := ok
  obtain ⟨W, hW⟩ : ∃ W, W = (if y = 1 then 32 :: wl 7 else ([] : List Nat)) := ⟨_, rfl⟩
  have ht : stx (3, [n, y]) = (wl 3 ++ [32]) ++ dgs n ++ (W ++ [59]) := by
    show tx 13 ++ dgs n ++ tx (if y = 1 then 14 else 15) = _
    rw [hW]
    by_cases h9 : y = 1
    · rw [if_pos h9, if_pos h9]; rfl
    · rw [if_neg h9, if_neg h9]; rfl
  have h0 : rd_ k N c A p (wl 3 ++ 32 :: (dgs n ++ (W ++ 59 :: L))) u := by
    have : stx (3, [n, y]) ++ L = wl 3 ++ 32 :: (dgs n ++ (W ++ 59 :: L)) := by
      rw [ht]
      simp only [List.append_assoc, List.cons_append, List.nil_append]
    rw [← this]
    exact h
  have hlen : (stx (3, [n, y])).length = 3 + 1 + (dgs n).length + (W.length + 1) := by
    rw [ht]
    simp only [List.length_append, List.length_cons, List.length_nil]
    rfl
  have hA3 : A.1 k 3 = nI (u 3 0) := h.2.2.2.2.2.2.2.2.1 3 (by decide)
  unfold f_X3_readStatement
  rw [h0.isW X (by decide) rfl (g2 := 0) (by decide), if_neg (by decide), Option.bind_some]
  dsimp only
  rw [if_pos rfl, h0.isW X (by decide) rfl (g2 := 1) (by decide), if_neg (by decide), Option.bind_some]
  dsimp only
  rw [if_pos rfl, h0.isW X (by decide) rfl (g2 := 2) (by decide), if_neg (by decide), Option.bind_some]
  dsimp only
  rw [if_pos rfl, h0.isW X (by decide) rfl (g2 := 3) (by decide), if_pos rfl, Option.bind_some]
  dsimp only
  rw [if_neg (by decide)]
  unfold f_X3_readSet
  rw [hA3]
  obtain ⟨A1, a1, a2, a3⟩ := h0.kw (m := u 3 0) (M := 4) X (by decide) rfl hu (by decide)
  have a1 : f_X3_takeKeyword F (nI (u 3 0)) 4 A = some A1 := a1
  rw [a1, Option.bind_some]
  have a4 := a3.sp
  have hend : ∀ (A2 : si_St) (q : Nat) (hA : fA k A A2), rd_ k N c A2 q (59 :: L) u → q + 1 = p + (stx (3, [n, y])).length → ∃ A', (Option.bind (f_X3_readSet_h47 F k (nI n) (nI y) A2) fun S10 => f_X3_readStatement_h105 F k S10) = some A' ∧ fA k A A' ∧ rd_ k N c A' (p + (stx (3, [n, y])).length) L (ut u n y) ∧ iv_mok (ut u n y) := fun A2 q hA h2 hq => by
    obtain ⟨A3, b1, b2, b3⟩ := setA (F := F) (x := n) (y := y) hk h2.2 hu (by omega)
    have r2 : rd_ k N c A3 q (59 :: L) (ut u n y) := ⟨h2.1, b3⟩
    obtain ⟨A4, f1, f2, f3⟩ := r2.semi (F := F) X
    refine ⟨A4, ?_, (hA.tr b2).tr f2, by rw [← hq]; exact f3, ut_ok o hu hn (by omega) hy⟩
    rw [b1, Option.bind_some]
    unfold f_X3_readStatement_h105
    rw [f1, Option.bind_some]
  by_cases hy1 : y = 1
  · rw [if_pos hy1] at hW
    have hW2 : W ++ 59 :: L = 32 :: (wl 7 ++ 59 :: L) := by rw [hW]; rfl
    rw [hW2] at a4
    obtain ⟨A2, b1, b2, b3⟩ := a4.num (F := F) (lo := 2) (hi := 12) X rfl (by omega) (by omega) (by omega) (by omega)
    have b1 : f_X3_takeNumber F 2 12 A1 = some (nI n, A2) := b1
    have b4 := b3.sp
    obtain ⟨A3, c1, c2, c3⟩ := b4.word (F := F) X (by decide) rfl
    rw [b1, Option.bind_some]
    dsimp only
    rw [if_pos b3.2.1, b4.isW X (by decide) rfl (g2 := 7) (by decide), if_pos rfl, Option.bind_some]
    dsimp only
    rw [if_neg (by decide)]
    unfold f_X3_readSet_h38
    rw [if_neg (by decide), c1, Option.bind_some]
    have := hend A3 _ (a2.tr (b2.tr c2)) c3 (by
      rw [hlen, hW]
      show p + 3 + 1 + (dgs n).length + 1 + 5 + 1 = p + (3 + 1 + (dgs n).length + (6 + 1))
      omega)
    rw [hy1] at this ⊢
    exact this
  · have hy0 : y = 0 := by omega
    rw [if_neg hy1] at hW
    rw [hW, List.nil_append] at a4
    obtain ⟨A2, b1, b2, b3⟩ := a4.num (F := F) (lo := 2) (hi := 12) X rfl (by omega) (by omega) (by omega) (by omega)
    have b1 : f_X3_takeNumber F 2 12 A1 = some (nI n, A2) := b1
    rw [b1, Option.bind_some]
    dsimp only
    rw [if_pos b3.2.1, b3.noW X (by decide), Option.bind_some]
    dsimp only
    rw [if_pos rfl]
    unfold f_X3_readSet_h37 f_X3_readSet_h38
    rw [if_pos rfl]
    have := hend A2 _ (a2.tr b2) b3 (by
      rw [hlen, hW]
      show p + 3 + 1 + (dgs n).length + 1 = p + (3 + 1 + (dgs n).length + (0 + 1))
      omega)
    rw [hy0] at this ⊢
    exact this
theorem rs_term {k N F p d : Nat} {c : Nat → Nat} {A : si_St} {L : List Nat} {u : Nat → Nat → Nat} (X : cx N F c k) (h : rd_ k N c A p (stx (4, [d]) ++ L) u) (o : iv_mok u) (hu : u 11 1 = 0) (ok : okS 0 (4, [d])) : ∃ A', f_X3_readStatement F k A = some A' ∧ fA k A A' ∧ rd_ k N c A' (p + (stx (4, [d])).length) L (uu u 11 1 d) ∧ iv_mok (uu u 11 1 d) := by
  have hk := X.2.2.2
  have hk1 := k_ne1 hk
  obtain ⟨hd, hd2⟩ := ok
  have h0 : rd_ k N c A p (wl 4 ++ 32 :: (dgs 1 ++ 32 :: (dgs d ++ 59 :: L))) u := by
    have : stx (4, [d]) ++ L = wl 4 ++ 32 :: (dgs 1 ++ 32 :: (dgs d ++ 59 :: L)) := by
      show (tx 16 ++ dgs d ++ [59]) ++ L = _
      show ((wl 4 ++ 32 :: (dgs 1 ++ [32])) ++ dgs d ++ [59]) ++ L = _
      simp only [List.append_assoc, List.cons_append, List.nil_append]
    rw [← this]
    exact h
  have hlen : (stx (4, [d])).length = 7 + (dgs d).length + 1 := by
    show (tx 16 ++ dgs d ++ [59]).length = _
    simp only [List.length_append]
    rfl
  unfold f_X3_readStatement
  rw [h0.isW X (by decide) rfl (g2 := 0) (by decide), if_neg (by decide), Option.bind_some]
  dsimp only
  rw [if_pos rfl, h0.isW X (by decide) rfl (g2 := 1) (by decide), if_neg (by decide), Option.bind_some]
  dsimp only
  rw [if_pos rfl, h0.isW X (by decide) rfl (g2 := 2) (by decide), if_neg (by decide), Option.bind_some]
  dsimp only
  rw [if_pos rfl, h0.isW X (by decide) rfl (g2 := 3) (by decide), if_neg (by decide), Option.bind_some]
  dsimp only
  rw [if_pos rfl, h0.isW X (by decide) rfl (g2 := 4) (by decide), if_pos rfl, Option.bind_some]
  dsimp only
  rw [if_neg (by decide)]
  unfold f_X3_readTerm
  obtain ⟨A1, a1, a2, a3⟩ := h0.word (F := F) X (by decide) rfl
  rw [a1, Option.bind_some, Option.bind_some]
  obtain ⟨A2, b1, b2, b3⟩ := a3.sp.num (F := F) (lo := 0) (hi := 2) X rfl (by omega) (by omega) (by omega) (by omega)
  have b1 : f_X3_takeNumber F 0 2 A1 = some (nI 1, A2) := b1
  have hv : A2.2.1 (k + 8) 1 = nI (u 11 1) := b3.2.2.2.2.2.2.2.2.2.2.2.2 1 (by decide)
  rw [b1, Option.bind_some]
  dsimp only
  rw [if_pos b3.2.1, (rd_m hk).2.2.2.2.2.2.2 (by decide : 1 < 3), Option.bind_some, hv, hu, if_pos (by rfl)]
  unfold f_X3_readTerm_h38 f_X3_readTerm_h61
  obtain ⟨A3, c1, c2, c3⟩ := b3.sp.num (F := F) (lo := 1) (hi := 5) X rfl (by omega) (by omega) (by omega) (by omega)
  have c1 : f_X3_takeNumber F 1 5 A2 = some (nI d, A3) := c1
  rw [c1, Option.bind_some]
  dsimp only
  rw [if_pos c3.2.1, (wr_m hk).2.2.2.2.2.2.2 (by decide : 1 < 3), Option.bind_some, Option.bind_some]
  unfold f_X3_readStatement_h105
  have r2 : rd_ k N c (si_pa A3 (k + 8) 1 (nI d)) (p + (wl 4).length + 1 + (dgs 1).length + 1 + (dgs d).length) (59 :: L) (uu u 11 1 d) := by
    refine ⟨c3.1, c3.2.up hk (fA.pa (by omega) (by omega)) (fun j => rfl) ?_⟩
    obtain ⟨m1, m2, m3, m4, m5⟩ := c3.2.2.2.2.2.2.2.2
    have row : ∀ j i, ¬ (j = 8 ∧ i = 1) → (si_pa A3 (k + 8) 1 (nI d)).2.1 (k + j) i = A3.2.1 (k + j) i := fun j i hn => by
      rw [pa_if, if_neg (by omega)]
    refine ⟨fun j hj => by rw [uu_o (by omega)]; exact m1 j hj, fun i hi => ?_, fun i hi => ?_, fun i hi => ?_, fun i hi => ?_⟩
    · dsimp only
      rw [row 1 i (by omega), row 2 i (by omega), row 3 i (by omega), row 4 i (by omega)]
      exact m2 i hi
    · dsimp only
      rw [row 5 i (by omega)]
      exact m3 i hi
    · dsimp only
      rw [row 6 i (by omega), row 7 i (by omega)]
      exact m4 i hi
    · dsimp only
      by_cases h9 : i = 1
      · rw [h9, pa_e, uu_e]
      · rw [row 8 i (by omega), uu_o (by omega)]
        exact m5 i hi
  obtain ⟨A6, f1, f2, f3⟩ := r2.semi (F := F) X
  rw [f1, Option.bind_some]
  refine ⟨A6, rfl, (a2.tr (b2.tr (c2.tr (fA.pa (by omega) (by omega))))).tr f2, ?_, uv_ok o hd2⟩
  rw [hlen]
  have : p + (7 + (dgs d).length + 1) = p + (wl 4).length + 1 + (dgs 1).length + 1 + (dgs d).length + 1 := by
    show _ = p + 4 + 1 + 1 + 1 + (dgs d).length + 1
    omega
  rw [this]
  exact f3
