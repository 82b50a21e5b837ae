-- undo
def sn_UM (X : si_St) (d : Nat) : si_St := si_ca (si_ps (si_ps X 87 0 0) 87 41 (nI d)) 110 (677 * d) 88 0 677
theorem sm_pred (d : Nat) : nI (d + 1) - 1 = nI d := (sm_sub (a := d + 1) (b := 1) (by omega)).trans (by rw [Nat.add_sub_cancel])
theorem sm_pos {d : Nat} (hd : d < 2 ^ 20) : ¬ nI (d + 1) = 0 := sm_ne (a := d + 1) (b := 0) (by omega) (by omega) (by decide)
theorem sm_mundo {F d : Nat} {X : si_St} (hd : d < 12) (hF : 678 ≤ F) (h : X.1 87 41 = nI (d + 1)) : f_X10_undo F X = some (1, sn_UM X d) := by
  have h' : (si_ps X 87 0 0).1 87 41 = nI (d + 1) := h
  have h2 : (si_ps (si_ps X 87 0 0) 87 41 (nI d)).1 87 41 = nI d := rfl
  unfold f_X10_undo
  rw [sm_pt, Option.bind_some, h', if_neg (sm_pos (by omega)), sm_pt, Option.bind_some, sm_pred, h2]
  show Option.bind (f_X10_copies F 110 88 (nI 677 * nI d) (nI 0) (nI 677) (si_ps (si_ps X 87 0 0) 87 41 (nI d))) _ = _
  rw [sm_mul, sm_copies (by decide) (show 677 * d + 677 ≤ 8124 by omega) (by decide) (by decide) (by decide) (by omega)]
  rfl
theorem sm_take {F d p : Nat} {S : si_St} (hd : d < 12) (hp : p < 12) (h0 : S.1 21 0 = nI (d + 1)) (h1 : S.1 21 1 = nI p) : f_X0_takeLatest F S = some (nI ((p + 11) % 12), si_ps (si_ps S 21 0 (nI d)) 21 1 (nI ((p + 11) % 12))) := by
  have h2 : (si_ps S 21 0 (nI d)).1 21 1 = nI p := h1
  have e : (nI p + 12) - 1 = nI (p + 11) := by
    show nI p + nI 12 - 1 = nI (p + 11)
    rw [nI_add]
    exact sm_pred (p + 11)
  have e2 : nI (p + 11) - nI (p + 11) / 12 * 12 = nI ((p + 11) % 12) := pk_rem (a := p + 11) (d := 12) (by omega) (by decide) (by decide)
  unfold f_X0_takeLatest
  rw [h0, if_neg (sm_pos (by omega)), sm_pt, Option.bind_some, sm_pred, h2, e, e2]
  rfl
theorem sn_fin {S X : si_St} {u : Nat → Nat → Nat} {mk d q : Nat} (hm : mk = 69 ∨ mk = 78) (hat : iv_at S u mk) (e : iv_sE iv_xsV iv_xaV S X) (hq : q < 12) (hd : d < 12) (x0 : X.1 21 0 = nI d) (x1 : X.1 21 1 = nI q) (hv : iv_view u (X.1 7 0) (fun j => X.2.1 (7 + j)) (fun j => X.2.1 (16 + j)) (fun i => S.2.1 110 (677 * d + i))) (hch : iv_ch u (fun j => X.2.1 (22 + j)) (fun k i => S.2.1 110 (677 * k + i)) d q (X.1 7 0) (fun j => X.2.1 (7 + j)) (fun j => X.2.1 (16 + j))) (h110 : X.2.1 110 = S.2.1 110) : iv_at (sn_UM X d) u mk := by
  have hu := hat.1.2.2.2.1
  have e110 : (sn_UM X d).2.1 110 = S.2.1 110 := (sn_o (by decide)).trans h110
  have eo : ∀ r, r ≠ 88 → (sn_UM X d).2.1 r = X.2.1 r := fun r h => sn_o h
  refine iv_at.goV hm hat (((e.tr (iv_sE.of (iv_same.ps rfl))).tr (iv_sE.ps (by decide))).tr (iv_sE.ca (by decide))) ?_ ?_
  · refine hv.eq hu (fun j i h1 h2 _ => congrFun (eo _ (by omega)) i) (fun j i h1 h2 _ => congrFun (eo _ (by omega)) i) (fun j i h1 h2 _ => congrFun (eo _ (by omega)) i) (fun i hi => ?_)
    show (if 88 = 88 ∧ 0 ≤ i ∧ i < 0 + 677 then X.2.1 110 (677 * d + (i - 0)) else X.2.1 88 i) = S.2.1 110 (677 * d + i)
    rw [if_pos ⟨rfl, by omega, by omega⟩, h110, Nat.sub_zero]
  · show iv_hist u (X.1 21 0) (X.1 21 1) (nI d) (fun j => (sn_UM X d).2.1 (22 + j)) ((sn_UM X d).2.1 110) (X.1 7 0) (fun j => (sn_UM X d).2.1 (7 + j)) (fun j => (sn_UM X d).2.1 (16 + j))
    rw [e110]
    exact ⟨d, q, by omega, hq, x0, x1, rfl, iv_ch.cg (fun j hj => eo _ (by omega)) _ _ _ _ _ _ _ (fun j h1 h8 => eo _ (by omega)) (fun j h1 h4 => eo _ (by omega)) hch⟩
theorem st_undo {F : Nat} (hF : 678 ≤ F) : st_ok (f_X9_undo F) (f_X10_undo F) := by
  intro S h
  obtain ⟨u, mk, hmk, hat⟩ := id h
  obtain ⟨g0, g1, g2, g3, g4, g5, g6, g7, ⟨d, p, hd, hp, e0, e1, e2, hch⟩, g9, g10, g11⟩ := id hat
  have hm : mk = 69 ∨ mk = 78 := hmk.imp (fun h => h.1) (fun h => h.1)
  cases d with
  | zero =>
    refine ⟨0, S, si_ps S 87 0 0, ?_, ?_, h.go (iv_th S)⟩
    · unfold f_X9_undo f_X0_takeLatest
      rw [e0, if_pos (show nI 0 = 0 by decide), Option.bind_some, if_pos rfl]
      rfl
    · have e2' : (si_ps S 87 0 0).1 87 41 = nI 0 := e2
      unfold f_X10_undo
      rw [sm_pt, Option.bind_some, e2', if_pos (show nI 0 = 0 by decide)]
      rfl
  | succ d =>
    obtain ⟨k, x, a0, a1, hc⟩ := hch
    have hq : (p + 11) % 12 < 12 := Nat.mod_lt _ (by decide)
    generalize hqe : (p + 11) % 12 = q at *
    have tk := sm_take (F := F) (S := S) (by omega) hp e0 e1
    rw [hqe] at tk
    have eT : iv_sE iv_xsV iv_xaV S (si_ps (si_ps S 21 0 (nI d)) 21 1 (nI q)) := (iv_sE.ps (by decide)).tr (iv_sE.ps (by decide))
    have b0 : S.2.1 22 q = nI k := a0
    have b1 : S.2.1 23 q = nI x := a1
    have hx : f_X9_undo F S = (if nI k = 0 then (Option.bind (si_pt (si_ps (si_ps S 21 0 (nI d)) 21 1 (nI q)) 7 0 (nI x)) fun S5 => f_X9_undo_h148 F S5) else (if nI k = 1 then (Option.bind (si_rd (si_ps (si_ps S 21 0 (nI d)) 21 1 (nI q)) 12 (nI x)) fun v6 => Option.bind (si_wr (si_ps (si_ps S 21 0 (nI d)) 21 1 (nI q)) 12 (nI x) (v6 - 1)) fun S7 => f_X9_undo_h148 F S7) else (if nI k = 2 then (Option.bind (si_wr (si_ps (si_ps S 21 0 (nI d)) 21 1 (nI q)) 11 (nI x) (-1)) fun S8 => f_X9_undo_h148 F S8) else (Option.bind (si_rd (si_ps (si_ps S 21 0 (nI d)) 21 1 (nI q)) 24 (nI q)) fun v9 => Option.bind (si_rd (si_ps (si_ps S 21 0 (nI d)) 21 1 (nI q)) 25 (nI q)) fun v10 => Option.bind (si_rd (si_ps (si_ps S 21 0 (nI d)) 21 1 (nI q)) 26 (nI q)) fun v11 => Option.bind (f_X8_put F (nI x) v9 v10 v11 (si_ps (si_ps S 21 0 (nI d)) 21 1 (nI q))) fun S12 => Option.bind (si_rd S12 20 (nI x)) fun v13 => Option.bind (si_wr S12 20 (nI x) (v13 - 1)) fun S14 => f_X9_undo_h148 F S14)))) := by
      unfold f_X9_undo
      have h22 : (si_ps (si_ps S 21 0 (nI d)) 21 1 (nI q)).2.1 22 q = nI k := b0
      have h23 : (si_ps (si_ps S 21 0 (nI d)) 21 1 (nI q)).2.1 23 q = nI x := b1
      rw [tk, Option.bind_some]
      dsimp only
      rw [if_neg (sm_m1 (by omega)), sm_rd (show q < 12 from hq) (by decide), Option.bind_some, sm_rd (show q < 12 from hq) (by decide), Option.bind_some, h22, h23]
    have fin : ∀ X : si_St, f_X9_undo F S = some (1, X) → iv_sE iv_xsV iv_xaV S X → X.1 21 0 = nI d → X.1 21 1 = nI q → iv_view u (X.1 7 0) (fun j => X.2.1 (7 + j)) (fun j => X.2.1 (16 + j)) (fun i => S.2.1 110 (677 * d + i)) → iv_ch u (fun j => X.2.1 (22 + j)) (fun k i => S.2.1 110 (677 * k + i)) d q (X.1 7 0) (fun j => X.2.1 (7 + j)) (fun j => X.2.1 (16 + j)) → X.2.1 110 = S.2.1 110 → X.1 87 41 = nI (d + 1) → ∃ r S1 S2, f_X9_undo F S = some (r, S1) ∧ f_X10_undo F S1 = some (r, S2) ∧ iv_all S2 := fun X hX hE h0 h1 hv hc h110 h41 => ⟨1, X, sn_UM X d, hX, sm_mundo (by omega) hF h41, u, mk, hmk.go (((hE.tr (iv_sE.of (iv_same.ps rfl))).tr (iv_sE.ps (by decide))).tr (iv_sE.ca (by decide))), sn_fin hm hat hE hq (by omega) h0 h1 hv hc h110⟩
    rcases hc with ⟨rfl, c1, c2, c3⟩ | ⟨rfl, c1, c2, c3⟩ | ⟨rfl, c1, c2, c3⟩ | ⟨rfl, c1, c2, c3⟩
    · refine fin (si_ps (si_ps (si_ps S 21 0 (nI d)) 21 1 (nI q)) 7 0 (nI x)) ?_ (eT.tr (iv_sE.ps (by decide))) rfl rfl c2 c3 rfl e2
      rw [hx, if_pos (show nI 0 = 0 by decide)]
      rfl
    · have ev : (fun j => (si_pa (si_ps (si_ps S 21 0 (nI d)) 21 1 (nI q)) 12 x (S.2.1 12 x - 1)).2.1 (7 + j)) = iv_up (fun j => S.2.1 (7 + j)) 5 x (S.2.1 12 x - 1) := by
        funext j i
        show (if 7 + j = 12 ∧ i = x then S.2.1 12 x - 1 else S.2.1 (7 + j) i) = (if j = 5 ∧ i = x then S.2.1 12 x - 1 else S.2.1 (7 + j) i)
        by_cases h : j = 5 ∧ i = x
        · rw [if_pos h, if_pos ⟨by omega, h.2⟩]
        · rw [if_neg h, if_neg (fun h2 => h ⟨by omega, h2.2⟩)]
      have ew : (fun j => (si_pa (si_ps (si_ps S 21 0 (nI d)) 21 1 (nI q)) 12 x (S.2.1 12 x - 1)).2.1 (16 + j)) = (fun j => S.2.1 (16 + j)) := funext fun j => sn_po (by omega)
      have eh : (fun j => (si_pa (si_ps (si_ps S 21 0 (nI d)) 21 1 (nI q)) 12 x (S.2.1 12 x - 1)).2.1 (22 + j)) = (fun j => S.2.1 (22 + j)) := funext fun j => sn_po (by omega)
      refine fin (si_pa (si_ps (si_ps S 21 0 (nI d)) 21 1 (nI q)) 12 x (S.2.1 12 x - 1)) ?_ (eT.tr (iv_sE.pa (by decide))) rfl rfl ?_ ?_ (sn_po (by decide)) e2
      · rw [hx, if_neg (show ¬ nI 1 = 0 by decide), if_pos (show nI 1 = 1 by decide), sm_rd (show x < 30 from c1) (by decide), Option.bind_some, sm_wr (show x < 30 from c1) (by decide)]
        rfl
      · rw [ev, ew]; exact c2
      · rw [ev, ew, eh]; exact c3
    · have ev : (fun j => (si_pa (si_ps (si_ps S 21 0 (nI d)) 21 1 (nI q)) 11 x (-1)).2.1 (7 + j)) = iv_up (fun j => S.2.1 (7 + j)) 4 x (-1) := by
        funext j i
        show (if 7 + j = 11 ∧ i = x then (-1) else S.2.1 (7 + j) i) = (if j = 4 ∧ i = x then (-1) else S.2.1 (7 + j) i)
        by_cases h : j = 4 ∧ i = x
        · rw [if_pos h, if_pos ⟨by omega, h.2⟩]
        · rw [if_neg h, if_neg (fun h2 => h ⟨by omega, h2.2⟩)]
      have ew : (fun j => (si_pa (si_ps (si_ps S 21 0 (nI d)) 21 1 (nI q)) 11 x (-1)).2.1 (16 + j)) = (fun j => S.2.1 (16 + j)) := funext fun j => sn_po (by omega)
      have eh : (fun j => (si_pa (si_ps (si_ps S 21 0 (nI d)) 21 1 (nI q)) 11 x (-1)).2.1 (22 + j)) = (fun j => S.2.1 (22 + j)) := funext fun j => sn_po (by omega)
      refine fin (si_pa (si_ps (si_ps S 21 0 (nI d)) 21 1 (nI q)) 11 x (-1)) ?_ (eT.tr (iv_sE.pa (by decide))) rfl rfl ?_ ?_ (sn_po (by decide)) e2
      · rw [hx, if_neg (show ¬ nI 2 = 0 by decide), if_neg (show ¬ nI 2 = 1 by decide), if_pos (show nI 2 = 2 by decide), sm_wr (show x < 30 from c1) (by decide)]
        rfl
      · rw [ev, ew]; exact c2
      · rw [ev, ew, eh]; exact c3
    · have ew : (fun j => (si_pa (si_pa (si_pa (si_pa (si_ps (si_ps S 21 0 (nI d)) 21 1 (nI q)) 17 x (S.2.1 24 q)) 18 x (S.2.1 25 q)) 19 x (S.2.1 26 q)) 20 x (S.2.1 20 x - 1)).2.1 (16 + j)) = iv_up (iv_up (iv_up (iv_up (fun j => S.2.1 (16 + j)) 1 x (S.2.1 24 q)) 2 x (S.2.1 25 q)) 3 x (S.2.1 26 q)) 4 x (S.2.1 20 x - 1) := by
        funext j i
        have t : ∀ n, (16 + j = 16 + n ∧ i = x) = (j = n ∧ i = x) := fun n => propext ⟨fun h => ⟨by omega, h.2⟩, fun h => ⟨by omega, h.2⟩⟩
        show (if 16 + j = 16 + 4 ∧ i = x then S.2.1 20 x - 1 else if 16 + j = 16 + 3 ∧ i = x then S.2.1 26 q else if 16 + j = 16 + 2 ∧ i = x then S.2.1 25 q else if 16 + j = 16 + 1 ∧ i = x then S.2.1 24 q else S.2.1 (16 + j) i) = (if j = 4 ∧ i = x then S.2.1 20 x - 1 else if j = 3 ∧ i = x then S.2.1 26 q else if j = 2 ∧ i = x then S.2.1 25 q else if j = 1 ∧ i = x then S.2.1 24 q else S.2.1 (16 + j) i)
        simp only [t]
      have eo : ∀ r, r ≠ 17 → r ≠ 18 → r ≠ 19 → r ≠ 20 → (si_pa (si_pa (si_pa (si_pa (si_ps (si_ps S 21 0 (nI d)) 21 1 (nI q)) 17 x (S.2.1 24 q)) 18 x (S.2.1 25 q)) 19 x (S.2.1 26 q)) 20 x (S.2.1 20 x - 1)).2.1 r = S.2.1 r := fun r h1 h2 h3 h4 => by
        rw [sn_po h4, sn_po h3, sn_po h2, sn_po h1]
        rfl
      refine fin (si_pa (si_pa (si_pa (si_pa (si_ps (si_ps S 21 0 (nI d)) 21 1 (nI q)) 17 x (S.2.1 24 q)) 18 x (S.2.1 25 q)) 19 x (S.2.1 26 q)) 20 x (S.2.1 20 x - 1)) ?_ ((((eT.tr (iv_sE.pa (by decide))).tr (iv_sE.pa (by decide))).tr (iv_sE.pa (by decide))).tr (iv_sE.pa (by decide))) rfl rfl ?_ ?_ (eo 110 (by decide) (by decide) (by decide) (by decide)) e2
      · rw [hx, if_neg (show ¬ nI 3 = 0 by decide), if_neg (show ¬ nI 3 = 1 by decide), if_neg (show ¬ nI 3 = 2 by decide), sm_rd (show q < 12 from hq) (by decide), Option.bind_some, sm_rd (show q < 12 from hq) (by decide), Option.bind_some, sm_rd (show q < 12 from hq) (by decide), Option.bind_some]
        unfold f_X8_put
        rw [sm_wr (show x < 4 from c1) (by decide), Option.bind_some, sm_wr (show x < 4 from c1) (by decide), Option.bind_some, sm_wr (show x < 4 from c1) (by decide), Option.bind_some, Option.bind_some, sm_rd (show x < 4 from c1) (by decide), Option.bind_some, sm_wr (show x < 4 from c1) (by decide), Option.bind_some]
        rfl
      · rw [ew]
        exact iv_view.cg (fun j h1 h8 => eo _ (by omega) (by omega) (by omega) (by omega)) (fun j _ _ => rfl) c2
      · rw [ew]
        exact iv_ch.cg (fun j hj => eo _ (by omega) (by omega) (by omega) (by omega)) _ _ _ _ _ _ _ (fun j h1 h8 => eo _ (by omega) (by omega) (by omega) (by omega)) (fun j _ _ => rfl) c3
