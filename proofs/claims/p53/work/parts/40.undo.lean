-- undo
def sn_UM (X : si_St) (d : Nat) : si_St := si_ca (si_ps (si_ps X 87 0 0) 87 41 (nI d)) 110 (677 * d) 88 0 677
theorem sm_pred (d : Nat) : nI (d + 1) - 1 = nI d := (sm_sub (a := d + 1) (b := 1) (by omega)).trans (by rw [Nat.add_sub_cancel])
theorem sm_pos {d : Nat} (hd : d < 2 ^ 20) : ¬ nI (d + 1) = 0 := sm_ne (a := d + 1) (b := 0) (by omega) (by omega) (by decide)
theorem sn_fin {S X : si_St} {u : Nat → Nat → Nat} {mk d q : Nat} (hm : mk = 69 ∨ mk = 78) (hat : iv_at S u mk) (e : iv_sE iv_xsV iv_xaV S X) (hq : q < 12) (hd : d < 12) (x0 : X.1 21 0 = nI d) (x1 : X.1 21 1 = nI q) (hv : iv_view u (X.1 7 0) (fun j => X.2.1 (7 + j)) (fun j => X.2.1 (16 + j)) (fun i => S.2.1 110 (677 * d + i))) (hch : iv_ch u (fun j => X.2.1 (22 + j)) (fun k i => S.2.1 110 (677 * k + i)) d q (X.1 7 0) (fun j => X.2.1 (7 + j)) (fun j => X.2.1 (16 + j))) (h110 : X.2.1 110 = S.2.1 110) : iv_at (sn_UM X d) u mk := by
  have hu := hat.1.2.2.2.1
  have e110 : (sn_UM X d).2.1 110 = S.2.1 110 := (sn_o (by decide)).trans h110
  have eo : ∀ r, r ≠ 88 → (sn_UM X d).2.1 r = X.2.1 r := fun r h => sn_o h
  refine iv_at.goV hm hat (((e.tr (iv_sE.of (iv_same.ps rfl))).tr (iv_sE.ps (by decide))).tr (iv_sE.ca (by decide))) ?_ ?_
  · refine hv.eq hu (fun j i h1 h2 _ => congrFun (eo _ (by omega)) i) (fun j i h1 h2 _ => congrFun (eo _ (by omega)) i) (fun j i h1 h2 _ => congrFun (eo _ (by omega)) i) (fun i hi => ?_)
    show (if 88 = 88 ∧ 0 ≤ i ∧ i < 0 + 677 then X.2.1 110 (677 * d + (i - 0)) else X.2.1 88 i) = S.2.1 110 (677 * d + i)
    rw [if_pos ⟨rfl, by omega, by omega⟩, h110, Nat.sub_zero]
  · show iv_hist u (X.1 21 0) (X.1 21 1) (nI d) (fun j => (sn_UM X d).2.1 (22 + j)) ((sn_UM X d).2.1 110) (X.1 7 0) (fun j => (sn_UM X d).2.1 (7 + j)) (fun j => (sn_UM X d).2.1 (16 + j))
    rw [e110]
    exact ⟨d, q, by omega, hq, x0, x1, rfl, iv_ch.cg (fun j hj => eo _ (by omega)) _ _ _ _ _ _ _ (fun j h1 h8 => eo _ (by omega)) (fun j h1 h4 => eo _ (by omega)) hch⟩
