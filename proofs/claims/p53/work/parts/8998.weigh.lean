-- WEIGH
def up1 (f : Nat → Nat) (x v : Nat) : Nat → Nat := fun y => if y = x then v else f y
theorem cls.go {S S' : si_St} {q a b : Nat} {n h l g w : Nat → Nat} {C : List Nat} (c : cls S q n h l g w) (d : dn C a b S S') (hM : 1000 ∉ C) (h1 : ∀ k ∈ C, 87 ≤ k) : cls S' q n h l g w := by
  have nm : ∀ k, k < 87 → k ∉ C := fun k hk hc => by have := h1 k hc; omega
  obtain ⟨⟨c1, c2, c3⟩, c4, c5, c6, c7⟩ := c
  obtain ⟨r0, r1⟩ := d.2.1 hM
  obtain ⟨k, hk, ek⟩ : ∃ k, (k = 69 ∨ k = 78) ∧ S.2.2.2 0 = k := by
    rcases c1 with ⟨h, -⟩ | ⟨h, -⟩
    · exact ⟨69, Or.inl rfl, h⟩
    · exact ⟨78, Or.inr rfl, h⟩
  rw [ek] at c5 c6
  refine ⟨⟨by rw [r0, r1]; exact c1, by rw [(d.1 1 (nm 1 (by decide))).1]; exact c2, by rw [(d.1 66 (nm _ (by decide))).2.1, (d.1 67 (nm _ (by decide))).2.1, (d.1 68 (nm _ (by decide))).2.1]; exact c3⟩, c4, ?_, ?_, ?_⟩
  · rw [r0, ek, (d.1 k (nm k (by omega))).1]; exact c5
  · rw [r0, ek, (d.1 (k + 6) (nm _ (by omega))).2.1, (d.1 17 (nm _ (by decide))).2.1, (d.1 18 (nm _ (by decide))).2.1, (d.1 19 (nm _ (by decide))).2.1, (d.1 20 (nm _ (by decide))).2.1]
    exact c6
  · rw [(d.1 21 (nm _ (by decide))).1, (d.1 21 (nm _ (by decide))).1]
    exact c7
theorem weigh_no {F q x a b r : Nat} {S : si_St} {n h l g w : Nat → Nat} (c : cls S q n h l g w) (hx : x < q) (v : vs (n x) (h x) (l x) (g x)) (ha : a < 2 ^ n x) (hb : b < 2 ^ n x) (hv : ¬ (0 < a ∧ sb_pc a = sb_pc b)) : f_X9_weigh F (nI x) (nI a) (nI b) (nI r) S = some (-1, S) := by
  obtain ⟨k, hk, e1, e2⟩ := c.1.mk
  have hq := c.2.1
  have hn := (c.2.2.2.1 x hx).1
  rw [e1] at hn
  have a2 := p2_12 v.1.2 ha
  have b2 := p2_12 v.1.2 hb
  have hP : ¬ we_P (n x) (nI a) (nI b) := fun ⟨a', b', q1, q2, q3, q4, q5, q6, q7⟩ => by
    have a2' := p2_12 v.1.2 q1
    have b2' := p2_12 v.1.2 q2
    have h1 := (nI_eq (by omega) (by omega)).mp q3
    have h2 := (nI_eq (by omega) (by omega)).mp q4
    rw [← h1] at q6 q7
    rw [← h2] at q6
    exact hv ⟨q7, q6⟩
  unfold f_X9_weigh f_X9_weigh_h25
  rw [c.has hx, Option.bind_some]
  dsimp only
  rw [if_neg (by decide), e2, Option.bind_some, (rd_m hk).2.2.2.2.2.1 (by omega), Option.bind_some, hn, (we_x (by have := v.1.2; omega)).2 hP, Option.bind_some]
  dsimp only
  rw [if_pos rfl]
theorem weigh_yes {F q x a b r : Nat} {S : si_St} {n h l g w : Nat → Nat} (c : cls S q n h l g w) (hx : x < q) (v : vs (n x) (h x) (l x) (g x)) (hw : w x < 20) (ha : a < 2 ^ n x) (hb : b < 2 ^ n x) (hab : a &&& b = 0) (hr : r < 3) (hv : 0 < a ∧ sb_pc a = sb_pc b) : ∃ S', f_X9_weigh F (nI x) (nI a) (nI b) (nI r) S = some (if sb_pc (we_s (h x) a b r) + sb_pc (we_s (l x) b a r) + (if r = 0 then g x else 0) = 0 then -2 else nI (sb_pc (we_s (h x) a b r) + sb_pc (we_s (l x) b a r) + (if r = 0 then g x else 0)), S') ∧ dn on_X9_weigh 0 0 S S' ∧ (sb_pc (we_s (h x) a b r) + sb_pc (we_s (l x) b a r) + (if r = 0 then g x else 0) = 0 → S' = S) ∧ (sb_pc (we_s (h x) a b r) + sb_pc (we_s (l x) b a r) + (if r = 0 then g x else 0) ≠ 0 → cls S' q n (up1 h x (we_s (h x) a b r)) (up1 l x (we_s (l x) b a r)) (up1 g x (if r = 0 then g x else 0)) (up1 w x (w x + 1))) := by
  obtain ⟨k, hk, e1, e2⟩ := c.1.mk
  have hq := c.2.1
  have hall := c.2.2.2.1
  obtain ⟨hn, a17, a18, a19, a20⟩ := hall x hx
  rw [e1] at hn
  obtain ⟨⟨v1, v2⟩, ⟨v3, v4, v5⟩, v6⟩ := v
  have a2 := p2_12 v2 ha
  have b2 := p2_12 v2 hb
  have h2 := p2_12 v2 v3
  have l2 := p2_12 v2 v4
  have hP : we_P (n x) (nI a) (nI b) := ⟨a, b, ha, hb, rfl, rfl, hab, hv.2, hv.1⟩
  have lh := we_s_le (h x) a b r
  have ll := we_s_le (l x) b a r
  have p1 := sb_le12 (we_s (h x) a b r)
  have p2 := sb_le12 (we_s (l x) b a r)
  have hg1 : (if r = 0 then g x else 0) ≤ 1 := by split <;> omega
  have hX2 : f_X9_weigh F (nI x) (nI a) (nI b) (nI r) S = f_X9_weigh_h94 F (nI x) (nI (we_s (h x) a b r)) (nI (we_s (l x) b a r)) (nI (if r = 0 then g x else 0)) S := by
    unfold f_X9_weigh
    rw [c.has hx, Option.bind_some]
    dsimp only
    rw [if_neg (by decide), e2, Option.bind_some, (rd_m hk).2.2.2.2.2.1 (by omega), Option.bind_some, hn, (we_x (by omega)).1 hP, Option.bind_some]
    dsimp only
    rw [if_neg (by decide), if_neg (nI_pos (by omega)), if_pos (show nI r ≤ (2 : Int32) from (nI_le (b := 2) (by omega) (by decide))), rd_17 (by omega), Option.bind_some, a17, we_sx h2 a2 b2 hr, Option.bind_some]
    dsimp only
    rw [rd_18 (by omega), Option.bind_some, a18, we_sx l2 b2 a2 hr, Option.bind_some]
    dsimp only
    by_cases hr0 : r = 0
    · rw [if_pos (show nI r = 0 by rw [hr0]; rfl), rd_19 (by omega), Option.bind_some, a19, if_pos hr0]
    · rw [if_neg (nI_ne0 (by omega) (by omega)), if_neg hr0]
      rfl
  have hfr := fr_X9_weigh F (nI x) (nI a) (nI b) (nI r) S
  rw [hX2] at hfr ⊢
  generalize hH : we_s (h x) a b r = H at *
  generalize hL : we_s (l x) b a r = L at *
  generalize hG : (if r = 0 then g x else 0) = G at *
  unfold f_X9_weigh_h94 at hfr ⊢
  rw [sb_bc (by omega), Option.bind_some] at hfr ⊢
  dsimp only at hfr ⊢
  rw [sb_bc (by omega), Option.bind_some] at hfr ⊢
  dsimp only at hfr ⊢
  rw [nI_add, nI_add, Option.bind_some] at hfr ⊢
  by_cases hz : sb_pc H + sb_pc L + G = 0
  · rw [if_pos (show nI (sb_pc H + sb_pc L + G) = 0 by rw [hz]; rfl), if_pos hz]
    exact ⟨S, rfl, dn.rf, fun _ => rfl, fun h => absurd hz h⟩
  · obtain ⟨d, p, hd, hp, d0, d1⟩ := c.2.2.2.2
    have e20 : si_rd S 20 (nI x) = some (nI (w x)) := by rw [rd_20 (by omega), a20]
    rw [if_neg (nI_ne0 (by omega) (by omega)), e20, Option.bind_some, if_pos (show nI (w x) < (20 : Int32) from nI_lt (b := 20) hw (by decide)), we_add hd hp (by omega) d0 d1, Option.bind_some] at hfr ⊢
    unfold f_X8_put at hfr ⊢
    rw [wr_17 (by omega), Option.bind_some, wr_18 (by omega), Option.bind_some, wr_19 (by omega), Option.bind_some, Option.bind_some, rd_20 (by omega), Option.bind_some] at hfr ⊢
    have e20' : (si_pa (si_pa (si_pa (sn_X3 S p x d) 17 x (nI H)) 18 x (nI L)) 19 x (nI G)).2.1 20 x = nI (w x) := a20
    rw [e20', wr_20 (by omega), Option.bind_some, nI_1] at hfr ⊢
    rw [if_neg hz]
    refine ⟨_, rfl, dn.on (hfr _ rfl) (fun _ h => h), fun h => absurd h hz, fun _ => ?_⟩
    have on := dn.on (hfr _ rfl) (fun _ h => h)
    obtain ⟨⟨c1, c2, c3⟩, c4, c5, c6, c7⟩ := c
    rw [e1] at c5 c6
    generalize hT : si_pa (si_pa (si_pa (si_pa (sn_X3 S p x d) 17 x (nI H)) 18 x (nI L)) 19 x (nI G)) 20 x (nI (w x + 1)) = T at *
    have row : ∀ y, T.2.1 17 y = (if y = x then nI H else S.2.1 17 y) ∧ T.2.1 18 y = (if y = x then nI L else S.2.1 18 y) ∧ T.2.1 19 y = (if y = x then nI G else S.2.1 19 y) ∧ T.2.1 20 y = (if y = x then nI (w x + 1) else S.2.1 20 y) := fun y => by
      rw [← hT]
      by_cases h9 : y = x
      · rw [h9, if_pos rfl, if_pos rfl, if_pos rfl, if_pos rfl]
        exact ⟨by rw [pa_o (by decide), pa_o (by decide), pa_o (by decide), pa_e], by rw [pa_o (by decide), pa_o (by decide), pa_e], by rw [pa_o (by decide), pa_e], pa_e⟩
      · rw [if_neg h9, if_neg h9, if_neg h9, if_neg h9]
        exact ⟨by rw [pa_o (by decide), pa_o (by decide), pa_o (by decide), pa_s h9]; rfl, by rw [pa_o (by decide), pa_o (by decide), pa_s h9]; rfl, by rw [pa_o (by decide), pa_s h9]; rfl, by rw [pa_s h9]; rfl⟩
    have r0 := on.2.1 (by decide)
    have k87 : ∀ {L : List Nat} {y : Nat}, L = on_X9_weigh → ¬ (17 ≤ y ∧ y ≤ 26) → y ∉ L := fun {L y} hL hy h => by
      rw [hL] at h
      unfold on_X9_weigh at h
      simp only [List.mem_cons, List.not_mem_nil, or_false] at h
      omega
    refine ⟨⟨by rw [r0.1, r0.2]; exact c1, by rw [(on.1 1 (by decide)).1]; exact c2, by rw [(on.1 66 (by decide)).2.1, (on.1 67 (by decide)).2.1, (on.1 68 (by decide)).2.1]; exact c3⟩, c4, ?_, fun y hy => ?_, ?_⟩
    · rw [r0.1, e1, (on.1 k (k87 rfl (by omega))).1]; exact c5
    · obtain ⟨z1, z2, z3, z4⟩ := row y
      obtain ⟨b1, b2, b3, b4, b5⟩ := c6 y hy
      rw [r0.1, e1, (on.1 (k + 6) (k87 rfl (by omega))).2.1, z1, z2, z3, z4, b1, b2, b3, b4, b5]
      unfold up1
      by_cases h9 : y = x
      · rw [if_pos h9, if_pos h9, if_pos h9, if_pos h9, if_pos h9, if_pos h9, if_pos h9, if_pos h9]
        exact ⟨rfl, rfl, rfl, rfl, rfl⟩
      · rw [if_neg h9, if_neg h9, if_neg h9, if_neg h9, if_neg h9, if_neg h9, if_neg h9, if_neg h9]
        exact ⟨rfl, rfl, rfl, rfl, rfl⟩
    · rw [← hT]
      have m12 : min (d + 1) 12 ≤ 12 := Nat.min_le_right _ _
      refine ⟨min (d + 1) 12, (p + 1) % 12, m12, Nat.mod_lt _ (by decide), ?_, ?_⟩
      · show (sn_X3 S p x d).1 21 0 = _
        exact ps_e
      · show (sn_X3 S p x d).1 21 1 = _
        unfold sn_X3 sn_A
        rw [ps_o (by decide), ps_e]
