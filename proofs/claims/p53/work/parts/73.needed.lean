-- the choice of a set in the class; weighingsNeeded, fewestWeighings
def so_Q (n h l g : Nat) (T : si_St) : Prop := T.1 65 3 = nI n ∧ T.1 65 4 = (if h &&& l = 0 then 0 else 1) ∧ T.1 65 5 = nI g ∧ T.1 65 6 = nI (sb_pc h) ∧ T.1 65 7 = nI (sb_pc (if h &&& l = 0 then l else 0)) ∧ T.1 65 8 = nI h ∧ T.1 65 9 = nI (if h &&& l = 0 then l else 0) ∧ T.1 65 10 = nI (sb_df (2 ^ n - 1) (h ||| l))
theorem so_45 {F n h l g : Nat} {T : si_St} (hn : n ≤ 12) (hh : h < 2 ^ n) (hl : l < 2 ^ n) (h3 : T.1 65 3 = nI n) : ∃ T', f_X5_choose_h45 F (nI h) (nI l) (nI g) T = some T' ∧ so_Q n h l g T' ∧ (∀ a b, a ≠ 65 → T'.1 a b = T.1 a b) ∧ T'.2 = T.2 := by
  have h2n : 2 ^ n ≤ 2 ^ 12 := Nat.pow_le_pow_right (by decide) hn
  have hp : 0 < 2 ^ n := Nat.pow_pos (by decide)
  have key : ∀ (mx : Nat) (s2 : Nat), mx ≤ 1 → s2 < 4096 → ∃ T', (Option.bind (si_pz T 65 4 (nI mx)) fun S7 => Option.bind (si_pt S7 65 5 (nI g)) fun S8 => Option.bind (si_pt S8 65 8 (nI h)) fun S9 => f_X5_choose_h84 F (nI h) (nI l) (nI s2) S9) = some T' ∧ (T'.1 65 3 = nI n ∧ T'.1 65 4 = nI mx ∧ T'.1 65 5 = nI g ∧ T'.1 65 6 = nI (sb_pc h) ∧ T'.1 65 7 = nI (sb_pc s2) ∧ T'.1 65 8 = nI h ∧ T'.1 65 9 = nI s2 ∧ T'.1 65 10 = nI (sb_df (2 ^ n - 1) (h ||| l))) ∧ (∀ a b, a ≠ 65 → T'.1 a b = T.1 a b) ∧ T'.2 = T.2 := by
    intro mx s2 hmx hs2
    have pz : si_pz T 65 4 (nI mx) = some (si_ps T 65 4 (nI mx)) := by
      unfold si_pz
      have hm2 : mx = 0 ∨ mx = 1 := by omega
      rcases hm2 with rfl | rfl
      · rw [if_pos (Or.inl (show nI 0 = 0 from rfl))]
      · rw [if_pos (Or.inr (show nI 1 = 1 from rfl))]
    have e10 : ((1 : Int32) <<< (nI n &&& 31)) - 1 = nI (2 ^ n - 1) := by
      rw [sm_pow n (by omega)]
      exact sm_sub (b := 1) (by omega)
    refine ⟨si_ps (si_ps (si_ps (si_ps (si_ps (si_ps (si_ps T 65 4 (nI mx)) 65 5 (nI g)) 65 8 (nI h)) 65 9 (nI s2)) 65 10 (nI (sb_df (2 ^ n - 1) (h ||| l)))) 65 6 (nI (sb_pc h))) 65 7 (nI (sb_pc s2)), ?_, ⟨h3, rfl, rfl, rfl, rfl, rfl, rfl, rfl⟩, fun a b hab => ?_, rfl⟩
    · rw [pz, Option.bind_some, sm_pt, Option.bind_some, sm_pt, Option.bind_some]
      unfold f_X5_choose_h84
      have c3 : (si_ps (si_ps (si_ps (si_ps T 65 4 (nI mx)) 65 5 (nI g)) 65 8 (nI h)) 65 9 (nI s2)).1 65 3 = nI n := h3
      rw [sm_pt, Option.bind_some, c3, e10, we_df (by omega) (by omega) (by omega), sm_pt, Option.bind_some]
      have c8 : (si_ps (si_ps (si_ps (si_ps (si_ps T 65 4 (nI mx)) 65 5 (nI g)) 65 8 (nI h)) 65 9 (nI s2)) 65 10 (nI (sb_df (2 ^ n - 1) (h ||| l)))).1 65 8 = nI h := rfl
      rw [c8, sb_bc (by omega), Option.bind_some]
      try dsimp only
      rw [sm_pt, Option.bind_some]
      have c9 : (si_ps (si_ps (si_ps (si_ps (si_ps (si_ps T 65 4 (nI mx)) 65 5 (nI g)) 65 8 (nI h)) 65 9 (nI s2)) 65 10 (nI (sb_df (2 ^ n - 1) (h ||| l)))) 65 6 (nI (sb_pc h))).1 65 9 = nI s2 := rfl
      rw [c9, sb_bc hs2, Option.bind_some]
      try dsimp only
      rw [sm_pt, Option.bind_some]
    · rw [ps_o (fun q => hab q.1), ps_o (fun q => hab q.1), ps_o (fun q => hab q.1), ps_o (fun q => hab q.1), ps_o (fun q => hab q.1), ps_o (fun q => hab q.1), ps_o (fun q => hab q.1)]
  unfold f_X5_choose_h45 f_X5_choose_h57 so_Q
  by_cases hc : h &&& l = 0
  · rw [if_pos ((we_and0 (by omega) (by omega)).mpr hc)]
    obtain ⟨T', e, q, r⟩ := key 0 l (by decide) (by omega)
    rw [if_pos hc, if_pos hc]
    exact ⟨T', e, q, r⟩
  · rw [if_neg (fun h => hc ((we_and0 (by omega) (by omega)).mp h))]
    obtain ⟨T', e, q, r⟩ := key 1 0 (by decide) (by decide)
    rw [if_neg hc, if_neg hc]
    exact ⟨T', e, q, r⟩
theorem so_choose {F n h l g : Nat} {S : si_St} (hn : n ≤ 12) (hh : h < 2 ^ n) (hl : l < 2 ^ n) (hF : 200 ≤ F) (sv : iv_sv sv_spl sv_mix (S.2.1 66) (S.2.1 67) (S.2.1 68)) : ∃ T, f_X5_choose F (nI n) (nI h) (nI l) (nI g) S = some T ∧ so_Q n h l g T ∧ so_sp T n (sv_spl n) ∧ (∀ g, g ≤ 1 → so_mi T n g (fun v => sv_mix n v g)) ∧ iv_sv sv_spl sv_mix (T.2.1 66) (T.2.1 67) (T.2.1 68) ∧ (∀ a b, a ≠ 65 → T.1 a b = S.1 a b) ∧ (∀ r, r ≠ 66 → r ≠ 67 → r ≠ 68 → T.2.1 r = S.2.1 r) ∧ T.2.2 = S.2.2 := by
  have e66 : (si_ps S 65 3 (nI n)).1 65 3 = nI n := rfl
  have r66 : (si_ps S 65 3 (nI n)).2.1 66 n = S.2.1 66 n := rfl
  unfold f_X5_choose
  rw [sm_pt, Option.bind_some, e66, rd_66 (by omega), Option.bind_some, r66]
  rcases sv n hn with h0 | ⟨h1, hsp, hmi⟩
  · rw [h0, if_pos rfl]
    obtain ⟨T1, q1, f1, x1, p1, m1⟩ := so_forget (F := F) (B := si_ps S 65 3 (nI n)) hn e66 (so_fr.rf n _) hF
    obtain ⟨T2, q2, f2, y2, p2, m2⟩ := so_fillSplit (F := F) (B := si_ps S 65 3 (nI n)) hn (by rw [x1]; exact e66) f1 p1 m1 (by omega)
    obtain ⟨T3, q3, f3, y3, p3, m3, o3⟩ := so_fillMixed (F := F) (g := 0) (B := si_ps S 65 3 (nI n)) (mo := fun _ => 99) hn (by decide) y2 f2 p2 (m2 0 (by decide)) (m2 1 (by decide)) (by omega)
    obtain ⟨T4, q4, f4, y4, p4, m4, o4⟩ := so_fillMixed (F := F) (g := 1) (B := si_ps S 65 3 (nI n)) (mo := fun v => sv_mix n v 0) hn (by decide) y3 f3 p3 o3 m3 (by omega)
    have ez : si_wz T4 66 (nI n) 1 = some (si_pa T4 66 n 1) := by
      unfold si_wz
      rw [if_pos (Or.inr rfl), wr_66 (by omega)]
    obtain ⟨T5, q5, Q5, z1, z2⟩ := so_45 (F := F) (h := h) (l := l) (g := g) (T := si_pa T4 66 n 1) hn hh hl y4
    rw [q1, Option.bind_some, q2, Option.bind_some]
    have q3' : f_X5_fillMixedNeeds F 0 T2 = some T3 := q3
    have q4' : f_X5_fillMixedNeeds F 1 T3 = some T4 := q4
    rw [q3', Option.bind_some, q4', Option.bind_some, y4, ez, Option.bind_some, q5]
    have t67 : T5.2.1 67 = T4.2.1 67 := by rw [z2, pa_o (by decide)]
    have t68 : T5.2.1 68 = T4.2.1 68 := by rw [z2, pa_o (by decide)]
    have t66 : ∀ i, T5.2.1 66 i = if i = n then 1 else S.2.1 66 i := by
      intro i
      rw [z2]
      by_cases hi : i = n
      · subst hi
        rw [pa_e, if_pos rfl]
      · rw [pa_s hi, if_neg hi, f4.2.1 66 (by decide) (by decide)]
        rfl
    refine ⟨T5, rfl, Q5, fun a b hab => by rw [t67]; exact p4 a b hab, fun g2 hg2 v hv => ?_, fun m hm => ?_, fun a b hab => ?_, fun r r1 r2 r3 => ?_, ?_⟩
    · rw [t68]
      have hg3 : g2 = 0 ∨ g2 = 1 := by omega
      rcases hg3 with rfl | rfl
      · exact o4 v hv
      · exact m4 v hv
    · rw [t66, t67, t68]
      by_cases hmn : m = n
      · subst hmn
        rw [if_pos rfl]
        refine Or.inr ⟨rfl, fun a b hab => (p4 a b hab).1, fun v g2 hv hg2 => ?_⟩
        have hg3 : g2 = 0 ∨ g2 = 1 := by omega
        rcases hg3 with rfl | rfl
        · exact (o4 v hv).1
        · exact (m4 v hv).1
      · rw [if_neg hmn]
        rcases sv m hm with c0 | ⟨c1, c2, c3⟩
        · exact Or.inl c0
        · refine Or.inr ⟨c1, fun a b hab => ?_, fun v g2 hv hg2 => ?_⟩
          · rw [f4.2.2.1 _ (by omega)]
            exact c2 a b hab
          · rw [f4.2.2.2.1 _ (by omega)]
            exact c3 v g2 hv hg2
    · rw [z1 a b hab, pa_1, f4.1 a b hab, ps_o (fun q => hab q.1)]
    · rw [z2, pa_o r1, f4.2.1 r r2 r3]
      rfl
    · rw [z2]
      exact f4.2.2.2.2
  · rw [h1, if_neg sm_10]
    obtain ⟨T5, q5, Q5, z1, z2⟩ := so_45 (F := F) (h := h) (l := l) (g := g) (T := si_ps S 65 3 (nI n)) hn hh hl e66
    have z2' : T5.2 = S.2 := z2
    refine ⟨T5, q5, Q5, fun a b hab => ⟨by rw [z2']; exact hsp a b hab, sv_spl_99⟩, fun g2 hg2 v hv => ⟨by rw [z2']; exact hmi v g2 hv hg2, sv_mix_99 hg2⟩, by rw [z2']; exact sv, fun a b hab => ?_, fun r _ _ _ => by rw [z2'], by rw [z2']⟩
    rw [z1 a b hab, ps_o (fun q => hab q.1)]
/-- how many weighings are needed -/
def so_N (n h l g : Nat) : Nat := if h &&& l = 0 then sv_spl n (sb_pc h) (sb_pc l) else sv_mix n (sb_pc h) g
def sb_pcs (n : Nat) (h : Nat) : Prop := sb_pc h ≤ n
theorem sb_pc_le {n h : Nat} (hn : n ≤ 12) (hh : h < 2 ^ n) : sb_pc h ≤ n := by
  unfold sb_pc
  have e := fb_ct_split (fun i => h.testBit i) n (12 - n)
  rw [Nat.add_sub_cancel' hn] at e
  rw [e]
  have h1 := fb_ct_le (fun i => h.testBit i) n
  have h2 : fb_ct (fun k => h.testBit (n + k)) (12 - n) = 0 := fb_ct_zero.mpr (fun k _ => Nat.testBit_lt_two_pow (Nat.lt_of_lt_of_le hh (Nat.pow_le_pow_right (by decide) (by omega))))
  omega
theorem sb_pc_or {n h l : Nat} (hn : n ≤ 12) (hh : h < 2 ^ n) (hl : l < 2 ^ n) (h0 : h &&& l = 0) : sb_pc h + sb_pc l ≤ n := by
  have h3 : h ||| l < 2 ^ n := Nat.or_lt_two_pow hh hl
  have e := sb_pc_le hn h3
  have e2 : sb_pc (h ||| l) = sb_pc h + sb_pc l := by
    unfold sb_pc
    have q := fb_ct_or (p := fun i => h.testBit i) (q := fun i => l.testBit i) (n := 12) (fun k _ hk => by
      have t : (h &&& l).testBit k = true := by rw [Nat.testBit_and, hk.1, hk.2]; rfl
      rw [h0, Nat.zero_testBit] at t
      cases t)
    rw [← q]
    exact fb_ct_cong (fun k _ => Nat.testBit_or ..)
  omega
theorem so_needed {F n h l g : Nat} {T : si_St} (hn : n ≤ 12) (hg : g ≤ 1) (hh : h < 2 ^ n) (hl : l < 2 ^ n) (Q : so_Q n h l g T) (sp : so_sp T n (sv_spl n)) (mi : ∀ g, g ≤ 1 → so_mi T n g (fun v => sv_mix n v g)) : f_X5_needed F T = some (nI (so_N n h l g), T) ∧ so_N n h l g ≤ 99 := by
  obtain ⟨q3, q4, q5, q6, q7, -⟩ := Q
  have hp := sb_pc_le hn hh
  unfold f_X5_needed f_X5_needed_h40 so_N
  by_cases hc : h &&& l = 0
  · have hpo := sb_pc_or hn hh hl hc
    rw [if_pos hc] at q4 q7 ⊢
    rw [q4, if_pos rfl, q6, q7, so_splitAt q3, Option.bind_some]
    try dsimp only
    rw [rd_67 (by omega), Option.bind_some, (sp _ _ hpo).1]
    exact ⟨rfl, sv_spl_99⟩
  · rw [if_neg hc] at q4 ⊢
    rw [q4, if_neg sm_10, q6, so_mixedAt q3 q5, Option.bind_some]
    try dsimp only
    rw [rd_68 (by omega), Option.bind_some, (mi g hg _ hp).1]
    exact ⟨rfl, sv_mix_99 hg⟩
/-- the class chooses a set: what stays -/
theorem so_set {F k : Nat} {S : si_St} {u : Nat → Nat → Nat} {mk : Nat} (hmk : iv_mks S mk) (hat : iv_at S u mk) (hk : k < u 3 0) (hF : 200 ≤ F) : ∃ T h l g, f_X9_chooseSet F (nI k) S = some T ∧ iv_all T ∧ (h < 2 ^ u 9 k ∧ l < 2 ^ u 9 k ∧ g ≤ 1 ∧ ((h = l) ∨ (h &&& l = 0 ∧ g = 0))) ∧ so_Q (u 9 k) h l g T ∧ so_sp T (u 9 k) (sv_spl (u 9 k)) ∧ (∀ g, g ≤ 1 → so_mi T (u 9 k) g (fun v => sv_mix (u 9 k) v g)) ∧ T.2.1 88 (661 + k) = nI h ∧ T.2.1 88 (665 + k) = nI l ∧ T.2.1 88 (669 + k) = nI g ∧ T.2.1 94 k = nI (u 9 k) ∧ T.1 87 10 = nI (u 3 0) := by
  obtain ⟨g0, g1, g2, g3, g4, g5, g6, ⟨-, hq⟩, g8, g9, g10, g11⟩ := id hat
  have hm := iv_mkof hmk
  have hu4 := g0.2.2.2.1
  obtain ⟨q91, q92, q93⟩ := g0.2.2.2.2.2.2.1 k hk
  have c6 : S.2.1 (mk + 6) k = nI (u 9 k) := (g1.2.2.2.1 k hk).1
  have c94 : S.2.1 94 k = nI (u 9 k) := (g2.2.2.2.2.2.2.1 k hk).1
  obtain ⟨h, l, g, w, p1, b1, p2, b2, p3, b3, p4, b4, hhn, hln, -, hg1, hor, -⟩ := hq k hk
  have p1' : S.2.1 17 k = nI h := p1
  have p2' : S.2.1 18 k = nI l := p2
  have p3' : S.2.1 19 k = nI g := p3
  obtain ⟨T, e, Q, sp, mi, sv, x1, x2, x3⟩ := so_choose (F := F) (g := g) q92 hhn hln hF g11
  have eE : iv_sE iv_xsT iv_xaT S T := ⟨fun a b hab _ => x1 a b (fun h65 => by
    rw [h65] at hab
    unfold iv_rs at hab
    simp only [decide_eq_true_eq, List.mem_cons, Prod.mk.injEq, List.not_mem_nil, or_false] at hab
    omega), fun r hr hx => x2 r (fun q => hx (q ▸ by decide)) (fun q => hx (q ▸ by decide)) (fun q => hx (q ▸ by decide)), by rw [x3], by rw [x3], by rw [x3], by rw [x3]⟩
  have s88 : T.2.1 88 = S.2.1 88 := x2 88 (by decide) (by decide) (by decide)
  refine ⟨T, h, l, g, ?_, ⟨u, mk, hmk.go eE, hat.goT hm.2 eE sv⟩, ⟨hhn, hln, hg1, hor.imp (fun h => h.1) (fun h => h)⟩, Q, sp, mi, by rw [s88]; exact b1, by rw [s88]; exact b2, by rw [s88]; exact b3, by rw [x2 94 (by decide) (by decide) (by decide)]; exact c94, by rw [x1 87 10 (by decide)]; exact g2.2.2.2.1⟩
  unfold f_X9_chooseSet
  rw [hm.1, Option.bind_some, rd_m6 hm.2 (by omega), Option.bind_some, c6, rd_17 (by omega), Option.bind_some, p1', rd_18 (by omega), Option.bind_some, p2', rd_19 (by omega), Option.bind_some, p3', e, Option.bind_some]
theorem so_mfs {B T : si_St} (h : so_mf B T) : iv_same B T := ⟨fun _ _ _ => by rw [h.1], fun k hk => h.2.1 k (fun q => by rw [q] at hk; exact absurd hk (by decide)) (fun q => by rw [q] at hk; exact absurd hk (by decide)), by rw [h.2.2], by rw [h.2.2], by rw [h.2.2], by rw [h.2.2]⟩
theorem so_orNone {F N : Nat} {T : si_St} (hN : N ≤ 99) : f_X9_orNone F (nI N) T = some (if N = 99 then -2 else nI N, T) := by
  unfold f_X9_orNone f_X9_orNone_h12
  by_cases h : N = 99
  · rw [if_pos (show nI N = 99 by rw [h]; rfl), if_pos h]
  · rw [if_neg (show ¬ nI N = 99 from sm_ne (b := 99) h (by omega) (by decide)), if_neg h]
