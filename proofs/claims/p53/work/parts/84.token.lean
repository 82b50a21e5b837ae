/-! parse: tokens -/
def fx (c : Nat) (js : List Nat) (S T : si_St) : Prop := T.2 = S.2 ∧ ∀ a j, ¬ (a = c ∧ j ∈ js) → T.1 a j = S.1 a j
theorem fx.rf {c : Nat} {js : List Nat} (S : si_St) : fx c js S S := ⟨rfl, fun _ _ _ => rfl⟩
theorem fx.tr {c : Nat} {js : List Nat} {S T U : si_St} (h1 : fx c js S T) (h2 : fx c js T U) : fx c js S U := ⟨h2.1.trans h1.1, fun a j h => (h2.2 a j h).trans (h1.2 a j h)⟩
theorem fx.ps {c j : Nat} {js : List Nat} {S : si_St} {v : Int32} (h : j ∈ js) : fx c js S (si_ps S c j v) := ⟨rfl, fun a i hn => ps_o (fun e => hn ⟨e.1, e.2 ▸ h⟩)⟩
theorem fx.mo {c : Nat} {js ks : List Nat} {S T : si_St} (hs : ∀ j, j ∈ js → j ∈ ks) (h : fx c js S T) : fx c ks S T := ⟨h.1, fun a j hn => h.2 a j (fun e => hn ⟨e.1, hs j e.2⟩)⟩
theorem tk_nlt {a b : Nat} (h : a ≤ b) (hb : b < 2 ^ 31) : ¬ nI b < nI a := fun h2 => by
  have := (nI_ltI hb (by omega)).mp h2
  omega
def tk_bl (k : Nat) : Bool := decide (k = 32 ∨ k = 10)
def tk_lt (k : Nat) : Bool := decide (97 ≤ k ∧ k ≤ 122)
def tk_dg (k : Nat) : Bool := decide (48 ≤ k ∧ k ≤ 57)
def rn (p : Nat → Bool) (c : Nat → Nat) : Nat → Nat → Nat
  | 0, i => i
  | d + 1, i => if p (c i) = true then rn p c d (i + 1) else i
theorem rn_ge {p : Nat → Bool} {c : Nat → Nat} : ∀ d i, i ≤ rn p c d i ∧ rn p c d i ≤ i + d ∧ ∀ j, i ≤ j → j < rn p c d i → p (c j) = true
  | 0, i => ⟨Nat.le_refl _, Nat.le_refl _, fun j h1 h2 => absurd (Nat.lt_of_le_of_lt h1 h2) (Nat.lt_irrefl _)⟩
  | d + 1, i => by
    show i ≤ (if p (c i) = true then rn p c d (i + 1) else i) ∧ (if p (c i) = true then rn p c d (i + 1) else i) ≤ _ ∧ ∀ j, i ≤ j → j < (if p (c i) = true then rn p c d (i + 1) else i) → _
    by_cases h : p (c i) = true
    · rw [if_pos h]
      obtain ⟨h1, h2, h3⟩ := rn_ge (p := p) (c := c) d (i + 1)
      refine ⟨by omega, by omega, fun j h4 h5 => ?_⟩
      by_cases hj : j = i
      · rw [hj]
        exact h
      · exact h3 j (by omega) h5
    · rw [if_neg h]
      exact ⟨Nat.le_refl _, by omega, fun j h4 h5 => by omega⟩
theorem rn_pos {p : Nat → Bool} {c : Nat → Nat} {d i : Nat} (h : p (c i) = true) (hd : 0 < d) : i + 1 ≤ rn p c d i := by
  obtain ⟨e, rfl⟩ : ∃ e, d = e + 1 := ⟨d - 1, by omega⟩
  show i + 1 ≤ (if p (c i) = true then rn p c e (i + 1) else i)
  rw [if_pos h]
  exact (rn_ge _ _).1
theorem rn_end {p : Nat → Bool} {c : Nat → Nat} : ∀ d i, rn p c d i < i + d → ¬ p (c (rn p c d i)) = true
  | 0, i, h => absurd h (Nat.lt_irrefl _)
  | d + 1, i, h => by
    have e : rn p c (d + 1) i = if p (c i) = true then rn p c d (i + 1) else i := rfl
    rw [e] at h ⊢
    by_cases hp : p (c i) = true
    · rw [if_pos hp] at h ⊢
      exact rn_end d (i + 1) (by omega)
    · rw [if_neg hp]
      exact hp
def pt (c : Nat → Nat) (N pos : Nat) : Nat × Nat × Nat :=
  if N ≤ rn tk_bl c (N - pos) pos then (rn tk_bl c (N - pos) pos, rn tk_bl c (N - pos) pos, 0)
  else if tk_lt (c (rn tk_bl c (N - pos) pos)) = true then (rn tk_bl c (N - pos) pos, rn tk_lt c (N - rn tk_bl c (N - pos) pos) (rn tk_bl c (N - pos) pos), if rn tk_lt c (N - rn tk_bl c (N - pos) pos) (rn tk_bl c (N - pos) pos) - rn tk_bl c (N - pos) pos ≤ 8 then 1 else 4)
  else if tk_dg (c (rn tk_bl c (N - pos) pos)) = true then (rn tk_bl c (N - pos) pos, rn tk_dg c (N - rn tk_bl c (N - pos) pos) (rn tk_bl c (N - pos) pos), if rn tk_dg c (N - rn tk_bl c (N - pos) pos) (rn tk_bl c (N - pos) pos) - rn tk_bl c (N - pos) pos ≤ 6 then 2 else 4)
  else (rn tk_bl c (N - pos) pos, rn tk_bl c (N - pos) pos + 1, if c (rn tk_bl c (N - pos) pos) = 59 then 3 else 4)
def wf (c : Nat → Nat) (N : Nat) (P : Nat × Nat × Nat) : Prop := P.1 ≤ P.2.1 ∧ P.2.1 ≤ N ∧ (P.2.2 ≠ 0 → P.1 < P.2.1) ∧ P.2.2 ≤ 4 ∧ (P.2.2 = 2 → P.2.1 - P.1 ≤ 6 ∧ ∀ i, P.1 ≤ i → i < P.2.1 → 48 ≤ c i ∧ c i ≤ 57)
theorem pt_wf {c : Nat → Nat} {N pos : Nat} (h : pos ≤ N) : wf c N (pt c N pos) ∧ pos ≤ (pt c N pos).1 := by
  obtain ⟨b1, b2, b3⟩ := rn_ge (p := tk_bl) (c := c) (N - pos) pos
  unfold pt
  generalize rn tk_bl c (N - pos) pos = st at *
  by_cases c1 : N ≤ st
  · rw [if_pos c1]
    exact ⟨⟨Nat.le_refl _, (show st ≤ N by omega), fun h => absurd rfl h, Nat.zero_le _, fun h => absurd (show (0 : Nat) = 2 from h) (by decide)⟩, b1⟩
  · rw [if_neg c1]
    by_cases c2 : tk_lt (c st) = true
    · rw [if_pos c2]
      obtain ⟨e1, e2, e3⟩ := rn_ge (p := tk_lt) (c := c) (N - st) st
      have e4 := rn_pos (d := N - st) c2 (by omega)
      refine ⟨⟨e1, (show rn tk_lt c (N - st) st ≤ N by omega), fun _ => e4, ?_, fun h => ?_⟩, b1⟩
      · dsimp only
        split <;> decide
      · dsimp only at h
        split at h <;> exact absurd h (by decide)
    · rw [if_neg c2]
      by_cases c3 : tk_dg (c st) = true
      · rw [if_pos c3]
        obtain ⟨e1, e2, e3⟩ := rn_ge (p := tk_dg) (c := c) (N - st) st
        have e4 := rn_pos (d := N - st) c3 (by omega)
        refine ⟨⟨e1, (show rn tk_dg c (N - st) st ≤ N by omega), fun _ => e4, ?_, fun h => ?_⟩, b1⟩
        · dsimp only
          split <;> decide
        · dsimp only at h ⊢
          by_cases c4 : rn tk_dg c (N - st) st - st ≤ 6
          · exact ⟨c4, fun i h1 h2 => of_decide_eq_true (e3 i h1 h2)⟩
          · rw [if_neg c4] at h
            exact absurd h (by decide)
      · rw [if_neg c3]
        refine ⟨⟨Nat.le_succ _, (show st + 1 ≤ N by omega), fun _ => Nat.lt_succ_self _, ?_, fun h => ?_⟩, b1⟩
        · dsimp only
          split <;> decide
        · dsimp only at h
          split at h <;> exact absurd h (by decide)
/-! the class's reader -/
theorem tA_run {F N : Nat} {c : Nat → Nat} {lo hi : Int32} {p : Nat → Bool} (hp : ∀ k, k < 256 → ((bv k < lo ∨ hi < bv k) ↔ ¬ p k = true)) (hN : N ≤ 800) (hc : ∀ i, i < N → c i < 256) : ∀ d pos n (T : si_St), pos + d = N → d < n → T.1 1 4 = nI N → (∀ i, i < N → T.2.1 2 i = bv (c i)) → T.1 1 6 = nI pos → ∃ T', f_X3_passRun_l0 F n lo hi T = some T' ∧ fx 1 [6] T T' ∧ T'.1 1 6 = nI (rn p c d pos)
  | _, _, 0, _, _, h, _, _, _ => absurd h (Nat.not_lt_zero _)
  | 0, pos, n + 1, T, h1, h2, h3, h4, h5 => by
    refine ⟨T, ?_, fx.rf T, h5⟩
    show f_X3_passRun_h0 F (f_X3_passRun_l0 F n) lo hi T = _
    unfold f_X3_passRun_h0 f_X3_passRun_h50
    rw [h3, h5, if_pos (nI_le (by omega) (by omega))]
  | d + 1, pos, n + 1, T, h1, h2, h3, h4, h5 => by
    show ∃ T', f_X3_passRun_h0 F (f_X3_passRun_l0 F n) lo hi T = _ ∧ _
    unfold f_X3_passRun_h0 f_X3_passRun_h50
    have hk := hp (c pos) (hc pos (by omega))
    rw [h3, h5, if_neg (nI_ge (by omega) (by omega)), rd_2 (by omega), Option.bind_some, h4 pos (by omega)]
    have e : rn p c (d + 1) pos = if p (c pos) = true then rn p c d (pos + 1) else pos := rfl
    rw [e]
    by_cases g1 : bv (c pos) < lo
    · rw [if_pos g1, if_neg (hk.mp (Or.inl g1))]
      exact ⟨T, rfl, fx.rf T, h5⟩
    · rw [if_neg g1, Option.bind_some]
      by_cases g2 : hi < bv (c pos)
      · rw [if_pos g2, if_neg (hk.mp (Or.inr g2))]
        exact ⟨T, rfl, fx.rf T, h5⟩
      · have g3 : p (c pos) = true := Decidable.byContradiction (fun h => (hk.mpr h).elim g1 g2)
        rw [if_neg g2, if_pos g3, sm_pt, Option.bind_some, nI_1]
        obtain ⟨T', a1, a2, a3⟩ := tA_run hp hN hc d (pos + 1) n (si_ps T 1 6 (nI (pos + 1))) (by omega) (by omega) ((ps_o (by decide)).trans h3) h4 ps_e
        exact ⟨T', a1, (fx.ps (List.mem_cons_self ..)).tr a2, a3⟩
theorem tA_bl {F N : Nat} {c : Nat → Nat} (hN : N ≤ 800) (hc : ∀ i, i < N → c i < 256) : ∀ d pos n (T : si_St), pos + d = N → d < n → T.1 1 4 = nI N → (∀ i, i < N → T.2.1 2 i = bv (c i)) → T.1 1 6 = nI pos → ∃ T', f_X3_advance_l0 F n T = f_X3_advance_h52 F T' ∧ fx 1 [6] T T' ∧ T'.1 1 6 = nI (rn tk_bl c d pos)
  | _, _, 0, _, _, h, _, _, _ => absurd h (Nat.not_lt_zero _)
  | 0, pos, n + 1, T, h1, h2, h3, h4, h5 => by
    refine ⟨T, ?_, fx.rf T, h5⟩
    show f_X3_advance_h0 F (f_X3_advance_l0 F n) T = _
    unfold f_X3_advance_h0
    rw [h3, h5, if_pos (nI_le (by omega) (by omega))]
  | d + 1, pos, n + 1, T, h1, h2, h3, h4, h5 => by
    show ∃ T', f_X3_advance_h0 F (f_X3_advance_l0 F n) T = _ ∧ _
    obtain ⟨-, -, -, b32, b10, -⟩ := bv_tab (c pos) (hc pos (by omega))
    have e : rn tk_bl c (d + 1) pos = if tk_bl (c pos) = true then rn tk_bl c d (pos + 1) else pos := rfl
    unfold f_X3_advance_h0 f_X3_advance_h39
    rw [h3, h5, if_neg (nI_ge (by omega) (by omega)), rd_2 (by omega), Option.bind_some, h4 pos (by omega), sm_pt, Option.bind_some, Option.bind_some, nI_1, e]
    have go : tk_bl (c pos) = true → ∃ T', f_X3_advance_l0 F n (si_ps T 1 6 (nI (pos + 1))) = f_X3_advance_h52 F T' ∧ fx 1 [6] T T' ∧ T'.1 1 6 = nI (if tk_bl (c pos) = true then rn tk_bl c d (pos + 1) else pos) := fun hb => by
      rw [if_pos hb]
      obtain ⟨T', a1, a2, a3⟩ := tA_bl hN hc d (pos + 1) n (si_ps T 1 6 (nI (pos + 1))) (by omega) (by omega) ((ps_o (by decide)).trans h3) h4 ps_e
      exact ⟨T', a1, (fx.ps (List.mem_cons_self ..)).tr a2, a3⟩
    by_cases g1 : c pos = 32
    · rw [if_pos (b32.mpr g1)]
      exact go (decide_eq_true (Or.inl g1))
    · rw [if_neg (fun h => g1 (b32.mp h))]
      by_cases g2 : c pos = 10
      · rw [if_pos (b10.mpr g2)]
        exact go (decide_eq_true (Or.inr g2))
      · rw [if_neg (fun h => g2 (b10.mp h)), if_neg (show ¬ tk_bl (c pos) = true from fun h => (of_decide_eq_true h).elim g1 g2)]
        exact ⟨T, rfl, fx.rf T, h5⟩
theorem tA_adv {F N pos : Nat} {c : Nat → Nat} {A : si_St} (hN : N ≤ 800) (hF : 802 ≤ F) (hc : ∀ i, i < N → c i < 256) (hpos : pos ≤ N) (h4 : A.1 1 4 = nI N) (ht : ∀ i, i < N → A.2.1 2 i = bv (c i)) (h6 : A.1 1 6 = nI pos) : ∃ A', f_X3_advance F A = some A' ∧ fx 1 [5, 6, 7] A A' ∧ A'.1 1 5 = nI (pt c N pos).1 ∧ A'.1 1 6 = nI (pt c N pos).2.1 ∧ A'.1 1 7 = nI (pt c N pos).2.2 := by
  obtain ⟨T, a1, a2, a3⟩ := tA_bl (F := F) hN hc (N - pos) pos F A (by omega) (by omega) h4 ht h6
  obtain ⟨b1, b2, b3⟩ := rn_ge (p := tk_bl) (c := c) (N - pos) pos
  have e : f_X3_advance F A = f_X3_advance_l0 F F A := rfl
  have sub : ∀ j, j ∈ [6] → j ∈ [5, 6, 7] := by decide
  have m5 : 5 ∈ [5, 6, 7] := by decide
  have m6 : 6 ∈ [5, 6, 7] := by decide
  have m7 : 7 ∈ [5, 6, 7] := by decide
  rw [e, a1]
  unfold f_X3_advance_h52 pt
  generalize rn tk_bl c (N - pos) pos = st at *
  rw [sm_pt, Option.bind_some, a3]
  have i6 : (si_ps T 1 5 (nI st)).1 1 6 = nI st := (ps_o (by decide)).trans a3
  have i4 : (si_ps T 1 5 (nI st)).1 1 4 = nI N := ((ps_o (by decide)).trans (a2.2 1 4 (by decide))).trans h4
  have f1 : fx 1 [5, 6, 7] A (si_ps T 1 5 (nI st)) := (a2.mo sub).tr (fx.ps m5)
  have it : ∀ i, i < N → (si_ps T 1 5 (nI st)).2.1 2 i = bv (c i) := fun i hi => by
    rw [f1.1]
    exact ht i hi
  have i5 : (si_ps T 1 5 (nI st)).1 1 5 = nI st := ps_e
  generalize si_ps T 1 5 (nI st) = T1 at *
  rw [i6, i4]
  by_cases c1 : N ≤ st
  · rw [if_neg (tk_nlt (by omega) (by omega)), sm_pt, if_pos c1]
    exact ⟨_, rfl, f1.tr (fx.ps m7), (ps_o (by decide)).trans i5, (ps_o (by decide)).trans i6, ps_e⟩
  · obtain ⟨-, v97, v122, -, -, v48, v57, v59, -⟩ := bv_tab (c st) (hc st (by omega))
    rw [if_pos (nI_lt (by omega) (by omega)), rd_2 (by omega), Option.bind_some, it st (by omega), if_neg c1]
    unfold f_X3_advance_h133 f_X3_advance_h179 f_X3_advance_h127 f_X3_advance_h173 f_X3_advance_h201 f_X3_advance_h204
    by_cases c2 : tk_lt (c st) = true
    · obtain ⟨d1, d2⟩ := of_decide_eq_true c2
      rw [if_neg (fun h => by have := v97.mp h; omega), if_neg (fun h => by have := v122.mp h; omega), if_pos c2]
      obtain ⟨T2, r1, r2, r3⟩ := tA_run (F := F) (lo := 97) (hi := 122) (p := tk_lt) (fun k hk => by
        obtain ⟨-, w97, w122, -⟩ := bv_tab k hk
        rw [w97, w122]
        unfold tk_lt
        rw [decide_eq_true_iff]
        omega) hN hc (N - st) st F T1 (by omega) (by omega) i4 it i6
      obtain ⟨e1, e2, e3⟩ := rn_ge (p := tk_lt) (c := c) (N - st) st
      have r5 : T2.1 1 5 = nI st := (r2.2 1 5 (by decide)).trans i5
      have e0 : f_X3_passRun F 97 122 T1 = some T2 := r1
      rw [e0, Option.bind_some, r3, r5, sm_sub e1]
      by_cases c3 : rn tk_lt c (N - st) st - st ≤ 8
      · rw [if_neg (show ¬ 8 < nI (rn tk_lt c (N - st) st - st) from tk_nlt (b := 8) c3 (by decide)), sm_pt, Option.bind_some, if_pos c3]
        exact ⟨_, rfl, (f1.tr (r2.mo sub)).tr (fx.ps m7), (ps_o (by decide)).trans r5, (ps_o (by decide)).trans r3, ps_e⟩
      · rw [if_pos (show 8 < nI (rn tk_lt c (N - st) st - st) from nI_lt (a := 8) (by omega) (by omega)), sm_pt, Option.bind_some, if_neg c3]
        exact ⟨_, rfl, (f1.tr (r2.mo sub)).tr (fx.ps m7), (ps_o (by decide)).trans r5, (ps_o (by decide)).trans r3, ps_e⟩
    · rw [if_neg c2]
      have c2' : ¬ (97 ≤ c st ∧ c st ≤ 122) := fun h => c2 (decide_eq_true h)
      have sw : ∀ X Y : Option si_St, (if bv (c st) < 97 then X else if 122 < bv (c st) then X else Y) = X := fun X Y => by
        by_cases g1 : bv (c st) < 97
        · rw [if_pos g1]
        · rw [if_neg g1, if_pos (by
            rw [v122]
            rw [v97] at g1
            omega)]
      rw [sw]
      by_cases c3 : tk_dg (c st) = true
      · obtain ⟨d1, d2⟩ := of_decide_eq_true c3
        rw [if_neg (fun h => by have := v48.mp h; omega), if_neg (fun h => by have := v57.mp h; omega), if_pos c3]
        obtain ⟨T2, r1, r2, r3⟩ := tA_run (F := F) (lo := 48) (hi := 57) (p := tk_dg) (fun k hk => by
          obtain ⟨-, -, -, -, -, w97, w122, -⟩ := bv_tab k hk
          rw [w97, w122]
          unfold tk_dg
          rw [decide_eq_true_iff]
          omega) hN hc (N - st) st F T1 (by omega) (by omega) i4 it i6
        obtain ⟨e1, e2, e3⟩ := rn_ge (p := tk_dg) (c := c) (N - st) st
        have r5 : T2.1 1 5 = nI st := (r2.2 1 5 (by decide)).trans i5
        have e0 : f_X3_passRun F 48 57 T1 = some T2 := r1
        rw [e0, Option.bind_some, r3, r5, sm_sub e1]
        by_cases c4 : rn tk_dg c (N - st) st - st ≤ 6
        · rw [if_neg (show ¬ 6 < nI (rn tk_dg c (N - st) st - st) from tk_nlt (b := 6) c4 (by decide)), sm_pt, Option.bind_some, if_pos c4]
          exact ⟨_, rfl, (f1.tr (r2.mo sub)).tr (fx.ps m7), (ps_o (by decide)).trans r5, (ps_o (by decide)).trans r3, ps_e⟩
        · rw [if_pos (show 6 < nI (rn tk_dg c (N - st) st - st) from nI_lt (a := 6) (by omega) (by omega)), sm_pt, Option.bind_some, if_neg c4]
          exact ⟨_, rfl, (f1.tr (r2.mo sub)).tr (fx.ps m7), (ps_o (by decide)).trans r5, (ps_o (by decide)).trans r3, ps_e⟩
      · rw [if_neg c3]
        have c3' : ¬ (48 ≤ c st ∧ c st ≤ 57) := fun h => c3 (decide_eq_true h)
        have sw2 : ∀ X Y : Option si_St, (if bv (c st) < 48 then X else if 57 < bv (c st) then X else Y) = X := fun X Y => by
          by_cases g1 : bv (c st) < 48
          · rw [if_pos g1]
          · rw [if_neg g1, if_pos (by
              rw [v57]
              rw [v48] at g1
              omega)]
        rw [sw2, sm_pt, Option.bind_some, i6, nI_1]
        have f2 : fx 1 [5, 6, 7] A (si_ps T1 1 6 (nI (st + 1))) := f1.tr (fx.ps m6)
        have j5 : (si_ps T1 1 6 (nI (st + 1))).1 1 5 = nI st := (ps_o (by decide)).trans i5
        by_cases c4 : c st = 59
        · rw [if_pos (v59.mpr c4), sm_pt, Option.bind_some, if_pos c4]
          exact ⟨_, rfl, f2.tr (fx.ps m7), (ps_o (by decide)).trans j5, (ps_o (by decide)).trans ps_e, ps_e⟩
        · rw [if_neg (fun h => c4 (v59.mp h)), sm_pt, Option.bind_some, if_neg c4]
          exact ⟨_, rfl, f2.tr (fx.ps m7), (ps_o (by decide)).trans j5, (ps_o (by decide)).trans ps_e, ps_e⟩

