-- WHAT A PURE METHOD LEAVES: cells outside the list stay; 1000 stands for the two references of the class's object
def sd_on (L : List Nat) (S S' : si_St) : Prop := (∀ k, k ∉ L → (∀ j, S'.1 k j = S.1 k j) ∧ S'.2.1 k = S.2.1 k ∧ S'.2.2.1 k = S.2.2.1 k) ∧ (1000 ∉ L → S'.2.2.2 0 = S.2.2.2 0 ∧ S'.2.2.2 1 = S.2.2.2 1) ∧ ∀ d, 2 ≤ d → S'.2.2.2 d = S.2.2.2 d
theorem sd_on.rf {L : List Nat} {S : si_St} : sd_on L S S := ⟨fun _ _ => ⟨fun _ => rfl, rfl, rfl⟩, fun _ => ⟨rfl, rfl⟩, fun _ _ => rfl⟩
theorem sd_on.tr {L : List Nat} {S S1 S2 : si_St} (h : sd_on L S S1) (h2 : sd_on L S1 S2) : sd_on L S S2 := by
  refine ⟨fun k hk => ?_, fun hk => ?_, fun d hd => (h2.2.2 d hd).trans (h.2.2 d hd)⟩
  · obtain ⟨a1, a2, a3⟩ := h.1 k hk
    obtain ⟨b1, b2, b3⟩ := h2.1 k hk
    exact ⟨fun j => (b1 j).trans (a1 j), b2.trans a2, b3.trans a3⟩
  · obtain ⟨a1, a2⟩ := h.2.1 hk
    obtain ⟨b1, b2⟩ := h2.2.1 hk
    exact ⟨b1.trans a1, b2.trans a2⟩
theorem sd_on.mono {A B : List Nat} {S S1 : si_St} (h : sd_on A S S1) (hs : ∀ k ∈ A, k ∈ B) : sd_on B S S1 := ⟨fun k hk => h.1 k (fun h9 => hk (hs k h9)), fun hk => h.2.1 (fun h9 => hk (hs _ h9)), h.2.2⟩
theorem sd_on.le {L : List Nat} {S S1 : si_St} (h : sd_on L S S1) : sd_le S S1 := ⟨Nat.le_of_eq (h.2.2 9000 (by decide)).symm, Nat.le_of_eq (h.2.2 9001 (by decide)).symm⟩
theorem sd_mkin {k j : Nat} {L : List Nat} (h : si_kd k = 2) (hj : j < 9) (hL : ∀ a ∈ List.range' 69 18, a ∈ L) : k + j ∈ L := by
  have h2 : k = 69 ∨ k = 78 := by
    have h3 := si_kd_lt h (by decide)
    have key : ∀ k, k < 87 → si_kd k = 2 → k = 69 ∨ k = 78 := by decide +kernel
    exact key k h3 h
  exact hL _ (List.mem_range'_1.mpr ⟨by omega, by omega⟩)
theorem sd_mkin0 {k : Nat} {L : List Nat} (h : si_kd k = 2) (hL : ∀ a ∈ List.range' 69 18, a ∈ L) : k ∈ L := sd_mkin (j := 0) h (by decide) hL
theorem on_ps {S : si_St} {L : List Nat} {k j : Nat} {v : Int32} (hm : k ∈ L) : sd_on L S (si_ps S k j v) := ⟨fun a ha => ⟨fun b => if_neg (fun h9 => ha (by rw [h9.1]; exact hm)), rfl, rfl⟩, fun _ => ⟨rfl, rfl⟩, fun _ _ => rfl⟩
theorem on_pa {S : si_St} {L : List Nat} {k j : Nat} {v : Int32} (hm : k ∈ L) : sd_on L S (si_pa S k j v) := ⟨fun a ha => ⟨fun _ => rfl, funext fun b => if_neg (fun h9 => ha (by rw [h9.1]; exact hm)), rfl⟩, fun _ => ⟨rfl, rfl⟩, fun _ _ => rfl⟩
theorem on_pl {S : si_St} {L : List Nat} {k j : Nat} {v : Int64} (hm : k ∈ L) : sd_on L S (si_pl S k j v) := ⟨fun a ha => ⟨fun _ => rfl, rfl, funext fun b => if_neg (fun h9 => ha (by rw [h9.1]; exact hm))⟩, fun _ => ⟨rfl, rfl⟩, fun _ _ => rfl⟩
theorem on_pt {S S' : si_St} {L : List Nat} {k j : Nat} {v : Int32} (h : si_pt S k j v = some S') (hm : k ∈ L) : sd_on L S S' := by
  obtain rfl := Option.some.inj h
  exact on_ps hm
theorem on_pz {S S' : si_St} {L : List Nat} {k j : Nat} {v : Int32} (h : si_pz S k j v = some S') (hm : k ∈ L) : sd_on L S S' := by
  obtain ⟨-, rfl⟩ := sd_if h
  exact on_ps hm
theorem on_pm {S S' : si_St} {L : List Nat} {d k : Nat} (h : si_pm S d k = some S') (hm : 1000 ∈ L) (hd : d < 2 := by decide) : sd_on L S S' := by
  obtain rfl := Option.some.inj h
  exact ⟨fun _ _ => ⟨fun _ => rfl, rfl, rfl⟩, fun h9 => absurd hm h9, fun a ha => if_neg (by omega)⟩
theorem on_wr {S S' : si_St} {L : List Nat} {k : Nat} {i v : Int32} (h : si_wr S k i v = some S') (hm : k ∈ L) : sd_on L S S' := by
  obtain ⟨-, rfl⟩ := sd_ifn h
  exact on_pa hm
theorem on_wz {S S' : si_St} {L : List Nat} {k : Nat} {i v : Int32} (h : si_wz S k i v = some S') (hm : k ∈ L) : sd_on L S S' := by
  unfold si_wz at h
  by_cases hz : v = 0 ∨ v = 1
  · rw [if_pos hz] at h
    exact on_wr h hm
  · rw [if_neg hz] at h
    cases h
theorem on_wl {S S' : si_St} {L : List Nat} {k : Nat} {i : Int32} {v : Int64} (h : si_wl S k i v = some S') (hm : k ∈ L) : sd_on L S S' := by
  obtain ⟨-, rfl⟩ := sd_ifn h
  exact on_pl hm
theorem on_cpi {S S' : si_St} {L : List Nat} {k0 k1 : Nat} {sp dp n : Int32} (h : si_cpi S k0 sp k1 dp n = some S') (hm : k1 ∈ L) : sd_on L S S' := by
  obtain ⟨-, rfl⟩ := sd_if h
  exact ⟨fun a ha => ⟨fun _ => rfl, funext fun b => if_neg (fun h9 => ha (by rw [h9.1]; exact hm)), rfl⟩, fun _ => ⟨rfl, rfl⟩, fun _ _ => rfl⟩
theorem on_cpl {S S' : si_St} {L : List Nat} {k0 k1 : Nat} {sp dp n : Int32} (h : si_cpl S k0 sp k1 dp n = some S') (hm : k1 ∈ L) : sd_on L S S' := by
  obtain ⟨-, rfl⟩ := sd_if h
  exact ⟨fun a ha => ⟨fun _ => rfl, rfl, funext fun b => if_neg (fun h9 => ha (by rw [h9.1]; exact hm))⟩, fun _ => ⟨rfl, rfl⟩, fun _ _ => rfl⟩
-- small things that the walks below need
theorem sd_kd101 (d : Nat) : sd_kd (101 + d) = 12 := by
  unfold sd_kd
  rw [List.getD_eq_getElem?_getD, List.getElem?_eq_none (by show 14 ≤ 101 + d - 87; omega)]
  rfl
def al_L_isEnough (d : Nat) : Nat → Bool := fun a => decide (101 ≤ a ∧ a < 101 + d)
theorem sd_zv20 : ∀ j, j < 4 → defaultValue (tyJ4 j) = vp_V ((sd_fl 20).map fun t => match t with | none => Value.int 0 | some _ => .null) j := by
  intro j hj
  match j, hj with
  | 0, _ => rfl
  | 1, _ => rfl
  | 2, _ => rfl
  | 3, _ => rfl
  | k + 4, h => exact absurd h (by omega)
theorem sd_zv21 : ∀ j, j < 4 → defaultValue (tyJ0 j) = vp_V ((sd_fl 21).map fun t => match t with | none => Value.int 0 | some _ => .null) j := by
  intro j hj
  match j, hj with
  | 0, _ => rfl
  | 1, _ => rfl
  | 2, _ => rfl
  | 3, _ => rfl
  | k + 4, h => exact absurd h (by omega)
theorem sd_zv22 : ∀ j, j < 5 → defaultValue (tyX10 j) = vp_V ((sd_fl 22).map fun t => match t with | none => Value.int 0 | some _ => .null) j := by
  intro j hj
  match j, hj with
  | 0, _ => rfl
  | 1, _ => rfl
  | 2, _ => rfl
  | 3, _ => rfl
  | 4, _ => rfl
  | k + 5, h => exact absurd h (by omega)
