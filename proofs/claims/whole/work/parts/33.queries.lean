theorem st_trader {F : Nat} {x : Int32} : st_ok (f_X9_trader F x) (f_X10_trader F x) := by
  intro S h
  obtain ⟨u, mk, hmk, g0, g1, g2, g3, g4, g5, g6, ⟨⟨V, hV, hc, hn, hv⟩, hq⟩, -⟩ := id h
  have e := h.go (iv_th S)
  have hbd := g0.2.1
  rcases sm_cases x (u 1 0) (by omega) with ⟨i, hi, rfl⟩ | hno
  · have g := g1.2.1 i hi; have gm := g2.2.2.2.2.1 i hi
    have ec := g.1
    have em := gm.1
    refine ⟨nI (u 4 i), S, si_ps S 87 0 0, ?_, ?_, e⟩
    · unfold f_X9_trader f_X9_trader_h21
      rw [f9_hasScale (iv_mkof hmk).1 (g1.1 1 (by decide)) (by have := g0.2.1; omega), if_pos (sm_in hi (by omega))]
      show Option.bind (si_mk S 0 2) _ = _
      rw [(iv_mkof hmk).1]
      show Option.bind (si_rd S (mk + 1) (nI i)) _ = _
      rw [sm_rd (by rcases (iv_mkof hmk).2 with rfl | rfl <;> exact (show i < 24 by omega)) (by rcases (iv_mkof hmk).2 with rfl | rfl <;> decide)]
      exact congrArg (fun z => some (z, S)) ec
    · unfold f_X10_trader f_X10_trader_h23
      rw [iv_pt0]
      show Option.bind (f_X10_isScale F (nI i) (si_ps S 87 0 0)) _ = _
      rw [f10_isScale (S := si_ps S 87 0 0) (n := u 1 0) g2.2.1 (by have := g0.2.1; omega), if_pos (sm_in hi (by omega))]
      show Option.bind (si_rd (si_ps S 87 0 0) 89 (nI i)) _ = _
      rw [sm_rd (show i < 24 by omega) (by decide)]
      exact congrArg (fun z => some (z, si_ps S 87 0 0)) em
  · refine ⟨-1, S, si_ps S 87 0 0, ?_, ?_, e⟩
    · unfold f_X9_trader
      rw [f9_hasScale (iv_mkof hmk).1 (g1.1 1 (by decide)) (by have := g0.2.1; omega), if_neg hno]
      rfl
    · unfold f_X10_trader
      rw [iv_pt0]
      show Option.bind (f_X10_isScale F x (si_ps S 87 0 0)) _ = _
      rw [f10_isScale (S := si_ps S 87 0 0) (n := u 1 0) g2.2.1 (by have := g0.2.1; omega), if_neg hno]
      rfl
theorem st_capacity {F : Nat} {x : Int32} : st_ok (f_X9_capacity F x) (f_X10_capacity F x) := by
  intro S h
  obtain ⟨u, mk, hmk, g0, g1, g2, g3, g4, g5, g6, ⟨⟨V, hV, hc, hn, hv⟩, hq⟩, -⟩ := id h
  have e := h.go (iv_th S)
  have hbd := g0.2.1
  rcases sm_cases x (u 1 0) (by omega) with ⟨i, hi, rfl⟩ | hno
  · have g := g1.2.1 i hi; have gm := g2.2.2.2.2.1 i hi
    have ec := g.2.2.2
    have em := gm.2.2.2
    refine ⟨nI (u 7 i), S, si_ps S 87 0 0, ?_, ?_, e⟩
    · unfold f_X9_capacity f_X9_capacity_h21
      rw [f9_hasScale (iv_mkof hmk).1 (g1.1 1 (by decide)) (by have := g0.2.1; omega), if_pos (sm_in hi (by omega))]
      show Option.bind (si_mk S 0 2) _ = _
      rw [(iv_mkof hmk).1]
      show Option.bind (si_rd S (mk + 4) (nI i)) _ = _
      rw [sm_rd (by rcases (iv_mkof hmk).2 with rfl | rfl <;> exact (show i < 24 by omega)) (by rcases (iv_mkof hmk).2 with rfl | rfl <;> decide)]
      exact congrArg (fun z => some (z, S)) ec
    · unfold f_X10_capacity f_X10_capacity_h23
      rw [iv_pt0]
      show Option.bind (f_X10_isScale F (nI i) (si_ps S 87 0 0)) _ = _
      rw [f10_isScale (S := si_ps S 87 0 0) (n := u 1 0) g2.2.1 (by have := g0.2.1; omega), if_pos (sm_in hi (by omega))]
      show Option.bind (si_rd (si_ps S 87 0 0) 92 (nI i)) _ = _
      rw [sm_rd (show i < 24 by omega) (by decide)]
      exact congrArg (fun z => some (z, si_ps S 87 0 0)) em
  · refine ⟨-1, S, si_ps S 87 0 0, ?_, ?_, e⟩
    · unfold f_X9_capacity
      rw [f9_hasScale (iv_mkof hmk).1 (g1.1 1 (by decide)) (by have := g0.2.1; omega), if_neg hno]
      rfl
    · unfold f_X10_capacity
      rw [iv_pt0]
      show Option.bind (f_X10_isScale F x (si_ps S 87 0 0)) _ = _
      rw [f10_isScale (S := si_ps S 87 0 0) (n := u 1 0) g2.2.1 (by have := g0.2.1; omega), if_neg hno]
      rfl
theorem st_visitScale {F : Nat} {x : Int32} : st_ok (f_X9_visitScale F x) (f_X10_visitScale F x) := by
  intro S h
  obtain ⟨u, mk, hmk, g0, g1, g2, g3, g4, g5, g6, ⟨⟨V, hV, hc, hn, hv⟩, hq⟩, -⟩ := id h
  have e := h.go (iv_th S)
  have hbd := hV
  rcases sm_cases x (V) (by omega) with ⟨i, hi, rfl⟩ | hno
  · obtain ⟨⟨s, hs, a1, m1, n, hn8, a5, m5, -⟩, -, ⟨b, hb, a3, m3⟩, -⟩ := hv i hi
    have ec := a1
    have em := m1
    refine ⟨nI s, S, si_ps S 87 0 0, ?_, ?_, e⟩
    · unfold f_X9_visitScale f_X9_visitScale_h21
      rw [f9_hasVisit hc (by omega), if_pos (sm_in hi (by omega))]
      show Option.bind (si_rd S 8 (nI i)) _ = _
      rw [sm_rd (show i < 30 by omega) (by decide)]
      exact congrArg (fun z => some (z, S)) ec
    · unfold f_X10_visitScale f_X10_visitScale_h25
      rw [iv_pt0]
      show Option.bind (f_X10_isVisit F (nI i) (si_ps S 87 0 0)) _ = _
      rw [f10_isVisit (S := si_ps S 87 0 0) (n := V) hn (by omega), if_pos (sm_in hi (by omega))]
      show Option.bind (si_rd (si_ps S 87 0 0) 88 (nI 1 + nI i)) _ = _
      rw [nI_add, sm_rd (show 1 + i < 677 by omega) (by decide)]
      exact congrArg (fun z => some (z, si_ps S 87 0 0)) em
  · refine ⟨-1, S, si_ps S 87 0 0, ?_, ?_, e⟩
    · unfold f_X9_visitScale
      rw [f9_hasVisit hc (by omega), if_neg hno]
      rfl
    · unfold f_X10_visitScale
      rw [iv_pt0]
      show Option.bind (f_X10_isVisit F x (si_ps S 87 0 0)) _ = _
      rw [f10_isVisit (S := si_ps S 87 0 0) (n := V) hn (by omega), if_neg hno]
      rfl
theorem st_isInService {F : Nat} {x : Int32} : st_ok (f_X9_isInService F x) (f_X10_isInService F x) := by
  intro S h
  obtain ⟨u, mk, hmk, g0, g1, g2, g3, g4, g5, g6, ⟨⟨V, hV, hc, hn, hv⟩, hq⟩, -⟩ := id h
  have e := h.go (iv_th S)
  have hbd := hV
  rcases sm_cases x (V) (by omega) with ⟨i, hi, rfl⟩ | hno
  · obtain ⟨⟨s, hs, a1, m1, n, hn8, a5, m5, -⟩, -, ⟨b, hb, a3, m3⟩, -⟩ := hv i hi
    have ec := a3
    have em := m3
    refine ⟨nI b, S, si_ps S 87 0 0, ?_, ?_, e⟩
    · unfold f_X9_isInService f_X9_isInService_h21
      rw [f9_hasVisit hc (by omega), if_pos (sm_in hi (by omega))]
      show Option.bind (si_rd S 10 (nI i)) _ = _
      rw [sm_rd (show i < 30 by omega) (by decide)]
      exact congrArg (fun z => some (z, S)) ec
    · unfold f_X10_isInService f_X10_isInService_h26
      rw [iv_pt0]
      show Option.bind (f_X10_isVisit F (nI i) (si_ps S 87 0 0)) _ = _
      rw [f10_isVisit (S := si_ps S 87 0 0) (n := V) hn (by omega), if_pos (sm_in hi (by omega))]
      show Option.bind (si_rd (si_ps S 87 0 0) 88 (nI 121 + nI i)) _ = _
      rw [nI_add, sm_rd (show 121 + i < 677 by omega) (by decide)]
      exact congrArg (fun z => some (z, si_ps S 87 0 0)) em
  · refine ⟨-1, S, si_ps S 87 0 0, ?_, ?_, e⟩
    · unfold f_X9_isInService
      rw [f9_hasVisit hc (by omega), if_neg hno]
      rfl
    · unfold f_X10_isInService
      rw [iv_pt0]
      show Option.bind (f_X10_isVisit F x (si_ps S 87 0 0)) _ = _
      rw [f10_isVisit (S := si_ps S 87 0 0) (n := V) hn (by omega), if_neg hno]
      rfl
theorem st_testCount {F : Nat} {x : Int32} : st_ok (f_X9_testCount F x) (f_X10_testCount F x) := by
  intro S h
  obtain ⟨u, mk, hmk, g0, g1, g2, g3, g4, g5, g6, ⟨⟨V, hV, hc, hn, hv⟩, hq⟩, -⟩ := id h
  have e := h.go (iv_th S)
  have hbd := hV
  rcases sm_cases x (V) (by omega) with ⟨i, hi, rfl⟩ | hno
  · obtain ⟨⟨s, hs, a1, m1, n, hn8, a5, m5, -⟩, -, ⟨b, hb, a3, m3⟩, -⟩ := hv i hi
    have ec := a5
    have em := m5
    refine ⟨nI n, S, si_ps S 87 0 0, ?_, ?_, e⟩
    · unfold f_X9_testCount f_X9_testCount_h21
      rw [f9_hasVisit hc (by omega), if_pos (sm_in hi (by omega))]
      show Option.bind (si_rd S 12 (nI i)) _ = _
      rw [sm_rd (show i < 30 by omega) (by decide)]
      exact congrArg (fun z => some (z, S)) ec
    · unfold f_X10_testCount f_X10_testCount_h27
      rw [iv_pt0]
      show Option.bind (f_X10_isVisit F (nI i) (si_ps S 87 0 0)) _ = _
      rw [f10_isVisit (S := si_ps S 87 0 0) (n := V) hn (by omega), if_pos (sm_in hi (by omega))]
      show Option.bind (si_rd (si_ps S 87 0 0) 88 (nI 151 + nI i)) _ = _
      rw [nI_add, sm_rd (show 151 + i < 677 by omega) (by decide)]
      exact congrArg (fun z => some (z, si_ps S 87 0 0)) em
  · refine ⟨-1, S, si_ps S 87 0 0, ?_, ?_, e⟩
    · unfold f_X9_testCount
      rw [f9_hasVisit hc (by omega), if_neg hno]
      rfl
    · unfold f_X10_testCount
      rw [iv_pt0]
      show Option.bind (f_X10_isVisit F x (si_ps S 87 0 0)) _ = _
      rw [f10_isVisit (S := si_ps S 87 0 0) (n := V) hn (by omega), if_neg hno]
      rfl
theorem st_weighingCount {F : Nat} {x : Int32} : st_ok (f_X9_weighingCount F x) (f_X10_weighingCount F x) := by
  intro S h
  obtain ⟨u, mk, hmk, g0, g1, g2, g3, g4, g5, g6, ⟨⟨V, hV, hc, hn, hv⟩, hq⟩, -⟩ := id h
  have e := h.go (iv_th S)
  have hbd := g0.2.2.2.1
  rcases sm_cases x (u 3 0) (by omega) with ⟨i, hi, rfl⟩ | hno
  · obtain ⟨hh, ll, gg, ww, b1, c1, b2, c2, b3, c3, b4, c4, -⟩ := hq i hi
    have ec := b4
    have em := c4
    refine ⟨nI ww, S, si_ps S 87 0 0, ?_, ?_, e⟩
    · unfold f_X9_weighingCount f_X9_weighingCount_h21
      rw [f9_hasSet (iv_mkof hmk).1 (g1.1 3 (by decide)) (by have := g0.2.2.2.1; omega), if_pos (sm_in hi (by omega))]
      show Option.bind (si_rd S 20 (nI i)) _ = _
      rw [sm_rd (show i < 4 by omega) (by decide)]
      exact congrArg (fun z => some (z, S)) ec
    · unfold f_X10_weighingCount f_X10_weighingCount_h27
      rw [iv_pt0]
      show Option.bind (f_X10_isSet F (nI i) (si_ps S 87 0 0)) _ = _
      rw [f10_isSet (S := si_ps S 87 0 0) (n := u 3 0) g2.2.2.2.1 (by have := g0.2.2.2.1; omega), if_pos (sm_in hi (by omega))]
      show Option.bind (si_rd (si_ps S 87 0 0) 88 (nI 673 + nI i)) _ = _
      rw [nI_add, sm_rd (show 673 + i < 677 by omega) (by decide)]
      exact congrArg (fun z => some (z, si_ps S 87 0 0)) em
  · refine ⟨-1, S, si_ps S 87 0 0, ?_, ?_, e⟩
    · unfold f_X9_weighingCount
      rw [f9_hasSet (iv_mkof hmk).1 (g1.1 3 (by decide)) (by have := g0.2.2.2.1; omega), if_neg hno]
      rfl
    · unfold f_X10_weighingCount
      rw [iv_pt0]
      show Option.bind (f_X10_isSet F x (si_ps S 87 0 0)) _ = _
      rw [f10_isSet (S := si_ps S 87 0 0) (n := u 3 0) g2.2.2.2.1 (by have := g0.2.2.2.1; omega), if_neg hno]
      rfl
theorem st_heavySuspects {F : Nat} {x : Int32} : st_ok (f_X9_heavySuspects F x) (f_X10_heavySuspects F x) := by
  intro S h
  obtain ⟨u, mk, hmk, g0, g1, g2, g3, g4, g5, g6, ⟨⟨V, hV, hc, hn, hv⟩, hq⟩, -⟩ := id h
  have e := h.go (iv_th S)
  have hbd := g0.2.2.2.1
  rcases sm_cases x (u 3 0) (by omega) with ⟨i, hi, rfl⟩ | hno
  · obtain ⟨hh, ll, gg, ww, b1, c1, b2, c2, b3, c3, b4, c4, -⟩ := hq i hi
    have ec := b1
    have em := c1
    refine ⟨nI hh, S, si_ps S 87 0 0, ?_, ?_, e⟩
    · unfold f_X9_heavySuspects f_X9_heavySuspects_h21
      rw [f9_hasSet (iv_mkof hmk).1 (g1.1 3 (by decide)) (by have := g0.2.2.2.1; omega), if_pos (sm_in hi (by omega))]
      show Option.bind (si_rd S 17 (nI i)) _ = _
      rw [sm_rd (show i < 4 by omega) (by decide)]
      exact congrArg (fun z => some (z, S)) ec
    · unfold f_X10_heavySuspects f_X10_heavySuspects_h27
      rw [iv_pt0]
      show Option.bind (f_X10_isSet F (nI i) (si_ps S 87 0 0)) _ = _
      rw [f10_isSet (S := si_ps S 87 0 0) (n := u 3 0) g2.2.2.2.1 (by have := g0.2.2.2.1; omega), if_pos (sm_in hi (by omega))]
      show Option.bind (si_rd (si_ps S 87 0 0) 88 (nI 661 + nI i)) _ = _
      rw [nI_add, sm_rd (show 661 + i < 677 by omega) (by decide)]
      exact congrArg (fun z => some (z, si_ps S 87 0 0)) em
  · refine ⟨-1, S, si_ps S 87 0 0, ?_, ?_, e⟩
    · unfold f_X9_heavySuspects
      rw [f9_hasSet (iv_mkof hmk).1 (g1.1 3 (by decide)) (by have := g0.2.2.2.1; omega), if_neg hno]
      rfl
    · unfold f_X10_heavySuspects
      rw [iv_pt0]
      show Option.bind (f_X10_isSet F x (si_ps S 87 0 0)) _ = _
      rw [f10_isSet (S := si_ps S 87 0 0) (n := u 3 0) g2.2.2.2.1 (by have := g0.2.2.2.1; omega), if_neg hno]
      rfl
theorem st_lightSuspects {F : Nat} {x : Int32} : st_ok (f_X9_lightSuspects F x) (f_X10_lightSuspects F x) := by
  intro S h
  obtain ⟨u, mk, hmk, g0, g1, g2, g3, g4, g5, g6, ⟨⟨V, hV, hc, hn, hv⟩, hq⟩, -⟩ := id h
  have e := h.go (iv_th S)
  have hbd := g0.2.2.2.1
  rcases sm_cases x (u 3 0) (by omega) with ⟨i, hi, rfl⟩ | hno
  · obtain ⟨hh, ll, gg, ww, b1, c1, b2, c2, b3, c3, b4, c4, -⟩ := hq i hi
    have ec := b2
    have em := c2
    refine ⟨nI ll, S, si_ps S 87 0 0, ?_, ?_, e⟩
    · unfold f_X9_lightSuspects f_X9_lightSuspects_h21
      rw [f9_hasSet (iv_mkof hmk).1 (g1.1 3 (by decide)) (by have := g0.2.2.2.1; omega), if_pos (sm_in hi (by omega))]
      show Option.bind (si_rd S 18 (nI i)) _ = _
      rw [sm_rd (show i < 4 by omega) (by decide)]
      exact congrArg (fun z => some (z, S)) ec
    · unfold f_X10_lightSuspects f_X10_lightSuspects_h27
      rw [iv_pt0]
      show Option.bind (f_X10_isSet F (nI i) (si_ps S 87 0 0)) _ = _
      rw [f10_isSet (S := si_ps S 87 0 0) (n := u 3 0) g2.2.2.2.1 (by have := g0.2.2.2.1; omega), if_pos (sm_in hi (by omega))]
      show Option.bind (si_rd (si_ps S 87 0 0) 88 (nI 665 + nI i)) _ = _
      rw [nI_add, sm_rd (show 665 + i < 677 by omega) (by decide)]
      exact congrArg (fun z => some (z, si_ps S 87 0 0)) em
  · refine ⟨-1, S, si_ps S 87 0 0, ?_, ?_, e⟩
    · unfold f_X9_lightSuspects
      rw [f9_hasSet (iv_mkof hmk).1 (g1.1 3 (by decide)) (by have := g0.2.2.2.1; omega), if_neg hno]
      rfl
    · unfold f_X10_lightSuspects
      rw [iv_pt0]
      show Option.bind (f_X10_isSet F x (si_ps S 87 0 0)) _ = _
      rw [f10_isSet (S := si_ps S 87 0 0) (n := u 3 0) g2.2.2.2.1 (by have := g0.2.2.2.1; omega), if_neg hno]
      rfl
theorem st_canBeGenuine {F : Nat} {x : Int32} : st_ok (f_X9_canBeGenuine F x) (f_X10_canBeGenuine F x) := by
  intro S h
  obtain ⟨u, mk, hmk, g0, g1, g2, g3, g4, g5, g6, ⟨⟨V, hV, hc, hn, hv⟩, hq⟩, -⟩ := id h
  have e := h.go (iv_th S)
  have hbd := g0.2.2.2.1
  rcases sm_cases x (u 3 0) (by omega) with ⟨i, hi, rfl⟩ | hno
  · obtain ⟨hh, ll, gg, ww, b1, c1, b2, c2, b3, c3, b4, c4, -⟩ := hq i hi
    have ec := b3
    have em := c3
    refine ⟨nI gg, S, si_ps S 87 0 0, ?_, ?_, e⟩
    · unfold f_X9_canBeGenuine f_X9_canBeGenuine_h21
      rw [f9_hasSet (iv_mkof hmk).1 (g1.1 3 (by decide)) (by have := g0.2.2.2.1; omega), if_pos (sm_in hi (by omega))]
      show Option.bind (si_rd S 19 (nI i)) _ = _
      rw [sm_rd (show i < 4 by omega) (by decide)]
      exact congrArg (fun z => some (z, S)) ec
    · unfold f_X10_canBeGenuine f_X10_canBeGenuine_h27
      rw [iv_pt0]
      show Option.bind (f_X10_isSet F (nI i) (si_ps S 87 0 0)) _ = _
      rw [f10_isSet (S := si_ps S 87 0 0) (n := u 3 0) g2.2.2.2.1 (by have := g0.2.2.2.1; omega), if_pos (sm_in hi (by omega))]
      show Option.bind (si_rd (si_ps S 87 0 0) 88 (nI 669 + nI i)) _ = _
      rw [nI_add, sm_rd (show 669 + i < 677 by omega) (by decide)]
      exact congrArg (fun z => some (z, si_ps S 87 0 0)) em
  · refine ⟨-1, S, si_ps S 87 0 0, ?_, ?_, e⟩
    · unfold f_X9_canBeGenuine
      rw [f9_hasSet (iv_mkof hmk).1 (g1.1 3 (by decide)) (by have := g0.2.2.2.1; omega), if_neg hno]
      rfl
    · unfold f_X10_canBeGenuine
      rw [iv_pt0]
      show Option.bind (f_X10_isSet F x (si_ps S 87 0 0)) _ = _
      rw [f10_isSet (S := si_ps S 87 0 0) (n := u 3 0) g2.2.2.2.1 (by have := g0.2.2.2.1; omega), if_neg hno]
      rfl
theorem st_weightCount {F : Nat} {x : Int32} : st_ok (f_X9_weightCount F x) (f_X10_weightCount F x) := by
  intro S h
  obtain ⟨u, mk, hmk, g0, g1, g2, g3, g4, g5, g6, ⟨⟨V, hV, hc, hn, hv⟩, hq⟩, -⟩ := id h
  have e := h.go (iv_th S)
  have hbd := g0.2.2.2.1
  rcases sm_cases x (u 3 0) (by omega) with ⟨i, hi, rfl⟩ | hno
  · have g := g1.2.2.2.1 i hi; have gm := g2.2.2.2.2.2.2.1 i hi
    have ec := g.1
    have em := gm.1
    refine ⟨nI (u 9 i), S, si_ps S 87 0 0, ?_, ?_, e⟩
    · unfold f_X9_weightCount f_X9_weightCount_h21
      rw [f9_hasSet (iv_mkof hmk).1 (g1.1 3 (by decide)) (by have := g0.2.2.2.1; omega), if_pos (sm_in hi (by omega))]
      show Option.bind (si_mk S 0 2) _ = _
      rw [(iv_mkof hmk).1]
      show Option.bind (si_rd S (mk + 6) (nI i)) _ = _
      rw [sm_rd (by rcases (iv_mkof hmk).2 with rfl | rfl <;> exact (show i < 4 by omega)) (by rcases (iv_mkof hmk).2 with rfl | rfl <;> decide)]
      exact congrArg (fun z => some (z, S)) ec
    · unfold f_X10_weightCount f_X10_weightCount_h23
      rw [iv_pt0]
      show Option.bind (f_X10_isSet F (nI i) (si_ps S 87 0 0)) _ = _
      rw [f10_isSet (S := si_ps S 87 0 0) (n := u 3 0) g2.2.2.2.1 (by have := g0.2.2.2.1; omega), if_pos (sm_in hi (by omega))]
      show Option.bind (si_rd (si_ps S 87 0 0) 94 (nI i)) _ = _
      rw [sm_rd (show i < 4 by omega) (by decide)]
      exact congrArg (fun z => some (z, si_ps S 87 0 0)) em
  · refine ⟨-1, S, si_ps S 87 0 0, ?_, ?_, e⟩
    · unfold f_X9_weightCount
      rw [f9_hasSet (iv_mkof hmk).1 (g1.1 3 (by decide)) (by have := g0.2.2.2.1; omega), if_neg hno]
      rfl
    · unfold f_X10_weightCount
      rw [iv_pt0]
      show Option.bind (f_X10_isSet F x (si_ps S 87 0 0)) _ = _
      rw [f10_isSet (S := si_ps S 87 0 0) (n := u 3 0) g2.2.2.2.1 (by have := g0.2.2.2.1; omega), if_neg hno]
      rfl
