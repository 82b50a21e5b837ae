-- append
def ap_b (x : Int32) (s : Nat) : Int32 := si_i2b (si_ushr x (nI s))
theorem sm_i2bc (z : Int8) : z.toInt32.toInt8 = z := by
  apply Int8.toInt_inj.mp
  rw [Int32.toInt_toInt8, Int8.toInt_toInt32]
  have h1 := Int8.le_toInt z
  have h2 := Int8.toInt_lt z
  rw [Int.bmod_def]
  omega
theorem sm_nb (y : Int32) : vp_nar .byte (si_i2b y) = si_i2b y := by
  show (si_i2b y).toInt8.toInt32 = si_i2b y
  unfold si_i2b
  rw [sm_i2bc]
theorem sm_bb (y : Int32) : si_i2b (si_i2b y) = si_i2b y := by
  unfold si_i2b
  rw [sm_i2bc]
theorem sm_i2b_bits {x y : Int32} (h : ∀ i, i < 8 → bt x i = bt y i) : si_i2b x = si_i2b y := by
  unfold si_i2b
  congr 1
  apply Int8.toBitVec_inj.mp
  apply BitVec.eq_of_getLsbD_eq
  intro i hi
  rw [Int32.toBitVec_toInt8, Int32.toBitVec_toInt8, BitVec.getLsbD_signExtend, BitVec.getLsbD_signExtend, if_pos (by omega), if_pos (by omega)]
  have := h i hi
  unfold bt at this
  rw [this]
theorem ap_bs (x : Int32) {s : Nat} (hs : s ≤ 24) : si_i2b (x >>> (nI s &&& 31)) = ap_b x s := by
  refine sm_i2b_bits (fun i hi => ?_)
  unfold si_ushr
  rw [b_sshr s (by omega) x (by omega), b_ushr s (by omega) x i, if_pos (by omega)]
def ap_t : (Nat → Int32) → Nat → List Int32 → (Nat → Int32)
  | t, _, [] => t
  | t, n, b :: bs => ap_t (fun i => if i = n then b else t i) (n + 1) bs
theorem ap_rel : ∀ (bs : List Int32) (n : Nat) (t1 t2 : Nat → Int32), (∀ i, i < n → t1 i = t2 i ∧ si_i2b (t1 i) = t1 i) → (∀ b ∈ bs, si_i2b b = b) → ∀ i, i < n + bs.length → ap_t t1 n bs i = ap_t t2 n bs i ∧ si_i2b (ap_t t1 n bs i) = ap_t t1 n bs i
  | [], n, t1, t2, h, _, i, hi => h i (by simpa using hi)
  | b :: bs, n, t1, t2, h, hb, i, hi => by
    refine ap_rel bs (n + 1) _ _ (fun j hj => ?_) (fun c hc => hb c (List.mem_cons_of_mem _ hc)) i (by simp only [List.length_cons] at hi; omega)
    by_cases e : j = n
    · simp only [e, if_true]
      exact ⟨trivial, hb b List.mem_cons_self⟩
    · simp only [if_neg e]
      exact h j (by omega)
/-- one scalar and one row anew -/
def ap_C (S : si_St) (k1 j1 : Nat) (m : Int32) (k : Nat) (t : Nat → Int32) : si_St := (fun a b => if a = k1 ∧ b = j1 then m else S.1 a b, fun a => if a = k then t else S.2.1 a, S.2.2)
theorem ap_C1 (S : si_St) (k1 j1 k n : Nat) (b m : Int32) : si_ps (si_pa S k n b) k1 j1 m = ap_C S k1 j1 m k (fun i => if i = n then b else S.2.1 k i) := by
  have e : (fun a c => if a = k ∧ c = n then b else S.2.1 a c) = (fun a => if a = k then (fun i => if i = n then b else S.2.1 k i) else S.2.1 a) := by
    funext a i
    by_cases h : a = k
    · subst h
      by_cases hi : i = n
      · simp [hi]
      · simp [hi]
    · simp [h]
  show ((fun a c => if a = k1 ∧ c = j1 then m else S.1 a c), (fun a c => if a = k ∧ c = n then b else S.2.1 a c), S.2.2) = _
  rw [e]
  rfl
theorem ap_CC (S : si_St) (k1 j1 k : Nat) (m m' : Int32) (t t' : Nat → Int32) : ap_C (ap_C S k1 j1 m k t) k1 j1 m' k t' = ap_C S k1 j1 m' k t' := by
  unfold ap_C
  congr 2
  · funext a b
    by_cases h : a = k1 ∧ b = j1
    · simp [h]
    · simp [h]
  · congr 1
    funext a
    by_cases h : a = k
    · simp [h]
    · simp [h]
theorem ap_x1 {F : Nat} {r : Int32 → Int32 → si_St → Option si_St} {x : Int32} {S : si_St} {n s : Nat} (hn : n < 800) (hs : S.1 1 1 = nI n) (hs2 : s ≤ 24) : f_X3_addBytes_h3 F r x (nI s) S = r x (nI s + (-8)) (ap_C S 1 1 (nI (n + 1)) 2 (fun i => if i = n then ap_b x s else S.2.1 2 i)) := by
  unfold f_X3_addBytes_h3
  have h8 : ¬ ((800 : Int32) ≤ nI n) := (nI_ge hn (by decide) : ¬ nI 800 ≤ nI n)
  rw [if_neg (nI_pos (by omega)), hs, if_neg h8, sm_wr (show n < 800 from hn) (by decide)]
  show r x (nI s + (-8)) (si_ps (si_pa S 2 n (vp_nar .byte (ap_b x s))) 1 1 (S.1 1 1 + 1)) = _
  rw [hs, nI_1, ap_C1]
  unfold ap_b
  rw [sm_nb]
def ap_4 (x : Int32) : List Int32 := [ap_b x 24, ap_b x 16, ap_b x 8, ap_b x 0]
theorem ap_C_1 (S : si_St) (k1 j1 k : Nat) (m : Int32) (t : Nat → Int32) : (ap_C S k1 j1 m k t).1 k1 j1 = m := by
  show (if k1 = k1 ∧ j1 = j1 then m else _) = m
  rw [if_pos ⟨rfl, rfl⟩]
theorem ap_C_2 (S : si_St) (k1 j1 k : Nat) (m : Int32) (t : Nat → Int32) : (ap_C S k1 j1 m k t).2.1 k = t := by
  show (if k = k then t else _) = t
  rw [if_pos rfl]
theorem ap_x4 {F : Nat} {x : Int32} {S : si_St} {n : Nat} (hF : 5 ≤ F) (hn : n + 4 ≤ 800) (hs : S.1 1 1 = nI n) : f_X3_addBytes F x S = some (ap_C S 1 1 (nI (n + 4)) 2 (ap_t (S.2.1 2) n (ap_4 x))) := by
  obtain ⟨f, hf⟩ : ∃ f, F = f + 5 := ⟨F - 5, by omega⟩
  unfold f_X3_addBytes
  have e : f_X3_addBytes_l3 F F x 24 S = f_X3_addBytes_l3 F (f + 5) x 24 S := by rw [← hf]
  rw [e]
  show f_X3_addBytes_h3 F (f_X3_addBytes_l3 F (f + 4)) x (nI 24) S = _
  rw [ap_x1 (by omega) hs (by omega)]
  show f_X3_addBytes_h3 F (f_X3_addBytes_l3 F (f + 3)) x (nI 16) _ = _
  rw [ap_x1 (n := n + 1) (by omega) (ap_C_1 ..) (by omega), ap_C_2, ap_CC]
  show f_X3_addBytes_h3 F (f_X3_addBytes_l3 F (f + 2)) x (nI 8) _ = _
  rw [ap_x1 (n := n + 2) (by omega) (ap_C_1 ..) (by omega), ap_C_2, ap_CC]
  show f_X3_addBytes_h3 F (f_X3_addBytes_l3 F (f + 1)) x (nI 0) _ = _
  rw [ap_x1 (n := n + 3) (by omega) (ap_C_1 ..) (by omega), ap_C_2, ap_CC]
  rfl
theorem ap_4b (x b : Int32) (h : b ∈ ap_4 x) : si_i2b b = b := by
  simp only [ap_4, List.mem_cons, List.not_mem_nil, or_false] at h
  rcases h with rfl | rfl | rfl | rfl <;> exact sm_bb _
theorem ap_tt : ∀ (b1 : List Int32) (t : Nat → Int32) (n : Nat) (b2 : List Int32), ap_t (ap_t t n b1) (n + b1.length) b2 = ap_t t n (b1 ++ b2)
  | [], t, n, b2 => rfl
  | b :: bs, t, n, b2 => by
    show ap_t (ap_t _ (n + 1) bs) (n + (bs.length + 1)) b2 = ap_t _ (n + 1) (bs ++ b2)
    rw [← ap_tt bs _ (n + 1) b2, show n + 1 + bs.length = n + (bs.length + 1) by omega]
theorem sm_800 {n : Nat} (h : n ≤ 800) : (nI n + 20 ≤ 800) ↔ n + 20 ≤ 800 := by
  have e : nI n + 20 = nI (n + 20) := nI_add n 20
  rw [e]
  exact nI_leI (b := 800) (by omega) (by decide)
