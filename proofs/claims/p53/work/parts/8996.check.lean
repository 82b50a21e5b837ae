-- ISENOUGH AND THE NUMBERS OF WEIGHINGS
def enP (ps : List (Nat × Nat)) : Nat → Nat → Nat → Nat → Nat → Bool × Nat
  | 0 => fun _ _ _ _ => (false, 0)
  | d + 1 => fun h l g k => if sb_pc h + sb_pc l + g < 2 then (true, 0) else if 3 ^ k < sb_pc h + sb_pc l + g then (false, 0) else enL (fun h l g => enP ps d h l g (k - 1)) h l g ps
theorem enP_T (n : Nat) : ∀ d h l g k, enT n d h l g k = enP (lpp 1 (2 ^ n - 1)) d h l g k
  | 0, _, _, _, _ => rfl
  | d + 1, h, l, g, k => by
    have e : (fun h l g => enT n d h l g (k - 1)) = (fun h l g => enP (lpp 1 (2 ^ n - 1)) d h l g (k - 1)) := by
      funext h l g
      exact enP_T n d h l g (k - 1)
    show (if _ then _ else if _ then _ else enL (fun h l g => enT n d h l g (k - 1)) h l g (lpp 1 (2 ^ n - 1))) = _
    rw [e]
    rfl
def pl2 : List (Nat × Nat) := [(2, 1)]
theorem pl2_ok : lpp 1 (2 ^ 2 - 1) = pl2 := by decide +kernel
def pl3 : List (Nat × Nat) := [(2, 1), (4, 1), (4, 2)]
theorem pl3_ok : lpp 1 (2 ^ 3 - 1) = pl3 := by decide +kernel
def pl4 : List (Nat × Nat) := [(2, 1), (4, 1), (4, 2), (8, 1), (8, 2), (8, 4), (9, 6), (10, 5), (12, 3)]
theorem pl4_ok : lpp 1 (2 ^ 4 - 1) = pl4 := by decide +kernel
def pl5 : List (Nat × Nat) := [(2, 1), (4, 1), (4, 2), (8, 1), (8, 2), (8, 4), (9, 6), (10, 5), (12, 3), (16, 1), (16, 2), (16, 4), (16, 8), (17, 6), (17, 10), (17, 12), (18, 5), (18, 9), (18, 12), (20, 3), (20, 9), (20, 10), (24, 3), (24, 5), (24, 6)]
theorem pl5_ok : lpp 1 (2 ^ 5 - 1) = pl5 := by decide +kernel
def soR (n h l g : Nat) : Nat := if h &&& l = 0 then rS n (sb_pc h) (sb_pc l) else rM n (sb_pc h) g
def chE (n : Nat) (ps : List (Nat × Nat)) (h : Nat) : Bool := (List.range (2 ^ n)).all fun l => (List.range 2).all fun g => !(h == l || (h &&& l == 0 && g == 0)) || (List.range 5).all fun k => ((enP ps 6 h l g k).1 == decide (soR n h l g ≤ k)) && Nat.ble (enP ps 6 h l g k).2 60
def chA (n : Nat) (ps : List (Nat × Nat)) (a m : Nat) : Bool := (List.range m).all fun i => chE n ps (a + i)
theorem chE_2 : chA 2 pl2 0 4 = true := by decide +kernel
theorem chE_3 : chA 3 pl3 0 8 = true := by decide +kernel
theorem chE_4 : chA 4 pl4 0 16 = true := by decide +kernel
