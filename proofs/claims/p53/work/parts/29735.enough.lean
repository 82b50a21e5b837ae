-- isEnough calls itself: by the depth that is left
def f_L_isEnough (F : Nat) : Nat → Int32 → Int32 → Int32 → si_St → Option (Int32 × si_St)
  | 0 => fun _ _ _ _ => none
  | d + 1 => fun a b c S => f_L_isEnoughB F d (f_L_isEnough F d) a b c S
theorem mo_L_isEnough (F : Nat) : ∀ (d : Nat) (a b c : Int32) (S : si_St) (o : Int32 × si_St), f_L_isEnough F d a b c S = some o → sd_le S o.2
  | 0, _, _, _, _, _, h => by cases h
  | d + 1, a, b, c, S, o, h => mo_L_isEnoughB F d (f_L_isEnough F d) (mo_L_isEnough F d) a b c S o h
theorem c_L_isEnough (l : Launch) : ∀ (E : si_Ev) (F d : Nat) (a b c : Int32) (S : si_St) (o : Int32 × si_St), f_L_isEnough F d a b c S = some o → sd_Mi l (al_L_isEnough d) E yL_isEnough cL_isEnough 10 (some .boolean) (d + 1) (29 * d + 30) [.int a, .int b, .int c] S o := by
  intro E F d
  induction d generalizing E with
  | zero => intro a b c S o h; cases h
  | succ d ih =>
    intro a b c S o h
    have h2 : 29 * (d + 1) + 30 = 29 * d + 59 := by omega
    rw [h2]
    exact c_L_isEnoughB l E F d (f_L_isEnough F d) (mo_L_isEnough F d) (fun E a b c S o h => ih E a b c S o h) a b c S o h
section SIXS
variable {p : Program} {l : Launch} {e : Env} {R : Room} {s : State} {m : MethodId} {args : Array Value} {below : List Frame} {meth : Method} {c : Code} {H H0 : Heap} {locs : List Loc} {cells slots : Nat} {Q : State → Prop} {cc : ByteArray} {nL : Nat} {own : String} {E : si_Ev} {A : Nat → Prop} {S S' : si_St} {pc : Nat} {ls : Array Slot} {rest : List Value}
def si_xs (L : Nat) (xs : Nat → Int32) (i : Int32) : Option Int32 := if i < 0 ∨ L ≤ i.toNatClampNeg then none else some (xs i.toNatClampNeg)
theorem si_sld {b L : Nat} {xs : Nat → Int32} {i v : Int32} (X : si_Cx p s m args c cc nL own E A) (hX : va_X b L xs s s.heap) (hbl : b < s.heap.size) (hbA : ¬ A b) (hS : va_S A s.heap H locs) (h : si_xs L xs i = some v) (hdg : decode cc pc = .ok (.iaload, 1)) (kk : W p l e R s m args below meth c H locs cells slots Q (F0 m (pc + 1) ls (.int v :: rest))) : W p l e R s m args below meth c H locs cells slots Q (F0 m pc ls (.int i :: .ref b :: rest)) := by
  unfold si_xs at h
  by_cases hc : i < 0 ∨ L ≤ i.toNatClampNeg
  · rw [if_pos hc] at h; cases h
  · rw [if_neg hc] at h
    obtain rfl := Option.some.inj h
    exact va_sld X.1 X.2.1 hX hbl hbA hS hc hdg kk
end SIXS
