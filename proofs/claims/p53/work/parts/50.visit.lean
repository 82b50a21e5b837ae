def sn_T (S : si_St) (v n : Nat) (a b c : Int32) : si_St := si_pa (si_pa (si_pa (si_pa S 13 (8 * v + n) a) 14 (8 * v + n) b) 15 (8 * v + n) c) 12 v (nI (n + 1))
