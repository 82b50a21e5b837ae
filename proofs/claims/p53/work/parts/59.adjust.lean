-- testPasses, adjustment, adjustedVerdict
theorem lq_1 (i : Nat) : (1 : Int32) + nI i = nI (1 + i) := li_addL 1 i
theorem lq_31 (i : Nat) : (31 : Int32) + nI i = nI (31 + i) := li_addL 31 i
theorem lq_61 (i : Nat) : (61 : Int32) + nI i = nI (61 + i) := li_addL 61 i
theorem lq_91 (i : Nat) : (91 : Int32) + nI i = nI (91 + i) := li_addL 91 i
theorem lq_121 (i : Nat) : (121 : Int32) + nI i = nI (121 + i) := li_addL 121 i
theorem lq_151 (i : Nat) : (151 : Int32) + nI i = nI (151 + i) := li_addL 151 i
theorem lq_181 (i : Nat) : (181 : Int32) + nI i = nI (181 + i) := li_addL 181 i
theorem lq_421 (i : Nat) : (421 : Int32) + nI i = nI (421 + i) := li_addL 421 i
theorem lq_661 (i : Nat) : (661 : Int32) + nI i = nI (661 + i) := li_addL 661 i
theorem lq_665 (i : Nat) : (665 : Int32) + nI i = nI (665 + i) := li_addL 665 i
theorem lq_669 (i : Nat) : (669 : Int32) + nI i = nI (669 + i) := li_addL 669 i
theorem lq_673 (i : Nat) : (673 : Int32) + nI i = nI (673 + i) := li_addL 673 i
def ad_mx (er : Nat → Int32) : Nat → Int32
  | 0 => er 0
  | k + 1 => si_max (ad_mx er k) (er k)
def ad_mn (er : Nat → Int32) : Nat → Int32
  | 0 => er 0
  | k + 1 => si_min (ad_mn er k) (er k)
def ad_mid (er : Nat → Int32) (n : Nat) : Int32 := (ad_mn er n + ad_mx er n) >>> ((1 : Int32) &&& 31)
theorem ad_mx1 (er : Nat → Int32) : ad_mx er 1 = er 0 := by
  show si_max (er 0) (er 0) = er 0
  unfold si_max
  rw [ite_self]
theorem ad_mn1 (er : Nat → Int32) : ad_mn er 1 = er 0 := by
  show si_min (er 0) (er 0) = er 0
  unfold si_min
  rw [ite_self]
