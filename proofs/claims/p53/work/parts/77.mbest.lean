-- the other side's best weighing
def bh (n h l g a b : Nat) : Nat := if sb_pc (sb_df h (a ||| b)) + sb_pc (sb_df l (a ||| b)) + g = sb_pc h + sb_pc l + g then 99 else if sb_pc (h &&& a) + sb_pc (l &&& b) = sb_pc h + sb_pc l + g then 99 else if sb_pc (h &&& b) + sb_pc (l &&& a) = sb_pc h + sb_pc l + g then 99 else max (so_N n (sb_df h (a ||| b)) (sb_df l (a ||| b)) g) (max (so_N n (h &&& a) (l &&& b) 0) (so_N n (h &&& b) (l &&& a) 0))
theorem so_N99 {n h l g : Nat} (hg : g ≤ 1) : so_N n h l g ≤ 99 := by
  unfold so_N
  split
  · exact sv_spl_99
  · exact sv_mix_99 hg
theorem nx_I {o r : Nat} (ho : o < 4096) : (nI r - nI o) &&& nI o = nI (nx 32 o r) := by
  have e : nI r - nI o = nI (r + (2 ^ 32 - o)) := by
    have h1 : nI (r + (2 ^ 32 - o)) + nI o = nI r := by
      rw [nI_add]
      have h2 : r + (2 ^ 32 - o) + o = r + 2 ^ 32 := by omega
      rw [h2]
      refine Int32.toBitVec_inj.mp ?_
      show BitVec.ofNat 32 (r + 2 ^ 32) = BitVec.ofNat 32 r
      apply BitVec.eq_of_toNat_eq
      rw [BitVec.toNat_ofNat, BitVec.toNat_ofNat, Nat.add_mod_right]
    rw [← h1]
    exact Int32.add_sub_cancel _ _
  rw [e, fa_and]
  rfl
/-- what the other side looks for -/
def mb_P (n h l g N a b : Nat) : Prop := a < 2 ^ n ∧ b < 2 ^ n ∧ a &&& b = 0 ∧ 0 < a ∧ sb_pc a = sb_pc b ∧ bh n h l g a b = N - 1
