theorem odd_a {n : Nat} (h : n < 2 ^ 31) : (nI n &&& 1) = nI (n % 2) := pk_andN (by omega) 1 (by decide)
theorem odd_b {n : Nat} (h : n < 2 ^ 31) : nI n - nI n / 2 * 2 = nI (n % 2) := pk_rem (d := 2) h (by decide) (by decide)
/-- the reference rounds as the class does: not below 0 -/
theorem near_pos {x : UInt64} (h0 : 0 ≤ Op.cmpValue (FP.dcmp x FP.dconst0) CmpOp.g) {n : Nat} (hn : n < 2 ^ 31) (hw : FP.d2i x = nI n) (h1 : ¬ Op.cmpValue (FP.dcmp (FP.dsub x (FP.i2d (FP.d2i x))) 13826050856027422720) CmpOp.g < 0) (h2 : ¬ Op.cmpValue (FP.dcmp (FP.dsub x (FP.i2d (FP.d2i x))) 13826050856027422720) CmpOp.l = 0) : f_X4_nearest x = f_X5_rint x := by
  unfold f_X4_nearest f_X5_rint
  rw [if_pos h0, if_pos h0, if_neg h1, if_neg h2]
  generalize Op.cmpValue (FP.dcmp (FP.dsub x (FP.i2d (FP.d2i x))) 4602678819172646912) CmpOp.l = a
  rw [hw] at h1 h2
  rw [hw, odd_a hn, odd_b hn]
  by_cases p : 0 < a
  · rw [if_pos p, if_pos p]
  · rw [if_neg p, if_neg p]
    by_cases q : a = 0
    · rw [if_pos q, if_pos q]
      have k : n % 2 = 0 ∨ n % 2 = 1 := by omega
      rcases k with k | k
      · rw [k]
        rw [if_pos (show nI 0 = 0 from rfl), if_pos rfl, if_neg (by decide)]
      · rw [k]
        rw [if_neg (show ¬ nI 1 = 0 by decide), if_neg (by decide), if_pos (by decide)]
    · rw [if_neg q, if_neg q, if_neg h1, if_neg h2]
