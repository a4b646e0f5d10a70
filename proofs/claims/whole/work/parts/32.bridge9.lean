/-- numbers in a range -/
theorem in_nat {p : Int32} {n : Nat} (hn : n < 2 ^ 31) (h : ¬ f_X5_in p 0 (nI n) = 0) : p = nI p.toNatClampNeg ∧ p.toNatClampNeg ≤ n := by
  unfold f_X5_in at h
  by_cases a : p < 0
  · rw [if_pos a] at h
    exact absurd rfl h
  · rw [if_neg a] at h
    by_cases b : nI n < p
    · rw [if_pos b] at h
      exact absurd rfl h
    · rw [Int32.lt_iff_toInt_lt] at a b
      rw [show (0 : Int32).toInt = 0 from rfl] at a
      rw [nI_toInt hn] at b
      have e : p.toNatClampNeg = p.toInt.toNat := rfl
      refine ⟨Int32.toInt_inj.mp ?_, by omega⟩
      rw [nI_toInt (by omega)]
      omega
