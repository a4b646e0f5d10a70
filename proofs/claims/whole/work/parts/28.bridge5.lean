theorem isIn_eq (v lo hi : Int32) : f_X4_isIn v lo hi = f_X5_in v lo hi := rfl
theorem in05 {p : Int32} (h : ¬ f_X5_in p 0 5 = 0) : p = 0 ∨ p = 1 ∨ p = 2 ∨ p = 3 ∨ p = 4 ∨ p = 5 := by
  unfold f_X5_in at h
  by_cases a : p < 0
  · rw [if_pos a] at h
    exact absurd rfl h
  · rw [if_neg a] at h
    by_cases b : 5 < p
    · rw [if_pos b] at h
      exact absurd rfl h
    · rw [Int32.lt_iff_toInt_lt] at a b
      rw [show (0 : Int32).toInt = 0 from rfl] at a
      rw [show (5 : Int32).toInt = 5 from rfl] at b
      have k : p.toInt = 0 ∨ p.toInt = 1 ∨ p.toInt = 2 ∨ p.toInt = 3 ∨ p.toInt = 4 ∨ p.toInt = 5 := by omega
      rcases k with k | k | k | k | k | k
      · exact Or.inl (Int32.toInt_inj.mp (k.trans rfl))
      · exact Or.inr (Or.inl (Int32.toInt_inj.mp (k.trans rfl)))
      · exact Or.inr (Or.inr (Or.inl (Int32.toInt_inj.mp (k.trans rfl))))
      · exact Or.inr (Or.inr (Or.inr (Or.inl (Int32.toInt_inj.mp (k.trans rfl)))))
      · exact Or.inr (Or.inr (Or.inr (Or.inr (Or.inl (Int32.toInt_inj.mp (k.trans rfl))))))
      · exact Or.inr (Or.inr (Or.inr (Or.inr (Or.inr (Int32.toInt_inj.mp (k.trans rfl))))))
theorem off_eq {C M : Nat → Nat → Int32} {k : Nat} {p : Int32} (h4 : C (40 + k) 4 = M 0 3) (h5 : C (40 + k) 5 = M 0 4) (h6 : C (40 + k) 6 = M 0 5) (b3 : M 0 3 = 0 ∨ M 0 3 = 1) (b4 : M 0 4 = 0 ∨ M 0 4 = 1) (b5 : M 0 5 = 0 ∨ M 0 5 = 1) (hp : ¬ f_X5_in p 0 5 = 0) : f_X2_canTakeOff C k p = f_X5_canTakeOff M p := by
  unfold f_X2_canTakeOff f_X2_isWrongEdge f_X5_canTakeOff
  rw [h4, h5, h6]
  rcases in05 hp with rfl | rfl | rfl | rfl | rfl | rfl <;> rcases b3 with b3 | b3 <;> rcases b4 with b4 | b4 <;> rcases b5 with b5 | b5 <;> rw [b3, b4, b5] <;> decide
