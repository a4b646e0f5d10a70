/-- the fine: the falls told by number -/
theorem fine_eq {C M : Nat → Nat → Int32} {k sk f : Nat} (hf : f ≤ 12) (h1 : C (40 + k) 10 = nI f) (h2 : it4_X5_fineOf M sk (nE M sk) = nI f) : f_X2_fine C k = f_X5_fineOf M sk := by
  unfold f_X2_fine f_X5_fineOf
  rw [h1, h2]
  have k9 : f = 0 ∨ f = 1 ∨ f = 2 ∨ f = 3 ∨ f = 4 ∨ f = 5 ∨ f = 6 ∨ f = 7 ∨ f = 8 ∨ f = 9 ∨ f = 10 ∨ f = 11 ∨ f = 12 := by omega
  rcases k9 with rfl | rfl | rfl | rfl | rfl | rfl | rfl | rfl | rfl | rfl | rfl | rfl | rfl <;> decide
