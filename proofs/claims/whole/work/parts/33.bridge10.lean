/-- a new reference: all untold -/
theorem init_12 : ∀ k r i, it124_X5_init k r i = if r = 12 ∧ i < k then (-99) else mz r i := by
  intro k
  induction k with
  | zero => intro r i; rw [if_neg (by omega)]; rfl
  | succ k ih =>
    intro r i
    rw [it124_X5_init]
    unfold up2
    by_cases h : r = 12 ∧ i = k
    · rw [if_pos h, if_pos (by omega)]
    · rw [if_neg h, ih]
      by_cases g : r = 12 ∧ i < k
      · rw [if_pos g, if_pos (by omega)]
      · rw [if_neg g, if_neg (by omega)]
theorem init_16 : ∀ k r i, it147_X5_init k r i = if r = 16 ∧ i < k then (-99) else it124_X5_init 432 r i := by
  intro k
  induction k with
  | zero => intro r i; rw [if_neg (by omega)]; rfl
  | succ k ih =>
    intro r i
    rw [it147_X5_init]
    unfold up2
    by_cases h : r = 16 ∧ i = k
    · rw [if_pos h, if_pos (by omega)]
    · rw [if_neg h, ih]
      by_cases g : r = 16 ∧ i < k
      · rw [if_pos g, if_pos (by omega)]
      · rw [if_neg g, if_neg (by omega)]
theorem init_17 : ∀ k r i, it170_X5_init k r i = if r = 17 ∧ i < k then (-99) else it147_X5_init 1008 r i := by
  intro k
  induction k with
  | zero => intro r i; rw [if_neg (by omega)]; rfl
  | succ k ih =>
    intro r i
    rw [it170_X5_init]
    unfold up2
    by_cases h : r = 17 ∧ i = k
    · rw [if_pos h, if_pos (by omega)]
    · rw [if_neg h, ih]
      by_cases g : r = 17 ∧ i < k
      · rw [if_pos g, if_pos (by omega)]
      · rw [if_neg g, if_neg (by omega)]
