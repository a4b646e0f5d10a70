/-- a turn: how the skater stands then -/
def tF (p a : Int32) : Int32 := if (if p = 2 then 1 else (if p = 3 then 1 else (if p = 5 then 1 else 0 : Int32) : Int32) : Int32) = 0 then a else 1 - a
def tG (p a : Int32) : Int32 := if (if p = 0 then 1 else (if p = 3 then 1 else (if p = 4 then 1 else 0 : Int32) : Int32) : Int32) = 0 then a else 1 - a
def tW (p a : Int32) : Int32 := if (if 4 ≤ p then 0 else 1 : Int32) = 0 then a else 1 - a
theorem turn_f {C : Nat → Nat → Int32} {k : Nat} {p : Int32} (hp : ¬ f_X5_in p 0 5 = 0) : f_X2_skateTurn C k p = 4 * tF p (C (40 + k) 4) + 2 * tG p (C (40 + k) 5) + tW p (C (40 + k) 6) := by
  rcases in05 hp with rfl | rfl | rfl | rfl | rfl | rfl <;> rfl
theorem turn_r {C : Nat → Nat → Int32} {k r : Nat} {p : Int32} (h : r ≠ 40 + k) : g_X2_skateTurn C k p r = C r := by
  unfold g_X2_skateTurn
  repeat' split
  all_goals (repeat (rw [up2_ne _ _ _ h]))
theorem up2_at (C : Nat → Nat → Int32) (r j : Nat) (x : Int32) : up2 C r j x r j = x := by unfold up2; rw [if_pos ⟨rfl, rfl⟩]
theorem up2_nj (C : Nat → Nat → Int32) {r i j : Nat} (x : Int32) (h : i ≠ j) : up2 C r j x r i = C r i := by unfold up2; rw [if_neg (fun q => h q.2)]
theorem turn_g {C : Nat → Nat → Int32} {k : Nat} {p : Int32} (hp : ¬ f_X5_in p 0 5 = 0) : g_X2_skateTurn C k p (40 + k) 4 = tF p (C (40 + k) 4) ∧ g_X2_skateTurn C k p (40 + k) 5 = tG p (C (40 + k) 5) ∧ g_X2_skateTurn C k p (40 + k) 6 = tW p (C (40 + k) 6) ∧ g_X2_skateTurn C k p (40 + k) 7 = C (40 + k) 7 + 2 ∧ ∀ j, j ≠ 4 → j ≠ 5 → j ≠ 6 → j ≠ 7 → g_X2_skateTurn C k p (40 + k) j = C (40 + k) j := by
  rcases in05 hp with rfl | rfl | rfl | rfl | rfl | rfl
  · rw [show g_X2_skateTurn C k 0 = up2 (up2 (up2 C (40 + k) 5 (1 - C (40 + k) 5)) (40 + k) 6 (1 - C (40 + k) 6)) (40 + k) 7 (C (40 + k) 7 + 2) from rfl]
    refine ⟨?_, ?_, ?_, ?_, fun j h4 h5 h6 h7 => ?_⟩ <;> repeat (first | rfl | rw [up2_at] | rw [up2_nj _ _ (by assumption)] | rw [up2_nj _ _ (by decide)])
  · rw [show g_X2_skateTurn C k 1 = up2 (up2 C (40 + k) 6 (1 - C (40 + k) 6)) (40 + k) 7 (C (40 + k) 7 + 2) from rfl]
    refine ⟨?_, ?_, ?_, ?_, fun j h4 h5 h6 h7 => ?_⟩ <;> repeat (first | rfl | rw [up2_at] | rw [up2_nj _ _ (by assumption)] | rw [up2_nj _ _ (by decide)])
  · rw [show g_X2_skateTurn C k 2 = up2 (up2 (up2 C (40 + k) 4 (1 - C (40 + k) 4)) (40 + k) 6 (1 - C (40 + k) 6)) (40 + k) 7 (C (40 + k) 7 + 2) from rfl]
    refine ⟨?_, ?_, ?_, ?_, fun j h4 h5 h6 h7 => ?_⟩ <;> repeat (first | rfl | rw [up2_at] | rw [up2_nj _ _ (by assumption)] | rw [up2_nj _ _ (by decide)])
  · rw [show g_X2_skateTurn C k 3 = up2 (up2 (up2 (up2 C (40 + k) 4 (1 - C (40 + k) 4)) (40 + k) 5 (1 - C (40 + k) 5)) (40 + k) 6 (1 - C (40 + k) 6)) (40 + k) 7 (C (40 + k) 7 + 2) from rfl]
    refine ⟨?_, ?_, ?_, ?_, fun j h4 h5 h6 h7 => ?_⟩ <;> repeat (first | rfl | rw [up2_at] | rw [up2_nj _ _ (by assumption)] | rw [up2_nj _ _ (by decide)])
  · rw [show g_X2_skateTurn C k 4 = up2 (up2 C (40 + k) 5 (1 - C (40 + k) 5)) (40 + k) 7 (C (40 + k) 7 + 2) from rfl]
    refine ⟨?_, ?_, ?_, ?_, fun j h4 h5 h6 h7 => ?_⟩ <;> repeat (first | rfl | rw [up2_at] | rw [up2_nj _ _ (by assumption)] | rw [up2_nj _ _ (by decide)])
  · rw [show g_X2_skateTurn C k 5 = up2 (up2 C (40 + k) 4 (1 - C (40 + k) 4)) (40 + k) 7 (C (40 + k) 7 + 2) from rfl]
    refine ⟨?_, ?_, ?_, ?_, fun j h4 h5 h6 h7 => ?_⟩ <;> repeat (first | rfl | rw [up2_at] | rw [up2_nj _ _ (by assumption)] | rw [up2_nj _ _ (by decide)])
