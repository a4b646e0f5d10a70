/-- what callers told of an element -/
def tC (M : Nat → Nat → Int32) (n : Nat) : Nat → Int32 := fun i => if i < 3 then M 12 (3 * n + i) else (-99)
theorem tC_3 (M : Nat → Nat → Int32) (n : Nat) : rT (tC M n) 7 = rT (tC M n) 3 := by
  have h : ∀ j, 3 ≤ j → tC M n j = (-99) := fun j hj => if_neg (by omega)
  rw [show (7 : Nat) = 6 + 1 from rfl, rT, if_pos (h 6 (by decide)), rT, if_pos (h 5 (by decide)), rT, if_pos (h 4 (by decide)), rT, if_pos (h 3 (by decide))]
theorem q_it (M : Nat → Nat → Int32) (n : Nat) (hb : ∀ i, ¬ tC M n i = (-99) → 0 ≤ tC M n i ∧ tC M n i < 99) : ∀ k, k ≤ 3 →
    (it14_X5_quartersOf M n k).1 = (rT (tC M n) k).2.1 ∧ (it14_X5_quartersOf M n k).2.1 = (rT (tC M n) k).1 ∧ (it14_X5_quartersOf M n k).2.2.1 = (rT (tC M n) k).2.2.1 ∧
    ((rT (tC M n) k).1 = 0 → (it14_X5_quartersOf M n k).2.2.2 = 0) ∧ (¬ (rT (tC M n) k).1 = 0 → (it14_X5_quartersOf M n k).2.2.2 = (rT (tC M n) k).2.2.2 ∧ 0 ≤ (rT (tC M n) k).2.2.2) := by
  intro k
  induction k with
  | zero => intro _; exact ⟨rfl, rfl, rfl, fun _ => rfl, fun z => absurd rfl z⟩
  | succ k ih =>
    intro hk
    obtain ⟨g1, g2, g3, g4, g5⟩ := ih (by omega)
    have ek : M 12 (3 * n + k) = tC M n k := (if_pos (by omega)).symm
    rw [it14_X5_quartersOf, ek, rT, g1, g2, g3]
    by_cases q : tC M n k = (-99)
    · simp only [q, if_true]
      have h0 : (0 : Int32) ≤ 0 := by decide
      refine ⟨Int32.add_zero _, Int32.add_zero _, trivial, fun z => ?_, fun z => ?_⟩
      · rw [g4 z, if_pos (by decide)]
      · obtain ⟨a, b⟩ := g5 z
        rw [a, if_pos (Int32.le_trans (by decide) b)]
        exact ⟨rfl, b⟩
    · simp only [q, if_false]
      obtain ⟨b1, b2⟩ := hb k q
      obtain ⟨c, c1, c2, c3⟩ := rT_c (tC M n) k (by omega)
      have hne : ¬ (rT (tC M n) k).1 + 1 = 0 := by
        rw [c2, nI_1]
        exact nI_ne0 (by omega) (by omega)
      refine ⟨trivial, trivial, trivial, fun z => absurd z hne, fun _ => ?_⟩
      by_cases z : (rT (tC M n) k).1 = 0
      · have c0 : c = 0 := by
          apply Nat.eq_zero_of_not_pos
          intro hp
          exact nI_ne0 hp (by omega) (c2.symm.trans z)
        rw [g4 z, c3 c0]
        dsimp only
        have hl : ¬ tC M n k ≤ (-99) := fun y => absurd (Int32.le_trans b1 y) (by decide)
        rw [if_neg hl]
        by_cases y : tC M n k ≤ 0
        · rw [if_pos y]
          exact ⟨Int32.le_antisymm b1 y, b1⟩
        · rw [if_neg y]
          exact ⟨rfl, b1⟩
      · obtain ⟨a, b⟩ := g5 z
        rw [a]
        refine ⟨rfl, ?_⟩
        split
        · exact b
        · exact b1
theorem quarters_eq {C M : Nat → Nat → Int32} {n : Nat} (h : VR C (36 + n) (tC M n)) (hb : ∀ i, ¬ tC M n i = (-99) → 0 ≤ tC M n i ∧ tC M n i < 99) : f_X3_middle C (36 + n) = f_X5_quartersOf M n := by
  rw [VR_middle h, tC_3]
  obtain ⟨g1, g2, g3, g4, g5⟩ := q_it M n hb 3 (Nat.le_refl _)
  unfold f_X5_quartersOf
  rw [g1, g2, g3]
  by_cases z : (rT (tC M n) 3).1 = 0
  · rw [if_pos z, if_pos z]
  · rw [if_neg z, if_neg z, (g5 z).1]
