theorem rT_c (t : Nat → Int32) : ∀ k, k ≤ 7 → ∃ c, c ≤ k ∧ (rT t k).1 = nI c ∧ (c = 0 → rT t k = (0, 0, 99, (-99))) := by
  intro k
  induction k with
  | zero => intro _; exact ⟨0, Nat.le_refl _, rfl, fun _ => rfl⟩
  | succ k ih =>
    intro hk
    obtain ⟨c, h1, h2, h3⟩ := ih (by omega)
    by_cases q : t k = (-99)
    · rw [rT, if_pos q]
      exact ⟨c, by omega, h2, h3⟩
    · rw [rT, if_neg q]
      refine ⟨c + 1, by omega, ?_, fun z => absurd z (by omega)⟩
      show (rT t k).1 + 1 = nI (c + 1)
      rw [h2]
      exact nI_1 c
theorem min32 (x y : Int32) : (if x < y then x else y) = if y ≤ x then y else x := by
  by_cases h : y ≤ x
  · rw [if_pos h, if_neg (Int32.not_lt.mpr h)]
  · rw [if_neg h, if_pos (Int32.not_le.mp h)]
theorem max32 (x y : Int32) : (if y < x then x else y) = if x ≤ y then y else x := by
  by_cases h : x ≤ y
  · rw [if_pos h, if_neg (Int32.not_lt.mpr h)]
  · rw [if_neg h, if_pos (Int32.not_le.mp h)]
theorem rec_row (C : Nat → Nat → Int32) (v : Nat) : ∀ k r, ¬ r = 300 + 3 * v → it12_X3_recount C v k r = C r := by
  intro k
  induction k with
  | zero => intro r h; rw [it12_X3_recount, up2_ne _ _ _ h, up2_ne _ _ _ h]
  | succ k ih =>
    intro r h
    rw [it12_X3_recount]
    split
    · exact ih r h
    · rw [up2_ne _ _ _ h, up2_ne _ _ _ h, up2_ne _ _ _ h, up2_ne _ _ _ h]
      exact ih r h
/-- told numbers are far from the ends -/
def okT (t : Nat → Int32) : Prop := ∀ i, ¬ t i = (-99) → (-99) ≤ t i ∧ t i < 99
theorem rec_val {C : Nat → Nat → Int32} {v : Nat} {t : Nat → Int32} (ht : okT t) (h1 : ∀ i, i < 7 → C (300 + 3 * v + 2) i = if t i = (-99) then 0 else 1) (h2 : ∀ i, i < 7 → ¬ t i = (-99) → C (300 + 3 * v + 1) i = t i) :
    ∀ k, k ≤ 7 → it12_X3_recount C v k (300 + 3 * v) 2 = (rT t k).1 ∧ it12_X3_recount C v k (300 + 3 * v) 3 = (rT t k).2.1 ∧ (¬ (rT t k).1 = 0 → it12_X3_recount C v k (300 + 3 * v) 4 = (rT t k).2.2.1 ∧ it12_X3_recount C v k (300 + 3 * v) 5 = (rT t k).2.2.2) := by
  intro k
  induction k with
  | zero =>
    intro _
    refine ⟨?_, ?_, fun z => absurd rfl z⟩ <;> simp [it12_X3_recount, up2, rT]
  | succ k ih =>
    intro hk
    obtain ⟨g1, g2, g3⟩ := ih (by omega)
    have e2 : it12_X3_recount C v k (300 + 3 * v + 2) = C (300 + 3 * v + 2) := rec_row C v k _ (by omega)
    have e1 : it12_X3_recount C v k (300 + 3 * v + 1) = C (300 + 3 * v + 1) := rec_row C v k _ (by omega)
    rw [it12_X3_recount, e2, e1, h1 k (by omega), rT]
    by_cases q : t k = (-99)
    · rw [if_pos q, if_pos q, if_pos rfl]
      exact ⟨g1, g2, g3⟩
    · rw [if_neg q, if_neg q, if_neg (by decide), h2 k (by omega) q, g1, g2]
      obtain ⟨c, c1, c2, c3⟩ := rT_c t k (by omega)
      obtain ⟨t1, t2⟩ := ht k q
      refine ⟨by simp [up2], by simp [up2], fun _ => ?_⟩
      by_cases z : (rT t k).1 = 0
      · have c0 : c = 0 := by
          apply Nat.eq_zero_of_not_pos
          intro hp
          exact nI_ne0 hp (by omega) (c2.symm.trans z)
        have hr := c3 c0
        rw [if_pos z, if_pos z, hr]
        dsimp only
        rw [if_neg (Int32.not_le.mpr t2)]
        refine ⟨by simp [up2], ?_⟩
        by_cases y : t k ≤ (-99)
        · exact absurd (Int32.le_antisymm y t1) q
        · rw [if_neg y]
          simp [up2]
      · obtain ⟨g4, g5⟩ := g3 z
        rw [if_neg z, if_neg z, g4, g5, min32, max32]
        exact ⟨by simp [up2], by simp [up2]⟩
