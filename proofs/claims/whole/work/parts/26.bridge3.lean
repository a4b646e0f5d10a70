theorem seat_1 {C : Nat → Nat → Int32} {v i : Nat} (hi : i < 7) : f_X3_isSeat C v (nI i) = 1 := by
  unfold f_X3_isSeat
  rw [if_neg (nI_pos (by omega)), if_neg (show ¬ 7 ≤ nI i from nI_ge (b := 7) hi (by decide))]
theorem tell_eq (C : Nat → Nat → Int32) (v i : Nat) (x : Int32) (hi : i < 7) : g_X3_tell C v (nI i) x = g_X3_recount (up2 (up2 C (300 + 3 * v + 1) i x) (300 + 3 * v + 2) i 1) v := by
  unfold g_X3_tell
  rw [seat_1 hi, if_neg (by decide), nI_clamp (by omega)]
theorem tell_row {C : Nat → Nat → Int32} {v i r : Nat} {x : Int32} (hi : i < 7) (h : ¬ rV v r) : g_X3_tell C v (nI i) x r = C r := by
  have h0 : ¬ r = 300 + 3 * v := fun q => h (Or.inl q)
  have h1 : r ≠ 300 + 3 * v + 1 := fun q => h (Or.inr (Or.inl q))
  have h2 : r ≠ 300 + 3 * v + 2 := fun q => h (Or.inr (Or.inr q))
  rw [tell_eq C v i x hi]
  unfold g_X3_recount
  rw [rec_row _ _ _ _ h0, up2_ne _ _ _ h2, up2_ne _ _ _ h1]
theorem VR_tell {C : Nat → Nat → Int32} {v i : Nat} {t : Nat → Int32} {x : Int32} (h : VR C v t) (hi : i < 7) (hx : ¬ x = (-99)) (ht : okT (upd t i x)) : VR (g_X3_tell C v (nI i) x) v (upd t i x) := by
  obtain ⟨h1, h2, -⟩ := h
  rw [tell_eq C v i x hi]
  have k1 : ∀ j, j < 7 → up2 (up2 C (300 + 3 * v + 1) i x) (300 + 3 * v + 2) i 1 (300 + 3 * v + 2) j = if upd t i x j = (-99) then 0 else 1 := by
    intro j hj
    rw [up2_row, up2_ne _ _ _ (by omega)]
    unfold upd
    by_cases q : j = i
    · rw [if_pos q, if_pos q, if_neg hx]
    · rw [if_neg q, if_neg q]
      exact h1 j hj
  have k2 : ∀ j, j < 7 → ¬ upd t i x j = (-99) → up2 (up2 C (300 + 3 * v + 1) i x) (300 + 3 * v + 2) i 1 (300 + 3 * v + 1) j = upd t i x j := by
    intro j hj
    rw [up2_ne _ _ _ (show 300 + 3 * v + 1 ≠ 300 + 3 * v + 2 by omega), up2_row]
    unfold upd
    by_cases q : j = i
    · intro _
      rw [if_pos q, if_pos q]
    · rw [if_neg q, if_neg q]
      exact h2 j hj
  have k3 := rec_val ht k1 k2 7 (Nat.le_refl _)
  refine ⟨fun j hj => ?_, fun j hj hn => ?_, k3⟩
  · unfold g_X3_recount
    rw [rec_row _ _ _ _ (by omega)]
    exact k1 j hj
  · unfold g_X3_recount
    rw [rec_row _ _ _ _ (by omega)]
    exact k2 j hj hn
/-- the one in the middle: callers -/
theorem VR_middle {C : Nat → Nat → Int32} {v : Nat} {t : Nat → Int32} (h : VR C v t) : f_X3_middle C v = if (rT t 7).1 = 0 then 0 else if 3 ≤ (rT t 7).1 then ((rT t 7).2.1 - (rT t 7).2.2.1) - (rT t 7).2.2.2 else (rT t 7).2.2.1 := by
  obtain ⟨-, -, h2, h3, h4⟩ := h
  unfold f_X3_middle
  rw [h2, h3]
  by_cases z : (rT t 7).1 = 0
  · rw [if_pos z, if_pos z]
  · rw [if_neg z, if_neg z, (h4 z).1, (h4 z).2]
theorem VR_hasMean {C : Nat → Nat → Int32} {v : Nat} {t : Nat → Int32} (h : VR C v t) : f_X3_hasMean C v = if (rT t 7).1 < 3 then 0 else 1 := by
  unfold f_X3_hasMean
  rw [h.2.2.1]
theorem VR_told {C : Nat → Nat → Int32} {v i : Nat} {t : Nat → Int32} (h : VR C v t) (hi : i < 7) : f_X3_hasTold C v (nI i) = if t i = (-99) then 0 else 1 := by
  unfold f_X3_hasTold
  rw [seat_1 hi, if_neg (by decide), nI_clamp (by omega), h.1 i hi]
  by_cases q : t i = (-99)
  · rw [if_pos q, if_pos rfl]
  · rw [if_neg q, if_neg (by decide)]
theorem VR_number {C : Nat → Nat → Int32} {v i : Nat} {t : Nat → Int32} (h : VR C v t) (hi : i < 7) (q : ¬ t i = (-99)) : f_X3_numberOf C v (nI i) = t i := by
  unfold f_X3_numberOf
  rw [VR_told h hi, if_neg q, if_neg (by decide), nI_clamp (by omega)]
  exact h.2.1 i hi q
