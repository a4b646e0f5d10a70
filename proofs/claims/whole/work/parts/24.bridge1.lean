/-! THE BRIDGE: what the class holds, told by the reference's numbers. First: votes. -/
/-- of the told numbers (-99: untold) how many, their sum, the least, the greatest -/
def rT (t : Nat → Int32) : Nat → Int32 × Int32 × Int32 × Int32
  | 0 => (0, 0, 99, (-99))
  | n + 1 => if t n = (-99) then rT t n else ((rT t n).1 + 1, (rT t n).2.1 + t n, (if (rT t n).2.2.1 ≤ t n then (rT t n).2.2.1 else t n), (if t n ≤ (rT t n).2.2.2 then (rT t n).2.2.2 else t n))
def tm (p : Int32 × Int32 × Int32 × Int32) : UInt64 := if 3 ≤ p.1 then FP.ddiv (FP.i2d ((p.2.1 - p.2.2.1) - p.2.2.2)) (FP.i2d (p.1 - 2)) else FP.dconst0
def told4 (M : Nat → Nat → Int32) : Int32 × Int32 × Int32 × Int32 := (M 0 19, M 0 20, M 0 21, M 0 22)
theorem told4_clears (M : Nat → Nat → Int32) : told4 (up2 (up2 (up2 (up2 M 0 19 0) 0 20 0) 0 21 99) 0 22 (-99)) = (0, 0, 99, (-99)) := by
  simp [told4, up2]
theorem told4_counts (M : Nat → Nat → Int32) (t : Int32) : told4 (g_X5_counts M t) = if t = (-99) then told4 M else ((told4 M).1 + 1, (told4 M).2.1 + t, (if (told4 M).2.2.1 ≤ t then (told4 M).2.2.1 else t), (if t ≤ (told4 M).2.2.2 then (told4 M).2.2.2 else t)) := by
  unfold g_X5_counts
  split
  · rfl
  · by_cases a : M 0 21 ≤ t <;> by_cases b : t ≤ M 0 22 <;> simp [told4, up2, a, b]
theorem it6_rT (M : Nat → Nat → Int32) (sk el : Nat) : ∀ k, told4 (it6_X5_meanOf M sk el k) = rT (fun i => M 16 (144 * i + (12 * sk + el))) k := by
  intro k
  induction k with
  | zero => exact told4_clears M
  | succ k ih =>
    have e1 : it6_X5_meanOf M sk el k 16 = M 16 := funext fun j => sq_it6 M sk el k 16 j (fun z => absurd z (by decide))
    rw [it6_X5_meanOf, told4_counts, ih, e1, rT]
theorem trimmed_tm (M : Nat → Nat → Int32) : f_X5_trimmed M = tm (told4 M) := rfl
theorem meanOf_tm (M : Nat → Nat → Int32) (sk el : Nat) : f_X5_meanOf M sk el = tm (rT (fun i => M 16 (144 * i + (12 * sk + el))) 7) := by
  unfold f_X5_meanOf
  rw [trimmed_tm, it6_rT]
theorem it16_rT (M : Nat → Nat → Int32) (sk i : Nat) (h : told4 M = (0, 0, 99, (-99))) : ∀ k, told4 (it16_X5_componentsOf M sk i k) = rT (fun j => M 17 ((36 * j + 3 * sk) + i)) k := by
  intro k
  induction k with
  | zero => exact h
  | succ k ih =>
    have e1 : it16_X5_componentsOf M sk i k 17 = M 17 := funext fun j => sq_it16c M sk i k 17 j (fun z => absurd z (by decide))
    rw [it16_X5_componentsOf, told4_counts, ih, e1, rT]
/-- votes of the class hold what was told -/
def VR (C : Nat → Nat → Int32) (v : Nat) (t : Nat → Int32) : Prop :=
  (∀ i, i < 7 → C (300 + 3 * v + 2) i = if t i = (-99) then 0 else 1) ∧ (∀ i, i < 7 → ¬ t i = (-99) → C (300 + 3 * v + 1) i = t i) ∧
  C (300 + 3 * v) 2 = (rT t 7).1 ∧ C (300 + 3 * v) 3 = (rT t 7).2.1 ∧ (¬ (rT t 7).1 = 0 → C (300 + 3 * v) 4 = (rT t 7).2.2.1 ∧ C (300 + 3 * v) 5 = (rT t 7).2.2.2)
theorem VR_mean {C : Nat → Nat → Int32} {v : Nat} {t : Nat → Int32} (h : VR C v t) : f_X3_trimmedMean C v = tm (rT t 7) := by
  obtain ⟨-, -, h2, h3, h4⟩ := h
  unfold f_X3_trimmedMean tm
  rw [h2, h3]
  split
  · rename_i q
    have hz : ¬ (rT t 7).1 = 0 := fun z => by
      rw [z] at q
      exact absurd q (by decide)
    rw [(h4 hz).1, (h4 hz).2]
  · rfl
