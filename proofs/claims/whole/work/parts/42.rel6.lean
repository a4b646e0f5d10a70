/-! THE BRIDGE: bias -/
theorem JJ.c1' {C M : Nat → Nat → Int32} (J : JJ C M) {k : Nat} (hk : k < 12) (h : k < nS M) : ¬ C 1 k = 0 := fun z => by
  have := (J.c1 hk).mp z
  omega
theorem mean19 (M : Nat → Nat → Int32) (sk el : Nat) : g_X5_meanOf M sk el 0 19 = (rT (tGr M (12 * sk + el)) 7).1 := by
  have h := it6_rT M sk el 7
  unfold g_X5_meanOf tGr
  rw [← h]
  generalize it6_X5_meanOf M sk el 7 = G
  rfl
theorem JJ.it17 {C M : Nat → Nat → Int32} (J : JJ C M) {k j : Nat} (p0 : Int32) (hk : k < nS M) (hj : j < 7) : ∀ i, i ≤ 12 → it17_X2_addBias C k (nI j) (it24_X5_bias M p0 j (12 * k)) i = it24_X5_bias M p0 j (12 * k + i) := by
  have h1 := J.lt hk
  intro i
  induction i with
  | zero => intro _; rfl
  | succ i ih =>
    intro hi
    rw [it17_X2_addBias, ih (by omega), show 12 * k + (i + 1) = (12 * k + i) + 1 from rfl, it24_X5_bias, show (12 * k + i) / 12 = k by omega, show (12 * k + i) % 12 = i by omega, mean19, meanOf_tm, show M 16 (144 * j + (12 * k + i)) = tGr M (12 * k + i) j from rfl, show (fun i_1 => M 16 (144 * i_1 + (12 * k + i))) = tGr M (12 * k + i) from rfl]
    by_cases h : nE M k ≤ i
    · rw [if_pos ((J.c52 hk (by omega)).mpr h), if_pos (show tGr M (12 * k + i) j = (-99) from (J.no h1 (by omega) h).2.2.2.2 j hj)]
    · have hv := (J.re hk (i := i) (by omega)).2.2
      rw [if_neg (fun z => h ((J.c52 hk (by omega)).mp z)), VR_hasMean hv, VR_told hv hj]
      by_cases a : tGr M (12 * k + i) j = (-99)
      · rw [if_pos a, if_pos a, if_pos rfl]
        split <;> rfl
      · rw [if_neg a, if_neg a]
        by_cases b : (rT (tGr M (12 * k + i)) 7).1 < 3
        · rw [if_pos b, if_pos b, if_pos rfl]
        · rw [if_neg b, if_neg b, if_neg (show ¬ (1 : Int32) = 0 by decide), if_neg (show ¬ (1 : Int32) = 0 by decide), VR_number hv hj a, VR_mean hv]
theorem JJ.skip {C M : Nat → Nat → Int32} (J : JJ C M) {k j : Nat} (p0 : Int32) (h1 : k < 12) (hk : nS M ≤ k) (hj : j < 7) : ∀ i, i ≤ 12 → it24_X5_bias M p0 j (12 * k + i) = it24_X5_bias M p0 j (12 * k) := by
  intro i
  induction i with
  | zero => intro _; rfl
  | succ i ih =>
    intro hi
    rw [show 12 * k + (i + 1) = (12 * k + i) + 1 from rfl, it24_X5_bias, if_pos ((J.no h1 (by omega) (by rw [(J.none h1 hk).1]; exact Nat.zero_le _)).2.2.2.2 j hj)]
    exact ih (by omega)
theorem JJ.it36 {C M : Nat → Nat → Int32} (J : JJ C M) {j : Nat} (p0 : Int32) (hj : j < 7) : ∀ k, k ≤ 12 → it36_X4_bias C (nI j) k = it24_X5_bias M p0 j (12 * k) := by
  intro k
  induction k with
  | zero => intro _; rfl
  | succ k ih =>
    intro hk
    rw [it36_X4_bias, ih (by omega)]
    by_cases h : k < nS M
    · rw [if_neg (J.c1' (by omega) h)]
      exact J.it17 p0 h hj 12 (Nat.le_refl _)
    · rw [if_pos ((J.c1 (by omega)).mpr (by omega))]
      exact (J.skip p0 (by omega) (by omega) hj 12 (Nat.le_refl _)).symm
theorem JJ.biasB {C M : Nat → Nat → Int32} (J : JJ C M) {j : Nat} (p0 : Int32) (hj : j < 7) : ∀ n, n ≤ 144 → bd (it24_X5_bias M p0 j n) (518 * n) := by
  intro n
  induction n with
  | zero => intro _; exact bd_0
  | succ n ih =>
    intro hn
    have ih := ih (by omega)
    have up : bd (it24_X5_bias M p0 j n) (518 * (n + 1)) := bd_le ih (by omega)
    have g := J.gr (n := n) (by omega)
    rw [it24_X5_bias]
    split
    · exact up
    · rename_i a
      split
      · exact up
      · rw [meanOf_tm]
        have e : 12 * (n / 12) + n % 12 = n := by omega
        have t1 : (M 16 (144 * j + n)).toInt.natAbs ≤ 40 := (g j hj).resolve_left a
        have t2 : bd (tm (rT (fun i => M 16 (144 * i + (12 * (n / 12) + n % 12))) 7)) 478 := by
          rw [e]
          exact tm_bd g
        have z := dadd_bd ih (dsub_bd (i2d_bd t1) t2 (by decide)) (by omega)
        exact bd_le z (by omega)
theorem JJ.bias {C M : Nat → Nat → Int32} (J : JJ C M) {j : Nat} (p0 : Int32) (hj : j < 7) : f_X4_nearest (FP.dmul 4636737291354636288 (it36_X4_bias C (nI j) 12)) = f_X5_rint (FP.dmul 4636737291354636288 (it24_X5_bias M p0 j 144)) := by
  rw [J.it36 p0 hj 12 (Nat.le_refl _)]
  exact (near_eq (dmul_bd c100 (J.biasB p0 hj 144 (Nat.le_refl _)) (by decide)) (by decide)).1
