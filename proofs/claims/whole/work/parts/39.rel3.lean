/-! THE BRIDGE: programmes -/
theorem JJ.elemsI {C M : Nat → Nat → Int32} (J : JJ C M) {k d : Nat} (hk : k < nS M) (hd : d < 3) : ∀ i, i ≤ 12 → it14_X2_elementScoresBy C k d i = it5_X5_elementsOf M k d (min i (nE M k)) ∧ (it14_X2_elementScoresBy C k d i).toInt.natAbs ≤ 10000000 * i := by
  intro i
  induction i with
  | zero => intro _; rw [Nat.zero_min]; exact ⟨rfl, (show (0 : Int32).toInt.natAbs ≤ 10000000 * 0 by decide)⟩
  | succ i ih =>
    intro hi
    obtain ⟨a, b⟩ := ih (by omega)
    rw [it14_X2_elementScoresBy]
    by_cases h : i < nE M k
    · rw [if_neg (fun z => by
        have := (J.c52 hk (by omega)).mp z
        omega), show min (i + 1) (nE M k) = i + 1 by omega, it5_X5_elementsOf, a, show min i (nE M k) = i by omega]
      rw [show min i (nE M k) = i by omega] at a
      obtain ⟨s1, s2⟩ := J.score hk h hd
      refine ⟨by rw [s1], ?_⟩
      rw [← a, t_add (by omega) (by omega)]
      omega
    · rw [if_pos ((J.c52 hk (by omega)).mpr (by omega)), a, show min (i + 1) (nE M k) = min i (nE M k) by omega]
      rw [a] at b
      exact ⟨rfl, by omega⟩
theorem JJ.elems {C M : Nat → Nat → Int32} (J : JJ C M) {k d : Nat} (hk : k < nS M) (hd : d < 3) : f_X2_elementScoresBy C k d = f_X5_elementsOf M k d ∧ (f_X5_elementsOf M k d).toInt.natAbs ≤ 120000000 := by
  obtain ⟨a, b⟩ := J.elemsI hk hd 12 (Nat.le_refl _)
  have h2 := (J.cnt (J.lt hk)).2
  rw [show min 12 (nE M k) = nE M k by omega] at a
  rw [a] at b
  exact ⟨a, b⟩
theorem comp_it (M : Nat → Nat → Int32) (sk n : Nat) : (it4_X5_componentsOf M sk (n + 1)).1 = (it4_X5_componentsOf M sk n).1 + f_X5_rint (FP.dmul 4627730092099895296 (tm (rT (tP M sk n) 7))) * 2 := by
  rw [it4_X5_componentsOf]
  dsimp only
  rw [trimmed_tm, it16_rT _ _ _ (told4_clears _)]
  have e : (fun j => up2 (up2 (up2 (up2 (it4_X5_componentsOf M sk n).2 0 19 0) 0 20 0) 0 21 99) 0 22 (-99) 17 ((36 * j + 3 * sk) + n)) = tP M sk n := by
    funext j
    rw [up2_ne _ _ _ (by decide), up2_ne _ _ _ (by decide), up2_ne _ _ _ (by decide), up2_ne _ _ _ (by decide), sq_it4c M sk n 17 _ (fun z => absurd z (by decide))]
    rfl
  rw [e]
theorem JJ.comps {C M : Nat → Nat → Int32} (J : JJ C M) {k : Nat} (hk : k < nS M) : f_X2_componentScores C k = f_X5_componentsOf M k := by
  have h : ∀ i, i ≤ 3 → it13_X2_componentScores C k i = (it4_X5_componentsOf M k i).1 := by
    intro i
    induction i with
    | zero => intro _; rfl
    | succ i ih =>
      intro hi
      rw [it13_X2_componentScores, if_neg (J.c64 hk (by omega)), ih (by omega), comp_it]
      unfold f_X2_componentScore
      rw [VR_mean ((J.rp hk).2.2 i (by omega))]
      have hb : bd (tm (rT (tP M k i) 7)) 478 := tm_bd (J.pa (J.lt hk) (by omega))
      rw [(near_eq (dmul_bd c25 hb (by decide)) (by decide)).1, Int32.mul_comm]
  exact h 3 (Nat.le_refl _)
theorem fine_it (M : Nat → Nat → Int32) (k : Nat) : ∀ i, it4_X5_fineOf M k i = cnF (M 15) (12 * k) i := by
  intro i
  induction i with
  | zero => rfl
  | succ i ih =>
    rw [it4_X5_fineOf, cnF, ih]
    split
    · exact Int32.add_zero _
    · rfl
theorem cnF_nat (W : Nat → Int32) (b : Nat) : ∀ i, ∃ f, f ≤ i ∧ cnF W b i = nI f := by
  intro i
  induction i with
  | zero => exact ⟨0, Nat.le_refl _, rfl⟩
  | succ i ih =>
    obtain ⟨f, h1, h2⟩ := ih
    rw [cnF]
    split
    · exact ⟨f, by omega, h2⟩
    · exact ⟨f + 1, by omega, by rw [h2, nI_1]⟩
theorem JJ.fine {C M : Nat → Nat → Int32} (J : JJ C M) {k : Nat} (hk : k < nS M) : f_X2_fine C k = f_X5_fineOf M k := by
  obtain ⟨f, h1, h2⟩ := cnF_nat (M 15) (12 * k) (nE M k)
  have h3 := (J.cnt (J.lt hk)).2
  exact fine_eq (f := f) (by omega) ((J.rp hk).2.1.2.1.trans h2) ((fine_it M k _).trans h2)
theorem JJ.total {C M : Nat → Nat → Int32} (J : JJ C M) {k d : Nat} (hk : k < nS M) (hd : d < 3) : f_X2_totalOf C k (f_X5_elementsOf M k d) = f_X5_totalOf M k d := by
  unfold f_X2_totalOf f_X5_totalOf
  rw [J.comps hk, J.fine hk]
  generalize f_X5_elementsOf M k d + f_X5_componentsOf M k - f_X5_fineOf M k = z
  by_cases h : 0 < z
  · rw [if_pos h, if_pos (Int32.le_of_lt h)]
  · rw [if_neg h]
    split
    · rename_i g
      exact Int32.le_antisymm g (Int32.not_lt.mp h)
    · rfl
theorem total_0 (M : Nat → Nat → Int32) (k d : Nat) : 0 ≤ f_X5_totalOf M k d := by
  unfold f_X5_totalOf
  split
  · assumption
  · decide
/-- who is there -/
theorem JJ.prog {C M : Nat → Nat → Int32} (J : JJ C M) (p : Int32) : f_X4_programmeOf C p = f_X5_isSkater M p ∧ (¬ f_X5_isSkater M p = 0 → ∃ sk, sk < nS M ∧ p = nI sk) ∧ ∀ sk, sk < nS M → p = nI sk → f_X5_isSkater M p = 1 := by
  have hm := J.many
  unfold f_X4_programmeOf f_X5_isSkater f_X5_in
  rw [hm.1]
  rcases pk_ix p (n := nS M) (by omega) with h | h | ⟨j, hj, rfl⟩
  · rw [if_pos h, if_pos h]
    refine ⟨rfl, fun z => absurd rfl z, fun sk h1 h2 => ?_⟩
    rw [h2] at h
    exact absurd h (nI_pos (by omega))
  · have h0 : ¬ p < 0 := fun z => by
      rw [Int32.lt_iff_toInt_lt] at z
      rw [Int32.le_iff_toInt_le, nI_toInt (by omega)] at h
      have : (0 : Int32).toInt = 0 := rfl
      omega
    have h1 : nI (nS M) - 1 < p := by
      by_cases z : nS M = 0
      · rw [z]
        rw [Int32.lt_iff_toInt_lt] at h0 ⊢
        have e1 : (nI 0 - 1).toInt = -1 := by decide
        have e2 : (0 : Int32).toInt = 0 := rfl
        omega
      · obtain ⟨r, hr⟩ : ∃ r, nS M = r + 1 := ⟨nS M - 1, by omega⟩
        rw [hr, nI_pred]
        rw [hr] at h
        rw [Int32.le_iff_toInt_le, nI_toInt (by omega)] at h
        rw [Int32.lt_iff_toInt_lt, nI_toInt (by omega)]
        omega
    rw [if_neg h0, if_neg h0, if_pos h1]
    refine ⟨?_, fun z => absurd rfl z, fun sk g1 g2 => ?_⟩
    · split
      · rfl
      · rename_i h12
        rcases pk_ix p (n := 12) (by decide) with g | g | ⟨j, hj, rfl⟩
        · exact absurd g h0
        · exact absurd g h12
        · rw [nI_clamp (by omega), if_pos ((J.c1 hj).mpr ((nI_leI (by omega) (by omega)).mp h))]
    · rw [g2] at h
      have := (nI_leI (by omega) (by omega)).mp h
      omega
  · obtain ⟨r, hr⟩ : ∃ r, nS M = r + 1 := ⟨nS M - 1, by omega⟩
    have e1 : ¬ nI (nS M) - 1 < nI j := by
      rw [hr, nI_pred]
      exact nI_nlt (by omega) (by omega)
    rw [if_neg (nI_pos (by omega)), if_neg (nI_pos (by omega)), if_neg (fun z => by
      have := (nI_leI (a := 12) (by decide) (by omega)).mp z
      omega), if_neg e1, nI_clamp (by omega), if_neg (fun z => by
      have := (J.c1 (by omega)).mp z
      omega)]
    exact ⟨rfl, fun _ => ⟨j, hj, rfl⟩, fun _ _ _ => rfl⟩
theorem JJ.progN {C M : Nat → Nat → Int32} (J : JJ C M) {i : Nat} (hi : i < 12) : f_X4_programmeOf C (nI i) = 0 ↔ nS M ≤ i := by
  have hm := J.many
  obtain ⟨h1, h2, h3⟩ := J.prog (nI i)
  rw [h1]
  constructor
  · intro z
    by_cases q : i < nS M
    · exact absurd (z.symm.trans (h3 i q rfl)) (by decide)
    · omega
  · intro q
    by_cases z : f_X5_isSkater M (nI i) = 0
    · exact z
    · obtain ⟨sk, g1, g2⟩ := h2 z
      have := (nI_eq (by omega) (by omega)).mp g2
      omega
/-- rows that are alike -/
theorem VR_congr {C C' : Nat → Nat → Int32} {v : Nat} {t : Nat → Int32} (h : ∀ r, rV v r → C' r = C r) (q : VR C v t) : VR C' v t := by
  unfold VR at q ⊢
  rw [h _ (Or.inl rfl), h _ (Or.inr (Or.inl rfl)), h _ (Or.inr (Or.inr rfl))]
  exact q
theorem RO_congr {C C' M : Nat → Nat → Int32} (h0 : C' 0 = C 0) (h1 : C' 1 = C 1) (h2 : C' 2 = C 2) (q : RO C M) : RO C' M := by
  unfold RO at q ⊢
  rw [h0, h1, h2]
  exact q
theorem RV_congr {C C' M : Nat → Nat → Int32} (h : ∀ d, d < 3 → C' (33 + d) = C (33 + d)) (q : RV C M) : RV C' M := by
  intro d hd
  rw [h d hd]
  exact q d hd
theorem RP_congr {C C' M : Nat → Nat → Int32} {k : Nat} (h0 : C' (40 + k) = C (40 + k)) (h1 : C' (52 + k) = C (52 + k)) (h2 : C' (64 + k) = C (64 + k)) (h3 : ∀ j, j < 3 → ∀ r, rV (3 * k + j) r → C' r = C r) (q : RPs C M k ∧ RPc C M k ∧ RPv C M k) : RPs C' M k ∧ RPc C' M k ∧ RPv C' M k := by
  obtain ⟨q1, q2, q3⟩ := q
  refine ⟨?_, ?_, fun j hj => VR_congr (h3 j hj) (q3 j hj)⟩
  · unfold RPs at q1 ⊢
    rw [h0]
    exact q1
  · unfold RPc at q2 ⊢
    rw [h0, h1, h2]
    exact q2
theorem RE_congr {C C' M : Nat → Nat → Int32} {k i : Nat} (h0 : C' (80 + (12 * k + i)) = C (80 + (12 * k + i))) (h1 : ∀ r, rV (36 + (12 * k + i)) r → C' r = C r) (h2 : ∀ r, rV (180 + (12 * k + i)) r → C' r = C r) (q : RE C M k i) : RE C' M k i := by
  obtain ⟨q1, q2, q3⟩ := q
  refine ⟨?_, VR_congr h1 q2, VR_congr h2 q3⟩
  rw [h0]
  exact q1
theorem JJ_34 {C C' M : Nat → Nat → Int32} (h : ∀ r, ¬ r = 3 → ¬ r = 4 → C' r = C r) (J : JJ C M) : JJ C' M := by
  refine ⟨J.1, RO_congr (h 0 (by decide) (by decide)) (h 1 (by decide) (by decide)) (h 2 (by decide) (by decide)) J.ro, RV_congr (fun d _ => h _ (by omega) (by omega)) J.rv, fun k hk => ?_, fun k i hk hi => ?_⟩
  · exact RP_congr (h _ (by omega) (by omega)) (h _ (by omega) (by omega)) (h _ (by omega) (by omega)) (fun j _ r hr => h r (by unfold rV at hr; omega) (by unfold rV at hr; omega)) (J.rp hk)
  · exact RE_congr (h _ (by omega) (by omega)) (fun r hr => h r (by unfold rV at hr; omega) (by unfold rV at hr; omega)) (fun r hr => h r (by unfold rV at hr; omega) (by unfold rV at hr; omega)) (J.re hk hi)
