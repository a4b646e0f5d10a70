/-! THE JOINT WORLD: new roles -/
def aNP (ad : Nat → Nat) (k a : Nat) : Nat → Nat := fun r => if r = 40 + k then a else if r = 52 + k then a + 1 else if r = 64 + k then a + 2 else if 300 + 9 * k ≤ r ∧ r < 300 + 9 * k + 9 then a + 3 + (r - (300 + 9 * k)) else ad r
def aNE (ad : Nat → Nat) (n a : Nat) : Nat → Nat := fun r => if r = 80 + n then a else if 300 + 3 * (36 + n) ≤ r ∧ r < 300 + 3 * (36 + n) + 3 then a + 1 + (r - (300 + 3 * (36 + n))) else if 300 + 3 * (180 + n) ≤ r ∧ r < 300 + 3 * (180 + n) + 3 then a + 4 + (r - (300 + 3 * (180 + n))) else ad r
theorem aNP_v {ad : Nat → Nat} {k a j : Nat} (hk : k < 12) (hj : j < 3) : adV (aNP ad k a) (3 * k + j) (a + 3 + 3 * j) := by
  unfold adV aNP
  refine ⟨?_, ?_, ?_⟩
  · rw [if_neg (by omega), if_neg (by omega), if_neg (by omega), if_pos (by omega)]
    omega
  · rw [if_neg (by omega), if_neg (by omega), if_neg (by omega), if_pos (by omega)]
    omega
  · rw [if_neg (by omega), if_neg (by omega), if_neg (by omega), if_pos (by omega)]
    omega
theorem aNP_ok {ad : Nat → Nat} {k a : Nat} (hk : k < 12) : adP (aNP ad k a) k a := by
  refine ⟨?_, ?_, ?_, aNP_v (j := 0) hk (by decide), aNP_v (j := 1) hk (by decide), aNP_v (j := 2) hk (by decide)⟩
  · unfold aNP
    rw [if_pos rfl]
  · unfold aNP
    rw [if_neg (by omega), if_pos rfl]
  · unfold aNP
    rw [if_neg (by omega), if_neg (by omega), if_pos rfl]
theorem aNE_ok {ad : Nat → Nat} {n a : Nat} (hn : n < 144) : adE (aNE ad n a) n a := by
  refine ⟨?_, ⟨?_, ?_, ?_⟩, ?_, ?_, ?_⟩
  · unfold aNE
    rw [if_pos rfl]
  · unfold aNE
    rw [if_neg (by omega), if_pos (by omega)]
    omega
  · unfold aNE
    rw [if_neg (by omega), if_pos (by omega)]
    omega
  · unfold aNE
    rw [if_neg (by omega), if_pos (by omega)]
    omega
  · unfold aNE
    rw [if_neg (by omega), if_neg (by omega), if_pos (by omega)]
    omega
  · unfold aNE
    rw [if_neg (by omega), if_neg (by omega), if_pos (by omega)]
    omega
  · unfold aNE
    rw [if_neg (by omega), if_neg (by omega), if_pos (by omega)]
    omega
/-- the roles of a skater who isn't there are free -/
theorem JJ.free_P {C M : Nat → Nat → Int32} (J : JJ C M) {r : Nat} (h : dmn M r) : ¬ r = 40 + nS M ∧ ¬ r = 52 + nS M ∧ ¬ r = 64 + nS M ∧ ¬ (300 + 9 * nS M ≤ r ∧ r < 300 + 9 * nS M + 9) ∨ 12 ≤ nS M := by
  by_cases h12 : 12 ≤ nS M
  · exact Or.inr h12
  · refine Or.inl ?_
    rcases h with h | h | h | ⟨k, hk, h⟩ | ⟨k, i, hk, hi, h⟩
    · omega
    · omega
    · omega
    · rcases h with h | h | h | ⟨j, hj, h⟩
      · omega
      · omega
      · omega
      · unfold rV at h
        omega
    · have hi12 := (J.cnt (J.lt hk)).2
      unfold rV at h
      omega
theorem JJ.free_E {C M : Nat → Nat → Int32} (J : JJ C M) {g r : Nat} (hg : g < nS M) (hn : nE M g < 12) (h : dmn M r) : ¬ r = 80 + (12 * g + nE M g) ∧ ¬ (300 + 3 * (36 + (12 * g + nE M g)) ≤ r ∧ r < 300 + 3 * (36 + (12 * g + nE M g)) + 3) ∧ ¬ (300 + 3 * (180 + (12 * g + nE M g)) ≤ r ∧ r < 300 + 3 * (180 + (12 * g + nE M g)) + 3) := by
  have h12 := J.many.2
  rcases h with h | h | h | ⟨k, hk, h⟩ | ⟨k, i, hk, hi, h⟩
  · omega
  · omega
  · omega
  · rcases h with h | h | h | ⟨j, hj, h⟩
    · omega
    · omega
    · omega
    · unfold rV at h
      omega
  · have hi12 := (J.cnt (J.lt hk)).2
    have e : ¬ 12 * k + i = 12 * g + nE M g := by
      intro z
      have ek : k = g := by omega
      subst ek
      omega
    unfold rV at h
    omega
theorem JJ.nd_P {C M : Nat → Nat → Int32} (J : JJ C M) (h12 : nS M < 12) : ndP (dmn M) (nS M) := by
  have f : ∀ r, (r = 40 + nS M ∨ r = 52 + nS M ∨ r = 64 + nS M ∨ (300 + 9 * nS M ≤ r ∧ r < 300 + 9 * nS M + 9)) → ¬ dmn M r := fun r hr h => by
    rcases J.free_P h with q | q <;> omega
  refine ⟨f _ (Or.inl rfl), f _ (Or.inr (Or.inl rfl)), f _ (Or.inr (Or.inr (Or.inl rfl))), ⟨f _ (by omega), f _ (by omega), f _ (by omega)⟩, ⟨f _ (by omega), f _ (by omega), f _ (by omega)⟩, ⟨f _ (by omega), f _ (by omega), f _ (by omega)⟩⟩
theorem JJ.nd_E {C M : Nat → Nat → Int32} (J : JJ C M) {g : Nat} (hg : g < nS M) (hn : nE M g < 12) : ndE (dmn M) (12 * g + nE M g) := by
  have f : ∀ r, (r = 80 + (12 * g + nE M g) ∨ (300 + 3 * (36 + (12 * g + nE M g)) ≤ r ∧ r < 300 + 3 * (36 + (12 * g + nE M g)) + 3) ∨ (300 + 3 * (180 + (12 * g + nE M g)) ≤ r ∧ r < 300 + 3 * (180 + (12 * g + nE M g)) + 3)) → ¬ dmn M r := fun r hr h => by
    have q := J.free_E hg hn h
    omega
  exact ⟨f _ (Or.inl rfl), ⟨f _ (by omega), f _ (by omega), f _ (by omega)⟩, ⟨f _ (by omega), f _ (by omega), f _ (by omega)⟩⟩
theorem JJ.re_P {C M : Nat → Nat → Int32} (J : JJ C M) (ad : Nat → Nat) (a : Nat) (h12 : nS M < 12) : ∀ r, dmn M r → aNP ad (nS M) a r = ad r := by
  intro r h
  unfold aNP
  rcases J.free_P h with q | q
  · rw [if_neg (by omega), if_neg (by omega), if_neg (by omega), if_neg (by omega)]
  · omega
theorem JJ.re_E {C M : Nat → Nat → Int32} (J : JJ C M) (ad : Nat → Nat) (a : Nat) {g : Nat} (hg : g < nS M) (hn : nE M g < 12) : ∀ r, dmn M r → aNE ad (12 * g + nE M g) a r = ad r := by
  intro r h
  have q := J.free_E hg hn h
  unfold aNE
  rw [if_neg (by omega), if_neg (by omega), if_neg (by omega)]
/-- counts behind the calls -/
theorem dmn_sk {C M C1 M1 : Nat → Nat → Int32} (J : JJ C M) (J1 : JJ C1 M1) (h12 : nS M < 12) (h4 : C1 0 4 = nI (nS M + 1)) (h8 : ∀ k, k < nS M → C1 (40 + k) 8 = C (40 + k) 8) (h0 : C1 (40 + nS M) 8 = 0) {r : Nat} (h : dmn M1 r) : domP (dmn M) (nS M) r := by
  have hS : nS M1 = nS M + 1 := by
    have e := J1.ro.1
    rw [h4, J1.many.1] at e
    have l := J1.many.2
    exact ((nI_eq (by omega) (by omega)).mp e).symm
  have hE : ∀ k, k < nS M → nE M1 k = nE M k := by
    intro k hk
    have hk12 := J.lt hk
    have a := J.c8 hk
    have b := J1.c8 (k := k) (by omega)
    have l1 := (J.cnt hk12).2
    have l2 := (J1.cnt hk12).2
    rw [h8 k hk, a] at b
    exact ((nI_eq (by omega) (by omega)).mp b).symm
  have hE0 : nE M1 (nS M) = 0 := by
    have b := J1.c8 (k := nS M) (by omega)
    have l2 := (J1.cnt h12).2
    rw [h0] at b
    exact ((nI_eq (a := 0) (by omega) (by omega)).mp b).symm
  unfold domP
  rcases h with h | h | h | ⟨k, hk, h⟩ | ⟨k, i, hk, hi, h⟩
  · exact Or.inl (Or.inl h)
  · exact Or.inl (Or.inr (Or.inl h))
  · exact Or.inl (Or.inr (Or.inr (Or.inl h)))
  · by_cases e : k = nS M
    · subst e
      rcases h with h | h | h | ⟨j, hj, h⟩
      · exact Or.inr (Or.inl h)
      · exact Or.inr (Or.inr (Or.inl h))
      · exact Or.inr (Or.inr (Or.inr (Or.inl h)))
      · have : j = 0 ∨ j = 1 ∨ j = 2 := by omega
        rcases this with rfl | rfl | rfl
        · exact Or.inr (Or.inr (Or.inr (Or.inr (Or.inl h))))
        · exact Or.inr (Or.inr (Or.inr (Or.inr (Or.inr (Or.inl h)))))
        · exact Or.inr (Or.inr (Or.inr (Or.inr (Or.inr (Or.inr h)))))
    · exact Or.inl (Or.inr (Or.inr (Or.inr (Or.inl ⟨k, by omega, h⟩))))
  · by_cases e : k = nS M
    · subst e
      omega
    · refine Or.inl (dmn_E (k := k) (i := i) (by omega) ?_ h)
      rw [← hE k (by omega)]
      exact hi
theorem dmn_el {C M C1 M1 : Nat → Nat → Int32} (J : JJ C M) (J1 : JJ C1 M1) {g : Nat} (hg : g < nS M) (hn : nE M g < 12) (h4 : C1 0 4 = C 0 4) (h8 : ∀ k, k < 12 → C1 (40 + k) 8 = if k = g then nI (nE M g + 1) else C (40 + k) 8) {r : Nat} (h : dmn M1 r) : domE (dmn M) (12 * g + nE M g) r := by
  have hS : nS M1 = nS M := by
    unfold nS
    rw [← J.ro.1, ← J1.ro.1, h4]
  have hE : ∀ k, k < nS M → nE M1 k = if k = g then nE M g + 1 else nE M k := by
    intro k hk
    have hk12 := J.lt hk
    have a := J.c8 hk
    have b := J1.c8 (k := k) (by omega)
    have l1 := (J.cnt hk12).2
    have l2 := (J1.cnt hk12).2
    rw [h8 k hk12] at b
    by_cases e : k = g
    · rw [if_pos e] at b ⊢
      exact ((nI_eq (by omega) (by omega)).mp b).symm
    · rw [if_neg e] at b ⊢
      rw [a] at b
      exact ((nI_eq (by omega) (by omega)).mp b).symm
  unfold domE
  rcases h with h | h | h | ⟨k, hk, h⟩ | ⟨k, i, hk, hi, h⟩
  · exact Or.inl (Or.inl h)
  · exact Or.inl (Or.inr (Or.inl h))
  · exact Or.inl (Or.inr (Or.inr (Or.inl h)))
  · exact Or.inl (Or.inr (Or.inr (Or.inr (Or.inl ⟨k, by omega, h⟩))))
  · have e := hE k (by omega)
    by_cases q : k = g ∧ i = nE M g
    · obtain ⟨rfl, rfl⟩ := q
      rcases h with h | h | h
      · exact Or.inr (Or.inl h)
      · exact Or.inr (Or.inr (Or.inl h))
      · exact Or.inr (Or.inr (Or.inr h))
    · refine Or.inl (dmn_E (k := k) (i := i) (by omega) ?_ h)
      rw [e] at hi
      by_cases ek : k = g
      · subst ek
        rw [if_pos rfl] at hi
        have : ¬ i = nE M k := fun z => q ⟨rfl, z⟩
        omega
      · rw [if_neg ek] at hi
        exact hi
