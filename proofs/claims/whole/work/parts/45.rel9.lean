/-! THE BRIDGE: begin, turn, end -/
theorem up2_j (C : Nat → Nat → Int32) {r i a j : Nat} (x : Int32) (h : a ≠ j) : up2 C r j x i a = C i a := by unfold up2; rw [if_neg (fun q => h q.2)]
theorem JJ.gk {C M : Nat → Nat → Int32} (J : JJ C M) (h : ¬ M 0 2 = (-1)) : M 0 2 = nI (M 0 2).toNatClampNeg ∧ (M 0 2).toNatClampNeg < nS M ∧ M 6 (M 0 2).toNatClampNeg = 1 := by
  have h12 := J.many.2
  rcases J.going with q | ⟨g, g1, g2, g3⟩
  · exact absurd q h
  · rw [g2, nI_clamp (by omega)]
    exact ⟨rfl, g1, g3⟩
theorem JJ_beginC {C C' M M' : Nat → Nat → Int32} {k : Nat} (J : JJ C M) (hk : k < nS M) (h6 : M 6 k = 0) (hM : ∀ a, 8 ≤ a → M' a = M a) (m1 : M' 0 1 = M 0 1) (m2 : M' 0 2 = nI k) (m3 : M' 0 3 = 0) (m4 : M' 0 4 = 1) (m5 : M' 0 5 = 0) (m6 : ∀ j, M' 6 j = if j = k then 1 else M 6 j) (m7 : M' 7 = M 7)
    (c4 : C' 0 4 = C 0 4) (c5 : C' 0 5 = nI k) (hC : ∀ r, ¬ r = 0 → ¬ r = 40 + k → C' r = C r) (ck : ∀ j, C' (40 + k) j = if j = 2 then 1 else C (40 + k) j) : JJ C' M' := by
  have hS := nS_of m1
  have h12 := J.many.2
  have h8 := hM 8 (by decide)
  refine JJ_move J hM m1 (fun r h1 h2 => hC r h1 (by omega)) (fun k2 hk2 j hj => ?_) ?_ (fun k2 hk2 => ?_) ?_ (fun k2 hk2 => ?_)
  · by_cases e : k2 = k
    · subst e
      rw [ck, if_neg (by omega)]
    · rw [hC _ (by omega) (by omega)]
  · unfold IMo
    rw [hS, m1, m2, m3, m4, m5]
    exact ⟨J.many, Or.inr ⟨k, hk, rfl, by rw [m6, if_pos rfl]⟩, Or.inl rfl, Or.inr rfl, Or.inl rfl⟩
  · rw [m6, m7]
    by_cases e : k2 = k
    · rw [if_pos e]
      exact ⟨Or.inr (Or.inl rfl), fun z => by omega⟩
    · rw [if_neg e]
      exact ⟨J.state hk2, fun z => ⟨(J.none hk2 z).2.1, (J.none hk2 z).2.2.1⟩⟩
  · have r := J.ro
    unfold RO at r ⊢
    rw [c4, c5, m1, m2, hC 1 (by omega) (by omega), hC 2 (by omega) (by omega), hS]
    exact ⟨r.1, rfl, r.2.2⟩
  · obtain ⟨a1, a2, a3, a4, a5, a6⟩ := (J.rp hk2).1
    have k2l := J.lt hk2
    unfold RPs
    rw [m7, h8, m2, m3, m4, m5, m6]
    by_cases e : k2 = k
    · subst e
      obtain ⟨b1, b2, b3⟩ := a5 h6
      rw [ck 2, ck 3, ck 7, ck 8, ck 4, ck 5, ck 6, if_pos rfl, if_pos rfl, a2, a3, a4, b1, b2, b3, h6]
      exact ⟨rfl, rfl, rfl, rfl, fun z => absurd z (by decide), fun _ => ⟨rfl, rfl, rfl⟩⟩
    · rw [if_neg e, hC _ (by omega) (by omega)]
      refine ⟨a1, a2, a3, a4, a5, fun z => ?_⟩
      exact absurd ((nI_eq (by omega) (by omega)).mp z).symm e
theorem J_begin {C M : Nat → Nat → Int32} (J : JJ C M) (p0 : Int32) : Ans C [0, 1, 3] codB (t_X4_begin C p0) 0 (g_X4_begin C p0) 0 (g_X5_begin M p0) := by
  unfold t_X4_begin g_X4_begin g_X5_begin
  rw [(J.sk p0).1, J.ro.2.1]
  by_cases a : f_X5_isSkater M p0 = 0
  · simp only [if_pos a]
    exact Ans.no J (by decide) (by decide) rfl
  · obtain ⟨a1, a2⟩ := (J.sk p0).2 a
    have h12 := J.many.2
    simp only [if_neg a]
    generalize p0.toNatClampNeg = k at a1 a2 ⊢
    subst a1
    rw [(J.rp a2).1.1]
    have one : ¬ (1 : Int32) = 0 := by decide
    by_cases b : 0 < M 6 k
    · simp only [if_pos b, if_neg one, ite_self]
      exact Ans.no J (by decide) (by decide) rfl
    · simp only [if_neg b, if_true]
      have h6 : M 6 k = 0 := by
        rcases J.state (k := k) (by omega) with q | q | q
        · exact q
        · rw [q] at b
          exact absurd b (by decide)
        · rw [q] at b
          exact absurd b (by decide)
      by_cases c : M 0 2 = (-1)
      · simp only [if_pos c]
        refine ⟨by decide, by simp [up2, codB], fun _ => ⟨rfl, ?_⟩, fun z => absurd rfl z⟩
        refine JJ_beginC J a2 h6 (fun r hr => ?_) ?_ ?_ ?_ ?_ ?_ (fun j => ?_) ?_ ?_ ?_ (fun r h0 h1 => ?_) (fun j => ?_)
        · rw [up2_ne _ _ _ (by omega), up2_ne _ _ _ (by omega), up2_ne _ _ _ (by omega), up2_ne _ _ _ (by omega), up2_ne _ _ _ (by omega), up2_ne _ _ _ (by omega)]
        · simp [up2]
        · simp [up2]
        · simp [up2]
        · simp [up2]
        · simp [up2]
        · simp [up2]
        · funext j
          simp [up2]
        · simp [up2]
        · simp [up2]
        · rw [up2_ne _ _ _ h0, up2_ne _ _ _ h1]
        · simp [up2]
      · simp only [if_neg c]
        exact Ans.no J (by decide) (by decide) rfl
theorem JJ_endC {C C' M M' : Nat → Nat → Int32} {k : Nat} (J : JJ C M) (hk : k < nS M) (h6 : M 6 k = 1) (hM : ∀ a, 8 ≤ a → M' a = M a) (m1 : M' 0 1 = M 0 1) (m2 : M' 0 2 = (-1)) (m3 : M' 0 3 = M 0 3) (m4 : M' 0 4 = M 0 4) (m5 : M' 0 5 = M 0 5) (m6 : ∀ j, M' 6 j = if j = k then 2 else M 6 j) (m7 : M' 7 = M 7)
    (c4 : C' 0 4 = C 0 4) (c5 : C' 0 5 = (-1)) (hC : ∀ r, ¬ r = 0 → ¬ r = 40 + k → C' r = C r) (ck : ∀ j, C' (40 + k) j = if j = 3 then 1 else C (40 + k) j) : JJ C' M' := by
  have hS := nS_of m1
  have h12 := J.many.2
  have h8 := hM 8 (by decide)
  refine JJ_move J hM m1 (fun r h1 h2 => hC r h1 (by omega)) (fun k2 hk2 j hj => ?_) ?_ (fun k2 hk2 => ?_) ?_ (fun k2 hk2 => ?_)
  · by_cases e : k2 = k
    · subst e
      rw [ck, if_neg (by omega)]
    · rw [hC _ (by omega) (by omega)]
  · unfold IMo
    rw [hS, m1, m2, m3, m4, m5]
    exact ⟨J.many, Or.inl rfl, J.1.1.2.2⟩
  · rw [m6, m7]
    by_cases e : k2 = k
    · rw [if_pos e]
      exact ⟨Or.inr (Or.inr rfl), fun z => by omega⟩
    · rw [if_neg e]
      exact ⟨J.state hk2, fun z => ⟨(J.none hk2 z).2.1, (J.none hk2 z).2.2.1⟩⟩
  · have r := J.ro
    unfold RO at r ⊢
    rw [c4, c5, m1, m2, hC 1 (by omega) (by omega), hC 2 (by omega) (by omega), hS]
    exact ⟨r.1, rfl, r.2.2⟩
  · obtain ⟨a1, a2, a3, a4, a5, a6⟩ := (J.rp hk2).1
    have k2l := J.lt hk2
    have hno : ∀ x : Nat, x < 12 → ¬ (-1 : Int32) = nI x := fun x hx z => nI_pos (n := x) (by omega) (by rw [← z]; decide)
    unfold RPs
    rw [m7, h8, m2, m6]
    by_cases e : k2 = k
    · subst e
      rw [ck 2, ck 3, ck 7, ck 8, if_pos rfl, if_pos rfl, a3, a4, if_neg (by decide), a1, h6]
      exact ⟨rfl, rfl, rfl, rfl, fun z => absurd z (by decide), fun z => absurd z (hno _ k2l)⟩
    · rw [if_neg e, hC _ (by omega) (by omega)]
      exact ⟨a1, a2, a3, a4, a5, fun z => absurd z (hno _ k2l)⟩
theorem J_end {C M : Nat → Nat → Int32} (J : JJ C M) : Ans C [0, 3] codA (t_X4_end C) (f_X4_end C) (g_X4_end C) (f_X5_end M (M 0 2).toNatClampNeg) (g_X5_end M (M 0 2).toNatClampNeg) := by
  unfold t_X4_end f_X4_end g_X4_end f_X5_end g_X5_end
  rw [J.ro.2.1]
  by_cases c : M 0 2 = (-1)
  · simp only [if_pos c]
    exact Ans.no J (by decide) (by decide) rfl
  · obtain ⟨g1, g2, g3⟩ := J.gk c
    simp only [if_neg c]
    refine ⟨by decide, by simp [up2, codA], fun _ => ⟨(J.rp g2).1.2.2.2.1, ?_⟩, fun z => absurd rfl z⟩
    generalize (M 0 2).toNatClampNeg = k at g1 g2 g3 ⊢
    refine JJ_endC J g2 g3 (fun r hr => ?_) ?_ ?_ ?_ ?_ ?_ (fun j => ?_) ?_ ?_ ?_ (fun r h0 h1 => ?_) (fun j => ?_)
    · rw [up2_ne _ _ _ (by omega), up2_ne _ _ _ (by omega), up2_ne _ _ _ (by omega)]
    · simp [up2]
    · simp [up2]
    · simp [up2]
    · simp [up2]
    · simp [up2]
    · simp [up2]
    · funext j
      simp [up2]
    · simp [up2]
    · simp [up2]
    · rw [up2_ne _ _ _ h0, up2_ne _ _ _ h1]
    · simp [up2]
theorem t01 {x : Int32} {p : Prop} [Decidable p] (h : x = 0 ∨ x = 1) : (if p then x else 1 - x) = 0 ∨ (if p then x else 1 - x) = 1 := by
  split
  · exact h
  · rcases h with h | h
    · rw [h]
      exact Or.inr (by decide)
    · rw [h]
      exact Or.inl (by decide)
theorem JJ_turnC {C C' M M' : Nat → Nat → Int32} {k : Nat} {p : Int32} (J : JJ C M) (hk : k < nS M) (hg : M 0 2 = nI k) (h6 : M 6 k = 1) (hM : ∀ a, 8 ≤ a → M' a = M a) (m1 : M' 0 1 = M 0 1) (m2 : M' 0 2 = M 0 2) (m3 : M' 0 3 = tF p (M 0 3)) (m4 : M' 0 4 = tG p (M 0 4)) (m5 : M' 0 5 = tW p (M 0 5)) (m6 : M' 6 = M 6) (m7 : ∀ j, M' 7 j = if j = k then M 7 k + 2 else M 7 j)
    (hC : ∀ r, r ≠ 40 + k → C' r = C r) (c4 : C' (40 + k) 4 = tF p (C (40 + k) 4)) (c5 : C' (40 + k) 5 = tG p (C (40 + k) 5)) (c6 : C' (40 + k) 6 = tW p (C (40 + k) 6)) (c7 : C' (40 + k) 7 = C (40 + k) 7 + 2) (ck : ∀ j, j ≠ 4 → j ≠ 5 → j ≠ 6 → j ≠ 7 → C' (40 + k) j = C (40 + k) j) : JJ C' M' := by
  have hS := nS_of m1
  have h12 := J.many.2
  have h8 := hM 8 (by decide)
  refine JJ_move J hM m1 (fun r h1 h2 => hC r (by omega)) (fun k2 hk2 j hj => ?_) ?_ (fun k2 hk2 => ?_) ?_ (fun k2 hk2 => ?_)
  · by_cases e : k2 = k
    · subst e
      exact ck j (by omega) (by omega) (by omega) (by omega)
    · rw [hC _ (by omega)]
  · obtain ⟨i1, i2, i3, i4, i5⟩ := J.1.1
    unfold IMo
    rw [hS, m1, m2, m3, m4, m5, m6]
    exact ⟨i1, i2, t01 i3, t01 i4, t01 i5⟩
  · rw [m6, m7]
    refine ⟨J.state hk2, fun z => ?_⟩
    rw [if_neg (by omega)]
    exact ⟨(J.none hk2 z).2.1, (J.none hk2 z).2.2.1⟩
  · have r := J.ro
    unfold RO at r ⊢
    rw [m1, m2, hC 0 (by omega), hC 1 (by omega), hC 2 (by omega), hS]
    exact r
  · obtain ⟨a1, a2, a3, a4, a5, a6⟩ := (J.rp hk2).1
    have k2l := J.lt hk2
    unfold RPs
    rw [m6, h8, m2, m7]
    by_cases e : k2 = k
    · subst e
      obtain ⟨b1, b2, b3⟩ := a6 hg
      rw [ck 2 (by decide) (by decide) (by decide) (by decide), ck 3 (by decide) (by decide) (by decide) (by decide), ck 8 (by decide) (by decide) (by decide) (by decide), c7, c4, c5, c6, m3, m4, m5, if_pos rfl, b1, b2, b3, a3]
      refine ⟨a1, a2, rfl, a4, fun z => ?_, fun _ => ⟨rfl, rfl, rfl⟩⟩
      rw [h6] at z
      exact absurd z (by decide)
    · rw [if_neg e, hC _ (by omega)]
      refine ⟨a1, a2, a3, a4, a5, fun z => ?_⟩
      rw [hg] at z
      exact absurd ((nI_eq (by omega) (by omega)).mp z).symm e
theorem JJ.opn {C M : Nat → Nat → Int32} (J : JJ C M) (h : ¬ M 0 2 = (-1)) : f_X2_hasTime C (M 0 2).toNatClampNeg = f_X5_isOpen M := by
  obtain ⟨g1, g2, g3⟩ := J.gk h
  unfold f_X2_hasTime f_X5_isOpen
  rw [if_neg h, (J.rp g2).1.2.2.1]
theorem closed {M : Nat → Nat → Int32} (h : M 0 2 = (-1)) : f_X5_isOpen M = 0 := by
  unfold f_X5_isOpen
  rw [if_pos h]
theorem J_turn {C M : Nat → Nat → Int32} (J : JJ C M) (p0 : Int32) : Ans C [0, 2, 3] codC (t_X4_turn C p0) (f_X4_turn C p0) (g_X4_turn C p0) (f_X5_turn M p0 (M 0 2).toNatClampNeg) (g_X5_turn M p0 (M 0 2).toNatClampNeg) := by
  unfold t_X4_turn f_X4_turn g_X4_turn f_X5_turn g_X5_turn
  rw [isIn_eq, J.ro.2.1]
  by_cases a : f_X5_in p0 0 5 = 0
  · simp only [if_pos a]
    exact Ans.no J (by decide) (by decide) rfl
  · simp only [if_neg a]
    by_cases c : M 0 2 = (-1)
    · simp only [if_pos c, if_pos (closed c)]
      exact Ans.no J (by decide) (by decide) rfl
    · obtain ⟨g1, g2, g3⟩ := J.gk c
      simp only [if_neg c]
      rw [J.opn c]
      by_cases o : f_X5_isOpen M = 0
      · simp only [if_pos o]
        exact Ans.no J (by decide) (by decide) rfl
      · simp only [if_neg o]
        generalize (M 0 2).toNatClampNeg = k at g1 g2 g3 ⊢
        obtain ⟨b1, b2, b3⟩ := (J.rp g2).1.2.2.2.2.2 g1
        obtain ⟨u4, u5, u6, u7, u8⟩ := turn_g (C := C) (k := k) a
        refine ⟨by decide, by simp [up2, codC], fun _ => ⟨?_, ?_⟩, fun z => absurd rfl z⟩
        · rw [turn_f a, b1, b2, b3]
          rfl
        · refine JJ_turnC (p := p0) J g2 g1 g3 (fun r hr => ?_) ?_ ?_ ?_ ?_ ?_ ?_ (fun j => ?_) (fun r hr => turn_r hr) u4 u5 u6 u7 u8
          · rw [up2_ne _ _ _ (by omega), up2_ne _ _ _ (by omega), up2_ne _ _ _ (by omega), up2_ne _ _ _ (by omega), up2_ne _ _ _ (by omega)]
          · simp [up2]
          · simp [up2]
          · simp [up2, tF]
          · simp [up2, tG]
          · simp [up2, tW]
          · funext j
            simp [up2]
          · simp [up2]
