/-! THE LAW: counts behind skater, jump, spin -/
theorem t_jump0 {C : Nat → Nat → Int32} {p0 p1 p2 : Int32} {i : Nat} (h : t_X4_jump C p0 p1 p2 i = 0) : ¬ C 0 5 = (-1) ∧ ¬ f_X2_hasRoom C (C 0 5).toNatClampNeg = 0 ∧ g_X4_jump C p0 p1 p2 i = g_X2_skateJump C (C 0 5).toNatClampNeg p0 p1 p2 i := by
  unfold t_X4_jump at h
  unfold g_X4_jump
  by_cases a : f_X4_isIn p0 0 5 = 0
  · rw [if_pos a] at h
    exact absurd h (by decide)
  · rw [if_neg a] at h ⊢
    by_cases b : f_X4_isIn p1 1 4 = 0
    · rw [if_pos b] at h
      exact absurd h (by decide)
    · rw [if_neg b] at h ⊢
      by_cases c : C 0 5 = (-1)
      · rw [if_pos c] at h
        exact absurd h (by decide)
      · rw [if_neg c] at h ⊢
        by_cases d : f_X2_hasRoom C (C 0 5).toNatClampNeg = 0
        · rw [if_pos d] at h
          exact absurd h (by decide)
        · rw [if_neg d] at h ⊢
          by_cases e : f_X2_canTakeOff C (C 0 5).toNatClampNeg p0 = 0
          · rw [if_pos e] at h
            exact absurd h (by decide)
          · rw [if_neg e]
            exact ⟨c, d, rfl⟩
theorem t_spin0 {C : Nat → Nat → Int32} {p0 p1 : Int32} {i : Nat} (h : t_X4_spin C p0 p1 i = 0) : ¬ C 0 5 = (-1) ∧ ¬ f_X2_hasRoom C (C 0 5).toNatClampNeg = 0 ∧ g_X4_spin C p0 p1 i = g_X2_skateSpin C (C 0 5).toNatClampNeg p0 p1 i := by
  unfold t_X4_spin at h
  unfold g_X4_spin
  by_cases a : f_X4_isIn p0 0 63 = 0
  · rw [if_pos a] at h
    exact absurd h (by decide)
  · rw [if_neg a] at h ⊢
    by_cases b : f_X4_isIn p1 1 20 = 0
    · rw [if_pos b] at h
      exact absurd h (by decide)
    · rw [if_neg b] at h ⊢
      by_cases c : C 0 5 = (-1)
      · rw [if_pos c] at h
        exact absurd h (by decide)
      · rw [if_neg c] at h ⊢
        by_cases d : f_X2_hasRoom C (C 0 5).toNatClampNeg = 0
        · rw [if_pos d] at h
          exact absurd h (by decide)
        · rw [if_neg d]
          exact ⟨c, d, rfl⟩
theorem mkE_8 {C : Nat → Nat → Int32} {g i k : Nat} {q0 q1 q2 q3 q4 q5 : Int32} (hk : k < 12) : mkE C (12 * g + i) q0 q1 q2 q3 q4 q5 (40 + k) 8 = C (40 + k) 8 := by
  rw [mkE_ne (by omega) (by unfold rV; omega) (by unfold rV; omega)]
theorem mkE_4 {C : Nat → Nat → Int32} {n : Nat} {q0 q1 q2 q3 q4 q5 : Int32} : mkE C n q0 q1 q2 q3 q4 q5 0 4 = C 0 4 := by
  rw [mkE_ne (by omega) (by unfold rV; omega) (by unfold rV; omega)]
theorem cs_jump {C : Nat → Nat → Int32} {g i : Nat} {p0 p1 p2 : Int32} (hg : g < 12) : g_X2_skateJump C g p0 p1 p2 i 0 4 = C 0 4 ∧ ∀ k, k < 12 → g_X2_skateJump C g p0 p1 p2 i (40 + k) 8 = if k = g then nI (i + 1) else C (40 + k) 8 := by
  unfold g_X2_skateJump
  have d1 : ¬ 0 = 40 + g := by omega
  have d2 : ¬ 0 = 52 + g := by omega
  refine ⟨?_, fun k hk => ?_⟩
  · split <;> simp [up2, d1, d2, mkE_4]
  · have d3 : ¬ 40 + k = 52 + g := by omega
    by_cases e : k = g
    · subst e
      rw [if_pos rfl]
      split <;> simp [up2]
    · have d4 : ¬ 40 + k = 40 + g := by omega
      rw [if_neg e]
      split <;> simp [up2, d3, e, mkE_8 hk]
theorem cs_spin {C : Nat → Nat → Int32} {g i : Nat} {p0 p1 : Int32} (hg : g < 12) : g_X2_skateSpin C g p0 p1 i 0 4 = C 0 4 ∧ ∀ k, k < 12 → g_X2_skateSpin C g p0 p1 i (40 + k) 8 = if k = g then nI (i + 1) else C (40 + k) 8 := by
  unfold g_X2_skateSpin
  generalize (if 6 ≤ p1 then (if 4 < f_J6_bitCount_0f7a4 (p0 &&& (C (40 + g) 11 ^^^ (-1))) then (4 : Int32) else f_J6_bitCount_0f7a4 (p0 &&& (C (40 + g) 11 ^^^ (-1)))) else 0) = L
  have d1 : ¬ 0 = 40 + g := by omega
  have d2 : ¬ 0 = 52 + g := by omega
  refine ⟨?_, fun k hk => ?_⟩
  · split <;> simp [up2, d1, d2, mkE_4]
  · have d3 : ¬ 40 + k = 52 + g := by omega
    by_cases e : k = g
    · subst e
      rw [if_pos rfl]
      split <;> simp [up2]
    · have d4 : ¬ 40 + k = 40 + g := by omega
      rw [if_neg e]
      split <;> simp [up2, d3, e, mkE_8 hk]
theorem JJ.room {C M : Nat → Nat → Int32} (J : JJ C M) (h : ¬ C 0 5 = (-1)) (hr : ¬ f_X2_hasRoom C (C 0 5).toNatClampNeg = 0) : (M 0 2).toNatClampNeg < nS M ∧ nE M (M 0 2).toNatClampNeg < 12 := by
  rw [J.ro.2.1] at h hr
  obtain ⟨g1, g2, g3⟩ := J.gk h
  refine ⟨g2, ?_⟩
  exact room_lt (J.c8 g2) (J.cnt (J.lt g2)).2 hr
theorem JJ.dom_jump {C M : Nat → Nat → Int32} (J : JJ C M) {p0 p1 p2 : Int32} {G : Nat → Nat → Int32} (h : t_X4_jump C p0 p1 p2 (nE M (M 0 2).toNatClampNeg) = 0) (J1 : JJ (g_X4_jump C p0 p1 p2 (nE M (M 0 2).toNatClampNeg)) G) : ∀ r, dmn G r → domE (dmn M) (12 * (C 0 5).toNatClampNeg + nE M (M 0 2).toNatClampNeg) r := by
  obtain ⟨c, d, e⟩ := t_jump0 h
  obtain ⟨g1, g2⟩ := J.room c d
  intro r hr
  rw [e] at J1
  rw [J.ro.2.1] at J1 ⊢
  have hs := cs_jump (C := C) (g := (M 0 2).toNatClampNeg) (i := nE M (M 0 2).toNatClampNeg) (p0 := p0) (p1 := p1) (p2 := p2) (J.lt g1)
  exact dmn_el J J1 g1 g2 hs.1 hs.2 hr
theorem JJ.dom_spin {C M : Nat → Nat → Int32} (J : JJ C M) {p0 p1 : Int32} {G : Nat → Nat → Int32} (h : t_X4_spin C p0 p1 (nE M (M 0 2).toNatClampNeg) = 0) (J1 : JJ (g_X4_spin C p0 p1 (nE M (M 0 2).toNatClampNeg)) G) : ∀ r, dmn G r → domE (dmn M) (12 * (C 0 5).toNatClampNeg + nE M (M 0 2).toNatClampNeg) r := by
  obtain ⟨c, d, e⟩ := t_spin0 h
  obtain ⟨g1, g2⟩ := J.room c d
  intro r hr
  rw [e] at J1
  rw [J.ro.2.1] at J1 ⊢
  have hs := cs_spin (C := C) (g := (M 0 2).toNatClampNeg) (i := nE M (M 0 2).toNatClampNeg) (p0 := p0) (p1 := p1) (J.lt g1)
  exact dmn_el J J1 g1 g2 hs.1 hs.2 hr
theorem JJ.dom_skater {C M : Nat → Nat → Int32} (J : JJ C M) {G : Nat → Nat → Int32} (h : t_X4_skater C (nS M) = 0) (J1 : JJ (g_X4_skater C (nS M)) G) : ∀ r, dmn G r → domP (dmn M) (nS M) r := by
  have h12 := J.many.2
  unfold t_X4_skater at h
  by_cases q : nI (nS M) < 12
  · have h2 : nS M < 12 := (nI_ltI (b := 12) (by omega) (by decide)).mp q
    unfold g_X4_skater at J1
    rw [if_pos q] at J1
    intro r hr
    refine dmn_sk J J1 h2 (up2_at _ _ _ _) (fun k hk => ?_) ?_ hr
    · rw [up2_ne _ _ _ (by omega), up2_ne _ _ _ (by omega), mkP_ne (by omega) (by omega) (by omega) (by unfold rV; omega)]
    · rw [up2_ne _ _ _ (by omega), up2_ne _ _ _ (by omega)]
      unfold mkP
      rw [if_pos rfl]
      rfl
  · rw [if_neg q] at h
    exact absurd h (by decide)
/-- free roles, whoever goes on -/
theorem JJ.free_E2 {C M : Nat → Nat → Int32} (J : JJ C M) {g r : Nat} (hg : g < 12) (hn : nE M g < 12) (h : dmn M r) : ¬ r = 80 + (12 * g + nE M g) ∧ ¬ (300 + 3 * (36 + (12 * g + nE M g)) ≤ r ∧ r < 300 + 3 * (36 + (12 * g + nE M g)) + 3) ∧ ¬ (300 + 3 * (180 + (12 * g + nE M g)) ≤ r ∧ r < 300 + 3 * (180 + (12 * g + nE M g)) + 3) := by
  have h12 := J.many.2
  rcases h with h | h | h | ⟨k, hk, h⟩ | ⟨k, i, hk, hi, h⟩
  · omega
  · omega
  · omega
  · rcases h with h | h | h | ⟨j, hj, h⟩
    · omega
    · omega
    · omega
    · unfold rV at h
      omega
  · have hi12 := (J.cnt (J.lt hk)).2
    have e : ¬ 12 * k + i = 12 * g + nE M g := by
      intro z
      have ek : k = g := by omega
      subst ek
      omega
    unfold rV at h
    omega
/-- before a jump or spin: the next addresses are foreseen, and the number of elements is told even where no one goes on -/
theorem pre_E {D : va_G} {cA : Nat → ClassId} {B : Nat} {ad : Nat → Nat} {C M : Nat → Nat → Int32} {H : Heap} (W : jw D cA B ad C M H) : ∃ (ad' : Nat → Nat) (C2 : Nat → Nat → Int32), jw D cA B ad' C2 M H ∧ (∀ r, dmn M r → ad' r = ad r) ∧ C2 (40 + (C2 0 5).toNatClampNeg) 8 = nI (nE M (M 0 2).toNatClampNeg) ∧ nE M (M 0 2).toNatClampNeg ≤ 12 ∧ (nE M (M 0 2).toNatClampNeg < 12 → ndE (dmn M) (12 * (C2 0 5).toNatClampNeg + nE M (M 0 2).toNatClampNeg)) ∧ (nE M (M 0 2).toNatClampNeg < 12 → adE ad' (12 * (C2 0 5).toNatClampNeg + nE M (M 0 2).toNatClampNeg) H.size) := by
  have J := W.1
  have h12 := J.many.2
  have hg12 : (M 0 2).toNatClampNeg < 12 := by
    rcases J.going with q | ⟨g, g1, g2, -⟩
    · rw [q]
      decide
    · rw [g2, nI_clamp (by omega)]
      omega
  have hc5 : ∀ C2, JJ C2 M → C2 0 5 = M 0 2 := fun C2 J2 => J2.ro.2.1
  generalize hgg : (M 0 2).toNatClampNeg = g at hg12 ⊢
  have hn12 := (J.cnt hg12).2
  obtain ⟨ad', he, hadp⟩ : ∃ ad', (∀ r, dmn M r → ad' r = ad r) ∧ (nE M g < 12 → adE ad' (12 * g + nE M g) H.size) := by
    by_cases hn : nE M g < 12
    · refine ⟨aNE ad (12 * g + nE M g) H.size, fun r hr => ?_, fun _ => aNE_ok (by omega)⟩
      have q := J.free_E2 hg12 hn hr
      unfold aNE
      rw [if_neg (by omega), if_neg (by omega), if_neg (by omega)]
    · exact ⟨ad, fun _ _ => rfl, fun z => absurd z hn⟩
  have W2 := jw_re W he
  have J2 := W2.1
  have nd : nE M g < 12 → ndE (dmn M) (12 * g + nE M g) := fun hn => by
    have f : ∀ r, (r = 80 + (12 * g + nE M g) ∨ (300 + 3 * (36 + (12 * g + nE M g)) ≤ r ∧ r < 300 + 3 * (36 + (12 * g + nE M g)) + 3) ∨ (300 + 3 * (180 + (12 * g + nE M g)) ≤ r ∧ r < 300 + 3 * (180 + (12 * g + nE M g)) + 3)) → ¬ dmn M r := fun r hr h => by
      have q := J.free_E2 hg12 hn h
      omega
    exact ⟨f _ (Or.inl rfl), ⟨f _ (by omega), f _ (by omega), f _ (by omega)⟩, ⟨f _ (by omega), f _ (by omega), f _ (by omega)⟩⟩
  by_cases hs : nS M = 0
  · have hg0 : g = 0 := by
      rcases J.going with q | ⟨g, g1, g2, -⟩
      · rw [q] at hgg
        rw [← hgg]
        decide
      · omega
    have W3 : jw D cA B ad' (up2 (trC C) 40 8 0) M H := by
      obtain ⟨J9, f, E, h1, h2, h3, h4⟩ := W2
      refine ⟨⟨J9.1, RO_congr (up2_ne _ _ _ (by decide)) (up2_ne _ _ _ (by decide)) (up2_ne _ _ _ (by decide)) J9.ro, RV_congr (fun d hd => up2_ne _ _ _ (by omega)) J9.rv, fun k hk => by omega, fun k i hk => by omega⟩, f, E, h1, fun r hc hr => ?_, h3, h4⟩
      have n40 : r ≠ 40 := by
        rintro rfl
        rcases hr with h | h | h | ⟨k, hk, h⟩ | ⟨k, i, hk, hi, h⟩
        · omega
        · omega
        · omega
        · omega
        · omega
      rw [up2_ne _ _ _ n40]
      exact h2 r hc hr
    have e5 : (up2 (trC C) 40 8 0 0 5).toNatClampNeg = g := by rw [hc5 _ W3.1, hgg]
    refine ⟨ad', up2 (trC C) 40 8 0, W3, he, ?_, hn12, ?_, ?_⟩
    · rw [e5, hg0, show 40 + 0 = 40 from rfl, up2_at, (J.none (k := 0) (by decide) (by omega)).1]
      rfl
    · rw [e5]
      exact nd
    · rw [e5]
      exact hadp
  · have e5 : (trC C 0 5).toNatClampNeg = g := by rw [hc5 _ J2, hgg]
    have hgS : g < nS M := by
      rcases J.going with q | ⟨g9, g1, g2, -⟩
      · rw [q] at hgg
        have : g = 0 := by
          rw [← hgg]
          decide
        omega
      · rw [g2, nI_clamp (by omega)] at hgg
        omega
    refine ⟨ad', trC C, W2, he, ?_, hn12, ?_, ?_⟩
    · rw [e5]
      exact J2.c8 hgS
    · rw [e5]
      exact nd
    · rw [e5]
      exact hadp
theorem pre_P {D : va_G} {cA : Nat → ClassId} {B : Nat} {ad : Nat → Nat} {C M : Nat → Nat → Int32} {H : Heap} (W : jw D cA B ad C M H) : ∃ (ad' : Nat → Nat) (C2 : Nat → Nat → Int32), jw D cA B ad' C2 M H ∧ (∀ r, dmn M r → ad' r = ad r) ∧ (nS M < 12 → ndP (dmn M) (nS M)) ∧ (nS M < 12 → adP ad' (nS M) H.size) := by
  have J := W.1
  by_cases h : nS M < 12
  · exact ⟨_, _, jw_re W (J.re_P ad H.size h), J.re_P ad H.size h, fun _ => J.nd_P h, fun _ => aNP_ok h⟩
  · exact ⟨_, _, jw_re W (fun _ _ => rfl), fun _ _ => rfl, fun z => absurd z h, fun z => absurd z h⟩
/-- what the reference's contracts ask -/
theorem JJ.hsk {C M : Nat → Nat → Int32} (J : JJ C M) (x : Int32) (h : ¬ f_X5_isSkater M x = 0) : vp_in x 12 := by
  obtain ⟨a, b⟩ := (J.sk x).2 h
  exact pk_in x.toNatClampNeg 12 (J.lt b) a (by decide)
theorem JJ.hg {C M : Nat → Nat → Int32} (J : JJ C M) (h : ¬ M 0 2 = (-1)) : vp_in (M 0 2) 12 := by
  obtain ⟨a, b, -⟩ := J.gk h
  exact pk_in (M 0 2).toNatClampNeg 12 (J.lt b) a (by decide)
theorem opn_go {M : Nat → Nat → Int32} (h : ¬ f_X5_isOpen M = 0) : ¬ M 0 2 = (-1) := fun z => h (closed z)
