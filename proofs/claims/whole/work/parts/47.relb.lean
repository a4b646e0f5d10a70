/-! THE BRIDGE: a new skater, a new element -/
theorem VR_new {C : Nat → Nat → Int32} {v : Nat} {t : Nat → Int32} (h : ∀ r, rV v r → ∀ j, C r j = 0) (ht : ∀ i, i < 7 → t i = (-99)) : VR C v t := by
  have e := rT_un t 7 ht
  unfold VR
  rw [e]
  refine ⟨fun i hi => ?_, fun i hi hn => absurd (ht i hi) hn, h _ (Or.inl rfl) 2, h _ (Or.inl rfl) 3, fun z => absurd rfl z⟩
  rw [h _ (Or.inr (Or.inr rfl)) i, if_pos (ht i hi)]
theorem mkP_ne {C : Nat → Nat → Int32} {n r : Nat} (h0 : ¬ r = 40 + n) (h1 : ¬ r = 52 + n) (h2 : ¬ r = 64 + n) (h3 : ¬ (rV (3 * n + 0) r ∨ rV (3 * n + 1) r ∨ rV (3 * n + 2) r)) : mkP C n r = C r := by
  unfold mkP
  rw [if_neg h0, if_neg h1, if_neg h2, if_neg h3]
theorem JJ_skaterC {C C' M M' : Nat → Nat → Int32} {n : Nat} (J : JJ C M) (hn : nS M = n) (hn12 : n < 12) (m1 : M' 0 1 = nI (n + 1)) (m0 : ∀ j, 2 ≤ j → M' 0 j = M 0 j) (hM : ∀ a, 1 ≤ a → M' a = M a)
    (c4 : C' 0 4 = nI (n + 1)) (c5 : C' 0 5 = C 0 5) (c1 : ∀ j, C' 1 j = if j = n then 1 else C 1 j) (hC : ∀ r, ¬ r = 0 → ¬ r = 1 → C' r = mkP C n r) : JJ C' M' := by
  have h6 := hM 6 (by decide)
  have h7 := hM 7 (by decide)
  have h8 := hM 8 (by decide)
  have h9 := hM 9 (by decide)
  have h10 := hM 10 (by decide)
  have h11 := hM 11 (by decide)
  have h12 := hM 12 (by decide)
  have h13 := hM 13 (by decide)
  have h14 := hM 14 (by decide)
  have h15 := hM 15 (by decide)
  have h16 := hM 16 (by decide)
  have h17 := hM 17 (by decide)
  have h18 := hM 18 (by decide)
  have hS : nS M' = n + 1 := by
    unfold nS
    rw [m1, nI_clamp (by omega)]
  obtain ⟨z1, z2, z3, z4⟩ := J.none hn12 (by omega)
  refine ⟨⟨?_, ?_, IMe_M h8 h9 h10 h11 h12 h13 h14 h15 h16 J.1.2.2.1, IMn_M h12 h16 h17 h18 J.1.2.2.2⟩, ?_, ?_, fun k hk => ?_, fun k i hk hi => ?_⟩
  · obtain ⟨i1, i2, i3⟩ := J.1.1
    unfold IMo
    rw [hS, m1, m0 2 (by decide), m0 3 (by decide), m0 4 (by decide), m0 5 (by decide), h6]
    refine ⟨⟨rfl, by omega⟩, ?_, i3⟩
    rcases i2 with q | ⟨g, g1, g2⟩
    · exact Or.inl q
    · exact Or.inr ⟨g, by omega, g2⟩
  · intro k hk
    obtain ⟨p1, p2, p3⟩ := J.1.2.1 k hk
    unfold tP at p3 ⊢
    rw [nE_of h8, h8, h6, h7, hS, h17]
    exact ⟨p1, p2, fun q => p3 (by omega)⟩
  · obtain ⟨r1, r2, r3, r4⟩ := J.ro
    unfold RO
    rw [c4, c5, hS, m1, m0 2 (by decide), hC 2 (by decide) (by decide), mkP_ne (by omega) (by omega) (by omega) (by unfold rV; omega)]
    refine ⟨rfl, r2, fun k hk => ?_, r4⟩
    rw [c1, r3 k hk, hn]
    by_cases e : k = n
    · rw [if_pos e, if_pos (by omega)]
    · rw [if_neg e]
      by_cases g : k < n
      · rw [if_pos g, if_pos (by omega)]
      · rw [if_neg g, if_neg (by omega)]
  · refine RV_M h18 (RV_congr (fun d hd => ?_) J.rv)
    rw [hC _ (by omega) (by omega), mkP_ne (by omega) (by omega) (by omega) (by unfold rV; omega)]
  · rw [hS] at hk
    by_cases e : k = n
    · subst e
      have a40 : C' (40 + k) = fun i => if i = 5 then 1 else 0 := by
        rw [hC _ (by omega) (by omega)]
        unfold mkP
        rw [if_pos rfl]
      have a52 : C' (52 + k) = fun _ => 0 := by
        rw [hC _ (by omega) (by omega)]
        unfold mkP
        rw [if_neg (by omega), if_pos rfl]
      have a64 : C' (64 + k) = fun i => if i < 3 then 1 else 0 := by
        rw [hC _ (by omega) (by omega)]
        unfold mkP
        rw [if_neg (by omega), if_neg (by omega), if_pos rfl]
      have hng : ¬ M 0 2 = nI k := by
        intro q
        rcases J.going with g | ⟨g, g1, g2, -⟩
        · rw [g] at q
          exact nI_pos (n := k) (by omega) (by rw [← q]; decide)
        · rw [g2] at q
          have := (nI_eq (by omega) (by omega)).mp q
          omega
      refine ⟨?_, ?_, fun j hj => ?_⟩
      · unfold RPs
        rw [a40, h6, h7, h8, m0 2 (by decide), z2, z3, (J.cnt hn12).1, z1]
        exact ⟨rfl, rfl, rfl, rfl, fun _ => ⟨rfl, rfl, rfl⟩, fun q => absurd q hng⟩
      · unfold RPc
        rw [a40, a52, a64, nE_of h8, z1]
        refine ⟨rfl, rfl, rfl, fun i hi => ?_, fun j hj => if_pos hj⟩
        rw [if_neg (by omega)]
      · refine VR_new (fun r hr j2 => ?_) (fun i hi => ?_)
        · rw [hC _ (by unfold rV at hr; omega) (by unfold rV at hr; omega)]
          unfold mkP
          rw [if_neg (by unfold rV at hr; omega), if_neg (by unfold rV at hr; omega), if_neg (by unfold rV at hr; omega), if_pos]
          have : j = 0 ∨ j = 1 ∨ j = 2 := by omega
          rcases this with rfl | rfl | rfl
          · exact Or.inl hr
          · exact Or.inr (Or.inl hr)
          · exact Or.inr (Or.inr hr)
        · have := z4 j i hj hi
          unfold tP at this ⊢
          rw [h17]
          exact this
    · obtain ⟨q1, q2, q3⟩ := RP_congr (C' := C') (k := k) (M := M) (by rw [hC _ (by omega) (by omega), mkP_ne (by omega) (by omega) (by omega) (by unfold rV; omega)]) (by rw [hC _ (by omega) (by omega), mkP_ne (by omega) (by omega) (by omega) (by unfold rV; omega)]) (by rw [hC _ (by omega) (by omega), mkP_ne (by omega) (by omega) (by omega) (by unfold rV; omega)]) (fun j hj r hr => by rw [hC _ (by unfold rV at hr; omega) (by unfold rV at hr; omega), mkP_ne (by unfold rV at hr; omega) (by unfold rV at hr; omega) (by unfold rV at hr; omega) (by unfold rV at hr ⊢; omega)]) (J.rp (k := k) (by omega))
      refine ⟨?_, RPc_M h8 h9 h10 h11 h15 q2, RPv_M h17 q3⟩
      unfold RPs at q1 ⊢
      rw [m0 2 (by decide), m0 3 (by decide), m0 4 (by decide), m0 5 (by decide), h6, h7, h8]
      exact q1
  · rw [hS] at hk
    rw [nE_of h8] at hi
    have hk2 : k < n := by
      by_cases e : k = n
      · subst e
        omega
      · omega
    have hi12 := (J.cnt (k := k) (by omega)).2
    refine RE_M h9 h10 h12 h13 h14 h15 h16 (RE_congr ?_ (fun r hr => ?_) (fun r hr => ?_) (J.re (k := k) (by omega) hi))
    · rw [hC _ (by omega) (by omega), mkP_ne (by omega) (by omega) (by omega) (by unfold rV; omega)]
    · rw [hC _ (by unfold rV at hr; omega) (by unfold rV at hr; omega), mkP_ne (by unfold rV at hr; omega) (by unfold rV at hr; omega) (by unfold rV at hr; omega) (by unfold rV at hr ⊢; omega)]
    · rw [hC _ (by unfold rV at hr; omega) (by unfold rV at hr; omega), mkP_ne (by unfold rV at hr; omega) (by unfold rV at hr; omega) (by unfold rV at hr; omega) (by unfold rV at hr ⊢; omega)]
theorem J_skater {C M : Nat → Nat → Int32} (J : JJ C M) : Ans C [0, 3] codA (t_X4_skater C (nS M)) (f_X4_skater C (nS M)) (g_X4_skater C (nS M)) (f_X5_skater M) (g_X5_skater M) := by
  obtain ⟨h1, h12⟩ := J.many
  unfold t_X4_skater f_X4_skater g_X4_skater f_X5_skater g_X5_skater
  by_cases q : nS M = 12
  · rw [h1, q]
    simp only [if_neg (show ¬ nI 12 < 12 by decide), if_pos (show nI 12 = 12 from rfl)]
    exact Ans.no J (by decide) (by decide) rfl
  · have l1 : nI (nS M) < 12 := (nI_ltI (b := 12) (by omega) (by decide)).mpr (by omega)
    have l2 : ¬ M 0 1 = 12 := fun z => by
      rw [h1] at z
      exact q ((nI_eq (b := 12) (by omega) (by decide)).mp z)
    simp only [if_pos l1, if_neg l2]
    rw [h1, nI_1, nI_pred]
    refine ⟨by decide, by simp [up2, codA], fun _ => ⟨rfl, ?_⟩, fun z => absurd rfl z⟩
    have l3 : ¬ (40 + nS M = 0 ∨ 52 + nS M = 0 ∨ 64 + nS M = 0) := by omega
    refine JJ_skaterC J rfl (by omega) ?_ (fun j hj => ?_) (fun a ha => ?_) ?_ ?_ (fun j => ?_) (fun r h0 h1 => ?_)
    · rw [up2_at]
    · rw [up2_j _ _ (by omega), up2_j _ _ (by omega)]
    · rw [up2_ne _ _ _ (by omega), up2_ne _ _ _ (by omega)]
    · rw [up2_at]
    · rw [up2_j _ _ (by decide), up2_ne _ _ _ (by decide), mkP_ne (by omega) (by omega) (by omega) (by unfold rV; omega)]
    · rw [up2_ne _ _ _ (by decide)]
      unfold up2
      by_cases e : j = nS M
      · rw [if_pos ⟨rfl, e⟩, if_pos e]
      · rw [if_neg (fun z => e z.2), if_neg e, mkP_ne (by omega) (by omega) (by omega) (by unfold rV; omega)]
    · rw [up2_ne _ _ _ h0, up2_ne _ _ _ h1]
