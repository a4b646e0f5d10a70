theorem cnJ_c {K K' : Nat → Int32} {b : Nat} : ∀ i, (∀ e, e < i → K' (b + e) = K (b + e)) → cnJ K' b i = cnJ K b i := by
  intro i
  induction i with
  | zero => intro _; rfl
  | succ i ih =>
    intro h
    rw [cnJ, cnJ, h i (by omega), ih (fun e he => h e (by omega))]
theorem cnA_c {K K' L L' : Nat → Int32} {b : Nat} {p q : Int32} : ∀ i, (∀ e, e < i → K' (b + e) = K (b + e) ∧ L' (b + e) = L (b + e)) → cnA K' L' b p q i = cnA K L b p q i := by
  intro i
  induction i with
  | zero => intro _; rfl
  | succ i ih =>
    intro h
    rw [cnA, cnA, (h i (by omega)).1, (h i (by omega)).2, ih (fun e he => h e (by omega))]
theorem cnU_c {K K' L L' F F' : Nat → Int32} {b : Nat} : ∀ i, (∀ e, e < i → K' (b + e) = K (b + e) ∧ L' (b + e) = L (b + e) ∧ F' (b + e) = F (b + e)) → cnU K' L' F' b i = cnU K L F b i := by
  intro i
  induction i with
  | zero => intro _; rfl
  | succ i ih =>
    intro h
    rw [cnU, cnU, (h i (by omega)).1, (h i (by omega)).2.1, (h i (by omega)).2.2, ih (fun e he => h e (by omega))]
theorem cnF_c {W W' : Nat → Int32} {b : Nat} : ∀ i, (∀ e, e < i → W' (b + e) = W (b + e)) → cnF W' b i = cnF W b i := by
  intro i
  induction i with
  | zero => intro _; rfl
  | succ i ih =>
    intro h
    rw [cnF, cnF, h i (by omega), ih (fun e he => h e (by omega))]
theorem ctd_c {K K' L L' : Nat → Int32} {b i : Nat} (h : ∀ e, e ≤ i → K' (b + e) = K (b + e) ∧ L' (b + e) = L (b + e)) : ctd K' L' b i = ctd K L b i := by
  unfold ctd
  rw [(h i (Nat.le_refl _)).1, (h i (Nat.le_refl _)).2, cnJ_c i (fun e he => (h e (by omega)).1), cnA_c i (fun e he => h e (by omega))]
/-- an element is skated -/
theorem JJ_newE {C C' M M' : Nat → Nat → Int32} {k i : Nat} {K L W T Fa F sec ft : Int32} (J : JJ C M) (hk : k < nS M) (hg : M 0 2 = nI k) (h6 : M 6 k = 1) (hi : nE M k = i) (hi12 : i < 12) (hft : ft = 0 ∨ ft = 1)
    (m1 : M' 0 1 = M 0 1) (m2 : M' 0 2 = M 0 2) (m3 : M' 0 3 = ft) (m4 : M' 0 4 = 1) (m5 : M' 0 5 = 1) (m6 : M' 6 = M 6) (m7 : ∀ j, M' 7 j = if j = k then M 7 k + sec else M 7 j) (m8 : ∀ j, M' 8 j = if j = k then nI (i + 1) else M 8 j)
    (m9 : ∀ j, M' 9 j = if j = 12 * k + i then K else M 9 j) (m10 : ∀ j, M' 10 j = if j = 12 * k + i then L else M 10 j) (m11 : ∀ j, M' 11 j = if j = 12 * k + i then F else M 11 j) (m13 : ∀ j, M' 13 j = if j = 12 * k + i then W else M 13 j) (m14 : ∀ j, M' 14 j = if j = 12 * k + i then T else M 14 j) (m15 : ∀ j, M' 15 j = if j = 12 * k + i then Fa else M 15 j) (m12 : M' 12 = M 12) (m16 : M' 16 = M 16) (m17 : M' 17 = M 17) (m18 : M' 18 = M 18)
    (hE : okE M' (12 * k + i))
    (hC : ∀ r, ¬ r = 40 + k → ¬ r = 52 + k → ¬ r = 80 + (12 * k + i) → ¬ rV (36 + (12 * k + i)) r → ¬ rV (180 + (12 * k + i)) r → C' r = C r)
    (c2 : C' (40 + k) 2 = C (40 + k) 2) (c3 : C' (40 + k) 3 = C (40 + k) 3) (c4 : C' (40 + k) 4 = ft) (c5 : C' (40 + k) 5 = 1) (c6 : C' (40 + k) 6 = 1) (c7 : C' (40 + k) 7 = C (40 + k) 7 + sec) (c8 : C' (40 + k) 8 = nI (i + 1))
    (c9 : C' (40 + k) 9 = if K = 6 then C (40 + k) 9 else C (40 + k) 9 + 1) (c10 : C' (40 + k) 10 = if Fa = 0 then C (40 + k) 10 else C (40 + k) 10 + 1) (c11 : C' (40 + k) 11 = C (40 + k) 11 ||| (if K = 6 then (if L ≤ 0 then 0 else F) else 0))
    (c52 : ∀ j, C' (52 + k) j = if j = i then 1 else C (52 + k) j)
    (e0 : C' (80 + (12 * k + i)) 0 = K) (e1 : C' (80 + (12 * k + i)) 1 = L) (e2 : C' (80 + (12 * k + i)) 2 = W) (e3 : C' (80 + (12 * k + i)) 3 = T) (e4 : C' (80 + (12 * k + i)) 4 = Fa)
    (e5 : C' (80 + (12 * k + i)) 5 = if K = 6 then (if 3 ≤ nI i - C (40 + k) 9 then 0 else 1) else (if 7 ≤ C (40 + k) 9 then 0 else if 2 ≤ cnA (M 9) (M 10) (12 * k) K L i then 0 else 1))
    (cv : ∀ r, rV (36 + (12 * k + i)) r ∨ rV (180 + (12 * k + i)) r → ∀ j, C' r j = 0) : JJ C' M' := by
  have hS := nS_of m1
  have hk12 := J.lt hk
  obtain ⟨n13, n14, n15, n12, n16⟩ := J.no hk12 hi12 (by omega)
  have hn : ∀ k2, nE M' k2 = if k2 = k then i + 1 else nE M k2 := by
    intro k2
    unfold nE
    rw [m8]
    by_cases e : k2 = k
    · rw [if_pos e, if_pos e, nI_clamp (by omega)]
    · rw [if_neg e, if_neg e]
  have q9 : ∀ j, ¬ j = 12 * k + i → M' 9 j = M 9 j := fun j h => by rw [m9, if_neg h]
  have q10 : ∀ j, ¬ j = 12 * k + i → M' 10 j = M 10 j := fun j h => by rw [m10, if_neg h]
  have q11 : ∀ j, ¬ j = 12 * k + i → M' 11 j = M 11 j := fun j h => by rw [m11, if_neg h]
  have q13 : ∀ j, ¬ j = 12 * k + i → M' 13 j = M 13 j := fun j h => by rw [m13, if_neg h]
  have q14 : ∀ j, ¬ j = 12 * k + i → M' 14 j = M 14 j := fun j h => by rw [m14, if_neg h]
  have q15 : ∀ j, ¬ j = 12 * k + i → M' 15 j = M 15 j := fun j h => by rw [m15, if_neg h]
  refine ⟨⟨?_, fun k2 hk2 => ?_, fun k2 i2 hk2 hi2 => ⟨fun q => ?_, fun q => ?_⟩, IMn_M m12 m16 m17 m18 J.1.2.2.2⟩, ?_, ?_, fun k2 hk2 => ?_, fun k2 i2 hk2 hi2 => ?_⟩
  · obtain ⟨a, b, -⟩ := J.1.1
    unfold IMo
    rw [hS, m1, m2, m3, m4, m5, m6]
    exact ⟨a, b, hft, Or.inr rfl, Or.inr rfl⟩
  · obtain ⟨p1, p2, p3⟩ := J.1.2.1 k2 hk2
    unfold tP at p3 ⊢
    rw [hn, m8, m6, m7, hS, m17]
    by_cases e : k2 = k
    · rw [if_pos e, if_pos e, if_pos e]
      exact ⟨⟨rfl, by omega⟩, p2, fun q => by omega⟩
    · rw [if_neg e, if_neg e, if_neg e]
      exact ⟨p1, p2, p3⟩
  · by_cases e : 12 * k2 + i2 = 12 * k + i
    · rw [e]
      exact hE
    · have q2 : i2 < nE M k2 := by
        rw [hn] at q
        by_cases ek : k2 = k
        · subst ek
          rw [if_pos rfl] at q
          omega
        · rw [if_neg ek] at q
          exact q
      have o := J.ok hk2 q2
      unfold okE at o ⊢
      rw [q9 _ e, q10 _ e, q11 _ e, q13 _ e, q14 _ e, m12]
      exact o
  · have q2 : nE M k2 ≤ i2 ∧ ¬ 12 * k2 + i2 = 12 * k + i := by
      rw [hn] at q
      by_cases ek : k2 = k
      · subst ek
        rw [if_pos rfl] at q
        exact ⟨by omega, by omega⟩
      · rw [if_neg ek] at q
        exact ⟨q, by omega⟩
    have o := J.no hk2 hi2 q2.1
    unfold noE at o ⊢
    rw [q13 _ q2.2, q14 _ q2.2, q15 _ q2.2, m12, m16]
    exact o
  · obtain ⟨r1, r2, r3, r4⟩ := J.ro
    unfold RO
    rw [hC 0 (by omega) (by omega) (by omega) (by unfold rV; omega) (by unfold rV; omega), hC 1 (by omega) (by omega) (by omega) (by unfold rV; omega) (by unfold rV; omega), hC 2 (by omega) (by omega) (by omega) (by unfold rV; omega) (by unfold rV; omega), m1, m2, hS]
    exact ⟨r1, r2, r3, r4⟩
  · exact RV_M m18 (RV_congr (fun d hd => hC _ (by omega) (by omega) (by omega) (by unfold rV; omega) (by unfold rV; omega)) J.rv)
  · rw [hS] at hk2
    have k2l := J.lt hk2
    obtain ⟨a1, a2, a3⟩ := J.rp hk2
    refine ⟨?_, ?_, RPv_M m17 (fun j hj => VR_congr (fun r hr => hC r (by unfold rV at hr; omega) (by unfold rV at hr; omega) (by unfold rV at hr; omega) (by unfold rV at hr ⊢; omega) (by unfold rV at hr ⊢; omega)) (a3 j hj))⟩
    · unfold RPs at a1 ⊢
      rw [m2, m3, m4, m5, m6, m7, m8]
      by_cases e : k2 = k
      · subst e
        rw [if_pos rfl, if_pos rfl, c2, c3, c4, c5, c6, c7, c8, a1.2.2.1]
        refine ⟨a1.1, a1.2.1, rfl, rfl, fun z => ?_, fun _ => ⟨rfl, rfl, rfl⟩⟩
        rw [h6] at z
        exact absurd z (by decide)
      · rw [if_neg e, if_neg e, hC _ (by omega) (by omega) (by omega) (by unfold rV; omega) (by unfold rV; omega)]
        refine ⟨a1.1, a1.2.1, a1.2.2.1, a1.2.2.2.1, a1.2.2.2.2.1, fun z => ?_⟩
        rw [hg] at z
        exact absurd ((nI_eq (by omega) (by omega)).mp z).symm e
    · unfold RPc at a2 ⊢
      rw [hn]
      obtain ⟨b9, b10, b11, b52, b64⟩ := a2
      by_cases e : k2 = k
      · subst e
        rw [hi] at b9 b10 b11 b52
        rw [if_pos rfl, c9, c10, c11, cnJ, cnF, cnU, m9, if_pos rfl, m10, if_pos rfl, m11, if_pos rfl, m15, if_pos rfl, cnJ_c (K := M 9) i (fun e he => q9 _ (by omega)), cnF_c (W := M 15) i (fun e he => q15 _ (by omega)), cnU_c (K := M 9) (L := M 10) (F := M 11) i (fun e he => ⟨q9 _ (by omega), q10 _ (by omega), q11 _ (by omega)⟩), b9, b10, b11]
        refine ⟨rfl, rfl, rfl, fun j hj => ?_, fun j hj => ?_⟩
        · rw [c52, b52 j hj]
          by_cases g : j = i
          · rw [if_pos g, if_pos (by omega)]
          · rw [if_neg g]
            by_cases l : j < i
            · rw [if_pos l, if_pos (by omega)]
            · rw [if_neg l, if_neg (by omega)]
        · rw [hC (64 + k2) (by omega) (by omega) (by omega) (by unfold rV; omega) (by unfold rV; omega)]
          exact b64 j hj
      · have l2 := (J.cnt k2l).2
        rw [if_neg e, hC (40 + k2) (by omega) (by omega) (by omega) (by unfold rV; omega) (by unfold rV; omega), hC (52 + k2) (by omega) (by omega) (by omega) (by unfold rV; omega) (by unfold rV; omega), hC (64 + k2) (by omega) (by omega) (by omega) (by unfold rV; omega) (by unfold rV; omega), cnJ_c (K := M 9) _ (fun e he => q9 _ (by omega)), cnF_c (W := M 15) _ (fun e he => q15 _ (by omega)), cnU_c (K := M 9) (L := M 10) (F := M 11) _ (fun e he => ⟨q9 _ (by omega), q10 _ (by omega), q11 _ (by omega)⟩)]
        exact ⟨b9, b10, b11, b52, b64⟩
  · rw [hS] at hk2
    have k2l := J.lt hk2
    by_cases e : 12 * k2 + i2 = 12 * k + i
    · have l2 : i2 < 12 := by
        have := (J.cnt k2l).2
        rw [hn] at hi2
        by_cases ek : k2 = k
        · rw [if_pos ek] at hi2
          omega
        · rw [if_neg ek] at hi2
          omega
      have ek : k2 = k := by omega
      have ei : i2 = i := by omega
      subst ek
      subst ei
      have b9 := (J.rp hk).2.1.1
      rw [hi] at b9
      unfold RE
      rw [e0, e1, e2, e3, e4, e5, m9, if_pos rfl, m10, if_pos rfl, m13, if_pos rfl, m14, if_pos rfl, m15, if_pos rfl]
      refine ⟨⟨rfl, rfl, rfl, rfl, rfl, ?_⟩, VR_new (fun r hr => cv r (Or.inl hr)) (fun c hc => ?_), VR_new (fun r hr => cv r (Or.inr hr)) (fun c hc => ?_)⟩
      · unfold ctd
        rw [m9, if_pos rfl, m10, if_pos rfl, cnJ_c (K := M 9) _ (fun e he => q9 _ (by omega)), cnA_c (K := M 9) (L := M 10) _ (fun e he => ⟨q9 _ (by omega), q10 _ (by omega)⟩), b9]
      · unfold tC
        rw [m12]
        split
        · rename_i g
          exact n12 c g
        · rfl
      · unfold tGr
        rw [m16]
        exact n16 c hc
    · have q2 : i2 < nE M k2 := by
        rw [hn] at hi2
        by_cases ek : k2 = k
        · subst ek
          rw [if_pos rfl] at hi2
          omega
        · rw [if_neg ek] at hi2
          exact hi2
      have l2 := (J.cnt k2l).2
      have q3 : ¬ k2 = k ∨ nE M k2 = i := by
        by_cases z : k2 = k
        · exact Or.inr (by rw [z]; exact hi)
        · exact Or.inl z
      obtain ⟨r1, r2, r3⟩ := RE_congr (C' := C') (hC _ (by omega) (by omega) (by omega) (by unfold rV; omega) (by unfold rV; omega)) (fun r hr => hC r (by unfold rV at hr; omega) (by unfold rV at hr; omega) (by unfold rV at hr; omega) (by unfold rV at hr ⊢; omega) (by unfold rV at hr ⊢; omega)) (fun r hr => hC r (by unfold rV at hr; omega) (by unfold rV at hr; omega) (by unfold rV at hr; omega) (by unfold rV at hr ⊢; omega) (by unfold rV at hr ⊢; omega)) (J.re hk2 q2)
      unfold RE tC tGr at *
      rw [q9 _ e, q10 _ e, q13 _ e, q14 _ e, q15 _ e, m12, m16, ctd_c (K := M 9) (L := M 10) (fun e2 he2 => ⟨q9 _ (by omega), q10 _ (by omega)⟩)]
      exact ⟨r1, r2, r3⟩
