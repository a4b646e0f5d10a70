/-! THE BRIDGE: callers and judges -/
theorem okT_rg {t : Nat → Int32} (h : ∀ i, t i = (-99) ∨ (-40 ≤ (t i).toInt ∧ (t i).toInt ≤ 40)) : okT t := by
  intro i hi
  rcases h i with z | ⟨a, b⟩
  · exact absurd z hi
  · rw [Int32.le_iff_toInt_le, Int32.lt_iff_toInt_lt, im99, i99]
    omega
theorem rg_int {x lo hi : Int32} (h : rgI x lo hi) (h1 : -40 ≤ lo.toInt) (h2 : hi.toInt ≤ 40) : x = (-99) ∨ (-40 ≤ x.toInt ∧ x.toInt ≤ 40) := by
  rcases h with h | ⟨a, b⟩
  · exact Or.inl h
  · rw [Int32.le_iff_toInt_le] at a b
    exact Or.inr (by omega)
theorem in_lohi {p lo hi : Int32} (h : ¬ f_X5_in p lo hi = 0) : lo ≤ p ∧ p ≤ hi := by
  unfold f_X5_in at h
  by_cases a : p < lo
  · rw [if_pos a] at h
    exact absurd rfl h
  · rw [if_neg a] at h
    by_cases b : hi < p
    · rw [if_pos b] at h
      exact absurd rfl h
    · exact ⟨Int32.not_lt.mp a, Int32.not_lt.mp b⟩
theorem not99 {p lo hi : Int32} (h : lo ≤ p ∧ p ≤ hi) (h1 : -40 ≤ lo.toInt) : ¬ p = (-99) := by
  intro z
  rw [z, Int32.le_iff_toInt_le, im99] at h
  omega
theorem rT_c7 {t t' : Nat → Int32} : ∀ k, (∀ i, i < k → t i = t' i) → rT t k = rT t' k := by
  intro k
  induction k with
  | zero => intro _; rfl
  | succ k ih =>
    intro h
    rw [rT, rT, ih (fun i hi => h i (by omega)), h k (by omega)]
theorem VR_t {C : Nat → Nat → Int32} {v : Nat} {t t' : Nat → Int32} (h : ∀ i, i < 7 → t i = t' i) (q : VR C v t) : VR C v t' := by
  obtain ⟨a, b, c⟩ := q
  rw [rT_c7 7 h] at c
  refine ⟨fun i hi => ?_, fun i hi => ?_, c⟩
  · rw [← h i hi]
    exact a i hi
  · rw [← h i hi]
    exact b i hi
/-- one tells: only seven matter -/
theorem VR_tell7 {C : Nat → Nat → Int32} {v i : Nat} {t : Nat → Int32} {x : Int32} (h : VR C v t) (hi : i < 7) (hx : -40 ≤ x.toInt ∧ x.toInt ≤ 40) (hn : ¬ x = (-99)) (ht : ∀ j, j < 7 → t j = (-99) ∨ (-40 ≤ (t j).toInt ∧ (t j).toInt ≤ 40)) : VR (g_X3_tell C v (nI i) x) v (upd t i x) := by
  refine VR_t (t := upd (fun j => if j < 7 then t j else (-99)) i x) (fun j hj => ?_) (VR_tell (VR_t (fun j hj => ?_) h) hi hn (okT_rg (fun j => ?_)))
  · unfold upd
    dsimp only
    rw [if_pos hj]
  · rw [if_pos hj]
  · unfold upd
    dsimp only
    split
    · exact Or.inr hx
    · split
      · rename_i q
        exact ht j q
      · exact Or.inl rfl
/-- a caller tells -/
theorem JJ_call12 {C C' M : Nat → Nat → Int32} (J : JJ C M) {k i c : Nat} {x : Int32} (hk : k < nS M) (hi : i < nE M k) (hc : c < 3) (hx : 0 ≤ x ∧ x ≤ 4) (hj : ¬ M 9 (12 * k + i) = 6) (hC : ∀ r, ¬ rV (36 + (12 * k + i)) r → C' r = C r) (hV : VR C' (36 + (12 * k + i)) (upd (tC M (12 * k + i)) c x)) : JJ C' (up2 M 12 (3 * (12 * k + i) + c) x) := by
  have hM : ∀ a, a ≠ 12 → up2 M 12 (3 * (12 * k + i) + c) x a = M a := fun a h => up2_ne _ _ _ h
  have h0 := hM 0 (by decide)
  have h6 := hM 6 (by decide)
  have h7 := hM 7 (by decide)
  have h8 := hM 8 (by decide)
  have h9 := hM 9 (by decide)
  have h10 := hM 10 (by decide)
  have h11 := hM 11 (by decide)
  have h13 := hM 13 (by decide)
  have h14 := hM 14 (by decide)
  have h15 := hM 15 (by decide)
  have h16 := hM 16 (by decide)
  have h17 := hM 17 (by decide)
  have h18 := hM 18 (by decide)
  have hS : nS (up2 M 12 (3 * (12 * k + i) + c) x) = nS M := nS_of (by rw [h0])
  have hk12 := J.lt hk
  have hi12 := (J.cnt hk12).2
  have e12 : ∀ n, ¬ n = 12 * k + i → ∀ b, b < 3 → up2 M 12 (3 * (12 * k + i) + c) x 12 (3 * n + b) = M 12 (3 * n + b) := by
    intro n hn b hb
    unfold up2
    rw [if_neg (fun z => by
      have := z.2
      omega)]
  have etc : ∀ n, ¬ n = 12 * k + i → tC (up2 M 12 (3 * (12 * k + i) + c) x) n = tC M n := by
    intro n hn
    funext b
    unfold tC
    split
    · rename_i hb
      exact e12 n hn b hb
    · rfl
  have etn : tC (up2 M 12 (3 * (12 * k + i) + c) x) (12 * k + i) = upd (tC M (12 * k + i)) c x := by
    funext b
    unfold tC upd
    dsimp only
    by_cases hb : b < 3
    · rw [if_pos hb, if_pos hb]
      unfold up2
      by_cases e : b = c
      · rw [if_pos e, if_pos ⟨rfl, by rw [e]⟩]
      · rw [if_neg e, if_neg (fun z => e (by omega))]
    · rw [if_neg hb, if_neg hb, if_neg (by omega)]
  refine ⟨⟨?_, ?_, fun k2 i2 hk2 hi2 => ⟨fun q => ?_, fun q => ?_⟩, ?_⟩, ?_, ?_, fun k2 hk2 => ?_, fun k2 i2 hk2 hi2 => ?_⟩
  · have := J.1.1
    unfold IMo at this ⊢
    rw [h0, h6, hS]
    exact this
  · intro k2 hk2
    have := J.1.2.1 k2 hk2
    unfold tP at this ⊢
    rw [h6, h7, h8, h17, nE_of h8, hS]
    exact this
  · rw [nE_of h8] at q
    have o := J.ok hk2 q
    unfold okE at o ⊢
    rw [h9, h10, h11, h13, h14]
    rcases o with o | ⟨q1, f, o1, o2, o3, o4, o5, o6, o7, o8⟩
    · exact Or.inl o
    · refine Or.inr ⟨q1, f, o1, o2, o3, o4, o5, o6, o7, fun b hb => ?_⟩
      rw [e12 _ (fun z => by
        rw [z] at o3
        exact hj o3) b hb]
      exact o8 b hb
  · rw [nE_of h8] at q
    obtain ⟨o1, o2, o3, o4, o5⟩ := J.no hk2 hi2 q
    unfold noE
    rw [h13, h14, h15, h16]
    refine ⟨o1, o2, o3, fun b hb => ?_, o5⟩
    rw [e12 _ (fun z => by
      have e1 : k2 = k := by omega
      subst e1
      omega) b hb]
    exact o4 b hb
  · obtain ⟨i1, i2, i3, i4⟩ := J.1.2.2.2
    unfold IMn
    rw [h16, h17, h18]
    refine ⟨fun n hn => ?_, i2, i3, i4⟩
    unfold up2
    split
    · exact Or.inr hx
    · exact i1 n hn
  · have := J.ro
    unfold RO at this ⊢
    rw [hC 0 (by unfold rV; omega), hC 1 (by unfold rV; omega), hC 2 (by unfold rV; omega), h0, hS]
    exact this
  · exact RV_M h18 (RV_congr (fun d hd => hC _ (by unfold rV; omega)) J.rv)
  · rw [hS] at hk2
    have hk12 := J.lt hk2
    obtain ⟨q1, q2, q3⟩ := RP_congr (C' := C') (hC (40 + k2) (by unfold rV; omega)) (hC (52 + k2) (by unfold rV; omega)) (hC (64 + k2) (by unfold rV; omega)) (fun j hj r hr => hC r (by unfold rV at hr ⊢; omega)) (J.rp hk2)
    refine ⟨?_, RPc_M h8 h9 h10 h11 h15 q2, RPv_M h17 q3⟩
    unfold RPs at q1 ⊢
    rw [h0, h6, h7, h8]
    exact q1
  · rw [hS] at hk2
    rw [nE_of h8] at hi2
    have hk12 := J.lt hk2
    have hi12 := (J.cnt hk12).2
    obtain ⟨r1, r2, r3⟩ := J.re hk2 hi2
    unfold RE tGr
    rw [h9, h10, h13, h14, h15, h16, hC _ (by unfold rV; omega)]
    refine ⟨r1, ?_, VR_congr (fun r hr => hC r (by unfold rV at hr ⊢; omega)) r3⟩
    by_cases e : 12 * k2 + i2 = 12 * k + i
    · rw [e, etn]
      exact hV
    · rw [etc _ e]
      exact VR_congr (fun r hr => hC r (by unfold rV at hr ⊢; omega)) r2
/-- a judge grades -/
theorem JJ_grade16 {C C' M : Nat → Nat → Int32} (J : JJ C M) {k i c : Nat} {x : Int32} (hk : k < nS M) (hi : i < nE M k) (hc : c < 7) (hx : -5 ≤ x ∧ x ≤ 5) (hC : ∀ r, ¬ rV (180 + (12 * k + i)) r → C' r = C r) (hV : VR C' (180 + (12 * k + i)) (upd (tGr M (12 * k + i)) c x)) : JJ C' (up2 M 16 (144 * c + (12 * k + i)) x) := by
  have hM : ∀ a, a ≠ 16 → up2 M 16 (144 * c + (12 * k + i)) x a = M a := fun a h => up2_ne _ _ _ h
  have h0 := hM 0 (by decide)
  have h6 := hM 6 (by decide)
  have h7 := hM 7 (by decide)
  have h8 := hM 8 (by decide)
  have h9 := hM 9 (by decide)
  have h10 := hM 10 (by decide)
  have h11 := hM 11 (by decide)
  have h12 := hM 12 (by decide)
  have h13 := hM 13 (by decide)
  have h14 := hM 14 (by decide)
  have h15 := hM 15 (by decide)
  have h17 := hM 17 (by decide)
  have h18 := hM 18 (by decide)
  have hS : nS (up2 M 16 (144 * c + (12 * k + i)) x) = nS M := nS_of (by rw [h0])
  have hk12 := J.lt hk
  have hi12 := (J.cnt hk12).2
  have e16 : ∀ n, n < 144 → ¬ n = 12 * k + i → ∀ b, up2 M 16 (144 * c + (12 * k + i)) x 16 (144 * b + n) = M 16 (144 * b + n) := by
    intro n hn1 hn b
    unfold up2
    rw [if_neg (fun z => by
      have := z.2
      omega)]
  have etc : ∀ n, n < 144 → ¬ n = 12 * k + i → tGr (up2 M 16 (144 * c + (12 * k + i)) x) n = tGr M n := by
    intro n hn1 hn
    funext b
    exact e16 n hn1 hn b
  have etn : tGr (up2 M 16 (144 * c + (12 * k + i)) x) (12 * k + i) = upd (tGr M (12 * k + i)) c x := by
    funext b
    unfold tGr upd up2
    by_cases e : b = c
    · rw [if_pos e, if_pos ⟨rfl, by rw [e]⟩]
    · rw [if_neg e, if_neg (fun z => e (by omega))]
  refine ⟨⟨?_, ?_, fun k2 i2 hk2 hi2 => ⟨fun q => ?_, fun q => ?_⟩, ?_⟩, ?_, ?_, fun k2 hk2 => ?_, fun k2 i2 hk2 hi2 => ?_⟩
  · have := J.1.1
    unfold IMo at this ⊢
    rw [h0, h6, hS]
    exact this
  · intro k2 hk2
    have := J.1.2.1 k2 hk2
    unfold tP at this ⊢
    rw [h6, h7, h8, h17, nE_of h8, hS]
    exact this
  · rw [nE_of h8] at q
    have o := J.ok hk2 q
    unfold okE at o ⊢
    rw [h9, h10, h11, h12, h13, h14]
    exact o
  · rw [nE_of h8] at q
    obtain ⟨o1, o2, o3, o4, o5⟩ := J.no hk2 hi2 q
    unfold noE
    rw [h12, h13, h14, h15]
    refine ⟨o1, o2, o3, o4, fun b hb => ?_⟩
    rw [e16 _ (by omega) (fun z => by
      have e1 : k2 = k := by omega
      subst e1
      omega) b]
    exact o5 b hb
  · obtain ⟨i1, i2, i3, i4⟩ := J.1.2.2.2
    unfold IMn
    rw [h12, h17, h18]
    refine ⟨i1, fun n hn => ?_, i3, i4⟩
    unfold up2
    split
    · exact Or.inr hx
    · exact i2 n hn
  · have := J.ro
    unfold RO at this ⊢
    rw [hC 0 (by unfold rV; omega), hC 1 (by unfold rV; omega), hC 2 (by unfold rV; omega), h0, hS]
    exact this
  · exact RV_M h18 (RV_congr (fun d hd => hC _ (by unfold rV; omega)) J.rv)
  · rw [hS] at hk2
    have hk12 := J.lt hk2
    obtain ⟨q1, q2, q3⟩ := RP_congr (C' := C') (hC (40 + k2) (by unfold rV; omega)) (hC (52 + k2) (by unfold rV; omega)) (hC (64 + k2) (by unfold rV; omega)) (fun j hj r hr => hC r (by unfold rV at hr ⊢; omega)) (J.rp hk2)
    refine ⟨?_, RPc_M h8 h9 h10 h11 h15 q2, RPv_M h17 q3⟩
    unfold RPs at q1 ⊢
    rw [h0, h6, h7, h8]
    exact q1
  · rw [hS] at hk2
    rw [nE_of h8] at hi2
    have hk12 := J.lt hk2
    have hi12 := (J.cnt hk12).2
    obtain ⟨r1, r2, r3⟩ := J.re hk2 hi2
    unfold RE tC
    rw [h9, h10, h12, h13, h14, h15, hC _ (by unfold rV; omega)]
    refine ⟨r1, VR_congr (fun r hr => hC r (by unfold rV at hr ⊢; omega)) r2, ?_⟩
    by_cases e : 12 * k2 + i2 = 12 * k + i
    · rw [e, etn]
      exact hV
    · rw [etc _ (by omega) e]
      exact VR_congr (fun r hr => hC r (by unfold rV at hr ⊢; omega)) r3
/-- a judge tells a component -/
theorem JJ_comp17 {C C' M : Nat → Nat → Int32} (J : JJ C M) {k j c : Nat} {x : Int32} (hk : k < nS M) (hj : j < 3) (hc : c < 7) (hx : 0 ≤ x ∧ x ≤ 40) (hC : ∀ r, ¬ rV (3 * k + j) r → C' r = C r) (hV : VR C' (3 * k + j) (upd (tP M k j) c x)) : JJ C' (up2 M 17 (((36 * c) + (3 * k)) + j) x) := by
  have hM : ∀ a, a ≠ 17 → up2 M 17 (((36 * c) + (3 * k)) + j) x a = M a := fun a h => up2_ne _ _ _ h
  have h0 := hM 0 (by decide)
  have h6 := hM 6 (by decide)
  have h7 := hM 7 (by decide)
  have h8 := hM 8 (by decide)
  have h9 := hM 9 (by decide)
  have h10 := hM 10 (by decide)
  have h11 := hM 11 (by decide)
  have h12 := hM 12 (by decide)
  have h13 := hM 13 (by decide)
  have h14 := hM 14 (by decide)
  have h15 := hM 15 (by decide)
  have h16 := hM 16 (by decide)
  have h18 := hM 18 (by decide)
  have hS : nS (up2 M 17 (((36 * c) + (3 * k)) + j) x) = nS M := nS_of (by rw [h0])
  have hk12 := J.lt hk
  have etc : ∀ k2 j2, k2 < 12 → j2 < 3 → ¬ (k2 = k ∧ j2 = j) → tP (up2 M 17 (((36 * c) + (3 * k)) + j) x) k2 j2 = tP M k2 j2 := by
    intro k2 j2 hk2 hj2 hn
    funext b
    unfold tP up2
    rw [if_neg (fun z => hn (by
      have := z.2
      omega))]
  have etn : tP (up2 M 17 (((36 * c) + (3 * k)) + j) x) k j = upd (tP M k j) c x := by
    funext b
    unfold tP upd up2
    by_cases e : b = c
    · rw [if_pos e, if_pos ⟨rfl, by rw [e]⟩]
    · rw [if_neg e, if_neg (fun z => e (by omega))]
  refine ⟨⟨?_, ?_, IMe_M h8 h9 h10 h11 h12 h13 h14 h15 h16 J.1.2.2.1, ?_⟩, ?_, ?_, fun k2 hk2 => ?_, fun k2 i2 hk2 hi2 => ?_⟩
  · have := J.1.1
    unfold IMo at this ⊢
    rw [h0, h6, hS]
    exact this
  · intro k2 hk2
    obtain ⟨p1, p2, p3⟩ := J.1.2.1 k2 hk2
    rw [h6, h7, h8, nE_of h8, hS]
    refine ⟨p1, p2, fun q => ?_⟩
    obtain ⟨q1, q2, q3, q4⟩ := p3 q
    refine ⟨q1, q2, q3, fun j2 i2 hj2 hi2 => ?_⟩
    rw [etc k2 j2 hk2 hj2 (fun z => by omega)]
    exact q4 j2 i2 hj2 hi2
  · obtain ⟨i1, i2, i3, i4⟩ := J.1.2.2.2
    unfold IMn
    rw [h12, h16, h18]
    refine ⟨i1, i2, fun n hn => ?_, i4⟩
    unfold up2
    split
    · exact Or.inr hx
    · exact i3 n hn
  · have := J.ro
    unfold RO at this ⊢
    rw [hC 0 (by unfold rV; omega), hC 1 (by unfold rV; omega), hC 2 (by unfold rV; omega), h0, hS]
    exact this
  · exact RV_M h18 (RV_congr (fun d hd => hC _ (by unfold rV; omega)) J.rv)
  · rw [hS] at hk2
    have hk12 := J.lt hk2
    obtain ⟨q1, q2, q3⟩ := J.rp hk2
    refine ⟨?_, RPc_M h8 h9 h10 h11 h15 ?_, fun j2 hj2 => ?_⟩
    · unfold RPs at q1 ⊢
      rw [h0, h6, h7, h8, hC (40 + k2) (by unfold rV; omega)]
      exact q1
    · unfold RPc at q2 ⊢
      rw [hC (40 + k2) (by unfold rV; omega), hC (52 + k2) (by unfold rV; omega), hC (64 + k2) (by unfold rV; omega)]
      exact q2
    · by_cases e : k2 = k ∧ j2 = j
      · obtain ⟨rfl, rfl⟩ := e
        rw [etn]
        exact hV
      · rw [etc k2 j2 hk12 hj2 e]
        exact VR_congr (fun r hr => hC r (by unfold rV at hr ⊢; omega)) (q3 j2 hj2)
  · rw [hS] at hk2
    rw [nE_of h8] at hi2
    have hk12 := J.lt hk2
    have hi12 := (J.cnt hk12).2
    exact RE_M h9 h10 h12 h13 h14 h15 h16 (RE_congr (hC _ (by unfold rV; omega)) (fun r hr => hC r (by unfold rV at hr ⊢; omega)) (fun r hr => hC r (by unfold rV at hr ⊢; omega)) (J.re hk2 hi2))
theorem J_call {C M : Nat → Nat → Int32} (J : JJ C M) (p0 p1 p2 : Int32) : Ans C [0, 1, 2, 3] codD (t_X4_call C p0 p1 p2) (f_X4_call C p0 p1 p2) (g_X4_call C p0 p1 p2) (f_X5_call M p0 p1 p2 p0.toNatClampNeg (M 0 2).toNatClampNeg p1.toNatClampNeg) (g_X5_call M p0 p1 p2 p0.toNatClampNeg (M 0 2).toNatClampNeg p1.toNatClampNeg) := by
  unfold t_X4_call f_X4_call g_X4_call f_X5_call g_X5_call
  rw [isIn_eq, isIn_eq, J.ro.2.1]
  by_cases g : M 0 2 = (-1)
  · simp only [if_pos g]
    by_cases a : f_X5_in p0 0 2 = 0
    · simp only [if_pos a]
      exact Ans.no J (by decide) (by decide) rfl
    · simp only [if_neg a]
      by_cases b : f_X5_in p2 0 4 = 0
      · simp only [if_pos b]
        exact Ans.no J (by decide) (by decide) rfl
      · simp only [if_neg b]
        exact Ans.no (JJ_sr (sr_th M 0) J) (by decide) (by decide) rfl
  · obtain ⟨g1, g2, g3⟩ := J.gk g
    simp only [if_neg g]
    generalize (M 0 2).toNatClampNeg = k at g1 g2 g3 ⊢
    have h12 := J.many.2
    have hk12 := J.lt g2
    have hE : f_X5_isElement M (nI k) p1 = f_X2_elementAt C k p1 := by
      unfold f_X5_isElement
      rw [((J.prog (nI k)).2.2 k g2 rfl), if_neg (by decide), nI_clamp (by omega), (J.el g2 p1).1]
      rcases in_01 p1 0 (M 8 k - 1) with z | z
      · rw [z, if_pos rfl]
      · rw [z, if_neg (by decide)]
    rw [hE]
    by_cases a : f_X5_in p0 0 2 = 0
    · simp only [if_pos a, ite_self]
      exact Ans.no J (by decide) (by decide) rfl
    · simp only [if_neg a]
      by_cases e : f_X2_elementAt C k p1 = 0
      · simp only [if_pos e]
        exact Ans.no J (by decide) (by decide) rfl
      · simp only [if_neg e]
        by_cases b : f_X5_in p2 0 4 = 0
        · simp only [if_pos b]
          exact Ans.no J (by decide) (by decide) rfl
        · simp only [if_neg b]
          obtain ⟨a1, a2⟩ := in2 a
          rw [(J.el g2 p1).1] at e
          obtain ⟨e1, e2⟩ := (J.el g2 p1).2 e
          have hi12 := (J.cnt hk12).2
          generalize p1.toNatClampNeg = i at e1 e2 ⊢
          obtain ⟨⟨r0, -⟩, rc, -⟩ := J.re g2 e2
          rw [r0]
          by_cases w : M 9 (12 * k + i) = 6
          · simp only [if_pos w]
            exact Ans.no (JJ_sr (sr_th M 0) J) (by decide) (by decide) rfl
          · simp only [if_neg w]
            have J0 := JJ_sr (sr_th (up2 M 0 0 0) 0) (JJ_sr (sr_th M 0) J)
            have hx := in_lohi b
            have hV : VR (g_X3_tell C (36 + (12 * k + i)) p0 p2) (36 + (12 * k + i)) (upd (tC M (12 * k + i)) p0.toNatClampNeg p2) := by
              rw [a1, nI_clamp (by omega)]
              refine VR_tell7 rc (by omega) ?_ (not99 hx (by decide)) (fun c _ => ?_)
              · rw [Int32.le_iff_toInt_le, Int32.le_iff_toInt_le, show (0 : Int32).toInt = 0 from rfl, show (4 : Int32).toInt = 4 from rfl] at hx
                omega
              · unfold tC
                split
                · exact rg_int (J.1.2.2.2.1 _ (by omega)) (by decide) (by decide)
                · exact Or.inl rfl
            have hC : ∀ r, ¬ rV (36 + (12 * k + i)) r → g_X3_tell C (36 + (12 * k + i)) p0 p2 r = C r := by
              intro r hr
              rw [a1]
              exact tell_row (by omega) hr
            have J1 := JJ_call12 J0 (k := k) (i := i) (c := p0.toNatClampNeg) (x := p2) g2 e2 (by omega) hx w hC hV
            refine ⟨by decide, ?_, fun _ => ⟨J1.quart g2 e2, J1⟩, fun z => absurd rfl z⟩
            rw [up2_ne _ _ _ (by decide), up2_at]
            rfl
theorem J_grade {C M : Nat → Nat → Int32} (J : JJ C M) (p0 p1 p2 p3 : Int32) : Ans C [0, 1, 2, 3] codD (t_X4_grade C p0 p1 p2 p3) 0 (g_X4_grade C p0 p1 p2 p3) 0 (g_X5_grade M p0 p1 p2 p3 p0.toNatClampNeg p1.toNatClampNeg p2.toNatClampNeg) := by
  unfold t_X4_grade g_X4_grade g_X5_grade f_X5_isElement
  rw [isIn_eq, isIn_eq, (J.sk p1).1]
  simp only [ite_self]
  by_cases s : f_X5_isSkater M p1 = 0
  · simp only [if_pos s, if_true, ite_self]
    exact Ans.no J (by decide) (by decide) rfl
  · obtain ⟨s1, s2⟩ := (J.sk p1).2 s
    simp only [if_neg s]
    rw [(J.el s2 p2).1]
    by_cases e : f_X5_in p2 0 (M 8 p1.toNatClampNeg - 1) = 0
    · simp only [if_pos e, if_true, ite_self]
      exact Ans.no J (by decide) (by decide) rfl
    · obtain ⟨e1, e2⟩ := (J.el s2 p2).2 e
      simp only [if_neg e, if_neg (show ¬ (1 : Int32) = 0 by decide)]
      by_cases a : f_X5_in p0 0 6 = 0
      · simp only [if_pos a]
        exact Ans.no J (by decide) (by decide) rfl
      · obtain ⟨a1, a2⟩ := in6 a
        simp only [if_neg a]
        by_cases b : f_X5_in p3 (-5) 5 = 0
        · simp only [if_pos b]
          exact Ans.no J (by decide) (by decide) rfl
        · simp only [if_neg b]
          have hk12 := J.lt s2
          have hi12 := (J.cnt hk12).2
          generalize p1.toNatClampNeg = k at s1 s2 e1 e2 hk12 hi12 ⊢
          generalize p2.toNatClampNeg = i at e1 e2 ⊢
          by_cases w : M 6 k = 2
          · simp only [if_neg (fun z => ((J.c3 s2).mp z) w), if_pos w]
            have hx := in_lohi b
            have hV : VR (g_X3_tell C (180 + (12 * k + i)) p0 p3) (180 + (12 * k + i)) (upd (tGr M (12 * k + i)) p0.toNatClampNeg p3) := by
              rw [a1, nI_clamp (by omega)]
              refine VR_tell7 (J.re s2 e2).2.2 a2 ?_ (not99 hx (by decide)) (fun c c7 => ?_)
              · rw [Int32.le_iff_toInt_le, Int32.le_iff_toInt_le, show (-5 : Int32).toInt = -5 from rfl, show (5 : Int32).toInt = 5 from rfl] at hx
                omega
              · exact rg_int (J.1.2.2.2.2.1 (144 * c + (12 * k + i)) (by omega)) (by decide) (by decide)
            have J1 := JJ_grade16 (JJ_sr (sr_th M 0) J) (k := k) (i := i) (c := p0.toNatClampNeg) (x := p3) s2 e2 a2 hx (fun r hr => by
              rw [a1]
              exact tell_row a2 hr) hV
            refine ⟨by decide, ?_, fun _ => ⟨rfl, J1⟩, fun z => absurd rfl z⟩
            rw [up2_ne _ _ _ (by decide), up2_at]
            rfl
          · simp only [if_pos ((J.c3 s2).mpr w), if_neg w]
            exact Ans.no J (by decide) (by decide) rfl
theorem J_component {C M : Nat → Nat → Int32} (J : JJ C M) (p0 p1 p2 p3 : Int32) : Ans C [0, 1, 2, 3] codD (t_X4_component C p0 p1 p2 p3) 0 (g_X4_component C p0 p1 p2 p3) 0 (g_X5_component M p0 p1 p2 p3 p0.toNatClampNeg p1.toNatClampNeg p2.toNatClampNeg) := by
  unfold t_X4_component g_X4_component g_X5_component
  rw [isIn_eq, isIn_eq, (J.sk p1).1]
  simp only [ite_self]
  by_cases s : f_X5_isSkater M p1 = 0
  · simp only [if_pos s, ite_self]
    exact Ans.no J (by decide) (by decide) rfl
  · obtain ⟨s1, s2⟩ := (J.sk p1).2 s
    simp only [if_neg s]
    rw [J.co s2 p2]
    by_cases e : f_X5_in p2 0 2 = 0
    · simp only [if_pos e, ite_self]
      exact Ans.no J (by decide) (by decide) rfl
    · obtain ⟨e1, e2⟩ := in2 e
      simp only [if_neg e]
      by_cases a : f_X5_in p0 0 6 = 0
      · simp only [if_pos a]
        exact Ans.no J (by decide) (by decide) rfl
      · obtain ⟨a1, a2⟩ := in6 a
        simp only [if_neg a]
        by_cases b : f_X5_in p3 0 40 = 0
        · simp only [if_pos b]
          exact Ans.no J (by decide) (by decide) rfl
        · simp only [if_neg b]
          have hk12 := J.lt s2
          generalize p1.toNatClampNeg = k at s1 s2 hk12 ⊢
          generalize p2.toNatClampNeg = j at e1 e2 ⊢
          by_cases w : M 6 k = 2
          · simp only [if_neg (fun z => ((J.c3 s2).mp z) w), if_pos w]
            have hx := in_lohi b
            have hV : VR (g_X3_tell C (3 * k + j) p0 p3) (3 * k + j) (upd (tP M k j) p0.toNatClampNeg p3) := by
              rw [a1, nI_clamp (by omega)]
              refine VR_tell7 ((J.rp s2).2.2 j e2) a2 ?_ (not99 hx (by decide)) (fun c c7 => ?_)
              · rw [Int32.le_iff_toInt_le, Int32.le_iff_toInt_le, show (0 : Int32).toInt = 0 from rfl, show (40 : Int32).toInt = 40 from rfl] at hx
                omega
              · exact rg_int (J.1.2.2.2.2.2.1 ((36 * c + 3 * k) + j) (by omega)) (by decide) (by decide)
            have J1 := JJ_comp17 (JJ_sr (sr_th M 0) J) (k := k) (j := j) (c := p0.toNatClampNeg) (x := p3) s2 e2 a2 hx (fun r hr => by
              rw [a1]
              exact tell_row a2 hr) hV
            refine ⟨by decide, ?_, fun _ => ⟨rfl, J1⟩, fun z => absurd rfl z⟩
            rw [up2_ne _ _ _ (by decide), up2_at]
            rfl
          · simp only [if_pos ((J.c3 s2).mpr w), if_neg w]
            exact Ans.no J (by decide) (by decide) rfl
