/-! p18: what is asked: elements, programmes -/
theorem zero_mul {a b : UInt64} (ha : FP.Core.DZero a) (hb : FP.Core.DFin b) : FP.Core.DZero (FP.dmul a b) := by
  obtain ⟨s, q, h1⟩ := ha
  obtain ⟨t, d, r, h2⟩ := hb
  refine ⟨s != t, FP.Core.b64.qmin, ?_⟩
  have e := FP.Core.val64_dmul a b
  rw [h1, h2] at e
  refine e.trans ?_
  show FP.Core.round FP.Core.b64 (.fin (s != t) (0 * d) (q + r)) = _
  rw [Nat.zero_mul]
  rfl
theorem zero_div {a b : UInt64} (ha : FP.Core.DZero a) (hb : FP.Core.DFin b) (hz : ¬ FP.Core.DZero b) : FP.Core.DZero (FP.ddiv a b) := by
  obtain ⟨s, q, h1⟩ := ha
  obtain ⟨t, d, r, h2⟩ := hb
  have hd : ¬ d = 0 := fun z => hz ⟨t, r, by rw [h2, z]⟩
  refine ⟨s != t, FP.Core.b64.qmin, ?_⟩
  have e := FP.Core.val64_ddiv a b
  rw [h1, h2] at e
  refine e.trans ?_
  show (if d = 0 then _ else FP.Core.roundRatio FP.Core.b64 (s != t) 0 d (q - r)) = _
  rw [if_neg hd]
  rfl
theorem near_zero {a : UInt64} (h : FP.Core.DZero a) : f_X4_nearest a = 0 := by
  have h2 := (FP.Core.zero_bits2 a).mp h
  have h3 := a.toNat_lt
  have h4 : a = 0 ∨ a = 9223372036854775808 := by
    have h5 : a.toNat = 0 ∨ a.toNat = 9223372036854775808 := by omega
    rcases h5 with q | q
    · exact Or.inl (UInt64.toNat_inj.mp (q.trans rfl))
    · exact Or.inr (UInt64.toNat_inj.mp (q.trans rfl))
  rcases h4 with rfl | rfl <;> decide +kernel
/-- what doesn't count: base and score 0 -/
theorem base_0 {C : Nat → Nat → Int32} {n d : Nat} (h : C (80 + n) 5 = 0) : f_X1_baseBy C n d = 0 := by
  unfold f_X1_baseBy
  rw [if_pos h]
theorem score_0 {C : Nat → Nat → Int32} {n d : Nat} (h : C (80 + n) 5 = 0) : f_X1_scoreBy C n d = 0 := by
  have z : FP.Core.DZero (FP.i2d 0) := by
    rw [FP.Core.zero_bits2]
    decide +kernel
  unfold f_X1_scoreBy
  rw [base_0 h, near_zero (zero_div (zero_mul z finV) fin_10 nz_10)]
  rfl
/-! the same but for the two rankings -/
def rr (C C1 : Nat → Nat → Int32) : Prop := ∀ r, ¬ r = 3 → ¬ r = 4 → C1 r = C r
theorem rr_rf (C : Nat → Nat → Int32) : rr C C := fun _ _ _ => rfl
theorem rr_tr {C C1 C2 : Nat → Nat → Int32} (h : rr C C1) (h2 : rr C1 C2) : rr C C2 := fun r a b => (h2 r a b).trans (h r a b)
theorem rr_co {C C1 : Nat → Nat → Int32} (h : rr C C1) : co C C1 := fun r _ a b _ => h r a b
theorem rr_fill (C : Nat → Nat → Int32) (d : Nat) : rr C (g_X4_fillRanking C d) := fl_rows C d 12
section RR
variable {C C1 : Nat → Nat → Int32} {k d n v : Nat}
theorem cg_tm (h : rr C C1) : f_X3_trimmedMean C1 v = f_X3_trimmedMean C v := by
  unfold f_X3_trimmedMean
  rw [h (300 + 3 * v) (by omega) (by omega)]
theorem cg_mid (h : rr C C1) : f_X3_middle C1 v = f_X3_middle C v := by
  unfold f_X3_middle
  rw [h (300 + 3 * v) (by omega) (by omega)]
theorem cg_val (h : rr C C1) {a b : Int32} : f_X0_valueOf C1 d a b = f_X0_valueOf C d a b := by
  unfold f_X0_valueOf
  rw [h (33 + d) (by omega) (by omega)]
theorem cg_base (h : rr C C1) : f_X1_baseBy C1 n d = f_X1_baseBy C n d := by
  unfold f_X1_baseBy
  rw [h (80 + n) (by omega) (by omega), cg_mid h, cg_val h]
theorem cg_score (h : rr C C1) : f_X1_scoreBy C1 n d = f_X1_scoreBy C n d := by
  unfold f_X1_scoreBy
  rw [cg_base h, cg_tm h]
theorem cg_es (h : rr C C1) : f_X2_elementScoresBy C1 k d = f_X2_elementScoresBy C k d := by
  have e : ∀ i, it14_X2_elementScoresBy C1 k d i = it14_X2_elementScoresBy C k d i := by
    intro i
    induction i with
    | zero => rfl
    | succ i ih => rw [it14_X2_elementScoresBy, it14_X2_elementScoresBy, ih, h (52 + k) (by omega) (by omega), cg_score h]
  exact e 12
theorem cg_cs (h : rr C C1) : f_X2_componentScores C1 k = f_X2_componentScores C k := by
  have e : ∀ i, it13_X2_componentScores C1 k i = it13_X2_componentScores C k i := by
    intro i
    induction i with
    | zero => rfl
    | succ i ih =>
      rw [it13_X2_componentScores, it13_X2_componentScores, ih, h (64 + k) (by omega) (by omega)]
      unfold f_X2_componentScore
      rw [cg_tm h]
  exact e 3
theorem cg_fine (h : rr C C1) : f_X2_fine C1 k = f_X2_fine C k := by
  unfold f_X2_fine
  rw [h (40 + k) (by omega) (by omega)]
theorem cg_tot (h : rr C C1) {x : Int32} : f_X2_totalOf C1 k x = f_X2_totalOf C k x := by
  unfold f_X2_totalOf
  rw [cg_cs h, cg_fine h]
end RR
/-- a programme's total -/
def tot (C : Nat → Nat → Int32) (d k : Nat) : Int32 := f_X2_totalOf C k (f_X2_elementScoresBy C k d)
def esc (C : Nat → Nat → Int32) (d k : Nat) : Int32 := f_X2_elementScoresBy C k d
theorem cg_total {C C1 : Nat → Nat → Int32} (h : rr C C1) (d k : Nat) : tot C1 d k = tot C d k := by
  unfold tot
  rw [cg_es h, cg_tot h]
theorem tot_0 (C : Nat → Nat → Int32) (d k : Nat) : 0 ≤ tot C d k := by
  unfold tot f_X2_totalOf
  split
  · rename_i h
    rw [Int32.le_iff_toInt_le]
    rw [Int32.lt_iff_toInt_lt] at h
    omega
  · exact Int32.le_refl _
theorem tot_n (C : Nat → Nat → Int32) (d k : Nat) : ¬ tot C d k = (-1) := fun z => by
  have h := tot_0 C d k
  rw [z] at h
  exact absurd h (by decide)
section ASK
variable {S en g : Nat} {cnt : Nat → Nat} {C : Nat → Nat → Int32}
theorem V_el (V : LV S cnt en g C) {k e d : Nat} (hk : k < S) (he : e < cnt k) (hd : d < 3) : t_X4_element C (nI k) (nI e) (nI d) 0 = 0 ∧ f_X4_element C (nI k) (nI e) (nI d) 0 = C (80 + (12 * k + e)) 0 ∧ t_X4_element C (nI k) (nI e) (nI d) 6 = 0 ∧ f_X4_element C (nI k) (nI e) (nI d) 6 = f_X1_baseBy C (12 * k + e) d ∧ t_X4_element C (nI k) (nI e) (nI d) 7 = 0 ∧ f_X4_element C (nI k) (nI e) (nI d) 7 = f_X1_scoreBy C (12 * k + e) d := by
  have s12 := V.s12
  have n12 := V.n12 k hk
  have hp := V.prog hk
  have hel := V.elem hk he
  have hed := V.ed hd
  have i0 : f_X4_isIn 0 0 7 = 1 := by decide
  have i6 : f_X4_isIn 6 0 7 = 1 := by decide
  have i7 : f_X4_isIn 7 0 7 = 1 := by decide
  have n : ∀ {a b : Nat}, a < 2 ^ 31 → b < 2 ^ 31 → ¬ a = b → ¬ nI a = nI b := fun ha hb h z => h ((nI_eq ha hb).mp z)
  have k0 : (nI k).toNatClampNeg = k := nI_clamp (by omega)
  have e0 : (nI e).toNatClampNeg = e := nI_clamp (by omega)
  have d0 : (nI d).toNatClampNeg = d := nI_clamp (by omega)
  refine ⟨?_, ?_, ?_, ?_, ?_, ?_⟩
  · unfold t_X4_element
    rw [hp, if_neg one_n, k0, hel, if_neg one_n, hed, if_neg one_n, i0, if_neg one_n, if_pos rfl]
  · unfold f_X4_element
    rw [hp, if_neg one_n, k0, hel, if_neg one_n, hed, if_neg one_n, i0, if_neg one_n, if_pos rfl, e0]
  · unfold t_X4_element
    rw [hp, if_neg one_n, k0, hel, if_neg one_n, hed, if_neg one_n, i6, if_neg one_n, if_neg (by decide), if_neg (by decide), if_neg (by decide), if_neg (by decide), if_neg (by decide), if_neg (by decide), if_pos rfl]
  · unfold f_X4_element
    rw [hp, if_neg one_n, k0, hel, if_neg one_n, hed, if_neg one_n, i6, if_neg one_n, if_neg (by decide), if_neg (by decide), if_neg (by decide), if_neg (by decide), if_neg (by decide), if_neg (by decide), if_pos rfl, e0, d0]
  · unfold t_X4_element
    rw [hp, if_neg one_n, k0, hel, if_neg one_n, hed, if_neg one_n, i7, if_neg one_n, if_neg (by decide), if_neg (by decide), if_neg (by decide), if_neg (by decide), if_neg (by decide), if_neg (by decide), if_neg (by decide)]
  · unfold f_X4_element
    rw [hp, if_neg one_n, k0, hel, if_neg one_n, hed, if_neg one_n, i7, if_neg one_n, if_neg (by decide), if_neg (by decide), if_neg (by decide), if_neg (by decide), if_neg (by decide), if_neg (by decide), if_neg (by decide), e0, d0]
theorem V_pr (V : LV S cnt en g C) {k d : Nat} (hk : k < S) (hd : d < 3) : (t_X4_programme C (nI k) (nI d) 0 = 0 ∧ f_X4_programme C (nI k) (nI d) 0 = esc C d k ∧ g_X4_programme C (nI k) (nI d) 0 = C) ∧ (t_X4_programme C (nI k) (nI d) 1 = 0 ∧ f_X4_programme C (nI k) (nI d) 1 = f_X2_componentScores C k ∧ g_X4_programme C (nI k) (nI d) 1 = C) ∧ (t_X4_programme C (nI k) (nI d) 2 = 0 ∧ f_X4_programme C (nI k) (nI d) 2 = f_X2_fine C k ∧ g_X4_programme C (nI k) (nI d) 2 = C) ∧ (t_X4_programme C (nI k) (nI d) 3 = 0 ∧ f_X4_programme C (nI k) (nI d) 3 = tot C d k ∧ g_X4_programme C (nI k) (nI d) 3 = C) ∧ (t_X4_programme C (nI k) (nI d) 4 = 0 ∧ f_X4_programme C (nI k) (nI d) 4 = C (40 + k) 7 ∧ g_X4_programme C (nI k) (nI d) 4 = C) ∧ t_X4_programme C (nI k) (nI d) 5 = 0 ∧ f_X4_programme C (nI k) (nI d) 5 = f_X4_rankOf (g_X4_fillRanking C d) (nI k) ∧ g_X4_programme C (nI k) (nI d) 5 = g_X4_fillRanking C d := by
  have s12 := V.s12
  have hp := V.prog hk
  have hed := V.ed hd
  have k0 : (nI k).toNatClampNeg = k := nI_clamp (by omega)
  have d0 : (nI d).toNatClampNeg = d := nI_clamp (by omega)
  have T : ∀ x, f_X4_isIn x 0 5 = 1 → t_X4_programme C (nI k) (nI d) x = 0 := fun x hx => by
    unfold t_X4_programme
    rw [hp, if_neg one_n, hed, if_neg one_n, hx, if_neg one_n]
    simp only [ite_self]
  have F : ∀ x, f_X4_isIn x 0 5 = 1 → f_X4_programme C (nI k) (nI d) x = if x = 0 then esc C d k else if x = 1 then f_X2_componentScores C k else if x = 2 then f_X2_fine C k else if x = 3 then tot C d k else if x = 4 then C (40 + k) 7 else f_X4_rankOf (g_X4_fillRanking C d) (nI k) := fun x hx => by
    unfold f_X4_programme
    rw [hp, if_neg one_n, hed, if_neg one_n, hx, if_neg one_n, k0, d0]
    rfl
  have G : ∀ x, f_X4_isIn x 0 5 = 1 → g_X4_programme C (nI k) (nI d) x = if x = 0 then C else if x = 1 then C else if x = 2 then C else if x = 3 then C else if x = 4 then C else g_X4_fillRanking C d := fun x hx => by
    unfold g_X4_programme
    rw [hp, if_neg one_n, hed, if_neg one_n, hx, if_neg one_n, d0]
  have n1 : ¬ (1 : Int32) = 0 := by decide
  have n2 : ¬ (2 : Int32) = 0 ∧ ¬ (2 : Int32) = 1 := by decide
  have n3 : ¬ (3 : Int32) = 0 ∧ ¬ (3 : Int32) = 1 ∧ ¬ (3 : Int32) = 2 := by decide
  have n4 : ¬ (4 : Int32) = 0 ∧ ¬ (4 : Int32) = 1 ∧ ¬ (4 : Int32) = 2 ∧ ¬ (4 : Int32) = 3 := by decide
  have n5 : ¬ (5 : Int32) = 0 ∧ ¬ (5 : Int32) = 1 ∧ ¬ (5 : Int32) = 2 ∧ ¬ (5 : Int32) = 3 ∧ ¬ (5 : Int32) = 4 := by decide
  have i0 : f_X4_isIn 0 0 5 = 1 := by decide
  have i1 : f_X4_isIn 1 0 5 = 1 := by decide
  have i2 : f_X4_isIn 2 0 5 = 1 := by decide
  have i3 : f_X4_isIn 3 0 5 = 1 := by decide
  have i4 : f_X4_isIn 4 0 5 = 1 := by decide
  have i5 : f_X4_isIn 5 0 5 = 1 := by decide
  refine ⟨⟨T 0 i0, ?_, ?_⟩, ⟨T 1 i1, ?_, ?_⟩, ⟨T 2 i2, ?_, ?_⟩, ⟨T 3 i3, ?_, ?_⟩, ⟨T 4 i4, ?_, ?_⟩, T 5 i5, ?_, ?_⟩
  · rw [F 0 i0, if_pos rfl]
  · rw [G 0 i0, if_pos rfl]
  · rw [F 1 i1, if_neg n1, if_pos rfl]
  · rw [G 1 i1, if_neg n1, if_pos rfl]
  · rw [F 2 i2, if_neg n2.1, if_neg n2.2, if_pos rfl]
  · rw [G 2 i2, if_neg n2.1, if_neg n2.2, if_pos rfl]
  · rw [F 3 i3, if_neg n3.1, if_neg n3.2.1, if_neg n3.2.2, if_pos rfl]
  · rw [G 3 i3, if_neg n3.1, if_neg n3.2.1, if_neg n3.2.2, if_pos rfl]
  · rw [F 4 i4, if_neg n4.1, if_neg n4.2.1, if_neg n4.2.2.1, if_neg n4.2.2.2, if_pos rfl]
  · rw [G 4 i4, if_neg n4.1, if_neg n4.2.1, if_neg n4.2.2.1, if_neg n4.2.2.2, if_pos rfl]
  · rw [F 5 i5, if_neg n5.1, if_neg n5.2.1, if_neg n5.2.2.1, if_neg n5.2.2.2.1, if_neg n5.2.2.2.2]
  · rw [G 5 i5, if_neg n5.1, if_neg n5.2.1, if_neg n5.2.2.1, if_neg n5.2.2.2.1, if_neg n5.2.2.2.2]
theorem V_st (V : LV S cnt en g C) {d p : Nat} (hd : d < 3) (hp : p < 12) : t_X4_starts C (nI d) (nI p) = 0 ∧ f_X4_starts C (nI d) (nI p) = (if f_X4_howManyRanked (g_X4_fillRanking C d) ≤ nI p then f_X4_unrankedSkater (g_X4_fillRanking C d) (nI p - f_X4_howManyRanked (g_X4_fillRanking C d)) else f_X4_skaterOfRank (g_X4_fillRanking C d) (f_X4_howManyRanked (g_X4_fillRanking C d) - 1 - nI p)) ∧ g_X4_starts C (nI d) (nI p) = g_X4_fillRanking C d := by
  have hed := V.ed hd
  have d0 : (nI d).toNatClampNeg = d := nI_clamp (by omega)
  have i0 : f_X4_isIn (nI p) 0 11 = 1 := isIn_n (m := 11) (by omega) (by decide)
  refine ⟨?_, ?_, ?_⟩
  · unfold t_X4_starts
    rw [hed, if_neg one_n, i0, if_neg one_n, ite_self]
  · unfold f_X4_starts
    rw [hed, if_neg one_n, i0, if_neg one_n, d0]
  · unfold g_X4_starts
    rw [hed, if_neg one_n, i0, if_neg one_n, d0]
/-! the rankings -/
def rT (C : Nat → Nat → Int32) (d en j : Nat) : Int32 := if j < en then tot C d j else (-1)
def rE (C : Nat → Nat → Int32) (d en j : Nat) : Int32 := if j < en then esc C d j else 0
theorem V_fillI (V : LV S cnt en g C) {d : Nat} : ∀ i, i ≤ 12 → ∀ j, j < i → it2_X4_fillRanking C d i 3 j = rT C d en j ∧ it2_X4_fillRanking C d i 4 j = rE C d en j := by
  intro i
  induction i with
  | zero => intro _ j hj; exact absurd hj (Nat.not_lt_zero _)
  | succ i ih =>
    intro hi j hj
    have hD : rr C (it2_X4_fillRanking C d i) := fl_rows C d i
    have VD : LV S cnt en g (it2_X4_fillRanking C d i) := LV_co (rr_co hD) V
    have hI := ih (by omega)
    rw [it2_X4_fillRanking]
    generalize it2_X4_fillRanking C d i = D at hD VD hI ⊢
    have heg := V.eg
    have a1 : ∀ (x y : Int32), x = rT C d en i → y = rE C d en i → up2 (up2 D 3 i x) 4 i y 3 j = rT C d en j ∧ up2 (up2 D 3 i x) 4 i y 4 j = rE C d en j := by
      intro x y hx hy
      by_cases q : j = i
      · subst q
        simp [up2, hx, hy]
      · simp [up2, q]
        exact hI j (by omega)
    have a2 : ∀ (x y : Int32), x = rT C d en i → y = rE C d en i → up2 (up2 D 4 i y) 3 i x 3 j = rT C d en j ∧ up2 (up2 D 4 i y) 3 i x 4 j = rE C d en j := by
      intro x y hx hy
      by_cases q : j = i
      · subst q
        simp [up2, hx, hy]
      · simp [up2, q]
        exact hI j (by omega)
    by_cases hp : S ≤ i
    · rw [if_pos (VD.prog0 hp (by omega))]
      exact a1 _ _ (by unfold rT; rw [if_neg (by omega)]) (by unfold rE; rw [if_neg (by omega)])
    · rw [if_neg (by rw [VD.prog (by omega)]; exact one_n), nI_clamp (by omega)]
      by_cases hz : i < en
      · rw [if_neg (by rw [VD.f3 i (by omega), if_pos hz]; exact one_n)]
        have e1 : f_X2_elementScoresBy D i d = esc C d i := cg_es hD
        refine a2 _ _ ?_ (by unfold rE; rw [if_pos hz, e1])
        rw [up2_at, e1, cg_tot (C := C) (C1 := up2 D 4 i (esc C d i)) (fun r h3 h4 => by rw [up2_ne _ _ _ h4]; exact hD r h3 h4)]
        unfold rT
        rw [if_pos hz]
        rfl
      · rw [if_pos (by rw [VD.f3 i (by omega), if_neg hz])]
        exact a1 _ _ (by unfold rT; rw [if_neg hz]) (by unfold rE; rw [if_neg hz])
end ASK
/-- the two rankings hold these -/
def RKF (F : Nat → Nat → Int32) (en : Nat) (T E : Nat → Int32) : Prop := en ≤ 12 ∧ (∀ j, ¬ T j = (-1)) ∧ ∀ j, j < 12 → F 3 j = (if j < en then T j else (-1)) ∧ F 4 j = (if j < en then E j else 0)
theorem V_fill {S en g : Nat} {cnt : Nat → Nat} {C0 C : Nat → Nat → Int32} (V : LV S cnt en g C) (h : rr C0 C) (d : Nat) : RKF (g_X4_fillRanking C d) en (tot C0 d) (esc C0 d) := by
  have h1 := V.eg
  have h2 := V.s12
  refine ⟨by omega, tot_n C0 d, fun j hj => ?_⟩
  obtain ⟨a, b⟩ := V_fillI V (d := d) 12 (Nat.le_refl _) j hj
  refine ⟨a.trans ?_, b.trans ?_⟩
  · unfold rT
    rw [cg_total h]
  · unfold rE esc
    rw [cg_es h]
section RKS
variable {F : Nat → Nat → Int32} {en : Nat} {T E : Nat → Int32}
theorem RKF.ranked (R : RKF F en T E) {a : Nat} (ha : a < 12) : f_X4_isRanked F (nI a) = if a < en then 1 else 0 := by
  have p : f_X4_isRankPlace F (nI a) = 1 := by
    unfold f_X4_isRankPlace
    rw [if_neg (nI_pos (by omega)), if_neg (show ¬ 12 ≤ nI a from nI_ge (b := 12) ha (by decide))]
  unfold f_X4_isRanked
  rw [p, if_neg one_n, nI_clamp (by omega), (R.2.2 a ha).1]
  by_cases h : a < en
  · rw [if_pos h, if_pos h, if_neg (R.2.1 a)]
  · rw [if_neg h, if_neg h, if_pos rfl]
/-- ahead -/
def aP (T E : Nat → Int32) (a b : Nat) : Prop := (T b).toInt < (T a).toInt ∨ ((T a).toInt = (T b).toInt ∧ ((E b).toInt < (E a).toInt ∨ ((E a).toInt = (E b).toInt ∧ a < b)))
def aB (T E : Nat → Int32) (a b : Nat) : Bool := decide ((T b).toInt < (T a).toInt ∨ ((T a).toInt = (T b).toInt ∧ ((E b).toInt < (E a).toInt ∨ ((E a).toInt = (E b).toInt ∧ a < b))))
theorem aB_t {a b : Nat} : aB T E a b = true ↔ aP T E a b := decide_eq_true_iff
theorem aP_irr (a : Nat) : ¬ aP T E a a := by
  unfold aP
  omega
theorem aP_tr {a b c : Nat} (h1 : aP T E a b) (h2 : aP T E b c) : aP T E a c := by
  unfold aP at *
  omega
theorem aP_tot (a b : Nat) : aP T E a b ∨ aP T E b a ∨ a = b := by
  unfold aP
  omega
theorem RKF.ahead (R : RKF F en T E) {a b : Nat} (ha : a < en) (hb : b < en) : (aP T E a b → f_X4_isAhead F (nI a) (nI b) = 1) ∧ (¬ aP T E a b → f_X4_isAhead F (nI a) (nI b) = 0) := by
  have h12 := R.1
  have e3 : F 3 a = T a := (R.2.2 a (by omega)).1.trans (if_pos ha)
  have e4 : F 4 a = E a := (R.2.2 a (by omega)).2.trans (if_pos ha)
  have f3 : F 3 b = T b := (R.2.2 b (by omega)).1.trans (if_pos hb)
  have f4 : F 4 b = E b := (R.2.2 b (by omega)).2.trans (if_pos hb)
  unfold f_X4_isAhead aP
  rw [R.ranked (by omega), R.ranked (by omega), if_pos ha, if_pos hb, if_neg one_n, if_neg one_n, nI_clamp (by omega), nI_clamp (by omega), e3, e4, f3, f4]
  generalize T a = ta
  generalize T b = tb
  generalize E a = ea
  generalize E b = eb
  by_cases h1 : ta = tb
  · subst h1
    rw [if_pos rfl]
    by_cases h2 : ea = eb
    · subst h2
      rw [if_pos rfl]
      by_cases h3 : b ≤ a
      · rw [if_pos ((nI_leI (by omega) (by omega)).mpr h3)]
        exact ⟨fun z => by omega, fun _ => rfl⟩
      · rw [if_neg (fun z => h3 ((nI_leI (by omega) (by omega)).mp z))]
        exact ⟨fun _ => rfl, fun z => absurd (Or.inr ⟨rfl, Or.inr ⟨rfl, by omega⟩⟩) z⟩
    · rw [if_neg h2]
      have h2' : ea.toInt ≠ eb.toInt := fun z => h2 (Int32.toInt_inj.mp z)
      by_cases h3 : ea ≤ eb
      · rw [if_pos h3]
        rw [Int32.le_iff_toInt_le] at h3
        exact ⟨fun z => by omega, fun _ => rfl⟩
      · rw [if_neg h3]
        rw [Int32.le_iff_toInt_le] at h3
        exact ⟨fun _ => rfl, fun z => absurd (Or.inr ⟨rfl, Or.inl (by omega)⟩) z⟩
  · rw [if_neg h1]
    have h1' : ta.toInt ≠ tb.toInt := fun z => h1 (Int32.toInt_inj.mp z)
    by_cases h3 : ta ≤ tb
    · rw [if_pos h3]
      rw [Int32.le_iff_toInt_le] at h3
      exact ⟨fun z => by omega, fun _ => rfl⟩
    · rw [if_neg h3]
      rw [Int32.le_iff_toInt_le] at h3
      exact ⟨fun _ => rfl, fun z => absurd (Or.inl (by omega)) z⟩
theorem RKF.ahead0 (R : RKF F en T E) {a : Nat} {y : Int32} (ha : a < 12) (h : ¬ a < en) : f_X4_isAhead F (nI a) y = 0 := by
  unfold f_X4_isAhead
  rw [R.ranked ha, if_neg h, if_pos rfl]
/-- how many are ahead -/
def rkN (T E : Nat → Int32) (en a : Nat) : Nat → Nat
  | 0 => 0
  | n + 1 => if n < en then (if aB T E n a = true then rkN T E en a n + 1 else rkN T E en a n) else rkN T E en a n
theorem RKF.rkI (R : RKF F en T E) {s : Nat} (hs : s < en) : ∀ n, n ≤ 12 → it14_X4_rankOf F (nI s) n = nI (rkN T E en s n) := by
  have h12 := R.1
  intro n
  induction n with
  | zero => intro _; rfl
  | succ n ih =>
    intro hn
    rw [it14_X4_rankOf, rkN, ih (by omega)]
    by_cases h : n < en
    · rw [if_pos h]
      by_cases w : aP T E n s
      · rw [(R.ahead h hs).1 w, if_neg one_n, if_pos (aB_t.mpr w), nI_1]
      · rw [(R.ahead h hs).2 w, if_pos rfl, if_neg (fun z => w (aB_t.mp z))]
    · rw [R.ahead0 (by omega) h, if_pos rfl, if_neg h]
theorem RKF.rank (R : RKF F en T E) {s : Nat} (hs : s < en) : f_X4_rankOf F (nI s) = nI (rkN T E en s 12) := by
  have h12 := R.1
  unfold f_X4_rankOf
  rw [R.ranked (by omega), if_pos hs, if_neg one_n, R.rkI hs 12 (Nat.le_refl _)]
theorem RKF.rank0 (R : RKF F en T E) {s : Nat} (h : s < 12) (hs : en ≤ s) : f_X4_rankOf F (nI s) = (-1) := by
  unfold f_X4_rankOf
  rw [R.ranked h, if_neg (show ¬ s < en by omega), if_pos rfl]
theorem rkN_le (en s : Nat) (hs : s < en) : ∀ n, n ≤ 12 → rkN T E en s n + (if s < n then 1 else 0) ≤ n ∧ rkN T E en s n + (if s < n then 1 else 0) ≤ en := by
  intro n
  induction n with
  | zero => intro _; exact ⟨by rw [rkN, if_neg (Nat.not_lt_zero _)]; exact Nat.le_refl _, by rw [rkN, if_neg (Nat.not_lt_zero _)]; exact Nat.zero_le _⟩
  | succ n ih =>
    intro hn
    obtain ⟨h1, h2⟩ := ih (by omega)
    rw [rkN]
    by_cases h : n < en
    · rw [if_pos h]
      by_cases q : n = s
      · subst q
        rw [if_neg (fun z => aP_irr n (aB_t.mp z)), if_pos (Nat.lt_succ_self _)]
        rw [if_neg (Nat.lt_irrefl _)] at h1 h2
        exact ⟨by omega, by omega⟩
      · have e1 : (if s < n + 1 then 1 else 0) = if s < n then 1 else 0 := by
          by_cases g : s < n
          · rw [if_pos g, if_pos (by omega)]
          · rw [if_neg g, if_neg (by omega)]
        rw [e1]
        split
        · exact ⟨by omega, by omega⟩
        · exact ⟨by omega, h2⟩
    · rw [if_neg h, if_pos (show s < n + 1 by omega)]
      rw [if_pos (show s < n by omega)] at h1 h2
      exact ⟨by omega, h2⟩
theorem rk_lt (en a b : Nat) (ha : a < en) (hb : b < en) (h : aP T E a b) : ∀ n, rkN T E en a n + (if a < n then 1 else 0) ≤ rkN T E en b n := by
  intro n
  induction n with
  | zero => rw [rkN, rkN, if_neg (Nat.not_lt_zero _)]; exact Nat.le_refl _
  | succ n ih =>
    rw [rkN, rkN]
    by_cases q : n = a
    · subst q
      rw [if_neg (Nat.lt_irrefl _)] at ih
      rw [if_pos ha, if_pos ha, if_neg (fun z => aP_irr n (aB_t.mp z)), if_pos (aB_t.mpr h), if_pos (Nat.lt_succ_self _)]
      omega
    · have e1 : (if a < n + 1 then 1 else 0) = if a < n then 1 else 0 := by
        by_cases g : a < n
        · rw [if_pos g, if_pos (by omega)]
        · rw [if_neg g, if_neg (by omega)]
      rw [e1]
      by_cases g : n < en
      · rw [if_pos g, if_pos g]
        by_cases w : aP T E n a
        · rw [if_pos (aB_t.mpr w), if_pos (aB_t.mpr (aP_tr w h))]
          omega
        · rw [if_neg (fun z => w (aB_t.mp z))]
          by_cases w2 : aB T E n b = true
          · rw [if_pos w2]
            omega
          · rw [if_neg w2]
            exact ih
      · rw [if_neg g, if_neg g]
        exact ih
/-- ranks compare as the skaters do -/
theorem rk_cmp (en a b : Nat) (h12 : en ≤ 12) (ha : a < en) (hb : b < en) (hab : ¬ a = b) : rkN T E en a 12 < rkN T E en b 12 ↔ aP T E a b := by
  constructor
  · intro h
    rcases aP_tot (T := T) (E := E) a b with q | q | q
    · exact q
    · have := rk_lt en b a hb ha q 12
      rw [if_pos (show b < 12 by omega)] at this
      omega
    · exact absurd q hab
  · intro h
    have := rk_lt en a b ha hb h 12
    rw [if_pos (show a < 12 by omega)] at this
    omega
theorem rk_inj (en a b : Nat) (h12 : en ≤ 12) (ha : a < en) (hb : b < en) (h : rkN T E en a 12 = rkN T E en b 12) : a = b := by
  rcases aP_tot (T := T) (E := E) a b with q | q | q
  · have := rk_lt en a b ha hb q 12
    rw [if_pos (show a < 12 by omega)] at this
    omega
  · have := rk_lt en b a hb ha q 12
    rw [if_pos (show b < 12 by omega)] at this
    omega
  · exact q
theorem rk_up (en s : Nat) (h12 : en ≤ 12) (hs : s < en) : rkN T E en s 12 < en := by
  have := (rkN_le (T := T) (E := E) en s hs 12 (Nat.le_refl _)).2
  rw [if_pos (show s < 12 by omega)] at this
  omega
theorem RKF.many (R : RKF F en T E) : f_X4_howManyRanked F = nI en := by
  have h12 := R.1
  have e : ∀ n, n ≤ 12 → it4_X4_howManyRanked F n = nI (min n en) := by
    intro n
    induction n with
    | zero => intro _; rw [Nat.zero_min]; rfl
    | succ n ih =>
      intro hn
      rw [it4_X4_howManyRanked, ih (by omega), R.ranked (by omega)]
      by_cases h : n < en
      · rw [if_pos h, if_neg one_n, nI_1, show min n en + 1 = min (n + 1) en by omega]
      · rw [if_neg h, if_pos rfl, show min n en = min (n + 1) en by omega]
  unfold f_X4_howManyRanked
  rw [e 12 (Nat.le_refl _), show min 12 en = en by omega]
/-- the skater of a rank -/
theorem RKF.ofRank (R : RKF F en T E) {s : Nat} (hs : s < en) : f_X4_skaterOfRank F (nI (rkN T E en s 12)) = nI s := by
  have h12 := R.1
  have e : ∀ k i, i + k = 12 → i ≤ s → fr2_X4_skaterOfRank F (nI (rkN T E en s 12)) k i = nI s := by
    intro k
    induction k with
    | zero => intro i h1 h2; omega
    | succ k ih =>
      intro i h1 h2
      rw [fr2_X4_skaterOfRank, R.ranked (by omega), if_pos (show i < en by omega), if_neg one_n, R.rank (show i < en by omega)]
      by_cases q : i = s
      · subst q
        rw [if_pos rfl]
      · have u1 := rk_up (T := T) (E := E) en i h12 (by omega)
        have u2 := rk_up (T := T) (E := E) en s h12 hs
        rw [if_neg (fun z => q (rk_inj en i s h12 (by omega) hs ((nI_eq (by omega) (by omega)).mp z)))]
        exact ih (i + 1) (by omega) (by omega)
  exact e 12 0 rfl (Nat.zero_le _)
/-- among those not ranked: the first is number en; there is no seventh -/
theorem it4_u {S g : Nat} {cnt : Nat → Nat} {p0 : Int32} (V : LV S cnt en g F) (R : RKF F en T E) : ∀ i, i ≤ en → it4_X4_unrankedSkater F p0 i = 0 := by
  have h12 := R.1
  have heg := V.eg
  intro i
  induction i with
  | zero => intro _; rfl
  | succ i ih =>
    intro hi
    rw [it4_X4_unrankedSkater, V.prog (by omega), if_neg one_n, R.ranked (by omega), if_pos (show i < en by omega), if_neg one_n]
    exact ih (by omega)
theorem RKF.first (R : RKF F en T E) {S g : Nat} {cnt : Nat → Nat} (V : LV S cnt en g F) (h : en < S) : f_X4_unrankedSkater F (nI 0) = nI en := by
  have h12 := R.1
  have s12 := V.s12
  have e : ∀ k i, i + k = 12 → i ≤ en → fr4_X4_unrankedSkater F (nI 0) k i = nI en := by
    intro k
    induction k with
    | zero => intro i h1 h2; omega
    | succ k ih =>
      intro i h1 h2
      rw [fr4_X4_unrankedSkater, V.prog (by omega), if_neg one_n, R.ranked (by omega), it4_u V R i h2]
      by_cases q : i = en
      · subst q
        rw [if_neg (Nat.lt_irrefl _), if_pos rfl, if_pos (show (0 : Int32) = nI 0 from rfl)]
      · rw [if_pos (show i < en by omega), if_neg one_n]
        exact ih (i + 1) (by omega) (by omega)
  exact e 12 0 rfl (Nat.zero_le _)
theorem RKF.none (R : RKF F en T E) {S g q : Nat} {cnt : Nat → Nat} (V : LV S cnt en g F) (h : S < en + q) (hq : q < 12) : f_X4_unrankedSkater F (nI q) = (-1) := by
  have h12 := R.1
  have heg := V.eg
  have s12 := V.s12
  have hu : ∀ i, i ≤ en → it4_X4_unrankedSkater F (nI q) i = 0 := it4_u V R
  have hv : ∀ i, en ≤ i → i ≤ S → it4_X4_unrankedSkater F (nI q) i = nI (i - en) := by
    intro i
    induction i with
    | zero => intro h1 h2; rw [hu 0 (Nat.zero_le _), show 0 - en = 0 by omega]; rfl
    | succ i ih =>
      intro h1 h2
      by_cases e : i + 1 = en
      · rw [hu (i + 1) (by omega), show i + 1 - en = 0 by omega]
        rfl
      · rw [it4_X4_unrankedSkater, V.prog (by omega), if_neg one_n, R.ranked (by omega), if_neg (show ¬ i < en by omega), if_pos rfl, ih (by omega) (by omega), if_neg (fun z => by
          have := (nI_eq (by omega) (by omega)).mp z
          omega), nI_1, show i - en + 1 = i + 1 - en by omega]
  have e : ∀ k i, i + k = 12 → fr4_X4_unrankedSkater F (nI q) k i = (-1) := by
    intro k
    induction k with
    | zero => intro i _; rfl
    | succ k ih =>
      intro i h1
      rw [fr4_X4_unrankedSkater]
      by_cases hp : i < S
      · rw [V.prog hp, if_neg one_n, R.ranked (by omega)]
        by_cases hr : i < en
        · rw [if_pos hr, if_neg one_n]
          exact ih (i + 1) (by omega)
        · rw [if_neg hr, if_pos rfl, hv i (by omega) (by omega), if_neg (fun z => by
            have := (nI_eq (by omega) (by omega)).mp z
            omega)]
          exact ih (i + 1) (by omega)
      · rw [V.prog0 (by omega) (by omega), if_pos rfl]
        exact ih (i + 1) (by omega)
  exact e 12 0 rfl
end RKS
