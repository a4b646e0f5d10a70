/-! THE BRIDGE: bases and scores -/
theorem c08 : bd 4605380978949069210 1 := ⟨(FP.Core.fin_bits _).mpr (by decide), by decide +kernel⟩
theorem c11 : bd 4607632778762754458 2 := ⟨(FP.Core.fin_bits _).mpr (by decide), by decide +kernel⟩
theorem c25 : bd 4627730092099895296 25 := ⟨(FP.Core.fin_bits _).mpr (by decide), by decide +kernel⟩
theorem c100 : bd 4636737291354636288 100 := ⟨(FP.Core.fin_bits _).mpr (by decide), by decide +kernel⟩
theorem c10 : FP.Core.DFin 4621819117588971520 ∧ FP.Core.one64 ≤ FP.Core.zmag FP.Core.b64 (FP.Core.val64 4621819117588971520) := ⟨(FP.Core.fin_bits _).mpr (by decide), by decide +kernel⟩
theorem bd_0 : bd FP.dconst0 0 := ⟨(FP.Core.fin_bits _).mpr (by decide), by decide +kernel⟩
theorem i99 : (99 : Int32).toInt = 99 := by decide
theorem im99 : (-99 : Int32).toInt = -99 := by decide
theorem nI1' (n : Nat) : nI n + 1 = nI (n + 1) := nI_1 n
theorem rT_bd (t : Nat → Int32) (h : ∀ i, i < 7 → t i = (-99) ∨ (t i).toInt.natAbs ≤ 40) : ∀ k, k ≤ 7 → ∃ c, c ≤ k ∧ (rT t k).1 = nI c ∧ (rT t k).2.1.toInt.natAbs ≤ 40 * c ∧ (rT t k).2.2.1.toInt.natAbs ≤ 99 ∧ (rT t k).2.2.2.toInt.natAbs ≤ 99 := by
  intro k
  induction k with
  | zero => intro _; exact ⟨0, Nat.le_refl _, rfl, (show (0 : Int32).toInt.natAbs ≤ 40 * 0 by decide), (show (99 : Int32).toInt.natAbs ≤ 99 by decide), (show (-99 : Int32).toInt.natAbs ≤ 99 by decide)⟩
  | succ k ih =>
    intro hk
    obtain ⟨c, h1, h2, h3, h4, h5⟩ := ih (by omega)
    rcases h k (by omega) with q | q
    · rw [rT, if_pos q]
      exact ⟨c, by omega, h2, h3, h4, h5⟩
    · by_cases z : t k = (-99)
      · rw [rT, if_pos z]
        exact ⟨c, by omega, h2, h3, h4, h5⟩
      · rw [rT, if_neg z]
        refine ⟨c + 1, by omega, ?_, ?_, ?_, ?_⟩
        · show (rT t k).1 + 1 = _
          rw [h2, nI_1]
        · show ((rT t k).2.1 + t k).toInt.natAbs ≤ _
          rw [t_add (by omega) (by omega)]
          omega
        · show (if (rT t k).2.2.1 ≤ t k then (rT t k).2.2.1 else t k).toInt.natAbs ≤ 99
          split <;> omega
        · show (if t k ≤ (rT t k).2.2.2 then (rT t k).2.2.2 else t k).toInt.natAbs ≤ 99
          split <;> omega
theorem tm_bd {t : Nat → Int32} (h : ∀ i, i < 7 → t i = (-99) ∨ (t i).toInt.natAbs ≤ 40) : bd (tm (rT t 7)) 478 := by
  obtain ⟨c, h1, h2, h3, h4, h5⟩ := rT_bd t h 7 (Nat.le_refl _)
  unfold tm
  rw [h2]
  split
  · rename_i q
    have hc : 3 ≤ c := (nI_leI (a := 3) (by decide) (by omega)).mp q
    rw [show nI c - 2 = nI (c - 2) from pk_sub (b := 2) (by omega)]
    have hz : (nI (c - 2)).toInt = ((c - 2 : Nat) : Int) := nI_toInt (by omega)
    refine ddiv_bd (i2d_bd ?_) (FP.Core.i2d_fin _) ?_ (by decide)
    · have e1 : ((rT t 7).2.1 - (rT t 7).2.2.1).toInt = (rT t 7).2.1.toInt - (rT t 7).2.2.1.toInt := t_sub (by omega) (by omega)
      rw [t_sub (by omega) (by omega), e1]
      omega
    · have h3 : (zv (FP.i2d (nI (c - 2)))).natAbs = FP.Core.zmag FP.Core.b64 (FP.Core.val64 (FP.i2d (nI (c - 2)))) := FP.Core.natAbs_signed _ _
      rw [← h3, i2d_zv, hz, Int.natAbs_mul, Int.natAbs_natCast, Int.natAbs_natCast]
      exact Nat.le_mul_of_pos_left _ (by omega)
  · exact bd_le bd_0 (by decide)
theorem rT_un (t : Nat → Int32) : ∀ k, (∀ i, i < k → t i = (-99)) → rT t k = (0, 0, 99, (-99)) := by
  intro k
  induction k with
  | zero => intro _; rfl
  | succ k ih =>
    intro h
    rw [rT, if_pos (h k (by omega))]
    exact ih (fun i hi => h i (by omega))
theorem rg_abs {x lo hi : Int32} (h : rgI x lo hi) (h1 : -40 ≤ lo.toInt) (h2 : hi.toInt ≤ 40) : x = (-99) ∨ x.toInt.natAbs ≤ 40 := by
  rcases h with h | ⟨a, b⟩
  · exact Or.inl h
  · rw [Int32.le_iff_toInt_le] at a b
    exact Or.inr (by omega)
/-- the steps of a base -/
def s2 (f : UInt64 → Int32) (q v : Int32) : Int32 := if q = 2 then f (FP.dmul (FP.i2d v) 4605380978949069210) else v
def s3 (f : UInt64 → Int32) (w v : Int32) : Int32 := if w = 0 then v else f (FP.dmul (FP.i2d v) 4605380978949069210)
def s4 (f : UInt64 → Int32) (w v : Int32) : Int32 := if w = 0 then v else f (FP.dmul (FP.i2d v) 4607632778762754458)
theorem s2_eq (q : Int32) {v : Int32} {A : Nat} (h : v.toInt.natAbs ≤ A) (hA : A < 2 ^ 20) : s2 f_X4_nearest q v = s2 f_X5_rint q v ∧ (s2 f_X4_nearest q v).toInt.natAbs ≤ A + 1 := by
  obtain ⟨a, b⟩ := near_eq (dmul_bd (i2d_bd h) c08 (by omega)) (by omega)
  unfold s2
  split
  · exact ⟨a, by omega⟩
  · exact ⟨rfl, by omega⟩
theorem s3_eq (q : Int32) {v : Int32} {A : Nat} (h : v.toInt.natAbs ≤ A) (hA : A < 2 ^ 20) : s3 f_X4_nearest q v = s3 f_X5_rint q v ∧ (s3 f_X4_nearest q v).toInt.natAbs ≤ A + 1 := by
  obtain ⟨a, b⟩ := near_eq (dmul_bd (i2d_bd h) c08 (by omega)) (by omega)
  unfold s3
  split
  · exact ⟨rfl, by omega⟩
  · exact ⟨a, by omega⟩
theorem s4_eq (q : Int32) {v : Int32} {A : Nat} (h : v.toInt.natAbs ≤ A) (hA : A < 2 ^ 20) : s4 f_X4_nearest q v = s4 f_X5_rint q v ∧ (s4 f_X4_nearest q v).toInt.natAbs ≤ A * 2 + 1 := by
  obtain ⟨a, b⟩ := near_eq (dmul_bd (i2d_bd h) c11 (by omega)) (by omega)
  unfold s4
  split
  · exact ⟨rfl, by omega⟩
  · exact ⟨a, by omega⟩
theorem base_C (C : Nat → Nat → Int32) (n d : Nat) : f_X1_baseBy C n d = if C (80 + n) 5 = 0 then 0 else s4 f_X4_nearest (C (80 + n) 3) (s3 f_X4_nearest (C (80 + n) 2) (s2 f_X4_nearest (f_X3_middle C (36 + n)) (f_X0_valueOf C d (C (80 + n) 0) (if f_X3_middle C (36 + n) < 3 then C (80 + n) 1 else C (80 + n) 1 - 1)))) := rfl
theorem base_M {M : Nat → Nat → Int32} {sk el : Nat} (ed : Nat) (h : ¬ M 9 (12 * sk + el) = 6) : f_X5_baseOf M sk el ed = if 2 ≤ (it16_X5_baseOf M sk el ed el).1 then 0 else if (it16_X5_baseOf M sk el ed el).2 < 7 then s4 f_X5_rint (M 14 (12 * sk + el)) (s3 f_X5_rint (M 13 (12 * sk + el)) (s2 f_X5_rint (f_X5_quartersOf M (12 * sk + el)) (if (if f_X5_quartersOf M (12 * sk + el) < 3 then M 10 (12 * sk + el) else M 10 (12 * sk + el) - 1) = 0 then 0 else M 18 (f_X5_valueAt (nI ed) (M 9 (12 * sk + el)) (if f_X5_quartersOf M (12 * sk + el) < 3 then M 10 (12 * sk + el) else M 10 (12 * sk + el) - 1)).toNatClampNeg))) else 0 := by
  unfold f_X5_baseOf
  rw [if_neg h]
  rfl
theorem it16_j {M : Nat → Nat → Int32} {sk el : Nat} (ed : Nat) (h : ¬ M 9 (12 * sk + el) = 6) : ∀ i, (it16_X5_baseOf M sk el ed i).1 = cnA (M 9) (M 10) (12 * sk) (M 9 (12 * sk + el)) (M 10 (12 * sk + el)) i ∧ (it16_X5_baseOf M sk el ed i).2 = cnJ (M 9) (12 * sk) i := by
  intro i
  induction i with
  | zero => exact ⟨rfl, rfl⟩
  | succ i ih =>
    rw [it16_X5_baseOf, cnA, cnJ]
    dsimp only
    rw [ih.1, ih.2, if_neg h]
    by_cases z : M 9 (12 * sk + i) = 6
    · rw [if_pos z, if_pos z, if_neg (show ¬ (1 : Int32) = 0 by decide), if_neg (show ¬ (1 : Int32) = 0 by decide), if_neg (fun q => h (q.symm.trans z))]
      exact ⟨Int32.add_zero _, Int32.add_zero _⟩
    · rw [if_neg z, if_neg z, if_pos rfl, if_pos rfl]
      refine ⟨?_, rfl⟩
      split
      · split
        · rfl
        · exact Int32.add_zero _
      · exact Int32.add_zero _
theorem it16_s {M : Nat → Nat → Int32} {sk el : Nat} (ed : Nat) (h : M 9 (12 * sk + el) = 6) : ∀ i, (it16_X5_baseOf M sk el ed i).2 = nI i - cnJ (M 9) (12 * sk) i := by
  intro i
  induction i with
  | zero => show (0 : Int32) = nI 0 - 0; decide
  | succ i ih =>
    rw [it16_X5_baseOf, cnJ]
    dsimp only
    rw [ih, if_pos h, ← nI_1]
    by_cases z : M 9 (12 * sk + i) = 6
    · rw [if_pos z, if_pos z, if_pos rfl, Int32.sub_eq_add_neg, Int32.sub_eq_add_neg]
      ac_rfl
    · rw [if_neg z, if_neg z, if_neg (by decide), Int32.add_zero, Int32.sub_eq_add_neg, Int32.sub_eq_add_neg, Int32.neg_add, Int32.sub_eq_add_neg, Int32.add_assoc, ← Int32.add_assoc 1, Int32.add_comm 1, Int32.add_assoc, ← Int32.sub_eq_add_neg 1, Int32.sub_self, Int32.add_zero]
theorem val_C (C : Nat → Nat → Int32) (d p t : Nat) (hp : p ≤ 6) (ht : t < 5) : f_X0_valueOf C d (nI p) (nI t) = C (33 + d) (5 * p + t) := by
  unfold f_X0_valueOf
  rw [show (5 : Int32) = nI 5 from rfl, pk_mul, nI_add, if_neg (nI_pos (by omega)), if_neg (fun h => by
    have := (nI_leI (a := 35) (by decide) (by omega)).mp h
    omega), nI_clamp (by omega), Nat.mul_comm p 5]
theorem rgv {x : Int32} (h : 0 ≤ x ∧ x ≤ 9999) : x.toInt.natAbs ≤ 9999 := by
  obtain ⟨a, b⟩ := h
  rw [Int32.le_iff_toInt_le] at a b
  have h0 : (0 : Int32).toInt = 0 := rfl
  have h1 : (9999 : Int32).toInt = 9999 := by decide
  omega
theorem JJ.tc {C M : Nat → Nat → Int32} (J : JJ C M) {n : Nat} (hn : n < 144) : ∀ i, ¬ tC M n i = (-99) → 0 ≤ tC M n i ∧ tC M n i < 99 := by
  intro i h
  unfold tC at h ⊢
  by_cases q : i < 3
  · rw [if_pos q] at h ⊢
    rcases J.1.2.2.2.1 (3 * n + i) (by omega) with z | ⟨z1, z2⟩
    · exact absurd z h
    · exact ⟨z1, Int32.lt_of_le_of_lt z2 (by decide)⟩
  · rw [if_neg q] at h
    exact absurd rfl h
theorem JJ.quart {C M : Nat → Nat → Int32} (J : JJ C M) {k i : Nat} (hk : k < nS M) (hi : i < nE M k) : f_X3_middle C (36 + (12 * k + i)) = f_X5_quartersOf M (12 * k + i) := by
  have h1 := J.lt hk
  have h2 := (J.cnt h1).2
  exact quarters_eq (J.re hk hi).2.1 (J.tc (by omega))
theorem JJ.base {C M : Nat → Nat → Int32} (J : JJ C M) {k i d : Nat} (hk : k < nS M) (hi : i < nE M k) (hd : d < 3) : f_X1_baseBy C (12 * k + i) d = f_X5_baseOf M k i d ∧ (f_X1_baseBy C (12 * k + i) d).toInt.natAbs ≤ 20003 := by
  have h1 := J.lt hk
  have h2 := (J.cnt h1).2
  obtain ⟨⟨r0, r1, r2, r3, r4, r5⟩, -, -⟩ := J.re hk hi
  have hq := J.quart hk hi
  have hv := J.rv d hd
  have hm := J.1.2.2.2.2.2.2
  rw [base_C, r0, r1, r2, r3, r5, hq]
  have z0 : (0 : Int32).toInt.natAbs ≤ 20003 := by decide
  rcases J.ok h1 hi with ⟨p, q, a1, a2, a3, a4, a5⟩ | ⟨q, f, a1, -, a3, a4, -, a6, a7, a8⟩
  · have hj : ¬ M 9 (12 * k + i) = 6 := by
      rw [a4]
      exact nI6 a1
    rw [base_M d hj, (it16_j d hj i).1, (it16_j d hj i).2]
    unfold ctd
    rw [if_neg hj]
    by_cases c7 : 7 ≤ cnJ (M 9) (12 * k) i
    · rw [if_pos c7, if_pos rfl, if_neg (Int32.not_lt.mpr c7)]
      refine ⟨?_, z0⟩
      split <;> rfl
    · rw [if_neg c7, if_pos (Int32.not_le.mp c7)]
      by_cases c2 : 2 ≤ cnA (M 9) (M 10) (12 * k) (M 9 (12 * k + i)) (M 10 (12 * k + i)) i
      · rw [if_pos c2, if_pos rfl, if_pos c2]
        exact ⟨rfl, z0⟩
      · rw [if_neg c2, if_neg (show ¬ (1 : Int32) = 0 by decide), if_neg c2, a4, a5]
        obtain ⟨t, ht, ht5⟩ : ∃ t : Nat, (if f_X5_quartersOf M (12 * k + i) < 3 then nI q else nI q - 1) = nI t ∧ t < 5 := by
          split
          · exact ⟨q, rfl, by omega⟩
          · obtain ⟨r, rfl⟩ : ∃ r, q = r + 1 := ⟨q - 1, by omega⟩
            exact ⟨r, nI_pred r, by omega⟩
        rw [ht, val_C C d p t (by omega) ht5, hv.1 p t a1 ht5]
        have e : (if nI t = 0 then (0 : Int32) else M 18 (f_X5_valueAt (nI d) (nI p) (nI t)).toNatClampNeg) = if t = 0 then 0 else M 18 (29 * d + (4 * p + t - 1)) := by
          by_cases tz : t = 0
          · subst tz
            rw [if_pos (show nI 0 = 0 from rfl), if_pos rfl]
          · rw [if_neg tz, if_neg (fun z => nI_ne0 (by omega) (by omega) z), vt_at d p t a1 (by omega), nI_clamp (by omega)]
        rw [e]
        have v0 : (if t = 0 then (0 : Int32) else M 18 (29 * d + (4 * p + t - 1))).toInt.natAbs ≤ 9999 := by
          split
          · decide
          · exact rgv (hm _ (by omega))
        generalize (if t = 0 then (0 : Int32) else M 18 (29 * d + (4 * p + t - 1))) = v at v0 ⊢
        obtain ⟨u1, u2⟩ := s2_eq (f_X5_quartersOf M (12 * k + i)) v0 (by decide)
        obtain ⟨u3, u4⟩ := s3_eq (M 13 (12 * k + i)) u2 (by decide)
        obtain ⟨u5, u6⟩ := s4_eq (M 14 (12 * k + i)) u4 (by decide)
        exact ⟨by rw [u5, u3, u1], by omega⟩
  · have hun : f_X5_quartersOf M (12 * k + i) = 0 := by
      rw [← hq, VR_middle (J.re hk hi).2.1, rT_un (tC M (12 * k + i)) 7 (fun j _ => ?_)]
      · rfl
      · unfold tC
        split
        · rename_i g
          exact a8 j g
        · rfl
    rw [hun]
    unfold f_X5_baseOf ctd
    rw [if_pos a3, if_pos a3, it16_s d a3 i, a6, a7]
    by_cases c3 : 3 ≤ nI i - cnJ (M 9) (12 * k) i
    · rw [if_pos c3, if_pos rfl, if_neg (Int32.not_lt.mpr c3)]
      exact ⟨rfl, z0⟩
    · rw [if_neg c3, if_neg (show ¬ (1 : Int32) = 0 by decide), if_pos (Int32.not_le.mp c3)]
      unfold s4 s3 s2
      rw [if_pos rfl, if_pos rfl, if_neg (by decide), if_pos (by decide), a3, a4, show (6 : Int32) = nI 6 from rfl, val_C C d 6 q (by omega) (by omega), show nI 6 = (6 : Int32) from rfl, vt_at6, nI_clamp (by omega), hv.2 q (by omega)]
      exact ⟨rfl, Nat.le_trans (rgv (hm _ (by omega))) (by decide)⟩
theorem JJ.gr {C M : Nat → Nat → Int32} (J : JJ C M) {n : Nat} (hn : n < 144) : ∀ i, i < 7 → tGr M n i = (-99) ∨ (tGr M n i).toInt.natAbs ≤ 40 := fun i hi => rg_abs (J.1.2.2.2.2.1 (144 * i + n) (by omega)) (by decide) (by decide)
theorem JJ.pa {C M : Nat → Nat → Int32} (J : JJ C M) {k j : Nat} (hk : k < 12) (hj : j < 3) : ∀ i, i < 7 → tP M k j i = (-99) ∨ (tP M k j i).toInt.natAbs ≤ 40 := fun i hi => rg_abs (J.1.2.2.2.2.2.1 ((36 * i + 3 * k) + j) (by omega)) (by decide) (by decide)
theorem JJ.score {C M : Nat → Nat → Int32} (J : JJ C M) {k i d : Nat} (hk : k < nS M) (hi : i < nE M k) (hd : d < 3) : f_X1_scoreBy C (12 * k + i) d = f_X5_scoreOf M k i d ∧ (f_X1_scoreBy C (12 * k + i) d).toInt.natAbs ≤ 10000000 := by
  have h1 := J.lt hk
  have h2 := (J.cnt h1).2
  obtain ⟨b1, b2⟩ := J.base hk hi hd
  unfold f_X1_scoreBy f_X5_scoreOf
  rw [VR_mean (J.re hk hi).2.2, meanOf_tm, ← b1]
  have hb : bd (tm (rT (tGr M (12 * k + i)) 7)) 478 := tm_bd (J.gr (by omega))
  have hz : bd (FP.ddiv (FP.dmul (FP.i2d (f_X1_baseBy C (12 * k + i) d)) (tm (rT (tGr M (12 * k + i)) 7))) 4621819117588971520) (20003 * 478) := ddiv_bd (dmul_bd (i2d_bd b2) hb (by decide)) c10.1 c10.2 (by decide)
  obtain ⟨n1, n2⟩ := near_eq hz (by decide)
  refine ⟨congrArg (f_X1_baseBy C (12 * k + i) d + ·) n1, ?_⟩
  rw [t_add (by omega) (by omega)]
  omega
