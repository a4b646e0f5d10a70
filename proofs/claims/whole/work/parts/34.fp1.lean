/-! THE BRIDGE, doubles: their values in units of the least number -/
def zv (a : UInt64) : Int := FP.Core.zval FP.Core.b64 (FP.Core.val64 a)
/-- finite, and at most A by size -/
def bd (a : UInt64) (A : Nat) : Prop := FP.Core.DFin a ∧ FP.Core.zmag FP.Core.b64 (FP.Core.val64 a) ≤ A * FP.Core.one64
theorem fin_nn {a : UInt64} (h : FP.Core.DFin a) : FP.Core.val64 a ≠ .nan := by
  obtain ⟨s, c, q, e⟩ := h
  rw [e]
  intro h
  cases h
theorem bd_nan {a : UInt64} {A : Nat} (h : bd a A) : FP.Core.val64 a ≠ .nan := fin_nn h.1
theorem bd_le {a : UInt64} {A B : Nat} (h : bd a A) (hAB : A ≤ B) : bd a B := ⟨h.1, Nat.le_trans h.2 (Nat.mul_le_mul_right _ hAB)⟩
theorem zv_bd {a : UInt64} {A : Nat} (h : bd a A) : zv a ≤ (A : Int) * (FP.Core.one64 : Int) ∧ -((A : Int) * (FP.Core.one64 : Int)) ≤ zv a := by
  have h := h.2
  unfold zv FP.Core.zval FP.Core.signed
  rw [← Int.natCast_mul]
  generalize A * FP.Core.one64 = t at h ⊢
  generalize FP.Core.zmag FP.Core.b64 (FP.Core.val64 a) = z at h ⊢
  constructor <;> split <;> omega
theorem big_inf : 2 ^ 31 * FP.Core.one64 < FP.Core.b64.tails * 2 ^ (FP.Core.b64.exps - 2) := by decide +kernel
theorem bd_of {a : UInt64} {A : Nat} (hn : FP.Core.val64 a ≠ .nan) (hA : A < 2 ^ 31) (h1 : zv a ≤ (A : Int) * (FP.Core.one64 : Int)) (h2 : -((A : Int) * (FP.Core.one64 : Int)) ≤ zv a) : bd a A := by
  have h3 : (zv a).natAbs = FP.Core.zmag FP.Core.b64 (FP.Core.val64 a) := FP.Core.natAbs_signed _ _
  rw [← Int.natCast_mul] at h1 h2
  have h4 : FP.Core.zmag FP.Core.b64 (FP.Core.val64 a) ≤ A * FP.Core.one64 := by
    rw [← h3]
    omega
  refine ⟨?_, h4⟩
  unfold FP.Core.DFin
  cases e : FP.Core.val64 a with
  | nan => exact absurd e hn
  | fin s c q => exact ⟨s, c, q, rfl⟩
  | inf s =>
    rw [e] at h4
    have h5 : FP.Core.b64.tails * 2 ^ (FP.Core.b64.exps - 2) ≤ A * FP.Core.one64 := h4
    have h6 : A * FP.Core.one64 ≤ 2 ^ 31 * FP.Core.one64 := Nat.mul_le_mul_right _ (Nat.le_of_lt hA)
    exact absurd (Nat.le_trans h5 h6) (Nat.not_le.mpr big_inf)
theorem i2d_zv (v : Int32) : zv (FP.i2d v) = v.toInt * (FP.Core.one64 : Int) := FP.Core.DInt_zval (FP.Core.i2d_int v)
theorem i2d_bd {v : Int32} {A : Nat} (h : v.toInt.natAbs ≤ A) : bd (FP.i2d v) A := by
  refine ⟨FP.Core.i2d_fin v, ?_⟩
  have h3 : (zv (FP.i2d v)).natAbs = FP.Core.zmag FP.Core.b64 (FP.Core.val64 (FP.i2d v)) := FP.Core.natAbs_signed _ _
  rw [← h3, i2d_zv, Int.natAbs_mul, Int.natAbs_natCast]
  exact Nat.mul_le_mul_right _ h
theorem dneg_bd {b : UInt64} {B : Nat} (h : bd b B) : bd (FP.Core.dneg b) B ∧ zv (FP.Core.dneg b) = -zv b := by
  obtain ⟨⟨s, c, q, e⟩, h2⟩ := h
  refine ⟨⟨⟨!s, c, q, ?_⟩, ?_⟩, ?_⟩
  · rw [FP.Core.val64_dneg, e]
    rfl
  · rw [FP.Core.val64_dneg, e]
    rw [e] at h2
    exact h2
  · unfold zv
    rw [FP.Core.val64_dneg, FP.Core.zval_negate]
theorem dadd_bd {a b : UInt64} {A B : Nat} (ha : bd a A) (hb : bd b B) (h : A + B < 2 ^ 31) : bd (FP.dadd a b) (A + B) := by
  have hV := FP.Core.i2d_int (nI (A + B))
  rw [nI_toInt h] at hV
  have e1 := FP.Core.DInt_zval hV
  have e2 := FP.Core.DInt_zval (FP.Core.dneg_int hV)
  have a1 := zv_bd ha
  have b1 := zv_bd hb
  unfold zv at a1 b1
  have hs : ((A + B : Nat) : Int) * (FP.Core.one64 : Int) = (A : Int) * (FP.Core.one64 : Int) + (B : Int) * (FP.Core.one64 : Int) := by
    rw [Int.natCast_add, Int.add_mul]
  refine bd_of ((FP.Core.notNaN_iff _).mp (FP.Core.dadd_out ((FP.Core.notNaN_iff _).mpr (bd_nan ha)) hb.1)) h ?_ ?_
  · unfold zv
    rw [FP.Core.val64_dadd, ← e1]
    refine FP.Core.sum_le FP.Core.good_b64 ha.1 hb.1 (FP.Core.val64_fits a) (FP.Core.val64_fits b) (FP.Core.val64_fits _) (FP.Core.DInt_ne_nan hV) ?_
    rw [e1, hs]
    omega
  · unfold zv
    rw [FP.Core.val64_dadd, ← Int.neg_mul, ← e2]
    refine FP.Core.sum_ge FP.Core.good_b64 ha.1 hb.1 (FP.Core.val64_fits a) (FP.Core.val64_fits b) (FP.Core.val64_fits _) (FP.Core.DInt_ne_nan (FP.Core.dneg_int hV)) ?_
    rw [e2, Int.neg_mul, hs]
    omega
theorem dsub_bd {a b : UInt64} {A B : Nat} (ha : bd a A) (hb : bd b B) (h : A + B < 2 ^ 31) : bd (FP.dsub a b) (A + B) := by
  rw [show FP.dsub a b = FP.Core.dadd a (FP.Core.dneg b) from FP.Core.dsub_eq a b]
  exact dadd_bd ha (dneg_bd hb).1 h
theorem one_qmin : (2 ^ (FP.Core.b64.qmin - 2 * FP.Core.b64.qmin).toNat : Nat) = FP.Core.one64 := by decide +kernel
theorem qm_le : 2 * FP.Core.b64.qmin ≤ FP.Core.b64.qmin := by decide +kernel
theorem dmul_bd {a b : UInt64} {A B : Nat} (ha : bd a A) (hb : bd b B) (h : A * B < 2 ^ 31) : bd (FP.dmul a b) (A * B) := by
  have hV := FP.Core.i2d_int (nI (A * B))
  rw [nI_toInt h] at hV
  have e1 := FP.Core.DInt_zval hV
  have e2 := FP.Core.DInt_zval (FP.Core.dneg_int hV)
  have hn := (FP.Core.notNaN_iff _).mp (FP.Core.dmul_out ha.1 hb.1)
  obtain ⟨⟨s, c, q, ea⟩, a2⟩ := ha
  obtain ⟨⟨t, d, r, eb⟩, b2⟩ := hb
  have fa := FP.Core.val64_fits a
  have fb := FP.Core.val64_fits b
  rw [ea] at a2 fa
  rw [eb] at b2 fb
  obtain ⟨p1, p2, p3⟩ := FP.Core.product_units fa fb
  have k1 : FP.Core.inUnits (c * d) (q + r) (2 * FP.Core.b64.qmin) ≤ A * B * FP.Core.one64 * FP.Core.one64 := by
    rw [p3]
    refine Nat.le_trans (Nat.mul_le_mul a2 b2) (Nat.le_of_eq ?_)
    rw [Nat.mul_mul_mul_comm, Nat.mul_assoc (A * B)]
  have k2 : ∀ g : Bool, FP.Core.signed g (FP.Core.inUnits (c * d) (q + r) (2 * FP.Core.b64.qmin)) ≤ ((A * B * FP.Core.one64 * FP.Core.one64 : Nat) : Int) ∧ -((A * B * FP.Core.one64 * FP.Core.one64 : Nat) : Int) ≤ FP.Core.signed g (FP.Core.inUnits (c * d) (q + r) (2 * FP.Core.b64.qmin)) := by
    intro g
    generalize FP.Core.inUnits (c * d) (q + r) (2 * FP.Core.b64.qmin) = z at k1 ⊢
    generalize A * B * FP.Core.one64 * FP.Core.one64 = t at k1 ⊢
    unfold FP.Core.signed
    constructor <;> split <;> omega
  refine bd_of hn h ?_ ?_
  · unfold zv
    rw [FP.Core.val64_dmul, ea, eb, p1, ← e1]
    refine FP.Core.zval_round_le FP.Core.good_b64 (FP.Core.val64_fits _) (FP.Core.DInt_ne_nan hV) qm_le p2 ?_
    rw [e1, one_qmin, ← Int.natCast_mul, ← Int.natCast_mul]
    exact (k2 _).1
  · unfold zv
    rw [FP.Core.val64_dmul, ea, eb, p1, ← Int.neg_mul, ← e2]
    refine FP.Core.zval_round_ge FP.Core.good_b64 (FP.Core.val64_fits _) (FP.Core.DInt_ne_nan (FP.Core.dneg_int hV)) qm_le p2 ?_
    rw [e2, one_qmin, Int.neg_mul, Int.neg_mul, ← Int.natCast_mul, ← Int.natCast_mul]
    exact (k2 _).2
theorem ddiv_bd {a b : UInt64} {A : Nat} (ha : bd a A) (hb : FP.Core.DFin b) (h1 : FP.Core.one64 ≤ FP.Core.zmag FP.Core.b64 (FP.Core.val64 b)) (h : A < 2 ^ 31) : bd (FP.ddiv a b) A := by
  have hV := FP.Core.i2d_int (nI A)
  rw [nI_toInt h] at hV
  have e1 := FP.Core.DInt_zval hV
  have z1 : FP.Core.zmag FP.Core.b64 (FP.Core.val64 (FP.Core.i2d (nI A))) = A * FP.Core.one64 := by
    have h3 : (zv (FP.Core.i2d (nI A))).natAbs = FP.Core.zmag FP.Core.b64 (FP.Core.val64 (FP.Core.i2d (nI A))) := FP.Core.natAbs_signed _ _
    rw [← h3]
    unfold zv
    rw [e1, ← Int.natCast_mul, Int.natAbs_natCast]
  have o1 : 0 < FP.Core.one64 := FP.Core.one64_pos
  obtain ⟨⟨s, c, q, ea⟩, a2⟩ := ha
  obtain ⟨t, d, r, eb⟩ := hb
  have fa := FP.Core.val64_fits a
  have fb := FP.Core.val64_fits b
  rw [ea] at a2 fa
  rw [eb] at h1 fb
  have hd : d ≠ 0 := by
    rintro rfl
    have z : FP.Core.zmag FP.Core.b64 (.fin t 0 r) = 0 := Nat.zero_mul _
    rw [z] at h1
    exact absurd (Nat.lt_of_lt_of_le o1 h1) (Nat.lt_irrefl 0)
  have hq : FP.Core.val64 (FP.ddiv a b) = FP.Core.roundRatio FP.Core.b64 (s != t) c d (q - r) := by
    rw [FP.Core.val64_ddiv, ea, eb]
    simp only [FP.Core.quotient, if_neg hd]
  have hn : FP.Core.val64 (FP.ddiv a b) ≠ .nan := by
    rw [hq]
    exact FP.Core.roundRatio_ne_nan _ _ _ _ _
  have x1 := fa.2.1
  have y1 := fb.2.1
  have qn := FP.Core.qmin_neg FP.Core.good_b64
  have m1 : FP.Core.zmag FP.Core.b64 (FP.Core.val64 (FP.ddiv a b)) ≤ A * FP.Core.one64 := by
    rw [hq, ← z1]
    refine FP.Core.zmag_roundRatio_le FP.Core.good_b64 (Nat.pos_of_ne_zero hd) (FP.Core.val64_fits _) (FP.Core.DInt_ne_nan hV) (e0 := 2 * FP.Core.b64.qmin - r) (by omega) (by omega) ?_
    have i1 : FP.Core.inUnits c (q - r) (2 * FP.Core.b64.qmin - r) = FP.Core.zmag FP.Core.b64 (.fin s c q) * FP.Core.one64 := by
      rw [← FP.Core.pow_qmin64]
      show c * _ = c * _ * _
      rw [Nat.mul_assoc, ← Nat.pow_add]
      congr 2
      omega
    have i2 : 2 ^ (FP.Core.b64.qmin - (2 * FP.Core.b64.qmin - r)).toNat * d = FP.Core.zmag FP.Core.b64 (.fin t d r) := by
      show _ = d * _
      rw [Nat.mul_comm]
      congr 2
      omega
    rw [i1, Nat.mul_assoc, i2, z1]
    exact Nat.mul_le_mul a2 h1
  have h3 : (zv (FP.ddiv a b)).natAbs = FP.Core.zmag FP.Core.b64 (FP.Core.val64 (FP.ddiv a b)) := FP.Core.natAbs_signed _ _
  refine bd_of hn h ?_ ?_ <;> rw [← Int.natCast_mul] <;> omega
