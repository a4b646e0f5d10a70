theorem cmpV {a b : UInt64} (op : CmpOp) (ha : FP.Core.val64 a ≠ .nan) (hb : FP.Core.val64 b ≠ .nan) : Op.cmpValue (FP.dcmp a b) op = if zv a < zv b then -1 else if zv a = zv b then 0 else 1 := by
  rw [show FP.dcmp a b = some (compare (zv a) (zv b)) from FP.Core.dcmp_zval ha hb, FP.Core.compare_ite]
  by_cases h1 : zv a < zv b
  · rw [if_pos h1, if_pos h1]
    rfl
  · rw [if_neg h1, if_neg h1]
    by_cases h2 : zv a = zv b
    · rw [if_pos h2, if_pos h2]
      rfl
    · rw [if_neg h2, if_neg h2]
      rfl
theorem rz (g : Bool) (e : Int) : FP.Core.zval FP.Core.b64 (FP.Core.round FP.Core.b64 (.fin g 0 e)) = 0 := by
  have h := FP.Core.zmag_roundRatio_le FP.Core.good_b64 (s := g) (A := 0) (B := 1) (e := e) (e0 := min e FP.Core.b64.qmin) (V := .fin false 0 FP.Core.b64.qmin) (by decide) (FP.Core.zero_fits FP.Core.good_b64 false) (by intro h; cases h) (by omega) (by omega) (by unfold FP.Core.inUnits; rw [Nat.zero_mul]; exact Nat.zero_le _)
  have z : FP.Core.zmag FP.Core.b64 (.fin false 0 FP.Core.b64.qmin) = 0 := Nat.zero_mul _
  rw [z] at h
  show FP.Core.signed _ (FP.Core.zmag FP.Core.b64 (FP.Core.roundRatio FP.Core.b64 g 0 1 e)) = 0
  rw [Nat.le_zero.mp h]
  exact FP.Core.signed_zero _
theorem sum_neg {x y x' y' : FP.Core.Datum} (hx : ∃ s c q, x = .fin s c q) (hy : ∃ s c q, y = .fin s c q) (hx' : ∃ s c q, x' = .fin s c q) (hy' : ∃ s c q, y' = .fin s c q) (fx : FP.Core.fits FP.Core.b64 x) (fy : FP.Core.fits FP.Core.b64 y) (fx' : FP.Core.fits FP.Core.b64 x') (fy' : FP.Core.fits FP.Core.b64 y')
    (h : FP.Core.zval FP.Core.b64 x + FP.Core.zval FP.Core.b64 y = -(FP.Core.zval FP.Core.b64 x' + FP.Core.zval FP.Core.b64 y')) : FP.Core.zval FP.Core.b64 (FP.Core.round FP.Core.b64 (FP.Core.exactSum x y)) = -FP.Core.zval FP.Core.b64 (FP.Core.round FP.Core.b64 (FP.Core.exactSum x' y')) := by
  obtain ⟨s1, c1, q1, rfl⟩ := hx
  obtain ⟨s2, c2, q2, rfl⟩ := hy
  obtain ⟨s3, c3, q3, rfl⟩ := hx'
  obtain ⟨s4, c4, q4, rfl⟩ := hy'
  obtain ⟨g, n, e, a1, a2, a3⟩ := FP.Core.sum_units fx fy
  obtain ⟨g', n', e', b1, b2, b3⟩ := FP.Core.sum_units fx' fy'
  rw [a1, b1, ← FP.Core.round_inUnits g n a2, ← FP.Core.round_inUnits g' n' b2]
  rw [h, ← b3] at a3
  generalize FP.Core.inUnits n e FP.Core.b64.qmin = N at a3 ⊢
  generalize FP.Core.inUnits n' e' FP.Core.b64.qmin = N' at a3 ⊢
  have hN : N = N' := by
    have := FP.Core.natAbs_signed g N
    have := FP.Core.natAbs_signed g' N'
    omega
  subst hN
  by_cases z : N = 0
  · subst z
    rw [rz, rz]
    rfl
  · have hg : g = !g' := by
      cases g <;> cases g' <;> simp [FP.Core.signed] at a3 ⊢ <;> omega
    subst hg
    rw [show FP.Core.Datum.fin (!g') N FP.Core.b64.qmin = FP.Core.negate (.fin g' N FP.Core.b64.qmin) from rfl, ← FP.Core.negate_round, FP.Core.zval_negate]
theorem t_add {a b : Int32} (h1 : -2 ^ 31 ≤ a.toInt + b.toInt) (h2 : a.toInt + b.toInt < 2 ^ 31) : (a + b).toInt = a.toInt + b.toInt := by
  rw [Int32.toInt_add]
  exact Int.bmod_eq_of_le (by omega) (by omega)
theorem t_sub {a b : Int32} (h1 : -2 ^ 31 ≤ a.toInt - b.toInt) (h2 : a.toInt - b.toInt < 2 ^ 31) : (a - b).toInt = a.toInt - b.toInt := by
  rw [Int32.toInt_sub]
  exact Int.bmod_eq_of_le (by omega) (by omega)
theorem t_neg {a : Int32} (h1 : -2 ^ 31 < a.toInt) : (-a).toInt = -a.toInt := by
  have := Int32.toInt_lt a
  rw [Int32.toInt_neg]
  exact Int.bmod_eq_of_le (by omega) (by omega)
theorem one_toInt : (1 : Int32).toInt = 1 := by decide
/-- the nearest number is at most one more than what is cut off -/
theorem near_bd {x : UInt64} {A : Nat} (h : (FP.d2i x).toInt.natAbs ≤ A) (hA : A < 2 ^ 31 - 1) : (f_X4_nearest x).toInt.natAbs ≤ A + 1 := by
  have e1 : (FP.d2i x + 1).toInt.natAbs ≤ A + 1 := by
    rw [t_add (by rw [one_toInt]; omega) (by rw [one_toInt]; omega), one_toInt]
    omega
  have e2 : (FP.d2i x - 1).toInt.natAbs ≤ A + 1 := by
    rw [t_sub (by rw [one_toInt]; omega) (by rw [one_toInt]; omega), one_toInt]
    omega
  have e3 : (FP.d2i x).toInt.natAbs ≤ A + 1 := by omega
  unfold f_X4_nearest
  generalize FP.d2i x = d at *
  repeat' split
  all_goals assumption
theorem zv_0 : zv FP.dconst0 = 0 := by decide +kernel
theorem nn_0 : FP.Core.val64 FP.dconst0 ≠ .nan := by decide +kernel
theorem zv_h : zv 4602678819172646912 = ((2 ^ 1073 : Nat) : Int) := by decide +kernel
theorem nn_h : FP.Core.val64 4602678819172646912 ≠ .nan := by decide +kernel
theorem zv_mh : zv 13826050856027422720 = -((2 ^ 1073 : Nat) : Int) := by decide +kernel
theorem nn_mh : FP.Core.val64 13826050856027422720 ≠ .nan := by decide +kernel
theorem odd_c {m : Nat} (h : m < 2 ^ 31) : (-(nI m) &&& 1) = nI (m % 2) := by
  apply Int32.toBitVec_inj.mp
  apply BitVec.eq_of_toNat_eq
  rw [Int32.toBitVec_and, BitVec.toNat_and, Int32.toBitVec_neg, BitVec.toNat_neg, pk_tn (by omega), pk_tn (by omega), show (1 : Int32).toBitVec.toNat = 1 from rfl, Nat.and_one_is_mod]
  omega
