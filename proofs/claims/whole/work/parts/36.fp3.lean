/-- what is left over, from 0 on: not below 0 -/
theorem rest_pos {x : UInt64} {i : Nat} (hx : FP.Core.DFin x) (hi : i < 2 ^ 31) (hw : FP.d2i x = nI i) (h : (i : Int) * (FP.Core.one64 : Int) ≤ zv x) : FP.Core.val64 (FP.dsub x (FP.i2d (FP.d2i x))) ≠ .nan ∧ 0 ≤ zv (FP.dsub x (FP.i2d (FP.d2i x))) := by
  have hf := FP.Core.i2d_fin (FP.d2i x)
  refine ⟨(FP.Core.notNaN_iff _).mp (FP.Core.dsub_out ((FP.Core.notNaN_iff _).mpr (fin_nn hx)) hf), ?_⟩
  have hz : zv (FP.i2d (FP.d2i x)) = (i : Int) * (FP.Core.one64 : Int) := by
    rw [i2d_zv, hw, nI_toInt hi]
  rw [← zv_0]
  unfold zv at h hz ⊢
  rw [FP.Core.val64_dsub]
  obtain ⟨s, c, q, e⟩ := hf
  refine FP.Core.sum_ge FP.Core.good_b64 hx ⟨!s, c, q, ?_⟩ (FP.Core.val64_fits _) (FP.Core.negate_fits (FP.Core.val64_fits _)) (FP.Core.val64_fits _) nn_0 ?_
  · rw [show FP.Core.val64 (FP.Core.i2d (FP.d2i x)) = .fin s c q from e]
    rfl
  · rw [FP.Core.zval_negate]
    have z0 := zv_0
    unfold zv at z0
    rw [z0]
    rw [show FP.Core.zval FP.Core.b64 (FP.Core.val64 (FP.Core.i2d (FP.d2i x))) = (i : Int) * (FP.Core.one64 : Int) from hz]
    omega
/-- the reference rounds as the class does -/
theorem near_eq {x : UInt64} {A : Nat} (h : bd x A) (hA : A < 2 ^ 31 - 1) : f_X4_nearest x = f_X5_rint x ∧ (f_X4_nearest x).toInt.natAbs ≤ A + 1 := by
  have hn := bd_nan h
  have hb := zv_bd h
  have o1 := FP.Core.one64_pos
  have hd := FP.Core.d2i_val hn
  have hk : ((A + 1 : Nat) : Int) * (FP.Core.one64 : Int) = (A : Int) * (FP.Core.one64 : Int) + (FP.Core.one64 : Int) := by
    rw [Int.natCast_add, Int.add_mul]
    omega
  by_cases hs : 0 ≤ zv x
  · obtain ⟨i, i1, i2, i3, -⟩ := FP.Core.cut_pos (s := FP.Core.sgn (FP.Core.val64 x)) (m := FP.Core.zmag FP.Core.b64 (FP.Core.val64 x)) (P := FP.Core.one64) (k := A + 1) o1 hs (by
      show zv x < _
      rw [hk]
      omega)
    rw [i1] at hd
    have hi : (FP.d2i x).toInt = (i : Int) := by
      show (FP.Core.d2i x).toInt = _
      omega
    have hw : FP.d2i x = nI i := Int32.toInt_inj.mp (by rw [hi, nI_toInt (by omega)])
    obtain ⟨r1, r2⟩ := rest_pos h.1 (by omega) hw i3
    refine ⟨near_pos (n := i) ?_ (by omega) hw ?_ ?_, near_bd (by rw [hi]; omega) hA⟩
    · rw [cmpV _ hn nn_0, zv_0, if_neg (by omega)]
      split <;> decide
    · rw [cmpV _ r1 nn_mh, zv_mh, if_neg (by omega), if_neg (by omega)]
      decide
    · rw [cmpV _ r1 nn_mh, zv_mh, if_neg (by omega), if_neg (by omega)]
      decide
  · obtain ⟨i, i1, i2, i3, -⟩ := FP.Core.cut_neg (s := FP.Core.sgn (FP.Core.val64 x)) (m := FP.Core.zmag FP.Core.b64 (FP.Core.val64 x)) (P := FP.Core.one64) (k := A + 1) o1 (by
      show zv x ≤ 0
      omega) (by
      show _ < zv x
      rw [hk]
      omega)
    have i3 : zv x ≤ -(i : Int) * (FP.Core.one64 : Int) := i3
    have hy : FP.dneg x = FP.Core.dneg x := FP.dneg_core ((FP.Core.notNaN_iff _).mpr hn)
    obtain ⟨y1, y2⟩ := dneg_bd h
    have yn := bd_nan y1
    have hd2 := FP.Core.d2i_val yn
    have hsg : FP.Core.signed (FP.Core.sgn (FP.Core.val64 (FP.Core.dneg x))) (FP.Core.zmag FP.Core.b64 (FP.Core.val64 (FP.Core.dneg x)) / FP.Core.one64) = (i : Int) := by
      have hv : FP.Core.val64 (FP.Core.dneg x) = FP.Core.negate (FP.Core.val64 x) := FP.Core.val64_dneg x
      obtain ⟨s, c, q, e⟩ := h.1
      rw [hv]
      rw [e] at i1 ⊢
      have i1 : FP.Core.signed s (FP.Core.zmag FP.Core.b64 (.fin s c q) / FP.Core.one64) = -(i : Int) := i1
      show FP.Core.signed (!s) (FP.Core.zmag FP.Core.b64 (.fin s c q) / FP.Core.one64) = (i : Int)
      rw [FP.Core.signed_not, i1]
      omega
    rw [i1] at hd
    rw [hsg] at hd2
    have hi : (FP.d2i x).toInt = -(i : Int) := by
      show (FP.Core.d2i x).toInt = _
      omega
    have hi2 : (FP.d2i (FP.dneg x)).toInt = (i : Int) := by
      rw [hy]
      show (FP.Core.d2i (FP.Core.dneg x)).toInt = _
      omega
    have hw2 : FP.d2i (FP.dneg x) = nI i := Int32.toInt_inj.mp (by rw [hi2, nI_toInt (by omega)])
    have hw : FP.d2i x = -nI i := Int32.toInt_inj.mp (by rw [hi, t_neg (by rw [nI_toInt (by omega)]; omega), nI_toInt (by omega)])
    have hyf : FP.Core.DFin (FP.dneg x) := by
      rw [hy]
      exact y1.1
    have hzy : zv (FP.dneg x) = -zv x := by
      rw [hy]
      exact y2
    have i4 : (i : Int) * (FP.Core.one64 : Int) ≤ zv (FP.dneg x) := by
      rw [hzy]
      rw [Int.neg_mul] at i3
      omega
    obtain ⟨r1, r2⟩ := rest_pos hyf (by omega) hw2 i4
    have q1 : FP.Core.val64 (FP.dsub x (FP.i2d (FP.d2i x))) ≠ .nan := (FP.Core.notNaN_iff _).mp (FP.Core.dsub_out ((FP.Core.notNaN_iff _).mpr hn) (FP.Core.i2d_fin _))
    have q2 : zv (FP.dsub (FP.dneg x) (FP.i2d (FP.d2i (FP.dneg x)))) = -zv (FP.dsub x (FP.i2d (FP.d2i x))) := by
      have z1 := i2d_zv (FP.d2i x)
      have z2 := i2d_zv (FP.d2i (FP.dneg x))
      rw [hi] at z1
      rw [hi2] at z2
      have f1 := FP.Core.i2d_fin (FP.d2i x)
      have f2 := FP.Core.i2d_fin (FP.d2i (FP.dneg x))
      unfold zv at z1 z2 hzy ⊢
      rw [FP.Core.val64_dsub, FP.Core.val64_dsub]
      obtain ⟨s, c, q, e⟩ := f1
      obtain ⟨s2, c2, p2, e2⟩ := f2
      refine sum_neg hyf ⟨!s2, c2, p2, ?_⟩ h.1 ⟨!s, c, q, ?_⟩ (FP.Core.val64_fits _) (FP.Core.negate_fits (FP.Core.val64_fits _)) (FP.Core.val64_fits _) (FP.Core.negate_fits (FP.Core.val64_fits _)) ?_
      · rw [show FP.Core.val64 (FP.Core.i2d (FP.d2i (FP.dneg x))) = .fin s2 c2 p2 from e2]
        rfl
      · rw [show FP.Core.val64 (FP.Core.i2d (FP.d2i x)) = .fin s c q from e]
        rfl
      · rw [FP.Core.zval_negate, FP.Core.zval_negate, hzy]
        rw [show FP.Core.zval FP.Core.b64 (FP.Core.val64 (FP.Core.i2d (FP.d2i x))) = _ from z1, show FP.Core.zval FP.Core.b64 (FP.Core.val64 (FP.Core.i2d (FP.d2i (FP.dneg x)))) = _ from z2, Int.neg_mul]
        omega
    refine ⟨?_, near_bd (by rw [hi]; omega) hA⟩
    have h0 : ¬ 0 ≤ Op.cmpValue (FP.dcmp x FP.dconst0) CmpOp.g := by
      rw [cmpV _ hn nn_0, zv_0, if_pos (by omega)]
      decide
    unfold f_X4_nearest f_X5_rint
    simp only [if_neg h0]
    rw [q2] at r2
    rw [cmpV CmpOp.l q1 nn_h, cmpV CmpOp.g q1 nn_mh, cmpV CmpOp.l q1 nn_mh, cmpV CmpOp.l r1 nn_h, q2, zv_h, zv_mh]
    generalize zv (FP.dsub x (FP.i2d (FP.d2i x))) = R at r2 ⊢
    rw [hw, hw2, odd_c (by omega), odd_b (by omega)]
    have b1 : (-1 : Int32) < 0 := by decide
    have b2 : ¬ (0 : Int32) < -1 := by decide
    have b3 : ¬ (-1 : Int32) = 0 := by decide
    have b4 : ¬ (0 : Int32) < 0 := by decide
    have b5 : (0 : Int32) < 1 := by decide
    have b6 : ¬ (1 : Int32) < 0 := by decide
    have b7 : ¬ (1 : Int32) = 0 := by decide
    rw [if_pos (show R < ((2 ^ 1073 : Nat) : Int) by omega), if_neg b2, if_neg b3]
    by_cases c1 : R < -((2 ^ 1073 : Nat) : Int)
    · rw [if_pos c1, if_pos b1, if_neg (show ¬ -R < ((2 ^ 1073 : Nat) : Int) by omega), if_neg (show ¬ -R = ((2 ^ 1073 : Nat) : Int) by omega), if_pos b5, Int32.neg_add]
    · rw [if_neg c1]
      by_cases c2 : R = -((2 ^ 1073 : Nat) : Int)
      · rw [if_pos c2, if_neg b4, if_pos rfl, if_neg (show ¬ -R < ((2 ^ 1073 : Nat) : Int) by omega), if_pos (show -R = ((2 ^ 1073 : Nat) : Int) by omega), if_neg b4, if_pos rfl]
        have k : i % 2 = 0 ∨ i % 2 = 1 := by omega
        rcases k with k | k
        · rw [k, if_pos (show nI 0 = 0 from rfl), if_pos rfl, if_neg (show ¬ nI 0 = 1 by decide)]
        · rw [k, if_neg (show ¬ nI 1 = 0 by decide), if_neg b7, if_pos (show nI 1 = 1 by decide), Int32.neg_add]
      · rw [if_neg c2, if_neg b6, if_neg b7, if_pos (show -R < ((2 ^ 1073 : Nat) : Int) by omega), if_neg b2, if_neg b3]
