theorem rf_z {ad : Nat → Nat} {b i j : Nat} {c : Nat → Int32} (hj : j = i) (h : c i = 0) : va_rf (rf ad b c j) = .null := by
  subst hj
  unfold rf
  rw [if_pos h]
  rfl
theorem rf_s {ad : Nat → Nat} {b i j r : Nat} {c : Nat → Int32} (hj : j = i) (h : ¬ c i = 0) (hr : r = b + i) : va_rf (rf ad b c j) = .ref (ad r) := by
  subst hj
  subst hr
  unfold rf
  rw [if_neg h]
  rfl
theorem rf3_z {ad : Nat → Nat} {b i j : Nat} {c : Nat → Int32} (hj : j = i) (h : c i = 0) : va_rf (rf3 ad b c j) = .null := by
  subst hj
  unfold rf3
  rw [if_pos h]
  rfl
theorem rf3_s {ad : Nat → Nat} {b i j r : Nat} {c : Nat → Int32} (hj : j = i) (h : ¬ c i = 0) (hr : r = 300 + 3 * (b + i)) : va_rf (rf3 ad b c j) = .ref (ad r) := by
  subst hj
  subst hr
  unfold rf3
  rw [if_neg h]
  rfl
theorem vi_of {x : Int32} {n : Nat} (h0 : ¬ x < 0) (h1 : x.toInt < n) : vp_in x n := by
  have h2 : ¬ x.toInt < 0 := fun q => h0 (Int32.lt_iff_toInt_lt.mpr q)
  rintro (q | q)
  · exact h0 q
  · have h3 : x.toNatClampNeg = x.toInt.toNat := rfl
    omega
theorem vi_lt {x : Int32} {n : Nat} (h0 : ¬ x < 0) (h1 : x < nI n) (hn : n < 2 ^ 31 := by decide) : vp_in x n := by
  refine vi_of h0 ?_
  rw [Int32.lt_iff_toInt_lt] at h1
  rw [nI_toInt hn] at h1
  exact h1
theorem vi_ge {x : Int32} {n : Nat} (h0 : ¬ x < 0) (h1 : ¬ nI n ≤ x) (hn : n < 2 ^ 31 := by decide) : vp_in x n := by
  refine vi_of h0 ?_
  rw [Int32.le_iff_toInt_le] at h1
  rw [nI_toInt hn] at h1
  omega

def f_X4_isIn (v : Int32) (lo : Int32) (hi : Int32) : Int32 :=
  if v < lo then 0
  else if hi < v then 0
  else 1
set_option maxHeartbeats 4000000 in
set_option maxRecDepth 100000 in
theorem m_X4_isIn {D : va_G} {cA : Nat → ClassId} {B : Nat} (l : Launch) {H0 : Heap} (v : Int32) (lo : Int32) (hi : Int32) : MetR D cA B l yX4_isIn cX4_isIn 3 (some .boolean) 0 0 [.int v, .int lo, .int hi] H0 (some (.int (f_X4_isIn v lo hi))) := by
  refine MetR.of (by decide) (Nat.le_of_ble_eq_true rfl) ?_
  intro p e s m args below meth c S hr hlk hh K ls hl
  subst hh
  have hS : va_S (fun q => B ≤ q) s.heap s.heap [] := va_S.rf
  have hl : lv_has ls 3 [(0, .int v), (1, .int lo), (2, .int hi)] := hl
  refine lv_iload_n S.1 S.2.1 dX4_isIn_0 rfl (lv_at hl 0 rfl) ?_
  refine lv_iload_n S.1 S.2.1 dX4_isIn_1 rfl (lv_at hl 1 rfl) ?_
  refine lv_icmp_lt (tgt := 14) S.1 S.2.1 dX4_isIn_2 (by decide) (fun c2_1 => ?_) (fun c2_1 => ?_)
  · refine lv_iconst (v := 0) S.1 S.2.1 dX4_isIn_14 (by decide) ?_
    exact ee_rZ S hr hlk (zb_0) (by unfold f_X4_isIn; first | (rw [if_pos c2_1]; done) | (simp only [if_pos c2_1]; done) | rfl) dX4_isIn_15
  · refine lv_iload_n S.1 S.2.1 dX4_isIn_5 rfl (lv_at hl 0 rfl) ?_
    refine lv_iload_n S.1 S.2.1 dX4_isIn_6 rfl (lv_at hl 2 rfl) ?_
    refine lv_icmp_gt (tgt := 14) S.1 S.2.1 dX4_isIn_7 (by decide) (fun c7_2 => ?_) (fun c7_2 => ?_)
    · refine lv_iconst (v := 0) S.1 S.2.1 dX4_isIn_14 (by decide) ?_
      exact ee_rZ S hr hlk (zb_0) (by unfold f_X4_isIn; first | (rw [if_neg c2_1, if_pos c7_2]; done) | (simp only [if_neg c2_1, if_pos c7_2]; done) | rfl) dX4_isIn_15
    · refine lv_iconst (v := 1) S.1 S.2.1 dX4_isIn_10 (by decide) ?_
      refine lv_goto (tgt := 15) S.1 S.2.1 dX4_isIn_11 (by decide) ?_
      exact ee_rZ S hr hlk (zb_1) (by unfold f_X4_isIn; first | (rw [if_neg c2_1, if_neg c7_2]; done) | (simp only [if_neg c2_1, if_neg c7_2]; done) | rfl) dX4_isIn_15

def f_X4_nearest (its : UInt64) : Int32 :=
  if 0 < (Op.cmpValue (FP.dcmp (FP.dsub its (FP.i2d (FP.d2i its))) 4602678819172646912) CmpOp.l) then ((FP.d2i its) + 1)
  else if (Op.cmpValue (FP.dcmp (FP.dsub its (FP.i2d (FP.d2i its))) 4602678819172646912) CmpOp.l) = 0 then (if ((if ((FP.d2i its) &&& 1) = 0 then 0 else 1) : Int32) = 0 then (if (Op.cmpValue (FP.dcmp (FP.dsub its (FP.i2d (FP.d2i its))) 13826050856027422720) CmpOp.g) < 0 then ((FP.d2i its) - 1)
      else if (Op.cmpValue (FP.dcmp (FP.dsub its (FP.i2d (FP.d2i its))) 13826050856027422720) CmpOp.l) = 0 then (FP.d2i its)
      else (FP.d2i its))
    else ((FP.d2i its) + 1))
  else if (Op.cmpValue (FP.dcmp (FP.dsub its (FP.i2d (FP.d2i its))) 13826050856027422720) CmpOp.g) < 0 then ((FP.d2i its) - 1)
  else if (Op.cmpValue (FP.dcmp (FP.dsub its (FP.i2d (FP.d2i its))) 13826050856027422720) CmpOp.l) = 0 then (if ((if ((FP.d2i its) &&& 1) = 0 then 0 else 1) : Int32) = 0 then (FP.d2i its)
    else ((FP.d2i its) - 1))
  else (FP.d2i its)
set_option maxHeartbeats 4000000 in
set_option maxRecDepth 100000 in
theorem m_X4_nearest {D : va_G} {cA : Nat → ClassId} {B : Nat} (l : Launch) {H0 : Heap} (its : UInt64) (hz : FP.dIsNaN its = false) : MetR D cA B l yX4_nearest cX4_nearest 6 (some .int) 0 0 [.double its] H0 (some (.int (f_X4_nearest its))) := by
  refine MetR.of (by decide) (Nat.le_of_ble_eq_true rfl) ?_
  intro p e s m args below meth c S hr hlk hh K ls hl
  subst hh
  have hS : va_S (fun q => B ≤ q) s.heap s.heap [] := va_S.rf
  have hl : lv_has ls 6 [(0, .double its)] := hl
  refine lv_dload_n S.1 S.2.1 dX4_nearest_0 rfl (lv_at hl 0 rfl) ?_
  refine lv_d2i S.1 S.2.1 dX4_nearest_1 ?_
  refine lv_istore_n (lv' := [(2, .int (FP.d2i its)), (0, .double its)]) S.1 S.2.1 dX4_nearest_2 rfl hl (by decide) rfl (fun ls hl => ?_)
  refine lv_dload_n S.1 S.2.1 dX4_nearest_3 rfl (lv_at hl 1 rfl) ?_
  refine lv_iload_n S.1 S.2.1 dX4_nearest_4 rfl (lv_at hl 0 rfl) ?_
  refine lv_i2d S.1 S.2.1 dX4_nearest_5 ?_
  refine lv_dsub S.1 S.2.1 dX4_nearest_6 (vn_of (FP.Core.dsub_out hz (FP.Core.i2d_fin _))) ?_
  refine lv_dstore_n (lv' := [(3, .double (FP.dsub its (FP.i2d (FP.d2i its)))), (2, .int (FP.d2i its)), (0, .double its)]) S.1 S.2.1 dX4_nearest_7 rfl hl (by decide) rfl (fun ls hl => ?_)
  refine lv_iload_n S.1 S.2.1 dX4_nearest_8 rfl (lv_at hl 1 rfl) ?_
  refine lv_iconst (v := 1) S.1 S.2.1 dX4_nearest_9 (by decide) ?_
  refine lv_iand S.1 S.2.1 dX4_nearest_10 ?_
  refine nj (J := 19) (V := ((if ((FP.d2i its) &&& 1) = 0 then 0 else 1) : Int32)) (L := fun v11_1 => [(3, .double (FP.dsub its (FP.i2d (FP.d2i its)))), (2, .int (FP.d2i its)), (0, .double its)]) (St := fun v11_1 => [.int v11_1]) (n := 6) (fun v11_1 ls h11_3 hl => ?_) (fun j11_2 => ?_)
  · try dsimp only at hl ⊢
    subst h11_3
    refine lv_istore (lv' := [(5, .int ((if ((FP.d2i its) &&& 1) = 0 then 0 else 1) : Int32)), (3, .double (FP.dsub its (FP.i2d (FP.d2i its)))), (2, .int (FP.d2i its)), (0, .double its)]) S.1 S.2.1 dX4_nearest_19 hl (by decide) rfl (fun ls hl => ?_)
    refine lv_dload_n S.1 S.2.1 dX4_nearest_21 rfl (lv_at hl 1 rfl) ?_
    refine lv_ldc2d S.1 S.2.1 S.2.2.2.1 (S.2.2.2.2 _ k2_101) dX4_nearest_22 ?_
    refine lv_dcmp S.1 S.2.1 dX4_nearest_25 ?_
    refine lv_if_gt (tgt := 42) S.1 S.2.1 dX4_nearest_26 (by decide) (fun c26_4 => ?_) (fun c26_4 => ?_)
    · refine lv_iload_n S.1 S.2.1 dX4_nearest_42 rfl (lv_at hl 2 rfl) ?_
      refine lv_iconst (v := 1) S.1 S.2.1 dX4_nearest_43 (by decide) ?_
      refine lv_iadd S.1 S.2.1 dX4_nearest_44 ?_
      exact ee_rI S hr hlk (by unfold f_X4_nearest; first | (rw [if_pos c26_4]; done) | (simp only [if_pos c26_4]; done) | rfl) dX4_nearest_45
    · refine lv_dload_n S.1 S.2.1 dX4_nearest_29 rfl (lv_at hl 1 rfl) ?_
      refine lv_ldc2d S.1 S.2.1 S.2.2.2.1 (S.2.2.2.2 _ k2_101) dX4_nearest_30 ?_
      refine lv_dcmp S.1 S.2.1 dX4_nearest_33 ?_
      refine lv_if_ne (tgt := 46) S.1 S.2.1 dX4_nearest_34 (by decide) (fun c34_5 => ?_) (fun c34_5 => ?_)
      · refine lv_dload_n S.1 S.2.1 dX4_nearest_46 rfl (lv_at hl 1 rfl) ?_
        refine lv_ldc2d S.1 S.2.1 S.2.2.2.1 (S.2.2.2.2 _ k2_102) dX4_nearest_47 ?_
        refine lv_dcmp S.1 S.2.1 dX4_nearest_50 ?_
        refine lv_if_lt (tgt := 67) S.1 S.2.1 dX4_nearest_51 (by decide) (fun c51_6 => ?_) (fun c51_6 => ?_)
        · refine lv_iload_n S.1 S.2.1 dX4_nearest_67 rfl (lv_at hl 2 rfl) ?_
          refine lv_iconst (v := 1) S.1 S.2.1 dX4_nearest_68 (by decide) ?_
          refine lv_isub S.1 S.2.1 dX4_nearest_69 ?_
          exact ee_rI S hr hlk (by unfold f_X4_nearest; first | (rw [if_neg c26_4, if_neg c34_5, if_pos c51_6]; done) | (simp only [if_neg c26_4, if_neg c34_5, if_pos c51_6]; done) | rfl) dX4_nearest_70
        · refine lv_dload_n S.1 S.2.1 dX4_nearest_54 rfl (lv_at hl 1 rfl) ?_
          refine lv_ldc2d S.1 S.2.1 S.2.2.2.1 (S.2.2.2.2 _ k2_102) dX4_nearest_55 ?_
          refine lv_dcmp S.1 S.2.1 dX4_nearest_58 ?_
          refine lv_if_ne (tgt := 71) S.1 S.2.1 dX4_nearest_59 (by decide) (fun c59_7 => ?_) (fun c59_7 => ?_)
          · refine lv_iload_n S.1 S.2.1 dX4_nearest_71 rfl (lv_at hl 2 rfl) ?_
            exact ee_rI S hr hlk (by unfold f_X4_nearest; first | (rw [if_neg c26_4, if_neg c34_5, if_neg c51_6, if_neg c59_7]; done) | (simp only [if_neg c26_4, if_neg c34_5, if_neg c51_6, if_neg c59_7]; done) | rfl) dX4_nearest_72
          · refine lv_iload S.1 S.2.1 dX4_nearest_62 (lv_at hl 0 rfl) ?_
            refine lv_if_eq (tgt := 71) S.1 S.2.1 dX4_nearest_64 (by decide) (fun c64_8 => ?_) (fun c64_8 => ?_)
            · refine lv_iload_n S.1 S.2.1 dX4_nearest_71 rfl (lv_at hl 2 rfl) ?_
              exact ee_rI S hr hlk (by unfold f_X4_nearest; first | (rw [if_neg c26_4, if_neg c34_5, if_neg c51_6, if_pos c59_7, if_pos c64_8]; done) | (simp only [if_neg c26_4, if_neg c34_5, if_neg c51_6, if_pos c59_7, if_pos c64_8]; done) | rfl) dX4_nearest_72
            · refine lv_iload_n S.1 S.2.1 dX4_nearest_67 rfl (lv_at hl 2 rfl) ?_
              refine lv_iconst (v := 1) S.1 S.2.1 dX4_nearest_68 (by decide) ?_
              refine lv_isub S.1 S.2.1 dX4_nearest_69 ?_
              exact ee_rI S hr hlk (by unfold f_X4_nearest; first | (rw [if_neg c26_4, if_neg c34_5, if_neg c51_6, if_pos c59_7, if_neg c64_8]; done) | (simp only [if_neg c26_4, if_neg c34_5, if_neg c51_6, if_pos c59_7, if_neg c64_8]; done) | rfl) dX4_nearest_70
      · refine lv_iload S.1 S.2.1 dX4_nearest_37 (lv_at hl 0 rfl) ?_
        refine lv_if_eq (tgt := 46) S.1 S.2.1 dX4_nearest_39 (by decide) (fun c39_9 => ?_) (fun c39_9 => ?_)
        · refine lv_dload_n S.1 S.2.1 dX4_nearest_46 rfl (lv_at hl 1 rfl) ?_
          refine lv_ldc2d S.1 S.2.1 S.2.2.2.1 (S.2.2.2.2 _ k2_102) dX4_nearest_47 ?_
          refine lv_dcmp S.1 S.2.1 dX4_nearest_50 ?_
          refine lv_if_lt (tgt := 67) S.1 S.2.1 dX4_nearest_51 (by decide) (fun c51_10 => ?_) (fun c51_10 => ?_)
          · refine lv_iload_n S.1 S.2.1 dX4_nearest_67 rfl (lv_at hl 2 rfl) ?_
            refine lv_iconst (v := 1) S.1 S.2.1 dX4_nearest_68 (by decide) ?_
            refine lv_isub S.1 S.2.1 dX4_nearest_69 ?_
            exact ee_rI S hr hlk (by unfold f_X4_nearest; first | (rw [if_neg c26_4, if_pos c34_5, if_pos c39_9, if_pos c51_10]; done) | (simp only [if_neg c26_4, if_pos c34_5, if_pos c39_9, if_pos c51_10]; done) | rfl) dX4_nearest_70
          · refine lv_dload_n S.1 S.2.1 dX4_nearest_54 rfl (lv_at hl 1 rfl) ?_
            refine lv_ldc2d S.1 S.2.1 S.2.2.2.1 (S.2.2.2.2 _ k2_102) dX4_nearest_55 ?_
            refine lv_dcmp S.1 S.2.1 dX4_nearest_58 ?_
            refine lv_if_ne (tgt := 71) S.1 S.2.1 dX4_nearest_59 (by decide) (fun c59_11 => ?_) (fun c59_11 => ?_)
            · refine lv_iload_n S.1 S.2.1 dX4_nearest_71 rfl (lv_at hl 2 rfl) ?_
              exact ee_rI S hr hlk (by unfold f_X4_nearest; first | (rw [if_neg c26_4, if_pos c34_5, if_pos c39_9, if_neg c51_10, if_neg c59_11]; done) | (simp only [if_neg c26_4, if_pos c34_5, if_pos c39_9, if_neg c51_10, if_neg c59_11]; done) | rfl) dX4_nearest_72
            · refine lv_iload S.1 S.2.1 dX4_nearest_62 (lv_at hl 0 rfl) ?_
              refine lv_if_eq (tgt := 71) S.1 S.2.1 dX4_nearest_64 (by decide) (fun _ => ?_) (fun c9 => absurd (c39_9) c9)
              refine lv_iload_n S.1 S.2.1 dX4_nearest_71 rfl (lv_at hl 2 rfl) ?_
              exact ee_rI S hr hlk (by unfold f_X4_nearest; first | (rw [if_neg c26_4, if_pos c34_5, if_pos c39_9, if_neg c51_10, if_pos c59_11]; done) | (simp only [if_neg c26_4, if_pos c34_5, if_pos c39_9, if_neg c51_10, if_pos c59_11]; done) | rfl) dX4_nearest_72
        · refine lv_iload_n S.1 S.2.1 dX4_nearest_42 rfl (lv_at hl 2 rfl) ?_
          refine lv_iconst (v := 1) S.1 S.2.1 dX4_nearest_43 (by decide) ?_
          refine lv_iadd S.1 S.2.1 dX4_nearest_44 ?_
          exact ee_rI S hr hlk (by unfold f_X4_nearest; first | (rw [if_neg c26_4, if_pos c34_5, if_neg c39_9]; done) | (simp only [if_neg c26_4, if_pos c34_5, if_neg c39_9]; done) | rfl) dX4_nearest_45
  · refine lv_if_eq (tgt := 18) S.1 S.2.1 dX4_nearest_11 (by decide) (fun c11_12 => ?_) (fun c11_12 => ?_)
    · refine lv_iconst (v := 0) S.1 S.2.1 dX4_nearest_18 (by decide) ?_
      exact j11_2 _ _ (by first | (rw [if_pos c11_12]; done) | (simp only [if_pos c11_12]; done) | rfl) (lv_sub hl [0, 1, 2] rfl)
    · refine lv_iconst (v := 1) S.1 S.2.1 dX4_nearest_14 (by decide) ?_
      refine lv_goto (tgt := 19) S.1 S.2.1 dX4_nearest_15 (by decide) ?_
      exact j11_2 _ _ (by first | (rw [if_neg c11_12]; done) | (simp only [if_neg c11_12]; done) | rfl) (lv_sub hl [0, 1, 2] rfl)

def it12_X3_recount (M : Nat → Nat → Int32) (v : Nat) : Nat → (Nat → Nat → Int32)
  | 0 => (up2 (up2 M (300 + 3 * v) 2 0) (300 + 3 * v) 3 0)
  | n12 + 1 => (if (((it12_X3_recount M v n12)) (300 + 3 * v + 2) n12) = 0 then ((it12_X3_recount M v n12)) else (up2 (up2 (up2 (up2 ((it12_X3_recount M v n12)) (300 + 3 * v) 4 ((if (((it12_X3_recount M v n12)) (300 + 3 * v) 2) = 0 then (((it12_X3_recount M v n12)) (300 + 3 * v + 1) n12) else ((if (((it12_X3_recount M v n12)) (300 + 3 * v + 1) n12) < (((it12_X3_recount M v n12)) (300 + 3 * v) 4) then (((it12_X3_recount M v n12)) (300 + 3 * v + 1) n12) else (((it12_X3_recount M v n12)) (300 + 3 * v) 4)) : Int32)) : Int32)) (300 + 3 * v) 5 ((if (((it12_X3_recount M v n12)) (300 + 3 * v) 2) = 0 then (((it12_X3_recount M v n12)) (300 + 3 * v + 1) n12) else ((if (((it12_X3_recount M v n12)) (300 + 3 * v) 5) < (((it12_X3_recount M v n12)) (300 + 3 * v + 1) n12) then (((it12_X3_recount M v n12)) (300 + 3 * v + 1) n12) else (((it12_X3_recount M v n12)) (300 + 3 * v) 5)) : Int32)) : Int32)) (300 + 3 * v) 3 ((((it12_X3_recount M v n12)) (300 + 3 * v) 3) + (((it12_X3_recount M v n12)) (300 + 3 * v + 1) n12))) (300 + 3 * v) 2 ((((it12_X3_recount M v n12)) (300 + 3 * v) 2) + 1)))
def g_X3_recount (M : Nat → Nat → Int32) (v : Nat) : Nat → Nat → Int32 :=
  ((it12_X3_recount M v 7))
set_option maxHeartbeats 4000000 in
set_option maxRecDepth 100000 in
theorem m_X3_recount {D : va_G} {cA : Nat → ClassId} {B : Nat} (l : Launch) {dom : Nat → Prop} {ad : Nat → Nat} {X : Nat → va_E} {H0 : Heap} (M : Nat → Nat → Int32) (v : Nat) (N : kw D cA B dom ad X M H0) (h_v : v < 324) (d_v : dV dom v) : MetW D cA B l yX3_recount cX3_recount 2 none 1 21 0 0 [.ref (ad (300 + 3 * v))] H0 (fun o h => o = none ∧ kw D cA B dom ad X (g_X3_recount M v) h) := by
  refine MetW.of (by decide) (Nat.le_of_ble_eq_true rfl) ?_
  intro p e s m args below meth c S hr hlk hin hh K ls hl
  subst hh
  have hS : va_S (fun q => B ≤ q) s.heap s.heap [] := va_S.rf
  have hl : lv_has ls 2 [(0, .ref (ad (300 + 3 * v)))] := hl
  refine lv_aload_n S.1 S.2.1 dX3_recount_0 rfl (lv_at hl 0 rfl) ?_
  refine lv_iconst (v := 0) S.1 S.2.1 dX3_recount_1 (by decide) ?_
  refine kr_put S K N hS (300 + 3 * v) (by unfold crole; omega) (d_v.1) (sh_V) (C0 := RX3) (T := TX3) (n := 6) rfl iWX3 tyX3 tyX3_ok nmX3 2 (by decide) k1_152 rfl rfl 0 (by rw [sh_V, fsV_set _ _ _ _ _ (by decide)]) (rfl) rfl (show 2 < 6 by decide) dX3_recount_2 (fun H locs N hS => ?_)
  refine lv_aload_n S.1 S.2.1 dX3_recount_5 rfl (lv_at hl 0 rfl) ?_
  refine lv_iconst (v := 0) S.1 S.2.1 dX3_recount_6 (by decide) ?_
  refine kr_put S K N hS (300 + 3 * v) (by unfold crole; omega) (d_v.1) (sh_V) (C0 := RX3) (T := TX3) (n := 6) rfl iWX3 tyX3 tyX3_ok nmX3 3 (by decide) k1_153 rfl rfl 0 (by rw [sh_V, fsV_set _ _ _ _ _ (by decide)]) (rfl) rfl (show 3 < 6 by decide) dX3_recount_7 (fun H locs N hS => ?_)
  refine lv_iconst (v := 0) S.1 S.2.1 dX3_recount_10 (by decide) ?_
  refine lv_istore_n (lv' := [(1, .int 0), (0, .ref (ad (300 + 3 * v)))]) S.1 S.2.1 dX3_recount_11 rfl hl (by decide) rfl (fun ls hl => ?_)
  refine nlM (B := B) (h := 12) (N := 7) (n := 2) (PH := fun (i12 : Nat) (H : Heap) => kw D cA B dom ad X ((it12_X3_recount M v i12)) H) (L := fun i12 : Nat => [(1, .int (nI i12)), (0, .ref (ad (300 + 3 * v)))]) (fun ls H locs N hS hl => ?_) (fun i12 hi12 ih12 ls H locs N hS hl => ?_) ls _ _ N hS (lv_sub hl [0, 1] rfl)
  · try dsimp only at hl
    refine lv_iload_n S.1 S.2.1 dX3_recount_12 rfl (lv_at hl 0 rfl) ?_
    refine lv_aload_n S.1 S.2.1 dX3_recount_13 rfl (lv_at hl 1 rfl) ?_
    refine kr_get S K N (300 + 3 * v) (by unfold crole; omega) (d_v.1) (sh_V) (C0 := RX3) (T := TX3) (n := 6) rfl iWX3 0 (by decide) k1_150 rfl (v := .ref (ad (300 + 3 * v + 1))) rfl dX3_recount_14 ?_
    refine kr_alen S K N (300 + 3 * v + 1) (by unfold crole; omega) (d_v.2.1) 0 rfl (sh_Vn) (v := 7) rfl dX3_recount_17 ?_
    refine lv_icmp_ge (tgt := 136) S.1 S.2.1 dX3_recount_18 (by decide) (fun _ => ?_) (fun c9 => absurd (nI_le (Nat.le_refl _) (by first | omega | decide)) c9)
    exact ne_wV S hS hr hlk ⟨rfl, N⟩ dX3_recount_136
  · try dsimp only at hl
    refine lv_iload_n S.1 S.2.1 dX3_recount_12 rfl (lv_at hl 0 rfl) ?_
    refine lv_aload_n S.1 S.2.1 dX3_recount_13 rfl (lv_at hl 1 rfl) ?_
    refine kr_get S K N (300 + 3 * v) (by unfold crole; omega) (d_v.1) (sh_V) (C0 := RX3) (T := TX3) (n := 6) rfl iWX3 0 (by decide) k1_150 rfl (v := .ref (ad (300 + 3 * v + 1))) rfl dX3_recount_14 ?_
    refine kr_alen S K N (300 + 3 * v + 1) (by unfold crole; omega) (d_v.2.1) 0 rfl (sh_Vn) (v := 7) rfl dX3_recount_17 ?_
    refine lv_icmp_ge (tgt := 136) S.1 S.2.1 dX3_recount_18 (by decide) (fun c9 => absurd c9 (nI_ge (hi12) (by first | omega | decide))) (fun _ => ?_)
    refine lv_iload_n S.1 S.2.1 dX3_recount_21 rfl (lv_at hl 0 rfl) ?_
    refine lv_aload_n S.1 S.2.1 dX3_recount_22 rfl (lv_at hl 1 rfl) ?_
    refine kr_get S K N (300 + 3 * v) (by unfold crole; omega) (d_v.1) (sh_V) (C0 := RX3) (T := TX3) (n := 6) rfl iWX3 1 (by decide) k1_151 rfl (v := .ref (ad (300 + 3 * v + 2))) rfl dX3_recount_23 ?_
    refine kr_alen S K N (300 + 3 * v + 2) (by unfold crole; omega) (d_v.2.2) 1 rfl (sh_Vt) (v := 7) rfl dX3_recount_26 ?_
    refine lv_icmp_ge (tgt := 136) S.1 S.2.1 dX3_recount_27 (by decide) (fun c9 => absurd c9 (nI_ge hi12 (by first | omega | decide))) (fun _ => ?_)
    refine lv_aload_n S.1 S.2.1 dX3_recount_30 rfl (lv_at hl 1 rfl) ?_
    refine kr_get S K N (300 + 3 * v) (by unfold crole; omega) (d_v.1) (sh_V) (C0 := RX3) (T := TX3) (n := 6) rfl iWX3 1 (by decide) k1_151 rfl (v := .ref (ad (300 + 3 * v + 2))) rfl dX3_recount_31 ?_
    refine lv_iload_n S.1 S.2.1 dX3_recount_34 rfl (lv_at hl 0 rfl) ?_
    refine kr_zald S K N (300 + 3 * v + 2) (by unfold crole; omega) (d_v.2.2) (sh_Vt) (v := (((it12_X3_recount M v i12)) (300 + 3 * v + 2) i12)) (vp_in_nI (show i12 < 7 by omega) (by decide)) (congrArg (((it12_X3_recount M v i12)) (300 + 3 * v + 2)) (nI_clamp (show i12 < 2 ^ 31 by omega))) dX3_recount_35 ?_
    refine lv_if_eq (tgt := 130) S.1 S.2.1 dX3_recount_36 (by decide) (fun c36_1 => ?_) (fun c36_1 => ?_)
    · refine lv_iinc (v := nI (i12 + 1)) (lv' := [(1, .int (nI (i12 + 1))), (0, .ref (ad (300 + 3 * v)))]) S.1 S.2.1 dX3_recount_130 hl (k := 0) rfl (nI_add i12 1) (by decide) rfl (fun ls hl => ?_)
      refine lv_goto (tgt := 12) S.1 S.2.1 dX3_recount_133 (by decide) ?_
      have hstep : (it12_X3_recount M v (i12 + 1)) = ((it12_X3_recount M v i12)) := by
        show (_ : _) = _
        simp only [it12_X3_recount, if_pos c36_1]
      refine ih12 ls _ _ (by rw [hstep]; exact N) hS (by (try rw [hstep]); exact lv_sub hl [0, 1] rfl)
    · refine lv_aload_n S.1 S.2.1 dX3_recount_39 rfl (lv_at hl 1 rfl) ?_
      refine lv_aload_n S.1 S.2.1 dX3_recount_40 rfl (lv_at hl 1 rfl) ?_
      refine kr_get S K N (300 + 3 * v) (by unfold crole; omega) (d_v.1) (sh_V) (C0 := RX3) (T := TX3) (n := 6) rfl iWX3 2 (by decide) k1_152 rfl (v := .int (((it12_X3_recount M v i12)) (300 + 3 * v) 2)) rfl dX3_recount_41 ?_
      refine nj (J := 69) (V := ((if (((it12_X3_recount M v i12)) (300 + 3 * v) 2) = 0 then (((it12_X3_recount M v i12)) (300 + 3 * v + 1) i12) else ((if (((it12_X3_recount M v i12)) (300 + 3 * v + 1) i12) < (((it12_X3_recount M v i12)) (300 + 3 * v) 4) then (((it12_X3_recount M v i12)) (300 + 3 * v + 1) i12) else (((it12_X3_recount M v i12)) (300 + 3 * v) 4)) : Int32)) : Int32)) (L := fun v44_2 => [(1, .int (nI i12)), (0, .ref (ad (300 + 3 * v)))]) (St := fun v44_2 => [.int v44_2, .ref (ad (300 + 3 * v))]) (n := 2) (fun v44_2 ls h44_4 hl => ?_) (fun j44_3 => ?_)
      · try dsimp only at hl ⊢
        subst h44_4
        refine kr_put S K N hS (300 + 3 * v) (by unfold crole; omega) (d_v.1) (sh_V) (C0 := RX3) (T := TX3) (n := 6) rfl iWX3 tyX3 tyX3_ok nmX3 4 (by decide) k1_154 rfl rfl ((if (((it12_X3_recount M v i12)) (300 + 3 * v) 2) = 0 then (((it12_X3_recount M v i12)) (300 + 3 * v + 1) i12) else ((if (((it12_X3_recount M v i12)) (300 + 3 * v + 1) i12) < (((it12_X3_recount M v i12)) (300 + 3 * v) 4) then (((it12_X3_recount M v i12)) (300 + 3 * v + 1) i12) else (((it12_X3_recount M v i12)) (300 + 3 * v) 4)) : Int32)) : Int32) (by rw [sh_V, fsV_set _ _ _ _ _ (by decide)]) (rfl) rfl (show 4 < 6 by decide) dX3_recount_69 (fun H locs N hS => ?_)
        refine lv_aload_n S.1 S.2.1 dX3_recount_72 rfl (lv_at hl 1 rfl) ?_
        refine lv_aload_n S.1 S.2.1 dX3_recount_73 rfl (lv_at hl 1 rfl) ?_
        refine kr_get S K N (300 + 3 * v) (by unfold crole; omega) (d_v.1) (sh_V) (C0 := RX3) (T := TX3) (n := 6) rfl iWX3 2 (by decide) k1_152 rfl (v := .int ((up2 ((it12_X3_recount M v i12)) (300 + 3 * v) 4 ((if (((it12_X3_recount M v i12)) (300 + 3 * v) 2) = 0 then (((it12_X3_recount M v i12)) (300 + 3 * v + 1) i12) else ((if (((it12_X3_recount M v i12)) (300 + 3 * v + 1) i12) < (((it12_X3_recount M v i12)) (300 + 3 * v) 4) then (((it12_X3_recount M v i12)) (300 + 3 * v + 1) i12) else (((it12_X3_recount M v i12)) (300 + 3 * v) 4)) : Int32)) : Int32)) (300 + 3 * v) 2)) rfl dX3_recount_74 ?_
        refine nt_i (y := (((it12_X3_recount M v i12)) (300 + 3 * v) 2)) (by simp [up2]) ?_
        refine nj (J := 102) (V := ((if (((it12_X3_recount M v i12)) (300 + 3 * v) 2) = 0 then (((it12_X3_recount M v i12)) (300 + 3 * v + 1) i12) else ((if (((it12_X3_recount M v i12)) (300 + 3 * v) 5) < (((it12_X3_recount M v i12)) (300 + 3 * v + 1) i12) then (((it12_X3_recount M v i12)) (300 + 3 * v + 1) i12) else (((it12_X3_recount M v i12)) (300 + 3 * v) 5)) : Int32)) : Int32)) (L := fun v77_5 => [(1, .int (nI i12)), (0, .ref (ad (300 + 3 * v)))]) (St := fun v77_5 => [.int v77_5, .ref (ad (300 + 3 * v))]) (n := 2) (fun v77_5 ls h77_7 hl => ?_) (fun j77_6 => ?_)
        · try dsimp only at hl ⊢
          subst h77_7
          refine kr_put S K N hS (300 + 3 * v) (by unfold crole; omega) (d_v.1) (sh_V) (C0 := RX3) (T := TX3) (n := 6) rfl iWX3 tyX3 tyX3_ok nmX3 5 (by decide) k1_155 rfl rfl ((if (((it12_X3_recount M v i12)) (300 + 3 * v) 2) = 0 then (((it12_X3_recount M v i12)) (300 + 3 * v + 1) i12) else ((if (((it12_X3_recount M v i12)) (300 + 3 * v) 5) < (((it12_X3_recount M v i12)) (300 + 3 * v + 1) i12) then (((it12_X3_recount M v i12)) (300 + 3 * v + 1) i12) else (((it12_X3_recount M v i12)) (300 + 3 * v) 5)) : Int32)) : Int32) (by rw [sh_V, fsV_set _ _ _ _ _ (by decide)]) (rfl) rfl (show 5 < 6 by decide) dX3_recount_102 (fun H locs N hS => ?_)
          refine lv_aload_n S.1 S.2.1 dX3_recount_105 rfl (lv_at hl 1 rfl) ?_
          refine lv_dup S.1 S.2.1 dX3_recount_106 rfl ?_
          refine kr_get S K N (300 + 3 * v) (by unfold crole; omega) (d_v.1) (sh_V) (C0 := RX3) (T := TX3) (n := 6) rfl iWX3 3 (by decide) k1_153 rfl (v := .int ((up2 (up2 ((it12_X3_recount M v i12)) (300 + 3 * v) 4 ((if (((it12_X3_recount M v i12)) (300 + 3 * v) 2) = 0 then (((it12_X3_recount M v i12)) (300 + 3 * v + 1) i12) else ((if (((it12_X3_recount M v i12)) (300 + 3 * v + 1) i12) < (((it12_X3_recount M v i12)) (300 + 3 * v) 4) then (((it12_X3_recount M v i12)) (300 + 3 * v + 1) i12) else (((it12_X3_recount M v i12)) (300 + 3 * v) 4)) : Int32)) : Int32)) (300 + 3 * v) 5 ((if (((it12_X3_recount M v i12)) (300 + 3 * v) 2) = 0 then (((it12_X3_recount M v i12)) (300 + 3 * v + 1) i12) else ((if (((it12_X3_recount M v i12)) (300 + 3 * v) 5) < (((it12_X3_recount M v i12)) (300 + 3 * v + 1) i12) then (((it12_X3_recount M v i12)) (300 + 3 * v + 1) i12) else (((it12_X3_recount M v i12)) (300 + 3 * v) 5)) : Int32)) : Int32)) (300 + 3 * v) 3)) rfl dX3_recount_107 ?_
          refine nt_i (y := (((it12_X3_recount M v i12)) (300 + 3 * v) 3)) (by simp [up2]) ?_
          refine lv_aload_n S.1 S.2.1 dX3_recount_110 rfl (lv_at hl 1 rfl) ?_
          refine kr_get S K N (300 + 3 * v) (by unfold crole; omega) (d_v.1) (sh_V) (C0 := RX3) (T := TX3) (n := 6) rfl iWX3 0 (by decide) k1_150 rfl (v := .ref (ad (300 + 3 * v + 1))) rfl dX3_recount_111 ?_
          refine lv_iload_n S.1 S.2.1 dX3_recount_114 rfl (lv_at hl 0 rfl) ?_
          refine kr_iald S K N (300 + 3 * v + 1) (by unfold crole; omega) (d_v.2.1) (sh_Vn) (v := ((up2 (up2 ((it12_X3_recount M v i12)) (300 + 3 * v) 4 ((if (((it12_X3_recount M v i12)) (300 + 3 * v) 2) = 0 then (((it12_X3_recount M v i12)) (300 + 3 * v + 1) i12) else ((if (((it12_X3_recount M v i12)) (300 + 3 * v + 1) i12) < (((it12_X3_recount M v i12)) (300 + 3 * v) 4) then (((it12_X3_recount M v i12)) (300 + 3 * v + 1) i12) else (((it12_X3_recount M v i12)) (300 + 3 * v) 4)) : Int32)) : Int32)) (300 + 3 * v) 5 ((if (((it12_X3_recount M v i12)) (300 + 3 * v) 2) = 0 then (((it12_X3_recount M v i12)) (300 + 3 * v + 1) i12) else ((if (((it12_X3_recount M v i12)) (300 + 3 * v) 5) < (((it12_X3_recount M v i12)) (300 + 3 * v + 1) i12) then (((it12_X3_recount M v i12)) (300 + 3 * v + 1) i12) else (((it12_X3_recount M v i12)) (300 + 3 * v) 5)) : Int32)) : Int32)) (300 + 3 * v + 1) i12)) (vp_in_nI (show i12 < 7 by omega) (by decide)) (congrArg ((up2 (up2 ((it12_X3_recount M v i12)) (300 + 3 * v) 4 ((if (((it12_X3_recount M v i12)) (300 + 3 * v) 2) = 0 then (((it12_X3_recount M v i12)) (300 + 3 * v + 1) i12) else ((if (((it12_X3_recount M v i12)) (300 + 3 * v + 1) i12) < (((it12_X3_recount M v i12)) (300 + 3 * v) 4) then (((it12_X3_recount M v i12)) (300 + 3 * v + 1) i12) else (((it12_X3_recount M v i12)) (300 + 3 * v) 4)) : Int32)) : Int32)) (300 + 3 * v) 5 ((if (((it12_X3_recount M v i12)) (300 + 3 * v) 2) = 0 then (((it12_X3_recount M v i12)) (300 + 3 * v + 1) i12) else ((if (((it12_X3_recount M v i12)) (300 + 3 * v) 5) < (((it12_X3_recount M v i12)) (300 + 3 * v + 1) i12) then (((it12_X3_recount M v i12)) (300 + 3 * v + 1) i12) else (((it12_X3_recount M v i12)) (300 + 3 * v) 5)) : Int32)) : Int32)) (300 + 3 * v + 1)) (nI_clamp (show i12 < 2 ^ 31 by omega))) dX3_recount_115 ?_
          refine nt_i (y := (((it12_X3_recount M v i12)) (300 + 3 * v + 1) i12)) (by simp [up2]) ?_
          refine lv_iadd S.1 S.2.1 dX3_recount_116 ?_
          refine kr_put S K N hS (300 + 3 * v) (by unfold crole; omega) (d_v.1) (sh_V) (C0 := RX3) (T := TX3) (n := 6) rfl iWX3 tyX3 tyX3_ok nmX3 3 (by decide) k1_153 rfl rfl ((((it12_X3_recount M v i12)) (300 + 3 * v) 3) + (((it12_X3_recount M v i12)) (300 + 3 * v + 1) i12)) (by rw [sh_V, fsV_set _ _ _ _ _ (by decide)]) (rfl) rfl (show 3 < 6 by decide) dX3_recount_117 (fun H locs N hS => ?_)
          refine lv_aload_n S.1 S.2.1 dX3_recount_120 rfl (lv_at hl 1 rfl) ?_
          refine lv_dup S.1 S.2.1 dX3_recount_121 rfl ?_
          refine kr_get S K N (300 + 3 * v) (by unfold crole; omega) (d_v.1) (sh_V) (C0 := RX3) (T := TX3) (n := 6) rfl iWX3 2 (by decide) k1_152 rfl (v := .int ((up2 (up2 (up2 ((it12_X3_recount M v i12)) (300 + 3 * v) 4 ((if (((it12_X3_recount M v i12)) (300 + 3 * v) 2) = 0 then (((it12_X3_recount M v i12)) (300 + 3 * v + 1) i12) else ((if (((it12_X3_recount M v i12)) (300 + 3 * v + 1) i12) < (((it12_X3_recount M v i12)) (300 + 3 * v) 4) then (((it12_X3_recount M v i12)) (300 + 3 * v + 1) i12) else (((it12_X3_recount M v i12)) (300 + 3 * v) 4)) : Int32)) : Int32)) (300 + 3 * v) 5 ((if (((it12_X3_recount M v i12)) (300 + 3 * v) 2) = 0 then (((it12_X3_recount M v i12)) (300 + 3 * v + 1) i12) else ((if (((it12_X3_recount M v i12)) (300 + 3 * v) 5) < (((it12_X3_recount M v i12)) (300 + 3 * v + 1) i12) then (((it12_X3_recount M v i12)) (300 + 3 * v + 1) i12) else (((it12_X3_recount M v i12)) (300 + 3 * v) 5)) : Int32)) : Int32)) (300 + 3 * v) 3 ((((it12_X3_recount M v i12)) (300 + 3 * v) 3) + (((it12_X3_recount M v i12)) (300 + 3 * v + 1) i12))) (300 + 3 * v) 2)) rfl dX3_recount_122 ?_
          refine nt_i (y := (((it12_X3_recount M v i12)) (300 + 3 * v) 2)) (by simp [up2]) ?_
          refine lv_iconst (v := 1) S.1 S.2.1 dX3_recount_125 (by decide) ?_
          refine lv_iadd S.1 S.2.1 dX3_recount_126 ?_
          refine kr_put S K N hS (300 + 3 * v) (by unfold crole; omega) (d_v.1) (sh_V) (C0 := RX3) (T := TX3) (n := 6) rfl iWX3 tyX3 tyX3_ok nmX3 2 (by decide) k1_152 rfl rfl ((((it12_X3_recount M v i12)) (300 + 3 * v) 2) + 1) (by rw [sh_V, fsV_set _ _ _ _ _ (by decide)]) (rfl) rfl (show 2 < 6 by decide) dX3_recount_127 (fun H locs N hS => ?_)
          refine lv_iinc (v := nI (i12 + 1)) (lv' := [(1, .int (nI (i12 + 1))), (0, .ref (ad (300 + 3 * v)))]) S.1 S.2.1 dX3_recount_130 hl (k := 0) rfl (nI_add i12 1) (by decide) rfl (fun ls hl => ?_)
          refine lv_goto (tgt := 12) S.1 S.2.1 dX3_recount_133 (by decide) ?_
          have hstep : (it12_X3_recount M v (i12 + 1)) = (up2 (up2 (up2 (up2 ((it12_X3_recount M v i12)) (300 + 3 * v) 4 ((if (((it12_X3_recount M v i12)) (300 + 3 * v) 2) = 0 then (((it12_X3_recount M v i12)) (300 + 3 * v + 1) i12) else ((if (((it12_X3_recount M v i12)) (300 + 3 * v + 1) i12) < (((it12_X3_recount M v i12)) (300 + 3 * v) 4) then (((it12_X3_recount M v i12)) (300 + 3 * v + 1) i12) else (((it12_X3_recount M v i12)) (300 + 3 * v) 4)) : Int32)) : Int32)) (300 + 3 * v) 5 ((if (((it12_X3_recount M v i12)) (300 + 3 * v) 2) = 0 then (((it12_X3_recount M v i12)) (300 + 3 * v + 1) i12) else ((if (((it12_X3_recount M v i12)) (300 + 3 * v) 5) < (((it12_X3_recount M v i12)) (300 + 3 * v + 1) i12) then (((it12_X3_recount M v i12)) (300 + 3 * v + 1) i12) else (((it12_X3_recount M v i12)) (300 + 3 * v) 5)) : Int32)) : Int32)) (300 + 3 * v) 3 ((((it12_X3_recount M v i12)) (300 + 3 * v) 3) + (((it12_X3_recount M v i12)) (300 + 3 * v + 1) i12))) (300 + 3 * v) 2 ((((it12_X3_recount M v i12)) (300 + 3 * v) 2) + 1)) := by
            show (_ : _) = _
            simp only [it12_X3_recount, if_neg c36_1]
          refine ih12 ls _ _ (by rw [hstep]; exact N) hS (by (try rw [hstep]); exact lv_sub hl [0, 1] rfl)
        · refine lv_if_ne (tgt := 89) S.1 S.2.1 dX3_recount_77 (by decide) (fun c77_8 => ?_) (fun c77_8 => ?_)
          · refine lv_aload_n S.1 S.2.1 dX3_recount_89 rfl (lv_at hl 1 rfl) ?_
            refine kr_get S K N (300 + 3 * v) (by unfold crole; omega) (d_v.1) (sh_V) (C0 := RX3) (T := TX3) (n := 6) rfl iWX3 5 (by decide) k1_155 rfl (v := .int ((up2 ((it12_X3_recount M v i12)) (300 + 3 * v) 4 ((if (((it12_X3_recount M v i12)) (300 + 3 * v) 2) = 0 then (((it12_X3_recount M v i12)) (300 + 3 * v + 1) i12) else ((if (((it12_X3_recount M v i12)) (300 + 3 * v + 1) i12) < (((it12_X3_recount M v i12)) (300 + 3 * v) 4) then (((it12_X3_recount M v i12)) (300 + 3 * v + 1) i12) else (((it12_X3_recount M v i12)) (300 + 3 * v) 4)) : Int32)) : Int32)) (300 + 3 * v) 5)) rfl dX3_recount_90 ?_
            refine nt_i (y := (((it12_X3_recount M v i12)) (300 + 3 * v) 5)) (by simp [up2]) ?_
            refine lv_aload_n S.1 S.2.1 dX3_recount_93 rfl (lv_at hl 1 rfl) ?_
            refine kr_get S K N (300 + 3 * v) (by unfold crole; omega) (d_v.1) (sh_V) (C0 := RX3) (T := TX3) (n := 6) rfl iWX3 0 (by decide) k1_150 rfl (v := .ref (ad (300 + 3 * v + 1))) rfl dX3_recount_94 ?_
            refine lv_iload_n S.1 S.2.1 dX3_recount_97 rfl (lv_at hl 0 rfl) ?_
            refine kr_iald S K N (300 + 3 * v + 1) (by unfold crole; omega) (d_v.2.1) (sh_Vn) (v := ((up2 ((it12_X3_recount M v i12)) (300 + 3 * v) 4 ((if (((it12_X3_recount M v i12)) (300 + 3 * v) 2) = 0 then (((it12_X3_recount M v i12)) (300 + 3 * v + 1) i12) else ((if (((it12_X3_recount M v i12)) (300 + 3 * v + 1) i12) < (((it12_X3_recount M v i12)) (300 + 3 * v) 4) then (((it12_X3_recount M v i12)) (300 + 3 * v + 1) i12) else (((it12_X3_recount M v i12)) (300 + 3 * v) 4)) : Int32)) : Int32)) (300 + 3 * v + 1) i12)) (vp_in_nI (show i12 < 7 by omega) (by decide)) (congrArg ((up2 ((it12_X3_recount M v i12)) (300 + 3 * v) 4 ((if (((it12_X3_recount M v i12)) (300 + 3 * v) 2) = 0 then (((it12_X3_recount M v i12)) (300 + 3 * v + 1) i12) else ((if (((it12_X3_recount M v i12)) (300 + 3 * v + 1) i12) < (((it12_X3_recount M v i12)) (300 + 3 * v) 4) then (((it12_X3_recount M v i12)) (300 + 3 * v + 1) i12) else (((it12_X3_recount M v i12)) (300 + 3 * v) 4)) : Int32)) : Int32)) (300 + 3 * v + 1)) (nI_clamp (show i12 < 2 ^ 31 by omega))) dX3_recount_98 ?_
            refine nt_i (y := (((it12_X3_recount M v i12)) (300 + 3 * v + 1) i12)) (by simp [up2]) ?_
            refine va_mmax S.1 S.2.1 (S.2.2.1.trans hl.1.symm) S.2.2.2.1 (S.2.2.2.2 _ k2_45) (S.2.2.2.2 _ k2_46) (S.2.2.2.2 _ k1_12) (S.2.2.2.2 _ k2_47) (Nat.le_of_ble_eq_true rfl) (Nat.le_of_ble_eq_true rfl) (Nat.le_of_ble_eq_true rfl) (Nat.le_of_ble_eq_true rfl) dX3_recount_99 ?_
            exact j77_6 _ _ (by first | (rw [if_neg c77_8]; done) | (simp only [if_neg c77_8]; done) | rfl) (lv_sub hl [0, 1] rfl)
          · refine lv_aload_n S.1 S.2.1 dX3_recount_80 rfl (lv_at hl 1 rfl) ?_
            refine kr_get S K N (300 + 3 * v) (by unfold crole; omega) (d_v.1) (sh_V) (C0 := RX3) (T := TX3) (n := 6) rfl iWX3 0 (by decide) k1_150 rfl (v := .ref (ad (300 + 3 * v + 1))) rfl dX3_recount_81 ?_
            refine lv_iload_n S.1 S.2.1 dX3_recount_84 rfl (lv_at hl 0 rfl) ?_
            refine kr_iald S K N (300 + 3 * v + 1) (by unfold crole; omega) (d_v.2.1) (sh_Vn) (v := ((up2 ((it12_X3_recount M v i12)) (300 + 3 * v) 4 ((if (((it12_X3_recount M v i12)) (300 + 3 * v) 2) = 0 then (((it12_X3_recount M v i12)) (300 + 3 * v + 1) i12) else ((if (((it12_X3_recount M v i12)) (300 + 3 * v + 1) i12) < (((it12_X3_recount M v i12)) (300 + 3 * v) 4) then (((it12_X3_recount M v i12)) (300 + 3 * v + 1) i12) else (((it12_X3_recount M v i12)) (300 + 3 * v) 4)) : Int32)) : Int32)) (300 + 3 * v + 1) i12)) (vp_in_nI (show i12 < 7 by omega) (by decide)) (congrArg ((up2 ((it12_X3_recount M v i12)) (300 + 3 * v) 4 ((if (((it12_X3_recount M v i12)) (300 + 3 * v) 2) = 0 then (((it12_X3_recount M v i12)) (300 + 3 * v + 1) i12) else ((if (((it12_X3_recount M v i12)) (300 + 3 * v + 1) i12) < (((it12_X3_recount M v i12)) (300 + 3 * v) 4) then (((it12_X3_recount M v i12)) (300 + 3 * v + 1) i12) else (((it12_X3_recount M v i12)) (300 + 3 * v) 4)) : Int32)) : Int32)) (300 + 3 * v + 1)) (nI_clamp (show i12 < 2 ^ 31 by omega))) dX3_recount_85 ?_
            refine nt_i (y := (((it12_X3_recount M v i12)) (300 + 3 * v + 1) i12)) (by simp [up2]) ?_
            refine lv_goto (tgt := 102) S.1 S.2.1 dX3_recount_86 (by decide) ?_
            exact j77_6 _ _ (by first | (rw [if_pos c77_8]; done) | (simp only [if_pos c77_8]; done) | rfl) (lv_sub hl [0, 1] rfl)
      · refine lv_if_ne (tgt := 56) S.1 S.2.1 dX3_recount_44 (by decide) (fun c44_9 => ?_) (fun c44_9 => ?_)
        · refine lv_aload_n S.1 S.2.1 dX3_recount_56 rfl (lv_at hl 1 rfl) ?_
          refine kr_get S K N (300 + 3 * v) (by unfold crole; omega) (d_v.1) (sh_V) (C0 := RX3) (T := TX3) (n := 6) rfl iWX3 4 (by decide) k1_154 rfl (v := .int (((it12_X3_recount M v i12)) (300 + 3 * v) 4)) rfl dX3_recount_57 ?_
          refine lv_aload_n S.1 S.2.1 dX3_recount_60 rfl (lv_at hl 1 rfl) ?_
          refine kr_get S K N (300 + 3 * v) (by unfold crole; omega) (d_v.1) (sh_V) (C0 := RX3) (T := TX3) (n := 6) rfl iWX3 0 (by decide) k1_150 rfl (v := .ref (ad (300 + 3 * v + 1))) rfl dX3_recount_61 ?_
          refine lv_iload_n S.1 S.2.1 dX3_recount_64 rfl (lv_at hl 0 rfl) ?_
          refine kr_iald S K N (300 + 3 * v + 1) (by unfold crole; omega) (d_v.2.1) (sh_Vn) (v := (((it12_X3_recount M v i12)) (300 + 3 * v + 1) i12)) (vp_in_nI (show i12 < 7 by omega) (by decide)) (congrArg (((it12_X3_recount M v i12)) (300 + 3 * v + 1)) (nI_clamp (show i12 < 2 ^ 31 by omega))) dX3_recount_65 ?_
          refine va_mmin S.1 S.2.1 (S.2.2.1.trans hl.1.symm) S.2.2.2.1 (S.2.2.2.2 _ k2_42) (S.2.2.2.2 _ k2_43) (S.2.2.2.2 _ k1_12) (S.2.2.2.2 _ k2_44) (Nat.le_of_ble_eq_true rfl) (Nat.le_of_ble_eq_true rfl) (Nat.le_of_ble_eq_true rfl) (Nat.le_of_ble_eq_true rfl) dX3_recount_66 ?_
          exact j44_3 _ _ (by first | (rw [if_neg c44_9]; done) | (simp only [if_neg c44_9]; done) | rfl) (lv_sub hl [0, 1] rfl)
        · refine lv_aload_n S.1 S.2.1 dX3_recount_47 rfl (lv_at hl 1 rfl) ?_
          refine kr_get S K N (300 + 3 * v) (by unfold crole; omega) (d_v.1) (sh_V) (C0 := RX3) (T := TX3) (n := 6) rfl iWX3 0 (by decide) k1_150 rfl (v := .ref (ad (300 + 3 * v + 1))) rfl dX3_recount_48 ?_
          refine lv_iload_n S.1 S.2.1 dX3_recount_51 rfl (lv_at hl 0 rfl) ?_
          refine kr_iald S K N (300 + 3 * v + 1) (by unfold crole; omega) (d_v.2.1) (sh_Vn) (v := (((it12_X3_recount M v i12)) (300 + 3 * v + 1) i12)) (vp_in_nI (show i12 < 7 by omega) (by decide)) (congrArg (((it12_X3_recount M v i12)) (300 + 3 * v + 1)) (nI_clamp (show i12 < 2 ^ 31 by omega))) dX3_recount_52 ?_
          refine lv_goto (tgt := 69) S.1 S.2.1 dX3_recount_53 (by decide) ?_
          exact j44_3 _ _ (by first | (rw [if_pos c44_9]; done) | (simp only [if_pos c44_9]; done) | rfl) (lv_sub hl [0, 1] rfl)

def f_X3_isSeat (M : Nat → Nat → Int32) (v : Nat) (p0 : Int32) : Int32 :=
  if p0 < 0 then 0
  else if 7 ≤ p0 then 0
  else 1
set_option maxHeartbeats 4000000 in
set_option maxRecDepth 100000 in
theorem m_X3_isSeat {D : va_G} {cA : Nat → ClassId} {B : Nat} (l : Launch) {dom : Nat → Prop} {ad : Nat → Nat} {X : Nat → va_E} {H0 : Heap} (M : Nat → Nat → Int32) (v : Nat) (p0 : Int32) (N : kw D cA B dom ad X M H0) (h_v : v < 324) (d_v : dV dom v) : MetR D cA B l yX3_isSeat cX3_isSeat 2 (some .boolean) 0 0 [.ref (ad (300 + 3 * v)), .int p0] H0 (some (.int (f_X3_isSeat M v p0))) := by
  refine MetR.of (by decide) (Nat.le_of_ble_eq_true rfl) ?_
  intro p e s m args below meth c S hr hlk hh K ls hl
  subst hh
  have hS : va_S (fun q => B ≤ q) s.heap s.heap [] := va_S.rf
  have hl : lv_has ls 2 [(0, .ref (ad (300 + 3 * v))), (1, .int p0)] := hl
  refine lv_iload_n S.1 S.2.1 dX3_isSeat_0 rfl (lv_at hl 1 rfl) ?_
  refine lv_if_lt (tgt := 26) S.1 S.2.1 dX3_isSeat_1 (by decide) (fun c1_1 => ?_) (fun c1_1 => ?_)
  · refine lv_iconst (v := 0) S.1 S.2.1 dX3_isSeat_26 (by decide) ?_
    exact ee_rZ S hr hlk (zb_0) (by unfold f_X3_isSeat; first | (rw [if_pos c1_1]; done) | (simp only [if_pos c1_1]; done) | rfl) dX3_isSeat_27
  · refine lv_iload_n S.1 S.2.1 dX3_isSeat_4 rfl (lv_at hl 1 rfl) ?_
    refine lv_aload_n S.1 S.2.1 dX3_isSeat_5 rfl (lv_at hl 0 rfl) ?_
    refine kr_get S K N (300 + 3 * v) (by unfold crole; omega) (d_v.1) (sh_V) (C0 := RX3) (T := TX3) (n := 6) rfl iWX3 0 (by decide) k1_150 rfl (v := .ref (ad (300 + 3 * v + 1))) rfl dX3_isSeat_6 ?_
    refine kr_alen S K N (300 + 3 * v + 1) (by unfold crole; omega) (d_v.2.1) 0 rfl (sh_Vn) (v := 7) rfl dX3_isSeat_9 ?_
    refine lv_icmp_ge (tgt := 26) S.1 S.2.1 dX3_isSeat_10 (by decide) (fun c10_2 => ?_) (fun c10_2 => ?_)
    · refine lv_iconst (v := 0) S.1 S.2.1 dX3_isSeat_26 (by decide) ?_
      exact ee_rZ S hr hlk (zb_0) (by unfold f_X3_isSeat; first | (rw [if_neg c1_1, if_pos c10_2]; done) | (simp only [if_neg c1_1, if_pos c10_2]; done) | rfl) dX3_isSeat_27
    · refine lv_iload_n S.1 S.2.1 dX3_isSeat_13 rfl (lv_at hl 1 rfl) ?_
      refine lv_aload_n S.1 S.2.1 dX3_isSeat_14 rfl (lv_at hl 0 rfl) ?_
      refine kr_get S K N (300 + 3 * v) (by unfold crole; omega) (d_v.1) (sh_V) (C0 := RX3) (T := TX3) (n := 6) rfl iWX3 1 (by decide) k1_151 rfl (v := .ref (ad (300 + 3 * v + 2))) rfl dX3_isSeat_15 ?_
      refine kr_alen S K N (300 + 3 * v + 2) (by unfold crole; omega) (d_v.2.2) 1 rfl (sh_Vt) (v := 7) rfl dX3_isSeat_18 ?_
      refine lv_icmp_ge (tgt := 26) S.1 S.2.1 dX3_isSeat_19 (by decide) (fun c9 => absurd c9 (c10_2)) (fun _ => ?_)
      refine lv_iconst (v := 1) S.1 S.2.1 dX3_isSeat_22 (by decide) ?_
      refine lv_goto (tgt := 27) S.1 S.2.1 dX3_isSeat_23 (by decide) ?_
      exact ee_rZ S hr hlk (zb_1) (by unfold f_X3_isSeat; first | (rw [if_neg c1_1, if_neg c10_2]; done) | (simp only [if_neg c1_1, if_neg c10_2]; done) | rfl) dX3_isSeat_27

theorem isSeat_in {M : Nat → Nat → Int32} {v : Nat} {p0 : Int32} (h : ¬ f_X3_isSeat M v p0 = 0) : vp_in p0 7 := by
  unfold f_X3_isSeat at h
  by_cases h1 : p0 < 0
  · rw [if_pos h1] at h
    exact absurd rfl h
  · rw [if_neg h1] at h
    by_cases h2 : 7 ≤ p0
    · rw [if_pos h2] at h
      exact absurd rfl h
    · exact vi_ge h1 h2

def g_X3_tell (M : Nat → Nat → Int32) (v : Nat) (p0 : Int32) (p1 : Int32) : Nat → Nat → Int32 :=
  if (f_X3_isSeat M v p0) = 0 then M
  else (g_X3_recount (up2 (up2 M (300 + 3 * v + 1) p0.toNatClampNeg p1) (300 + 3 * v + 2) p0.toNatClampNeg 1) v)
set_option maxHeartbeats 4000000 in
set_option maxRecDepth 100000 in
theorem m_X3_tell {D : va_G} {cA : Nat → ClassId} {B : Nat} (l : Launch) {dom : Nat → Prop} {ad : Nat → Nat} {X : Nat → va_E} {H0 : Heap} (M : Nat → Nat → Int32) (v : Nat) (p0 : Int32) (p1 : Int32) (N : kw D cA B dom ad X M H0) (h_v : v < 324) (d_v : dV dom v) : MetW D cA B l yX3_tell cX3_tell 3 none 2 42 0 0 [.ref (ad (300 + 3 * v)), .int p0, .int p1] H0 (fun o h => o = none ∧ kw D cA B dom ad X (g_X3_tell M v p0 p1) h) := by
  refine MetW.of (by decide) (Nat.le_of_ble_eq_true rfl) ?_
  intro p e s m args below meth c S hr hlk hin hh K ls hl
  subst hh
  have hS : va_S (fun q => B ≤ q) s.heap s.heap [] := va_S.rf
  have hl : lv_has ls 3 [(0, .ref (ad (300 + 3 * v))), (1, .int p0), (2, .int p1)] := hl
  refine lv_aload_n S.1 S.2.1 dX3_tell_0 rfl (lv_at hl 0 rfl) ?_
  refine lv_iload_n S.1 S.2.1 dX3_tell_1 rfl (lv_at hl 1 rfl) ?_
  refine kc_rV S K N hS (300 + 3 * v) (by unfold crole; omega) (d_v.1) (sh_V) (T := TX3) (n := 6) rfl (As := [.int p0]) (m_X3_isSeat l M v p0 N (by omega) d_v) k2_34 k2_36 kS_2 k1_8 k2_37 (num := 1) (by decide +kernel) rfl ⟨Nat.le_of_ble_eq_true rfl, Nat.le_of_ble_eq_true rfl⟩ hl.1 rfl (Nat.le_of_ble_eq_true rfl) dX3_tell_2 ⟨Nat.le_of_ble_eq_true rfl, Nat.le_of_ble_eq_true rfl⟩ ?_
  refine lv_if_ne (tgt := 9) S.1 S.2.1 dX3_tell_5 (by decide) (fun c5_1 => ?_) (fun c5_1 => ?_)
  · refine lv_aload_n S.1 S.2.1 dX3_tell_9 rfl (lv_at hl 0 rfl) ?_
    refine kr_get S K N (300 + 3 * v) (by unfold crole; omega) (d_v.1) (sh_V) (C0 := RX3) (T := TX3) (n := 6) rfl iWX3 0 (by decide) k1_150 rfl (v := .ref (ad (300 + 3 * v + 1))) rfl dX3_tell_10 ?_
    refine lv_iload_n S.1 S.2.1 dX3_tell_13 rfl (lv_at hl 1 rfl) ?_
    refine lv_iload_n S.1 S.2.1 dX3_tell_14 rfl (lv_at hl 2 rfl) ?_
    refine kr_iast S K N hS (300 + 3 * v + 1) (by unfold crole; omega) (d_v.2.1) (fun c9 => sh_Vn) (isSeat_in c5_1) p0.toNatClampNeg (rfl) dX3_tell_15 (fun H locs N hS => ?_)
    refine lv_aload_n S.1 S.2.1 dX3_tell_16 rfl (lv_at hl 0 rfl) ?_
    refine kr_get S K N (300 + 3 * v) (by unfold crole; omega) (d_v.1) (sh_V) (C0 := RX3) (T := TX3) (n := 6) rfl iWX3 1 (by decide) k1_151 rfl (v := .ref (ad (300 + 3 * v + 2))) rfl dX3_tell_17 ?_
    refine lv_iload_n S.1 S.2.1 dX3_tell_20 rfl (lv_at hl 1 rfl) ?_
    refine lv_iconst (v := 1) S.1 S.2.1 dX3_tell_21 (by decide) ?_
    refine kr_zast S K N hS (300 + 3 * v + 2) (by unfold crole; omega) (d_v.2.2) (fun c9 => sh_Vt) (isSeat_in c5_1) (zb_1) p0.toNatClampNeg (rfl) dX3_tell_22 (fun H locs N hS => ?_)
    refine lv_aload_n S.1 S.2.1 dX3_tell_23 rfl (lv_at hl 0 rfl) ?_
    refine kc_wV S K N hS (300 + 3 * v) (by unfold crole; omega) (d_v.1) (sh_V) (T := TX3) (n := 6) rfl (As := []) (m_X3_recount l (up2 (up2 M (300 + 3 * v + 1) p0.toNatClampNeg p1) (300 + 3 * v + 2) p0.toNatClampNeg 1) v N (by omega) d_v) k2_38 k2_40 kS_3 k1_8 k2_41 (num := 0) (by decide +kernel) rfl ⟨Nat.le_of_ble_eq_true rfl, Nat.le_of_ble_eq_true rfl⟩ hl.1 rfl (Nat.le_of_ble_eq_true rfl) dX3_tell_24 ⟨Nat.le_of_ble_eq_true rfl, Nat.le_of_ble_eq_true rfl⟩ (fun v9 H locs hP hS => ?_)
    obtain ⟨rfl, N⟩ := hP
    refine W.eq (g2 := F0 m 27 ls []) rfl ?_
    exact ne_wV S hS hr hlk ⟨rfl, (by unfold g_X3_tell; first | (rw [if_neg c5_1]; exact N) | (simp only [if_neg c5_1]; exact N) | exact N)⟩ dX3_tell_27
  · exact ne_wV S hS hr hlk ⟨rfl, (by unfold g_X3_tell; first | (rw [if_pos c5_1]; exact N) | (simp only [if_pos c5_1]; exact N) | exact N)⟩ dX3_tell_8

def f_X3_trimmedMean (M : Nat → Nat → Int32) (v : Nat) : UInt64 :=
  if 3 ≤ (M (300 + 3 * v) 2) then (FP.ddiv (FP.i2d (((M (300 + 3 * v) 3) - (M (300 + 3 * v) 4)) - (M (300 + 3 * v) 5))) (FP.i2d ((M (300 + 3 * v) 2) - 2)))
  else FP.dconst0
set_option maxHeartbeats 4000000 in
set_option maxRecDepth 100000 in
theorem m_X3_trimmedMean {D : va_G} {cA : Nat → ClassId} {B : Nat} (l : Launch) {dom : Nat → Prop} {ad : Nat → Nat} {X : Nat → va_E} {H0 : Heap} (M : Nat → Nat → Int32) (v : Nat) (N : kw D cA B dom ad X M H0) (h_v : v < 324) (d_v : dV dom v) : MetR D cA B l yX3_trimmedMean cX3_trimmedMean 1 (some .double) 0 0 [.ref (ad (300 + 3 * v))] H0 (some (.double (f_X3_trimmedMean M v))) := by
  refine MetR.of (by decide) (Nat.le_of_ble_eq_true rfl) ?_
  intro p e s m args below meth c S hr hlk hh K ls hl
  subst hh
  have hS : va_S (fun q => B ≤ q) s.heap s.heap [] := va_S.rf
  have hl : lv_has ls 1 [(0, .ref (ad (300 + 3 * v)))] := hl
  refine lv_aload_n S.1 S.2.1 dX3_trimmedMean_0 rfl (lv_at hl 0 rfl) ?_
  refine kr_get S K N (300 + 3 * v) (by unfold crole; omega) (d_v.1) (sh_V) (C0 := RX3) (T := TX3) (n := 6) rfl iWX3 2 (by decide) k1_152 rfl (v := .int (M (300 + 3 * v) 2)) rfl dX3_trimmedMean_1 ?_
  refine lv_iconst (v := 3) S.1 S.2.1 dX3_trimmedMean_4 (by decide) ?_
  refine lv_icmp_ge (tgt := 12) S.1 S.2.1 dX3_trimmedMean_5 (by decide) (fun c5_1 => ?_) (fun c5_1 => ?_)
  · refine lv_aload_n S.1 S.2.1 dX3_trimmedMean_12 rfl (lv_at hl 0 rfl) ?_
    refine kr_get S K N (300 + 3 * v) (by unfold crole; omega) (d_v.1) (sh_V) (C0 := RX3) (T := TX3) (n := 6) rfl iWX3 3 (by decide) k1_153 rfl (v := .int (M (300 + 3 * v) 3)) rfl dX3_trimmedMean_13 ?_
    refine lv_aload_n S.1 S.2.1 dX3_trimmedMean_16 rfl (lv_at hl 0 rfl) ?_
    refine kr_get S K N (300 + 3 * v) (by unfold crole; omega) (d_v.1) (sh_V) (C0 := RX3) (T := TX3) (n := 6) rfl iWX3 4 (by decide) k1_154 rfl (v := .int (M (300 + 3 * v) 4)) rfl dX3_trimmedMean_17 ?_
    refine lv_isub S.1 S.2.1 dX3_trimmedMean_20 ?_
    refine lv_aload_n S.1 S.2.1 dX3_trimmedMean_21 rfl (lv_at hl 0 rfl) ?_
    refine kr_get S K N (300 + 3 * v) (by unfold crole; omega) (d_v.1) (sh_V) (C0 := RX3) (T := TX3) (n := 6) rfl iWX3 5 (by decide) k1_155 rfl (v := .int (M (300 + 3 * v) 5)) rfl dX3_trimmedMean_22 ?_
    refine lv_isub S.1 S.2.1 dX3_trimmedMean_25 ?_
    refine lv_i2d S.1 S.2.1 dX3_trimmedMean_26 ?_
    refine lv_aload_n S.1 S.2.1 dX3_trimmedMean_27 rfl (lv_at hl 0 rfl) ?_
    refine kr_get S K N (300 + 3 * v) (by unfold crole; omega) (d_v.1) (sh_V) (C0 := RX3) (T := TX3) (n := 6) rfl iWX3 2 (by decide) k1_152 rfl (v := .int (M (300 + 3 * v) 2)) rfl dX3_trimmedMean_28 ?_
    refine lv_iconst (v := 2) S.1 S.2.1 dX3_trimmedMean_31 (by decide) ?_
    refine lv_isub S.1 S.2.1 dX3_trimmedMean_32 ?_
    refine lv_i2d S.1 S.2.1 dX3_trimmedMean_33 ?_
    refine lv_ddiv S.1 S.2.1 dX3_trimmedMean_34 (vn_of (FP.Core.ddiv_out (FP.Core.DFin.notNaN (FP.Core.i2d_fin _)) (FP.Core.i2d_fin _) (nz_i2d (sub2_nz (by assumption))))) ?_
    exact ee_rD S hr hlk (by unfold f_X3_trimmedMean; first | (rw [if_pos c5_1]; done) | (simp only [if_pos c5_1]; done) | rfl) dX3_trimmedMean_35
  · refine lv_dconst0 S.1 S.2.1 dX3_trimmedMean_8 ?_
    refine lv_goto (tgt := 35) S.1 S.2.1 dX3_trimmedMean_9 (by decide) ?_
    exact ee_rD S hr hlk (by unfold f_X3_trimmedMean; first | (rw [if_neg c5_1]; done) | (simp only [if_neg c5_1]; done) | rfl) dX3_trimmedMean_35

theorem magV {M : Nat → Nat → Int32} {v : Nat} : (f_X3_trimmedMean M v).toNat % 2 ^ 63 < 1057 * 2 ^ 52 := by
  unfold f_X3_trimmedMean
  split
  · exact mag_div (sub2_nz (by assumption))
  · decide
theorem finV {M : Nat → Nat → Int32} {v : Nat} : FP.Core.DFin (f_X3_trimmedMean M v) := FP.Core.fin_of_lt magV (by decide)

def f_X3_middle (M : Nat → Nat → Int32) (v : Nat) : Int32 :=
  if (M (300 + 3 * v) 2) = 0 then 0
  else if 3 ≤ (M (300 + 3 * v) 2) then (((M (300 + 3 * v) 3) - (M (300 + 3 * v) 4)) - (M (300 + 3 * v) 5))
  else (M (300 + 3 * v) 4)
set_option maxHeartbeats 4000000 in
set_option maxRecDepth 100000 in
theorem m_X3_middle {D : va_G} {cA : Nat → ClassId} {B : Nat} (l : Launch) {dom : Nat → Prop} {ad : Nat → Nat} {X : Nat → va_E} {H0 : Heap} (M : Nat → Nat → Int32) (v : Nat) (N : kw D cA B dom ad X M H0) (h_v : v < 324) (d_v : dV dom v) : MetR D cA B l yX3_middle cX3_middle 1 (some .int) 0 0 [.ref (ad (300 + 3 * v))] H0 (some (.int (f_X3_middle M v))) := by
  refine MetR.of (by decide) (Nat.le_of_ble_eq_true rfl) ?_
  intro p e s m args below meth c S hr hlk hh K ls hl
  subst hh
  have hS : va_S (fun q => B ≤ q) s.heap s.heap [] := va_S.rf
  have hl : lv_has ls 1 [(0, .ref (ad (300 + 3 * v)))] := hl
  refine lv_aload_n S.1 S.2.1 dX3_middle_0 rfl (lv_at hl 0 rfl) ?_
  refine kr_get S K N (300 + 3 * v) (by unfold crole; omega) (d_v.1) (sh_V) (C0 := RX3) (T := TX3) (n := 6) rfl iWX3 2 (by decide) k1_152 rfl (v := .int (M (300 + 3 * v) 2)) rfl dX3_middle_1 ?_
  refine lv_if_ne (tgt := 9) S.1 S.2.1 dX3_middle_4 (by decide) (fun c4_1 => ?_) (fun c4_1 => ?_)
  · refine lv_aload_n S.1 S.2.1 dX3_middle_9 rfl (lv_at hl 0 rfl) ?_
    refine kr_get S K N (300 + 3 * v) (by unfold crole; omega) (d_v.1) (sh_V) (C0 := RX3) (T := TX3) (n := 6) rfl iWX3 2 (by decide) k1_152 rfl (v := .int (M (300 + 3 * v) 2)) rfl dX3_middle_10 ?_
    refine lv_iconst (v := 3) S.1 S.2.1 dX3_middle_13 (by decide) ?_
    refine lv_icmp_ge (tgt := 24) S.1 S.2.1 dX3_middle_14 (by decide) (fun c14_2 => ?_) (fun c14_2 => ?_)
    · refine lv_aload_n S.1 S.2.1 dX3_middle_24 rfl (lv_at hl 0 rfl) ?_
      refine kr_get S K N (300 + 3 * v) (by unfold crole; omega) (d_v.1) (sh_V) (C0 := RX3) (T := TX3) (n := 6) rfl iWX3 3 (by decide) k1_153 rfl (v := .int (M (300 + 3 * v) 3)) rfl dX3_middle_25 ?_
      refine lv_aload_n S.1 S.2.1 dX3_middle_28 rfl (lv_at hl 0 rfl) ?_
      refine kr_get S K N (300 + 3 * v) (by unfold crole; omega) (d_v.1) (sh_V) (C0 := RX3) (T := TX3) (n := 6) rfl iWX3 4 (by decide) k1_154 rfl (v := .int (M (300 + 3 * v) 4)) rfl dX3_middle_29 ?_
      refine lv_isub S.1 S.2.1 dX3_middle_32 ?_
      refine lv_aload_n S.1 S.2.1 dX3_middle_33 rfl (lv_at hl 0 rfl) ?_
      refine kr_get S K N (300 + 3 * v) (by unfold crole; omega) (d_v.1) (sh_V) (C0 := RX3) (T := TX3) (n := 6) rfl iWX3 5 (by decide) k1_155 rfl (v := .int (M (300 + 3 * v) 5)) rfl dX3_middle_34 ?_
      refine lv_isub S.1 S.2.1 dX3_middle_37 ?_
      exact ee_rI S hr hlk (by unfold f_X3_middle; first | (rw [if_neg c4_1, if_pos c14_2]; done) | (simp only [if_neg c4_1, if_pos c14_2]; done) | rfl) dX3_middle_38
    · refine lv_aload_n S.1 S.2.1 dX3_middle_17 rfl (lv_at hl 0 rfl) ?_
      refine kr_get S K N (300 + 3 * v) (by unfold crole; omega) (d_v.1) (sh_V) (C0 := RX3) (T := TX3) (n := 6) rfl iWX3 4 (by decide) k1_154 rfl (v := .int (M (300 + 3 * v) 4)) rfl dX3_middle_18 ?_
      refine lv_goto (tgt := 38) S.1 S.2.1 dX3_middle_21 (by decide) ?_
      exact ee_rI S hr hlk (by unfold f_X3_middle; first | (rw [if_neg c4_1, if_neg c14_2]; done) | (simp only [if_neg c4_1, if_neg c14_2]; done) | rfl) dX3_middle_38
  · refine lv_iconst (v := 0) S.1 S.2.1 dX3_middle_7 (by decide) ?_
    exact ee_rI S hr hlk (by unfold f_X3_middle; first | (rw [if_pos c4_1]; done) | (simp only [if_pos c4_1]; done) | rfl) dX3_middle_8

def f_X0_valueOf (M : Nat → Nat → Int32) (d : Nat) (p0 : Int32) (p1 : Int32) : Int32 :=
  if ((p0 * 5) + p1) < 0 then 0
  else if 35 ≤ ((p0 * 5) + p1) then 0
  else (M (33 + d) (((p0 * 5) + p1).toNatClampNeg))
set_option maxHeartbeats 4000000 in
set_option maxRecDepth 100000 in
theorem m_X0_valueOf {D : va_G} {cA : Nat → ClassId} {B : Nat} (l : Launch) {dom : Nat → Prop} {ad : Nat → Nat} {X : Nat → va_E} {H0 : Heap} (M : Nat → Nat → Int32) (d : Nat) (p0 : Int32) (p1 : Int32) (N : kw D cA B dom ad X M H0) (h_d : d < 3) (d_d : dom (30 + d) ∧ dom (33 + d)) : MetR D cA B l yX0_valueOf cX0_valueOf 4 (some .int) 0 0 [.ref (ad (30 + d)), .int p0, .int p1] H0 (some (.int (f_X0_valueOf M d p0 p1))) := by
  refine MetR.of (by decide) (Nat.le_of_ble_eq_true rfl) ?_
  intro p e s m args below meth c S hr hlk hh K ls hl
  subst hh
  have hS : va_S (fun q => B ≤ q) s.heap s.heap [] := va_S.rf
  have hl : lv_has ls 4 [(0, .ref (ad (30 + d))), (1, .int p0), (2, .int p1)] := hl
  refine lv_iload_n S.1 S.2.1 dX0_valueOf_0 rfl (lv_at hl 1 rfl) ?_
  refine lv_iconst (v := 5) S.1 S.2.1 dX0_valueOf_1 (by decide) ?_
  refine lv_imul S.1 S.2.1 dX0_valueOf_2 ?_
  refine lv_iload_n S.1 S.2.1 dX0_valueOf_3 rfl (lv_at hl 2 rfl) ?_
  refine lv_iadd S.1 S.2.1 dX0_valueOf_4 ?_
  refine lv_istore_n (lv' := [(3, .int ((p0 * 5) + p1)), (0, .ref (ad (30 + d))), (1, .int p0), (2, .int p1)]) S.1 S.2.1 dX0_valueOf_5 rfl hl (by decide) rfl (fun ls hl => ?_)
  refine lv_iload_n S.1 S.2.1 dX0_valueOf_6 rfl (lv_at hl 0 rfl) ?_
  refine lv_if_lt (tgt := 28) S.1 S.2.1 dX0_valueOf_7 (by decide) (fun c7_1 => ?_) (fun c7_1 => ?_)
  · refine lv_iconst (v := 0) S.1 S.2.1 dX0_valueOf_28 (by decide) ?_
    exact ee_rI S hr hlk (by unfold f_X0_valueOf; first | (rw [if_pos c7_1]; done) | (simp only [if_pos c7_1]; done) | rfl) dX0_valueOf_29
  · refine lv_iload_n S.1 S.2.1 dX0_valueOf_10 rfl (lv_at hl 0 rfl) ?_
    refine lv_aload_n S.1 S.2.1 dX0_valueOf_11 rfl (lv_at hl 1 rfl) ?_
    refine kr_get S K N (30 + d) (by unfold crole; omega) (d_d.1) (sh_ed (by omega)) (C0 := RX0) (T := TX0) (n := 1) rfl iWX0 0 (by decide) k1_40 rfl (v := .ref (ad (33 + d))) rfl dX0_valueOf_12 ?_
    refine kr_alen S K N (33 + d) (by unfold crole; omega) (d_d.2) 0 rfl (sh_va (by omega)) (v := 35) rfl dX0_valueOf_15 ?_
    refine lv_icmp_ge (tgt := 28) S.1 S.2.1 dX0_valueOf_16 (by decide) (fun c16_2 => ?_) (fun c16_2 => ?_)
    · refine lv_iconst (v := 0) S.1 S.2.1 dX0_valueOf_28 (by decide) ?_
      exact ee_rI S hr hlk (by unfold f_X0_valueOf; first | (rw [if_neg c7_1, if_pos c16_2]; done) | (simp only [if_neg c7_1, if_pos c16_2]; done) | rfl) dX0_valueOf_29
    · refine lv_aload_n S.1 S.2.1 dX0_valueOf_19 rfl (lv_at hl 1 rfl) ?_
      refine kr_get S K N (30 + d) (by unfold crole; omega) (d_d.1) (sh_ed (by omega)) (C0 := RX0) (T := TX0) (n := 1) rfl iWX0 0 (by decide) k1_40 rfl (v := .ref (ad (33 + d))) rfl dX0_valueOf_20 ?_
      refine lv_iload_n S.1 S.2.1 dX0_valueOf_23 rfl (lv_at hl 0 rfl) ?_
      refine kr_iald S K N (33 + d) (by unfold crole; omega) (d_d.2) (sh_va (by omega)) (v := (M (33 + d) (((p0 * 5) + p1).toNatClampNeg))) (vi_ge c7_1 c16_2) (rfl) dX0_valueOf_24 ?_
      refine lv_goto (tgt := 29) S.1 S.2.1 dX0_valueOf_25 (by decide) ?_
      exact ee_rI S hr hlk (by unfold f_X0_valueOf; first | (rw [if_neg c7_1, if_neg c16_2]; done) | (simp only [if_neg c7_1, if_neg c16_2]; done) | rfl) dX0_valueOf_29

def f_X0_replace (M : Nat → Nat → Int32) (d : Nat) (p0 : Int32) (p1 : Int32) (p2 : Int32) : Int32 :=
  if ((p0 * 5) + p1) < 0 then 0
  else if ((p0 * 5) + p1) < 35 then (M (33 + d) (((p0 * 5) + p1).toNatClampNeg))
  else 0
def g_X0_replace (M : Nat → Nat → Int32) (d : Nat) (p0 : Int32) (p1 : Int32) (p2 : Int32) : Nat → Nat → Int32 :=
  if ((p0 * 5) + p1) < 0 then M
  else if ((p0 * 5) + p1) < 35 then (up2 M (33 + d) (((p0 * 5) + p1).toNatClampNeg) p2)
  else M
set_option maxHeartbeats 4000000 in
set_option maxRecDepth 100000 in
theorem m_X0_replace {D : va_G} {cA : Nat → ClassId} {B : Nat} (l : Launch) {dom : Nat → Prop} {ad : Nat → Nat} {X : Nat → va_E} {H0 : Heap} (M : Nat → Nat → Int32) (d : Nat) (p0 : Int32) (p1 : Int32) (p2 : Int32) (N : kw D cA B dom ad X M H0) (h_d : d < 3) (d_d : dom (30 + d) ∧ dom (33 + d)) : MetW D cA B l yX0_replace cX0_replace 6 (some .int) 0 0 0 0 [.ref (ad (30 + d)), .int p0, .int p1, .int p2] H0 (fun o h => o = some (.int (f_X0_replace M d p0 p1 p2)) ∧ kw D cA B dom ad X (g_X0_replace M d p0 p1 p2) h) := by
  refine MetW.of (by decide) (Nat.le_of_ble_eq_true rfl) ?_
  intro p e s m args below meth c S hr hlk hin hh K ls hl
  subst hh
  have hS : va_S (fun q => B ≤ q) s.heap s.heap [] := va_S.rf
  have hl : lv_has ls 6 [(0, .ref (ad (30 + d))), (1, .int p0), (2, .int p1), (3, .int p2)] := hl
  refine lv_iload_n S.1 S.2.1 dX0_replace_0 rfl (lv_at hl 1 rfl) ?_
  refine lv_iconst (v := 5) S.1 S.2.1 dX0_replace_1 (by decide) ?_
  refine lv_imul S.1 S.2.1 dX0_replace_2 ?_
  refine lv_iload_n S.1 S.2.1 dX0_replace_3 rfl (lv_at hl 2 rfl) ?_
  refine lv_iadd S.1 S.2.1 dX0_replace_4 ?_
  refine lv_istore (lv' := [(4, .int ((p0 * 5) + p1)), (0, .ref (ad (30 + d))), (1, .int p0), (2, .int p1), (3, .int p2)]) S.1 S.2.1 dX0_replace_5 hl (by decide) rfl (fun ls hl => ?_)
  refine lv_iload S.1 S.2.1 dX0_replace_7 (lv_at hl 0 rfl) ?_
  refine lv_if_lt (tgt := 22) S.1 S.2.1 dX0_replace_9 (by decide) (fun c9_1 => ?_) (fun c9_1 => ?_)
  · refine lv_iconst (v := 0) S.1 S.2.1 dX0_replace_22 (by decide) ?_
    exact ne_wI S hS hr hlk ⟨congrArg (fun z => some (Value.int z)) (Eq.symm (by unfold f_X0_replace; first | (rw [if_pos c9_1]; done) | (simp only [if_pos c9_1]; done) | rfl)), (by unfold g_X0_replace; first | (rw [if_pos c9_1]; exact N) | (simp only [if_pos c9_1]; exact N) | exact N)⟩ dX0_replace_23
  · refine lv_iload S.1 S.2.1 dX0_replace_12 (lv_at hl 0 rfl) ?_
    refine lv_aload_n S.1 S.2.1 dX0_replace_14 rfl (lv_at hl 1 rfl) ?_
    refine kr_get S K N (30 + d) (by unfold crole; omega) (d_d.1) (sh_ed (by omega)) (C0 := RX0) (T := TX0) (n := 1) rfl iWX0 0 (by decide) k1_40 rfl (v := .ref (ad (33 + d))) rfl dX0_replace_15 ?_
    refine kr_alen S K N (33 + d) (by unfold crole; omega) (d_d.2) 0 rfl (sh_va (by omega)) (v := 35) rfl dX0_replace_18 ?_
    refine lv_icmp_lt (tgt := 24) S.1 S.2.1 dX0_replace_19 (by decide) (fun c19_2 => ?_) (fun c19_2 => ?_)
    · refine lv_aload_n S.1 S.2.1 dX0_replace_24 rfl (lv_at hl 1 rfl) ?_
      refine kr_get S K N (30 + d) (by unfold crole; omega) (d_d.1) (sh_ed (by omega)) (C0 := RX0) (T := TX0) (n := 1) rfl iWX0 0 (by decide) k1_40 rfl (v := .ref (ad (33 + d))) rfl dX0_replace_25 ?_
      refine lv_iload S.1 S.2.1 dX0_replace_28 (lv_at hl 0 rfl) ?_
      refine kr_iald S K N (33 + d) (by unfold crole; omega) (d_d.2) (sh_va (by omega)) (v := (M (33 + d) (((p0 * 5) + p1).toNatClampNeg))) (vi_lt c9_1 c19_2) (rfl) dX0_replace_30 ?_
      refine lv_istore (lv' := [(5, .int (M (33 + d) (((p0 * 5) + p1).toNatClampNeg))), (4, .int ((p0 * 5) + p1)), (0, .ref (ad (30 + d))), (1, .int p0), (2, .int p1), (3, .int p2)]) S.1 S.2.1 dX0_replace_31 hl (by decide) rfl (fun ls hl => ?_)
      refine lv_aload_n S.1 S.2.1 dX0_replace_33 rfl (lv_at hl 2 rfl) ?_
      refine kr_get S K N (30 + d) (by unfold crole; omega) (d_d.1) (sh_ed (by omega)) (C0 := RX0) (T := TX0) (n := 1) rfl iWX0 0 (by decide) k1_40 rfl (v := .ref (ad (33 + d))) rfl dX0_replace_34 ?_
      refine lv_iload S.1 S.2.1 dX0_replace_37 (lv_at hl 1 rfl) ?_
      refine lv_iload_n S.1 S.2.1 dX0_replace_39 rfl (lv_at hl 5 rfl) ?_
      refine kr_iast S K N hS (33 + d) (by unfold crole; omega) (d_d.2) (fun c9 => sh_va (by omega)) (vi_lt c9_1 c19_2) (((p0 * 5) + p1).toNatClampNeg) (rfl) dX0_replace_40 (fun H locs N hS => ?_)
      refine lv_iload S.1 S.2.1 dX0_replace_41 (lv_at hl 0 rfl) ?_
      exact ne_wI S hS hr hlk ⟨congrArg (fun z => some (Value.int z)) (Eq.symm (by unfold f_X0_replace; first | (rw [if_neg c9_1, if_pos c19_2]; done) | (simp only [if_neg c9_1, if_pos c19_2]; done) | rfl)), (by unfold g_X0_replace; first | (rw [if_neg c9_1, if_pos c19_2]; exact N) | (simp only [if_neg c9_1, if_pos c19_2]; exact N) | exact N)⟩ dX0_replace_43
    · refine lv_iconst (v := 0) S.1 S.2.1 dX0_replace_22 (by decide) ?_
      exact ne_wI S hS hr hlk ⟨congrArg (fun z => some (Value.int z)) (Eq.symm (by unfold f_X0_replace; first | (rw [if_neg c9_1, if_neg c19_2]; done) | (simp only [if_neg c9_1, if_neg c19_2]; done) | rfl)), (by unfold g_X0_replace; first | (rw [if_neg c9_1, if_neg c19_2]; exact N) | (simp only [if_neg c9_1, if_neg c19_2]; exact N) | exact N)⟩ dX0_replace_23
