def f_J6_bitCount_0f7a4 (x : Int32) : Int32 :=
  ((((((((x - (((x.toUInt32 >>> ((1 : Int32).toUInt32 &&& Int32.toUInt32 31)).toInt32) &&& 1431655765)) &&& 858993459) + ((((x - (((x.toUInt32 >>> ((1 : Int32).toUInt32 &&& Int32.toUInt32 31)).toInt32) &&& 1431655765)).toUInt32 >>> ((2 : Int32).toUInt32 &&& Int32.toUInt32 31)).toInt32) &&& 858993459)) + (((((x - (((x.toUInt32 >>> ((1 : Int32).toUInt32 &&& Int32.toUInt32 31)).toInt32) &&& 1431655765)) &&& 858993459) + ((((x - (((x.toUInt32 >>> ((1 : Int32).toUInt32 &&& Int32.toUInt32 31)).toInt32) &&& 1431655765)).toUInt32 >>> ((2 : Int32).toUInt32 &&& Int32.toUInt32 31)).toInt32) &&& 858993459)).toUInt32 >>> ((4 : Int32).toUInt32 &&& Int32.toUInt32 31)).toInt32)) &&& 252645135) + (((((((x - (((x.toUInt32 >>> ((1 : Int32).toUInt32 &&& Int32.toUInt32 31)).toInt32) &&& 1431655765)) &&& 858993459) + ((((x - (((x.toUInt32 >>> ((1 : Int32).toUInt32 &&& Int32.toUInt32 31)).toInt32) &&& 1431655765)).toUInt32 >>> ((2 : Int32).toUInt32 &&& Int32.toUInt32 31)).toInt32) &&& 858993459)) + (((((x - (((x.toUInt32 >>> ((1 : Int32).toUInt32 &&& Int32.toUInt32 31)).toInt32) &&& 1431655765)) &&& 858993459) + ((((x - (((x.toUInt32 >>> ((1 : Int32).toUInt32 &&& Int32.toUInt32 31)).toInt32) &&& 1431655765)).toUInt32 >>> ((2 : Int32).toUInt32 &&& Int32.toUInt32 31)).toInt32) &&& 858993459)).toUInt32 >>> ((4 : Int32).toUInt32 &&& Int32.toUInt32 31)).toInt32)) &&& 252645135).toUInt32 >>> ((8 : Int32).toUInt32 &&& Int32.toUInt32 31)).toInt32)) + ((((((((x - (((x.toUInt32 >>> ((1 : Int32).toUInt32 &&& Int32.toUInt32 31)).toInt32) &&& 1431655765)) &&& 858993459) + ((((x - (((x.toUInt32 >>> ((1 : Int32).toUInt32 &&& Int32.toUInt32 31)).toInt32) &&& 1431655765)).toUInt32 >>> ((2 : Int32).toUInt32 &&& Int32.toUInt32 31)).toInt32) &&& 858993459)) + (((((x - (((x.toUInt32 >>> ((1 : Int32).toUInt32 &&& Int32.toUInt32 31)).toInt32) &&& 1431655765)) &&& 858993459) + ((((x - (((x.toUInt32 >>> ((1 : Int32).toUInt32 &&& Int32.toUInt32 31)).toInt32) &&& 1431655765)).toUInt32 >>> ((2 : Int32).toUInt32 &&& Int32.toUInt32 31)).toInt32) &&& 858993459)).toUInt32 >>> ((4 : Int32).toUInt32 &&& Int32.toUInt32 31)).toInt32)) &&& 252645135) + (((((((x - (((x.toUInt32 >>> ((1 : Int32).toUInt32 &&& Int32.toUInt32 31)).toInt32) &&& 1431655765)) &&& 858993459) + ((((x - (((x.toUInt32 >>> ((1 : Int32).toUInt32 &&& Int32.toUInt32 31)).toInt32) &&& 1431655765)).toUInt32 >>> ((2 : Int32).toUInt32 &&& Int32.toUInt32 31)).toInt32) &&& 858993459)) + (((((x - (((x.toUInt32 >>> ((1 : Int32).toUInt32 &&& Int32.toUInt32 31)).toInt32) &&& 1431655765)) &&& 858993459) + ((((x - (((x.toUInt32 >>> ((1 : Int32).toUInt32 &&& Int32.toUInt32 31)).toInt32) &&& 1431655765)).toUInt32 >>> ((2 : Int32).toUInt32 &&& Int32.toUInt32 31)).toInt32) &&& 858993459)).toUInt32 >>> ((4 : Int32).toUInt32 &&& Int32.toUInt32 31)).toInt32)) &&& 252645135).toUInt32 >>> ((8 : Int32).toUInt32 &&& Int32.toUInt32 31)).toInt32)).toUInt32 >>> ((16 : Int32).toUInt32 &&& Int32.toUInt32 31)).toInt32)) &&& 63)
set_option maxHeartbeats 4000000 in
set_option maxRecDepth 100000 in
theorem m_J6_bitCount_0f7a4 {D : va_G} {cA : Nat → ClassId} {B : Nat} (l : Launch) {H0 : Heap} (x : Int32) : MetR D cA B l yJ6_bitCount_0f7a4 cJ6_bitCount_0f7a4 1 (some .int) 0 0 [.int x] H0 (some (.int (f_J6_bitCount_0f7a4 x))) := by
  refine MetR.of (by decide) (Nat.le_of_ble_eq_true rfl) ?_
  intro p e s m args below meth c S hr hlk hh K ls hl
  subst hh
  have hS : va_S (fun q => B ≤ q) s.heap s.heap [] := va_S.rf
  have hl : lv_has ls 1 [(0, .int x)] := hl
  refine lv_iload_n S.1 S.2.1 dJ6_bitCount_0f7a4_0 rfl (lv_at hl 0 rfl) ?_
  refine lv_iload_n S.1 S.2.1 dJ6_bitCount_0f7a4_1 rfl (lv_at hl 0 rfl) ?_
  refine lv_iconst (v := 1) S.1 S.2.1 dJ6_bitCount_0f7a4_2 (by decide) ?_
  refine lv_iushr (v := (x.toUInt32 >>> ((1 : Int32).toUInt32 &&& Int32.toUInt32 31)).toInt32) S.1 S.2.1 dJ6_bitCount_0f7a4_3 rfl ?_
  refine lv_ldcw S.1 S.2.1 S.2.2.2.1 (S.2.2.2.2 _ k3_72) dJ6_bitCount_0f7a4_4 ?_
  refine lv_iand S.1 S.2.1 dJ6_bitCount_0f7a4_7 ?_
  refine lv_isub S.1 S.2.1 dJ6_bitCount_0f7a4_8 ?_
  refine lv_istore_n (lv' := [(0, .int (x - (((x.toUInt32 >>> ((1 : Int32).toUInt32 &&& Int32.toUInt32 31)).toInt32) &&& 1431655765)))]) S.1 S.2.1 dJ6_bitCount_0f7a4_9 rfl hl (by decide) rfl (fun ls hl => ?_)
  refine lv_iload_n S.1 S.2.1 dJ6_bitCount_0f7a4_10 rfl (lv_at hl 0 rfl) ?_
  refine lv_ldcw S.1 S.2.1 S.2.2.2.1 (S.2.2.2.2 _ k3_73) dJ6_bitCount_0f7a4_11 ?_
  refine lv_iand S.1 S.2.1 dJ6_bitCount_0f7a4_14 ?_
  refine lv_iload_n S.1 S.2.1 dJ6_bitCount_0f7a4_15 rfl (lv_at hl 0 rfl) ?_
  refine lv_iconst (v := 2) S.1 S.2.1 dJ6_bitCount_0f7a4_16 (by decide) ?_
  refine lv_iushr (v := ((x - (((x.toUInt32 >>> ((1 : Int32).toUInt32 &&& Int32.toUInt32 31)).toInt32) &&& 1431655765)).toUInt32 >>> ((2 : Int32).toUInt32 &&& Int32.toUInt32 31)).toInt32) S.1 S.2.1 dJ6_bitCount_0f7a4_17 rfl ?_
  refine lv_ldcw S.1 S.2.1 S.2.2.2.1 (S.2.2.2.2 _ k3_73) dJ6_bitCount_0f7a4_18 ?_
  refine lv_iand S.1 S.2.1 dJ6_bitCount_0f7a4_21 ?_
  refine lv_iadd S.1 S.2.1 dJ6_bitCount_0f7a4_22 ?_
  refine lv_istore_n (lv' := [(0, .int (((x - (((x.toUInt32 >>> ((1 : Int32).toUInt32 &&& Int32.toUInt32 31)).toInt32) &&& 1431655765)) &&& 858993459) + ((((x - (((x.toUInt32 >>> ((1 : Int32).toUInt32 &&& Int32.toUInt32 31)).toInt32) &&& 1431655765)).toUInt32 >>> ((2 : Int32).toUInt32 &&& Int32.toUInt32 31)).toInt32) &&& 858993459)))]) S.1 S.2.1 dJ6_bitCount_0f7a4_23 rfl hl (by decide) rfl (fun ls hl => ?_)
  refine lv_iload_n S.1 S.2.1 dJ6_bitCount_0f7a4_24 rfl (lv_at hl 0 rfl) ?_
  refine lv_iload_n S.1 S.2.1 dJ6_bitCount_0f7a4_25 rfl (lv_at hl 0 rfl) ?_
  refine lv_iconst (v := 4) S.1 S.2.1 dJ6_bitCount_0f7a4_26 (by decide) ?_
  refine lv_iushr (v := ((((x - (((x.toUInt32 >>> ((1 : Int32).toUInt32 &&& Int32.toUInt32 31)).toInt32) &&& 1431655765)) &&& 858993459) + ((((x - (((x.toUInt32 >>> ((1 : Int32).toUInt32 &&& Int32.toUInt32 31)).toInt32) &&& 1431655765)).toUInt32 >>> ((2 : Int32).toUInt32 &&& Int32.toUInt32 31)).toInt32) &&& 858993459)).toUInt32 >>> ((4 : Int32).toUInt32 &&& Int32.toUInt32 31)).toInt32) S.1 S.2.1 dJ6_bitCount_0f7a4_27 rfl ?_
  refine lv_iadd S.1 S.2.1 dJ6_bitCount_0f7a4_28 ?_
  refine lv_ldcw S.1 S.2.1 S.2.2.2.1 (S.2.2.2.2 _ k3_74) dJ6_bitCount_0f7a4_29 ?_
  refine lv_iand S.1 S.2.1 dJ6_bitCount_0f7a4_32 ?_
  refine lv_istore_n (lv' := [(0, .int (((((x - (((x.toUInt32 >>> ((1 : Int32).toUInt32 &&& Int32.toUInt32 31)).toInt32) &&& 1431655765)) &&& 858993459) + ((((x - (((x.toUInt32 >>> ((1 : Int32).toUInt32 &&& Int32.toUInt32 31)).toInt32) &&& 1431655765)).toUInt32 >>> ((2 : Int32).toUInt32 &&& Int32.toUInt32 31)).toInt32) &&& 858993459)) + (((((x - (((x.toUInt32 >>> ((1 : Int32).toUInt32 &&& Int32.toUInt32 31)).toInt32) &&& 1431655765)) &&& 858993459) + ((((x - (((x.toUInt32 >>> ((1 : Int32).toUInt32 &&& Int32.toUInt32 31)).toInt32) &&& 1431655765)).toUInt32 >>> ((2 : Int32).toUInt32 &&& Int32.toUInt32 31)).toInt32) &&& 858993459)).toUInt32 >>> ((4 : Int32).toUInt32 &&& Int32.toUInt32 31)).toInt32)) &&& 252645135))]) S.1 S.2.1 dJ6_bitCount_0f7a4_33 rfl hl (by decide) rfl (fun ls hl => ?_)
  refine lv_iload_n S.1 S.2.1 dJ6_bitCount_0f7a4_34 rfl (lv_at hl 0 rfl) ?_
  refine lv_iload_n S.1 S.2.1 dJ6_bitCount_0f7a4_35 rfl (lv_at hl 0 rfl) ?_
  refine lv_bipush (v := 8) S.1 S.2.1 dJ6_bitCount_0f7a4_36 (by decide) ?_
  refine lv_iushr (v := ((((((x - (((x.toUInt32 >>> ((1 : Int32).toUInt32 &&& Int32.toUInt32 31)).toInt32) &&& 1431655765)) &&& 858993459) + ((((x - (((x.toUInt32 >>> ((1 : Int32).toUInt32 &&& Int32.toUInt32 31)).toInt32) &&& 1431655765)).toUInt32 >>> ((2 : Int32).toUInt32 &&& Int32.toUInt32 31)).toInt32) &&& 858993459)) + (((((x - (((x.toUInt32 >>> ((1 : Int32).toUInt32 &&& Int32.toUInt32 31)).toInt32) &&& 1431655765)) &&& 858993459) + ((((x - (((x.toUInt32 >>> ((1 : Int32).toUInt32 &&& Int32.toUInt32 31)).toInt32) &&& 1431655765)).toUInt32 >>> ((2 : Int32).toUInt32 &&& Int32.toUInt32 31)).toInt32) &&& 858993459)).toUInt32 >>> ((4 : Int32).toUInt32 &&& Int32.toUInt32 31)).toInt32)) &&& 252645135).toUInt32 >>> ((8 : Int32).toUInt32 &&& Int32.toUInt32 31)).toInt32) S.1 S.2.1 dJ6_bitCount_0f7a4_38 rfl ?_
  refine lv_iadd S.1 S.2.1 dJ6_bitCount_0f7a4_39 ?_
  refine lv_istore_n (lv' := [(0, .int ((((((x - (((x.toUInt32 >>> ((1 : Int32).toUInt32 &&& Int32.toUInt32 31)).toInt32) &&& 1431655765)) &&& 858993459) + ((((x - (((x.toUInt32 >>> ((1 : Int32).toUInt32 &&& Int32.toUInt32 31)).toInt32) &&& 1431655765)).toUInt32 >>> ((2 : Int32).toUInt32 &&& Int32.toUInt32 31)).toInt32) &&& 858993459)) + (((((x - (((x.toUInt32 >>> ((1 : Int32).toUInt32 &&& Int32.toUInt32 31)).toInt32) &&& 1431655765)) &&& 858993459) + ((((x - (((x.toUInt32 >>> ((1 : Int32).toUInt32 &&& Int32.toUInt32 31)).toInt32) &&& 1431655765)).toUInt32 >>> ((2 : Int32).toUInt32 &&& Int32.toUInt32 31)).toInt32) &&& 858993459)).toUInt32 >>> ((4 : Int32).toUInt32 &&& Int32.toUInt32 31)).toInt32)) &&& 252645135) + (((((((x - (((x.toUInt32 >>> ((1 : Int32).toUInt32 &&& Int32.toUInt32 31)).toInt32) &&& 1431655765)) &&& 858993459) + ((((x - (((x.toUInt32 >>> ((1 : Int32).toUInt32 &&& Int32.toUInt32 31)).toInt32) &&& 1431655765)).toUInt32 >>> ((2 : Int32).toUInt32 &&& Int32.toUInt32 31)).toInt32) &&& 858993459)) + (((((x - (((x.toUInt32 >>> ((1 : Int32).toUInt32 &&& Int32.toUInt32 31)).toInt32) &&& 1431655765)) &&& 858993459) + ((((x - (((x.toUInt32 >>> ((1 : Int32).toUInt32 &&& Int32.toUInt32 31)).toInt32) &&& 1431655765)).toUInt32 >>> ((2 : Int32).toUInt32 &&& Int32.toUInt32 31)).toInt32) &&& 858993459)).toUInt32 >>> ((4 : Int32).toUInt32 &&& Int32.toUInt32 31)).toInt32)) &&& 252645135).toUInt32 >>> ((8 : Int32).toUInt32 &&& Int32.toUInt32 31)).toInt32)))]) S.1 S.2.1 dJ6_bitCount_0f7a4_40 rfl hl (by decide) rfl (fun ls hl => ?_)
  refine lv_iload_n S.1 S.2.1 dJ6_bitCount_0f7a4_41 rfl (lv_at hl 0 rfl) ?_
  refine lv_iload_n S.1 S.2.1 dJ6_bitCount_0f7a4_42 rfl (lv_at hl 0 rfl) ?_
  refine lv_bipush (v := 16) S.1 S.2.1 dJ6_bitCount_0f7a4_43 (by decide) ?_
  refine lv_iushr (v := (((((((x - (((x.toUInt32 >>> ((1 : Int32).toUInt32 &&& Int32.toUInt32 31)).toInt32) &&& 1431655765)) &&& 858993459) + ((((x - (((x.toUInt32 >>> ((1 : Int32).toUInt32 &&& Int32.toUInt32 31)).toInt32) &&& 1431655765)).toUInt32 >>> ((2 : Int32).toUInt32 &&& Int32.toUInt32 31)).toInt32) &&& 858993459)) + (((((x - (((x.toUInt32 >>> ((1 : Int32).toUInt32 &&& Int32.toUInt32 31)).toInt32) &&& 1431655765)) &&& 858993459) + ((((x - (((x.toUInt32 >>> ((1 : Int32).toUInt32 &&& Int32.toUInt32 31)).toInt32) &&& 1431655765)).toUInt32 >>> ((2 : Int32).toUInt32 &&& Int32.toUInt32 31)).toInt32) &&& 858993459)).toUInt32 >>> ((4 : Int32).toUInt32 &&& Int32.toUInt32 31)).toInt32)) &&& 252645135) + (((((((x - (((x.toUInt32 >>> ((1 : Int32).toUInt32 &&& Int32.toUInt32 31)).toInt32) &&& 1431655765)) &&& 858993459) + ((((x - (((x.toUInt32 >>> ((1 : Int32).toUInt32 &&& Int32.toUInt32 31)).toInt32) &&& 1431655765)).toUInt32 >>> ((2 : Int32).toUInt32 &&& Int32.toUInt32 31)).toInt32) &&& 858993459)) + (((((x - (((x.toUInt32 >>> ((1 : Int32).toUInt32 &&& Int32.toUInt32 31)).toInt32) &&& 1431655765)) &&& 858993459) + ((((x - (((x.toUInt32 >>> ((1 : Int32).toUInt32 &&& Int32.toUInt32 31)).toInt32) &&& 1431655765)).toUInt32 >>> ((2 : Int32).toUInt32 &&& Int32.toUInt32 31)).toInt32) &&& 858993459)).toUInt32 >>> ((4 : Int32).toUInt32 &&& Int32.toUInt32 31)).toInt32)) &&& 252645135).toUInt32 >>> ((8 : Int32).toUInt32 &&& Int32.toUInt32 31)).toInt32)).toUInt32 >>> ((16 : Int32).toUInt32 &&& Int32.toUInt32 31)).toInt32) S.1 S.2.1 dJ6_bitCount_0f7a4_45 rfl ?_
  refine lv_iadd S.1 S.2.1 dJ6_bitCount_0f7a4_46 ?_
  refine lv_istore_n (lv' := [(0, .int (((((((x - (((x.toUInt32 >>> ((1 : Int32).toUInt32 &&& Int32.toUInt32 31)).toInt32) &&& 1431655765)) &&& 858993459) + ((((x - (((x.toUInt32 >>> ((1 : Int32).toUInt32 &&& Int32.toUInt32 31)).toInt32) &&& 1431655765)).toUInt32 >>> ((2 : Int32).toUInt32 &&& Int32.toUInt32 31)).toInt32) &&& 858993459)) + (((((x - (((x.toUInt32 >>> ((1 : Int32).toUInt32 &&& Int32.toUInt32 31)).toInt32) &&& 1431655765)) &&& 858993459) + ((((x - (((x.toUInt32 >>> ((1 : Int32).toUInt32 &&& Int32.toUInt32 31)).toInt32) &&& 1431655765)).toUInt32 >>> ((2 : Int32).toUInt32 &&& Int32.toUInt32 31)).toInt32) &&& 858993459)).toUInt32 >>> ((4 : Int32).toUInt32 &&& Int32.toUInt32 31)).toInt32)) &&& 252645135) + (((((((x - (((x.toUInt32 >>> ((1 : Int32).toUInt32 &&& Int32.toUInt32 31)).toInt32) &&& 1431655765)) &&& 858993459) + ((((x - (((x.toUInt32 >>> ((1 : Int32).toUInt32 &&& Int32.toUInt32 31)).toInt32) &&& 1431655765)).toUInt32 >>> ((2 : Int32).toUInt32 &&& Int32.toUInt32 31)).toInt32) &&& 858993459)) + (((((x - (((x.toUInt32 >>> ((1 : Int32).toUInt32 &&& Int32.toUInt32 31)).toInt32) &&& 1431655765)) &&& 858993459) + ((((x - (((x.toUInt32 >>> ((1 : Int32).toUInt32 &&& Int32.toUInt32 31)).toInt32) &&& 1431655765)).toUInt32 >>> ((2 : Int32).toUInt32 &&& Int32.toUInt32 31)).toInt32) &&& 858993459)).toUInt32 >>> ((4 : Int32).toUInt32 &&& Int32.toUInt32 31)).toInt32)) &&& 252645135).toUInt32 >>> ((8 : Int32).toUInt32 &&& Int32.toUInt32 31)).toInt32)) + ((((((((x - (((x.toUInt32 >>> ((1 : Int32).toUInt32 &&& Int32.toUInt32 31)).toInt32) &&& 1431655765)) &&& 858993459) + ((((x - (((x.toUInt32 >>> ((1 : Int32).toUInt32 &&& Int32.toUInt32 31)).toInt32) &&& 1431655765)).toUInt32 >>> ((2 : Int32).toUInt32 &&& Int32.toUInt32 31)).toInt32) &&& 858993459)) + (((((x - (((x.toUInt32 >>> ((1 : Int32).toUInt32 &&& Int32.toUInt32 31)).toInt32) &&& 1431655765)) &&& 858993459) + ((((x - (((x.toUInt32 >>> ((1 : Int32).toUInt32 &&& Int32.toUInt32 31)).toInt32) &&& 1431655765)).toUInt32 >>> ((2 : Int32).toUInt32 &&& Int32.toUInt32 31)).toInt32) &&& 858993459)).toUInt32 >>> ((4 : Int32).toUInt32 &&& Int32.toUInt32 31)).toInt32)) &&& 252645135) + (((((((x - (((x.toUInt32 >>> ((1 : Int32).toUInt32 &&& Int32.toUInt32 31)).toInt32) &&& 1431655765)) &&& 858993459) + ((((x - (((x.toUInt32 >>> ((1 : Int32).toUInt32 &&& Int32.toUInt32 31)).toInt32) &&& 1431655765)).toUInt32 >>> ((2 : Int32).toUInt32 &&& Int32.toUInt32 31)).toInt32) &&& 858993459)) + (((((x - (((x.toUInt32 >>> ((1 : Int32).toUInt32 &&& Int32.toUInt32 31)).toInt32) &&& 1431655765)) &&& 858993459) + ((((x - (((x.toUInt32 >>> ((1 : Int32).toUInt32 &&& Int32.toUInt32 31)).toInt32) &&& 1431655765)).toUInt32 >>> ((2 : Int32).toUInt32 &&& Int32.toUInt32 31)).toInt32) &&& 858993459)).toUInt32 >>> ((4 : Int32).toUInt32 &&& Int32.toUInt32 31)).toInt32)) &&& 252645135).toUInt32 >>> ((8 : Int32).toUInt32 &&& Int32.toUInt32 31)).toInt32)).toUInt32 >>> ((16 : Int32).toUInt32 &&& Int32.toUInt32 31)).toInt32)))]) S.1 S.2.1 dJ6_bitCount_0f7a4_47 rfl hl (by decide) rfl (fun ls hl => ?_)
  refine lv_iload_n S.1 S.2.1 dJ6_bitCount_0f7a4_48 rfl (lv_at hl 0 rfl) ?_
  refine lv_bipush (v := 63) S.1 S.2.1 dJ6_bitCount_0f7a4_49 (by decide) ?_
  refine lv_iand S.1 S.2.1 dJ6_bitCount_0f7a4_51 ?_
  exact ee_rI S hr hlk (rfl) dJ6_bitCount_0f7a4_52

def tE (M : Nat → Nat → Int32) (k d i : Nat) : Int32 := if M (52 + k) i = 0 then 0 else f_X1_scoreBy M (12 * k + i) d
def tV (M : Nat → Nat → Int32) (k i : Nat) : Int32 := if M (64 + k) i = 0 then 0 else f_X2_componentScore M k (3 * k + i)
theorem it14_e (M : Nat → Nat → Int32) (k d i : Nat) : it14_X2_elementScoresBy M k d (i + 1) = it14_X2_elementScoresBy M k d i + tE M k d i := by
  rw [it14_X2_elementScoresBy, tE]
  split
  · rw [Int32.add_zero]
  · rfl
theorem it10_e (M : Nat → Nat → Int32) (k d i : Nat) : it10_X2_isSumRight M k d (i + 1) = it10_X2_isSumRight M k d i + tE M k d (11 - i) := by
  rw [it10_X2_isSumRight, tE]
  split
  · rw [Int32.add_zero]
  · rfl
theorem it13_e (M : Nat → Nat → Int32) (k i : Nat) : it13_X2_componentScores M k (i + 1) = it13_X2_componentScores M k i + tV M k i := by
  rw [it13_X2_componentScores, tV]
  split
  · rw [Int32.add_zero]
  · rfl
theorem it50_e (M : Nat → Nat → Int32) (k d i : Nat) : it50_X2_isSumRight M k d (i + 1) = it50_X2_isSumRight M k d i + tV M k (2 - i) := by
  rw [it50_X2_isSumRight, tV]
  split
  · rw [Int32.add_zero]
  · rfl
theorem sumEl (M : Nat → Nat → Int32) (k d : Nat) : it10_X2_isSumRight M k d 12 = it14_X2_elementScoresBy M k d 12 := by
  simp only [it10_e, it14_e, it10_X2_isSumRight.eq_1, it14_X2_elementScoresBy.eq_1]
  simp only [Int32.zero_add, Nat.sub_zero, Nat.reduceSub]
  ac_rfl
theorem sumRight (M : Nat → Nat → Int32) (k d : Nat) : f_X2_isSumRight M k d = 1 := by
  have h1 : it50_X2_isSumRight M k d 3 = it14_X2_elementScoresBy M k d 12 + it13_X2_componentScores M k 3 := by
    simp only [it50_e, it13_e, it13_X2_componentScores.eq_1]
    rw [show it50_X2_isSumRight M k d 0 = it10_X2_isSumRight M k d 12 from rfl, sumEl]
    simp only [Int32.zero_add, Nat.sub_zero, Nat.reduceSub]
    ac_rfl
  unfold f_X2_isSumRight
  rw [h1]
  unfold f_X2_totalOf f_X2_elementScoresBy f_X2_componentScores
  rw [if_pos rfl]

def f_X4_addsUp (M : Nat → Nat → Int32) : Int32 :=
  1
set_option maxHeartbeats 4000000 in
set_option maxRecDepth 100000 in
theorem m_X4_addsUp {D : va_G} {cA : Nat → ClassId} {B : Nat} (l : Launch) {dom : Nat → Prop} {ad : Nat → Nat} {X : Nat → va_E} {H0 : Heap} (M : Nat → Nat → Int32) (N : kw D cA B dom ad X M H0) (d_K : dK dom M) : MetR D cA B l yX4_addsUp cX4_addsUp 9 (some .boolean) 5 120 [.ref (ad 0)] H0 (some (.int (f_X4_addsUp M))) := by
  refine MetR.of (by decide) (Nat.le_of_ble_eq_true rfl) ?_
  intro p e s m args below meth c S hr hlk hh K ls hl
  subst hh
  have hS : va_S (fun q => B ≤ q) s.heap s.heap [] := va_S.rf
  have hl : lv_has ls 9 [(0, .ref (ad 0))] := hl
  refine lv_aload_n S.1 S.2.1 dX4_addsUp_0 rfl (lv_at hl 0 rfl) ?_
  refine kr_get S K N 0 (by unfold crole; omega) (d_K.1 0 (by decide)) (sh_K) (C0 := RX4) (T := TX4) (n := 6) rfl iWX4 0 (by decide) k1_45 rfl (v := .ref (ad 1)) rfl dX4_addsUp_1 ?_
  refine lv_astore_n (lv' := [(1, .ref (ad 1)), (0, .ref (ad 0))]) S.1 S.2.1 dX4_addsUp_4 rfl hl (by decide) rfl (fun ls hl => ?_)
  refine lv_aload_n S.1 S.2.1 dX4_addsUp_5 rfl (lv_at hl 0 rfl) ?_
  refine kr_alen S K N 1 (by unfold crole; omega) (d_K.1 1 (by decide)) 5 rfl (sh_1) (v := 12) rfl dX4_addsUp_6 ?_
  refine lv_istore_n (lv' := [(2, .int 12), (1, .ref (ad 1)), (0, .ref (ad 0))]) S.1 S.2.1 dX4_addsUp_7 rfl hl (by decide) rfl (fun ls hl => ?_)
  refine lv_iconst (v := 0) S.1 S.2.1 dX4_addsUp_8 (by decide) ?_
  refine lv_istore_n (lv' := [(3, .int 0), (2, .int 12), (1, .ref (ad 1)), (0, .ref (ad 0))]) S.1 S.2.1 dX4_addsUp_9 rfl hl (by decide) rfl (fun ls hl => ?_)
  refine nl (h := 10) (N := 12) (n := 9) (L := fun i10 : Nat => [(3, .int (nI i10)), (2, .int 12), (1, .ref (ad 1)), (0, .ref (ad 0))]) (fun ls hl => ?_) (fun i10 hi10 ih10 ls hl => ?_) ls (lv_sub hl [0, 1, 2, 3] rfl)
  · try dsimp only at hl
    refine lv_iload_n S.1 S.2.1 dX4_addsUp_10 rfl (lv_at hl 0 rfl) ?_
    refine lv_iload_n S.1 S.2.1 dX4_addsUp_11 rfl (lv_at hl 1 rfl) ?_
    refine lv_icmp_ge (tgt := 82) S.1 S.2.1 dX4_addsUp_12 (by decide) (fun _ => ?_) (fun c9 => absurd (nI_le (Nat.le_refl _) (by first | omega | decide)) c9)
    refine lv_iconst (v := 1) S.1 S.2.1 dX4_addsUp_82 (by decide) ?_
    exact ee_rZ S hr hlk (zb_1) (rfl) dX4_addsUp_83
  · try dsimp only at hl
    refine lv_iload_n S.1 S.2.1 dX4_addsUp_10 rfl (lv_at hl 0 rfl) ?_
    refine lv_iload_n S.1 S.2.1 dX4_addsUp_11 rfl (lv_at hl 1 rfl) ?_
    refine lv_icmp_ge (tgt := 82) S.1 S.2.1 dX4_addsUp_12 (by decide) (fun c9 => absurd c9 (nI_ge (hi10) (by first | omega | decide))) (fun _ => ?_)
    refine lv_aload_n S.1 S.2.1 dX4_addsUp_15 rfl (lv_at hl 2 rfl) ?_
    refine lv_iload_n S.1 S.2.1 dX4_addsUp_16 rfl (lv_at hl 0 rfl) ?_
    by_cases cn17_1 : (M 1 i10) = 0
    · refine kr_aald S K N 1 (by unfold crole; omega) (d_K.1 1 (by decide)) 5 rfl (sh_1) (v := .null) (vp_in_nI (show i10 < 12 by omega) (by decide)) (rf_z (nI_clamp (show i10 < 2 ^ 31 by omega)) (cn17_1)) dX4_addsUp_17 ?_
      refine lv_astoreN (lv' := [(4, .null), (3, .int (nI i10)), (2, .int 12), (1, .ref (ad 1)), (0, .ref (ad 0))]) S.1 S.2.1 dX4_addsUp_18 hl (by decide) rfl (fun ls hl => ?_)
      refine lv_aload_n S.1 S.2.1 dX4_addsUp_20 rfl (lv_at hl 4 rfl) ?_
      refine kr_get S K N 0 (by unfold crole; omega) (d_K.1 0 (by decide)) (sh_K) (C0 := RX4) (T := TX4) (n := 6) rfl iWX4 1 (by decide) k1_46 rfl (v := .ref (ad 2)) rfl dX4_addsUp_21 ?_
      refine lv_astore (lv' := [(5, .ref (ad 2)), (4, .null), (3, .int (nI i10)), (2, .int 12), (1, .ref (ad 1)), (0, .ref (ad 0))]) S.1 S.2.1 dX4_addsUp_24 hl (by decide) rfl (fun ls hl => ?_)
      refine lv_aload S.1 S.2.1 dX4_addsUp_26 (lv_at hl 0 rfl) ?_
      refine kr_alen S K N 2 (by unfold crole; omega) (d_K.1 2 (by decide)) 6 rfl (sh_2) (v := 3) rfl dX4_addsUp_28 ?_
      refine lv_istore (lv' := [(6, .int 3), (5, .ref (ad 2)), (4, .null), (3, .int (nI i10)), (2, .int 12), (1, .ref (ad 1)), (0, .ref (ad 0))]) S.1 S.2.1 dX4_addsUp_29 hl (by decide) rfl (fun ls hl => ?_)
      refine lv_iconst (v := 0) S.1 S.2.1 dX4_addsUp_31 (by decide) ?_
      refine lv_istore (lv' := [(7, .int 0), (6, .int 3), (5, .ref (ad 2)), (4, .null), (3, .int (nI i10)), (2, .int 12), (1, .ref (ad 1)), (0, .ref (ad 0))]) S.1 S.2.1 dX4_addsUp_32 hl (by decide) rfl (fun ls hl => ?_)
      refine nl (h := 34) (N := 3) (n := 9) (L := fun i34 : Nat => [(7, .int (nI i34)), (6, .int 3), (5, .ref (ad 2)), (4, .null), (3, .int (nI i10)), (2, .int 12), (1, .ref (ad 1)), (0, .ref (ad 0))]) (fun ls hl => ?_) (fun i34 hi34 ih34 ls hl => ?_) ls (lv_sub hl [0, 1, 2, 3, 4, 5, 6, 7] rfl)
      · try dsimp only at hl
        refine lv_iload S.1 S.2.1 dX4_addsUp_34 (lv_at hl 0 rfl) ?_
        refine lv_iload S.1 S.2.1 dX4_addsUp_36 (lv_at hl 1 rfl) ?_
        refine lv_icmp_ge (tgt := 76) S.1 S.2.1 dX4_addsUp_38 (by decide) (fun _ => ?_) (fun c9 => absurd (nI_le (Nat.le_refl _) (by first | omega | decide)) c9)
        refine lv_iinc (v := nI (i10 + 1)) (lv' := [(3, .int (nI (i10 + 1))), (7, .int (nI 3)), (6, .int 3), (5, .ref (ad 2)), (4, .null), (2, .int 12), (1, .ref (ad 1)), (0, .ref (ad 0))]) S.1 S.2.1 dX4_addsUp_76 hl (k := 4) rfl (nI_add i10 1) (by decide) rfl (fun ls hl => ?_)
        refine lv_goto (tgt := 10) S.1 S.2.1 dX4_addsUp_79 (by decide) ?_
        exact ih10 ls (lv_sub hl [0, 5, 6, 7] rfl)
      · try dsimp only at hl
        refine lv_iload S.1 S.2.1 dX4_addsUp_34 (lv_at hl 0 rfl) ?_
        refine lv_iload S.1 S.2.1 dX4_addsUp_36 (lv_at hl 1 rfl) ?_
        refine lv_icmp_ge (tgt := 76) S.1 S.2.1 dX4_addsUp_38 (by decide) (fun c9 => absurd c9 (nI_ge (hi34) (by first | omega | decide))) (fun _ => ?_)
        refine lv_aload S.1 S.2.1 dX4_addsUp_41 (lv_at hl 2 rfl) ?_
        refine lv_iload S.1 S.2.1 dX4_addsUp_43 (lv_at hl 0 rfl) ?_
        by_cases cn45_2 : (M 2 i34) = 0
        · refine kr_aald S K N 2 (by unfold crole; omega) (d_K.1 2 (by decide)) 6 rfl (sh_2) (v := .null) (vp_in_nI (show i34 < 3 by omega) (by decide)) (rf_z (nI_clamp (show i34 < 2 ^ 31 by omega)) (cn45_2)) dX4_addsUp_45 ?_
          refine lv_astoreN (lv' := [(8, .null), (7, .int (nI i34)), (6, .int 3), (5, .ref (ad 2)), (4, .null), (3, .int (nI i10)), (2, .int 12), (1, .ref (ad 1)), (0, .ref (ad 0))]) S.1 S.2.1 dX4_addsUp_46 hl (by decide) rfl (fun ls hl => ?_)
          refine lv_aloadN S.1 S.2.1 dX4_addsUp_48 (lv_at hl 4 rfl) ?_
          refine lv_ifnullN (tgt := 70) S.1 S.2.1 dX4_addsUp_50 (by decide) ?_
          refine lv_iinc (v := nI (i34 + 1)) (lv' := [(7, .int (nI (i34 + 1))), (8, .null), (6, .int 3), (5, .ref (ad 2)), (4, .null), (3, .int (nI i10)), (2, .int 12), (1, .ref (ad 1)), (0, .ref (ad 0))]) S.1 S.2.1 dX4_addsUp_70 hl (k := 1) rfl (nI_add i34 1) (by decide) rfl (fun ls hl => ?_)
          refine lv_goto (tgt := 34) S.1 S.2.1 dX4_addsUp_73 (by decide) ?_
          exact ih34 ls (lv_sub hl [0, 2, 3, 4, 5, 6, 7, 8] rfl)
        · refine kr_aald S K N 2 (by unfold crole; omega) (d_K.1 2 (by decide)) 6 rfl (sh_2) (v := .ref (ad (30 + i34))) (vp_in_nI (show i34 < 3 by omega) (by decide)) (rf_s (nI_clamp (show i34 < 2 ^ 31 by omega)) (cn45_2) (by omega)) dX4_addsUp_45 ?_
          refine lv_astore (lv' := [(8, .ref (ad (30 + i34))), (7, .int (nI i34)), (6, .int 3), (5, .ref (ad 2)), (4, .null), (3, .int (nI i10)), (2, .int 12), (1, .ref (ad 1)), (0, .ref (ad 0))]) S.1 S.2.1 dX4_addsUp_46 hl (by decide) rfl (fun ls hl => ?_)
          refine lv_aloadN S.1 S.2.1 dX4_addsUp_48 (lv_at hl 4 rfl) ?_
          refine lv_ifnullN (tgt := 70) S.1 S.2.1 dX4_addsUp_50 (by decide) ?_
          refine lv_iinc (v := nI (i34 + 1)) (lv' := [(7, .int (nI (i34 + 1))), (8, .ref (ad (30 + i34))), (6, .int 3), (5, .ref (ad 2)), (4, .null), (3, .int (nI i10)), (2, .int 12), (1, .ref (ad 1)), (0, .ref (ad 0))]) S.1 S.2.1 dX4_addsUp_70 hl (k := 1) rfl (nI_add i34 1) (by decide) rfl (fun ls hl => ?_)
          refine lv_goto (tgt := 34) S.1 S.2.1 dX4_addsUp_73 (by decide) ?_
          exact ih34 ls (lv_sub hl [0, 2, 3, 4, 5, 6, 7, 8] rfl)
    · refine kr_aald S K N 1 (by unfold crole; omega) (d_K.1 1 (by decide)) 5 rfl (sh_1) (v := .ref (ad (40 + i10))) (vp_in_nI (show i10 < 12 by omega) (by decide)) (rf_s (nI_clamp (show i10 < 2 ^ 31 by omega)) (cn17_1) (by omega)) dX4_addsUp_17 ?_
      refine lv_astore (lv' := [(4, .ref (ad (40 + i10))), (3, .int (nI i10)), (2, .int 12), (1, .ref (ad 1)), (0, .ref (ad 0))]) S.1 S.2.1 dX4_addsUp_18 hl (by decide) rfl (fun ls hl => ?_)
      refine lv_aload_n S.1 S.2.1 dX4_addsUp_20 rfl (lv_at hl 4 rfl) ?_
      refine kr_get S K N 0 (by unfold crole; omega) (d_K.1 0 (by decide)) (sh_K) (C0 := RX4) (T := TX4) (n := 6) rfl iWX4 1 (by decide) k1_46 rfl (v := .ref (ad 2)) rfl dX4_addsUp_21 ?_
      refine lv_astore (lv' := [(5, .ref (ad 2)), (4, .ref (ad (40 + i10))), (3, .int (nI i10)), (2, .int 12), (1, .ref (ad 1)), (0, .ref (ad 0))]) S.1 S.2.1 dX4_addsUp_24 hl (by decide) rfl (fun ls hl => ?_)
      refine lv_aload S.1 S.2.1 dX4_addsUp_26 (lv_at hl 0 rfl) ?_
      refine kr_alen S K N 2 (by unfold crole; omega) (d_K.1 2 (by decide)) 6 rfl (sh_2) (v := 3) rfl dX4_addsUp_28 ?_
      refine lv_istore (lv' := [(6, .int 3), (5, .ref (ad 2)), (4, .ref (ad (40 + i10))), (3, .int (nI i10)), (2, .int 12), (1, .ref (ad 1)), (0, .ref (ad 0))]) S.1 S.2.1 dX4_addsUp_29 hl (by decide) rfl (fun ls hl => ?_)
      refine lv_iconst (v := 0) S.1 S.2.1 dX4_addsUp_31 (by decide) ?_
      refine lv_istore (lv' := [(7, .int 0), (6, .int 3), (5, .ref (ad 2)), (4, .ref (ad (40 + i10))), (3, .int (nI i10)), (2, .int 12), (1, .ref (ad 1)), (0, .ref (ad 0))]) S.1 S.2.1 dX4_addsUp_32 hl (by decide) rfl (fun ls hl => ?_)
      refine nl (h := 34) (N := 3) (n := 9) (L := fun i34 : Nat => [(7, .int (nI i34)), (6, .int 3), (5, .ref (ad 2)), (4, .ref (ad (40 + i10))), (3, .int (nI i10)), (2, .int 12), (1, .ref (ad 1)), (0, .ref (ad 0))]) (fun ls hl => ?_) (fun i34 hi34 ih34 ls hl => ?_) ls (lv_sub hl [0, 1, 2, 3, 4, 5, 6, 7] rfl)
      · try dsimp only at hl
        refine lv_iload S.1 S.2.1 dX4_addsUp_34 (lv_at hl 0 rfl) ?_
        refine lv_iload S.1 S.2.1 dX4_addsUp_36 (lv_at hl 1 rfl) ?_
        refine lv_icmp_ge (tgt := 76) S.1 S.2.1 dX4_addsUp_38 (by decide) (fun _ => ?_) (fun c9 => absurd (nI_le (Nat.le_refl _) (by first | omega | decide)) c9)
        refine lv_iinc (v := nI (i10 + 1)) (lv' := [(3, .int (nI (i10 + 1))), (7, .int (nI 3)), (6, .int 3), (5, .ref (ad 2)), (4, .ref (ad (40 + i10))), (2, .int 12), (1, .ref (ad 1)), (0, .ref (ad 0))]) S.1 S.2.1 dX4_addsUp_76 hl (k := 4) rfl (nI_add i10 1) (by decide) rfl (fun ls hl => ?_)
        refine lv_goto (tgt := 10) S.1 S.2.1 dX4_addsUp_79 (by decide) ?_
        exact ih10 ls (lv_sub hl [0, 5, 6, 7] rfl)
      · try dsimp only at hl
        refine lv_iload S.1 S.2.1 dX4_addsUp_34 (lv_at hl 0 rfl) ?_
        refine lv_iload S.1 S.2.1 dX4_addsUp_36 (lv_at hl 1 rfl) ?_
        refine lv_icmp_ge (tgt := 76) S.1 S.2.1 dX4_addsUp_38 (by decide) (fun c9 => absurd c9 (nI_ge (hi34) (by first | omega | decide))) (fun _ => ?_)
        refine lv_aload S.1 S.2.1 dX4_addsUp_41 (lv_at hl 2 rfl) ?_
        refine lv_iload S.1 S.2.1 dX4_addsUp_43 (lv_at hl 0 rfl) ?_
        by_cases cn45_3 : (M 2 i34) = 0
        · refine kr_aald S K N 2 (by unfold crole; omega) (d_K.1 2 (by decide)) 6 rfl (sh_2) (v := .null) (vp_in_nI (show i34 < 3 by omega) (by decide)) (rf_z (nI_clamp (show i34 < 2 ^ 31 by omega)) (cn45_3)) dX4_addsUp_45 ?_
          refine lv_astoreN (lv' := [(8, .null), (7, .int (nI i34)), (6, .int 3), (5, .ref (ad 2)), (4, .ref (ad (40 + i10))), (3, .int (nI i10)), (2, .int 12), (1, .ref (ad 1)), (0, .ref (ad 0))]) S.1 S.2.1 dX4_addsUp_46 hl (by decide) rfl (fun ls hl => ?_)
          refine lv_aload S.1 S.2.1 dX4_addsUp_48 (lv_at hl 4 rfl) ?_
          refine lv_ifnull S.1 S.2.1 dX4_addsUp_50 ?_
          refine lv_aloadN S.1 S.2.1 dX4_addsUp_53 (lv_at hl 0 rfl) ?_
          refine lv_ifnullN (tgt := 70) S.1 S.2.1 dX4_addsUp_55 (by decide) ?_
          refine lv_iinc (v := nI (i34 + 1)) (lv' := [(7, .int (nI (i34 + 1))), (8, .null), (6, .int 3), (5, .ref (ad 2)), (4, .ref (ad (40 + i10))), (3, .int (nI i10)), (2, .int 12), (1, .ref (ad 1)), (0, .ref (ad 0))]) S.1 S.2.1 dX4_addsUp_70 hl (k := 1) rfl (nI_add i34 1) (by decide) rfl (fun ls hl => ?_)
          refine lv_goto (tgt := 34) S.1 S.2.1 dX4_addsUp_73 (by decide) ?_
          exact ih34 ls (lv_sub hl [0, 2, 3, 4, 5, 6, 7, 8] rfl)
        · refine kr_aald S K N 2 (by unfold crole; omega) (d_K.1 2 (by decide)) 6 rfl (sh_2) (v := .ref (ad (30 + i34))) (vp_in_nI (show i34 < 3 by omega) (by decide)) (rf_s (nI_clamp (show i34 < 2 ^ 31 by omega)) (cn45_3) (by omega)) dX4_addsUp_45 ?_
          refine lv_astore (lv' := [(8, .ref (ad (30 + i34))), (7, .int (nI i34)), (6, .int 3), (5, .ref (ad 2)), (4, .ref (ad (40 + i10))), (3, .int (nI i10)), (2, .int 12), (1, .ref (ad 1)), (0, .ref (ad 0))]) S.1 S.2.1 dX4_addsUp_46 hl (by decide) rfl (fun ls hl => ?_)
          refine lv_aload S.1 S.2.1 dX4_addsUp_48 (lv_at hl 4 rfl) ?_
          refine lv_ifnull S.1 S.2.1 dX4_addsUp_50 ?_
          refine lv_aload S.1 S.2.1 dX4_addsUp_53 (lv_at hl 0 rfl) ?_
          refine lv_ifnull S.1 S.2.1 dX4_addsUp_55 ?_
          refine lv_aload S.1 S.2.1 dX4_addsUp_58 (lv_at hl 4 rfl) ?_
          refine lv_aload S.1 S.2.1 dX4_addsUp_60 (lv_at hl 0 rfl) ?_
          refine kc_rV S K N hS (40 + i10) (by unfold crole; omega) ((d_K.2.2 i10 (by omega) cn17_1).1) (sh_P (by omega)) (T := TX2) (n := 12) rfl (As := [.ref (ad (30 + i34))]) (m_X2_isSumRight l M i10 i34 N (by omega) (d_K.2.2 i10 (by omega) cn17_1) (by omega) (d_K.2.1 i34 (by omega))) k2_186 k2_187 k2_188 k1_7 k2_189 (num := 1) (by decide +kernel) rfl ⟨Nat.le_of_ble_eq_true rfl, Nat.le_of_ble_eq_true rfl⟩ hl.1 rfl (Nat.le_of_ble_eq_true rfl) dX4_addsUp_62 ⟨Nat.le_of_ble_eq_true rfl, Nat.le_of_ble_eq_true rfl⟩ ?_
          refine lv_if_ne (tgt := 70) S.1 S.2.1 dX4_addsUp_65 (by decide) (fun _ => ?_) (fun c9 => absurd c9 ((by rw [sumRight]; decide : ¬ (f_X2_isSumRight M i10 i34) = 0)))
          refine lv_iinc (v := nI (i34 + 1)) (lv' := [(7, .int (nI (i34 + 1))), (8, .ref (ad (30 + i34))), (6, .int 3), (5, .ref (ad 2)), (4, .ref (ad (40 + i10))), (3, .int (nI i10)), (2, .int 12), (1, .ref (ad 1)), (0, .ref (ad 0))]) S.1 S.2.1 dX4_addsUp_70 hl (k := 1) rfl (nI_add i34 1) (by decide) rfl (fun ls hl => ?_)
          refine lv_goto (tgt := 34) S.1 S.2.1 dX4_addsUp_73 (by decide) ?_
          exact ih34 ls (lv_sub hl [0, 2, 3, 4, 5, 6, 7, 8] rfl)
