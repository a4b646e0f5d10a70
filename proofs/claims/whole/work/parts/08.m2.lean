def it14_X5_quartersOf (M : Nat → Nat → Int32) (its : Nat) : Nat → Int32 × Int32 × Int32 × Int32
  | 0 => (0, 0, 99, 0)
  | n14 + 1 => (((it14_X5_quartersOf M its n14).1 + ((if (M 12 ((3 * its) + n14)) = (-99) then 0 else (M 12 ((3 * its) + n14))) : Int32)), ((it14_X5_quartersOf M its n14).2.1 + ((if (M 12 ((3 * its) + n14)) = (-99) then 0 else 1) : Int32)), ((if (M 12 ((3 * its) + n14)) = (-99) then (it14_X5_quartersOf M its n14).2.2.1 else ((if (it14_X5_quartersOf M its n14).2.2.1 ≤ (M 12 ((3 * its) + n14)) then (it14_X5_quartersOf M its n14).2.2.1 else (M 12 ((3 * its) + n14))) : Int32)) : Int32), ((if (M 12 ((3 * its) + n14)) ≤ (it14_X5_quartersOf M its n14).2.2.2 then (it14_X5_quartersOf M its n14).2.2.2 else (M 12 ((3 * its) + n14))) : Int32))
def f_X5_quartersOf (M : Nat → Nat → Int32) (its : Nat) : Int32 :=
  if (it14_X5_quartersOf M its 3).2.1 = 0 then 0
  else if 3 ≤ (it14_X5_quartersOf M its 3).2.1 then (((it14_X5_quartersOf M its 3).1 - (it14_X5_quartersOf M its 3).2.2.1) - (it14_X5_quartersOf M its 3).2.2.2)
  else (it14_X5_quartersOf M its 3).2.2.1
set_option maxHeartbeats 4000000 in
set_option maxRecDepth 100000 in
theorem m_X5_quartersOf {D : va_G} {cA : Nat → ClassId} {B : Nat} (l : Launch) {dom : Nat → Prop} {ad : Nat → Nat} {X : Nat → va_E} {H0 : Heap} (M : Nat → Nat → Int32) (its : Nat) (N : mw D cA B dom ad X M H0) (hq : its < 144) : MetR D cA B l yX5_quartersOf cX5_quartersOf 8 (some .int) 0 0 [.ref (ad 5), .int (nI its)] H0 (some (.int (f_X5_quartersOf M its))) := by
  refine MetR.of (by decide) (Nat.le_of_ble_eq_true rfl) ?_
  intro p e s m args below meth c S hr hlk hh K ls hl
  subst hh
  have hS : va_S (fun q => B ≤ q) s.heap s.heap [] := va_S.rf
  have hl : lv_has ls 8 [(0, .ref (ad 5)), (1, .int (nI its))] := hl
  refine lv_iconst (v := 0) S.1 S.2.1 dX5_quartersOf_0 (by decide) ?_
  refine lv_istore_n (lv' := [(2, .int 0), (0, .ref (ad 5)), (1, .int (nI its))]) S.1 S.2.1 dX5_quartersOf_1 rfl hl (by decide) rfl (fun ls hl => ?_)
  refine lv_iconst (v := 0) S.1 S.2.1 dX5_quartersOf_2 (by decide) ?_
  refine lv_istore_n (lv' := [(3, .int 0), (2, .int 0), (0, .ref (ad 5)), (1, .int (nI its))]) S.1 S.2.1 dX5_quartersOf_3 rfl hl (by decide) rfl (fun ls hl => ?_)
  refine lv_bipush (v := 99) S.1 S.2.1 dX5_quartersOf_4 (by decide) ?_
  refine lv_istore (lv' := [(4, .int 99), (3, .int 0), (2, .int 0), (0, .ref (ad 5)), (1, .int (nI its))]) S.1 S.2.1 dX5_quartersOf_6 hl (by decide) rfl (fun ls hl => ?_)
  refine lv_iconst (v := 0) S.1 S.2.1 dX5_quartersOf_8 (by decide) ?_
  refine lv_istore (lv' := [(5, .int 0), (4, .int 99), (3, .int 0), (2, .int 0), (0, .ref (ad 5)), (1, .int (nI its))]) S.1 S.2.1 dX5_quartersOf_9 hl (by decide) rfl (fun ls hl => ?_)
  refine lv_iconst (v := 0) S.1 S.2.1 dX5_quartersOf_11 (by decide) ?_
  refine lv_istore (lv' := [(6, .int 0), (5, .int 0), (4, .int 99), (3, .int 0), (2, .int 0), (0, .ref (ad 5)), (1, .int (nI its))]) S.1 S.2.1 dX5_quartersOf_12 hl (by decide) rfl (fun ls hl => ?_)
  refine nl (h := 14) (N := 3) (n := 8) (L := fun i14 : Nat => [(6, .int (nI i14)), (2, .int ((it14_X5_quartersOf M its i14).1)), (3, .int ((it14_X5_quartersOf M its i14).2.1)), (4, .int ((it14_X5_quartersOf M its i14).2.2.1)), (5, .int ((it14_X5_quartersOf M its i14).2.2.2)), (0, .ref (ad 5)), (1, .int (nI its))]) (fun ls hl => ?_) (fun i14 hi14 ih14 ls hl => ?_) ls (lv_sub hl [0, 4, 3, 2, 1, 5, 6] rfl)
  · try dsimp only at hl
    refine lv_iload S.1 S.2.1 dX5_quartersOf_14 (lv_at hl 0 rfl) ?_
    refine lv_iconst (v := 3) S.1 S.2.1 dX5_quartersOf_16 (by decide) ?_
    refine lv_icmp_ge (tgt := 109) S.1 S.2.1 dX5_quartersOf_17 (by decide) (fun _ => ?_) (fun c9 => absurd (nI_le (Nat.le_refl _) (by first | omega | decide)) c9)
    refine lv_iload_n S.1 S.2.1 dX5_quartersOf_109 rfl (lv_at hl 2 rfl) ?_
    refine lv_if_ne (tgt := 117) S.1 S.2.1 dX5_quartersOf_110 (by decide) (fun c110_1 => ?_) (fun c110_1 => ?_)
    · refine lv_iload_n S.1 S.2.1 dX5_quartersOf_117 rfl (lv_at hl 2 rfl) ?_
      refine lv_iconst (v := 3) S.1 S.2.1 dX5_quartersOf_118 (by decide) ?_
      refine lv_icmp_ge (tgt := 127) S.1 S.2.1 dX5_quartersOf_119 (by decide) (fun c119_2 => ?_) (fun c119_2 => ?_)
      · refine lv_iload_n S.1 S.2.1 dX5_quartersOf_127 rfl (lv_at hl 1 rfl) ?_
        refine lv_iload S.1 S.2.1 dX5_quartersOf_128 (lv_at hl 3 rfl) ?_
        refine lv_isub S.1 S.2.1 dX5_quartersOf_130 ?_
        refine lv_iload S.1 S.2.1 dX5_quartersOf_131 (lv_at hl 4 rfl) ?_
        refine lv_isub S.1 S.2.1 dX5_quartersOf_133 ?_
        exact ee_rI S hr hlk (by unfold f_X5_quartersOf; first | (rw [if_neg c110_1, if_pos c119_2]; done) | (simp only [if_neg c110_1, if_pos c119_2]; done) | rfl) dX5_quartersOf_134
      · refine lv_iload S.1 S.2.1 dX5_quartersOf_122 (lv_at hl 3 rfl) ?_
        refine lv_goto (tgt := 134) S.1 S.2.1 dX5_quartersOf_124 (by decide) ?_
        exact ee_rI S hr hlk (by unfold f_X5_quartersOf; first | (rw [if_neg c110_1, if_neg c119_2]; done) | (simp only [if_neg c110_1, if_neg c119_2]; done) | rfl) dX5_quartersOf_134
    · refine lv_iconst (v := 0) S.1 S.2.1 dX5_quartersOf_113 (by decide) ?_
      refine lv_goto (tgt := 134) S.1 S.2.1 dX5_quartersOf_114 (by decide) ?_
      exact ee_rI S hr hlk (by unfold f_X5_quartersOf; first | (rw [if_pos c110_1]; done) | (simp only [if_pos c110_1]; done) | rfl) dX5_quartersOf_134
  · try dsimp only at hl
    refine lv_iload S.1 S.2.1 dX5_quartersOf_14 (lv_at hl 0 rfl) ?_
    refine lv_iconst (v := 3) S.1 S.2.1 dX5_quartersOf_16 (by decide) ?_
    refine lv_icmp_ge (tgt := 109) S.1 S.2.1 dX5_quartersOf_17 (by decide) (fun c9 => absurd c9 (nI_ge (hi14) (by first | omega | decide))) (fun _ => ?_)
    refine lv_aload_n S.1 S.2.1 dX5_quartersOf_20 rfl (lv_at hl 5 rfl) ?_
    refine mr_get S K N 12 (by decide) k3_158 (v := .ref (ad 22)) rfl dX5_quartersOf_21 ?_
    refine lv_iconst (v := 3) S.1 S.2.1 dX5_quartersOf_24 (by decide) ?_
    refine lv_iload_n S.1 S.2.1 dX5_quartersOf_25 rfl (lv_at hl 6 rfl) ?_
    refine lv_imul S.1 S.2.1 dX5_quartersOf_26 ?_
    refine nt_i (y := nI (3 * its)) (pk_mul 3 its) ?_
    refine lv_iload S.1 S.2.1 dX5_quartersOf_27 (lv_at hl 0 rfl) ?_
    refine lv_iadd S.1 S.2.1 dX5_quartersOf_29 ?_
    refine nt_i (y := nI ((3 * its) + i14)) (nI_add (3 * its) i14) ?_
    refine mr_iald S K N 12 (by decide) (by decide) rfl (v := (M 12 ((3 * its) + i14))) (vp_in_nI (show ((3 * its) + i14) < mlen 12 by show _ < 432; omega) (by decide)) (congrArg (M 12) (nI_clamp (show ((3 * its) + i14) < 2 ^ 31 by omega))) dX5_quartersOf_30 ?_
    refine lv_istore (lv' := [(7, .int (M 12 ((3 * its) + i14))), (6, .int (nI i14)), (2, .int ((it14_X5_quartersOf M its i14).1)), (3, .int ((it14_X5_quartersOf M its i14).2.1)), (4, .int ((it14_X5_quartersOf M its i14).2.2.1)), (5, .int ((it14_X5_quartersOf M its i14).2.2.2)), (0, .ref (ad 5)), (1, .int (nI its))]) S.1 S.2.1 dX5_quartersOf_31 hl (by decide) rfl (fun ls hl => ?_)
    refine lv_iload_n S.1 S.2.1 dX5_quartersOf_33 rfl (lv_at hl 3 rfl) ?_
    refine lv_iload S.1 S.2.1 dX5_quartersOf_34 (lv_at hl 0 rfl) ?_
    refine lv_bipush (v := (-99)) S.1 S.2.1 dX5_quartersOf_36 (by decide) ?_
    refine nj (J := 46) (V := ((if (M 12 ((3 * its) + i14)) = (-99) then 0 else 1) : Int32)) (L := fun v38_3 => [(7, .int (M 12 ((3 * its) + i14))), (6, .int (nI i14)), (2, .int ((it14_X5_quartersOf M its i14).1)), (3, .int ((it14_X5_quartersOf M its i14).2.1)), (4, .int ((it14_X5_quartersOf M its i14).2.2.1)), (5, .int ((it14_X5_quartersOf M its i14).2.2.2)), (0, .ref (ad 5)), (1, .int (nI its))]) (St := fun v38_3 => [.int v38_3, .int ((it14_X5_quartersOf M its i14).2.1)]) (n := 8) (fun v38_3 ls h38_5 hl => ?_) (fun j38_4 => ?_)
    · try dsimp only at hl ⊢
      subst h38_5
      refine lv_iadd S.1 S.2.1 dX5_quartersOf_46 ?_
      refine lv_istore_n (lv' := [(3, .int ((it14_X5_quartersOf M its i14).2.1 + ((if (M 12 ((3 * its) + i14)) = (-99) then 0 else 1) : Int32))), (7, .int (M 12 ((3 * its) + i14))), (6, .int (nI i14)), (2, .int ((it14_X5_quartersOf M its i14).1)), (4, .int ((it14_X5_quartersOf M its i14).2.2.1)), (5, .int ((it14_X5_quartersOf M its i14).2.2.2)), (0, .ref (ad 5)), (1, .int (nI its))]) S.1 S.2.1 dX5_quartersOf_47 rfl hl (by decide) rfl (fun ls hl => ?_)
      refine lv_iload_n S.1 S.2.1 dX5_quartersOf_48 rfl (lv_at hl 3 rfl) ?_
      refine lv_iload S.1 S.2.1 dX5_quartersOf_49 (lv_at hl 1 rfl) ?_
      refine lv_bipush (v := (-99)) S.1 S.2.1 dX5_quartersOf_51 (by decide) ?_
      refine nj (J := 62) (V := ((if (M 12 ((3 * its) + i14)) = (-99) then 0 else (M 12 ((3 * its) + i14))) : Int32)) (L := fun v53_6 => [(3, .int ((it14_X5_quartersOf M its i14).2.1 + ((if (M 12 ((3 * its) + i14)) = (-99) then 0 else 1) : Int32))), (7, .int (M 12 ((3 * its) + i14))), (6, .int (nI i14)), (2, .int ((it14_X5_quartersOf M its i14).1)), (4, .int ((it14_X5_quartersOf M its i14).2.2.1)), (5, .int ((it14_X5_quartersOf M its i14).2.2.2)), (0, .ref (ad 5)), (1, .int (nI its))]) (St := fun v53_6 => [.int v53_6, .int ((it14_X5_quartersOf M its i14).1)]) (n := 8) (fun v53_6 ls h53_8 hl => ?_) (fun j53_7 => ?_)
      · try dsimp only at hl ⊢
        subst h53_8
        refine lv_iadd S.1 S.2.1 dX5_quartersOf_62 ?_
        refine lv_istore_n (lv' := [(2, .int ((it14_X5_quartersOf M its i14).1 + ((if (M 12 ((3 * its) + i14)) = (-99) then 0 else (M 12 ((3 * its) + i14))) : Int32))), (3, .int ((it14_X5_quartersOf M its i14).2.1 + ((if (M 12 ((3 * its) + i14)) = (-99) then 0 else 1) : Int32))), (7, .int (M 12 ((3 * its) + i14))), (6, .int (nI i14)), (4, .int ((it14_X5_quartersOf M its i14).2.2.1)), (5, .int ((it14_X5_quartersOf M its i14).2.2.2)), (0, .ref (ad 5)), (1, .int (nI its))]) S.1 S.2.1 dX5_quartersOf_63 rfl hl (by decide) rfl (fun ls hl => ?_)
        refine lv_iload S.1 S.2.1 dX5_quartersOf_64 (lv_at hl 2 rfl) ?_
        refine lv_bipush (v := (-99)) S.1 S.2.1 dX5_quartersOf_66 (by decide) ?_
        refine nj (J := 85) (V := ((if (M 12 ((3 * its) + i14)) = (-99) then (it14_X5_quartersOf M its i14).2.2.1 else ((if (it14_X5_quartersOf M its i14).2.2.1 ≤ (M 12 ((3 * its) + i14)) then (it14_X5_quartersOf M its i14).2.2.1 else (M 12 ((3 * its) + i14))) : Int32)) : Int32)) (L := fun v68_9 => [(2, .int ((it14_X5_quartersOf M its i14).1 + ((if (M 12 ((3 * its) + i14)) = (-99) then 0 else (M 12 ((3 * its) + i14))) : Int32))), (3, .int ((it14_X5_quartersOf M its i14).2.1 + ((if (M 12 ((3 * its) + i14)) = (-99) then 0 else 1) : Int32))), (7, .int (M 12 ((3 * its) + i14))), (6, .int (nI i14)), (4, .int ((it14_X5_quartersOf M its i14).2.2.1)), (5, .int ((it14_X5_quartersOf M its i14).2.2.2)), (0, .ref (ad 5)), (1, .int (nI its))]) (St := fun v68_9 => [.int v68_9]) (n := 8) (fun v68_9 ls h68_11 hl => ?_) (fun j68_10 => ?_)
        · try dsimp only at hl ⊢
          subst h68_11
          refine lv_istore (lv' := [(4, .int ((if (M 12 ((3 * its) + i14)) = (-99) then (it14_X5_quartersOf M its i14).2.2.1 else ((if (it14_X5_quartersOf M its i14).2.2.1 ≤ (M 12 ((3 * its) + i14)) then (it14_X5_quartersOf M its i14).2.2.1 else (M 12 ((3 * its) + i14))) : Int32)) : Int32)), (2, .int ((it14_X5_quartersOf M its i14).1 + ((if (M 12 ((3 * its) + i14)) = (-99) then 0 else (M 12 ((3 * its) + i14))) : Int32))), (3, .int ((it14_X5_quartersOf M its i14).2.1 + ((if (M 12 ((3 * its) + i14)) = (-99) then 0 else 1) : Int32))), (7, .int (M 12 ((3 * its) + i14))), (6, .int (nI i14)), (5, .int ((it14_X5_quartersOf M its i14).2.2.2)), (0, .ref (ad 5)), (1, .int (nI its))]) S.1 S.2.1 dX5_quartersOf_85 hl (by decide) rfl (fun ls hl => ?_)
          refine lv_iload S.1 S.2.1 dX5_quartersOf_87 (lv_at hl 3 rfl) ?_
          refine lv_iload S.1 S.2.1 dX5_quartersOf_89 (lv_at hl 5 rfl) ?_
          refine nj (J := 101) (V := ((if (M 12 ((3 * its) + i14)) ≤ (it14_X5_quartersOf M its i14).2.2.2 then (it14_X5_quartersOf M its i14).2.2.2 else (M 12 ((3 * its) + i14))) : Int32)) (L := fun v91_12 => [(4, .int ((if (M 12 ((3 * its) + i14)) = (-99) then (it14_X5_quartersOf M its i14).2.2.1 else ((if (it14_X5_quartersOf M its i14).2.2.1 ≤ (M 12 ((3 * its) + i14)) then (it14_X5_quartersOf M its i14).2.2.1 else (M 12 ((3 * its) + i14))) : Int32)) : Int32)), (2, .int ((it14_X5_quartersOf M its i14).1 + ((if (M 12 ((3 * its) + i14)) = (-99) then 0 else (M 12 ((3 * its) + i14))) : Int32))), (3, .int ((it14_X5_quartersOf M its i14).2.1 + ((if (M 12 ((3 * its) + i14)) = (-99) then 0 else 1) : Int32))), (7, .int (M 12 ((3 * its) + i14))), (6, .int (nI i14)), (5, .int ((it14_X5_quartersOf M its i14).2.2.2)), (0, .ref (ad 5)), (1, .int (nI its))]) (St := fun v91_12 => [.int v91_12]) (n := 8) (fun v91_12 ls h91_14 hl => ?_) (fun j91_13 => ?_)
          · try dsimp only at hl ⊢
            subst h91_14
            refine lv_istore (lv' := [(5, .int ((if (M 12 ((3 * its) + i14)) ≤ (it14_X5_quartersOf M its i14).2.2.2 then (it14_X5_quartersOf M its i14).2.2.2 else (M 12 ((3 * its) + i14))) : Int32)), (4, .int ((if (M 12 ((3 * its) + i14)) = (-99) then (it14_X5_quartersOf M its i14).2.2.1 else ((if (it14_X5_quartersOf M its i14).2.2.1 ≤ (M 12 ((3 * its) + i14)) then (it14_X5_quartersOf M its i14).2.2.1 else (M 12 ((3 * its) + i14))) : Int32)) : Int32)), (2, .int ((it14_X5_quartersOf M its i14).1 + ((if (M 12 ((3 * its) + i14)) = (-99) then 0 else (M 12 ((3 * its) + i14))) : Int32))), (3, .int ((it14_X5_quartersOf M its i14).2.1 + ((if (M 12 ((3 * its) + i14)) = (-99) then 0 else 1) : Int32))), (7, .int (M 12 ((3 * its) + i14))), (6, .int (nI i14)), (0, .ref (ad 5)), (1, .int (nI its))]) S.1 S.2.1 dX5_quartersOf_101 hl (by decide) rfl (fun ls hl => ?_)
            refine lv_iinc (v := nI (i14 + 1)) (lv' := [(6, .int (nI (i14 + 1))), (5, .int ((if (M 12 ((3 * its) + i14)) ≤ (it14_X5_quartersOf M its i14).2.2.2 then (it14_X5_quartersOf M its i14).2.2.2 else (M 12 ((3 * its) + i14))) : Int32)), (4, .int ((if (M 12 ((3 * its) + i14)) = (-99) then (it14_X5_quartersOf M its i14).2.2.1 else ((if (it14_X5_quartersOf M its i14).2.2.1 ≤ (M 12 ((3 * its) + i14)) then (it14_X5_quartersOf M its i14).2.2.1 else (M 12 ((3 * its) + i14))) : Int32)) : Int32)), (2, .int ((it14_X5_quartersOf M its i14).1 + ((if (M 12 ((3 * its) + i14)) = (-99) then 0 else (M 12 ((3 * its) + i14))) : Int32))), (3, .int ((it14_X5_quartersOf M its i14).2.1 + ((if (M 12 ((3 * its) + i14)) = (-99) then 0 else 1) : Int32))), (7, .int (M 12 ((3 * its) + i14))), (0, .ref (ad 5)), (1, .int (nI its))]) S.1 S.2.1 dX5_quartersOf_103 hl (k := 5) rfl (nI_add i14 1) (by decide) rfl (fun ls hl => ?_)
            refine lv_goto (tgt := 14) S.1 S.2.1 dX5_quartersOf_106 (by decide) ?_
            exact ih14 ls (lv_sub hl [0, 3, 4, 2, 1, 6, 7] rfl)
          · refine lv_icmp_le (tgt := 99) S.1 S.2.1 dX5_quartersOf_91 (by decide) (fun c91_15 => ?_) (fun c91_15 => ?_)
            · refine lv_iload S.1 S.2.1 dX5_quartersOf_99 (lv_at hl 5 rfl) ?_
              exact j91_13 _ _ (by first | (rw [if_pos c91_15]; done) | (simp only [if_pos c91_15]; done) | rfl) (lv_sub hl [0, 1, 2, 3, 4, 5, 6, 7] rfl)
            · refine lv_iload S.1 S.2.1 dX5_quartersOf_94 (lv_at hl 3 rfl) ?_
              refine lv_goto (tgt := 101) S.1 S.2.1 dX5_quartersOf_96 (by decide) ?_
              exact j91_13 _ _ (by first | (rw [if_neg c91_15]; done) | (simp only [if_neg c91_15]; done) | rfl) (lv_sub hl [0, 1, 2, 3, 4, 5, 6, 7] rfl)
        · refine lv_icmp_eq (tgt := 83) S.1 S.2.1 dX5_quartersOf_68 (by decide) (fun c68_16 => ?_) (fun c68_16 => ?_)
          · refine lv_iload S.1 S.2.1 dX5_quartersOf_83 (lv_at hl 4 rfl) ?_
            exact j68_10 _ _ (by first | (rw [if_pos c68_16]; done) | (simp only [if_pos c68_16]; done) | rfl) (lv_sub hl [0, 1, 2, 3, 4, 5, 6, 7] rfl)
          · refine lv_iload S.1 S.2.1 dX5_quartersOf_71 (lv_at hl 2 rfl) ?_
            refine lv_iload S.1 S.2.1 dX5_quartersOf_73 (lv_at hl 4 rfl) ?_
            refine lv_icmp_ge (tgt := 83) S.1 S.2.1 dX5_quartersOf_75 (by decide) (fun c75_17 => ?_) (fun c75_17 => ?_)
            · refine lv_iload S.1 S.2.1 dX5_quartersOf_83 (lv_at hl 4 rfl) ?_
              exact j68_10 _ _ (by first | (rw [if_neg c68_16, if_pos c75_17]; done) | (simp only [if_neg c68_16, if_pos c75_17]; done) | rfl) (lv_sub hl [0, 1, 2, 3, 4, 5, 6, 7] rfl)
            · refine lv_iload S.1 S.2.1 dX5_quartersOf_78 (lv_at hl 2 rfl) ?_
              refine lv_goto (tgt := 85) S.1 S.2.1 dX5_quartersOf_80 (by decide) ?_
              exact j68_10 _ _ (by first | (rw [if_neg c68_16, if_neg c75_17]; done) | (simp only [if_neg c68_16, if_neg c75_17]; done) | rfl) (lv_sub hl [0, 1, 2, 3, 4, 5, 6, 7] rfl)
      · refine lv_icmp_ne (tgt := 60) S.1 S.2.1 dX5_quartersOf_53 (by decide) (fun c53_18 => ?_) (fun c53_18 => ?_)
        · refine lv_iload S.1 S.2.1 dX5_quartersOf_60 (lv_at hl 1 rfl) ?_
          exact j53_7 _ _ (by first | (rw [if_neg c53_18]; done) | (simp only [if_neg c53_18]; done) | rfl) (lv_sub hl [0, 1, 2, 3, 4, 5, 6, 7] rfl)
        · refine lv_iconst (v := 0) S.1 S.2.1 dX5_quartersOf_56 (by decide) ?_
          refine lv_goto (tgt := 62) S.1 S.2.1 dX5_quartersOf_57 (by decide) ?_
          exact j53_7 _ _ (by first | (rw [if_pos c53_18]; done) | (simp only [if_pos c53_18]; done) | rfl) (lv_sub hl [0, 1, 2, 3, 4, 5, 6, 7] rfl)
    · refine lv_icmp_ne (tgt := 45) S.1 S.2.1 dX5_quartersOf_38 (by decide) (fun c38_19 => ?_) (fun c38_19 => ?_)
      · refine lv_iconst (v := 1) S.1 S.2.1 dX5_quartersOf_45 (by decide) ?_
        exact j38_4 _ _ (by first | (rw [if_neg c38_19]; done) | (simp only [if_neg c38_19]; done) | rfl) (lv_sub hl [0, 1, 2, 3, 4, 5, 6, 7] rfl)
      · refine lv_iconst (v := 0) S.1 S.2.1 dX5_quartersOf_41 (by decide) ?_
        refine lv_goto (tgt := 46) S.1 S.2.1 dX5_quartersOf_42 (by decide) ?_
        exact j38_4 _ _ (by first | (rw [if_pos c38_19]; done) | (simp only [if_pos c38_19]; done) | rfl) (lv_sub hl [0, 1, 2, 3, 4, 5, 6, 7] rfl)

def f_X5_call (M : Nat → Nat → Int32) (p0 : Int32) (p1 : Int32) (p2 : Int32) (cl : Nat) (g : Nat) (ee : Nat) : Int32 :=
  if (f_X5_in p0 0 2) = 0 then 0
  else if (M 0 2) = (-1) then (if (f_X5_in p2 0 4) = 0 then 0
    else 0)
  else if (f_X5_isElement M (nI g) p1) = 0 then 0
  else if (f_X5_in p2 0 4) = 0 then 0
  else if (M 9 (12 * g + ee)) = 6 then 0
  else (f_X5_quartersOf (up2 (up2 (up2 M 0 0 0) 0 0 0) 12 ((3 * (12 * g + ee)) + cl) p2) (12 * g + ee))
def g_X5_call (M : Nat → Nat → Int32) (p0 : Int32) (p1 : Int32) (p2 : Int32) (cl : Nat) (g : Nat) (ee : Nat) : Nat → Nat → Int32 :=
  if (f_X5_in p0 0 2) = 0 then (up2 M 0 0 1)
  else if (M 0 2) = (-1) then (if (f_X5_in p2 0 4) = 0 then (up2 M 0 0 2)
    else (up2 (up2 M 0 0 0) 0 0 3))
  else if (f_X5_isElement M (nI g) p1) = 0 then (up2 M 0 0 1)
  else if (f_X5_in p2 0 4) = 0 then (up2 M 0 0 2)
  else if (M 9 (12 * g + ee)) = 6 then (up2 (up2 M 0 0 0) 0 0 3)
  else (up2 (up2 (up2 M 0 0 0) 0 0 0) 12 ((3 * (12 * g + ee)) + cl) p2)
set_option maxHeartbeats 4000000 in
set_option maxRecDepth 100000 in
theorem m_X5_call {D : va_G} {cA : Nat → ClassId} {B : Nat} (l : Launch) {dom : Nat → Prop} {ad : Nat → Nat} {X : Nat → va_E} {H0 : Heap} (M : Nat → Nat → Int32) (p0 : Int32) (p1 : Int32) (p2 : Int32) (cl : Nat) (g : Nat) (ee : Nat) (N : mw D cA B dom ad X M H0) (hsk : ∀ x, ¬ f_X5_isSkater M x = 0 → vp_in x 12) (hop : ¬ M 0 2 = (-1) → M 0 2 = nI g ∧ g < 12) (he : ¬ f_X5_isElement M (nI g) p1 = 0 → p1 = nI ee ∧ ee < 12) (hc : ¬ f_X5_in p0 0 2 = 0 → p0 = nI cl ∧ cl < 3) : MetW D cA B l yX5_call cX5_call 4 (some .int) 3 65 0 0 [.ref (ad 5), .int p0, .int p1, .int p2] H0 (fun o h => o = some (.int (f_X5_call M p0 p1 p2 cl g ee)) ∧ mw D cA B dom ad X (g_X5_call M p0 p1 p2 cl g ee) h) := by
  refine MetW.of (by decide) (Nat.le_of_ble_eq_true rfl) ?_
  intro p e s m args below meth c S hr hlk hin hh K ls hl
  subst hh
  have hS : va_S (fun q => B ≤ q) s.heap s.heap [] := va_S.rf
  have hl : lv_has ls 4 [(0, .ref (ad 5)), (1, .int p0), (2, .int p1), (3, .int p2)] := hl
  refine lv_aload_n S.1 S.2.1 dX5_call_0 rfl (lv_at hl 0 rfl) ?_
  refine lv_iload_n S.1 S.2.1 dX5_call_1 rfl (lv_at hl 1 rfl) ?_
  refine lv_iconst (v := 0) S.1 S.2.1 dX5_call_2 (by decide) ?_
  refine lv_iconst (v := 2) S.1 S.2.1 dX5_call_3 (by decide) ?_
  refine nc_rS S K hS (As := [.int p0, .int 0, .int 2]) (m_X5_in l p0 0 2) k3_232 k3_233 k1_3 k3_234 (num := 3) (by decide +kernel) rfl ⟨Nat.le_of_ble_eq_true rfl, Nat.le_of_ble_eq_true rfl⟩ hl.1 rfl (Nat.le_of_ble_eq_true rfl) dX5_call_4 ⟨Nat.le_of_ble_eq_true rfl, Nat.le_of_ble_eq_true rfl⟩ ?_
  refine lv_if_eq (tgt := 30) S.1 S.2.1 dX5_call_7 (by decide) (fun c7_1 => ?_) (fun c7_1 => ?_)
  · refine lv_iconst (v := 1) S.1 S.2.1 dX5_call_30 (by decide) ?_
    refine lv_goto (tgt := 48) S.1 S.2.1 dX5_call_31 (by decide) ?_
    refine mr_put S K N hS 0 (by decide) (by unfold mscal; omega) k3_146 rfl rfl dX5_call_48 (fun H locs N hS => ?_)
    refine lv_aload_n S.1 S.2.1 dX5_call_51 rfl (lv_at hl 0 rfl) ?_
    refine mr_get S K N 0 (by decide) k3_146 (v := .int 1) rfl dX5_call_52 ?_
    refine lv_if_ne (tgt := 93) S.1 S.2.1 dX5_call_55 (by decide) (fun _ => ?_) (fun c9 => absurd c9 (by decide))
    refine lv_aload_n S.1 S.2.1 dX5_call_93 rfl (lv_at hl 0 rfl) ?_
    refine mr_get S K N 0 (by decide) k3_146 (v := .int 1) rfl dX5_call_94 ?_
    refine lv_if_le (tgt := 102) S.1 S.2.1 dX5_call_97 (by decide) (fun c9 => absurd c9 (by decide)) (fun _ => ?_)
    refine lv_iconst (v := 0) S.1 S.2.1 dX5_call_100 (by decide) ?_
    exact ne_wI S hS hr hlk ⟨congrArg (fun z => some (Value.int z)) (Eq.symm (by unfold f_X5_call; first | (rw [if_pos c7_1]; done) | (simp only [if_pos c7_1]; done) | rfl)), (by unfold g_X5_call; first | (rw [if_pos c7_1]; exact N) | (simp only [if_pos c7_1]; exact N) | exact N)⟩ dX5_call_101
  · obtain ⟨hc1, hc2⟩ := hc c7_1
    refine lv_aload_n S.1 S.2.1 dX5_call_10 rfl (lv_at hl 0 rfl) ?_
    refine mr_get S K N 2 (by decide) k3_148 (v := .int (M 0 2)) rfl dX5_call_11 ?_
    refine lv_iconst (v := (-1)) S.1 S.2.1 dX5_call_14 (by decide) ?_
    refine lv_icmp_eq (tgt := 34) S.1 S.2.1 dX5_call_15 (by decide) (fun c15_2 => ?_) (fun c15_2 => ?_)
    · refine lv_iload_n S.1 S.2.1 dX5_call_34 rfl (lv_at hl 3 rfl) ?_
      refine lv_iconst (v := 0) S.1 S.2.1 dX5_call_35 (by decide) ?_
      refine lv_iconst (v := 4) S.1 S.2.1 dX5_call_36 (by decide) ?_
      refine nc_rS S K hS (As := [.int p2, .int 0, .int 4]) (m_X5_in l p2 0 4) k3_232 k3_233 k1_3 k3_234 (num := 3) (by decide +kernel) rfl ⟨Nat.le_of_ble_eq_true rfl, Nat.le_of_ble_eq_true rfl⟩ hl.1 rfl (Nat.le_of_ble_eq_true rfl) dX5_call_37 ⟨Nat.le_of_ble_eq_true rfl, Nat.le_of_ble_eq_true rfl⟩ ?_
      refine lv_if_ne (tgt := 47) S.1 S.2.1 dX5_call_40 (by decide) (fun c40_3 => ?_) (fun c40_3 => ?_)
      · refine lv_iconst (v := 0) S.1 S.2.1 dX5_call_47 (by decide) ?_
        refine mr_put S K N hS 0 (by decide) (by unfold mscal; omega) k3_146 rfl rfl dX5_call_48 (fun H locs N hS => ?_)
        refine lv_aload_n S.1 S.2.1 dX5_call_51 rfl (lv_at hl 0 rfl) ?_
        refine mr_get S K N 0 (by decide) k3_146 (v := .int 0) rfl dX5_call_52 ?_
        refine lv_if_ne (tgt := 93) S.1 S.2.1 dX5_call_55 (by decide) (fun c9 => absurd (by decide) c9) (fun _ => ?_)
        refine lv_aload_n S.1 S.2.1 dX5_call_58 rfl (lv_at hl 0 rfl) ?_
        refine lv_aload_n S.1 S.2.1 dX5_call_59 rfl (lv_at hl 0 rfl) ?_
        refine mr_get S K N 2 (by decide) k3_148 (v := .int (M 0 2)) rfl dX5_call_60 ?_
        refine lv_iconst (v := (-1)) S.1 S.2.1 dX5_call_63 (by decide) ?_
        refine lv_icmp_eq (tgt := 85) S.1 S.2.1 dX5_call_64 (by decide) (fun _ => ?_) (fun c9 => absurd (c15_2) c9)
        refine lv_iconst (v := 3) S.1 S.2.1 dX5_call_85 (by decide) ?_
        refine lv_goto (tgt := 90) S.1 S.2.1 dX5_call_86 (by decide) ?_
        refine mr_put S K N hS 0 (by decide) (by unfold mscal; omega) k3_146 rfl rfl dX5_call_90 (fun H locs N hS => ?_)
        refine lv_aload_n S.1 S.2.1 dX5_call_93 rfl (lv_at hl 0 rfl) ?_
        refine mr_get S K N 0 (by decide) k3_146 (v := .int 3) rfl dX5_call_94 ?_
        refine lv_if_le (tgt := 102) S.1 S.2.1 dX5_call_97 (by decide) (fun c9 => absurd c9 (by decide)) (fun _ => ?_)
        refine lv_iconst (v := 0) S.1 S.2.1 dX5_call_100 (by decide) ?_
        exact ne_wI S hS hr hlk ⟨congrArg (fun z => some (Value.int z)) (Eq.symm (by unfold f_X5_call; first | (rw [if_neg c7_1, if_pos c15_2, if_neg c40_3]; done) | (simp only [if_neg c7_1, if_pos c15_2, if_neg c40_3]; done) | rfl)), (by unfold g_X5_call; first | (rw [if_neg c7_1, if_pos c15_2, if_neg c40_3]; exact N) | (simp only [if_neg c7_1, if_pos c15_2, if_neg c40_3]; exact N) | exact N)⟩ dX5_call_101
      · refine lv_iconst (v := 2) S.1 S.2.1 dX5_call_43 (by decide) ?_
        refine lv_goto (tgt := 48) S.1 S.2.1 dX5_call_44 (by decide) ?_
        refine mr_put S K N hS 0 (by decide) (by unfold mscal; omega) k3_146 rfl rfl dX5_call_48 (fun H locs N hS => ?_)
        refine lv_aload_n S.1 S.2.1 dX5_call_51 rfl (lv_at hl 0 rfl) ?_
        refine mr_get S K N 0 (by decide) k3_146 (v := .int 2) rfl dX5_call_52 ?_
        refine lv_if_ne (tgt := 93) S.1 S.2.1 dX5_call_55 (by decide) (fun _ => ?_) (fun c9 => absurd c9 (by decide))
        refine lv_aload_n S.1 S.2.1 dX5_call_93 rfl (lv_at hl 0 rfl) ?_
        refine mr_get S K N 0 (by decide) k3_146 (v := .int 2) rfl dX5_call_94 ?_
        refine lv_if_le (tgt := 102) S.1 S.2.1 dX5_call_97 (by decide) (fun c9 => absurd c9 (by decide)) (fun _ => ?_)
        refine lv_iconst (v := 0) S.1 S.2.1 dX5_call_100 (by decide) ?_
        exact ne_wI S hS hr hlk ⟨congrArg (fun z => some (Value.int z)) (Eq.symm (by unfold f_X5_call; first | (rw [if_neg c7_1, if_pos c15_2, if_pos c40_3]; done) | (simp only [if_neg c7_1, if_pos c15_2, if_pos c40_3]; done) | rfl)), (by unfold g_X5_call; first | (rw [if_neg c7_1, if_pos c15_2, if_pos c40_3]; exact N) | (simp only [if_neg c7_1, if_pos c15_2, if_pos c40_3]; exact N) | exact N)⟩ dX5_call_101
    · obtain ⟨hg1, hg2⟩ := hop c15_2
      refine lv_aload_n S.1 S.2.1 dX5_call_18 rfl (lv_at hl 0 rfl) ?_
      refine lv_aload_n S.1 S.2.1 dX5_call_19 rfl (lv_at hl 0 rfl) ?_
      refine mr_get S K N 2 (by decide) k3_148 (v := .int (M 0 2)) rfl dX5_call_20 ?_
      refine nt_i (y := nI g) (hg1) ?_
      refine lv_iload_n S.1 S.2.1 dX5_call_23 rfl (lv_at hl 2 rfl) ?_
      refine mc_rV S K N hS rfl (As := [.int (nI g), .int p1]) (m_X5_isElement l M (nI g) p1 N hsk) k4_30 k4_32 kS_23 k1_3 k4_33 (num := 2) (by decide +kernel) rfl ⟨Nat.le_of_ble_eq_true rfl, Nat.le_of_ble_eq_true rfl⟩ hl.1 rfl (Nat.le_of_ble_eq_true rfl) dX5_call_24 ⟨Nat.le_of_ble_eq_true rfl, Nat.le_of_ble_eq_true rfl⟩ ?_
      refine lv_if_ne (tgt := 34) S.1 S.2.1 dX5_call_27 (by decide) (fun c27_4 => ?_) (fun c27_4 => ?_)
      · obtain ⟨he1, he2⟩ := he c27_4
        refine lv_iload_n S.1 S.2.1 dX5_call_34 rfl (lv_at hl 3 rfl) ?_
        refine lv_iconst (v := 0) S.1 S.2.1 dX5_call_35 (by decide) ?_
        refine lv_iconst (v := 4) S.1 S.2.1 dX5_call_36 (by decide) ?_
        refine nc_rS S K hS (As := [.int p2, .int 0, .int 4]) (m_X5_in l p2 0 4) k3_232 k3_233 k1_3 k3_234 (num := 3) (by decide +kernel) rfl ⟨Nat.le_of_ble_eq_true rfl, Nat.le_of_ble_eq_true rfl⟩ hl.1 rfl (Nat.le_of_ble_eq_true rfl) dX5_call_37 ⟨Nat.le_of_ble_eq_true rfl, Nat.le_of_ble_eq_true rfl⟩ ?_
        refine lv_if_ne (tgt := 47) S.1 S.2.1 dX5_call_40 (by decide) (fun c40_5 => ?_) (fun c40_5 => ?_)
        · refine lv_iconst (v := 0) S.1 S.2.1 dX5_call_47 (by decide) ?_
          refine mr_put S K N hS 0 (by decide) (by unfold mscal; omega) k3_146 rfl rfl dX5_call_48 (fun H locs N hS => ?_)
          refine lv_aload_n S.1 S.2.1 dX5_call_51 rfl (lv_at hl 0 rfl) ?_
          refine mr_get S K N 0 (by decide) k3_146 (v := .int 0) rfl dX5_call_52 ?_
          refine lv_if_ne (tgt := 93) S.1 S.2.1 dX5_call_55 (by decide) (fun c9 => absurd (by decide) c9) (fun _ => ?_)
          refine lv_aload_n S.1 S.2.1 dX5_call_58 rfl (lv_at hl 0 rfl) ?_
          refine lv_aload_n S.1 S.2.1 dX5_call_59 rfl (lv_at hl 0 rfl) ?_
          refine mr_get S K N 2 (by decide) k3_148 (v := .int (M 0 2)) rfl dX5_call_60 ?_
          refine nt_i (y := nI g) (hg1) ?_
          refine lv_iconst (v := (-1)) S.1 S.2.1 dX5_call_63 (by decide) ?_
          refine lv_icmp_eq (tgt := 85) S.1 S.2.1 dX5_call_64 (by decide) (fun c9 => absurd c9 (by rw [← hg1]; exact c15_2)) (fun _ => ?_)
          refine lv_aload_n S.1 S.2.1 dX5_call_67 rfl (lv_at hl 0 rfl) ?_
          refine mr_get S K N 9 (by decide) k3_155 (v := .ref (ad 19)) rfl dX5_call_68 ?_
          refine lv_aload_n S.1 S.2.1 dX5_call_71 rfl (lv_at hl 0 rfl) ?_
          refine mr_get S K N 2 (by decide) k3_148 (v := .int (M 0 2)) rfl dX5_call_72 ?_
          refine nt_i (y := nI g) (hg1) ?_
          refine lv_iload_n S.1 S.2.1 dX5_call_75 rfl (lv_at hl 2 rfl) ?_
          refine nt_i (y := nI ee) (he1) ?_
          refine nc_rS S K hS (As := [.int (nI g), .int (nI ee)]) (m_X5_at l g ee) k4_15 k4_16 k1_3 k4_17 (num := 2) (by decide +kernel) rfl ⟨Nat.le_of_ble_eq_true rfl, Nat.le_of_ble_eq_true rfl⟩ hl.1 rfl (Nat.le_of_ble_eq_true rfl) dX5_call_76 ⟨Nat.le_of_ble_eq_true rfl, Nat.le_of_ble_eq_true rfl⟩ ?_
          refine nt_i (y := nI (12 * g + ee)) (rfl) ?_
          refine mr_iald S K N 9 (by decide) (by decide) rfl (v := (M 9 (12 * g + ee))) (vp_in_nI (show (12 * g + ee) < mlen 9 by show _ < 144; omega) (by decide)) ((congrArg ((up2 M 0 0 0) 9) (nI_clamp (show (12 * g + ee) < 2 ^ 31 by omega))).trans rfl) dX5_call_79 ?_
          refine lv_bipush (v := 6) S.1 S.2.1 dX5_call_80 (by decide) ?_
          refine lv_icmp_ne (tgt := 89) S.1 S.2.1 dX5_call_82 (by decide) (fun c82_6 => ?_) (fun c82_6 => ?_)
          · refine lv_iconst (v := 0) S.1 S.2.1 dX5_call_89 (by decide) ?_
            refine mr_put S K N hS 0 (by decide) (by unfold mscal; omega) k3_146 rfl rfl dX5_call_90 (fun H locs N hS => ?_)
            refine lv_aload_n S.1 S.2.1 dX5_call_93 rfl (lv_at hl 0 rfl) ?_
            refine mr_get S K N 0 (by decide) k3_146 (v := .int 0) rfl dX5_call_94 ?_
            refine lv_if_le (tgt := 102) S.1 S.2.1 dX5_call_97 (by decide) (fun _ => ?_) (fun c9 => absurd (by decide) c9)
            refine lv_aload_n S.1 S.2.1 dX5_call_102 rfl (lv_at hl 0 rfl) ?_
            refine mr_get S K N 12 (by decide) k3_158 (v := .ref (ad 22)) rfl dX5_call_103 ?_
            refine lv_iconst (v := 3) S.1 S.2.1 dX5_call_106 (by decide) ?_
            refine lv_aload_n S.1 S.2.1 dX5_call_107 rfl (lv_at hl 0 rfl) ?_
            refine mr_get S K N 2 (by decide) k3_148 (v := .int (M 0 2)) rfl dX5_call_108 ?_
            refine nt_i (y := nI g) (hg1) ?_
            refine lv_iload_n S.1 S.2.1 dX5_call_111 rfl (lv_at hl 2 rfl) ?_
            refine nt_i (y := nI ee) (he1) ?_
            refine nc_rS S K hS (As := [.int (nI g), .int (nI ee)]) (m_X5_at l g ee) k4_15 k4_16 k1_3 k4_17 (num := 2) (by decide +kernel) rfl ⟨Nat.le_of_ble_eq_true rfl, Nat.le_of_ble_eq_true rfl⟩ hl.1 rfl (Nat.le_of_ble_eq_true rfl) dX5_call_112 ⟨Nat.le_of_ble_eq_true rfl, Nat.le_of_ble_eq_true rfl⟩ ?_
            refine nt_i (y := nI (12 * g + ee)) (rfl) ?_
            refine lv_imul S.1 S.2.1 dX5_call_115 ?_
            refine nt_i (y := nI (3 * (12 * g + ee))) (pk_mul 3 (12 * g + ee)) ?_
            refine lv_iload_n S.1 S.2.1 dX5_call_116 rfl (lv_at hl 1 rfl) ?_
            refine nt_i (y := nI cl) (hc1) ?_
            refine lv_iadd S.1 S.2.1 dX5_call_117 ?_
            refine nt_i (y := nI ((3 * (12 * g + ee)) + cl)) (nI_add (3 * (12 * g + ee)) cl) ?_
            refine lv_iload_n S.1 S.2.1 dX5_call_118 rfl (lv_at hl 3 rfl) ?_
            refine mr_iast S K N hS 12 (by decide) (by decide) rfl (vp_in_nI (show ((3 * (12 * g + ee)) + cl) < mlen 12 by show _ < 432; omega) (by decide)) ((3 * (12 * g + ee)) + cl) (nI_clamp (show ((3 * (12 * g + ee)) + cl) < 2 ^ 31 by omega)) dX5_call_119 (fun H locs N hS => ?_)
            refine lv_aload_n S.1 S.2.1 dX5_call_120 rfl (lv_at hl 0 rfl) ?_
            refine lv_aload_n S.1 S.2.1 dX5_call_121 rfl (lv_at hl 0 rfl) ?_
            refine mr_get S K N 2 (by decide) k3_148 (v := .int (M 0 2)) rfl dX5_call_122 ?_
            refine nt_i (y := nI g) (hg1) ?_
            refine lv_iload_n S.1 S.2.1 dX5_call_125 rfl (lv_at hl 2 rfl) ?_
            refine nt_i (y := nI ee) (he1) ?_
            refine nc_rS S K hS (As := [.int (nI g), .int (nI ee)]) (m_X5_at l g ee) k4_15 k4_16 k1_3 k4_17 (num := 2) (by decide +kernel) rfl ⟨Nat.le_of_ble_eq_true rfl, Nat.le_of_ble_eq_true rfl⟩ hl.1 rfl (Nat.le_of_ble_eq_true rfl) dX5_call_126 ⟨Nat.le_of_ble_eq_true rfl, Nat.le_of_ble_eq_true rfl⟩ ?_
            refine nt_i (y := nI (12 * g + ee)) (rfl) ?_
            refine mc_rV S K N hS rfl (As := [.int (nI (12 * g + ee))]) (m_X5_quartersOf l (up2 (up2 (up2 M 0 0 0) 0 0 0) 12 ((3 * (12 * g + ee)) + cl) p2) (12 * g + ee) N (by omega)) k4_34 k4_36 kS_24 k1_3 k4_37 (num := 1) (by decide +kernel) rfl ⟨Nat.le_of_ble_eq_true rfl, Nat.le_of_ble_eq_true rfl⟩ hl.1 rfl (Nat.le_of_ble_eq_true rfl) dX5_call_129 ⟨Nat.le_of_ble_eq_true rfl, Nat.le_of_ble_eq_true rfl⟩ ?_
            exact ne_wI S hS hr hlk ⟨congrArg (fun z => some (Value.int z)) (Eq.symm (by unfold f_X5_call; first | (rw [if_neg c7_1, if_neg c15_2, if_neg c27_4, if_neg c40_5, if_neg c82_6]; done) | (simp only [if_neg c7_1, if_neg c15_2, if_neg c27_4, if_neg c40_5, if_neg c82_6]; done) | rfl)), (by unfold g_X5_call; first | (rw [if_neg c7_1, if_neg c15_2, if_neg c27_4, if_neg c40_5, if_neg c82_6]; exact N) | (simp only [if_neg c7_1, if_neg c15_2, if_neg c27_4, if_neg c40_5, if_neg c82_6]; exact N) | exact N)⟩ dX5_call_132
          · refine lv_iconst (v := 3) S.1 S.2.1 dX5_call_85 (by decide) ?_
            refine lv_goto (tgt := 90) S.1 S.2.1 dX5_call_86 (by decide) ?_
            refine mr_put S K N hS 0 (by decide) (by unfold mscal; omega) k3_146 rfl rfl dX5_call_90 (fun H locs N hS => ?_)
            refine lv_aload_n S.1 S.2.1 dX5_call_93 rfl (lv_at hl 0 rfl) ?_
            refine mr_get S K N 0 (by decide) k3_146 (v := .int 3) rfl dX5_call_94 ?_
            refine lv_if_le (tgt := 102) S.1 S.2.1 dX5_call_97 (by decide) (fun c9 => absurd c9 (by decide)) (fun _ => ?_)
            refine lv_iconst (v := 0) S.1 S.2.1 dX5_call_100 (by decide) ?_
            exact ne_wI S hS hr hlk ⟨congrArg (fun z => some (Value.int z)) (Eq.symm (by unfold f_X5_call; first | (rw [if_neg c7_1, if_neg c15_2, if_neg c27_4, if_neg c40_5, if_pos c82_6]; done) | (simp only [if_neg c7_1, if_neg c15_2, if_neg c27_4, if_neg c40_5, if_pos c82_6]; done) | rfl)), (by unfold g_X5_call; first | (rw [if_neg c7_1, if_neg c15_2, if_neg c27_4, if_neg c40_5, if_pos c82_6]; exact N) | (simp only [if_neg c7_1, if_neg c15_2, if_neg c27_4, if_neg c40_5, if_pos c82_6]; exact N) | exact N)⟩ dX5_call_101
        · refine lv_iconst (v := 2) S.1 S.2.1 dX5_call_43 (by decide) ?_
          refine lv_goto (tgt := 48) S.1 S.2.1 dX5_call_44 (by decide) ?_
          refine mr_put S K N hS 0 (by decide) (by unfold mscal; omega) k3_146 rfl rfl dX5_call_48 (fun H locs N hS => ?_)
          refine lv_aload_n S.1 S.2.1 dX5_call_51 rfl (lv_at hl 0 rfl) ?_
          refine mr_get S K N 0 (by decide) k3_146 (v := .int 2) rfl dX5_call_52 ?_
          refine lv_if_ne (tgt := 93) S.1 S.2.1 dX5_call_55 (by decide) (fun _ => ?_) (fun c9 => absurd c9 (by decide))
          refine lv_aload_n S.1 S.2.1 dX5_call_93 rfl (lv_at hl 0 rfl) ?_
          refine mr_get S K N 0 (by decide) k3_146 (v := .int 2) rfl dX5_call_94 ?_
          refine lv_if_le (tgt := 102) S.1 S.2.1 dX5_call_97 (by decide) (fun c9 => absurd c9 (by decide)) (fun _ => ?_)
          refine lv_iconst (v := 0) S.1 S.2.1 dX5_call_100 (by decide) ?_
          exact ne_wI S hS hr hlk ⟨congrArg (fun z => some (Value.int z)) (Eq.symm (by unfold f_X5_call; first | (rw [if_neg c7_1, if_neg c15_2, if_neg c27_4, if_pos c40_5]; done) | (simp only [if_neg c7_1, if_neg c15_2, if_neg c27_4, if_pos c40_5]; done) | rfl)), (by unfold g_X5_call; first | (rw [if_neg c7_1, if_neg c15_2, if_neg c27_4, if_pos c40_5]; exact N) | (simp only [if_neg c7_1, if_neg c15_2, if_neg c27_4, if_pos c40_5]; exact N) | exact N)⟩ dX5_call_101
      · refine lv_iconst (v := 1) S.1 S.2.1 dX5_call_30 (by decide) ?_
        refine lv_goto (tgt := 48) S.1 S.2.1 dX5_call_31 (by decide) ?_
        refine mr_put S K N hS 0 (by decide) (by unfold mscal; omega) k3_146 rfl rfl dX5_call_48 (fun H locs N hS => ?_)
        refine lv_aload_n S.1 S.2.1 dX5_call_51 rfl (lv_at hl 0 rfl) ?_
        refine mr_get S K N 0 (by decide) k3_146 (v := .int 1) rfl dX5_call_52 ?_
        refine lv_if_ne (tgt := 93) S.1 S.2.1 dX5_call_55 (by decide) (fun _ => ?_) (fun c9 => absurd c9 (by decide))
        refine lv_aload_n S.1 S.2.1 dX5_call_93 rfl (lv_at hl 0 rfl) ?_
        refine mr_get S K N 0 (by decide) k3_146 (v := .int 1) rfl dX5_call_94 ?_
        refine lv_if_le (tgt := 102) S.1 S.2.1 dX5_call_97 (by decide) (fun c9 => absurd c9 (by decide)) (fun _ => ?_)
        refine lv_iconst (v := 0) S.1 S.2.1 dX5_call_100 (by decide) ?_
        exact ne_wI S hS hr hlk ⟨congrArg (fun z => some (Value.int z)) (Eq.symm (by unfold f_X5_call; first | (rw [if_neg c7_1, if_neg c15_2, if_pos c27_4]; done) | (simp only [if_neg c7_1, if_neg c15_2, if_pos c27_4]; done) | rfl)), (by unfold g_X5_call; first | (rw [if_neg c7_1, if_neg c15_2, if_pos c27_4]; exact N) | (simp only [if_neg c7_1, if_neg c15_2, if_pos c27_4]; exact N) | exact N)⟩ dX5_call_101

def g_X5_grade (M : Nat → Nat → Int32) (p0 : Int32) (p1 : Int32) (p2 : Int32) (p3 : Int32) (j : Nat) (sk : Nat) (ee : Nat) : Nat → Nat → Int32 :=
  if (f_X5_in p0 0 6) = 0 then (up2 M 0 0 1)
  else if (f_X5_isElement M p1 p2) = 0 then (up2 M 0 0 1)
  else if (f_X5_in p3 (-5) 5) = 0 then (up2 M 0 0 2)
  else if (M 6 sk) = 2 then (up2 (up2 M 0 0 0) 16 ((144 * j) + (12 * sk + ee)) p3)
  else (up2 M 0 0 3)
set_option maxHeartbeats 4000000 in
set_option maxRecDepth 100000 in
theorem m_X5_grade {D : va_G} {cA : Nat → ClassId} {B : Nat} (l : Launch) {dom : Nat → Prop} {ad : Nat → Nat} {X : Nat → va_E} {H0 : Heap} (M : Nat → Nat → Int32) (p0 : Int32) (p1 : Int32) (p2 : Int32) (p3 : Int32) (j : Nat) (sk : Nat) (ee : Nat) (N : mw D cA B dom ad X M H0) (hsk : ∀ x, ¬ f_X5_isSkater M x = 0 → vp_in x 12) (hj : ¬ f_X5_in p0 0 6 = 0 → p0 = nI j ∧ j < 7) (he : ¬ f_X5_isElement M p1 p2 = 0 → p1 = nI sk ∧ sk < 12 ∧ p2 = nI ee ∧ ee < 12) : MetW D cA B l yX5_grade cX5_grade 5 none 3 65 0 0 [.ref (ad 5), .int p0, .int p1, .int p2, .int p3] H0 (fun o h => o = none ∧ mw D cA B dom ad X (g_X5_grade M p0 p1 p2 p3 j sk ee) h) := by
  refine MetW.of (by decide) (Nat.le_of_ble_eq_true rfl) ?_
  intro p e s m args below meth c S hr hlk hin hh K ls hl
  subst hh
  have hS : va_S (fun q => B ≤ q) s.heap s.heap [] := va_S.rf
  have hl : lv_has ls 5 [(0, .ref (ad 5)), (1, .int p0), (2, .int p1), (3, .int p2), (4, .int p3)] := hl
  refine lv_aload_n S.1 S.2.1 dX5_grade_0 rfl (lv_at hl 0 rfl) ?_
  refine lv_iload_n S.1 S.2.1 dX5_grade_1 rfl (lv_at hl 1 rfl) ?_
  refine lv_iconst (v := 0) S.1 S.2.1 dX5_grade_2 (by decide) ?_
  refine lv_bipush (v := 6) S.1 S.2.1 dX5_grade_3 (by decide) ?_
  refine nc_rS S K hS (As := [.int p0, .int 0, .int 6]) (m_X5_in l p0 0 6) k3_232 k3_233 k1_3 k3_234 (num := 3) (by decide +kernel) rfl ⟨Nat.le_of_ble_eq_true rfl, Nat.le_of_ble_eq_true rfl⟩ hl.1 rfl (Nat.le_of_ble_eq_true rfl) dX5_grade_5 ⟨Nat.le_of_ble_eq_true rfl, Nat.le_of_ble_eq_true rfl⟩ ?_
  refine lv_if_eq (tgt := 20) S.1 S.2.1 dX5_grade_8 (by decide) (fun c8_1 => ?_) (fun c8_1 => ?_)
  · refine lv_iconst (v := 1) S.1 S.2.1 dX5_grade_20 (by decide) ?_
    refine lv_goto (tgt := 54) S.1 S.2.1 dX5_grade_21 (by decide) ?_
    refine mr_put S K N hS 0 (by decide) (by unfold mscal; omega) k3_146 rfl rfl dX5_grade_54 (fun H locs N hS => ?_)
    refine lv_aload_n S.1 S.2.1 dX5_grade_57 rfl (lv_at hl 0 rfl) ?_
    refine mr_get S K N 0 (by decide) k3_146 (v := .int 1) rfl dX5_grade_58 ?_
    refine lv_if_ne (tgt := 82) S.1 S.2.1 dX5_grade_61 (by decide) (fun _ => ?_) (fun c9 => absurd c9 (by decide))
    exact ne_wV S hS hr hlk ⟨rfl, (by unfold g_X5_grade; first | (rw [if_pos c8_1]; exact N) | (simp only [if_pos c8_1]; exact N) | exact N)⟩ dX5_grade_82
  · obtain ⟨hj1, hj2⟩ := hj c8_1
    refine lv_aload_n S.1 S.2.1 dX5_grade_11 rfl (lv_at hl 0 rfl) ?_
    refine lv_iload_n S.1 S.2.1 dX5_grade_12 rfl (lv_at hl 2 rfl) ?_
    refine lv_iload_n S.1 S.2.1 dX5_grade_13 rfl (lv_at hl 3 rfl) ?_
    refine mc_rV S K N hS rfl (As := [.int p1, .int p2]) (m_X5_isElement l M p1 p2 N hsk) k4_30 k4_32 kS_23 k1_3 k4_33 (num := 2) (by decide +kernel) rfl ⟨Nat.le_of_ble_eq_true rfl, Nat.le_of_ble_eq_true rfl⟩ hl.1 rfl (Nat.le_of_ble_eq_true rfl) dX5_grade_14 ⟨Nat.le_of_ble_eq_true rfl, Nat.le_of_ble_eq_true rfl⟩ ?_
    refine lv_if_ne (tgt := 24) S.1 S.2.1 dX5_grade_17 (by decide) (fun c17_2 => ?_) (fun c17_2 => ?_)
    · obtain ⟨hs1, hs2, he1, he2⟩ := he c17_2
      refine lv_iload S.1 S.2.1 dX5_grade_24 (lv_at hl 4 rfl) ?_
      refine lv_bipush (v := (-5)) S.1 S.2.1 dX5_grade_26 (by decide) ?_
      refine lv_iconst (v := 5) S.1 S.2.1 dX5_grade_28 (by decide) ?_
      refine nc_rS S K hS (As := [.int p3, .int (-5), .int 5]) (m_X5_in l p3 (-5) 5) k3_232 k3_233 k1_3 k3_234 (num := 3) (by decide +kernel) rfl ⟨Nat.le_of_ble_eq_true rfl, Nat.le_of_ble_eq_true rfl⟩ hl.1 rfl (Nat.le_of_ble_eq_true rfl) dX5_grade_29 ⟨Nat.le_of_ble_eq_true rfl, Nat.le_of_ble_eq_true rfl⟩ ?_
      refine lv_if_ne (tgt := 39) S.1 S.2.1 dX5_grade_32 (by decide) (fun c32_3 => ?_) (fun c32_3 => ?_)
      · refine lv_aload_n S.1 S.2.1 dX5_grade_39 rfl (lv_at hl 0 rfl) ?_
        refine mr_get S K N 6 (by decide) k3_152 (v := .ref (ad 16)) rfl dX5_grade_40 ?_
        refine lv_iload_n S.1 S.2.1 dX5_grade_43 rfl (lv_at hl 2 rfl) ?_
        refine nt_i (y := nI sk) (hs1) ?_
        refine mr_iald S K N 6 (by decide) (by decide) rfl (v := (M 6 sk)) (vp_in_nI (show sk < mlen 6 by show _ < 12; omega) (by decide)) (congrArg (M 6) (nI_clamp (show sk < 2 ^ 31 by omega))) dX5_grade_44 ?_
        refine lv_iconst (v := 2) S.1 S.2.1 dX5_grade_45 (by decide) ?_
        refine lv_icmp_eq (tgt := 53) S.1 S.2.1 dX5_grade_46 (by decide) (fun c46_4 => ?_) (fun c46_4 => ?_)
        · refine lv_iconst (v := 0) S.1 S.2.1 dX5_grade_53 (by decide) ?_
          refine mr_put S K N hS 0 (by decide) (by unfold mscal; omega) k3_146 rfl rfl dX5_grade_54 (fun H locs N hS => ?_)
          refine lv_aload_n S.1 S.2.1 dX5_grade_57 rfl (lv_at hl 0 rfl) ?_
          refine mr_get S K N 0 (by decide) k3_146 (v := .int 0) rfl dX5_grade_58 ?_
          refine lv_if_ne (tgt := 82) S.1 S.2.1 dX5_grade_61 (by decide) (fun c9 => absurd (by decide) c9) (fun _ => ?_)
          refine lv_aload_n S.1 S.2.1 dX5_grade_64 rfl (lv_at hl 0 rfl) ?_
          refine mr_get S K N 16 (by decide) k3_162 (v := .ref (ad 26)) rfl dX5_grade_65 ?_
          refine lv_sipush (v := 144) S.1 S.2.1 dX5_grade_68 (by decide) ?_
          refine lv_iload_n S.1 S.2.1 dX5_grade_71 rfl (lv_at hl 1 rfl) ?_
          refine nt_i (y := nI j) (hj1) ?_
          refine lv_imul S.1 S.2.1 dX5_grade_72 ?_
          refine nt_i (y := nI (144 * j)) (pk_mul 144 j) ?_
          refine lv_iload_n S.1 S.2.1 dX5_grade_73 rfl (lv_at hl 2 rfl) ?_
          refine nt_i (y := nI sk) (hs1) ?_
          refine lv_iload_n S.1 S.2.1 dX5_grade_74 rfl (lv_at hl 3 rfl) ?_
          refine nt_i (y := nI ee) (he1) ?_
          refine nc_rS S K hS (As := [.int (nI sk), .int (nI ee)]) (m_X5_at l sk ee) k4_15 k4_16 k1_3 k4_17 (num := 2) (by decide +kernel) rfl ⟨Nat.le_of_ble_eq_true rfl, Nat.le_of_ble_eq_true rfl⟩ hl.1 rfl (Nat.le_of_ble_eq_true rfl) dX5_grade_75 ⟨Nat.le_of_ble_eq_true rfl, Nat.le_of_ble_eq_true rfl⟩ ?_
          refine nt_i (y := nI (12 * sk + ee)) (rfl) ?_
          refine lv_iadd S.1 S.2.1 dX5_grade_78 ?_
          refine nt_i (y := nI ((144 * j) + (12 * sk + ee))) (nI_add (144 * j) (12 * sk + ee)) ?_
          refine lv_iload S.1 S.2.1 dX5_grade_79 (lv_at hl 4 rfl) ?_
          refine mr_iast S K N hS 16 (by decide) (by decide) rfl (vp_in_nI (show ((144 * j) + (12 * sk + ee)) < mlen 16 by show _ < 1008; omega) (by decide)) ((144 * j) + (12 * sk + ee)) (nI_clamp (show ((144 * j) + (12 * sk + ee)) < 2 ^ 31 by omega)) dX5_grade_81 (fun H locs N hS => ?_)
          exact ne_wV S hS hr hlk ⟨rfl, (by unfold g_X5_grade; first | (rw [if_neg c8_1, if_neg c17_2, if_neg c32_3, if_pos c46_4]; exact N) | (simp only [if_neg c8_1, if_neg c17_2, if_neg c32_3, if_pos c46_4]; exact N) | exact N)⟩ dX5_grade_82
        · refine lv_iconst (v := 3) S.1 S.2.1 dX5_grade_49 (by decide) ?_
          refine lv_goto (tgt := 54) S.1 S.2.1 dX5_grade_50 (by decide) ?_
          refine mr_put S K N hS 0 (by decide) (by unfold mscal; omega) k3_146 rfl rfl dX5_grade_54 (fun H locs N hS => ?_)
          refine lv_aload_n S.1 S.2.1 dX5_grade_57 rfl (lv_at hl 0 rfl) ?_
          refine mr_get S K N 0 (by decide) k3_146 (v := .int 3) rfl dX5_grade_58 ?_
          refine lv_if_ne (tgt := 82) S.1 S.2.1 dX5_grade_61 (by decide) (fun _ => ?_) (fun c9 => absurd c9 (by decide))
          exact ne_wV S hS hr hlk ⟨rfl, (by unfold g_X5_grade; first | (rw [if_neg c8_1, if_neg c17_2, if_neg c32_3, if_neg c46_4]; exact N) | (simp only [if_neg c8_1, if_neg c17_2, if_neg c32_3, if_neg c46_4]; exact N) | exact N)⟩ dX5_grade_82
      · refine lv_iconst (v := 2) S.1 S.2.1 dX5_grade_35 (by decide) ?_
        refine lv_goto (tgt := 54) S.1 S.2.1 dX5_grade_36 (by decide) ?_
        refine mr_put S K N hS 0 (by decide) (by unfold mscal; omega) k3_146 rfl rfl dX5_grade_54 (fun H locs N hS => ?_)
        refine lv_aload_n S.1 S.2.1 dX5_grade_57 rfl (lv_at hl 0 rfl) ?_
        refine mr_get S K N 0 (by decide) k3_146 (v := .int 2) rfl dX5_grade_58 ?_
        refine lv_if_ne (tgt := 82) S.1 S.2.1 dX5_grade_61 (by decide) (fun _ => ?_) (fun c9 => absurd c9 (by decide))
        exact ne_wV S hS hr hlk ⟨rfl, (by unfold g_X5_grade; first | (rw [if_neg c8_1, if_neg c17_2, if_pos c32_3]; exact N) | (simp only [if_neg c8_1, if_neg c17_2, if_pos c32_3]; exact N) | exact N)⟩ dX5_grade_82
    · refine lv_iconst (v := 1) S.1 S.2.1 dX5_grade_20 (by decide) ?_
      refine lv_goto (tgt := 54) S.1 S.2.1 dX5_grade_21 (by decide) ?_
      refine mr_put S K N hS 0 (by decide) (by unfold mscal; omega) k3_146 rfl rfl dX5_grade_54 (fun H locs N hS => ?_)
      refine lv_aload_n S.1 S.2.1 dX5_grade_57 rfl (lv_at hl 0 rfl) ?_
      refine mr_get S K N 0 (by decide) k3_146 (v := .int 1) rfl dX5_grade_58 ?_
      refine lv_if_ne (tgt := 82) S.1 S.2.1 dX5_grade_61 (by decide) (fun _ => ?_) (fun c9 => absurd c9 (by decide))
      exact ne_wV S hS hr hlk ⟨rfl, (by unfold g_X5_grade; first | (rw [if_neg c8_1, if_pos c17_2]; exact N) | (simp only [if_neg c8_1, if_pos c17_2]; exact N) | exact N)⟩ dX5_grade_82

def g_X5_component (M : Nat → Nat → Int32) (p0 : Int32) (p1 : Int32) (p2 : Int32) (p3 : Int32) (j : Nat) (sk : Nat) (co : Nat) : Nat → Nat → Int32 :=
  if (f_X5_in p0 0 6) = 0 then (up2 M 0 0 1)
  else if (f_X5_isSkater M p1) = 0 then (up2 M 0 0 1)
  else if (f_X5_in p2 0 2) = 0 then (up2 M 0 0 1)
  else if (f_X5_in p3 0 40) = 0 then (up2 M 0 0 2)
  else if (M 6 sk) = 2 then (up2 (up2 M 0 0 0) 17 (((36 * j) + (3 * sk)) + co) p3)
  else (up2 M 0 0 3)
set_option maxHeartbeats 4000000 in
set_option maxRecDepth 100000 in
theorem m_X5_component {D : va_G} {cA : Nat → ClassId} {B : Nat} (l : Launch) {dom : Nat → Prop} {ad : Nat → Nat} {X : Nat → va_E} {H0 : Heap} (M : Nat → Nat → Int32) (p0 : Int32) (p1 : Int32) (p2 : Int32) (p3 : Int32) (j : Nat) (sk : Nat) (co : Nat) (N : mw D cA B dom ad X M H0) (hj : ¬ f_X5_in p0 0 6 = 0 → p0 = nI j ∧ j < 7) (hs : ¬ f_X5_isSkater M p1 = 0 → p1 = nI sk ∧ sk < 12) (hc : ¬ f_X5_in p2 0 2 = 0 → p2 = nI co ∧ co < 3) : MetW D cA B l yX5_component cX5_component 5 none 2 43 0 0 [.ref (ad 5), .int p0, .int p1, .int p2, .int p3] H0 (fun o h => o = none ∧ mw D cA B dom ad X (g_X5_component M p0 p1 p2 p3 j sk co) h) := by
  refine MetW.of (by decide) (Nat.le_of_ble_eq_true rfl) ?_
  intro p e s m args below meth c S hr hlk hin hh K ls hl
  subst hh
  have hS : va_S (fun q => B ≤ q) s.heap s.heap [] := va_S.rf
  have hl : lv_has ls 5 [(0, .ref (ad 5)), (1, .int p0), (2, .int p1), (3, .int p2), (4, .int p3)] := hl
  refine lv_aload_n S.1 S.2.1 dX5_component_0 rfl (lv_at hl 0 rfl) ?_
  refine lv_iload_n S.1 S.2.1 dX5_component_1 rfl (lv_at hl 1 rfl) ?_
  refine lv_iconst (v := 0) S.1 S.2.1 dX5_component_2 (by decide) ?_
  refine lv_bipush (v := 6) S.1 S.2.1 dX5_component_3 (by decide) ?_
  refine nc_rS S K hS (As := [.int p0, .int 0, .int 6]) (m_X5_in l p0 0 6) k3_232 k3_233 k1_3 k3_234 (num := 3) (by decide +kernel) rfl ⟨Nat.le_of_ble_eq_true rfl, Nat.le_of_ble_eq_true rfl⟩ hl.1 rfl (Nat.le_of_ble_eq_true rfl) dX5_component_5 ⟨Nat.le_of_ble_eq_true rfl, Nat.le_of_ble_eq_true rfl⟩ ?_
  refine lv_if_eq (tgt := 28) S.1 S.2.1 dX5_component_8 (by decide) (fun c8_1 => ?_) (fun c8_1 => ?_)
  · refine lv_iconst (v := 1) S.1 S.2.1 dX5_component_28 (by decide) ?_
    refine lv_goto (tgt := 62) S.1 S.2.1 dX5_component_29 (by decide) ?_
    refine mr_put S K N hS 0 (by decide) (by unfold mscal; omega) k3_146 rfl rfl dX5_component_62 (fun H locs N hS => ?_)
    refine lv_aload_n S.1 S.2.1 dX5_component_65 rfl (lv_at hl 0 rfl) ?_
    refine mr_get S K N 0 (by decide) k3_146 (v := .int 1) rfl dX5_component_66 ?_
    refine lv_if_ne (tgt := 89) S.1 S.2.1 dX5_component_69 (by decide) (fun _ => ?_) (fun c9 => absurd c9 (by decide))
    exact ne_wV S hS hr hlk ⟨rfl, (by unfold g_X5_component; first | (rw [if_pos c8_1]; exact N) | (simp only [if_pos c8_1]; exact N) | exact N)⟩ dX5_component_89
  · obtain ⟨hj1, hj2⟩ := hj c8_1
    refine lv_aload_n S.1 S.2.1 dX5_component_11 rfl (lv_at hl 0 rfl) ?_
    refine lv_iload_n S.1 S.2.1 dX5_component_12 rfl (lv_at hl 2 rfl) ?_
    refine mc_rV S K N hS rfl (As := [.int p1]) (m_X5_isSkater l M p1 N) k3_228 k3_230 kS_19 k1_3 k3_231 (num := 1) (by decide +kernel) rfl ⟨Nat.le_of_ble_eq_true rfl, Nat.le_of_ble_eq_true rfl⟩ hl.1 rfl (Nat.le_of_ble_eq_true rfl) dX5_component_13 ⟨Nat.le_of_ble_eq_true rfl, Nat.le_of_ble_eq_true rfl⟩ ?_
    refine lv_if_eq (tgt := 28) S.1 S.2.1 dX5_component_16 (by decide) (fun c16_2 => ?_) (fun c16_2 => ?_)
    · refine lv_iconst (v := 1) S.1 S.2.1 dX5_component_28 (by decide) ?_
      refine lv_goto (tgt := 62) S.1 S.2.1 dX5_component_29 (by decide) ?_
      refine mr_put S K N hS 0 (by decide) (by unfold mscal; omega) k3_146 rfl rfl dX5_component_62 (fun H locs N hS => ?_)
      refine lv_aload_n S.1 S.2.1 dX5_component_65 rfl (lv_at hl 0 rfl) ?_
      refine mr_get S K N 0 (by decide) k3_146 (v := .int 1) rfl dX5_component_66 ?_
      refine lv_if_ne (tgt := 89) S.1 S.2.1 dX5_component_69 (by decide) (fun _ => ?_) (fun c9 => absurd c9 (by decide))
      exact ne_wV S hS hr hlk ⟨rfl, (by unfold g_X5_component; first | (rw [if_neg c8_1, if_pos c16_2]; exact N) | (simp only [if_neg c8_1, if_pos c16_2]; exact N) | exact N)⟩ dX5_component_89
    · obtain ⟨hs1, hs2⟩ := hs c16_2
      refine lv_iload_n S.1 S.2.1 dX5_component_19 rfl (lv_at hl 3 rfl) ?_
      refine lv_iconst (v := 0) S.1 S.2.1 dX5_component_20 (by decide) ?_
      refine lv_iconst (v := 2) S.1 S.2.1 dX5_component_21 (by decide) ?_
      refine nc_rS S K hS (As := [.int p2, .int 0, .int 2]) (m_X5_in l p2 0 2) k3_232 k3_233 k1_3 k3_234 (num := 3) (by decide +kernel) rfl ⟨Nat.le_of_ble_eq_true rfl, Nat.le_of_ble_eq_true rfl⟩ hl.1 rfl (Nat.le_of_ble_eq_true rfl) dX5_component_22 ⟨Nat.le_of_ble_eq_true rfl, Nat.le_of_ble_eq_true rfl⟩ ?_
      refine lv_if_ne (tgt := 32) S.1 S.2.1 dX5_component_25 (by decide) (fun c25_3 => ?_) (fun c25_3 => ?_)
      · obtain ⟨hc1, hc2⟩ := hc c25_3
        refine lv_iload S.1 S.2.1 dX5_component_32 (lv_at hl 4 rfl) ?_
        refine lv_iconst (v := 0) S.1 S.2.1 dX5_component_34 (by decide) ?_
        refine lv_bipush (v := 40) S.1 S.2.1 dX5_component_35 (by decide) ?_
        refine nc_rS S K hS (As := [.int p3, .int 0, .int 40]) (m_X5_in l p3 0 40) k3_232 k3_233 k1_3 k3_234 (num := 3) (by decide +kernel) rfl ⟨Nat.le_of_ble_eq_true rfl, Nat.le_of_ble_eq_true rfl⟩ hl.1 rfl (Nat.le_of_ble_eq_true rfl) dX5_component_37 ⟨Nat.le_of_ble_eq_true rfl, Nat.le_of_ble_eq_true rfl⟩ ?_
        refine lv_if_ne (tgt := 47) S.1 S.2.1 dX5_component_40 (by decide) (fun c40_4 => ?_) (fun c40_4 => ?_)
        · refine lv_aload_n S.1 S.2.1 dX5_component_47 rfl (lv_at hl 0 rfl) ?_
          refine mr_get S K N 6 (by decide) k3_152 (v := .ref (ad 16)) rfl dX5_component_48 ?_
          refine lv_iload_n S.1 S.2.1 dX5_component_51 rfl (lv_at hl 2 rfl) ?_
          refine nt_i (y := nI sk) (hs1) ?_
          refine mr_iald S K N 6 (by decide) (by decide) rfl (v := (M 6 sk)) (vp_in_nI (show sk < mlen 6 by show _ < 12; omega) (by decide)) (congrArg (M 6) (nI_clamp (show sk < 2 ^ 31 by omega))) dX5_component_52 ?_
          refine lv_iconst (v := 2) S.1 S.2.1 dX5_component_53 (by decide) ?_
          refine lv_icmp_eq (tgt := 61) S.1 S.2.1 dX5_component_54 (by decide) (fun c54_5 => ?_) (fun c54_5 => ?_)
          · refine lv_iconst (v := 0) S.1 S.2.1 dX5_component_61 (by decide) ?_
            refine mr_put S K N hS 0 (by decide) (by unfold mscal; omega) k3_146 rfl rfl dX5_component_62 (fun H locs N hS => ?_)
            refine lv_aload_n S.1 S.2.1 dX5_component_65 rfl (lv_at hl 0 rfl) ?_
            refine mr_get S K N 0 (by decide) k3_146 (v := .int 0) rfl dX5_component_66 ?_
            refine lv_if_ne (tgt := 89) S.1 S.2.1 dX5_component_69 (by decide) (fun c9 => absurd (by decide) c9) (fun _ => ?_)
            refine lv_aload_n S.1 S.2.1 dX5_component_72 rfl (lv_at hl 0 rfl) ?_
            refine mr_get S K N 17 (by decide) k3_163 (v := .ref (ad 27)) rfl dX5_component_73 ?_
            refine lv_bipush (v := 36) S.1 S.2.1 dX5_component_76 (by decide) ?_
            refine lv_iload_n S.1 S.2.1 dX5_component_78 rfl (lv_at hl 1 rfl) ?_
            refine nt_i (y := nI j) (hj1) ?_
            refine lv_imul S.1 S.2.1 dX5_component_79 ?_
            refine nt_i (y := nI (36 * j)) (pk_mul 36 j) ?_
            refine lv_iconst (v := 3) S.1 S.2.1 dX5_component_80 (by decide) ?_
            refine lv_iload_n S.1 S.2.1 dX5_component_81 rfl (lv_at hl 2 rfl) ?_
            refine nt_i (y := nI sk) (hs1) ?_
            refine lv_imul S.1 S.2.1 dX5_component_82 ?_
            refine nt_i (y := nI (3 * sk)) (pk_mul 3 sk) ?_
            refine lv_iadd S.1 S.2.1 dX5_component_83 ?_
            refine nt_i (y := nI ((36 * j) + (3 * sk))) (nI_add (36 * j) (3 * sk)) ?_
            refine lv_iload_n S.1 S.2.1 dX5_component_84 rfl (lv_at hl 3 rfl) ?_
            refine nt_i (y := nI co) (hc1) ?_
            refine lv_iadd S.1 S.2.1 dX5_component_85 ?_
            refine nt_i (y := nI (((36 * j) + (3 * sk)) + co)) (nI_add ((36 * j) + (3 * sk)) co) ?_
            refine lv_iload S.1 S.2.1 dX5_component_86 (lv_at hl 4 rfl) ?_
            refine mr_iast S K N hS 17 (by decide) (by decide) rfl (vp_in_nI (show (((36 * j) + (3 * sk)) + co) < mlen 17 by show _ < 252; omega) (by decide)) (((36 * j) + (3 * sk)) + co) (nI_clamp (show (((36 * j) + (3 * sk)) + co) < 2 ^ 31 by omega)) dX5_component_88 (fun H locs N hS => ?_)
            exact ne_wV S hS hr hlk ⟨rfl, (by unfold g_X5_component; first | (rw [if_neg c8_1, if_neg c16_2, if_neg c25_3, if_neg c40_4, if_pos c54_5]; exact N) | (simp only [if_neg c8_1, if_neg c16_2, if_neg c25_3, if_neg c40_4, if_pos c54_5]; exact N) | exact N)⟩ dX5_component_89
          · refine lv_iconst (v := 3) S.1 S.2.1 dX5_component_57 (by decide) ?_
            refine lv_goto (tgt := 62) S.1 S.2.1 dX5_component_58 (by decide) ?_
            refine mr_put S K N hS 0 (by decide) (by unfold mscal; omega) k3_146 rfl rfl dX5_component_62 (fun H locs N hS => ?_)
            refine lv_aload_n S.1 S.2.1 dX5_component_65 rfl (lv_at hl 0 rfl) ?_
            refine mr_get S K N 0 (by decide) k3_146 (v := .int 3) rfl dX5_component_66 ?_
            refine lv_if_ne (tgt := 89) S.1 S.2.1 dX5_component_69 (by decide) (fun _ => ?_) (fun c9 => absurd c9 (by decide))
            exact ne_wV S hS hr hlk ⟨rfl, (by unfold g_X5_component; first | (rw [if_neg c8_1, if_neg c16_2, if_neg c25_3, if_neg c40_4, if_neg c54_5]; exact N) | (simp only [if_neg c8_1, if_neg c16_2, if_neg c25_3, if_neg c40_4, if_neg c54_5]; exact N) | exact N)⟩ dX5_component_89
        · refine lv_iconst (v := 2) S.1 S.2.1 dX5_component_43 (by decide) ?_
          refine lv_goto (tgt := 62) S.1 S.2.1 dX5_component_44 (by decide) ?_
          refine mr_put S K N hS 0 (by decide) (by unfold mscal; omega) k3_146 rfl rfl dX5_component_62 (fun H locs N hS => ?_)
          refine lv_aload_n S.1 S.2.1 dX5_component_65 rfl (lv_at hl 0 rfl) ?_
          refine mr_get S K N 0 (by decide) k3_146 (v := .int 2) rfl dX5_component_66 ?_
          refine lv_if_ne (tgt := 89) S.1 S.2.1 dX5_component_69 (by decide) (fun _ => ?_) (fun c9 => absurd c9 (by decide))
          exact ne_wV S hS hr hlk ⟨rfl, (by unfold g_X5_component; first | (rw [if_neg c8_1, if_neg c16_2, if_neg c25_3, if_pos c40_4]; exact N) | (simp only [if_neg c8_1, if_neg c16_2, if_neg c25_3, if_pos c40_4]; exact N) | exact N)⟩ dX5_component_89
      · refine lv_iconst (v := 1) S.1 S.2.1 dX5_component_28 (by decide) ?_
        refine lv_goto (tgt := 62) S.1 S.2.1 dX5_component_29 (by decide) ?_
        refine mr_put S K N hS 0 (by decide) (by unfold mscal; omega) k3_146 rfl rfl dX5_component_62 (fun H locs N hS => ?_)
        refine lv_aload_n S.1 S.2.1 dX5_component_65 rfl (lv_at hl 0 rfl) ?_
        refine mr_get S K N 0 (by decide) k3_146 (v := .int 1) rfl dX5_component_66 ?_
        refine lv_if_ne (tgt := 89) S.1 S.2.1 dX5_component_69 (by decide) (fun _ => ?_) (fun c9 => absurd c9 (by decide))
        exact ne_wV S hS hr hlk ⟨rfl, (by unfold g_X5_component; first | (rw [if_neg c8_1, if_neg c16_2, if_pos c25_3]; exact N) | (simp only [if_neg c8_1, if_neg c16_2, if_pos c25_3]; exact N) | exact N)⟩ dX5_component_89

def f_X5_valueAt (p0 : Int32) (p1 : Int32) (p2 : Int32) : Int32 :=
  ((29 * p0) + ((if p1 = 6 then (24 + p2) else (((4 * p1) + p2) - 1)) : Int32))
set_option maxHeartbeats 4000000 in
set_option maxRecDepth 100000 in
theorem m_X5_valueAt {D : va_G} {cA : Nat → ClassId} {B : Nat} (l : Launch) {H0 : Heap} (p0 : Int32) (p1 : Int32) (p2 : Int32) : MetR D cA B l yX5_valueAt cX5_valueAt 3 (some .int) 0 0 [.int p0, .int p1, .int p2] H0 (some (.int (f_X5_valueAt p0 p1 p2))) := by
  refine MetR.of (by decide) (Nat.le_of_ble_eq_true rfl) ?_
  intro p e s m args below meth c S hr hlk hh K ls hl
  subst hh
  have hS : va_S (fun q => B ≤ q) s.heap s.heap [] := va_S.rf
  have hl : lv_has ls 3 [(0, .int p0), (1, .int p1), (2, .int p2)] := hl
  refine lv_bipush (v := 29) S.1 S.2.1 dX5_valueAt_0 (by decide) ?_
  refine lv_iload_n S.1 S.2.1 dX5_valueAt_2 rfl (lv_at hl 0 rfl) ?_
  refine lv_imul S.1 S.2.1 dX5_valueAt_3 ?_
  refine lv_iload_n S.1 S.2.1 dX5_valueAt_4 rfl (lv_at hl 1 rfl) ?_
  refine lv_bipush (v := 6) S.1 S.2.1 dX5_valueAt_5 (by decide) ?_
  refine nj (J := 24) (V := ((if p1 = 6 then (24 + p2) else (((4 * p1) + p2) - 1)) : Int32)) (L := fun v7_1 => [(0, .int p0), (1, .int p1), (2, .int p2)]) (St := fun v7_1 => [.int v7_1, .int (29 * p0)]) (n := 3) (fun v7_1 ls h7_3 hl => ?_) (fun j7_2 => ?_)
  · try dsimp only at hl ⊢
    subst h7_3
    refine lv_iadd S.1 S.2.1 dX5_valueAt_24 ?_
    exact ee_rI S hr hlk (rfl) dX5_valueAt_25
  · refine lv_icmp_ne (tgt := 17) S.1 S.2.1 dX5_valueAt_7 (by decide) (fun c7_4 => ?_) (fun c7_4 => ?_)
    · refine lv_iconst (v := 4) S.1 S.2.1 dX5_valueAt_17 (by decide) ?_
      refine lv_iload_n S.1 S.2.1 dX5_valueAt_18 rfl (lv_at hl 1 rfl) ?_
      refine lv_imul S.1 S.2.1 dX5_valueAt_19 ?_
      refine lv_iload_n S.1 S.2.1 dX5_valueAt_20 rfl (lv_at hl 2 rfl) ?_
      refine lv_iadd S.1 S.2.1 dX5_valueAt_21 ?_
      refine lv_iconst (v := 1) S.1 S.2.1 dX5_valueAt_22 (by decide) ?_
      refine lv_isub S.1 S.2.1 dX5_valueAt_23 ?_
      exact j7_2 _ _ (by first | (rw [if_neg c7_4]; done) | (simp only [if_neg c7_4]; done) | rfl) (lv_sub hl [0, 1, 2] rfl)
    · refine lv_bipush (v := 24) S.1 S.2.1 dX5_valueAt_10 (by decide) ?_
      refine lv_iload_n S.1 S.2.1 dX5_valueAt_12 rfl (lv_at hl 2 rfl) ?_
      refine lv_iadd S.1 S.2.1 dX5_valueAt_13 ?_
      refine lv_goto (tgt := 24) S.1 S.2.1 dX5_valueAt_14 (by decide) ?_
      exact j7_2 _ _ (by first | (rw [if_pos c7_4]; done) | (simp only [if_pos c7_4]; done) | rfl) (lv_sub hl [0, 1, 2] rfl)

def f_X5_value (M : Nat → Nat → Int32) (p0 : Int32) (p1 : Int32) (p2 : Int32) (p3 : Int32) : Int32 :=
  if (f_X5_in p0 0 2) = 0 then 0
  else if (f_X5_in p1 0 6) = 0 then 0
  else if (f_X5_in p2 ((if p1 = 6 then 0 else 1) : Int32) 4) = 0 then 0
  else if (f_X5_in p3 0 9999) = 0 then 0
  else ((up2 M 0 0 0) 18 (f_X5_valueAt p0 p1 p2).toNatClampNeg)
def g_X5_value (M : Nat → Nat → Int32) (p0 : Int32) (p1 : Int32) (p2 : Int32) (p3 : Int32) : Nat → Nat → Int32 :=
  if (f_X5_in p0 0 2) = 0 then (up2 M 0 0 1)
  else if (f_X5_in p1 0 6) = 0 then (up2 M 0 0 1)
  else if (f_X5_in p2 ((if p1 = 6 then 0 else 1) : Int32) 4) = 0 then (up2 M 0 0 1)
  else if (f_X5_in p3 0 9999) = 0 then (up2 M 0 0 1)
  else (up2 (up2 M 0 0 0) 18 ((f_X5_valueAt p0 p1 p2).toNatClampNeg) p3)
set_option maxHeartbeats 4000000 in
set_option maxRecDepth 100000 in
theorem m_X5_value {D : va_G} {cA : Nat → ClassId} {B : Nat} (l : Launch) {dom : Nat → Prop} {ad : Nat → Nat} {X : Nat → va_E} {H0 : Heap} (M : Nat → Nat → Int32) (p0 : Int32) (p1 : Int32) (p2 : Int32) (p3 : Int32) (N : mw D cA B dom ad X M H0) (hv : ¬ f_X5_in p0 0 2 = 0 → ¬ f_X5_in p1 0 6 = 0 → ¬ f_X5_in p2 (if p1 = 6 then 0 else 1) 4 = 0 → vp_in (f_X5_valueAt p0 p1 p2) 87) : MetW D cA B l yX5_value cX5_value 8 (some .int) 1 22 0 0 [.ref (ad 5), .int p0, .int p1, .int p2, .int p3] H0 (fun o h => o = some (.int (f_X5_value M p0 p1 p2 p3)) ∧ mw D cA B dom ad X (g_X5_value M p0 p1 p2 p3) h) := by
  refine MetW.of (by decide) (Nat.le_of_ble_eq_true rfl) ?_
  intro p e s m args below meth c S hr hlk hin hh K ls hl
  subst hh
  have hS : va_S (fun q => B ≤ q) s.heap s.heap [] := va_S.rf
  have hl : lv_has ls 8 [(0, .ref (ad 5)), (1, .int p0), (2, .int p1), (3, .int p2), (4, .int p3)] := hl
  refine lv_iload_n S.1 S.2.1 dX5_value_0 rfl (lv_at hl 1 rfl) ?_
  refine lv_iconst (v := 0) S.1 S.2.1 dX5_value_1 (by decide) ?_
  refine lv_iconst (v := 2) S.1 S.2.1 dX5_value_2 (by decide) ?_
  refine nc_rS S K hS (As := [.int p0, .int 0, .int 2]) (m_X5_in l p0 0 2) k3_232 k3_233 k1_3 k3_234 (num := 3) (by decide +kernel) rfl ⟨Nat.le_of_ble_eq_true rfl, Nat.le_of_ble_eq_true rfl⟩ hl.1 rfl (Nat.le_of_ble_eq_true rfl) dX5_value_3 ⟨Nat.le_of_ble_eq_true rfl, Nat.le_of_ble_eq_true rfl⟩ ?_
  refine lv_if_eq (tgt := 54) S.1 S.2.1 dX5_value_6 (by decide) (fun c6_1 => ?_) (fun c6_1 => ?_)
  · refine lv_iconst (v := 0) S.1 S.2.1 dX5_value_54 (by decide) ?_
    refine lv_istore (lv' := [(5, .int 0), (0, .ref (ad 5)), (1, .int p0), (2, .int p1), (3, .int p2), (4, .int p3)]) S.1 S.2.1 dX5_value_55 hl (by decide) rfl (fun ls hl => ?_)
    refine lv_aload_n S.1 S.2.1 dX5_value_57 rfl (lv_at hl 1 rfl) ?_
    refine lv_iload S.1 S.2.1 dX5_value_58 (lv_at hl 0 rfl) ?_
    refine lv_if_eq (tgt := 67) S.1 S.2.1 dX5_value_60 (by decide) (fun _ => ?_) (fun c9 => absurd (by decide) c9)
    refine lv_iconst (v := 1) S.1 S.2.1 dX5_value_67 (by decide) ?_
    refine mr_put S K N hS 0 (by decide) (by unfold mscal; omega) k3_146 rfl rfl dX5_value_68 (fun H locs N hS => ?_)
    refine lv_aload_n S.1 S.2.1 dX5_value_71 rfl (lv_at hl 1 rfl) ?_
    refine mr_get S K N 0 (by decide) k3_146 (v := .int 1) rfl dX5_value_72 ?_
    refine lv_if_le (tgt := 80) S.1 S.2.1 dX5_value_75 (by decide) (fun c9 => absurd c9 (by decide)) (fun _ => ?_)
    refine lv_iconst (v := 0) S.1 S.2.1 dX5_value_78 (by decide) ?_
    exact ne_wI S hS hr hlk ⟨congrArg (fun z => some (Value.int z)) (Eq.symm (by unfold f_X5_value; first | (rw [if_pos c6_1]; done) | (simp only [if_pos c6_1]; done) | rfl)), (by unfold g_X5_value; first | (rw [if_pos c6_1]; exact N) | (simp only [if_pos c6_1]; exact N) | exact N)⟩ dX5_value_79
  · refine lv_iload_n S.1 S.2.1 dX5_value_9 rfl (lv_at hl 2 rfl) ?_
    refine lv_iconst (v := 0) S.1 S.2.1 dX5_value_10 (by decide) ?_
    refine lv_bipush (v := 6) S.1 S.2.1 dX5_value_11 (by decide) ?_
    refine nc_rS S K hS (As := [.int p1, .int 0, .int 6]) (m_X5_in l p1 0 6) k3_232 k3_233 k1_3 k3_234 (num := 3) (by decide +kernel) rfl ⟨Nat.le_of_ble_eq_true rfl, Nat.le_of_ble_eq_true rfl⟩ hl.1 rfl (Nat.le_of_ble_eq_true rfl) dX5_value_13 ⟨Nat.le_of_ble_eq_true rfl, Nat.le_of_ble_eq_true rfl⟩ ?_
    refine lv_if_eq (tgt := 54) S.1 S.2.1 dX5_value_16 (by decide) (fun c16_2 => ?_) (fun c16_2 => ?_)
    · refine lv_iconst (v := 0) S.1 S.2.1 dX5_value_54 (by decide) ?_
      refine lv_istore (lv' := [(5, .int 0), (0, .ref (ad 5)), (1, .int p0), (2, .int p1), (3, .int p2), (4, .int p3)]) S.1 S.2.1 dX5_value_55 hl (by decide) rfl (fun ls hl => ?_)
      refine lv_aload_n S.1 S.2.1 dX5_value_57 rfl (lv_at hl 1 rfl) ?_
      refine lv_iload S.1 S.2.1 dX5_value_58 (lv_at hl 0 rfl) ?_
      refine lv_if_eq (tgt := 67) S.1 S.2.1 dX5_value_60 (by decide) (fun _ => ?_) (fun c9 => absurd (by decide) c9)
      refine lv_iconst (v := 1) S.1 S.2.1 dX5_value_67 (by decide) ?_
      refine mr_put S K N hS 0 (by decide) (by unfold mscal; omega) k3_146 rfl rfl dX5_value_68 (fun H locs N hS => ?_)
      refine lv_aload_n S.1 S.2.1 dX5_value_71 rfl (lv_at hl 1 rfl) ?_
      refine mr_get S K N 0 (by decide) k3_146 (v := .int 1) rfl dX5_value_72 ?_
      refine lv_if_le (tgt := 80) S.1 S.2.1 dX5_value_75 (by decide) (fun c9 => absurd c9 (by decide)) (fun _ => ?_)
      refine lv_iconst (v := 0) S.1 S.2.1 dX5_value_78 (by decide) ?_
      exact ne_wI S hS hr hlk ⟨congrArg (fun z => some (Value.int z)) (Eq.symm (by unfold f_X5_value; first | (rw [if_neg c6_1, if_pos c16_2]; done) | (simp only [if_neg c6_1, if_pos c16_2]; done) | rfl)), (by unfold g_X5_value; first | (rw [if_neg c6_1, if_pos c16_2]; exact N) | (simp only [if_neg c6_1, if_pos c16_2]; exact N) | exact N)⟩ dX5_value_79
    · refine lv_iload_n S.1 S.2.1 dX5_value_19 rfl (lv_at hl 3 rfl) ?_
      refine lv_iload_n S.1 S.2.1 dX5_value_20 rfl (lv_at hl 2 rfl) ?_
      refine lv_bipush (v := 6) S.1 S.2.1 dX5_value_21 (by decide) ?_
      refine nj (J := 31) (V := ((if p1 = 6 then 0 else 1) : Int32)) (L := fun v23_3 => [(0, .ref (ad 5)), (1, .int p0), (2, .int p1), (3, .int p2), (4, .int p3)]) (St := fun v23_3 => [.int v23_3, .int p2]) (n := 8) (fun v23_3 ls h23_5 hl => ?_) (fun j23_4 => ?_)
      · try dsimp only at hl ⊢
        subst h23_5
        refine lv_iconst (v := 4) S.1 S.2.1 dX5_value_31 (by decide) ?_
        refine nc_rS S K hS (As := [.int p2, .int ((if p1 = 6 then 0 else 1) : Int32), .int 4]) (m_X5_in l p2 ((if p1 = 6 then 0 else 1) : Int32) 4) k3_232 k3_233 k1_3 k3_234 (num := 3) (by decide +kernel) rfl ⟨Nat.le_of_ble_eq_true rfl, Nat.le_of_ble_eq_true rfl⟩ hl.1 rfl (Nat.le_of_ble_eq_true rfl) dX5_value_32 ⟨Nat.le_of_ble_eq_true rfl, Nat.le_of_ble_eq_true rfl⟩ ?_
        refine lv_if_eq (tgt := 54) S.1 S.2.1 dX5_value_35 (by decide) (fun c35_6 => ?_) (fun c35_6 => ?_)
        · refine lv_iconst (v := 0) S.1 S.2.1 dX5_value_54 (by decide) ?_
          refine lv_istore (lv' := [(5, .int 0), (0, .ref (ad 5)), (1, .int p0), (2, .int p1), (3, .int p2), (4, .int p3)]) S.1 S.2.1 dX5_value_55 hl (by decide) rfl (fun ls hl => ?_)
          refine lv_aload_n S.1 S.2.1 dX5_value_57 rfl (lv_at hl 1 rfl) ?_
          refine lv_iload S.1 S.2.1 dX5_value_58 (lv_at hl 0 rfl) ?_
          refine lv_if_eq (tgt := 67) S.1 S.2.1 dX5_value_60 (by decide) (fun _ => ?_) (fun c9 => absurd (by decide) c9)
          refine lv_iconst (v := 1) S.1 S.2.1 dX5_value_67 (by decide) ?_
          refine mr_put S K N hS 0 (by decide) (by unfold mscal; omega) k3_146 rfl rfl dX5_value_68 (fun H locs N hS => ?_)
          refine lv_aload_n S.1 S.2.1 dX5_value_71 rfl (lv_at hl 1 rfl) ?_
          refine mr_get S K N 0 (by decide) k3_146 (v := .int 1) rfl dX5_value_72 ?_
          refine lv_if_le (tgt := 80) S.1 S.2.1 dX5_value_75 (by decide) (fun c9 => absurd c9 (by decide)) (fun _ => ?_)
          refine lv_iconst (v := 0) S.1 S.2.1 dX5_value_78 (by decide) ?_
          exact ne_wI S hS hr hlk ⟨congrArg (fun z => some (Value.int z)) (Eq.symm (by unfold f_X5_value; first | (rw [if_neg c6_1, if_neg c16_2, if_pos c35_6]; done) | (simp only [if_neg c6_1, if_neg c16_2, if_pos c35_6]; done) | rfl)), (by unfold g_X5_value; first | (rw [if_neg c6_1, if_neg c16_2, if_pos c35_6]; exact N) | (simp only [if_neg c6_1, if_neg c16_2, if_pos c35_6]; exact N) | exact N)⟩ dX5_value_79
        · refine lv_iload S.1 S.2.1 dX5_value_38 (lv_at hl 4 rfl) ?_
          refine lv_iconst (v := 0) S.1 S.2.1 dX5_value_40 (by decide) ?_
          refine lv_sipush (v := 9999) S.1 S.2.1 dX5_value_41 (by decide) ?_
          refine nc_rS S K hS (As := [.int p3, .int 0, .int 9999]) (m_X5_in l p3 0 9999) k3_232 k3_233 k1_3 k3_234 (num := 3) (by decide +kernel) rfl ⟨Nat.le_of_ble_eq_true rfl, Nat.le_of_ble_eq_true rfl⟩ hl.1 rfl (Nat.le_of_ble_eq_true rfl) dX5_value_44 ⟨Nat.le_of_ble_eq_true rfl, Nat.le_of_ble_eq_true rfl⟩ ?_
          refine lv_if_eq (tgt := 54) S.1 S.2.1 dX5_value_47 (by decide) (fun c47_7 => ?_) (fun c47_7 => ?_)
          · refine lv_iconst (v := 0) S.1 S.2.1 dX5_value_54 (by decide) ?_
            refine lv_istore (lv' := [(5, .int 0), (0, .ref (ad 5)), (1, .int p0), (2, .int p1), (3, .int p2), (4, .int p3)]) S.1 S.2.1 dX5_value_55 hl (by decide) rfl (fun ls hl => ?_)
            refine lv_aload_n S.1 S.2.1 dX5_value_57 rfl (lv_at hl 1 rfl) ?_
            refine lv_iload S.1 S.2.1 dX5_value_58 (lv_at hl 0 rfl) ?_
            refine lv_if_eq (tgt := 67) S.1 S.2.1 dX5_value_60 (by decide) (fun _ => ?_) (fun c9 => absurd (by decide) c9)
            refine lv_iconst (v := 1) S.1 S.2.1 dX5_value_67 (by decide) ?_
            refine mr_put S K N hS 0 (by decide) (by unfold mscal; omega) k3_146 rfl rfl dX5_value_68 (fun H locs N hS => ?_)
            refine lv_aload_n S.1 S.2.1 dX5_value_71 rfl (lv_at hl 1 rfl) ?_
            refine mr_get S K N 0 (by decide) k3_146 (v := .int 1) rfl dX5_value_72 ?_
            refine lv_if_le (tgt := 80) S.1 S.2.1 dX5_value_75 (by decide) (fun c9 => absurd c9 (by decide)) (fun _ => ?_)
            refine lv_iconst (v := 0) S.1 S.2.1 dX5_value_78 (by decide) ?_
            exact ne_wI S hS hr hlk ⟨congrArg (fun z => some (Value.int z)) (Eq.symm (by unfold f_X5_value; first | (rw [if_neg c6_1, if_neg c16_2, if_neg c35_6, if_pos c47_7]; done) | (simp only [if_neg c6_1, if_neg c16_2, if_neg c35_6, if_pos c47_7]; done) | rfl)), (by unfold g_X5_value; first | (rw [if_neg c6_1, if_neg c16_2, if_neg c35_6, if_pos c47_7]; exact N) | (simp only [if_neg c6_1, if_neg c16_2, if_neg c35_6, if_pos c47_7]; exact N) | exact N)⟩ dX5_value_79
          · refine lv_iconst (v := 1) S.1 S.2.1 dX5_value_50 (by decide) ?_
            refine lv_goto (tgt := 55) S.1 S.2.1 dX5_value_51 (by decide) ?_
            refine lv_istore (lv' := [(5, .int 1), (0, .ref (ad 5)), (1, .int p0), (2, .int p1), (3, .int p2), (4, .int p3)]) S.1 S.2.1 dX5_value_55 hl (by decide) rfl (fun ls hl => ?_)
            refine lv_aload_n S.1 S.2.1 dX5_value_57 rfl (lv_at hl 1 rfl) ?_
            refine lv_iload S.1 S.2.1 dX5_value_58 (lv_at hl 0 rfl) ?_
            refine lv_if_eq (tgt := 67) S.1 S.2.1 dX5_value_60 (by decide) (fun c9 => absurd c9 (by decide)) (fun _ => ?_)
            refine lv_iconst (v := 0) S.1 S.2.1 dX5_value_63 (by decide) ?_
            refine lv_goto (tgt := 68) S.1 S.2.1 dX5_value_64 (by decide) ?_
            refine mr_put S K N hS 0 (by decide) (by unfold mscal; omega) k3_146 rfl rfl dX5_value_68 (fun H locs N hS => ?_)
            refine lv_aload_n S.1 S.2.1 dX5_value_71 rfl (lv_at hl 1 rfl) ?_
            refine mr_get S K N 0 (by decide) k3_146 (v := .int 0) rfl dX5_value_72 ?_
            refine lv_if_le (tgt := 80) S.1 S.2.1 dX5_value_75 (by decide) (fun _ => ?_) (fun c9 => absurd (by decide) c9)
            refine lv_iload_n S.1 S.2.1 dX5_value_80 rfl (lv_at hl 2 rfl) ?_
            refine lv_iload_n S.1 S.2.1 dX5_value_81 rfl (lv_at hl 3 rfl) ?_
            refine lv_iload_n S.1 S.2.1 dX5_value_82 rfl (lv_at hl 4 rfl) ?_
            refine nc_rS S K hS (As := [.int p0, .int p1, .int p2]) (m_X5_valueAt l p0 p1 p2) k4_50 k4_51 k1_3 k4_52 (num := 3) (by decide +kernel) rfl ⟨Nat.le_of_ble_eq_true rfl, Nat.le_of_ble_eq_true rfl⟩ hl.1 rfl (Nat.le_of_ble_eq_true rfl) dX5_value_83 ⟨Nat.le_of_ble_eq_true rfl, Nat.le_of_ble_eq_true rfl⟩ ?_
            refine lv_istore (lv' := [(6, .int (f_X5_valueAt p0 p1 p2)), (5, .int 1), (0, .ref (ad 5)), (1, .int p0), (2, .int p1), (3, .int p2), (4, .int p3)]) S.1 S.2.1 dX5_value_86 hl (by decide) rfl (fun ls hl => ?_)
            refine lv_aload_n S.1 S.2.1 dX5_value_88 rfl (lv_at hl 2 rfl) ?_
            refine mr_get S K N 18 (by decide) k3_164 (v := .ref (ad 28)) rfl dX5_value_89 ?_
            refine lv_iload S.1 S.2.1 dX5_value_92 (lv_at hl 0 rfl) ?_
            refine mr_iald S K N 18 (by decide) (by decide) rfl (v := ((up2 M 0 0 0) 18 (f_X5_valueAt p0 p1 p2).toNatClampNeg)) (hv c6_1 c16_2 c35_6) (rfl) dX5_value_94 ?_
            refine lv_istore (lv' := [(7, .int ((up2 M 0 0 0) 18 (f_X5_valueAt p0 p1 p2).toNatClampNeg)), (6, .int (f_X5_valueAt p0 p1 p2)), (5, .int 1), (0, .ref (ad 5)), (1, .int p0), (2, .int p1), (3, .int p2), (4, .int p3)]) S.1 S.2.1 dX5_value_95 hl (by decide) rfl (fun ls hl => ?_)
            refine lv_aload_n S.1 S.2.1 dX5_value_97 rfl (lv_at hl 3 rfl) ?_
            refine mr_get S K N 18 (by decide) k3_164 (v := .ref (ad 28)) rfl dX5_value_98 ?_
            refine lv_iload S.1 S.2.1 dX5_value_101 (lv_at hl 1 rfl) ?_
            refine lv_iload S.1 S.2.1 dX5_value_103 (lv_at hl 7 rfl) ?_
            refine mr_iast S K N hS 18 (by decide) (by decide) rfl (hv c6_1 c16_2 c35_6) ((f_X5_valueAt p0 p1 p2).toNatClampNeg) (rfl) dX5_value_105 (fun H locs N hS => ?_)
            refine lv_iload S.1 S.2.1 dX5_value_106 (lv_at hl 0 rfl) ?_
            exact ne_wI S hS hr hlk ⟨congrArg (fun z => some (Value.int z)) (Eq.symm (by unfold f_X5_value; first | (rw [if_neg c6_1, if_neg c16_2, if_neg c35_6, if_neg c47_7]; done) | (simp only [if_neg c6_1, if_neg c16_2, if_neg c35_6, if_neg c47_7]; done) | rfl)), (by unfold g_X5_value; first | (rw [if_neg c6_1, if_neg c16_2, if_neg c35_6, if_neg c47_7]; exact N) | (simp only [if_neg c6_1, if_neg c16_2, if_neg c35_6, if_neg c47_7]; exact N) | exact N)⟩ dX5_value_108
      · refine lv_icmp_ne (tgt := 30) S.1 S.2.1 dX5_value_23 (by decide) (fun c23_8 => ?_) (fun c23_8 => ?_)
        · refine lv_iconst (v := 1) S.1 S.2.1 dX5_value_30 (by decide) ?_
          exact j23_4 _ _ (by first | (rw [if_neg c23_8]; done) | (simp only [if_neg c23_8]; done) | rfl) (lv_sub hl [0, 1, 2, 3, 4] rfl)
        · refine lv_iconst (v := 0) S.1 S.2.1 dX5_value_26 (by decide) ?_
          refine lv_goto (tgt := 31) S.1 S.2.1 dX5_value_27 (by decide) ?_
          exact j23_4 _ _ (by first | (rw [if_pos c23_8]; done) | (simp only [if_pos c23_8]; done) | rfl) (lv_sub hl [0, 1, 2, 3, 4] rfl)

def f_X5_rint (its : UInt64) : Int32 :=
  if 0 ≤ (Op.cmpValue (FP.dcmp its FP.dconst0) CmpOp.g) then ((if 0 < (Op.cmpValue (FP.dcmp (FP.dsub ((if 0 ≤ (Op.cmpValue (FP.dcmp its FP.dconst0) CmpOp.g) then its else (FP.dneg its)) : UInt64) (FP.i2d (FP.d2i ((if 0 ≤ (Op.cmpValue (FP.dcmp its FP.dconst0) CmpOp.g) then its else (FP.dneg its)) : UInt64)))) 4602678819172646912) CmpOp.l) then ((FP.d2i ((if 0 ≤ (Op.cmpValue (FP.dcmp its FP.dconst0) CmpOp.g) then its else (FP.dneg its)) : UInt64)) + 1) else ((if (Op.cmpValue (FP.dcmp (FP.dsub ((if 0 ≤ (Op.cmpValue (FP.dcmp its FP.dconst0) CmpOp.g) then its else (FP.dneg its)) : UInt64) (FP.i2d (FP.d2i ((if 0 ≤ (Op.cmpValue (FP.dcmp its FP.dconst0) CmpOp.g) then its else (FP.dneg its)) : UInt64)))) 4602678819172646912) CmpOp.l) = 0 then ((if ((FP.d2i ((if 0 ≤ (Op.cmpValue (FP.dcmp its FP.dconst0) CmpOp.g) then its else (FP.dneg its)) : UInt64)) - (FP.d2i ((if 0 ≤ (Op.cmpValue (FP.dcmp its FP.dconst0) CmpOp.g) then its else (FP.dneg its)) : UInt64)) / 2 * 2) = 1 then ((FP.d2i ((if 0 ≤ (Op.cmpValue (FP.dcmp its FP.dconst0) CmpOp.g) then its else (FP.dneg its)) : UInt64)) + 1) else (FP.d2i ((if 0 ≤ (Op.cmpValue (FP.dcmp its FP.dconst0) CmpOp.g) then its else (FP.dneg its)) : UInt64))) : Int32) else (FP.d2i ((if 0 ≤ (Op.cmpValue (FP.dcmp its FP.dconst0) CmpOp.g) then its else (FP.dneg its)) : UInt64))) : Int32)) : Int32)
  else (-((if 0 < (Op.cmpValue (FP.dcmp (FP.dsub ((if 0 ≤ (Op.cmpValue (FP.dcmp its FP.dconst0) CmpOp.g) then its else (FP.dneg its)) : UInt64) (FP.i2d (FP.d2i ((if 0 ≤ (Op.cmpValue (FP.dcmp its FP.dconst0) CmpOp.g) then its else (FP.dneg its)) : UInt64)))) 4602678819172646912) CmpOp.l) then ((FP.d2i ((if 0 ≤ (Op.cmpValue (FP.dcmp its FP.dconst0) CmpOp.g) then its else (FP.dneg its)) : UInt64)) + 1) else ((if (Op.cmpValue (FP.dcmp (FP.dsub ((if 0 ≤ (Op.cmpValue (FP.dcmp its FP.dconst0) CmpOp.g) then its else (FP.dneg its)) : UInt64) (FP.i2d (FP.d2i ((if 0 ≤ (Op.cmpValue (FP.dcmp its FP.dconst0) CmpOp.g) then its else (FP.dneg its)) : UInt64)))) 4602678819172646912) CmpOp.l) = 0 then ((if ((FP.d2i ((if 0 ≤ (Op.cmpValue (FP.dcmp its FP.dconst0) CmpOp.g) then its else (FP.dneg its)) : UInt64)) - (FP.d2i ((if 0 ≤ (Op.cmpValue (FP.dcmp its FP.dconst0) CmpOp.g) then its else (FP.dneg its)) : UInt64)) / 2 * 2) = 1 then ((FP.d2i ((if 0 ≤ (Op.cmpValue (FP.dcmp its FP.dconst0) CmpOp.g) then its else (FP.dneg its)) : UInt64)) + 1) else (FP.d2i ((if 0 ≤ (Op.cmpValue (FP.dcmp its FP.dconst0) CmpOp.g) then its else (FP.dneg its)) : UInt64))) : Int32) else (FP.d2i ((if 0 ≤ (Op.cmpValue (FP.dcmp its FP.dconst0) CmpOp.g) then its else (FP.dneg its)) : UInt64))) : Int32)) : Int32))
set_option maxHeartbeats 4000000 in
set_option maxRecDepth 100000 in
theorem m_X5_rint {D : va_G} {cA : Nat → ClassId} {B : Nat} (l : Launch) {H0 : Heap} (its : UInt64) (hz : FP.dIsNaN its = false) : MetR D cA B l yX5_rint cX5_rint 8 (some .int) 0 0 [.double its] H0 (some (.int (f_X5_rint its))) := by
  refine MetR.of (by decide) (Nat.le_of_ble_eq_true rfl) ?_
  intro p e s m args below meth c S hr hlk hh K ls hl
  subst hh
  have hS : va_S (fun q => B ≤ q) s.heap s.heap [] := va_S.rf
  have hl : lv_has ls 8 [(0, .double its)] := hl
  refine lv_dload_n S.1 S.2.1 dX5_rint_0 rfl (lv_at hl 0 rfl) ?_
  refine lv_dconst0 S.1 S.2.1 dX5_rint_1 ?_
  refine lv_dcmp S.1 S.2.1 dX5_rint_2 ?_
  refine nj (J := 12) (V := ((if 0 ≤ (Op.cmpValue (FP.dcmp its FP.dconst0) CmpOp.g) then its else (FP.dneg its)) : UInt64)) (L := fun v3_1 => [(0, .double its)]) (St := fun v3_1 => [.double v3_1]) (n := 8) (fun v3_1 ls h3_3 hl => ?_) (fun j3_2 => ?_)
  · try dsimp only at hl ⊢
    subst h3_3
    refine lv_dstore_n (lv' := [(2, .double ((if 0 ≤ (Op.cmpValue (FP.dcmp its FP.dconst0) CmpOp.g) then its else (FP.dneg its)) : UInt64)), (0, .double its)]) S.1 S.2.1 dX5_rint_12 rfl hl (by decide) rfl (fun ls hl => ?_)
    refine lv_dload_n S.1 S.2.1 dX5_rint_13 rfl (lv_at hl 0 rfl) ?_
    refine lv_d2i S.1 S.2.1 dX5_rint_14 ?_
    refine lv_istore (lv' := [(4, .int (FP.d2i ((if 0 ≤ (Op.cmpValue (FP.dcmp its FP.dconst0) CmpOp.g) then its else (FP.dneg its)) : UInt64))), (2, .double ((if 0 ≤ (Op.cmpValue (FP.dcmp its FP.dconst0) CmpOp.g) then its else (FP.dneg its)) : UInt64)), (0, .double its)]) S.1 S.2.1 dX5_rint_15 hl (by decide) rfl (fun ls hl => ?_)
    refine lv_dload_n S.1 S.2.1 dX5_rint_17 rfl (lv_at hl 1 rfl) ?_
    refine lv_iload S.1 S.2.1 dX5_rint_18 (lv_at hl 0 rfl) ?_
    refine lv_i2d S.1 S.2.1 dX5_rint_20 ?_
    refine lv_dsub S.1 S.2.1 dX5_rint_21 (vn_of (FP.Core.dsub_out (nan_size hz) (FP.Core.i2d_fin _))) ?_
    refine lv_dstore (lv' := [(5, .double (FP.dsub ((if 0 ≤ (Op.cmpValue (FP.dcmp its FP.dconst0) CmpOp.g) then its else (FP.dneg its)) : UInt64) (FP.i2d (FP.d2i ((if 0 ≤ (Op.cmpValue (FP.dcmp its FP.dconst0) CmpOp.g) then its else (FP.dneg its)) : UInt64))))), (4, .int (FP.d2i ((if 0 ≤ (Op.cmpValue (FP.dcmp its FP.dconst0) CmpOp.g) then its else (FP.dneg its)) : UInt64))), (2, .double ((if 0 ≤ (Op.cmpValue (FP.dcmp its FP.dconst0) CmpOp.g) then its else (FP.dneg its)) : UInt64)), (0, .double its)]) S.1 S.2.1 dX5_rint_22 hl (by decide) rfl (fun ls hl => ?_)
    refine lv_dload S.1 S.2.1 dX5_rint_24 (lv_at hl 0 rfl) ?_
    refine lv_ldc2d S.1 S.2.1 S.2.2.2.1 (S.2.2.2.2 _ k4_65) dX5_rint_26 ?_
    refine lv_dcmp S.1 S.2.1 dX5_rint_29 ?_
    refine nj (J := 59) (V := ((if 0 < (Op.cmpValue (FP.dcmp (FP.dsub ((if 0 ≤ (Op.cmpValue (FP.dcmp its FP.dconst0) CmpOp.g) then its else (FP.dneg its)) : UInt64) (FP.i2d (FP.d2i ((if 0 ≤ (Op.cmpValue (FP.dcmp its FP.dconst0) CmpOp.g) then its else (FP.dneg its)) : UInt64)))) 4602678819172646912) CmpOp.l) then ((FP.d2i ((if 0 ≤ (Op.cmpValue (FP.dcmp its FP.dconst0) CmpOp.g) then its else (FP.dneg its)) : UInt64)) + 1) else ((if (Op.cmpValue (FP.dcmp (FP.dsub ((if 0 ≤ (Op.cmpValue (FP.dcmp its FP.dconst0) CmpOp.g) then its else (FP.dneg its)) : UInt64) (FP.i2d (FP.d2i ((if 0 ≤ (Op.cmpValue (FP.dcmp its FP.dconst0) CmpOp.g) then its else (FP.dneg its)) : UInt64)))) 4602678819172646912) CmpOp.l) = 0 then ((if ((FP.d2i ((if 0 ≤ (Op.cmpValue (FP.dcmp its FP.dconst0) CmpOp.g) then its else (FP.dneg its)) : UInt64)) - (FP.d2i ((if 0 ≤ (Op.cmpValue (FP.dcmp its FP.dconst0) CmpOp.g) then its else (FP.dneg its)) : UInt64)) / 2 * 2) = 1 then ((FP.d2i ((if 0 ≤ (Op.cmpValue (FP.dcmp its FP.dconst0) CmpOp.g) then its else (FP.dneg its)) : UInt64)) + 1) else (FP.d2i ((if 0 ≤ (Op.cmpValue (FP.dcmp its FP.dconst0) CmpOp.g) then its else (FP.dneg its)) : UInt64))) : Int32) else (FP.d2i ((if 0 ≤ (Op.cmpValue (FP.dcmp its FP.dconst0) CmpOp.g) then its else (FP.dneg its)) : UInt64))) : Int32)) : Int32)) (L := fun v30_4 => [(5, .double (FP.dsub ((if 0 ≤ (Op.cmpValue (FP.dcmp its FP.dconst0) CmpOp.g) then its else (FP.dneg its)) : UInt64) (FP.i2d (FP.d2i ((if 0 ≤ (Op.cmpValue (FP.dcmp its FP.dconst0) CmpOp.g) then its else (FP.dneg its)) : UInt64))))), (4, .int (FP.d2i ((if 0 ≤ (Op.cmpValue (FP.dcmp its FP.dconst0) CmpOp.g) then its else (FP.dneg its)) : UInt64))), (2, .double ((if 0 ≤ (Op.cmpValue (FP.dcmp its FP.dconst0) CmpOp.g) then its else (FP.dneg its)) : UInt64)), (0, .double its)]) (St := fun v30_4 => [.int v30_4]) (n := 8) (fun v30_4 ls h30_6 hl => ?_) (fun j30_5 => ?_)
    · try dsimp only at hl ⊢
      subst h30_6
      refine lv_istore (lv' := [(7, .int ((if 0 < (Op.cmpValue (FP.dcmp (FP.dsub ((if 0 ≤ (Op.cmpValue (FP.dcmp its FP.dconst0) CmpOp.g) then its else (FP.dneg its)) : UInt64) (FP.i2d (FP.d2i ((if 0 ≤ (Op.cmpValue (FP.dcmp its FP.dconst0) CmpOp.g) then its else (FP.dneg its)) : UInt64)))) 4602678819172646912) CmpOp.l) then ((FP.d2i ((if 0 ≤ (Op.cmpValue (FP.dcmp its FP.dconst0) CmpOp.g) then its else (FP.dneg its)) : UInt64)) + 1) else ((if (Op.cmpValue (FP.dcmp (FP.dsub ((if 0 ≤ (Op.cmpValue (FP.dcmp its FP.dconst0) CmpOp.g) then its else (FP.dneg its)) : UInt64) (FP.i2d (FP.d2i ((if 0 ≤ (Op.cmpValue (FP.dcmp its FP.dconst0) CmpOp.g) then its else (FP.dneg its)) : UInt64)))) 4602678819172646912) CmpOp.l) = 0 then ((if ((FP.d2i ((if 0 ≤ (Op.cmpValue (FP.dcmp its FP.dconst0) CmpOp.g) then its else (FP.dneg its)) : UInt64)) - (FP.d2i ((if 0 ≤ (Op.cmpValue (FP.dcmp its FP.dconst0) CmpOp.g) then its else (FP.dneg its)) : UInt64)) / 2 * 2) = 1 then ((FP.d2i ((if 0 ≤ (Op.cmpValue (FP.dcmp its FP.dconst0) CmpOp.g) then its else (FP.dneg its)) : UInt64)) + 1) else (FP.d2i ((if 0 ≤ (Op.cmpValue (FP.dcmp its FP.dconst0) CmpOp.g) then its else (FP.dneg its)) : UInt64))) : Int32) else (FP.d2i ((if 0 ≤ (Op.cmpValue (FP.dcmp its FP.dconst0) CmpOp.g) then its else (FP.dneg its)) : UInt64))) : Int32)) : Int32)), (5, .double (FP.dsub ((if 0 ≤ (Op.cmpValue (FP.dcmp its FP.dconst0) CmpOp.g) then its else (FP.dneg its)) : UInt64) (FP.i2d (FP.d2i ((if 0 ≤ (Op.cmpValue (FP.dcmp its FP.dconst0) CmpOp.g) then its else (FP.dneg its)) : UInt64))))), (4, .int (FP.d2i ((if 0 ≤ (Op.cmpValue (FP.dcmp its FP.dconst0) CmpOp.g) then its else (FP.dneg its)) : UInt64))), (2, .double ((if 0 ≤ (Op.cmpValue (FP.dcmp its FP.dconst0) CmpOp.g) then its else (FP.dneg its)) : UInt64)), (0, .double its)]) S.1 S.2.1 dX5_rint_59 hl (by decide) rfl (fun ls hl => ?_)
      refine lv_dload_n S.1 S.2.1 dX5_rint_61 rfl (lv_at hl 4 rfl) ?_
      refine lv_dconst0 S.1 S.2.1 dX5_rint_62 ?_
      refine lv_dcmp S.1 S.2.1 dX5_rint_63 ?_
      refine lv_if_ge (tgt := 73) S.1 S.2.1 dX5_rint_64 (by decide) (fun c64_7 => ?_) (fun c64_7 => ?_)
      · refine lv_iload S.1 S.2.1 dX5_rint_73 (lv_at hl 0 rfl) ?_
        exact ee_rI S hr hlk (by unfold f_X5_rint; first | (rw [if_pos c64_7]; done) | (simp only [if_pos c64_7]; done) | rfl) dX5_rint_75
      · refine lv_iload S.1 S.2.1 dX5_rint_67 (lv_at hl 0 rfl) ?_
        refine lv_ineg S.1 S.2.1 dX5_rint_69 ?_
        refine lv_goto (tgt := 75) S.1 S.2.1 dX5_rint_70 (by decide) ?_
        exact ee_rI S hr hlk (by unfold f_X5_rint; first | (rw [if_neg c64_7]; done) | (simp only [if_neg c64_7]; done) | rfl) dX5_rint_75
    · refine lv_if_gt (tgt := 50) S.1 S.2.1 dX5_rint_30 (by decide) (fun c30_8 => ?_) (fun c30_8 => ?_)
      · refine lv_iload S.1 S.2.1 dX5_rint_50 (lv_at hl 1 rfl) ?_
        refine lv_iconst (v := 1) S.1 S.2.1 dX5_rint_52 (by decide) ?_
        refine lv_iadd S.1 S.2.1 dX5_rint_53 ?_
        refine lv_goto (tgt := 59) S.1 S.2.1 dX5_rint_54 (by decide) ?_
        exact j30_5 _ _ (by first | (rw [if_pos c30_8]; done) | (simp only [if_pos c30_8]; done) | rfl) (lv_sub hl [0, 1, 2, 3] rfl)
      · refine lv_dload S.1 S.2.1 dX5_rint_33 (lv_at hl 0 rfl) ?_
        refine lv_ldc2d S.1 S.2.1 S.2.2.2.1 (S.2.2.2.2 _ k4_65) dX5_rint_35 ?_
        refine lv_dcmp S.1 S.2.1 dX5_rint_38 ?_
        refine lv_if_ne (tgt := 57) S.1 S.2.1 dX5_rint_39 (by decide) (fun c39_9 => ?_) (fun c39_9 => ?_)
        · refine lv_iload S.1 S.2.1 dX5_rint_57 (lv_at hl 1 rfl) ?_
          exact j30_5 _ _ (by first | (rw [if_neg c30_8, if_neg c39_9]; done) | (simp only [if_neg c30_8, if_neg c39_9]; done) | rfl) (lv_sub hl [0, 1, 2, 3] rfl)
        · refine lv_iload S.1 S.2.1 dX5_rint_42 (lv_at hl 1 rfl) ?_
          refine lv_iconst (v := 2) S.1 S.2.1 dX5_rint_44 (by decide) ?_
          refine lv_irem S.1 S.2.1 dX5_rint_45 (by decide) ?_
          refine lv_iconst (v := 1) S.1 S.2.1 dX5_rint_46 (by decide) ?_
          refine lv_icmp_ne (tgt := 57) S.1 S.2.1 dX5_rint_47 (by decide) (fun c47_10 => ?_) (fun c47_10 => ?_)
          · refine lv_iload S.1 S.2.1 dX5_rint_57 (lv_at hl 1 rfl) ?_
            exact j30_5 _ _ (by first | (rw [if_neg c30_8, if_pos c39_9, if_neg c47_10]; done) | (simp only [if_neg c30_8, if_pos c39_9, if_neg c47_10]; done) | rfl) (lv_sub hl [0, 1, 2, 3] rfl)
          · refine lv_iload S.1 S.2.1 dX5_rint_50 (lv_at hl 1 rfl) ?_
            refine lv_iconst (v := 1) S.1 S.2.1 dX5_rint_52 (by decide) ?_
            refine lv_iadd S.1 S.2.1 dX5_rint_53 ?_
            refine lv_goto (tgt := 59) S.1 S.2.1 dX5_rint_54 (by decide) ?_
            exact j30_5 _ _ (by first | (rw [if_neg c30_8, if_pos c39_9, if_pos c47_10]; done) | (simp only [if_neg c30_8, if_pos c39_9, if_pos c47_10]; done) | rfl) (lv_sub hl [0, 1, 2, 3] rfl)
  · refine lv_if_ge (tgt := 11) S.1 S.2.1 dX5_rint_3 (by decide) (fun c3_11 => ?_) (fun c3_11 => ?_)
    · refine lv_dload_n S.1 S.2.1 dX5_rint_11 rfl (lv_at hl 0 rfl) ?_
      exact j3_2 _ _ (by first | (rw [if_pos c3_11]; done) | (simp only [if_pos c3_11]; done) | rfl) (lv_sub hl [0] rfl)
    · refine lv_dload_n S.1 S.2.1 dX5_rint_6 rfl (lv_at hl 0 rfl) ?_
      refine lv_dneg S.1 S.2.1 dX5_rint_7 ?_
      refine lv_goto (tgt := 12) S.1 S.2.1 dX5_rint_8 (by decide) ?_
      exact j3_2 _ _ (by first | (rw [if_neg c3_11]; done) | (simp only [if_neg c3_11]; done) | rfl) (lv_sub hl [0] rfl)

theorem sr_e {M M1 : Nat → Nat → Int32} (h : sr M M1) (a : Nat) : M1 (a + 1) = M (a + 1) := funext fun j => h (a + 1) j (fun z => absurd z (Nat.succ_ne_zero a))
theorem sr_n {M M1 : Nat → Nat → Int32} (h : sr M M1) {j : Nat} (h1 : 1 ≤ j) (h2 : j < 19) : M1 0 j = M 0 j := h 0 j (fun _ => ⟨h1, h2⟩)
theorem sr_refl (M : Nat → Nat → Int32) : sr M M := fun _ _ _ => rfl
/-- how many elements, how many skaters -/
def nE (M : Nat → Nat → Int32) (sk : Nat) : Nat := (M 8 sk).toNatClampNeg
def nS (M : Nat → Nat → Int32) : Nat := (M 0 1).toNatClampNeg
/-- the value of an element that was skated is in its list -/
def vq (M : Nat → Nat → Int32) (ed its : Nat) : Prop := (M 9 its = 6 → vp_in (f_X5_valueAt (nI ed) 6 (M 10 its)) 87) ∧ (¬ M 9 its = 6 → ∀ t, t = M 10 its ∨ t = M 10 its - 1 → ¬ t = 0 → vp_in (f_X5_valueAt (nI ed) (M 9 its) t) 87)
/-- what the reference keeps -/
def RI (M : Nat → Nat → Int32) : Prop := M 0 1 = nI (nS M) ∧ nS M ≤ 12 ∧ (∀ sk, sk < 12 → M 8 sk = nI (nE M sk) ∧ nE M sk ≤ 12) ∧ (∀ sk e ed, sk < 12 → e < nE M sk → ed < 3 → vq M ed (12 * sk + e))
theorem RI.many {M : Nat → Nat → Int32} (h : RI M) : M 0 1 = nI (nS M) := h.1
theorem RI.manyLe {M : Nat → Nat → Int32} (h : RI M) : nS M ≤ 12 := h.2.1
theorem RI.el {M : Nat → Nat → Int32} (h : RI M) (sk : Nat) (hs : sk < 12) : M 8 sk = nI (nE M sk) := (h.2.2.1 sk hs).1
theorem RI.elLe {M : Nat → Nat → Int32} (h : RI M) (sk : Nat) (hs : sk < 12) : nE M sk ≤ 12 := (h.2.2.1 sk hs).2
theorem RI.v {M : Nat → Nat → Int32} (h : RI M) (sk e ed : Nat) (hs : sk < 12) (he : e < nE M sk) (hd : ed < 3) : vq M ed (12 * sk + e) := h.2.2.2 sk e ed hs he hd
theorem el_sr {M M1 : Nat → Nat → Int32} (h : sr M M1) (sk : Nat) : nE M1 sk = nE M sk := by unfold nE; rw [sr_e h 7]
theorem em_sr {M M1 : Nat → Nat → Int32} (h : sr M M1) : nS M1 = nS M := by unfold nS; rw [sr_n h (by decide) (by decide)]
theorem vq_sr {M M1 : Nat → Nat → Int32} (h : sr M M1) {ed its : Nat} (q : vq M ed its) : vq M1 ed its := by
  unfold vq at q ⊢
  rw [sr_e h 8, sr_e h 9]
  exact q
theorem RI_sr {M M1 : Nat → Nat → Int32} (h : sr M M1) (q : RI M) : RI M1 :=
  ⟨by rw [em_sr h, sr_n h (by decide) (by decide)]; exact q.many, by rw [em_sr h]; exact q.manyLe,
    fun sk hs => by rw [el_sr h, sr_e h 7]; exact ⟨q.el sk hs, q.elLe sk hs⟩,
    fun sk e ed hs he hd => vq_sr h (q.v sk e ed hs (by rw [← el_sr h]; exact he) hd)⟩
theorem el_lt {M M1 : Nat → Nat → Int32} (h : sr M M1) {sk e : Nat} (q : e < nE M sk) : e < nE M1 sk := by rw [el_sr h]; exact q

theorem cg_X5_quartersOf {M M1 : Nat → Nat → Int32} (h : sr M M1) {its : Nat} : f_X5_quartersOf M1 its = f_X5_quartersOf M its := by
  have e12 : M1 12 = M 12 := sr_e h 11
  have k : ∀ i, it14_X5_quartersOf M1 its i = it14_X5_quartersOf M its i := by
    intro i
    induction i with
    | zero => rfl
    | succ i ih => simp only [it14_X5_quartersOf, ih, e12]
  simp only [f_X5_quartersOf, k]

def it16_X5_baseOf (M : Nat → Nat → Int32) (sk : Nat) (el : Nat) (ed : Nat) : Nat → Int32 × Int32
  | 0 => (0, 0)
  | n16 + 1 => (((it16_X5_baseOf M sk el ed n16).1 + ((if ((if (M 9 (12 * sk + n16)) = 6 then 1 else 0) : Int32) = 0 then ((if (M 9 (12 * sk + n16)) = (M 9 (12 * sk + el)) then ((if (M 10 (12 * sk + n16)) = (M 10 (12 * sk + el)) then 1 else 0) : Int32) else 0) : Int32) else 0) : Int32)), ((it16_X5_baseOf M sk el ed n16).2 + ((if ((if (M 9 (12 * sk + n16)) = 6 then 1 else 0) : Int32) = ((if (M 9 (12 * sk + el)) = 6 then 1 else 0) : Int32) then 1 else 0) : Int32)))
def f_X5_baseOf (M : Nat → Nat → Int32) (sk : Nat) (el : Nat) (ed : Nat) : Int32 :=
  if (M 9 (12 * sk + el)) = 6 then (if (it16_X5_baseOf M sk el ed el).2 < 3 then (M 18 (f_X5_valueAt (nI ed) 6 (M 10 (12 * sk + el))).toNatClampNeg)
    else 0)
  else if 2 ≤ (it16_X5_baseOf M sk el ed el).1 then 0
  else if (it16_X5_baseOf M sk el ed el).2 < 7 then ((if (M 14 (12 * sk + el)) = 0 then ((if (M 13 (12 * sk + el)) = 0 then ((if (f_X5_quartersOf M (12 * sk + el)) = 2 then (f_X5_rint (FP.dmul (FP.i2d ((if ((if (f_X5_quartersOf M (12 * sk + el)) < 3 then (M 10 (12 * sk + el)) else ((M 10 (12 * sk + el)) - 1)) : Int32) = 0 then 0 else (M 18 (f_X5_valueAt (nI ed) (M 9 (12 * sk + el)) ((if (f_X5_quartersOf M (12 * sk + el)) < 3 then (M 10 (12 * sk + el)) else ((M 10 (12 * sk + el)) - 1)) : Int32)).toNatClampNeg)) : Int32)) 4605380978949069210)) else ((if ((if (f_X5_quartersOf M (12 * sk + el)) < 3 then (M 10 (12 * sk + el)) else ((M 10 (12 * sk + el)) - 1)) : Int32) = 0 then 0 else (M 18 (f_X5_valueAt (nI ed) (M 9 (12 * sk + el)) ((if (f_X5_quartersOf M (12 * sk + el)) < 3 then (M 10 (12 * sk + el)) else ((M 10 (12 * sk + el)) - 1)) : Int32)).toNatClampNeg)) : Int32)) : Int32) else (f_X5_rint (FP.dmul (FP.i2d ((if (f_X5_quartersOf M (12 * sk + el)) = 2 then (f_X5_rint (FP.dmul (FP.i2d ((if ((if (f_X5_quartersOf M (12 * sk + el)) < 3 then (M 10 (12 * sk + el)) else ((M 10 (12 * sk + el)) - 1)) : Int32) = 0 then 0 else (M 18 (f_X5_valueAt (nI ed) (M 9 (12 * sk + el)) ((if (f_X5_quartersOf M (12 * sk + el)) < 3 then (M 10 (12 * sk + el)) else ((M 10 (12 * sk + el)) - 1)) : Int32)).toNatClampNeg)) : Int32)) 4605380978949069210)) else ((if ((if (f_X5_quartersOf M (12 * sk + el)) < 3 then (M 10 (12 * sk + el)) else ((M 10 (12 * sk + el)) - 1)) : Int32) = 0 then 0 else (M 18 (f_X5_valueAt (nI ed) (M 9 (12 * sk + el)) ((if (f_X5_quartersOf M (12 * sk + el)) < 3 then (M 10 (12 * sk + el)) else ((M 10 (12 * sk + el)) - 1)) : Int32)).toNatClampNeg)) : Int32)) : Int32)) 4605380978949069210))) : Int32) else (f_X5_rint (FP.dmul (FP.i2d ((if (M 13 (12 * sk + el)) = 0 then ((if (f_X5_quartersOf M (12 * sk + el)) = 2 then (f_X5_rint (FP.dmul (FP.i2d ((if ((if (f_X5_quartersOf M (12 * sk + el)) < 3 then (M 10 (12 * sk + el)) else ((M 10 (12 * sk + el)) - 1)) : Int32) = 0 then 0 else (M 18 (f_X5_valueAt (nI ed) (M 9 (12 * sk + el)) ((if (f_X5_quartersOf M (12 * sk + el)) < 3 then (M 10 (12 * sk + el)) else ((M 10 (12 * sk + el)) - 1)) : Int32)).toNatClampNeg)) : Int32)) 4605380978949069210)) else ((if ((if (f_X5_quartersOf M (12 * sk + el)) < 3 then (M 10 (12 * sk + el)) else ((M 10 (12 * sk + el)) - 1)) : Int32) = 0 then 0 else (M 18 (f_X5_valueAt (nI ed) (M 9 (12 * sk + el)) ((if (f_X5_quartersOf M (12 * sk + el)) < 3 then (M 10 (12 * sk + el)) else ((M 10 (12 * sk + el)) - 1)) : Int32)).toNatClampNeg)) : Int32)) : Int32) else (f_X5_rint (FP.dmul (FP.i2d ((if (f_X5_quartersOf M (12 * sk + el)) = 2 then (f_X5_rint (FP.dmul (FP.i2d ((if ((if (f_X5_quartersOf M (12 * sk + el)) < 3 then (M 10 (12 * sk + el)) else ((M 10 (12 * sk + el)) - 1)) : Int32) = 0 then 0 else (M 18 (f_X5_valueAt (nI ed) (M 9 (12 * sk + el)) ((if (f_X5_quartersOf M (12 * sk + el)) < 3 then (M 10 (12 * sk + el)) else ((M 10 (12 * sk + el)) - 1)) : Int32)).toNatClampNeg)) : Int32)) 4605380978949069210)) else ((if ((if (f_X5_quartersOf M (12 * sk + el)) < 3 then (M 10 (12 * sk + el)) else ((M 10 (12 * sk + el)) - 1)) : Int32) = 0 then 0 else (M 18 (f_X5_valueAt (nI ed) (M 9 (12 * sk + el)) ((if (f_X5_quartersOf M (12 * sk + el)) < 3 then (M 10 (12 * sk + el)) else ((M 10 (12 * sk + el)) - 1)) : Int32)).toNatClampNeg)) : Int32)) : Int32)) 4605380978949069210))) : Int32)) 4607632778762754458))) : Int32)
  else 0
set_option maxHeartbeats 4000000 in
set_option maxRecDepth 100000 in
theorem m_X5_baseOf {D : va_G} {cA : Nat → ClassId} {B : Nat} (l : Launch) {dom : Nat → Prop} {ad : Nat → Nat} {X : Nat → va_E} {H0 : Heap} (M : Nat → Nat → Int32) (sk : Nat) (el : Nat) (ed : Nat) (N : mw D cA B dom ad X M H0) (hs : sk < 12) (he : el < 12) (hv : vq M ed (12 * sk + el)) : MetR D cA B l yX5_baseOf cX5_baseOf 10 (some .int) 1 27 [.ref (ad 5), .int (nI sk), .int (nI el), .int (nI ed)] H0 (some (.int (f_X5_baseOf M sk el ed))) := by
  refine MetR.of (by decide) (Nat.le_of_ble_eq_true rfl) ?_
  intro p e s m args below meth c S hr hlk hh K ls hl
  subst hh
  have hS : va_S (fun q => B ≤ q) s.heap s.heap [] := va_S.rf
  have hl : lv_has ls 10 [(0, .ref (ad 5)), (1, .int (nI sk)), (2, .int (nI el)), (3, .int (nI ed))] := hl
  refine lv_iload_n S.1 S.2.1 dX5_baseOf_0 rfl (lv_at hl 1 rfl) ?_
  refine lv_iload_n S.1 S.2.1 dX5_baseOf_1 rfl (lv_at hl 2 rfl) ?_
  refine nc_rS S K hS (As := [.int (nI sk), .int (nI el)]) (m_X5_at l sk el) k4_15 k4_16 k1_3 k4_17 (num := 2) (by decide +kernel) rfl ⟨Nat.le_of_ble_eq_true rfl, Nat.le_of_ble_eq_true rfl⟩ hl.1 rfl (Nat.le_of_ble_eq_true rfl) dX5_baseOf_2 ⟨Nat.le_of_ble_eq_true rfl, Nat.le_of_ble_eq_true rfl⟩ ?_
  refine nt_i (y := nI (12 * sk + el)) (rfl) ?_
  refine lv_istore (lv' := [(4, .int (nI (12 * sk + el))), (0, .ref (ad 5)), (1, .int (nI sk)), (2, .int (nI el)), (3, .int (nI ed))]) S.1 S.2.1 dX5_baseOf_5 hl (by decide) rfl (fun ls hl => ?_)
  refine lv_iconst (v := 0) S.1 S.2.1 dX5_baseOf_7 (by decide) ?_
  refine lv_istore (lv' := [(5, .int 0), (4, .int (nI (12 * sk + el))), (0, .ref (ad 5)), (1, .int (nI sk)), (2, .int (nI el)), (3, .int (nI ed))]) S.1 S.2.1 dX5_baseOf_8 hl (by decide) rfl (fun ls hl => ?_)
  refine lv_iconst (v := 0) S.1 S.2.1 dX5_baseOf_10 (by decide) ?_
  refine lv_istore (lv' := [(6, .int 0), (5, .int 0), (4, .int (nI (12 * sk + el))), (0, .ref (ad 5)), (1, .int (nI sk)), (2, .int (nI el)), (3, .int (nI ed))]) S.1 S.2.1 dX5_baseOf_11 hl (by decide) rfl (fun ls hl => ?_)
  refine lv_iconst (v := 0) S.1 S.2.1 dX5_baseOf_13 (by decide) ?_
  refine lv_istore (lv' := [(7, .int 0), (6, .int 0), (5, .int 0), (4, .int (nI (12 * sk + el))), (0, .ref (ad 5)), (1, .int (nI sk)), (2, .int (nI el)), (3, .int (nI ed))]) S.1 S.2.1 dX5_baseOf_14 hl (by decide) rfl (fun ls hl => ?_)
  refine nl (h := 16) (N := el) (n := 10) (L := fun i16 : Nat => [(7, .int (nI i16)), (5, .int ((it16_X5_baseOf M sk el ed i16).1)), (6, .int ((it16_X5_baseOf M sk el ed i16).2)), (4, .int (nI (12 * sk + el))), (0, .ref (ad 5)), (1, .int (nI sk)), (2, .int (nI el)), (3, .int (nI ed))]) (fun ls hl => ?_) (fun i16 hi16 ih16 ls hl => ?_) ls (lv_sub hl [0, 2, 1, 3, 4, 5, 6, 7] rfl)
  · try dsimp only at hl
    refine lv_iload S.1 S.2.1 dX5_baseOf_16 (lv_at hl 0 rfl) ?_
    refine lv_iload_n S.1 S.2.1 dX5_baseOf_18 rfl (lv_at hl 6 rfl) ?_
    refine lv_icmp_ge (tgt := 136) S.1 S.2.1 dX5_baseOf_19 (by decide) (fun _ => ?_) (fun c9 => absurd (nI_le (Nat.le_refl _) (by first | omega | decide)) c9)
    refine lv_aload_n S.1 S.2.1 dX5_baseOf_136 rfl (lv_at hl 4 rfl) ?_
    refine mr_get S K N 9 (by decide) k3_155 (v := .ref (ad 19)) rfl dX5_baseOf_137 ?_
    refine lv_iload S.1 S.2.1 dX5_baseOf_140 (lv_at hl 3 rfl) ?_
    refine mr_iald S K N 9 (by decide) (by decide) rfl (v := (M 9 (12 * sk + el))) (vp_in_nI (show (12 * sk + el) < mlen 9 by show _ < 144; omega) (by decide)) (congrArg (M 9) (nI_clamp (show (12 * sk + el) < 2 ^ 31 by omega))) dX5_baseOf_142 ?_
    refine lv_bipush (v := 6) S.1 S.2.1 dX5_baseOf_143 (by decide) ?_
    refine lv_icmp_ne (tgt := 177) S.1 S.2.1 dX5_baseOf_145 (by decide) (fun c145_1 => ?_) (fun c145_1 => ?_)
    · refine lv_iload S.1 S.2.1 dX5_baseOf_177 (lv_at hl 1 rfl) ?_
      refine lv_iconst (v := 2) S.1 S.2.1 dX5_baseOf_179 (by decide) ?_
      refine lv_icmp_ge (tgt := 190) S.1 S.2.1 dX5_baseOf_180 (by decide) (fun c180_2 => ?_) (fun c180_2 => ?_)
      · refine lv_iconst (v := 0) S.1 S.2.1 dX5_baseOf_190 (by decide) ?_
        exact ee_rI S hr hlk (by unfold f_X5_baseOf; first | (rw [if_neg c145_1, if_pos c180_2]; done) | (simp only [if_neg c145_1, if_pos c180_2]; done) | rfl) dX5_baseOf_191
      · refine lv_iload S.1 S.2.1 dX5_baseOf_183 (lv_at hl 2 rfl) ?_
        refine lv_bipush (v := 7) S.1 S.2.1 dX5_baseOf_185 (by decide) ?_
        refine lv_icmp_lt (tgt := 192) S.1 S.2.1 dX5_baseOf_187 (by decide) (fun c187_3 => ?_) (fun c187_3 => ?_)
        · refine lv_aload_n S.1 S.2.1 dX5_baseOf_192 rfl (lv_at hl 4 rfl) ?_
          refine lv_iload S.1 S.2.1 dX5_baseOf_193 (lv_at hl 3 rfl) ?_
          refine mc_rV S K N hS rfl (As := [.int (nI (12 * sk + el))]) (m_X5_quartersOf l M (12 * sk + el) N (by omega)) k4_34 k4_36 kS_24 k1_3 k4_37 (num := 1) (by decide +kernel) rfl ⟨Nat.le_of_ble_eq_true rfl, Nat.le_of_ble_eq_true rfl⟩ hl.1 rfl (Nat.le_of_ble_eq_true rfl) dX5_baseOf_195 ⟨Nat.le_of_ble_eq_true rfl, Nat.le_of_ble_eq_true rfl⟩ ?_
          refine lv_istore (lv' := [(7, .int (f_X5_quartersOf M (12 * sk + el))), (5, .int ((it16_X5_baseOf M sk el ed el).1)), (6, .int ((it16_X5_baseOf M sk el ed el).2)), (4, .int (nI (12 * sk + el))), (0, .ref (ad 5)), (1, .int (nI sk)), (2, .int (nI el)), (3, .int (nI ed))]) S.1 S.2.1 dX5_baseOf_198 hl (by decide) rfl (fun ls hl => ?_)
          refine lv_iload S.1 S.2.1 dX5_baseOf_200 (lv_at hl 0 rfl) ?_
          refine lv_iconst (v := 3) S.1 S.2.1 dX5_baseOf_202 (by decide) ?_
          refine nj (J := 225) (V := ((if (f_X5_quartersOf M (12 * sk + el)) < 3 then (M 10 (12 * sk + el)) else ((M 10 (12 * sk + el)) - 1)) : Int32)) (L := fun v203_4 => [(7, .int (f_X5_quartersOf M (12 * sk + el))), (5, .int ((it16_X5_baseOf M sk el ed el).1)), (6, .int ((it16_X5_baseOf M sk el ed el).2)), (4, .int (nI (12 * sk + el))), (0, .ref (ad 5)), (1, .int (nI sk)), (2, .int (nI el)), (3, .int (nI ed))]) (St := fun v203_4 => [.int v203_4]) (n := 10) (fun v203_4 ls h203_6 hl => ?_) (fun j203_5 => ?_)
          · try dsimp only at hl ⊢
            subst h203_6
            refine lv_istore (lv' := [(8, .int ((if (f_X5_quartersOf M (12 * sk + el)) < 3 then (M 10 (12 * sk + el)) else ((M 10 (12 * sk + el)) - 1)) : Int32)), (7, .int (f_X5_quartersOf M (12 * sk + el))), (5, .int ((it16_X5_baseOf M sk el ed el).1)), (6, .int ((it16_X5_baseOf M sk el ed el).2)), (4, .int (nI (12 * sk + el))), (0, .ref (ad 5)), (1, .int (nI sk)), (2, .int (nI el)), (3, .int (nI ed))]) S.1 S.2.1 dX5_baseOf_225 hl (by decide) rfl (fun ls hl => ?_)
            refine lv_iload S.1 S.2.1 dX5_baseOf_227 (lv_at hl 0 rfl) ?_
            refine nj (J := 254) (V := ((if ((if (f_X5_quartersOf M (12 * sk + el)) < 3 then (M 10 (12 * sk + el)) else ((M 10 (12 * sk + el)) - 1)) : Int32) = 0 then 0 else (M 18 (f_X5_valueAt (nI ed) (M 9 (12 * sk + el)) ((if (f_X5_quartersOf M (12 * sk + el)) < 3 then (M 10 (12 * sk + el)) else ((M 10 (12 * sk + el)) - 1)) : Int32)).toNatClampNeg)) : Int32)) (L := fun v229_7 => [(8, .int ((if (f_X5_quartersOf M (12 * sk + el)) < 3 then (M 10 (12 * sk + el)) else ((M 10 (12 * sk + el)) - 1)) : Int32)), (7, .int (f_X5_quartersOf M (12 * sk + el))), (5, .int ((it16_X5_baseOf M sk el ed el).1)), (6, .int ((it16_X5_baseOf M sk el ed el).2)), (4, .int (nI (12 * sk + el))), (0, .ref (ad 5)), (1, .int (nI sk)), (2, .int (nI el)), (3, .int (nI ed))]) (St := fun v229_7 => [.int v229_7]) (n := 10) (fun v229_7 ls h229_9 hl => ?_) (fun j229_8 => ?_)
            · try dsimp only at hl ⊢
              subst h229_9
              refine lv_istore (lv' := [(9, .int ((if ((if (f_X5_quartersOf M (12 * sk + el)) < 3 then (M 10 (12 * sk + el)) else ((M 10 (12 * sk + el)) - 1)) : Int32) = 0 then 0 else (M 18 (f_X5_valueAt (nI ed) (M 9 (12 * sk + el)) ((if (f_X5_quartersOf M (12 * sk + el)) < 3 then (M 10 (12 * sk + el)) else ((M 10 (12 * sk + el)) - 1)) : Int32)).toNatClampNeg)) : Int32)), (8, .int ((if (f_X5_quartersOf M (12 * sk + el)) < 3 then (M 10 (12 * sk + el)) else ((M 10 (12 * sk + el)) - 1)) : Int32)), (7, .int (f_X5_quartersOf M (12 * sk + el))), (5, .int ((it16_X5_baseOf M sk el ed el).1)), (6, .int ((it16_X5_baseOf M sk el ed el).2)), (4, .int (nI (12 * sk + el))), (0, .ref (ad 5)), (1, .int (nI sk)), (2, .int (nI el)), (3, .int (nI ed))]) S.1 S.2.1 dX5_baseOf_254 hl (by decide) rfl (fun ls hl => ?_)
              refine lv_iload S.1 S.2.1 dX5_baseOf_256 (lv_at hl 2 rfl) ?_
              refine lv_iconst (v := 2) S.1 S.2.1 dX5_baseOf_258 (by decide) ?_
              refine nj (J := 277) (V := ((if (f_X5_quartersOf M (12 * sk + el)) = 2 then (f_X5_rint (FP.dmul (FP.i2d ((if ((if (f_X5_quartersOf M (12 * sk + el)) < 3 then (M 10 (12 * sk + el)) else ((M 10 (12 * sk + el)) - 1)) : Int32) = 0 then 0 else (M 18 (f_X5_valueAt (nI ed) (M 9 (12 * sk + el)) ((if (f_X5_quartersOf M (12 * sk + el)) < 3 then (M 10 (12 * sk + el)) else ((M 10 (12 * sk + el)) - 1)) : Int32)).toNatClampNeg)) : Int32)) 4605380978949069210)) else ((if ((if (f_X5_quartersOf M (12 * sk + el)) < 3 then (M 10 (12 * sk + el)) else ((M 10 (12 * sk + el)) - 1)) : Int32) = 0 then 0 else (M 18 (f_X5_valueAt (nI ed) (M 9 (12 * sk + el)) ((if (f_X5_quartersOf M (12 * sk + el)) < 3 then (M 10 (12 * sk + el)) else ((M 10 (12 * sk + el)) - 1)) : Int32)).toNatClampNeg)) : Int32)) : Int32)) (L := fun v259_10 => [(9, .int ((if ((if (f_X5_quartersOf M (12 * sk + el)) < 3 then (M 10 (12 * sk + el)) else ((M 10 (12 * sk + el)) - 1)) : Int32) = 0 then 0 else (M 18 (f_X5_valueAt (nI ed) (M 9 (12 * sk + el)) ((if (f_X5_quartersOf M (12 * sk + el)) < 3 then (M 10 (12 * sk + el)) else ((M 10 (12 * sk + el)) - 1)) : Int32)).toNatClampNeg)) : Int32)), (8, .int ((if (f_X5_quartersOf M (12 * sk + el)) < 3 then (M 10 (12 * sk + el)) else ((M 10 (12 * sk + el)) - 1)) : Int32)), (7, .int (f_X5_quartersOf M (12 * sk + el))), (5, .int ((it16_X5_baseOf M sk el ed el).1)), (6, .int ((it16_X5_baseOf M sk el ed el).2)), (4, .int (nI (12 * sk + el))), (0, .ref (ad 5)), (1, .int (nI sk)), (2, .int (nI el)), (3, .int (nI ed))]) (St := fun v259_10 => [.int v259_10]) (n := 10) (fun v259_10 ls h259_12 hl => ?_) (fun j259_11 => ?_)
              · try dsimp only at hl ⊢
                subst h259_12
                refine lv_istore (lv' := [(9, .int ((if (f_X5_quartersOf M (12 * sk + el)) = 2 then (f_X5_rint (FP.dmul (FP.i2d ((if ((if (f_X5_quartersOf M (12 * sk + el)) < 3 then (M 10 (12 * sk + el)) else ((M 10 (12 * sk + el)) - 1)) : Int32) = 0 then 0 else (M 18 (f_X5_valueAt (nI ed) (M 9 (12 * sk + el)) ((if (f_X5_quartersOf M (12 * sk + el)) < 3 then (M 10 (12 * sk + el)) else ((M 10 (12 * sk + el)) - 1)) : Int32)).toNatClampNeg)) : Int32)) 4605380978949069210)) else ((if ((if (f_X5_quartersOf M (12 * sk + el)) < 3 then (M 10 (12 * sk + el)) else ((M 10 (12 * sk + el)) - 1)) : Int32) = 0 then 0 else (M 18 (f_X5_valueAt (nI ed) (M 9 (12 * sk + el)) ((if (f_X5_quartersOf M (12 * sk + el)) < 3 then (M 10 (12 * sk + el)) else ((M 10 (12 * sk + el)) - 1)) : Int32)).toNatClampNeg)) : Int32)) : Int32)), (8, .int ((if (f_X5_quartersOf M (12 * sk + el)) < 3 then (M 10 (12 * sk + el)) else ((M 10 (12 * sk + el)) - 1)) : Int32)), (7, .int (f_X5_quartersOf M (12 * sk + el))), (5, .int ((it16_X5_baseOf M sk el ed el).1)), (6, .int ((it16_X5_baseOf M sk el ed el).2)), (4, .int (nI (12 * sk + el))), (0, .ref (ad 5)), (1, .int (nI sk)), (2, .int (nI el)), (3, .int (nI ed))]) S.1 S.2.1 dX5_baseOf_277 hl (by decide) rfl (fun ls hl => ?_)
                refine lv_aload_n S.1 S.2.1 dX5_baseOf_279 rfl (lv_at hl 6 rfl) ?_
                refine mr_get S K N 13 (by decide) k3_159 (v := .ref (ad 23)) rfl dX5_baseOf_280 ?_
                refine lv_iload S.1 S.2.1 dX5_baseOf_283 (lv_at hl 5 rfl) ?_
                refine mr_zald S K N 13 (by decide) (by decide) rfl (v := (M 13 (12 * sk + el))) (vp_in_nI (show (12 * sk + el) < mlen 13 by show _ < 144; omega) (by decide)) (congrArg (M 13) (nI_clamp (show (12 * sk + el) < 2 ^ 31 by omega))) dX5_baseOf_285 ?_
                refine nj (J := 304) (V := ((if (M 13 (12 * sk + el)) = 0 then ((if (f_X5_quartersOf M (12 * sk + el)) = 2 then (f_X5_rint (FP.dmul (FP.i2d ((if ((if (f_X5_quartersOf M (12 * sk + el)) < 3 then (M 10 (12 * sk + el)) else ((M 10 (12 * sk + el)) - 1)) : Int32) = 0 then 0 else (M 18 (f_X5_valueAt (nI ed) (M 9 (12 * sk + el)) ((if (f_X5_quartersOf M (12 * sk + el)) < 3 then (M 10 (12 * sk + el)) else ((M 10 (12 * sk + el)) - 1)) : Int32)).toNatClampNeg)) : Int32)) 4605380978949069210)) else ((if ((if (f_X5_quartersOf M (12 * sk + el)) < 3 then (M 10 (12 * sk + el)) else ((M 10 (12 * sk + el)) - 1)) : Int32) = 0 then 0 else (M 18 (f_X5_valueAt (nI ed) (M 9 (12 * sk + el)) ((if (f_X5_quartersOf M (12 * sk + el)) < 3 then (M 10 (12 * sk + el)) else ((M 10 (12 * sk + el)) - 1)) : Int32)).toNatClampNeg)) : Int32)) : Int32) else (f_X5_rint (FP.dmul (FP.i2d ((if (f_X5_quartersOf M (12 * sk + el)) = 2 then (f_X5_rint (FP.dmul (FP.i2d ((if ((if (f_X5_quartersOf M (12 * sk + el)) < 3 then (M 10 (12 * sk + el)) else ((M 10 (12 * sk + el)) - 1)) : Int32) = 0 then 0 else (M 18 (f_X5_valueAt (nI ed) (M 9 (12 * sk + el)) ((if (f_X5_quartersOf M (12 * sk + el)) < 3 then (M 10 (12 * sk + el)) else ((M 10 (12 * sk + el)) - 1)) : Int32)).toNatClampNeg)) : Int32)) 4605380978949069210)) else ((if ((if (f_X5_quartersOf M (12 * sk + el)) < 3 then (M 10 (12 * sk + el)) else ((M 10 (12 * sk + el)) - 1)) : Int32) = 0 then 0 else (M 18 (f_X5_valueAt (nI ed) (M 9 (12 * sk + el)) ((if (f_X5_quartersOf M (12 * sk + el)) < 3 then (M 10 (12 * sk + el)) else ((M 10 (12 * sk + el)) - 1)) : Int32)).toNatClampNeg)) : Int32)) : Int32)) 4605380978949069210))) : Int32)) (L := fun v286_13 => [(9, .int ((if (f_X5_quartersOf M (12 * sk + el)) = 2 then (f_X5_rint (FP.dmul (FP.i2d ((if ((if (f_X5_quartersOf M (12 * sk + el)) < 3 then (M 10 (12 * sk + el)) else ((M 10 (12 * sk + el)) - 1)) : Int32) = 0 then 0 else (M 18 (f_X5_valueAt (nI ed) (M 9 (12 * sk + el)) ((if (f_X5_quartersOf M (12 * sk + el)) < 3 then (M 10 (12 * sk + el)) else ((M 10 (12 * sk + el)) - 1)) : Int32)).toNatClampNeg)) : Int32)) 4605380978949069210)) else ((if ((if (f_X5_quartersOf M (12 * sk + el)) < 3 then (M 10 (12 * sk + el)) else ((M 10 (12 * sk + el)) - 1)) : Int32) = 0 then 0 else (M 18 (f_X5_valueAt (nI ed) (M 9 (12 * sk + el)) ((if (f_X5_quartersOf M (12 * sk + el)) < 3 then (M 10 (12 * sk + el)) else ((M 10 (12 * sk + el)) - 1)) : Int32)).toNatClampNeg)) : Int32)) : Int32)), (8, .int ((if (f_X5_quartersOf M (12 * sk + el)) < 3 then (M 10 (12 * sk + el)) else ((M 10 (12 * sk + el)) - 1)) : Int32)), (7, .int (f_X5_quartersOf M (12 * sk + el))), (5, .int ((it16_X5_baseOf M sk el ed el).1)), (6, .int ((it16_X5_baseOf M sk el ed el).2)), (4, .int (nI (12 * sk + el))), (0, .ref (ad 5)), (1, .int (nI sk)), (2, .int (nI el)), (3, .int (nI ed))]) (St := fun v286_13 => [.int v286_13]) (n := 10) (fun v286_13 ls h286_15 hl => ?_) (fun j286_14 => ?_)
                · try dsimp only at hl ⊢
                  subst h286_15
                  refine lv_istore (lv' := [(9, .int ((if (M 13 (12 * sk + el)) = 0 then ((if (f_X5_quartersOf M (12 * sk + el)) = 2 then (f_X5_rint (FP.dmul (FP.i2d ((if ((if (f_X5_quartersOf M (12 * sk + el)) < 3 then (M 10 (12 * sk + el)) else ((M 10 (12 * sk + el)) - 1)) : Int32) = 0 then 0 else (M 18 (f_X5_valueAt (nI ed) (M 9 (12 * sk + el)) ((if (f_X5_quartersOf M (12 * sk + el)) < 3 then (M 10 (12 * sk + el)) else ((M 10 (12 * sk + el)) - 1)) : Int32)).toNatClampNeg)) : Int32)) 4605380978949069210)) else ((if ((if (f_X5_quartersOf M (12 * sk + el)) < 3 then (M 10 (12 * sk + el)) else ((M 10 (12 * sk + el)) - 1)) : Int32) = 0 then 0 else (M 18 (f_X5_valueAt (nI ed) (M 9 (12 * sk + el)) ((if (f_X5_quartersOf M (12 * sk + el)) < 3 then (M 10 (12 * sk + el)) else ((M 10 (12 * sk + el)) - 1)) : Int32)).toNatClampNeg)) : Int32)) : Int32) else (f_X5_rint (FP.dmul (FP.i2d ((if (f_X5_quartersOf M (12 * sk + el)) = 2 then (f_X5_rint (FP.dmul (FP.i2d ((if ((if (f_X5_quartersOf M (12 * sk + el)) < 3 then (M 10 (12 * sk + el)) else ((M 10 (12 * sk + el)) - 1)) : Int32) = 0 then 0 else (M 18 (f_X5_valueAt (nI ed) (M 9 (12 * sk + el)) ((if (f_X5_quartersOf M (12 * sk + el)) < 3 then (M 10 (12 * sk + el)) else ((M 10 (12 * sk + el)) - 1)) : Int32)).toNatClampNeg)) : Int32)) 4605380978949069210)) else ((if ((if (f_X5_quartersOf M (12 * sk + el)) < 3 then (M 10 (12 * sk + el)) else ((M 10 (12 * sk + el)) - 1)) : Int32) = 0 then 0 else (M 18 (f_X5_valueAt (nI ed) (M 9 (12 * sk + el)) ((if (f_X5_quartersOf M (12 * sk + el)) < 3 then (M 10 (12 * sk + el)) else ((M 10 (12 * sk + el)) - 1)) : Int32)).toNatClampNeg)) : Int32)) : Int32)) 4605380978949069210))) : Int32)), (8, .int ((if (f_X5_quartersOf M (12 * sk + el)) < 3 then (M 10 (12 * sk + el)) else ((M 10 (12 * sk + el)) - 1)) : Int32)), (7, .int (f_X5_quartersOf M (12 * sk + el))), (5, .int ((it16_X5_baseOf M sk el ed el).1)), (6, .int ((it16_X5_baseOf M sk el ed el).2)), (4, .int (nI (12 * sk + el))), (0, .ref (ad 5)), (1, .int (nI sk)), (2, .int (nI el)), (3, .int (nI ed))]) S.1 S.2.1 dX5_baseOf_304 hl (by decide) rfl (fun ls hl => ?_)
                  refine lv_aload_n S.1 S.2.1 dX5_baseOf_306 rfl (lv_at hl 6 rfl) ?_
                  refine mr_get S K N 14 (by decide) k3_160 (v := .ref (ad 24)) rfl dX5_baseOf_307 ?_
                  refine lv_iload S.1 S.2.1 dX5_baseOf_310 (lv_at hl 5 rfl) ?_
                  refine mr_zald S K N 14 (by decide) (by decide) rfl (v := (M 14 (12 * sk + el))) (vp_in_nI (show (12 * sk + el) < mlen 14 by show _ < 144; omega) (by decide)) (congrArg (M 14) (nI_clamp (show (12 * sk + el) < 2 ^ 31 by omega))) dX5_baseOf_312 ?_
                  refine nj (J := 331) (V := ((if (M 14 (12 * sk + el)) = 0 then ((if (M 13 (12 * sk + el)) = 0 then ((if (f_X5_quartersOf M (12 * sk + el)) = 2 then (f_X5_rint (FP.dmul (FP.i2d ((if ((if (f_X5_quartersOf M (12 * sk + el)) < 3 then (M 10 (12 * sk + el)) else ((M 10 (12 * sk + el)) - 1)) : Int32) = 0 then 0 else (M 18 (f_X5_valueAt (nI ed) (M 9 (12 * sk + el)) ((if (f_X5_quartersOf M (12 * sk + el)) < 3 then (M 10 (12 * sk + el)) else ((M 10 (12 * sk + el)) - 1)) : Int32)).toNatClampNeg)) : Int32)) 4605380978949069210)) else ((if ((if (f_X5_quartersOf M (12 * sk + el)) < 3 then (M 10 (12 * sk + el)) else ((M 10 (12 * sk + el)) - 1)) : Int32) = 0 then 0 else (M 18 (f_X5_valueAt (nI ed) (M 9 (12 * sk + el)) ((if (f_X5_quartersOf M (12 * sk + el)) < 3 then (M 10 (12 * sk + el)) else ((M 10 (12 * sk + el)) - 1)) : Int32)).toNatClampNeg)) : Int32)) : Int32) else (f_X5_rint (FP.dmul (FP.i2d ((if (f_X5_quartersOf M (12 * sk + el)) = 2 then (f_X5_rint (FP.dmul (FP.i2d ((if ((if (f_X5_quartersOf M (12 * sk + el)) < 3 then (M 10 (12 * sk + el)) else ((M 10 (12 * sk + el)) - 1)) : Int32) = 0 then 0 else (M 18 (f_X5_valueAt (nI ed) (M 9 (12 * sk + el)) ((if (f_X5_quartersOf M (12 * sk + el)) < 3 then (M 10 (12 * sk + el)) else ((M 10 (12 * sk + el)) - 1)) : Int32)).toNatClampNeg)) : Int32)) 4605380978949069210)) else ((if ((if (f_X5_quartersOf M (12 * sk + el)) < 3 then (M 10 (12 * sk + el)) else ((M 10 (12 * sk + el)) - 1)) : Int32) = 0 then 0 else (M 18 (f_X5_valueAt (nI ed) (M 9 (12 * sk + el)) ((if (f_X5_quartersOf M (12 * sk + el)) < 3 then (M 10 (12 * sk + el)) else ((M 10 (12 * sk + el)) - 1)) : Int32)).toNatClampNeg)) : Int32)) : Int32)) 4605380978949069210))) : Int32) else (f_X5_rint (FP.dmul (FP.i2d ((if (M 13 (12 * sk + el)) = 0 then ((if (f_X5_quartersOf M (12 * sk + el)) = 2 then (f_X5_rint (FP.dmul (FP.i2d ((if ((if (f_X5_quartersOf M (12 * sk + el)) < 3 then (M 10 (12 * sk + el)) else ((M 10 (12 * sk + el)) - 1)) : Int32) = 0 then 0 else (M 18 (f_X5_valueAt (nI ed) (M 9 (12 * sk + el)) ((if (f_X5_quartersOf M (12 * sk + el)) < 3 then (M 10 (12 * sk + el)) else ((M 10 (12 * sk + el)) - 1)) : Int32)).toNatClampNeg)) : Int32)) 4605380978949069210)) else ((if ((if (f_X5_quartersOf M (12 * sk + el)) < 3 then (M 10 (12 * sk + el)) else ((M 10 (12 * sk + el)) - 1)) : Int32) = 0 then 0 else (M 18 (f_X5_valueAt (nI ed) (M 9 (12 * sk + el)) ((if (f_X5_quartersOf M (12 * sk + el)) < 3 then (M 10 (12 * sk + el)) else ((M 10 (12 * sk + el)) - 1)) : Int32)).toNatClampNeg)) : Int32)) : Int32) else (f_X5_rint (FP.dmul (FP.i2d ((if (f_X5_quartersOf M (12 * sk + el)) = 2 then (f_X5_rint (FP.dmul (FP.i2d ((if ((if (f_X5_quartersOf M (12 * sk + el)) < 3 then (M 10 (12 * sk + el)) else ((M 10 (12 * sk + el)) - 1)) : Int32) = 0 then 0 else (M 18 (f_X5_valueAt (nI ed) (M 9 (12 * sk + el)) ((if (f_X5_quartersOf M (12 * sk + el)) < 3 then (M 10 (12 * sk + el)) else ((M 10 (12 * sk + el)) - 1)) : Int32)).toNatClampNeg)) : Int32)) 4605380978949069210)) else ((if ((if (f_X5_quartersOf M (12 * sk + el)) < 3 then (M 10 (12 * sk + el)) else ((M 10 (12 * sk + el)) - 1)) : Int32) = 0 then 0 else (M 18 (f_X5_valueAt (nI ed) (M 9 (12 * sk + el)) ((if (f_X5_quartersOf M (12 * sk + el)) < 3 then (M 10 (12 * sk + el)) else ((M 10 (12 * sk + el)) - 1)) : Int32)).toNatClampNeg)) : Int32)) : Int32)) 4605380978949069210))) : Int32)) 4607632778762754458))) : Int32)) (L := fun v313_16 => [(9, .int ((if (M 13 (12 * sk + el)) = 0 then ((if (f_X5_quartersOf M (12 * sk + el)) = 2 then (f_X5_rint (FP.dmul (FP.i2d ((if ((if (f_X5_quartersOf M (12 * sk + el)) < 3 then (M 10 (12 * sk + el)) else ((M 10 (12 * sk + el)) - 1)) : Int32) = 0 then 0 else (M 18 (f_X5_valueAt (nI ed) (M 9 (12 * sk + el)) ((if (f_X5_quartersOf M (12 * sk + el)) < 3 then (M 10 (12 * sk + el)) else ((M 10 (12 * sk + el)) - 1)) : Int32)).toNatClampNeg)) : Int32)) 4605380978949069210)) else ((if ((if (f_X5_quartersOf M (12 * sk + el)) < 3 then (M 10 (12 * sk + el)) else ((M 10 (12 * sk + el)) - 1)) : Int32) = 0 then 0 else (M 18 (f_X5_valueAt (nI ed) (M 9 (12 * sk + el)) ((if (f_X5_quartersOf M (12 * sk + el)) < 3 then (M 10 (12 * sk + el)) else ((M 10 (12 * sk + el)) - 1)) : Int32)).toNatClampNeg)) : Int32)) : Int32) else (f_X5_rint (FP.dmul (FP.i2d ((if (f_X5_quartersOf M (12 * sk + el)) = 2 then (f_X5_rint (FP.dmul (FP.i2d ((if ((if (f_X5_quartersOf M (12 * sk + el)) < 3 then (M 10 (12 * sk + el)) else ((M 10 (12 * sk + el)) - 1)) : Int32) = 0 then 0 else (M 18 (f_X5_valueAt (nI ed) (M 9 (12 * sk + el)) ((if (f_X5_quartersOf M (12 * sk + el)) < 3 then (M 10 (12 * sk + el)) else ((M 10 (12 * sk + el)) - 1)) : Int32)).toNatClampNeg)) : Int32)) 4605380978949069210)) else ((if ((if (f_X5_quartersOf M (12 * sk + el)) < 3 then (M 10 (12 * sk + el)) else ((M 10 (12 * sk + el)) - 1)) : Int32) = 0 then 0 else (M 18 (f_X5_valueAt (nI ed) (M 9 (12 * sk + el)) ((if (f_X5_quartersOf M (12 * sk + el)) < 3 then (M 10 (12 * sk + el)) else ((M 10 (12 * sk + el)) - 1)) : Int32)).toNatClampNeg)) : Int32)) : Int32)) 4605380978949069210))) : Int32)), (8, .int ((if (f_X5_quartersOf M (12 * sk + el)) < 3 then (M 10 (12 * sk + el)) else ((M 10 (12 * sk + el)) - 1)) : Int32)), (7, .int (f_X5_quartersOf M (12 * sk + el))), (5, .int ((it16_X5_baseOf M sk el ed el).1)), (6, .int ((it16_X5_baseOf M sk el ed el).2)), (4, .int (nI (12 * sk + el))), (0, .ref (ad 5)), (1, .int (nI sk)), (2, .int (nI el)), (3, .int (nI ed))]) (St := fun v313_16 => [.int v313_16]) (n := 10) (fun v313_16 ls h313_18 hl => ?_) (fun j313_17 => ?_)
                  · try dsimp only at hl ⊢
                    subst h313_18
                    exact ee_rI S hr hlk (by unfold f_X5_baseOf; first | (rw [if_neg c145_1, if_neg c180_2, if_pos c187_3]; done) | (simp only [if_neg c145_1, if_neg c180_2, if_pos c187_3]; done) | rfl) dX5_baseOf_331
                  · refine lv_if_eq (tgt := 329) S.1 S.2.1 dX5_baseOf_313 (by decide) (fun c313_19 => ?_) (fun c313_19 => ?_)
                    · refine lv_iload S.1 S.2.1 dX5_baseOf_329 (lv_at hl 0 rfl) ?_
                      exact j313_17 _ _ (by first | (rw [if_pos c313_19]; done) | (simp only [if_pos c313_19]; done) | rfl) (lv_sub hl [0, 1, 2, 3, 4, 5, 6, 7, 8, 9] rfl)
                    · refine lv_iload S.1 S.2.1 dX5_baseOf_316 (lv_at hl 0 rfl) ?_
                      refine lv_i2d S.1 S.2.1 dX5_baseOf_318 ?_
                      refine lv_ldc2d S.1 S.2.1 S.2.2.2.1 (S.2.2.2.2 _ k4_66) dX5_baseOf_319 ?_
                      refine lv_dmul S.1 S.2.1 dX5_baseOf_322 (vn_of (nan_11 _)) ?_
                      refine nc_rS S K hS (As := [.double (FP.dmul (FP.i2d ((if (M 13 (12 * sk + el)) = 0 then ((if (f_X5_quartersOf M (12 * sk + el)) = 2 then (f_X5_rint (FP.dmul (FP.i2d ((if ((if (f_X5_quartersOf M (12 * sk + el)) < 3 then (M 10 (12 * sk + el)) else ((M 10 (12 * sk + el)) - 1)) : Int32) = 0 then 0 else (M 18 (f_X5_valueAt (nI ed) (M 9 (12 * sk + el)) ((if (f_X5_quartersOf M (12 * sk + el)) < 3 then (M 10 (12 * sk + el)) else ((M 10 (12 * sk + el)) - 1)) : Int32)).toNatClampNeg)) : Int32)) 4605380978949069210)) else ((if ((if (f_X5_quartersOf M (12 * sk + el)) < 3 then (M 10 (12 * sk + el)) else ((M 10 (12 * sk + el)) - 1)) : Int32) = 0 then 0 else (M 18 (f_X5_valueAt (nI ed) (M 9 (12 * sk + el)) ((if (f_X5_quartersOf M (12 * sk + el)) < 3 then (M 10 (12 * sk + el)) else ((M 10 (12 * sk + el)) - 1)) : Int32)).toNatClampNeg)) : Int32)) : Int32) else (f_X5_rint (FP.dmul (FP.i2d ((if (f_X5_quartersOf M (12 * sk + el)) = 2 then (f_X5_rint (FP.dmul (FP.i2d ((if ((if (f_X5_quartersOf M (12 * sk + el)) < 3 then (M 10 (12 * sk + el)) else ((M 10 (12 * sk + el)) - 1)) : Int32) = 0 then 0 else (M 18 (f_X5_valueAt (nI ed) (M 9 (12 * sk + el)) ((if (f_X5_quartersOf M (12 * sk + el)) < 3 then (M 10 (12 * sk + el)) else ((M 10 (12 * sk + el)) - 1)) : Int32)).toNatClampNeg)) : Int32)) 4605380978949069210)) else ((if ((if (f_X5_quartersOf M (12 * sk + el)) < 3 then (M 10 (12 * sk + el)) else ((M 10 (12 * sk + el)) - 1)) : Int32) = 0 then 0 else (M 18 (f_X5_valueAt (nI ed) (M 9 (12 * sk + el)) ((if (f_X5_quartersOf M (12 * sk + el)) < 3 then (M 10 (12 * sk + el)) else ((M 10 (12 * sk + el)) - 1)) : Int32)).toNatClampNeg)) : Int32)) : Int32)) 4605380978949069210))) : Int32)) 4607632778762754458)]) (m_X5_rint l (FP.dmul (FP.i2d ((if (M 13 (12 * sk + el)) = 0 then ((if (f_X5_quartersOf M (12 * sk + el)) = 2 then (f_X5_rint (FP.dmul (FP.i2d ((if ((if (f_X5_quartersOf M (12 * sk + el)) < 3 then (M 10 (12 * sk + el)) else ((M 10 (12 * sk + el)) - 1)) : Int32) = 0 then 0 else (M 18 (f_X5_valueAt (nI ed) (M 9 (12 * sk + el)) ((if (f_X5_quartersOf M (12 * sk + el)) < 3 then (M 10 (12 * sk + el)) else ((M 10 (12 * sk + el)) - 1)) : Int32)).toNatClampNeg)) : Int32)) 4605380978949069210)) else ((if ((if (f_X5_quartersOf M (12 * sk + el)) < 3 then (M 10 (12 * sk + el)) else ((M 10 (12 * sk + el)) - 1)) : Int32) = 0 then 0 else (M 18 (f_X5_valueAt (nI ed) (M 9 (12 * sk + el)) ((if (f_X5_quartersOf M (12 * sk + el)) < 3 then (M 10 (12 * sk + el)) else ((M 10 (12 * sk + el)) - 1)) : Int32)).toNatClampNeg)) : Int32)) : Int32) else (f_X5_rint (FP.dmul (FP.i2d ((if (f_X5_quartersOf M (12 * sk + el)) = 2 then (f_X5_rint (FP.dmul (FP.i2d ((if ((if (f_X5_quartersOf M (12 * sk + el)) < 3 then (M 10 (12 * sk + el)) else ((M 10 (12 * sk + el)) - 1)) : Int32) = 0 then 0 else (M 18 (f_X5_valueAt (nI ed) (M 9 (12 * sk + el)) ((if (f_X5_quartersOf M (12 * sk + el)) < 3 then (M 10 (12 * sk + el)) else ((M 10 (12 * sk + el)) - 1)) : Int32)).toNatClampNeg)) : Int32)) 4605380978949069210)) else ((if ((if (f_X5_quartersOf M (12 * sk + el)) < 3 then (M 10 (12 * sk + el)) else ((M 10 (12 * sk + el)) - 1)) : Int32) = 0 then 0 else (M 18 (f_X5_valueAt (nI ed) (M 9 (12 * sk + el)) ((if (f_X5_quartersOf M (12 * sk + el)) < 3 then (M 10 (12 * sk + el)) else ((M 10 (12 * sk + el)) - 1)) : Int32)).toNatClampNeg)) : Int32)) : Int32)) 4605380978949069210))) : Int32)) 4607632778762754458) (nan_11 _)) k4_62 k4_63 k1_3 k4_64 (num := 1) (by decide +kernel) rfl ⟨Nat.le_of_ble_eq_true rfl, Nat.le_of_ble_eq_true rfl⟩ hl.1 rfl (Nat.le_of_ble_eq_true rfl) dX5_baseOf_323 ⟨Nat.le_of_ble_eq_true rfl, Nat.le_of_ble_eq_true rfl⟩ ?_
                      refine lv_goto (tgt := 331) S.1 S.2.1 dX5_baseOf_326 (by decide) ?_
                      exact j313_17 _ _ (by first | (rw [if_neg c313_19]; done) | (simp only [if_neg c313_19]; done) | rfl) (lv_sub hl [0, 1, 2, 3, 4, 5, 6, 7, 8, 9] rfl)
                · refine lv_if_eq (tgt := 302) S.1 S.2.1 dX5_baseOf_286 (by decide) (fun c286_20 => ?_) (fun c286_20 => ?_)
                  · refine lv_iload S.1 S.2.1 dX5_baseOf_302 (lv_at hl 0 rfl) ?_
                    exact j286_14 _ _ (by first | (rw [if_pos c286_20]; done) | (simp only [if_pos c286_20]; done) | rfl) (lv_sub hl [0, 1, 2, 3, 4, 5, 6, 7, 8, 9] rfl)
                  · refine lv_iload S.1 S.2.1 dX5_baseOf_289 (lv_at hl 0 rfl) ?_
                    refine lv_i2d S.1 S.2.1 dX5_baseOf_291 ?_
                    refine lv_ldc2d S.1 S.2.1 S.2.2.2.1 (S.2.2.2.2 _ k4_61) dX5_baseOf_292 ?_
                    refine lv_dmul S.1 S.2.1 dX5_baseOf_295 (vn_of (nan_08 _)) ?_
                    refine nc_rS S K hS (As := [.double (FP.dmul (FP.i2d ((if (f_X5_quartersOf M (12 * sk + el)) = 2 then (f_X5_rint (FP.dmul (FP.i2d ((if ((if (f_X5_quartersOf M (12 * sk + el)) < 3 then (M 10 (12 * sk + el)) else ((M 10 (12 * sk + el)) - 1)) : Int32) = 0 then 0 else (M 18 (f_X5_valueAt (nI ed) (M 9 (12 * sk + el)) ((if (f_X5_quartersOf M (12 * sk + el)) < 3 then (M 10 (12 * sk + el)) else ((M 10 (12 * sk + el)) - 1)) : Int32)).toNatClampNeg)) : Int32)) 4605380978949069210)) else ((if ((if (f_X5_quartersOf M (12 * sk + el)) < 3 then (M 10 (12 * sk + el)) else ((M 10 (12 * sk + el)) - 1)) : Int32) = 0 then 0 else (M 18 (f_X5_valueAt (nI ed) (M 9 (12 * sk + el)) ((if (f_X5_quartersOf M (12 * sk + el)) < 3 then (M 10 (12 * sk + el)) else ((M 10 (12 * sk + el)) - 1)) : Int32)).toNatClampNeg)) : Int32)) : Int32)) 4605380978949069210)]) (m_X5_rint l (FP.dmul (FP.i2d ((if (f_X5_quartersOf M (12 * sk + el)) = 2 then (f_X5_rint (FP.dmul (FP.i2d ((if ((if (f_X5_quartersOf M (12 * sk + el)) < 3 then (M 10 (12 * sk + el)) else ((M 10 (12 * sk + el)) - 1)) : Int32) = 0 then 0 else (M 18 (f_X5_valueAt (nI ed) (M 9 (12 * sk + el)) ((if (f_X5_quartersOf M (12 * sk + el)) < 3 then (M 10 (12 * sk + el)) else ((M 10 (12 * sk + el)) - 1)) : Int32)).toNatClampNeg)) : Int32)) 4605380978949069210)) else ((if ((if (f_X5_quartersOf M (12 * sk + el)) < 3 then (M 10 (12 * sk + el)) else ((M 10 (12 * sk + el)) - 1)) : Int32) = 0 then 0 else (M 18 (f_X5_valueAt (nI ed) (M 9 (12 * sk + el)) ((if (f_X5_quartersOf M (12 * sk + el)) < 3 then (M 10 (12 * sk + el)) else ((M 10 (12 * sk + el)) - 1)) : Int32)).toNatClampNeg)) : Int32)) : Int32)) 4605380978949069210) (nan_08 _)) k4_62 k4_63 k1_3 k4_64 (num := 1) (by decide +kernel) rfl ⟨Nat.le_of_ble_eq_true rfl, Nat.le_of_ble_eq_true rfl⟩ hl.1 rfl (Nat.le_of_ble_eq_true rfl) dX5_baseOf_296 ⟨Nat.le_of_ble_eq_true rfl, Nat.le_of_ble_eq_true rfl⟩ ?_
                    refine lv_goto (tgt := 304) S.1 S.2.1 dX5_baseOf_299 (by decide) ?_
                    exact j286_14 _ _ (by first | (rw [if_neg c286_20]; done) | (simp only [if_neg c286_20]; done) | rfl) (lv_sub hl [0, 1, 2, 3, 4, 5, 6, 7, 8, 9] rfl)
              · refine lv_icmp_ne (tgt := 275) S.1 S.2.1 dX5_baseOf_259 (by decide) (fun c259_21 => ?_) (fun c259_21 => ?_)
                · refine lv_iload S.1 S.2.1 dX5_baseOf_275 (lv_at hl 0 rfl) ?_
                  exact j259_11 _ _ (by first | (rw [if_neg c259_21]; done) | (simp only [if_neg c259_21]; done) | rfl) (lv_sub hl [0, 1, 2, 3, 4, 5, 6, 7, 8, 9] rfl)
                · refine lv_iload S.1 S.2.1 dX5_baseOf_262 (lv_at hl 0 rfl) ?_
                  refine lv_i2d S.1 S.2.1 dX5_baseOf_264 ?_
                  refine lv_ldc2d S.1 S.2.1 S.2.2.2.1 (S.2.2.2.2 _ k4_61) dX5_baseOf_265 ?_
                  refine lv_dmul S.1 S.2.1 dX5_baseOf_268 (vn_of (nan_08 _)) ?_
                  refine nc_rS S K hS (As := [.double (FP.dmul (FP.i2d ((if ((if (f_X5_quartersOf M (12 * sk + el)) < 3 then (M 10 (12 * sk + el)) else ((M 10 (12 * sk + el)) - 1)) : Int32) = 0 then 0 else (M 18 (f_X5_valueAt (nI ed) (M 9 (12 * sk + el)) ((if (f_X5_quartersOf M (12 * sk + el)) < 3 then (M 10 (12 * sk + el)) else ((M 10 (12 * sk + el)) - 1)) : Int32)).toNatClampNeg)) : Int32)) 4605380978949069210)]) (m_X5_rint l (FP.dmul (FP.i2d ((if ((if (f_X5_quartersOf M (12 * sk + el)) < 3 then (M 10 (12 * sk + el)) else ((M 10 (12 * sk + el)) - 1)) : Int32) = 0 then 0 else (M 18 (f_X5_valueAt (nI ed) (M 9 (12 * sk + el)) ((if (f_X5_quartersOf M (12 * sk + el)) < 3 then (M 10 (12 * sk + el)) else ((M 10 (12 * sk + el)) - 1)) : Int32)).toNatClampNeg)) : Int32)) 4605380978949069210) (nan_08 _)) k4_62 k4_63 k1_3 k4_64 (num := 1) (by decide +kernel) rfl ⟨Nat.le_of_ble_eq_true rfl, Nat.le_of_ble_eq_true rfl⟩ hl.1 rfl (Nat.le_of_ble_eq_true rfl) dX5_baseOf_269 ⟨Nat.le_of_ble_eq_true rfl, Nat.le_of_ble_eq_true rfl⟩ ?_
                  refine lv_goto (tgt := 277) S.1 S.2.1 dX5_baseOf_272 (by decide) ?_
                  exact j259_11 _ _ (by first | (rw [if_pos c259_21]; done) | (simp only [if_pos c259_21]; done) | rfl) (lv_sub hl [0, 1, 2, 3, 4, 5, 6, 7, 8, 9] rfl)
            · refine lv_if_ne (tgt := 236) S.1 S.2.1 dX5_baseOf_229 (by decide) (fun c229_22 => ?_) (fun c229_22 => ?_)
              · refine lv_aload_n S.1 S.2.1 dX5_baseOf_236 rfl (lv_at hl 5 rfl) ?_
                refine mr_get S K N 18 (by decide) k3_164 (v := .ref (ad 28)) rfl dX5_baseOf_237 ?_
                refine lv_iload_n S.1 S.2.1 dX5_baseOf_240 rfl (lv_at hl 8 rfl) ?_
                refine lv_aload_n S.1 S.2.1 dX5_baseOf_241 rfl (lv_at hl 5 rfl) ?_
                refine mr_get S K N 9 (by decide) k3_155 (v := .ref (ad 19)) rfl dX5_baseOf_242 ?_
                refine lv_iload S.1 S.2.1 dX5_baseOf_245 (lv_at hl 4 rfl) ?_
                refine mr_iald S K N 9 (by decide) (by decide) rfl (v := (M 9 (12 * sk + el))) (vp_in_nI (show (12 * sk + el) < mlen 9 by show _ < 144; omega) (by decide)) (congrArg (M 9) (nI_clamp (show (12 * sk + el) < 2 ^ 31 by omega))) dX5_baseOf_247 ?_
                refine lv_iload S.1 S.2.1 dX5_baseOf_248 (lv_at hl 0 rfl) ?_
                refine nc_rS S K hS (As := [.int (nI ed), .int (M 9 (12 * sk + el)), .int ((if (f_X5_quartersOf M (12 * sk + el)) < 3 then (M 10 (12 * sk + el)) else ((M 10 (12 * sk + el)) - 1)) : Int32)]) (m_X5_valueAt l (nI ed) (M 9 (12 * sk + el)) ((if (f_X5_quartersOf M (12 * sk + el)) < 3 then (M 10 (12 * sk + el)) else ((M 10 (12 * sk + el)) - 1)) : Int32)) k4_50 k4_51 k1_3 k4_52 (num := 3) (by decide +kernel) rfl ⟨Nat.le_of_ble_eq_true rfl, Nat.le_of_ble_eq_true rfl⟩ hl.1 rfl (Nat.le_of_ble_eq_true rfl) dX5_baseOf_250 ⟨Nat.le_of_ble_eq_true rfl, Nat.le_of_ble_eq_true rfl⟩ ?_
                refine mr_iald S K N 18 (by decide) (by decide) rfl (v := (M 18 (f_X5_valueAt (nI ed) (M 9 (12 * sk + el)) ((if (f_X5_quartersOf M (12 * sk + el)) < 3 then (M 10 (12 * sk + el)) else ((M 10 (12 * sk + el)) - 1)) : Int32)).toNatClampNeg)) (hv.2 c145_1 _ (by split <;> first | exact Or.inr rfl | exact Or.inl rfl) c229_22) (rfl) dX5_baseOf_253 ?_
                exact j229_8 _ _ (by first | (rw [if_neg c229_22]; done) | (simp only [if_neg c229_22]; done) | rfl) (lv_sub hl [0, 1, 2, 3, 4, 5, 6, 7, 8] rfl)
              · refine lv_iconst (v := 0) S.1 S.2.1 dX5_baseOf_232 (by decide) ?_
                refine lv_goto (tgt := 254) S.1 S.2.1 dX5_baseOf_233 (by decide) ?_
                exact j229_8 _ _ (by first | (rw [if_pos c229_22]; done) | (simp only [if_pos c229_22]; done) | rfl) (lv_sub hl [0, 1, 2, 3, 4, 5, 6, 7, 8] rfl)
          · refine lv_icmp_lt (tgt := 218) S.1 S.2.1 dX5_baseOf_203 (by decide) (fun c203_23 => ?_) (fun c203_23 => ?_)
            · refine lv_aload_n S.1 S.2.1 dX5_baseOf_218 rfl (lv_at hl 4 rfl) ?_
              refine mr_get S K N 10 (by decide) k3_156 (v := .ref (ad 20)) rfl dX5_baseOf_219 ?_
              refine lv_iload S.1 S.2.1 dX5_baseOf_222 (lv_at hl 3 rfl) ?_
              refine mr_iald S K N 10 (by decide) (by decide) rfl (v := (M 10 (12 * sk + el))) (vp_in_nI (show (12 * sk + el) < mlen 10 by show _ < 144; omega) (by decide)) (congrArg (M 10) (nI_clamp (show (12 * sk + el) < 2 ^ 31 by omega))) dX5_baseOf_224 ?_
              exact j203_5 _ _ (by first | (rw [if_pos c203_23]; done) | (simp only [if_pos c203_23]; done) | rfl) (lv_sub hl [0, 1, 2, 3, 4, 5, 6, 7] rfl)
            · refine lv_aload_n S.1 S.2.1 dX5_baseOf_206 rfl (lv_at hl 4 rfl) ?_
              refine mr_get S K N 10 (by decide) k3_156 (v := .ref (ad 20)) rfl dX5_baseOf_207 ?_
              refine lv_iload S.1 S.2.1 dX5_baseOf_210 (lv_at hl 3 rfl) ?_
              refine mr_iald S K N 10 (by decide) (by decide) rfl (v := (M 10 (12 * sk + el))) (vp_in_nI (show (12 * sk + el) < mlen 10 by show _ < 144; omega) (by decide)) (congrArg (M 10) (nI_clamp (show (12 * sk + el) < 2 ^ 31 by omega))) dX5_baseOf_212 ?_
              refine lv_iconst (v := 1) S.1 S.2.1 dX5_baseOf_213 (by decide) ?_
              refine lv_isub S.1 S.2.1 dX5_baseOf_214 ?_
              refine lv_goto (tgt := 225) S.1 S.2.1 dX5_baseOf_215 (by decide) ?_
              exact j203_5 _ _ (by first | (rw [if_neg c203_23]; done) | (simp only [if_neg c203_23]; done) | rfl) (lv_sub hl [0, 1, 2, 3, 4, 5, 6, 7] rfl)
        · refine lv_iconst (v := 0) S.1 S.2.1 dX5_baseOf_190 (by decide) ?_
          exact ee_rI S hr hlk (by unfold f_X5_baseOf; first | (rw [if_neg c145_1, if_neg c180_2, if_neg c187_3]; done) | (simp only [if_neg c145_1, if_neg c180_2, if_neg c187_3]; done) | rfl) dX5_baseOf_191
    · refine lv_iload S.1 S.2.1 dX5_baseOf_148 (lv_at hl 2 rfl) ?_
      refine lv_iconst (v := 3) S.1 S.2.1 dX5_baseOf_150 (by decide) ?_
      refine lv_icmp_lt (tgt := 158) S.1 S.2.1 dX5_baseOf_151 (by decide) (fun c151_24 => ?_) (fun c151_24 => ?_)
      · refine lv_aload_n S.1 S.2.1 dX5_baseOf_158 rfl (lv_at hl 4 rfl) ?_
        refine mr_get S K N 18 (by decide) k3_164 (v := .ref (ad 28)) rfl dX5_baseOf_159 ?_
        refine lv_iload_n S.1 S.2.1 dX5_baseOf_162 rfl (lv_at hl 7 rfl) ?_
        refine lv_bipush (v := 6) S.1 S.2.1 dX5_baseOf_163 (by decide) ?_
        refine lv_aload_n S.1 S.2.1 dX5_baseOf_165 rfl (lv_at hl 4 rfl) ?_
        refine mr_get S K N 10 (by decide) k3_156 (v := .ref (ad 20)) rfl dX5_baseOf_166 ?_
        refine lv_iload S.1 S.2.1 dX5_baseOf_169 (lv_at hl 3 rfl) ?_
        refine mr_iald S K N 10 (by decide) (by decide) rfl (v := (M 10 (12 * sk + el))) (vp_in_nI (show (12 * sk + el) < mlen 10 by show _ < 144; omega) (by decide)) (congrArg (M 10) (nI_clamp (show (12 * sk + el) < 2 ^ 31 by omega))) dX5_baseOf_171 ?_
        refine nc_rS S K hS (As := [.int (nI ed), .int 6, .int (M 10 (12 * sk + el))]) (m_X5_valueAt l (nI ed) 6 (M 10 (12 * sk + el))) k4_50 k4_51 k1_3 k4_52 (num := 3) (by decide +kernel) rfl ⟨Nat.le_of_ble_eq_true rfl, Nat.le_of_ble_eq_true rfl⟩ hl.1 rfl (Nat.le_of_ble_eq_true rfl) dX5_baseOf_172 ⟨Nat.le_of_ble_eq_true rfl, Nat.le_of_ble_eq_true rfl⟩ ?_
        refine mr_iald S K N 18 (by decide) (by decide) rfl (v := (M 18 (f_X5_valueAt (nI ed) 6 (M 10 (12 * sk + el))).toNatClampNeg)) (hv.1 c145_1) (rfl) dX5_baseOf_175 ?_
        exact ee_rI S hr hlk (by unfold f_X5_baseOf; first | (rw [if_pos c145_1, if_pos c151_24]; done) | (simp only [if_pos c145_1, if_pos c151_24]; done) | rfl) dX5_baseOf_176
      · refine lv_iconst (v := 0) S.1 S.2.1 dX5_baseOf_154 (by decide) ?_
        refine lv_goto (tgt := 176) S.1 S.2.1 dX5_baseOf_155 (by decide) ?_
        exact ee_rI S hr hlk (by unfold f_X5_baseOf; first | (rw [if_pos c145_1, if_neg c151_24]; done) | (simp only [if_pos c145_1, if_neg c151_24]; done) | rfl) dX5_baseOf_176
  · try dsimp only at hl
    refine lv_iload S.1 S.2.1 dX5_baseOf_16 (lv_at hl 0 rfl) ?_
    refine lv_iload_n S.1 S.2.1 dX5_baseOf_18 rfl (lv_at hl 6 rfl) ?_
    refine lv_icmp_ge (tgt := 136) S.1 S.2.1 dX5_baseOf_19 (by decide) (fun c9 => absurd c9 (nI_ge (hi16) (by first | omega | decide))) (fun _ => ?_)
    refine lv_iload_n S.1 S.2.1 dX5_baseOf_22 rfl (lv_at hl 5 rfl) ?_
    refine lv_iload S.1 S.2.1 dX5_baseOf_23 (lv_at hl 0 rfl) ?_
    refine nc_rS S K hS (As := [.int (nI sk), .int (nI i16)]) (m_X5_at l sk i16) k4_15 k4_16 k1_3 k4_17 (num := 2) (by decide +kernel) rfl ⟨Nat.le_of_ble_eq_true rfl, Nat.le_of_ble_eq_true rfl⟩ hl.1 rfl (Nat.le_of_ble_eq_true rfl) dX5_baseOf_25 ⟨Nat.le_of_ble_eq_true rfl, Nat.le_of_ble_eq_true rfl⟩ ?_
    refine nt_i (y := nI (12 * sk + i16)) (rfl) ?_
    refine lv_istore (lv' := [(8, .int (nI (12 * sk + i16))), (7, .int (nI i16)), (5, .int ((it16_X5_baseOf M sk el ed i16).1)), (6, .int ((it16_X5_baseOf M sk el ed i16).2)), (4, .int (nI (12 * sk + el))), (0, .ref (ad 5)), (1, .int (nI sk)), (2, .int (nI el)), (3, .int (nI ed))]) S.1 S.2.1 dX5_baseOf_28 hl (by decide) rfl (fun ls hl => ?_)
    refine lv_aload_n S.1 S.2.1 dX5_baseOf_30 rfl (lv_at hl 5 rfl) ?_
    refine mr_get S K N 9 (by decide) k3_155 (v := .ref (ad 19)) rfl dX5_baseOf_31 ?_
    refine lv_iload S.1 S.2.1 dX5_baseOf_34 (lv_at hl 0 rfl) ?_
    refine mr_iald S K N 9 (by decide) (by decide) rfl (v := (M 9 (12 * sk + i16))) (vp_in_nI (show (12 * sk + i16) < mlen 9 by show _ < 144; omega) (by decide)) (congrArg (M 9) (nI_clamp (show (12 * sk + i16) < 2 ^ 31 by omega))) dX5_baseOf_36 ?_
    refine lv_bipush (v := 6) S.1 S.2.1 dX5_baseOf_37 (by decide) ?_
    refine nj (J := 47) (V := ((if (M 9 (12 * sk + i16)) = 6 then 1 else 0) : Int32)) (L := fun v39_25 => [(8, .int (nI (12 * sk + i16))), (7, .int (nI i16)), (5, .int ((it16_X5_baseOf M sk el ed i16).1)), (6, .int ((it16_X5_baseOf M sk el ed i16).2)), (4, .int (nI (12 * sk + el))), (0, .ref (ad 5)), (1, .int (nI sk)), (2, .int (nI el)), (3, .int (nI ed))]) (St := fun v39_25 => [.int v39_25]) (n := 10) (fun v39_25 ls h39_27 hl => ?_) (fun j39_26 => ?_)
    · try dsimp only at hl ⊢
      subst h39_27
      refine lv_istore (lv' := [(9, .int ((if (M 9 (12 * sk + i16)) = 6 then 1 else 0) : Int32)), (8, .int (nI (12 * sk + i16))), (7, .int (nI i16)), (5, .int ((it16_X5_baseOf M sk el ed i16).1)), (6, .int ((it16_X5_baseOf M sk el ed i16).2)), (4, .int (nI (12 * sk + el))), (0, .ref (ad 5)), (1, .int (nI sk)), (2, .int (nI el)), (3, .int (nI ed))]) S.1 S.2.1 dX5_baseOf_47 hl (by decide) rfl (fun ls hl => ?_)
      refine lv_iload S.1 S.2.1 dX5_baseOf_49 (lv_at hl 4 rfl) ?_
      refine lv_iload S.1 S.2.1 dX5_baseOf_51 (lv_at hl 0 rfl) ?_
      refine lv_aload_n S.1 S.2.1 dX5_baseOf_53 rfl (lv_at hl 6 rfl) ?_
      refine mr_get S K N 9 (by decide) k3_155 (v := .ref (ad 19)) rfl dX5_baseOf_54 ?_
      refine lv_iload S.1 S.2.1 dX5_baseOf_57 (lv_at hl 5 rfl) ?_
      refine mr_iald S K N 9 (by decide) (by decide) rfl (v := (M 9 (12 * sk + el))) (vp_in_nI (show (12 * sk + el) < mlen 9 by show _ < 144; omega) (by decide)) (congrArg (M 9) (nI_clamp (show (12 * sk + el) < 2 ^ 31 by omega))) dX5_baseOf_59 ?_
      refine lv_bipush (v := 6) S.1 S.2.1 dX5_baseOf_60 (by decide) ?_
      refine nj (J := 70) (V := ((if (M 9 (12 * sk + el)) = 6 then 1 else 0) : Int32)) (L := fun v62_28 => [(9, .int ((if (M 9 (12 * sk + i16)) = 6 then 1 else 0) : Int32)), (8, .int (nI (12 * sk + i16))), (7, .int (nI i16)), (5, .int ((it16_X5_baseOf M sk el ed i16).1)), (6, .int ((it16_X5_baseOf M sk el ed i16).2)), (4, .int (nI (12 * sk + el))), (0, .ref (ad 5)), (1, .int (nI sk)), (2, .int (nI el)), (3, .int (nI ed))]) (St := fun v62_28 => [.int v62_28, .int ((if (M 9 (12 * sk + i16)) = 6 then 1 else 0) : Int32), .int ((it16_X5_baseOf M sk el ed i16).2)]) (n := 10) (fun v62_28 ls h62_30 hl => ?_) (fun j62_29 => ?_)
      · try dsimp only at hl ⊢
        subst h62_30
        refine nj (J := 78) (V := ((if ((if (M 9 (12 * sk + i16)) = 6 then 1 else 0) : Int32) = ((if (M 9 (12 * sk + el)) = 6 then 1 else 0) : Int32) then 1 else 0) : Int32)) (L := fun v70_31 => [(9, .int ((if (M 9 (12 * sk + i16)) = 6 then 1 else 0) : Int32)), (8, .int (nI (12 * sk + i16))), (7, .int (nI i16)), (5, .int ((it16_X5_baseOf M sk el ed i16).1)), (6, .int ((it16_X5_baseOf M sk el ed i16).2)), (4, .int (nI (12 * sk + el))), (0, .ref (ad 5)), (1, .int (nI sk)), (2, .int (nI el)), (3, .int (nI ed))]) (St := fun v70_31 => [.int v70_31, .int ((it16_X5_baseOf M sk el ed i16).2)]) (n := 10) (fun v70_31 ls h70_33 hl => ?_) (fun j70_32 => ?_)
        · try dsimp only at hl ⊢
          subst h70_33
          refine lv_iadd S.1 S.2.1 dX5_baseOf_78 ?_
          refine lv_istore (lv' := [(6, .int ((it16_X5_baseOf M sk el ed i16).2 + ((if ((if (M 9 (12 * sk + i16)) = 6 then 1 else 0) : Int32) = ((if (M 9 (12 * sk + el)) = 6 then 1 else 0) : Int32) then 1 else 0) : Int32))), (9, .int ((if (M 9 (12 * sk + i16)) = 6 then 1 else 0) : Int32)), (8, .int (nI (12 * sk + i16))), (7, .int (nI i16)), (5, .int ((it16_X5_baseOf M sk el ed i16).1)), (4, .int (nI (12 * sk + el))), (0, .ref (ad 5)), (1, .int (nI sk)), (2, .int (nI el)), (3, .int (nI ed))]) S.1 S.2.1 dX5_baseOf_79 hl (by decide) rfl (fun ls hl => ?_)
          refine lv_iload S.1 S.2.1 dX5_baseOf_81 (lv_at hl 4 rfl) ?_
          refine lv_iload S.1 S.2.1 dX5_baseOf_83 (lv_at hl 1 rfl) ?_
          refine nj (J := 127) (V := ((if ((if (M 9 (12 * sk + i16)) = 6 then 1 else 0) : Int32) = 0 then ((if (M 9 (12 * sk + i16)) = (M 9 (12 * sk + el)) then ((if (M 10 (12 * sk + i16)) = (M 10 (12 * sk + el)) then 1 else 0) : Int32) else 0) : Int32) else 0) : Int32)) (L := fun v85_34 => [(6, .int ((it16_X5_baseOf M sk el ed i16).2 + ((if ((if (M 9 (12 * sk + i16)) = 6 then 1 else 0) : Int32) = ((if (M 9 (12 * sk + el)) = 6 then 1 else 0) : Int32) then 1 else 0) : Int32))), (9, .int ((if (M 9 (12 * sk + i16)) = 6 then 1 else 0) : Int32)), (8, .int (nI (12 * sk + i16))), (7, .int (nI i16)), (5, .int ((it16_X5_baseOf M sk el ed i16).1)), (4, .int (nI (12 * sk + el))), (0, .ref (ad 5)), (1, .int (nI sk)), (2, .int (nI el)), (3, .int (nI ed))]) (St := fun v85_34 => [.int v85_34, .int ((it16_X5_baseOf M sk el ed i16).1)]) (n := 10) (fun v85_34 ls h85_36 hl => ?_) (fun j85_35 => ?_)
          · try dsimp only at hl ⊢
            subst h85_36
            refine lv_iadd S.1 S.2.1 dX5_baseOf_127 ?_
            refine lv_istore (lv' := [(5, .int ((it16_X5_baseOf M sk el ed i16).1 + ((if ((if (M 9 (12 * sk + i16)) = 6 then 1 else 0) : Int32) = 0 then ((if (M 9 (12 * sk + i16)) = (M 9 (12 * sk + el)) then ((if (M 10 (12 * sk + i16)) = (M 10 (12 * sk + el)) then 1 else 0) : Int32) else 0) : Int32) else 0) : Int32))), (6, .int ((it16_X5_baseOf M sk el ed i16).2 + ((if ((if (M 9 (12 * sk + i16)) = 6 then 1 else 0) : Int32) = ((if (M 9 (12 * sk + el)) = 6 then 1 else 0) : Int32) then 1 else 0) : Int32))), (9, .int ((if (M 9 (12 * sk + i16)) = 6 then 1 else 0) : Int32)), (8, .int (nI (12 * sk + i16))), (7, .int (nI i16)), (4, .int (nI (12 * sk + el))), (0, .ref (ad 5)), (1, .int (nI sk)), (2, .int (nI el)), (3, .int (nI ed))]) S.1 S.2.1 dX5_baseOf_128 hl (by decide) rfl (fun ls hl => ?_)
            refine lv_iinc (v := nI (i16 + 1)) (lv' := [(7, .int (nI (i16 + 1))), (5, .int ((it16_X5_baseOf M sk el ed i16).1 + ((if ((if (M 9 (12 * sk + i16)) = 6 then 1 else 0) : Int32) = 0 then ((if (M 9 (12 * sk + i16)) = (M 9 (12 * sk + el)) then ((if (M 10 (12 * sk + i16)) = (M 10 (12 * sk + el)) then 1 else 0) : Int32) else 0) : Int32) else 0) : Int32))), (6, .int ((it16_X5_baseOf M sk el ed i16).2 + ((if ((if (M 9 (12 * sk + i16)) = 6 then 1 else 0) : Int32) = ((if (M 9 (12 * sk + el)) = 6 then 1 else 0) : Int32) then 1 else 0) : Int32))), (9, .int ((if (M 9 (12 * sk + i16)) = 6 then 1 else 0) : Int32)), (8, .int (nI (12 * sk + i16))), (4, .int (nI (12 * sk + el))), (0, .ref (ad 5)), (1, .int (nI sk)), (2, .int (nI el)), (3, .int (nI ed))]) S.1 S.2.1 dX5_baseOf_130 hl (k := 4) rfl (nI_add i16 1) (by decide) rfl (fun ls hl => ?_)
            refine lv_goto (tgt := 16) S.1 S.2.1 dX5_baseOf_133 (by decide) ?_
            exact ih16 ls (lv_sub hl [0, 1, 2, 5, 6, 7, 8, 9] rfl)
          · refine lv_if_ne (tgt := 126) S.1 S.2.1 dX5_baseOf_85 (by decide) (fun c85_37 => ?_) (fun c85_37 => ?_)
            · refine lv_iconst (v := 0) S.1 S.2.1 dX5_baseOf_126 (by decide) ?_
              exact j85_35 _ _ (by first | (rw [if_neg c85_37]; done) | (simp only [if_neg c85_37]; done) | rfl) (lv_sub hl [0, 1, 2, 3, 4, 5, 6, 7, 8, 9] rfl)
            · refine lv_aload_n S.1 S.2.1 dX5_baseOf_88 rfl (lv_at hl 6 rfl) ?_
              refine mr_get S K N 9 (by decide) k3_155 (v := .ref (ad 19)) rfl dX5_baseOf_89 ?_
              refine lv_iload S.1 S.2.1 dX5_baseOf_92 (lv_at hl 2 rfl) ?_
              refine mr_iald S K N 9 (by decide) (by decide) rfl (v := (M 9 (12 * sk + i16))) (vp_in_nI (show (12 * sk + i16) < mlen 9 by show _ < 144; omega) (by decide)) (congrArg (M 9) (nI_clamp (show (12 * sk + i16) < 2 ^ 31 by omega))) dX5_baseOf_94 ?_
              refine lv_aload_n S.1 S.2.1 dX5_baseOf_95 rfl (lv_at hl 6 rfl) ?_
              refine mr_get S K N 9 (by decide) k3_155 (v := .ref (ad 19)) rfl dX5_baseOf_96 ?_
              refine lv_iload S.1 S.2.1 dX5_baseOf_99 (lv_at hl 5 rfl) ?_
              refine mr_iald S K N 9 (by decide) (by decide) rfl (v := (M 9 (12 * sk + el))) (vp_in_nI (show (12 * sk + el) < mlen 9 by show _ < 144; omega) (by decide)) (congrArg (M 9) (nI_clamp (show (12 * sk + el) < 2 ^ 31 by omega))) dX5_baseOf_101 ?_
              refine lv_icmp_ne (tgt := 126) S.1 S.2.1 dX5_baseOf_102 (by decide) (fun c102_38 => ?_) (fun c102_38 => ?_)
              · refine lv_iconst (v := 0) S.1 S.2.1 dX5_baseOf_126 (by decide) ?_
                exact j85_35 _ _ (by first | (rw [if_pos c85_37, if_neg c102_38]; done) | (simp only [if_pos c85_37, if_neg c102_38]; done) | rfl) (lv_sub hl [0, 1, 2, 3, 4, 5, 6, 7, 8, 9] rfl)
              · refine lv_aload_n S.1 S.2.1 dX5_baseOf_105 rfl (lv_at hl 6 rfl) ?_
                refine mr_get S K N 10 (by decide) k3_156 (v := .ref (ad 20)) rfl dX5_baseOf_106 ?_
                refine lv_iload S.1 S.2.1 dX5_baseOf_109 (lv_at hl 2 rfl) ?_
                refine mr_iald S K N 10 (by decide) (by decide) rfl (v := (M 10 (12 * sk + i16))) (vp_in_nI (show (12 * sk + i16) < mlen 10 by show _ < 144; omega) (by decide)) (congrArg (M 10) (nI_clamp (show (12 * sk + i16) < 2 ^ 31 by omega))) dX5_baseOf_111 ?_
                refine lv_aload_n S.1 S.2.1 dX5_baseOf_112 rfl (lv_at hl 6 rfl) ?_
                refine mr_get S K N 10 (by decide) k3_156 (v := .ref (ad 20)) rfl dX5_baseOf_113 ?_
                refine lv_iload S.1 S.2.1 dX5_baseOf_116 (lv_at hl 5 rfl) ?_
                refine mr_iald S K N 10 (by decide) (by decide) rfl (v := (M 10 (12 * sk + el))) (vp_in_nI (show (12 * sk + el) < mlen 10 by show _ < 144; omega) (by decide)) (congrArg (M 10) (nI_clamp (show (12 * sk + el) < 2 ^ 31 by omega))) dX5_baseOf_118 ?_
                refine lv_icmp_ne (tgt := 126) S.1 S.2.1 dX5_baseOf_119 (by decide) (fun c119_39 => ?_) (fun c119_39 => ?_)
                · refine lv_iconst (v := 0) S.1 S.2.1 dX5_baseOf_126 (by decide) ?_
                  exact j85_35 _ _ (by first | (rw [if_pos c85_37, if_pos c102_38, if_neg c119_39]; done) | (simp only [if_pos c85_37, if_pos c102_38, if_neg c119_39]; done) | rfl) (lv_sub hl [0, 1, 2, 3, 4, 5, 6, 7, 8, 9] rfl)
                · refine lv_iconst (v := 1) S.1 S.2.1 dX5_baseOf_122 (by decide) ?_
                  refine lv_goto (tgt := 127) S.1 S.2.1 dX5_baseOf_123 (by decide) ?_
                  exact j85_35 _ _ (by first | (rw [if_pos c85_37, if_pos c102_38, if_pos c119_39]; done) | (simp only [if_pos c85_37, if_pos c102_38, if_pos c119_39]; done) | rfl) (lv_sub hl [0, 1, 2, 3, 4, 5, 6, 7, 8, 9] rfl)
        · refine lv_icmp_ne (tgt := 77) S.1 S.2.1 dX5_baseOf_70 (by decide) (fun c70_40 => ?_) (fun c70_40 => ?_)
          · refine lv_iconst (v := 0) S.1 S.2.1 dX5_baseOf_77 (by decide) ?_
            exact j70_32 _ _ (by first | (rw [if_neg c70_40]; done) | (simp only [if_neg c70_40]; done) | rfl) (lv_sub hl [0, 1, 2, 3, 4, 5, 6, 7, 8, 9] rfl)
          · refine lv_iconst (v := 1) S.1 S.2.1 dX5_baseOf_73 (by decide) ?_
            refine lv_goto (tgt := 78) S.1 S.2.1 dX5_baseOf_74 (by decide) ?_
            exact j70_32 _ _ (by first | (rw [if_pos c70_40]; done) | (simp only [if_pos c70_40]; done) | rfl) (lv_sub hl [0, 1, 2, 3, 4, 5, 6, 7, 8, 9] rfl)
      · refine lv_icmp_ne (tgt := 69) S.1 S.2.1 dX5_baseOf_62 (by decide) (fun c62_41 => ?_) (fun c62_41 => ?_)
        · refine lv_iconst (v := 0) S.1 S.2.1 dX5_baseOf_69 (by decide) ?_
          exact j62_29 _ _ (by first | (rw [if_neg c62_41]; done) | (simp only [if_neg c62_41]; done) | rfl) (lv_sub hl [0, 1, 2, 3, 4, 5, 6, 7, 8, 9] rfl)
        · refine lv_iconst (v := 1) S.1 S.2.1 dX5_baseOf_65 (by decide) ?_
          refine lv_goto (tgt := 70) S.1 S.2.1 dX5_baseOf_66 (by decide) ?_
          exact j62_29 _ _ (by first | (rw [if_pos c62_41]; done) | (simp only [if_pos c62_41]; done) | rfl) (lv_sub hl [0, 1, 2, 3, 4, 5, 6, 7, 8, 9] rfl)
    · refine lv_icmp_ne (tgt := 46) S.1 S.2.1 dX5_baseOf_39 (by decide) (fun c39_42 => ?_) (fun c39_42 => ?_)
      · refine lv_iconst (v := 0) S.1 S.2.1 dX5_baseOf_46 (by decide) ?_
        exact j39_26 _ _ (by first | (rw [if_neg c39_42]; done) | (simp only [if_neg c39_42]; done) | rfl) (lv_sub hl [0, 1, 2, 3, 4, 5, 6, 7, 8] rfl)
      · refine lv_iconst (v := 1) S.1 S.2.1 dX5_baseOf_42 (by decide) ?_
        refine lv_goto (tgt := 47) S.1 S.2.1 dX5_baseOf_43 (by decide) ?_
        exact j39_26 _ _ (by first | (rw [if_pos c39_42]; done) | (simp only [if_pos c39_42]; done) | rfl) (lv_sub hl [0, 1, 2, 3, 4, 5, 6, 7, 8] rfl)

theorem cg_X5_baseOf {M M1 : Nat → Nat → Int32} (h : sr M M1) {sk el ed : Nat} : f_X5_baseOf M1 sk el ed = f_X5_baseOf M sk el ed := by
  have e9 : M1 9 = M 9 := sr_e h 8
  have e10 : M1 10 = M 10 := sr_e h 9
  have e13 : M1 13 = M 13 := sr_e h 12
  have e14 : M1 14 = M 14 := sr_e h 13
  have e18 : M1 18 = M 18 := sr_e h 17
  have k : ∀ i, it16_X5_baseOf M1 sk el ed i = it16_X5_baseOf M sk el ed i := by
    intro i
    induction i with
    | zero => rfl
    | succ i ih => simp only [it16_X5_baseOf, ih, e9, e10]
  simp only [f_X5_baseOf, k, e9, e10, e13, e14, e18, cg_X5_quartersOf h]
