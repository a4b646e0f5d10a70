def g_X5_clears (M : Nat → Nat → Int32) : Nat → Nat → Int32 :=
  (up2 (up2 (up2 (up2 M 0 19 0) 0 20 0) 0 21 99) 0 22 (-99))
set_option maxHeartbeats 4000000 in
set_option maxRecDepth 100000 in
theorem m_X5_clears {D : va_G} {cA : Nat → ClassId} {B : Nat} (l : Launch) {dom : Nat → Prop} {ad : Nat → Nat} {X : Nat → va_E} {H0 : Heap} (M : Nat → Nat → Int32) (N : mw D cA B dom ad X M H0) : MetW D cA B l yX5_clears cX5_clears 1 none 0 0 0 0 [.ref (ad 5)] H0 (fun o h => o = none ∧ mw D cA B dom ad X (g_X5_clears M) h) := by
  refine MetW.of (by decide) (Nat.le_of_ble_eq_true rfl) ?_
  intro p e s m args below meth c S hr hlk hin hh K ls hl
  subst hh
  have hS : va_S (fun q => B ≤ q) s.heap s.heap [] := va_S.rf
  have hl : lv_has ls 1 [(0, .ref (ad 5))] := hl
  refine lv_aload_n S.1 S.2.1 dX5_clears_0 rfl (lv_at hl 0 rfl) ?_
  refine lv_iconst (v := 0) S.1 S.2.1 dX5_clears_1 (by decide) ?_
  refine mr_put S K N hS 19 (by decide) (by unfold mscal; omega) k3_165 rfl rfl dX5_clears_2 (fun H locs N hS => ?_)
  refine lv_aload_n S.1 S.2.1 dX5_clears_5 rfl (lv_at hl 0 rfl) ?_
  refine lv_iconst (v := 0) S.1 S.2.1 dX5_clears_6 (by decide) ?_
  refine mr_put S K N hS 20 (by decide) (by unfold mscal; omega) k3_166 rfl rfl dX5_clears_7 (fun H locs N hS => ?_)
  refine lv_aload_n S.1 S.2.1 dX5_clears_10 rfl (lv_at hl 0 rfl) ?_
  refine lv_bipush (v := 99) S.1 S.2.1 dX5_clears_11 (by decide) ?_
  refine mr_put S K N hS 21 (by decide) (by unfold mscal; omega) k3_167 rfl rfl dX5_clears_13 (fun H locs N hS => ?_)
  refine lv_aload_n S.1 S.2.1 dX5_clears_16 rfl (lv_at hl 0 rfl) ?_
  refine lv_bipush (v := (-99)) S.1 S.2.1 dX5_clears_17 (by decide) ?_
  refine mr_put S K N hS 22 (by decide) (by unfold mscal; omega) k3_168 rfl rfl dX5_clears_19 (fun H locs N hS => ?_)
  exact ne_wV S hS hr hlk ⟨rfl, N⟩ dX5_clears_22

def g_X5_counts (M : Nat → Nat → Int32) (t : Int32) : Nat → Nat → Int32 :=
  if t = (-99) then M
  else (up2 (up2 (up2 (up2 M 0 19 ((M 0 19) + 1)) 0 20 ((M 0 20) + t)) 0 21 ((if (M 0 21) ≤ t then (M 0 21) else t) : Int32)) 0 22 ((if t ≤ (M 0 22) then (M 0 22) else t) : Int32))
set_option maxHeartbeats 4000000 in
set_option maxRecDepth 100000 in
theorem m_X5_counts {D : va_G} {cA : Nat → ClassId} {B : Nat} (l : Launch) {dom : Nat → Prop} {ad : Nat → Nat} {X : Nat → va_E} {H0 : Heap} (M : Nat → Nat → Int32) (t : Int32) (N : mw D cA B dom ad X M H0) : MetW D cA B l yX5_counts cX5_counts 2 none 0 0 0 0 [.ref (ad 5), .int t] H0 (fun o h => o = none ∧ mw D cA B dom ad X (g_X5_counts M t) h) := by
  refine MetW.of (by decide) (Nat.le_of_ble_eq_true rfl) ?_
  intro p e s m args below meth c S hr hlk hin hh K ls hl
  subst hh
  have hS : va_S (fun q => B ≤ q) s.heap s.heap [] := va_S.rf
  have hl : lv_has ls 2 [(0, .ref (ad 5)), (1, .int t)] := hl
  refine lv_iload_n S.1 S.2.1 dX5_counts_0 rfl (lv_at hl 1 rfl) ?_
  refine lv_bipush (v := (-99)) S.1 S.2.1 dX5_counts_1 (by decide) ?_
  refine lv_icmp_eq (tgt := 66) S.1 S.2.1 dX5_counts_3 (by decide) (fun c3_1 => ?_) (fun c3_1 => ?_)
  · exact ne_wV S hS hr hlk ⟨rfl, (by unfold g_X5_counts; first | (rw [if_pos c3_1]; exact N) | (simp only [if_pos c3_1]; exact N) | exact N)⟩ dX5_counts_66
  · refine lv_aload_n S.1 S.2.1 dX5_counts_6 rfl (lv_at hl 0 rfl) ?_
    refine lv_dup S.1 S.2.1 dX5_counts_7 rfl ?_
    refine mr_get S K N 19 (by decide) k3_165 (v := .int (M 0 19)) rfl dX5_counts_8 ?_
    refine lv_iconst (v := 1) S.1 S.2.1 dX5_counts_11 (by decide) ?_
    refine lv_iadd S.1 S.2.1 dX5_counts_12 ?_
    refine mr_put S K N hS 19 (by decide) (by unfold mscal; omega) k3_165 rfl rfl dX5_counts_13 (fun H locs N hS => ?_)
    refine lv_aload_n S.1 S.2.1 dX5_counts_16 rfl (lv_at hl 0 rfl) ?_
    refine lv_dup S.1 S.2.1 dX5_counts_17 rfl ?_
    refine mr_get S K N 20 (by decide) k3_166 (v := .int (M 0 20)) rfl dX5_counts_18 ?_
    refine lv_iload_n S.1 S.2.1 dX5_counts_21 rfl (lv_at hl 1 rfl) ?_
    refine lv_iadd S.1 S.2.1 dX5_counts_22 ?_
    refine mr_put S K N hS 20 (by decide) (by unfold mscal; omega) k3_166 rfl rfl dX5_counts_23 (fun H locs N hS => ?_)
    refine lv_aload_n S.1 S.2.1 dX5_counts_26 rfl (lv_at hl 0 rfl) ?_
    refine lv_iload_n S.1 S.2.1 dX5_counts_27 rfl (lv_at hl 1 rfl) ?_
    refine lv_aload_n S.1 S.2.1 dX5_counts_28 rfl (lv_at hl 0 rfl) ?_
    refine mr_get S K N 21 (by decide) k3_167 (v := .int (M 0 21)) rfl dX5_counts_29 ?_
    refine nj (J := 43) (V := ((if (M 0 21) ≤ t then (M 0 21) else t) : Int32)) (L := fun v32_2 => [(0, .ref (ad 5)), (1, .int t)]) (St := fun v32_2 => [.int v32_2, .ref (ad 5)]) (n := 2) (fun v32_2 ls h32_4 hl => ?_) (fun j32_3 => ?_)
    · try dsimp only at hl ⊢
      subst h32_4
      refine mr_put S K N hS 21 (by decide) (by unfold mscal; omega) k3_167 rfl rfl dX5_counts_43 (fun H locs N hS => ?_)
      refine lv_aload_n S.1 S.2.1 dX5_counts_46 rfl (lv_at hl 0 rfl) ?_
      refine lv_iload_n S.1 S.2.1 dX5_counts_47 rfl (lv_at hl 1 rfl) ?_
      refine lv_aload_n S.1 S.2.1 dX5_counts_48 rfl (lv_at hl 0 rfl) ?_
      refine mr_get S K N 22 (by decide) k3_168 (v := .int (M 0 22)) rfl dX5_counts_49 ?_
      refine nj (J := 63) (V := ((if t ≤ (M 0 22) then (M 0 22) else t) : Int32)) (L := fun v52_5 => [(0, .ref (ad 5)), (1, .int t)]) (St := fun v52_5 => [.int v52_5, .ref (ad 5)]) (n := 2) (fun v52_5 ls h52_7 hl => ?_) (fun j52_6 => ?_)
      · try dsimp only at hl ⊢
        subst h52_7
        refine mr_put S K N hS 22 (by decide) (by unfold mscal; omega) k3_168 rfl rfl dX5_counts_63 (fun H locs N hS => ?_)
        exact ne_wV S hS hr hlk ⟨rfl, (by unfold g_X5_counts; first | (rw [if_neg c3_1]; exact N) | (simp only [if_neg c3_1]; exact N) | exact N)⟩ dX5_counts_66
      · refine lv_icmp_le (tgt := 59) S.1 S.2.1 dX5_counts_52 (by decide) (fun c52_8 => ?_) (fun c52_8 => ?_)
        · refine lv_aload_n S.1 S.2.1 dX5_counts_59 rfl (lv_at hl 0 rfl) ?_
          refine mr_get S K N 22 (by decide) k3_168 (v := .int (M 0 22)) rfl dX5_counts_60 ?_
          exact j52_6 _ _ (by first | (rw [if_pos c52_8]; done) | (simp only [if_pos c52_8]; done) | rfl) (lv_sub hl [0, 1] rfl)
        · refine lv_iload_n S.1 S.2.1 dX5_counts_55 rfl (lv_at hl 1 rfl) ?_
          refine lv_goto (tgt := 63) S.1 S.2.1 dX5_counts_56 (by decide) ?_
          exact j52_6 _ _ (by first | (rw [if_neg c52_8]; done) | (simp only [if_neg c52_8]; done) | rfl) (lv_sub hl [0, 1] rfl)
    · refine lv_icmp_ge (tgt := 39) S.1 S.2.1 dX5_counts_32 (by decide) (fun c32_9 => ?_) (fun c32_9 => ?_)
      · refine lv_aload_n S.1 S.2.1 dX5_counts_39 rfl (lv_at hl 0 rfl) ?_
        refine mr_get S K N 21 (by decide) k3_167 (v := .int (M 0 21)) rfl dX5_counts_40 ?_
        exact j32_3 _ _ (by first | (rw [if_pos c32_9]; done) | (simp only [if_pos c32_9]; done) | rfl) (lv_sub hl [0, 1] rfl)
      · refine lv_iload_n S.1 S.2.1 dX5_counts_35 rfl (lv_at hl 1 rfl) ?_
        refine lv_goto (tgt := 43) S.1 S.2.1 dX5_counts_36 (by decide) ?_
        exact j32_3 _ _ (by first | (rw [if_neg c32_9]; done) | (simp only [if_neg c32_9]; done) | rfl) (lv_sub hl [0, 1] rfl)

theorem sub2_nz {x : Int32} (h : 3 ≤ x) : ¬ (x - 2 : Int32) = 0 := by
  intro q
  have h2 : x = 2 := by
    have := congrArg (· + 2) q
    simpa using this
  subst h2
  exact absurd h (by decide)
theorem nz_i2d {x : Int32} (h : ¬ x = 0) : ¬ FP.Core.DZero (FP.i2d x) := by
  rw [FP.Core.zero_bits2]
  exact FP.Core.i2d_ne_zero h

def f_X5_trimmed (M : Nat → Nat → Int32) : UInt64 :=
  if 3 ≤ (M 0 19) then (FP.ddiv (FP.i2d (((M 0 20) - (M 0 21)) - (M 0 22))) (FP.i2d ((M 0 19) - 2)))
  else FP.dconst0
set_option maxHeartbeats 4000000 in
set_option maxRecDepth 100000 in
theorem m_X5_trimmed {D : va_G} {cA : Nat → ClassId} {B : Nat} (l : Launch) {dom : Nat → Prop} {ad : Nat → Nat} {X : Nat → va_E} {H0 : Heap} (M : Nat → Nat → Int32) (N : mw D cA B dom ad X M H0) : MetR D cA B l yX5_trimmed cX5_trimmed 1 (some .double) 0 0 [.ref (ad 5)] H0 (some (.double (f_X5_trimmed M))) := by
  refine MetR.of (by decide) (Nat.le_of_ble_eq_true rfl) ?_
  intro p e s m args below meth c S hr hlk hh K ls hl
  subst hh
  have hS : va_S (fun q => B ≤ q) s.heap s.heap [] := va_S.rf
  have hl : lv_has ls 1 [(0, .ref (ad 5))] := hl
  refine lv_aload_n S.1 S.2.1 dX5_trimmed_0 rfl (lv_at hl 0 rfl) ?_
  refine mr_get S K N 19 (by decide) k3_165 (v := .int (M 0 19)) rfl dX5_trimmed_1 ?_
  refine lv_iconst (v := 3) S.1 S.2.1 dX5_trimmed_4 (by decide) ?_
  refine lv_icmp_ge (tgt := 12) S.1 S.2.1 dX5_trimmed_5 (by decide) (fun c5_1 => ?_) (fun c5_1 => ?_)
  · refine lv_aload_n S.1 S.2.1 dX5_trimmed_12 rfl (lv_at hl 0 rfl) ?_
    refine mr_get S K N 20 (by decide) k3_166 (v := .int (M 0 20)) rfl dX5_trimmed_13 ?_
    refine lv_aload_n S.1 S.2.1 dX5_trimmed_16 rfl (lv_at hl 0 rfl) ?_
    refine mr_get S K N 21 (by decide) k3_167 (v := .int (M 0 21)) rfl dX5_trimmed_17 ?_
    refine lv_isub S.1 S.2.1 dX5_trimmed_20 ?_
    refine lv_aload_n S.1 S.2.1 dX5_trimmed_21 rfl (lv_at hl 0 rfl) ?_
    refine mr_get S K N 22 (by decide) k3_168 (v := .int (M 0 22)) rfl dX5_trimmed_22 ?_
    refine lv_isub S.1 S.2.1 dX5_trimmed_25 ?_
    refine lv_i2d S.1 S.2.1 dX5_trimmed_26 ?_
    refine lv_aload_n S.1 S.2.1 dX5_trimmed_27 rfl (lv_at hl 0 rfl) ?_
    refine mr_get S K N 19 (by decide) k3_165 (v := .int (M 0 19)) rfl dX5_trimmed_28 ?_
    refine lv_iconst (v := 2) S.1 S.2.1 dX5_trimmed_31 (by decide) ?_
    refine lv_isub S.1 S.2.1 dX5_trimmed_32 ?_
    refine lv_i2d S.1 S.2.1 dX5_trimmed_33 ?_
    refine lv_ddiv S.1 S.2.1 dX5_trimmed_34 (vn_of (FP.Core.ddiv_out (FP.Core.DFin.notNaN (FP.Core.i2d_fin _)) (FP.Core.i2d_fin _) (nz_i2d (sub2_nz (by assumption))))) ?_
    exact ee_rD S hr hlk (by unfold f_X5_trimmed; first | (rw [if_pos c5_1]; done) | (simp only [if_pos c5_1]; done) | rfl) dX5_trimmed_35
  · refine lv_dconst0 S.1 S.2.1 dX5_trimmed_8 ?_
    refine lv_goto (tgt := 35) S.1 S.2.1 dX5_trimmed_9 (by decide) ?_
    exact ee_rD S hr hlk (by unfold f_X5_trimmed; first | (rw [if_neg c5_1]; done) | (simp only [if_neg c5_1]; done) | rfl) dX5_trimmed_35

theorem mag_div {a b : Int32} (h : ¬ b = 0) : (FP.ddiv (FP.i2d a) (FP.i2d b)).toNat % 2 ^ 63 < 1057 * 2 ^ 52 := by
  have hb := FP.Core.i2d_big (v := b) (fun q => h (Int32.toInt_inj.mp (q.trans rfl)))
  have := FP.Core.ddiv_mag (FP.Core.i2d_mag a) hb.1 hb.2 (by decide) (by decide)
  exact this
theorem mag_trimmed (M : Nat → Nat → Int32) : (f_X5_trimmed M).toNat % 2 ^ 63 < 1057 * 2 ^ 52 := by
  unfold f_X5_trimmed
  split
  · exact mag_div (sub2_nz (by assumption))
  · decide
theorem fin_trimmed (M : Nat → Nat → Int32) : FP.Core.DFin (f_X5_trimmed M) := FP.Core.fin_of_lt (mag_trimmed M) (by decide)

def it6_X5_meanOf (M : Nat → Nat → Int32) (sk : Nat) (el : Nat) : Nat → (Nat → Nat → Int32)
  | 0 => (up2 (up2 (up2 (up2 M 0 19 0) 0 20 0) 0 21 99) 0 22 (-99))
  | n6 + 1 => (g_X5_counts ((it6_X5_meanOf M sk el n6)) (((it6_X5_meanOf M sk el n6)) 16 ((144 * n6) + (12 * sk + el))))
def f_X5_meanOf (M : Nat → Nat → Int32) (sk : Nat) (el : Nat) : UInt64 :=
  (f_X5_trimmed ((it6_X5_meanOf M sk el 7)))
def g_X5_meanOf (M : Nat → Nat → Int32) (sk : Nat) (el : Nat) : Nat → Nat → Int32 :=
  ((it6_X5_meanOf M sk el 7))
set_option maxHeartbeats 4000000 in
set_option maxRecDepth 100000 in
theorem m_X5_meanOf {D : va_G} {cA : Nat → ClassId} {B : Nat} (l : Launch) {dom : Nat → Prop} {ad : Nat → Nat} {X : Nat → va_E} {H0 : Heap} (M : Nat → Nat → Int32) (sk : Nat) (el : Nat) (N : mw D cA B dom ad X M H0) (hs : sk < 12) (he : el < 12) : MetW D cA B l yX5_meanOf cX5_meanOf 4 (some .double) 1 21 0 0 [.ref (ad 5), .int (nI sk), .int (nI el)] H0 (fun o h => o = some (.double (f_X5_meanOf M sk el)) ∧ mw D cA B dom ad X (g_X5_meanOf M sk el) h) := by
  refine MetW.of (by decide) (Nat.le_of_ble_eq_true rfl) ?_
  intro p e s m args below meth c S hr hlk hin hh K ls hl
  subst hh
  have hS : va_S (fun q => B ≤ q) s.heap s.heap [] := va_S.rf
  have hl : lv_has ls 4 [(0, .ref (ad 5)), (1, .int (nI sk)), (2, .int (nI el))] := hl
  refine lv_aload_n S.1 S.2.1 dX5_meanOf_0 rfl (lv_at hl 0 rfl) ?_
  refine mc_wV S K N hS rfl (As := []) (m_X5_clears l M N) k4_75 k4_77 kS_28 k1_3 k4_78 (num := 0) (by decide +kernel) rfl ⟨Nat.le_of_ble_eq_true rfl, Nat.le_of_ble_eq_true rfl⟩ hl.1 rfl (Nat.le_of_ble_eq_true rfl) dX5_meanOf_1 ⟨Nat.le_of_ble_eq_true rfl, Nat.le_of_ble_eq_true rfl⟩ (fun v9 H locs hP hS => ?_)
  obtain ⟨rfl, N⟩ := hP
  have N : mw D cA B dom ad X (up2 (up2 (up2 (up2 M 0 19 0) 0 20 0) 0 21 99) 0 22 (-99)) H := N
  refine W.eq (g2 := F0 m 4 ls []) rfl ?_
  refine lv_iconst (v := 0) S.1 S.2.1 dX5_meanOf_4 (by decide) ?_
  refine lv_istore_n (lv' := [(3, .int 0), (0, .ref (ad 5)), (1, .int (nI sk)), (2, .int (nI el))]) S.1 S.2.1 dX5_meanOf_5 rfl hl (by decide) rfl (fun ls hl => ?_)
  refine nlM (B := B) (h := 6) (N := 7) (n := 4) (PH := fun (i6 : Nat) (H : Heap) => mw D cA B dom ad X ((it6_X5_meanOf M sk el i6)) H) (L := fun i6 : Nat => [(3, .int (nI i6)), (0, .ref (ad 5)), (1, .int (nI sk)), (2, .int (nI el))]) (fun ls H locs N hS hl => ?_) (fun i6 hi6 ih6 ls H locs N hS hl => ?_) ls _ _ N hS (lv_sub hl [0, 1, 2, 3] rfl)
  · try dsimp only at hl
    refine lv_iload_n S.1 S.2.1 dX5_meanOf_6 rfl (lv_at hl 0 rfl) ?_
    refine lv_bipush (v := 7) S.1 S.2.1 dX5_meanOf_7 (by decide) ?_
    refine lv_icmp_ge (tgt := 38) S.1 S.2.1 dX5_meanOf_9 (by decide) (fun _ => ?_) (fun c9 => absurd (nI_le (Nat.le_refl _) (by first | omega | decide)) c9)
    refine lv_aload_n S.1 S.2.1 dX5_meanOf_38 rfl (lv_at hl 1 rfl) ?_
    refine mc_rV S K N hS rfl (As := []) (m_X5_trimmed l ((it6_X5_meanOf M sk el 7)) N) k4_83 k4_85 kS_30 k1_3 k4_86 (num := 0) (by decide +kernel) rfl ⟨Nat.le_of_ble_eq_true rfl, Nat.le_of_ble_eq_true rfl⟩ hl.1 rfl (Nat.le_of_ble_eq_true rfl) dX5_meanOf_39 ⟨Nat.le_of_ble_eq_true rfl, Nat.le_of_ble_eq_true rfl⟩ ?_
    exact ne_wD S hS hr hlk ⟨congrArg (fun z => some (Value.double z)) (rfl), N⟩ dX5_meanOf_42
  · try dsimp only at hl
    refine lv_iload_n S.1 S.2.1 dX5_meanOf_6 rfl (lv_at hl 0 rfl) ?_
    refine lv_bipush (v := 7) S.1 S.2.1 dX5_meanOf_7 (by decide) ?_
    refine lv_icmp_ge (tgt := 38) S.1 S.2.1 dX5_meanOf_9 (by decide) (fun c9 => absurd c9 (nI_ge (hi6) (by first | omega | decide))) (fun _ => ?_)
    refine lv_aload_n S.1 S.2.1 dX5_meanOf_12 rfl (lv_at hl 1 rfl) ?_
    refine lv_aload_n S.1 S.2.1 dX5_meanOf_13 rfl (lv_at hl 1 rfl) ?_
    refine mr_get S K N 16 (by decide) k3_162 (v := .ref (ad 26)) rfl dX5_meanOf_14 ?_
    refine lv_sipush (v := 144) S.1 S.2.1 dX5_meanOf_17 (by decide) ?_
    refine lv_iload_n S.1 S.2.1 dX5_meanOf_20 rfl (lv_at hl 0 rfl) ?_
    refine lv_imul S.1 S.2.1 dX5_meanOf_21 ?_
    refine nt_i (y := nI (144 * i6)) (pk_mul 144 i6) ?_
    refine lv_iload_n S.1 S.2.1 dX5_meanOf_22 rfl (lv_at hl 2 rfl) ?_
    refine lv_iload_n S.1 S.2.1 dX5_meanOf_23 rfl (lv_at hl 3 rfl) ?_
    refine nc_rS S K hS (As := [.int (nI sk), .int (nI el)]) (m_X5_at l sk el) k4_15 k4_16 k1_3 k4_17 (num := 2) (by decide +kernel) rfl ⟨Nat.le_of_ble_eq_true rfl, Nat.le_of_ble_eq_true rfl⟩ hl.1 rfl (Nat.le_of_ble_eq_true rfl) dX5_meanOf_24 ⟨Nat.le_of_ble_eq_true rfl, Nat.le_of_ble_eq_true rfl⟩ ?_
    refine nt_i (y := nI (12 * sk + el)) (rfl) ?_
    refine lv_iadd S.1 S.2.1 dX5_meanOf_27 ?_
    refine nt_i (y := nI ((144 * i6) + (12 * sk + el))) (nI_add (144 * i6) (12 * sk + el)) ?_
    refine mr_iald S K N 16 (by decide) (by decide) rfl (v := (((it6_X5_meanOf M sk el i6)) 16 ((144 * i6) + (12 * sk + el)))) (vp_in_nI (show ((144 * i6) + (12 * sk + el)) < mlen 16 by show _ < 1008; omega) (by decide)) (congrArg (((it6_X5_meanOf M sk el i6)) 16) (nI_clamp (show ((144 * i6) + (12 * sk + el)) < 2 ^ 31 by omega))) dX5_meanOf_28 ?_
    refine mc_wV S K N hS rfl (As := [.int (((it6_X5_meanOf M sk el i6)) 16 ((144 * i6) + (12 * sk + el)))]) (m_X5_counts l ((it6_X5_meanOf M sk el i6)) (((it6_X5_meanOf M sk el i6)) 16 ((144 * i6) + (12 * sk + el))) N) k4_79 k4_81 kS_29 k1_3 k4_82 (num := 1) (by decide +kernel) rfl ⟨Nat.le_of_ble_eq_true rfl, Nat.le_of_ble_eq_true rfl⟩ hl.1 rfl (Nat.le_of_ble_eq_true rfl) dX5_meanOf_29 ⟨Nat.le_of_ble_eq_true rfl, Nat.le_of_ble_eq_true rfl⟩ (fun v9 H locs hP hS => ?_)
    obtain ⟨rfl, N⟩ := hP
    refine W.eq (g2 := F0 m 32 ls []) rfl ?_
    refine lv_iinc (v := nI (i6 + 1)) (lv' := [(3, .int (nI (i6 + 1))), (0, .ref (ad 5)), (1, .int (nI sk)), (2, .int (nI el))]) S.1 S.2.1 dX5_meanOf_32 hl (k := 0) rfl (nI_add i6 1) (by decide) rfl (fun ls hl => ?_)
    refine lv_goto (tgt := 6) S.1 S.2.1 dX5_meanOf_35 (by decide) ?_
    have hstep : (it6_X5_meanOf M sk el (i6 + 1)) = (g_X5_counts ((it6_X5_meanOf M sk el i6)) (((it6_X5_meanOf M sk el i6)) 16 ((144 * i6) + (12 * sk + el)))) := by rw [it6_X5_meanOf]
    refine ih6 ls _ _ (by (try dsimp only); (try rw [hstep]); (try dsimp only); exact N) hS (by (try dsimp only); (try rw [hstep]); (try dsimp only); exact lv_sub hl [0, 1, 2, 3] rfl)

theorem mag_meanOf (M : Nat → Nat → Int32) (sk el : Nat) : (f_X5_meanOf M sk el).toNat % 2 ^ 63 < 1057 * 2 ^ 52 := mag_trimmed _
theorem fin_meanOf (M : Nat → Nat → Int32) (sk el : Nat) : FP.Core.DFin (f_X5_meanOf M sk el) := fin_trimmed _
theorem nan_score1 (b : Int32) (M : Nat → Nat → Int32) (sk el : Nat) : FP.dIsNaN (FP.dmul (FP.i2d b) (f_X5_meanOf M sk el)) = false := FP.Core.dmul_out (FP.Core.i2d_fin b) (fin_meanOf M sk el)
theorem nan_score2 (b : Int32) (M : Nat → Nat → Int32) (sk el : Nat) : FP.dIsNaN (FP.ddiv (FP.dmul (FP.i2d b) (f_X5_meanOf M sk el)) 4621819117588971520) = false := FP.Core.ddiv_out (nan_score1 b M sk el) fin_10 nz_10
theorem cs_sq (M : Nat → Nat → Int32) (t : Int32) : sq M (g_X5_counts M t) := by
  intro a j q
  unfold g_X5_counts
  split
  · rfl
  · unfold up2
    by_cases ha : a = 0
    · have := q ha
      simp only [show ¬ j = 19 by omega, show ¬ j = 20 by omega, show ¬ j = 21 by omega, show ¬ j = 22 by omega, and_false, if_false]
    · simp only [ha, false_and, if_false]
theorem cl_sq (M : Nat → Nat → Int32) : sq M (up2 (up2 (up2 (up2 M 0 19 0) 0 20 0) 0 21 99) 0 22 (-99)) := by
  intro a j q
  unfold up2
  by_cases ha : a = 0
  · have := q ha
    simp only [show ¬ j = 19 by omega, show ¬ j = 20 by omega, show ¬ j = 21 by omega, show ¬ j = 22 by omega, and_false, if_false]
  · simp only [ha, false_and, if_false]
theorem sq_it6 (M : Nat → Nat → Int32) (sk el : Nat) : ∀ k, sq M (it6_X5_meanOf M sk el k) := by
  intro k
  induction k with
  | zero => exact cl_sq M
  | succ k ih => exact sq_trans ih (cs_sq _ _)
theorem sq_X5_meanOf {M : Nat → Nat → Int32} {sk el : Nat} : sq M (g_X5_meanOf M sk el) := sq_it6 M sk el 7
/-- the same told numbers -/
def stq (M M1 : Nat → Nat → Int32) : Prop := M1 0 19 = M 0 19 ∧ M1 0 20 = M 0 20 ∧ M1 0 21 = M 0 21 ∧ M1 0 22 = M 0 22
theorem st_counts {M M1 : Nat → Nat → Int32} (h : stq M M1) (t : Int32) : stq (g_X5_counts M t) (g_X5_counts M1 t) := by
  obtain ⟨h1, h2, h3, h4⟩ := h
  unfold g_X5_counts
  split
  · exact ⟨h1, h2, h3, h4⟩
  · refine ⟨?_, ?_, ?_, ?_⟩ <;> simp [up2, h1, h2, h3, h4]
theorem st_clears (M M1 : Nat → Nat → Int32) : stq (up2 (up2 (up2 (up2 M 0 19 0) 0 20 0) 0 21 99) 0 22 (-99)) (up2 (up2 (up2 (up2 M1 0 19 0) 0 20 0) 0 21 99) 0 22 (-99)) := by
  refine ⟨?_, ?_, ?_, ?_⟩ <;> simp [up2]
theorem st_trimmed {M M1 : Nat → Nat → Int32} (h : stq M M1) : f_X5_trimmed M1 = f_X5_trimmed M := by
  obtain ⟨h1, h2, h3, h4⟩ := h
  simp only [f_X5_trimmed, h1, h2, h3, h4]
theorem st_it6 {M M1 : Nat → Nat → Int32} (h : sr M M1) (sk el : Nat) : ∀ k, stq (it6_X5_meanOf M sk el k) (it6_X5_meanOf M1 sk el k) := by
  intro k
  induction k with
  | zero => exact st_clears M M1
  | succ k ih =>
    have e1 : it6_X5_meanOf M sk el k 16 = M 16 := funext fun j => sq_it6 M sk el k 16 j (fun z => absurd z (by decide))
    have e2 : it6_X5_meanOf M1 sk el k 16 = M1 16 := funext fun j => sq_it6 M1 sk el k 16 j (fun z => absurd z (by decide))
    unfold it6_X5_meanOf
    rw [e1, e2, sr_e h 15]
    exact st_counts ih _
theorem cg_X5_meanOf {M M1 : Nat → Nat → Int32} (h : sr M M1) {sk el : Nat} : f_X5_meanOf M1 sk el = f_X5_meanOf M sk el := st_trimmed (st_it6 h sk el 7)
theorem told_meanOf {M M1 : Nat → Nat → Int32} (h : sr M M1) {sk el : Nat} : (g_X5_meanOf M1 sk el) 0 19 = (g_X5_meanOf M sk el) 0 19 := (st_it6 h sk el 7).1
