def f_X5_scoreOf (M : Nat → Nat → Int32) (sk : Nat) (el : Nat) (ed : Nat) : Int32 :=
  ((f_X5_baseOf M sk el ed) + (f_X5_rint (FP.ddiv (FP.dmul (FP.i2d (f_X5_baseOf M sk el ed)) (f_X5_meanOf M sk el)) 4621819117588971520)))
def g_X5_scoreOf (M : Nat → Nat → Int32) (sk : Nat) (el : Nat) (ed : Nat) : Nat → Nat → Int32 :=
  M
set_option maxHeartbeats 4000000 in
set_option maxRecDepth 100000 in
theorem m_X5_scoreOf {D : va_G} {cA : Nat → ClassId} {B : Nat} (l : Launch) {dom : Nat → Prop} {ad : Nat → Nat} {X : Nat → va_E} {H0 : Heap} (M : Nat → Nat → Int32) (sk : Nat) (el : Nat) (ed : Nat) (N : mw D cA B dom ad X M H0) (hs : sk < 12) (he : el < 12) (hv : vq M ed (12 * sk + el)) : MetW D cA B l yX5_scoreOf cX5_scoreOf 5 (some .int) 2 56 0 0 [.ref (ad 5), .int (nI sk), .int (nI el), .int (nI ed)] H0 (fun o h => o = some (.int (f_X5_scoreOf M sk el ed)) ∧ ∃ M1, sq (g_X5_scoreOf M sk el ed) M1 ∧ mw D cA B dom ad X M1 h) := by
  refine MetW.of (by decide) (Nat.le_of_ble_eq_true rfl) ?_
  intro p e s m args below meth c S hr hlk hin hh K ls hl
  subst hh
  have hS : va_S (fun q => B ≤ q) s.heap s.heap [] := va_S.rf
  have hl : lv_has ls 5 [(0, .ref (ad 5)), (1, .int (nI sk)), (2, .int (nI el)), (3, .int (nI ed))] := hl
  refine lv_aload_n S.1 S.2.1 dX5_scoreOf_0 rfl (lv_at hl 0 rfl) ?_
  refine lv_iload_n S.1 S.2.1 dX5_scoreOf_1 rfl (lv_at hl 1 rfl) ?_
  refine lv_iload_n S.1 S.2.1 dX5_scoreOf_2 rfl (lv_at hl 2 rfl) ?_
  refine lv_iload_n S.1 S.2.1 dX5_scoreOf_3 rfl (lv_at hl 3 rfl) ?_
  refine mc_rV S K N hS rfl (As := [.int (nI sk), .int (nI el), .int (nI ed)]) (m_X5_baseOf l M sk el ed N hs he hv) k4_57 k4_59 kS_25 k1_3 k4_60 (num := 3) (by decide +kernel) rfl ⟨Nat.le_of_ble_eq_true rfl, Nat.le_of_ble_eq_true rfl⟩ hl.1 rfl (Nat.le_of_ble_eq_true rfl) dX5_scoreOf_4 ⟨Nat.le_of_ble_eq_true rfl, Nat.le_of_ble_eq_true rfl⟩ ?_
  refine lv_istore (lv' := [(4, .int (f_X5_baseOf M sk el ed)), (0, .ref (ad 5)), (1, .int (nI sk)), (2, .int (nI el)), (3, .int (nI ed))]) S.1 S.2.1 dX5_scoreOf_7 hl (by decide) rfl (fun ls hl => ?_)
  refine lv_iload S.1 S.2.1 dX5_scoreOf_9 (lv_at hl 0 rfl) ?_
  refine lv_iload S.1 S.2.1 dX5_scoreOf_11 (lv_at hl 0 rfl) ?_
  refine lv_i2d S.1 S.2.1 dX5_scoreOf_13 ?_
  refine lv_aload_n S.1 S.2.1 dX5_scoreOf_14 rfl (lv_at hl 1 rfl) ?_
  refine lv_iload_n S.1 S.2.1 dX5_scoreOf_15 rfl (lv_at hl 2 rfl) ?_
  refine lv_iload_n S.1 S.2.1 dX5_scoreOf_16 rfl (lv_at hl 3 rfl) ?_
  refine mc_wV S K N hS rfl (As := [.int (nI sk), .int (nI el)]) (m_X5_meanOf l M sk el N hs he) k4_71 k4_73 kS_27 k1_3 k4_74 (num := 2) (by decide +kernel) rfl ⟨Nat.le_of_ble_eq_true rfl, Nat.le_of_ble_eq_true rfl⟩ hl.1 rfl (Nat.le_of_ble_eq_true rfl) dX5_scoreOf_17 ⟨Nat.le_of_ble_eq_true rfl, Nat.le_of_ble_eq_true rfl⟩ (fun v9 H locs hP hS => ?_)
  obtain ⟨rfl, N⟩ := hP
  refine W.eq (g2 := F0 m 20 ls [.double (f_X5_meanOf M sk el), .double (FP.i2d (f_X5_baseOf M sk el ed)), .int (f_X5_baseOf M sk el ed)]) rfl ?_
  refine lv_dmul S.1 S.2.1 dX5_scoreOf_20 (vn_of (nan_score1 _ _ _ _)) ?_
  refine lv_ldc2d S.1 S.2.1 S.2.2.2.1 (S.2.2.2.2 _ k4_87) dX5_scoreOf_21 ?_
  refine lv_ddiv S.1 S.2.1 dX5_scoreOf_24 (vn_of (nan_score2 _ _ _ _)) ?_
  refine nc_rS S K hS (As := [.double (FP.ddiv (FP.dmul (FP.i2d (f_X5_baseOf M sk el ed)) (f_X5_meanOf M sk el)) 4621819117588971520)]) (m_X5_rint l (FP.ddiv (FP.dmul (FP.i2d (f_X5_baseOf M sk el ed)) (f_X5_meanOf M sk el)) 4621819117588971520) (nan_score2 _ _ _ _)) k4_62 k4_63 k1_3 k4_64 (num := 1) (by decide +kernel) rfl ⟨Nat.le_of_ble_eq_true rfl, Nat.le_of_ble_eq_true rfl⟩ hl.1 rfl (Nat.le_of_ble_eq_true rfl) dX5_scoreOf_25 ⟨Nat.le_of_ble_eq_true rfl, Nat.le_of_ble_eq_true rfl⟩ ?_
  refine lv_iadd S.1 S.2.1 dX5_scoreOf_28 ?_
  exact ne_wI S hS hr hlk ⟨congrArg (fun z => some (Value.int z)) (rfl), ⟨_, (sq_trans (sq_refl _) sq_X5_meanOf), N⟩⟩ dX5_scoreOf_29

theorem cg_X5_scoreOf {M M1 : Nat → Nat → Int32} (h : sr M M1) {sk el ed : Nat} : f_X5_scoreOf M1 sk el ed = f_X5_scoreOf M sk el ed := by
  simp only [f_X5_scoreOf, cg_X5_baseOf h, cg_X5_meanOf h]

def it5_X5_elementsOf (M : Nat → Nat → Int32) (sk : Nat) (ed : Nat) : Nat → Int32
  | 0 => 0
  | n5 + 1 => ((it5_X5_elementsOf M sk ed n5) + (f_X5_scoreOf M sk n5 ed))
def f_X5_elementsOf (M : Nat → Nat → Int32) (sk : Nat) (ed : Nat) : Int32 :=
  (it5_X5_elementsOf M sk ed (nE M sk))
def g_X5_elementsOf (M : Nat → Nat → Int32) (sk : Nat) (ed : Nat) : Nat → Nat → Int32 :=
  M
set_option maxHeartbeats 4000000 in
set_option maxRecDepth 100000 in
theorem m_X5_elementsOf {D : va_G} {cA : Nat → ClassId} {B : Nat} (l : Launch) {dom : Nat → Prop} {ad : Nat → Nat} {X : Nat → va_E} {H0 : Heap} (M : Nat → Nat → Int32) (sk : Nat) (ed : Nat) (N : mw D cA B dom ad X M H0) (hR : RI M) (hs : sk < 12) (he : ed < 3) : MetW D cA B l yX5_elementsOf cX5_elementsOf 5 (some .int) 3 80 0 0 [.ref (ad 5), .int (nI sk), .int (nI ed)] H0 (fun o h => o = some (.int (f_X5_elementsOf M sk ed)) ∧ ∃ M1, sq (g_X5_elementsOf M sk ed) M1 ∧ mw D cA B dom ad X M1 h) := by
  refine MetW.of (by decide) (Nat.le_of_ble_eq_true rfl) ?_
  intro p e s m args below meth c S hr hlk hin hh K ls hl
  subst hh
  have hS : va_S (fun q => B ≤ q) s.heap s.heap [] := va_S.rf
  have hl : lv_has ls 5 [(0, .ref (ad 5)), (1, .int (nI sk)), (2, .int (nI ed))] := hl
  have hle := hR.elLe sk hs
  refine lv_iconst (v := 0) S.1 S.2.1 dX5_elementsOf_0 (by decide) ?_
  refine lv_istore_n (lv' := [(3, .int 0), (0, .ref (ad 5)), (1, .int (nI sk)), (2, .int (nI ed))]) S.1 S.2.1 dX5_elementsOf_1 rfl hl (by decide) rfl (fun ls hl => ?_)
  refine lv_iconst (v := 0) S.1 S.2.1 dX5_elementsOf_2 (by decide) ?_
  refine lv_istore (lv' := [(4, .int 0), (3, .int 0), (0, .ref (ad 5)), (1, .int (nI sk)), (2, .int (nI ed))]) S.1 S.2.1 dX5_elementsOf_3 hl (by decide) rfl (fun ls hl => ?_)
  refine nlM (B := B) (h := 5) (N := (nE M sk)) (n := 5) (PH := fun (_ : Nat) (H : Heap) => ∃ M1, sq M M1 ∧ mw D cA B dom ad X M1 H) (L := fun i5 : Nat => [(4, .int (nI i5)), (3, .int (it5_X5_elementsOf M sk ed i5)), (0, .ref (ad 5)), (1, .int (nI sk)), (2, .int (nI ed))]) (fun ls H locs N hS hl => ?_) (fun i5 hi5 ih5 ls H locs N hS hl => ?_) ls _ _ ⟨_, (sq_refl _), N⟩ hS (lv_sub hl [0, 1, 2, 3, 4] rfl)
  · try dsimp only at hl
    obtain ⟨M_1, hq_2, N⟩ := N
    refine lv_iload S.1 S.2.1 dX5_elementsOf_5 (lv_at hl 0 rfl) ?_
    refine lv_aload_n S.1 S.2.1 dX5_elementsOf_7 rfl (lv_at hl 2 rfl) ?_
    refine mr_get S K N 8 (by decide) k3_154 (v := .ref (ad 18)) rfl dX5_elementsOf_8 ?_
    refine lv_iload_n S.1 S.2.1 dX5_elementsOf_11 rfl (lv_at hl 3 rfl) ?_
    refine mr_iald S K N 8 (by decide) (by decide) rfl (v := (M_1 8 sk)) (vp_in_nI (show sk < mlen 8 by show _ < 12; omega) (by decide)) (congrArg (M_1 8) (nI_clamp (show sk < 2 ^ 31 by omega))) dX5_elementsOf_12 ?_
    refine nt_i (y := (M 8 sk)) ((hq_2 8 sk (fun z9 => absurd z9 (by decide))).trans rfl) ?_
    refine nt_i (y := nI (nE M sk)) (hR.el sk hs) ?_
    refine lv_icmp_ge (tgt := 33) S.1 S.2.1 dX5_elementsOf_13 (by decide) (fun _ => ?_) (fun c9 => absurd (nI_le (Nat.le_refl _) (by first | omega | decide)) c9)
    refine lv_iload_n S.1 S.2.1 dX5_elementsOf_33 rfl (lv_at hl 1 rfl) ?_
    exact ne_wI S hS hr hlk ⟨congrArg (fun z => some (Value.int z)) (rfl), ⟨_, hq_2, N⟩⟩ dX5_elementsOf_34
  · try dsimp only at hl
    obtain ⟨M_1, hq_2, N⟩ := N
    refine lv_iload S.1 S.2.1 dX5_elementsOf_5 (lv_at hl 0 rfl) ?_
    refine lv_aload_n S.1 S.2.1 dX5_elementsOf_7 rfl (lv_at hl 2 rfl) ?_
    refine mr_get S K N 8 (by decide) k3_154 (v := .ref (ad 18)) rfl dX5_elementsOf_8 ?_
    refine lv_iload_n S.1 S.2.1 dX5_elementsOf_11 rfl (lv_at hl 3 rfl) ?_
    refine mr_iald S K N 8 (by decide) (by decide) rfl (v := (M_1 8 sk)) (vp_in_nI (show sk < mlen 8 by show _ < 12; omega) (by decide)) (congrArg (M_1 8) (nI_clamp (show sk < 2 ^ 31 by omega))) dX5_elementsOf_12 ?_
    refine nt_i (y := (M 8 sk)) ((hq_2 8 sk (fun z9 => absurd z9 (by decide))).trans rfl) ?_
    refine nt_i (y := nI (nE M sk)) (hR.el sk hs) ?_
    refine lv_icmp_ge (tgt := 33) S.1 S.2.1 dX5_elementsOf_13 (by decide) (fun c9 => absurd c9 (nI_ge (hi5) (by first | omega | decide))) (fun _ => ?_)
    refine lv_iload_n S.1 S.2.1 dX5_elementsOf_16 rfl (lv_at hl 1 rfl) ?_
    refine lv_aload_n S.1 S.2.1 dX5_elementsOf_17 rfl (lv_at hl 2 rfl) ?_
    refine lv_iload_n S.1 S.2.1 dX5_elementsOf_18 rfl (lv_at hl 3 rfl) ?_
    refine lv_iload S.1 S.2.1 dX5_elementsOf_19 (lv_at hl 0 rfl) ?_
    refine lv_iload_n S.1 S.2.1 dX5_elementsOf_21 rfl (lv_at hl 4 rfl) ?_
    refine mc_wV S K N hS rfl (As := [.int (nI sk), .int (nI i5), .int (nI ed)]) (m_X5_scoreOf l M_1 sk i5 ed N hs (by omega) (vq_sr (sr_0 hq_2) (hR.v sk i5 ed hs hi5 he))) k4_67 k4_69 kS_26 k1_3 k4_70 (num := 3) (by decide +kernel) rfl ⟨Nat.le_of_ble_eq_true rfl, Nat.le_of_ble_eq_true rfl⟩ hl.1 rfl (Nat.le_of_ble_eq_true rfl) dX5_elementsOf_22 ⟨Nat.le_of_ble_eq_true rfl, Nat.le_of_ble_eq_true rfl⟩ (fun v9 H locs hP hS => ?_)
    obtain ⟨rfl, M_3, hq_4, N⟩ := hP
    refine W.eq (g2 := F0 m 25 ls [.int (f_X5_scoreOf M_1 sk i5 ed), .int (it5_X5_elementsOf M sk ed i5)]) rfl ?_
    refine nt_i (y := (f_X5_scoreOf M sk i5 ed)) (cg_X5_scoreOf (sr_0 hq_2)) ?_
    have hq_4 : sq M M_3 := sq_trans hq_2 hq_4
    refine lv_iadd S.1 S.2.1 dX5_elementsOf_25 ?_
    refine lv_istore_n (lv' := [(3, .int ((it5_X5_elementsOf M sk ed i5) + (f_X5_scoreOf M sk i5 ed))), (4, .int (nI i5)), (0, .ref (ad 5)), (1, .int (nI sk)), (2, .int (nI ed))]) S.1 S.2.1 dX5_elementsOf_26 rfl hl (by decide) rfl (fun ls hl => ?_)
    refine lv_iinc (v := nI (i5 + 1)) (lv' := [(4, .int (nI (i5 + 1))), (3, .int ((it5_X5_elementsOf M sk ed i5) + (f_X5_scoreOf M sk i5 ed))), (0, .ref (ad 5)), (1, .int (nI sk)), (2, .int (nI ed))]) S.1 S.2.1 dX5_elementsOf_27 hl (k := 1) rfl (nI_add i5 1) (by decide) rfl (fun ls hl => ?_)
    refine lv_goto (tgt := 5) S.1 S.2.1 dX5_elementsOf_30 (by decide) ?_
    exact ih5 ls _ _ ⟨_, hq_4, N⟩ hS (lv_sub hl [0, 1, 2, 3, 4] rfl)

theorem cg_X5_elementsOf {M M1 : Nat → Nat → Int32} (h : sr M M1) {sk ed : Nat} : f_X5_elementsOf M1 sk ed = f_X5_elementsOf M sk ed := by
  have k : ∀ i, it5_X5_elementsOf M1 sk ed i = it5_X5_elementsOf M sk ed i := by
    intro i
    induction i with
    | zero => rfl
    | succ i ih => simp only [it5_X5_elementsOf, ih, cg_X5_scoreOf h]
  simp only [f_X5_elementsOf, k, el_sr h]

def it16_X5_componentsOf (M1 : Nat → Nat → Int32) (sk : Nat) (i4 : Nat) : Nat → (Nat → Nat → Int32)
  | 0 => M1
  | n16 + 1 => (g_X5_counts ((it16_X5_componentsOf M1 sk i4 n16)) (((it16_X5_componentsOf M1 sk i4 n16)) 17 (((36 * n16) + (3 * sk)) + i4)))
def it4_X5_componentsOf (M : Nat → Nat → Int32) (sk : Nat) : Nat → Int32 × (Nat → Nat → Int32)
  | 0 => (0, M)
  | n4 + 1 => (((it4_X5_componentsOf M sk n4).1 + ((f_X5_rint (FP.dmul 4627730092099895296 (f_X5_trimmed ((it16_X5_componentsOf (up2 (up2 (up2 (up2 ((it4_X5_componentsOf M sk n4).2) 0 19 0) 0 20 0) 0 21 99) 0 22 (-99)) sk n4 7))))) * 2)), ((it16_X5_componentsOf (up2 (up2 (up2 (up2 ((it4_X5_componentsOf M sk n4).2) 0 19 0) 0 20 0) 0 21 99) 0 22 (-99)) sk n4 7)))
def f_X5_componentsOf (M : Nat → Nat → Int32) (sk : Nat) : Int32 :=
  (it4_X5_componentsOf M sk 3).1
def g_X5_componentsOf (M : Nat → Nat → Int32) (sk : Nat) : Nat → Nat → Int32 :=
  ((it4_X5_componentsOf M sk 3).2)
set_option maxHeartbeats 4000000 in
set_option maxRecDepth 100000 in
theorem m_X5_componentsOf {D : va_G} {cA : Nat → ClassId} {B : Nat} (l : Launch) {dom : Nat → Prop} {ad : Nat → Nat} {X : Nat → va_E} {H0 : Heap} (M : Nat → Nat → Int32) (sk : Nat) (N : mw D cA B dom ad X M H0) (hs : sk < 12) : MetW D cA B l yX5_componentsOf cX5_componentsOf 5 (some .int) 1 27 0 0 [.ref (ad 5), .int (nI sk)] H0 (fun o h => o = some (.int (f_X5_componentsOf M sk)) ∧ mw D cA B dom ad X (g_X5_componentsOf M sk) h) := by
  refine MetW.of (by decide) (Nat.le_of_ble_eq_true rfl) ?_
  intro p e s m args below meth c S hr hlk hin hh K ls hl
  subst hh
  have hS : va_S (fun q => B ≤ q) s.heap s.heap [] := va_S.rf
  have hl : lv_has ls 5 [(0, .ref (ad 5)), (1, .int (nI sk))] := hl
  refine lv_iconst (v := 0) S.1 S.2.1 dX5_componentsOf_0 (by decide) ?_
  refine lv_istore_n (lv' := [(2, .int 0), (0, .ref (ad 5)), (1, .int (nI sk))]) S.1 S.2.1 dX5_componentsOf_1 rfl hl (by decide) rfl (fun ls hl => ?_)
  refine lv_iconst (v := 0) S.1 S.2.1 dX5_componentsOf_2 (by decide) ?_
  refine lv_istore_n (lv' := [(3, .int 0), (2, .int 0), (0, .ref (ad 5)), (1, .int (nI sk))]) S.1 S.2.1 dX5_componentsOf_3 rfl hl (by decide) rfl (fun ls hl => ?_)
  refine nlM (B := B) (h := 4) (N := 3) (n := 5) (PH := fun (i4 : Nat) (H : Heap) => mw D cA B dom ad X ((it4_X5_componentsOf M sk i4).2) H) (L := fun i4 : Nat => [(3, .int (nI i4)), (2, .int ((it4_X5_componentsOf M sk i4).1)), (0, .ref (ad 5)), (1, .int (nI sk))]) (fun ls H locs N hS hl => ?_) (fun i4 hi4 ih4 ls H locs N hS hl => ?_) ls _ _ N hS (lv_sub hl [0, 1, 2, 3] rfl)
  · try dsimp only at hl
    refine lv_iload_n S.1 S.2.1 dX5_componentsOf_4 rfl (lv_at hl 0 rfl) ?_
    refine lv_iconst (v := 3) S.1 S.2.1 dX5_componentsOf_5 (by decide) ?_
    refine lv_icmp_ge (tgt := 71) S.1 S.2.1 dX5_componentsOf_6 (by decide) (fun _ => ?_) (fun c9 => absurd (nI_le (Nat.le_refl _) (by first | omega | decide)) c9)
    refine lv_iload_n S.1 S.2.1 dX5_componentsOf_71 rfl (lv_at hl 1 rfl) ?_
    exact ne_wI S hS hr hlk ⟨congrArg (fun z => some (Value.int z)) (rfl), N⟩ dX5_componentsOf_72
  · try dsimp only at hl
    refine lv_iload_n S.1 S.2.1 dX5_componentsOf_4 rfl (lv_at hl 0 rfl) ?_
    refine lv_iconst (v := 3) S.1 S.2.1 dX5_componentsOf_5 (by decide) ?_
    refine lv_icmp_ge (tgt := 71) S.1 S.2.1 dX5_componentsOf_6 (by decide) (fun c9 => absurd c9 (nI_ge (hi4) (by first | omega | decide))) (fun _ => ?_)
    refine lv_aload_n S.1 S.2.1 dX5_componentsOf_9 rfl (lv_at hl 2 rfl) ?_
    refine mc_wV S K N hS rfl (As := []) (m_X5_clears l ((it4_X5_componentsOf M sk i4).2) N) k4_75 k4_77 kS_28 k1_3 k4_78 (num := 0) (by decide +kernel) rfl ⟨Nat.le_of_ble_eq_true rfl, Nat.le_of_ble_eq_true rfl⟩ hl.1 rfl (Nat.le_of_ble_eq_true rfl) dX5_componentsOf_10 ⟨Nat.le_of_ble_eq_true rfl, Nat.le_of_ble_eq_true rfl⟩ (fun v9 H locs hP hS => ?_)
    obtain ⟨rfl, N⟩ := hP
    have N : mw D cA B dom ad X (up2 (up2 (up2 (up2 ((it4_X5_componentsOf M sk i4).2) 0 19 0) 0 20 0) 0 21 99) 0 22 (-99)) H := N
    refine W.eq (g2 := F0 m 13 ls []) rfl ?_
    refine lv_iconst (v := 0) S.1 S.2.1 dX5_componentsOf_13 (by decide) ?_
    refine lv_istore (lv' := [(4, .int 0), (3, .int (nI i4)), (2, .int ((it4_X5_componentsOf M sk i4).1)), (0, .ref (ad 5)), (1, .int (nI sk))]) S.1 S.2.1 dX5_componentsOf_14 hl (by decide) rfl (fun ls hl => ?_)
    refine nlM (B := B) (h := 16) (N := 7) (n := 5) (PH := fun (i16 : Nat) (H : Heap) => mw D cA B dom ad X ((it16_X5_componentsOf (up2 (up2 (up2 (up2 ((it4_X5_componentsOf M sk i4).2) 0 19 0) 0 20 0) 0 21 99) 0 22 (-99)) sk i4 i16)) H) (L := fun i16 : Nat => [(4, .int (nI i16)), (3, .int (nI i4)), (2, .int ((it4_X5_componentsOf M sk i4).1)), (0, .ref (ad 5)), (1, .int (nI sk))]) (fun ls H locs N hS hl => ?_) (fun i16 hi16 ih16 ls H locs N hS hl => ?_) ls _ _ N hS (lv_sub hl [0, 1, 2, 3, 4] rfl)
    · try dsimp only at hl
      refine lv_iload S.1 S.2.1 dX5_componentsOf_16 (lv_at hl 0 rfl) ?_
      refine lv_bipush (v := 7) S.1 S.2.1 dX5_componentsOf_18 (by decide) ?_
      refine lv_icmp_ge (tgt := 49) S.1 S.2.1 dX5_componentsOf_20 (by decide) (fun _ => ?_) (fun c9 => absurd (nI_le (Nat.le_refl _) (by first | omega | decide)) c9)
      refine lv_iload_n S.1 S.2.1 dX5_componentsOf_49 rfl (lv_at hl 2 rfl) ?_
      refine lv_ldc2d S.1 S.2.1 S.2.2.2.1 (S.2.2.2.2 _ k4_100) dX5_componentsOf_50 ?_
      refine lv_aload_n S.1 S.2.1 dX5_componentsOf_53 rfl (lv_at hl 3 rfl) ?_
      refine mc_rV S K N hS rfl (As := []) (m_X5_trimmed l ((it16_X5_componentsOf (up2 (up2 (up2 (up2 ((it4_X5_componentsOf M sk i4).2) 0 19 0) 0 20 0) 0 21 99) 0 22 (-99)) sk i4 7)) N) k4_83 k4_85 kS_30 k1_3 k4_86 (num := 0) (by decide +kernel) rfl ⟨Nat.le_of_ble_eq_true rfl, Nat.le_of_ble_eq_true rfl⟩ hl.1 rfl (Nat.le_of_ble_eq_true rfl) dX5_componentsOf_54 ⟨Nat.le_of_ble_eq_true rfl, Nat.le_of_ble_eq_true rfl⟩ ?_
      refine lv_dmul S.1 S.2.1 dX5_componentsOf_57 (vn_of (FP.Core.dmul_out fin_25 (fin_trimmed _))) ?_
      refine nc_rS S K hS (As := [.double (FP.dmul 4627730092099895296 (f_X5_trimmed ((it16_X5_componentsOf (up2 (up2 (up2 (up2 ((it4_X5_componentsOf M sk i4).2) 0 19 0) 0 20 0) 0 21 99) 0 22 (-99)) sk i4 7))))]) (m_X5_rint l (FP.dmul 4627730092099895296 (f_X5_trimmed ((it16_X5_componentsOf (up2 (up2 (up2 (up2 ((it4_X5_componentsOf M sk i4).2) 0 19 0) 0 20 0) 0 21 99) 0 22 (-99)) sk i4 7)))) (FP.Core.dmul_out fin_25 (fin_trimmed _))) k4_62 k4_63 k1_3 k4_64 (num := 1) (by decide +kernel) rfl ⟨Nat.le_of_ble_eq_true rfl, Nat.le_of_ble_eq_true rfl⟩ hl.1 rfl (Nat.le_of_ble_eq_true rfl) dX5_componentsOf_58 ⟨Nat.le_of_ble_eq_true rfl, Nat.le_of_ble_eq_true rfl⟩ ?_
      refine lv_iconst (v := 2) S.1 S.2.1 dX5_componentsOf_61 (by decide) ?_
      refine lv_imul S.1 S.2.1 dX5_componentsOf_62 ?_
      refine lv_iadd S.1 S.2.1 dX5_componentsOf_63 ?_
      refine lv_istore_n (lv' := [(2, .int ((it4_X5_componentsOf M sk i4).1 + ((f_X5_rint (FP.dmul 4627730092099895296 (f_X5_trimmed ((it16_X5_componentsOf (up2 (up2 (up2 (up2 ((it4_X5_componentsOf M sk i4).2) 0 19 0) 0 20 0) 0 21 99) 0 22 (-99)) sk i4 7))))) * 2))), (4, .int (nI 7)), (3, .int (nI i4)), (0, .ref (ad 5)), (1, .int (nI sk))]) S.1 S.2.1 dX5_componentsOf_64 rfl hl (by decide) rfl (fun ls hl => ?_)
      refine lv_iinc (v := nI (i4 + 1)) (lv' := [(3, .int (nI (i4 + 1))), (2, .int ((it4_X5_componentsOf M sk i4).1 + ((f_X5_rint (FP.dmul 4627730092099895296 (f_X5_trimmed ((it16_X5_componentsOf (up2 (up2 (up2 (up2 ((it4_X5_componentsOf M sk i4).2) 0 19 0) 0 20 0) 0 21 99) 0 22 (-99)) sk i4 7))))) * 2))), (4, .int (nI 7)), (0, .ref (ad 5)), (1, .int (nI sk))]) S.1 S.2.1 dX5_componentsOf_65 hl (k := 2) rfl (nI_add i4 1) (by decide) rfl (fun ls hl => ?_)
      refine lv_goto (tgt := 4) S.1 S.2.1 dX5_componentsOf_68 (by decide) ?_
      have hstep : (it4_X5_componentsOf M sk (i4 + 1)) = (((it4_X5_componentsOf M sk i4).1 + ((f_X5_rint (FP.dmul 4627730092099895296 (f_X5_trimmed ((it16_X5_componentsOf (up2 (up2 (up2 (up2 ((it4_X5_componentsOf M sk i4).2) 0 19 0) 0 20 0) 0 21 99) 0 22 (-99)) sk i4 7))))) * 2)), ((it16_X5_componentsOf (up2 (up2 (up2 (up2 ((it4_X5_componentsOf M sk i4).2) 0 19 0) 0 20 0) 0 21 99) 0 22 (-99)) sk i4 7))) := by rw [it4_X5_componentsOf]
      refine ih4 ls _ _ (by (try dsimp only); (try rw [hstep]); (try dsimp only); exact N) hS (by (try dsimp only); (try rw [hstep]); (try dsimp only); exact lv_sub hl [0, 1, 3, 4] rfl)
    · try dsimp only at hl
      refine lv_iload S.1 S.2.1 dX5_componentsOf_16 (lv_at hl 0 rfl) ?_
      refine lv_bipush (v := 7) S.1 S.2.1 dX5_componentsOf_18 (by decide) ?_
      refine lv_icmp_ge (tgt := 49) S.1 S.2.1 dX5_componentsOf_20 (by decide) (fun c9 => absurd c9 (nI_ge (hi16) (by first | omega | decide))) (fun _ => ?_)
      refine lv_aload_n S.1 S.2.1 dX5_componentsOf_23 rfl (lv_at hl 3 rfl) ?_
      refine lv_aload_n S.1 S.2.1 dX5_componentsOf_24 rfl (lv_at hl 3 rfl) ?_
      refine mr_get S K N 17 (by decide) k3_163 (v := .ref (ad 27)) rfl dX5_componentsOf_25 ?_
      refine lv_bipush (v := 36) S.1 S.2.1 dX5_componentsOf_28 (by decide) ?_
      refine lv_iload S.1 S.2.1 dX5_componentsOf_30 (lv_at hl 0 rfl) ?_
      refine lv_imul S.1 S.2.1 dX5_componentsOf_32 ?_
      refine nt_i (y := nI (36 * i16)) (pk_mul 36 i16) ?_
      refine lv_iconst (v := 3) S.1 S.2.1 dX5_componentsOf_33 (by decide) ?_
      refine lv_iload_n S.1 S.2.1 dX5_componentsOf_34 rfl (lv_at hl 4 rfl) ?_
      refine lv_imul S.1 S.2.1 dX5_componentsOf_35 ?_
      refine nt_i (y := nI (3 * sk)) (pk_mul 3 sk) ?_
      refine lv_iadd S.1 S.2.1 dX5_componentsOf_36 ?_
      refine nt_i (y := nI ((36 * i16) + (3 * sk))) (nI_add (36 * i16) (3 * sk)) ?_
      refine lv_iload_n S.1 S.2.1 dX5_componentsOf_37 rfl (lv_at hl 1 rfl) ?_
      refine lv_iadd S.1 S.2.1 dX5_componentsOf_38 ?_
      refine nt_i (y := nI (((36 * i16) + (3 * sk)) + i4)) (nI_add ((36 * i16) + (3 * sk)) i4) ?_
      refine mr_iald S K N 17 (by decide) (by decide) rfl (v := (((it16_X5_componentsOf (up2 (up2 (up2 (up2 ((it4_X5_componentsOf M sk i4).2) 0 19 0) 0 20 0) 0 21 99) 0 22 (-99)) sk i4 i16)) 17 (((36 * i16) + (3 * sk)) + i4))) (vp_in_nI (show (((36 * i16) + (3 * sk)) + i4) < mlen 17 by show _ < 252; omega) (by decide)) (congrArg (((it16_X5_componentsOf (up2 (up2 (up2 (up2 ((it4_X5_componentsOf M sk i4).2) 0 19 0) 0 20 0) 0 21 99) 0 22 (-99)) sk i4 i16)) 17) (nI_clamp (show (((36 * i16) + (3 * sk)) + i4) < 2 ^ 31 by omega))) dX5_componentsOf_39 ?_
      refine mc_wV S K N hS rfl (As := [.int (((it16_X5_componentsOf (up2 (up2 (up2 (up2 ((it4_X5_componentsOf M sk i4).2) 0 19 0) 0 20 0) 0 21 99) 0 22 (-99)) sk i4 i16)) 17 (((36 * i16) + (3 * sk)) + i4))]) (m_X5_counts l ((it16_X5_componentsOf (up2 (up2 (up2 (up2 ((it4_X5_componentsOf M sk i4).2) 0 19 0) 0 20 0) 0 21 99) 0 22 (-99)) sk i4 i16)) (((it16_X5_componentsOf (up2 (up2 (up2 (up2 ((it4_X5_componentsOf M sk i4).2) 0 19 0) 0 20 0) 0 21 99) 0 22 (-99)) sk i4 i16)) 17 (((36 * i16) + (3 * sk)) + i4)) N) k4_79 k4_81 kS_29 k1_3 k4_82 (num := 1) (by decide +kernel) rfl ⟨Nat.le_of_ble_eq_true rfl, Nat.le_of_ble_eq_true rfl⟩ hl.1 rfl (Nat.le_of_ble_eq_true rfl) dX5_componentsOf_40 ⟨Nat.le_of_ble_eq_true rfl, Nat.le_of_ble_eq_true rfl⟩ (fun v9 H locs hP hS => ?_)
      obtain ⟨rfl, N⟩ := hP
      refine W.eq (g2 := F0 m 43 ls []) rfl ?_
      refine lv_iinc (v := nI (i16 + 1)) (lv' := [(4, .int (nI (i16 + 1))), (3, .int (nI i4)), (2, .int ((it4_X5_componentsOf M sk i4).1)), (0, .ref (ad 5)), (1, .int (nI sk))]) S.1 S.2.1 dX5_componentsOf_43 hl (k := 0) rfl (nI_add i16 1) (by decide) rfl (fun ls hl => ?_)
      refine lv_goto (tgt := 16) S.1 S.2.1 dX5_componentsOf_46 (by decide) ?_
      have hstep : (it16_X5_componentsOf (up2 (up2 (up2 (up2 ((it4_X5_componentsOf M sk i4).2) 0 19 0) 0 20 0) 0 21 99) 0 22 (-99)) sk i4 (i16 + 1)) = (g_X5_counts ((it16_X5_componentsOf (up2 (up2 (up2 (up2 ((it4_X5_componentsOf M sk i4).2) 0 19 0) 0 20 0) 0 21 99) 0 22 (-99)) sk i4 i16)) (((it16_X5_componentsOf (up2 (up2 (up2 (up2 ((it4_X5_componentsOf M sk i4).2) 0 19 0) 0 20 0) 0 21 99) 0 22 (-99)) sk i4 i16)) 17 (((36 * i16) + (3 * sk)) + i4))) := by rw [it16_X5_componentsOf]
      refine ih16 ls _ _ (by (try dsimp only); (try rw [hstep]); (try dsimp only); exact N) hS (by (try dsimp only); (try rw [hstep]); (try dsimp only); exact lv_sub hl [0, 1, 2, 3, 4] rfl)

theorem sq_it16c (M : Nat → Nat → Int32) (sk i : Nat) : ∀ k, sq M (it16_X5_componentsOf M sk i k) := by
  intro k
  induction k with
  | zero => exact sq_refl M
  | succ k ih =>
    rw [it16_X5_componentsOf]
    exact sq_trans ih (cs_sq _ _)
theorem sq_it4c (M : Nat → Nat → Int32) (sk : Nat) : ∀ k, sq M (it4_X5_componentsOf M sk k).2 := by
  intro k
  induction k with
  | zero => exact sq_refl M
  | succ k ih =>
    rw [it4_X5_componentsOf]
    dsimp only
    exact sq_trans ih (sq_trans (cl_sq _) (sq_it16c _ _ _ _))
theorem sq_X5_componentsOf {M : Nat → Nat → Int32} {sk : Nat} : sq M (g_X5_componentsOf M sk) := sq_it4c M sk 3
theorem st_it16c {M M1 : Nat → Nat → Int32} (h : sr M M1) (h0 : stq M M1) (sk i : Nat) : ∀ k, stq (it16_X5_componentsOf M sk i k) (it16_X5_componentsOf M1 sk i k) := by
  intro k
  induction k with
  | zero => exact h0
  | succ k ih =>
    have e1 : it16_X5_componentsOf M sk i k 17 = M 17 := funext fun j => sq_it16c M sk i k 17 j (fun z => absurd z (by decide))
    have e2 : it16_X5_componentsOf M1 sk i k 17 = M1 17 := funext fun j => sq_it16c M1 sk i k 17 j (fun z => absurd z (by decide))
    rw [it16_X5_componentsOf, it16_X5_componentsOf, e1, e2, sr_e h 16]
    exact st_counts ih _
theorem sr_cl {M M1 : Nat → Nat → Int32} (h : sr M M1) : sr (up2 (up2 (up2 (up2 M 0 19 0) 0 20 0) 0 21 99) 0 22 (-99)) (up2 (up2 (up2 (up2 M1 0 19 0) 0 20 0) 0 21 99) 0 22 (-99)) := by
  intro a j q
  rw [cl_sq M1 a j (fun z => (q z).2), cl_sq M a j (fun z => (q z).2)]
  exact h a j q
theorem cg_it4c {M M1 : Nat → Nat → Int32} (h : sr M M1) (sk : Nat) : ∀ k, (it4_X5_componentsOf M1 sk k).1 = (it4_X5_componentsOf M sk k).1 := by
  intro k
  induction k with
  | zero => rfl
  | succ k ih =>
    have hs : sr (it4_X5_componentsOf M sk k).2 (it4_X5_componentsOf M1 sk k).2 := by
      intro a j q
      rw [sq_it4c M1 sk k a j (fun z => (q z).2), sq_it4c M sk k a j (fun z => (q z).2)]
      exact h a j q
    rw [it4_X5_componentsOf, it4_X5_componentsOf]
    dsimp only
    rw [ih, st_trimmed (st_it16c (sr_cl hs) (st_clears _ _) sk k 7)]
theorem cg_X5_componentsOf {M M1 : Nat → Nat → Int32} (h : sr M M1) {sk : Nat} : f_X5_componentsOf M1 sk = f_X5_componentsOf M sk := cg_it4c h sk 3

def it4_X5_fineOf (M : Nat → Nat → Int32) (sk : Nat) : Nat → Int32
  | 0 => 0
  | n4 + 1 => ((it4_X5_fineOf M sk n4) + ((if (M 15 (12 * sk + n4)) = 0 then 0 else 1) : Int32))
def f_X5_fineOf (M : Nat → Nat → Int32) (sk : Nat) : Int32 :=
  if 3 ≤ (it4_X5_fineOf M sk (nE M sk)) then ((200 * (it4_X5_fineOf M sk (nE M sk))) - 200)
  else (100 * (it4_X5_fineOf M sk (nE M sk)))
set_option maxHeartbeats 4000000 in
set_option maxRecDepth 100000 in
theorem m_X5_fineOf {D : va_G} {cA : Nat → ClassId} {B : Nat} (l : Launch) {dom : Nat → Prop} {ad : Nat → Nat} {X : Nat → va_E} {H0 : Heap} (M : Nat → Nat → Int32) (sk : Nat) (N : mw D cA B dom ad X M H0) (hR : RI M) (hs : sk < 12) : MetR D cA B l yX5_fineOf cX5_fineOf 4 (some .int) 1 21 [.ref (ad 5), .int (nI sk)] H0 (some (.int (f_X5_fineOf M sk))) := by
  refine MetR.of (by decide) (Nat.le_of_ble_eq_true rfl) ?_
  intro p e s m args below meth c S hr hlk hh K ls hl
  subst hh
  have hS : va_S (fun q => B ≤ q) s.heap s.heap [] := va_S.rf
  have hl : lv_has ls 4 [(0, .ref (ad 5)), (1, .int (nI sk))] := hl
  have hle := hR.elLe sk hs
  refine lv_iconst (v := 0) S.1 S.2.1 dX5_fineOf_0 (by decide) ?_
  refine lv_istore_n (lv' := [(2, .int 0), (0, .ref (ad 5)), (1, .int (nI sk))]) S.1 S.2.1 dX5_fineOf_1 rfl hl (by decide) rfl (fun ls hl => ?_)
  refine lv_iconst (v := 0) S.1 S.2.1 dX5_fineOf_2 (by decide) ?_
  refine lv_istore_n (lv' := [(3, .int 0), (2, .int 0), (0, .ref (ad 5)), (1, .int (nI sk))]) S.1 S.2.1 dX5_fineOf_3 rfl hl (by decide) rfl (fun ls hl => ?_)
  refine nl (h := 4) (N := (nE M sk)) (n := 4) (L := fun i4 : Nat => [(3, .int (nI i4)), (2, .int (it4_X5_fineOf M sk i4)), (0, .ref (ad 5)), (1, .int (nI sk))]) (fun ls hl => ?_) (fun i4 hi4 ih4 ls hl => ?_) ls (lv_sub hl [0, 1, 2, 3] rfl)
  · try dsimp only at hl
    refine lv_iload_n S.1 S.2.1 dX5_fineOf_4 rfl (lv_at hl 0 rfl) ?_
    refine lv_aload_n S.1 S.2.1 dX5_fineOf_5 rfl (lv_at hl 2 rfl) ?_
    refine mr_get S K N 8 (by decide) k3_154 (v := .ref (ad 18)) rfl dX5_fineOf_6 ?_
    refine lv_iload_n S.1 S.2.1 dX5_fineOf_9 rfl (lv_at hl 3 rfl) ?_
    refine mr_iald S K N 8 (by decide) (by decide) rfl (v := (M 8 sk)) (vp_in_nI (show sk < mlen 8 by show _ < 12; omega) (by decide)) (congrArg (M 8) (nI_clamp (show sk < 2 ^ 31 by omega))) dX5_fineOf_10 ?_
    refine nt_i (y := nI (nE M sk)) (hR.el sk hs) ?_
    refine lv_icmp_ge (tgt := 41) S.1 S.2.1 dX5_fineOf_11 (by decide) (fun _ => ?_) (fun c9 => absurd (nI_le (Nat.le_refl _) (by first | omega | decide)) c9)
    refine lv_iload_n S.1 S.2.1 dX5_fineOf_41 rfl (lv_at hl 1 rfl) ?_
    refine lv_iconst (v := 3) S.1 S.2.1 dX5_fineOf_42 (by decide) ?_
    refine lv_icmp_ge (tgt := 53) S.1 S.2.1 dX5_fineOf_43 (by decide) (fun c43_1 => ?_) (fun c43_1 => ?_)
    · refine lv_sipush (v := 200) S.1 S.2.1 dX5_fineOf_53 (by decide) ?_
      refine lv_iload_n S.1 S.2.1 dX5_fineOf_56 rfl (lv_at hl 1 rfl) ?_
      refine lv_imul S.1 S.2.1 dX5_fineOf_57 ?_
      refine lv_sipush (v := 200) S.1 S.2.1 dX5_fineOf_58 (by decide) ?_
      refine lv_isub S.1 S.2.1 dX5_fineOf_61 ?_
      exact ee_rI S hr hlk (by unfold f_X5_fineOf; first | (rw [if_pos c43_1]; done) | (simp only [if_pos c43_1]; done) | rfl) dX5_fineOf_62
    · refine lv_bipush (v := 100) S.1 S.2.1 dX5_fineOf_46 (by decide) ?_
      refine lv_iload_n S.1 S.2.1 dX5_fineOf_48 rfl (lv_at hl 1 rfl) ?_
      refine lv_imul S.1 S.2.1 dX5_fineOf_49 ?_
      refine lv_goto (tgt := 62) S.1 S.2.1 dX5_fineOf_50 (by decide) ?_
      exact ee_rI S hr hlk (by unfold f_X5_fineOf; first | (rw [if_neg c43_1]; done) | (simp only [if_neg c43_1]; done) | rfl) dX5_fineOf_62
  · try dsimp only at hl
    refine lv_iload_n S.1 S.2.1 dX5_fineOf_4 rfl (lv_at hl 0 rfl) ?_
    refine lv_aload_n S.1 S.2.1 dX5_fineOf_5 rfl (lv_at hl 2 rfl) ?_
    refine mr_get S K N 8 (by decide) k3_154 (v := .ref (ad 18)) rfl dX5_fineOf_6 ?_
    refine lv_iload_n S.1 S.2.1 dX5_fineOf_9 rfl (lv_at hl 3 rfl) ?_
    refine mr_iald S K N 8 (by decide) (by decide) rfl (v := (M 8 sk)) (vp_in_nI (show sk < mlen 8 by show _ < 12; omega) (by decide)) (congrArg (M 8) (nI_clamp (show sk < 2 ^ 31 by omega))) dX5_fineOf_10 ?_
    refine nt_i (y := nI (nE M sk)) (hR.el sk hs) ?_
    refine lv_icmp_ge (tgt := 41) S.1 S.2.1 dX5_fineOf_11 (by decide) (fun c9 => absurd c9 (nI_ge (hi4) (by first | omega | decide))) (fun _ => ?_)
    refine lv_iload_n S.1 S.2.1 dX5_fineOf_14 rfl (lv_at hl 1 rfl) ?_
    refine lv_aload_n S.1 S.2.1 dX5_fineOf_15 rfl (lv_at hl 2 rfl) ?_
    refine mr_get S K N 15 (by decide) k3_161 (v := .ref (ad 25)) rfl dX5_fineOf_16 ?_
    refine lv_iload_n S.1 S.2.1 dX5_fineOf_19 rfl (lv_at hl 3 rfl) ?_
    refine lv_iload_n S.1 S.2.1 dX5_fineOf_20 rfl (lv_at hl 0 rfl) ?_
    refine nc_rS S K hS (As := [.int (nI sk), .int (nI i4)]) (m_X5_at l sk i4) k4_15 k4_16 k1_3 k4_17 (num := 2) (by decide +kernel) rfl ⟨Nat.le_of_ble_eq_true rfl, Nat.le_of_ble_eq_true rfl⟩ hl.1 rfl (Nat.le_of_ble_eq_true rfl) dX5_fineOf_21 ⟨Nat.le_of_ble_eq_true rfl, Nat.le_of_ble_eq_true rfl⟩ ?_
    refine nt_i (y := nI (12 * sk + i4)) (rfl) ?_
    refine mr_zald S K N 15 (by decide) (by decide) rfl (v := (M 15 (12 * sk + i4))) (vp_in_nI (show (12 * sk + i4) < mlen 15 by show _ < 144; omega) (by decide)) (congrArg (M 15) (nI_clamp (show (12 * sk + i4) < 2 ^ 31 by omega))) dX5_fineOf_24 ?_
    refine nj (J := 33) (V := ((if (M 15 (12 * sk + i4)) = 0 then 0 else 1) : Int32)) (L := fun v25_2 => [(3, .int (nI i4)), (2, .int (it4_X5_fineOf M sk i4)), (0, .ref (ad 5)), (1, .int (nI sk))]) (St := fun v25_2 => [.int v25_2, .int (it4_X5_fineOf M sk i4)]) (n := 4) (fun v25_2 ls h25_4 hl => ?_) (fun j25_3 => ?_)
    · try dsimp only at hl ⊢
      subst h25_4
      refine lv_iadd S.1 S.2.1 dX5_fineOf_33 ?_
      refine lv_istore_n (lv' := [(2, .int ((it4_X5_fineOf M sk i4) + ((if (M 15 (12 * sk + i4)) = 0 then 0 else 1) : Int32))), (3, .int (nI i4)), (0, .ref (ad 5)), (1, .int (nI sk))]) S.1 S.2.1 dX5_fineOf_34 rfl hl (by decide) rfl (fun ls hl => ?_)
      refine lv_iinc (v := nI (i4 + 1)) (lv' := [(3, .int (nI (i4 + 1))), (2, .int ((it4_X5_fineOf M sk i4) + ((if (M 15 (12 * sk + i4)) = 0 then 0 else 1) : Int32))), (0, .ref (ad 5)), (1, .int (nI sk))]) S.1 S.2.1 dX5_fineOf_35 hl (k := 1) rfl (nI_add i4 1) (by decide) rfl (fun ls hl => ?_)
      refine lv_goto (tgt := 4) S.1 S.2.1 dX5_fineOf_38 (by decide) ?_
      exact ih4 ls (lv_sub hl [0, 1, 2, 3] rfl)
    · refine lv_if_eq (tgt := 32) S.1 S.2.1 dX5_fineOf_25 (by decide) (fun c25_5 => ?_) (fun c25_5 => ?_)
      · refine lv_iconst (v := 0) S.1 S.2.1 dX5_fineOf_32 (by decide) ?_
        exact j25_3 _ _ (by first | (rw [if_pos c25_5]; done) | (simp only [if_pos c25_5]; done) | rfl) (lv_sub hl [0, 1, 2, 3] rfl)
      · refine lv_iconst (v := 1) S.1 S.2.1 dX5_fineOf_28 (by decide) ?_
        refine lv_goto (tgt := 33) S.1 S.2.1 dX5_fineOf_29 (by decide) ?_
        exact j25_3 _ _ (by first | (rw [if_neg c25_5]; done) | (simp only [if_neg c25_5]; done) | rfl) (lv_sub hl [0, 1, 2, 3] rfl)

theorem cg_X5_fineOf {M M1 : Nat → Nat → Int32} (h : sr M M1) {sk : Nat} : f_X5_fineOf M1 sk = f_X5_fineOf M sk := by
  have e15 : M1 15 = M 15 := sr_e h 14
  have k : ∀ i, it4_X5_fineOf M1 sk i = it4_X5_fineOf M sk i := by
    intro i
    induction i with
    | zero => rfl
    | succ i ih => simp only [it4_X5_fineOf, ih, e15]
  simp only [f_X5_fineOf, k, el_sr h]

def f_X5_totalOf (M : Nat → Nat → Int32) (sk : Nat) (ed : Nat) : Int32 :=
  if 0 ≤ (((f_X5_elementsOf M sk ed) + (f_X5_componentsOf M sk)) - (f_X5_fineOf M sk)) then (((f_X5_elementsOf M sk ed) + (f_X5_componentsOf M sk)) - (f_X5_fineOf M sk))
  else 0
def g_X5_totalOf (M : Nat → Nat → Int32) (sk : Nat) (ed : Nat) : Nat → Nat → Int32 :=
  M
set_option maxHeartbeats 4000000 in
set_option maxRecDepth 100000 in
theorem m_X5_totalOf {D : va_G} {cA : Nat → ClassId} {B : Nat} (l : Launch) {dom : Nat → Prop} {ad : Nat → Nat} {X : Nat → va_E} {H0 : Heap} (M : Nat → Nat → Int32) (sk : Nat) (ed : Nat) (N : mw D cA B dom ad X M H0) (hR : RI M) (hs : sk < 12) (he : ed < 3) : MetW D cA B l yX5_totalOf cX5_totalOf 4 (some .int) 4 104 0 0 [.ref (ad 5), .int (nI sk), .int (nI ed)] H0 (fun o h => o = some (.int (f_X5_totalOf M sk ed)) ∧ ∃ M1, sq (g_X5_totalOf M sk ed) M1 ∧ mw D cA B dom ad X M1 h) := by
  refine MetW.of (by decide) (Nat.le_of_ble_eq_true rfl) ?_
  intro p e s m args below meth c S hr hlk hin hh K ls hl
  subst hh
  have hS : va_S (fun q => B ≤ q) s.heap s.heap [] := va_S.rf
  have hl : lv_has ls 4 [(0, .ref (ad 5)), (1, .int (nI sk)), (2, .int (nI ed))] := hl
  refine lv_aload_n S.1 S.2.1 dX5_totalOf_0 rfl (lv_at hl 0 rfl) ?_
  refine lv_iload_n S.1 S.2.1 dX5_totalOf_1 rfl (lv_at hl 1 rfl) ?_
  refine lv_iload_n S.1 S.2.1 dX5_totalOf_2 rfl (lv_at hl 2 rfl) ?_
  refine mc_wV S K N hS rfl (As := [.int (nI sk), .int (nI ed)]) (m_X5_elementsOf l M sk ed N hR hs he) k4_92 k4_94 kS_31 k1_3 k4_95 (num := 2) (by decide +kernel) rfl ⟨Nat.le_of_ble_eq_true rfl, Nat.le_of_ble_eq_true rfl⟩ hl.1 rfl (Nat.le_of_ble_eq_true rfl) dX5_totalOf_3 ⟨Nat.le_of_ble_eq_true rfl, Nat.le_of_ble_eq_true rfl⟩ (fun v9 H locs hP hS => ?_)
  obtain ⟨rfl, M_1, hq_2, N⟩ := hP
  refine W.eq (g2 := F0 m 6 ls [.int (f_X5_elementsOf M sk ed)]) rfl ?_
  have hq_2 : sq M M_1 := sq_trans (sq_refl _) hq_2
  refine lv_aload_n S.1 S.2.1 dX5_totalOf_6 rfl (lv_at hl 0 rfl) ?_
  refine lv_iload_n S.1 S.2.1 dX5_totalOf_7 rfl (lv_at hl 1 rfl) ?_
  refine mc_wV S K N hS rfl (As := [.int (nI sk)]) (m_X5_componentsOf l M_1 sk N hs) k4_96 k4_98 kS_32 k1_3 k4_99 (num := 1) (by decide +kernel) rfl ⟨Nat.le_of_ble_eq_true rfl, Nat.le_of_ble_eq_true rfl⟩ hl.1 rfl (Nat.le_of_ble_eq_true rfl) dX5_totalOf_8 ⟨Nat.le_of_ble_eq_true rfl, Nat.le_of_ble_eq_true rfl⟩ (fun v9 H locs hP hS => ?_)
  obtain ⟨rfl, N⟩ := hP
  refine W.eq (g2 := F0 m 11 ls [.int (f_X5_componentsOf M_1 sk), .int (f_X5_elementsOf M sk ed)]) rfl ?_
  refine nt_i (y := (f_X5_componentsOf M sk)) (cg_X5_componentsOf (sr_0 hq_2)) ?_
  refine lv_iadd S.1 S.2.1 dX5_totalOf_11 ?_
  refine lv_aload_n S.1 S.2.1 dX5_totalOf_12 rfl (lv_at hl 0 rfl) ?_
  refine lv_iload_n S.1 S.2.1 dX5_totalOf_13 rfl (lv_at hl 1 rfl) ?_
  refine mc_rV S K N hS rfl (As := [.int (nI sk)]) (m_X5_fineOf l (g_X5_componentsOf M_1 sk) sk N (RI_sr (sr_0 (sq_trans hq_2 sq_X5_componentsOf)) hR) hs) k4_101 k4_103 kS_33 k1_3 k4_104 (num := 1) (by decide +kernel) rfl ⟨Nat.le_of_ble_eq_true rfl, Nat.le_of_ble_eq_true rfl⟩ hl.1 rfl (Nat.le_of_ble_eq_true rfl) dX5_totalOf_14 ⟨Nat.le_of_ble_eq_true rfl, Nat.le_of_ble_eq_true rfl⟩ ?_
  refine nt_i (y := (f_X5_fineOf M sk)) (cg_X5_fineOf (sr_0 (sq_trans hq_2 sq_X5_componentsOf))) ?_
  refine lv_isub S.1 S.2.1 dX5_totalOf_17 ?_
  refine lv_istore_n (lv' := [(3, .int (((f_X5_elementsOf M sk ed) + (f_X5_componentsOf M sk)) - (f_X5_fineOf M sk))), (0, .ref (ad 5)), (1, .int (nI sk)), (2, .int (nI ed))]) S.1 S.2.1 dX5_totalOf_18 rfl hl (by decide) rfl (fun ls hl => ?_)
  refine lv_iload_n S.1 S.2.1 dX5_totalOf_19 rfl (lv_at hl 0 rfl) ?_
  refine lv_if_ge (tgt := 27) S.1 S.2.1 dX5_totalOf_20 (by decide) (fun c20_3 => ?_) (fun c20_3 => ?_)
  · refine lv_iload_n S.1 S.2.1 dX5_totalOf_27 rfl (lv_at hl 0 rfl) ?_
    exact ne_wI S hS hr hlk ⟨congrArg (fun z => some (Value.int z)) (Eq.symm (by unfold f_X5_totalOf; first | (rw [if_pos c20_3]; done) | (simp only [if_pos c20_3]; done) | rfl)), ⟨_, (by unfold g_X5_totalOf; first | (rw [if_pos c20_3]; exact (sq_trans hq_2 sq_X5_componentsOf)) | (simp only [if_pos c20_3]; exact (sq_trans hq_2 sq_X5_componentsOf)) | exact (sq_trans hq_2 sq_X5_componentsOf)), N⟩⟩ dX5_totalOf_28
  · refine lv_iconst (v := 0) S.1 S.2.1 dX5_totalOf_23 (by decide) ?_
    refine lv_goto (tgt := 28) S.1 S.2.1 dX5_totalOf_24 (by decide) ?_
    exact ne_wI S hS hr hlk ⟨congrArg (fun z => some (Value.int z)) (Eq.symm (by unfold f_X5_totalOf; first | (rw [if_neg c20_3]; done) | (simp only [if_neg c20_3]; done) | rfl)), ⟨_, (by unfold g_X5_totalOf; first | (rw [if_neg c20_3]; exact (sq_trans hq_2 sq_X5_componentsOf)) | (simp only [if_neg c20_3]; exact (sq_trans hq_2 sq_X5_componentsOf)) | exact (sq_trans hq_2 sq_X5_componentsOf)), N⟩⟩ dX5_totalOf_28

theorem cg_X5_totalOf {M M1 : Nat → Nat → Int32} (h : sr M M1) {sk ed : Nat} : f_X5_totalOf M1 sk ed = f_X5_totalOf M sk ed := by
  simp only [f_X5_totalOf, cg_X5_elementsOf h, cg_X5_componentsOf h, cg_X5_fineOf h]

def f_X5_isAhead (M : Nat → Nat → Int32) (one : Nat) (other : Nat) (ed : Nat) : Int32 :=
  if ((f_X5_totalOf M one ed) - (f_X5_totalOf M other ed)) = 0 then (if 0 < ((f_X5_elementsOf M one ed) - (f_X5_elementsOf M other ed)) then 1
    else if ((f_X5_elementsOf M one ed) - (f_X5_elementsOf M other ed)) = 0 then (if (nI other) ≤ (nI one) then 0
      else 1)
    else 0)
  else if 0 < ((f_X5_totalOf M one ed) - (f_X5_totalOf M other ed)) then 1
  else 0
def g_X5_isAhead (M : Nat → Nat → Int32) (one : Nat) (other : Nat) (ed : Nat) : Nat → Nat → Int32 :=
  M
set_option maxHeartbeats 4000000 in
set_option maxRecDepth 100000 in
theorem m_X5_isAhead {D : va_G} {cA : Nat → ClassId} {B : Nat} (l : Launch) {dom : Nat → Prop} {ad : Nat → Nat} {X : Nat → va_E} {H0 : Heap} (M : Nat → Nat → Int32) (one : Nat) (other : Nat) (ed : Nat) (N : mw D cA B dom ad X M H0) (hR : RI M) (h1 : one < 12) (h2 : other < 12) (he : ed < 3) : MetW D cA B l yX5_isAhead cX5_isAhead 5 (some .boolean) 5 127 0 0 [.ref (ad 5), .int (nI one), .int (nI other), .int (nI ed)] H0 (fun o h => o = some (.int (f_X5_isAhead M one other ed)) ∧ ∃ M1, sq (g_X5_isAhead M one other ed) M1 ∧ mw D cA B dom ad X M1 h) := by
  refine MetW.of (by decide) (Nat.le_of_ble_eq_true rfl) ?_
  intro p e s m args below meth c S hr hlk hin hh K ls hl
  subst hh
  have hS : va_S (fun q => B ≤ q) s.heap s.heap [] := va_S.rf
  have hl : lv_has ls 5 [(0, .ref (ad 5)), (1, .int (nI one)), (2, .int (nI other)), (3, .int (nI ed))] := hl
  refine lv_aload_n S.1 S.2.1 dX5_isAhead_0 rfl (lv_at hl 0 rfl) ?_
  refine lv_iload_n S.1 S.2.1 dX5_isAhead_1 rfl (lv_at hl 1 rfl) ?_
  refine lv_iload_n S.1 S.2.1 dX5_isAhead_2 rfl (lv_at hl 3 rfl) ?_
  refine mc_wV S K N hS rfl (As := [.int (nI one), .int (nI ed)]) (m_X5_totalOf l M one ed N hR h1 he) k4_105 k4_107 kS_34 k1_3 k4_108 (num := 2) (by decide +kernel) rfl ⟨Nat.le_of_ble_eq_true rfl, Nat.le_of_ble_eq_true rfl⟩ hl.1 rfl (Nat.le_of_ble_eq_true rfl) dX5_isAhead_3 ⟨Nat.le_of_ble_eq_true rfl, Nat.le_of_ble_eq_true rfl⟩ (fun v9 H locs hP hS => ?_)
  obtain ⟨rfl, M_1, hq_2, N⟩ := hP
  refine W.eq (g2 := F0 m 6 ls [.int (f_X5_totalOf M one ed)]) rfl ?_
  have hq_2 : sq M M_1 := sq_trans (sq_refl _) hq_2
  refine lv_aload_n S.1 S.2.1 dX5_isAhead_6 rfl (lv_at hl 0 rfl) ?_
  refine lv_iload_n S.1 S.2.1 dX5_isAhead_7 rfl (lv_at hl 2 rfl) ?_
  refine lv_iload_n S.1 S.2.1 dX5_isAhead_8 rfl (lv_at hl 3 rfl) ?_
  refine mc_wV S K N hS rfl (As := [.int (nI other), .int (nI ed)]) (m_X5_totalOf l M_1 other ed N (RI_sr (sr_0 hq_2) hR) h2 he) k4_105 k4_107 kS_34 k1_3 k4_108 (num := 2) (by decide +kernel) rfl ⟨Nat.le_of_ble_eq_true rfl, Nat.le_of_ble_eq_true rfl⟩ hl.1 rfl (Nat.le_of_ble_eq_true rfl) dX5_isAhead_9 ⟨Nat.le_of_ble_eq_true rfl, Nat.le_of_ble_eq_true rfl⟩ (fun v9 H locs hP hS => ?_)
  obtain ⟨rfl, M_3, hq_4, N⟩ := hP
  refine W.eq (g2 := F0 m 12 ls [.int (f_X5_totalOf M_1 other ed), .int (f_X5_totalOf M one ed)]) rfl ?_
  refine nt_i (y := (f_X5_totalOf M other ed)) (cg_X5_totalOf (sr_0 hq_2)) ?_
  have hq_4 : sq M M_3 := sq_trans hq_2 hq_4
  refine lv_isub S.1 S.2.1 dX5_isAhead_12 ?_
  refine lv_istore (lv' := [(4, .int ((f_X5_totalOf M one ed) - (f_X5_totalOf M other ed))), (0, .ref (ad 5)), (1, .int (nI one)), (2, .int (nI other)), (3, .int (nI ed))]) S.1 S.2.1 dX5_isAhead_13 hl (by decide) rfl (fun ls hl => ?_)
  refine lv_iload S.1 S.2.1 dX5_isAhead_15 (lv_at hl 0 rfl) ?_
  refine lv_if_ne (tgt := 36) S.1 S.2.1 dX5_isAhead_17 (by decide) (fun c17_5 => ?_) (fun c17_5 => ?_)
  · refine lv_iload S.1 S.2.1 dX5_isAhead_36 (lv_at hl 0 rfl) ?_
    refine lv_istore (lv' := [(4, .int ((f_X5_totalOf M one ed) - (f_X5_totalOf M other ed))), (0, .ref (ad 5)), (1, .int (nI one)), (2, .int (nI other)), (3, .int (nI ed))]) S.1 S.2.1 dX5_isAhead_38 hl (by decide) rfl (fun ls hl => ?_)
    refine lv_iload S.1 S.2.1 dX5_isAhead_40 (lv_at hl 0 rfl) ?_
    refine lv_if_gt (tgt := 55) S.1 S.2.1 dX5_isAhead_42 (by decide) (fun c42_6 => ?_) (fun c42_6 => ?_)
    · refine lv_iconst (v := 1) S.1 S.2.1 dX5_isAhead_55 (by decide) ?_
      refine lv_goto (tgt := 60) S.1 S.2.1 dX5_isAhead_56 (by decide) ?_
      exact ne_wZ S hS hr hlk (zb_1) ⟨congrArg (fun z => some (Value.int z)) (Eq.symm (by unfold f_X5_isAhead; first | (rw [if_neg c17_5, if_pos c42_6]; done) | (simp only [if_neg c17_5, if_pos c42_6]; done) | rfl)), ⟨_, (by unfold g_X5_isAhead; first | (rw [if_neg c17_5, if_pos c42_6]; exact hq_4) | (simp only [if_neg c17_5, if_pos c42_6]; exact hq_4) | exact hq_4), N⟩⟩ dX5_isAhead_60
    · refine lv_iload S.1 S.2.1 dX5_isAhead_45 (lv_at hl 0 rfl) ?_
      refine lv_if_ne (tgt := 59) S.1 S.2.1 dX5_isAhead_47 (by decide) (fun _ => ?_) (fun c9 => absurd c9 (c17_5))
      refine lv_iconst (v := 0) S.1 S.2.1 dX5_isAhead_59 (by decide) ?_
      exact ne_wZ S hS hr hlk (zb_0) ⟨congrArg (fun z => some (Value.int z)) (Eq.symm (by unfold f_X5_isAhead; first | (rw [if_neg c17_5, if_neg c42_6]; done) | (simp only [if_neg c17_5, if_neg c42_6]; done) | rfl)), ⟨_, (by unfold g_X5_isAhead; first | (rw [if_neg c17_5, if_neg c42_6]; exact hq_4) | (simp only [if_neg c17_5, if_neg c42_6]; exact hq_4) | exact hq_4), N⟩⟩ dX5_isAhead_60
  · refine lv_aload_n S.1 S.2.1 dX5_isAhead_20 rfl (lv_at hl 1 rfl) ?_
    refine lv_iload_n S.1 S.2.1 dX5_isAhead_21 rfl (lv_at hl 2 rfl) ?_
    refine lv_iload_n S.1 S.2.1 dX5_isAhead_22 rfl (lv_at hl 4 rfl) ?_
    refine mc_wV S K N hS rfl (As := [.int (nI one), .int (nI ed)]) (m_X5_elementsOf l M_3 one ed N (RI_sr (sr_0 hq_4) hR) h1 he) k4_92 k4_94 kS_31 k1_3 k4_95 (num := 2) (by decide +kernel) rfl ⟨Nat.le_of_ble_eq_true rfl, Nat.le_of_ble_eq_true rfl⟩ hl.1 rfl (Nat.le_of_ble_eq_true rfl) dX5_isAhead_23 ⟨Nat.le_of_ble_eq_true rfl, Nat.le_of_ble_eq_true rfl⟩ (fun v9 H locs hP hS => ?_)
    obtain ⟨rfl, M_7, hq_8, N⟩ := hP
    refine W.eq (g2 := F0 m 26 ls [.int (f_X5_elementsOf M_3 one ed)]) rfl ?_
    refine nt_i (y := (f_X5_elementsOf M one ed)) (cg_X5_elementsOf (sr_0 hq_4)) ?_
    have hq_8 : sq M M_7 := sq_trans hq_4 hq_8
    refine lv_aload_n S.1 S.2.1 dX5_isAhead_26 rfl (lv_at hl 1 rfl) ?_
    refine lv_iload_n S.1 S.2.1 dX5_isAhead_27 rfl (lv_at hl 3 rfl) ?_
    refine lv_iload_n S.1 S.2.1 dX5_isAhead_28 rfl (lv_at hl 4 rfl) ?_
    refine mc_wV S K N hS rfl (As := [.int (nI other), .int (nI ed)]) (m_X5_elementsOf l M_7 other ed N (RI_sr (sr_0 hq_8) hR) h2 he) k4_92 k4_94 kS_31 k1_3 k4_95 (num := 2) (by decide +kernel) rfl ⟨Nat.le_of_ble_eq_true rfl, Nat.le_of_ble_eq_true rfl⟩ hl.1 rfl (Nat.le_of_ble_eq_true rfl) dX5_isAhead_29 ⟨Nat.le_of_ble_eq_true rfl, Nat.le_of_ble_eq_true rfl⟩ (fun v9 H locs hP hS => ?_)
    obtain ⟨rfl, M_9, hq_10, N⟩ := hP
    refine W.eq (g2 := F0 m 32 ls [.int (f_X5_elementsOf M_7 other ed), .int (f_X5_elementsOf M one ed)]) rfl ?_
    refine nt_i (y := (f_X5_elementsOf M other ed)) (cg_X5_elementsOf (sr_0 hq_8)) ?_
    have hq_10 : sq M M_9 := sq_trans hq_8 hq_10
    refine lv_isub S.1 S.2.1 dX5_isAhead_32 ?_
    refine lv_goto (tgt := 38) S.1 S.2.1 dX5_isAhead_33 (by decide) ?_
    refine lv_istore (lv' := [(4, .int ((f_X5_elementsOf M one ed) - (f_X5_elementsOf M other ed))), (0, .ref (ad 5)), (1, .int (nI one)), (2, .int (nI other)), (3, .int (nI ed))]) S.1 S.2.1 dX5_isAhead_38 hl (by decide) rfl (fun ls hl => ?_)
    refine lv_iload S.1 S.2.1 dX5_isAhead_40 (lv_at hl 0 rfl) ?_
    refine lv_if_gt (tgt := 55) S.1 S.2.1 dX5_isAhead_42 (by decide) (fun c42_11 => ?_) (fun c42_11 => ?_)
    · refine lv_iconst (v := 1) S.1 S.2.1 dX5_isAhead_55 (by decide) ?_
      refine lv_goto (tgt := 60) S.1 S.2.1 dX5_isAhead_56 (by decide) ?_
      exact ne_wZ S hS hr hlk (zb_1) ⟨congrArg (fun z => some (Value.int z)) (Eq.symm (by unfold f_X5_isAhead; first | (rw [if_pos c17_5, if_pos c42_11]; done) | (simp only [if_pos c17_5, if_pos c42_11]; done) | rfl)), ⟨_, (by unfold g_X5_isAhead; first | (rw [if_pos c17_5, if_pos c42_11]; exact hq_10) | (simp only [if_pos c17_5, if_pos c42_11]; exact hq_10) | exact hq_10), N⟩⟩ dX5_isAhead_60
    · refine lv_iload S.1 S.2.1 dX5_isAhead_45 (lv_at hl 0 rfl) ?_
      refine lv_if_ne (tgt := 59) S.1 S.2.1 dX5_isAhead_47 (by decide) (fun c47_12 => ?_) (fun c47_12 => ?_)
      · refine lv_iconst (v := 0) S.1 S.2.1 dX5_isAhead_59 (by decide) ?_
        exact ne_wZ S hS hr hlk (zb_0) ⟨congrArg (fun z => some (Value.int z)) (Eq.symm (by unfold f_X5_isAhead; first | (rw [if_pos c17_5, if_neg c42_11, if_neg c47_12]; done) | (simp only [if_pos c17_5, if_neg c42_11, if_neg c47_12]; done) | rfl)), ⟨_, (by unfold g_X5_isAhead; first | (rw [if_pos c17_5, if_neg c42_11, if_neg c47_12]; exact hq_10) | (simp only [if_pos c17_5, if_neg c42_11, if_neg c47_12]; exact hq_10) | exact hq_10), N⟩⟩ dX5_isAhead_60
      · refine lv_iload_n S.1 S.2.1 dX5_isAhead_50 rfl (lv_at hl 2 rfl) ?_
        refine lv_iload_n S.1 S.2.1 dX5_isAhead_51 rfl (lv_at hl 3 rfl) ?_
        refine lv_icmp_ge (tgt := 59) S.1 S.2.1 dX5_isAhead_52 (by decide) (fun c52_13 => ?_) (fun c52_13 => ?_)
        · refine lv_iconst (v := 0) S.1 S.2.1 dX5_isAhead_59 (by decide) ?_
          exact ne_wZ S hS hr hlk (zb_0) ⟨congrArg (fun z => some (Value.int z)) (Eq.symm (by unfold f_X5_isAhead; first | (rw [if_pos c17_5, if_neg c42_11, if_pos c47_12, if_pos c52_13]; done) | (simp only [if_pos c17_5, if_neg c42_11, if_pos c47_12, if_pos c52_13]; done) | rfl)), ⟨_, (by unfold g_X5_isAhead; first | (rw [if_pos c17_5, if_neg c42_11, if_pos c47_12, if_pos c52_13]; exact hq_10) | (simp only [if_pos c17_5, if_neg c42_11, if_pos c47_12, if_pos c52_13]; exact hq_10) | exact hq_10), N⟩⟩ dX5_isAhead_60
        · refine lv_iconst (v := 1) S.1 S.2.1 dX5_isAhead_55 (by decide) ?_
          refine lv_goto (tgt := 60) S.1 S.2.1 dX5_isAhead_56 (by decide) ?_
          exact ne_wZ S hS hr hlk (zb_1) ⟨congrArg (fun z => some (Value.int z)) (Eq.symm (by unfold f_X5_isAhead; first | (rw [if_pos c17_5, if_neg c42_11, if_pos c47_12, if_neg c52_13]; done) | (simp only [if_pos c17_5, if_neg c42_11, if_pos c47_12, if_neg c52_13]; done) | rfl)), ⟨_, (by unfold g_X5_isAhead; first | (rw [if_pos c17_5, if_neg c42_11, if_pos c47_12, if_neg c52_13]; exact hq_10) | (simp only [if_pos c17_5, if_neg c42_11, if_pos c47_12, if_neg c52_13]; exact hq_10) | exact hq_10), N⟩⟩ dX5_isAhead_60

theorem cg_X5_isAhead {M M1 : Nat → Nat → Int32} (h : sr M M1) {one other ed : Nat} : f_X5_isAhead M1 one other ed = f_X5_isAhead M one other ed := by
  simp only [f_X5_isAhead, cg_X5_totalOf h, cg_X5_elementsOf h]

def it5_X5_rankOf (M : Nat → Nat → Int32) (sk : Nat) (ed : Nat) : Nat → Int32
  | 0 => 0
  | n5 + 1 => (if (M 6 n5) = 2 then (if (nI n5) = (nI sk) then ((it5_X5_rankOf M sk ed n5) + 0) else (if (f_X5_isAhead M n5 sk ed) = 0 then ((it5_X5_rankOf M sk ed n5) + 0) else ((it5_X5_rankOf M sk ed n5) + 1))) else ((it5_X5_rankOf M sk ed n5) + 0))
def f_X5_rankOf (M : Nat → Nat → Int32) (sk : Nat) (ed : Nat) : Int32 :=
  if (M 6 sk) = 2 then (it5_X5_rankOf M sk ed (nS M))
  else (-1)
def g_X5_rankOf (M : Nat → Nat → Int32) (sk : Nat) (ed : Nat) : Nat → Nat → Int32 :=
  M
set_option maxHeartbeats 4000000 in
set_option maxRecDepth 100000 in
theorem m_X5_rankOf {D : va_G} {cA : Nat → ClassId} {B : Nat} (l : Launch) {dom : Nat → Prop} {ad : Nat → Nat} {X : Nat → va_E} {H0 : Heap} (M : Nat → Nat → Int32) (sk : Nat) (ed : Nat) (N : mw D cA B dom ad X M H0) (hR : RI M) (hs : sk < 12) (he : ed < 3) : MetW D cA B l yX5_rankOf cX5_rankOf 5 (some .int) 6 151 0 0 [.ref (ad 5), .int (nI sk), .int (nI ed)] H0 (fun o h => o = some (.int (f_X5_rankOf M sk ed)) ∧ ∃ M1, sq (g_X5_rankOf M sk ed) M1 ∧ mw D cA B dom ad X M1 h) := by
  refine MetW.of (by decide) (Nat.le_of_ble_eq_true rfl) ?_
  intro p e s m args below meth c S hr hlk hin hh K ls hl
  subst hh
  have hS : va_S (fun q => B ≤ q) s.heap s.heap [] := va_S.rf
  have hl : lv_has ls 5 [(0, .ref (ad 5)), (1, .int (nI sk)), (2, .int (nI ed))] := hl
  have hle := hR.manyLe
  refine lv_iconst (v := 0) S.1 S.2.1 dX5_rankOf_0 (by decide) ?_
  refine lv_istore_n (lv' := [(3, .int 0), (0, .ref (ad 5)), (1, .int (nI sk)), (2, .int (nI ed))]) S.1 S.2.1 dX5_rankOf_1 rfl hl (by decide) rfl (fun ls hl => ?_)
  refine lv_iconst (v := 0) S.1 S.2.1 dX5_rankOf_2 (by decide) ?_
  refine lv_istore (lv' := [(4, .int 0), (3, .int 0), (0, .ref (ad 5)), (1, .int (nI sk)), (2, .int (nI ed))]) S.1 S.2.1 dX5_rankOf_3 hl (by decide) rfl (fun ls hl => ?_)
  refine nlM (B := B) (h := 5) (N := (nS M)) (n := 5) (PH := fun (_ : Nat) (H : Heap) => ∃ M1, sq M M1 ∧ mw D cA B dom ad X M1 H) (L := fun i5 : Nat => [(4, .int (nI i5)), (3, .int (it5_X5_rankOf M sk ed i5)), (0, .ref (ad 5)), (1, .int (nI sk)), (2, .int (nI ed))]) (fun ls H locs N hS hl => ?_) (fun i5 hi5 ih5 ls H locs N hS hl => ?_) ls _ _ ⟨_, (sq_refl _), N⟩ hS (lv_sub hl [0, 1, 2, 3, 4] rfl)
  · try dsimp only at hl
    obtain ⟨M_1, hq_2, N⟩ := N
    refine lv_iload S.1 S.2.1 dX5_rankOf_5 (lv_at hl 0 rfl) ?_
    refine lv_aload_n S.1 S.2.1 dX5_rankOf_7 rfl (lv_at hl 2 rfl) ?_
    refine mr_get S K N 1 (by decide) k3_147 (v := .int (M_1 0 1)) rfl dX5_rankOf_8 ?_
    refine nt_i (y := (M 0 1)) ((hq_2 0 1 (by decide)).trans rfl) ?_
    refine nt_i (y := nI (nS M)) (hR.many) ?_
    refine lv_icmp_ge (tgt := 56) S.1 S.2.1 dX5_rankOf_11 (by decide) (fun _ => ?_) (fun c9 => absurd (nI_le (Nat.le_refl _) (by first | omega | decide)) c9)
    refine lv_aload_n S.1 S.2.1 dX5_rankOf_56 rfl (lv_at hl 2 rfl) ?_
    refine mr_get S K N 6 (by decide) k3_152 (v := .ref (ad 16)) rfl dX5_rankOf_57 ?_
    refine lv_iload_n S.1 S.2.1 dX5_rankOf_60 rfl (lv_at hl 3 rfl) ?_
    refine mr_iald S K N 6 (by decide) (by decide) rfl (v := (M_1 6 sk)) (vp_in_nI (show sk < mlen 6 by show _ < 12; omega) (by decide)) (congrArg (M_1 6) (nI_clamp (show sk < 2 ^ 31 by omega))) dX5_rankOf_61 ?_
    refine nt_i (y := (M 6 sk)) ((hq_2 6 sk (fun z9 => absurd z9 (by decide))).trans rfl) ?_
    refine lv_iconst (v := 2) S.1 S.2.1 dX5_rankOf_62 (by decide) ?_
    refine lv_icmp_ne (tgt := 70) S.1 S.2.1 dX5_rankOf_63 (by decide) (fun c63_3 => ?_) (fun c63_3 => ?_)
    · refine lv_iconst (v := (-1)) S.1 S.2.1 dX5_rankOf_70 (by decide) ?_
      exact ne_wI S hS hr hlk ⟨congrArg (fun z => some (Value.int z)) (Eq.symm (by unfold f_X5_rankOf; first | (rw [if_neg c63_3]; done) | (simp only [if_neg c63_3]; done) | rfl)), ⟨_, (by unfold g_X5_rankOf; first | (rw [if_neg c63_3]; exact hq_2) | (simp only [if_neg c63_3]; exact hq_2) | exact hq_2), N⟩⟩ dX5_rankOf_71
    · refine lv_iload_n S.1 S.2.1 dX5_rankOf_66 rfl (lv_at hl 1 rfl) ?_
      refine lv_goto (tgt := 71) S.1 S.2.1 dX5_rankOf_67 (by decide) ?_
      exact ne_wI S hS hr hlk ⟨congrArg (fun z => some (Value.int z)) (Eq.symm (by unfold f_X5_rankOf; first | (rw [if_pos c63_3]; done) | (simp only [if_pos c63_3]; done) | rfl)), ⟨_, (by unfold g_X5_rankOf; first | (rw [if_pos c63_3]; exact hq_2) | (simp only [if_pos c63_3]; exact hq_2) | exact hq_2), N⟩⟩ dX5_rankOf_71
  · try dsimp only at hl
    obtain ⟨M_1, hq_2, N⟩ := N
    refine lv_iload S.1 S.2.1 dX5_rankOf_5 (lv_at hl 0 rfl) ?_
    refine lv_aload_n S.1 S.2.1 dX5_rankOf_7 rfl (lv_at hl 2 rfl) ?_
    refine mr_get S K N 1 (by decide) k3_147 (v := .int (M_1 0 1)) rfl dX5_rankOf_8 ?_
    refine nt_i (y := (M 0 1)) ((hq_2 0 1 (by decide)).trans rfl) ?_
    refine nt_i (y := nI (nS M)) (hR.many) ?_
    refine lv_icmp_ge (tgt := 56) S.1 S.2.1 dX5_rankOf_11 (by decide) (fun c9 => absurd c9 (nI_ge (hi5) (by first | omega | decide))) (fun _ => ?_)
    refine lv_iload_n S.1 S.2.1 dX5_rankOf_14 rfl (lv_at hl 1 rfl) ?_
    refine lv_aload_n S.1 S.2.1 dX5_rankOf_15 rfl (lv_at hl 2 rfl) ?_
    refine mr_get S K N 6 (by decide) k3_152 (v := .ref (ad 16)) rfl dX5_rankOf_16 ?_
    refine lv_iload S.1 S.2.1 dX5_rankOf_19 (lv_at hl 0 rfl) ?_
    refine mr_iald S K N 6 (by decide) (by decide) rfl (v := (M_1 6 i5)) (vp_in_nI (show i5 < mlen 6 by show _ < 12; omega) (by decide)) (congrArg (M_1 6) (nI_clamp (show i5 < 2 ^ 31 by omega))) dX5_rankOf_21 ?_
    refine nt_i (y := (M 6 i5)) ((hq_2 6 i5 (fun z9 => absurd z9 (by decide))).trans rfl) ?_
    refine lv_iconst (v := 2) S.1 S.2.1 dX5_rankOf_22 (by decide) ?_
    refine lv_icmp_ne (tgt := 47) S.1 S.2.1 dX5_rankOf_23 (by decide) (fun c23_4 => ?_) (fun c23_4 => ?_)
    · refine lv_iconst (v := 0) S.1 S.2.1 dX5_rankOf_47 (by decide) ?_
      refine lv_iadd S.1 S.2.1 dX5_rankOf_48 ?_
      refine lv_istore_n (lv' := [(3, .int ((it5_X5_rankOf M sk ed i5) + 0)), (4, .int (nI i5)), (0, .ref (ad 5)), (1, .int (nI sk)), (2, .int (nI ed))]) S.1 S.2.1 dX5_rankOf_49 rfl hl (by decide) rfl (fun ls hl => ?_)
      refine lv_iinc (v := nI (i5 + 1)) (lv' := [(4, .int (nI (i5 + 1))), (3, .int ((it5_X5_rankOf M sk ed i5) + 0)), (0, .ref (ad 5)), (1, .int (nI sk)), (2, .int (nI ed))]) S.1 S.2.1 dX5_rankOf_50 hl (k := 1) rfl (nI_add i5 1) (by decide) rfl (fun ls hl => ?_)
      refine lv_goto (tgt := 5) S.1 S.2.1 dX5_rankOf_53 (by decide) ?_
      have hstep : (it5_X5_rankOf M sk ed (i5 + 1)) = ((it5_X5_rankOf M sk ed i5) + 0) := by
        show (_ : _) = _
        simp only [it5_X5_rankOf, if_neg c23_4]
      refine ih5 ls _ _ ⟨_, hq_2, N⟩ hS (by rw [hstep]; exact lv_sub hl [0, 1, 2, 3, 4] rfl)
    · refine lv_iload S.1 S.2.1 dX5_rankOf_26 (lv_at hl 0 rfl) ?_
      refine lv_iload_n S.1 S.2.1 dX5_rankOf_28 rfl (lv_at hl 3 rfl) ?_
      refine lv_icmp_eq (tgt := 47) S.1 S.2.1 dX5_rankOf_29 (by decide) (fun c29_5 => ?_) (fun c29_5 => ?_)
      · refine lv_iconst (v := 0) S.1 S.2.1 dX5_rankOf_47 (by decide) ?_
        refine lv_iadd S.1 S.2.1 dX5_rankOf_48 ?_
        refine lv_istore_n (lv' := [(3, .int ((it5_X5_rankOf M sk ed i5) + 0)), (4, .int (nI i5)), (0, .ref (ad 5)), (1, .int (nI sk)), (2, .int (nI ed))]) S.1 S.2.1 dX5_rankOf_49 rfl hl (by decide) rfl (fun ls hl => ?_)
        refine lv_iinc (v := nI (i5 + 1)) (lv' := [(4, .int (nI (i5 + 1))), (3, .int ((it5_X5_rankOf M sk ed i5) + 0)), (0, .ref (ad 5)), (1, .int (nI sk)), (2, .int (nI ed))]) S.1 S.2.1 dX5_rankOf_50 hl (k := 1) rfl (nI_add i5 1) (by decide) rfl (fun ls hl => ?_)
        refine lv_goto (tgt := 5) S.1 S.2.1 dX5_rankOf_53 (by decide) ?_
        have hstep : (it5_X5_rankOf M sk ed (i5 + 1)) = ((it5_X5_rankOf M sk ed i5) + 0) := by
          show (_ : _) = _
          simp only [it5_X5_rankOf, if_pos c23_4, if_pos c29_5]
        refine ih5 ls _ _ ⟨_, hq_2, N⟩ hS (by rw [hstep]; exact lv_sub hl [0, 1, 2, 3, 4] rfl)
      · refine lv_aload_n S.1 S.2.1 dX5_rankOf_32 rfl (lv_at hl 2 rfl) ?_
        refine lv_iload S.1 S.2.1 dX5_rankOf_33 (lv_at hl 0 rfl) ?_
        refine lv_iload_n S.1 S.2.1 dX5_rankOf_35 rfl (lv_at hl 3 rfl) ?_
        refine lv_iload_n S.1 S.2.1 dX5_rankOf_36 rfl (lv_at hl 4 rfl) ?_
        refine mc_wV S K N hS rfl (As := [.int (nI i5), .int (nI sk), .int (nI ed)]) (m_X5_isAhead l M_1 i5 sk ed N (RI_sr (sr_0 hq_2) hR) (by omega) hs he) k4_113 k4_115 kS_36 k1_3 k4_116 (num := 3) (by decide +kernel) rfl ⟨Nat.le_of_ble_eq_true rfl, Nat.le_of_ble_eq_true rfl⟩ hl.1 rfl (Nat.le_of_ble_eq_true rfl) dX5_rankOf_37 ⟨Nat.le_of_ble_eq_true rfl, Nat.le_of_ble_eq_true rfl⟩ (fun v9 H locs hP hS => ?_)
        obtain ⟨rfl, M_6, hq_7, N⟩ := hP
        refine W.eq (g2 := F0 m 40 ls [.int (f_X5_isAhead M_1 i5 sk ed), .int (it5_X5_rankOf M sk ed i5)]) rfl ?_
        refine nt_i (y := (f_X5_isAhead M i5 sk ed)) (cg_X5_isAhead (sr_0 hq_2)) ?_
        have hq_7 : sq M M_6 := sq_trans hq_2 hq_7
        refine lv_if_eq (tgt := 47) S.1 S.2.1 dX5_rankOf_40 (by decide) (fun c40_8 => ?_) (fun c40_8 => ?_)
        · refine lv_iconst (v := 0) S.1 S.2.1 dX5_rankOf_47 (by decide) ?_
          refine lv_iadd S.1 S.2.1 dX5_rankOf_48 ?_
          refine lv_istore_n (lv' := [(3, .int ((it5_X5_rankOf M sk ed i5) + 0)), (4, .int (nI i5)), (0, .ref (ad 5)), (1, .int (nI sk)), (2, .int (nI ed))]) S.1 S.2.1 dX5_rankOf_49 rfl hl (by decide) rfl (fun ls hl => ?_)
          refine lv_iinc (v := nI (i5 + 1)) (lv' := [(4, .int (nI (i5 + 1))), (3, .int ((it5_X5_rankOf M sk ed i5) + 0)), (0, .ref (ad 5)), (1, .int (nI sk)), (2, .int (nI ed))]) S.1 S.2.1 dX5_rankOf_50 hl (k := 1) rfl (nI_add i5 1) (by decide) rfl (fun ls hl => ?_)
          refine lv_goto (tgt := 5) S.1 S.2.1 dX5_rankOf_53 (by decide) ?_
          have hstep : (it5_X5_rankOf M sk ed (i5 + 1)) = ((it5_X5_rankOf M sk ed i5) + 0) := by
            show (_ : _) = _
            simp only [it5_X5_rankOf, if_pos c23_4, if_neg c29_5, if_pos c40_8]
          refine ih5 ls _ _ ⟨_, hq_7, N⟩ hS (by rw [hstep]; exact lv_sub hl [0, 1, 2, 3, 4] rfl)
        · refine lv_iconst (v := 1) S.1 S.2.1 dX5_rankOf_43 (by decide) ?_
          refine lv_goto (tgt := 48) S.1 S.2.1 dX5_rankOf_44 (by decide) ?_
          refine lv_iadd S.1 S.2.1 dX5_rankOf_48 ?_
          refine lv_istore_n (lv' := [(3, .int ((it5_X5_rankOf M sk ed i5) + 1)), (4, .int (nI i5)), (0, .ref (ad 5)), (1, .int (nI sk)), (2, .int (nI ed))]) S.1 S.2.1 dX5_rankOf_49 rfl hl (by decide) rfl (fun ls hl => ?_)
          refine lv_iinc (v := nI (i5 + 1)) (lv' := [(4, .int (nI (i5 + 1))), (3, .int ((it5_X5_rankOf M sk ed i5) + 1)), (0, .ref (ad 5)), (1, .int (nI sk)), (2, .int (nI ed))]) S.1 S.2.1 dX5_rankOf_50 hl (k := 1) rfl (nI_add i5 1) (by decide) rfl (fun ls hl => ?_)
          refine lv_goto (tgt := 5) S.1 S.2.1 dX5_rankOf_53 (by decide) ?_
          have hstep : (it5_X5_rankOf M sk ed (i5 + 1)) = ((it5_X5_rankOf M sk ed i5) + 1) := by
            show (_ : _) = _
            simp only [it5_X5_rankOf, if_pos c23_4, if_neg c29_5, if_neg c40_8]
          refine ih5 ls _ _ ⟨_, hq_7, N⟩ hS (by rw [hstep]; exact lv_sub hl [0, 1, 2, 3, 4] rfl)

theorem cg_X5_rankOf {M M1 : Nat → Nat → Int32} (h : sr M M1) {sk ed : Nat} : f_X5_rankOf M1 sk ed = f_X5_rankOf M sk ed := by
  have e6 : M1 6 = M 6 := sr_e h 5
  have k : ∀ i, it5_X5_rankOf M1 sk ed i = it5_X5_rankOf M sk ed i := by
    intro i
    induction i with
    | zero => rfl
    | succ i ih => simp only [it5_X5_rankOf, ih, e6, cg_X5_isAhead h]
  simp only [f_X5_rankOf, k, e6, em_sr h]
