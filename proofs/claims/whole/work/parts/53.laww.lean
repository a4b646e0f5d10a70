/-! printed by wip/whole/gen/law_wrap.py: the contracts of the wrappers -/
set_option maxHeartbeats 4000000 in
theorem w_skater {D : va_G} {cA : Nat → ClassId} {B : Nat} (l : Launch) {dom : Nat → Prop} {ad : Nat → Nat} {X : Nat → va_E} {H0 : Heap} (C : Nat → Nat → Int32)  (i : Nat) (y : Int64) (N0 : ow D cA B dom ad X C y H0) (d_K : dK dom C) (hls : l.stackTraces = false) (hcnt : C 0 4 = nI i) (hle : i ≤ 12) (nd : i < 12 → ndP dom i) (had : i < 12 → adP ad i H0.size) (hok : (t_X4_skater C i) ∈ ([0, 3] : List Nat)) : MetH D cA B l yL_skater cL_skater 3 (some .int) [(0, 8, 11, 13)] 7 121 12 87 [.ref (ad 0), .ref (ad 6)] H0 (fun o h => ((t_X4_skater C i) = 0 → o = some (.int 0) ∧ ow D cA B (domP dom i) ad X (g_X4_skater C i) (f_X4_skater C i).toInt64 h) ∧ (¬ (t_X4_skater C i) = 0 → o = some (.int (codA (t_X4_skater C i))) ∧ ow D cA B dom ad X C y h)) := by
  obtain ⟨f9, hf9, h6, N⟩ := N0
  refine MetH.of (by decide) (Nat.le_of_ble_eq_true rfl) ?_
  intro p e s m args below meth c S hr hlk htab hh K Kx ls hl
  subst hh
  have hS : va_S (fun q => B ≤ q) s.heap s.heap [] := va_S.rf
  have hl : lv_has ls 3 [(0, .ref (ad 0)), (1, .ref (ad 6))] := hl
  refine lv_aload_n S.1 S.2.1 dL_skater_0 rfl (lv_at hl 1 rfl) ?_
  refine lv_iconst (v := 0) S.1 S.2.1 dL_skater_1 (by decide) ?_
  refine lv_aload_n S.1 S.2.1 dL_skater_2 rfl (lv_at hl 0 rfl) ?_
  refine kx_V (rest := [.int 0, .ref (ad 6)]) S K N hS (d_K.1 0 (by decide)) rfl (m_X4_skater l C i N ⟨d_K.1, trivial⟩ hls hcnt hle nd had) k1_132 k1_133 k1_134 k1_1 k1_135 (num := 0) (by decide +kernel) rfl ⟨Nat.le_of_ble_eq_true rfl, Nat.le_of_ble_eq_true rfl⟩ hl.1 rfl (Nat.le_of_ble_eq_true rfl) dL_skater_3 ⟨Nat.le_of_ble_eq_true rfl, Nat.le_of_ble_eq_true rfl⟩ (fun E9 ce q9 H1 locs1 hX g2 hce hcv hcl => ?_) (fun v9 H1 locs1 hP g2 => ?_)
  · obtain ⟨hE, hn, N1⟩ := hX
    generalize (t_X4_skater C i) = t9 at hok hE hn ⊢
    have ht : t9 = 3 := by
      simp only [List.mem_cons, List.not_mem_nil, or_false] at hok
      omega
    subst ht
    have hE : E9 = "java/lang/IllegalStateException" := hE
    subst hE
    refine vx_catch (own := RL) (name := "java/lang/IllegalStateException") S.2.2.2.1 [] ⟨0, 8, 11, 13⟩ [] htab (fun z hz => absurd hz List.not_mem_nil) (by decide) (by decide) (S.2.2.2.2 _ k1_131) (castE K (by decide)) hce hcv hcl ?_
    refine lv_astore_n S.1 S.2.1 dL_skater_11 rfl hl (by decide) rfl (fun ls hl => ?_)
    exact lw_cod S hr hlk g2 dL_skater_12 (by decide) dL_skater_13 ⟨fun z => absurd z (by decide), fun _ => ⟨rfl, f9, hf9, h6, N1⟩⟩
  · obtain ⟨rfl, N1, ht⟩ := hP
    exact lw_fin (tgt := 14) S K hr hlk g2 N1 (Or.inl h6) dL_skater_6 dL_skater_7 dL_skater_8 (by decide) dL_skater_14 dL_skater_15 (fun h hw => ⟨fun _ => ⟨rfl, hw⟩, fun z => absurd ht z⟩)
set_option maxHeartbeats 4000000 in
theorem w_begin {D : va_G} {cA : Nat → ClassId} {B : Nat} (l : Launch) {dom : Nat → Prop} {ad : Nat → Nat} {X : Nat → va_E} {H0 : Heap} (C : Nat → Nat → Int32) (p0 : Int32)  (y : Int64) (N0 : ow D cA B dom ad X C y H0) (d_K : dK dom C) (hls : l.stackTraces = false) (hgo : ¬ C 0 5 = (-1) → (C 0 5).toNatClampNeg < 12 ∧ ¬ C 1 (C 0 5).toNatClampNeg = 0) (hok : (t_X4_begin C p0) ∈ ([0, 1, 3] : List Nat)) : MetH D cA B l yL_begin cL_begin 3 (some .int) [(0, 5, 8, 19), (0, 5, 11, 13)] 7 104 1 6 [.ref (ad 0), .int p0] H0 (fun o h => ((t_X4_begin C p0) = 0 → o = some (.int 0) ∧ ow D cA B dom ad X (g_X4_begin C p0) y h) ∧ (¬ (t_X4_begin C p0) = 0 → o = some (.int (codB (t_X4_begin C p0))) ∧ ow D cA B dom ad X C y h)) := by
  obtain ⟨f9, hf9, h6, N⟩ := N0
  refine MetH.of (by decide) (Nat.le_of_ble_eq_true rfl) ?_
  intro p e s m args below meth c S hr hlk htab hh K Kx ls hl
  subst hh
  have hS : va_S (fun q => B ≤ q) s.heap s.heap [] := va_S.rf
  have hl : lv_has ls 3 [(0, .ref (ad 0)), (1, .int p0)] := hl
  refine lv_aload_n S.1 S.2.1 dL_begin_0 rfl (lv_at hl 0 rfl) ?_
  refine lv_iload_n S.1 S.2.1 dL_begin_1 rfl (lv_at hl 1 rfl) ?_
  refine kx_V (rest := []) S K N hS (d_K.1 0 (by decide)) rfl (m_X4_begin l C p0 N d_K hls hgo) k2_42 k2_43 k2_44 k1_1 k2_45 (num := 1) (by decide +kernel) rfl ⟨Nat.le_of_ble_eq_true rfl, Nat.le_of_ble_eq_true rfl⟩ hl.1 rfl (Nat.le_of_ble_eq_true rfl) dL_begin_2 ⟨Nat.le_of_ble_eq_true rfl, Nat.le_of_ble_eq_true rfl⟩ (fun E9 ce q9 H1 locs1 hX g2 hce hcv hcl => ?_) (fun v9 H1 locs1 hP g2 => ?_)
  · obtain ⟨hE, hn, N1⟩ := hX
    generalize (t_X4_begin C p0) = t9 at hok hE hn ⊢
    have ht : t9 = 1 ∨ t9 = 3 := by
      simp only [List.mem_cons, List.not_mem_nil, or_false] at hok
      omega
    rcases ht with rfl | rfl
    · have hE : E9 = "java/lang/IndexOutOfBoundsException" := hE
      subst hE
      refine vx_catch (own := RL) (name := "java/lang/IndexOutOfBoundsException") S.2.2.2.1 [] ⟨0, 5, 8, 19⟩ [⟨0, 5, 11, 13⟩] htab (fun z hz => absurd hz List.not_mem_nil) (by decide) (by decide) (S.2.2.2.2 _ k2_41) (castE K (by decide)) hce hcv hcl ?_
      refine lv_astore_n S.1 S.2.1 dL_begin_8 rfl hl (by decide) rfl (fun ls hl => ?_)
      exact lw_cod S hr hlk g2 dL_begin_9 (by decide) dL_begin_10 ⟨fun z => absurd z (by decide), fun _ => ⟨rfl, f9, hf9, h6, N1⟩⟩
    · have hE : E9 = "java/lang/IllegalStateException" := hE
      subst hE
      refine vx_catch (own := RL) (name := "java/lang/IllegalStateException") S.2.2.2.1 [⟨0, 5, 8, 19⟩] ⟨0, 5, 11, 13⟩ [] htab (fun z hz => by cases List.mem_singleton.mp hz; exact Or.inr ⟨by decide, "java/lang/IndexOutOfBoundsException", S.2.2.2.2 _ k2_41, Kx.1⟩) (by decide) (by decide) (S.2.2.2.2 _ k1_131) (castE K (by decide)) hce hcv hcl ?_
      refine lv_astore_n S.1 S.2.1 dL_begin_11 rfl hl (by decide) rfl (fun ls hl => ?_)
      exact lw_cod S hr hlk g2 dL_begin_12 (by decide) dL_begin_13 ⟨fun z => absurd z (by decide), fun _ => ⟨rfl, f9, hf9, h6, N1⟩⟩
  · obtain ⟨rfl, N1, ht⟩ := hP
    refine lv_goto (tgt := 14) S.1 S.2.1 dL_begin_5 (by decide) ?_
    exact lw_cod S hr hlk g2 dL_begin_14 (by decide) dL_begin_15 ⟨fun _ => ⟨rfl, f9, hf9, h6, N1⟩, fun z => absurd ht z⟩
set_option maxHeartbeats 4000000 in
theorem w_turn {D : va_G} {cA : Nat → ClassId} {B : Nat} (l : Launch) {dom : Nat → Prop} {ad : Nat → Nat} {X : Nat → va_E} {H0 : Heap} (C : Nat → Nat → Int32) (p0 : Int32)  (y : Int64) (N0 : ow D cA B dom ad X C y H0) (d_K : dK dom C) (hls : l.stackTraces = false) (hgo : ¬ C 0 5 = (-1) → (C 0 5).toNatClampNeg < 12 ∧ ¬ C 1 (C 0 5).toNatClampNeg = 0) (hok : (t_X4_turn C p0) ∈ ([0, 2, 3] : List Nat)) : MetH D cA B l yL_turn cL_turn 4 (some .int) [(0, 9, 12, 25), (0, 9, 15, 13)] 7 103 1 6 [.ref (ad 0), .int p0, .ref (ad 6)] H0 (fun o h => ((t_X4_turn C p0) = 0 → o = some (.int 0) ∧ ow D cA B dom ad X (g_X4_turn C p0) (f_X4_turn C p0).toInt64 h) ∧ (¬ (t_X4_turn C p0) = 0 → o = some (.int (codC (t_X4_turn C p0))) ∧ ow D cA B dom ad X C y h)) := by
  obtain ⟨f9, hf9, h6, N⟩ := N0
  refine MetH.of (by decide) (Nat.le_of_ble_eq_true rfl) ?_
  intro p e s m args below meth c S hr hlk htab hh K Kx ls hl
  subst hh
  have hS : va_S (fun q => B ≤ q) s.heap s.heap [] := va_S.rf
  have hl : lv_has ls 4 [(0, .ref (ad 0)), (1, .int p0), (2, .ref (ad 6))] := hl
  refine lv_aload_n S.1 S.2.1 dL_turn_0 rfl (lv_at hl 2 rfl) ?_
  refine lv_iconst (v := 0) S.1 S.2.1 dL_turn_1 (by decide) ?_
  refine lv_aload_n S.1 S.2.1 dL_turn_2 rfl (lv_at hl 0 rfl) ?_
  refine lv_iload_n S.1 S.2.1 dL_turn_3 rfl (lv_at hl 1 rfl) ?_
  refine kx_V (rest := [.int 0, .ref (ad 6)]) S K N hS (d_K.1 0 (by decide)) rfl (m_X4_turn l C p0 N d_K hls hgo) k2_71 k2_72 k2_73 k1_1 k2_74 (num := 1) (by decide +kernel) rfl ⟨Nat.le_of_ble_eq_true rfl, Nat.le_of_ble_eq_true rfl⟩ hl.1 rfl (Nat.le_of_ble_eq_true rfl) dL_turn_4 ⟨Nat.le_of_ble_eq_true rfl, Nat.le_of_ble_eq_true rfl⟩ (fun E9 ce q9 H1 locs1 hX g2 hce hcv hcl => ?_) (fun v9 H1 locs1 hP g2 => ?_)
  · obtain ⟨hE, hn, N1⟩ := hX
    generalize (t_X4_turn C p0) = t9 at hok hE hn ⊢
    have ht : t9 = 2 ∨ t9 = 3 := by
      simp only [List.mem_cons, List.not_mem_nil, or_false] at hok
      omega
    rcases ht with rfl | rfl
    · have hE : E9 = "java/lang/IllegalArgumentException" := hE
      subst hE
      refine vx_catch (own := RL) (name := "java/lang/IllegalArgumentException") S.2.2.2.1 [] ⟨0, 9, 12, 25⟩ [⟨0, 9, 15, 13⟩] htab (fun z hz => absurd hz List.not_mem_nil) (by decide) (by decide) (S.2.2.2.2 _ k2_70) (castE K (by decide)) hce hcv hcl ?_
      refine lv_astore_n S.1 S.2.1 dL_turn_12 rfl hl (by decide) rfl (fun ls hl => ?_)
      exact lw_cod S hr hlk g2 dL_turn_13 (by decide) dL_turn_14 ⟨fun z => absurd z (by decide), fun _ => ⟨rfl, f9, hf9, h6, N1⟩⟩
    · have hE : E9 = "java/lang/IllegalStateException" := hE
      subst hE
      refine vx_catch (own := RL) (name := "java/lang/IllegalStateException") S.2.2.2.1 [⟨0, 9, 12, 25⟩] ⟨0, 9, 15, 13⟩ [] htab (fun z hz => by cases List.mem_singleton.mp hz; exact Or.inr ⟨by decide, "java/lang/IllegalArgumentException", S.2.2.2.2 _ k2_70, Kx.2.1⟩) (by decide) (by decide) (S.2.2.2.2 _ k1_131) (castE K (by decide)) hce hcv hcl ?_
      refine lv_astore_n S.1 S.2.1 dL_turn_15 rfl hl (by decide) rfl (fun ls hl => ?_)
      exact lw_cod S hr hlk g2 dL_turn_16 (by decide) dL_turn_17 ⟨fun z => absurd z (by decide), fun _ => ⟨rfl, f9, hf9, h6, N1⟩⟩
  · obtain ⟨rfl, N1, ht⟩ := hP
    exact lw_fin (tgt := 18) S K hr hlk g2 N1 h6 dL_turn_7 dL_turn_8 dL_turn_9 (by decide) dL_turn_18 dL_turn_19 (fun h hw => ⟨fun _ => ⟨rfl, hw⟩, fun z => absurd ht z⟩)
set_option maxHeartbeats 4000000 in
theorem w_jump {D : va_G} {cA : Nat → ClassId} {B : Nat} (l : Launch) {dom : Nat → Prop} {ad : Nat → Nat} {X : Nat → va_E} {H0 : Heap} (C : Nat → Nat → Int32) (p0 : Int32) (p1 : Int32) (p2 : Int32) (i : Nat) (y : Int64) (N0 : ow D cA B dom ad X C y H0) (d_K : dK dom C) (hls : l.stackTraces = false) (hgo : ¬ C 0 5 = (-1) → (C 0 5).toNatClampNeg < 12 ∧ ¬ C 1 (C 0 5).toNatClampNeg = 0) (hcnt : C (40 + (C 0 5).toNatClampNeg) 8 = nI i) (hle : i ≤ 12) (nd : i < 12 → ndE dom (12 * (C 0 5).toNatClampNeg + i)) (had : i < 12 → adE ad (12 * (C 0 5).toNatClampNeg + i) H0.size) (z2 : p2 = 0 ∨ p2 = 1) (hok : (t_X4_jump C p0 p1 p2 i) ∈ ([0, 2, 3] : List Nat)) : MetH D cA B l yL_jump cL_jump 6 (some .int) [(0, 12, 15, 25), (0, 12, 19, 13)] 7 149 7 48 [.ref (ad 0), .int p0, .int p1, .int p2, .ref (ad 6)] H0 (fun o h => ((t_X4_jump C p0 p1 p2 i) = 0 → o = some (.int 0) ∧ ow D cA B (domE dom (12 * (C 0 5).toNatClampNeg + i)) ad X (g_X4_jump C p0 p1 p2 i) (f_X4_jump C p0 p1 p2 i).toInt64 h) ∧ (¬ (t_X4_jump C p0 p1 p2 i) = 0 → o = some (.int (codC (t_X4_jump C p0 p1 p2 i))) ∧ ow D cA B dom ad X C y h)) := by
  obtain ⟨f9, hf9, h6, N⟩ := N0
  refine MetH.of (by decide) (Nat.le_of_ble_eq_true rfl) ?_
  intro p e s m args below meth c S hr hlk htab hh K Kx ls hl
  subst hh
  have hS : va_S (fun q => B ≤ q) s.heap s.heap [] := va_S.rf
  have hl : lv_has ls 6 [(0, .ref (ad 0)), (1, .int p0), (2, .int p1), (3, .int p2), (4, .ref (ad 6))] := hl
  refine lv_aload S.1 S.2.1 dL_jump_0 (lv_at hl 4 rfl) ?_
  refine lv_iconst (v := 0) S.1 S.2.1 dL_jump_2 (by decide) ?_
  refine lv_aload_n S.1 S.2.1 dL_jump_3 rfl (lv_at hl 0 rfl) ?_
  refine lv_iload_n S.1 S.2.1 dL_jump_4 rfl (lv_at hl 1 rfl) ?_
  refine lv_iload_n S.1 S.2.1 dL_jump_5 rfl (lv_at hl 2 rfl) ?_
  refine lv_iload_n S.1 S.2.1 dL_jump_6 rfl (lv_at hl 3 rfl) ?_
  refine kx_V (rest := [.int 0, .ref (ad 6)]) S K N hS (d_K.1 0 (by decide)) rfl (m_X4_jump l C p0 p1 p2 i N d_K hls hgo hcnt hle nd had z2) k2_106 k2_107 k2_108 k1_1 k2_109 (num := 3) (by decide +kernel) rfl ⟨Nat.le_of_ble_eq_true rfl, Nat.le_of_ble_eq_true rfl⟩ hl.1 rfl (Nat.le_of_ble_eq_true rfl) dL_jump_7 ⟨Nat.le_of_ble_eq_true rfl, Nat.le_of_ble_eq_true rfl⟩ (fun E9 ce q9 H1 locs1 hX g2 hce hcv hcl => ?_) (fun v9 H1 locs1 hP g2 => ?_)
  · obtain ⟨hE, hn, N1⟩ := hX
    generalize (t_X4_jump C p0 p1 p2 i) = t9 at hok hE hn ⊢
    have ht : t9 = 2 ∨ t9 = 3 := by
      simp only [List.mem_cons, List.not_mem_nil, or_false] at hok
      omega
    rcases ht with rfl | rfl
    · have hE : E9 = "java/lang/IllegalArgumentException" := hE
      subst hE
      refine vx_catch (own := RL) (name := "java/lang/IllegalArgumentException") S.2.2.2.1 [] ⟨0, 12, 15, 25⟩ [⟨0, 12, 19, 13⟩] htab (fun z hz => absurd hz List.not_mem_nil) (by decide) (by decide) (S.2.2.2.2 _ k2_70) (castE K (by decide)) hce hcv hcl ?_
      refine lv_astore S.1 S.2.1 dL_jump_15 hl (by decide) rfl (fun ls hl => ?_)
      exact lw_cod S hr hlk g2 dL_jump_17 (by decide) dL_jump_18 ⟨fun z => absurd z (by decide), fun _ => ⟨rfl, f9, hf9, h6, N1⟩⟩
    · have hE : E9 = "java/lang/IllegalStateException" := hE
      subst hE
      refine vx_catch (own := RL) (name := "java/lang/IllegalStateException") S.2.2.2.1 [⟨0, 12, 15, 25⟩] ⟨0, 12, 19, 13⟩ [] htab (fun z hz => by cases List.mem_singleton.mp hz; exact Or.inr ⟨by decide, "java/lang/IllegalArgumentException", S.2.2.2.2 _ k2_70, Kx.2.1⟩) (by decide) (by decide) (S.2.2.2.2 _ k1_131) (castE K (by decide)) hce hcv hcl ?_
      refine lv_astore S.1 S.2.1 dL_jump_19 hl (by decide) rfl (fun ls hl => ?_)
      exact lw_cod S hr hlk g2 dL_jump_21 (by decide) dL_jump_22 ⟨fun z => absurd z (by decide), fun _ => ⟨rfl, f9, hf9, h6, N1⟩⟩
  · obtain ⟨rfl, N1, ht⟩ := hP
    exact lw_fin (tgt := 23) S K hr hlk g2 N1 (Or.inl h6) dL_jump_10 dL_jump_11 dL_jump_12 (by decide) dL_jump_23 dL_jump_24 (fun h hw => ⟨fun _ => ⟨rfl, hw⟩, fun z => absurd ht z⟩)
set_option maxHeartbeats 4000000 in
theorem w_spin {D : va_G} {cA : Nat → ClassId} {B : Nat} (l : Launch) {dom : Nat → Prop} {ad : Nat → Nat} {X : Nat → va_E} {H0 : Heap} (C : Nat → Nat → Int32) (p0 : Int32) (p1 : Int32) (i : Nat) (y : Int64) (N0 : ow D cA B dom ad X C y H0) (d_K : dK dom C) (hls : l.stackTraces = false) (hgo : ¬ C 0 5 = (-1) → (C 0 5).toNatClampNeg < 12 ∧ ¬ C 1 (C 0 5).toNatClampNeg = 0) (hcnt : C (40 + (C 0 5).toNatClampNeg) 8 = nI i) (hle : i ≤ 12) (nd : i < 12 → ndE dom (12 * (C 0 5).toNatClampNeg + i)) (had : i < 12 → adE ad (12 * (C 0 5).toNatClampNeg + i) H0.size) (hok : (t_X4_spin C p0 p1 i) ∈ ([0, 2, 3] : List Nat)) : MetH D cA B l yL_spin cL_spin 5 (some .int) [(0, 10, 13, 25), (0, 10, 17, 13)] 7 147 7 48 [.ref (ad 0), .int p0, .int p1, .ref (ad 6)] H0 (fun o h => ((t_X4_spin C p0 p1 i) = 0 → o = some (.int 0) ∧ ow D cA B (domE dom (12 * (C 0 5).toNatClampNeg + i)) ad X (g_X4_spin C p0 p1 i) (f_X4_spin C p0 p1 i).toInt64 h) ∧ (¬ (t_X4_spin C p0 p1 i) = 0 → o = some (.int (codC (t_X4_spin C p0 p1 i))) ∧ ow D cA B dom ad X C y h)) := by
  obtain ⟨f9, hf9, h6, N⟩ := N0
  refine MetH.of (by decide) (Nat.le_of_ble_eq_true rfl) ?_
  intro p e s m args below meth c S hr hlk htab hh K Kx ls hl
  subst hh
  have hS : va_S (fun q => B ≤ q) s.heap s.heap [] := va_S.rf
  have hl : lv_has ls 5 [(0, .ref (ad 0)), (1, .int p0), (2, .int p1), (3, .ref (ad 6))] := hl
  refine lv_aload_n S.1 S.2.1 dL_spin_0 rfl (lv_at hl 3 rfl) ?_
  refine lv_iconst (v := 0) S.1 S.2.1 dL_spin_1 (by decide) ?_
  refine lv_aload_n S.1 S.2.1 dL_spin_2 rfl (lv_at hl 0 rfl) ?_
  refine lv_iload_n S.1 S.2.1 dL_spin_3 rfl (lv_at hl 1 rfl) ?_
  refine lv_iload_n S.1 S.2.1 dL_spin_4 rfl (lv_at hl 2 rfl) ?_
  refine kx_V (rest := [.int 0, .ref (ad 6)]) S K N hS (d_K.1 0 (by decide)) rfl (m_X4_spin l C p0 p1 i N d_K hls hgo hcnt hle nd had) k2_186 k2_187 k2_188 k1_1 k2_189 (num := 2) (by decide +kernel) rfl ⟨Nat.le_of_ble_eq_true rfl, Nat.le_of_ble_eq_true rfl⟩ hl.1 rfl (Nat.le_of_ble_eq_true rfl) dL_spin_5 ⟨Nat.le_of_ble_eq_true rfl, Nat.le_of_ble_eq_true rfl⟩ (fun E9 ce q9 H1 locs1 hX g2 hce hcv hcl => ?_) (fun v9 H1 locs1 hP g2 => ?_)
  · obtain ⟨hE, hn, N1⟩ := hX
    generalize (t_X4_spin C p0 p1 i) = t9 at hok hE hn ⊢
    have ht : t9 = 2 ∨ t9 = 3 := by
      simp only [List.mem_cons, List.not_mem_nil, or_false] at hok
      omega
    rcases ht with rfl | rfl
    · have hE : E9 = "java/lang/IllegalArgumentException" := hE
      subst hE
      refine vx_catch (own := RL) (name := "java/lang/IllegalArgumentException") S.2.2.2.1 [] ⟨0, 10, 13, 25⟩ [⟨0, 10, 17, 13⟩] htab (fun z hz => absurd hz List.not_mem_nil) (by decide) (by decide) (S.2.2.2.2 _ k2_70) (castE K (by decide)) hce hcv hcl ?_
      refine lv_astore S.1 S.2.1 dL_spin_13 hl (by decide) rfl (fun ls hl => ?_)
      exact lw_cod S hr hlk g2 dL_spin_15 (by decide) dL_spin_16 ⟨fun z => absurd z (by decide), fun _ => ⟨rfl, f9, hf9, h6, N1⟩⟩
    · have hE : E9 = "java/lang/IllegalStateException" := hE
      subst hE
      refine vx_catch (own := RL) (name := "java/lang/IllegalStateException") S.2.2.2.1 [⟨0, 10, 13, 25⟩] ⟨0, 10, 17, 13⟩ [] htab (fun z hz => by cases List.mem_singleton.mp hz; exact Or.inr ⟨by decide, "java/lang/IllegalArgumentException", S.2.2.2.2 _ k2_70, Kx.2.1⟩) (by decide) (by decide) (S.2.2.2.2 _ k1_131) (castE K (by decide)) hce hcv hcl ?_
      refine lv_astore S.1 S.2.1 dL_spin_17 hl (by decide) rfl (fun ls hl => ?_)
      exact lw_cod S hr hlk g2 dL_spin_19 (by decide) dL_spin_20 ⟨fun z => absurd z (by decide), fun _ => ⟨rfl, f9, hf9, h6, N1⟩⟩
  · obtain ⟨rfl, N1, ht⟩ := hP
    exact lw_fin (tgt := 21) S K hr hlk g2 N1 (Or.inl h6) dL_spin_8 dL_spin_9 dL_spin_10 (by decide) dL_spin_21 dL_spin_22 (fun h hw => ⟨fun _ => ⟨rfl, hw⟩, fun z => absurd ht z⟩)
set_option maxHeartbeats 4000000 in
theorem w_end {D : va_G} {cA : Nat → ClassId} {B : Nat} (l : Launch) {dom : Nat → Prop} {ad : Nat → Nat} {X : Nat → va_E} {H0 : Heap} (C : Nat → Nat → Int32)   (y : Int64) (N0 : ow D cA B dom ad X C y H0) (d_K : dK dom C) (hls : l.stackTraces = false) (hgo : ¬ C 0 5 = (-1) → (C 0 5).toNatClampNeg < 12 ∧ ¬ C 1 (C 0 5).toNatClampNeg = 0) (hok : (t_X4_end C) ∈ ([0, 3] : List Nat)) : MetH D cA B l yL_end cL_end 3 (some .int) [(0, 8, 11, 13)] 7 103 1 6 [.ref (ad 0), .ref (ad 6)] H0 (fun o h => ((t_X4_end C) = 0 → o = some (.int 0) ∧ ow D cA B dom ad X (g_X4_end C) (f_X4_end C).toInt64 h) ∧ (¬ (t_X4_end C) = 0 → o = some (.int (codA (t_X4_end C))) ∧ ow D cA B dom ad X C y h)) := by
  obtain ⟨f9, hf9, h6, N⟩ := N0
  refine MetH.of (by decide) (Nat.le_of_ble_eq_true rfl) ?_
  intro p e s m args below meth c S hr hlk htab hh K Kx ls hl
  subst hh
  have hS : va_S (fun q => B ≤ q) s.heap s.heap [] := va_S.rf
  have hl : lv_has ls 3 [(0, .ref (ad 0)), (1, .ref (ad 6))] := hl
  refine lv_aload_n S.1 S.2.1 dL_end_0 rfl (lv_at hl 1 rfl) ?_
  refine lv_iconst (v := 0) S.1 S.2.1 dL_end_1 (by decide) ?_
  refine lv_aload_n S.1 S.2.1 dL_end_2 rfl (lv_at hl 0 rfl) ?_
  refine kx_V (rest := [.int 0, .ref (ad 6)]) S K N hS (d_K.1 0 (by decide)) rfl (m_X4_end l C N d_K hls hgo) k2_208 k2_209 k2_210 k1_1 k2_211 (num := 0) (by decide +kernel) rfl ⟨Nat.le_of_ble_eq_true rfl, Nat.le_of_ble_eq_true rfl⟩ hl.1 rfl (Nat.le_of_ble_eq_true rfl) dL_end_3 ⟨Nat.le_of_ble_eq_true rfl, Nat.le_of_ble_eq_true rfl⟩ (fun E9 ce q9 H1 locs1 hX g2 hce hcv hcl => ?_) (fun v9 H1 locs1 hP g2 => ?_)
  · obtain ⟨hE, hn, N1⟩ := hX
    generalize (t_X4_end C) = t9 at hok hE hn ⊢
    have ht : t9 = 3 := by
      simp only [List.mem_cons, List.not_mem_nil, or_false] at hok
      omega
    subst ht
    have hE : E9 = "java/lang/IllegalStateException" := hE
    subst hE
    refine vx_catch (own := RL) (name := "java/lang/IllegalStateException") S.2.2.2.1 [] ⟨0, 8, 11, 13⟩ [] htab (fun z hz => absurd hz List.not_mem_nil) (by decide) (by decide) (S.2.2.2.2 _ k1_131) (castE K (by decide)) hce hcv hcl ?_
    refine lv_astore_n S.1 S.2.1 dL_end_11 rfl hl (by decide) rfl (fun ls hl => ?_)
    exact lw_cod S hr hlk g2 dL_end_12 (by decide) dL_end_13 ⟨fun z => absurd z (by decide), fun _ => ⟨rfl, f9, hf9, h6, N1⟩⟩
  · obtain ⟨rfl, N1, ht⟩ := hP
    exact lw_fin (tgt := 14) S K hr hlk g2 N1 h6 dL_end_6 dL_end_7 dL_end_8 (by decide) dL_end_14 dL_end_15 (fun h hw => ⟨fun _ => ⟨rfl, hw⟩, fun z => absurd ht z⟩)
set_option maxHeartbeats 4000000 in
theorem w_call {D : va_G} {cA : Nat → ClassId} {B : Nat} (l : Launch) {dom : Nat → Prop} {ad : Nat → Nat} {X : Nat → va_E} {H0 : Heap} (C : Nat → Nat → Int32) (p0 : Int32) (p1 : Int32) (p2 : Int32)  (y : Int64) (N0 : ow D cA B dom ad X C y H0) (d_K : dK dom C) (hls : l.stackTraces = false) (hgo : ¬ C 0 5 = (-1) → (C 0 5).toNatClampNeg < 12 ∧ ¬ C 1 (C 0 5).toNatClampNeg = 0) (hok : (t_X4_call C p0 p1 p2) ∈ ([0, 1, 2, 3] : List Nat)) : MetH D cA B l yL_call cL_call 6 (some .int) [(0, 12, 15, 19), (0, 12, 19, 25), (0, 12, 23, 13)] 7 106 1 6 [.ref (ad 0), .int p0, .int p1, .int p2, .ref (ad 6)] H0 (fun o h => ((t_X4_call C p0 p1 p2) = 0 → o = some (.int 0) ∧ ow D cA B dom ad X (g_X4_call C p0 p1 p2) (f_X4_call C p0 p1 p2).toInt64 h) ∧ (¬ (t_X4_call C p0 p1 p2) = 0 → o = some (.int (codD (t_X4_call C p0 p1 p2))) ∧ ow D cA B dom ad X C y h)) := by
  obtain ⟨f9, hf9, h6, N⟩ := N0
  refine MetH.of (by decide) (Nat.le_of_ble_eq_true rfl) ?_
  intro p e s m args below meth c S hr hlk htab hh K Kx ls hl
  subst hh
  have hS : va_S (fun q => B ≤ q) s.heap s.heap [] := va_S.rf
  have hl : lv_has ls 6 [(0, .ref (ad 0)), (1, .int p0), (2, .int p1), (3, .int p2), (4, .ref (ad 6))] := hl
  refine lv_aload S.1 S.2.1 dL_call_0 (lv_at hl 4 rfl) ?_
  refine lv_iconst (v := 0) S.1 S.2.1 dL_call_2 (by decide) ?_
  refine lv_aload_n S.1 S.2.1 dL_call_3 rfl (lv_at hl 0 rfl) ?_
  refine lv_iload_n S.1 S.2.1 dL_call_4 rfl (lv_at hl 1 rfl) ?_
  refine lv_iload_n S.1 S.2.1 dL_call_5 rfl (lv_at hl 2 rfl) ?_
  refine lv_iload_n S.1 S.2.1 dL_call_6 rfl (lv_at hl 3 rfl) ?_
  refine kx_V (rest := [.int 0, .ref (ad 6)]) S K N hS (d_K.1 0 (by decide)) rfl (m_X4_call l C p0 p1 p2 N d_K hls hgo) k2_216 k2_217 k2_218 k1_1 k2_219 (num := 3) (by decide +kernel) rfl ⟨Nat.le_of_ble_eq_true rfl, Nat.le_of_ble_eq_true rfl⟩ hl.1 rfl (Nat.le_of_ble_eq_true rfl) dL_call_7 ⟨Nat.le_of_ble_eq_true rfl, Nat.le_of_ble_eq_true rfl⟩ (fun E9 ce q9 H1 locs1 hX g2 hce hcv hcl => ?_) (fun v9 H1 locs1 hP g2 => ?_)
  · obtain ⟨hE, hn, N1⟩ := hX
    generalize (t_X4_call C p0 p1 p2) = t9 at hok hE hn ⊢
    have ht : t9 = 1 ∨ t9 = 2 ∨ t9 = 3 := by
      simp only [List.mem_cons, List.not_mem_nil, or_false] at hok
      omega
    rcases ht with rfl | rfl | rfl
    · have hE : E9 = "java/lang/IndexOutOfBoundsException" := hE
      subst hE
      refine vx_catch (own := RL) (name := "java/lang/IndexOutOfBoundsException") S.2.2.2.1 [] ⟨0, 12, 15, 19⟩ [⟨0, 12, 19, 25⟩, ⟨0, 12, 23, 13⟩] htab (fun z hz => absurd hz List.not_mem_nil) (by decide) (by decide) (S.2.2.2.2 _ k2_41) (castE K (by decide)) hce hcv hcl ?_
      refine lv_astore S.1 S.2.1 dL_call_15 hl (by decide) rfl (fun ls hl => ?_)
      exact lw_cod S hr hlk g2 dL_call_17 (by decide) dL_call_18 ⟨fun z => absurd z (by decide), fun _ => ⟨rfl, f9, hf9, h6, N1⟩⟩
    · have hE : E9 = "java/lang/IllegalArgumentException" := hE
      subst hE
      refine vx_catch (own := RL) (name := "java/lang/IllegalArgumentException") S.2.2.2.1 [⟨0, 12, 15, 19⟩] ⟨0, 12, 19, 25⟩ [⟨0, 12, 23, 13⟩] htab (fun z hz => by cases List.mem_singleton.mp hz; exact Or.inr ⟨by decide, "java/lang/IndexOutOfBoundsException", S.2.2.2.2 _ k2_41, Kx.2.2⟩) (by decide) (by decide) (S.2.2.2.2 _ k2_70) (castE K (by decide)) hce hcv hcl ?_
      refine lv_astore S.1 S.2.1 dL_call_19 hl (by decide) rfl (fun ls hl => ?_)
      exact lw_cod S hr hlk g2 dL_call_21 (by decide) dL_call_22 ⟨fun z => absurd z (by decide), fun _ => ⟨rfl, f9, hf9, h6, N1⟩⟩
    · have hE : E9 = "java/lang/IllegalStateException" := hE
      subst hE
      refine vx_catch (own := RL) (name := "java/lang/IllegalStateException") S.2.2.2.1 [⟨0, 12, 15, 19⟩, ⟨0, 12, 19, 25⟩] ⟨0, 12, 23, 13⟩ [] htab (fun z hz => by
        simp only [List.mem_cons, List.not_mem_nil, or_false] at hz
        rcases hz with rfl | rfl
        · exact Or.inr ⟨by decide, "java/lang/IndexOutOfBoundsException", S.2.2.2.2 _ k2_41, Kx.1⟩
        · exact Or.inr ⟨by decide, "java/lang/IllegalArgumentException", S.2.2.2.2 _ k2_70, Kx.2.1⟩) (by decide) (by decide) (S.2.2.2.2 _ k1_131) (castE K (by decide)) hce hcv hcl ?_
      refine lv_astore S.1 S.2.1 dL_call_23 hl (by decide) rfl (fun ls hl => ?_)
      exact lw_cod S hr hlk g2 dL_call_25 (by decide) dL_call_26 ⟨fun z => absurd z (by decide), fun _ => ⟨rfl, f9, hf9, h6, N1⟩⟩
  · obtain ⟨rfl, N1, ht⟩ := hP
    exact lw_fin (tgt := 27) S K hr hlk g2 N1 h6 dL_call_10 dL_call_11 dL_call_12 (by decide) dL_call_27 dL_call_28 (fun h hw => ⟨fun _ => ⟨rfl, hw⟩, fun z => absurd ht z⟩)
set_option maxHeartbeats 4000000 in
theorem w_grade {D : va_G} {cA : Nat → ClassId} {B : Nat} (l : Launch) {dom : Nat → Prop} {ad : Nat → Nat} {X : Nat → va_E} {H0 : Heap} (C : Nat → Nat → Int32) (p0 : Int32) (p1 : Int32) (p2 : Int32) (p3 : Int32)  (y : Int64) (N0 : ow D cA B dom ad X C y H0) (d_K : dK dom C) (hls : l.stackTraces = false) (hok : (t_X4_grade C p0 p1 p2 p3) ∈ ([0, 1, 2, 3] : List Nat)) : MetH D cA B l yL_grade cL_grade 6 (some .int) [(0, 9, 12, 19), (0, 9, 16, 25), (0, 9, 20, 13)] 7 108 1 6 [.ref (ad 0), .int p0, .int p1, .int p2, .int p3] H0 (fun o h => ((t_X4_grade C p0 p1 p2 p3) = 0 → o = some (.int 0) ∧ ow D cA B dom ad X (g_X4_grade C p0 p1 p2 p3) y h) ∧ (¬ (t_X4_grade C p0 p1 p2 p3) = 0 → o = some (.int (codD (t_X4_grade C p0 p1 p2 p3))) ∧ ow D cA B dom ad X C y h)) := by
  obtain ⟨f9, hf9, h6, N⟩ := N0
  refine MetH.of (by decide) (Nat.le_of_ble_eq_true rfl) ?_
  intro p e s m args below meth c S hr hlk htab hh K Kx ls hl
  subst hh
  have hS : va_S (fun q => B ≤ q) s.heap s.heap [] := va_S.rf
  have hl : lv_has ls 6 [(0, .ref (ad 0)), (1, .int p0), (2, .int p1), (3, .int p2), (4, .int p3)] := hl
  refine lv_aload_n S.1 S.2.1 dL_grade_0 rfl (lv_at hl 0 rfl) ?_
  refine lv_iload_n S.1 S.2.1 dL_grade_1 rfl (lv_at hl 1 rfl) ?_
  refine lv_iload_n S.1 S.2.1 dL_grade_2 rfl (lv_at hl 2 rfl) ?_
  refine lv_iload_n S.1 S.2.1 dL_grade_3 rfl (lv_at hl 3 rfl) ?_
  refine lv_iload S.1 S.2.1 dL_grade_4 (lv_at hl 4 rfl) ?_
  refine kx_V (rest := []) S K N hS (d_K.1 0 (by decide)) rfl (m_X4_grade l C p0 p1 p2 p3 N d_K hls) k3_8 k3_9 k3_10 k1_1 k3_11 (num := 4) (by decide +kernel) rfl ⟨Nat.le_of_ble_eq_true rfl, Nat.le_of_ble_eq_true rfl⟩ hl.1 rfl (Nat.le_of_ble_eq_true rfl) dL_grade_6 ⟨Nat.le_of_ble_eq_true rfl, Nat.le_of_ble_eq_true rfl⟩ (fun E9 ce q9 H1 locs1 hX g2 hce hcv hcl => ?_) (fun v9 H1 locs1 hP g2 => ?_)
  · obtain ⟨hE, hn, N1⟩ := hX
    generalize (t_X4_grade C p0 p1 p2 p3) = t9 at hok hE hn ⊢
    have ht : t9 = 1 ∨ t9 = 2 ∨ t9 = 3 := by
      simp only [List.mem_cons, List.not_mem_nil, or_false] at hok
      omega
    rcases ht with rfl | rfl | rfl
    · have hE : E9 = "java/lang/IndexOutOfBoundsException" := hE
      subst hE
      refine vx_catch (own := RL) (name := "java/lang/IndexOutOfBoundsException") S.2.2.2.1 [] ⟨0, 9, 12, 19⟩ [⟨0, 9, 16, 25⟩, ⟨0, 9, 20, 13⟩] htab (fun z hz => absurd hz List.not_mem_nil) (by decide) (by decide) (S.2.2.2.2 _ k2_41) (castE K (by decide)) hce hcv hcl ?_
      refine lv_astore S.1 S.2.1 dL_grade_12 hl (by decide) rfl (fun ls hl => ?_)
      exact lw_cod S hr hlk g2 dL_grade_14 (by decide) dL_grade_15 ⟨fun z => absurd z (by decide), fun _ => ⟨rfl, f9, hf9, h6, N1⟩⟩
    · have hE : E9 = "java/lang/IllegalArgumentException" := hE
      subst hE
      refine vx_catch (own := RL) (name := "java/lang/IllegalArgumentException") S.2.2.2.1 [⟨0, 9, 12, 19⟩] ⟨0, 9, 16, 25⟩ [⟨0, 9, 20, 13⟩] htab (fun z hz => by cases List.mem_singleton.mp hz; exact Or.inr ⟨by decide, "java/lang/IndexOutOfBoundsException", S.2.2.2.2 _ k2_41, Kx.2.2⟩) (by decide) (by decide) (S.2.2.2.2 _ k2_70) (castE K (by decide)) hce hcv hcl ?_
      refine lv_astore S.1 S.2.1 dL_grade_16 hl (by decide) rfl (fun ls hl => ?_)
      exact lw_cod S hr hlk g2 dL_grade_18 (by decide) dL_grade_19 ⟨fun z => absurd z (by decide), fun _ => ⟨rfl, f9, hf9, h6, N1⟩⟩
    · have hE : E9 = "java/lang/IllegalStateException" := hE
      subst hE
      refine vx_catch (own := RL) (name := "java/lang/IllegalStateException") S.2.2.2.1 [⟨0, 9, 12, 19⟩, ⟨0, 9, 16, 25⟩] ⟨0, 9, 20, 13⟩ [] htab (fun z hz => by
        simp only [List.mem_cons, List.not_mem_nil, or_false] at hz
        rcases hz with rfl | rfl
        · exact Or.inr ⟨by decide, "java/lang/IndexOutOfBoundsException", S.2.2.2.2 _ k2_41, Kx.1⟩
        · exact Or.inr ⟨by decide, "java/lang/IllegalArgumentException", S.2.2.2.2 _ k2_70, Kx.2.1⟩) (by decide) (by decide) (S.2.2.2.2 _ k1_131) (castE K (by decide)) hce hcv hcl ?_
      refine lv_astore S.1 S.2.1 dL_grade_20 hl (by decide) rfl (fun ls hl => ?_)
      exact lw_cod S hr hlk g2 dL_grade_22 (by decide) dL_grade_23 ⟨fun z => absurd z (by decide), fun _ => ⟨rfl, f9, hf9, h6, N1⟩⟩
  · obtain ⟨rfl, N1, ht⟩ := hP
    refine lv_goto (tgt := 24) S.1 S.2.1 dL_grade_9 (by decide) ?_
    exact lw_cod S hr hlk g2 dL_grade_24 (by decide) dL_grade_25 ⟨fun _ => ⟨rfl, f9, hf9, h6, N1⟩, fun z => absurd ht z⟩
set_option maxHeartbeats 4000000 in
theorem w_component {D : va_G} {cA : Nat → ClassId} {B : Nat} (l : Launch) {dom : Nat → Prop} {ad : Nat → Nat} {X : Nat → va_E} {H0 : Heap} (C : Nat → Nat → Int32) (p0 : Int32) (p1 : Int32) (p2 : Int32) (p3 : Int32)  (y : Int64) (N0 : ow D cA B dom ad X C y H0) (d_K : dK dom C) (hls : l.stackTraces = false) (hok : (t_X4_component C p0 p1 p2 p3) ∈ ([0, 1, 2, 3] : List Nat)) : MetH D cA B l yL_component cL_component 6 (some .int) [(0, 9, 12, 19), (0, 9, 16, 25), (0, 9, 20, 13)] 7 108 1 6 [.ref (ad 0), .int p0, .int p1, .int p2, .int p3] H0 (fun o h => ((t_X4_component C p0 p1 p2 p3) = 0 → o = some (.int 0) ∧ ow D cA B dom ad X (g_X4_component C p0 p1 p2 p3) y h) ∧ (¬ (t_X4_component C p0 p1 p2 p3) = 0 → o = some (.int (codD (t_X4_component C p0 p1 p2 p3))) ∧ ow D cA B dom ad X C y h)) := by
  obtain ⟨f9, hf9, h6, N⟩ := N0
  refine MetH.of (by decide) (Nat.le_of_ble_eq_true rfl) ?_
  intro p e s m args below meth c S hr hlk htab hh K Kx ls hl
  subst hh
  have hS : va_S (fun q => B ≤ q) s.heap s.heap [] := va_S.rf
  have hl : lv_has ls 6 [(0, .ref (ad 0)), (1, .int p0), (2, .int p1), (3, .int p2), (4, .int p3)] := hl
  refine lv_aload_n S.1 S.2.1 dL_component_0 rfl (lv_at hl 0 rfl) ?_
  refine lv_iload_n S.1 S.2.1 dL_component_1 rfl (lv_at hl 1 rfl) ?_
  refine lv_iload_n S.1 S.2.1 dL_component_2 rfl (lv_at hl 2 rfl) ?_
  refine lv_iload_n S.1 S.2.1 dL_component_3 rfl (lv_at hl 3 rfl) ?_
  refine lv_iload S.1 S.2.1 dL_component_4 (lv_at hl 4 rfl) ?_
  refine kx_V (rest := []) S K N hS (d_K.1 0 (by decide)) rfl (m_X4_component l C p0 p1 p2 p3 N d_K hls) k3_18 k3_19 k3_20 k1_1 k3_21 (num := 4) (by decide +kernel) rfl ⟨Nat.le_of_ble_eq_true rfl, Nat.le_of_ble_eq_true rfl⟩ hl.1 rfl (Nat.le_of_ble_eq_true rfl) dL_component_6 ⟨Nat.le_of_ble_eq_true rfl, Nat.le_of_ble_eq_true rfl⟩ (fun E9 ce q9 H1 locs1 hX g2 hce hcv hcl => ?_) (fun v9 H1 locs1 hP g2 => ?_)
  · obtain ⟨hE, hn, N1⟩ := hX
    generalize (t_X4_component C p0 p1 p2 p3) = t9 at hok hE hn ⊢
    have ht : t9 = 1 ∨ t9 = 2 ∨ t9 = 3 := by
      simp only [List.mem_cons, List.not_mem_nil, or_false] at hok
      omega
    rcases ht with rfl | rfl | rfl
    · have hE : E9 = "java/lang/IndexOutOfBoundsException" := hE
      subst hE
      refine vx_catch (own := RL) (name := "java/lang/IndexOutOfBoundsException") S.2.2.2.1 [] ⟨0, 9, 12, 19⟩ [⟨0, 9, 16, 25⟩, ⟨0, 9, 20, 13⟩] htab (fun z hz => absurd hz List.not_mem_nil) (by decide) (by decide) (S.2.2.2.2 _ k2_41) (castE K (by decide)) hce hcv hcl ?_
      refine lv_astore S.1 S.2.1 dL_component_12 hl (by decide) rfl (fun ls hl => ?_)
      exact lw_cod S hr hlk g2 dL_component_14 (by decide) dL_component_15 ⟨fun z => absurd z (by decide), fun _ => ⟨rfl, f9, hf9, h6, N1⟩⟩
    · have hE : E9 = "java/lang/IllegalArgumentException" := hE
      subst hE
      refine vx_catch (own := RL) (name := "java/lang/IllegalArgumentException") S.2.2.2.1 [⟨0, 9, 12, 19⟩] ⟨0, 9, 16, 25⟩ [⟨0, 9, 20, 13⟩] htab (fun z hz => by cases List.mem_singleton.mp hz; exact Or.inr ⟨by decide, "java/lang/IndexOutOfBoundsException", S.2.2.2.2 _ k2_41, Kx.2.2⟩) (by decide) (by decide) (S.2.2.2.2 _ k2_70) (castE K (by decide)) hce hcv hcl ?_
      refine lv_astore S.1 S.2.1 dL_component_16 hl (by decide) rfl (fun ls hl => ?_)
      exact lw_cod S hr hlk g2 dL_component_18 (by decide) dL_component_19 ⟨fun z => absurd z (by decide), fun _ => ⟨rfl, f9, hf9, h6, N1⟩⟩
    · have hE : E9 = "java/lang/IllegalStateException" := hE
      subst hE
      refine vx_catch (own := RL) (name := "java/lang/IllegalStateException") S.2.2.2.1 [⟨0, 9, 12, 19⟩, ⟨0, 9, 16, 25⟩] ⟨0, 9, 20, 13⟩ [] htab (fun z hz => by
        simp only [List.mem_cons, List.not_mem_nil, or_false] at hz
        rcases hz with rfl | rfl
        · exact Or.inr ⟨by decide, "java/lang/IndexOutOfBoundsException", S.2.2.2.2 _ k2_41, Kx.1⟩
        · exact Or.inr ⟨by decide, "java/lang/IllegalArgumentException", S.2.2.2.2 _ k2_70, Kx.2.1⟩) (by decide) (by decide) (S.2.2.2.2 _ k1_131) (castE K (by decide)) hce hcv hcl ?_
      refine lv_astore S.1 S.2.1 dL_component_20 hl (by decide) rfl (fun ls hl => ?_)
      exact lw_cod S hr hlk g2 dL_component_22 (by decide) dL_component_23 ⟨fun z => absurd z (by decide), fun _ => ⟨rfl, f9, hf9, h6, N1⟩⟩
  · obtain ⟨rfl, N1, ht⟩ := hP
    refine lv_goto (tgt := 24) S.1 S.2.1 dL_component_9 (by decide) ?_
    exact lw_cod S hr hlk g2 dL_component_24 (by decide) dL_component_25 ⟨fun _ => ⟨rfl, f9, hf9, h6, N1⟩, fun z => absurd ht z⟩
set_option maxHeartbeats 4000000 in
theorem w_value {D : va_G} {cA : Nat → ClassId} {B : Nat} (l : Launch) {dom : Nat → Prop} {ad : Nat → Nat} {X : Nat → va_E} {H0 : Heap} (C : Nat → Nat → Int32) (p0 : Int32) (p1 : Int32) (p2 : Int32) (p3 : Int32)  (y : Int64) (N0 : ow D cA B dom ad X C y H0) (d_K : dK dom C) (hls : l.stackTraces = false) (hok : (t_X4_value C p0 p1 p2 p3) ∈ ([0, 2] : List Nat)) : MetH D cA B l yL_value cL_value 7 (some .int) [(0, 14, 17, 25)] 7 107 1 6 [.ref (ad 0), .int p0, .int p1, .int p2, .int p3, .ref (ad 6)] H0 (fun o h => ((t_X4_value C p0 p1 p2 p3) = 0 → o = some (.int 0) ∧ ow D cA B dom ad X (g_X4_value C p0 p1 p2 p3) (f_X4_value C p0 p1 p2 p3).toInt64 h) ∧ (¬ (t_X4_value C p0 p1 p2 p3) = 0 → o = some (.int (codA (t_X4_value C p0 p1 p2 p3))) ∧ ow D cA B dom ad X C y h)) := by
  obtain ⟨f9, hf9, h6, N⟩ := N0
  refine MetH.of (by decide) (Nat.le_of_ble_eq_true rfl) ?_
  intro p e s m args below meth c S hr hlk htab hh K Kx ls hl
  subst hh
  have hS : va_S (fun q => B ≤ q) s.heap s.heap [] := va_S.rf
  have hl : lv_has ls 7 [(0, .ref (ad 0)), (1, .int p0), (2, .int p1), (3, .int p2), (4, .int p3), (5, .ref (ad 6))] := hl
  refine lv_aload S.1 S.2.1 dL_value_0 (lv_at hl 5 rfl) ?_
  refine lv_iconst (v := 0) S.1 S.2.1 dL_value_2 (by decide) ?_
  refine lv_aload_n S.1 S.2.1 dL_value_3 rfl (lv_at hl 0 rfl) ?_
  refine lv_iload_n S.1 S.2.1 dL_value_4 rfl (lv_at hl 1 rfl) ?_
  refine lv_iload_n S.1 S.2.1 dL_value_5 rfl (lv_at hl 2 rfl) ?_
  refine lv_iload_n S.1 S.2.1 dL_value_6 rfl (lv_at hl 3 rfl) ?_
  refine lv_iload S.1 S.2.1 dL_value_7 (lv_at hl 4 rfl) ?_
  refine kx_V (rest := [.int 0, .ref (ad 6)]) S K N hS (d_K.1 0 (by decide)) rfl (m_X4_value l C p0 p1 p2 p3 N d_K hls) k3_30 k3_31 k3_32 k1_1 k3_33 (num := 4) (by decide +kernel) rfl ⟨Nat.le_of_ble_eq_true rfl, Nat.le_of_ble_eq_true rfl⟩ hl.1 rfl (Nat.le_of_ble_eq_true rfl) dL_value_9 ⟨Nat.le_of_ble_eq_true rfl, Nat.le_of_ble_eq_true rfl⟩ (fun E9 ce q9 H1 locs1 hX g2 hce hcv hcl => ?_) (fun v9 H1 locs1 hP g2 => ?_)
  · obtain ⟨hE, hn, N1⟩ := hX
    generalize (t_X4_value C p0 p1 p2 p3) = t9 at hok hE hn ⊢
    have ht : t9 = 2 := by
      simp only [List.mem_cons, List.not_mem_nil, or_false] at hok
      omega
    subst ht
    have hE : E9 = "java/lang/IllegalArgumentException" := hE
    subst hE
    refine vx_catch (own := RL) (name := "java/lang/IllegalArgumentException") S.2.2.2.1 [] ⟨0, 14, 17, 25⟩ [] htab (fun z hz => absurd hz List.not_mem_nil) (by decide) (by decide) (S.2.2.2.2 _ k2_70) (castE K (by decide)) hce hcv hcl ?_
    refine lv_astore S.1 S.2.1 dL_value_17 hl (by decide) rfl (fun ls hl => ?_)
    exact lw_cod S hr hlk g2 dL_value_19 (by decide) dL_value_20 ⟨fun z => absurd z (by decide), fun _ => ⟨rfl, f9, hf9, h6, N1⟩⟩
  · obtain ⟨rfl, N1, ht⟩ := hP
    exact lw_fin (tgt := 21) S K hr hlk g2 N1 h6 dL_value_12 dL_value_13 dL_value_14 (by decide) dL_value_21 dL_value_22 (fun h hw => ⟨fun _ => ⟨rfl, hw⟩, fun z => absurd ht z⟩)
set_option maxHeartbeats 4000000 in
theorem w_element {D : va_G} {cA : Nat → ClassId} {B : Nat} (l : Launch) {dom : Nat → Prop} {ad : Nat → Nat} {X : Nat → va_E} {H0 : Heap} (C : Nat → Nat → Int32) (p0 : Int32) (p1 : Int32) (p2 : Int32) (p3 : Int32)  (y : Int64) (N0 : ow D cA B dom ad X C y H0) (d_K : dK dom C) (hls : l.stackTraces = false) (hok : (t_X4_element C p0 p1 p2 p3) ∈ ([0, 1, 2] : List Nat)) : MetH D cA B l yL_element cL_element 7 (some .int) [(0, 14, 17, 19), (0, 14, 21, 25)] 7 109 1 6 [.ref (ad 0), .int p0, .int p1, .int p2, .int p3, .ref (ad 6)] H0 (fun o h => ((t_X4_element C p0 p1 p2 p3) = 0 → o = some (.int 0) ∧ ow D cA B dom ad X (g_X4_element C p0 p1 p2 p3) (f_X4_element C p0 p1 p2 p3).toInt64 h) ∧ (¬ (t_X4_element C p0 p1 p2 p3) = 0 → o = some (.int (codB (t_X4_element C p0 p1 p2 p3))) ∧ ow D cA B dom ad X C y h)) := by
  obtain ⟨f9, hf9, h6, N⟩ := N0
  refine MetH.of (by decide) (Nat.le_of_ble_eq_true rfl) ?_
  intro p e s m args below meth c S hr hlk htab hh K Kx ls hl
  subst hh
  have hS : va_S (fun q => B ≤ q) s.heap s.heap [] := va_S.rf
  have hl : lv_has ls 7 [(0, .ref (ad 0)), (1, .int p0), (2, .int p1), (3, .int p2), (4, .int p3), (5, .ref (ad 6))] := hl
  refine lv_aload S.1 S.2.1 dL_element_0 (lv_at hl 5 rfl) ?_
  refine lv_iconst (v := 0) S.1 S.2.1 dL_element_2 (by decide) ?_
  refine lv_aload_n S.1 S.2.1 dL_element_3 rfl (lv_at hl 0 rfl) ?_
  refine lv_iload_n S.1 S.2.1 dL_element_4 rfl (lv_at hl 1 rfl) ?_
  refine lv_iload_n S.1 S.2.1 dL_element_5 rfl (lv_at hl 2 rfl) ?_
  refine lv_iload_n S.1 S.2.1 dL_element_6 rfl (lv_at hl 3 rfl) ?_
  refine lv_iload S.1 S.2.1 dL_element_7 (lv_at hl 4 rfl) ?_
  refine kx_V (rest := [.int 0, .ref (ad 6)]) S K N hS (d_K.1 0 (by decide)) rfl (m_X4_element l C p0 p1 p2 p3 N d_K hls) k3_50 k3_51 k3_52 k1_1 k3_53 (num := 4) (by decide +kernel) rfl ⟨Nat.le_of_ble_eq_true rfl, Nat.le_of_ble_eq_true rfl⟩ hl.1 rfl (Nat.le_of_ble_eq_true rfl) dL_element_9 ⟨Nat.le_of_ble_eq_true rfl, Nat.le_of_ble_eq_true rfl⟩ (fun E9 ce q9 H1 locs1 hX g2 hce hcv hcl => ?_) (fun v9 H1 locs1 hP g2 => ?_)
  · obtain ⟨hE, hn, N1⟩ := hX
    generalize (t_X4_element C p0 p1 p2 p3) = t9 at hok hE hn ⊢
    have ht : t9 = 1 ∨ t9 = 2 := by
      simp only [List.mem_cons, List.not_mem_nil, or_false] at hok
      omega
    rcases ht with rfl | rfl
    · have hE : E9 = "java/lang/IndexOutOfBoundsException" := hE
      subst hE
      refine vx_catch (own := RL) (name := "java/lang/IndexOutOfBoundsException") S.2.2.2.1 [] ⟨0, 14, 17, 19⟩ [⟨0, 14, 21, 25⟩] htab (fun z hz => absurd hz List.not_mem_nil) (by decide) (by decide) (S.2.2.2.2 _ k2_41) (castE K (by decide)) hce hcv hcl ?_
      refine lv_astore S.1 S.2.1 dL_element_17 hl (by decide) rfl (fun ls hl => ?_)
      exact lw_cod S hr hlk g2 dL_element_19 (by decide) dL_element_20 ⟨fun z => absurd z (by decide), fun _ => ⟨rfl, f9, hf9, h6, N1⟩⟩
    · have hE : E9 = "java/lang/IllegalArgumentException" := hE
      subst hE
      refine vx_catch (own := RL) (name := "java/lang/IllegalArgumentException") S.2.2.2.1 [⟨0, 14, 17, 19⟩] ⟨0, 14, 21, 25⟩ [] htab (fun z hz => by cases List.mem_singleton.mp hz; exact Or.inr ⟨by decide, "java/lang/IndexOutOfBoundsException", S.2.2.2.2 _ k2_41, Kx.2.2⟩) (by decide) (by decide) (S.2.2.2.2 _ k2_70) (castE K (by decide)) hce hcv hcl ?_
      refine lv_astore S.1 S.2.1 dL_element_21 hl (by decide) rfl (fun ls hl => ?_)
      exact lw_cod S hr hlk g2 dL_element_23 (by decide) dL_element_24 ⟨fun z => absurd z (by decide), fun _ => ⟨rfl, f9, hf9, h6, N1⟩⟩
  · obtain ⟨rfl, N1, ht⟩ := hP
    exact lw_fin (tgt := 25) S K hr hlk g2 N1 h6 dL_element_12 dL_element_13 dL_element_14 (by decide) dL_element_25 dL_element_26 (fun h hw => ⟨fun _ => ⟨rfl, hw⟩, fun z => absurd ht z⟩)
set_option maxHeartbeats 4000000 in
theorem w_programme {D : va_G} {cA : Nat → ClassId} {B : Nat} (l : Launch) {dom : Nat → Prop} {ad : Nat → Nat} {X : Nat → va_E} {H0 : Heap} (C : Nat → Nat → Int32) (p0 : Int32) (p1 : Int32) (p2 : Int32)  (y : Int64) (N0 : ow D cA B dom ad X C y H0) (d_K : dK dom C) (hls : l.stackTraces = false) (hok : (t_X4_programme C p0 p1 p2) ∈ ([0, 1, 2] : List Nat)) : MetH D cA B l yL_programme cL_programme 6 (some .int) [(0, 12, 15, 19), (0, 12, 19, 25)] 7 144 1 6 [.ref (ad 0), .int p0, .int p1, .int p2, .ref (ad 6)] H0 (fun o h => ((t_X4_programme C p0 p1 p2) = 0 → o = some (.int 0) ∧ ow D cA B dom ad X (g_X4_programme C p0 p1 p2) (f_X4_programme C p0 p1 p2).toInt64 h) ∧ (¬ (t_X4_programme C p0 p1 p2) = 0 → o = some (.int (codB (t_X4_programme C p0 p1 p2))) ∧ ow D cA B dom ad X C y h)) := by
  obtain ⟨f9, hf9, h6, N⟩ := N0
  refine MetH.of (by decide) (Nat.le_of_ble_eq_true rfl) ?_
  intro p e s m args below meth c S hr hlk htab hh K Kx ls hl
  subst hh
  have hS : va_S (fun q => B ≤ q) s.heap s.heap [] := va_S.rf
  have hl : lv_has ls 6 [(0, .ref (ad 0)), (1, .int p0), (2, .int p1), (3, .int p2), (4, .ref (ad 6))] := hl
  refine lv_aload S.1 S.2.1 dL_programme_0 (lv_at hl 4 rfl) ?_
  refine lv_iconst (v := 0) S.1 S.2.1 dL_programme_2 (by decide) ?_
  refine lv_aload_n S.1 S.2.1 dL_programme_3 rfl (lv_at hl 0 rfl) ?_
  refine lv_iload_n S.1 S.2.1 dL_programme_4 rfl (lv_at hl 1 rfl) ?_
  refine lv_iload_n S.1 S.2.1 dL_programme_5 rfl (lv_at hl 2 rfl) ?_
  refine lv_iload_n S.1 S.2.1 dL_programme_6 rfl (lv_at hl 3 rfl) ?_
  refine kx_V (rest := [.int 0, .ref (ad 6)]) S K N hS (d_K.1 0 (by decide)) rfl (m_X4_programme l C p0 p1 p2 N d_K hls) k3_61 k3_62 k3_63 k1_1 k3_64 (num := 3) (by decide +kernel) rfl ⟨Nat.le_of_ble_eq_true rfl, Nat.le_of_ble_eq_true rfl⟩ hl.1 rfl (Nat.le_of_ble_eq_true rfl) dL_programme_7 ⟨Nat.le_of_ble_eq_true rfl, Nat.le_of_ble_eq_true rfl⟩ (fun E9 ce q9 H1 locs1 hX g2 hce hcv hcl => ?_) (fun v9 H1 locs1 hP g2 => ?_)
  · obtain ⟨hE, hn, N1⟩ := hX
    generalize (t_X4_programme C p0 p1 p2) = t9 at hok hE hn ⊢
    have ht : t9 = 1 ∨ t9 = 2 := by
      simp only [List.mem_cons, List.not_mem_nil, or_false] at hok
      omega
    rcases ht with rfl | rfl
    · have hE : E9 = "java/lang/IndexOutOfBoundsException" := hE
      subst hE
      refine vx_catch (own := RL) (name := "java/lang/IndexOutOfBoundsException") S.2.2.2.1 [] ⟨0, 12, 15, 19⟩ [⟨0, 12, 19, 25⟩] htab (fun z hz => absurd hz List.not_mem_nil) (by decide) (by decide) (S.2.2.2.2 _ k2_41) (castE K (by decide)) hce hcv hcl ?_
      refine lv_astore S.1 S.2.1 dL_programme_15 hl (by decide) rfl (fun ls hl => ?_)
      exact lw_cod S hr hlk g2 dL_programme_17 (by decide) dL_programme_18 ⟨fun z => absurd z (by decide), fun _ => ⟨rfl, f9, hf9, h6, N1⟩⟩
    · have hE : E9 = "java/lang/IllegalArgumentException" := hE
      subst hE
      refine vx_catch (own := RL) (name := "java/lang/IllegalArgumentException") S.2.2.2.1 [⟨0, 12, 15, 19⟩] ⟨0, 12, 19, 25⟩ [] htab (fun z hz => by cases List.mem_singleton.mp hz; exact Or.inr ⟨by decide, "java/lang/IndexOutOfBoundsException", S.2.2.2.2 _ k2_41, Kx.2.2⟩) (by decide) (by decide) (S.2.2.2.2 _ k2_70) (castE K (by decide)) hce hcv hcl ?_
      refine lv_astore S.1 S.2.1 dL_programme_19 hl (by decide) rfl (fun ls hl => ?_)
      exact lw_cod S hr hlk g2 dL_programme_21 (by decide) dL_programme_22 ⟨fun z => absurd z (by decide), fun _ => ⟨rfl, f9, hf9, h6, N1⟩⟩
  · obtain ⟨rfl, N1, ht⟩ := hP
    exact lw_fin (tgt := 23) S K hr hlk g2 N1 h6 dL_programme_10 dL_programme_11 dL_programme_12 (by decide) dL_programme_23 dL_programme_24 (fun h hw => ⟨fun _ => ⟨rfl, hw⟩, fun z => absurd ht z⟩)
set_option maxHeartbeats 4000000 in
theorem w_starts {D : va_G} {cA : Nat → ClassId} {B : Nat} (l : Launch) {dom : Nat → Prop} {ad : Nat → Nat} {X : Nat → va_E} {H0 : Heap} (C : Nat → Nat → Int32) (p0 : Int32) (p1 : Int32)  (y : Int64) (N0 : ow D cA B dom ad X C y H0) (d_K : dK dom C) (hls : l.stackTraces = false) (hok : (t_X4_starts C p0 p1) ∈ ([0, 2] : List Nat)) : MetH D cA B l yL_starts cL_starts 5 (some .int) [(0, 10, 13, 25)] 7 143 1 6 [.ref (ad 0), .int p0, .int p1, .ref (ad 6)] H0 (fun o h => ((t_X4_starts C p0 p1) = 0 → o = some (.int 0) ∧ ow D cA B dom ad X (g_X4_starts C p0 p1) (f_X4_starts C p0 p1).toInt64 h) ∧ (¬ (t_X4_starts C p0 p1) = 0 → o = some (.int (codA (t_X4_starts C p0 p1))) ∧ ow D cA B dom ad X C y h)) := by
  obtain ⟨f9, hf9, h6, N⟩ := N0
  refine MetH.of (by decide) (Nat.le_of_ble_eq_true rfl) ?_
  intro p e s m args below meth c S hr hlk htab hh K Kx ls hl
  subst hh
  have hS : va_S (fun q => B ≤ q) s.heap s.heap [] := va_S.rf
  have hl : lv_has ls 5 [(0, .ref (ad 0)), (1, .int p0), (2, .int p1), (3, .ref (ad 6))] := hl
  refine lv_aload_n S.1 S.2.1 dL_starts_0 rfl (lv_at hl 3 rfl) ?_
  refine lv_iconst (v := 0) S.1 S.2.1 dL_starts_1 (by decide) ?_
  refine lv_aload_n S.1 S.2.1 dL_starts_2 rfl (lv_at hl 0 rfl) ?_
  refine lv_iload_n S.1 S.2.1 dL_starts_3 rfl (lv_at hl 1 rfl) ?_
  refine lv_iload_n S.1 S.2.1 dL_starts_4 rfl (lv_at hl 2 rfl) ?_
  refine kx_V (rest := [.int 0, .ref (ad 6)]) S K N hS (d_K.1 0 (by decide)) rfl (m_X4_starts l C p0 p1 N d_K hls) k3_92 k3_93 k3_94 k1_1 k3_95 (num := 2) (by decide +kernel) rfl ⟨Nat.le_of_ble_eq_true rfl, Nat.le_of_ble_eq_true rfl⟩ hl.1 rfl (Nat.le_of_ble_eq_true rfl) dL_starts_5 ⟨Nat.le_of_ble_eq_true rfl, Nat.le_of_ble_eq_true rfl⟩ (fun E9 ce q9 H1 locs1 hX g2 hce hcv hcl => ?_) (fun v9 H1 locs1 hP g2 => ?_)
  · obtain ⟨hE, hn, N1⟩ := hX
    generalize (t_X4_starts C p0 p1) = t9 at hok hE hn ⊢
    have ht : t9 = 2 := by
      simp only [List.mem_cons, List.not_mem_nil, or_false] at hok
      omega
    subst ht
    have hE : E9 = "java/lang/IllegalArgumentException" := hE
    subst hE
    refine vx_catch (own := RL) (name := "java/lang/IllegalArgumentException") S.2.2.2.1 [] ⟨0, 10, 13, 25⟩ [] htab (fun z hz => absurd hz List.not_mem_nil) (by decide) (by decide) (S.2.2.2.2 _ k2_70) (castE K (by decide)) hce hcv hcl ?_
    refine lv_astore S.1 S.2.1 dL_starts_13 hl (by decide) rfl (fun ls hl => ?_)
    exact lw_cod S hr hlk g2 dL_starts_15 (by decide) dL_starts_16 ⟨fun z => absurd z (by decide), fun _ => ⟨rfl, f9, hf9, h6, N1⟩⟩
  · obtain ⟨rfl, N1, ht⟩ := hP
    exact lw_fin (tgt := 17) S K hr hlk g2 N1 h6 dL_starts_8 dL_starts_9 dL_starts_10 (by decide) dL_starts_17 dL_starts_18 (fun h hw => ⟨fun _ => ⟨rfl, hw⟩, fun z => absurd ht z⟩)
set_option maxHeartbeats 4000000 in
theorem w_bias {D : va_G} {cA : Nat → ClassId} {B : Nat} (l : Launch) {dom : Nat → Prop} {ad : Nat → Nat} {X : Nat → va_E} {H0 : Heap} (C : Nat → Nat → Int32) (p0 : Int32)  (y : Int64) (N0 : ow D cA B dom ad X C y H0) (d_K : dK dom C) (hls : l.stackTraces = false) (hok : (t_X4_bias C p0) ∈ ([0, 1] : List Nat)) : MetH D cA B l yL_bias cL_bias 4 (some .int) [(0, 9, 12, 19)] 7 119 1 6 [.ref (ad 0), .int p0, .ref (ad 6)] H0 (fun o h => ((t_X4_bias C p0) = 0 → o = some (.int 0) ∧ ow D cA B dom ad X (g_X4_bias C p0) (f_X4_bias C p0).toInt64 h) ∧ (¬ (t_X4_bias C p0) = 0 → o = some (.int (codA (t_X4_bias C p0))) ∧ ow D cA B dom ad X C y h)) := by
  obtain ⟨f9, hf9, h6, N⟩ := N0
  refine MetH.of (by decide) (Nat.le_of_ble_eq_true rfl) ?_
  intro p e s m args below meth c S hr hlk htab hh K Kx ls hl
  subst hh
  have hS : va_S (fun q => B ≤ q) s.heap s.heap [] := va_S.rf
  have hl : lv_has ls 4 [(0, .ref (ad 0)), (1, .int p0), (2, .ref (ad 6))] := hl
  refine lv_aload_n S.1 S.2.1 dL_bias_0 rfl (lv_at hl 2 rfl) ?_
  refine lv_iconst (v := 0) S.1 S.2.1 dL_bias_1 (by decide) ?_
  refine lv_aload_n S.1 S.2.1 dL_bias_2 rfl (lv_at hl 0 rfl) ?_
  refine lv_iload_n S.1 S.2.1 dL_bias_3 rfl (lv_at hl 1 rfl) ?_
  refine kx_V (rest := [.int 0, .ref (ad 6)]) S K N hS (d_K.1 0 (by decide)) rfl (m_X4_bias l C p0 N d_K hls) k3_112 k3_113 k3_114 k1_1 k3_115 (num := 1) (by decide +kernel) rfl ⟨Nat.le_of_ble_eq_true rfl, Nat.le_of_ble_eq_true rfl⟩ hl.1 rfl (Nat.le_of_ble_eq_true rfl) dL_bias_4 ⟨Nat.le_of_ble_eq_true rfl, Nat.le_of_ble_eq_true rfl⟩ (fun E9 ce q9 H1 locs1 hX g2 hce hcv hcl => ?_) (fun v9 H1 locs1 hP g2 => ?_)
  · obtain ⟨hE, hn, N1⟩ := hX
    generalize (t_X4_bias C p0) = t9 at hok hE hn ⊢
    have ht : t9 = 1 := by
      simp only [List.mem_cons, List.not_mem_nil, or_false] at hok
      omega
    subst ht
    have hE : E9 = "java/lang/IndexOutOfBoundsException" := hE
    subst hE
    refine vx_catch (own := RL) (name := "java/lang/IndexOutOfBoundsException") S.2.2.2.1 [] ⟨0, 9, 12, 19⟩ [] htab (fun z hz => absurd hz List.not_mem_nil) (by decide) (by decide) (S.2.2.2.2 _ k2_41) (castE K (by decide)) hce hcv hcl ?_
    refine lv_astore_n S.1 S.2.1 dL_bias_12 rfl hl (by decide) rfl (fun ls hl => ?_)
    exact lw_cod S hr hlk g2 dL_bias_13 (by decide) dL_bias_14 ⟨fun z => absurd z (by decide), fun _ => ⟨rfl, f9, hf9, h6, N1⟩⟩
  · obtain ⟨rfl, N1, ht⟩ := hP
    exact lw_fin (tgt := 15) S K hr hlk g2 N1 h6 dL_bias_7 dL_bias_8 dL_bias_9 (by decide) dL_bias_15 dL_bias_16 (fun h hw => ⟨fun _ => ⟨rfl, hw⟩, fun z => absurd ht z⟩)
