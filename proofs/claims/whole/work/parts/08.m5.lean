def f_X5_element (M : Nat → Nat → Int32) (p0 : Int32) (p1 : Int32) (p2 : Int32) (p3 : Int32) (sk : Nat) (ee : Nat) (ed : Nat) : Int32 :=
  if (f_X5_isElement M p0 p1) = 0 then 0
  else if (f_X5_in p2 0 2) = 0 then 0
  else if (f_X5_in p3 0 7) = 0 then 0
  else if 3 ≤ p3 then (if 6 ≤ p3 then (if p3 = 6 then (f_X5_baseOf M sk ee ed)
      else (f_X5_scoreOf M sk ee ed))
    else if p3 = 3 then (if (M 13 (12 * sk + ee)) = 0 then 0
      else 1)
    else if p3 = 4 then (if (M 14 (12 * sk + ee)) = 0 then 0
      else 1)
    else if (M 15 (12 * sk + ee)) = 0 then 0
    else 1)
  else if p3 = 0 then (M 9 (12 * sk + ee))
  else if p3 = 1 then (M 10 (12 * sk + ee))
  else (f_X5_quartersOf M (12 * sk + ee))
def g_X5_element (M : Nat → Nat → Int32) (p0 : Int32) (p1 : Int32) (p2 : Int32) (p3 : Int32) (sk : Nat) (ee : Nat) (ed : Nat) : Nat → Nat → Int32 :=
  if (f_X5_isElement M p0 p1) = 0 then (up2 M 0 0 1)
  else if (f_X5_in p2 0 2) = 0 then (up2 M 0 0 2)
  else if (f_X5_in p3 0 7) = 0 then (up2 M 0 0 2)
  else (up2 M 0 0 0)
set_option maxHeartbeats 4000000 in
set_option maxRecDepth 100000 in
theorem m_X5_element {D : va_G} {cA : Nat → ClassId} {B : Nat} (l : Launch) {dom : Nat → Prop} {ad : Nat → Nat} {X : Nat → va_E} {H0 : Heap} (M : Nat → Nat → Int32) (p0 : Int32) (p1 : Int32) (p2 : Int32) (p3 : Int32) (sk : Nat) (ee : Nat) (ed : Nat) (N : mw D cA B dom ad X M H0) (hsk : ∀ x, ¬ f_X5_isSkater M x = 0 → vp_in x 12) (hR : RI M) (hel : ¬ f_X5_isElement M p0 p1 = 0 → p0 = nI sk ∧ sk < 12 ∧ p1 = nI ee ∧ ee < nE M sk) (hed : ¬ f_X5_in p2 0 2 = 0 → p2 = nI ed ∧ ed < 3) : MetW D cA B l yX5_element cX5_element 6 (some .int) 3 80 0 0 [.ref (ad 5), .int p0, .int p1, .int p2, .int p3] H0 (fun o h => o = some (.int (f_X5_element M p0 p1 p2 p3 sk ee ed)) ∧ ∃ M1, sq (g_X5_element M p0 p1 p2 p3 sk ee ed) M1 ∧ mw D cA B dom ad X M1 h) := by
  refine MetW.of (by decide) (Nat.le_of_ble_eq_true rfl) ?_
  intro p e s m args below meth c S hr hlk hin hh K ls hl
  subst hh
  have hS : va_S (fun q => B ≤ q) s.heap s.heap [] := va_S.rf
  have hl : lv_has ls 6 [(0, .ref (ad 5)), (1, .int p0), (2, .int p1), (3, .int p2), (4, .int p3)] := hl
  refine lv_aload_n S.1 S.2.1 dX5_element_0 rfl (lv_at hl 0 rfl) ?_
  refine lv_aload_n S.1 S.2.1 dX5_element_1 rfl (lv_at hl 0 rfl) ?_
  refine lv_iload_n S.1 S.2.1 dX5_element_2 rfl (lv_at hl 1 rfl) ?_
  refine lv_iload_n S.1 S.2.1 dX5_element_3 rfl (lv_at hl 2 rfl) ?_
  refine mc_rV S K N hS rfl (As := [.int p0, .int p1]) (m_X5_isElement l M p0 p1 N hsk) k4_30 k4_32 kS_23 k1_3 k4_33 (num := 2) (by decide +kernel) rfl ⟨Nat.le_of_ble_eq_true rfl, Nat.le_of_ble_eq_true rfl⟩ hl.1 rfl (Nat.le_of_ble_eq_true rfl) dX5_element_4 ⟨Nat.le_of_ble_eq_true rfl, Nat.le_of_ble_eq_true rfl⟩ ?_
  refine lv_if_ne (tgt := 14) S.1 S.2.1 dX5_element_7 (by decide) (fun c7_1 => ?_) (fun c7_1 => ?_)
  · obtain ⟨hs1, hs2, he1, he2⟩ := hel c7_1
    have hle := hR.elLe sk hs2
    refine lv_iload_n S.1 S.2.1 dX5_element_14 rfl (lv_at hl 3 rfl) ?_
    refine lv_iconst (v := 0) S.1 S.2.1 dX5_element_15 (by decide) ?_
    refine lv_iconst (v := 2) S.1 S.2.1 dX5_element_16 (by decide) ?_
    refine nc_rS S K hS (As := [.int p2, .int 0, .int 2]) (m_X5_in l p2 0 2) k3_232 k3_233 k1_3 k3_234 (num := 3) (by decide +kernel) rfl ⟨Nat.le_of_ble_eq_true rfl, Nat.le_of_ble_eq_true rfl⟩ hl.1 rfl (Nat.le_of_ble_eq_true rfl) dX5_element_17 ⟨Nat.le_of_ble_eq_true rfl, Nat.le_of_ble_eq_true rfl⟩ ?_
    refine lv_if_eq (tgt := 38) S.1 S.2.1 dX5_element_20 (by decide) (fun c20_2 => ?_) (fun c20_2 => ?_)
    · refine lv_iconst (v := 2) S.1 S.2.1 dX5_element_38 (by decide) ?_
      refine mr_put S K N hS 0 (by decide) (by unfold mscal; omega) k3_146 rfl rfl dX5_element_39 (fun H locs N hS => ?_)
      refine lv_aload_n S.1 S.2.1 dX5_element_42 rfl (lv_at hl 0 rfl) ?_
      refine mr_get S K N 0 (by decide) k3_146 (v := .int 2) rfl dX5_element_43 ?_
      refine lv_if_le (tgt := 51) S.1 S.2.1 dX5_element_46 (by decide) (fun c9 => absurd c9 (by decide)) (fun _ => ?_)
      refine lv_iconst (v := 0) S.1 S.2.1 dX5_element_49 (by decide) ?_
      exact ne_wI S hS hr hlk ⟨congrArg (fun z => some (Value.int z)) (Eq.symm (by unfold f_X5_element; first | (rw [if_neg c7_1, if_pos c20_2]; done) | (simp only [if_neg c7_1, if_pos c20_2]; done) | rfl)), ⟨_, (by unfold g_X5_element; first | (rw [if_neg c7_1, if_pos c20_2]; exact (sq_refl _)) | (simp only [if_neg c7_1, if_pos c20_2]; exact (sq_refl _)) | exact (sq_refl _)), N⟩⟩ dX5_element_50
    · obtain ⟨hd1, hd2⟩ := hed c20_2
      refine lv_iload S.1 S.2.1 dX5_element_23 (lv_at hl 4 rfl) ?_
      refine lv_iconst (v := 0) S.1 S.2.1 dX5_element_25 (by decide) ?_
      refine lv_bipush (v := 7) S.1 S.2.1 dX5_element_26 (by decide) ?_
      refine nc_rS S K hS (As := [.int p3, .int 0, .int 7]) (m_X5_in l p3 0 7) k3_232 k3_233 k1_3 k3_234 (num := 3) (by decide +kernel) rfl ⟨Nat.le_of_ble_eq_true rfl, Nat.le_of_ble_eq_true rfl⟩ hl.1 rfl (Nat.le_of_ble_eq_true rfl) dX5_element_28 ⟨Nat.le_of_ble_eq_true rfl, Nat.le_of_ble_eq_true rfl⟩ ?_
      refine lv_if_eq (tgt := 38) S.1 S.2.1 dX5_element_31 (by decide) (fun c31_3 => ?_) (fun c31_3 => ?_)
      · refine lv_iconst (v := 2) S.1 S.2.1 dX5_element_38 (by decide) ?_
        refine mr_put S K N hS 0 (by decide) (by unfold mscal; omega) k3_146 rfl rfl dX5_element_39 (fun H locs N hS => ?_)
        refine lv_aload_n S.1 S.2.1 dX5_element_42 rfl (lv_at hl 0 rfl) ?_
        refine mr_get S K N 0 (by decide) k3_146 (v := .int 2) rfl dX5_element_43 ?_
        refine lv_if_le (tgt := 51) S.1 S.2.1 dX5_element_46 (by decide) (fun c9 => absurd c9 (by decide)) (fun _ => ?_)
        refine lv_iconst (v := 0) S.1 S.2.1 dX5_element_49 (by decide) ?_
        exact ne_wI S hS hr hlk ⟨congrArg (fun z => some (Value.int z)) (Eq.symm (by unfold f_X5_element; first | (rw [if_neg c7_1, if_neg c20_2, if_pos c31_3]; done) | (simp only [if_neg c7_1, if_neg c20_2, if_pos c31_3]; done) | rfl)), ⟨_, (by unfold g_X5_element; first | (rw [if_neg c7_1, if_neg c20_2, if_pos c31_3]; exact (sq_refl _)) | (simp only [if_neg c7_1, if_neg c20_2, if_pos c31_3]; exact (sq_refl _)) | exact (sq_refl _)), N⟩⟩ dX5_element_50
      · refine lv_iconst (v := 0) S.1 S.2.1 dX5_element_34 (by decide) ?_
        refine lv_goto (tgt := 39) S.1 S.2.1 dX5_element_35 (by decide) ?_
        refine mr_put S K N hS 0 (by decide) (by unfold mscal; omega) k3_146 rfl rfl dX5_element_39 (fun H locs N hS => ?_)
        refine lv_aload_n S.1 S.2.1 dX5_element_42 rfl (lv_at hl 0 rfl) ?_
        refine mr_get S K N 0 (by decide) k3_146 (v := .int 0) rfl dX5_element_43 ?_
        refine lv_if_le (tgt := 51) S.1 S.2.1 dX5_element_46 (by decide) (fun _ => ?_) (fun c9 => absurd (by decide) c9)
        refine lv_iload_n S.1 S.2.1 dX5_element_51 rfl (lv_at hl 1 rfl) ?_
        refine nt_i (y := nI sk) (hs1) ?_
        refine lv_iload_n S.1 S.2.1 dX5_element_52 rfl (lv_at hl 2 rfl) ?_
        refine nt_i (y := nI ee) (he1) ?_
        refine nc_rS S K hS (As := [.int (nI sk), .int (nI ee)]) (m_X5_at l sk ee) k4_15 k4_16 k1_3 k4_17 (num := 2) (by decide +kernel) rfl ⟨Nat.le_of_ble_eq_true rfl, Nat.le_of_ble_eq_true rfl⟩ hl.1 rfl (Nat.le_of_ble_eq_true rfl) dX5_element_53 ⟨Nat.le_of_ble_eq_true rfl, Nat.le_of_ble_eq_true rfl⟩ ?_
        refine nt_i (y := nI (12 * sk + ee)) (rfl) ?_
        refine lv_istore (lv' := [(5, .int (nI (12 * sk + ee))), (0, .ref (ad 5)), (1, .int p0), (2, .int p1), (3, .int p2), (4, .int p3)]) S.1 S.2.1 dX5_element_56 hl (by decide) rfl (fun ls hl => ?_)
        refine lv_iload S.1 S.2.1 dX5_element_58 (lv_at hl 5 rfl) ?_
        refine lv_iconst (v := 3) S.1 S.2.1 dX5_element_60 (by decide) ?_
        refine lv_icmp_ge (tgt := 102) S.1 S.2.1 dX5_element_61 (by decide) (fun c61_4 => ?_) (fun c61_4 => ?_)
        · refine lv_iload S.1 S.2.1 dX5_element_102 (lv_at hl 5 rfl) ?_
          refine lv_bipush (v := 6) S.1 S.2.1 dX5_element_104 (by decide) ?_
          refine lv_icmp_ge (tgt := 163) S.1 S.2.1 dX5_element_106 (by decide) (fun c106_5 => ?_) (fun c106_5 => ?_)
          · refine lv_iload S.1 S.2.1 dX5_element_163 (lv_at hl 5 rfl) ?_
            refine lv_bipush (v := 6) S.1 S.2.1 dX5_element_165 (by decide) ?_
            refine lv_icmp_ne (tgt := 180) S.1 S.2.1 dX5_element_167 (by decide) (fun c167_6 => ?_) (fun c167_6 => ?_)
            · refine lv_aload_n S.1 S.2.1 dX5_element_180 rfl (lv_at hl 1 rfl) ?_
              refine lv_iload_n S.1 S.2.1 dX5_element_181 rfl (lv_at hl 2 rfl) ?_
              refine nt_i (y := nI sk) (hs1) ?_
              refine lv_iload_n S.1 S.2.1 dX5_element_182 rfl (lv_at hl 3 rfl) ?_
              refine nt_i (y := nI ee) (he1) ?_
              refine lv_iload_n S.1 S.2.1 dX5_element_183 rfl (lv_at hl 4 rfl) ?_
              refine nt_i (y := nI ed) (hd1) ?_
              refine mc_wV S K N hS rfl (As := [.int (nI sk), .int (nI ee), .int (nI ed)]) (m_X5_scoreOf l (up2 M 0 0 0) sk ee ed N hs2 (by omega) (vq_sr (sr_t (sq_refl _)) (hR.v sk ee ed hs2 he2 hd2))) k4_67 k4_69 kS_26 k1_3 k4_70 (num := 3) (by decide +kernel) rfl ⟨Nat.le_of_ble_eq_true rfl, Nat.le_of_ble_eq_true rfl⟩ hl.1 rfl (Nat.le_of_ble_eq_true rfl) dX5_element_184 ⟨Nat.le_of_ble_eq_true rfl, Nat.le_of_ble_eq_true rfl⟩ (fun v9 H locs hP hS => ?_)
              obtain ⟨rfl, M_7, hq_8, N⟩ := hP
              refine W.eq (g2 := F0 m 187 ls [.int (f_X5_scoreOf (up2 M 0 0 0) sk ee ed)]) rfl ?_
              refine nt_i (y := (f_X5_scoreOf M sk ee ed)) (cg_X5_scoreOf (sr_t (sq_refl _))) ?_
              have hq_8 : sq (up2 M 0 0 0) M_7 := sq_trans (sq_refl _) hq_8
              exact ne_wI S hS hr hlk ⟨congrArg (fun z => some (Value.int z)) (Eq.symm (by unfold f_X5_element; first | (rw [if_neg c7_1, if_neg c20_2, if_neg c31_3, if_pos c61_4, if_pos c106_5, if_neg c167_6]; done) | (simp only [if_neg c7_1, if_neg c20_2, if_neg c31_3, if_pos c61_4, if_pos c106_5, if_neg c167_6]; done) | rfl)), ⟨_, (by unfold g_X5_element; first | (rw [if_neg c7_1, if_neg c20_2, if_neg c31_3, if_pos c61_4, if_pos c106_5, if_neg c167_6]; exact hq_8) | (simp only [if_neg c7_1, if_neg c20_2, if_neg c31_3, if_pos c61_4, if_pos c106_5, if_neg c167_6]; exact hq_8) | exact hq_8), N⟩⟩ dX5_element_187
            · refine lv_aload_n S.1 S.2.1 dX5_element_170 rfl (lv_at hl 1 rfl) ?_
              refine lv_iload_n S.1 S.2.1 dX5_element_171 rfl (lv_at hl 2 rfl) ?_
              refine nt_i (y := nI sk) (hs1) ?_
              refine lv_iload_n S.1 S.2.1 dX5_element_172 rfl (lv_at hl 3 rfl) ?_
              refine nt_i (y := nI ee) (he1) ?_
              refine lv_iload_n S.1 S.2.1 dX5_element_173 rfl (lv_at hl 4 rfl) ?_
              refine nt_i (y := nI ed) (hd1) ?_
              refine mc_rV S K N hS rfl (As := [.int (nI sk), .int (nI ee), .int (nI ed)]) (m_X5_baseOf l (up2 M 0 0 0) sk ee ed N hs2 (by omega) (vq_sr (sr_t (sq_refl _)) (hR.v sk ee ed hs2 he2 hd2))) k4_57 k4_59 kS_25 k1_3 k4_60 (num := 3) (by decide +kernel) rfl ⟨Nat.le_of_ble_eq_true rfl, Nat.le_of_ble_eq_true rfl⟩ hl.1 rfl (Nat.le_of_ble_eq_true rfl) dX5_element_174 ⟨Nat.le_of_ble_eq_true rfl, Nat.le_of_ble_eq_true rfl⟩ ?_
              refine nt_i (y := (f_X5_baseOf M sk ee ed)) (cg_X5_baseOf (sr_t (sq_refl _))) ?_
              refine lv_goto (tgt := 187) S.1 S.2.1 dX5_element_177 (by decide) ?_
              exact ne_wI S hS hr hlk ⟨congrArg (fun z => some (Value.int z)) (Eq.symm (by unfold f_X5_element; first | (rw [if_neg c7_1, if_neg c20_2, if_neg c31_3, if_pos c61_4, if_pos c106_5, if_pos c167_6]; done) | (simp only [if_neg c7_1, if_neg c20_2, if_neg c31_3, if_pos c61_4, if_pos c106_5, if_pos c167_6]; done) | rfl)), ⟨_, (by unfold g_X5_element; first | (rw [if_neg c7_1, if_neg c20_2, if_neg c31_3, if_pos c61_4, if_pos c106_5, if_pos c167_6]; exact (sq_refl _)) | (simp only [if_neg c7_1, if_neg c20_2, if_neg c31_3, if_pos c61_4, if_pos c106_5, if_pos c167_6]; exact (sq_refl _)) | exact (sq_refl _)), N⟩⟩ dX5_element_187
          · refine lv_iload S.1 S.2.1 dX5_element_109 (lv_at hl 5 rfl) ?_
            refine lv_iconst (v := 3) S.1 S.2.1 dX5_element_111 (by decide) ?_
            refine lv_icmp_ne (tgt := 128) S.1 S.2.1 dX5_element_112 (by decide) (fun c112_9 => ?_) (fun c112_9 => ?_)
            · refine lv_iload S.1 S.2.1 dX5_element_128 (lv_at hl 5 rfl) ?_
              refine lv_iconst (v := 4) S.1 S.2.1 dX5_element_130 (by decide) ?_
              refine lv_icmp_ne (tgt := 147) S.1 S.2.1 dX5_element_131 (by decide) (fun c131_10 => ?_) (fun c131_10 => ?_)
              · refine lv_aload_n S.1 S.2.1 dX5_element_147 rfl (lv_at hl 1 rfl) ?_
                refine mr_get S K N 15 (by decide) k3_161 (v := .ref (ad 25)) rfl dX5_element_148 ?_
                refine lv_iload S.1 S.2.1 dX5_element_151 (lv_at hl 0 rfl) ?_
                refine mr_zald S K N 15 (by decide) (by decide) rfl (v := (M 15 (12 * sk + ee))) (vp_in_nI (show (12 * sk + ee) < mlen 15 by show _ < 144; omega) (by decide)) ((congrArg ((up2 M 0 0 0) 15) (nI_clamp (show (12 * sk + ee) < 2 ^ 31 by omega))).trans rfl) dX5_element_153 ?_
                refine lv_if_eq (tgt := 161) S.1 S.2.1 dX5_element_154 (by decide) (fun c154_11 => ?_) (fun c154_11 => ?_)
                · refine lv_iconst (v := 0) S.1 S.2.1 dX5_element_161 (by decide) ?_
                  exact ne_wI S hS hr hlk ⟨congrArg (fun z => some (Value.int z)) (Eq.symm (by unfold f_X5_element; first | (rw [if_neg c7_1, if_neg c20_2, if_neg c31_3, if_pos c61_4, if_neg c106_5, if_neg c112_9, if_neg c131_10, if_pos c154_11]; done) | (simp only [if_neg c7_1, if_neg c20_2, if_neg c31_3, if_pos c61_4, if_neg c106_5, if_neg c112_9, if_neg c131_10, if_pos c154_11]; done) | rfl)), ⟨_, (by unfold g_X5_element; first | (rw [if_neg c7_1, if_neg c20_2, if_neg c31_3, if_pos c61_4, if_neg c106_5, if_neg c112_9, if_neg c131_10, if_pos c154_11]; exact (sq_refl _)) | (simp only [if_neg c7_1, if_neg c20_2, if_neg c31_3, if_pos c61_4, if_neg c106_5, if_neg c112_9, if_neg c131_10, if_pos c154_11]; exact (sq_refl _)) | exact (sq_refl _)), N⟩⟩ dX5_element_162
                · refine lv_iconst (v := 1) S.1 S.2.1 dX5_element_157 (by decide) ?_
                  refine lv_goto (tgt := 162) S.1 S.2.1 dX5_element_158 (by decide) ?_
                  exact ne_wI S hS hr hlk ⟨congrArg (fun z => some (Value.int z)) (Eq.symm (by unfold f_X5_element; first | (rw [if_neg c7_1, if_neg c20_2, if_neg c31_3, if_pos c61_4, if_neg c106_5, if_neg c112_9, if_neg c131_10, if_neg c154_11]; done) | (simp only [if_neg c7_1, if_neg c20_2, if_neg c31_3, if_pos c61_4, if_neg c106_5, if_neg c112_9, if_neg c131_10, if_neg c154_11]; done) | rfl)), ⟨_, (by unfold g_X5_element; first | (rw [if_neg c7_1, if_neg c20_2, if_neg c31_3, if_pos c61_4, if_neg c106_5, if_neg c112_9, if_neg c131_10, if_neg c154_11]; exact (sq_refl _)) | (simp only [if_neg c7_1, if_neg c20_2, if_neg c31_3, if_pos c61_4, if_neg c106_5, if_neg c112_9, if_neg c131_10, if_neg c154_11]; exact (sq_refl _)) | exact (sq_refl _)), N⟩⟩ dX5_element_162
              · refine lv_aload_n S.1 S.2.1 dX5_element_134 rfl (lv_at hl 1 rfl) ?_
                refine mr_get S K N 14 (by decide) k3_160 (v := .ref (ad 24)) rfl dX5_element_135 ?_
                refine lv_iload S.1 S.2.1 dX5_element_138 (lv_at hl 0 rfl) ?_
                refine mr_zald S K N 14 (by decide) (by decide) rfl (v := (M 14 (12 * sk + ee))) (vp_in_nI (show (12 * sk + ee) < mlen 14 by show _ < 144; omega) (by decide)) ((congrArg ((up2 M 0 0 0) 14) (nI_clamp (show (12 * sk + ee) < 2 ^ 31 by omega))).trans rfl) dX5_element_140 ?_
                refine lv_if_eq (tgt := 161) S.1 S.2.1 dX5_element_141 (by decide) (fun c141_12 => ?_) (fun c141_12 => ?_)
                · refine lv_iconst (v := 0) S.1 S.2.1 dX5_element_161 (by decide) ?_
                  exact ne_wI S hS hr hlk ⟨congrArg (fun z => some (Value.int z)) (Eq.symm (by unfold f_X5_element; first | (rw [if_neg c7_1, if_neg c20_2, if_neg c31_3, if_pos c61_4, if_neg c106_5, if_neg c112_9, if_pos c131_10, if_pos c141_12]; done) | (simp only [if_neg c7_1, if_neg c20_2, if_neg c31_3, if_pos c61_4, if_neg c106_5, if_neg c112_9, if_pos c131_10, if_pos c141_12]; done) | rfl)), ⟨_, (by unfold g_X5_element; first | (rw [if_neg c7_1, if_neg c20_2, if_neg c31_3, if_pos c61_4, if_neg c106_5, if_neg c112_9, if_pos c131_10, if_pos c141_12]; exact (sq_refl _)) | (simp only [if_neg c7_1, if_neg c20_2, if_neg c31_3, if_pos c61_4, if_neg c106_5, if_neg c112_9, if_pos c131_10, if_pos c141_12]; exact (sq_refl _)) | exact (sq_refl _)), N⟩⟩ dX5_element_162
                · refine lv_goto (tgt := 157) S.1 S.2.1 dX5_element_144 (by decide) ?_
                  refine lv_iconst (v := 1) S.1 S.2.1 dX5_element_157 (by decide) ?_
                  refine lv_goto (tgt := 162) S.1 S.2.1 dX5_element_158 (by decide) ?_
                  exact ne_wI S hS hr hlk ⟨congrArg (fun z => some (Value.int z)) (Eq.symm (by unfold f_X5_element; first | (rw [if_neg c7_1, if_neg c20_2, if_neg c31_3, if_pos c61_4, if_neg c106_5, if_neg c112_9, if_pos c131_10, if_neg c141_12]; done) | (simp only [if_neg c7_1, if_neg c20_2, if_neg c31_3, if_pos c61_4, if_neg c106_5, if_neg c112_9, if_pos c131_10, if_neg c141_12]; done) | rfl)), ⟨_, (by unfold g_X5_element; first | (rw [if_neg c7_1, if_neg c20_2, if_neg c31_3, if_pos c61_4, if_neg c106_5, if_neg c112_9, if_pos c131_10, if_neg c141_12]; exact (sq_refl _)) | (simp only [if_neg c7_1, if_neg c20_2, if_neg c31_3, if_pos c61_4, if_neg c106_5, if_neg c112_9, if_pos c131_10, if_neg c141_12]; exact (sq_refl _)) | exact (sq_refl _)), N⟩⟩ dX5_element_162
            · refine lv_aload_n S.1 S.2.1 dX5_element_115 rfl (lv_at hl 1 rfl) ?_
              refine mr_get S K N 13 (by decide) k3_159 (v := .ref (ad 23)) rfl dX5_element_116 ?_
              refine lv_iload S.1 S.2.1 dX5_element_119 (lv_at hl 0 rfl) ?_
              refine mr_zald S K N 13 (by decide) (by decide) rfl (v := (M 13 (12 * sk + ee))) (vp_in_nI (show (12 * sk + ee) < mlen 13 by show _ < 144; omega) (by decide)) ((congrArg ((up2 M 0 0 0) 13) (nI_clamp (show (12 * sk + ee) < 2 ^ 31 by omega))).trans rfl) dX5_element_121 ?_
              refine lv_if_eq (tgt := 161) S.1 S.2.1 dX5_element_122 (by decide) (fun c122_13 => ?_) (fun c122_13 => ?_)
              · refine lv_iconst (v := 0) S.1 S.2.1 dX5_element_161 (by decide) ?_
                exact ne_wI S hS hr hlk ⟨congrArg (fun z => some (Value.int z)) (Eq.symm (by unfold f_X5_element; first | (rw [if_neg c7_1, if_neg c20_2, if_neg c31_3, if_pos c61_4, if_neg c106_5, if_pos c112_9, if_pos c122_13]; done) | (simp only [if_neg c7_1, if_neg c20_2, if_neg c31_3, if_pos c61_4, if_neg c106_5, if_pos c112_9, if_pos c122_13]; done) | rfl)), ⟨_, (by unfold g_X5_element; first | (rw [if_neg c7_1, if_neg c20_2, if_neg c31_3, if_pos c61_4, if_neg c106_5, if_pos c112_9, if_pos c122_13]; exact (sq_refl _)) | (simp only [if_neg c7_1, if_neg c20_2, if_neg c31_3, if_pos c61_4, if_neg c106_5, if_pos c112_9, if_pos c122_13]; exact (sq_refl _)) | exact (sq_refl _)), N⟩⟩ dX5_element_162
              · refine lv_goto (tgt := 157) S.1 S.2.1 dX5_element_125 (by decide) ?_
                refine lv_iconst (v := 1) S.1 S.2.1 dX5_element_157 (by decide) ?_
                refine lv_goto (tgt := 162) S.1 S.2.1 dX5_element_158 (by decide) ?_
                exact ne_wI S hS hr hlk ⟨congrArg (fun z => some (Value.int z)) (Eq.symm (by unfold f_X5_element; first | (rw [if_neg c7_1, if_neg c20_2, if_neg c31_3, if_pos c61_4, if_neg c106_5, if_pos c112_9, if_neg c122_13]; done) | (simp only [if_neg c7_1, if_neg c20_2, if_neg c31_3, if_pos c61_4, if_neg c106_5, if_pos c112_9, if_neg c122_13]; done) | rfl)), ⟨_, (by unfold g_X5_element; first | (rw [if_neg c7_1, if_neg c20_2, if_neg c31_3, if_pos c61_4, if_neg c106_5, if_pos c112_9, if_neg c122_13]; exact (sq_refl _)) | (simp only [if_neg c7_1, if_neg c20_2, if_neg c31_3, if_pos c61_4, if_neg c106_5, if_pos c112_9, if_neg c122_13]; exact (sq_refl _)) | exact (sq_refl _)), N⟩⟩ dX5_element_162
        · refine lv_iload S.1 S.2.1 dX5_element_64 (lv_at hl 5 rfl) ?_
          refine lv_if_ne (tgt := 79) S.1 S.2.1 dX5_element_66 (by decide) (fun c66_14 => ?_) (fun c66_14 => ?_)
          · refine lv_iload S.1 S.2.1 dX5_element_79 (lv_at hl 5 rfl) ?_
            refine lv_iconst (v := 1) S.1 S.2.1 dX5_element_81 (by decide) ?_
            refine lv_icmp_ne (tgt := 95) S.1 S.2.1 dX5_element_82 (by decide) (fun c82_15 => ?_) (fun c82_15 => ?_)
            · refine lv_aload_n S.1 S.2.1 dX5_element_95 rfl (lv_at hl 1 rfl) ?_
              refine lv_iload S.1 S.2.1 dX5_element_96 (lv_at hl 0 rfl) ?_
              refine mc_rV S K N hS rfl (As := [.int (nI (12 * sk + ee))]) (m_X5_quartersOf l (up2 M 0 0 0) (12 * sk + ee) N (by omega)) k4_34 k4_36 kS_24 k1_3 k4_37 (num := 1) (by decide +kernel) rfl ⟨Nat.le_of_ble_eq_true rfl, Nat.le_of_ble_eq_true rfl⟩ hl.1 rfl (Nat.le_of_ble_eq_true rfl) dX5_element_98 ⟨Nat.le_of_ble_eq_true rfl, Nat.le_of_ble_eq_true rfl⟩ ?_
              refine nt_i (y := (f_X5_quartersOf M (12 * sk + ee))) (cg_X5_quartersOf (sr_t (sq_refl _))) ?_
              exact ne_wI S hS hr hlk ⟨congrArg (fun z => some (Value.int z)) (Eq.symm (by unfold f_X5_element; first | (rw [if_neg c7_1, if_neg c20_2, if_neg c31_3, if_neg c61_4, if_neg c66_14, if_neg c82_15]; done) | (simp only [if_neg c7_1, if_neg c20_2, if_neg c31_3, if_neg c61_4, if_neg c66_14, if_neg c82_15]; done) | rfl)), ⟨_, (by unfold g_X5_element; first | (rw [if_neg c7_1, if_neg c20_2, if_neg c31_3, if_neg c61_4, if_neg c66_14, if_neg c82_15]; exact (sq_refl _)) | (simp only [if_neg c7_1, if_neg c20_2, if_neg c31_3, if_neg c61_4, if_neg c66_14, if_neg c82_15]; exact (sq_refl _)) | exact (sq_refl _)), N⟩⟩ dX5_element_101
            · refine lv_aload_n S.1 S.2.1 dX5_element_85 rfl (lv_at hl 1 rfl) ?_
              refine mr_get S K N 10 (by decide) k3_156 (v := .ref (ad 20)) rfl dX5_element_86 ?_
              refine lv_iload S.1 S.2.1 dX5_element_89 (lv_at hl 0 rfl) ?_
              refine mr_iald S K N 10 (by decide) (by decide) rfl (v := (M 10 (12 * sk + ee))) (vp_in_nI (show (12 * sk + ee) < mlen 10 by show _ < 144; omega) (by decide)) ((congrArg ((up2 M 0 0 0) 10) (nI_clamp (show (12 * sk + ee) < 2 ^ 31 by omega))).trans rfl) dX5_element_91 ?_
              refine lv_goto (tgt := 101) S.1 S.2.1 dX5_element_92 (by decide) ?_
              exact ne_wI S hS hr hlk ⟨congrArg (fun z => some (Value.int z)) (Eq.symm (by unfold f_X5_element; first | (rw [if_neg c7_1, if_neg c20_2, if_neg c31_3, if_neg c61_4, if_neg c66_14, if_pos c82_15]; done) | (simp only [if_neg c7_1, if_neg c20_2, if_neg c31_3, if_neg c61_4, if_neg c66_14, if_pos c82_15]; done) | rfl)), ⟨_, (by unfold g_X5_element; first | (rw [if_neg c7_1, if_neg c20_2, if_neg c31_3, if_neg c61_4, if_neg c66_14, if_pos c82_15]; exact (sq_refl _)) | (simp only [if_neg c7_1, if_neg c20_2, if_neg c31_3, if_neg c61_4, if_neg c66_14, if_pos c82_15]; exact (sq_refl _)) | exact (sq_refl _)), N⟩⟩ dX5_element_101
          · refine lv_aload_n S.1 S.2.1 dX5_element_69 rfl (lv_at hl 1 rfl) ?_
            refine mr_get S K N 9 (by decide) k3_155 (v := .ref (ad 19)) rfl dX5_element_70 ?_
            refine lv_iload S.1 S.2.1 dX5_element_73 (lv_at hl 0 rfl) ?_
            refine mr_iald S K N 9 (by decide) (by decide) rfl (v := (M 9 (12 * sk + ee))) (vp_in_nI (show (12 * sk + ee) < mlen 9 by show _ < 144; omega) (by decide)) ((congrArg ((up2 M 0 0 0) 9) (nI_clamp (show (12 * sk + ee) < 2 ^ 31 by omega))).trans rfl) dX5_element_75 ?_
            refine lv_goto (tgt := 101) S.1 S.2.1 dX5_element_76 (by decide) ?_
            exact ne_wI S hS hr hlk ⟨congrArg (fun z => some (Value.int z)) (Eq.symm (by unfold f_X5_element; first | (rw [if_neg c7_1, if_neg c20_2, if_neg c31_3, if_neg c61_4, if_pos c66_14]; done) | (simp only [if_neg c7_1, if_neg c20_2, if_neg c31_3, if_neg c61_4, if_pos c66_14]; done) | rfl)), ⟨_, (by unfold g_X5_element; first | (rw [if_neg c7_1, if_neg c20_2, if_neg c31_3, if_neg c61_4, if_pos c66_14]; exact (sq_refl _)) | (simp only [if_neg c7_1, if_neg c20_2, if_neg c31_3, if_neg c61_4, if_pos c66_14]; exact (sq_refl _)) | exact (sq_refl _)), N⟩⟩ dX5_element_101
  · refine lv_iconst (v := 1) S.1 S.2.1 dX5_element_10 (by decide) ?_
    refine lv_goto (tgt := 39) S.1 S.2.1 dX5_element_11 (by decide) ?_
    refine mr_put S K N hS 0 (by decide) (by unfold mscal; omega) k3_146 rfl rfl dX5_element_39 (fun H locs N hS => ?_)
    refine lv_aload_n S.1 S.2.1 dX5_element_42 rfl (lv_at hl 0 rfl) ?_
    refine mr_get S K N 0 (by decide) k3_146 (v := .int 1) rfl dX5_element_43 ?_
    refine lv_if_le (tgt := 51) S.1 S.2.1 dX5_element_46 (by decide) (fun c9 => absurd c9 (by decide)) (fun _ => ?_)
    refine lv_iconst (v := 0) S.1 S.2.1 dX5_element_49 (by decide) ?_
    exact ne_wI S hS hr hlk ⟨congrArg (fun z => some (Value.int z)) (Eq.symm (by unfold f_X5_element; first | (rw [if_pos c7_1]; done) | (simp only [if_pos c7_1]; done) | rfl)), ⟨_, (by unfold g_X5_element; first | (rw [if_pos c7_1]; exact (sq_refl _)) | (simp only [if_pos c7_1]; exact (sq_refl _)) | exact (sq_refl _)), N⟩⟩ dX5_element_50

def f_X5_programme (M : Nat → Nat → Int32) (p0 : Int32) (p1 : Int32) (p2 : Int32) (sk : Nat) (ed : Nat) : Int32 :=
  if (f_X5_isSkater M p0) = 0 then 0
  else if (f_X5_in p1 0 2) = 0 then 0
  else if (f_X5_in p2 0 5) = 0 then 0
  else if 3 ≤ p2 then (if p2 = 3 then (f_X5_totalOf M sk ed)
    else if p2 = 4 then (M 7 sk)
    else (f_X5_rankOf M sk ed))
  else if p2 = 0 then (f_X5_elementsOf M sk ed)
  else if p2 = 1 then (f_X5_componentsOf M sk)
  else (f_X5_fineOf M sk)
def g_X5_programme (M : Nat → Nat → Int32) (p0 : Int32) (p1 : Int32) (p2 : Int32) (sk : Nat) (ed : Nat) : Nat → Nat → Int32 :=
  if (f_X5_isSkater M p0) = 0 then (up2 M 0 0 1)
  else if (f_X5_in p1 0 2) = 0 then (up2 M 0 0 2)
  else if (f_X5_in p2 0 5) = 0 then (up2 M 0 0 2)
  else (up2 M 0 0 0)
set_option maxHeartbeats 4000000 in
set_option maxRecDepth 100000 in
theorem m_X5_programme {D : va_G} {cA : Nat → ClassId} {B : Nat} (l : Launch) {dom : Nat → Prop} {ad : Nat → Nat} {X : Nat → va_E} {H0 : Heap} (M : Nat → Nat → Int32) (p0 : Int32) (p1 : Int32) (p2 : Int32) (sk : Nat) (ed : Nat) (N : mw D cA B dom ad X M H0) (hR : RI M) (hsk : ¬ f_X5_isSkater M p0 = 0 → p0 = nI sk ∧ sk < 12) (hed : ¬ f_X5_in p1 0 2 = 0 → p1 = nI ed ∧ ed < 3) : MetW D cA B l yX5_programme cX5_programme 4 (some .int) 7 175 0 0 [.ref (ad 5), .int p0, .int p1, .int p2] H0 (fun o h => o = some (.int (f_X5_programme M p0 p1 p2 sk ed)) ∧ ∃ M1, sq (g_X5_programme M p0 p1 p2 sk ed) M1 ∧ mw D cA B dom ad X M1 h) := by
  refine MetW.of (by decide) (Nat.le_of_ble_eq_true rfl) ?_
  intro p e s m args below meth c S hr hlk hin hh K ls hl
  subst hh
  have hS : va_S (fun q => B ≤ q) s.heap s.heap [] := va_S.rf
  have hl : lv_has ls 4 [(0, .ref (ad 5)), (1, .int p0), (2, .int p1), (3, .int p2)] := hl
  refine lv_aload_n S.1 S.2.1 dX5_programme_0 rfl (lv_at hl 0 rfl) ?_
  refine lv_aload_n S.1 S.2.1 dX5_programme_1 rfl (lv_at hl 0 rfl) ?_
  refine lv_iload_n S.1 S.2.1 dX5_programme_2 rfl (lv_at hl 1 rfl) ?_
  refine mc_rV S K N hS rfl (As := [.int p0]) (m_X5_isSkater l M p0 N) k3_228 k3_230 kS_19 k1_3 k3_231 (num := 1) (by decide +kernel) rfl ⟨Nat.le_of_ble_eq_true rfl, Nat.le_of_ble_eq_true rfl⟩ hl.1 rfl (Nat.le_of_ble_eq_true rfl) dX5_programme_3 ⟨Nat.le_of_ble_eq_true rfl, Nat.le_of_ble_eq_true rfl⟩ ?_
  refine lv_if_ne (tgt := 13) S.1 S.2.1 dX5_programme_6 (by decide) (fun c6_1 => ?_) (fun c6_1 => ?_)
  · obtain ⟨hs1, hs2⟩ := hsk c6_1
    refine lv_iload_n S.1 S.2.1 dX5_programme_13 rfl (lv_at hl 2 rfl) ?_
    refine lv_iconst (v := 0) S.1 S.2.1 dX5_programme_14 (by decide) ?_
    refine lv_iconst (v := 2) S.1 S.2.1 dX5_programme_15 (by decide) ?_
    refine nc_rS S K hS (As := [.int p1, .int 0, .int 2]) (m_X5_in l p1 0 2) k3_232 k3_233 k1_3 k3_234 (num := 3) (by decide +kernel) rfl ⟨Nat.le_of_ble_eq_true rfl, Nat.le_of_ble_eq_true rfl⟩ hl.1 rfl (Nat.le_of_ble_eq_true rfl) dX5_programme_16 ⟨Nat.le_of_ble_eq_true rfl, Nat.le_of_ble_eq_true rfl⟩ ?_
    refine lv_if_eq (tgt := 35) S.1 S.2.1 dX5_programme_19 (by decide) (fun c19_2 => ?_) (fun c19_2 => ?_)
    · refine lv_iconst (v := 2) S.1 S.2.1 dX5_programme_35 (by decide) ?_
      refine mr_put S K N hS 0 (by decide) (by unfold mscal; omega) k3_146 rfl rfl dX5_programme_36 (fun H locs N hS => ?_)
      refine lv_aload_n S.1 S.2.1 dX5_programme_39 rfl (lv_at hl 0 rfl) ?_
      refine mr_get S K N 0 (by decide) k3_146 (v := .int 2) rfl dX5_programme_40 ?_
      refine lv_if_le (tgt := 48) S.1 S.2.1 dX5_programme_43 (by decide) (fun c9 => absurd c9 (by decide)) (fun _ => ?_)
      refine lv_iconst (v := 0) S.1 S.2.1 dX5_programme_46 (by decide) ?_
      exact ne_wI S hS hr hlk ⟨congrArg (fun z => some (Value.int z)) (Eq.symm (by unfold f_X5_programme; first | (rw [if_neg c6_1, if_pos c19_2]; done) | (simp only [if_neg c6_1, if_pos c19_2]; done) | rfl)), ⟨_, (by unfold g_X5_programme; first | (rw [if_neg c6_1, if_pos c19_2]; exact (sq_refl _)) | (simp only [if_neg c6_1, if_pos c19_2]; exact (sq_refl _)) | exact (sq_refl _)), N⟩⟩ dX5_programme_47
    · obtain ⟨hd1, hd2⟩ := hed c19_2
      refine lv_iload_n S.1 S.2.1 dX5_programme_22 rfl (lv_at hl 3 rfl) ?_
      refine lv_iconst (v := 0) S.1 S.2.1 dX5_programme_23 (by decide) ?_
      refine lv_iconst (v := 5) S.1 S.2.1 dX5_programme_24 (by decide) ?_
      refine nc_rS S K hS (As := [.int p2, .int 0, .int 5]) (m_X5_in l p2 0 5) k3_232 k3_233 k1_3 k3_234 (num := 3) (by decide +kernel) rfl ⟨Nat.le_of_ble_eq_true rfl, Nat.le_of_ble_eq_true rfl⟩ hl.1 rfl (Nat.le_of_ble_eq_true rfl) dX5_programme_25 ⟨Nat.le_of_ble_eq_true rfl, Nat.le_of_ble_eq_true rfl⟩ ?_
      refine lv_if_eq (tgt := 35) S.1 S.2.1 dX5_programme_28 (by decide) (fun c28_3 => ?_) (fun c28_3 => ?_)
      · refine lv_iconst (v := 2) S.1 S.2.1 dX5_programme_35 (by decide) ?_
        refine mr_put S K N hS 0 (by decide) (by unfold mscal; omega) k3_146 rfl rfl dX5_programme_36 (fun H locs N hS => ?_)
        refine lv_aload_n S.1 S.2.1 dX5_programme_39 rfl (lv_at hl 0 rfl) ?_
        refine mr_get S K N 0 (by decide) k3_146 (v := .int 2) rfl dX5_programme_40 ?_
        refine lv_if_le (tgt := 48) S.1 S.2.1 dX5_programme_43 (by decide) (fun c9 => absurd c9 (by decide)) (fun _ => ?_)
        refine lv_iconst (v := 0) S.1 S.2.1 dX5_programme_46 (by decide) ?_
        exact ne_wI S hS hr hlk ⟨congrArg (fun z => some (Value.int z)) (Eq.symm (by unfold f_X5_programme; first | (rw [if_neg c6_1, if_neg c19_2, if_pos c28_3]; done) | (simp only [if_neg c6_1, if_neg c19_2, if_pos c28_3]; done) | rfl)), ⟨_, (by unfold g_X5_programme; first | (rw [if_neg c6_1, if_neg c19_2, if_pos c28_3]; exact (sq_refl _)) | (simp only [if_neg c6_1, if_neg c19_2, if_pos c28_3]; exact (sq_refl _)) | exact (sq_refl _)), N⟩⟩ dX5_programme_47
      · refine lv_iconst (v := 0) S.1 S.2.1 dX5_programme_31 (by decide) ?_
        refine lv_goto (tgt := 36) S.1 S.2.1 dX5_programme_32 (by decide) ?_
        refine mr_put S K N hS 0 (by decide) (by unfold mscal; omega) k3_146 rfl rfl dX5_programme_36 (fun H locs N hS => ?_)
        refine lv_aload_n S.1 S.2.1 dX5_programme_39 rfl (lv_at hl 0 rfl) ?_
        refine mr_get S K N 0 (by decide) k3_146 (v := .int 0) rfl dX5_programme_40 ?_
        refine lv_if_le (tgt := 48) S.1 S.2.1 dX5_programme_43 (by decide) (fun _ => ?_) (fun c9 => absurd (by decide) c9)
        refine lv_iload_n S.1 S.2.1 dX5_programme_48 rfl (lv_at hl 3 rfl) ?_
        refine lv_iconst (v := 3) S.1 S.2.1 dX5_programme_49 (by decide) ?_
        refine lv_icmp_ge (tgt := 85) S.1 S.2.1 dX5_programme_50 (by decide) (fun c50_4 => ?_) (fun c50_4 => ?_)
        · refine lv_iload_n S.1 S.2.1 dX5_programme_85 rfl (lv_at hl 3 rfl) ?_
          refine lv_iconst (v := 3) S.1 S.2.1 dX5_programme_86 (by decide) ?_
          refine lv_icmp_ne (tgt := 99) S.1 S.2.1 dX5_programme_87 (by decide) (fun c87_5 => ?_) (fun c87_5 => ?_)
          · refine lv_iload_n S.1 S.2.1 dX5_programme_99 rfl (lv_at hl 3 rfl) ?_
            refine lv_iconst (v := 4) S.1 S.2.1 dX5_programme_100 (by decide) ?_
            refine lv_icmp_ne (tgt := 113) S.1 S.2.1 dX5_programme_101 (by decide) (fun c101_6 => ?_) (fun c101_6 => ?_)
            · refine lv_aload_n S.1 S.2.1 dX5_programme_113 rfl (lv_at hl 0 rfl) ?_
              refine lv_iload_n S.1 S.2.1 dX5_programme_114 rfl (lv_at hl 1 rfl) ?_
              refine nt_i (y := nI sk) (hs1) ?_
              refine lv_iload_n S.1 S.2.1 dX5_programme_115 rfl (lv_at hl 2 rfl) ?_
              refine nt_i (y := nI ed) (hd1) ?_
              refine mc_wV S K N hS rfl (As := [.int (nI sk), .int (nI ed)]) (m_X5_rankOf l (up2 M 0 0 0) sk ed N (RI_sr (sr_t (sq_refl _)) hR) hs2 hd2) k4_109 k4_111 kS_35 k1_3 k4_112 (num := 2) (by decide +kernel) rfl ⟨Nat.le_of_ble_eq_true rfl, Nat.le_of_ble_eq_true rfl⟩ hl.1 rfl (Nat.le_of_ble_eq_true rfl) dX5_programme_116 ⟨Nat.le_of_ble_eq_true rfl, Nat.le_of_ble_eq_true rfl⟩ (fun v9 H locs hP hS => ?_)
              obtain ⟨rfl, M_7, hq_8, N⟩ := hP
              refine W.eq (g2 := F0 m 119 ls [.int (f_X5_rankOf (up2 M 0 0 0) sk ed)]) rfl ?_
              refine nt_i (y := (f_X5_rankOf M sk ed)) (cg_X5_rankOf (sr_t (sq_refl _))) ?_
              have hq_8 : sq (up2 M 0 0 0) M_7 := sq_trans (sq_refl _) hq_8
              exact ne_wI S hS hr hlk ⟨congrArg (fun z => some (Value.int z)) (Eq.symm (by unfold f_X5_programme; first | (rw [if_neg c6_1, if_neg c19_2, if_neg c28_3, if_pos c50_4, if_neg c87_5, if_neg c101_6]; done) | (simp only [if_neg c6_1, if_neg c19_2, if_neg c28_3, if_pos c50_4, if_neg c87_5, if_neg c101_6]; done) | rfl)), ⟨_, (by unfold g_X5_programme; first | (rw [if_neg c6_1, if_neg c19_2, if_neg c28_3, if_pos c50_4, if_neg c87_5, if_neg c101_6]; exact hq_8) | (simp only [if_neg c6_1, if_neg c19_2, if_neg c28_3, if_pos c50_4, if_neg c87_5, if_neg c101_6]; exact hq_8) | exact hq_8), N⟩⟩ dX5_programme_119
            · refine lv_aload_n S.1 S.2.1 dX5_programme_104 rfl (lv_at hl 0 rfl) ?_
              refine mr_get S K N 7 (by decide) k3_153 (v := .ref (ad 17)) rfl dX5_programme_105 ?_
              refine lv_iload_n S.1 S.2.1 dX5_programme_108 rfl (lv_at hl 1 rfl) ?_
              refine nt_i (y := nI sk) (hs1) ?_
              refine mr_iald S K N 7 (by decide) (by decide) rfl (v := (M 7 sk)) (vp_in_nI (show sk < mlen 7 by show _ < 12; omega) (by decide)) ((congrArg ((up2 M 0 0 0) 7) (nI_clamp (show sk < 2 ^ 31 by omega))).trans rfl) dX5_programme_109 ?_
              refine lv_goto (tgt := 119) S.1 S.2.1 dX5_programme_110 (by decide) ?_
              exact ne_wI S hS hr hlk ⟨congrArg (fun z => some (Value.int z)) (Eq.symm (by unfold f_X5_programme; first | (rw [if_neg c6_1, if_neg c19_2, if_neg c28_3, if_pos c50_4, if_neg c87_5, if_pos c101_6]; done) | (simp only [if_neg c6_1, if_neg c19_2, if_neg c28_3, if_pos c50_4, if_neg c87_5, if_pos c101_6]; done) | rfl)), ⟨_, (by unfold g_X5_programme; first | (rw [if_neg c6_1, if_neg c19_2, if_neg c28_3, if_pos c50_4, if_neg c87_5, if_pos c101_6]; exact (sq_refl _)) | (simp only [if_neg c6_1, if_neg c19_2, if_neg c28_3, if_pos c50_4, if_neg c87_5, if_pos c101_6]; exact (sq_refl _)) | exact (sq_refl _)), N⟩⟩ dX5_programme_119
          · refine lv_aload_n S.1 S.2.1 dX5_programme_90 rfl (lv_at hl 0 rfl) ?_
            refine lv_iload_n S.1 S.2.1 dX5_programme_91 rfl (lv_at hl 1 rfl) ?_
            refine nt_i (y := nI sk) (hs1) ?_
            refine lv_iload_n S.1 S.2.1 dX5_programme_92 rfl (lv_at hl 2 rfl) ?_
            refine nt_i (y := nI ed) (hd1) ?_
            refine mc_wV S K N hS rfl (As := [.int (nI sk), .int (nI ed)]) (m_X5_totalOf l (up2 M 0 0 0) sk ed N (RI_sr (sr_t (sq_refl _)) hR) hs2 hd2) k4_105 k4_107 kS_34 k1_3 k4_108 (num := 2) (by decide +kernel) rfl ⟨Nat.le_of_ble_eq_true rfl, Nat.le_of_ble_eq_true rfl⟩ hl.1 rfl (Nat.le_of_ble_eq_true rfl) dX5_programme_93 ⟨Nat.le_of_ble_eq_true rfl, Nat.le_of_ble_eq_true rfl⟩ (fun v9 H locs hP hS => ?_)
            obtain ⟨rfl, M_9, hq_10, N⟩ := hP
            refine W.eq (g2 := F0 m 96 ls [.int (f_X5_totalOf (up2 M 0 0 0) sk ed)]) rfl ?_
            refine nt_i (y := (f_X5_totalOf M sk ed)) (cg_X5_totalOf (sr_t (sq_refl _))) ?_
            have hq_10 : sq (up2 M 0 0 0) M_9 := sq_trans (sq_refl _) hq_10
            refine lv_goto (tgt := 119) S.1 S.2.1 dX5_programme_96 (by decide) ?_
            exact ne_wI S hS hr hlk ⟨congrArg (fun z => some (Value.int z)) (Eq.symm (by unfold f_X5_programme; first | (rw [if_neg c6_1, if_neg c19_2, if_neg c28_3, if_pos c50_4, if_pos c87_5]; done) | (simp only [if_neg c6_1, if_neg c19_2, if_neg c28_3, if_pos c50_4, if_pos c87_5]; done) | rfl)), ⟨_, (by unfold g_X5_programme; first | (rw [if_neg c6_1, if_neg c19_2, if_neg c28_3, if_pos c50_4, if_pos c87_5]; exact hq_10) | (simp only [if_neg c6_1, if_neg c19_2, if_neg c28_3, if_pos c50_4, if_pos c87_5]; exact hq_10) | exact hq_10), N⟩⟩ dX5_programme_119
        · refine lv_iload_n S.1 S.2.1 dX5_programme_53 rfl (lv_at hl 3 rfl) ?_
          refine lv_if_ne (tgt := 66) S.1 S.2.1 dX5_programme_54 (by decide) (fun c54_11 => ?_) (fun c54_11 => ?_)
          · refine lv_iload_n S.1 S.2.1 dX5_programme_66 rfl (lv_at hl 3 rfl) ?_
            refine lv_iconst (v := 1) S.1 S.2.1 dX5_programme_67 (by decide) ?_
            refine lv_icmp_ne (tgt := 79) S.1 S.2.1 dX5_programme_68 (by decide) (fun c68_12 => ?_) (fun c68_12 => ?_)
            · refine lv_aload_n S.1 S.2.1 dX5_programme_79 rfl (lv_at hl 0 rfl) ?_
              refine lv_iload_n S.1 S.2.1 dX5_programme_80 rfl (lv_at hl 1 rfl) ?_
              refine nt_i (y := nI sk) (hs1) ?_
              refine mc_rV S K N hS rfl (As := [.int (nI sk)]) (m_X5_fineOf l (up2 M 0 0 0) sk N (RI_sr (sr_t (sq_refl _)) hR) hs2) k4_101 k4_103 kS_33 k1_3 k4_104 (num := 1) (by decide +kernel) rfl ⟨Nat.le_of_ble_eq_true rfl, Nat.le_of_ble_eq_true rfl⟩ hl.1 rfl (Nat.le_of_ble_eq_true rfl) dX5_programme_81 ⟨Nat.le_of_ble_eq_true rfl, Nat.le_of_ble_eq_true rfl⟩ ?_
              refine nt_i (y := (f_X5_fineOf M sk)) (cg_X5_fineOf (sr_t (sq_refl _))) ?_
              exact ne_wI S hS hr hlk ⟨congrArg (fun z => some (Value.int z)) (Eq.symm (by unfold f_X5_programme; first | (rw [if_neg c6_1, if_neg c19_2, if_neg c28_3, if_neg c50_4, if_neg c54_11, if_neg c68_12]; done) | (simp only [if_neg c6_1, if_neg c19_2, if_neg c28_3, if_neg c50_4, if_neg c54_11, if_neg c68_12]; done) | rfl)), ⟨_, (by unfold g_X5_programme; first | (rw [if_neg c6_1, if_neg c19_2, if_neg c28_3, if_neg c50_4, if_neg c54_11, if_neg c68_12]; exact (sq_refl _)) | (simp only [if_neg c6_1, if_neg c19_2, if_neg c28_3, if_neg c50_4, if_neg c54_11, if_neg c68_12]; exact (sq_refl _)) | exact (sq_refl _)), N⟩⟩ dX5_programme_84
            · refine lv_aload_n S.1 S.2.1 dX5_programme_71 rfl (lv_at hl 0 rfl) ?_
              refine lv_iload_n S.1 S.2.1 dX5_programme_72 rfl (lv_at hl 1 rfl) ?_
              refine nt_i (y := nI sk) (hs1) ?_
              refine mc_wV S K N hS rfl (As := [.int (nI sk)]) (m_X5_componentsOf l (up2 M 0 0 0) sk N hs2) k4_96 k4_98 kS_32 k1_3 k4_99 (num := 1) (by decide +kernel) rfl ⟨Nat.le_of_ble_eq_true rfl, Nat.le_of_ble_eq_true rfl⟩ hl.1 rfl (Nat.le_of_ble_eq_true rfl) dX5_programme_73 ⟨Nat.le_of_ble_eq_true rfl, Nat.le_of_ble_eq_true rfl⟩ (fun v9 H locs hP hS => ?_)
              obtain ⟨rfl, N⟩ := hP
              refine W.eq (g2 := F0 m 76 ls [.int (f_X5_componentsOf (up2 M 0 0 0) sk)]) rfl ?_
              refine nt_i (y := (f_X5_componentsOf M sk)) (cg_X5_componentsOf (sr_t (sq_refl _))) ?_
              refine lv_goto (tgt := 84) S.1 S.2.1 dX5_programme_76 (by decide) ?_
              exact ne_wI S hS hr hlk ⟨congrArg (fun z => some (Value.int z)) (Eq.symm (by unfold f_X5_programme; first | (rw [if_neg c6_1, if_neg c19_2, if_neg c28_3, if_neg c50_4, if_neg c54_11, if_pos c68_12]; done) | (simp only [if_neg c6_1, if_neg c19_2, if_neg c28_3, if_neg c50_4, if_neg c54_11, if_pos c68_12]; done) | rfl)), ⟨_, (by unfold g_X5_programme; first | (rw [if_neg c6_1, if_neg c19_2, if_neg c28_3, if_neg c50_4, if_neg c54_11, if_pos c68_12]; exact (sq_trans (sq_refl _) sq_X5_componentsOf)) | (simp only [if_neg c6_1, if_neg c19_2, if_neg c28_3, if_neg c50_4, if_neg c54_11, if_pos c68_12]; exact (sq_trans (sq_refl _) sq_X5_componentsOf)) | exact (sq_trans (sq_refl _) sq_X5_componentsOf)), N⟩⟩ dX5_programme_84
          · refine lv_aload_n S.1 S.2.1 dX5_programme_57 rfl (lv_at hl 0 rfl) ?_
            refine lv_iload_n S.1 S.2.1 dX5_programme_58 rfl (lv_at hl 1 rfl) ?_
            refine nt_i (y := nI sk) (hs1) ?_
            refine lv_iload_n S.1 S.2.1 dX5_programme_59 rfl (lv_at hl 2 rfl) ?_
            refine nt_i (y := nI ed) (hd1) ?_
            refine mc_wV S K N hS rfl (As := [.int (nI sk), .int (nI ed)]) (m_X5_elementsOf l (up2 M 0 0 0) sk ed N (RI_sr (sr_t (sq_refl _)) hR) hs2 hd2) k4_92 k4_94 kS_31 k1_3 k4_95 (num := 2) (by decide +kernel) rfl ⟨Nat.le_of_ble_eq_true rfl, Nat.le_of_ble_eq_true rfl⟩ hl.1 rfl (Nat.le_of_ble_eq_true rfl) dX5_programme_60 ⟨Nat.le_of_ble_eq_true rfl, Nat.le_of_ble_eq_true rfl⟩ (fun v9 H locs hP hS => ?_)
            obtain ⟨rfl, M_13, hq_14, N⟩ := hP
            refine W.eq (g2 := F0 m 63 ls [.int (f_X5_elementsOf (up2 M 0 0 0) sk ed)]) rfl ?_
            refine nt_i (y := (f_X5_elementsOf M sk ed)) (cg_X5_elementsOf (sr_t (sq_refl _))) ?_
            have hq_14 : sq (up2 M 0 0 0) M_13 := sq_trans (sq_refl _) hq_14
            refine lv_goto (tgt := 84) S.1 S.2.1 dX5_programme_63 (by decide) ?_
            exact ne_wI S hS hr hlk ⟨congrArg (fun z => some (Value.int z)) (Eq.symm (by unfold f_X5_programme; first | (rw [if_neg c6_1, if_neg c19_2, if_neg c28_3, if_neg c50_4, if_pos c54_11]; done) | (simp only [if_neg c6_1, if_neg c19_2, if_neg c28_3, if_neg c50_4, if_pos c54_11]; done) | rfl)), ⟨_, (by unfold g_X5_programme; first | (rw [if_neg c6_1, if_neg c19_2, if_neg c28_3, if_neg c50_4, if_pos c54_11]; exact hq_14) | (simp only [if_neg c6_1, if_neg c19_2, if_neg c28_3, if_neg c50_4, if_pos c54_11]; exact hq_14) | exact hq_14), N⟩⟩ dX5_programme_84
  · refine lv_iconst (v := 1) S.1 S.2.1 dX5_programme_9 (by decide) ?_
    refine lv_goto (tgt := 36) S.1 S.2.1 dX5_programme_10 (by decide) ?_
    refine mr_put S K N hS 0 (by decide) (by unfold mscal; omega) k3_146 rfl rfl dX5_programme_36 (fun H locs N hS => ?_)
    refine lv_aload_n S.1 S.2.1 dX5_programme_39 rfl (lv_at hl 0 rfl) ?_
    refine mr_get S K N 0 (by decide) k3_146 (v := .int 1) rfl dX5_programme_40 ?_
    refine lv_if_le (tgt := 48) S.1 S.2.1 dX5_programme_43 (by decide) (fun c9 => absurd c9 (by decide)) (fun _ => ?_)
    refine lv_iconst (v := 0) S.1 S.2.1 dX5_programme_46 (by decide) ?_
    exact ne_wI S hS hr hlk ⟨congrArg (fun z => some (Value.int z)) (Eq.symm (by unfold f_X5_programme; first | (rw [if_pos c6_1]; done) | (simp only [if_pos c6_1]; done) | rfl)), ⟨_, (by unfold g_X5_programme; first | (rw [if_pos c6_1]; exact (sq_refl _)) | (simp only [if_pos c6_1]; exact (sq_refl _)) | exact (sq_refl _)), N⟩⟩ dX5_programme_47

def it42_X5_starts (M : Nat → Nat → Int32) (p0 : Int32) (p1 : Int32) (ed : Nat) : Nat → Int32
  | 0 => 0
  | n42 + 1 => ((it42_X5_starts M p0 p1 ed n42) + ((if (M 6 n42) = 2 then 1 else 0) : Int32))
def it87_X5_starts (M : Nat → Nat → Int32) (p0 : Int32) (p1 : Int32) (ed : Nat) : Nat → Int32 × Int32
  | 0 => ((p1 - (it42_X5_starts M p0 p1 ed (nS M))), (-1))
  | n87 + 1 => ((if ((if (M 6 n87) = 2 then 1 else 0) : Int32) = 0 then (if (it87_X5_starts M p0 p1 ed n87).1 = 0 then ((it87_X5_starts M p0 p1 ed n87).1 - 1) else ((it87_X5_starts M p0 p1 ed n87).1 - 1)) else (if (it42_X5_starts M p0 p1 ed (nS M)) ≤ p1 then ((it87_X5_starts M p0 p1 ed n87).1 - 0) else (if (f_X5_rankOf M n87 ed) = (((it42_X5_starts M p0 p1 ed (nS M)) - 1) - p1) then ((it87_X5_starts M p0 p1 ed n87).1 - 0) else ((it87_X5_starts M p0 p1 ed n87).1 - 0)))), (if ((if (M 6 n87) = 2 then 1 else 0) : Int32) = 0 then (if (it87_X5_starts M p0 p1 ed n87).1 = 0 then (nI n87) else (it87_X5_starts M p0 p1 ed n87).2) else (if (it42_X5_starts M p0 p1 ed (nS M)) ≤ p1 then (it87_X5_starts M p0 p1 ed n87).2 else (if (f_X5_rankOf M n87 ed) = (((it42_X5_starts M p0 p1 ed (nS M)) - 1) - p1) then (nI n87) else (it87_X5_starts M p0 p1 ed n87).2))))
def f_X5_starts (M : Nat → Nat → Int32) (p0 : Int32) (p1 : Int32) (ed : Nat) : Int32 :=
  if (f_X5_in p0 0 2) = 0 then 0
  else if (f_X5_in p1 0 11) = 0 then 0
  else (it87_X5_starts M p0 p1 ed (nS M)).2
def g_X5_starts (M : Nat → Nat → Int32) (p0 : Int32) (p1 : Int32) (ed : Nat) : Nat → Nat → Int32 :=
  if (f_X5_in p0 0 2) = 0 then (up2 M 0 0 1)
  else if (f_X5_in p1 0 11) = 0 then (up2 M 0 0 1)
  else (up2 M 0 0 0)
set_option maxHeartbeats 4000000 in
set_option maxRecDepth 100000 in
theorem m_X5_starts {D : va_G} {cA : Nat → ClassId} {B : Nat} (l : Launch) {dom : Nat → Prop} {ad : Nat → Nat} {X : Nat → va_E} {H0 : Heap} (M : Nat → Nat → Int32) (p0 : Int32) (p1 : Int32) (ed : Nat) (N : mw D cA B dom ad X M H0) (hR : RI M) (hed : ¬ f_X5_in p0 0 2 = 0 → p0 = nI ed ∧ ed < 3) : MetW D cA B l yX5_starts cX5_starts 9 (some .int) 7 175 0 0 [.ref (ad 5), .int p0, .int p1] H0 (fun o h => o = some (.int (f_X5_starts M p0 p1 ed)) ∧ ∃ M1, sq (g_X5_starts M p0 p1 ed) M1 ∧ mw D cA B dom ad X M1 h) := by
  refine MetW.of (by decide) (Nat.le_of_ble_eq_true rfl) ?_
  intro p e s m args below meth c S hr hlk hin hh K ls hl
  subst hh
  have hS : va_S (fun q => B ≤ q) s.heap s.heap [] := va_S.rf
  have hl : lv_has ls 9 [(0, .ref (ad 5)), (1, .int p0), (2, .int p1)] := hl
  have hle := hR.manyLe
  refine lv_aload_n S.1 S.2.1 dX5_starts_0 rfl (lv_at hl 0 rfl) ?_
  refine lv_iload_n S.1 S.2.1 dX5_starts_1 rfl (lv_at hl 1 rfl) ?_
  refine lv_iconst (v := 0) S.1 S.2.1 dX5_starts_2 (by decide) ?_
  refine lv_iconst (v := 2) S.1 S.2.1 dX5_starts_3 (by decide) ?_
  refine nc_rS S K hS (As := [.int p0, .int 0, .int 2]) (m_X5_in l p0 0 2) k3_232 k3_233 k1_3 k3_234 (num := 3) (by decide +kernel) rfl ⟨Nat.le_of_ble_eq_true rfl, Nat.le_of_ble_eq_true rfl⟩ hl.1 rfl (Nat.le_of_ble_eq_true rfl) dX5_starts_4 ⟨Nat.le_of_ble_eq_true rfl, Nat.le_of_ble_eq_true rfl⟩ ?_
  refine lv_if_eq (tgt := 24) S.1 S.2.1 dX5_starts_7 (by decide) (fun c7_1 => ?_) (fun c7_1 => ?_)
  · refine lv_iconst (v := 1) S.1 S.2.1 dX5_starts_24 (by decide) ?_
    refine mr_put S K N hS 0 (by decide) (by unfold mscal; omega) k3_146 rfl rfl dX5_starts_25 (fun H locs N hS => ?_)
    refine lv_aload_n S.1 S.2.1 dX5_starts_28 rfl (lv_at hl 0 rfl) ?_
    refine mr_get S K N 0 (by decide) k3_146 (v := .int 1) rfl dX5_starts_29 ?_
    refine lv_if_le (tgt := 37) S.1 S.2.1 dX5_starts_32 (by decide) (fun c9 => absurd c9 (by decide)) (fun _ => ?_)
    refine lv_iconst (v := 0) S.1 S.2.1 dX5_starts_35 (by decide) ?_
    exact ne_wI S hS hr hlk ⟨congrArg (fun z => some (Value.int z)) (Eq.symm (by unfold f_X5_starts; first | (rw [if_pos c7_1]; done) | (simp only [if_pos c7_1]; done) | rfl)), ⟨_, (by unfold g_X5_starts; first | (rw [if_pos c7_1]; exact (sq_refl _)) | (simp only [if_pos c7_1]; exact (sq_refl _)) | exact (sq_refl _)), N⟩⟩ dX5_starts_36
  · obtain ⟨hd1, hd2⟩ := hed c7_1
    refine lv_iload_n S.1 S.2.1 dX5_starts_10 rfl (lv_at hl 2 rfl) ?_
    refine lv_iconst (v := 0) S.1 S.2.1 dX5_starts_11 (by decide) ?_
    refine lv_bipush (v := 11) S.1 S.2.1 dX5_starts_12 (by decide) ?_
    refine nc_rS S K hS (As := [.int p1, .int 0, .int 11]) (m_X5_in l p1 0 11) k3_232 k3_233 k1_3 k3_234 (num := 3) (by decide +kernel) rfl ⟨Nat.le_of_ble_eq_true rfl, Nat.le_of_ble_eq_true rfl⟩ hl.1 rfl (Nat.le_of_ble_eq_true rfl) dX5_starts_14 ⟨Nat.le_of_ble_eq_true rfl, Nat.le_of_ble_eq_true rfl⟩ ?_
    refine lv_if_eq (tgt := 24) S.1 S.2.1 dX5_starts_17 (by decide) (fun c17_2 => ?_) (fun c17_2 => ?_)
    · refine lv_iconst (v := 1) S.1 S.2.1 dX5_starts_24 (by decide) ?_
      refine mr_put S K N hS 0 (by decide) (by unfold mscal; omega) k3_146 rfl rfl dX5_starts_25 (fun H locs N hS => ?_)
      refine lv_aload_n S.1 S.2.1 dX5_starts_28 rfl (lv_at hl 0 rfl) ?_
      refine mr_get S K N 0 (by decide) k3_146 (v := .int 1) rfl dX5_starts_29 ?_
      refine lv_if_le (tgt := 37) S.1 S.2.1 dX5_starts_32 (by decide) (fun c9 => absurd c9 (by decide)) (fun _ => ?_)
      refine lv_iconst (v := 0) S.1 S.2.1 dX5_starts_35 (by decide) ?_
      exact ne_wI S hS hr hlk ⟨congrArg (fun z => some (Value.int z)) (Eq.symm (by unfold f_X5_starts; first | (rw [if_neg c7_1, if_pos c17_2]; done) | (simp only [if_neg c7_1, if_pos c17_2]; done) | rfl)), ⟨_, (by unfold g_X5_starts; first | (rw [if_neg c7_1, if_pos c17_2]; exact (sq_refl _)) | (simp only [if_neg c7_1, if_pos c17_2]; exact (sq_refl _)) | exact (sq_refl _)), N⟩⟩ dX5_starts_36
    · refine lv_iconst (v := 0) S.1 S.2.1 dX5_starts_20 (by decide) ?_
      refine lv_goto (tgt := 25) S.1 S.2.1 dX5_starts_21 (by decide) ?_
      refine mr_put S K N hS 0 (by decide) (by unfold mscal; omega) k3_146 rfl rfl dX5_starts_25 (fun H locs N hS => ?_)
      refine lv_aload_n S.1 S.2.1 dX5_starts_28 rfl (lv_at hl 0 rfl) ?_
      refine mr_get S K N 0 (by decide) k3_146 (v := .int 0) rfl dX5_starts_29 ?_
      refine lv_if_le (tgt := 37) S.1 S.2.1 dX5_starts_32 (by decide) (fun _ => ?_) (fun c9 => absurd (by decide) c9)
      refine lv_iconst (v := 0) S.1 S.2.1 dX5_starts_37 (by decide) ?_
      refine lv_istore_n (lv' := [(3, .int 0), (0, .ref (ad 5)), (1, .int p0), (2, .int p1)]) S.1 S.2.1 dX5_starts_38 rfl hl (by decide) rfl (fun ls hl => ?_)
      refine lv_iconst (v := 0) S.1 S.2.1 dX5_starts_39 (by decide) ?_
      refine lv_istore (lv' := [(4, .int 0), (3, .int 0), (0, .ref (ad 5)), (1, .int p0), (2, .int p1)]) S.1 S.2.1 dX5_starts_40 hl (by decide) rfl (fun ls hl => ?_)
      refine nl (h := 42) (N := (nS M)) (n := 9) (L := fun i42 : Nat => [(4, .int (nI i42)), (3, .int (it42_X5_starts M p0 p1 ed i42)), (0, .ref (ad 5)), (1, .int p0), (2, .int p1)]) (fun ls hl => ?_) (fun i42 hi42 ih42 ls hl => ?_) ls (lv_sub hl [0, 1, 2, 3, 4] rfl)
      · try dsimp only at hl
        refine lv_iload S.1 S.2.1 dX5_starts_42 (lv_at hl 0 rfl) ?_
        refine lv_aload_n S.1 S.2.1 dX5_starts_44 rfl (lv_at hl 2 rfl) ?_
        refine mr_get S K N 1 (by decide) k3_147 (v := .int (M 0 1)) rfl dX5_starts_45 ?_
        refine nt_i (y := nI (nS M)) (hR.many) ?_
        refine lv_icmp_ge (tgt := 76) S.1 S.2.1 dX5_starts_48 (by decide) (fun _ => ?_) (fun c9 => absurd (nI_le (Nat.le_refl _) (by first | omega | decide)) c9)
        refine lv_iload_n S.1 S.2.1 dX5_starts_76 rfl (lv_at hl 4 rfl) ?_
        refine lv_iload_n S.1 S.2.1 dX5_starts_77 rfl (lv_at hl 1 rfl) ?_
        refine lv_isub S.1 S.2.1 dX5_starts_78 ?_
        refine lv_istore (lv' := [(4, .int (p1 - (it42_X5_starts M p0 p1 ed (nS M)))), (3, .int (it42_X5_starts M p0 p1 ed (nS M))), (0, .ref (ad 5)), (1, .int p0), (2, .int p1)]) S.1 S.2.1 dX5_starts_79 hl (by decide) rfl (fun ls hl => ?_)
        refine lv_iconst (v := (-1)) S.1 S.2.1 dX5_starts_81 (by decide) ?_
        refine lv_istore (lv' := [(5, .int (-1)), (4, .int (p1 - (it42_X5_starts M p0 p1 ed (nS M)))), (3, .int (it42_X5_starts M p0 p1 ed (nS M))), (0, .ref (ad 5)), (1, .int p0), (2, .int p1)]) S.1 S.2.1 dX5_starts_82 hl (by decide) rfl (fun ls hl => ?_)
        refine lv_iconst (v := 0) S.1 S.2.1 dX5_starts_84 (by decide) ?_
        refine lv_istore (lv' := [(6, .int 0), (5, .int (-1)), (4, .int (p1 - (it42_X5_starts M p0 p1 ed (nS M)))), (3, .int (it42_X5_starts M p0 p1 ed (nS M))), (0, .ref (ad 5)), (1, .int p0), (2, .int p1)]) S.1 S.2.1 dX5_starts_85 hl (by decide) rfl (fun ls hl => ?_)
        refine nlM (B := B) (h := 87) (N := (nS M)) (n := 9) (PH := fun (_ : Nat) (H : Heap) => ∃ M1, sq (up2 M 0 0 0) M1 ∧ mw D cA B dom ad X M1 H) (L := fun i87 : Nat => [(6, .int (nI i87)), (4, .int ((it87_X5_starts M p0 p1 ed i87).1)), (5, .int ((it87_X5_starts M p0 p1 ed i87).2)), (3, .int (it42_X5_starts M p0 p1 ed (nS M))), (0, .ref (ad 5)), (1, .int p0), (2, .int p1)]) (fun ls H locs N hS hl => ?_) (fun i87 hi87 ih87 ls H locs N hS hl => ?_) ls _ _ ⟨_, (sq_refl _), N⟩ hS (lv_sub hl [0, 2, 1, 3, 4, 5, 6] rfl)
        · try dsimp only at hl
          obtain ⟨M_3, hq_4, N⟩ := N
          refine lv_iload S.1 S.2.1 dX5_starts_87 (lv_at hl 0 rfl) ?_
          refine lv_aload_n S.1 S.2.1 dX5_starts_89 rfl (lv_at hl 4 rfl) ?_
          refine mr_get S K N 1 (by decide) k3_147 (v := .int (M_3 0 1)) rfl dX5_starts_90 ?_
          refine nt_i (y := (M 0 1)) ((hq_4 0 1 (by decide)).trans rfl) ?_
          refine nt_i (y := nI (nS M)) (hR.many) ?_
          refine lv_icmp_ge (tgt := 194) S.1 S.2.1 dX5_starts_93 (by decide) (fun _ => ?_) (fun c9 => absurd (nI_le (Nat.le_refl _) (by first | omega | decide)) c9)
          refine lv_iload S.1 S.2.1 dX5_starts_194 (lv_at hl 2 rfl) ?_
          exact ne_wI S hS hr hlk ⟨congrArg (fun z => some (Value.int z)) (Eq.symm (by unfold f_X5_starts; first | (rw [if_neg c7_1, if_neg c17_2]; done) | (simp only [if_neg c7_1, if_neg c17_2]; done) | rfl)), ⟨_, (by unfold g_X5_starts; first | (rw [if_neg c7_1, if_neg c17_2]; exact hq_4) | (simp only [if_neg c7_1, if_neg c17_2]; exact hq_4) | exact hq_4), N⟩⟩ dX5_starts_196
        · try dsimp only at hl
          obtain ⟨M_3, hq_4, N⟩ := N
          refine lv_iload S.1 S.2.1 dX5_starts_87 (lv_at hl 0 rfl) ?_
          refine lv_aload_n S.1 S.2.1 dX5_starts_89 rfl (lv_at hl 4 rfl) ?_
          refine mr_get S K N 1 (by decide) k3_147 (v := .int (M_3 0 1)) rfl dX5_starts_90 ?_
          refine nt_i (y := (M 0 1)) ((hq_4 0 1 (by decide)).trans rfl) ?_
          refine nt_i (y := nI (nS M)) (hR.many) ?_
          refine lv_icmp_ge (tgt := 194) S.1 S.2.1 dX5_starts_93 (by decide) (fun c9 => absurd c9 (nI_ge (hi87) (by first | omega | decide))) (fun _ => ?_)
          refine lv_aload_n S.1 S.2.1 dX5_starts_96 rfl (lv_at hl 4 rfl) ?_
          refine mr_get S K N 6 (by decide) k3_152 (v := .ref (ad 16)) rfl dX5_starts_97 ?_
          refine lv_iload S.1 S.2.1 dX5_starts_100 (lv_at hl 0 rfl) ?_
          refine mr_iald S K N 6 (by decide) (by decide) rfl (v := (M_3 6 i87)) (vp_in_nI (show i87 < mlen 6 by show _ < 12; omega) (by decide)) (congrArg (M_3 6) (nI_clamp (show i87 < 2 ^ 31 by omega))) dX5_starts_102 ?_
          refine nt_i (y := (M 6 i87)) ((hq_4 6 i87 (fun z9 => absurd z9 (by decide))).trans rfl) ?_
          refine lv_iconst (v := 2) S.1 S.2.1 dX5_starts_103 (by decide) ?_
          refine nj (J := 112) (V := ((if (M 6 i87) = 2 then 1 else 0) : Int32)) (L := fun v104_5 => [(6, .int (nI i87)), (4, .int ((it87_X5_starts M p0 p1 ed i87).1)), (5, .int ((it87_X5_starts M p0 p1 ed i87).2)), (3, .int (it42_X5_starts M p0 p1 ed (nS M))), (0, .ref (ad 5)), (1, .int p0), (2, .int p1)]) (St := fun v104_5 => [.int v104_5]) (n := 9) (fun v104_5 ls h104_7 hl => ?_) (fun j104_6 => ?_)
          · try dsimp only at hl ⊢
            subst h104_7
            refine lv_istore (lv' := [(7, .int ((if (M 6 i87) = 2 then 1 else 0) : Int32)), (6, .int (nI i87)), (4, .int ((it87_X5_starts M p0 p1 ed i87).1)), (5, .int ((it87_X5_starts M p0 p1 ed i87).2)), (3, .int (it42_X5_starts M p0 p1 ed (nS M))), (0, .ref (ad 5)), (1, .int p0), (2, .int p1)]) S.1 S.2.1 dX5_starts_112 hl (by decide) rfl (fun ls hl => ?_)
            refine lv_iload S.1 S.2.1 dX5_starts_114 (lv_at hl 0 rfl) ?_
            refine lv_if_eq (tgt := 147) S.1 S.2.1 dX5_starts_116 (by decide) (fun c116_8 => ?_) (fun c116_8 => ?_)
            · refine lv_iload S.1 S.2.1 dX5_starts_147 (lv_at hl 2 rfl) ?_
              refine lv_if_ne (tgt := 156) S.1 S.2.1 dX5_starts_149 (by decide) (fun c149_9 => ?_) (fun c149_9 => ?_)
              · refine lv_iconst (v := 0) S.1 S.2.1 dX5_starts_156 (by decide) ?_
                refine lv_istore (lv' := [(8, .int 0), (7, .int ((if (M 6 i87) = 2 then 1 else 0) : Int32)), (6, .int (nI i87)), (4, .int ((it87_X5_starts M p0 p1 ed i87).1)), (5, .int ((it87_X5_starts M p0 p1 ed i87).2)), (3, .int (it42_X5_starts M p0 p1 ed (nS M))), (0, .ref (ad 5)), (1, .int p0), (2, .int p1)]) S.1 S.2.1 dX5_starts_157 hl (by decide) rfl (fun ls hl => ?_)
                refine lv_iload S.1 S.2.1 dX5_starts_159 (lv_at hl 0 rfl) ?_
                refine nj (J := 171) (V := ()) (L := fun v161_10 => [(8, .int 0), (7, .int ((if (M 6 i87) = 2 then 1 else 0) : Int32)), (6, .int (nI i87)), (4, .int ((it87_X5_starts M p0 p1 ed i87).1)), (5, .int ((it87_X5_starts M p0 p1 ed i87).2)), (3, .int (it42_X5_starts M p0 p1 ed (nS M))), (0, .ref (ad 5)), (1, .int p0), (2, .int p1)]) (St := fun v161_10 => [.int ((it87_X5_starts M p0 p1 ed i87).2)]) (n := 9) (fun v161_10 ls h161_12 hl => ?_) (fun j161_11 => ?_)
                · try dsimp only at hl ⊢
                  subst h161_12
                  refine lv_istore (lv' := [(5, .int ((it87_X5_starts M p0 p1 ed i87).2)), (8, .int 0), (7, .int ((if (M 6 i87) = 2 then 1 else 0) : Int32)), (6, .int (nI i87)), (4, .int ((it87_X5_starts M p0 p1 ed i87).1)), (3, .int (it42_X5_starts M p0 p1 ed (nS M))), (0, .ref (ad 5)), (1, .int p0), (2, .int p1)]) S.1 S.2.1 dX5_starts_171 hl (by decide) rfl (fun ls hl => ?_)
                  refine lv_iload S.1 S.2.1 dX5_starts_173 (lv_at hl 4 rfl) ?_
                  refine lv_iload S.1 S.2.1 dX5_starts_175 (lv_at hl 2 rfl) ?_
                  refine nj (J := 185) (V := ()) (L := fun v177_13 => [(5, .int ((it87_X5_starts M p0 p1 ed i87).2)), (8, .int 0), (7, .int ((if (M 6 i87) = 2 then 1 else 0) : Int32)), (6, .int (nI i87)), (4, .int ((it87_X5_starts M p0 p1 ed i87).1)), (3, .int (it42_X5_starts M p0 p1 ed (nS M))), (0, .ref (ad 5)), (1, .int p0), (2, .int p1)]) (St := fun v177_13 => [.int 1, .int ((it87_X5_starts M p0 p1 ed i87).1)]) (n := 9) (fun v177_13 ls h177_15 hl => ?_) (fun j177_14 => ?_)
                  · try dsimp only at hl ⊢
                    subst h177_15
                    refine lv_isub S.1 S.2.1 dX5_starts_185 ?_
                    refine lv_istore (lv' := [(4, .int ((it87_X5_starts M p0 p1 ed i87).1 - 1)), (5, .int ((it87_X5_starts M p0 p1 ed i87).2)), (8, .int 0), (7, .int ((if (M 6 i87) = 2 then 1 else 0) : Int32)), (6, .int (nI i87)), (3, .int (it42_X5_starts M p0 p1 ed (nS M))), (0, .ref (ad 5)), (1, .int p0), (2, .int p1)]) S.1 S.2.1 dX5_starts_186 hl (by decide) rfl (fun ls hl => ?_)
                    refine lv_iinc (v := nI (i87 + 1)) (lv' := [(6, .int (nI (i87 + 1))), (4, .int ((it87_X5_starts M p0 p1 ed i87).1 - 1)), (5, .int ((it87_X5_starts M p0 p1 ed i87).2)), (8, .int 0), (7, .int ((if (M 6 i87) = 2 then 1 else 0) : Int32)), (3, .int (it42_X5_starts M p0 p1 ed (nS M))), (0, .ref (ad 5)), (1, .int p0), (2, .int p1)]) S.1 S.2.1 dX5_starts_188 hl (k := 4) rfl (nI_add i87 1) (by decide) rfl (fun ls hl => ?_)
                    refine lv_goto (tgt := 87) S.1 S.2.1 dX5_starts_191 (by decide) ?_
                    have hstep : (it87_X5_starts M p0 p1 ed (i87 + 1)) = (((it87_X5_starts M p0 p1 ed i87).1 - 1), (it87_X5_starts M p0 p1 ed i87).2) := by
                      show (_ : _) = _
                      simp only [it87_X5_starts, if_pos c116_8, if_neg c149_9]
                    refine ih87 ls _ _ ⟨_, hq_4, N⟩ hS (by rw [hstep]; exact lv_sub hl [0, 1, 2, 5, 6, 7, 8] rfl)
                  · refine lv_if_eq (tgt := 184) S.1 S.2.1 dX5_starts_177 (by decide) (fun _ => ?_) (fun c9 => absurd (c116_8) c9)
                    refine lv_iconst (v := 1) S.1 S.2.1 dX5_starts_184 (by decide) ?_
                    exact j177_14 _ _ (by first | (rw [if_pos trivial]; done) | (simp only []; done) | rfl) (lv_sub hl [0, 1, 2, 3, 4, 5, 6, 7, 8] rfl)
                · refine lv_if_eq (tgt := 169) S.1 S.2.1 dX5_starts_161 (by decide) (fun _ => ?_) (fun c9 => absurd (by decide) c9)
                  refine lv_iload S.1 S.2.1 dX5_starts_169 (lv_at hl 4 rfl) ?_
                  exact j161_11 _ _ (by first | (rw [if_pos trivial]; done) | (simp only []; done) | rfl) (lv_sub hl [0, 1, 2, 3, 4, 5, 6, 7, 8] rfl)
              · refine lv_iconst (v := 1) S.1 S.2.1 dX5_starts_152 (by decide) ?_
                refine lv_goto (tgt := 157) S.1 S.2.1 dX5_starts_153 (by decide) ?_
                refine lv_istore (lv' := [(8, .int 1), (7, .int ((if (M 6 i87) = 2 then 1 else 0) : Int32)), (6, .int (nI i87)), (4, .int ((it87_X5_starts M p0 p1 ed i87).1)), (5, .int ((it87_X5_starts M p0 p1 ed i87).2)), (3, .int (it42_X5_starts M p0 p1 ed (nS M))), (0, .ref (ad 5)), (1, .int p0), (2, .int p1)]) S.1 S.2.1 dX5_starts_157 hl (by decide) rfl (fun ls hl => ?_)
                refine lv_iload S.1 S.2.1 dX5_starts_159 (lv_at hl 0 rfl) ?_
                refine nj (J := 171) (V := ()) (L := fun v161_16 => [(8, .int 1), (7, .int ((if (M 6 i87) = 2 then 1 else 0) : Int32)), (6, .int (nI i87)), (4, .int ((it87_X5_starts M p0 p1 ed i87).1)), (5, .int ((it87_X5_starts M p0 p1 ed i87).2)), (3, .int (it42_X5_starts M p0 p1 ed (nS M))), (0, .ref (ad 5)), (1, .int p0), (2, .int p1)]) (St := fun v161_16 => [.int (nI i87)]) (n := 9) (fun v161_16 ls h161_18 hl => ?_) (fun j161_17 => ?_)
                · try dsimp only at hl ⊢
                  subst h161_18
                  refine lv_istore (lv' := [(5, .int (nI i87)), (8, .int 1), (7, .int ((if (M 6 i87) = 2 then 1 else 0) : Int32)), (6, .int (nI i87)), (4, .int ((it87_X5_starts M p0 p1 ed i87).1)), (3, .int (it42_X5_starts M p0 p1 ed (nS M))), (0, .ref (ad 5)), (1, .int p0), (2, .int p1)]) S.1 S.2.1 dX5_starts_171 hl (by decide) rfl (fun ls hl => ?_)
                  refine lv_iload S.1 S.2.1 dX5_starts_173 (lv_at hl 4 rfl) ?_
                  refine lv_iload S.1 S.2.1 dX5_starts_175 (lv_at hl 2 rfl) ?_
                  refine nj (J := 185) (V := ()) (L := fun v177_19 => [(5, .int (nI i87)), (8, .int 1), (7, .int ((if (M 6 i87) = 2 then 1 else 0) : Int32)), (6, .int (nI i87)), (4, .int ((it87_X5_starts M p0 p1 ed i87).1)), (3, .int (it42_X5_starts M p0 p1 ed (nS M))), (0, .ref (ad 5)), (1, .int p0), (2, .int p1)]) (St := fun v177_19 => [.int 1, .int ((it87_X5_starts M p0 p1 ed i87).1)]) (n := 9) (fun v177_19 ls h177_21 hl => ?_) (fun j177_20 => ?_)
                  · try dsimp only at hl ⊢
                    subst h177_21
                    refine lv_isub S.1 S.2.1 dX5_starts_185 ?_
                    refine lv_istore (lv' := [(4, .int ((it87_X5_starts M p0 p1 ed i87).1 - 1)), (5, .int (nI i87)), (8, .int 1), (7, .int ((if (M 6 i87) = 2 then 1 else 0) : Int32)), (6, .int (nI i87)), (3, .int (it42_X5_starts M p0 p1 ed (nS M))), (0, .ref (ad 5)), (1, .int p0), (2, .int p1)]) S.1 S.2.1 dX5_starts_186 hl (by decide) rfl (fun ls hl => ?_)
                    refine lv_iinc (v := nI (i87 + 1)) (lv' := [(6, .int (nI (i87 + 1))), (4, .int ((it87_X5_starts M p0 p1 ed i87).1 - 1)), (5, .int (nI i87)), (8, .int 1), (7, .int ((if (M 6 i87) = 2 then 1 else 0) : Int32)), (3, .int (it42_X5_starts M p0 p1 ed (nS M))), (0, .ref (ad 5)), (1, .int p0), (2, .int p1)]) S.1 S.2.1 dX5_starts_188 hl (k := 4) rfl (nI_add i87 1) (by decide) rfl (fun ls hl => ?_)
                    refine lv_goto (tgt := 87) S.1 S.2.1 dX5_starts_191 (by decide) ?_
                    have hstep : (it87_X5_starts M p0 p1 ed (i87 + 1)) = (((it87_X5_starts M p0 p1 ed i87).1 - 1), (nI i87)) := by
                      show (_ : _) = _
                      simp only [it87_X5_starts, if_pos c116_8, if_pos c149_9]
                    refine ih87 ls _ _ ⟨_, hq_4, N⟩ hS (by rw [hstep]; exact lv_sub hl [0, 1, 2, 5, 6, 7, 8] rfl)
                  · refine lv_if_eq (tgt := 184) S.1 S.2.1 dX5_starts_177 (by decide) (fun _ => ?_) (fun c9 => absurd (c116_8) c9)
                    refine lv_iconst (v := 1) S.1 S.2.1 dX5_starts_184 (by decide) ?_
                    exact j177_20 _ _ (by first | (rw [if_pos trivial]; done) | (simp only []; done) | rfl) (lv_sub hl [0, 1, 2, 3, 4, 5, 6, 7, 8] rfl)
                · refine lv_if_eq (tgt := 169) S.1 S.2.1 dX5_starts_161 (by decide) (fun c9 => absurd c9 (by decide)) (fun _ => ?_)
                  refine lv_iload S.1 S.2.1 dX5_starts_164 (lv_at hl 2 rfl) ?_
                  refine lv_goto (tgt := 171) S.1 S.2.1 dX5_starts_166 (by decide) ?_
                  exact j161_17 _ _ (by first | (rw [if_pos trivial]; done) | (simp only []; done) | rfl) (lv_sub hl [0, 1, 2, 3, 4, 5, 6, 7, 8] rfl)
            · refine lv_iload_n S.1 S.2.1 dX5_starts_119 rfl (lv_at hl 7 rfl) ?_
              refine lv_iload_n S.1 S.2.1 dX5_starts_120 rfl (lv_at hl 4 rfl) ?_
              refine lv_icmp_ge (tgt := 143) S.1 S.2.1 dX5_starts_121 (by decide) (fun c121_22 => ?_) (fun c121_22 => ?_)
              · refine lv_iconst (v := 0) S.1 S.2.1 dX5_starts_143 (by decide) ?_
                refine lv_goto (tgt := 157) S.1 S.2.1 dX5_starts_144 (by decide) ?_
                refine lv_istore (lv' := [(8, .int 0), (7, .int ((if (M 6 i87) = 2 then 1 else 0) : Int32)), (6, .int (nI i87)), (4, .int ((it87_X5_starts M p0 p1 ed i87).1)), (5, .int ((it87_X5_starts M p0 p1 ed i87).2)), (3, .int (it42_X5_starts M p0 p1 ed (nS M))), (0, .ref (ad 5)), (1, .int p0), (2, .int p1)]) S.1 S.2.1 dX5_starts_157 hl (by decide) rfl (fun ls hl => ?_)
                refine lv_iload S.1 S.2.1 dX5_starts_159 (lv_at hl 0 rfl) ?_
                refine nj (J := 171) (V := ()) (L := fun v161_23 => [(8, .int 0), (7, .int ((if (M 6 i87) = 2 then 1 else 0) : Int32)), (6, .int (nI i87)), (4, .int ((it87_X5_starts M p0 p1 ed i87).1)), (5, .int ((it87_X5_starts M p0 p1 ed i87).2)), (3, .int (it42_X5_starts M p0 p1 ed (nS M))), (0, .ref (ad 5)), (1, .int p0), (2, .int p1)]) (St := fun v161_23 => [.int ((it87_X5_starts M p0 p1 ed i87).2)]) (n := 9) (fun v161_23 ls h161_25 hl => ?_) (fun j161_24 => ?_)
                · try dsimp only at hl ⊢
                  subst h161_25
                  refine lv_istore (lv' := [(5, .int ((it87_X5_starts M p0 p1 ed i87).2)), (8, .int 0), (7, .int ((if (M 6 i87) = 2 then 1 else 0) : Int32)), (6, .int (nI i87)), (4, .int ((it87_X5_starts M p0 p1 ed i87).1)), (3, .int (it42_X5_starts M p0 p1 ed (nS M))), (0, .ref (ad 5)), (1, .int p0), (2, .int p1)]) S.1 S.2.1 dX5_starts_171 hl (by decide) rfl (fun ls hl => ?_)
                  refine lv_iload S.1 S.2.1 dX5_starts_173 (lv_at hl 4 rfl) ?_
                  refine lv_iload S.1 S.2.1 dX5_starts_175 (lv_at hl 2 rfl) ?_
                  refine nj (J := 185) (V := ()) (L := fun v177_26 => [(5, .int ((it87_X5_starts M p0 p1 ed i87).2)), (8, .int 0), (7, .int ((if (M 6 i87) = 2 then 1 else 0) : Int32)), (6, .int (nI i87)), (4, .int ((it87_X5_starts M p0 p1 ed i87).1)), (3, .int (it42_X5_starts M p0 p1 ed (nS M))), (0, .ref (ad 5)), (1, .int p0), (2, .int p1)]) (St := fun v177_26 => [.int 0, .int ((it87_X5_starts M p0 p1 ed i87).1)]) (n := 9) (fun v177_26 ls h177_28 hl => ?_) (fun j177_27 => ?_)
                  · try dsimp only at hl ⊢
                    subst h177_28
                    refine lv_isub S.1 S.2.1 dX5_starts_185 ?_
                    refine lv_istore (lv' := [(4, .int ((it87_X5_starts M p0 p1 ed i87).1 - 0)), (5, .int ((it87_X5_starts M p0 p1 ed i87).2)), (8, .int 0), (7, .int ((if (M 6 i87) = 2 then 1 else 0) : Int32)), (6, .int (nI i87)), (3, .int (it42_X5_starts M p0 p1 ed (nS M))), (0, .ref (ad 5)), (1, .int p0), (2, .int p1)]) S.1 S.2.1 dX5_starts_186 hl (by decide) rfl (fun ls hl => ?_)
                    refine lv_iinc (v := nI (i87 + 1)) (lv' := [(6, .int (nI (i87 + 1))), (4, .int ((it87_X5_starts M p0 p1 ed i87).1 - 0)), (5, .int ((it87_X5_starts M p0 p1 ed i87).2)), (8, .int 0), (7, .int ((if (M 6 i87) = 2 then 1 else 0) : Int32)), (3, .int (it42_X5_starts M p0 p1 ed (nS M))), (0, .ref (ad 5)), (1, .int p0), (2, .int p1)]) S.1 S.2.1 dX5_starts_188 hl (k := 4) rfl (nI_add i87 1) (by decide) rfl (fun ls hl => ?_)
                    refine lv_goto (tgt := 87) S.1 S.2.1 dX5_starts_191 (by decide) ?_
                    have hstep : (it87_X5_starts M p0 p1 ed (i87 + 1)) = (((it87_X5_starts M p0 p1 ed i87).1 - 0), (it87_X5_starts M p0 p1 ed i87).2) := by
                      show (_ : _) = _
                      simp only [it87_X5_starts, if_neg c116_8, if_pos c121_22]
                    refine ih87 ls _ _ ⟨_, hq_4, N⟩ hS (by rw [hstep]; exact lv_sub hl [0, 1, 2, 5, 6, 7, 8] rfl)
                  · refine lv_if_eq (tgt := 184) S.1 S.2.1 dX5_starts_177 (by decide) (fun c9 => absurd c9 (c116_8)) (fun _ => ?_)
                    refine lv_iconst (v := 0) S.1 S.2.1 dX5_starts_180 (by decide) ?_
                    refine lv_goto (tgt := 185) S.1 S.2.1 dX5_starts_181 (by decide) ?_
                    exact j177_27 _ _ (by first | (rw [if_pos trivial]; done) | (simp only []; done) | rfl) (lv_sub hl [0, 1, 2, 3, 4, 5, 6, 7, 8] rfl)
                · refine lv_if_eq (tgt := 169) S.1 S.2.1 dX5_starts_161 (by decide) (fun _ => ?_) (fun c9 => absurd (by decide) c9)
                  refine lv_iload S.1 S.2.1 dX5_starts_169 (lv_at hl 4 rfl) ?_
                  exact j161_24 _ _ (by first | (rw [if_pos trivial]; done) | (simp only []; done) | rfl) (lv_sub hl [0, 1, 2, 3, 4, 5, 6, 7, 8] rfl)
              · refine lv_aload_n S.1 S.2.1 dX5_starts_124 rfl (lv_at hl 5 rfl) ?_
                refine lv_iload S.1 S.2.1 dX5_starts_125 (lv_at hl 1 rfl) ?_
                refine lv_iload_n S.1 S.2.1 dX5_starts_127 rfl (lv_at hl 6 rfl) ?_
                refine nt_i (y := nI ed) (hd1) ?_
                refine mc_wV S K N hS rfl (As := [.int (nI i87), .int (nI ed)]) (m_X5_rankOf l M_3 i87 ed N (RI_sr (sr_t hq_4) hR) (by omega) hd2) k4_109 k4_111 kS_35 k1_3 k4_112 (num := 2) (by decide +kernel) rfl ⟨Nat.le_of_ble_eq_true rfl, Nat.le_of_ble_eq_true rfl⟩ hl.1 rfl (Nat.le_of_ble_eq_true rfl) dX5_starts_128 ⟨Nat.le_of_ble_eq_true rfl, Nat.le_of_ble_eq_true rfl⟩ (fun v9 H locs hP hS => ?_)
                obtain ⟨rfl, M_29, hq_30, N⟩ := hP
                refine W.eq (g2 := F0 m 131 ls [.int (f_X5_rankOf M_3 i87 ed)]) rfl ?_
                refine nt_i (y := (f_X5_rankOf M i87 ed)) (cg_X5_rankOf (sr_t hq_4)) ?_
                have hq_30 : sq (up2 M 0 0 0) M_29 := sq_trans hq_4 hq_30
                refine lv_iload_n S.1 S.2.1 dX5_starts_131 rfl (lv_at hl 4 rfl) ?_
                refine lv_iconst (v := 1) S.1 S.2.1 dX5_starts_132 (by decide) ?_
                refine lv_isub S.1 S.2.1 dX5_starts_133 ?_
                refine lv_iload_n S.1 S.2.1 dX5_starts_134 rfl (lv_at hl 7 rfl) ?_
                refine lv_isub S.1 S.2.1 dX5_starts_135 ?_
                refine lv_icmp_ne (tgt := 143) S.1 S.2.1 dX5_starts_136 (by decide) (fun c136_31 => ?_) (fun c136_31 => ?_)
                · refine lv_iconst (v := 0) S.1 S.2.1 dX5_starts_143 (by decide) ?_
                  refine lv_goto (tgt := 157) S.1 S.2.1 dX5_starts_144 (by decide) ?_
                  refine lv_istore (lv' := [(8, .int 0), (7, .int ((if (M 6 i87) = 2 then 1 else 0) : Int32)), (6, .int (nI i87)), (4, .int ((it87_X5_starts M p0 p1 ed i87).1)), (5, .int ((it87_X5_starts M p0 p1 ed i87).2)), (3, .int (it42_X5_starts M p0 p1 ed (nS M))), (0, .ref (ad 5)), (1, .int p0), (2, .int p1)]) S.1 S.2.1 dX5_starts_157 hl (by decide) rfl (fun ls hl => ?_)
                  refine lv_iload S.1 S.2.1 dX5_starts_159 (lv_at hl 0 rfl) ?_
                  refine nj (J := 171) (V := ()) (L := fun v161_32 => [(8, .int 0), (7, .int ((if (M 6 i87) = 2 then 1 else 0) : Int32)), (6, .int (nI i87)), (4, .int ((it87_X5_starts M p0 p1 ed i87).1)), (5, .int ((it87_X5_starts M p0 p1 ed i87).2)), (3, .int (it42_X5_starts M p0 p1 ed (nS M))), (0, .ref (ad 5)), (1, .int p0), (2, .int p1)]) (St := fun v161_32 => [.int ((it87_X5_starts M p0 p1 ed i87).2)]) (n := 9) (fun v161_32 ls h161_34 hl => ?_) (fun j161_33 => ?_)
                  · try dsimp only at hl ⊢
                    subst h161_34
                    refine lv_istore (lv' := [(5, .int ((it87_X5_starts M p0 p1 ed i87).2)), (8, .int 0), (7, .int ((if (M 6 i87) = 2 then 1 else 0) : Int32)), (6, .int (nI i87)), (4, .int ((it87_X5_starts M p0 p1 ed i87).1)), (3, .int (it42_X5_starts M p0 p1 ed (nS M))), (0, .ref (ad 5)), (1, .int p0), (2, .int p1)]) S.1 S.2.1 dX5_starts_171 hl (by decide) rfl (fun ls hl => ?_)
                    refine lv_iload S.1 S.2.1 dX5_starts_173 (lv_at hl 4 rfl) ?_
                    refine lv_iload S.1 S.2.1 dX5_starts_175 (lv_at hl 2 rfl) ?_
                    refine nj (J := 185) (V := ()) (L := fun v177_35 => [(5, .int ((it87_X5_starts M p0 p1 ed i87).2)), (8, .int 0), (7, .int ((if (M 6 i87) = 2 then 1 else 0) : Int32)), (6, .int (nI i87)), (4, .int ((it87_X5_starts M p0 p1 ed i87).1)), (3, .int (it42_X5_starts M p0 p1 ed (nS M))), (0, .ref (ad 5)), (1, .int p0), (2, .int p1)]) (St := fun v177_35 => [.int 0, .int ((it87_X5_starts M p0 p1 ed i87).1)]) (n := 9) (fun v177_35 ls h177_37 hl => ?_) (fun j177_36 => ?_)
                    · try dsimp only at hl ⊢
                      subst h177_37
                      refine lv_isub S.1 S.2.1 dX5_starts_185 ?_
                      refine lv_istore (lv' := [(4, .int ((it87_X5_starts M p0 p1 ed i87).1 - 0)), (5, .int ((it87_X5_starts M p0 p1 ed i87).2)), (8, .int 0), (7, .int ((if (M 6 i87) = 2 then 1 else 0) : Int32)), (6, .int (nI i87)), (3, .int (it42_X5_starts M p0 p1 ed (nS M))), (0, .ref (ad 5)), (1, .int p0), (2, .int p1)]) S.1 S.2.1 dX5_starts_186 hl (by decide) rfl (fun ls hl => ?_)
                      refine lv_iinc (v := nI (i87 + 1)) (lv' := [(6, .int (nI (i87 + 1))), (4, .int ((it87_X5_starts M p0 p1 ed i87).1 - 0)), (5, .int ((it87_X5_starts M p0 p1 ed i87).2)), (8, .int 0), (7, .int ((if (M 6 i87) = 2 then 1 else 0) : Int32)), (3, .int (it42_X5_starts M p0 p1 ed (nS M))), (0, .ref (ad 5)), (1, .int p0), (2, .int p1)]) S.1 S.2.1 dX5_starts_188 hl (k := 4) rfl (nI_add i87 1) (by decide) rfl (fun ls hl => ?_)
                      refine lv_goto (tgt := 87) S.1 S.2.1 dX5_starts_191 (by decide) ?_
                      have hstep : (it87_X5_starts M p0 p1 ed (i87 + 1)) = (((it87_X5_starts M p0 p1 ed i87).1 - 0), (it87_X5_starts M p0 p1 ed i87).2) := by
                        show (_ : _) = _
                        simp only [it87_X5_starts, if_neg c116_8, if_neg c121_22, if_neg c136_31]
                      refine ih87 ls _ _ ⟨_, hq_30, N⟩ hS (by rw [hstep]; exact lv_sub hl [0, 1, 2, 5, 6, 7, 8] rfl)
                    · refine lv_if_eq (tgt := 184) S.1 S.2.1 dX5_starts_177 (by decide) (fun c9 => absurd c9 (c116_8)) (fun _ => ?_)
                      refine lv_iconst (v := 0) S.1 S.2.1 dX5_starts_180 (by decide) ?_
                      refine lv_goto (tgt := 185) S.1 S.2.1 dX5_starts_181 (by decide) ?_
                      exact j177_36 _ _ (by first | (rw [if_pos trivial]; done) | (simp only []; done) | rfl) (lv_sub hl [0, 1, 2, 3, 4, 5, 6, 7, 8] rfl)
                  · refine lv_if_eq (tgt := 169) S.1 S.2.1 dX5_starts_161 (by decide) (fun _ => ?_) (fun c9 => absurd (by decide) c9)
                    refine lv_iload S.1 S.2.1 dX5_starts_169 (lv_at hl 4 rfl) ?_
                    exact j161_33 _ _ (by first | (rw [if_pos trivial]; done) | (simp only []; done) | rfl) (lv_sub hl [0, 1, 2, 3, 4, 5, 6, 7, 8] rfl)
                · refine lv_iconst (v := 1) S.1 S.2.1 dX5_starts_139 (by decide) ?_
                  refine lv_goto (tgt := 157) S.1 S.2.1 dX5_starts_140 (by decide) ?_
                  refine lv_istore (lv' := [(8, .int 1), (7, .int ((if (M 6 i87) = 2 then 1 else 0) : Int32)), (6, .int (nI i87)), (4, .int ((it87_X5_starts M p0 p1 ed i87).1)), (5, .int ((it87_X5_starts M p0 p1 ed i87).2)), (3, .int (it42_X5_starts M p0 p1 ed (nS M))), (0, .ref (ad 5)), (1, .int p0), (2, .int p1)]) S.1 S.2.1 dX5_starts_157 hl (by decide) rfl (fun ls hl => ?_)
                  refine lv_iload S.1 S.2.1 dX5_starts_159 (lv_at hl 0 rfl) ?_
                  refine nj (J := 171) (V := ()) (L := fun v161_38 => [(8, .int 1), (7, .int ((if (M 6 i87) = 2 then 1 else 0) : Int32)), (6, .int (nI i87)), (4, .int ((it87_X5_starts M p0 p1 ed i87).1)), (5, .int ((it87_X5_starts M p0 p1 ed i87).2)), (3, .int (it42_X5_starts M p0 p1 ed (nS M))), (0, .ref (ad 5)), (1, .int p0), (2, .int p1)]) (St := fun v161_38 => [.int (nI i87)]) (n := 9) (fun v161_38 ls h161_40 hl => ?_) (fun j161_39 => ?_)
                  · try dsimp only at hl ⊢
                    subst h161_40
                    refine lv_istore (lv' := [(5, .int (nI i87)), (8, .int 1), (7, .int ((if (M 6 i87) = 2 then 1 else 0) : Int32)), (6, .int (nI i87)), (4, .int ((it87_X5_starts M p0 p1 ed i87).1)), (3, .int (it42_X5_starts M p0 p1 ed (nS M))), (0, .ref (ad 5)), (1, .int p0), (2, .int p1)]) S.1 S.2.1 dX5_starts_171 hl (by decide) rfl (fun ls hl => ?_)
                    refine lv_iload S.1 S.2.1 dX5_starts_173 (lv_at hl 4 rfl) ?_
                    refine lv_iload S.1 S.2.1 dX5_starts_175 (lv_at hl 2 rfl) ?_
                    refine nj (J := 185) (V := ()) (L := fun v177_41 => [(5, .int (nI i87)), (8, .int 1), (7, .int ((if (M 6 i87) = 2 then 1 else 0) : Int32)), (6, .int (nI i87)), (4, .int ((it87_X5_starts M p0 p1 ed i87).1)), (3, .int (it42_X5_starts M p0 p1 ed (nS M))), (0, .ref (ad 5)), (1, .int p0), (2, .int p1)]) (St := fun v177_41 => [.int 0, .int ((it87_X5_starts M p0 p1 ed i87).1)]) (n := 9) (fun v177_41 ls h177_43 hl => ?_) (fun j177_42 => ?_)
                    · try dsimp only at hl ⊢
                      subst h177_43
                      refine lv_isub S.1 S.2.1 dX5_starts_185 ?_
                      refine lv_istore (lv' := [(4, .int ((it87_X5_starts M p0 p1 ed i87).1 - 0)), (5, .int (nI i87)), (8, .int 1), (7, .int ((if (M 6 i87) = 2 then 1 else 0) : Int32)), (6, .int (nI i87)), (3, .int (it42_X5_starts M p0 p1 ed (nS M))), (0, .ref (ad 5)), (1, .int p0), (2, .int p1)]) S.1 S.2.1 dX5_starts_186 hl (by decide) rfl (fun ls hl => ?_)
                      refine lv_iinc (v := nI (i87 + 1)) (lv' := [(6, .int (nI (i87 + 1))), (4, .int ((it87_X5_starts M p0 p1 ed i87).1 - 0)), (5, .int (nI i87)), (8, .int 1), (7, .int ((if (M 6 i87) = 2 then 1 else 0) : Int32)), (3, .int (it42_X5_starts M p0 p1 ed (nS M))), (0, .ref (ad 5)), (1, .int p0), (2, .int p1)]) S.1 S.2.1 dX5_starts_188 hl (k := 4) rfl (nI_add i87 1) (by decide) rfl (fun ls hl => ?_)
                      refine lv_goto (tgt := 87) S.1 S.2.1 dX5_starts_191 (by decide) ?_
                      have hstep : (it87_X5_starts M p0 p1 ed (i87 + 1)) = (((it87_X5_starts M p0 p1 ed i87).1 - 0), (nI i87)) := by
                        show (_ : _) = _
                        simp only [it87_X5_starts, if_neg c116_8, if_neg c121_22, if_pos c136_31]
                      refine ih87 ls _ _ ⟨_, hq_30, N⟩ hS (by rw [hstep]; exact lv_sub hl [0, 1, 2, 5, 6, 7, 8] rfl)
                    · refine lv_if_eq (tgt := 184) S.1 S.2.1 dX5_starts_177 (by decide) (fun c9 => absurd c9 (c116_8)) (fun _ => ?_)
                      refine lv_iconst (v := 0) S.1 S.2.1 dX5_starts_180 (by decide) ?_
                      refine lv_goto (tgt := 185) S.1 S.2.1 dX5_starts_181 (by decide) ?_
                      exact j177_42 _ _ (by first | (rw [if_pos trivial]; done) | (simp only []; done) | rfl) (lv_sub hl [0, 1, 2, 3, 4, 5, 6, 7, 8] rfl)
                  · refine lv_if_eq (tgt := 169) S.1 S.2.1 dX5_starts_161 (by decide) (fun c9 => absurd c9 (by decide)) (fun _ => ?_)
                    refine lv_iload S.1 S.2.1 dX5_starts_164 (lv_at hl 2 rfl) ?_
                    refine lv_goto (tgt := 171) S.1 S.2.1 dX5_starts_166 (by decide) ?_
                    exact j161_39 _ _ (by first | (rw [if_pos trivial]; done) | (simp only []; done) | rfl) (lv_sub hl [0, 1, 2, 3, 4, 5, 6, 7, 8] rfl)
          · refine lv_icmp_ne (tgt := 111) S.1 S.2.1 dX5_starts_104 (by decide) (fun c104_44 => ?_) (fun c104_44 => ?_)
            · refine lv_iconst (v := 0) S.1 S.2.1 dX5_starts_111 (by decide) ?_
              exact j104_6 _ _ (by first | (rw [if_neg c104_44]; done) | (simp only [if_neg c104_44]; done) | rfl) (lv_sub hl [0, 1, 2, 3, 4, 5, 6] rfl)
            · refine lv_iconst (v := 1) S.1 S.2.1 dX5_starts_107 (by decide) ?_
              refine lv_goto (tgt := 112) S.1 S.2.1 dX5_starts_108 (by decide) ?_
              exact j104_6 _ _ (by first | (rw [if_pos c104_44]; done) | (simp only [if_pos c104_44]; done) | rfl) (lv_sub hl [0, 1, 2, 3, 4, 5, 6] rfl)
      · try dsimp only at hl
        refine lv_iload S.1 S.2.1 dX5_starts_42 (lv_at hl 0 rfl) ?_
        refine lv_aload_n S.1 S.2.1 dX5_starts_44 rfl (lv_at hl 2 rfl) ?_
        refine mr_get S K N 1 (by decide) k3_147 (v := .int (M 0 1)) rfl dX5_starts_45 ?_
        refine nt_i (y := nI (nS M)) (hR.many) ?_
        refine lv_icmp_ge (tgt := 76) S.1 S.2.1 dX5_starts_48 (by decide) (fun c9 => absurd c9 (nI_ge (hi42) (by first | omega | decide))) (fun _ => ?_)
        refine lv_iload_n S.1 S.2.1 dX5_starts_51 rfl (lv_at hl 1 rfl) ?_
        refine lv_aload_n S.1 S.2.1 dX5_starts_52 rfl (lv_at hl 2 rfl) ?_
        refine mr_get S K N 6 (by decide) k3_152 (v := .ref (ad 16)) rfl dX5_starts_53 ?_
        refine lv_iload S.1 S.2.1 dX5_starts_56 (lv_at hl 0 rfl) ?_
        refine mr_iald S K N 6 (by decide) (by decide) rfl (v := (M 6 i42)) (vp_in_nI (show i42 < mlen 6 by show _ < 12; omega) (by decide)) ((congrArg ((up2 M 0 0 0) 6) (nI_clamp (show i42 < 2 ^ 31 by omega))).trans rfl) dX5_starts_58 ?_
        refine lv_iconst (v := 2) S.1 S.2.1 dX5_starts_59 (by decide) ?_
        refine nj (J := 68) (V := ((if (M 6 i42) = 2 then 1 else 0) : Int32)) (L := fun v60_45 => [(4, .int (nI i42)), (3, .int (it42_X5_starts M p0 p1 ed i42)), (0, .ref (ad 5)), (1, .int p0), (2, .int p1)]) (St := fun v60_45 => [.int v60_45, .int (it42_X5_starts M p0 p1 ed i42)]) (n := 9) (fun v60_45 ls h60_47 hl => ?_) (fun j60_46 => ?_)
        · try dsimp only at hl ⊢
          subst h60_47
          refine lv_iadd S.1 S.2.1 dX5_starts_68 ?_
          refine lv_istore_n (lv' := [(3, .int ((it42_X5_starts M p0 p1 ed i42) + ((if (M 6 i42) = 2 then 1 else 0) : Int32))), (4, .int (nI i42)), (0, .ref (ad 5)), (1, .int p0), (2, .int p1)]) S.1 S.2.1 dX5_starts_69 rfl hl (by decide) rfl (fun ls hl => ?_)
          refine lv_iinc (v := nI (i42 + 1)) (lv' := [(4, .int (nI (i42 + 1))), (3, .int ((it42_X5_starts M p0 p1 ed i42) + ((if (M 6 i42) = 2 then 1 else 0) : Int32))), (0, .ref (ad 5)), (1, .int p0), (2, .int p1)]) S.1 S.2.1 dX5_starts_70 hl (k := 1) rfl (nI_add i42 1) (by decide) rfl (fun ls hl => ?_)
          refine lv_goto (tgt := 42) S.1 S.2.1 dX5_starts_73 (by decide) ?_
          exact ih42 ls (lv_sub hl [0, 1, 2, 3, 4] rfl)
        · refine lv_icmp_ne (tgt := 67) S.1 S.2.1 dX5_starts_60 (by decide) (fun c60_48 => ?_) (fun c60_48 => ?_)
          · refine lv_iconst (v := 0) S.1 S.2.1 dX5_starts_67 (by decide) ?_
            exact j60_46 _ _ (by first | (rw [if_neg c60_48]; done) | (simp only [if_neg c60_48]; done) | rfl) (lv_sub hl [0, 1, 2, 3, 4] rfl)
          · refine lv_iconst (v := 1) S.1 S.2.1 dX5_starts_63 (by decide) ?_
            refine lv_goto (tgt := 68) S.1 S.2.1 dX5_starts_64 (by decide) ?_
            exact j60_46 _ _ (by first | (rw [if_pos c60_48]; done) | (simp only [if_pos c60_48]; done) | rfl) (lv_sub hl [0, 1, 2, 3, 4] rfl)

theorem mag_bd (t : Int32) (M : Nat → Nat → Int32) (sk el : Nat) : (FP.dsub (FP.i2d t) (f_X5_meanOf M sk el)).toNat % 2 ^ 63 < 1059 * 2 ^ 52 :=
  FP.Core.dsub_mag (K := 1057) (Nat.lt_trans (FP.Core.i2d_mag t) (by decide)) (mag_meanOf M sk el) (by decide)
theorem nan_bd (t : Int32) (M : Nat → Nat → Int32) (sk el : Nat) : FP.dIsNaN (FP.dsub (FP.i2d t) (f_X5_meanOf M sk el)) = false := (FP.Core.fin_of_lt (mag_bd t M sk el) (by decide)).notNaN

def it24_X5_bias (M : Nat → Nat → Int32) (p0 : Int32) (j : Nat) : Nat → UInt64
  | 0 => FP.dconst0
  | n24 + 1 => (if (M 16 ((144 * j) + n24)) = (-99) then (it24_X5_bias M p0 j n24) else (if ((g_X5_meanOf M (n24 / 12) (n24 % 12)) 0 19) < 3 then (it24_X5_bias M p0 j n24) else (FP.dadd (it24_X5_bias M p0 j n24) (FP.dsub (FP.i2d (M 16 ((144 * j) + n24))) (f_X5_meanOf M (n24 / 12) (n24 % 12))))))
def f_X5_bias (M : Nat → Nat → Int32) (p0 : Int32) (j : Nat) : Int32 :=
  if (f_X5_in p0 0 6) = 0 then 0
  else (f_X5_rint (FP.dmul 4636737291354636288 (it24_X5_bias M p0 j 144)))
def g_X5_bias (M : Nat → Nat → Int32) (p0 : Int32) (j : Nat) : Nat → Nat → Int32 :=
  if (f_X5_in p0 0 6) = 0 then (up2 M 0 0 1)
  else (up2 M 0 0 0)
theorem mag_bias (M : Nat → Nat → Int32) (p0 : Int32) (j : Nat) : ∀ k, k ≤ 144 → (it24_X5_bias M p0 j k).toNat % 2 ^ 63 < (1059 + 2 * k) * 2 ^ 52 := by
  intro k
  induction k with
  | zero =>
    intro _
    have h : FP.dconst0.toNat % 2 ^ 63 = 0 := by decide
    rw [it24_X5_bias, h]
    omega
  | succ k ih =>
    intro hk
    have ih := ih (by omega)
    have up : (1059 + 2 * k) * 2 ^ 52 ≤ (1059 + 2 * (k + 1)) * 2 ^ 52 := Nat.mul_le_mul_right _ (by omega)
    rw [it24_X5_bias]
    split
    · exact Nat.lt_of_lt_of_le ih up
    · split
      · exact Nat.lt_of_lt_of_le ih up
      · have h2 := FP.Core.dadd_mag (K := 1059 + 2 * k) ih (Nat.lt_of_lt_of_le (mag_bd (M 16 ((144 * j) + k)) M (k / 12) (k % 12)) (Nat.mul_le_mul_right _ (by omega))) (by omega)
        exact h2
theorem nan_bs (M : Nat → Nat → Int32) (p0 : Int32) (j k : Nat) (hk : k ≤ 144) (t : Int32) (sk el : Nat) : FP.dIsNaN (FP.dadd (it24_X5_bias M p0 j k) (FP.dsub (FP.i2d t) (f_X5_meanOf M sk el))) = false :=
  FP.Core.dadd_out (FP.Core.fin_of_lt (mag_bias M p0 j k hk) (by omega)).notNaN (FP.Core.fin_of_lt (mag_bd t M sk el) (by decide))
theorem nan_bias (M : Nat → Nat → Int32) (p0 : Int32) (j : Nat) : FP.dIsNaN (FP.dmul 4636737291354636288 (it24_X5_bias M p0 j 144)) = false :=
  FP.Core.dmul_out fin_100 (FP.Core.fin_of_lt (mag_bias M p0 j 144 (Nat.le_refl _)) (by decide))
set_option maxHeartbeats 4000000 in
set_option maxRecDepth 100000 in
theorem m_X5_bias {D : va_G} {cA : Nat → ClassId} {B : Nat} (l : Launch) {dom : Nat → Prop} {ad : Nat → Nat} {X : Nat → va_E} {H0 : Heap} (M : Nat → Nat → Int32) (p0 : Int32) (j : Nat) (N : mw D cA B dom ad X M H0) (hj : ¬ f_X5_in p0 0 6 = 0 → p0 = nI j ∧ j < 7) : MetW D cA B l yX5_bias cX5_bias 8 (some .int) 2 44 0 0 [.ref (ad 5), .int p0] H0 (fun o h => o = some (.int (f_X5_bias M p0 j)) ∧ ∃ M1, sq (g_X5_bias M p0 j) M1 ∧ mw D cA B dom ad X M1 h) := by
  refine MetW.of (by decide) (Nat.le_of_ble_eq_true rfl) ?_
  intro p e s m args below meth c S hr hlk hin hh K ls hl
  subst hh
  have hS : va_S (fun q => B ≤ q) s.heap s.heap [] := va_S.rf
  have hl : lv_has ls 8 [(0, .ref (ad 5)), (1, .int p0)] := hl
  refine lv_aload_n S.1 S.2.1 dX5_bias_0 rfl (lv_at hl 0 rfl) ?_
  refine lv_iload_n S.1 S.2.1 dX5_bias_1 rfl (lv_at hl 1 rfl) ?_
  refine lv_iconst (v := 0) S.1 S.2.1 dX5_bias_2 (by decide) ?_
  refine lv_bipush (v := 6) S.1 S.2.1 dX5_bias_3 (by decide) ?_
  refine nc_rS S K hS (As := [.int p0, .int 0, .int 6]) (m_X5_in l p0 0 6) k3_232 k3_233 k1_3 k3_234 (num := 3) (by decide +kernel) rfl ⟨Nat.le_of_ble_eq_true rfl, Nat.le_of_ble_eq_true rfl⟩ hl.1 rfl (Nat.le_of_ble_eq_true rfl) dX5_bias_5 ⟨Nat.le_of_ble_eq_true rfl, Nat.le_of_ble_eq_true rfl⟩ ?_
  refine lv_if_eq (tgt := 15) S.1 S.2.1 dX5_bias_8 (by decide) (fun c8_1 => ?_) (fun c8_1 => ?_)
  · refine lv_iconst (v := 1) S.1 S.2.1 dX5_bias_15 (by decide) ?_
    refine mr_put S K N hS 0 (by decide) (by unfold mscal; omega) k3_146 rfl rfl dX5_bias_16 (fun H locs N hS => ?_)
    refine lv_dconst0 S.1 S.2.1 dX5_bias_19 ?_
    refine lv_dstore_n (lv' := [(2, .double FP.dconst0), (0, .ref (ad 5)), (1, .int p0)]) S.1 S.2.1 dX5_bias_20 rfl hl (by decide) rfl (fun ls hl => ?_)
    refine lv_iconst (v := 0) S.1 S.2.1 dX5_bias_21 (by decide) ?_
    refine lv_istore (lv' := [(4, .int 0), (2, .double FP.dconst0), (0, .ref (ad 5)), (1, .int p0)]) S.1 S.2.1 dX5_bias_22 hl (by decide) rfl (fun ls hl => ?_)
    refine lv_iload S.1 S.2.1 dX5_bias_24 (lv_at hl 0 rfl) ?_
    refine lv_sipush (v := 144) S.1 S.2.1 dX5_bias_26 (by decide) ?_
    refine lv_icmp_ge (tgt := 100) S.1 S.2.1 dX5_bias_29 (by decide) (fun c9 => absurd c9 (by decide)) (fun _ => ?_)
    refine lv_aload_n S.1 S.2.1 dX5_bias_32 rfl (lv_at hl 2 rfl) ?_
    refine mr_get S K N 0 (by decide) k3_146 (v := .int 1) rfl dX5_bias_33 ?_
    refine lv_if_ne (tgt := 100) S.1 S.2.1 dX5_bias_36 (by decide) (fun _ => ?_) (fun c9 => absurd c9 (by decide))
    refine lv_aload_n S.1 S.2.1 dX5_bias_100 rfl (lv_at hl 2 rfl) ?_
    refine mr_get S K N 0 (by decide) k3_146 (v := .int 1) rfl dX5_bias_101 ?_
    refine lv_if_le (tgt := 111) S.1 S.2.1 dX5_bias_104 (by decide) (fun c9 => absurd c9 (by decide)) (fun _ => ?_)
    refine lv_iconst (v := 0) S.1 S.2.1 dX5_bias_107 (by decide) ?_
    refine lv_goto (tgt := 119) S.1 S.2.1 dX5_bias_108 (by decide) ?_
    exact ne_wI S hS hr hlk ⟨congrArg (fun z => some (Value.int z)) (Eq.symm (by unfold f_X5_bias; first | (rw [if_pos c8_1]; done) | (simp only [if_pos c8_1]; done) | rfl)), ⟨_, (by unfold g_X5_bias; first | (rw [if_pos c8_1]; exact (sq_refl _)) | (simp only [if_pos c8_1]; exact (sq_refl _)) | exact (sq_refl _)), N⟩⟩ dX5_bias_119
  · obtain ⟨hj1, hj2⟩ := hj c8_1
    refine lv_iconst (v := 0) S.1 S.2.1 dX5_bias_11 (by decide) ?_
    refine lv_goto (tgt := 16) S.1 S.2.1 dX5_bias_12 (by decide) ?_
    refine mr_put S K N hS 0 (by decide) (by unfold mscal; omega) k3_146 rfl rfl dX5_bias_16 (fun H locs N hS => ?_)
    refine lv_dconst0 S.1 S.2.1 dX5_bias_19 ?_
    refine lv_dstore_n (lv' := [(2, .double FP.dconst0), (0, .ref (ad 5)), (1, .int p0)]) S.1 S.2.1 dX5_bias_20 rfl hl (by decide) rfl (fun ls hl => ?_)
    refine lv_iconst (v := 0) S.1 S.2.1 dX5_bias_21 (by decide) ?_
    refine lv_istore (lv' := [(4, .int 0), (2, .double FP.dconst0), (0, .ref (ad 5)), (1, .int p0)]) S.1 S.2.1 dX5_bias_22 hl (by decide) rfl (fun ls hl => ?_)
    refine nlM (B := B) (h := 24) (N := 144) (n := 8) (PH := fun (_ : Nat) (H : Heap) => ∃ M1, sq (up2 M 0 0 0) M1 ∧ mw D cA B dom ad X M1 H) (L := fun i24 : Nat => [(4, .int (nI i24)), (2, .double (it24_X5_bias M p0 j i24)), (0, .ref (ad 5)), (1, .int p0)]) (fun ls H locs N hS hl => ?_) (fun i24 hi24 ih24 ls H locs N hS hl => ?_) ls _ _ ⟨_, (sq_refl _), N⟩ hS (lv_sub hl [0, 1, 2, 3] rfl)
    · try dsimp only at hl
      obtain ⟨M_2, hq_3, N⟩ := N
      refine lv_iload S.1 S.2.1 dX5_bias_24 (lv_at hl 0 rfl) ?_
      refine lv_sipush (v := 144) S.1 S.2.1 dX5_bias_26 (by decide) ?_
      refine lv_icmp_ge (tgt := 100) S.1 S.2.1 dX5_bias_29 (by decide) (fun _ => ?_) (fun c9 => absurd (nI_le (Nat.le_refl _) (by first | omega | decide)) c9)
      refine lv_aload_n S.1 S.2.1 dX5_bias_100 rfl (lv_at hl 2 rfl) ?_
      refine mr_get S K N 0 (by decide) k3_146 (v := .int (M_2 0 0)) rfl dX5_bias_101 ?_
      refine nt_i (y := 0) ((hq_3 0 0 (by decide)).trans rfl) ?_
      refine lv_if_le (tgt := 111) S.1 S.2.1 dX5_bias_104 (by decide) (fun _ => ?_) (fun c9 => absurd (by decide) c9)
      refine lv_ldc2d S.1 S.2.1 S.2.2.2.1 (S.2.2.2.2 _ k4_125) dX5_bias_111 ?_
      refine lv_dload_n S.1 S.2.1 dX5_bias_114 rfl (lv_at hl 1 rfl) ?_
      refine lv_dmul S.1 S.2.1 dX5_bias_115 (vn_of (nan_bias _ _ _)) ?_
      refine nc_rS S K hS (As := [.double (FP.dmul 4636737291354636288 (it24_X5_bias M p0 j 144))]) (m_X5_rint l (FP.dmul 4636737291354636288 (it24_X5_bias M p0 j 144)) (nan_bias _ _ _)) k4_62 k4_63 k1_3 k4_64 (num := 1) (by decide +kernel) rfl ⟨Nat.le_of_ble_eq_true rfl, Nat.le_of_ble_eq_true rfl⟩ hl.1 rfl (Nat.le_of_ble_eq_true rfl) dX5_bias_116 ⟨Nat.le_of_ble_eq_true rfl, Nat.le_of_ble_eq_true rfl⟩ ?_
      exact ne_wI S hS hr hlk ⟨congrArg (fun z => some (Value.int z)) (Eq.symm (by unfold f_X5_bias; first | (rw [if_neg c8_1]; done) | (simp only [if_neg c8_1]; done) | rfl)), ⟨_, (by unfold g_X5_bias; first | (rw [if_neg c8_1]; exact hq_3) | (simp only [if_neg c8_1]; exact hq_3) | exact hq_3), N⟩⟩ dX5_bias_119
    · try dsimp only at hl
      obtain ⟨M_2, hq_3, N⟩ := N
      refine lv_iload S.1 S.2.1 dX5_bias_24 (lv_at hl 0 rfl) ?_
      refine lv_sipush (v := 144) S.1 S.2.1 dX5_bias_26 (by decide) ?_
      refine lv_icmp_ge (tgt := 100) S.1 S.2.1 dX5_bias_29 (by decide) (fun c9 => absurd c9 (nI_ge (hi24) (by first | omega | decide))) (fun _ => ?_)
      refine lv_aload_n S.1 S.2.1 dX5_bias_32 rfl (lv_at hl 2 rfl) ?_
      refine mr_get S K N 0 (by decide) k3_146 (v := .int (M_2 0 0)) rfl dX5_bias_33 ?_
      refine nt_i (y := 0) ((hq_3 0 0 (by decide)).trans rfl) ?_
      refine lv_if_ne (tgt := 100) S.1 S.2.1 dX5_bias_36 (by decide) (fun c9 => absurd (by decide) c9) (fun _ => ?_)
      refine lv_aload_n S.1 S.2.1 dX5_bias_39 rfl (lv_at hl 2 rfl) ?_
      refine mr_get S K N 16 (by decide) k3_162 (v := .ref (ad 26)) rfl dX5_bias_40 ?_
      refine lv_sipush (v := 144) S.1 S.2.1 dX5_bias_43 (by decide) ?_
      refine lv_iload_n S.1 S.2.1 dX5_bias_46 rfl (lv_at hl 3 rfl) ?_
      refine nt_i (y := nI j) (hj1) ?_
      refine lv_imul S.1 S.2.1 dX5_bias_47 ?_
      refine nt_i (y := nI (144 * j)) (pk_mul 144 j) ?_
      refine lv_iload S.1 S.2.1 dX5_bias_48 (lv_at hl 0 rfl) ?_
      refine lv_iadd S.1 S.2.1 dX5_bias_50 ?_
      refine nt_i (y := nI ((144 * j) + i24)) (nI_add (144 * j) i24) ?_
      refine mr_iald S K N 16 (by decide) (by decide) rfl (v := (M_2 16 ((144 * j) + i24))) (vp_in_nI (show ((144 * j) + i24) < mlen 16 by show _ < 1008; omega) (by decide)) (congrArg (M_2 16) (nI_clamp (show ((144 * j) + i24) < 2 ^ 31 by omega))) dX5_bias_51 ?_
      refine nt_i (y := (M 16 ((144 * j) + i24))) ((hq_3 16 ((144 * j) + i24) (fun z9 => absurd z9 (by decide))).trans rfl) ?_
      refine lv_istore (lv' := [(5, .int (M 16 ((144 * j) + i24))), (4, .int (nI i24)), (2, .double (it24_X5_bias M p0 j i24)), (0, .ref (ad 5)), (1, .int p0)]) S.1 S.2.1 dX5_bias_52 hl (by decide) rfl (fun ls hl => ?_)
      refine lv_aload_n S.1 S.2.1 dX5_bias_54 rfl (lv_at hl 3 rfl) ?_
      refine lv_iload S.1 S.2.1 dX5_bias_55 (lv_at hl 1 rfl) ?_
      refine lv_bipush (v := 12) S.1 S.2.1 dX5_bias_57 (by decide) ?_
      refine lv_idiv S.1 S.2.1 dX5_bias_59 (by decide) ?_
      refine nt_i (y := nI (i24 / 12)) (pk_div (by omega) (by decide) (by decide)) ?_
      refine lv_iload S.1 S.2.1 dX5_bias_60 (lv_at hl 1 rfl) ?_
      refine lv_bipush (v := 12) S.1 S.2.1 dX5_bias_62 (by decide) ?_
      refine lv_irem S.1 S.2.1 dX5_bias_64 (by decide) ?_
      refine nt_i (y := nI (i24 % 12)) (pk_rem (by omega) (by decide) (by decide)) ?_
      refine mc_wV S K N hS rfl (As := [.int (nI (i24 / 12)), .int (nI (i24 % 12))]) (m_X5_meanOf l M_2 (i24 / 12) (i24 % 12) N (by omega) (by omega)) k4_71 k4_73 kS_27 k1_3 k4_74 (num := 2) (by decide +kernel) rfl ⟨Nat.le_of_ble_eq_true rfl, Nat.le_of_ble_eq_true rfl⟩ hl.1 rfl (Nat.le_of_ble_eq_true rfl) dX5_bias_65 ⟨Nat.le_of_ble_eq_true rfl, Nat.le_of_ble_eq_true rfl⟩ (fun v9 H locs hP hS => ?_)
      obtain ⟨rfl, N⟩ := hP
      refine W.eq (g2 := F0 m 68 ls [.double (f_X5_meanOf M_2 (i24 / 12) (i24 % 12))]) rfl ?_
      refine nt_d (y := (f_X5_meanOf M (i24 / 12) (i24 % 12))) (cg_X5_meanOf (sr_t hq_3)) ?_
      refine lv_dstore (lv' := [(6, .double (f_X5_meanOf M (i24 / 12) (i24 % 12))), (5, .int (M 16 ((144 * j) + i24))), (4, .int (nI i24)), (2, .double (it24_X5_bias M p0 j i24)), (0, .ref (ad 5)), (1, .int p0)]) S.1 S.2.1 dX5_bias_68 hl (by decide) rfl (fun ls hl => ?_)
      refine lv_iload S.1 S.2.1 dX5_bias_70 (lv_at hl 1 rfl) ?_
      refine lv_bipush (v := (-99)) S.1 S.2.1 dX5_bias_72 (by decide) ?_
      refine lv_icmp_eq (tgt := 94) S.1 S.2.1 dX5_bias_74 (by decide) (fun c74_4 => ?_) (fun c74_4 => ?_)
      · refine lv_iinc (v := nI (i24 + 1)) (lv' := [(4, .int (nI (i24 + 1))), (6, .double (f_X5_meanOf M (i24 / 12) (i24 % 12))), (5, .int (M 16 ((144 * j) + i24))), (2, .double (it24_X5_bias M p0 j i24)), (0, .ref (ad 5)), (1, .int p0)]) S.1 S.2.1 dX5_bias_94 hl (k := 2) rfl (nI_add i24 1) (by decide) rfl (fun ls hl => ?_)
        refine lv_goto (tgt := 24) S.1 S.2.1 dX5_bias_97 (by decide) ?_
        have hstep : (it24_X5_bias M p0 j (i24 + 1)) = (it24_X5_bias M p0 j i24) := by
          show (_ : _) = _
          simp only [it24_X5_bias, if_pos c74_4]
        refine ih24 ls _ _ ⟨_, (sq_trans hq_3 sq_X5_meanOf), N⟩ hS (by rw [hstep]; exact lv_sub hl [0, 3, 4, 5] rfl)
      · refine lv_aload_n S.1 S.2.1 dX5_bias_77 rfl (lv_at hl 4 rfl) ?_
        refine mr_get S K N 19 (by decide) k3_165 (v := .int ((g_X5_meanOf M_2 (i24 / 12) (i24 % 12)) 0 19)) rfl dX5_bias_78 ?_
        refine nt_i (y := ((g_X5_meanOf M (i24 / 12) (i24 % 12)) 0 19)) (told_meanOf (sr_t hq_3)) ?_
        refine lv_iconst (v := 3) S.1 S.2.1 dX5_bias_81 (by decide) ?_
        refine lv_icmp_lt (tgt := 94) S.1 S.2.1 dX5_bias_82 (by decide) (fun c82_5 => ?_) (fun c82_5 => ?_)
        · refine lv_iinc (v := nI (i24 + 1)) (lv' := [(4, .int (nI (i24 + 1))), (6, .double (f_X5_meanOf M (i24 / 12) (i24 % 12))), (5, .int (M 16 ((144 * j) + i24))), (2, .double (it24_X5_bias M p0 j i24)), (0, .ref (ad 5)), (1, .int p0)]) S.1 S.2.1 dX5_bias_94 hl (k := 2) rfl (nI_add i24 1) (by decide) rfl (fun ls hl => ?_)
          refine lv_goto (tgt := 24) S.1 S.2.1 dX5_bias_97 (by decide) ?_
          have hstep : (it24_X5_bias M p0 j (i24 + 1)) = (it24_X5_bias M p0 j i24) := by
            show (_ : _) = _
            simp only [it24_X5_bias, if_neg c74_4, if_pos c82_5]
          refine ih24 ls _ _ ⟨_, (sq_trans hq_3 sq_X5_meanOf), N⟩ hS (by rw [hstep]; exact lv_sub hl [0, 3, 4, 5] rfl)
        · refine lv_dload_n S.1 S.2.1 dX5_bias_85 rfl (lv_at hl 3 rfl) ?_
          refine lv_iload S.1 S.2.1 dX5_bias_86 (lv_at hl 1 rfl) ?_
          refine lv_i2d S.1 S.2.1 dX5_bias_88 ?_
          refine lv_dload S.1 S.2.1 dX5_bias_89 (lv_at hl 0 rfl) ?_
          refine lv_dsub S.1 S.2.1 dX5_bias_91 (vn_of (nan_bd _ _ _ _)) ?_
          refine lv_dadd S.1 S.2.1 dX5_bias_92 (vn_of (nan_bs _ _ _ _ (by omega) _ _ _)) ?_
          refine lv_dstore_n (lv' := [(2, .double (FP.dadd (it24_X5_bias M p0 j i24) (FP.dsub (FP.i2d (M 16 ((144 * j) + i24))) (f_X5_meanOf M (i24 / 12) (i24 % 12))))), (6, .double (f_X5_meanOf M (i24 / 12) (i24 % 12))), (5, .int (M 16 ((144 * j) + i24))), (4, .int (nI i24)), (0, .ref (ad 5)), (1, .int p0)]) S.1 S.2.1 dX5_bias_93 rfl hl (by decide) rfl (fun ls hl => ?_)
          refine lv_iinc (v := nI (i24 + 1)) (lv' := [(4, .int (nI (i24 + 1))), (2, .double (FP.dadd (it24_X5_bias M p0 j i24) (FP.dsub (FP.i2d (M 16 ((144 * j) + i24))) (f_X5_meanOf M (i24 / 12) (i24 % 12))))), (6, .double (f_X5_meanOf M (i24 / 12) (i24 % 12))), (5, .int (M 16 ((144 * j) + i24))), (0, .ref (ad 5)), (1, .int p0)]) S.1 S.2.1 dX5_bias_94 hl (k := 3) rfl (nI_add i24 1) (by decide) rfl (fun ls hl => ?_)
          refine lv_goto (tgt := 24) S.1 S.2.1 dX5_bias_97 (by decide) ?_
          have hstep : (it24_X5_bias M p0 j (i24 + 1)) = (FP.dadd (it24_X5_bias M p0 j i24) (FP.dsub (FP.i2d (M 16 ((144 * j) + i24))) (f_X5_meanOf M (i24 / 12) (i24 % 12)))) := by
            show (_ : _) = _
            simp only [it24_X5_bias, if_neg c74_4, if_neg c82_5]
          refine ih24 ls _ _ ⟨_, (sq_trans hq_3 sq_X5_meanOf), N⟩ hS (by rw [hstep]; exact lv_sub hl [0, 1, 4, 5] rfl)

def f_X5_addsUp (M : Nat → Nat → Int32) : Int32 :=
  1
def g_X5_addsUp (M : Nat → Nat → Int32) : Nat → Nat → Int32 :=
  (up2 M 0 0 0)
set_option maxHeartbeats 4000000 in
set_option maxRecDepth 100000 in
theorem m_X5_addsUp {D : va_G} {cA : Nat → ClassId} {B : Nat} (l : Launch) {dom : Nat → Prop} {ad : Nat → Nat} {X : Nat → va_E} {H0 : Heap} (M : Nat → Nat → Int32) (N : mw D cA B dom ad X M H0) : MetW D cA B l yX5_addsUp cX5_addsUp 1 (some .boolean) 0 0 0 0 [.ref (ad 5)] H0 (fun o h => o = some (.int (f_X5_addsUp M)) ∧ mw D cA B dom ad X (g_X5_addsUp M) h) := by
  refine MetW.of (by decide) (Nat.le_of_ble_eq_true rfl) ?_
  intro p e s m args below meth c S hr hlk hin hh K ls hl
  subst hh
  have hS : va_S (fun q => B ≤ q) s.heap s.heap [] := va_S.rf
  have hl : lv_has ls 1 [(0, .ref (ad 5))] := hl
  refine lv_aload_n S.1 S.2.1 dX5_addsUp_0 rfl (lv_at hl 0 rfl) ?_
  refine lv_iconst (v := 0) S.1 S.2.1 dX5_addsUp_1 (by decide) ?_
  refine mr_put S K N hS 0 (by decide) (by unfold mscal; omega) k3_146 rfl rfl dX5_addsUp_2 (fun H locs N hS => ?_)
  refine lv_iconst (v := 1) S.1 S.2.1 dX5_addsUp_5 (by decide) ?_
  exact ne_wZ S hS hr hlk (zb_1) ⟨congrArg (fun z => some (Value.int z)) (rfl), N⟩ dX5_addsUp_6
