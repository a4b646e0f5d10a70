theorem mkE_lt {C : Nat → Nat → Int32} {n r : Nat} {p0 p1 p2 p3 p4 p5 : Int32} (h : r < 80) : mkE C n p0 p1 p2 p3 p4 p5 r = C r := by
  unfold mkE
  rw [if_neg (by omega), if_neg (by unfold rV; omega)]
theorem wrong01 (M : Nat → Nat → Int32) (k : Nat) (p0 : Int32) : f_X2_isWrongEdge M k p0 = 0 ∨ f_X2_isWrongEdge M k p0 = 1 := by
  unfold f_X2_isWrongEdge
  repeat' split
  all_goals first | exact Or.inl rfl | exact Or.inr rfl

def f_X2_add (M : Nat → Nat → Int32) (k : Nat) (n : Nat) (i : Nat) : Int32 :=
  (nI i)
def g_X2_add (M : Nat → Nat → Int32) (k : Nat) (n : Nat) (i : Nat) : Nat → Nat → Int32 :=
  (up2 (up2 M (52 + k) i 1) (40 + k) 8 (nI (i + 1)))
set_option maxHeartbeats 4000000 in
set_option maxRecDepth 100000 in
theorem m_X2_add {D : va_G} {cA : Nat → ClassId} {B : Nat} (l : Launch) {dom : Nat → Prop} {ad : Nat → Nat} {X : Nat → va_E} {H0 : Heap} (M : Nat → Nat → Int32) (k : Nat) (n : Nat) (i : Nat) (N : kw D cA B dom ad X M H0) (d_k : dom (40 + k) ∧ dom (52 + k) ∧ k < 12) (d_n : dom (80 + n) ∧ n < 144) (hcnt : M (40 + k) 8 = nI i) (hi : i < 12) (hni : n = 12 * k + i) : MetW D cA B l yX2_add cX2_add 3 (some .int) 0 0 0 0 [.ref (ad (40 + k)), .ref (ad (80 + n))] H0 (fun o h => o = some (.int (f_X2_add M k n i)) ∧ kw D cA B dom ad X (g_X2_add M k n i) h) := by
  refine MetW.of (by decide) (Nat.le_of_ble_eq_true rfl) ?_
  intro p e s m args below meth c S hr hlk hin hh K ls hl
  subst hh
  have hS : va_S (fun q => B ≤ q) s.heap s.heap [] := va_S.rf
  have hl : lv_has ls 3 [(0, .ref (ad (40 + k))), (1, .ref (ad (80 + n)))] := hl
  have h_k := d_k.2.2
  have h_n := d_n.2
  refine lv_aload_n S.1 S.2.1 dX2_add_0 rfl (lv_at hl 0 rfl) ?_
  refine kr_get S K N (40 + k) (by unfold crole; omega) (d_k.1) (sh_P (by omega)) (C0 := RX2) (T := TX2) (n := 12) rfl iWX2 8 (by decide) k1_181 rfl (v := .int (M (40 + k) 8)) rfl dX2_add_1 ?_
  refine nt_i (y := nI i) (hcnt) ?_
  refine lv_istore_n (lv' := [(2, .int (nI i)), (0, .ref (ad (40 + k))), (1, .ref (ad (80 + n)))]) S.1 S.2.1 dX2_add_4 rfl hl (by decide) rfl (fun ls hl => ?_)
  refine lv_iload_n S.1 S.2.1 dX2_add_5 rfl (lv_at hl 0 rfl) ?_
  refine lv_if_lt (tgt := 18) S.1 S.2.1 dX2_add_6 (by decide) (fun c9 => absurd c9 (nI_pos (by omega))) (fun _ => ?_)
  refine lv_iload_n S.1 S.2.1 dX2_add_9 rfl (lv_at hl 0 rfl) ?_
  refine lv_aload_n S.1 S.2.1 dX2_add_10 rfl (lv_at hl 1 rfl) ?_
  refine kr_get S K N (40 + k) (by unfold crole; omega) (d_k.1) (sh_P (by omega)) (C0 := RX2) (T := TX2) (n := 12) rfl iWX2 0 (by decide) k1_170 rfl (v := .ref (ad (52 + k))) rfl dX2_add_11 ?_
  refine kr_alen S K N (52 + k) (by unfold crole; omega) (d_k.2.1) 3 rfl (sh_Pe (by omega)) (v := 12) rfl dX2_add_14 ?_
  refine lv_icmp_lt (tgt := 20) S.1 S.2.1 dX2_add_15 (by decide) (fun _ => ?_) (fun c9 => absurd (nI_lt (b := 12) hi (by decide)) c9)
  refine lv_aload_n S.1 S.2.1 dX2_add_20 rfl (lv_at hl 1 rfl) ?_
  refine kr_get S K N (40 + k) (by unfold crole; omega) (d_k.1) (sh_P (by omega)) (C0 := RX2) (T := TX2) (n := 12) rfl iWX2 0 (by decide) k1_170 rfl (v := .ref (ad (52 + k))) rfl dX2_add_21 ?_
  refine lv_iload_n S.1 S.2.1 dX2_add_24 rfl (lv_at hl 0 rfl) ?_
  refine lv_aload_n S.1 S.2.1 dX2_add_25 rfl (lv_at hl 2 rfl) ?_
  refine kr_aast S K N hS (52 + k) (by unfold crole; omega) (d_k.2.1) 3 rfl (fun c9 => sh_Pe (by omega)) (80 + n) (by unfold crole; omega) (d_n.1) (sh_L (by omega)) (ci := 1) rfl (vp_in_nI (show i < 12 by omega) (by decide)) i (nI_clamp (show i < 2 ^ 31 by omega)) (by omega) dX2_add_26 (fun H locs N hS => ?_)
  refine lv_aload_n S.1 S.2.1 dX2_add_27 rfl (lv_at hl 1 rfl) ?_
  refine lv_iload_n S.1 S.2.1 dX2_add_28 rfl (lv_at hl 0 rfl) ?_
  refine lv_iconst (v := 1) S.1 S.2.1 dX2_add_29 (by decide) ?_
  refine lv_iadd S.1 S.2.1 dX2_add_30 ?_
  refine nt_i (y := nI (i + 1)) (nI_add i 1) ?_
  refine kr_put S K N hS (40 + k) (by unfold crole; omega) (d_k.1) (sh_P (by omega)) (C0 := RX2) (T := TX2) (n := 12) rfl iWX2 tyX2 tyX2_ok nmX2 8 (by decide) k1_181 rfl rfl (nI (i + 1)) (by rw [sh_P (by omega), fsP_set _ _ _ _ _ (by decide)]) (rfl) rfl (show 8 < 12 by decide) dX2_add_31 (fun H locs N hS => ?_)
  refine lv_iload_n S.1 S.2.1 dX2_add_34 rfl (lv_at hl 0 rfl) ?_
  exact ne_wI S hS hr hlk ⟨congrArg (fun z => some (Value.int z)) (rfl), N⟩ dX2_add_35

def f_X2_skateJump (M : Nat → Nat → Int32) (k : Nat) (p0 : Int32) (p1 : Int32) (p2 : Int32) (i : Nat) : Int32 :=
  if p2 = 0 then (f_X2_add (mkE M (12 * k + i) p0 p1 (f_X2_isWrongEdge M k p0) ((if (M (40 + k) 7) < 120 then 0 else 1) : Int32) p2 ((if 7 ≤ (M (40 + k) 9) then 0 else ((if 2 ≤ (f_X2_likeJumps M k p0 p1) then 0 else 1) : Int32)) : Int32)) k (12 * k + i) i)
  else (f_X2_add (mkE M (12 * k + i) p0 p1 (f_X2_isWrongEdge M k p0) ((if (M (40 + k) 7) < 120 then 0 else 1) : Int32) p2 ((if 7 ≤ (M (40 + k) 9) then 0 else ((if 2 ≤ (f_X2_likeJumps M k p0 p1) then 0 else 1) : Int32)) : Int32)) k (12 * k + i) i)
def g_X2_skateJump (M : Nat → Nat → Int32) (k : Nat) (p0 : Int32) (p1 : Int32) (p2 : Int32) (i : Nat) : Nat → Nat → Int32 :=
  if p2 = 0 then (up2 (up2 (up2 (up2 (up2 (up2 (up2 (mkE M (12 * k + i) p0 p1 (f_X2_isWrongEdge M k p0) ((if (M (40 + k) 7) < 120 then 0 else 1) : Int32) p2 ((if 7 ≤ (M (40 + k) 9) then 0 else ((if 2 ≤ (f_X2_likeJumps M k p0 p1) then 0 else 1) : Int32)) : Int32)) (52 + k) i 1) (40 + k) 8 (nI (i + 1))) (40 + k) 9 (((mkE M (12 * k + i) p0 p1 (f_X2_isWrongEdge M k p0) ((if (M (40 + k) 7) < 120 then 0 else 1) : Int32) p2 ((if 7 ≤ (M (40 + k) 9) then 0 else ((if 2 ≤ (f_X2_likeJumps M k p0 p1) then 0 else 1) : Int32)) : Int32)) (40 + k) 9) + 1)) (40 + k) 7 (((mkE M (12 * k + i) p0 p1 (f_X2_isWrongEdge M k p0) ((if (M (40 + k) 7) < 120 then 0 else 1) : Int32) p2 ((if 7 ≤ (M (40 + k) 9) then 0 else ((if 2 ≤ (f_X2_likeJumps M k p0 p1) then 0 else 1) : Int32)) : Int32)) (40 + k) 7) + 4)) (40 + k) 4 1) (40 + k) 5 1) (40 + k) 6 1)
  else (up2 (up2 (up2 (up2 (up2 (up2 (up2 (up2 (mkE M (12 * k + i) p0 p1 (f_X2_isWrongEdge M k p0) ((if (M (40 + k) 7) < 120 then 0 else 1) : Int32) p2 ((if 7 ≤ (M (40 + k) 9) then 0 else ((if 2 ≤ (f_X2_likeJumps M k p0 p1) then 0 else 1) : Int32)) : Int32)) (52 + k) i 1) (40 + k) 8 (nI (i + 1))) (40 + k) 9 (((mkE M (12 * k + i) p0 p1 (f_X2_isWrongEdge M k p0) ((if (M (40 + k) 7) < 120 then 0 else 1) : Int32) p2 ((if 7 ≤ (M (40 + k) 9) then 0 else ((if 2 ≤ (f_X2_likeJumps M k p0 p1) then 0 else 1) : Int32)) : Int32)) (40 + k) 9) + 1)) (40 + k) 10 (((mkE M (12 * k + i) p0 p1 (f_X2_isWrongEdge M k p0) ((if (M (40 + k) 7) < 120 then 0 else 1) : Int32) p2 ((if 7 ≤ (M (40 + k) 9) then 0 else ((if 2 ≤ (f_X2_likeJumps M k p0 p1) then 0 else 1) : Int32)) : Int32)) (40 + k) 10) + 1)) (40 + k) 7 (((mkE M (12 * k + i) p0 p1 (f_X2_isWrongEdge M k p0) ((if (M (40 + k) 7) < 120 then 0 else 1) : Int32) p2 ((if 7 ≤ (M (40 + k) 9) then 0 else ((if 2 ≤ (f_X2_likeJumps M k p0 p1) then 0 else 1) : Int32)) : Int32)) (40 + k) 7) + 4)) (40 + k) 4 1) (40 + k) 5 1) (40 + k) 6 1)
set_option maxHeartbeats 4000000 in
set_option maxRecDepth 100000 in
theorem m_X2_skateJump {D : va_G} {cA : Nat → ClassId} {B : Nat} (l : Launch) {dom : Nat → Prop} {ad : Nat → Nat} {X : Nat → va_E} {H0 : Heap} (M : Nat → Nat → Int32) (k : Nat) (p0 : Int32) (p1 : Int32) (p2 : Int32) (i : Nat) (N : kw D cA B dom ad X M H0) (h_k : k < 12) (d_k : dP dom M k) (hcnt : M (40 + k) 8 = nI i) (hi : i < 12) (nd : ndE dom (12 * k + i)) (had : adE ad (12 * k + i) H0.size) (z2 : p2 = 0 ∨ p2 = 1) : MetW D cA B l yX2_skateJump cX2_skateJump 7 (some .int) 3 100 7 48 [.ref (ad (40 + k)), .int p0, .int p1, .int p2] H0 (fun o h => o = some (.int (f_X2_skateJump M k p0 p1 p2 i)) ∧ kw D cA B (domE dom (12 * k + i)) ad X (g_X2_skateJump M k p0 p1 p2 i) h) := by
  refine MetW.of (by decide) (Nat.le_of_ble_eq_true rfl) ?_
  intro p e s m args below meth c S hr hlk hin hh K ls hl
  subst hh
  have hS : va_S (fun q => B ≤ q) s.heap s.heap [] := va_S.rf
  have hl : lv_has ls 7 [(0, .ref (ad (40 + k))), (1, .int p0), (2, .int p1), (3, .int p2)] := hl
  refine lv_aload_n S.1 S.2.1 dX2_skateJump_0 rfl (lv_at hl 0 rfl) ?_
  refine kr_get S K N (40 + k) (by unfold crole; omega) (d_k.1) (sh_P (by omega)) (C0 := RX2) (T := TX2) (n := 12) rfl iWX2 9 (by decide) k1_183 rfl (v := .int (M (40 + k) 9)) rfl dX2_skateJump_1 ?_
  refine lv_bipush (v := 7) S.1 S.2.1 dX2_skateJump_4 (by decide) ?_
  refine nj (J := 24) (V := ((if 7 ≤ (M (40 + k) 9) then 0 else ((if 2 ≤ (f_X2_likeJumps M k p0 p1) then 0 else 1) : Int32)) : Int32)) (L := fun v6_1 => [(0, .ref (ad (40 + k))), (1, .int p0), (2, .int p1), (3, .int p2)]) (St := fun v6_1 => [.int v6_1]) (n := 7) (fun v6_1 ls h6_3 hl => ?_) (fun j6_2 => ?_)
  · try dsimp only at hl ⊢
    subst h6_3
    refine lv_istore (lv' := [(4, .int ((if 7 ≤ (M (40 + k) 9) then 0 else ((if 2 ≤ (f_X2_likeJumps M k p0 p1) then 0 else 1) : Int32)) : Int32)), (0, .ref (ad (40 + k))), (1, .int p0), (2, .int p1), (3, .int p2)]) S.1 S.2.1 dX2_skateJump_24 hl (by decide) rfl (fun ls hl => ?_)
    refine lv_aload_n S.1 S.2.1 dX2_skateJump_26 rfl (lv_at hl 1 rfl) ?_
    refine kr_get S K N (40 + k) (by unfold crole; omega) (d_k.1) (sh_P (by omega)) (C0 := RX2) (T := TX2) (n := 12) rfl iWX2 7 (by decide) k1_179 rfl (v := .int (M (40 + k) 7)) rfl dX2_skateJump_27 ?_
    refine lv_bipush (v := 120) S.1 S.2.1 dX2_skateJump_30 (by decide) ?_
    refine nj (J := 40) (V := ((if (M (40 + k) 7) < 120 then 0 else 1) : Int32)) (L := fun v32_4 => [(4, .int ((if 7 ≤ (M (40 + k) 9) then 0 else ((if 2 ≤ (f_X2_likeJumps M k p0 p1) then 0 else 1) : Int32)) : Int32)), (0, .ref (ad (40 + k))), (1, .int p0), (2, .int p1), (3, .int p2)]) (St := fun v32_4 => [.int v32_4]) (n := 7) (fun v32_4 ls h32_6 hl => ?_) (fun j32_5 => ?_)
    · try dsimp only at hl ⊢
      subst h32_6
      refine lv_istore (lv' := [(5, .int ((if (M (40 + k) 7) < 120 then 0 else 1) : Int32)), (4, .int ((if 7 ≤ (M (40 + k) 9) then 0 else ((if 2 ≤ (f_X2_likeJumps M k p0 p1) then 0 else 1) : Int32)) : Int32)), (0, .ref (ad (40 + k))), (1, .int p0), (2, .int p1), (3, .int p2)]) S.1 S.2.1 dX2_skateJump_40 hl (by decide) rfl (fun ls hl => ?_)
      refine lv_aload_n S.1 S.2.1 dX2_skateJump_42 rfl (lv_at hl 2 rfl) ?_
      refine nk_newE S K N hS (12 * k + i) nd.1 had.1 (Nat.le_of_ble_eq_true rfl) (Nat.le_of_ble_eq_true rfl) k1_141 k3_4 k1_11 dX2_skateJump_43 (fun H Nn hS hz => ?_)
      have N := kwn_kw Nn
      refine lv_dup S.1 S.2.1 dX2_skateJump_46 rfl ?_
      refine lv_iload_n S.1 S.2.1 dX2_skateJump_47 rfl (lv_at hl 3 rfl) ?_
      refine lv_iload_n S.1 S.2.1 dX2_skateJump_48 rfl (lv_at hl 4 rfl) ?_
      refine lv_aload_n S.1 S.2.1 dX2_skateJump_49 rfl (lv_at hl 2 rfl) ?_
      refine lv_iload_n S.1 S.2.1 dX2_skateJump_50 rfl (lv_at hl 3 rfl) ?_
      refine kc_rV S K N hS (40 + k) (by unfold crole; omega) (d_k.1) (sh_P (by omega)) (T := TX2) (n := 12) rfl (As := [.int p0]) (m_X2_isWrongEdge l M k p0 N (by omega) d_k) k2_231 k2_233 kS_14 k1_7 k2_234 (num := 1) (by decide +kernel) rfl ⟨Nat.le_of_ble_eq_true rfl, Nat.le_of_ble_eq_true rfl⟩ hl.1 rfl (Nat.le_of_ble_eq_true rfl) dX2_skateJump_51 ⟨Nat.le_of_ble_eq_true rfl, Nat.le_of_ble_eq_true rfl⟩ ?_
      refine lv_iload S.1 S.2.1 dX2_skateJump_54 (lv_at hl 0 rfl) ?_
      refine lv_iload_n S.1 S.2.1 dX2_skateJump_56 rfl (lv_at hl 5 rfl) ?_
      refine lv_iload S.1 S.2.1 dX2_skateJump_57 (lv_at hl 1 rfl) ?_
      refine nk_initE S K Nn hS (by omega) nd ⟨by rw [hz]; exact had.2.1, by rw [hz]; exact had.2.2⟩ (by first | exact z2 | exact wrong01 _ _ _ | decide | (repeat' split) <;> decide) (by first | exact z2 | exact wrong01 _ _ _ | decide | (repeat' split) <;> decide) (by first | exact z2 | exact wrong01 _ _ _ | decide | (repeat' split) <;> decide) (by first | exact z2 | exact wrong01 _ _ _ | decide | (repeat' split) <;> decide) ⟨(Nat.le_of_ble_eq_true rfl), (Nat.le_of_ble_eq_true rfl)⟩ hl.1 (Nat.le_of_ble_eq_true rfl) dX2_skateJump_59 ⟨(Nat.le_of_ble_eq_true rfl), (Nat.le_of_ble_eq_true rfl)⟩ (fun H locs N hS => ?_)
      have d_k2 : domE dom (12 * k + i) (40 + k) ∧ domE dom (12 * k + i) (52 + k) ∧ k < 12 := ⟨Or.inl d_k.1, Or.inl d_k.2.1, h_k⟩
      have d_n : domE dom (12 * k + i) (80 + (12 * k + i)) ∧ (12 * k + i) < 144 := ⟨Or.inr (Or.inl rfl), by omega⟩
      refine kc_wV S K N hS (40 + k) (by unfold crole; omega) (d_k2.1) (sh_P (by omega)) (T := TX2) (n := 12) rfl (As := [.ref (ad (80 + (12 * k + i)))]) (m_X2_add l (mkE M (12 * k + i) p0 p1 (f_X2_isWrongEdge M k p0) ((if (M (40 + k) 7) < 120 then 0 else 1) : Int32) p2 ((if 7 ≤ (M (40 + k) 9) then 0 else ((if 2 ≤ (f_X2_likeJumps M k p0 p1) then 0 else 1) : Int32)) : Int32)) k (12 * k + i) i N d_k2 d_n ((congrFun (mkE_lt (by omega)) 8).trans hcnt) hi rfl) k3_45 k3_47 kS_16 k1_7 k3_48 (num := 1) (by decide +kernel) rfl ⟨Nat.le_of_ble_eq_true rfl, Nat.le_of_ble_eq_true rfl⟩ hl.1 rfl (Nat.le_of_ble_eq_true rfl) dX2_skateJump_62 ⟨Nat.le_of_ble_eq_true rfl, Nat.le_of_ble_eq_true rfl⟩ (fun v9 H locs hP hS => ?_)
      obtain ⟨rfl, N⟩ := hP
      have N : kw D cA B (domE dom (12 * k + i)) ad X (up2 (up2 (mkE M (12 * k + i) p0 p1 (f_X2_isWrongEdge M k p0) ((if (M (40 + k) 7) < 120 then 0 else 1) : Int32) p2 ((if 7 ≤ (M (40 + k) 9) then 0 else ((if 2 ≤ (f_X2_likeJumps M k p0 p1) then 0 else 1) : Int32)) : Int32)) (52 + k) i 1) (40 + k) 8 (nI (i + 1))) H := N
      refine W.eq (g2 := F0 m 65 ls [.int (f_X2_add (mkE M (12 * k + i) p0 p1 (f_X2_isWrongEdge M k p0) ((if (M (40 + k) 7) < 120 then 0 else 1) : Int32) p2 ((if 7 ≤ (M (40 + k) 9) then 0 else ((if 2 ≤ (f_X2_likeJumps M k p0 p1) then 0 else 1) : Int32)) : Int32)) k (12 * k + i) i)]) rfl ?_
      refine lv_istore (lv' := [(6, .int (f_X2_add (mkE M (12 * k + i) p0 p1 (f_X2_isWrongEdge M k p0) ((if (M (40 + k) 7) < 120 then 0 else 1) : Int32) p2 ((if 7 ≤ (M (40 + k) 9) then 0 else ((if 2 ≤ (f_X2_likeJumps M k p0 p1) then 0 else 1) : Int32)) : Int32)) k (12 * k + i) i)), (5, .int ((if (M (40 + k) 7) < 120 then 0 else 1) : Int32)), (4, .int ((if 7 ≤ (M (40 + k) 9) then 0 else ((if 2 ≤ (f_X2_likeJumps M k p0 p1) then 0 else 1) : Int32)) : Int32)), (0, .ref (ad (40 + k))), (1, .int p0), (2, .int p1), (3, .int p2)]) S.1 S.2.1 dX2_skateJump_65 hl (by decide) rfl (fun ls hl => ?_)
      refine lv_aload_n S.1 S.2.1 dX2_skateJump_67 rfl (lv_at hl 3 rfl) ?_
      refine lv_dup S.1 S.2.1 dX2_skateJump_68 rfl ?_
      refine kr_get S K N (40 + k) (by unfold crole; omega) (d_k2.1) (sh_P (by omega)) (C0 := RX2) (T := TX2) (n := 12) rfl iWX2 9 (by decide) k1_183 rfl (v := .int ((up2 (up2 (mkE M (12 * k + i) p0 p1 (f_X2_isWrongEdge M k p0) ((if (M (40 + k) 7) < 120 then 0 else 1) : Int32) p2 ((if 7 ≤ (M (40 + k) 9) then 0 else ((if 2 ≤ (f_X2_likeJumps M k p0 p1) then 0 else 1) : Int32)) : Int32)) (52 + k) i 1) (40 + k) 8 (nI (i + 1))) (40 + k) 9)) rfl dX2_skateJump_69 ?_
      refine nt_i (y := ((mkE M (12 * k + i) p0 p1 (f_X2_isWrongEdge M k p0) ((if (M (40 + k) 7) < 120 then 0 else 1) : Int32) p2 ((if 7 ≤ (M (40 + k) 9) then 0 else ((if 2 ≤ (f_X2_likeJumps M k p0 p1) then 0 else 1) : Int32)) : Int32)) (40 + k) 9)) (by simp [up2]) ?_
      refine lv_iconst (v := 1) S.1 S.2.1 dX2_skateJump_72 (by decide) ?_
      refine lv_iadd S.1 S.2.1 dX2_skateJump_73 ?_
      refine kr_put S K N hS (40 + k) (by unfold crole; omega) (d_k2.1) (sh_P (by omega)) (C0 := RX2) (T := TX2) (n := 12) rfl iWX2 tyX2 tyX2_ok nmX2 9 (by decide) k1_183 rfl rfl (((mkE M (12 * k + i) p0 p1 (f_X2_isWrongEdge M k p0) ((if (M (40 + k) 7) < 120 then 0 else 1) : Int32) p2 ((if 7 ≤ (M (40 + k) 9) then 0 else ((if 2 ≤ (f_X2_likeJumps M k p0 p1) then 0 else 1) : Int32)) : Int32)) (40 + k) 9) + 1) (by rw [sh_P (by omega), fsP_set _ _ _ _ _ (by decide)]) (rfl) rfl (show 9 < 12 by decide) dX2_skateJump_74 (fun H locs N hS => ?_)
      refine lv_iload_n S.1 S.2.1 dX2_skateJump_77 rfl (lv_at hl 6 rfl) ?_
      refine lv_if_eq (tgt := 91) S.1 S.2.1 dX2_skateJump_78 (by decide) (fun c78_7 => ?_) (fun c78_7 => ?_)
      · refine lv_aload_n S.1 S.2.1 dX2_skateJump_91 rfl (lv_at hl 3 rfl) ?_
        refine lv_dup S.1 S.2.1 dX2_skateJump_92 rfl ?_
        refine kr_get S K N (40 + k) (by unfold crole; omega) (d_k2.1) (sh_P (by omega)) (C0 := RX2) (T := TX2) (n := 12) rfl iWX2 7 (by decide) k1_179 rfl (v := .int ((up2 (up2 (up2 (mkE M (12 * k + i) p0 p1 (f_X2_isWrongEdge M k p0) ((if (M (40 + k) 7) < 120 then 0 else 1) : Int32) p2 ((if 7 ≤ (M (40 + k) 9) then 0 else ((if 2 ≤ (f_X2_likeJumps M k p0 p1) then 0 else 1) : Int32)) : Int32)) (52 + k) i 1) (40 + k) 8 (nI (i + 1))) (40 + k) 9 (((mkE M (12 * k + i) p0 p1 (f_X2_isWrongEdge M k p0) ((if (M (40 + k) 7) < 120 then 0 else 1) : Int32) p2 ((if 7 ≤ (M (40 + k) 9) then 0 else ((if 2 ≤ (f_X2_likeJumps M k p0 p1) then 0 else 1) : Int32)) : Int32)) (40 + k) 9) + 1)) (40 + k) 7)) rfl dX2_skateJump_93 ?_
        refine nt_i (y := ((mkE M (12 * k + i) p0 p1 (f_X2_isWrongEdge M k p0) ((if (M (40 + k) 7) < 120 then 0 else 1) : Int32) p2 ((if 7 ≤ (M (40 + k) 9) then 0 else ((if 2 ≤ (f_X2_likeJumps M k p0 p1) then 0 else 1) : Int32)) : Int32)) (40 + k) 7)) (by simp [up2]) ?_
        refine lv_iconst (v := 4) S.1 S.2.1 dX2_skateJump_96 (by decide) ?_
        refine lv_iadd S.1 S.2.1 dX2_skateJump_97 ?_
        refine kr_put S K N hS (40 + k) (by unfold crole; omega) (d_k2.1) (sh_P (by omega)) (C0 := RX2) (T := TX2) (n := 12) rfl iWX2 tyX2 tyX2_ok nmX2 7 (by decide) k1_179 rfl rfl (((mkE M (12 * k + i) p0 p1 (f_X2_isWrongEdge M k p0) ((if (M (40 + k) 7) < 120 then 0 else 1) : Int32) p2 ((if 7 ≤ (M (40 + k) 9) then 0 else ((if 2 ≤ (f_X2_likeJumps M k p0 p1) then 0 else 1) : Int32)) : Int32)) (40 + k) 7) + 4) (by rw [sh_P (by omega), fsP_set _ _ _ _ _ (by decide)]) (rfl) rfl (show 7 < 12 by decide) dX2_skateJump_98 (fun H locs N hS => ?_)
        refine lv_aload_n S.1 S.2.1 dX2_skateJump_101 rfl (lv_at hl 3 rfl) ?_
        refine lv_iconst (v := 1) S.1 S.2.1 dX2_skateJump_102 (by decide) ?_
        refine kc_wV S K N hS (40 + k) (by unfold crole; omega) (d_k2.1) (sh_P (by omega)) (T := TX2) (n := 12) rfl (As := [.int 1]) (m_X2_landOn l (up2 (up2 (up2 (up2 (mkE M (12 * k + i) p0 p1 (f_X2_isWrongEdge M k p0) ((if (M (40 + k) 7) < 120 then 0 else 1) : Int32) p2 ((if 7 ≤ (M (40 + k) 9) then 0 else ((if 2 ≤ (f_X2_likeJumps M k p0 p1) then 0 else 1) : Int32)) : Int32)) (52 + k) i 1) (40 + k) 8 (nI (i + 1))) (40 + k) 9 (((mkE M (12 * k + i) p0 p1 (f_X2_isWrongEdge M k p0) ((if (M (40 + k) 7) < 120 then 0 else 1) : Int32) p2 ((if 7 ≤ (M (40 + k) 9) then 0 else ((if 2 ≤ (f_X2_likeJumps M k p0 p1) then 0 else 1) : Int32)) : Int32)) (40 + k) 9) + 1)) (40 + k) 7 (((mkE M (12 * k + i) p0 p1 (f_X2_isWrongEdge M k p0) ((if (M (40 + k) 7) < 120 then 0 else 1) : Int32) p2 ((if 7 ≤ (M (40 + k) 9) then 0 else ((if 2 ≤ (f_X2_likeJumps M k p0 p1) then 0 else 1) : Int32)) : Int32)) (40 + k) 7) + 4)) k 1 N (⟨d_k2.1, by omega⟩)) k3_49 k3_51 kS_17 k1_7 k3_52 (num := 1) (by decide +kernel) rfl ⟨Nat.le_of_ble_eq_true rfl, Nat.le_of_ble_eq_true rfl⟩ hl.1 rfl (Nat.le_of_ble_eq_true rfl) dX2_skateJump_103 ⟨Nat.le_of_ble_eq_true rfl, Nat.le_of_ble_eq_true rfl⟩ (fun v9 H locs hP hS => ?_)
        obtain ⟨rfl, N⟩ := hP
        have N : kw D cA B (domE dom (12 * k + i)) ad X (up2 (up2 (up2 (up2 (up2 (up2 (up2 (mkE M (12 * k + i) p0 p1 (f_X2_isWrongEdge M k p0) ((if (M (40 + k) 7) < 120 then 0 else 1) : Int32) p2 ((if 7 ≤ (M (40 + k) 9) then 0 else ((if 2 ≤ (f_X2_likeJumps M k p0 p1) then 0 else 1) : Int32)) : Int32)) (52 + k) i 1) (40 + k) 8 (nI (i + 1))) (40 + k) 9 (((mkE M (12 * k + i) p0 p1 (f_X2_isWrongEdge M k p0) ((if (M (40 + k) 7) < 120 then 0 else 1) : Int32) p2 ((if 7 ≤ (M (40 + k) 9) then 0 else ((if 2 ≤ (f_X2_likeJumps M k p0 p1) then 0 else 1) : Int32)) : Int32)) (40 + k) 9) + 1)) (40 + k) 7 (((mkE M (12 * k + i) p0 p1 (f_X2_isWrongEdge M k p0) ((if (M (40 + k) 7) < 120 then 0 else 1) : Int32) p2 ((if 7 ≤ (M (40 + k) 9) then 0 else ((if 2 ≤ (f_X2_likeJumps M k p0 p1) then 0 else 1) : Int32)) : Int32)) (40 + k) 7) + 4)) (40 + k) 4 1) (40 + k) 5 1) (40 + k) 6 1) H := N
        refine W.eq (g2 := F0 m 106 ls []) rfl ?_
        refine lv_iload S.1 S.2.1 dX2_skateJump_106 (lv_at hl 0 rfl) ?_
        exact ne_wI S hS hr hlk ⟨congrArg (fun z => some (Value.int z)) (Eq.symm (by unfold f_X2_skateJump; first | (rw [if_pos c78_7]; done) | (simp only [if_pos c78_7]; done) | rfl)), (by unfold g_X2_skateJump; first | (rw [if_pos c78_7]; exact N) | (simp only [if_pos c78_7]; exact N) | exact N)⟩ dX2_skateJump_108
      · refine lv_aload_n S.1 S.2.1 dX2_skateJump_81 rfl (lv_at hl 3 rfl) ?_
        refine lv_dup S.1 S.2.1 dX2_skateJump_82 rfl ?_
        refine kr_get S K N (40 + k) (by unfold crole; omega) (d_k2.1) (sh_P (by omega)) (C0 := RX2) (T := TX2) (n := 12) rfl iWX2 10 (by decide) k1_184 rfl (v := .int ((up2 (up2 (up2 (mkE M (12 * k + i) p0 p1 (f_X2_isWrongEdge M k p0) ((if (M (40 + k) 7) < 120 then 0 else 1) : Int32) p2 ((if 7 ≤ (M (40 + k) 9) then 0 else ((if 2 ≤ (f_X2_likeJumps M k p0 p1) then 0 else 1) : Int32)) : Int32)) (52 + k) i 1) (40 + k) 8 (nI (i + 1))) (40 + k) 9 (((mkE M (12 * k + i) p0 p1 (f_X2_isWrongEdge M k p0) ((if (M (40 + k) 7) < 120 then 0 else 1) : Int32) p2 ((if 7 ≤ (M (40 + k) 9) then 0 else ((if 2 ≤ (f_X2_likeJumps M k p0 p1) then 0 else 1) : Int32)) : Int32)) (40 + k) 9) + 1)) (40 + k) 10)) rfl dX2_skateJump_83 ?_
        refine nt_i (y := ((mkE M (12 * k + i) p0 p1 (f_X2_isWrongEdge M k p0) ((if (M (40 + k) 7) < 120 then 0 else 1) : Int32) p2 ((if 7 ≤ (M (40 + k) 9) then 0 else ((if 2 ≤ (f_X2_likeJumps M k p0 p1) then 0 else 1) : Int32)) : Int32)) (40 + k) 10)) (by simp [up2]) ?_
        refine lv_iconst (v := 1) S.1 S.2.1 dX2_skateJump_86 (by decide) ?_
        refine lv_iadd S.1 S.2.1 dX2_skateJump_87 ?_
        refine kr_put S K N hS (40 + k) (by unfold crole; omega) (d_k2.1) (sh_P (by omega)) (C0 := RX2) (T := TX2) (n := 12) rfl iWX2 tyX2 tyX2_ok nmX2 10 (by decide) k1_184 rfl rfl (((mkE M (12 * k + i) p0 p1 (f_X2_isWrongEdge M k p0) ((if (M (40 + k) 7) < 120 then 0 else 1) : Int32) p2 ((if 7 ≤ (M (40 + k) 9) then 0 else ((if 2 ≤ (f_X2_likeJumps M k p0 p1) then 0 else 1) : Int32)) : Int32)) (40 + k) 10) + 1) (by rw [sh_P (by omega), fsP_set _ _ _ _ _ (by decide)]) (rfl) rfl (show 10 < 12 by decide) dX2_skateJump_88 (fun H locs N hS => ?_)
        refine lv_aload_n S.1 S.2.1 dX2_skateJump_91 rfl (lv_at hl 3 rfl) ?_
        refine lv_dup S.1 S.2.1 dX2_skateJump_92 rfl ?_
        refine kr_get S K N (40 + k) (by unfold crole; omega) (d_k2.1) (sh_P (by omega)) (C0 := RX2) (T := TX2) (n := 12) rfl iWX2 7 (by decide) k1_179 rfl (v := .int ((up2 (up2 (up2 (up2 (mkE M (12 * k + i) p0 p1 (f_X2_isWrongEdge M k p0) ((if (M (40 + k) 7) < 120 then 0 else 1) : Int32) p2 ((if 7 ≤ (M (40 + k) 9) then 0 else ((if 2 ≤ (f_X2_likeJumps M k p0 p1) then 0 else 1) : Int32)) : Int32)) (52 + k) i 1) (40 + k) 8 (nI (i + 1))) (40 + k) 9 (((mkE M (12 * k + i) p0 p1 (f_X2_isWrongEdge M k p0) ((if (M (40 + k) 7) < 120 then 0 else 1) : Int32) p2 ((if 7 ≤ (M (40 + k) 9) then 0 else ((if 2 ≤ (f_X2_likeJumps M k p0 p1) then 0 else 1) : Int32)) : Int32)) (40 + k) 9) + 1)) (40 + k) 10 (((mkE M (12 * k + i) p0 p1 (f_X2_isWrongEdge M k p0) ((if (M (40 + k) 7) < 120 then 0 else 1) : Int32) p2 ((if 7 ≤ (M (40 + k) 9) then 0 else ((if 2 ≤ (f_X2_likeJumps M k p0 p1) then 0 else 1) : Int32)) : Int32)) (40 + k) 10) + 1)) (40 + k) 7)) rfl dX2_skateJump_93 ?_
        refine nt_i (y := ((mkE M (12 * k + i) p0 p1 (f_X2_isWrongEdge M k p0) ((if (M (40 + k) 7) < 120 then 0 else 1) : Int32) p2 ((if 7 ≤ (M (40 + k) 9) then 0 else ((if 2 ≤ (f_X2_likeJumps M k p0 p1) then 0 else 1) : Int32)) : Int32)) (40 + k) 7)) (by simp [up2]) ?_
        refine lv_iconst (v := 4) S.1 S.2.1 dX2_skateJump_96 (by decide) ?_
        refine lv_iadd S.1 S.2.1 dX2_skateJump_97 ?_
        refine kr_put S K N hS (40 + k) (by unfold crole; omega) (d_k2.1) (sh_P (by omega)) (C0 := RX2) (T := TX2) (n := 12) rfl iWX2 tyX2 tyX2_ok nmX2 7 (by decide) k1_179 rfl rfl (((mkE M (12 * k + i) p0 p1 (f_X2_isWrongEdge M k p0) ((if (M (40 + k) 7) < 120 then 0 else 1) : Int32) p2 ((if 7 ≤ (M (40 + k) 9) then 0 else ((if 2 ≤ (f_X2_likeJumps M k p0 p1) then 0 else 1) : Int32)) : Int32)) (40 + k) 7) + 4) (by rw [sh_P (by omega), fsP_set _ _ _ _ _ (by decide)]) (rfl) rfl (show 7 < 12 by decide) dX2_skateJump_98 (fun H locs N hS => ?_)
        refine lv_aload_n S.1 S.2.1 dX2_skateJump_101 rfl (lv_at hl 3 rfl) ?_
        refine lv_iconst (v := 1) S.1 S.2.1 dX2_skateJump_102 (by decide) ?_
        refine kc_wV S K N hS (40 + k) (by unfold crole; omega) (d_k2.1) (sh_P (by omega)) (T := TX2) (n := 12) rfl (As := [.int 1]) (m_X2_landOn l (up2 (up2 (up2 (up2 (up2 (mkE M (12 * k + i) p0 p1 (f_X2_isWrongEdge M k p0) ((if (M (40 + k) 7) < 120 then 0 else 1) : Int32) p2 ((if 7 ≤ (M (40 + k) 9) then 0 else ((if 2 ≤ (f_X2_likeJumps M k p0 p1) then 0 else 1) : Int32)) : Int32)) (52 + k) i 1) (40 + k) 8 (nI (i + 1))) (40 + k) 9 (((mkE M (12 * k + i) p0 p1 (f_X2_isWrongEdge M k p0) ((if (M (40 + k) 7) < 120 then 0 else 1) : Int32) p2 ((if 7 ≤ (M (40 + k) 9) then 0 else ((if 2 ≤ (f_X2_likeJumps M k p0 p1) then 0 else 1) : Int32)) : Int32)) (40 + k) 9) + 1)) (40 + k) 10 (((mkE M (12 * k + i) p0 p1 (f_X2_isWrongEdge M k p0) ((if (M (40 + k) 7) < 120 then 0 else 1) : Int32) p2 ((if 7 ≤ (M (40 + k) 9) then 0 else ((if 2 ≤ (f_X2_likeJumps M k p0 p1) then 0 else 1) : Int32)) : Int32)) (40 + k) 10) + 1)) (40 + k) 7 (((mkE M (12 * k + i) p0 p1 (f_X2_isWrongEdge M k p0) ((if (M (40 + k) 7) < 120 then 0 else 1) : Int32) p2 ((if 7 ≤ (M (40 + k) 9) then 0 else ((if 2 ≤ (f_X2_likeJumps M k p0 p1) then 0 else 1) : Int32)) : Int32)) (40 + k) 7) + 4)) k 1 N (⟨d_k2.1, by omega⟩)) k3_49 k3_51 kS_17 k1_7 k3_52 (num := 1) (by decide +kernel) rfl ⟨Nat.le_of_ble_eq_true rfl, Nat.le_of_ble_eq_true rfl⟩ hl.1 rfl (Nat.le_of_ble_eq_true rfl) dX2_skateJump_103 ⟨Nat.le_of_ble_eq_true rfl, Nat.le_of_ble_eq_true rfl⟩ (fun v9 H locs hP hS => ?_)
        obtain ⟨rfl, N⟩ := hP
        have N : kw D cA B (domE dom (12 * k + i)) ad X (up2 (up2 (up2 (up2 (up2 (up2 (up2 (up2 (mkE M (12 * k + i) p0 p1 (f_X2_isWrongEdge M k p0) ((if (M (40 + k) 7) < 120 then 0 else 1) : Int32) p2 ((if 7 ≤ (M (40 + k) 9) then 0 else ((if 2 ≤ (f_X2_likeJumps M k p0 p1) then 0 else 1) : Int32)) : Int32)) (52 + k) i 1) (40 + k) 8 (nI (i + 1))) (40 + k) 9 (((mkE M (12 * k + i) p0 p1 (f_X2_isWrongEdge M k p0) ((if (M (40 + k) 7) < 120 then 0 else 1) : Int32) p2 ((if 7 ≤ (M (40 + k) 9) then 0 else ((if 2 ≤ (f_X2_likeJumps M k p0 p1) then 0 else 1) : Int32)) : Int32)) (40 + k) 9) + 1)) (40 + k) 10 (((mkE M (12 * k + i) p0 p1 (f_X2_isWrongEdge M k p0) ((if (M (40 + k) 7) < 120 then 0 else 1) : Int32) p2 ((if 7 ≤ (M (40 + k) 9) then 0 else ((if 2 ≤ (f_X2_likeJumps M k p0 p1) then 0 else 1) : Int32)) : Int32)) (40 + k) 10) + 1)) (40 + k) 7 (((mkE M (12 * k + i) p0 p1 (f_X2_isWrongEdge M k p0) ((if (M (40 + k) 7) < 120 then 0 else 1) : Int32) p2 ((if 7 ≤ (M (40 + k) 9) then 0 else ((if 2 ≤ (f_X2_likeJumps M k p0 p1) then 0 else 1) : Int32)) : Int32)) (40 + k) 7) + 4)) (40 + k) 4 1) (40 + k) 5 1) (40 + k) 6 1) H := N
        refine W.eq (g2 := F0 m 106 ls []) rfl ?_
        refine lv_iload S.1 S.2.1 dX2_skateJump_106 (lv_at hl 0 rfl) ?_
        exact ne_wI S hS hr hlk ⟨congrArg (fun z => some (Value.int z)) (Eq.symm (by unfold f_X2_skateJump; first | (rw [if_neg c78_7]; done) | (simp only [if_neg c78_7]; done) | rfl)), (by unfold g_X2_skateJump; first | (rw [if_neg c78_7]; exact N) | (simp only [if_neg c78_7]; exact N) | exact N)⟩ dX2_skateJump_108
    · refine lv_icmp_lt (tgt := 39) S.1 S.2.1 dX2_skateJump_32 (by decide) (fun c32_8 => ?_) (fun c32_8 => ?_)
      · refine lv_iconst (v := 0) S.1 S.2.1 dX2_skateJump_39 (by decide) ?_
        exact j32_5 _ _ (by first | (rw [if_pos c32_8]; done) | (simp only [if_pos c32_8]; done) | rfl) (lv_sub hl [0, 1, 2, 3, 4] rfl)
      · refine lv_iconst (v := 1) S.1 S.2.1 dX2_skateJump_35 (by decide) ?_
        refine lv_goto (tgt := 40) S.1 S.2.1 dX2_skateJump_36 (by decide) ?_
        exact j32_5 _ _ (by first | (rw [if_neg c32_8]; done) | (simp only [if_neg c32_8]; done) | rfl) (lv_sub hl [0, 1, 2, 3, 4] rfl)
  · refine lv_icmp_ge (tgt := 23) S.1 S.2.1 dX2_skateJump_6 (by decide) (fun c6_9 => ?_) (fun c6_9 => ?_)
    · refine lv_iconst (v := 0) S.1 S.2.1 dX2_skateJump_23 (by decide) ?_
      exact j6_2 _ _ (by first | (rw [if_pos c6_9]; done) | (simp only [if_pos c6_9]; done) | rfl) (lv_sub hl [0, 1, 2, 3] rfl)
    · refine lv_aload_n S.1 S.2.1 dX2_skateJump_9 rfl (lv_at hl 0 rfl) ?_
      refine lv_iload_n S.1 S.2.1 dX2_skateJump_10 rfl (lv_at hl 1 rfl) ?_
      refine lv_iload_n S.1 S.2.1 dX2_skateJump_11 rfl (lv_at hl 2 rfl) ?_
      refine kc_rV S K N hS (40 + k) (by unfold crole; omega) (d_k.1) (sh_P (by omega)) (T := TX2) (n := 12) rfl (As := [.int p0, .int p1]) (m_X2_likeJumps l M k p0 p1 N (by omega) d_k) k3_0 k3_2 kS_15 k1_7 k3_3 (num := 2) (by decide +kernel) rfl ⟨Nat.le_of_ble_eq_true rfl, Nat.le_of_ble_eq_true rfl⟩ hl.1 rfl (Nat.le_of_ble_eq_true rfl) dX2_skateJump_12 ⟨Nat.le_of_ble_eq_true rfl, Nat.le_of_ble_eq_true rfl⟩ ?_
      refine lv_iconst (v := 2) S.1 S.2.1 dX2_skateJump_15 (by decide) ?_
      refine lv_icmp_ge (tgt := 23) S.1 S.2.1 dX2_skateJump_16 (by decide) (fun c16_10 => ?_) (fun c16_10 => ?_)
      · refine lv_iconst (v := 0) S.1 S.2.1 dX2_skateJump_23 (by decide) ?_
        exact j6_2 _ _ (by first | (rw [if_neg c6_9, if_pos c16_10]; done) | (simp only [if_neg c6_9, if_pos c16_10]; done) | rfl) (lv_sub hl [0, 1, 2, 3] rfl)
      · refine lv_iconst (v := 1) S.1 S.2.1 dX2_skateJump_19 (by decide) ?_
        refine lv_goto (tgt := 24) S.1 S.2.1 dX2_skateJump_20 (by decide) ?_
        exact j6_2 _ _ (by first | (rw [if_neg c6_9, if_neg c16_10]; done) | (simp only [if_neg c6_9, if_neg c16_10]; done) | rfl) (lv_sub hl [0, 1, 2, 3] rfl)

def f_X2_skateSpin (M : Nat → Nat → Int32) (k : Nat) (p0 : Int32) (p1 : Int32) (i : Nat) : Int32 :=
  if ((if 6 ≤ p1 then ((if 4 < (f_J6_bitCount_0f7a4 (p0 &&& ((M (40 + k) 11) ^^^ (-1)))) then 4 else (f_J6_bitCount_0f7a4 (p0 &&& ((M (40 + k) 11) ^^^ (-1))))) : Int32) else 0) : Int32) ≤ 0 then (f_X2_add (mkE M (12 * k + i) 6 ((if 6 ≤ p1 then ((if 4 < (f_J6_bitCount_0f7a4 (p0 &&& ((M (40 + k) 11) ^^^ (-1)))) then 4 else (f_J6_bitCount_0f7a4 (p0 &&& ((M (40 + k) 11) ^^^ (-1))))) : Int32) else 0) : Int32) 0 0 0 ((if 3 ≤ ((M (40 + k) 8) - (M (40 + k) 9)) then 0 else 1) : Int32)) k (12 * k + i) i)
  else (f_X2_add (mkE M (12 * k + i) 6 ((if 6 ≤ p1 then ((if 4 < (f_J6_bitCount_0f7a4 (p0 &&& ((M (40 + k) 11) ^^^ (-1)))) then 4 else (f_J6_bitCount_0f7a4 (p0 &&& ((M (40 + k) 11) ^^^ (-1))))) : Int32) else 0) : Int32) 0 0 0 ((if 3 ≤ ((M (40 + k) 8) - (M (40 + k) 9)) then 0 else 1) : Int32)) k (12 * k + i) i)
def g_X2_skateSpin (M : Nat → Nat → Int32) (k : Nat) (p0 : Int32) (p1 : Int32) (i : Nat) : Nat → Nat → Int32 :=
  if ((if 6 ≤ p1 then ((if 4 < (f_J6_bitCount_0f7a4 (p0 &&& ((M (40 + k) 11) ^^^ (-1)))) then 4 else (f_J6_bitCount_0f7a4 (p0 &&& ((M (40 + k) 11) ^^^ (-1))))) : Int32) else 0) : Int32) ≤ 0 then (up2 (up2 (up2 (up2 (up2 (up2 (mkE M (12 * k + i) 6 ((if 6 ≤ p1 then ((if 4 < (f_J6_bitCount_0f7a4 (p0 &&& ((M (40 + k) 11) ^^^ (-1)))) then 4 else (f_J6_bitCount_0f7a4 (p0 &&& ((M (40 + k) 11) ^^^ (-1))))) : Int32) else 0) : Int32) 0 0 0 ((if 3 ≤ ((M (40 + k) 8) - (M (40 + k) 9)) then 0 else 1) : Int32)) (52 + k) i 1) (40 + k) 8 (nI (i + 1))) (40 + k) 7 (((mkE M (12 * k + i) 6 ((if 6 ≤ p1 then ((if 4 < (f_J6_bitCount_0f7a4 (p0 &&& ((M (40 + k) 11) ^^^ (-1)))) then 4 else (f_J6_bitCount_0f7a4 (p0 &&& ((M (40 + k) 11) ^^^ (-1))))) : Int32) else 0) : Int32) 0 0 0 ((if 3 ≤ ((M (40 + k) 8) - (M (40 + k) 9)) then 0 else 1) : Int32)) (40 + k) 7) + 10)) (40 + k) 4 0) (40 + k) 5 1) (40 + k) 6 1)
  else (up2 (up2 (up2 (up2 (up2 (up2 (up2 (mkE M (12 * k + i) 6 ((if 6 ≤ p1 then ((if 4 < (f_J6_bitCount_0f7a4 (p0 &&& ((M (40 + k) 11) ^^^ (-1)))) then 4 else (f_J6_bitCount_0f7a4 (p0 &&& ((M (40 + k) 11) ^^^ (-1))))) : Int32) else 0) : Int32) 0 0 0 ((if 3 ≤ ((M (40 + k) 8) - (M (40 + k) 9)) then 0 else 1) : Int32)) (52 + k) i 1) (40 + k) 8 (nI (i + 1))) (40 + k) 11 (((mkE M (12 * k + i) 6 ((if 6 ≤ p1 then ((if 4 < (f_J6_bitCount_0f7a4 (p0 &&& ((M (40 + k) 11) ^^^ (-1)))) then 4 else (f_J6_bitCount_0f7a4 (p0 &&& ((M (40 + k) 11) ^^^ (-1))))) : Int32) else 0) : Int32) 0 0 0 ((if 3 ≤ ((M (40 + k) 8) - (M (40 + k) 9)) then 0 else 1) : Int32)) (40 + k) 11) ||| p0)) (40 + k) 7 (((mkE M (12 * k + i) 6 ((if 6 ≤ p1 then ((if 4 < (f_J6_bitCount_0f7a4 (p0 &&& ((M (40 + k) 11) ^^^ (-1)))) then 4 else (f_J6_bitCount_0f7a4 (p0 &&& ((M (40 + k) 11) ^^^ (-1))))) : Int32) else 0) : Int32) 0 0 0 ((if 3 ≤ ((M (40 + k) 8) - (M (40 + k) 9)) then 0 else 1) : Int32)) (40 + k) 7) + 10)) (40 + k) 4 0) (40 + k) 5 1) (40 + k) 6 1)
set_option maxHeartbeats 4000000 in
set_option maxRecDepth 100000 in
theorem m_X2_skateSpin {D : va_G} {cA : Nat → ClassId} {B : Nat} (l : Launch) {dom : Nat → Prop} {ad : Nat → Nat} {X : Nat → va_E} {H0 : Heap} (M : Nat → Nat → Int32) (k : Nat) (p0 : Int32) (p1 : Int32) (i : Nat) (N : kw D cA B dom ad X M H0) (h_k : k < 12) (d_k : dP dom M k) (hcnt : M (40 + k) 8 = nI i) (hi : i < 12) (nd : ndE dom (12 * k + i)) (had : adE ad (12 * k + i) H0.size) : MetW D cA B l yX2_skateSpin cX2_skateSpin 6 (some .int) 3 100 7 48 [.ref (ad (40 + k)), .int p0, .int p1] H0 (fun o h => o = some (.int (f_X2_skateSpin M k p0 p1 i)) ∧ kw D cA B (domE dom (12 * k + i)) ad X (g_X2_skateSpin M k p0 p1 i) h) := by
  refine MetW.of (by decide) (Nat.le_of_ble_eq_true rfl) ?_
  intro p e s m args below meth c S hr hlk hin hh K ls hl
  subst hh
  have hS : va_S (fun q => B ≤ q) s.heap s.heap [] := va_S.rf
  have hl : lv_has ls 6 [(0, .ref (ad (40 + k))), (1, .int p0), (2, .int p1)] := hl
  refine lv_iload_n S.1 S.2.1 dX2_skateSpin_0 rfl (lv_at hl 2 rfl) ?_
  refine lv_bipush (v := 6) S.1 S.2.1 dX2_skateSpin_1 (by decide) ?_
  refine nj (J := 25) (V := ((if 6 ≤ p1 then ((if 4 < (f_J6_bitCount_0f7a4 (p0 &&& ((M (40 + k) 11) ^^^ (-1)))) then 4 else (f_J6_bitCount_0f7a4 (p0 &&& ((M (40 + k) 11) ^^^ (-1))))) : Int32) else 0) : Int32)) (L := fun v3_1 => [(0, .ref (ad (40 + k))), (1, .int p0), (2, .int p1)]) (St := fun v3_1 => [.int v3_1]) (n := 6) (fun v3_1 ls h3_3 hl => ?_) (fun j3_2 => ?_)
  · try dsimp only at hl ⊢
    subst h3_3
    refine lv_istore_n (lv' := [(3, .int ((if 6 ≤ p1 then ((if 4 < (f_J6_bitCount_0f7a4 (p0 &&& ((M (40 + k) 11) ^^^ (-1)))) then 4 else (f_J6_bitCount_0f7a4 (p0 &&& ((M (40 + k) 11) ^^^ (-1))))) : Int32) else 0) : Int32)), (0, .ref (ad (40 + k))), (1, .int p0), (2, .int p1)]) S.1 S.2.1 dX2_skateSpin_25 rfl hl (by decide) rfl (fun ls hl => ?_)
    refine lv_aload_n S.1 S.2.1 dX2_skateSpin_26 rfl (lv_at hl 1 rfl) ?_
    refine kr_get S K N (40 + k) (by unfold crole; omega) (d_k.1) (sh_P (by omega)) (C0 := RX2) (T := TX2) (n := 12) rfl iWX2 8 (by decide) k1_181 rfl (v := .int (M (40 + k) 8)) rfl dX2_skateSpin_27 ?_
    refine lv_aload_n S.1 S.2.1 dX2_skateSpin_30 rfl (lv_at hl 1 rfl) ?_
    refine kr_get S K N (40 + k) (by unfold crole; omega) (d_k.1) (sh_P (by omega)) (C0 := RX2) (T := TX2) (n := 12) rfl iWX2 9 (by decide) k1_183 rfl (v := .int (M (40 + k) 9)) rfl dX2_skateSpin_31 ?_
    refine lv_isub S.1 S.2.1 dX2_skateSpin_34 ?_
    refine lv_iconst (v := 3) S.1 S.2.1 dX2_skateSpin_35 (by decide) ?_
    refine nj (J := 44) (V := ((if 3 ≤ ((M (40 + k) 8) - (M (40 + k) 9)) then 0 else 1) : Int32)) (L := fun v36_4 => [(3, .int ((if 6 ≤ p1 then ((if 4 < (f_J6_bitCount_0f7a4 (p0 &&& ((M (40 + k) 11) ^^^ (-1)))) then 4 else (f_J6_bitCount_0f7a4 (p0 &&& ((M (40 + k) 11) ^^^ (-1))))) : Int32) else 0) : Int32)), (0, .ref (ad (40 + k))), (1, .int p0), (2, .int p1)]) (St := fun v36_4 => [.int v36_4]) (n := 6) (fun v36_4 ls h36_6 hl => ?_) (fun j36_5 => ?_)
    · try dsimp only at hl ⊢
      subst h36_6
      refine lv_istore (lv' := [(4, .int ((if 3 ≤ ((M (40 + k) 8) - (M (40 + k) 9)) then 0 else 1) : Int32)), (3, .int ((if 6 ≤ p1 then ((if 4 < (f_J6_bitCount_0f7a4 (p0 &&& ((M (40 + k) 11) ^^^ (-1)))) then 4 else (f_J6_bitCount_0f7a4 (p0 &&& ((M (40 + k) 11) ^^^ (-1))))) : Int32) else 0) : Int32)), (0, .ref (ad (40 + k))), (1, .int p0), (2, .int p1)]) S.1 S.2.1 dX2_skateSpin_44 hl (by decide) rfl (fun ls hl => ?_)
      refine lv_aload_n S.1 S.2.1 dX2_skateSpin_46 rfl (lv_at hl 2 rfl) ?_
      refine nk_newE S K N hS (12 * k + i) nd.1 had.1 (Nat.le_of_ble_eq_true rfl) (Nat.le_of_ble_eq_true rfl) k1_141 k3_4 k1_11 dX2_skateSpin_47 (fun H Nn hS hz => ?_)
      have N := kwn_kw Nn
      refine lv_dup S.1 S.2.1 dX2_skateSpin_50 rfl ?_
      refine lv_bipush (v := 6) S.1 S.2.1 dX2_skateSpin_51 (by decide) ?_
      refine lv_iload_n S.1 S.2.1 dX2_skateSpin_53 rfl (lv_at hl 1 rfl) ?_
      refine lv_iconst (v := 0) S.1 S.2.1 dX2_skateSpin_54 (by decide) ?_
      refine lv_iconst (v := 0) S.1 S.2.1 dX2_skateSpin_55 (by decide) ?_
      refine lv_iconst (v := 0) S.1 S.2.1 dX2_skateSpin_56 (by decide) ?_
      refine lv_iload S.1 S.2.1 dX2_skateSpin_57 (lv_at hl 0 rfl) ?_
      refine nk_initE S K Nn hS (by omega) nd ⟨by rw [hz]; exact had.2.1, by rw [hz]; exact had.2.2⟩ (by first | exact z2 | exact wrong01 _ _ _ | decide | (repeat' split) <;> decide) (by first | exact z2 | exact wrong01 _ _ _ | decide | (repeat' split) <;> decide) (by first | exact z2 | exact wrong01 _ _ _ | decide | (repeat' split) <;> decide) (by first | exact z2 | exact wrong01 _ _ _ | decide | (repeat' split) <;> decide) ⟨(Nat.le_of_ble_eq_true rfl), (Nat.le_of_ble_eq_true rfl)⟩ hl.1 (Nat.le_of_ble_eq_true rfl) dX2_skateSpin_59 ⟨(Nat.le_of_ble_eq_true rfl), (Nat.le_of_ble_eq_true rfl)⟩ (fun H locs N hS => ?_)
      have d_k2 : domE dom (12 * k + i) (40 + k) ∧ domE dom (12 * k + i) (52 + k) ∧ k < 12 := ⟨Or.inl d_k.1, Or.inl d_k.2.1, h_k⟩
      have d_n : domE dom (12 * k + i) (80 + (12 * k + i)) ∧ (12 * k + i) < 144 := ⟨Or.inr (Or.inl rfl), by omega⟩
      refine kc_wV S K N hS (40 + k) (by unfold crole; omega) (d_k2.1) (sh_P (by omega)) (T := TX2) (n := 12) rfl (As := [.ref (ad (80 + (12 * k + i)))]) (m_X2_add l (mkE M (12 * k + i) 6 ((if 6 ≤ p1 then ((if 4 < (f_J6_bitCount_0f7a4 (p0 &&& ((M (40 + k) 11) ^^^ (-1)))) then 4 else (f_J6_bitCount_0f7a4 (p0 &&& ((M (40 + k) 11) ^^^ (-1))))) : Int32) else 0) : Int32) 0 0 0 ((if 3 ≤ ((M (40 + k) 8) - (M (40 + k) 9)) then 0 else 1) : Int32)) k (12 * k + i) i N d_k2 d_n ((congrFun (mkE_lt (by omega)) 8).trans hcnt) hi rfl) k3_45 k3_47 kS_16 k1_7 k3_48 (num := 1) (by decide +kernel) rfl ⟨Nat.le_of_ble_eq_true rfl, Nat.le_of_ble_eq_true rfl⟩ hl.1 rfl (Nat.le_of_ble_eq_true rfl) dX2_skateSpin_62 ⟨Nat.le_of_ble_eq_true rfl, Nat.le_of_ble_eq_true rfl⟩ (fun v9 H locs hP hS => ?_)
      obtain ⟨rfl, N⟩ := hP
      have N : kw D cA B (domE dom (12 * k + i)) ad X (up2 (up2 (mkE M (12 * k + i) 6 ((if 6 ≤ p1 then ((if 4 < (f_J6_bitCount_0f7a4 (p0 &&& ((M (40 + k) 11) ^^^ (-1)))) then 4 else (f_J6_bitCount_0f7a4 (p0 &&& ((M (40 + k) 11) ^^^ (-1))))) : Int32) else 0) : Int32) 0 0 0 ((if 3 ≤ ((M (40 + k) 8) - (M (40 + k) 9)) then 0 else 1) : Int32)) (52 + k) i 1) (40 + k) 8 (nI (i + 1))) H := N
      refine W.eq (g2 := F0 m 65 ls [.int (f_X2_add (mkE M (12 * k + i) 6 ((if 6 ≤ p1 then ((if 4 < (f_J6_bitCount_0f7a4 (p0 &&& ((M (40 + k) 11) ^^^ (-1)))) then 4 else (f_J6_bitCount_0f7a4 (p0 &&& ((M (40 + k) 11) ^^^ (-1))))) : Int32) else 0) : Int32) 0 0 0 ((if 3 ≤ ((M (40 + k) 8) - (M (40 + k) 9)) then 0 else 1) : Int32)) k (12 * k + i) i)]) rfl ?_
      refine lv_istore (lv' := [(5, .int (f_X2_add (mkE M (12 * k + i) 6 ((if 6 ≤ p1 then ((if 4 < (f_J6_bitCount_0f7a4 (p0 &&& ((M (40 + k) 11) ^^^ (-1)))) then 4 else (f_J6_bitCount_0f7a4 (p0 &&& ((M (40 + k) 11) ^^^ (-1))))) : Int32) else 0) : Int32) 0 0 0 ((if 3 ≤ ((M (40 + k) 8) - (M (40 + k) 9)) then 0 else 1) : Int32)) k (12 * k + i) i)), (4, .int ((if 3 ≤ ((M (40 + k) 8) - (M (40 + k) 9)) then 0 else 1) : Int32)), (3, .int ((if 6 ≤ p1 then ((if 4 < (f_J6_bitCount_0f7a4 (p0 &&& ((M (40 + k) 11) ^^^ (-1)))) then 4 else (f_J6_bitCount_0f7a4 (p0 &&& ((M (40 + k) 11) ^^^ (-1))))) : Int32) else 0) : Int32)), (0, .ref (ad (40 + k))), (1, .int p0), (2, .int p1)]) S.1 S.2.1 dX2_skateSpin_65 hl (by decide) rfl (fun ls hl => ?_)
      refine lv_iload_n S.1 S.2.1 dX2_skateSpin_67 rfl (lv_at hl 2 rfl) ?_
      refine lv_if_le (tgt := 81) S.1 S.2.1 dX2_skateSpin_68 (by decide) (fun c68_7 => ?_) (fun c68_7 => ?_)
      · refine lv_aload_n S.1 S.2.1 dX2_skateSpin_81 rfl (lv_at hl 3 rfl) ?_
        refine lv_dup S.1 S.2.1 dX2_skateSpin_82 rfl ?_
        refine kr_get S K N (40 + k) (by unfold crole; omega) (d_k2.1) (sh_P (by omega)) (C0 := RX2) (T := TX2) (n := 12) rfl iWX2 7 (by decide) k1_179 rfl (v := .int ((up2 (up2 (mkE M (12 * k + i) 6 ((if 6 ≤ p1 then ((if 4 < (f_J6_bitCount_0f7a4 (p0 &&& ((M (40 + k) 11) ^^^ (-1)))) then 4 else (f_J6_bitCount_0f7a4 (p0 &&& ((M (40 + k) 11) ^^^ (-1))))) : Int32) else 0) : Int32) 0 0 0 ((if 3 ≤ ((M (40 + k) 8) - (M (40 + k) 9)) then 0 else 1) : Int32)) (52 + k) i 1) (40 + k) 8 (nI (i + 1))) (40 + k) 7)) rfl dX2_skateSpin_83 ?_
        refine nt_i (y := ((mkE M (12 * k + i) 6 ((if 6 ≤ p1 then ((if 4 < (f_J6_bitCount_0f7a4 (p0 &&& ((M (40 + k) 11) ^^^ (-1)))) then 4 else (f_J6_bitCount_0f7a4 (p0 &&& ((M (40 + k) 11) ^^^ (-1))))) : Int32) else 0) : Int32) 0 0 0 ((if 3 ≤ ((M (40 + k) 8) - (M (40 + k) 9)) then 0 else 1) : Int32)) (40 + k) 7)) (by simp [up2]) ?_
        refine lv_bipush (v := 10) S.1 S.2.1 dX2_skateSpin_86 (by decide) ?_
        refine lv_iadd S.1 S.2.1 dX2_skateSpin_88 ?_
        refine kr_put S K N hS (40 + k) (by unfold crole; omega) (d_k2.1) (sh_P (by omega)) (C0 := RX2) (T := TX2) (n := 12) rfl iWX2 tyX2 tyX2_ok nmX2 7 (by decide) k1_179 rfl rfl (((mkE M (12 * k + i) 6 ((if 6 ≤ p1 then ((if 4 < (f_J6_bitCount_0f7a4 (p0 &&& ((M (40 + k) 11) ^^^ (-1)))) then 4 else (f_J6_bitCount_0f7a4 (p0 &&& ((M (40 + k) 11) ^^^ (-1))))) : Int32) else 0) : Int32) 0 0 0 ((if 3 ≤ ((M (40 + k) 8) - (M (40 + k) 9)) then 0 else 1) : Int32)) (40 + k) 7) + 10) (by rw [sh_P (by omega), fsP_set _ _ _ _ _ (by decide)]) (rfl) rfl (show 7 < 12 by decide) dX2_skateSpin_89 (fun H locs N hS => ?_)
        refine lv_aload_n S.1 S.2.1 dX2_skateSpin_92 rfl (lv_at hl 3 rfl) ?_
        refine lv_iconst (v := 0) S.1 S.2.1 dX2_skateSpin_93 (by decide) ?_
        refine kc_wV S K N hS (40 + k) (by unfold crole; omega) (d_k2.1) (sh_P (by omega)) (T := TX2) (n := 12) rfl (As := [.int 0]) (m_X2_landOn l (up2 (up2 (up2 (mkE M (12 * k + i) 6 ((if 6 ≤ p1 then ((if 4 < (f_J6_bitCount_0f7a4 (p0 &&& ((M (40 + k) 11) ^^^ (-1)))) then 4 else (f_J6_bitCount_0f7a4 (p0 &&& ((M (40 + k) 11) ^^^ (-1))))) : Int32) else 0) : Int32) 0 0 0 ((if 3 ≤ ((M (40 + k) 8) - (M (40 + k) 9)) then 0 else 1) : Int32)) (52 + k) i 1) (40 + k) 8 (nI (i + 1))) (40 + k) 7 (((mkE M (12 * k + i) 6 ((if 6 ≤ p1 then ((if 4 < (f_J6_bitCount_0f7a4 (p0 &&& ((M (40 + k) 11) ^^^ (-1)))) then 4 else (f_J6_bitCount_0f7a4 (p0 &&& ((M (40 + k) 11) ^^^ (-1))))) : Int32) else 0) : Int32) 0 0 0 ((if 3 ≤ ((M (40 + k) 8) - (M (40 + k) 9)) then 0 else 1) : Int32)) (40 + k) 7) + 10)) k 0 N (⟨d_k2.1, by omega⟩)) k3_49 k3_51 kS_17 k1_7 k3_52 (num := 1) (by decide +kernel) rfl ⟨Nat.le_of_ble_eq_true rfl, Nat.le_of_ble_eq_true rfl⟩ hl.1 rfl (Nat.le_of_ble_eq_true rfl) dX2_skateSpin_94 ⟨Nat.le_of_ble_eq_true rfl, Nat.le_of_ble_eq_true rfl⟩ (fun v9 H locs hP hS => ?_)
        obtain ⟨rfl, N⟩ := hP
        have N : kw D cA B (domE dom (12 * k + i)) ad X (up2 (up2 (up2 (up2 (up2 (up2 (mkE M (12 * k + i) 6 ((if 6 ≤ p1 then ((if 4 < (f_J6_bitCount_0f7a4 (p0 &&& ((M (40 + k) 11) ^^^ (-1)))) then 4 else (f_J6_bitCount_0f7a4 (p0 &&& ((M (40 + k) 11) ^^^ (-1))))) : Int32) else 0) : Int32) 0 0 0 ((if 3 ≤ ((M (40 + k) 8) - (M (40 + k) 9)) then 0 else 1) : Int32)) (52 + k) i 1) (40 + k) 8 (nI (i + 1))) (40 + k) 7 (((mkE M (12 * k + i) 6 ((if 6 ≤ p1 then ((if 4 < (f_J6_bitCount_0f7a4 (p0 &&& ((M (40 + k) 11) ^^^ (-1)))) then 4 else (f_J6_bitCount_0f7a4 (p0 &&& ((M (40 + k) 11) ^^^ (-1))))) : Int32) else 0) : Int32) 0 0 0 ((if 3 ≤ ((M (40 + k) 8) - (M (40 + k) 9)) then 0 else 1) : Int32)) (40 + k) 7) + 10)) (40 + k) 4 0) (40 + k) 5 1) (40 + k) 6 1) H := N
        refine W.eq (g2 := F0 m 97 ls []) rfl ?_
        refine lv_iload S.1 S.2.1 dX2_skateSpin_97 (lv_at hl 0 rfl) ?_
        exact ne_wI S hS hr hlk ⟨congrArg (fun z => some (Value.int z)) (Eq.symm (by unfold f_X2_skateSpin; first | (rw [if_pos c68_7]; done) | (simp only [if_pos c68_7]; done) | rfl)), (by unfold g_X2_skateSpin; first | (rw [if_pos c68_7]; exact N) | (simp only [if_pos c68_7]; exact N) | exact N)⟩ dX2_skateSpin_99
      · refine lv_aload_n S.1 S.2.1 dX2_skateSpin_71 rfl (lv_at hl 3 rfl) ?_
        refine lv_dup S.1 S.2.1 dX2_skateSpin_72 rfl ?_
        refine kr_get S K N (40 + k) (by unfold crole; omega) (d_k2.1) (sh_P (by omega)) (C0 := RX2) (T := TX2) (n := 12) rfl iWX2 11 (by decide) k1_185 rfl (v := .int ((up2 (up2 (mkE M (12 * k + i) 6 ((if 6 ≤ p1 then ((if 4 < (f_J6_bitCount_0f7a4 (p0 &&& ((M (40 + k) 11) ^^^ (-1)))) then 4 else (f_J6_bitCount_0f7a4 (p0 &&& ((M (40 + k) 11) ^^^ (-1))))) : Int32) else 0) : Int32) 0 0 0 ((if 3 ≤ ((M (40 + k) 8) - (M (40 + k) 9)) then 0 else 1) : Int32)) (52 + k) i 1) (40 + k) 8 (nI (i + 1))) (40 + k) 11)) rfl dX2_skateSpin_73 ?_
        refine nt_i (y := ((mkE M (12 * k + i) 6 ((if 6 ≤ p1 then ((if 4 < (f_J6_bitCount_0f7a4 (p0 &&& ((M (40 + k) 11) ^^^ (-1)))) then 4 else (f_J6_bitCount_0f7a4 (p0 &&& ((M (40 + k) 11) ^^^ (-1))))) : Int32) else 0) : Int32) 0 0 0 ((if 3 ≤ ((M (40 + k) 8) - (M (40 + k) 9)) then 0 else 1) : Int32)) (40 + k) 11)) (by simp [up2]) ?_
        refine lv_iload_n S.1 S.2.1 dX2_skateSpin_76 rfl (lv_at hl 4 rfl) ?_
        refine lv_ior S.1 S.2.1 dX2_skateSpin_77 ?_
        refine kr_put S K N hS (40 + k) (by unfold crole; omega) (d_k2.1) (sh_P (by omega)) (C0 := RX2) (T := TX2) (n := 12) rfl iWX2 tyX2 tyX2_ok nmX2 11 (by decide) k1_185 rfl rfl (((mkE M (12 * k + i) 6 ((if 6 ≤ p1 then ((if 4 < (f_J6_bitCount_0f7a4 (p0 &&& ((M (40 + k) 11) ^^^ (-1)))) then 4 else (f_J6_bitCount_0f7a4 (p0 &&& ((M (40 + k) 11) ^^^ (-1))))) : Int32) else 0) : Int32) 0 0 0 ((if 3 ≤ ((M (40 + k) 8) - (M (40 + k) 9)) then 0 else 1) : Int32)) (40 + k) 11) ||| p0) (by rw [sh_P (by omega), fsP_set _ _ _ _ _ (by decide)]) (rfl) rfl (show 11 < 12 by decide) dX2_skateSpin_78 (fun H locs N hS => ?_)
        refine lv_aload_n S.1 S.2.1 dX2_skateSpin_81 rfl (lv_at hl 3 rfl) ?_
        refine lv_dup S.1 S.2.1 dX2_skateSpin_82 rfl ?_
        refine kr_get S K N (40 + k) (by unfold crole; omega) (d_k2.1) (sh_P (by omega)) (C0 := RX2) (T := TX2) (n := 12) rfl iWX2 7 (by decide) k1_179 rfl (v := .int ((up2 (up2 (up2 (mkE M (12 * k + i) 6 ((if 6 ≤ p1 then ((if 4 < (f_J6_bitCount_0f7a4 (p0 &&& ((M (40 + k) 11) ^^^ (-1)))) then 4 else (f_J6_bitCount_0f7a4 (p0 &&& ((M (40 + k) 11) ^^^ (-1))))) : Int32) else 0) : Int32) 0 0 0 ((if 3 ≤ ((M (40 + k) 8) - (M (40 + k) 9)) then 0 else 1) : Int32)) (52 + k) i 1) (40 + k) 8 (nI (i + 1))) (40 + k) 11 (((mkE M (12 * k + i) 6 ((if 6 ≤ p1 then ((if 4 < (f_J6_bitCount_0f7a4 (p0 &&& ((M (40 + k) 11) ^^^ (-1)))) then 4 else (f_J6_bitCount_0f7a4 (p0 &&& ((M (40 + k) 11) ^^^ (-1))))) : Int32) else 0) : Int32) 0 0 0 ((if 3 ≤ ((M (40 + k) 8) - (M (40 + k) 9)) then 0 else 1) : Int32)) (40 + k) 11) ||| p0)) (40 + k) 7)) rfl dX2_skateSpin_83 ?_
        refine nt_i (y := ((mkE M (12 * k + i) 6 ((if 6 ≤ p1 then ((if 4 < (f_J6_bitCount_0f7a4 (p0 &&& ((M (40 + k) 11) ^^^ (-1)))) then 4 else (f_J6_bitCount_0f7a4 (p0 &&& ((M (40 + k) 11) ^^^ (-1))))) : Int32) else 0) : Int32) 0 0 0 ((if 3 ≤ ((M (40 + k) 8) - (M (40 + k) 9)) then 0 else 1) : Int32)) (40 + k) 7)) (by simp [up2]) ?_
        refine lv_bipush (v := 10) S.1 S.2.1 dX2_skateSpin_86 (by decide) ?_
        refine lv_iadd S.1 S.2.1 dX2_skateSpin_88 ?_
        refine kr_put S K N hS (40 + k) (by unfold crole; omega) (d_k2.1) (sh_P (by omega)) (C0 := RX2) (T := TX2) (n := 12) rfl iWX2 tyX2 tyX2_ok nmX2 7 (by decide) k1_179 rfl rfl (((mkE M (12 * k + i) 6 ((if 6 ≤ p1 then ((if 4 < (f_J6_bitCount_0f7a4 (p0 &&& ((M (40 + k) 11) ^^^ (-1)))) then 4 else (f_J6_bitCount_0f7a4 (p0 &&& ((M (40 + k) 11) ^^^ (-1))))) : Int32) else 0) : Int32) 0 0 0 ((if 3 ≤ ((M (40 + k) 8) - (M (40 + k) 9)) then 0 else 1) : Int32)) (40 + k) 7) + 10) (by rw [sh_P (by omega), fsP_set _ _ _ _ _ (by decide)]) (rfl) rfl (show 7 < 12 by decide) dX2_skateSpin_89 (fun H locs N hS => ?_)
        refine lv_aload_n S.1 S.2.1 dX2_skateSpin_92 rfl (lv_at hl 3 rfl) ?_
        refine lv_iconst (v := 0) S.1 S.2.1 dX2_skateSpin_93 (by decide) ?_
        refine kc_wV S K N hS (40 + k) (by unfold crole; omega) (d_k2.1) (sh_P (by omega)) (T := TX2) (n := 12) rfl (As := [.int 0]) (m_X2_landOn l (up2 (up2 (up2 (up2 (mkE M (12 * k + i) 6 ((if 6 ≤ p1 then ((if 4 < (f_J6_bitCount_0f7a4 (p0 &&& ((M (40 + k) 11) ^^^ (-1)))) then 4 else (f_J6_bitCount_0f7a4 (p0 &&& ((M (40 + k) 11) ^^^ (-1))))) : Int32) else 0) : Int32) 0 0 0 ((if 3 ≤ ((M (40 + k) 8) - (M (40 + k) 9)) then 0 else 1) : Int32)) (52 + k) i 1) (40 + k) 8 (nI (i + 1))) (40 + k) 11 (((mkE M (12 * k + i) 6 ((if 6 ≤ p1 then ((if 4 < (f_J6_bitCount_0f7a4 (p0 &&& ((M (40 + k) 11) ^^^ (-1)))) then 4 else (f_J6_bitCount_0f7a4 (p0 &&& ((M (40 + k) 11) ^^^ (-1))))) : Int32) else 0) : Int32) 0 0 0 ((if 3 ≤ ((M (40 + k) 8) - (M (40 + k) 9)) then 0 else 1) : Int32)) (40 + k) 11) ||| p0)) (40 + k) 7 (((mkE M (12 * k + i) 6 ((if 6 ≤ p1 then ((if 4 < (f_J6_bitCount_0f7a4 (p0 &&& ((M (40 + k) 11) ^^^ (-1)))) then 4 else (f_J6_bitCount_0f7a4 (p0 &&& ((M (40 + k) 11) ^^^ (-1))))) : Int32) else 0) : Int32) 0 0 0 ((if 3 ≤ ((M (40 + k) 8) - (M (40 + k) 9)) then 0 else 1) : Int32)) (40 + k) 7) + 10)) k 0 N (⟨d_k2.1, by omega⟩)) k3_49 k3_51 kS_17 k1_7 k3_52 (num := 1) (by decide +kernel) rfl ⟨Nat.le_of_ble_eq_true rfl, Nat.le_of_ble_eq_true rfl⟩ hl.1 rfl (Nat.le_of_ble_eq_true rfl) dX2_skateSpin_94 ⟨Nat.le_of_ble_eq_true rfl, Nat.le_of_ble_eq_true rfl⟩ (fun v9 H locs hP hS => ?_)
        obtain ⟨rfl, N⟩ := hP
        have N : kw D cA B (domE dom (12 * k + i)) ad X (up2 (up2 (up2 (up2 (up2 (up2 (up2 (mkE M (12 * k + i) 6 ((if 6 ≤ p1 then ((if 4 < (f_J6_bitCount_0f7a4 (p0 &&& ((M (40 + k) 11) ^^^ (-1)))) then 4 else (f_J6_bitCount_0f7a4 (p0 &&& ((M (40 + k) 11) ^^^ (-1))))) : Int32) else 0) : Int32) 0 0 0 ((if 3 ≤ ((M (40 + k) 8) - (M (40 + k) 9)) then 0 else 1) : Int32)) (52 + k) i 1) (40 + k) 8 (nI (i + 1))) (40 + k) 11 (((mkE M (12 * k + i) 6 ((if 6 ≤ p1 then ((if 4 < (f_J6_bitCount_0f7a4 (p0 &&& ((M (40 + k) 11) ^^^ (-1)))) then 4 else (f_J6_bitCount_0f7a4 (p0 &&& ((M (40 + k) 11) ^^^ (-1))))) : Int32) else 0) : Int32) 0 0 0 ((if 3 ≤ ((M (40 + k) 8) - (M (40 + k) 9)) then 0 else 1) : Int32)) (40 + k) 11) ||| p0)) (40 + k) 7 (((mkE M (12 * k + i) 6 ((if 6 ≤ p1 then ((if 4 < (f_J6_bitCount_0f7a4 (p0 &&& ((M (40 + k) 11) ^^^ (-1)))) then 4 else (f_J6_bitCount_0f7a4 (p0 &&& ((M (40 + k) 11) ^^^ (-1))))) : Int32) else 0) : Int32) 0 0 0 ((if 3 ≤ ((M (40 + k) 8) - (M (40 + k) 9)) then 0 else 1) : Int32)) (40 + k) 7) + 10)) (40 + k) 4 0) (40 + k) 5 1) (40 + k) 6 1) H := N
        refine W.eq (g2 := F0 m 97 ls []) rfl ?_
        refine lv_iload S.1 S.2.1 dX2_skateSpin_97 (lv_at hl 0 rfl) ?_
        exact ne_wI S hS hr hlk ⟨congrArg (fun z => some (Value.int z)) (Eq.symm (by unfold f_X2_skateSpin; first | (rw [if_neg c68_7]; done) | (simp only [if_neg c68_7]; done) | rfl)), (by unfold g_X2_skateSpin; first | (rw [if_neg c68_7]; exact N) | (simp only [if_neg c68_7]; exact N) | exact N)⟩ dX2_skateSpin_99
    · refine lv_icmp_ge (tgt := 43) S.1 S.2.1 dX2_skateSpin_36 (by decide) (fun c36_8 => ?_) (fun c36_8 => ?_)
      · refine lv_iconst (v := 0) S.1 S.2.1 dX2_skateSpin_43 (by decide) ?_
        exact j36_5 _ _ (by first | (rw [if_pos c36_8]; done) | (simp only [if_pos c36_8]; done) | rfl) (lv_sub hl [0, 1, 2, 3] rfl)
      · refine lv_iconst (v := 1) S.1 S.2.1 dX2_skateSpin_39 (by decide) ?_
        refine lv_goto (tgt := 44) S.1 S.2.1 dX2_skateSpin_40 (by decide) ?_
        exact j36_5 _ _ (by first | (rw [if_neg c36_8]; done) | (simp only [if_neg c36_8]; done) | rfl) (lv_sub hl [0, 1, 2, 3] rfl)
  · refine lv_icmp_ge (tgt := 10) S.1 S.2.1 dX2_skateSpin_3 (by decide) (fun c3_9 => ?_) (fun c3_9 => ?_)
    · refine lv_iload_n S.1 S.2.1 dX2_skateSpin_10 rfl (lv_at hl 1 rfl) ?_
      refine lv_aload_n S.1 S.2.1 dX2_skateSpin_11 rfl (lv_at hl 0 rfl) ?_
      refine kr_get S K N (40 + k) (by unfold crole; omega) (d_k.1) (sh_P (by omega)) (C0 := RX2) (T := TX2) (n := 12) rfl iWX2 11 (by decide) k1_185 rfl (v := .int (M (40 + k) 11)) rfl dX2_skateSpin_12 ?_
      refine lv_iconst (v := (-1)) S.1 S.2.1 dX2_skateSpin_15 (by decide) ?_
      refine lv_ixor S.1 S.2.1 dX2_skateSpin_16 ?_
      refine lv_iand S.1 S.2.1 dX2_skateSpin_17 ?_
      refine nc_rS S K hS (As := [.int (p0 &&& ((M (40 + k) 11) ^^^ (-1)))]) (m_J6_bitCount_0f7a4 l (p0 &&& ((M (40 + k) 11) ^^^ (-1)))) k3_69 k3_70 k1_13 k3_71 (num := 1) (by decide +kernel) rfl ⟨Nat.le_of_ble_eq_true rfl, Nat.le_of_ble_eq_true rfl⟩ hl.1 rfl (Nat.le_of_ble_eq_true rfl) dX2_skateSpin_18 ⟨Nat.le_of_ble_eq_true rfl, Nat.le_of_ble_eq_true rfl⟩ ?_
      refine lv_iconst (v := 4) S.1 S.2.1 dX2_skateSpin_21 (by decide) ?_
      refine va_mmin S.1 S.2.1 (S.2.2.1.trans hl.1.symm) S.2.2.2.1 (S.2.2.2.2 _ k3_75) (S.2.2.2.2 _ k2_43) (S.2.2.2.2 _ k1_12) (S.2.2.2.2 _ k2_44) (Nat.le_of_ble_eq_true rfl) (Nat.le_of_ble_eq_true rfl) (Nat.le_of_ble_eq_true rfl) (Nat.le_of_ble_eq_true rfl) dX2_skateSpin_22 ?_
      exact j3_2 _ _ (by first | (rw [if_pos c3_9]; done) | (simp only [if_pos c3_9]; done) | rfl) (lv_sub hl [0, 1, 2] rfl)
    · refine lv_iconst (v := 0) S.1 S.2.1 dX2_skateSpin_6 (by decide) ?_
      refine lv_goto (tgt := 25) S.1 S.2.1 dX2_skateSpin_7 (by decide) ?_
      exact j3_2 _ _ (by first | (rw [if_neg c3_9]; done) | (simp only [if_neg c3_9]; done) | rfl) (lv_sub hl [0, 1, 2] rfl)
