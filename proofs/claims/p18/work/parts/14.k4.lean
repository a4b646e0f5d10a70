theorem vw_zero {p : Program} {l : Launch} {e : Env} {R : Room} {s : State} {m : MethodId} {args : Array Value} {below : List Frame} {meth : Method} {c : Code} {H : Heap} {locs : List Loc} {cells slots k n : Nat} {Q : State → Prop} {g : JFrame} (h1 : cells ≤ k) (h2 : slots ≤ n) (kk : W p l e R s m args below meth c H locs k n Q g) : W p l e R s m args below meth c H locs cells slots Q g := fun T hT X => kk T hT (stand_widen X h1 h2)
/-- the exceptions by number -/
def xn (k : Nat) : String := if k = 1 then "java/lang/IndexOutOfBoundsException" else if k = 2 then "java/lang/IllegalArgumentException" else "java/lang/IllegalStateException"
theorem vi_ne {x : Int32} {n : Nat} (h : vp_in x n) : ¬ x = (-1) := by
  intro q
  subst q
  exact h (Or.inl (by decide))
theorem tb_ne {x k : Int32} (h : ¬ x = k) : x.toInt ≠ k.toInt := fun q => h (Int32.toInt_inj.mp q)

def t_X4_begin (M : Nat → Nat → Int32) (p0 : Int32) : Nat :=
  if (f_X4_programmeOf M p0) = 0 then 1
  else if (M 0 5) = (-1) then (if (M (40 + (p0.toNatClampNeg)) 2) = 0 then 0
    else 3)
  else 3
def g_X4_begin (M : Nat → Nat → Int32) (p0 : Int32) : Nat → Nat → Int32 :=
  if (f_X4_programmeOf M p0) = 0 then M
  else if (M 0 5) = (-1) then (if (M (40 + (p0.toNatClampNeg)) 2) = 0 then (up2 (up2 M (40 + (p0.toNatClampNeg)) 2 1) 0 5 p0)
    else M)
  else M
set_option maxHeartbeats 4000000 in
set_option maxRecDepth 100000 in
theorem m_X4_begin {D : va_G} {cA : Nat → ClassId} {B : Nat} (l : Launch) {dom : Nat → Prop} {ad : Nat → Nat} {X : Nat → va_E} {H0 : Heap} (M : Nat → Nat → Int32) (p0 : Int32) (N : kw D cA B dom ad X M H0) (d_K : dK dom M) (hls : l.stackTraces = false) (hgo : ¬ M 0 5 = (-1) → (M 0 5).toNatClampNeg < 12 ∧ ¬ M 1 (M 0 5).toNatClampNeg = 0) : MetX D cA B l yX4_begin cX4_begin 3 none 6 82 1 6 [.ref (ad 0), .int p0] H0 (fun o h => o = none ∧ kw D cA B dom ad X (g_X4_begin M p0) h ∧ t_X4_begin M p0 = 0) (fun E h => E = xn (t_X4_begin M p0) ∧ ¬ t_X4_begin M p0 = 0 ∧ kw D cA B dom ad X M h) := by
  refine MetX.of (by decide) (Nat.le_of_ble_eq_true rfl) ?_
  intro p e s m args below meth c S hr hlk htab hh K ls hl
  subst hh
  have hS : va_S (fun q => B ≤ q) s.heap s.heap [] := va_S.rf
  have hl : lv_has ls 3 [(0, .ref (ad 0)), (1, .int p0)] := hl
  refine lv_aload_n S.1 S.2.1 dX4_begin_0 rfl (lv_at hl 0 rfl) ?_
  refine lv_iload_n S.1 S.2.1 dX4_begin_1 rfl (lv_at hl 1 rfl) ?_
  refine kc_rV S K N hS 0 (by unfold crole; omega) (d_K.1 0 (by decide)) (sh_K) (T := TX4) (n := 6) rfl (As := [.int p0]) (m_X4_programmeOf l M p0 N d_K) k1_215 k1_217 kS_1 k1_1 k1_218 (num := 1) (by decide +kernel) rfl ⟨Nat.le_of_ble_eq_true rfl, Nat.le_of_ble_eq_true rfl⟩ hl.1 rfl (Nat.le_of_ble_eq_true rfl) dX4_begin_2 ⟨Nat.le_of_ble_eq_true rfl, Nat.le_of_ble_eq_true rfl⟩ ?_
  by_cases cn2_1 : (f_X4_programmeOf M p0) = 0
  · refine nt_a (v2 := .null) (rq_z cn2_1) ?_
    refine lv_astore_nN (lv' := [(2, .null), (0, .ref (ad 0)), (1, .int p0)]) S.1 S.2.1 dX4_begin_5 rfl hl (by decide) rfl (fun ls hl => ?_)
    refine lv_aload_nN S.1 S.2.1 dX4_begin_6 rfl (lv_at hl 0 rfl) ?_
    refine lv_ifnonnullN S.1 S.2.1 dX4_begin_7 ?_
    refine nx_throw (text := "no such skater") xw_iob xg_iob (by decide) S hls K hS htab hlk hl.1 k1_219 k1_9 (by decide) dX4_begin_10 dX4_begin_13 dX4_begin_14 dX4_begin_16 dX4_begin_19 ⟨Nat.le_of_ble_eq_true rfl, Nat.le_of_ble_eq_true rfl, Nat.le_of_ble_eq_true rfl, Nat.le_of_ble_eq_true rfl⟩ (Nat.le_of_ble_eq_true rfl) (Nat.le_of_ble_eq_true rfl) (fun H1 hq => ?_)
    have e9 : t_X4_begin M p0 = 1 := by unfold t_X4_begin; first | (rw [if_pos cn2_1]; done) | (simp only [if_pos cn2_1]; done) | rfl
    exact ⟨by rw [e9]; rfl, by rw [e9]; decide, kw_kept N hq⟩
  · have hb_cn2_1 := (at_X4_programmeOf cn2_1).1
    refine nt_a (v2 := .ref (ad (40 + (p0.toNatClampNeg)))) (rq_s cn2_1) ?_
    refine lv_astore_n (lv' := [(2, .ref (ad (40 + (p0.toNatClampNeg)))), (0, .ref (ad 0)), (1, .int p0)]) S.1 S.2.1 dX4_begin_5 rfl hl (by decide) rfl (fun ls hl => ?_)
    refine lv_aload_n S.1 S.2.1 dX4_begin_6 rfl (lv_at hl 0 rfl) ?_
    refine lv_ifnonnull (tgt := 20) S.1 S.2.1 dX4_begin_7 (by decide) ?_
    refine lv_aload_n S.1 S.2.1 dX4_begin_20 rfl (lv_at hl 1 rfl) ?_
    by_cases cn21_2 : (M 0 5) = (-1)
    · refine kr_get S K N 0 (by unfold crole; omega) (d_K.1 0 (by decide)) (sh_K) (C0 := RX4) (T := TX4) (n := 6) rfl iWX4 5 (by decide) k1_50 rfl (v := .null) (congrArg some (gv_z cn21_2)) dX4_begin_21 ?_
      refine lv_ifnonnullN S.1 S.2.1 dX4_begin_24 ?_
      refine lv_aload_n S.1 S.2.1 dX4_begin_27 rfl (lv_at hl 0 rfl) ?_
      refine kr_getN S K N (40 + (p0.toNatClampNeg)) (by unfold crole; omega) ((d_K.2.2 _ (at_X4_programmeOf cn2_1).1 (at_X4_programmeOf cn2_1).2.1).1) (sh_P (by omega)) (C0 := RX2) (T := TX2) (n := 12) rfl iWX2 2 (by decide) (by decide) rfl (v := .int (M (40 + (p0.toNatClampNeg)) 2)) rfl dX4_begin_28 ?_
      refine lv_if_eq (tgt := 44) S.1 S.2.1 dX4_begin_31 (by decide) (fun c31_3 => ?_) (fun c31_3 => ?_)
      · refine lv_aload_n S.1 S.2.1 dX4_begin_44 rfl (lv_at hl 0 rfl) ?_
        refine lv_iconst (v := 1) S.1 S.2.1 dX4_begin_45 (by decide) ?_
        refine kr_putN S K N hS (40 + (p0.toNatClampNeg)) (by unfold crole; omega) ((d_K.2.2 _ (at_X4_programmeOf cn2_1).1 (at_X4_programmeOf cn2_1).2.1).1) (sh_P (by omega)) (C0 := RX2) (T := TX2) (n := 12) rfl iWX2 tyX2 tyX2_ok nmX2 2 (by decide) (by decide) rfl rfl 1 (by rw [sh_P (by omega), fsP_set _ _ _ _ _ (by decide)]) (by first | exact congrArg Value.int zb_1 | rfl) rfl (show 2 < 12 by decide) dX4_begin_46 (fun H locs N hS => ?_)
        refine lv_aload_n S.1 S.2.1 dX4_begin_49 rfl (lv_at hl 1 rfl) ?_
        refine lv_aload_n S.1 S.2.1 dX4_begin_50 rfl (lv_at hl 0 rfl) ?_
        refine kr_put S K N hS 0 (by unfold crole; omega) (d_K.1 0 (by decide)) (sh_K) (C0 := RX4) (T := TX4) (n := 6) rfl iWX4 tyX4 tyX4_ok nmX4 5 (by decide) k1_50 rfl rfl p0 (by rw [sh_K, fsK_set5, gv_s (vi_ne (at_X4_programmeOf cn2_1).2.2)]) (rfl) rfl (show 5 < 6 by decide) dX4_begin_51 (fun H locs N hS => ?_)
        exact vx_ret (vw_zero (Nat.zero_le _) (Nat.zero_le _) (ne_wV S hS hr hlk ⟨rfl, (by unfold g_X4_begin; first | (rw [if_neg cn2_1, if_pos cn21_2, if_pos c31_3]; exact N) | (simp only [if_neg cn2_1, if_pos cn21_2, if_pos c31_3]; exact N) | exact N), by unfold t_X4_begin; first | (rw [if_neg cn2_1, if_pos cn21_2, if_pos c31_3]; done) | (simp only [if_neg cn2_1, if_pos cn21_2, if_pos c31_3]; done) | rfl⟩ dX4_begin_54))
      · refine nx_throw (text := "it began, or another one goes on") xw_ise xg_ise (by decide) S hls K hS htab hlk hl.1 k1_68 k1_6 (by decide) dX4_begin_34 dX4_begin_37 dX4_begin_38 dX4_begin_40 dX4_begin_43 ⟨Nat.le_of_ble_eq_true rfl, Nat.le_of_ble_eq_true rfl, Nat.le_of_ble_eq_true rfl, Nat.le_of_ble_eq_true rfl⟩ (Nat.le_of_ble_eq_true rfl) (Nat.le_of_ble_eq_true rfl) (fun H1 hq => ?_)
        have e9 : t_X4_begin M p0 = 3 := by unfold t_X4_begin; first | (rw [if_neg cn2_1, if_pos cn21_2, if_neg c31_3]; done) | (simp only [if_neg cn2_1, if_pos cn21_2, if_neg c31_3]; done) | rfl
        exact ⟨by rw [e9]; rfl, by rw [e9]; decide, kw_kept N hq⟩
    · have hb_cn21_2 := (hgo cn21_2).1
      refine kr_get S K N 0 (by unfold crole; omega) (d_K.1 0 (by decide)) (sh_K) (C0 := RX4) (T := TX4) (n := 6) rfl iWX4 5 (by decide) k1_50 rfl (v := .ref (ad (40 + ((M 0 5).toNatClampNeg)))) (congrArg some (gv_s cn21_2)) dX4_begin_21 ?_
      refine lv_ifnonnull (tgt := 34) S.1 S.2.1 dX4_begin_24 (by decide) ?_
      refine nx_throw (text := "it began, or another one goes on") xw_ise xg_ise (by decide) S hls K hS htab hlk hl.1 k1_68 k1_6 (by decide) dX4_begin_34 dX4_begin_37 dX4_begin_38 dX4_begin_40 dX4_begin_43 ⟨Nat.le_of_ble_eq_true rfl, Nat.le_of_ble_eq_true rfl, Nat.le_of_ble_eq_true rfl, Nat.le_of_ble_eq_true rfl⟩ (Nat.le_of_ble_eq_true rfl) (Nat.le_of_ble_eq_true rfl) (fun H1 hq => ?_)
      have e9 : t_X4_begin M p0 = 3 := by unfold t_X4_begin; first | (rw [if_neg cn2_1, if_neg cn21_2]; done) | (simp only [if_neg cn2_1, if_neg cn21_2]; done) | rfl
      exact ⟨by rw [e9]; rfl, by rw [e9]; decide, kw_kept N hq⟩

def f_X4_turn (M : Nat → Nat → Int32) (p0 : Int32) : Int32 :=
  if (f_X4_isIn p0 0 5) = 0 then 0
  else if (M 0 5) = (-1) then 0
  else if (f_X2_hasTime M ((M 0 5).toNatClampNeg)) = 0 then 0
  else (f_X2_skateTurn M ((M 0 5).toNatClampNeg) p0)
def t_X4_turn (M : Nat → Nat → Int32) (p0 : Int32) : Nat :=
  if (f_X4_isIn p0 0 5) = 0 then 2
  else if (M 0 5) = (-1) then 3
  else if (f_X2_hasTime M ((M 0 5).toNatClampNeg)) = 0 then 3
  else 0
def g_X4_turn (M : Nat → Nat → Int32) (p0 : Int32) : Nat → Nat → Int32 :=
  if (f_X4_isIn p0 0 5) = 0 then M
  else if (M 0 5) = (-1) then M
  else if (f_X2_hasTime M ((M 0 5).toNatClampNeg)) = 0 then M
  else (g_X2_skateTurn M ((M 0 5).toNatClampNeg) p0)
set_option maxHeartbeats 4000000 in
set_option maxRecDepth 100000 in
theorem m_X4_turn {D : va_G} {cA : Nat → ClassId} {B : Nat} (l : Launch) {dom : Nat → Prop} {ad : Nat → Nat} {X : Nat → va_E} {H0 : Heap} (M : Nat → Nat → Int32) (p0 : Int32) (N : kw D cA B dom ad X M H0) (d_K : dK dom M) (hls : l.stackTraces = false) (hgo : ¬ M 0 5 = (-1) → (M 0 5).toNatClampNeg < 12 ∧ ¬ M 1 (M 0 5).toNatClampNeg = 0) : MetX D cA B l yX4_turn cX4_turn 2 (some .int) 6 82 1 6 [.ref (ad 0), .int p0] H0 (fun o h => o = some (.int (f_X4_turn M p0)) ∧ kw D cA B dom ad X (g_X4_turn M p0) h ∧ t_X4_turn M p0 = 0) (fun E h => E = xn (t_X4_turn M p0) ∧ ¬ t_X4_turn M p0 = 0 ∧ kw D cA B dom ad X M h) := by
  refine MetX.of (by decide) (Nat.le_of_ble_eq_true rfl) ?_
  intro p e s m args below meth c S hr hlk htab hh K ls hl
  subst hh
  have hS : va_S (fun q => B ≤ q) s.heap s.heap [] := va_S.rf
  have hl : lv_has ls 2 [(0, .ref (ad 0)), (1, .int p0)] := hl
  refine lv_iload_n S.1 S.2.1 dX4_turn_0 rfl (lv_at hl 1 rfl) ?_
  refine lv_iconst (v := 0) S.1 S.2.1 dX4_turn_1 (by decide) ?_
  refine lv_iconst (v := 5) S.1 S.2.1 dX4_turn_2 (by decide) ?_
  refine nc_rS S K hS (As := [.int p0, .int 0, .int 5]) (m_X4_isIn l p0 0 5) k2_9 k2_10 k1_1 k2_11 (num := 3) (by decide +kernel) rfl ⟨Nat.le_of_ble_eq_true rfl, Nat.le_of_ble_eq_true rfl⟩ hl.1 rfl (Nat.le_of_ble_eq_true rfl) dX4_turn_3 ⟨Nat.le_of_ble_eq_true rfl, Nat.le_of_ble_eq_true rfl⟩ ?_
  refine lv_if_ne (tgt := 19) S.1 S.2.1 dX4_turn_6 (by decide) (fun c6_1 => ?_) (fun c6_1 => ?_)
  · refine lv_aload_n S.1 S.2.1 dX4_turn_19 rfl (lv_at hl 0 rfl) ?_
    by_cases cn20_2 : (M 0 5) = (-1)
    · refine kr_get S K N 0 (by unfold crole; omega) (d_K.1 0 (by decide)) (sh_K) (C0 := RX4) (T := TX4) (n := 6) rfl iWX4 5 (by decide) k1_50 rfl (v := .null) (congrArg some (gv_z cn20_2)) dX4_turn_20 ?_
      refine lv_ifnullN (tgt := 36) S.1 S.2.1 dX4_turn_23 (by decide) ?_
      refine nx_throw (text := "no programme goes on, or its time is over") xw_ise xg_ise (by decide) S hls K hS htab hlk hl.1 k1_68 k1_6 (by decide) dX4_turn_36 dX4_turn_39 dX4_turn_40 dX4_turn_42 dX4_turn_45 ⟨Nat.le_of_ble_eq_true rfl, Nat.le_of_ble_eq_true rfl, Nat.le_of_ble_eq_true rfl, Nat.le_of_ble_eq_true rfl⟩ (Nat.le_of_ble_eq_true rfl) (Nat.le_of_ble_eq_true rfl) (fun H1 hq => ?_)
      have e9 : t_X4_turn M p0 = 3 := by unfold t_X4_turn; first | (rw [if_neg c6_1, if_pos cn20_2]; done) | (simp only [if_neg c6_1, if_pos cn20_2]; done) | rfl
      exact ⟨by rw [e9]; rfl, by rw [e9]; decide, kw_kept N hq⟩
    · have hb_cn20_2 := (hgo cn20_2).1
      refine kr_get S K N 0 (by unfold crole; omega) (d_K.1 0 (by decide)) (sh_K) (C0 := RX4) (T := TX4) (n := 6) rfl iWX4 5 (by decide) k1_50 rfl (v := .ref (ad (40 + ((M 0 5).toNatClampNeg)))) (congrArg some (gv_s cn20_2)) dX4_turn_20 ?_
      refine lv_ifnull S.1 S.2.1 dX4_turn_23 ?_
      refine lv_aload_n S.1 S.2.1 dX4_turn_26 rfl (lv_at hl 0 rfl) ?_
      refine kr_get S K N 0 (by unfold crole; omega) (d_K.1 0 (by decide)) (sh_K) (C0 := RX4) (T := TX4) (n := 6) rfl iWX4 5 (by decide) k1_50 rfl (v := .ref (ad (40 + ((M 0 5).toNatClampNeg)))) (congrArg some (gv_s cn20_2)) dX4_turn_27 ?_
      refine kc_rV S K N hS (40 + ((M 0 5).toNatClampNeg)) (by unfold crole; omega) ((d_K.2.2 _ (hgo cn20_2).1 (hgo cn20_2).2).1) (sh_P (by omega)) (T := TX2) (n := 12) rfl (As := []) (m_X2_hasTime l M ((M 0 5).toNatClampNeg) N (by omega) (d_K.2.2 _ (hgo cn20_2).1 (hgo cn20_2).2)) k2_207 k2_208 k2_209 k1_7 k2_210 (num := 0) (by decide +kernel) rfl ⟨Nat.le_of_ble_eq_true rfl, Nat.le_of_ble_eq_true rfl⟩ hl.1 rfl (Nat.le_of_ble_eq_true rfl) dX4_turn_30 ⟨Nat.le_of_ble_eq_true rfl, Nat.le_of_ble_eq_true rfl⟩ ?_
      refine lv_if_ne (tgt := 46) S.1 S.2.1 dX4_turn_33 (by decide) (fun c33_3 => ?_) (fun c33_3 => ?_)
      · refine lv_aload_n S.1 S.2.1 dX4_turn_46 rfl (lv_at hl 0 rfl) ?_
        refine kr_get S K N 0 (by unfold crole; omega) (d_K.1 0 (by decide)) (sh_K) (C0 := RX4) (T := TX4) (n := 6) rfl iWX4 5 (by decide) k1_50 rfl (v := .ref (ad (40 + ((M 0 5).toNatClampNeg)))) (congrArg some (gv_s cn20_2)) dX4_turn_47 ?_
        refine lv_iload_n S.1 S.2.1 dX4_turn_50 rfl (lv_at hl 1 rfl) ?_
        refine kc_wV S K N hS (40 + ((M 0 5).toNatClampNeg)) (by unfold crole; omega) ((d_K.2.2 _ (hgo cn20_2).1 (hgo cn20_2).2).1) (sh_P (by omega)) (T := TX2) (n := 12) rfl (As := [.int p0]) (m_X2_skateTurn l M ((M 0 5).toNatClampNeg) p0 N (by omega) (d_K.2.2 _ (hgo cn20_2).1 (hgo cn20_2).2)) k2_212 k2_213 k2_214 k1_7 k2_215 (num := 1) (by decide +kernel) rfl ⟨Nat.le_of_ble_eq_true rfl, Nat.le_of_ble_eq_true rfl⟩ hl.1 rfl (Nat.le_of_ble_eq_true rfl) dX4_turn_51 ⟨Nat.le_of_ble_eq_true rfl, Nat.le_of_ble_eq_true rfl⟩ (fun v9 H locs hP hS => ?_)
        obtain ⟨rfl, N⟩ := hP
        refine W.eq (g2 := F0 m 54 ls [.int (f_X2_skateTurn M ((M 0 5).toNatClampNeg) p0)]) rfl ?_
        exact vx_ret (vw_zero (Nat.zero_le _) (Nat.zero_le _) (ne_wI S hS hr hlk ⟨congrArg (fun z => some (Value.int z)) (Eq.symm (by unfold f_X4_turn; first | (rw [if_neg c6_1, if_neg cn20_2, if_neg c33_3]; done) | (simp only [if_neg c6_1, if_neg cn20_2, if_neg c33_3]; done) | rfl)), (by unfold g_X4_turn; first | (rw [if_neg c6_1, if_neg cn20_2, if_neg c33_3]; exact N) | (simp only [if_neg c6_1, if_neg cn20_2, if_neg c33_3]; exact N) | exact N), by unfold t_X4_turn; first | (rw [if_neg c6_1, if_neg cn20_2, if_neg c33_3]; done) | (simp only [if_neg c6_1, if_neg cn20_2, if_neg c33_3]; done) | rfl⟩ dX4_turn_54))
      · refine nx_throw (text := "no programme goes on, or its time is over") xw_ise xg_ise (by decide) S hls K hS htab hlk hl.1 k1_68 k1_6 (by decide) dX4_turn_36 dX4_turn_39 dX4_turn_40 dX4_turn_42 dX4_turn_45 ⟨Nat.le_of_ble_eq_true rfl, Nat.le_of_ble_eq_true rfl, Nat.le_of_ble_eq_true rfl, Nat.le_of_ble_eq_true rfl⟩ (Nat.le_of_ble_eq_true rfl) (Nat.le_of_ble_eq_true rfl) (fun H1 hq => ?_)
        have e9 : t_X4_turn M p0 = 3 := by unfold t_X4_turn; first | (rw [if_neg c6_1, if_neg cn20_2, if_pos c33_3]; done) | (simp only [if_neg c6_1, if_neg cn20_2, if_pos c33_3]; done) | rfl
        exact ⟨by rw [e9]; rfl, by rw [e9]; decide, kw_kept N hq⟩
  · refine nx_throw (text := "no such turn") xw_iae xg_iae (by decide) S hls K hS htab hlk hl.1 k2_13 k1_10 (by decide) dX4_turn_9 dX4_turn_12 dX4_turn_13 dX4_turn_15 dX4_turn_18 ⟨Nat.le_of_ble_eq_true rfl, Nat.le_of_ble_eq_true rfl, Nat.le_of_ble_eq_true rfl, Nat.le_of_ble_eq_true rfl⟩ (Nat.le_of_ble_eq_true rfl) (Nat.le_of_ble_eq_true rfl) (fun H1 hq => ?_)
    have e9 : t_X4_turn M p0 = 2 := by unfold t_X4_turn; first | (rw [if_pos c6_1]; done) | (simp only [if_pos c6_1]; done) | rfl
    exact ⟨by rw [e9]; rfl, by rw [e9]; decide, kw_kept N hq⟩

def f_X4_end (M : Nat → Nat → Int32) : Int32 :=
  if (M 0 5) = (-1) then 0
  else (M (40 + ((M 0 5).toNatClampNeg)) 8)
def t_X4_end (M : Nat → Nat → Int32) : Nat :=
  if (M 0 5) = (-1) then 3
  else 0
def g_X4_end (M : Nat → Nat → Int32) : Nat → Nat → Int32 :=
  if (M 0 5) = (-1) then M
  else (up2 (up2 M (40 + ((M 0 5).toNatClampNeg)) 3 1) 0 5 (-1))
set_option maxHeartbeats 4000000 in
set_option maxRecDepth 100000 in
theorem m_X4_end {D : va_G} {cA : Nat → ClassId} {B : Nat} (l : Launch) {dom : Nat → Prop} {ad : Nat → Nat} {X : Nat → va_E} {H0 : Heap} (M : Nat → Nat → Int32) (N : kw D cA B dom ad X M H0) (d_K : dK dom M) (hls : l.stackTraces = false) (hgo : ¬ M 0 5 = (-1) → (M 0 5).toNatClampNeg < 12 ∧ ¬ M 1 (M 0 5).toNatClampNeg = 0) : MetX D cA B l yX4_end cX4_end 2 (some .int) 6 82 1 6 [.ref (ad 0)] H0 (fun o h => o = some (.int (f_X4_end M)) ∧ kw D cA B dom ad X (g_X4_end M) h ∧ t_X4_end M = 0) (fun E h => E = xn (t_X4_end M) ∧ ¬ t_X4_end M = 0 ∧ kw D cA B dom ad X M h) := by
  refine MetX.of (by decide) (Nat.le_of_ble_eq_true rfl) ?_
  intro p e s m args below meth c S hr hlk htab hh K ls hl
  subst hh
  have hS : va_S (fun q => B ≤ q) s.heap s.heap [] := va_S.rf
  have hl : lv_has ls 2 [(0, .ref (ad 0))] := hl
  refine lv_aload_n S.1 S.2.1 dX4_end_0 rfl (lv_at hl 0 rfl) ?_
  by_cases cn1_1 : (M 0 5) = (-1)
  · refine kr_get S K N 0 (by unfold crole; omega) (d_K.1 0 (by decide)) (sh_K) (C0 := RX4) (T := TX4) (n := 6) rfl iWX4 5 (by decide) k1_50 rfl (v := .null) (congrArg some (gv_z cn1_1)) dX4_end_1 ?_
    refine lv_ifnonnullN S.1 S.2.1 dX4_end_4 ?_
    refine nx_throw (text := "no programme goes on") xw_ise xg_ise (by decide) S hls K hS htab hlk hl.1 k1_68 k1_6 (by decide) dX4_end_7 dX4_end_10 dX4_end_11 dX4_end_13 dX4_end_16 ⟨Nat.le_of_ble_eq_true rfl, Nat.le_of_ble_eq_true rfl, Nat.le_of_ble_eq_true rfl, Nat.le_of_ble_eq_true rfl⟩ (Nat.le_of_ble_eq_true rfl) (Nat.le_of_ble_eq_true rfl) (fun H1 hq => ?_)
    have e9 : t_X4_end M = 3 := by unfold t_X4_end; first | (rw [if_pos cn1_1]; done) | (simp only [if_pos cn1_1]; done) | rfl
    exact ⟨by rw [e9]; rfl, by rw [e9]; decide, kw_kept N hq⟩
  · have hb_cn1_1 := (hgo cn1_1).1
    refine kr_get S K N 0 (by unfold crole; omega) (d_K.1 0 (by decide)) (sh_K) (C0 := RX4) (T := TX4) (n := 6) rfl iWX4 5 (by decide) k1_50 rfl (v := .ref (ad (40 + ((M 0 5).toNatClampNeg)))) (congrArg some (gv_s cn1_1)) dX4_end_1 ?_
    refine lv_ifnonnull (tgt := 17) S.1 S.2.1 dX4_end_4 (by decide) ?_
    refine lv_aload_n S.1 S.2.1 dX4_end_17 rfl (lv_at hl 0 rfl) ?_
    refine kr_get S K N 0 (by unfold crole; omega) (d_K.1 0 (by decide)) (sh_K) (C0 := RX4) (T := TX4) (n := 6) rfl iWX4 5 (by decide) k1_50 rfl (v := .ref (ad (40 + ((M 0 5).toNatClampNeg)))) (congrArg some (gv_s cn1_1)) dX4_end_18 ?_
    refine lv_astore_n (lv' := [(1, .ref (ad (40 + ((M 0 5).toNatClampNeg)))), (0, .ref (ad 0))]) S.1 S.2.1 dX4_end_21 rfl hl (by decide) rfl (fun ls hl => ?_)
    refine lv_aload_n S.1 S.2.1 dX4_end_22 rfl (lv_at hl 0 rfl) ?_
    refine lv_iconst (v := 1) S.1 S.2.1 dX4_end_23 (by decide) ?_
    refine kr_putN S K N hS (40 + ((M 0 5).toNatClampNeg)) (by unfold crole; omega) ((d_K.2.2 _ (hgo cn1_1).1 (hgo cn1_1).2).1) (sh_P (by omega)) (C0 := RX2) (T := TX2) (n := 12) rfl iWX2 tyX2 tyX2_ok nmX2 3 (by decide) (by decide) rfl rfl 1 (by rw [sh_P (by omega), fsP_set _ _ _ _ _ (by decide)]) (by first | exact congrArg Value.int zb_1 | rfl) rfl (show 3 < 12 by decide) dX4_end_24 (fun H locs N hS => ?_)
    refine lv_aload_n S.1 S.2.1 dX4_end_27 rfl (lv_at hl 1 rfl) ?_
    refine lv_null S.1 S.2.1 dX4_end_28 ?_
    refine kr_put S K N hS 0 (by unfold crole; omega) (d_K.1 0 (by decide)) (sh_K) (C0 := RX4) (T := TX4) (n := 6) rfl iWX4 tyX4 tyX4_ok nmX4 5 (by decide) k1_50 rfl rfl (-1) (by rw [sh_K, fsK_set5]; rfl) (rfl) rfl (show 5 < 6 by decide) dX4_end_29 (fun H locs N hS => ?_)
    refine lv_aload_n S.1 S.2.1 dX4_end_32 rfl (lv_at hl 0 rfl) ?_
    refine kr_getN S K N (40 + ((M 0 5).toNatClampNeg)) (by unfold crole; omega) ((d_K.2.2 _ (hgo cn1_1).1 (hgo cn1_1).2).1) (sh_P (by omega)) (C0 := RX2) (T := TX2) (n := 12) rfl iWX2 8 (by decide) (by decide) rfl (v := .int ((up2 (up2 M (40 + ((M 0 5).toNatClampNeg)) 3 1) 0 5 (-1)) (40 + ((M 0 5).toNatClampNeg)) 8)) rfl dX4_end_33 ?_
    refine nt_i (y := (M (40 + ((M 0 5).toNatClampNeg)) 8)) (by simp [up2]) ?_
    exact vx_ret (vw_zero (Nat.zero_le _) (Nat.zero_le _) (ne_wI S hS hr hlk ⟨congrArg (fun z => some (Value.int z)) (Eq.symm (by unfold f_X4_end; first | (rw [if_neg cn1_1]; done) | (simp only [if_neg cn1_1]; done) | rfl)), (by unfold g_X4_end; first | (rw [if_neg cn1_1]; exact N) | (simp only [if_neg cn1_1]; exact N) | exact N), by unfold t_X4_end; first | (rw [if_neg cn1_1]; done) | (simp only [if_neg cn1_1]; done) | rfl⟩ dX4_end_36))

def f_X4_call (M : Nat → Nat → Int32) (p0 : Int32) (p1 : Int32) (p2 : Int32) : Int32 :=
  if (M 0 5) = (-1) then (if (f_X4_isIn p0 0 2) = 0 then 0
    else if (f_X4_isIn p2 0 4) = 0 then 0
    else 0)
  else if (f_X2_elementAt M ((M 0 5).toNatClampNeg) p1) = 0 then (if (f_X4_isIn p0 0 2) = 0 then 0
    else 0)
  else if (f_X4_isIn p0 0 2) = 0 then 0
  else if (f_X4_isIn p2 0 4) = 0 then 0
  else if (M (80 + (12 * ((M 0 5).toNatClampNeg) + p1.toNatClampNeg)) 0) = 6 then 0
  else (f_X1_quarters (g_X3_tell M (36 + (12 * ((M 0 5).toNatClampNeg) + p1.toNatClampNeg)) p0 p2) (12 * ((M 0 5).toNatClampNeg) + p1.toNatClampNeg))
def t_X4_call (M : Nat → Nat → Int32) (p0 : Int32) (p1 : Int32) (p2 : Int32) : Nat :=
  if (M 0 5) = (-1) then (if (f_X4_isIn p0 0 2) = 0 then 1
    else if (f_X4_isIn p2 0 4) = 0 then 2
    else 3)
  else if (f_X2_elementAt M ((M 0 5).toNatClampNeg) p1) = 0 then (if (f_X4_isIn p0 0 2) = 0 then 1
    else 1)
  else if (f_X4_isIn p0 0 2) = 0 then 1
  else if (f_X4_isIn p2 0 4) = 0 then 2
  else if (M (80 + (12 * ((M 0 5).toNatClampNeg) + p1.toNatClampNeg)) 0) = 6 then 3
  else 0
def g_X4_call (M : Nat → Nat → Int32) (p0 : Int32) (p1 : Int32) (p2 : Int32) : Nat → Nat → Int32 :=
  if (M 0 5) = (-1) then (M)
  else if (f_X2_elementAt M ((M 0 5).toNatClampNeg) p1) = 0 then (M)
  else if (f_X4_isIn p0 0 2) = 0 then M
  else if (f_X4_isIn p2 0 4) = 0 then M
  else if (M (80 + (12 * ((M 0 5).toNatClampNeg) + p1.toNatClampNeg)) 0) = 6 then M
  else (g_X3_tell M (36 + (12 * ((M 0 5).toNatClampNeg) + p1.toNatClampNeg)) p0 p2)
set_option maxHeartbeats 4000000 in
set_option maxRecDepth 100000 in
theorem m_X4_call {D : va_G} {cA : Nat → ClassId} {B : Nat} (l : Launch) {dom : Nat → Prop} {ad : Nat → Nat} {X : Nat → va_E} {H0 : Heap} (M : Nat → Nat → Int32) (p0 : Int32) (p1 : Int32) (p2 : Int32) (N : kw D cA B dom ad X M H0) (d_K : dK dom M) (hls : l.stackTraces = false) (hgo : ¬ M 0 5 = (-1) → (M 0 5).toNatClampNeg < 12 ∧ ¬ M 1 (M 0 5).toNatClampNeg = 0) : MetX D cA B l yX4_call cX4_call 5 (some .int) 6 82 1 6 [.ref (ad 0), .int p0, .int p1, .int p2] H0 (fun o h => o = some (.int (f_X4_call M p0 p1 p2)) ∧ kw D cA B dom ad X (g_X4_call M p0 p1 p2) h ∧ t_X4_call M p0 p1 p2 = 0) (fun E h => E = xn (t_X4_call M p0 p1 p2) ∧ ¬ t_X4_call M p0 p1 p2 = 0 ∧ kw D cA B dom ad X M h) := by
  refine MetX.of (by decide) (Nat.le_of_ble_eq_true rfl) ?_
  intro p e s m args below meth c S hr hlk htab hh K ls hl
  subst hh
  have hS : va_S (fun q => B ≤ q) s.heap s.heap [] := va_S.rf
  have hl : lv_has ls 5 [(0, .ref (ad 0)), (1, .int p0), (2, .int p1), (3, .int p2)] := hl
  refine lv_aload_n S.1 S.2.1 dX4_call_0 rfl (lv_at hl 0 rfl) ?_
  by_cases cn1_1 : (M 0 5) = (-1)
  · refine kr_get S K N 0 (by unfold crole; omega) (d_K.1 0 (by decide)) (sh_K) (C0 := RX4) (T := TX4) (n := 6) rfl iWX4 5 (by decide) k1_50 rfl (v := .null) (congrArg some (gv_z cn1_1)) dX4_call_1 ?_
    refine lv_ifnonnullN S.1 S.2.1 dX4_call_4 ?_
    refine lv_null S.1 S.2.1 dX4_call_7 ?_
    refine lv_goto (tgt := 19) S.1 S.2.1 dX4_call_8 (by decide) ?_
    refine lv_astoreN (lv' := [(4, .null), (0, .ref (ad 0)), (1, .int p0), (2, .int p1), (3, .int p2)]) S.1 S.2.1 dX4_call_19 hl (by decide) rfl (fun ls hl => ?_)
    refine lv_iload_n S.1 S.2.1 dX4_call_21 rfl (lv_at hl 2 rfl) ?_
    refine lv_iconst (v := 0) S.1 S.2.1 dX4_call_22 (by decide) ?_
    refine lv_iconst (v := 2) S.1 S.2.1 dX4_call_23 (by decide) ?_
    refine nc_rS S K hS (As := [.int p0, .int 0, .int 2]) (m_X4_isIn l p0 0 2) k2_9 k2_10 k1_1 k2_11 (num := 3) (by decide +kernel) rfl ⟨Nat.le_of_ble_eq_true rfl, Nat.le_of_ble_eq_true rfl⟩ hl.1 rfl (Nat.le_of_ble_eq_true rfl) dX4_call_24 ⟨Nat.le_of_ble_eq_true rfl, Nat.le_of_ble_eq_true rfl⟩ ?_
    refine lv_if_eq (tgt := 42) S.1 S.2.1 dX4_call_27 (by decide) (fun c27_2 => ?_) (fun c27_2 => ?_)
    · refine nx_throw (text := "no such caller or element") xw_iob xg_iob (by decide) S hls K hS htab hlk hl.1 k1_219 k1_9 (by decide) dX4_call_42 dX4_call_45 dX4_call_46 dX4_call_48 dX4_call_51 ⟨Nat.le_of_ble_eq_true rfl, Nat.le_of_ble_eq_true rfl, Nat.le_of_ble_eq_true rfl, Nat.le_of_ble_eq_true rfl⟩ (Nat.le_of_ble_eq_true rfl) (Nat.le_of_ble_eq_true rfl) (fun H1 hq => ?_)
      have e9 : t_X4_call M p0 p1 p2 = 1 := by unfold t_X4_call; first | (rw [if_pos cn1_1, if_pos c27_2]; done) | (simp only [if_pos cn1_1, if_pos c27_2]; done) | rfl
      exact ⟨by rw [e9]; rfl, by rw [e9]; decide, kw_kept N hq⟩
    · refine lv_aload_n S.1 S.2.1 dX4_call_30 rfl (lv_at hl 1 rfl) ?_
      refine kr_get S K N 0 (by unfold crole; omega) (d_K.1 0 (by decide)) (sh_K) (C0 := RX4) (T := TX4) (n := 6) rfl iWX4 5 (by decide) k1_50 rfl (v := .null) (congrArg some (gv_z cn1_1)) dX4_call_31 ?_
      refine lv_ifnullN (tgt := 52) S.1 S.2.1 dX4_call_34 (by decide) ?_
      refine lv_iload_n S.1 S.2.1 dX4_call_52 rfl (lv_at hl 4 rfl) ?_
      refine lv_iconst (v := 0) S.1 S.2.1 dX4_call_53 (by decide) ?_
      refine lv_iconst (v := 4) S.1 S.2.1 dX4_call_54 (by decide) ?_
      refine nc_rS S K hS (As := [.int p2, .int 0, .int 4]) (m_X4_isIn l p2 0 4) k2_9 k2_10 k1_1 k2_11 (num := 3) (by decide +kernel) rfl ⟨Nat.le_of_ble_eq_true rfl, Nat.le_of_ble_eq_true rfl⟩ hl.1 rfl (Nat.le_of_ble_eq_true rfl) dX4_call_55 ⟨Nat.le_of_ble_eq_true rfl, Nat.le_of_ble_eq_true rfl⟩ ?_
      refine lv_if_ne (tgt := 71) S.1 S.2.1 dX4_call_58 (by decide) (fun c58_3 => ?_) (fun c58_3 => ?_)
      · refine lv_aloadN S.1 S.2.1 dX4_call_71 (lv_at hl 0 rfl) ?_
        refine lv_ifnullN (tgt := 86) S.1 S.2.1 dX4_call_73 (by decide) ?_
        refine nx_throw (text := "no programme goes on, or the element is a spin") xw_ise xg_ise (by decide) S hls K hS htab hlk hl.1 k1_68 k1_6 (by decide) dX4_call_86 dX4_call_89 dX4_call_90 dX4_call_92 dX4_call_95 ⟨Nat.le_of_ble_eq_true rfl, Nat.le_of_ble_eq_true rfl, Nat.le_of_ble_eq_true rfl, Nat.le_of_ble_eq_true rfl⟩ (Nat.le_of_ble_eq_true rfl) (Nat.le_of_ble_eq_true rfl) (fun H1 hq => ?_)
        have e9 : t_X4_call M p0 p1 p2 = 3 := by unfold t_X4_call; first | (rw [if_pos cn1_1, if_neg c27_2, if_neg c58_3]; done) | (simp only [if_pos cn1_1, if_neg c27_2, if_neg c58_3]; done) | rfl
        exact ⟨by rw [e9]; rfl, by rw [e9]; decide, kw_kept N hq⟩
      · refine nx_throw (text := "no such quarters") xw_iae xg_iae (by decide) S hls K hS htab hlk hl.1 k2_13 k1_10 (by decide) dX4_call_61 dX4_call_64 dX4_call_65 dX4_call_67 dX4_call_70 ⟨Nat.le_of_ble_eq_true rfl, Nat.le_of_ble_eq_true rfl, Nat.le_of_ble_eq_true rfl, Nat.le_of_ble_eq_true rfl⟩ (Nat.le_of_ble_eq_true rfl) (Nat.le_of_ble_eq_true rfl) (fun H1 hq => ?_)
        have e9 : t_X4_call M p0 p1 p2 = 2 := by unfold t_X4_call; first | (rw [if_pos cn1_1, if_neg c27_2, if_pos c58_3]; done) | (simp only [if_pos cn1_1, if_neg c27_2, if_pos c58_3]; done) | rfl
        exact ⟨by rw [e9]; rfl, by rw [e9]; decide, kw_kept N hq⟩
  · have hb_cn1_1 := (hgo cn1_1).1
    refine kr_get S K N 0 (by unfold crole; omega) (d_K.1 0 (by decide)) (sh_K) (C0 := RX4) (T := TX4) (n := 6) rfl iWX4 5 (by decide) k1_50 rfl (v := .ref (ad (40 + ((M 0 5).toNatClampNeg)))) (congrArg some (gv_s cn1_1)) dX4_call_1 ?_
    refine lv_ifnonnull (tgt := 11) S.1 S.2.1 dX4_call_4 (by decide) ?_
    refine lv_aload_n S.1 S.2.1 dX4_call_11 rfl (lv_at hl 0 rfl) ?_
    refine kr_get S K N 0 (by unfold crole; omega) (d_K.1 0 (by decide)) (sh_K) (C0 := RX4) (T := TX4) (n := 6) rfl iWX4 5 (by decide) k1_50 rfl (v := .ref (ad (40 + ((M 0 5).toNatClampNeg)))) (congrArg some (gv_s cn1_1)) dX4_call_12 ?_
    refine lv_iload_n S.1 S.2.1 dX4_call_15 rfl (lv_at hl 2 rfl) ?_
    refine kc_rV S K N hS (40 + ((M 0 5).toNatClampNeg)) (by unfold crole; omega) ((d_K.2.2 _ (hgo cn1_1).1 (hgo cn1_1).2).1) (sh_P (by omega)) (T := TX2) (n := 12) rfl (As := [.int p1]) (m_X2_elementAt l M ((M 0 5).toNatClampNeg) p1 N (by omega) (d_K.2.2 _ (hgo cn1_1).1 (hgo cn1_1).2)) k2_5 k2_6 k2_7 k1_7 k2_8 (num := 1) (by decide +kernel) rfl ⟨Nat.le_of_ble_eq_true rfl, Nat.le_of_ble_eq_true rfl⟩ hl.1 rfl (Nat.le_of_ble_eq_true rfl) dX4_call_16 ⟨Nat.le_of_ble_eq_true rfl, Nat.le_of_ble_eq_true rfl⟩ ?_
    by_cases cn16_4 : (f_X2_elementAt M ((M 0 5).toNatClampNeg) p1) = 0
    · refine nt_a (v2 := .null) (rq_z cn16_4) ?_
      refine lv_astoreN (lv' := [(4, .null), (0, .ref (ad 0)), (1, .int p0), (2, .int p1), (3, .int p2)]) S.1 S.2.1 dX4_call_19 hl (by decide) rfl (fun ls hl => ?_)
      refine lv_iload_n S.1 S.2.1 dX4_call_21 rfl (lv_at hl 2 rfl) ?_
      refine lv_iconst (v := 0) S.1 S.2.1 dX4_call_22 (by decide) ?_
      refine lv_iconst (v := 2) S.1 S.2.1 dX4_call_23 (by decide) ?_
      refine nc_rS S K hS (As := [.int p0, .int 0, .int 2]) (m_X4_isIn l p0 0 2) k2_9 k2_10 k1_1 k2_11 (num := 3) (by decide +kernel) rfl ⟨Nat.le_of_ble_eq_true rfl, Nat.le_of_ble_eq_true rfl⟩ hl.1 rfl (Nat.le_of_ble_eq_true rfl) dX4_call_24 ⟨Nat.le_of_ble_eq_true rfl, Nat.le_of_ble_eq_true rfl⟩ ?_
      refine lv_if_eq (tgt := 42) S.1 S.2.1 dX4_call_27 (by decide) (fun c27_5 => ?_) (fun c27_5 => ?_)
      · refine nx_throw (text := "no such caller or element") xw_iob xg_iob (by decide) S hls K hS htab hlk hl.1 k1_219 k1_9 (by decide) dX4_call_42 dX4_call_45 dX4_call_46 dX4_call_48 dX4_call_51 ⟨Nat.le_of_ble_eq_true rfl, Nat.le_of_ble_eq_true rfl, Nat.le_of_ble_eq_true rfl, Nat.le_of_ble_eq_true rfl⟩ (Nat.le_of_ble_eq_true rfl) (Nat.le_of_ble_eq_true rfl) (fun H1 hq => ?_)
        have e9 : t_X4_call M p0 p1 p2 = 1 := by unfold t_X4_call; first | (rw [if_neg cn1_1, if_pos cn16_4, if_pos c27_5]; done) | (simp only [if_neg cn1_1, if_pos cn16_4, if_pos c27_5]; done) | rfl
        exact ⟨by rw [e9]; rfl, by rw [e9]; decide, kw_kept N hq⟩
      · refine lv_aload_n S.1 S.2.1 dX4_call_30 rfl (lv_at hl 1 rfl) ?_
        refine kr_get S K N 0 (by unfold crole; omega) (d_K.1 0 (by decide)) (sh_K) (C0 := RX4) (T := TX4) (n := 6) rfl iWX4 5 (by decide) k1_50 rfl (v := .ref (ad (40 + ((M 0 5).toNatClampNeg)))) (congrArg some (gv_s cn1_1)) dX4_call_31 ?_
        refine lv_ifnull S.1 S.2.1 dX4_call_34 ?_
        refine lv_aloadN S.1 S.2.1 dX4_call_37 (lv_at hl 0 rfl) ?_
        refine lv_ifnonnullN S.1 S.2.1 dX4_call_39 ?_
        refine nx_throw (text := "no such caller or element") xw_iob xg_iob (by decide) S hls K hS htab hlk hl.1 k1_219 k1_9 (by decide) dX4_call_42 dX4_call_45 dX4_call_46 dX4_call_48 dX4_call_51 ⟨Nat.le_of_ble_eq_true rfl, Nat.le_of_ble_eq_true rfl, Nat.le_of_ble_eq_true rfl, Nat.le_of_ble_eq_true rfl⟩ (Nat.le_of_ble_eq_true rfl) (Nat.le_of_ble_eq_true rfl) (fun H1 hq => ?_)
        have e9 : t_X4_call M p0 p1 p2 = 1 := by unfold t_X4_call; first | (rw [if_neg cn1_1, if_pos cn16_4, if_neg c27_5]; done) | (simp only [if_neg cn1_1, if_pos cn16_4, if_neg c27_5]; done) | rfl
        exact ⟨by rw [e9]; rfl, by rw [e9]; decide, kw_kept N hq⟩
    · have hb_cn16_4 := (at_X2_elementAt cn16_4).1
      refine nt_a (v2 := .ref (ad (80 + (12 * ((M 0 5).toNatClampNeg) + p1.toNatClampNeg)))) (rq_s cn16_4) ?_
      refine lv_astore (lv' := [(4, .ref (ad (80 + (12 * ((M 0 5).toNatClampNeg) + p1.toNatClampNeg)))), (0, .ref (ad 0)), (1, .int p0), (2, .int p1), (3, .int p2)]) S.1 S.2.1 dX4_call_19 hl (by decide) rfl (fun ls hl => ?_)
      refine lv_iload_n S.1 S.2.1 dX4_call_21 rfl (lv_at hl 2 rfl) ?_
      refine lv_iconst (v := 0) S.1 S.2.1 dX4_call_22 (by decide) ?_
      refine lv_iconst (v := 2) S.1 S.2.1 dX4_call_23 (by decide) ?_
      refine nc_rS S K hS (As := [.int p0, .int 0, .int 2]) (m_X4_isIn l p0 0 2) k2_9 k2_10 k1_1 k2_11 (num := 3) (by decide +kernel) rfl ⟨Nat.le_of_ble_eq_true rfl, Nat.le_of_ble_eq_true rfl⟩ hl.1 rfl (Nat.le_of_ble_eq_true rfl) dX4_call_24 ⟨Nat.le_of_ble_eq_true rfl, Nat.le_of_ble_eq_true rfl⟩ ?_
      refine lv_if_eq (tgt := 42) S.1 S.2.1 dX4_call_27 (by decide) (fun c27_6 => ?_) (fun c27_6 => ?_)
      · refine nx_throw (text := "no such caller or element") xw_iob xg_iob (by decide) S hls K hS htab hlk hl.1 k1_219 k1_9 (by decide) dX4_call_42 dX4_call_45 dX4_call_46 dX4_call_48 dX4_call_51 ⟨Nat.le_of_ble_eq_true rfl, Nat.le_of_ble_eq_true rfl, Nat.le_of_ble_eq_true rfl, Nat.le_of_ble_eq_true rfl⟩ (Nat.le_of_ble_eq_true rfl) (Nat.le_of_ble_eq_true rfl) (fun H1 hq => ?_)
        have e9 : t_X4_call M p0 p1 p2 = 1 := by unfold t_X4_call; first | (rw [if_neg cn1_1, if_neg cn16_4, if_pos c27_6]; done) | (simp only [if_neg cn1_1, if_neg cn16_4, if_pos c27_6]; done) | rfl
        exact ⟨by rw [e9]; rfl, by rw [e9]; decide, kw_kept N hq⟩
      · refine lv_aload_n S.1 S.2.1 dX4_call_30 rfl (lv_at hl 1 rfl) ?_
        refine kr_get S K N 0 (by unfold crole; omega) (d_K.1 0 (by decide)) (sh_K) (C0 := RX4) (T := TX4) (n := 6) rfl iWX4 5 (by decide) k1_50 rfl (v := .ref (ad (40 + ((M 0 5).toNatClampNeg)))) (congrArg some (gv_s cn1_1)) dX4_call_31 ?_
        refine lv_ifnull S.1 S.2.1 dX4_call_34 ?_
        refine lv_aload S.1 S.2.1 dX4_call_37 (lv_at hl 0 rfl) ?_
        refine lv_ifnonnull (tgt := 52) S.1 S.2.1 dX4_call_39 (by decide) ?_
        refine lv_iload_n S.1 S.2.1 dX4_call_52 rfl (lv_at hl 4 rfl) ?_
        refine lv_iconst (v := 0) S.1 S.2.1 dX4_call_53 (by decide) ?_
        refine lv_iconst (v := 4) S.1 S.2.1 dX4_call_54 (by decide) ?_
        refine nc_rS S K hS (As := [.int p2, .int 0, .int 4]) (m_X4_isIn l p2 0 4) k2_9 k2_10 k1_1 k2_11 (num := 3) (by decide +kernel) rfl ⟨Nat.le_of_ble_eq_true rfl, Nat.le_of_ble_eq_true rfl⟩ hl.1 rfl (Nat.le_of_ble_eq_true rfl) dX4_call_55 ⟨Nat.le_of_ble_eq_true rfl, Nat.le_of_ble_eq_true rfl⟩ ?_
        refine lv_if_ne (tgt := 71) S.1 S.2.1 dX4_call_58 (by decide) (fun c58_7 => ?_) (fun c58_7 => ?_)
        · refine lv_aload S.1 S.2.1 dX4_call_71 (lv_at hl 0 rfl) ?_
          refine lv_ifnull S.1 S.2.1 dX4_call_73 ?_
          refine lv_aload S.1 S.2.1 dX4_call_76 (lv_at hl 0 rfl) ?_
          refine kr_getN S K N (80 + (12 * ((M 0 5).toNatClampNeg) + p1.toNatClampNeg)) (by unfold crole; omega) (((d_K.2.2 _ (hgo cn1_1).1 (hgo cn1_1).2).2.2.2.2 _ (at_X2_elementAt cn16_4).1 (at_X2_elementAt cn16_4).2.1).1) (sh_L (by omega)) (C0 := RX1) (T := TX1) (n := 8) rfl iWX1 0 (by decide) (by decide) rfl (v := .int (M (80 + (12 * ((M 0 5).toNatClampNeg) + p1.toNatClampNeg)) 0)) rfl dX4_call_78 ?_
          refine lv_bipush (v := 6) S.1 S.2.1 dX4_call_81 (by decide) ?_
          refine lv_icmp_ne (tgt := 96) S.1 S.2.1 dX4_call_83 (by decide) (fun c83_8 => ?_) (fun c83_8 => ?_)
          · refine lv_aload S.1 S.2.1 dX4_call_96 (lv_at hl 0 rfl) ?_
            refine kr_getN S K N (80 + (12 * ((M 0 5).toNatClampNeg) + p1.toNatClampNeg)) (by unfold crole; omega) (((d_K.2.2 _ (hgo cn1_1).1 (hgo cn1_1).2).2.2.2.2 _ (at_X2_elementAt cn16_4).1 (at_X2_elementAt cn16_4).2.1).1) (sh_L (by omega)) (C0 := RX1) (T := TX1) (n := 8) rfl iWX1 6 (by decide) (by decide) rfl (v := .ref (ad (300 + 3 * (36 + (12 * ((M 0 5).toNatClampNeg) + p1.toNatClampNeg))))) rfl dX4_call_98 ?_
            refine lv_iload_n S.1 S.2.1 dX4_call_101 rfl (lv_at hl 2 rfl) ?_
            refine lv_iload_n S.1 S.2.1 dX4_call_102 rfl (lv_at hl 4 rfl) ?_
            refine kc_wV S K N hS (300 + 3 * (36 + (12 * ((M 0 5).toNatClampNeg) + p1.toNatClampNeg))) (by unfold crole; omega) ((((d_K.2.2 _ (hgo cn1_1).1 (hgo cn1_1).2).2.2.2.2 _ (at_X2_elementAt cn16_4).1 (at_X2_elementAt cn16_4).2.1).2.1).1) (sh_V) (T := TX3) (n := 6) rfl (As := [.int p0, .int p2]) (m_X3_tell l M (36 + (12 * ((M 0 5).toNatClampNeg) + p1.toNatClampNeg)) p0 p2 N (by omega) (((d_K.2.2 _ (hgo cn1_1).1 (hgo cn1_1).2).2.2.2.2 _ (at_X2_elementAt cn16_4).1 (at_X2_elementAt cn16_4).2.1).2.1)) k2_30 k2_31 k2_32 k1_8 k2_33 (num := 2) (by decide +kernel) rfl ⟨Nat.le_of_ble_eq_true rfl, Nat.le_of_ble_eq_true rfl⟩ hl.1 rfl (Nat.le_of_ble_eq_true rfl) dX4_call_103 ⟨Nat.le_of_ble_eq_true rfl, Nat.le_of_ble_eq_true rfl⟩ (fun v9 H locs hP hS => ?_)
            obtain ⟨rfl, N⟩ := hP
            refine W.eq (g2 := F0 m 106 ls []) rfl ?_
            refine lv_aload S.1 S.2.1 dX4_call_106 (lv_at hl 0 rfl) ?_
            refine kc_rV S K N hS (80 + (12 * ((M 0 5).toNatClampNeg) + p1.toNatClampNeg)) (by unfold crole; omega) (((d_K.2.2 _ (hgo cn1_1).1 (hgo cn1_1).2).2.2.2.2 _ (at_X2_elementAt cn16_4).1 (at_X2_elementAt cn16_4).2.1).1) (sh_L (by omega)) (T := TX1) (n := 8) rfl (As := []) (m_X1_quarters l (g_X3_tell M (36 + (12 * ((M 0 5).toNatClampNeg) + p1.toNatClampNeg)) p0 p2) (12 * ((M 0 5).toNatClampNeg) + p1.toNatClampNeg) N (by omega) ((d_K.2.2 _ (hgo cn1_1).1 (hgo cn1_1).2).2.2.2.2 _ (at_X2_elementAt cn16_4).1 (at_X2_elementAt cn16_4).2.1)) k2_81 k2_82 k2_83 k1_11 k2_84 (num := 0) (by decide +kernel) rfl ⟨Nat.le_of_ble_eq_true rfl, Nat.le_of_ble_eq_true rfl⟩ hl.1 rfl (Nat.le_of_ble_eq_true rfl) dX4_call_108 ⟨Nat.le_of_ble_eq_true rfl, Nat.le_of_ble_eq_true rfl⟩ ?_
            exact vx_ret (vw_zero (Nat.zero_le _) (Nat.zero_le _) (ne_wI S hS hr hlk ⟨congrArg (fun z => some (Value.int z)) (Eq.symm (by unfold f_X4_call; first | (rw [if_neg cn1_1, if_neg cn16_4, if_neg c27_6, if_neg c58_7, if_neg c83_8]; done) | (simp only [if_neg cn1_1, if_neg cn16_4, if_neg c27_6, if_neg c58_7, if_neg c83_8]; done) | rfl)), (by unfold g_X4_call; first | (rw [if_neg cn1_1, if_neg cn16_4, if_neg c27_6, if_neg c58_7, if_neg c83_8]; exact N) | (simp only [if_neg cn1_1, if_neg cn16_4, if_neg c27_6, if_neg c58_7, if_neg c83_8]; exact N) | exact N), by unfold t_X4_call; first | (rw [if_neg cn1_1, if_neg cn16_4, if_neg c27_6, if_neg c58_7, if_neg c83_8]; done) | (simp only [if_neg cn1_1, if_neg cn16_4, if_neg c27_6, if_neg c58_7, if_neg c83_8]; done) | rfl⟩ dX4_call_111))
          · refine nx_throw (text := "no programme goes on, or the element is a spin") xw_ise xg_ise (by decide) S hls K hS htab hlk hl.1 k1_68 k1_6 (by decide) dX4_call_86 dX4_call_89 dX4_call_90 dX4_call_92 dX4_call_95 ⟨Nat.le_of_ble_eq_true rfl, Nat.le_of_ble_eq_true rfl, Nat.le_of_ble_eq_true rfl, Nat.le_of_ble_eq_true rfl⟩ (Nat.le_of_ble_eq_true rfl) (Nat.le_of_ble_eq_true rfl) (fun H1 hq => ?_)
            have e9 : t_X4_call M p0 p1 p2 = 3 := by unfold t_X4_call; first | (rw [if_neg cn1_1, if_neg cn16_4, if_neg c27_6, if_neg c58_7, if_pos c83_8]; done) | (simp only [if_neg cn1_1, if_neg cn16_4, if_neg c27_6, if_neg c58_7, if_pos c83_8]; done) | rfl
            exact ⟨by rw [e9]; rfl, by rw [e9]; decide, kw_kept N hq⟩
        · refine nx_throw (text := "no such quarters") xw_iae xg_iae (by decide) S hls K hS htab hlk hl.1 k2_13 k1_10 (by decide) dX4_call_61 dX4_call_64 dX4_call_65 dX4_call_67 dX4_call_70 ⟨Nat.le_of_ble_eq_true rfl, Nat.le_of_ble_eq_true rfl, Nat.le_of_ble_eq_true rfl, Nat.le_of_ble_eq_true rfl⟩ (Nat.le_of_ble_eq_true rfl) (Nat.le_of_ble_eq_true rfl) (fun H1 hq => ?_)
          have e9 : t_X4_call M p0 p1 p2 = 2 := by unfold t_X4_call; first | (rw [if_neg cn1_1, if_neg cn16_4, if_neg c27_6, if_pos c58_7]; done) | (simp only [if_neg cn1_1, if_neg cn16_4, if_neg c27_6, if_pos c58_7]; done) | rfl
          exact ⟨by rw [e9]; rfl, by rw [e9]; decide, kw_kept N hq⟩

def t_X4_grade (M : Nat → Nat → Int32) (p0 : Int32) (p1 : Int32) (p2 : Int32) (p3 : Int32) : Nat :=
  if (f_X4_programmeOf M p1) = 0 then (if (f_X4_isIn p0 0 6) = 0 then 1
    else 1)
  else if (f_X2_elementAt M (p1.toNatClampNeg) p2) = 0 then (if (f_X4_isIn p0 0 6) = 0 then 1
    else 1)
  else if (f_X4_isIn p0 0 6) = 0 then 1
  else if (f_X4_isIn p3 (-5) 5) = 0 then 2
  else if (M (40 + (p1.toNatClampNeg)) 3) = 0 then 3
  else 0
def g_X4_grade (M : Nat → Nat → Int32) (p0 : Int32) (p1 : Int32) (p2 : Int32) (p3 : Int32) : Nat → Nat → Int32 :=
  if (f_X4_programmeOf M p1) = 0 then (M)
  else if (f_X2_elementAt M (p1.toNatClampNeg) p2) = 0 then (M)
  else if (f_X4_isIn p0 0 6) = 0 then M
  else if (f_X4_isIn p3 (-5) 5) = 0 then M
  else if (M (40 + (p1.toNatClampNeg)) 3) = 0 then M
  else (g_X3_tell M (180 + (12 * (p1.toNatClampNeg) + p2.toNatClampNeg)) p0 p3)
set_option maxHeartbeats 4000000 in
set_option maxRecDepth 100000 in
theorem m_X4_grade {D : va_G} {cA : Nat → ClassId} {B : Nat} (l : Launch) {dom : Nat → Prop} {ad : Nat → Nat} {X : Nat → va_E} {H0 : Heap} (M : Nat → Nat → Int32) (p0 : Int32) (p1 : Int32) (p2 : Int32) (p3 : Int32) (N : kw D cA B dom ad X M H0) (d_K : dK dom M) (hls : l.stackTraces = false) : MetX D cA B l yX4_grade cX4_grade 7 none 6 82 1 6 [.ref (ad 0), .int p0, .int p1, .int p2, .int p3] H0 (fun o h => o = none ∧ kw D cA B dom ad X (g_X4_grade M p0 p1 p2 p3) h ∧ t_X4_grade M p0 p1 p2 p3 = 0) (fun E h => E = xn (t_X4_grade M p0 p1 p2 p3) ∧ ¬ t_X4_grade M p0 p1 p2 p3 = 0 ∧ kw D cA B dom ad X M h) := by
  refine MetX.of (by decide) (Nat.le_of_ble_eq_true rfl) ?_
  intro p e s m args below meth c S hr hlk htab hh K ls hl
  subst hh
  have hS : va_S (fun q => B ≤ q) s.heap s.heap [] := va_S.rf
  have hl : lv_has ls 7 [(0, .ref (ad 0)), (1, .int p0), (2, .int p1), (3, .int p2), (4, .int p3)] := hl
  refine lv_aload_n S.1 S.2.1 dX4_grade_0 rfl (lv_at hl 0 rfl) ?_
  refine lv_iload_n S.1 S.2.1 dX4_grade_1 rfl (lv_at hl 2 rfl) ?_
  refine kc_rV S K N hS 0 (by unfold crole; omega) (d_K.1 0 (by decide)) (sh_K) (T := TX4) (n := 6) rfl (As := [.int p1]) (m_X4_programmeOf l M p1 N d_K) k1_215 k1_217 kS_1 k1_1 k1_218 (num := 1) (by decide +kernel) rfl ⟨Nat.le_of_ble_eq_true rfl, Nat.le_of_ble_eq_true rfl⟩ hl.1 rfl (Nat.le_of_ble_eq_true rfl) dX4_grade_2 ⟨Nat.le_of_ble_eq_true rfl, Nat.le_of_ble_eq_true rfl⟩ ?_
  by_cases cn2_1 : (f_X4_programmeOf M p1) = 0
  · refine nt_a (v2 := .null) (rq_z cn2_1) ?_
    refine lv_astoreN (lv' := [(5, .null), (0, .ref (ad 0)), (1, .int p0), (2, .int p1), (3, .int p2), (4, .int p3)]) S.1 S.2.1 dX4_grade_5 hl (by decide) rfl (fun ls hl => ?_)
    refine lv_aloadN S.1 S.2.1 dX4_grade_7 (lv_at hl 0 rfl) ?_
    refine lv_ifnonnullN S.1 S.2.1 dX4_grade_9 ?_
    refine lv_null S.1 S.2.1 dX4_grade_12 ?_
    refine lv_goto (tgt := 22) S.1 S.2.1 dX4_grade_13 (by decide) ?_
    refine lv_astoreN (lv' := [(6, .null), (5, .null), (0, .ref (ad 0)), (1, .int p0), (2, .int p1), (3, .int p2), (4, .int p3)]) S.1 S.2.1 dX4_grade_22 hl (by decide) rfl (fun ls hl => ?_)
    refine lv_iload_n S.1 S.2.1 dX4_grade_24 rfl (lv_at hl 3 rfl) ?_
    refine lv_iconst (v := 0) S.1 S.2.1 dX4_grade_25 (by decide) ?_
    refine lv_bipush (v := 6) S.1 S.2.1 dX4_grade_26 (by decide) ?_
    refine nc_rS S K hS (As := [.int p0, .int 0, .int 6]) (m_X4_isIn l p0 0 6) k2_9 k2_10 k1_1 k2_11 (num := 3) (by decide +kernel) rfl ⟨Nat.le_of_ble_eq_true rfl, Nat.le_of_ble_eq_true rfl⟩ hl.1 rfl (Nat.le_of_ble_eq_true rfl) dX4_grade_28 ⟨Nat.le_of_ble_eq_true rfl, Nat.le_of_ble_eq_true rfl⟩ ?_
    refine lv_if_eq (tgt := 44) S.1 S.2.1 dX4_grade_31 (by decide) (fun c31_2 => ?_) (fun c31_2 => ?_)
    · refine nx_throw (text := "no such judge, skater or element") xw_iob xg_iob (by decide) S hls K hS htab hlk hl.1 k1_219 k1_9 (by decide) dX4_grade_44 dX4_grade_47 dX4_grade_48 dX4_grade_50 dX4_grade_53 ⟨Nat.le_of_ble_eq_true rfl, Nat.le_of_ble_eq_true rfl, Nat.le_of_ble_eq_true rfl, Nat.le_of_ble_eq_true rfl⟩ (Nat.le_of_ble_eq_true rfl) (Nat.le_of_ble_eq_true rfl) (fun H1 hq => ?_)
      have e9 : t_X4_grade M p0 p1 p2 p3 = 1 := by unfold t_X4_grade; first | (rw [if_pos cn2_1, if_pos c31_2]; done) | (simp only [if_pos cn2_1, if_pos c31_2]; done) | rfl
      exact ⟨by rw [e9]; rfl, by rw [e9]; decide, kw_kept N hq⟩
    · refine lv_aloadN S.1 S.2.1 dX4_grade_34 (lv_at hl 1 rfl) ?_
      refine lv_ifnullN (tgt := 44) S.1 S.2.1 dX4_grade_36 (by decide) ?_
      refine nx_throw (text := "no such judge, skater or element") xw_iob xg_iob (by decide) S hls K hS htab hlk hl.1 k1_219 k1_9 (by decide) dX4_grade_44 dX4_grade_47 dX4_grade_48 dX4_grade_50 dX4_grade_53 ⟨Nat.le_of_ble_eq_true rfl, Nat.le_of_ble_eq_true rfl, Nat.le_of_ble_eq_true rfl, Nat.le_of_ble_eq_true rfl⟩ (Nat.le_of_ble_eq_true rfl) (Nat.le_of_ble_eq_true rfl) (fun H1 hq => ?_)
      have e9 : t_X4_grade M p0 p1 p2 p3 = 1 := by unfold t_X4_grade; first | (rw [if_pos cn2_1, if_neg c31_2]; done) | (simp only [if_pos cn2_1, if_neg c31_2]; done) | rfl
      exact ⟨by rw [e9]; rfl, by rw [e9]; decide, kw_kept N hq⟩
  · have hb_cn2_1 := (at_X4_programmeOf cn2_1).1
    refine nt_a (v2 := .ref (ad (40 + (p1.toNatClampNeg)))) (rq_s cn2_1) ?_
    refine lv_astore (lv' := [(5, .ref (ad (40 + (p1.toNatClampNeg)))), (0, .ref (ad 0)), (1, .int p0), (2, .int p1), (3, .int p2), (4, .int p3)]) S.1 S.2.1 dX4_grade_5 hl (by decide) rfl (fun ls hl => ?_)
    refine lv_aload S.1 S.2.1 dX4_grade_7 (lv_at hl 0 rfl) ?_
    refine lv_ifnonnull (tgt := 16) S.1 S.2.1 dX4_grade_9 (by decide) ?_
    refine lv_aload S.1 S.2.1 dX4_grade_16 (lv_at hl 0 rfl) ?_
    refine lv_iload_n S.1 S.2.1 dX4_grade_18 rfl (lv_at hl 4 rfl) ?_
    refine kc_rV S K N hS (40 + (p1.toNatClampNeg)) (by unfold crole; omega) ((d_K.2.2 _ (at_X4_programmeOf cn2_1).1 (at_X4_programmeOf cn2_1).2.1).1) (sh_P (by omega)) (T := TX2) (n := 12) rfl (As := [.int p2]) (m_X2_elementAt l M (p1.toNatClampNeg) p2 N (by omega) (d_K.2.2 _ (at_X4_programmeOf cn2_1).1 (at_X4_programmeOf cn2_1).2.1)) k2_5 k2_6 k2_7 k1_7 k2_8 (num := 1) (by decide +kernel) rfl ⟨Nat.le_of_ble_eq_true rfl, Nat.le_of_ble_eq_true rfl⟩ hl.1 rfl (Nat.le_of_ble_eq_true rfl) dX4_grade_19 ⟨Nat.le_of_ble_eq_true rfl, Nat.le_of_ble_eq_true rfl⟩ ?_
    by_cases cn19_3 : (f_X2_elementAt M (p1.toNatClampNeg) p2) = 0
    · refine nt_a (v2 := .null) (rq_z cn19_3) ?_
      refine lv_astoreN (lv' := [(6, .null), (5, .ref (ad (40 + (p1.toNatClampNeg)))), (0, .ref (ad 0)), (1, .int p0), (2, .int p1), (3, .int p2), (4, .int p3)]) S.1 S.2.1 dX4_grade_22 hl (by decide) rfl (fun ls hl => ?_)
      refine lv_iload_n S.1 S.2.1 dX4_grade_24 rfl (lv_at hl 3 rfl) ?_
      refine lv_iconst (v := 0) S.1 S.2.1 dX4_grade_25 (by decide) ?_
      refine lv_bipush (v := 6) S.1 S.2.1 dX4_grade_26 (by decide) ?_
      refine nc_rS S K hS (As := [.int p0, .int 0, .int 6]) (m_X4_isIn l p0 0 6) k2_9 k2_10 k1_1 k2_11 (num := 3) (by decide +kernel) rfl ⟨Nat.le_of_ble_eq_true rfl, Nat.le_of_ble_eq_true rfl⟩ hl.1 rfl (Nat.le_of_ble_eq_true rfl) dX4_grade_28 ⟨Nat.le_of_ble_eq_true rfl, Nat.le_of_ble_eq_true rfl⟩ ?_
      refine lv_if_eq (tgt := 44) S.1 S.2.1 dX4_grade_31 (by decide) (fun c31_4 => ?_) (fun c31_4 => ?_)
      · refine nx_throw (text := "no such judge, skater or element") xw_iob xg_iob (by decide) S hls K hS htab hlk hl.1 k1_219 k1_9 (by decide) dX4_grade_44 dX4_grade_47 dX4_grade_48 dX4_grade_50 dX4_grade_53 ⟨Nat.le_of_ble_eq_true rfl, Nat.le_of_ble_eq_true rfl, Nat.le_of_ble_eq_true rfl, Nat.le_of_ble_eq_true rfl⟩ (Nat.le_of_ble_eq_true rfl) (Nat.le_of_ble_eq_true rfl) (fun H1 hq => ?_)
        have e9 : t_X4_grade M p0 p1 p2 p3 = 1 := by unfold t_X4_grade; first | (rw [if_neg cn2_1, if_pos cn19_3, if_pos c31_4]; done) | (simp only [if_neg cn2_1, if_pos cn19_3, if_pos c31_4]; done) | rfl
        exact ⟨by rw [e9]; rfl, by rw [e9]; decide, kw_kept N hq⟩
      · refine lv_aload S.1 S.2.1 dX4_grade_34 (lv_at hl 1 rfl) ?_
        refine lv_ifnull S.1 S.2.1 dX4_grade_36 ?_
        refine lv_aloadN S.1 S.2.1 dX4_grade_39 (lv_at hl 0 rfl) ?_
        refine lv_ifnonnullN S.1 S.2.1 dX4_grade_41 ?_
        refine nx_throw (text := "no such judge, skater or element") xw_iob xg_iob (by decide) S hls K hS htab hlk hl.1 k1_219 k1_9 (by decide) dX4_grade_44 dX4_grade_47 dX4_grade_48 dX4_grade_50 dX4_grade_53 ⟨Nat.le_of_ble_eq_true rfl, Nat.le_of_ble_eq_true rfl, Nat.le_of_ble_eq_true rfl, Nat.le_of_ble_eq_true rfl⟩ (Nat.le_of_ble_eq_true rfl) (Nat.le_of_ble_eq_true rfl) (fun H1 hq => ?_)
        have e9 : t_X4_grade M p0 p1 p2 p3 = 1 := by unfold t_X4_grade; first | (rw [if_neg cn2_1, if_pos cn19_3, if_neg c31_4]; done) | (simp only [if_neg cn2_1, if_pos cn19_3, if_neg c31_4]; done) | rfl
        exact ⟨by rw [e9]; rfl, by rw [e9]; decide, kw_kept N hq⟩
    · have hb_cn19_3 := (at_X2_elementAt cn19_3).1
      refine nt_a (v2 := .ref (ad (80 + (12 * (p1.toNatClampNeg) + p2.toNatClampNeg)))) (rq_s cn19_3) ?_
      refine lv_astore (lv' := [(6, .ref (ad (80 + (12 * (p1.toNatClampNeg) + p2.toNatClampNeg)))), (5, .ref (ad (40 + (p1.toNatClampNeg)))), (0, .ref (ad 0)), (1, .int p0), (2, .int p1), (3, .int p2), (4, .int p3)]) S.1 S.2.1 dX4_grade_22 hl (by decide) rfl (fun ls hl => ?_)
      refine lv_iload_n S.1 S.2.1 dX4_grade_24 rfl (lv_at hl 3 rfl) ?_
      refine lv_iconst (v := 0) S.1 S.2.1 dX4_grade_25 (by decide) ?_
      refine lv_bipush (v := 6) S.1 S.2.1 dX4_grade_26 (by decide) ?_
      refine nc_rS S K hS (As := [.int p0, .int 0, .int 6]) (m_X4_isIn l p0 0 6) k2_9 k2_10 k1_1 k2_11 (num := 3) (by decide +kernel) rfl ⟨Nat.le_of_ble_eq_true rfl, Nat.le_of_ble_eq_true rfl⟩ hl.1 rfl (Nat.le_of_ble_eq_true rfl) dX4_grade_28 ⟨Nat.le_of_ble_eq_true rfl, Nat.le_of_ble_eq_true rfl⟩ ?_
      refine lv_if_eq (tgt := 44) S.1 S.2.1 dX4_grade_31 (by decide) (fun c31_5 => ?_) (fun c31_5 => ?_)
      · refine nx_throw (text := "no such judge, skater or element") xw_iob xg_iob (by decide) S hls K hS htab hlk hl.1 k1_219 k1_9 (by decide) dX4_grade_44 dX4_grade_47 dX4_grade_48 dX4_grade_50 dX4_grade_53 ⟨Nat.le_of_ble_eq_true rfl, Nat.le_of_ble_eq_true rfl, Nat.le_of_ble_eq_true rfl, Nat.le_of_ble_eq_true rfl⟩ (Nat.le_of_ble_eq_true rfl) (Nat.le_of_ble_eq_true rfl) (fun H1 hq => ?_)
        have e9 : t_X4_grade M p0 p1 p2 p3 = 1 := by unfold t_X4_grade; first | (rw [if_neg cn2_1, if_neg cn19_3, if_pos c31_5]; done) | (simp only [if_neg cn2_1, if_neg cn19_3, if_pos c31_5]; done) | rfl
        exact ⟨by rw [e9]; rfl, by rw [e9]; decide, kw_kept N hq⟩
      · refine lv_aload S.1 S.2.1 dX4_grade_34 (lv_at hl 1 rfl) ?_
        refine lv_ifnull S.1 S.2.1 dX4_grade_36 ?_
        refine lv_aload S.1 S.2.1 dX4_grade_39 (lv_at hl 0 rfl) ?_
        refine lv_ifnonnull (tgt := 54) S.1 S.2.1 dX4_grade_41 (by decide) ?_
        refine lv_iload S.1 S.2.1 dX4_grade_54 (lv_at hl 6 rfl) ?_
        refine lv_bipush (v := (-5)) S.1 S.2.1 dX4_grade_56 (by decide) ?_
        refine lv_iconst (v := 5) S.1 S.2.1 dX4_grade_58 (by decide) ?_
        refine nc_rS S K hS (As := [.int p3, .int (-5), .int 5]) (m_X4_isIn l p3 (-5) 5) k2_9 k2_10 k1_1 k2_11 (num := 3) (by decide +kernel) rfl ⟨Nat.le_of_ble_eq_true rfl, Nat.le_of_ble_eq_true rfl⟩ hl.1 rfl (Nat.le_of_ble_eq_true rfl) dX4_grade_59 ⟨Nat.le_of_ble_eq_true rfl, Nat.le_of_ble_eq_true rfl⟩ ?_
        refine lv_if_ne (tgt := 75) S.1 S.2.1 dX4_grade_62 (by decide) (fun c62_6 => ?_) (fun c62_6 => ?_)
        · refine lv_aload S.1 S.2.1 dX4_grade_75 (lv_at hl 1 rfl) ?_
          refine kr_getN S K N (40 + (p1.toNatClampNeg)) (by unfold crole; omega) ((d_K.2.2 _ (at_X4_programmeOf cn2_1).1 (at_X4_programmeOf cn2_1).2.1).1) (sh_P (by omega)) (C0 := RX2) (T := TX2) (n := 12) rfl iWX2 3 (by decide) (by decide) rfl (v := .int (M (40 + (p1.toNatClampNeg)) 3)) rfl dX4_grade_77 ?_
          refine lv_if_ne (tgt := 93) S.1 S.2.1 dX4_grade_80 (by decide) (fun c80_7 => ?_) (fun c80_7 => ?_)
          · refine lv_aload S.1 S.2.1 dX4_grade_93 (lv_at hl 0 rfl) ?_
            refine kr_getN S K N (80 + (12 * (p1.toNatClampNeg) + p2.toNatClampNeg)) (by unfold crole; omega) (((d_K.2.2 _ (at_X4_programmeOf cn2_1).1 (at_X4_programmeOf cn2_1).2.1).2.2.2.2 _ (at_X2_elementAt cn19_3).1 (at_X2_elementAt cn19_3).2.1).1) (sh_L (by omega)) (C0 := RX1) (T := TX1) (n := 8) rfl iWX1 7 (by decide) (by decide) rfl (v := .ref (ad (300 + 3 * (180 + (12 * (p1.toNatClampNeg) + p2.toNatClampNeg))))) rfl dX4_grade_95 ?_
            refine lv_iload_n S.1 S.2.1 dX4_grade_98 rfl (lv_at hl 3 rfl) ?_
            refine lv_iload S.1 S.2.1 dX4_grade_99 (lv_at hl 6 rfl) ?_
            refine kc_wV S K N hS (300 + 3 * (180 + (12 * (p1.toNatClampNeg) + p2.toNatClampNeg))) (by unfold crole; omega) ((((d_K.2.2 _ (at_X4_programmeOf cn2_1).1 (at_X4_programmeOf cn2_1).2.1).2.2.2.2 _ (at_X2_elementAt cn19_3).1 (at_X2_elementAt cn19_3).2.1).2.2).1) (sh_V) (T := TX3) (n := 6) rfl (As := [.int p0, .int p3]) (m_X3_tell l M (180 + (12 * (p1.toNatClampNeg) + p2.toNatClampNeg)) p0 p3 N (by omega) (((d_K.2.2 _ (at_X4_programmeOf cn2_1).1 (at_X4_programmeOf cn2_1).2.1).2.2.2.2 _ (at_X2_elementAt cn19_3).1 (at_X2_elementAt cn19_3).2.1).2.2)) k2_30 k2_31 k2_32 k1_8 k2_33 (num := 2) (by decide +kernel) rfl ⟨Nat.le_of_ble_eq_true rfl, Nat.le_of_ble_eq_true rfl⟩ hl.1 rfl (Nat.le_of_ble_eq_true rfl) dX4_grade_101 ⟨Nat.le_of_ble_eq_true rfl, Nat.le_of_ble_eq_true rfl⟩ (fun v9 H locs hP hS => ?_)
            obtain ⟨rfl, N⟩ := hP
            refine W.eq (g2 := F0 m 104 ls []) rfl ?_
            exact vx_ret (vw_zero (Nat.zero_le _) (Nat.zero_le _) (ne_wV S hS hr hlk ⟨rfl, (by unfold g_X4_grade; first | (rw [if_neg cn2_1, if_neg cn19_3, if_neg c31_5, if_neg c62_6, if_neg c80_7]; exact N) | (simp only [if_neg cn2_1, if_neg cn19_3, if_neg c31_5, if_neg c62_6, if_neg c80_7]; exact N) | exact N), by unfold t_X4_grade; first | (rw [if_neg cn2_1, if_neg cn19_3, if_neg c31_5, if_neg c62_6, if_neg c80_7]; done) | (simp only [if_neg cn2_1, if_neg cn19_3, if_neg c31_5, if_neg c62_6, if_neg c80_7]; done) | rfl⟩ dX4_grade_104))
          · refine nx_throw (text := "the programme has not ended") xw_ise xg_ise (by decide) S hls K hS htab hlk hl.1 k1_68 k1_6 (by decide) dX4_grade_83 dX4_grade_86 dX4_grade_87 dX4_grade_89 dX4_grade_92 ⟨Nat.le_of_ble_eq_true rfl, Nat.le_of_ble_eq_true rfl, Nat.le_of_ble_eq_true rfl, Nat.le_of_ble_eq_true rfl⟩ (Nat.le_of_ble_eq_true rfl) (Nat.le_of_ble_eq_true rfl) (fun H1 hq => ?_)
            have e9 : t_X4_grade M p0 p1 p2 p3 = 3 := by unfold t_X4_grade; first | (rw [if_neg cn2_1, if_neg cn19_3, if_neg c31_5, if_neg c62_6, if_pos c80_7]; done) | (simp only [if_neg cn2_1, if_neg cn19_3, if_neg c31_5, if_neg c62_6, if_pos c80_7]; done) | rfl
            exact ⟨by rw [e9]; rfl, by rw [e9]; decide, kw_kept N hq⟩
        · refine nx_throw (text := "no such grade") xw_iae xg_iae (by decide) S hls K hS htab hlk hl.1 k2_13 k1_10 (by decide) dX4_grade_65 dX4_grade_68 dX4_grade_69 dX4_grade_71 dX4_grade_74 ⟨Nat.le_of_ble_eq_true rfl, Nat.le_of_ble_eq_true rfl, Nat.le_of_ble_eq_true rfl, Nat.le_of_ble_eq_true rfl⟩ (Nat.le_of_ble_eq_true rfl) (Nat.le_of_ble_eq_true rfl) (fun H1 hq => ?_)
          have e9 : t_X4_grade M p0 p1 p2 p3 = 2 := by unfold t_X4_grade; first | (rw [if_neg cn2_1, if_neg cn19_3, if_neg c31_5, if_pos c62_6]; done) | (simp only [if_neg cn2_1, if_neg cn19_3, if_neg c31_5, if_pos c62_6]; done) | rfl
          exact ⟨by rw [e9]; rfl, by rw [e9]; decide, kw_kept N hq⟩

def t_X4_component (M : Nat → Nat → Int32) (p0 : Int32) (p1 : Int32) (p2 : Int32) (p3 : Int32) : Nat :=
  if (f_X4_programmeOf M p1) = 0 then (if (f_X4_isIn p0 0 6) = 0 then 1
    else 1)
  else if (f_X2_componentAt M (p1.toNatClampNeg) p2) = 0 then (if (f_X4_isIn p0 0 6) = 0 then 1
    else 1)
  else if (f_X4_isIn p0 0 6) = 0 then 1
  else if (f_X4_isIn p3 0 40) = 0 then 2
  else if (M (40 + (p1.toNatClampNeg)) 3) = 0 then 3
  else 0
def g_X4_component (M : Nat → Nat → Int32) (p0 : Int32) (p1 : Int32) (p2 : Int32) (p3 : Int32) : Nat → Nat → Int32 :=
  if (f_X4_programmeOf M p1) = 0 then (M)
  else if (f_X2_componentAt M (p1.toNatClampNeg) p2) = 0 then (M)
  else if (f_X4_isIn p0 0 6) = 0 then M
  else if (f_X4_isIn p3 0 40) = 0 then M
  else if (M (40 + (p1.toNatClampNeg)) 3) = 0 then M
  else (g_X3_tell M (3 * (p1.toNatClampNeg) + p2.toNatClampNeg) p0 p3)
set_option maxHeartbeats 4000000 in
set_option maxRecDepth 100000 in
theorem m_X4_component {D : va_G} {cA : Nat → ClassId} {B : Nat} (l : Launch) {dom : Nat → Prop} {ad : Nat → Nat} {X : Nat → va_E} {H0 : Heap} (M : Nat → Nat → Int32) (p0 : Int32) (p1 : Int32) (p2 : Int32) (p3 : Int32) (N : kw D cA B dom ad X M H0) (d_K : dK dom M) (hls : l.stackTraces = false) : MetX D cA B l yX4_component cX4_component 7 none 6 82 1 6 [.ref (ad 0), .int p0, .int p1, .int p2, .int p3] H0 (fun o h => o = none ∧ kw D cA B dom ad X (g_X4_component M p0 p1 p2 p3) h ∧ t_X4_component M p0 p1 p2 p3 = 0) (fun E h => E = xn (t_X4_component M p0 p1 p2 p3) ∧ ¬ t_X4_component M p0 p1 p2 p3 = 0 ∧ kw D cA B dom ad X M h) := by
  refine MetX.of (by decide) (Nat.le_of_ble_eq_true rfl) ?_
  intro p e s m args below meth c S hr hlk htab hh K ls hl
  subst hh
  have hS : va_S (fun q => B ≤ q) s.heap s.heap [] := va_S.rf
  have hl : lv_has ls 7 [(0, .ref (ad 0)), (1, .int p0), (2, .int p1), (3, .int p2), (4, .int p3)] := hl
  refine lv_aload_n S.1 S.2.1 dX4_component_0 rfl (lv_at hl 0 rfl) ?_
  refine lv_iload_n S.1 S.2.1 dX4_component_1 rfl (lv_at hl 2 rfl) ?_
  refine kc_rV S K N hS 0 (by unfold crole; omega) (d_K.1 0 (by decide)) (sh_K) (T := TX4) (n := 6) rfl (As := [.int p1]) (m_X4_programmeOf l M p1 N d_K) k1_215 k1_217 kS_1 k1_1 k1_218 (num := 1) (by decide +kernel) rfl ⟨Nat.le_of_ble_eq_true rfl, Nat.le_of_ble_eq_true rfl⟩ hl.1 rfl (Nat.le_of_ble_eq_true rfl) dX4_component_2 ⟨Nat.le_of_ble_eq_true rfl, Nat.le_of_ble_eq_true rfl⟩ ?_
  by_cases cn2_1 : (f_X4_programmeOf M p1) = 0
  · refine nt_a (v2 := .null) (rq_z cn2_1) ?_
    refine lv_astoreN (lv' := [(5, .null), (0, .ref (ad 0)), (1, .int p0), (2, .int p1), (3, .int p2), (4, .int p3)]) S.1 S.2.1 dX4_component_5 hl (by decide) rfl (fun ls hl => ?_)
    refine lv_aloadN S.1 S.2.1 dX4_component_7 (lv_at hl 0 rfl) ?_
    refine lv_ifnonnullN S.1 S.2.1 dX4_component_9 ?_
    refine lv_null S.1 S.2.1 dX4_component_12 ?_
    refine lv_goto (tgt := 22) S.1 S.2.1 dX4_component_13 (by decide) ?_
    refine lv_astoreN (lv' := [(6, .null), (5, .null), (0, .ref (ad 0)), (1, .int p0), (2, .int p1), (3, .int p2), (4, .int p3)]) S.1 S.2.1 dX4_component_22 hl (by decide) rfl (fun ls hl => ?_)
    refine lv_iload_n S.1 S.2.1 dX4_component_24 rfl (lv_at hl 3 rfl) ?_
    refine lv_iconst (v := 0) S.1 S.2.1 dX4_component_25 (by decide) ?_
    refine lv_bipush (v := 6) S.1 S.2.1 dX4_component_26 (by decide) ?_
    refine nc_rS S K hS (As := [.int p0, .int 0, .int 6]) (m_X4_isIn l p0 0 6) k2_9 k2_10 k1_1 k2_11 (num := 3) (by decide +kernel) rfl ⟨Nat.le_of_ble_eq_true rfl, Nat.le_of_ble_eq_true rfl⟩ hl.1 rfl (Nat.le_of_ble_eq_true rfl) dX4_component_28 ⟨Nat.le_of_ble_eq_true rfl, Nat.le_of_ble_eq_true rfl⟩ ?_
    refine lv_if_eq (tgt := 44) S.1 S.2.1 dX4_component_31 (by decide) (fun c31_2 => ?_) (fun c31_2 => ?_)
    · refine nx_throw (text := "no such judge, skater or component") xw_iob xg_iob (by decide) S hls K hS htab hlk hl.1 k1_219 k1_9 (by decide) dX4_component_44 dX4_component_47 dX4_component_48 dX4_component_50 dX4_component_53 ⟨Nat.le_of_ble_eq_true rfl, Nat.le_of_ble_eq_true rfl, Nat.le_of_ble_eq_true rfl, Nat.le_of_ble_eq_true rfl⟩ (Nat.le_of_ble_eq_true rfl) (Nat.le_of_ble_eq_true rfl) (fun H1 hq => ?_)
      have e9 : t_X4_component M p0 p1 p2 p3 = 1 := by unfold t_X4_component; first | (rw [if_pos cn2_1, if_pos c31_2]; done) | (simp only [if_pos cn2_1, if_pos c31_2]; done) | rfl
      exact ⟨by rw [e9]; rfl, by rw [e9]; decide, kw_kept N hq⟩
    · refine lv_aloadN S.1 S.2.1 dX4_component_34 (lv_at hl 1 rfl) ?_
      refine lv_ifnullN (tgt := 44) S.1 S.2.1 dX4_component_36 (by decide) ?_
      refine nx_throw (text := "no such judge, skater or component") xw_iob xg_iob (by decide) S hls K hS htab hlk hl.1 k1_219 k1_9 (by decide) dX4_component_44 dX4_component_47 dX4_component_48 dX4_component_50 dX4_component_53 ⟨Nat.le_of_ble_eq_true rfl, Nat.le_of_ble_eq_true rfl, Nat.le_of_ble_eq_true rfl, Nat.le_of_ble_eq_true rfl⟩ (Nat.le_of_ble_eq_true rfl) (Nat.le_of_ble_eq_true rfl) (fun H1 hq => ?_)
      have e9 : t_X4_component M p0 p1 p2 p3 = 1 := by unfold t_X4_component; first | (rw [if_pos cn2_1, if_neg c31_2]; done) | (simp only [if_pos cn2_1, if_neg c31_2]; done) | rfl
      exact ⟨by rw [e9]; rfl, by rw [e9]; decide, kw_kept N hq⟩
  · have hb_cn2_1 := (at_X4_programmeOf cn2_1).1
    refine nt_a (v2 := .ref (ad (40 + (p1.toNatClampNeg)))) (rq_s cn2_1) ?_
    refine lv_astore (lv' := [(5, .ref (ad (40 + (p1.toNatClampNeg)))), (0, .ref (ad 0)), (1, .int p0), (2, .int p1), (3, .int p2), (4, .int p3)]) S.1 S.2.1 dX4_component_5 hl (by decide) rfl (fun ls hl => ?_)
    refine lv_aload S.1 S.2.1 dX4_component_7 (lv_at hl 0 rfl) ?_
    refine lv_ifnonnull (tgt := 16) S.1 S.2.1 dX4_component_9 (by decide) ?_
    refine lv_aload S.1 S.2.1 dX4_component_16 (lv_at hl 0 rfl) ?_
    refine lv_iload_n S.1 S.2.1 dX4_component_18 rfl (lv_at hl 4 rfl) ?_
    refine kc_rV S K N hS (40 + (p1.toNatClampNeg)) (by unfold crole; omega) ((d_K.2.2 _ (at_X4_programmeOf cn2_1).1 (at_X4_programmeOf cn2_1).2.1).1) (sh_P (by omega)) (T := TX2) (n := 12) rfl (As := [.int p2]) (m_X2_componentAt l M (p1.toNatClampNeg) p2 N (by omega) (d_K.2.2 _ (at_X4_programmeOf cn2_1).1 (at_X4_programmeOf cn2_1).2.1)) k2_52 k2_53 k2_54 k1_7 k2_55 (num := 1) (by decide +kernel) rfl ⟨Nat.le_of_ble_eq_true rfl, Nat.le_of_ble_eq_true rfl⟩ hl.1 rfl (Nat.le_of_ble_eq_true rfl) dX4_component_19 ⟨Nat.le_of_ble_eq_true rfl, Nat.le_of_ble_eq_true rfl⟩ ?_
    by_cases cn19_3 : (f_X2_componentAt M (p1.toNatClampNeg) p2) = 0
    · refine nt_a (v2 := .null) (rq_z cn19_3) ?_
      refine lv_astoreN (lv' := [(6, .null), (5, .ref (ad (40 + (p1.toNatClampNeg)))), (0, .ref (ad 0)), (1, .int p0), (2, .int p1), (3, .int p2), (4, .int p3)]) S.1 S.2.1 dX4_component_22 hl (by decide) rfl (fun ls hl => ?_)
      refine lv_iload_n S.1 S.2.1 dX4_component_24 rfl (lv_at hl 3 rfl) ?_
      refine lv_iconst (v := 0) S.1 S.2.1 dX4_component_25 (by decide) ?_
      refine lv_bipush (v := 6) S.1 S.2.1 dX4_component_26 (by decide) ?_
      refine nc_rS S K hS (As := [.int p0, .int 0, .int 6]) (m_X4_isIn l p0 0 6) k2_9 k2_10 k1_1 k2_11 (num := 3) (by decide +kernel) rfl ⟨Nat.le_of_ble_eq_true rfl, Nat.le_of_ble_eq_true rfl⟩ hl.1 rfl (Nat.le_of_ble_eq_true rfl) dX4_component_28 ⟨Nat.le_of_ble_eq_true rfl, Nat.le_of_ble_eq_true rfl⟩ ?_
      refine lv_if_eq (tgt := 44) S.1 S.2.1 dX4_component_31 (by decide) (fun c31_4 => ?_) (fun c31_4 => ?_)
      · refine nx_throw (text := "no such judge, skater or component") xw_iob xg_iob (by decide) S hls K hS htab hlk hl.1 k1_219 k1_9 (by decide) dX4_component_44 dX4_component_47 dX4_component_48 dX4_component_50 dX4_component_53 ⟨Nat.le_of_ble_eq_true rfl, Nat.le_of_ble_eq_true rfl, Nat.le_of_ble_eq_true rfl, Nat.le_of_ble_eq_true rfl⟩ (Nat.le_of_ble_eq_true rfl) (Nat.le_of_ble_eq_true rfl) (fun H1 hq => ?_)
        have e9 : t_X4_component M p0 p1 p2 p3 = 1 := by unfold t_X4_component; first | (rw [if_neg cn2_1, if_pos cn19_3, if_pos c31_4]; done) | (simp only [if_neg cn2_1, if_pos cn19_3, if_pos c31_4]; done) | rfl
        exact ⟨by rw [e9]; rfl, by rw [e9]; decide, kw_kept N hq⟩
      · refine lv_aload S.1 S.2.1 dX4_component_34 (lv_at hl 1 rfl) ?_
        refine lv_ifnull S.1 S.2.1 dX4_component_36 ?_
        refine lv_aloadN S.1 S.2.1 dX4_component_39 (lv_at hl 0 rfl) ?_
        refine lv_ifnonnullN S.1 S.2.1 dX4_component_41 ?_
        refine nx_throw (text := "no such judge, skater or component") xw_iob xg_iob (by decide) S hls K hS htab hlk hl.1 k1_219 k1_9 (by decide) dX4_component_44 dX4_component_47 dX4_component_48 dX4_component_50 dX4_component_53 ⟨Nat.le_of_ble_eq_true rfl, Nat.le_of_ble_eq_true rfl, Nat.le_of_ble_eq_true rfl, Nat.le_of_ble_eq_true rfl⟩ (Nat.le_of_ble_eq_true rfl) (Nat.le_of_ble_eq_true rfl) (fun H1 hq => ?_)
        have e9 : t_X4_component M p0 p1 p2 p3 = 1 := by unfold t_X4_component; first | (rw [if_neg cn2_1, if_pos cn19_3, if_neg c31_4]; done) | (simp only [if_neg cn2_1, if_pos cn19_3, if_neg c31_4]; done) | rfl
        exact ⟨by rw [e9]; rfl, by rw [e9]; decide, kw_kept N hq⟩
    · have hb_cn19_3 := (at_X2_componentAt cn19_3).1
      refine nt_a (v2 := .ref (ad (300 + 3 * (3 * (p1.toNatClampNeg) + p2.toNatClampNeg)))) (rq_s cn19_3) ?_
      refine lv_astore (lv' := [(6, .ref (ad (300 + 3 * (3 * (p1.toNatClampNeg) + p2.toNatClampNeg)))), (5, .ref (ad (40 + (p1.toNatClampNeg)))), (0, .ref (ad 0)), (1, .int p0), (2, .int p1), (3, .int p2), (4, .int p3)]) S.1 S.2.1 dX4_component_22 hl (by decide) rfl (fun ls hl => ?_)
      refine lv_iload_n S.1 S.2.1 dX4_component_24 rfl (lv_at hl 3 rfl) ?_
      refine lv_iconst (v := 0) S.1 S.2.1 dX4_component_25 (by decide) ?_
      refine lv_bipush (v := 6) S.1 S.2.1 dX4_component_26 (by decide) ?_
      refine nc_rS S K hS (As := [.int p0, .int 0, .int 6]) (m_X4_isIn l p0 0 6) k2_9 k2_10 k1_1 k2_11 (num := 3) (by decide +kernel) rfl ⟨Nat.le_of_ble_eq_true rfl, Nat.le_of_ble_eq_true rfl⟩ hl.1 rfl (Nat.le_of_ble_eq_true rfl) dX4_component_28 ⟨Nat.le_of_ble_eq_true rfl, Nat.le_of_ble_eq_true rfl⟩ ?_
      refine lv_if_eq (tgt := 44) S.1 S.2.1 dX4_component_31 (by decide) (fun c31_5 => ?_) (fun c31_5 => ?_)
      · refine nx_throw (text := "no such judge, skater or component") xw_iob xg_iob (by decide) S hls K hS htab hlk hl.1 k1_219 k1_9 (by decide) dX4_component_44 dX4_component_47 dX4_component_48 dX4_component_50 dX4_component_53 ⟨Nat.le_of_ble_eq_true rfl, Nat.le_of_ble_eq_true rfl, Nat.le_of_ble_eq_true rfl, Nat.le_of_ble_eq_true rfl⟩ (Nat.le_of_ble_eq_true rfl) (Nat.le_of_ble_eq_true rfl) (fun H1 hq => ?_)
        have e9 : t_X4_component M p0 p1 p2 p3 = 1 := by unfold t_X4_component; first | (rw [if_neg cn2_1, if_neg cn19_3, if_pos c31_5]; done) | (simp only [if_neg cn2_1, if_neg cn19_3, if_pos c31_5]; done) | rfl
        exact ⟨by rw [e9]; rfl, by rw [e9]; decide, kw_kept N hq⟩
      · refine lv_aload S.1 S.2.1 dX4_component_34 (lv_at hl 1 rfl) ?_
        refine lv_ifnull S.1 S.2.1 dX4_component_36 ?_
        refine lv_aload S.1 S.2.1 dX4_component_39 (lv_at hl 0 rfl) ?_
        refine lv_ifnonnull (tgt := 54) S.1 S.2.1 dX4_component_41 (by decide) ?_
        refine lv_iload S.1 S.2.1 dX4_component_54 (lv_at hl 6 rfl) ?_
        refine lv_iconst (v := 0) S.1 S.2.1 dX4_component_56 (by decide) ?_
        refine lv_bipush (v := 40) S.1 S.2.1 dX4_component_57 (by decide) ?_
        refine nc_rS S K hS (As := [.int p3, .int 0, .int 40]) (m_X4_isIn l p3 0 40) k2_9 k2_10 k1_1 k2_11 (num := 3) (by decide +kernel) rfl ⟨Nat.le_of_ble_eq_true rfl, Nat.le_of_ble_eq_true rfl⟩ hl.1 rfl (Nat.le_of_ble_eq_true rfl) dX4_component_59 ⟨Nat.le_of_ble_eq_true rfl, Nat.le_of_ble_eq_true rfl⟩ ?_
        refine lv_if_ne (tgt := 75) S.1 S.2.1 dX4_component_62 (by decide) (fun c62_6 => ?_) (fun c62_6 => ?_)
        · refine lv_aload S.1 S.2.1 dX4_component_75 (lv_at hl 1 rfl) ?_
          refine kr_getN S K N (40 + (p1.toNatClampNeg)) (by unfold crole; omega) ((d_K.2.2 _ (at_X4_programmeOf cn2_1).1 (at_X4_programmeOf cn2_1).2.1).1) (sh_P (by omega)) (C0 := RX2) (T := TX2) (n := 12) rfl iWX2 3 (by decide) (by decide) rfl (v := .int (M (40 + (p1.toNatClampNeg)) 3)) rfl dX4_component_77 ?_
          refine lv_if_ne (tgt := 93) S.1 S.2.1 dX4_component_80 (by decide) (fun c80_7 => ?_) (fun c80_7 => ?_)
          · refine lv_aload S.1 S.2.1 dX4_component_93 (lv_at hl 0 rfl) ?_
            refine lv_iload_n S.1 S.2.1 dX4_component_95 rfl (lv_at hl 3 rfl) ?_
            refine lv_iload S.1 S.2.1 dX4_component_96 (lv_at hl 6 rfl) ?_
            refine kc_wV S K N hS (300 + 3 * (3 * (p1.toNatClampNeg) + p2.toNatClampNeg)) (by unfold crole; omega) (((d_K.2.2 _ (at_X4_programmeOf cn2_1).1 (at_X4_programmeOf cn2_1).2.1).2.2.2.1 _ (at_X2_componentAt cn19_3).1 (at_X2_componentAt cn19_3).2.1).1) (sh_V) (T := TX3) (n := 6) rfl (As := [.int p0, .int p3]) (m_X3_tell l M (3 * (p1.toNatClampNeg) + p2.toNatClampNeg) p0 p3 N (by omega) ((d_K.2.2 _ (at_X4_programmeOf cn2_1).1 (at_X4_programmeOf cn2_1).2.1).2.2.2.1 _ (at_X2_componentAt cn19_3).1 (at_X2_componentAt cn19_3).2.1)) k2_30 k2_31 k2_32 k1_8 k2_33 (num := 2) (by decide +kernel) rfl ⟨Nat.le_of_ble_eq_true rfl, Nat.le_of_ble_eq_true rfl⟩ hl.1 rfl (Nat.le_of_ble_eq_true rfl) dX4_component_98 ⟨Nat.le_of_ble_eq_true rfl, Nat.le_of_ble_eq_true rfl⟩ (fun v9 H locs hP hS => ?_)
            obtain ⟨rfl, N⟩ := hP
            refine W.eq (g2 := F0 m 101 ls []) rfl ?_
            exact vx_ret (vw_zero (Nat.zero_le _) (Nat.zero_le _) (ne_wV S hS hr hlk ⟨rfl, (by unfold g_X4_component; first | (rw [if_neg cn2_1, if_neg cn19_3, if_neg c31_5, if_neg c62_6, if_neg c80_7]; exact N) | (simp only [if_neg cn2_1, if_neg cn19_3, if_neg c31_5, if_neg c62_6, if_neg c80_7]; exact N) | exact N), by unfold t_X4_component; first | (rw [if_neg cn2_1, if_neg cn19_3, if_neg c31_5, if_neg c62_6, if_neg c80_7]; done) | (simp only [if_neg cn2_1, if_neg cn19_3, if_neg c31_5, if_neg c62_6, if_neg c80_7]; done) | rfl⟩ dX4_component_101))
          · refine nx_throw (text := "the programme has not ended") xw_ise xg_ise (by decide) S hls K hS htab hlk hl.1 k1_68 k1_6 (by decide) dX4_component_83 dX4_component_86 dX4_component_87 dX4_component_89 dX4_component_92 ⟨Nat.le_of_ble_eq_true rfl, Nat.le_of_ble_eq_true rfl, Nat.le_of_ble_eq_true rfl, Nat.le_of_ble_eq_true rfl⟩ (Nat.le_of_ble_eq_true rfl) (Nat.le_of_ble_eq_true rfl) (fun H1 hq => ?_)
            have e9 : t_X4_component M p0 p1 p2 p3 = 3 := by unfold t_X4_component; first | (rw [if_neg cn2_1, if_neg cn19_3, if_neg c31_5, if_neg c62_6, if_pos c80_7]; done) | (simp only [if_neg cn2_1, if_neg cn19_3, if_neg c31_5, if_neg c62_6, if_pos c80_7]; done) | rfl
            exact ⟨by rw [e9]; rfl, by rw [e9]; decide, kw_kept N hq⟩
        · refine nx_throw (text := "no such quarters") xw_iae xg_iae (by decide) S hls K hS htab hlk hl.1 k2_13 k1_10 (by decide) dX4_component_65 dX4_component_68 dX4_component_69 dX4_component_71 dX4_component_74 ⟨Nat.le_of_ble_eq_true rfl, Nat.le_of_ble_eq_true rfl, Nat.le_of_ble_eq_true rfl, Nat.le_of_ble_eq_true rfl⟩ (Nat.le_of_ble_eq_true rfl) (Nat.le_of_ble_eq_true rfl) (fun H1 hq => ?_)
          have e9 : t_X4_component M p0 p1 p2 p3 = 2 := by unfold t_X4_component; first | (rw [if_neg cn2_1, if_neg cn19_3, if_neg c31_5, if_pos c62_6]; done) | (simp only [if_neg cn2_1, if_neg cn19_3, if_neg c31_5, if_pos c62_6]; done) | rfl
          exact ⟨by rw [e9]; rfl, by rw [e9]; decide, kw_kept N hq⟩

def f_X4_value (M : Nat → Nat → Int32) (p0 : Int32) (p1 : Int32) (p2 : Int32) (p3 : Int32) : Int32 :=
  if (f_X4_editionAt M p0) = 0 then 0
  else if (f_X0_hasValue p1 p2) = 0 then 0
  else if (f_X4_isIn p3 0 9999) = 0 then 0
  else (f_X0_replace M (p0.toNatClampNeg) p1 p2 p3)
def t_X4_value (M : Nat → Nat → Int32) (p0 : Int32) (p1 : Int32) (p2 : Int32) (p3 : Int32) : Nat :=
  if (f_X4_editionAt M p0) = 0 then 2
  else if (f_X0_hasValue p1 p2) = 0 then 2
  else if (f_X4_isIn p3 0 9999) = 0 then 2
  else 0
def g_X4_value (M : Nat → Nat → Int32) (p0 : Int32) (p1 : Int32) (p2 : Int32) (p3 : Int32) : Nat → Nat → Int32 :=
  if (f_X4_editionAt M p0) = 0 then M
  else if (f_X0_hasValue p1 p2) = 0 then M
  else if (f_X4_isIn p3 0 9999) = 0 then M
  else (g_X0_replace M (p0.toNatClampNeg) p1 p2 p3)
set_option maxHeartbeats 4000000 in
set_option maxRecDepth 100000 in
theorem m_X4_value {D : va_G} {cA : Nat → ClassId} {B : Nat} (l : Launch) {dom : Nat → Prop} {ad : Nat → Nat} {X : Nat → va_E} {H0 : Heap} (M : Nat → Nat → Int32) (p0 : Int32) (p1 : Int32) (p2 : Int32) (p3 : Int32) (N : kw D cA B dom ad X M H0) (d_K : dK dom M) (hls : l.stackTraces = false) : MetX D cA B l yX4_value cX4_value 6 (some .int) 6 82 1 6 [.ref (ad 0), .int p0, .int p1, .int p2, .int p3] H0 (fun o h => o = some (.int (f_X4_value M p0 p1 p2 p3)) ∧ kw D cA B dom ad X (g_X4_value M p0 p1 p2 p3) h ∧ t_X4_value M p0 p1 p2 p3 = 0) (fun E h => E = xn (t_X4_value M p0 p1 p2 p3) ∧ ¬ t_X4_value M p0 p1 p2 p3 = 0 ∧ kw D cA B dom ad X M h) := by
  refine MetX.of (by decide) (Nat.le_of_ble_eq_true rfl) ?_
  intro p e s m args below meth c S hr hlk htab hh K ls hl
  subst hh
  have hS : va_S (fun q => B ≤ q) s.heap s.heap [] := va_S.rf
  have hl : lv_has ls 6 [(0, .ref (ad 0)), (1, .int p0), (2, .int p1), (3, .int p2), (4, .int p3)] := hl
  refine lv_aload_n S.1 S.2.1 dX4_value_0 rfl (lv_at hl 0 rfl) ?_
  refine lv_iload_n S.1 S.2.1 dX4_value_1 rfl (lv_at hl 1 rfl) ?_
  refine kc_rV S K N hS 0 (by unfold crole; omega) (d_K.1 0 (by decide)) (sh_K) (T := TX4) (n := 6) rfl (As := [.int p0]) (m_X4_editionAt l M p0 N d_K) k2_62 k2_64 kS_4 k1_1 k2_65 (num := 1) (by decide +kernel) rfl ⟨Nat.le_of_ble_eq_true rfl, Nat.le_of_ble_eq_true rfl⟩ hl.1 rfl (Nat.le_of_ble_eq_true rfl) dX4_value_2 ⟨Nat.le_of_ble_eq_true rfl, Nat.le_of_ble_eq_true rfl⟩ ?_
  by_cases cn2_1 : (f_X4_editionAt M p0) = 0
  · refine nt_a (v2 := .null) (rq_z cn2_1) ?_
    refine lv_astoreN (lv' := [(5, .null), (0, .ref (ad 0)), (1, .int p0), (2, .int p1), (3, .int p2), (4, .int p3)]) S.1 S.2.1 dX4_value_5 hl (by decide) rfl (fun ls hl => ?_)
    refine lv_aloadN S.1 S.2.1 dX4_value_7 (lv_at hl 0 rfl) ?_
    refine lv_ifnullN (tgt := 32) S.1 S.2.1 dX4_value_9 (by decide) ?_
    refine nx_throw (text := "no such edition, jump, level or value") xw_iae xg_iae (by decide) S hls K hS htab hlk hl.1 k2_13 k1_10 (by decide) dX4_value_32 dX4_value_35 dX4_value_36 dX4_value_38 dX4_value_41 ⟨Nat.le_of_ble_eq_true rfl, Nat.le_of_ble_eq_true rfl, Nat.le_of_ble_eq_true rfl, Nat.le_of_ble_eq_true rfl⟩ (Nat.le_of_ble_eq_true rfl) (Nat.le_of_ble_eq_true rfl) (fun H1 hq => ?_)
    have e9 : t_X4_value M p0 p1 p2 p3 = 2 := by unfold t_X4_value; first | (rw [if_pos cn2_1]; done) | (simp only [if_pos cn2_1]; done) | rfl
    exact ⟨by rw [e9]; rfl, by rw [e9]; decide, kw_kept N hq⟩
  · have hb_cn2_1 := (at_X4_editionAt cn2_1).1
    refine nt_a (v2 := .ref (ad (30 + (p0.toNatClampNeg)))) (rq_s cn2_1) ?_
    refine lv_astore (lv' := [(5, .ref (ad (30 + (p0.toNatClampNeg)))), (0, .ref (ad 0)), (1, .int p0), (2, .int p1), (3, .int p2), (4, .int p3)]) S.1 S.2.1 dX4_value_5 hl (by decide) rfl (fun ls hl => ?_)
    refine lv_aload S.1 S.2.1 dX4_value_7 (lv_at hl 0 rfl) ?_
    refine lv_ifnull S.1 S.2.1 dX4_value_9 ?_
    refine lv_iload_n S.1 S.2.1 dX4_value_12 rfl (lv_at hl 3 rfl) ?_
    refine lv_iload_n S.1 S.2.1 dX4_value_13 rfl (lv_at hl 4 rfl) ?_
    refine nc_rS S K hS (As := [.int p1, .int p2]) (m_X0_hasValue l p1 p2) k2_66 k2_67 k1_2 k2_68 (num := 2) (by decide +kernel) rfl ⟨Nat.le_of_ble_eq_true rfl, Nat.le_of_ble_eq_true rfl⟩ hl.1 rfl (Nat.le_of_ble_eq_true rfl) dX4_value_14 ⟨Nat.le_of_ble_eq_true rfl, Nat.le_of_ble_eq_true rfl⟩ ?_
    refine lv_if_eq (tgt := 32) S.1 S.2.1 dX4_value_17 (by decide) (fun c17_2 => ?_) (fun c17_2 => ?_)
    · refine nx_throw (text := "no such edition, jump, level or value") xw_iae xg_iae (by decide) S hls K hS htab hlk hl.1 k2_13 k1_10 (by decide) dX4_value_32 dX4_value_35 dX4_value_36 dX4_value_38 dX4_value_41 ⟨Nat.le_of_ble_eq_true rfl, Nat.le_of_ble_eq_true rfl, Nat.le_of_ble_eq_true rfl, Nat.le_of_ble_eq_true rfl⟩ (Nat.le_of_ble_eq_true rfl) (Nat.le_of_ble_eq_true rfl) (fun H1 hq => ?_)
      have e9 : t_X4_value M p0 p1 p2 p3 = 2 := by unfold t_X4_value; first | (rw [if_neg cn2_1, if_pos c17_2]; done) | (simp only [if_neg cn2_1, if_pos c17_2]; done) | rfl
      exact ⟨by rw [e9]; rfl, by rw [e9]; decide, kw_kept N hq⟩
    · refine lv_iload S.1 S.2.1 dX4_value_20 (lv_at hl 5 rfl) ?_
      refine lv_iconst (v := 0) S.1 S.2.1 dX4_value_22 (by decide) ?_
      refine lv_sipush (v := 9999) S.1 S.2.1 dX4_value_23 (by decide) ?_
      refine nc_rS S K hS (As := [.int p3, .int 0, .int 9999]) (m_X4_isIn l p3 0 9999) k2_9 k2_10 k1_1 k2_11 (num := 3) (by decide +kernel) rfl ⟨Nat.le_of_ble_eq_true rfl, Nat.le_of_ble_eq_true rfl⟩ hl.1 rfl (Nat.le_of_ble_eq_true rfl) dX4_value_26 ⟨Nat.le_of_ble_eq_true rfl, Nat.le_of_ble_eq_true rfl⟩ ?_
      refine lv_if_ne (tgt := 42) S.1 S.2.1 dX4_value_29 (by decide) (fun c29_3 => ?_) (fun c29_3 => ?_)
      · refine lv_aload S.1 S.2.1 dX4_value_42 (lv_at hl 0 rfl) ?_
        refine lv_iload_n S.1 S.2.1 dX4_value_44 rfl (lv_at hl 3 rfl) ?_
        refine lv_iload_n S.1 S.2.1 dX4_value_45 rfl (lv_at hl 4 rfl) ?_
        refine lv_iload S.1 S.2.1 dX4_value_46 (lv_at hl 5 rfl) ?_
        refine kc_wV S K N hS (30 + (p0.toNatClampNeg)) (by unfold crole; omega) ((d_K.2.1 _ (at_X4_editionAt cn2_1).1).1) (sh_ed (by omega)) (T := TX0) (n := 1) rfl (As := [.int p1, .int p2, .int p3]) (m_X0_replace l M (p0.toNatClampNeg) p1 p2 p3 N (by omega) (d_K.2.1 _ (at_X4_editionAt cn2_1).1)) k2_71 k2_72 k2_73 k1_2 k2_74 (num := 3) (by decide +kernel) rfl ⟨Nat.le_of_ble_eq_true rfl, Nat.le_of_ble_eq_true rfl⟩ hl.1 rfl (Nat.le_of_ble_eq_true rfl) dX4_value_48 ⟨Nat.le_of_ble_eq_true rfl, Nat.le_of_ble_eq_true rfl⟩ (fun v9 H locs hP hS => ?_)
        obtain ⟨rfl, N⟩ := hP
        refine W.eq (g2 := F0 m 51 ls [.int (f_X0_replace M (p0.toNatClampNeg) p1 p2 p3)]) rfl ?_
        exact vx_ret (vw_zero (Nat.zero_le _) (Nat.zero_le _) (ne_wI S hS hr hlk ⟨congrArg (fun z => some (Value.int z)) (Eq.symm (by unfold f_X4_value; first | (rw [if_neg cn2_1, if_neg c17_2, if_neg c29_3]; done) | (simp only [if_neg cn2_1, if_neg c17_2, if_neg c29_3]; done) | rfl)), (by unfold g_X4_value; first | (rw [if_neg cn2_1, if_neg c17_2, if_neg c29_3]; exact N) | (simp only [if_neg cn2_1, if_neg c17_2, if_neg c29_3]; exact N) | exact N), by unfold t_X4_value; first | (rw [if_neg cn2_1, if_neg c17_2, if_neg c29_3]; done) | (simp only [if_neg cn2_1, if_neg c17_2, if_neg c29_3]; done) | rfl⟩ dX4_value_51))
      · refine nx_throw (text := "no such edition, jump, level or value") xw_iae xg_iae (by decide) S hls K hS htab hlk hl.1 k2_13 k1_10 (by decide) dX4_value_32 dX4_value_35 dX4_value_36 dX4_value_38 dX4_value_41 ⟨Nat.le_of_ble_eq_true rfl, Nat.le_of_ble_eq_true rfl, Nat.le_of_ble_eq_true rfl, Nat.le_of_ble_eq_true rfl⟩ (Nat.le_of_ble_eq_true rfl) (Nat.le_of_ble_eq_true rfl) (fun H1 hq => ?_)
        have e9 : t_X4_value M p0 p1 p2 p3 = 2 := by unfold t_X4_value; first | (rw [if_neg cn2_1, if_neg c17_2, if_pos c29_3]; done) | (simp only [if_neg cn2_1, if_neg c17_2, if_pos c29_3]; done) | rfl
        exact ⟨by rw [e9]; rfl, by rw [e9]; decide, kw_kept N hq⟩

def f_X4_element (M : Nat → Nat → Int32) (p0 : Int32) (p1 : Int32) (p2 : Int32) (p3 : Int32) : Int32 :=
  if (f_X4_programmeOf M p0) = 0 then 0
  else if (f_X2_elementAt M (p0.toNatClampNeg) p1) = 0 then 0
  else if (f_X4_editionAt M p2) = 0 then 0
  else if (f_X4_isIn p3 0 7) = 0 then 0
  else if p3 = 0 then (M (80 + (12 * (p0.toNatClampNeg) + p1.toNatClampNeg)) 0)
  else if p3 = 1 then (M (80 + (12 * (p0.toNatClampNeg) + p1.toNatClampNeg)) 1)
  else if p3 = 2 then (f_X1_quarters M (12 * (p0.toNatClampNeg) + p1.toNatClampNeg))
  else if p3 = 3 then (if (M (80 + (12 * (p0.toNatClampNeg) + p1.toNatClampNeg)) 2) = 0 then 0
    else 1)
  else if p3 = 4 then (if (M (80 + (12 * (p0.toNatClampNeg) + p1.toNatClampNeg)) 3) = 0 then 0
    else 1)
  else if p3 = 5 then (if (M (80 + (12 * (p0.toNatClampNeg) + p1.toNatClampNeg)) 4) = 0 then 0
    else 1)
  else if p3 = 6 then (f_X1_baseBy M (12 * (p0.toNatClampNeg) + p1.toNatClampNeg) (p2.toNatClampNeg))
  else (f_X1_scoreBy M (12 * (p0.toNatClampNeg) + p1.toNatClampNeg) (p2.toNatClampNeg))
def t_X4_element (M : Nat → Nat → Int32) (p0 : Int32) (p1 : Int32) (p2 : Int32) (p3 : Int32) : Nat :=
  if (f_X4_programmeOf M p0) = 0 then 1
  else if (f_X2_elementAt M (p0.toNatClampNeg) p1) = 0 then 1
  else if (f_X4_editionAt M p2) = 0 then 2
  else if (f_X4_isIn p3 0 7) = 0 then 2
  else if p3 = 0 then 0
  else if p3 = 1 then 0
  else if p3 = 2 then 0
  else if p3 = 3 then (if (M (80 + (12 * (p0.toNatClampNeg) + p1.toNatClampNeg)) 2) = 0 then 0
    else 0)
  else if p3 = 4 then (if (M (80 + (12 * (p0.toNatClampNeg) + p1.toNatClampNeg)) 3) = 0 then 0
    else 0)
  else if p3 = 5 then (if (M (80 + (12 * (p0.toNatClampNeg) + p1.toNatClampNeg)) 4) = 0 then 0
    else 0)
  else if p3 = 6 then 0
  else 0
def g_X4_element (M : Nat → Nat → Int32) (p0 : Int32) (p1 : Int32) (p2 : Int32) (p3 : Int32) : Nat → Nat → Int32 :=
  M
set_option maxHeartbeats 4000000 in
set_option maxRecDepth 100000 in
theorem m_X4_element {D : va_G} {cA : Nat → ClassId} {B : Nat} (l : Launch) {dom : Nat → Prop} {ad : Nat → Nat} {X : Nat → va_E} {H0 : Heap} (M : Nat → Nat → Int32) (p0 : Int32) (p1 : Int32) (p2 : Int32) (p3 : Int32) (N : kw D cA B dom ad X M H0) (d_K : dK dom M) (hls : l.stackTraces = false) : MetX D cA B l yX4_element cX4_element 8 (some .int) 6 82 1 6 [.ref (ad 0), .int p0, .int p1, .int p2, .int p3] H0 (fun o h => o = some (.int (f_X4_element M p0 p1 p2 p3)) ∧ kw D cA B dom ad X (g_X4_element M p0 p1 p2 p3) h ∧ t_X4_element M p0 p1 p2 p3 = 0) (fun E h => E = xn (t_X4_element M p0 p1 p2 p3) ∧ ¬ t_X4_element M p0 p1 p2 p3 = 0 ∧ kw D cA B dom ad X M h) := by
  refine MetX.of (by decide) (Nat.le_of_ble_eq_true rfl) ?_
  intro p e s m args below meth c S hr hlk htab hh K ls hl
  subst hh
  have hS : va_S (fun q => B ≤ q) s.heap s.heap [] := va_S.rf
  have hl : lv_has ls 8 [(0, .ref (ad 0)), (1, .int p0), (2, .int p1), (3, .int p2), (4, .int p3)] := hl
  refine lv_aload_n S.1 S.2.1 dX4_element_0 rfl (lv_at hl 0 rfl) ?_
  refine lv_iload_n S.1 S.2.1 dX4_element_1 rfl (lv_at hl 1 rfl) ?_
  refine kc_rV S K N hS 0 (by unfold crole; omega) (d_K.1 0 (by decide)) (sh_K) (T := TX4) (n := 6) rfl (As := [.int p0]) (m_X4_programmeOf l M p0 N d_K) k1_215 k1_217 kS_1 k1_1 k1_218 (num := 1) (by decide +kernel) rfl ⟨Nat.le_of_ble_eq_true rfl, Nat.le_of_ble_eq_true rfl⟩ hl.1 rfl (Nat.le_of_ble_eq_true rfl) dX4_element_2 ⟨Nat.le_of_ble_eq_true rfl, Nat.le_of_ble_eq_true rfl⟩ ?_
  by_cases cn2_1 : (f_X4_programmeOf M p0) = 0
  · refine nt_a (v2 := .null) (rq_z cn2_1) ?_
    refine lv_astoreN (lv' := [(5, .null), (0, .ref (ad 0)), (1, .int p0), (2, .int p1), (3, .int p2), (4, .int p3)]) S.1 S.2.1 dX4_element_5 hl (by decide) rfl (fun ls hl => ?_)
    refine lv_aloadN S.1 S.2.1 dX4_element_7 (lv_at hl 0 rfl) ?_
    refine lv_ifnonnullN S.1 S.2.1 dX4_element_9 ?_
    refine lv_null S.1 S.2.1 dX4_element_12 ?_
    refine lv_goto (tgt := 22) S.1 S.2.1 dX4_element_13 (by decide) ?_
    refine lv_astoreN (lv' := [(6, .null), (5, .null), (0, .ref (ad 0)), (1, .int p0), (2, .int p1), (3, .int p2), (4, .int p3)]) S.1 S.2.1 dX4_element_22 hl (by decide) rfl (fun ls hl => ?_)
    refine lv_aloadN S.1 S.2.1 dX4_element_24 (lv_at hl 0 rfl) ?_
    refine lv_ifnonnullN S.1 S.2.1 dX4_element_26 ?_
    refine nx_throw (text := "no such skater or element") xw_iob xg_iob (by decide) S hls K hS htab hlk hl.1 k1_219 k1_9 (by decide) dX4_element_29 dX4_element_32 dX4_element_33 dX4_element_35 dX4_element_38 ⟨Nat.le_of_ble_eq_true rfl, Nat.le_of_ble_eq_true rfl, Nat.le_of_ble_eq_true rfl, Nat.le_of_ble_eq_true rfl⟩ (Nat.le_of_ble_eq_true rfl) (Nat.le_of_ble_eq_true rfl) (fun H1 hq => ?_)
    have e9 : t_X4_element M p0 p1 p2 p3 = 1 := by unfold t_X4_element; first | (rw [if_pos cn2_1]; done) | (simp only [if_pos cn2_1]; done) | rfl
    exact ⟨by rw [e9]; rfl, by rw [e9]; decide, kw_kept N hq⟩
  · have hb_cn2_1 := (at_X4_programmeOf cn2_1).1
    refine nt_a (v2 := .ref (ad (40 + (p0.toNatClampNeg)))) (rq_s cn2_1) ?_
    refine lv_astore (lv' := [(5, .ref (ad (40 + (p0.toNatClampNeg)))), (0, .ref (ad 0)), (1, .int p0), (2, .int p1), (3, .int p2), (4, .int p3)]) S.1 S.2.1 dX4_element_5 hl (by decide) rfl (fun ls hl => ?_)
    refine lv_aload S.1 S.2.1 dX4_element_7 (lv_at hl 0 rfl) ?_
    refine lv_ifnonnull (tgt := 16) S.1 S.2.1 dX4_element_9 (by decide) ?_
    refine lv_aload S.1 S.2.1 dX4_element_16 (lv_at hl 0 rfl) ?_
    refine lv_iload_n S.1 S.2.1 dX4_element_18 rfl (lv_at hl 3 rfl) ?_
    refine kc_rV S K N hS (40 + (p0.toNatClampNeg)) (by unfold crole; omega) ((d_K.2.2 _ (at_X4_programmeOf cn2_1).1 (at_X4_programmeOf cn2_1).2.1).1) (sh_P (by omega)) (T := TX2) (n := 12) rfl (As := [.int p1]) (m_X2_elementAt l M (p0.toNatClampNeg) p1 N (by omega) (d_K.2.2 _ (at_X4_programmeOf cn2_1).1 (at_X4_programmeOf cn2_1).2.1)) k2_5 k2_6 k2_7 k1_7 k2_8 (num := 1) (by decide +kernel) rfl ⟨Nat.le_of_ble_eq_true rfl, Nat.le_of_ble_eq_true rfl⟩ hl.1 rfl (Nat.le_of_ble_eq_true rfl) dX4_element_19 ⟨Nat.le_of_ble_eq_true rfl, Nat.le_of_ble_eq_true rfl⟩ ?_
    by_cases cn19_2 : (f_X2_elementAt M (p0.toNatClampNeg) p1) = 0
    · refine nt_a (v2 := .null) (rq_z cn19_2) ?_
      refine lv_astoreN (lv' := [(6, .null), (5, .ref (ad (40 + (p0.toNatClampNeg)))), (0, .ref (ad 0)), (1, .int p0), (2, .int p1), (3, .int p2), (4, .int p3)]) S.1 S.2.1 dX4_element_22 hl (by decide) rfl (fun ls hl => ?_)
      refine lv_aloadN S.1 S.2.1 dX4_element_24 (lv_at hl 0 rfl) ?_
      refine lv_ifnonnullN S.1 S.2.1 dX4_element_26 ?_
      refine nx_throw (text := "no such skater or element") xw_iob xg_iob (by decide) S hls K hS htab hlk hl.1 k1_219 k1_9 (by decide) dX4_element_29 dX4_element_32 dX4_element_33 dX4_element_35 dX4_element_38 ⟨Nat.le_of_ble_eq_true rfl, Nat.le_of_ble_eq_true rfl, Nat.le_of_ble_eq_true rfl, Nat.le_of_ble_eq_true rfl⟩ (Nat.le_of_ble_eq_true rfl) (Nat.le_of_ble_eq_true rfl) (fun H1 hq => ?_)
      have e9 : t_X4_element M p0 p1 p2 p3 = 1 := by unfold t_X4_element; first | (rw [if_neg cn2_1, if_pos cn19_2]; done) | (simp only [if_neg cn2_1, if_pos cn19_2]; done) | rfl
      exact ⟨by rw [e9]; rfl, by rw [e9]; decide, kw_kept N hq⟩
    · have hb_cn19_2 := (at_X2_elementAt cn19_2).1
      refine nt_a (v2 := .ref (ad (80 + (12 * (p0.toNatClampNeg) + p1.toNatClampNeg)))) (rq_s cn19_2) ?_
      refine lv_astore (lv' := [(6, .ref (ad (80 + (12 * (p0.toNatClampNeg) + p1.toNatClampNeg)))), (5, .ref (ad (40 + (p0.toNatClampNeg)))), (0, .ref (ad 0)), (1, .int p0), (2, .int p1), (3, .int p2), (4, .int p3)]) S.1 S.2.1 dX4_element_22 hl (by decide) rfl (fun ls hl => ?_)
      refine lv_aload S.1 S.2.1 dX4_element_24 (lv_at hl 0 rfl) ?_
      refine lv_ifnonnull (tgt := 39) S.1 S.2.1 dX4_element_26 (by decide) ?_
      refine lv_aload_n S.1 S.2.1 dX4_element_39 rfl (lv_at hl 2 rfl) ?_
      refine lv_iload_n S.1 S.2.1 dX4_element_40 rfl (lv_at hl 5 rfl) ?_
      refine kc_rV S K N hS 0 (by unfold crole; omega) (d_K.1 0 (by decide)) (sh_K) (T := TX4) (n := 6) rfl (As := [.int p2]) (m_X4_editionAt l M p2 N d_K) k2_62 k2_64 kS_4 k1_1 k2_65 (num := 1) (by decide +kernel) rfl ⟨Nat.le_of_ble_eq_true rfl, Nat.le_of_ble_eq_true rfl⟩ hl.1 rfl (Nat.le_of_ble_eq_true rfl) dX4_element_41 ⟨Nat.le_of_ble_eq_true rfl, Nat.le_of_ble_eq_true rfl⟩ ?_
      by_cases cn41_3 : (f_X4_editionAt M p2) = 0
      · refine nt_a (v2 := .null) (rq_z cn41_3) ?_
        refine lv_astoreN (lv' := [(7, .null), (6, .ref (ad (80 + (12 * (p0.toNatClampNeg) + p1.toNatClampNeg)))), (5, .ref (ad (40 + (p0.toNatClampNeg)))), (0, .ref (ad 0)), (1, .int p0), (2, .int p1), (3, .int p2), (4, .int p3)]) S.1 S.2.1 dX4_element_44 hl (by decide) rfl (fun ls hl => ?_)
        refine lv_aloadN S.1 S.2.1 dX4_element_46 (lv_at hl 0 rfl) ?_
        refine lv_ifnullN (tgt := 62) S.1 S.2.1 dX4_element_48 (by decide) ?_
        refine nx_throw (text := "no such edition or question") xw_iae xg_iae (by decide) S hls K hS htab hlk hl.1 k2_13 k1_10 (by decide) dX4_element_62 dX4_element_65 dX4_element_66 dX4_element_68 dX4_element_71 ⟨Nat.le_of_ble_eq_true rfl, Nat.le_of_ble_eq_true rfl, Nat.le_of_ble_eq_true rfl, Nat.le_of_ble_eq_true rfl⟩ (Nat.le_of_ble_eq_true rfl) (Nat.le_of_ble_eq_true rfl) (fun H1 hq => ?_)
        have e9 : t_X4_element M p0 p1 p2 p3 = 2 := by unfold t_X4_element; first | (rw [if_neg cn2_1, if_neg cn19_2, if_pos cn41_3]; done) | (simp only [if_neg cn2_1, if_neg cn19_2, if_pos cn41_3]; done) | rfl
        exact ⟨by rw [e9]; rfl, by rw [e9]; decide, kw_kept N hq⟩
      · have hb_cn41_3 := (at_X4_editionAt cn41_3).1
        refine nt_a (v2 := .ref (ad (30 + (p2.toNatClampNeg)))) (rq_s cn41_3) ?_
        refine lv_astore (lv' := [(7, .ref (ad (30 + (p2.toNatClampNeg)))), (6, .ref (ad (80 + (12 * (p0.toNatClampNeg) + p1.toNatClampNeg)))), (5, .ref (ad (40 + (p0.toNatClampNeg)))), (0, .ref (ad 0)), (1, .int p0), (2, .int p1), (3, .int p2), (4, .int p3)]) S.1 S.2.1 dX4_element_44 hl (by decide) rfl (fun ls hl => ?_)
        refine lv_aload S.1 S.2.1 dX4_element_46 (lv_at hl 0 rfl) ?_
        refine lv_ifnull S.1 S.2.1 dX4_element_48 ?_
        refine lv_iload S.1 S.2.1 dX4_element_51 (lv_at hl 7 rfl) ?_
        refine lv_iconst (v := 0) S.1 S.2.1 dX4_element_53 (by decide) ?_
        refine lv_bipush (v := 7) S.1 S.2.1 dX4_element_54 (by decide) ?_
        refine nc_rS S K hS (As := [.int p3, .int 0, .int 7]) (m_X4_isIn l p3 0 7) k2_9 k2_10 k1_1 k2_11 (num := 3) (by decide +kernel) rfl ⟨Nat.le_of_ble_eq_true rfl, Nat.le_of_ble_eq_true rfl⟩ hl.1 rfl (Nat.le_of_ble_eq_true rfl) dX4_element_56 ⟨Nat.le_of_ble_eq_true rfl, Nat.le_of_ble_eq_true rfl⟩ ?_
        refine lv_if_ne (tgt := 72) S.1 S.2.1 dX4_element_59 (by decide) (fun c59_4 => ?_) (fun c59_4 => ?_)
        · refine lv_iload S.1 S.2.1 dX4_element_72 (lv_at hl 7 rfl) ?_
          by_cases cs74_5 : p3 = 0
          · refine lv_tableIn (off := 42) (tgt := 116) S.1 S.2.1 dX4_element_74 (by rw [cs74_5]; decide) (by rw [cs74_5]; decide) (by rw [cs74_5]; rfl) (by decide) ?_
            refine lv_aload S.1 S.2.1 dX4_element_116 (lv_at hl 1 rfl) ?_
            refine kr_getN S K N (80 + (12 * (p0.toNatClampNeg) + p1.toNatClampNeg)) (by unfold crole; omega) (((d_K.2.2 _ (at_X4_programmeOf cn2_1).1 (at_X4_programmeOf cn2_1).2.1).2.2.2.2 _ (at_X2_elementAt cn19_2).1 (at_X2_elementAt cn19_2).2.1).1) (sh_L (by omega)) (C0 := RX1) (T := TX1) (n := 8) rfl iWX1 0 (by decide) (by decide) rfl (v := .int (M (80 + (12 * (p0.toNatClampNeg) + p1.toNatClampNeg)) 0)) rfl dX4_element_118 ?_
            exact vx_ret (vw_zero (Nat.zero_le _) (Nat.zero_le _) (ne_wI S hS hr hlk ⟨congrArg (fun z => some (Value.int z)) (Eq.symm (by unfold f_X4_element; first | (rw [if_neg cn2_1, if_neg cn19_2, if_neg cn41_3, if_neg c59_4, if_pos cs74_5]; done) | (simp only [if_neg cn2_1, if_neg cn19_2, if_neg cn41_3, if_neg c59_4, if_pos cs74_5]; done) | rfl)), (by unfold g_X4_element; first | (rw [if_neg cn2_1, if_neg cn19_2, if_neg cn41_3, if_neg c59_4, if_pos cs74_5]; exact N) | (simp only [if_neg cn2_1, if_neg cn19_2, if_neg cn41_3, if_neg c59_4, if_pos cs74_5]; exact N) | exact N), by unfold t_X4_element; first | (rw [if_neg cn2_1, if_neg cn19_2, if_neg cn41_3, if_neg c59_4, if_pos cs74_5]; done) | (simp only [if_neg cn2_1, if_neg cn19_2, if_neg cn41_3, if_neg c59_4, if_pos cs74_5]; done) | rfl⟩ dX4_element_121))
          · by_cases cs74_6 : p3 = 1
            · refine lv_tableIn (off := 48) (tgt := 122) S.1 S.2.1 dX4_element_74 (by rw [cs74_6]; decide) (by rw [cs74_6]; decide) (by rw [cs74_6]; rfl) (by decide) ?_
              refine lv_aload S.1 S.2.1 dX4_element_122 (lv_at hl 1 rfl) ?_
              refine kr_getN S K N (80 + (12 * (p0.toNatClampNeg) + p1.toNatClampNeg)) (by unfold crole; omega) (((d_K.2.2 _ (at_X4_programmeOf cn2_1).1 (at_X4_programmeOf cn2_1).2.1).2.2.2.2 _ (at_X2_elementAt cn19_2).1 (at_X2_elementAt cn19_2).2.1).1) (sh_L (by omega)) (C0 := RX1) (T := TX1) (n := 8) rfl iWX1 1 (by decide) (by decide) rfl (v := .int (M (80 + (12 * (p0.toNatClampNeg) + p1.toNatClampNeg)) 1)) rfl dX4_element_124 ?_
              exact vx_ret (vw_zero (Nat.zero_le _) (Nat.zero_le _) (ne_wI S hS hr hlk ⟨congrArg (fun z => some (Value.int z)) (Eq.symm (by unfold f_X4_element; first | (rw [if_neg cn2_1, if_neg cn19_2, if_neg cn41_3, if_neg c59_4, if_neg cs74_5, if_pos cs74_6]; done) | (simp only [if_neg cn2_1, if_neg cn19_2, if_neg cn41_3, if_neg c59_4, if_neg cs74_5, if_pos cs74_6]; done) | rfl)), (by unfold g_X4_element; first | (rw [if_neg cn2_1, if_neg cn19_2, if_neg cn41_3, if_neg c59_4, if_neg cs74_5, if_pos cs74_6]; exact N) | (simp only [if_neg cn2_1, if_neg cn19_2, if_neg cn41_3, if_neg c59_4, if_neg cs74_5, if_pos cs74_6]; exact N) | exact N), by unfold t_X4_element; first | (rw [if_neg cn2_1, if_neg cn19_2, if_neg cn41_3, if_neg c59_4, if_neg cs74_5, if_pos cs74_6]; done) | (simp only [if_neg cn2_1, if_neg cn19_2, if_neg cn41_3, if_neg c59_4, if_neg cs74_5, if_pos cs74_6]; done) | rfl⟩ dX4_element_127))
            · by_cases cs74_7 : p3 = 2
              · refine lv_tableIn (off := 54) (tgt := 128) S.1 S.2.1 dX4_element_74 (by rw [cs74_7]; decide) (by rw [cs74_7]; decide) (by rw [cs74_7]; rfl) (by decide) ?_
                refine lv_aload S.1 S.2.1 dX4_element_128 (lv_at hl 1 rfl) ?_
                refine kc_rV S K N hS (80 + (12 * (p0.toNatClampNeg) + p1.toNatClampNeg)) (by unfold crole; omega) (((d_K.2.2 _ (at_X4_programmeOf cn2_1).1 (at_X4_programmeOf cn2_1).2.1).2.2.2.2 _ (at_X2_elementAt cn19_2).1 (at_X2_elementAt cn19_2).2.1).1) (sh_L (by omega)) (T := TX1) (n := 8) rfl (As := []) (m_X1_quarters l M (12 * (p0.toNatClampNeg) + p1.toNatClampNeg) N (by omega) ((d_K.2.2 _ (at_X4_programmeOf cn2_1).1 (at_X4_programmeOf cn2_1).2.1).2.2.2.2 _ (at_X2_elementAt cn19_2).1 (at_X2_elementAt cn19_2).2.1)) k2_81 k2_82 k2_83 k1_11 k2_84 (num := 0) (by decide +kernel) rfl ⟨Nat.le_of_ble_eq_true rfl, Nat.le_of_ble_eq_true rfl⟩ hl.1 rfl (Nat.le_of_ble_eq_true rfl) dX4_element_130 ⟨Nat.le_of_ble_eq_true rfl, Nat.le_of_ble_eq_true rfl⟩ ?_
                exact vx_ret (vw_zero (Nat.zero_le _) (Nat.zero_le _) (ne_wI S hS hr hlk ⟨congrArg (fun z => some (Value.int z)) (Eq.symm (by unfold f_X4_element; first | (rw [if_neg cn2_1, if_neg cn19_2, if_neg cn41_3, if_neg c59_4, if_neg cs74_5, if_neg cs74_6, if_pos cs74_7]; done) | (simp only [if_neg cn2_1, if_neg cn19_2, if_neg cn41_3, if_neg c59_4, if_neg cs74_5, if_neg cs74_6, if_pos cs74_7]; done) | rfl)), (by unfold g_X4_element; first | (rw [if_neg cn2_1, if_neg cn19_2, if_neg cn41_3, if_neg c59_4, if_neg cs74_5, if_neg cs74_6, if_pos cs74_7]; exact N) | (simp only [if_neg cn2_1, if_neg cn19_2, if_neg cn41_3, if_neg c59_4, if_neg cs74_5, if_neg cs74_6, if_pos cs74_7]; exact N) | exact N), by unfold t_X4_element; first | (rw [if_neg cn2_1, if_neg cn19_2, if_neg cn41_3, if_neg c59_4, if_neg cs74_5, if_neg cs74_6, if_pos cs74_7]; done) | (simp only [if_neg cn2_1, if_neg cn19_2, if_neg cn41_3, if_neg c59_4, if_neg cs74_5, if_neg cs74_6, if_pos cs74_7]; done) | rfl⟩ dX4_element_133))
              · by_cases cs74_8 : p3 = 3
                · refine lv_tableIn (off := 60) (tgt := 134) S.1 S.2.1 dX4_element_74 (by rw [cs74_8]; decide) (by rw [cs74_8]; decide) (by rw [cs74_8]; rfl) (by decide) ?_
                  refine lv_aload S.1 S.2.1 dX4_element_134 (lv_at hl 1 rfl) ?_
                  refine kr_getN S K N (80 + (12 * (p0.toNatClampNeg) + p1.toNatClampNeg)) (by unfold crole; omega) (((d_K.2.2 _ (at_X4_programmeOf cn2_1).1 (at_X4_programmeOf cn2_1).2.1).2.2.2.2 _ (at_X2_elementAt cn19_2).1 (at_X2_elementAt cn19_2).2.1).1) (sh_L (by omega)) (C0 := RX1) (T := TX1) (n := 8) rfl iWX1 2 (by decide) (by decide) rfl (v := .int (M (80 + (12 * (p0.toNatClampNeg) + p1.toNatClampNeg)) 2)) rfl dX4_element_136 ?_
                  refine lv_if_eq (tgt := 146) S.1 S.2.1 dX4_element_139 (by decide) (fun c139_9 => ?_) (fun c139_9 => ?_)
                  · refine lv_iconst (v := 0) S.1 S.2.1 dX4_element_146 (by decide) ?_
                    exact vx_ret (vw_zero (Nat.zero_le _) (Nat.zero_le _) (ne_wI S hS hr hlk ⟨congrArg (fun z => some (Value.int z)) (Eq.symm (by unfold f_X4_element; first | (rw [if_neg cn2_1, if_neg cn19_2, if_neg cn41_3, if_neg c59_4, if_neg cs74_5, if_neg cs74_6, if_neg cs74_7, if_pos cs74_8, if_pos c139_9]; done) | (simp only [if_neg cn2_1, if_neg cn19_2, if_neg cn41_3, if_neg c59_4, if_neg cs74_5, if_neg cs74_6, if_neg cs74_7, if_pos cs74_8, if_pos c139_9]; done) | rfl)), (by unfold g_X4_element; first | (rw [if_neg cn2_1, if_neg cn19_2, if_neg cn41_3, if_neg c59_4, if_neg cs74_5, if_neg cs74_6, if_neg cs74_7, if_pos cs74_8, if_pos c139_9]; exact N) | (simp only [if_neg cn2_1, if_neg cn19_2, if_neg cn41_3, if_neg c59_4, if_neg cs74_5, if_neg cs74_6, if_neg cs74_7, if_pos cs74_8, if_pos c139_9]; exact N) | exact N), by unfold t_X4_element; first | (rw [if_neg cn2_1, if_neg cn19_2, if_neg cn41_3, if_neg c59_4, if_neg cs74_5, if_neg cs74_6, if_neg cs74_7, if_pos cs74_8, if_pos c139_9]; done) | (simp only [if_neg cn2_1, if_neg cn19_2, if_neg cn41_3, if_neg c59_4, if_neg cs74_5, if_neg cs74_6, if_neg cs74_7, if_pos cs74_8, if_pos c139_9]; done) | rfl⟩ dX4_element_147))
                  · refine lv_iconst (v := 1) S.1 S.2.1 dX4_element_142 (by decide) ?_
                    refine lv_goto (tgt := 147) S.1 S.2.1 dX4_element_143 (by decide) ?_
                    exact vx_ret (vw_zero (Nat.zero_le _) (Nat.zero_le _) (ne_wI S hS hr hlk ⟨congrArg (fun z => some (Value.int z)) (Eq.symm (by unfold f_X4_element; first | (rw [if_neg cn2_1, if_neg cn19_2, if_neg cn41_3, if_neg c59_4, if_neg cs74_5, if_neg cs74_6, if_neg cs74_7, if_pos cs74_8, if_neg c139_9]; done) | (simp only [if_neg cn2_1, if_neg cn19_2, if_neg cn41_3, if_neg c59_4, if_neg cs74_5, if_neg cs74_6, if_neg cs74_7, if_pos cs74_8, if_neg c139_9]; done) | rfl)), (by unfold g_X4_element; first | (rw [if_neg cn2_1, if_neg cn19_2, if_neg cn41_3, if_neg c59_4, if_neg cs74_5, if_neg cs74_6, if_neg cs74_7, if_pos cs74_8, if_neg c139_9]; exact N) | (simp only [if_neg cn2_1, if_neg cn19_2, if_neg cn41_3, if_neg c59_4, if_neg cs74_5, if_neg cs74_6, if_neg cs74_7, if_pos cs74_8, if_neg c139_9]; exact N) | exact N), by unfold t_X4_element; first | (rw [if_neg cn2_1, if_neg cn19_2, if_neg cn41_3, if_neg c59_4, if_neg cs74_5, if_neg cs74_6, if_neg cs74_7, if_pos cs74_8, if_neg c139_9]; done) | (simp only [if_neg cn2_1, if_neg cn19_2, if_neg cn41_3, if_neg c59_4, if_neg cs74_5, if_neg cs74_6, if_neg cs74_7, if_pos cs74_8, if_neg c139_9]; done) | rfl⟩ dX4_element_147))
                · by_cases cs74_10 : p3 = 4
                  · refine lv_tableIn (off := 74) (tgt := 148) S.1 S.2.1 dX4_element_74 (by rw [cs74_10]; decide) (by rw [cs74_10]; decide) (by rw [cs74_10]; rfl) (by decide) ?_
                    refine lv_aload S.1 S.2.1 dX4_element_148 (lv_at hl 1 rfl) ?_
                    refine kr_getN S K N (80 + (12 * (p0.toNatClampNeg) + p1.toNatClampNeg)) (by unfold crole; omega) (((d_K.2.2 _ (at_X4_programmeOf cn2_1).1 (at_X4_programmeOf cn2_1).2.1).2.2.2.2 _ (at_X2_elementAt cn19_2).1 (at_X2_elementAt cn19_2).2.1).1) (sh_L (by omega)) (C0 := RX1) (T := TX1) (n := 8) rfl iWX1 3 (by decide) (by decide) rfl (v := .int (M (80 + (12 * (p0.toNatClampNeg) + p1.toNatClampNeg)) 3)) rfl dX4_element_150 ?_
                    refine lv_if_eq (tgt := 160) S.1 S.2.1 dX4_element_153 (by decide) (fun c153_11 => ?_) (fun c153_11 => ?_)
                    · refine lv_iconst (v := 0) S.1 S.2.1 dX4_element_160 (by decide) ?_
                      exact vx_ret (vw_zero (Nat.zero_le _) (Nat.zero_le _) (ne_wI S hS hr hlk ⟨congrArg (fun z => some (Value.int z)) (Eq.symm (by unfold f_X4_element; first | (rw [if_neg cn2_1, if_neg cn19_2, if_neg cn41_3, if_neg c59_4, if_neg cs74_5, if_neg cs74_6, if_neg cs74_7, if_neg cs74_8, if_pos cs74_10, if_pos c153_11]; done) | (simp only [if_neg cn2_1, if_neg cn19_2, if_neg cn41_3, if_neg c59_4, if_neg cs74_5, if_neg cs74_6, if_neg cs74_7, if_neg cs74_8, if_pos cs74_10, if_pos c153_11]; done) | rfl)), (by unfold g_X4_element; first | (rw [if_neg cn2_1, if_neg cn19_2, if_neg cn41_3, if_neg c59_4, if_neg cs74_5, if_neg cs74_6, if_neg cs74_7, if_neg cs74_8, if_pos cs74_10, if_pos c153_11]; exact N) | (simp only [if_neg cn2_1, if_neg cn19_2, if_neg cn41_3, if_neg c59_4, if_neg cs74_5, if_neg cs74_6, if_neg cs74_7, if_neg cs74_8, if_pos cs74_10, if_pos c153_11]; exact N) | exact N), by unfold t_X4_element; first | (rw [if_neg cn2_1, if_neg cn19_2, if_neg cn41_3, if_neg c59_4, if_neg cs74_5, if_neg cs74_6, if_neg cs74_7, if_neg cs74_8, if_pos cs74_10, if_pos c153_11]; done) | (simp only [if_neg cn2_1, if_neg cn19_2, if_neg cn41_3, if_neg c59_4, if_neg cs74_5, if_neg cs74_6, if_neg cs74_7, if_neg cs74_8, if_pos cs74_10, if_pos c153_11]; done) | rfl⟩ dX4_element_161))
                    · refine lv_iconst (v := 1) S.1 S.2.1 dX4_element_156 (by decide) ?_
                      refine lv_goto (tgt := 161) S.1 S.2.1 dX4_element_157 (by decide) ?_
                      exact vx_ret (vw_zero (Nat.zero_le _) (Nat.zero_le _) (ne_wI S hS hr hlk ⟨congrArg (fun z => some (Value.int z)) (Eq.symm (by unfold f_X4_element; first | (rw [if_neg cn2_1, if_neg cn19_2, if_neg cn41_3, if_neg c59_4, if_neg cs74_5, if_neg cs74_6, if_neg cs74_7, if_neg cs74_8, if_pos cs74_10, if_neg c153_11]; done) | (simp only [if_neg cn2_1, if_neg cn19_2, if_neg cn41_3, if_neg c59_4, if_neg cs74_5, if_neg cs74_6, if_neg cs74_7, if_neg cs74_8, if_pos cs74_10, if_neg c153_11]; done) | rfl)), (by unfold g_X4_element; first | (rw [if_neg cn2_1, if_neg cn19_2, if_neg cn41_3, if_neg c59_4, if_neg cs74_5, if_neg cs74_6, if_neg cs74_7, if_neg cs74_8, if_pos cs74_10, if_neg c153_11]; exact N) | (simp only [if_neg cn2_1, if_neg cn19_2, if_neg cn41_3, if_neg c59_4, if_neg cs74_5, if_neg cs74_6, if_neg cs74_7, if_neg cs74_8, if_pos cs74_10, if_neg c153_11]; exact N) | exact N), by unfold t_X4_element; first | (rw [if_neg cn2_1, if_neg cn19_2, if_neg cn41_3, if_neg c59_4, if_neg cs74_5, if_neg cs74_6, if_neg cs74_7, if_neg cs74_8, if_pos cs74_10, if_neg c153_11]; done) | (simp only [if_neg cn2_1, if_neg cn19_2, if_neg cn41_3, if_neg c59_4, if_neg cs74_5, if_neg cs74_6, if_neg cs74_7, if_neg cs74_8, if_pos cs74_10, if_neg c153_11]; done) | rfl⟩ dX4_element_161))
                  · by_cases cs74_12 : p3 = 5
                    · refine lv_tableIn (off := 88) (tgt := 162) S.1 S.2.1 dX4_element_74 (by rw [cs74_12]; decide) (by rw [cs74_12]; decide) (by rw [cs74_12]; rfl) (by decide) ?_
                      refine lv_aload S.1 S.2.1 dX4_element_162 (lv_at hl 1 rfl) ?_
                      refine kr_getN S K N (80 + (12 * (p0.toNatClampNeg) + p1.toNatClampNeg)) (by unfold crole; omega) (((d_K.2.2 _ (at_X4_programmeOf cn2_1).1 (at_X4_programmeOf cn2_1).2.1).2.2.2.2 _ (at_X2_elementAt cn19_2).1 (at_X2_elementAt cn19_2).2.1).1) (sh_L (by omega)) (C0 := RX1) (T := TX1) (n := 8) rfl iWX1 4 (by decide) (by decide) rfl (v := .int (M (80 + (12 * (p0.toNatClampNeg) + p1.toNatClampNeg)) 4)) rfl dX4_element_164 ?_
                      refine lv_if_eq (tgt := 174) S.1 S.2.1 dX4_element_167 (by decide) (fun c167_13 => ?_) (fun c167_13 => ?_)
                      · refine lv_iconst (v := 0) S.1 S.2.1 dX4_element_174 (by decide) ?_
                        exact vx_ret (vw_zero (Nat.zero_le _) (Nat.zero_le _) (ne_wI S hS hr hlk ⟨congrArg (fun z => some (Value.int z)) (Eq.symm (by unfold f_X4_element; first | (rw [if_neg cn2_1, if_neg cn19_2, if_neg cn41_3, if_neg c59_4, if_neg cs74_5, if_neg cs74_6, if_neg cs74_7, if_neg cs74_8, if_neg cs74_10, if_pos cs74_12, if_pos c167_13]; done) | (simp only [if_neg cn2_1, if_neg cn19_2, if_neg cn41_3, if_neg c59_4, if_neg cs74_5, if_neg cs74_6, if_neg cs74_7, if_neg cs74_8, if_neg cs74_10, if_pos cs74_12, if_pos c167_13]; done) | rfl)), (by unfold g_X4_element; first | (rw [if_neg cn2_1, if_neg cn19_2, if_neg cn41_3, if_neg c59_4, if_neg cs74_5, if_neg cs74_6, if_neg cs74_7, if_neg cs74_8, if_neg cs74_10, if_pos cs74_12, if_pos c167_13]; exact N) | (simp only [if_neg cn2_1, if_neg cn19_2, if_neg cn41_3, if_neg c59_4, if_neg cs74_5, if_neg cs74_6, if_neg cs74_7, if_neg cs74_8, if_neg cs74_10, if_pos cs74_12, if_pos c167_13]; exact N) | exact N), by unfold t_X4_element; first | (rw [if_neg cn2_1, if_neg cn19_2, if_neg cn41_3, if_neg c59_4, if_neg cs74_5, if_neg cs74_6, if_neg cs74_7, if_neg cs74_8, if_neg cs74_10, if_pos cs74_12, if_pos c167_13]; done) | (simp only [if_neg cn2_1, if_neg cn19_2, if_neg cn41_3, if_neg c59_4, if_neg cs74_5, if_neg cs74_6, if_neg cs74_7, if_neg cs74_8, if_neg cs74_10, if_pos cs74_12, if_pos c167_13]; done) | rfl⟩ dX4_element_175))
                      · refine lv_iconst (v := 1) S.1 S.2.1 dX4_element_170 (by decide) ?_
                        refine lv_goto (tgt := 175) S.1 S.2.1 dX4_element_171 (by decide) ?_
                        exact vx_ret (vw_zero (Nat.zero_le _) (Nat.zero_le _) (ne_wI S hS hr hlk ⟨congrArg (fun z => some (Value.int z)) (Eq.symm (by unfold f_X4_element; first | (rw [if_neg cn2_1, if_neg cn19_2, if_neg cn41_3, if_neg c59_4, if_neg cs74_5, if_neg cs74_6, if_neg cs74_7, if_neg cs74_8, if_neg cs74_10, if_pos cs74_12, if_neg c167_13]; done) | (simp only [if_neg cn2_1, if_neg cn19_2, if_neg cn41_3, if_neg c59_4, if_neg cs74_5, if_neg cs74_6, if_neg cs74_7, if_neg cs74_8, if_neg cs74_10, if_pos cs74_12, if_neg c167_13]; done) | rfl)), (by unfold g_X4_element; first | (rw [if_neg cn2_1, if_neg cn19_2, if_neg cn41_3, if_neg c59_4, if_neg cs74_5, if_neg cs74_6, if_neg cs74_7, if_neg cs74_8, if_neg cs74_10, if_pos cs74_12, if_neg c167_13]; exact N) | (simp only [if_neg cn2_1, if_neg cn19_2, if_neg cn41_3, if_neg c59_4, if_neg cs74_5, if_neg cs74_6, if_neg cs74_7, if_neg cs74_8, if_neg cs74_10, if_pos cs74_12, if_neg c167_13]; exact N) | exact N), by unfold t_X4_element; first | (rw [if_neg cn2_1, if_neg cn19_2, if_neg cn41_3, if_neg c59_4, if_neg cs74_5, if_neg cs74_6, if_neg cs74_7, if_neg cs74_8, if_neg cs74_10, if_pos cs74_12, if_neg c167_13]; done) | (simp only [if_neg cn2_1, if_neg cn19_2, if_neg cn41_3, if_neg c59_4, if_neg cs74_5, if_neg cs74_6, if_neg cs74_7, if_neg cs74_8, if_neg cs74_10, if_pos cs74_12, if_neg c167_13]; done) | rfl⟩ dX4_element_175))
                    · by_cases cs74_14 : p3 = 6
                      · refine lv_tableIn (off := 102) (tgt := 176) S.1 S.2.1 dX4_element_74 (by rw [cs74_14]; decide) (by rw [cs74_14]; decide) (by rw [cs74_14]; rfl) (by decide) ?_
                        refine lv_aload S.1 S.2.1 dX4_element_176 (lv_at hl 1 rfl) ?_
                        refine lv_aload S.1 S.2.1 dX4_element_178 (lv_at hl 0 rfl) ?_
                        refine kc_rV S K N hS (80 + (12 * (p0.toNatClampNeg) + p1.toNatClampNeg)) (by unfold crole; omega) (((d_K.2.2 _ (at_X4_programmeOf cn2_1).1 (at_X4_programmeOf cn2_1).2.1).2.2.2.2 _ (at_X2_elementAt cn19_2).1 (at_X2_elementAt cn19_2).2.1).1) (sh_L (by omega)) (T := TX1) (n := 8) rfl (As := [.ref (ad (30 + (p2.toNatClampNeg)))]) (m_X1_baseBy l M (12 * (p0.toNatClampNeg) + p1.toNatClampNeg) (p2.toNatClampNeg) N (by omega) ((d_K.2.2 _ (at_X4_programmeOf cn2_1).1 (at_X4_programmeOf cn2_1).2.1).2.2.2.2 _ (at_X2_elementAt cn19_2).1 (at_X2_elementAt cn19_2).2.1) (by omega) (d_K.2.1 _ (at_X4_editionAt cn41_3).1)) k2_89 k2_90 k2_91 k1_11 k2_92 (num := 1) (by decide +kernel) rfl ⟨Nat.le_of_ble_eq_true rfl, Nat.le_of_ble_eq_true rfl⟩ hl.1 rfl (Nat.le_of_ble_eq_true rfl) dX4_element_180 ⟨Nat.le_of_ble_eq_true rfl, Nat.le_of_ble_eq_true rfl⟩ ?_
                        exact vx_ret (vw_zero (Nat.zero_le _) (Nat.zero_le _) (ne_wI S hS hr hlk ⟨congrArg (fun z => some (Value.int z)) (Eq.symm (by unfold f_X4_element; first | (rw [if_neg cn2_1, if_neg cn19_2, if_neg cn41_3, if_neg c59_4, if_neg cs74_5, if_neg cs74_6, if_neg cs74_7, if_neg cs74_8, if_neg cs74_10, if_neg cs74_12, if_pos cs74_14]; done) | (simp only [if_neg cn2_1, if_neg cn19_2, if_neg cn41_3, if_neg c59_4, if_neg cs74_5, if_neg cs74_6, if_neg cs74_7, if_neg cs74_8, if_neg cs74_10, if_neg cs74_12, if_pos cs74_14]; done) | rfl)), (by unfold g_X4_element; first | (rw [if_neg cn2_1, if_neg cn19_2, if_neg cn41_3, if_neg c59_4, if_neg cs74_5, if_neg cs74_6, if_neg cs74_7, if_neg cs74_8, if_neg cs74_10, if_neg cs74_12, if_pos cs74_14]; exact N) | (simp only [if_neg cn2_1, if_neg cn19_2, if_neg cn41_3, if_neg c59_4, if_neg cs74_5, if_neg cs74_6, if_neg cs74_7, if_neg cs74_8, if_neg cs74_10, if_neg cs74_12, if_pos cs74_14]; exact N) | exact N), by unfold t_X4_element; first | (rw [if_neg cn2_1, if_neg cn19_2, if_neg cn41_3, if_neg c59_4, if_neg cs74_5, if_neg cs74_6, if_neg cs74_7, if_neg cs74_8, if_neg cs74_10, if_neg cs74_12, if_pos cs74_14]; done) | (simp only [if_neg cn2_1, if_neg cn19_2, if_neg cn41_3, if_neg c59_4, if_neg cs74_5, if_neg cs74_6, if_neg cs74_7, if_neg cs74_8, if_neg cs74_10, if_neg cs74_12, if_pos cs74_14]; done) | rfl⟩ dX4_element_183))
                      · refine lv_tableOut (tgt := 184) S.1 S.2.1 dX4_element_74 (by have q0 := tb_ne cs74_5; have q1 := tb_ne cs74_6; have q2 := tb_ne cs74_7; have q3 := tb_ne cs74_8; have q4 := tb_ne cs74_10; have q5 := tb_ne cs74_12; have q6 := tb_ne cs74_14; rw [show (0 : Int32).toInt = 0 from rfl] at q0; rw [show (1 : Int32).toInt = 1 from rfl] at q1; rw [show (2 : Int32).toInt = 2 from rfl] at q2; rw [show (3 : Int32).toInt = 3 from rfl] at q3; rw [show (4 : Int32).toInt = 4 from rfl] at q4; rw [show (5 : Int32).toInt = 5 from rfl] at q5; rw [show (6 : Int32).toInt = 6 from rfl] at q6; omega) (by decide) ?_
                        refine lv_aload S.1 S.2.1 dX4_element_184 (lv_at hl 1 rfl) ?_
                        refine lv_aload S.1 S.2.1 dX4_element_186 (lv_at hl 0 rfl) ?_
                        refine kc_rV S K N hS (80 + (12 * (p0.toNatClampNeg) + p1.toNatClampNeg)) (by unfold crole; omega) (((d_K.2.2 _ (at_X4_programmeOf cn2_1).1 (at_X4_programmeOf cn2_1).2.1).2.2.2.2 _ (at_X2_elementAt cn19_2).1 (at_X2_elementAt cn19_2).2.1).1) (sh_L (by omega)) (T := TX1) (n := 8) rfl (As := [.ref (ad (30 + (p2.toNatClampNeg)))]) (m_X1_scoreBy l M (12 * (p0.toNatClampNeg) + p1.toNatClampNeg) (p2.toNatClampNeg) N (by omega) ((d_K.2.2 _ (at_X4_programmeOf cn2_1).1 (at_X4_programmeOf cn2_1).2.1).2.2.2.2 _ (at_X2_elementAt cn19_2).1 (at_X2_elementAt cn19_2).2.1) (by omega) (d_K.2.1 _ (at_X4_editionAt cn41_3).1)) k2_104 k2_105 k2_106 k1_11 k2_107 (num := 1) (by decide +kernel) rfl ⟨Nat.le_of_ble_eq_true rfl, Nat.le_of_ble_eq_true rfl⟩ hl.1 rfl (Nat.le_of_ble_eq_true rfl) dX4_element_188 ⟨Nat.le_of_ble_eq_true rfl, Nat.le_of_ble_eq_true rfl⟩ ?_
                        exact vx_ret (vw_zero (Nat.zero_le _) (Nat.zero_le _) (ne_wI S hS hr hlk ⟨congrArg (fun z => some (Value.int z)) (Eq.symm (by unfold f_X4_element; first | (rw [if_neg cn2_1, if_neg cn19_2, if_neg cn41_3, if_neg c59_4, if_neg cs74_5, if_neg cs74_6, if_neg cs74_7, if_neg cs74_8, if_neg cs74_10, if_neg cs74_12, if_neg cs74_14]; done) | (simp only [if_neg cn2_1, if_neg cn19_2, if_neg cn41_3, if_neg c59_4, if_neg cs74_5, if_neg cs74_6, if_neg cs74_7, if_neg cs74_8, if_neg cs74_10, if_neg cs74_12, if_neg cs74_14]; done) | rfl)), (by unfold g_X4_element; first | (rw [if_neg cn2_1, if_neg cn19_2, if_neg cn41_3, if_neg c59_4, if_neg cs74_5, if_neg cs74_6, if_neg cs74_7, if_neg cs74_8, if_neg cs74_10, if_neg cs74_12, if_neg cs74_14]; exact N) | (simp only [if_neg cn2_1, if_neg cn19_2, if_neg cn41_3, if_neg c59_4, if_neg cs74_5, if_neg cs74_6, if_neg cs74_7, if_neg cs74_8, if_neg cs74_10, if_neg cs74_12, if_neg cs74_14]; exact N) | exact N), by unfold t_X4_element; first | (rw [if_neg cn2_1, if_neg cn19_2, if_neg cn41_3, if_neg c59_4, if_neg cs74_5, if_neg cs74_6, if_neg cs74_7, if_neg cs74_8, if_neg cs74_10, if_neg cs74_12, if_neg cs74_14]; done) | (simp only [if_neg cn2_1, if_neg cn19_2, if_neg cn41_3, if_neg c59_4, if_neg cs74_5, if_neg cs74_6, if_neg cs74_7, if_neg cs74_8, if_neg cs74_10, if_neg cs74_12, if_neg cs74_14]; done) | rfl⟩ dX4_element_191))
        · refine nx_throw (text := "no such edition or question") xw_iae xg_iae (by decide) S hls K hS htab hlk hl.1 k2_13 k1_10 (by decide) dX4_element_62 dX4_element_65 dX4_element_66 dX4_element_68 dX4_element_71 ⟨Nat.le_of_ble_eq_true rfl, Nat.le_of_ble_eq_true rfl, Nat.le_of_ble_eq_true rfl, Nat.le_of_ble_eq_true rfl⟩ (Nat.le_of_ble_eq_true rfl) (Nat.le_of_ble_eq_true rfl) (fun H1 hq => ?_)
          have e9 : t_X4_element M p0 p1 p2 p3 = 2 := by unfold t_X4_element; first | (rw [if_neg cn2_1, if_neg cn19_2, if_neg cn41_3, if_pos c59_4]; done) | (simp only [if_neg cn2_1, if_neg cn19_2, if_neg cn41_3, if_pos c59_4]; done) | rfl
          exact ⟨by rw [e9]; rfl, by rw [e9]; decide, kw_kept N hq⟩

def f_X4_programme (M : Nat → Nat → Int32) (p0 : Int32) (p1 : Int32) (p2 : Int32) : Int32 :=
  if (f_X4_programmeOf M p0) = 0 then 0
  else if (f_X4_editionAt M p1) = 0 then 0
  else if (f_X4_isIn p2 0 5) = 0 then 0
  else if p2 = 0 then (f_X2_elementScoresBy M (p0.toNatClampNeg) (p1.toNatClampNeg))
  else if p2 = 1 then (f_X2_componentScores M (p0.toNatClampNeg))
  else if p2 = 2 then (f_X2_fine M (p0.toNatClampNeg))
  else if p2 = 3 then (f_X2_totalOf M (p0.toNatClampNeg) (f_X2_elementScoresBy M (p0.toNatClampNeg) (p1.toNatClampNeg)))
  else if p2 = 4 then (M (40 + (p0.toNatClampNeg)) 7)
  else (f_X4_rankOf (g_X4_fillRanking M (p1.toNatClampNeg)) p0)
def t_X4_programme (M : Nat → Nat → Int32) (p0 : Int32) (p1 : Int32) (p2 : Int32) : Nat :=
  if (f_X4_programmeOf M p0) = 0 then 1
  else if (f_X4_editionAt M p1) = 0 then 2
  else if (f_X4_isIn p2 0 5) = 0 then 2
  else if p2 = 0 then 0
  else if p2 = 1 then 0
  else if p2 = 2 then 0
  else if p2 = 3 then 0
  else if p2 = 4 then 0
  else 0
def g_X4_programme (M : Nat → Nat → Int32) (p0 : Int32) (p1 : Int32) (p2 : Int32) : Nat → Nat → Int32 :=
  if (f_X4_programmeOf M p0) = 0 then M
  else if (f_X4_editionAt M p1) = 0 then M
  else if (f_X4_isIn p2 0 5) = 0 then M
  else if p2 = 0 then M
  else if p2 = 1 then M
  else if p2 = 2 then M
  else if p2 = 3 then M
  else if p2 = 4 then M
  else (g_X4_fillRanking M (p1.toNatClampNeg))
set_option maxHeartbeats 4000000 in
set_option maxRecDepth 100000 in
theorem m_X4_programme {D : va_G} {cA : Nat → ClassId} {B : Nat} (l : Launch) {dom : Nat → Prop} {ad : Nat → Nat} {X : Nat → va_E} {H0 : Heap} (M : Nat → Nat → Int32) (p0 : Int32) (p1 : Int32) (p2 : Int32) (N : kw D cA B dom ad X M H0) (d_K : dK dom M) (hls : l.stackTraces = false) : MetX D cA B l yX4_programme cX4_programme 6 (some .int) 6 119 1 6 [.ref (ad 0), .int p0, .int p1, .int p2] H0 (fun o h => o = some (.int (f_X4_programme M p0 p1 p2)) ∧ kw D cA B dom ad X (g_X4_programme M p0 p1 p2) h ∧ t_X4_programme M p0 p1 p2 = 0) (fun E h => E = xn (t_X4_programme M p0 p1 p2) ∧ ¬ t_X4_programme M p0 p1 p2 = 0 ∧ kw D cA B dom ad X M h) := by
  refine MetX.of (by decide) (Nat.le_of_ble_eq_true rfl) ?_
  intro p e s m args below meth c S hr hlk htab hh K ls hl
  subst hh
  have hS : va_S (fun q => B ≤ q) s.heap s.heap [] := va_S.rf
  have hl : lv_has ls 6 [(0, .ref (ad 0)), (1, .int p0), (2, .int p1), (3, .int p2)] := hl
  refine lv_aload_n S.1 S.2.1 dX4_programme_0 rfl (lv_at hl 0 rfl) ?_
  refine lv_iload_n S.1 S.2.1 dX4_programme_1 rfl (lv_at hl 1 rfl) ?_
  refine kc_rV S K N hS 0 (by unfold crole; omega) (d_K.1 0 (by decide)) (sh_K) (T := TX4) (n := 6) rfl (As := [.int p0]) (m_X4_programmeOf l M p0 N d_K) k1_215 k1_217 kS_1 k1_1 k1_218 (num := 1) (by decide +kernel) rfl ⟨Nat.le_of_ble_eq_true rfl, Nat.le_of_ble_eq_true rfl⟩ hl.1 rfl (Nat.le_of_ble_eq_true rfl) dX4_programme_2 ⟨Nat.le_of_ble_eq_true rfl, Nat.le_of_ble_eq_true rfl⟩ ?_
  by_cases cn2_1 : (f_X4_programmeOf M p0) = 0
  · refine nt_a (v2 := .null) (rq_z cn2_1) ?_
    refine lv_astoreN (lv' := [(4, .null), (0, .ref (ad 0)), (1, .int p0), (2, .int p1), (3, .int p2)]) S.1 S.2.1 dX4_programme_5 hl (by decide) rfl (fun ls hl => ?_)
    refine lv_aloadN S.1 S.2.1 dX4_programme_7 (lv_at hl 0 rfl) ?_
    refine lv_ifnonnullN S.1 S.2.1 dX4_programme_9 ?_
    refine nx_throw (text := "no such skater") xw_iob xg_iob (by decide) S hls K hS htab hlk hl.1 k1_219 k1_9 (by decide) dX4_programme_12 dX4_programme_15 dX4_programme_16 dX4_programme_18 dX4_programme_21 ⟨Nat.le_of_ble_eq_true rfl, Nat.le_of_ble_eq_true rfl, Nat.le_of_ble_eq_true rfl, Nat.le_of_ble_eq_true rfl⟩ (Nat.le_of_ble_eq_true rfl) (Nat.le_of_ble_eq_true rfl) (fun H1 hq => ?_)
    have e9 : t_X4_programme M p0 p1 p2 = 1 := by unfold t_X4_programme; first | (rw [if_pos cn2_1]; done) | (simp only [if_pos cn2_1]; done) | rfl
    exact ⟨by rw [e9]; rfl, by rw [e9]; decide, kw_kept N hq⟩
  · have hb_cn2_1 := (at_X4_programmeOf cn2_1).1
    refine nt_a (v2 := .ref (ad (40 + (p0.toNatClampNeg)))) (rq_s cn2_1) ?_
    refine lv_astore (lv' := [(4, .ref (ad (40 + (p0.toNatClampNeg)))), (0, .ref (ad 0)), (1, .int p0), (2, .int p1), (3, .int p2)]) S.1 S.2.1 dX4_programme_5 hl (by decide) rfl (fun ls hl => ?_)
    refine lv_aload S.1 S.2.1 dX4_programme_7 (lv_at hl 0 rfl) ?_
    refine lv_ifnonnull (tgt := 22) S.1 S.2.1 dX4_programme_9 (by decide) ?_
    refine lv_aload_n S.1 S.2.1 dX4_programme_22 rfl (lv_at hl 1 rfl) ?_
    refine lv_iload_n S.1 S.2.1 dX4_programme_23 rfl (lv_at hl 3 rfl) ?_
    refine kc_rV S K N hS 0 (by unfold crole; omega) (d_K.1 0 (by decide)) (sh_K) (T := TX4) (n := 6) rfl (As := [.int p1]) (m_X4_editionAt l M p1 N d_K) k2_62 k2_64 kS_4 k1_1 k2_65 (num := 1) (by decide +kernel) rfl ⟨Nat.le_of_ble_eq_true rfl, Nat.le_of_ble_eq_true rfl⟩ hl.1 rfl (Nat.le_of_ble_eq_true rfl) dX4_programme_24 ⟨Nat.le_of_ble_eq_true rfl, Nat.le_of_ble_eq_true rfl⟩ ?_
    by_cases cn24_2 : (f_X4_editionAt M p1) = 0
    · refine nt_a (v2 := .null) (rq_z cn24_2) ?_
      refine lv_astoreN (lv' := [(5, .null), (4, .ref (ad (40 + (p0.toNatClampNeg)))), (0, .ref (ad 0)), (1, .int p0), (2, .int p1), (3, .int p2)]) S.1 S.2.1 dX4_programme_27 hl (by decide) rfl (fun ls hl => ?_)
      refine lv_aloadN S.1 S.2.1 dX4_programme_29 (lv_at hl 0 rfl) ?_
      refine lv_ifnullN (tgt := 43) S.1 S.2.1 dX4_programme_31 (by decide) ?_
      refine nx_throw (text := "no such edition or question") xw_iae xg_iae (by decide) S hls K hS htab hlk hl.1 k2_13 k1_10 (by decide) dX4_programme_43 dX4_programme_46 dX4_programme_47 dX4_programme_49 dX4_programme_52 ⟨Nat.le_of_ble_eq_true rfl, Nat.le_of_ble_eq_true rfl, Nat.le_of_ble_eq_true rfl, Nat.le_of_ble_eq_true rfl⟩ (Nat.le_of_ble_eq_true rfl) (Nat.le_of_ble_eq_true rfl) (fun H1 hq => ?_)
      have e9 : t_X4_programme M p0 p1 p2 = 2 := by unfold t_X4_programme; first | (rw [if_neg cn2_1, if_pos cn24_2]; done) | (simp only [if_neg cn2_1, if_pos cn24_2]; done) | rfl
      exact ⟨by rw [e9]; rfl, by rw [e9]; decide, kw_kept N hq⟩
    · have hb_cn24_2 := (at_X4_editionAt cn24_2).1
      refine nt_a (v2 := .ref (ad (30 + (p1.toNatClampNeg)))) (rq_s cn24_2) ?_
      refine lv_astore (lv' := [(5, .ref (ad (30 + (p1.toNatClampNeg)))), (4, .ref (ad (40 + (p0.toNatClampNeg)))), (0, .ref (ad 0)), (1, .int p0), (2, .int p1), (3, .int p2)]) S.1 S.2.1 dX4_programme_27 hl (by decide) rfl (fun ls hl => ?_)
      refine lv_aload S.1 S.2.1 dX4_programme_29 (lv_at hl 0 rfl) ?_
      refine lv_ifnull S.1 S.2.1 dX4_programme_31 ?_
      refine lv_iload_n S.1 S.2.1 dX4_programme_34 rfl (lv_at hl 5 rfl) ?_
      refine lv_iconst (v := 0) S.1 S.2.1 dX4_programme_35 (by decide) ?_
      refine lv_iconst (v := 5) S.1 S.2.1 dX4_programme_36 (by decide) ?_
      refine nc_rS S K hS (As := [.int p2, .int 0, .int 5]) (m_X4_isIn l p2 0 5) k2_9 k2_10 k1_1 k2_11 (num := 3) (by decide +kernel) rfl ⟨Nat.le_of_ble_eq_true rfl, Nat.le_of_ble_eq_true rfl⟩ hl.1 rfl (Nat.le_of_ble_eq_true rfl) dX4_programme_37 ⟨Nat.le_of_ble_eq_true rfl, Nat.le_of_ble_eq_true rfl⟩ ?_
      refine lv_if_ne (tgt := 53) S.1 S.2.1 dX4_programme_40 (by decide) (fun c40_3 => ?_) (fun c40_3 => ?_)
      · refine lv_iload_n S.1 S.2.1 dX4_programme_53 rfl (lv_at hl 5 rfl) ?_
        by_cases cs54_4 : p2 = 0
        · refine lv_tableIn (off := 34) (tgt := 88) S.1 S.2.1 dX4_programme_54 (by rw [cs54_4]; decide) (by rw [cs54_4]; decide) (by rw [cs54_4]; rfl) (by decide) ?_
          refine lv_aload S.1 S.2.1 dX4_programme_88 (lv_at hl 1 rfl) ?_
          refine lv_aload S.1 S.2.1 dX4_programme_90 (lv_at hl 0 rfl) ?_
          refine kc_rV S K N hS (40 + (p0.toNatClampNeg)) (by unfold crole; omega) ((d_K.2.2 _ (at_X4_programmeOf cn2_1).1 (at_X4_programmeOf cn2_1).2.1).1) (sh_P (by omega)) (T := TX2) (n := 12) rfl (As := [.ref (ad (30 + (p1.toNatClampNeg)))]) (m_X2_elementScoresBy l M (p0.toNatClampNeg) (p1.toNatClampNeg) N (by omega) (d_K.2.2 _ (at_X4_programmeOf cn2_1).1 (at_X4_programmeOf cn2_1).2.1) (by omega) (d_K.2.1 _ (at_X4_editionAt cn24_2).1)) k2_118 k2_119 k2_120 k1_7 k2_121 (num := 1) (by decide +kernel) rfl ⟨Nat.le_of_ble_eq_true rfl, Nat.le_of_ble_eq_true rfl⟩ hl.1 rfl (Nat.le_of_ble_eq_true rfl) dX4_programme_92 ⟨Nat.le_of_ble_eq_true rfl, Nat.le_of_ble_eq_true rfl⟩ ?_
          exact vx_ret (vw_zero (Nat.zero_le _) (Nat.zero_le _) (ne_wI S hS hr hlk ⟨congrArg (fun z => some (Value.int z)) (Eq.symm (by unfold f_X4_programme; first | (rw [if_neg cn2_1, if_neg cn24_2, if_neg c40_3, if_pos cs54_4]; done) | (simp only [if_neg cn2_1, if_neg cn24_2, if_neg c40_3, if_pos cs54_4]; done) | rfl)), (by unfold g_X4_programme; first | (rw [if_neg cn2_1, if_neg cn24_2, if_neg c40_3, if_pos cs54_4]; exact N) | (simp only [if_neg cn2_1, if_neg cn24_2, if_neg c40_3, if_pos cs54_4]; exact N) | exact N), by unfold t_X4_programme; first | (rw [if_neg cn2_1, if_neg cn24_2, if_neg c40_3, if_pos cs54_4]; done) | (simp only [if_neg cn2_1, if_neg cn24_2, if_neg c40_3, if_pos cs54_4]; done) | rfl⟩ dX4_programme_95))
        · by_cases cs54_5 : p2 = 1
          · refine lv_tableIn (off := 42) (tgt := 96) S.1 S.2.1 dX4_programme_54 (by rw [cs54_5]; decide) (by rw [cs54_5]; decide) (by rw [cs54_5]; rfl) (by decide) ?_
            refine lv_aload S.1 S.2.1 dX4_programme_96 (lv_at hl 1 rfl) ?_
            refine kc_rV S K N hS (40 + (p0.toNatClampNeg)) (by unfold crole; omega) ((d_K.2.2 _ (at_X4_programmeOf cn2_1).1 (at_X4_programmeOf cn2_1).2.1).1) (sh_P (by omega)) (T := TX2) (n := 12) rfl (As := []) (m_X2_componentScores l M (p0.toNatClampNeg) N (by omega) (d_K.2.2 _ (at_X4_programmeOf cn2_1).1 (at_X4_programmeOf cn2_1).2.1)) k2_123 k2_124 k2_125 k1_7 k2_126 (num := 0) (by decide +kernel) rfl ⟨Nat.le_of_ble_eq_true rfl, Nat.le_of_ble_eq_true rfl⟩ hl.1 rfl (Nat.le_of_ble_eq_true rfl) dX4_programme_98 ⟨Nat.le_of_ble_eq_true rfl, Nat.le_of_ble_eq_true rfl⟩ ?_
            exact vx_ret (vw_zero (Nat.zero_le _) (Nat.zero_le _) (ne_wI S hS hr hlk ⟨congrArg (fun z => some (Value.int z)) (Eq.symm (by unfold f_X4_programme; first | (rw [if_neg cn2_1, if_neg cn24_2, if_neg c40_3, if_neg cs54_4, if_pos cs54_5]; done) | (simp only [if_neg cn2_1, if_neg cn24_2, if_neg c40_3, if_neg cs54_4, if_pos cs54_5]; done) | rfl)), (by unfold g_X4_programme; first | (rw [if_neg cn2_1, if_neg cn24_2, if_neg c40_3, if_neg cs54_4, if_pos cs54_5]; exact N) | (simp only [if_neg cn2_1, if_neg cn24_2, if_neg c40_3, if_neg cs54_4, if_pos cs54_5]; exact N) | exact N), by unfold t_X4_programme; first | (rw [if_neg cn2_1, if_neg cn24_2, if_neg c40_3, if_neg cs54_4, if_pos cs54_5]; done) | (simp only [if_neg cn2_1, if_neg cn24_2, if_neg c40_3, if_neg cs54_4, if_pos cs54_5]; done) | rfl⟩ dX4_programme_101))
          · by_cases cs54_6 : p2 = 2
            · refine lv_tableIn (off := 48) (tgt := 102) S.1 S.2.1 dX4_programme_54 (by rw [cs54_6]; decide) (by rw [cs54_6]; decide) (by rw [cs54_6]; rfl) (by decide) ?_
              refine lv_aload S.1 S.2.1 dX4_programme_102 (lv_at hl 1 rfl) ?_
              refine kc_rV S K N hS (40 + (p0.toNatClampNeg)) (by unfold crole; omega) ((d_K.2.2 _ (at_X4_programmeOf cn2_1).1 (at_X4_programmeOf cn2_1).2.1).1) (sh_P (by omega)) (T := TX2) (n := 12) rfl (As := []) (m_X2_fine l M (p0.toNatClampNeg) N (by omega) (d_K.2.2 _ (at_X4_programmeOf cn2_1).1 (at_X4_programmeOf cn2_1).2.1)) k2_134 k2_135 k2_136 k1_7 k2_137 (num := 0) (by decide +kernel) rfl ⟨Nat.le_of_ble_eq_true rfl, Nat.le_of_ble_eq_true rfl⟩ hl.1 rfl (Nat.le_of_ble_eq_true rfl) dX4_programme_104 ⟨Nat.le_of_ble_eq_true rfl, Nat.le_of_ble_eq_true rfl⟩ ?_
              exact vx_ret (vw_zero (Nat.zero_le _) (Nat.zero_le _) (ne_wI S hS hr hlk ⟨congrArg (fun z => some (Value.int z)) (Eq.symm (by unfold f_X4_programme; first | (rw [if_neg cn2_1, if_neg cn24_2, if_neg c40_3, if_neg cs54_4, if_neg cs54_5, if_pos cs54_6]; done) | (simp only [if_neg cn2_1, if_neg cn24_2, if_neg c40_3, if_neg cs54_4, if_neg cs54_5, if_pos cs54_6]; done) | rfl)), (by unfold g_X4_programme; first | (rw [if_neg cn2_1, if_neg cn24_2, if_neg c40_3, if_neg cs54_4, if_neg cs54_5, if_pos cs54_6]; exact N) | (simp only [if_neg cn2_1, if_neg cn24_2, if_neg c40_3, if_neg cs54_4, if_neg cs54_5, if_pos cs54_6]; exact N) | exact N), by unfold t_X4_programme; first | (rw [if_neg cn2_1, if_neg cn24_2, if_neg c40_3, if_neg cs54_4, if_neg cs54_5, if_pos cs54_6]; done) | (simp only [if_neg cn2_1, if_neg cn24_2, if_neg c40_3, if_neg cs54_4, if_neg cs54_5, if_pos cs54_6]; done) | rfl⟩ dX4_programme_107))
            · by_cases cs54_7 : p2 = 3
              · refine lv_tableIn (off := 54) (tgt := 108) S.1 S.2.1 dX4_programme_54 (by rw [cs54_7]; decide) (by rw [cs54_7]; decide) (by rw [cs54_7]; rfl) (by decide) ?_
                refine lv_aload S.1 S.2.1 dX4_programme_108 (lv_at hl 1 rfl) ?_
                refine lv_aload S.1 S.2.1 dX4_programme_110 (lv_at hl 1 rfl) ?_
                refine lv_aload S.1 S.2.1 dX4_programme_112 (lv_at hl 0 rfl) ?_
                refine kc_rV S K N hS (40 + (p0.toNatClampNeg)) (by unfold crole; omega) ((d_K.2.2 _ (at_X4_programmeOf cn2_1).1 (at_X4_programmeOf cn2_1).2.1).1) (sh_P (by omega)) (T := TX2) (n := 12) rfl (As := [.ref (ad (30 + (p1.toNatClampNeg)))]) (m_X2_elementScoresBy l M (p0.toNatClampNeg) (p1.toNatClampNeg) N (by omega) (d_K.2.2 _ (at_X4_programmeOf cn2_1).1 (at_X4_programmeOf cn2_1).2.1) (by omega) (d_K.2.1 _ (at_X4_editionAt cn24_2).1)) k2_118 k2_119 k2_120 k1_7 k2_121 (num := 1) (by decide +kernel) rfl ⟨Nat.le_of_ble_eq_true rfl, Nat.le_of_ble_eq_true rfl⟩ hl.1 rfl (Nat.le_of_ble_eq_true rfl) dX4_programme_114 ⟨Nat.le_of_ble_eq_true rfl, Nat.le_of_ble_eq_true rfl⟩ ?_
                refine kc_rV S K N hS (40 + (p0.toNatClampNeg)) (by unfold crole; omega) ((d_K.2.2 _ (at_X4_programmeOf cn2_1).1 (at_X4_programmeOf cn2_1).2.1).1) (sh_P (by omega)) (T := TX2) (n := 12) rfl (As := [.int (f_X2_elementScoresBy M (p0.toNatClampNeg) (p1.toNatClampNeg))]) (m_X2_totalOf l M (p0.toNatClampNeg) (f_X2_elementScoresBy M (p0.toNatClampNeg) (p1.toNatClampNeg)) N (by omega) (d_K.2.2 _ (at_X4_programmeOf cn2_1).1 (at_X4_programmeOf cn2_1).2.1)) k2_139 k2_140 k2_141 k1_7 k2_142 (num := 1) (by decide +kernel) rfl ⟨Nat.le_of_ble_eq_true rfl, Nat.le_of_ble_eq_true rfl⟩ hl.1 rfl (Nat.le_of_ble_eq_true rfl) dX4_programme_117 ⟨Nat.le_of_ble_eq_true rfl, Nat.le_of_ble_eq_true rfl⟩ ?_
                exact vx_ret (vw_zero (Nat.zero_le _) (Nat.zero_le _) (ne_wI S hS hr hlk ⟨congrArg (fun z => some (Value.int z)) (Eq.symm (by unfold f_X4_programme; first | (rw [if_neg cn2_1, if_neg cn24_2, if_neg c40_3, if_neg cs54_4, if_neg cs54_5, if_neg cs54_6, if_pos cs54_7]; done) | (simp only [if_neg cn2_1, if_neg cn24_2, if_neg c40_3, if_neg cs54_4, if_neg cs54_5, if_neg cs54_6, if_pos cs54_7]; done) | rfl)), (by unfold g_X4_programme; first | (rw [if_neg cn2_1, if_neg cn24_2, if_neg c40_3, if_neg cs54_4, if_neg cs54_5, if_neg cs54_6, if_pos cs54_7]; exact N) | (simp only [if_neg cn2_1, if_neg cn24_2, if_neg c40_3, if_neg cs54_4, if_neg cs54_5, if_neg cs54_6, if_pos cs54_7]; exact N) | exact N), by unfold t_X4_programme; first | (rw [if_neg cn2_1, if_neg cn24_2, if_neg c40_3, if_neg cs54_4, if_neg cs54_5, if_neg cs54_6, if_pos cs54_7]; done) | (simp only [if_neg cn2_1, if_neg cn24_2, if_neg c40_3, if_neg cs54_4, if_neg cs54_5, if_neg cs54_6, if_pos cs54_7]; done) | rfl⟩ dX4_programme_120))
              · by_cases cs54_8 : p2 = 4
                · refine lv_tableIn (off := 67) (tgt := 121) S.1 S.2.1 dX4_programme_54 (by rw [cs54_8]; decide) (by rw [cs54_8]; decide) (by rw [cs54_8]; rfl) (by decide) ?_
                  refine lv_aload S.1 S.2.1 dX4_programme_121 (lv_at hl 1 rfl) ?_
                  refine kr_getN S K N (40 + (p0.toNatClampNeg)) (by unfold crole; omega) ((d_K.2.2 _ (at_X4_programmeOf cn2_1).1 (at_X4_programmeOf cn2_1).2.1).1) (sh_P (by omega)) (C0 := RX2) (T := TX2) (n := 12) rfl iWX2 7 (by decide) (by decide) rfl (v := .int (M (40 + (p0.toNatClampNeg)) 7)) rfl dX4_programme_123 ?_
                  exact vx_ret (vw_zero (Nat.zero_le _) (Nat.zero_le _) (ne_wI S hS hr hlk ⟨congrArg (fun z => some (Value.int z)) (Eq.symm (by unfold f_X4_programme; first | (rw [if_neg cn2_1, if_neg cn24_2, if_neg c40_3, if_neg cs54_4, if_neg cs54_5, if_neg cs54_6, if_neg cs54_7, if_pos cs54_8]; done) | (simp only [if_neg cn2_1, if_neg cn24_2, if_neg c40_3, if_neg cs54_4, if_neg cs54_5, if_neg cs54_6, if_neg cs54_7, if_pos cs54_8]; done) | rfl)), (by unfold g_X4_programme; first | (rw [if_neg cn2_1, if_neg cn24_2, if_neg c40_3, if_neg cs54_4, if_neg cs54_5, if_neg cs54_6, if_neg cs54_7, if_pos cs54_8]; exact N) | (simp only [if_neg cn2_1, if_neg cn24_2, if_neg c40_3, if_neg cs54_4, if_neg cs54_5, if_neg cs54_6, if_neg cs54_7, if_pos cs54_8]; exact N) | exact N), by unfold t_X4_programme; first | (rw [if_neg cn2_1, if_neg cn24_2, if_neg c40_3, if_neg cs54_4, if_neg cs54_5, if_neg cs54_6, if_neg cs54_7, if_pos cs54_8]; done) | (simp only [if_neg cn2_1, if_neg cn24_2, if_neg c40_3, if_neg cs54_4, if_neg cs54_5, if_neg cs54_6, if_neg cs54_7, if_pos cs54_8]; done) | rfl⟩ dX4_programme_126))
                · refine lv_tableOut (tgt := 127) S.1 S.2.1 dX4_programme_54 (by have q0 := tb_ne cs54_4; have q1 := tb_ne cs54_5; have q2 := tb_ne cs54_6; have q3 := tb_ne cs54_7; have q4 := tb_ne cs54_8; rw [show (0 : Int32).toInt = 0 from rfl] at q0; rw [show (1 : Int32).toInt = 1 from rfl] at q1; rw [show (2 : Int32).toInt = 2 from rfl] at q2; rw [show (3 : Int32).toInt = 3 from rfl] at q3; rw [show (4 : Int32).toInt = 4 from rfl] at q4; omega) (by decide) ?_
                  refine lv_aload_n S.1 S.2.1 dX4_programme_127 rfl (lv_at hl 2 rfl) ?_
                  refine lv_aload S.1 S.2.1 dX4_programme_128 (lv_at hl 0 rfl) ?_
                  refine kc_wV S K N hS 0 (by unfold crole; omega) (d_K.1 0 (by decide)) (sh_K) (T := TX4) (n := 6) rfl (As := [.ref (ad (30 + (p1.toNatClampNeg)))]) (m_X4_fillRanking l M (p1.toNatClampNeg) N d_K (by omega) (d_K.2.1 _ (at_X4_editionAt cn24_2).1)) k2_145 k2_147 kS_6 k1_1 k2_148 (num := 1) (by decide +kernel) rfl ⟨Nat.le_of_ble_eq_true rfl, Nat.le_of_ble_eq_true rfl⟩ hl.1 rfl (Nat.le_of_ble_eq_true rfl) dX4_programme_130 ⟨Nat.le_of_ble_eq_true rfl, Nat.le_of_ble_eq_true rfl⟩ (fun v9 H locs hP hS => ?_)
                  obtain ⟨rfl, N⟩ := hP
                  refine W.eq (g2 := F0 m 133 ls []) rfl ?_
                  refine lv_aload_n S.1 S.2.1 dX4_programme_133 rfl (lv_at hl 2 rfl) ?_
                  refine lv_iload_n S.1 S.2.1 dX4_programme_134 rfl (lv_at hl 3 rfl) ?_
                  refine kc_rV S K N hS 0 (by unfold crole; omega) (d_K.1 0 (by decide)) (sh_K) (T := TX4) (n := 6) rfl (As := [.int p0]) (m_X4_rankOf l (g_X4_fillRanking M (p1.toNatClampNeg)) p0 N (⟨d_K.1, trivial⟩)) k2_149 k2_151 kS_7 k1_1 k2_152 (num := 1) (by decide +kernel) rfl ⟨Nat.le_of_ble_eq_true rfl, Nat.le_of_ble_eq_true rfl⟩ hl.1 rfl (Nat.le_of_ble_eq_true rfl) dX4_programme_135 ⟨Nat.le_of_ble_eq_true rfl, Nat.le_of_ble_eq_true rfl⟩ ?_
                  exact vx_ret (vw_zero (Nat.zero_le _) (Nat.zero_le _) (ne_wI S hS hr hlk ⟨congrArg (fun z => some (Value.int z)) (Eq.symm (by unfold f_X4_programme; first | (rw [if_neg cn2_1, if_neg cn24_2, if_neg c40_3, if_neg cs54_4, if_neg cs54_5, if_neg cs54_6, if_neg cs54_7, if_neg cs54_8]; done) | (simp only [if_neg cn2_1, if_neg cn24_2, if_neg c40_3, if_neg cs54_4, if_neg cs54_5, if_neg cs54_6, if_neg cs54_7, if_neg cs54_8]; done) | rfl)), (by unfold g_X4_programme; first | (rw [if_neg cn2_1, if_neg cn24_2, if_neg c40_3, if_neg cs54_4, if_neg cs54_5, if_neg cs54_6, if_neg cs54_7, if_neg cs54_8]; exact N) | (simp only [if_neg cn2_1, if_neg cn24_2, if_neg c40_3, if_neg cs54_4, if_neg cs54_5, if_neg cs54_6, if_neg cs54_7, if_neg cs54_8]; exact N) | exact N), by unfold t_X4_programme; first | (rw [if_neg cn2_1, if_neg cn24_2, if_neg c40_3, if_neg cs54_4, if_neg cs54_5, if_neg cs54_6, if_neg cs54_7, if_neg cs54_8]; done) | (simp only [if_neg cn2_1, if_neg cn24_2, if_neg c40_3, if_neg cs54_4, if_neg cs54_5, if_neg cs54_6, if_neg cs54_7, if_neg cs54_8]; done) | rfl⟩ dX4_programme_138))
      · refine nx_throw (text := "no such edition or question") xw_iae xg_iae (by decide) S hls K hS htab hlk hl.1 k2_13 k1_10 (by decide) dX4_programme_43 dX4_programme_46 dX4_programme_47 dX4_programme_49 dX4_programme_52 ⟨Nat.le_of_ble_eq_true rfl, Nat.le_of_ble_eq_true rfl, Nat.le_of_ble_eq_true rfl, Nat.le_of_ble_eq_true rfl⟩ (Nat.le_of_ble_eq_true rfl) (Nat.le_of_ble_eq_true rfl) (fun H1 hq => ?_)
        have e9 : t_X4_programme M p0 p1 p2 = 2 := by unfold t_X4_programme; first | (rw [if_neg cn2_1, if_neg cn24_2, if_pos c40_3]; done) | (simp only [if_neg cn2_1, if_neg cn24_2, if_pos c40_3]; done) | rfl
        exact ⟨by rw [e9]; rfl, by rw [e9]; decide, kw_kept N hq⟩

def f_X4_starts (M : Nat → Nat → Int32) (p0 : Int32) (p1 : Int32) : Int32 :=
  if (f_X4_editionAt M p0) = 0 then 0
  else if (f_X4_isIn p1 0 11) = 0 then 0
  else if (f_X4_howManyRanked (g_X4_fillRanking M (p0.toNatClampNeg))) ≤ p1 then (f_X4_unrankedSkater (g_X4_fillRanking M (p0.toNatClampNeg)) (p1 - (f_X4_howManyRanked (g_X4_fillRanking M (p0.toNatClampNeg)))))
  else (f_X4_skaterOfRank (g_X4_fillRanking M (p0.toNatClampNeg)) (((f_X4_howManyRanked (g_X4_fillRanking M (p0.toNatClampNeg))) - 1) - p1))
def t_X4_starts (M : Nat → Nat → Int32) (p0 : Int32) (p1 : Int32) : Nat :=
  if (f_X4_editionAt M p0) = 0 then 2
  else if (f_X4_isIn p1 0 11) = 0 then 2
  else if (f_X4_howManyRanked (g_X4_fillRanking M (p0.toNatClampNeg))) ≤ p1 then 0
  else 0
def g_X4_starts (M : Nat → Nat → Int32) (p0 : Int32) (p1 : Int32) : Nat → Nat → Int32 :=
  if (f_X4_editionAt M p0) = 0 then M
  else if (f_X4_isIn p1 0 11) = 0 then M
  else (g_X4_fillRanking M (p0.toNatClampNeg))
set_option maxHeartbeats 4000000 in
set_option maxRecDepth 100000 in
theorem m_X4_starts {D : va_G} {cA : Nat → ClassId} {B : Nat} (l : Launch) {dom : Nat → Prop} {ad : Nat → Nat} {X : Nat → va_E} {H0 : Heap} (M : Nat → Nat → Int32) (p0 : Int32) (p1 : Int32) (N : kw D cA B dom ad X M H0) (d_K : dK dom M) (hls : l.stackTraces = false) : MetX D cA B l yX4_starts cX4_starts 5 (some .int) 6 119 1 6 [.ref (ad 0), .int p0, .int p1] H0 (fun o h => o = some (.int (f_X4_starts M p0 p1)) ∧ kw D cA B dom ad X (g_X4_starts M p0 p1) h ∧ t_X4_starts M p0 p1 = 0) (fun E h => E = xn (t_X4_starts M p0 p1) ∧ ¬ t_X4_starts M p0 p1 = 0 ∧ kw D cA B dom ad X M h) := by
  refine MetX.of (by decide) (Nat.le_of_ble_eq_true rfl) ?_
  intro p e s m args below meth c S hr hlk htab hh K ls hl
  subst hh
  have hS : va_S (fun q => B ≤ q) s.heap s.heap [] := va_S.rf
  have hl : lv_has ls 5 [(0, .ref (ad 0)), (1, .int p0), (2, .int p1)] := hl
  refine lv_aload_n S.1 S.2.1 dX4_starts_0 rfl (lv_at hl 0 rfl) ?_
  refine lv_iload_n S.1 S.2.1 dX4_starts_1 rfl (lv_at hl 1 rfl) ?_
  refine kc_rV S K N hS 0 (by unfold crole; omega) (d_K.1 0 (by decide)) (sh_K) (T := TX4) (n := 6) rfl (As := [.int p0]) (m_X4_editionAt l M p0 N d_K) k2_62 k2_64 kS_4 k1_1 k2_65 (num := 1) (by decide +kernel) rfl ⟨Nat.le_of_ble_eq_true rfl, Nat.le_of_ble_eq_true rfl⟩ hl.1 rfl (Nat.le_of_ble_eq_true rfl) dX4_starts_2 ⟨Nat.le_of_ble_eq_true rfl, Nat.le_of_ble_eq_true rfl⟩ ?_
  by_cases cn2_1 : (f_X4_editionAt M p0) = 0
  · refine nt_a (v2 := .null) (rq_z cn2_1) ?_
    refine lv_astore_nN (lv' := [(3, .null), (0, .ref (ad 0)), (1, .int p0), (2, .int p1)]) S.1 S.2.1 dX4_starts_5 rfl hl (by decide) rfl (fun ls hl => ?_)
    refine lv_aload_nN S.1 S.2.1 dX4_starts_6 rfl (lv_at hl 0 rfl) ?_
    refine lv_ifnullN (tgt := 20) S.1 S.2.1 dX4_starts_7 (by decide) ?_
    refine nx_throw (text := "no such edition or place") xw_iae xg_iae (by decide) S hls K hS htab hlk hl.1 k2_13 k1_10 (by decide) dX4_starts_20 dX4_starts_23 dX4_starts_24 dX4_starts_26 dX4_starts_29 ⟨Nat.le_of_ble_eq_true rfl, Nat.le_of_ble_eq_true rfl, Nat.le_of_ble_eq_true rfl, Nat.le_of_ble_eq_true rfl⟩ (Nat.le_of_ble_eq_true rfl) (Nat.le_of_ble_eq_true rfl) (fun H1 hq => ?_)
    have e9 : t_X4_starts M p0 p1 = 2 := by unfold t_X4_starts; first | (rw [if_pos cn2_1]; done) | (simp only [if_pos cn2_1]; done) | rfl
    exact ⟨by rw [e9]; rfl, by rw [e9]; decide, kw_kept N hq⟩
  · have hb_cn2_1 := (at_X4_editionAt cn2_1).1
    refine nt_a (v2 := .ref (ad (30 + (p0.toNatClampNeg)))) (rq_s cn2_1) ?_
    refine lv_astore_n (lv' := [(3, .ref (ad (30 + (p0.toNatClampNeg)))), (0, .ref (ad 0)), (1, .int p0), (2, .int p1)]) S.1 S.2.1 dX4_starts_5 rfl hl (by decide) rfl (fun ls hl => ?_)
    refine lv_aload_n S.1 S.2.1 dX4_starts_6 rfl (lv_at hl 0 rfl) ?_
    refine lv_ifnull S.1 S.2.1 dX4_starts_7 ?_
    refine lv_iload_n S.1 S.2.1 dX4_starts_10 rfl (lv_at hl 3 rfl) ?_
    refine lv_iconst (v := 0) S.1 S.2.1 dX4_starts_11 (by decide) ?_
    refine lv_bipush (v := 11) S.1 S.2.1 dX4_starts_12 (by decide) ?_
    refine nc_rS S K hS (As := [.int p1, .int 0, .int 11]) (m_X4_isIn l p1 0 11) k2_9 k2_10 k1_1 k2_11 (num := 3) (by decide +kernel) rfl ⟨Nat.le_of_ble_eq_true rfl, Nat.le_of_ble_eq_true rfl⟩ hl.1 rfl (Nat.le_of_ble_eq_true rfl) dX4_starts_14 ⟨Nat.le_of_ble_eq_true rfl, Nat.le_of_ble_eq_true rfl⟩ ?_
    refine lv_if_ne (tgt := 30) S.1 S.2.1 dX4_starts_17 (by decide) (fun c17_2 => ?_) (fun c17_2 => ?_)
    · refine lv_aload_n S.1 S.2.1 dX4_starts_30 rfl (lv_at hl 1 rfl) ?_
      refine lv_aload_n S.1 S.2.1 dX4_starts_31 rfl (lv_at hl 0 rfl) ?_
      refine kc_wV S K N hS 0 (by unfold crole; omega) (d_K.1 0 (by decide)) (sh_K) (T := TX4) (n := 6) rfl (As := [.ref (ad (30 + (p0.toNatClampNeg)))]) (m_X4_fillRanking l M (p0.toNatClampNeg) N d_K (by omega) (d_K.2.1 _ (at_X4_editionAt cn2_1).1)) k2_145 k2_147 kS_6 k1_1 k2_148 (num := 1) (by decide +kernel) rfl ⟨Nat.le_of_ble_eq_true rfl, Nat.le_of_ble_eq_true rfl⟩ hl.1 rfl (Nat.le_of_ble_eq_true rfl) dX4_starts_32 ⟨Nat.le_of_ble_eq_true rfl, Nat.le_of_ble_eq_true rfl⟩ (fun v9 H locs hP hS => ?_)
      obtain ⟨rfl, N⟩ := hP
      refine W.eq (g2 := F0 m 35 ls []) rfl ?_
      refine lv_aload_n S.1 S.2.1 dX4_starts_35 rfl (lv_at hl 1 rfl) ?_
      refine kc_rV S K N hS 0 (by unfold crole; omega) (d_K.1 0 (by decide)) (sh_K) (T := TX4) (n := 6) rfl (As := []) (m_X4_howManyRanked l (g_X4_fillRanking M (p0.toNatClampNeg)) N (⟨d_K.1, trivial⟩)) k2_170 k2_172 kS_11 k1_1 k2_173 (num := 0) (by decide +kernel) rfl ⟨Nat.le_of_ble_eq_true rfl, Nat.le_of_ble_eq_true rfl⟩ hl.1 rfl (Nat.le_of_ble_eq_true rfl) dX4_starts_36 ⟨Nat.le_of_ble_eq_true rfl, Nat.le_of_ble_eq_true rfl⟩ ?_
      refine lv_istore (lv' := [(4, .int (f_X4_howManyRanked (g_X4_fillRanking M (p0.toNatClampNeg)))), (3, .ref (ad (30 + (p0.toNatClampNeg)))), (0, .ref (ad 0)), (1, .int p0), (2, .int p1)]) S.1 S.2.1 dX4_starts_39 hl (by decide) rfl (fun ls hl => ?_)
      refine lv_iload_n S.1 S.2.1 dX4_starts_41 rfl (lv_at hl 4 rfl) ?_
      refine lv_iload S.1 S.2.1 dX4_starts_42 (lv_at hl 0 rfl) ?_
      refine lv_icmp_ge (tgt := 60) S.1 S.2.1 dX4_starts_44 (by decide) (fun c44_3 => ?_) (fun c44_3 => ?_)
      · refine lv_aload_n S.1 S.2.1 dX4_starts_60 rfl (lv_at hl 2 rfl) ?_
        refine lv_iload_n S.1 S.2.1 dX4_starts_61 rfl (lv_at hl 4 rfl) ?_
        refine lv_iload S.1 S.2.1 dX4_starts_62 (lv_at hl 0 rfl) ?_
        refine lv_isub S.1 S.2.1 dX4_starts_64 ?_
        refine kc_rV S K N hS 0 (by unfold crole; omega) (d_K.1 0 (by decide)) (sh_K) (T := TX4) (n := 6) rfl (As := [.int (p1 - (f_X4_howManyRanked (g_X4_fillRanking M (p0.toNatClampNeg))))]) (m_X4_unrankedSkater l (g_X4_fillRanking M (p0.toNatClampNeg)) (p1 - (f_X4_howManyRanked (g_X4_fillRanking M (p0.toNatClampNeg)))) N (dK_rows (fl_rows _ _ _) d_K)) k2_178 k2_180 kS_13 k1_1 k2_181 (num := 1) (by decide +kernel) rfl ⟨Nat.le_of_ble_eq_true rfl, Nat.le_of_ble_eq_true rfl⟩ hl.1 rfl (Nat.le_of_ble_eq_true rfl) dX4_starts_65 ⟨Nat.le_of_ble_eq_true rfl, Nat.le_of_ble_eq_true rfl⟩ ?_
        exact vx_ret (vw_zero (Nat.zero_le _) (Nat.zero_le _) (ne_wI S hS hr hlk ⟨congrArg (fun z => some (Value.int z)) (Eq.symm (by unfold f_X4_starts; first | (rw [if_neg cn2_1, if_neg c17_2, if_pos c44_3]; done) | (simp only [if_neg cn2_1, if_neg c17_2, if_pos c44_3]; done) | rfl)), (by unfold g_X4_starts; first | (rw [if_neg cn2_1, if_neg c17_2, if_pos c44_3]; exact N) | (simp only [if_neg cn2_1, if_neg c17_2, if_pos c44_3]; exact N) | exact N), by unfold t_X4_starts; first | (rw [if_neg cn2_1, if_neg c17_2, if_pos c44_3]; done) | (simp only [if_neg cn2_1, if_neg c17_2, if_pos c44_3]; done) | rfl⟩ dX4_starts_68))
      · refine lv_aload_n S.1 S.2.1 dX4_starts_47 rfl (lv_at hl 2 rfl) ?_
        refine lv_iload S.1 S.2.1 dX4_starts_48 (lv_at hl 0 rfl) ?_
        refine lv_iconst (v := 1) S.1 S.2.1 dX4_starts_50 (by decide) ?_
        refine lv_isub S.1 S.2.1 dX4_starts_51 ?_
        refine lv_iload_n S.1 S.2.1 dX4_starts_52 rfl (lv_at hl 4 rfl) ?_
        refine lv_isub S.1 S.2.1 dX4_starts_53 ?_
        refine kc_rV S K N hS 0 (by unfold crole; omega) (d_K.1 0 (by decide)) (sh_K) (T := TX4) (n := 6) rfl (As := [.int (((f_X4_howManyRanked (g_X4_fillRanking M (p0.toNatClampNeg))) - 1) - p1)]) (m_X4_skaterOfRank l (g_X4_fillRanking M (p0.toNatClampNeg)) (((f_X4_howManyRanked (g_X4_fillRanking M (p0.toNatClampNeg))) - 1) - p1) N (⟨d_K.1, trivial⟩)) k2_174 k2_176 kS_12 k1_1 k2_177 (num := 1) (by decide +kernel) rfl ⟨Nat.le_of_ble_eq_true rfl, Nat.le_of_ble_eq_true rfl⟩ hl.1 rfl (Nat.le_of_ble_eq_true rfl) dX4_starts_54 ⟨Nat.le_of_ble_eq_true rfl, Nat.le_of_ble_eq_true rfl⟩ ?_
        refine lv_goto (tgt := 68) S.1 S.2.1 dX4_starts_57 (by decide) ?_
        exact vx_ret (vw_zero (Nat.zero_le _) (Nat.zero_le _) (ne_wI S hS hr hlk ⟨congrArg (fun z => some (Value.int z)) (Eq.symm (by unfold f_X4_starts; first | (rw [if_neg cn2_1, if_neg c17_2, if_neg c44_3]; done) | (simp only [if_neg cn2_1, if_neg c17_2, if_neg c44_3]; done) | rfl)), (by unfold g_X4_starts; first | (rw [if_neg cn2_1, if_neg c17_2, if_neg c44_3]; exact N) | (simp only [if_neg cn2_1, if_neg c17_2, if_neg c44_3]; exact N) | exact N), by unfold t_X4_starts; first | (rw [if_neg cn2_1, if_neg c17_2, if_neg c44_3]; done) | (simp only [if_neg cn2_1, if_neg c17_2, if_neg c44_3]; done) | rfl⟩ dX4_starts_68))
    · refine nx_throw (text := "no such edition or place") xw_iae xg_iae (by decide) S hls K hS htab hlk hl.1 k2_13 k1_10 (by decide) dX4_starts_20 dX4_starts_23 dX4_starts_24 dX4_starts_26 dX4_starts_29 ⟨Nat.le_of_ble_eq_true rfl, Nat.le_of_ble_eq_true rfl, Nat.le_of_ble_eq_true rfl, Nat.le_of_ble_eq_true rfl⟩ (Nat.le_of_ble_eq_true rfl) (Nat.le_of_ble_eq_true rfl) (fun H1 hq => ?_)
      have e9 : t_X4_starts M p0 p1 = 2 := by unfold t_X4_starts; first | (rw [if_neg cn2_1, if_pos c17_2]; done) | (simp only [if_neg cn2_1, if_pos c17_2]; done) | rfl
      exact ⟨by rw [e9]; rfl, by rw [e9]; decide, kw_kept N hq⟩
