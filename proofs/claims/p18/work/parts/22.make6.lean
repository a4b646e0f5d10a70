theorem room_lt {M : Nat → Nat → Int32} {k i : Nat} (hcnt : M (40 + k) 8 = nI i) (hle : i ≤ 12) (h : ¬ f_X2_hasRoom M k = 0) : i < 12 := by
  apply Nat.lt_of_not_le
  intro q
  have e : i = 12 := by omega
  subst e
  apply h
  unfold f_X2_hasRoom
  rw [hcnt]
  split
  · rfl
  · rw [if_pos (by decide)]

def f_X4_jump (M : Nat → Nat → Int32) (p0 : Int32) (p1 : Int32) (p2 : Int32) (i : Nat) : Int32 :=
  if (f_X4_isIn p0 0 5) = 0 then 0
  else if (f_X4_isIn p1 1 4) = 0 then 0
  else if (M 0 5) = (-1) then 0
  else if (f_X2_hasRoom M ((M 0 5).toNatClampNeg)) = 0 then 0
  else if (f_X2_canTakeOff M ((M 0 5).toNatClampNeg) p0) = 0 then 0
  else (f_X2_skateJump M ((M 0 5).toNatClampNeg) p0 p1 p2 i)
def t_X4_jump (M : Nat → Nat → Int32) (p0 : Int32) (p1 : Int32) (p2 : Int32) (i : Nat) : Nat :=
  if (f_X4_isIn p0 0 5) = 0 then 2
  else if (f_X4_isIn p1 1 4) = 0 then 2
  else if (M 0 5) = (-1) then 3
  else if (f_X2_hasRoom M ((M 0 5).toNatClampNeg)) = 0 then 3
  else if (f_X2_canTakeOff M ((M 0 5).toNatClampNeg) p0) = 0 then 3
  else 0
def g_X4_jump (M : Nat → Nat → Int32) (p0 : Int32) (p1 : Int32) (p2 : Int32) (i : Nat) : Nat → Nat → Int32 :=
  if (f_X4_isIn p0 0 5) = 0 then M
  else if (f_X4_isIn p1 1 4) = 0 then M
  else if (M 0 5) = (-1) then M
  else if (f_X2_hasRoom M ((M 0 5).toNatClampNeg)) = 0 then M
  else if (f_X2_canTakeOff M ((M 0 5).toNatClampNeg) p0) = 0 then M
  else (g_X2_skateJump M ((M 0 5).toNatClampNeg) p0 p1 p2 i)
set_option maxHeartbeats 4000000 in
set_option maxRecDepth 100000 in
theorem m_X4_jump {D : va_G} {cA : Nat → ClassId} {B : Nat} (l : Launch) {dom : Nat → Prop} {ad : Nat → Nat} {X : Nat → va_E} {H0 : Heap} (M : Nat → Nat → Int32) (p0 : Int32) (p1 : Int32) (p2 : Int32) (i : Nat) (N : kw D cA B dom ad X M H0) (d_K : dK dom M) (hls : l.stackTraces = false) (hgo : ¬ M 0 5 = (-1) → (M 0 5).toNatClampNeg < 12 ∧ ¬ M 1 (M 0 5).toNatClampNeg = 0) (hcnt : M (40 + (M 0 5).toNatClampNeg) 8 = nI i) (hle : i ≤ 12) (nd : i < 12 → ndE dom (12 * (M 0 5).toNatClampNeg + i)) (had : i < 12 → adE ad (12 * (M 0 5).toNatClampNeg + i) H0.size) (z2 : p2 = 0 ∨ p2 = 1) : MetX D cA B l yX4_jump cX4_jump 4 (some .int) 6 126 7 48 [.ref (ad 0), .int p0, .int p1, .int p2] H0 (fun o h => o = some (.int (f_X4_jump M p0 p1 p2 i)) ∧ kw D cA B (domE dom (12 * (M 0 5).toNatClampNeg + i)) ad X (g_X4_jump M p0 p1 p2 i) h ∧ t_X4_jump M p0 p1 p2 i = 0) (fun E h => E = xn (t_X4_jump M p0 p1 p2 i) ∧ ¬ t_X4_jump M p0 p1 p2 i = 0 ∧ kw D cA B dom ad X M h) := by
  refine MetX.of (by decide) (Nat.le_of_ble_eq_true rfl) ?_
  intro p e s m args below meth c S hr hlk htab hh K ls hl
  subst hh
  have hS : va_S (fun q => B ≤ q) s.heap s.heap [] := va_S.rf
  have hl : lv_has ls 4 [(0, .ref (ad 0)), (1, .int p0), (2, .int p1), (3, .int p2)] := hl
  refine lv_iload_n S.1 S.2.1 dX4_jump_0 rfl (lv_at hl 1 rfl) ?_
  refine lv_iconst (v := 0) S.1 S.2.1 dX4_jump_1 (by decide) ?_
  refine lv_iconst (v := 5) S.1 S.2.1 dX4_jump_2 (by decide) ?_
  refine nc_rS S K hS (As := [.int p0, .int 0, .int 5]) (m_X4_isIn l p0 0 5) k2_9 k2_10 k1_1 k2_11 (num := 3) (by decide +kernel) rfl ⟨Nat.le_of_ble_eq_true rfl, Nat.le_of_ble_eq_true rfl⟩ hl.1 rfl (Nat.le_of_ble_eq_true rfl) dX4_jump_3 ⟨Nat.le_of_ble_eq_true rfl, Nat.le_of_ble_eq_true rfl⟩ ?_
  refine lv_if_eq (tgt := 18) S.1 S.2.1 dX4_jump_6 (by decide) (fun c6_1 => ?_) (fun c6_1 => ?_)
  · refine nx_throw (text := "no such jump") xw_iae xg_iae (by decide) S hls K hS htab hlk hl.1 k2_13 k1_10 (by decide) dX4_jump_18 dX4_jump_21 dX4_jump_22 dX4_jump_24 dX4_jump_27 ⟨Nat.le_of_ble_eq_true rfl, Nat.le_of_ble_eq_true rfl, Nat.le_of_ble_eq_true rfl, Nat.le_of_ble_eq_true rfl⟩ (Nat.le_of_ble_eq_true rfl) (Nat.le_of_ble_eq_true rfl) (fun H1 hq => ?_)
    have e9 : t_X4_jump M p0 p1 p2 i = 2 := by unfold t_X4_jump; first | (rw [if_pos c6_1]; done) | (simp only [if_pos c6_1]; done) | rfl
    exact ⟨by rw [e9]; rfl, by rw [e9]; decide, kw_kept N hq⟩
  · refine lv_iload_n S.1 S.2.1 dX4_jump_9 rfl (lv_at hl 2 rfl) ?_
    refine lv_iconst (v := 1) S.1 S.2.1 dX4_jump_10 (by decide) ?_
    refine lv_iconst (v := 4) S.1 S.2.1 dX4_jump_11 (by decide) ?_
    refine nc_rS S K hS (As := [.int p1, .int 1, .int 4]) (m_X4_isIn l p1 1 4) k2_9 k2_10 k1_1 k2_11 (num := 3) (by decide +kernel) rfl ⟨Nat.le_of_ble_eq_true rfl, Nat.le_of_ble_eq_true rfl⟩ hl.1 rfl (Nat.le_of_ble_eq_true rfl) dX4_jump_12 ⟨Nat.le_of_ble_eq_true rfl, Nat.le_of_ble_eq_true rfl⟩ ?_
    refine lv_if_ne (tgt := 28) S.1 S.2.1 dX4_jump_15 (by decide) (fun c15_2 => ?_) (fun c15_2 => ?_)
    · refine lv_aload_n S.1 S.2.1 dX4_jump_28 rfl (lv_at hl 0 rfl) ?_
      by_cases cn29_3 : (M 0 5) = (-1)
      · refine kr_get S K N 0 (by unfold crole; omega) (d_K.1 0 (by decide)) (sh_K) (C0 := RX4) (T := TX4) (n := 6) rfl iWX4 5 (by decide) k1_50 rfl (v := .null) (congrArg some (gv_z cn29_3)) dX4_jump_29 ?_
        refine lv_ifnullN (tgt := 56) S.1 S.2.1 dX4_jump_32 (by decide) ?_
        refine nx_throw (text := "no programme goes on, it has no room, or no such take-off") xw_ise xg_ise (by decide) S hls K hS htab hlk hl.1 k1_68 k1_6 (by decide) dX4_jump_56 dX4_jump_59 dX4_jump_60 dX4_jump_62 dX4_jump_65 ⟨Nat.le_of_ble_eq_true rfl, Nat.le_of_ble_eq_true rfl, Nat.le_of_ble_eq_true rfl, Nat.le_of_ble_eq_true rfl⟩ (Nat.le_of_ble_eq_true rfl) (Nat.le_of_ble_eq_true rfl) (fun H1 hq => ?_)
        have e9 : t_X4_jump M p0 p1 p2 i = 3 := by unfold t_X4_jump; first | (rw [if_neg c6_1, if_neg c15_2, if_pos cn29_3]; done) | (simp only [if_neg c6_1, if_neg c15_2, if_pos cn29_3]; done) | rfl
        exact ⟨by rw [e9]; rfl, by rw [e9]; decide, kw_kept N hq⟩
      · have hb_cn29_3 := (hgo cn29_3).1
        refine kr_get S K N 0 (by unfold crole; omega) (d_K.1 0 (by decide)) (sh_K) (C0 := RX4) (T := TX4) (n := 6) rfl iWX4 5 (by decide) k1_50 rfl (v := .ref (ad (40 + ((M 0 5).toNatClampNeg)))) (congrArg some (gv_s cn29_3)) dX4_jump_29 ?_
        refine lv_ifnull S.1 S.2.1 dX4_jump_32 ?_
        refine lv_aload_n S.1 S.2.1 dX4_jump_35 rfl (lv_at hl 0 rfl) ?_
        refine kr_get S K N 0 (by unfold crole; omega) (d_K.1 0 (by decide)) (sh_K) (C0 := RX4) (T := TX4) (n := 6) rfl iWX4 5 (by decide) k1_50 rfl (v := .ref (ad (40 + ((M 0 5).toNatClampNeg)))) (congrArg some (gv_s cn29_3)) dX4_jump_36 ?_
        refine kc_rV S K N hS (40 + ((M 0 5).toNatClampNeg)) (by unfold crole; omega) ((d_K.2.2 _ (hgo cn29_3).1 (hgo cn29_3).2).1) (sh_P (by omega)) (T := TX2) (n := 12) rfl (As := []) (m_X2_hasRoom l M ((M 0 5).toNatClampNeg) N (by omega) (d_K.2.2 _ (hgo cn29_3).1 (hgo cn29_3).2)) k2_222 k2_223 k2_224 k1_7 k2_225 (num := 0) (by decide +kernel) rfl ⟨Nat.le_of_ble_eq_true rfl, Nat.le_of_ble_eq_true rfl⟩ hl.1 rfl (Nat.le_of_ble_eq_true rfl) dX4_jump_39 ⟨Nat.le_of_ble_eq_true rfl, Nat.le_of_ble_eq_true rfl⟩ ?_
        refine lv_if_eq (tgt := 56) S.1 S.2.1 dX4_jump_42 (by decide) (fun c42_4 => ?_) (fun c42_4 => ?_)
        · refine nx_throw (text := "no programme goes on, it has no room, or no such take-off") xw_ise xg_ise (by decide) S hls K hS htab hlk hl.1 k1_68 k1_6 (by decide) dX4_jump_56 dX4_jump_59 dX4_jump_60 dX4_jump_62 dX4_jump_65 ⟨Nat.le_of_ble_eq_true rfl, Nat.le_of_ble_eq_true rfl, Nat.le_of_ble_eq_true rfl, Nat.le_of_ble_eq_true rfl⟩ (Nat.le_of_ble_eq_true rfl) (Nat.le_of_ble_eq_true rfl) (fun H1 hq => ?_)
          have e9 : t_X4_jump M p0 p1 p2 i = 3 := by unfold t_X4_jump; first | (rw [if_neg c6_1, if_neg c15_2, if_neg cn29_3, if_pos c42_4]; done) | (simp only [if_neg c6_1, if_neg c15_2, if_neg cn29_3, if_pos c42_4]; done) | rfl
          exact ⟨by rw [e9]; rfl, by rw [e9]; decide, kw_kept N hq⟩
        · have hi := room_lt hcnt hle c42_4
          refine lv_aload_n S.1 S.2.1 dX4_jump_45 rfl (lv_at hl 0 rfl) ?_
          refine kr_get S K N 0 (by unfold crole; omega) (d_K.1 0 (by decide)) (sh_K) (C0 := RX4) (T := TX4) (n := 6) rfl iWX4 5 (by decide) k1_50 rfl (v := .ref (ad (40 + ((M 0 5).toNatClampNeg)))) (congrArg some (gv_s cn29_3)) dX4_jump_46 ?_
          refine lv_iload_n S.1 S.2.1 dX4_jump_49 rfl (lv_at hl 1 rfl) ?_
          refine kc_rV S K N hS (40 + ((M 0 5).toNatClampNeg)) (by unfold crole; omega) ((d_K.2.2 _ (hgo cn29_3).1 (hgo cn29_3).2).1) (sh_P (by omega)) (T := TX2) (n := 12) rfl (As := [.int p0]) (m_X2_canTakeOff l M ((M 0 5).toNatClampNeg) p0 N (by omega) (d_K.2.2 _ (hgo cn29_3).1 (hgo cn29_3).2)) k2_227 k2_228 k2_229 k1_7 k2_230 (num := 1) (by decide +kernel) rfl ⟨Nat.le_of_ble_eq_true rfl, Nat.le_of_ble_eq_true rfl⟩ hl.1 rfl (Nat.le_of_ble_eq_true rfl) dX4_jump_50 ⟨Nat.le_of_ble_eq_true rfl, Nat.le_of_ble_eq_true rfl⟩ ?_
          refine lv_if_ne (tgt := 66) S.1 S.2.1 dX4_jump_53 (by decide) (fun c53_5 => ?_) (fun c53_5 => ?_)
          · refine lv_aload_n S.1 S.2.1 dX4_jump_66 rfl (lv_at hl 0 rfl) ?_
            refine kr_get S K N 0 (by unfold crole; omega) (d_K.1 0 (by decide)) (sh_K) (C0 := RX4) (T := TX4) (n := 6) rfl iWX4 5 (by decide) k1_50 rfl (v := .ref (ad (40 + ((M 0 5).toNatClampNeg)))) (congrArg some (gv_s cn29_3)) dX4_jump_67 ?_
            refine lv_iload_n S.1 S.2.1 dX4_jump_70 rfl (lv_at hl 1 rfl) ?_
            refine lv_iload_n S.1 S.2.1 dX4_jump_71 rfl (lv_at hl 2 rfl) ?_
            refine lv_iload_n S.1 S.2.1 dX4_jump_72 rfl (lv_at hl 3 rfl) ?_
            refine kc_wV S K N hS (40 + ((M 0 5).toNatClampNeg)) (by unfold crole; omega) ((d_K.2.2 _ (hgo cn29_3).1 (hgo cn29_3).2).1) (sh_P (by omega)) (T := TX2) (n := 12) rfl (As := [.int p0, .int p1, .int p2]) (m_X2_skateJump l M ((M 0 5).toNatClampNeg) p0 p1 p2 i N (by omega) (d_K.2.2 _ (hgo cn29_3).1 (hgo cn29_3).2) hcnt hi (nd hi) (had hi) z2) k2_236 k2_237 k2_238 k1_7 k2_239 (num := 3) (by decide +kernel) rfl ⟨Nat.le_of_ble_eq_true rfl, Nat.le_of_ble_eq_true rfl⟩ hl.1 rfl (Nat.le_of_ble_eq_true rfl) dX4_jump_73 ⟨Nat.le_of_ble_eq_true rfl, Nat.le_of_ble_eq_true rfl⟩ (fun v9 H locs hP hS => ?_)
            obtain ⟨rfl, N⟩ := hP
            refine W.eq (g2 := F0 m 76 ls [.int (f_X2_skateJump M ((M 0 5).toNatClampNeg) p0 p1 p2 i)]) rfl ?_
            exact vx_ret (vw_zero (Nat.le_of_ble_eq_true rfl) (Nat.le_of_ble_eq_true rfl) (ne_wI S hS hr hlk ⟨congrArg (fun z => some (Value.int z)) (Eq.symm (by unfold f_X4_jump; first | (rw [if_neg c6_1, if_neg c15_2, if_neg cn29_3, if_neg c42_4, if_neg c53_5]; done) | (simp only [if_neg c6_1, if_neg c15_2, if_neg cn29_3, if_neg c42_4, if_neg c53_5]; done) | rfl)), (by unfold g_X4_jump; first | (rw [if_neg c6_1, if_neg c15_2, if_neg cn29_3, if_neg c42_4, if_neg c53_5]; exact N) | (simp only [if_neg c6_1, if_neg c15_2, if_neg cn29_3, if_neg c42_4, if_neg c53_5]; exact N) | exact N), by unfold t_X4_jump; first | (rw [if_neg c6_1, if_neg c15_2, if_neg cn29_3, if_neg c42_4, if_neg c53_5]; done) | (simp only [if_neg c6_1, if_neg c15_2, if_neg cn29_3, if_neg c42_4, if_neg c53_5]; done) | rfl⟩ dX4_jump_76))
          · refine nx_throw (text := "no programme goes on, it has no room, or no such take-off") xw_ise xg_ise (by decide) S hls K hS htab hlk hl.1 k1_68 k1_6 (by decide) dX4_jump_56 dX4_jump_59 dX4_jump_60 dX4_jump_62 dX4_jump_65 ⟨Nat.le_of_ble_eq_true rfl, Nat.le_of_ble_eq_true rfl, Nat.le_of_ble_eq_true rfl, Nat.le_of_ble_eq_true rfl⟩ (Nat.le_of_ble_eq_true rfl) (Nat.le_of_ble_eq_true rfl) (fun H1 hq => ?_)
            have e9 : t_X4_jump M p0 p1 p2 i = 3 := by unfold t_X4_jump; first | (rw [if_neg c6_1, if_neg c15_2, if_neg cn29_3, if_neg c42_4, if_pos c53_5]; done) | (simp only [if_neg c6_1, if_neg c15_2, if_neg cn29_3, if_neg c42_4, if_pos c53_5]; done) | rfl
            exact ⟨by rw [e9]; rfl, by rw [e9]; decide, kw_kept N hq⟩
    · refine nx_throw (text := "no such jump") xw_iae xg_iae (by decide) S hls K hS htab hlk hl.1 k2_13 k1_10 (by decide) dX4_jump_18 dX4_jump_21 dX4_jump_22 dX4_jump_24 dX4_jump_27 ⟨Nat.le_of_ble_eq_true rfl, Nat.le_of_ble_eq_true rfl, Nat.le_of_ble_eq_true rfl, Nat.le_of_ble_eq_true rfl⟩ (Nat.le_of_ble_eq_true rfl) (Nat.le_of_ble_eq_true rfl) (fun H1 hq => ?_)
      have e9 : t_X4_jump M p0 p1 p2 i = 2 := by unfold t_X4_jump; first | (rw [if_neg c6_1, if_pos c15_2]; done) | (simp only [if_neg c6_1, if_pos c15_2]; done) | rfl
      exact ⟨by rw [e9]; rfl, by rw [e9]; decide, kw_kept N hq⟩

def f_X4_spin (M : Nat → Nat → Int32) (p0 : Int32) (p1 : Int32) (i : Nat) : Int32 :=
  if (f_X4_isIn p0 0 63) = 0 then 0
  else if (f_X4_isIn p1 1 20) = 0 then 0
  else if (M 0 5) = (-1) then 0
  else if (f_X2_hasRoom M ((M 0 5).toNatClampNeg)) = 0 then 0
  else (f_X2_skateSpin M ((M 0 5).toNatClampNeg) p0 p1 i)
def t_X4_spin (M : Nat → Nat → Int32) (p0 : Int32) (p1 : Int32) (i : Nat) : Nat :=
  if (f_X4_isIn p0 0 63) = 0 then 2
  else if (f_X4_isIn p1 1 20) = 0 then 2
  else if (M 0 5) = (-1) then 3
  else if (f_X2_hasRoom M ((M 0 5).toNatClampNeg)) = 0 then 3
  else 0
def g_X4_spin (M : Nat → Nat → Int32) (p0 : Int32) (p1 : Int32) (i : Nat) : Nat → Nat → Int32 :=
  if (f_X4_isIn p0 0 63) = 0 then M
  else if (f_X4_isIn p1 1 20) = 0 then M
  else if (M 0 5) = (-1) then M
  else if (f_X2_hasRoom M ((M 0 5).toNatClampNeg)) = 0 then M
  else (g_X2_skateSpin M ((M 0 5).toNatClampNeg) p0 p1 i)
set_option maxHeartbeats 4000000 in
set_option maxRecDepth 100000 in
theorem m_X4_spin {D : va_G} {cA : Nat → ClassId} {B : Nat} (l : Launch) {dom : Nat → Prop} {ad : Nat → Nat} {X : Nat → va_E} {H0 : Heap} (M : Nat → Nat → Int32) (p0 : Int32) (p1 : Int32) (i : Nat) (N : kw D cA B dom ad X M H0) (d_K : dK dom M) (hls : l.stackTraces = false) (hgo : ¬ M 0 5 = (-1) → (M 0 5).toNatClampNeg < 12 ∧ ¬ M 1 (M 0 5).toNatClampNeg = 0) (hcnt : M (40 + (M 0 5).toNatClampNeg) 8 = nI i) (hle : i ≤ 12) (nd : i < 12 → ndE dom (12 * (M 0 5).toNatClampNeg + i)) (had : i < 12 → adE ad (12 * (M 0 5).toNatClampNeg + i) H0.size) : MetX D cA B l yX4_spin cX4_spin 3 (some .int) 6 125 7 48 [.ref (ad 0), .int p0, .int p1] H0 (fun o h => o = some (.int (f_X4_spin M p0 p1 i)) ∧ kw D cA B (domE dom (12 * (M 0 5).toNatClampNeg + i)) ad X (g_X4_spin M p0 p1 i) h ∧ t_X4_spin M p0 p1 i = 0) (fun E h => E = xn (t_X4_spin M p0 p1 i) ∧ ¬ t_X4_spin M p0 p1 i = 0 ∧ kw D cA B dom ad X M h) := by
  refine MetX.of (by decide) (Nat.le_of_ble_eq_true rfl) ?_
  intro p e s m args below meth c S hr hlk htab hh K ls hl
  subst hh
  have hS : va_S (fun q => B ≤ q) s.heap s.heap [] := va_S.rf
  have hl : lv_has ls 3 [(0, .ref (ad 0)), (1, .int p0), (2, .int p1)] := hl
  refine lv_iload_n S.1 S.2.1 dX4_spin_0 rfl (lv_at hl 1 rfl) ?_
  refine lv_iconst (v := 0) S.1 S.2.1 dX4_spin_1 (by decide) ?_
  refine lv_bipush (v := 63) S.1 S.2.1 dX4_spin_2 (by decide) ?_
  refine nc_rS S K hS (As := [.int p0, .int 0, .int 63]) (m_X4_isIn l p0 0 63) k2_9 k2_10 k1_1 k2_11 (num := 3) (by decide +kernel) rfl ⟨Nat.le_of_ble_eq_true rfl, Nat.le_of_ble_eq_true rfl⟩ hl.1 rfl (Nat.le_of_ble_eq_true rfl) dX4_spin_4 ⟨Nat.le_of_ble_eq_true rfl, Nat.le_of_ble_eq_true rfl⟩ ?_
  refine lv_if_eq (tgt := 20) S.1 S.2.1 dX4_spin_7 (by decide) (fun c7_1 => ?_) (fun c7_1 => ?_)
  · refine nx_throw (text := "no such spin") xw_iae xg_iae (by decide) S hls K hS htab hlk hl.1 k2_13 k1_10 (by decide) dX4_spin_20 dX4_spin_23 dX4_spin_24 dX4_spin_26 dX4_spin_29 ⟨Nat.le_of_ble_eq_true rfl, Nat.le_of_ble_eq_true rfl, Nat.le_of_ble_eq_true rfl, Nat.le_of_ble_eq_true rfl⟩ (Nat.le_of_ble_eq_true rfl) (Nat.le_of_ble_eq_true rfl) (fun H1 hq => ?_)
    have e9 : t_X4_spin M p0 p1 i = 2 := by unfold t_X4_spin; first | (rw [if_pos c7_1]; done) | (simp only [if_pos c7_1]; done) | rfl
    exact ⟨by rw [e9]; rfl, by rw [e9]; decide, kw_kept N hq⟩
  · refine lv_iload_n S.1 S.2.1 dX4_spin_10 rfl (lv_at hl 2 rfl) ?_
    refine lv_iconst (v := 1) S.1 S.2.1 dX4_spin_11 (by decide) ?_
    refine lv_bipush (v := 20) S.1 S.2.1 dX4_spin_12 (by decide) ?_
    refine nc_rS S K hS (As := [.int p1, .int 1, .int 20]) (m_X4_isIn l p1 1 20) k2_9 k2_10 k1_1 k2_11 (num := 3) (by decide +kernel) rfl ⟨Nat.le_of_ble_eq_true rfl, Nat.le_of_ble_eq_true rfl⟩ hl.1 rfl (Nat.le_of_ble_eq_true rfl) dX4_spin_14 ⟨Nat.le_of_ble_eq_true rfl, Nat.le_of_ble_eq_true rfl⟩ ?_
    refine lv_if_ne (tgt := 30) S.1 S.2.1 dX4_spin_17 (by decide) (fun c17_2 => ?_) (fun c17_2 => ?_)
    · refine lv_aload_n S.1 S.2.1 dX4_spin_30 rfl (lv_at hl 0 rfl) ?_
      by_cases cn31_3 : (M 0 5) = (-1)
      · refine kr_get S K N 0 (by unfold crole; omega) (d_K.1 0 (by decide)) (sh_K) (C0 := RX4) (T := TX4) (n := 6) rfl iWX4 5 (by decide) k1_50 rfl (v := .null) (congrArg some (gv_z cn31_3)) dX4_spin_31 ?_
        refine lv_ifnullN (tgt := 47) S.1 S.2.1 dX4_spin_34 (by decide) ?_
        refine nx_throw (text := "no programme goes on, or it has no room") xw_ise xg_ise (by decide) S hls K hS htab hlk hl.1 k1_68 k1_6 (by decide) dX4_spin_47 dX4_spin_50 dX4_spin_51 dX4_spin_53 dX4_spin_56 ⟨Nat.le_of_ble_eq_true rfl, Nat.le_of_ble_eq_true rfl, Nat.le_of_ble_eq_true rfl, Nat.le_of_ble_eq_true rfl⟩ (Nat.le_of_ble_eq_true rfl) (Nat.le_of_ble_eq_true rfl) (fun H1 hq => ?_)
        have e9 : t_X4_spin M p0 p1 i = 3 := by unfold t_X4_spin; first | (rw [if_neg c7_1, if_neg c17_2, if_pos cn31_3]; done) | (simp only [if_neg c7_1, if_neg c17_2, if_pos cn31_3]; done) | rfl
        exact ⟨by rw [e9]; rfl, by rw [e9]; decide, kw_kept N hq⟩
      · have hb_cn31_3 := (hgo cn31_3).1
        refine kr_get S K N 0 (by unfold crole; omega) (d_K.1 0 (by decide)) (sh_K) (C0 := RX4) (T := TX4) (n := 6) rfl iWX4 5 (by decide) k1_50 rfl (v := .ref (ad (40 + ((M 0 5).toNatClampNeg)))) (congrArg some (gv_s cn31_3)) dX4_spin_31 ?_
        refine lv_ifnull S.1 S.2.1 dX4_spin_34 ?_
        refine lv_aload_n S.1 S.2.1 dX4_spin_37 rfl (lv_at hl 0 rfl) ?_
        refine kr_get S K N 0 (by unfold crole; omega) (d_K.1 0 (by decide)) (sh_K) (C0 := RX4) (T := TX4) (n := 6) rfl iWX4 5 (by decide) k1_50 rfl (v := .ref (ad (40 + ((M 0 5).toNatClampNeg)))) (congrArg some (gv_s cn31_3)) dX4_spin_38 ?_
        refine kc_rV S K N hS (40 + ((M 0 5).toNatClampNeg)) (by unfold crole; omega) ((d_K.2.2 _ (hgo cn31_3).1 (hgo cn31_3).2).1) (sh_P (by omega)) (T := TX2) (n := 12) rfl (As := []) (m_X2_hasRoom l M ((M 0 5).toNatClampNeg) N (by omega) (d_K.2.2 _ (hgo cn31_3).1 (hgo cn31_3).2)) k2_222 k2_223 k2_224 k1_7 k2_225 (num := 0) (by decide +kernel) rfl ⟨Nat.le_of_ble_eq_true rfl, Nat.le_of_ble_eq_true rfl⟩ hl.1 rfl (Nat.le_of_ble_eq_true rfl) dX4_spin_41 ⟨Nat.le_of_ble_eq_true rfl, Nat.le_of_ble_eq_true rfl⟩ ?_
        refine lv_if_ne (tgt := 57) S.1 S.2.1 dX4_spin_44 (by decide) (fun c44_4 => ?_) (fun c44_4 => ?_)
        · have hi := room_lt hcnt hle c44_4
          refine lv_aload_n S.1 S.2.1 dX4_spin_57 rfl (lv_at hl 0 rfl) ?_
          refine kr_get S K N 0 (by unfold crole; omega) (d_K.1 0 (by decide)) (sh_K) (C0 := RX4) (T := TX4) (n := 6) rfl iWX4 5 (by decide) k1_50 rfl (v := .ref (ad (40 + ((M 0 5).toNatClampNeg)))) (congrArg some (gv_s cn31_3)) dX4_spin_58 ?_
          refine lv_iload_n S.1 S.2.1 dX4_spin_61 rfl (lv_at hl 1 rfl) ?_
          refine lv_iload_n S.1 S.2.1 dX4_spin_62 rfl (lv_at hl 2 rfl) ?_
          refine kc_wV S K N hS (40 + ((M 0 5).toNatClampNeg)) (by unfold crole; omega) ((d_K.2.2 _ (hgo cn31_3).1 (hgo cn31_3).2).1) (sh_P (by omega)) (T := TX2) (n := 12) rfl (As := [.int p0, .int p1]) (m_X2_skateSpin l M ((M 0 5).toNatClampNeg) p0 p1 i N (by omega) (d_K.2.2 _ (hgo cn31_3).1 (hgo cn31_3).2) hcnt hi (nd hi) (had hi)) k3_65 k3_66 k3_67 k1_7 k3_68 (num := 2) (by decide +kernel) rfl ⟨Nat.le_of_ble_eq_true rfl, Nat.le_of_ble_eq_true rfl⟩ hl.1 rfl (Nat.le_of_ble_eq_true rfl) dX4_spin_63 ⟨Nat.le_of_ble_eq_true rfl, Nat.le_of_ble_eq_true rfl⟩ (fun v9 H locs hP hS => ?_)
          obtain ⟨rfl, N⟩ := hP
          refine W.eq (g2 := F0 m 66 ls [.int (f_X2_skateSpin M ((M 0 5).toNatClampNeg) p0 p1 i)]) rfl ?_
          exact vx_ret (vw_zero (Nat.le_of_ble_eq_true rfl) (Nat.le_of_ble_eq_true rfl) (ne_wI S hS hr hlk ⟨congrArg (fun z => some (Value.int z)) (Eq.symm (by unfold f_X4_spin; first | (rw [if_neg c7_1, if_neg c17_2, if_neg cn31_3, if_neg c44_4]; done) | (simp only [if_neg c7_1, if_neg c17_2, if_neg cn31_3, if_neg c44_4]; done) | rfl)), (by unfold g_X4_spin; first | (rw [if_neg c7_1, if_neg c17_2, if_neg cn31_3, if_neg c44_4]; exact N) | (simp only [if_neg c7_1, if_neg c17_2, if_neg cn31_3, if_neg c44_4]; exact N) | exact N), by unfold t_X4_spin; first | (rw [if_neg c7_1, if_neg c17_2, if_neg cn31_3, if_neg c44_4]; done) | (simp only [if_neg c7_1, if_neg c17_2, if_neg cn31_3, if_neg c44_4]; done) | rfl⟩ dX4_spin_66))
        · refine nx_throw (text := "no programme goes on, or it has no room") xw_ise xg_ise (by decide) S hls K hS htab hlk hl.1 k1_68 k1_6 (by decide) dX4_spin_47 dX4_spin_50 dX4_spin_51 dX4_spin_53 dX4_spin_56 ⟨Nat.le_of_ble_eq_true rfl, Nat.le_of_ble_eq_true rfl, Nat.le_of_ble_eq_true rfl, Nat.le_of_ble_eq_true rfl⟩ (Nat.le_of_ble_eq_true rfl) (Nat.le_of_ble_eq_true rfl) (fun H1 hq => ?_)
          have e9 : t_X4_spin M p0 p1 i = 3 := by unfold t_X4_spin; first | (rw [if_neg c7_1, if_neg c17_2, if_neg cn31_3, if_pos c44_4]; done) | (simp only [if_neg c7_1, if_neg c17_2, if_neg cn31_3, if_pos c44_4]; done) | rfl
          exact ⟨by rw [e9]; rfl, by rw [e9]; decide, kw_kept N hq⟩
    · refine nx_throw (text := "no such spin") xw_iae xg_iae (by decide) S hls K hS htab hlk hl.1 k2_13 k1_10 (by decide) dX4_spin_20 dX4_spin_23 dX4_spin_24 dX4_spin_26 dX4_spin_29 ⟨Nat.le_of_ble_eq_true rfl, Nat.le_of_ble_eq_true rfl, Nat.le_of_ble_eq_true rfl, Nat.le_of_ble_eq_true rfl⟩ (Nat.le_of_ble_eq_true rfl) (Nat.le_of_ble_eq_true rfl) (fun H1 hq => ?_)
      have e9 : t_X4_spin M p0 p1 i = 2 := by unfold t_X4_spin; first | (rw [if_neg c7_1, if_pos c17_2]; done) | (simp only [if_neg c7_1, if_pos c17_2]; done) | rfl
      exact ⟨by rw [e9]; rfl, by rw [e9]; decide, kw_kept N hq⟩
