theorem gv_z {ad : Nat → Nat} {x : Int32} (h : x = (-1)) : gv ad x = .null := by unfold gv; rw [if_pos h]
theorem gv_s {ad : Nat → Nat} {x : Int32} (h : ¬ x = (-1)) : gv ad x = .ref (ad (40 + x.toNatClampNeg)) := by unfold gv; rw [if_neg h]
theorem dP_rows {dom : Nat → Prop} {C C1 : Nat → Nat → Int32} {k : Nat} (h : ∀ r, ¬ r = 3 → ¬ r = 4 → C1 r = C r) (q : dP dom C k) : dP dom C1 k := by
  unfold dP at q ⊢
  rw [h (64 + k) (by omega) (by omega), h (52 + k) (by omega) (by omega)]
  exact q
theorem dK_rows {dom : Nat → Prop} {C C1 : Nat → Nat → Int32} (h : ∀ r, ¬ r = 3 → ¬ r = 4 → C1 r = C r) (q : dK dom C) : dK dom C1 := by
  refine ⟨q.1, q.2.1, fun k hk hc => dP_rows h (q.2.2 k hk ?_)⟩
  rw [← h 1 (by decide) (by decide)]
  exact hc
theorem dP_up {dom : Nat → Prop} {C : Nat → Nat → Int32} {k r j : Nat} {x : Int32} (hr : r < 5) (q : dP dom C k) : dP dom (up2 C r j x) k := by
  unfold dP at q ⊢
  rw [up2_ne C j x (show 64 + k ≠ r by omega), up2_ne C j x (show 52 + k ≠ r by omega)]
  exact q
section NJ2
variable {p : Program} {l : Launch} {e : Env} {R : Room} {s : State} {m : MethodId} {args : Array Value} {below : List Frame} {meth : Method} {c : Code} {H : Heap} {locs : List Loc} {cells slots : Nat} {Q : State → Prop}
/-- a loop that counts up to N, with a way out -/
theorem nlJ {J : Nat → Prop} {h N n : Nat} {L : Nat → List (Nat × Value)} (base : ∀ ls : Array Slot, J N → lv_has ls n (L N) → W p l e R s m args below meth c H locs cells slots Q (F0 m h ls []))
    (step : ∀ i, i < N → (∀ ls : Array Slot, J (i + 1) → lv_has ls n (L (i + 1)) → W p l e R s m args below meth c H locs cells slots Q (F0 m h ls [])) → ∀ ls : Array Slot, J i → lv_has ls n (L i) → W p l e R s m args below meth c H locs cells slots Q (F0 m h ls [])) : ∀ ls : Array Slot, J 0 → lv_has ls n (L 0) → W p l e R s m args below meth c H locs cells slots Q (F0 m h ls []) := by
  have key : ∀ k i, i + k = N → ∀ ls : Array Slot, J i → lv_has ls n (L i) → W p l e R s m args below meth c H locs cells slots Q (F0 m h ls []) := by
    intro k
    induction k with
    | zero =>
      intro i hi
      have : i = N := by omega
      subst this
      exact base
    | succ k ih =>
      intro i hi
      exact step i (by omega) (ih (i + 1) (by omega))
  exact key N 0 (by omega)
end NJ2
theorem mag_db (t : Int32) (M : Nat → Nat → Int32) (v : Nat) : (FP.dsub (FP.i2d t) (f_X3_trimmedMean M v)).toNat % 2 ^ 63 < 1059 * 2 ^ 52 :=
  FP.Core.dsub_mag (K := 1057) (Nat.lt_trans (FP.Core.i2d_mag t) (by decide)) magV (by decide)
theorem nan_db (t : Int32) (M : Nat → Nat → Int32) (v : Nat) : FP.dIsNaN (FP.dsub (FP.i2d t) (f_X3_trimmedMean M v)) = false := (FP.Core.fin_of_lt (mag_db t M v) (by decide)).notNaN

def it10_X2_isSumRight (M : Nat → Nat → Int32) (k : Nat) (d : Nat) : Nat → Int32
  | 0 => 0
  | n10 + 1 => (if (M (52 + k) (11 - n10)) = 0 then (it10_X2_isSumRight M k d n10) else ((it10_X2_isSumRight M k d n10) + (f_X1_scoreBy M (12 * k + (11 - n10)) d)))
def it50_X2_isSumRight (M : Nat → Nat → Int32) (k : Nat) (d : Nat) : Nat → Int32
  | 0 => (it10_X2_isSumRight M k d 12)
  | n50 + 1 => (if (M (64 + k) (2 - n50)) = 0 then (it50_X2_isSumRight M k d n50) else ((it50_X2_isSumRight M k d n50) + (f_X2_componentScore M k (3 * k + (2 - n50)))))
def f_X2_isSumRight (M : Nat → Nat → Int32) (k : Nat) (d : Nat) : Int32 :=
  if ((if 0 < ((it50_X2_isSumRight M k d 3) - (f_X2_fine M k)) then ((it50_X2_isSumRight M k d 3) - (f_X2_fine M k)) else 0) : Int32) = (f_X2_totalOf M k (f_X2_elementScoresBy M k d)) then 1
  else 0
set_option maxHeartbeats 4000000 in
set_option maxRecDepth 100000 in
theorem m_X2_isSumRight {D : va_G} {cA : Nat → ClassId} {B : Nat} (l : Launch) {dom : Nat → Prop} {ad : Nat → Nat} {X : Nat → va_E} {H0 : Heap} (M : Nat → Nat → Int32) (k : Nat) (d : Nat) (N : kw D cA B dom ad X M H0) (h_k : k < 12) (d_k : dP dom M k) (h_d : d < 3) (d_d : dom (30 + d) ∧ dom (33 + d)) : MetR D cA B l yX2_isSumRight cX2_isSumRight 5 (some .boolean) 4 96 [.ref (ad (40 + k)), .ref (ad (30 + d))] H0 (some (.int (f_X2_isSumRight M k d))) := by
  refine MetR.of (by decide) (Nat.le_of_ble_eq_true rfl) ?_
  intro p e s m args below meth c S hr hlk hh K ls hl
  subst hh
  have hS : va_S (fun q => B ≤ q) s.heap s.heap [] := va_S.rf
  have hl : lv_has ls 5 [(0, .ref (ad (40 + k))), (1, .ref (ad (30 + d)))] := hl
  refine lv_iconst (v := 0) S.1 S.2.1 dX2_isSumRight_0 (by decide) ?_
  refine lv_istore_n (lv' := [(2, .int 0), (0, .ref (ad (40 + k))), (1, .ref (ad (30 + d)))]) S.1 S.2.1 dX2_isSumRight_1 rfl hl (by decide) rfl (fun ls hl => ?_)
  refine lv_aload_n S.1 S.2.1 dX2_isSumRight_2 rfl (lv_at hl 1 rfl) ?_
  refine kr_get S K N (40 + k) (by unfold crole; omega) (d_k.1) (sh_P (by omega)) (C0 := RX2) (T := TX2) (n := 12) rfl iWX2 0 (by decide) k1_170 rfl (v := .ref (ad (52 + k))) rfl dX2_isSumRight_3 ?_
  refine kr_alen S K N (52 + k) (by unfold crole; omega) (d_k.2.1) 3 rfl (sh_Pe (by omega)) (v := 12) rfl dX2_isSumRight_6 ?_
  refine lv_iconst (v := 1) S.1 S.2.1 dX2_isSumRight_7 (by decide) ?_
  refine lv_isub S.1 S.2.1 dX2_isSumRight_8 ?_
  refine lv_istore_n (lv' := [(3, .int (12 - 1)), (2, .int 0), (0, .ref (ad (40 + k))), (1, .ref (ad (30 + d)))]) S.1 S.2.1 dX2_isSumRight_9 rfl hl (by decide) rfl (fun ls hl => ?_)
  refine nl (h := 10) (N := 12) (n := 5) (L := fun i10 : Nat => [(3, .int (dn i10)), (2, .int (it10_X2_isSumRight M k d i10)), (0, .ref (ad (40 + k))), (1, .ref (ad (30 + d)))]) (fun ls hl => ?_) (fun i10 hi10 ih10 ls hl => ?_) ls (lv_sub hl [0, 1, 2, 3] rfl)
  · try dsimp only at hl
    refine lv_iload_n S.1 S.2.1 dX2_isSumRight_10 rfl (lv_at hl 0 rfl) ?_
    refine lv_if_lt (tgt := 42) S.1 S.2.1 dX2_isSumRight_11 (by decide) (fun _ => ?_) (fun c9 => absurd (dn_end) c9)
    refine lv_aload_n S.1 S.2.1 dX2_isSumRight_42 rfl (lv_at hl 2 rfl) ?_
    refine kr_get S K N (40 + k) (by unfold crole; omega) (d_k.1) (sh_P (by omega)) (C0 := RX2) (T := TX2) (n := 12) rfl iWX2 1 (by decide) k1_171 rfl (v := .ref (ad (64 + k))) rfl dX2_isSumRight_43 ?_
    refine kr_alen S K N (64 + k) (by unfold crole; omega) (d_k.2.2.1) 4 rfl (sh_Pc (by omega)) (v := 3) rfl dX2_isSumRight_46 ?_
    refine lv_iconst (v := 1) S.1 S.2.1 dX2_isSumRight_47 (by decide) ?_
    refine lv_isub S.1 S.2.1 dX2_isSumRight_48 ?_
    refine lv_istore_n (lv' := [(3, .int (3 - 1)), (2, .int (it10_X2_isSumRight M k d 12)), (0, .ref (ad (40 + k))), (1, .ref (ad (30 + d)))]) S.1 S.2.1 dX2_isSumRight_49 rfl hl (by decide) rfl (fun ls hl => ?_)
    refine nl (h := 50) (N := 3) (n := 5) (L := fun i50 : Nat => [(3, .int (dm i50)), (2, .int (it50_X2_isSumRight M k d i50)), (0, .ref (ad (40 + k))), (1, .ref (ad (30 + d)))]) (fun ls hl => ?_) (fun i50 hi50 ih50 ls hl => ?_) ls (lv_sub hl [0, 1, 2, 3] rfl)
    · try dsimp only at hl
      refine lv_iload_n S.1 S.2.1 dX2_isSumRight_50 rfl (lv_at hl 0 rfl) ?_
      refine lv_if_lt (tgt := 82) S.1 S.2.1 dX2_isSumRight_51 (by decide) (fun _ => ?_) (fun c9 => absurd (dm_end) c9)
      refine lv_iconst (v := 0) S.1 S.2.1 dX2_isSumRight_82 (by decide) ?_
      refine lv_iload_n S.1 S.2.1 dX2_isSumRight_83 rfl (lv_at hl 1 rfl) ?_
      refine lv_aload_n S.1 S.2.1 dX2_isSumRight_84 rfl (lv_at hl 2 rfl) ?_
      refine kc_rV S K N hS (40 + k) (by unfold crole; omega) (d_k.1) (sh_P (by omega)) (T := TX2) (n := 12) rfl (As := []) (m_X2_fine l M k N (by omega) d_k) k2_144 k2_135 k2_136 k1_7 k2_137 (num := 0) (by decide +kernel) rfl ⟨Nat.le_of_ble_eq_true rfl, Nat.le_of_ble_eq_true rfl⟩ hl.1 rfl (Nat.le_of_ble_eq_true rfl) dX2_isSumRight_85 ⟨Nat.le_of_ble_eq_true rfl, Nat.le_of_ble_eq_true rfl⟩ ?_
      refine lv_isub S.1 S.2.1 dX2_isSumRight_88 ?_
      refine va_mmax S.1 S.2.1 (S.2.2.1.trans hl.1.symm) S.2.2.2.1 (S.2.2.2.2 _ k2_138) (S.2.2.2.2 _ k2_46) (S.2.2.2.2 _ k1_12) (S.2.2.2.2 _ k2_47) (Nat.le_of_ble_eq_true rfl) (Nat.le_of_ble_eq_true rfl) (Nat.le_of_ble_eq_true rfl) (Nat.le_of_ble_eq_true rfl) dX2_isSumRight_89 ?_
      refine lv_aload_n S.1 S.2.1 dX2_isSumRight_92 rfl (lv_at hl 2 rfl) ?_
      refine lv_aload_n S.1 S.2.1 dX2_isSumRight_93 rfl (lv_at hl 2 rfl) ?_
      refine lv_aload_n S.1 S.2.1 dX2_isSumRight_94 rfl (lv_at hl 3 rfl) ?_
      refine kc_rV S K N hS (40 + k) (by unfold crole; omega) (d_k.1) (sh_P (by omega)) (T := TX2) (n := 12) rfl (As := [.ref (ad (30 + d))]) (m_X2_elementScoresBy l M k d N (by omega) d_k (by omega) d_d) k2_190 k2_119 k2_120 k1_7 k2_121 (num := 1) (by decide +kernel) rfl ⟨Nat.le_of_ble_eq_true rfl, Nat.le_of_ble_eq_true rfl⟩ hl.1 rfl (Nat.le_of_ble_eq_true rfl) dX2_isSumRight_95 ⟨Nat.le_of_ble_eq_true rfl, Nat.le_of_ble_eq_true rfl⟩ ?_
      refine kc_rV S K N hS (40 + k) (by unfold crole; omega) (d_k.1) (sh_P (by omega)) (T := TX2) (n := 12) rfl (As := [.int (f_X2_elementScoresBy M k d)]) (m_X2_totalOf l M k (f_X2_elementScoresBy M k d) N (by omega) d_k) k2_191 k2_140 k2_141 k1_7 k2_142 (num := 1) (by decide +kernel) rfl ⟨Nat.le_of_ble_eq_true rfl, Nat.le_of_ble_eq_true rfl⟩ hl.1 rfl (Nat.le_of_ble_eq_true rfl) dX2_isSumRight_98 ⟨Nat.le_of_ble_eq_true rfl, Nat.le_of_ble_eq_true rfl⟩ ?_
      refine lv_icmp_ne (tgt := 108) S.1 S.2.1 dX2_isSumRight_101 (by decide) (fun c101_1 => ?_) (fun c101_1 => ?_)
      · refine lv_iconst (v := 0) S.1 S.2.1 dX2_isSumRight_108 (by decide) ?_
        exact ee_rZ S hr hlk (zb_0) (by unfold f_X2_isSumRight; first | (rw [if_neg c101_1]; done) | (simp only [if_neg c101_1]; done) | rfl) dX2_isSumRight_109
      · refine lv_iconst (v := 1) S.1 S.2.1 dX2_isSumRight_104 (by decide) ?_
        refine lv_goto (tgt := 109) S.1 S.2.1 dX2_isSumRight_105 (by decide) ?_
        exact ee_rZ S hr hlk (zb_1) (by unfold f_X2_isSumRight; first | (rw [if_pos c101_1]; done) | (simp only [if_pos c101_1]; done) | rfl) dX2_isSumRight_109
    · try dsimp only at hl
      refine lv_iload_n S.1 S.2.1 dX2_isSumRight_50 rfl (lv_at hl 0 rfl) ?_
      refine nt_i (y := nI (2 - i50)) (dm_nat hi50) ?_
      refine lv_if_lt (tgt := 82) S.1 S.2.1 dX2_isSumRight_51 (by decide) (fun c9 => absurd c9 (nI_pos (by omega))) (fun _ => ?_)
      refine lv_aload_n S.1 S.2.1 dX2_isSumRight_54 rfl (lv_at hl 2 rfl) ?_
      refine kr_get S K N (40 + k) (by unfold crole; omega) (d_k.1) (sh_P (by omega)) (C0 := RX2) (T := TX2) (n := 12) rfl iWX2 1 (by decide) k1_171 rfl (v := .ref (ad (64 + k))) rfl dX2_isSumRight_55 ?_
      refine lv_iload_n S.1 S.2.1 dX2_isSumRight_58 rfl (lv_at hl 0 rfl) ?_
      refine nt_i (y := nI (2 - i50)) (dm_nat hi50) ?_
      by_cases cn59_2 : (M (64 + k) (2 - i50)) = 0
      · refine kr_aald S K N (64 + k) (by unfold crole; omega) (d_k.2.2.1) 4 rfl (sh_Pc (by omega)) (v := .null) (vp_in_nI (show (2 - i50) < 3 by omega) (by decide)) (rf3_z (nI_clamp (show (2 - i50) < 2 ^ 31 by omega)) (cn59_2)) dX2_isSumRight_59 ?_
        refine lv_astoreN (lv' := [(4, .null), (3, .int (dm i50)), (2, .int (it50_X2_isSumRight M k d i50)), (0, .ref (ad (40 + k))), (1, .ref (ad (30 + d)))]) S.1 S.2.1 dX2_isSumRight_60 hl (by decide) rfl (fun ls hl => ?_)
        refine lv_aloadN S.1 S.2.1 dX2_isSumRight_62 (lv_at hl 0 rfl) ?_
        refine lv_ifnullN (tgt := 76) S.1 S.2.1 dX2_isSumRight_64 (by decide) ?_
        refine lv_iinc (v := (dm (i50 + 1))) (lv' := [(3, .int (dm (i50 + 1))), (4, .null), (2, .int (it50_X2_isSumRight M k d i50)), (0, .ref (ad (40 + k))), (1, .ref (ad (30 + d)))]) S.1 S.2.1 dX2_isSumRight_76 hl (k := 1) rfl (dm_next i50 (by omega)) (by decide) rfl (fun ls hl => ?_)
        refine lv_goto (tgt := 50) S.1 S.2.1 dX2_isSumRight_79 (by decide) ?_
        have hstep : (it50_X2_isSumRight M k d (i50 + 1)) = (it50_X2_isSumRight M k d i50) := by
          show (_ : _) = _
          simp only [it50_X2_isSumRight, if_pos cn59_2]
        refine ih50 ls (by rw [hstep]; exact lv_sub hl [0, 2, 3, 4] rfl)
      · refine kr_aald S K N (64 + k) (by unfold crole; omega) (d_k.2.2.1) 4 rfl (sh_Pc (by omega)) (v := .ref (ad (300 + 3 * (3 * k + (2 - i50))))) (vp_in_nI (show (2 - i50) < 3 by omega) (by decide)) (rf3_s (nI_clamp (show (2 - i50) < 2 ^ 31 by omega)) (cn59_2) (by omega)) dX2_isSumRight_59 ?_
        refine lv_astore (lv' := [(4, .ref (ad (300 + 3 * (3 * k + (2 - i50))))), (3, .int (dm i50)), (2, .int (it50_X2_isSumRight M k d i50)), (0, .ref (ad (40 + k))), (1, .ref (ad (30 + d)))]) S.1 S.2.1 dX2_isSumRight_60 hl (by decide) rfl (fun ls hl => ?_)
        refine lv_aload S.1 S.2.1 dX2_isSumRight_62 (lv_at hl 0 rfl) ?_
        refine lv_ifnull S.1 S.2.1 dX2_isSumRight_64 ?_
        refine lv_iload_n S.1 S.2.1 dX2_isSumRight_67 rfl (lv_at hl 2 rfl) ?_
        refine lv_aload_n S.1 S.2.1 dX2_isSumRight_68 rfl (lv_at hl 3 rfl) ?_
        refine lv_aload S.1 S.2.1 dX2_isSumRight_69 (lv_at hl 0 rfl) ?_
        refine kc_rV S K N hS (40 + k) (by unfold crole; omega) (d_k.1) (sh_P (by omega)) (T := TX2) (n := 12) rfl (As := [.ref (ad (300 + 3 * (3 * k + (2 - i50))))]) (m_X2_componentScore l M k (3 * k + (2 - i50)) N (by omega) d_k (by omega) (d_k.2.2.2.1 (2 - i50) (by omega) cn59_2)) k2_127 k2_129 kS_5 k1_7 k2_130 (num := 1) (by decide +kernel) rfl ⟨Nat.le_of_ble_eq_true rfl, Nat.le_of_ble_eq_true rfl⟩ hl.1 rfl (Nat.le_of_ble_eq_true rfl) dX2_isSumRight_71 ⟨Nat.le_of_ble_eq_true rfl, Nat.le_of_ble_eq_true rfl⟩ ?_
        refine lv_iadd S.1 S.2.1 dX2_isSumRight_74 ?_
        refine lv_istore_n (lv' := [(2, .int ((it50_X2_isSumRight M k d i50) + (f_X2_componentScore M k (3 * k + (2 - i50))))), (4, .ref (ad (300 + 3 * (3 * k + (2 - i50))))), (3, .int (dm i50)), (0, .ref (ad (40 + k))), (1, .ref (ad (30 + d)))]) S.1 S.2.1 dX2_isSumRight_75 rfl hl (by decide) rfl (fun ls hl => ?_)
        refine lv_iinc (v := (dm (i50 + 1))) (lv' := [(3, .int (dm (i50 + 1))), (2, .int ((it50_X2_isSumRight M k d i50) + (f_X2_componentScore M k (3 * k + (2 - i50))))), (4, .ref (ad (300 + 3 * (3 * k + (2 - i50))))), (0, .ref (ad (40 + k))), (1, .ref (ad (30 + d)))]) S.1 S.2.1 dX2_isSumRight_76 hl (k := 2) rfl (dm_next i50 (by omega)) (by decide) rfl (fun ls hl => ?_)
        refine lv_goto (tgt := 50) S.1 S.2.1 dX2_isSumRight_79 (by decide) ?_
        have hstep : (it50_X2_isSumRight M k d (i50 + 1)) = ((it50_X2_isSumRight M k d i50) + (f_X2_componentScore M k (3 * k + (2 - i50)))) := by
          show (_ : _) = _
          simp only [it50_X2_isSumRight, if_neg cn59_2]
        refine ih50 ls (by rw [hstep]; exact lv_sub hl [0, 1, 3, 4] rfl)
  · try dsimp only at hl
    refine lv_iload_n S.1 S.2.1 dX2_isSumRight_10 rfl (lv_at hl 0 rfl) ?_
    refine nt_i (y := nI (11 - i10)) (dn_nat hi10) ?_
    refine lv_if_lt (tgt := 42) S.1 S.2.1 dX2_isSumRight_11 (by decide) (fun c9 => absurd c9 (nI_pos (by omega))) (fun _ => ?_)
    refine lv_aload_n S.1 S.2.1 dX2_isSumRight_14 rfl (lv_at hl 2 rfl) ?_
    refine kr_get S K N (40 + k) (by unfold crole; omega) (d_k.1) (sh_P (by omega)) (C0 := RX2) (T := TX2) (n := 12) rfl iWX2 0 (by decide) k1_170 rfl (v := .ref (ad (52 + k))) rfl dX2_isSumRight_15 ?_
    refine lv_iload_n S.1 S.2.1 dX2_isSumRight_18 rfl (lv_at hl 0 rfl) ?_
    refine nt_i (y := nI (11 - i10)) (dn_nat hi10) ?_
    by_cases cn19_3 : (M (52 + k) (11 - i10)) = 0
    · refine kr_aald S K N (52 + k) (by unfold crole; omega) (d_k.2.1) 3 rfl (sh_Pe (by omega)) (v := .null) (vp_in_nI (show (11 - i10) < 12 by omega) (by decide)) (rf_z (nI_clamp (show (11 - i10) < 2 ^ 31 by omega)) (cn19_3)) dX2_isSumRight_19 ?_
      refine lv_astoreN (lv' := [(4, .null), (3, .int (dn i10)), (2, .int (it10_X2_isSumRight M k d i10)), (0, .ref (ad (40 + k))), (1, .ref (ad (30 + d)))]) S.1 S.2.1 dX2_isSumRight_20 hl (by decide) rfl (fun ls hl => ?_)
      refine lv_aloadN S.1 S.2.1 dX2_isSumRight_22 (lv_at hl 0 rfl) ?_
      refine lv_ifnullN (tgt := 36) S.1 S.2.1 dX2_isSumRight_24 (by decide) ?_
      refine lv_iinc (v := (dn (i10 + 1))) (lv' := [(3, .int (dn (i10 + 1))), (4, .null), (2, .int (it10_X2_isSumRight M k d i10)), (0, .ref (ad (40 + k))), (1, .ref (ad (30 + d)))]) S.1 S.2.1 dX2_isSumRight_36 hl (k := 1) rfl (dn_next i10 (by omega)) (by decide) rfl (fun ls hl => ?_)
      refine lv_goto (tgt := 10) S.1 S.2.1 dX2_isSumRight_39 (by decide) ?_
      have hstep : (it10_X2_isSumRight M k d (i10 + 1)) = (it10_X2_isSumRight M k d i10) := by
        show (_ : _) = _
        simp only [it10_X2_isSumRight, if_pos cn19_3]
      refine ih10 ls (by rw [hstep]; exact lv_sub hl [0, 2, 3, 4] rfl)
    · refine kr_aald S K N (52 + k) (by unfold crole; omega) (d_k.2.1) 3 rfl (sh_Pe (by omega)) (v := .ref (ad (80 + (12 * k + (11 - i10))))) (vp_in_nI (show (11 - i10) < 12 by omega) (by decide)) (rf_s (nI_clamp (show (11 - i10) < 2 ^ 31 by omega)) (cn19_3) (by omega)) dX2_isSumRight_19 ?_
      refine lv_astore (lv' := [(4, .ref (ad (80 + (12 * k + (11 - i10))))), (3, .int (dn i10)), (2, .int (it10_X2_isSumRight M k d i10)), (0, .ref (ad (40 + k))), (1, .ref (ad (30 + d)))]) S.1 S.2.1 dX2_isSumRight_20 hl (by decide) rfl (fun ls hl => ?_)
      refine lv_aload S.1 S.2.1 dX2_isSumRight_22 (lv_at hl 0 rfl) ?_
      refine lv_ifnull S.1 S.2.1 dX2_isSumRight_24 ?_
      refine lv_iload_n S.1 S.2.1 dX2_isSumRight_27 rfl (lv_at hl 2 rfl) ?_
      refine lv_aload S.1 S.2.1 dX2_isSumRight_28 (lv_at hl 0 rfl) ?_
      refine lv_aload_n S.1 S.2.1 dX2_isSumRight_30 rfl (lv_at hl 4 rfl) ?_
      refine kc_rV S K N hS (80 + (12 * k + (11 - i10))) (by unfold crole; omega) ((d_k.2.2.2.2 (11 - i10) (by omega) cn19_3).1) (sh_L (by omega)) (T := TX1) (n := 8) rfl (As := [.ref (ad (30 + d))]) (m_X1_scoreBy l M (12 * k + (11 - i10)) d N (by omega) (d_k.2.2.2.2 (11 - i10) (by omega) cn19_3) (by omega) d_d) k2_122 k2_105 k2_106 k1_11 k2_107 (num := 1) (by decide +kernel) rfl ⟨Nat.le_of_ble_eq_true rfl, Nat.le_of_ble_eq_true rfl⟩ hl.1 rfl (Nat.le_of_ble_eq_true rfl) dX2_isSumRight_31 ⟨Nat.le_of_ble_eq_true rfl, Nat.le_of_ble_eq_true rfl⟩ ?_
      refine lv_iadd S.1 S.2.1 dX2_isSumRight_34 ?_
      refine lv_istore_n (lv' := [(2, .int ((it10_X2_isSumRight M k d i10) + (f_X1_scoreBy M (12 * k + (11 - i10)) d))), (4, .ref (ad (80 + (12 * k + (11 - i10))))), (3, .int (dn i10)), (0, .ref (ad (40 + k))), (1, .ref (ad (30 + d)))]) S.1 S.2.1 dX2_isSumRight_35 rfl hl (by decide) rfl (fun ls hl => ?_)
      refine lv_iinc (v := (dn (i10 + 1))) (lv' := [(3, .int (dn (i10 + 1))), (2, .int ((it10_X2_isSumRight M k d i10) + (f_X1_scoreBy M (12 * k + (11 - i10)) d))), (4, .ref (ad (80 + (12 * k + (11 - i10))))), (0, .ref (ad (40 + k))), (1, .ref (ad (30 + d)))]) S.1 S.2.1 dX2_isSumRight_36 hl (k := 2) rfl (dn_next i10 (by omega)) (by decide) rfl (fun ls hl => ?_)
      refine lv_goto (tgt := 10) S.1 S.2.1 dX2_isSumRight_39 (by decide) ?_
      have hstep : (it10_X2_isSumRight M k d (i10 + 1)) = ((it10_X2_isSumRight M k d i10) + (f_X1_scoreBy M (12 * k + (11 - i10)) d)) := by
        show (_ : _) = _
        simp only [it10_X2_isSumRight, if_neg cn19_3]
      refine ih10 ls (by rw [hstep]; exact lv_sub hl [0, 1, 3, 4] rfl)

def f_X4_programmeOf (M : Nat → Nat → Int32) (p0 : Int32) : Int32 :=
  if p0 < 0 then 0
  else if 12 ≤ p0 then 0
  else if (M 1 p0.toNatClampNeg) = 0 then 0
  else 1
set_option maxHeartbeats 4000000 in
set_option maxRecDepth 100000 in
theorem m_X4_programmeOf {D : va_G} {cA : Nat → ClassId} {B : Nat} (l : Launch) {dom : Nat → Prop} {ad : Nat → Nat} {X : Nat → va_E} {H0 : Heap} (M : Nat → Nat → Int32) (p0 : Int32) (N : kw D cA B dom ad X M H0) (d_K : dK dom M) : MetR D cA B l yX4_programmeOf cX4_programmeOf 2 (some (.object "EdgeCode$Programme")) 0 0 [.ref (ad 0), .int p0] H0 (some (rq ad (f_X4_programmeOf M p0) (40 + p0.toNatClampNeg))) := by
  refine MetR.of (by decide) (Nat.le_of_ble_eq_true rfl) ?_
  intro p e s m args below meth c S hr hlk hh K ls hl
  subst hh
  have hS : va_S (fun q => B ≤ q) s.heap s.heap [] := va_S.rf
  have hl : lv_has ls 2 [(0, .ref (ad 0)), (1, .int p0)] := hl
  refine lv_iload_n S.1 S.2.1 dX4_programmeOf_0 rfl (lv_at hl 1 rfl) ?_
  refine lv_if_lt (tgt := 22) S.1 S.2.1 dX4_programmeOf_1 (by decide) (fun c1_1 => ?_) (fun c1_1 => ?_)
  · refine lv_null S.1 S.2.1 dX4_programmeOf_22 ?_
    exact ee_rA S hr hlk (by unfold f_X4_programmeOf; (try simp only [if_pos c1_1]); rfl) (Or.inl rfl) dX4_programmeOf_23
  · refine lv_iload_n S.1 S.2.1 dX4_programmeOf_4 rfl (lv_at hl 1 rfl) ?_
    refine lv_aload_n S.1 S.2.1 dX4_programmeOf_5 rfl (lv_at hl 0 rfl) ?_
    refine kr_get S K N 0 (by unfold crole; omega) (d_K.1 0 (by decide)) (sh_K) (C0 := RX4) (T := TX4) (n := 6) rfl iWX4 0 (by decide) k1_45 rfl (v := .ref (ad 1)) rfl dX4_programmeOf_6 ?_
    refine kr_alen S K N 1 (by unfold crole; omega) (d_K.1 1 (by decide)) 5 rfl (sh_1) (v := 12) rfl dX4_programmeOf_9 ?_
    refine lv_icmp_ge (tgt := 22) S.1 S.2.1 dX4_programmeOf_10 (by decide) (fun c10_2 => ?_) (fun c10_2 => ?_)
    · refine lv_null S.1 S.2.1 dX4_programmeOf_22 ?_
      exact ee_rA S hr hlk (by unfold f_X4_programmeOf; (try simp only [if_neg c1_1, if_pos c10_2]); rfl) (Or.inl rfl) dX4_programmeOf_23
    · refine lv_aload_n S.1 S.2.1 dX4_programmeOf_13 rfl (lv_at hl 0 rfl) ?_
      refine kr_get S K N 0 (by unfold crole; omega) (d_K.1 0 (by decide)) (sh_K) (C0 := RX4) (T := TX4) (n := 6) rfl iWX4 0 (by decide) k1_45 rfl (v := .ref (ad 1)) rfl dX4_programmeOf_14 ?_
      refine lv_iload_n S.1 S.2.1 dX4_programmeOf_17 rfl (lv_at hl 1 rfl) ?_
      by_cases cn18_3 : (M 1 p0.toNatClampNeg) = 0
      · refine kr_aald S K N 1 (by unfold crole; omega) (d_K.1 1 (by decide)) 5 rfl (sh_1) (v := .null) (vi_ge c1_1 c10_2) (rf_z (rfl) (cn18_3)) dX4_programmeOf_18 ?_
        refine lv_goto (tgt := 23) S.1 S.2.1 dX4_programmeOf_19 (by decide) ?_
        exact ee_rA S hr hlk (by unfold f_X4_programmeOf; (try simp only [if_neg c1_1, if_neg c10_2, if_pos cn18_3]); rfl) (Or.inl rfl) dX4_programmeOf_23
      · refine kr_aald S K N 1 (by unfold crole; omega) (d_K.1 1 (by decide)) 5 rfl (sh_1) (v := .ref (ad (40 + p0.toNatClampNeg))) (vi_ge c1_1 c10_2) (rf_s (rfl) (cn18_3) (by omega)) dX4_programmeOf_18 ?_
        refine lv_goto (tgt := 23) S.1 S.2.1 dX4_programmeOf_19 (by decide) ?_
        exact ee_rA S hr hlk (by unfold f_X4_programmeOf; (try simp only [if_neg c1_1, if_neg c10_2, if_neg cn18_3]); rfl) (Or.inr ⟨_, rfl⟩) dX4_programmeOf_23

theorem at_X4_programmeOf {M : Nat → Nat → Int32} {p0 : Int32} (h : ¬ f_X4_programmeOf M p0 = 0) : p0.toNatClampNeg < 12 ∧ ¬ M 1 p0.toNatClampNeg = 0 ∧ vp_in p0 12 := by
  unfold f_X4_programmeOf at h
  by_cases h1 : p0 < 0
  · rw [if_pos h1] at h
    exact absurd rfl h
  · rw [if_neg h1] at h
    by_cases h2 : 12 ≤ p0
    · rw [if_pos h2] at h
      exact absurd rfl h
    · rw [if_neg h2] at h
      by_cases h3 : M 1 p0.toNatClampNeg = 0
      · rw [if_pos h3] at h
        exact absurd rfl h
      · exact ⟨at_lt (vi_ge h1 h2), h3, vi_ge h1 h2⟩

def f_X4_editionAt (M : Nat → Nat → Int32) (p0 : Int32) : Int32 :=
  if p0 < 0 then 0
  else if 3 ≤ p0 then 0
  else if (M 2 p0.toNatClampNeg) = 0 then 0
  else 1
set_option maxHeartbeats 4000000 in
set_option maxRecDepth 100000 in
theorem m_X4_editionAt {D : va_G} {cA : Nat → ClassId} {B : Nat} (l : Launch) {dom : Nat → Prop} {ad : Nat → Nat} {X : Nat → va_E} {H0 : Heap} (M : Nat → Nat → Int32) (p0 : Int32) (N : kw D cA B dom ad X M H0) (d_K : dK dom M) : MetR D cA B l yX4_editionAt cX4_editionAt 2 (some (.object "EdgeCode$Edition")) 0 0 [.ref (ad 0), .int p0] H0 (some (rq ad (f_X4_editionAt M p0) (30 + p0.toNatClampNeg))) := by
  refine MetR.of (by decide) (Nat.le_of_ble_eq_true rfl) ?_
  intro p e s m args below meth c S hr hlk hh K ls hl
  subst hh
  have hS : va_S (fun q => B ≤ q) s.heap s.heap [] := va_S.rf
  have hl : lv_has ls 2 [(0, .ref (ad 0)), (1, .int p0)] := hl
  refine lv_iload_n S.1 S.2.1 dX4_editionAt_0 rfl (lv_at hl 1 rfl) ?_
  refine lv_if_lt (tgt := 22) S.1 S.2.1 dX4_editionAt_1 (by decide) (fun c1_1 => ?_) (fun c1_1 => ?_)
  · refine lv_null S.1 S.2.1 dX4_editionAt_22 ?_
    exact ee_rA S hr hlk (by unfold f_X4_editionAt; (try simp only [if_pos c1_1]); rfl) (Or.inl rfl) dX4_editionAt_23
  · refine lv_iload_n S.1 S.2.1 dX4_editionAt_4 rfl (lv_at hl 1 rfl) ?_
    refine lv_aload_n S.1 S.2.1 dX4_editionAt_5 rfl (lv_at hl 0 rfl) ?_
    refine kr_get S K N 0 (by unfold crole; omega) (d_K.1 0 (by decide)) (sh_K) (C0 := RX4) (T := TX4) (n := 6) rfl iWX4 1 (by decide) k1_46 rfl (v := .ref (ad 2)) rfl dX4_editionAt_6 ?_
    refine kr_alen S K N 2 (by unfold crole; omega) (d_K.1 2 (by decide)) 6 rfl (sh_2) (v := 3) rfl dX4_editionAt_9 ?_
    refine lv_icmp_ge (tgt := 22) S.1 S.2.1 dX4_editionAt_10 (by decide) (fun c10_2 => ?_) (fun c10_2 => ?_)
    · refine lv_null S.1 S.2.1 dX4_editionAt_22 ?_
      exact ee_rA S hr hlk (by unfold f_X4_editionAt; (try simp only [if_neg c1_1, if_pos c10_2]); rfl) (Or.inl rfl) dX4_editionAt_23
    · refine lv_aload_n S.1 S.2.1 dX4_editionAt_13 rfl (lv_at hl 0 rfl) ?_
      refine kr_get S K N 0 (by unfold crole; omega) (d_K.1 0 (by decide)) (sh_K) (C0 := RX4) (T := TX4) (n := 6) rfl iWX4 1 (by decide) k1_46 rfl (v := .ref (ad 2)) rfl dX4_editionAt_14 ?_
      refine lv_iload_n S.1 S.2.1 dX4_editionAt_17 rfl (lv_at hl 1 rfl) ?_
      by_cases cn18_3 : (M 2 p0.toNatClampNeg) = 0
      · refine kr_aald S K N 2 (by unfold crole; omega) (d_K.1 2 (by decide)) 6 rfl (sh_2) (v := .null) (vi_ge c1_1 c10_2) (rf_z (rfl) (cn18_3)) dX4_editionAt_18 ?_
        refine lv_goto (tgt := 23) S.1 S.2.1 dX4_editionAt_19 (by decide) ?_
        exact ee_rA S hr hlk (by unfold f_X4_editionAt; (try simp only [if_neg c1_1, if_neg c10_2, if_pos cn18_3]); rfl) (Or.inl rfl) dX4_editionAt_23
      · refine kr_aald S K N 2 (by unfold crole; omega) (d_K.1 2 (by decide)) 6 rfl (sh_2) (v := .ref (ad (30 + p0.toNatClampNeg))) (vi_ge c1_1 c10_2) (rf_s (rfl) (cn18_3) (by omega)) dX4_editionAt_18 ?_
        refine lv_goto (tgt := 23) S.1 S.2.1 dX4_editionAt_19 (by decide) ?_
        exact ee_rA S hr hlk (by unfold f_X4_editionAt; (try simp only [if_neg c1_1, if_neg c10_2, if_neg cn18_3]); rfl) (Or.inr ⟨_, rfl⟩) dX4_editionAt_23

theorem at_X4_editionAt {M : Nat → Nat → Int32} {p0 : Int32} (h : ¬ f_X4_editionAt M p0 = 0) : p0.toNatClampNeg < 3 ∧ ¬ M 2 p0.toNatClampNeg = 0 ∧ vp_in p0 3 := by
  unfold f_X4_editionAt at h
  by_cases h1 : p0 < 0
  · rw [if_pos h1] at h
    exact absurd rfl h
  · rw [if_neg h1] at h
    by_cases h2 : 3 ≤ p0
    · rw [if_pos h2] at h
      exact absurd rfl h
    · rw [if_neg h2] at h
      by_cases h3 : M 2 p0.toNatClampNeg = 0
      · rw [if_pos h3] at h
        exact absurd rfl h
      · exact ⟨at_lt (vi_ge h1 h2), h3, vi_ge h1 h2⟩

def f_X4_isRankPlace (M : Nat → Nat → Int32) (p0 : Int32) : Int32 :=
  if p0 < 0 then 0
  else if 12 ≤ p0 then 0
  else 1
set_option maxHeartbeats 4000000 in
set_option maxRecDepth 100000 in
theorem m_X4_isRankPlace {D : va_G} {cA : Nat → ClassId} {B : Nat} (l : Launch) {dom : Nat → Prop} {ad : Nat → Nat} {X : Nat → va_E} {H0 : Heap} (M : Nat → Nat → Int32) (p0 : Int32) (N : kw D cA B dom ad X M H0) (d_K : (∀ r, r < 5 → dom r) ∧ True) : MetR D cA B l yX4_isRankPlace cX4_isRankPlace 2 (some .boolean) 0 0 [.ref (ad 0), .int p0] H0 (some (.int (f_X4_isRankPlace M p0))) := by
  refine MetR.of (by decide) (Nat.le_of_ble_eq_true rfl) ?_
  intro p e s m args below meth c S hr hlk hh K ls hl
  subst hh
  have hS : va_S (fun q => B ≤ q) s.heap s.heap [] := va_S.rf
  have hl : lv_has ls 2 [(0, .ref (ad 0)), (1, .int p0)] := hl
  refine lv_iload_n S.1 S.2.1 dX4_isRankPlace_0 rfl (lv_at hl 1 rfl) ?_
  refine lv_if_lt (tgt := 26) S.1 S.2.1 dX4_isRankPlace_1 (by decide) (fun c1_1 => ?_) (fun c1_1 => ?_)
  · refine lv_iconst (v := 0) S.1 S.2.1 dX4_isRankPlace_26 (by decide) ?_
    exact ee_rZ S hr hlk (zb_0) (by unfold f_X4_isRankPlace; first | (rw [if_pos c1_1]; done) | (simp only [if_pos c1_1]; done) | rfl) dX4_isRankPlace_27
  · refine lv_iload_n S.1 S.2.1 dX4_isRankPlace_4 rfl (lv_at hl 1 rfl) ?_
    refine lv_aload_n S.1 S.2.1 dX4_isRankPlace_5 rfl (lv_at hl 0 rfl) ?_
    refine kr_get S K N 0 (by unfold crole; omega) (d_K.1 0 (by decide)) (sh_K) (C0 := RX4) (T := TX4) (n := 6) rfl iWX4 2 (by decide) k1_47 rfl (v := .ref (ad 3)) rfl dX4_isRankPlace_6 ?_
    refine kr_alen S K N 3 (by unfold crole; omega) (d_K.1 3 (by decide)) 0 rfl (sh_3) (v := 12) rfl dX4_isRankPlace_9 ?_
    refine lv_icmp_ge (tgt := 26) S.1 S.2.1 dX4_isRankPlace_10 (by decide) (fun c10_2 => ?_) (fun c10_2 => ?_)
    · refine lv_iconst (v := 0) S.1 S.2.1 dX4_isRankPlace_26 (by decide) ?_
      exact ee_rZ S hr hlk (zb_0) (by unfold f_X4_isRankPlace; first | (rw [if_neg c1_1, if_pos c10_2]; done) | (simp only [if_neg c1_1, if_pos c10_2]; done) | rfl) dX4_isRankPlace_27
    · refine lv_iload_n S.1 S.2.1 dX4_isRankPlace_13 rfl (lv_at hl 1 rfl) ?_
      refine lv_aload_n S.1 S.2.1 dX4_isRankPlace_14 rfl (lv_at hl 0 rfl) ?_
      refine kr_get S K N 0 (by unfold crole; omega) (d_K.1 0 (by decide)) (sh_K) (C0 := RX4) (T := TX4) (n := 6) rfl iWX4 3 (by decide) k1_48 rfl (v := .ref (ad 4)) rfl dX4_isRankPlace_15 ?_
      refine kr_alen S K N 4 (by unfold crole; omega) (d_K.1 4 (by decide)) 0 rfl (sh_4) (v := 12) rfl dX4_isRankPlace_18 ?_
      refine lv_icmp_ge (tgt := 26) S.1 S.2.1 dX4_isRankPlace_19 (by decide) (fun c9 => absurd c9 (c10_2)) (fun _ => ?_)
      refine lv_iconst (v := 1) S.1 S.2.1 dX4_isRankPlace_22 (by decide) ?_
      refine lv_goto (tgt := 27) S.1 S.2.1 dX4_isRankPlace_23 (by decide) ?_
      exact ee_rZ S hr hlk (zb_1) (by unfold f_X4_isRankPlace; first | (rw [if_neg c1_1, if_neg c10_2]; done) | (simp only [if_neg c1_1, if_neg c10_2]; done) | rfl) dX4_isRankPlace_27

theorem isRankPlace_in {M : Nat → Nat → Int32} {p0 : Int32} (h : ¬ f_X4_isRankPlace M p0 = 0) : vp_in p0 12 := by
  unfold f_X4_isRankPlace at h
  by_cases h1 : p0 < 0
  · rw [if_pos h1] at h
    exact absurd rfl h
  · rw [if_neg h1] at h
    by_cases h2 : 12 ≤ p0
    · rw [if_pos h2] at h
      exact absurd rfl h
    · exact vi_ge h1 h2

def f_X4_isRanked (M : Nat → Nat → Int32) (p0 : Int32) : Int32 :=
  if (f_X4_isRankPlace M p0) = 0 then 0
  else if (M 3 p0.toNatClampNeg) = (-1) then 0
  else 1
set_option maxHeartbeats 4000000 in
set_option maxRecDepth 100000 in
theorem m_X4_isRanked {D : va_G} {cA : Nat → ClassId} {B : Nat} (l : Launch) {dom : Nat → Prop} {ad : Nat → Nat} {X : Nat → va_E} {H0 : Heap} (M : Nat → Nat → Int32) (p0 : Int32) (N : kw D cA B dom ad X M H0) (d_K : (∀ r, r < 5 → dom r) ∧ True) : MetR D cA B l yX4_isRanked cX4_isRanked 2 (some .boolean) 1 21 [.ref (ad 0), .int p0] H0 (some (.int (f_X4_isRanked M p0))) := by
  refine MetR.of (by decide) (Nat.le_of_ble_eq_true rfl) ?_
  intro p e s m args below meth c S hr hlk hh K ls hl
  subst hh
  have hS : va_S (fun q => B ≤ q) s.heap s.heap [] := va_S.rf
  have hl : lv_has ls 2 [(0, .ref (ad 0)), (1, .int p0)] := hl
  refine lv_aload_n S.1 S.2.1 dX4_isRanked_0 rfl (lv_at hl 0 rfl) ?_
  refine lv_iload_n S.1 S.2.1 dX4_isRanked_1 rfl (lv_at hl 1 rfl) ?_
  refine kc_rV S K N hS 0 (by unfold crole; omega) (d_K.1 0 (by decide)) (sh_K) (T := TX4) (n := 6) rfl (As := [.int p0]) (m_X4_isRankPlace l M p0 N (⟨d_K.1, trivial⟩)) k2_157 k2_159 kS_9 k1_1 k2_160 (num := 1) (by decide +kernel) rfl ⟨Nat.le_of_ble_eq_true rfl, Nat.le_of_ble_eq_true rfl⟩ hl.1 rfl (Nat.le_of_ble_eq_true rfl) dX4_isRanked_2 ⟨Nat.le_of_ble_eq_true rfl, Nat.le_of_ble_eq_true rfl⟩ ?_
  refine lv_if_eq (tgt := 22) S.1 S.2.1 dX4_isRanked_5 (by decide) (fun c5_1 => ?_) (fun c5_1 => ?_)
  · refine lv_iconst (v := 0) S.1 S.2.1 dX4_isRanked_22 (by decide) ?_
    exact ee_rZ S hr hlk (zb_0) (by unfold f_X4_isRanked; first | (rw [if_pos c5_1]; done) | (simp only [if_pos c5_1]; done) | rfl) dX4_isRanked_23
  · refine lv_aload_n S.1 S.2.1 dX4_isRanked_8 rfl (lv_at hl 0 rfl) ?_
    refine kr_get S K N 0 (by unfold crole; omega) (d_K.1 0 (by decide)) (sh_K) (C0 := RX4) (T := TX4) (n := 6) rfl iWX4 2 (by decide) k1_47 rfl (v := .ref (ad 3)) rfl dX4_isRanked_9 ?_
    refine lv_iload_n S.1 S.2.1 dX4_isRanked_12 rfl (lv_at hl 1 rfl) ?_
    refine kr_iald S K N 3 (by unfold crole; omega) (d_K.1 3 (by decide)) (sh_3) (v := (M 3 p0.toNatClampNeg)) (isRankPlace_in c5_1) (rfl) dX4_isRanked_13 ?_
    refine lv_iconst (v := (-1)) S.1 S.2.1 dX4_isRanked_14 (by decide) ?_
    refine lv_icmp_eq (tgt := 22) S.1 S.2.1 dX4_isRanked_15 (by decide) (fun c15_2 => ?_) (fun c15_2 => ?_)
    · refine lv_iconst (v := 0) S.1 S.2.1 dX4_isRanked_22 (by decide) ?_
      exact ee_rZ S hr hlk (zb_0) (by unfold f_X4_isRanked; first | (rw [if_neg c5_1, if_pos c15_2]; done) | (simp only [if_neg c5_1, if_pos c15_2]; done) | rfl) dX4_isRanked_23
    · refine lv_iconst (v := 1) S.1 S.2.1 dX4_isRanked_18 (by decide) ?_
      refine lv_goto (tgt := 23) S.1 S.2.1 dX4_isRanked_19 (by decide) ?_
      exact ee_rZ S hr hlk (zb_1) (by unfold f_X4_isRanked; first | (rw [if_neg c5_1, if_neg c15_2]; done) | (simp only [if_neg c5_1, if_neg c15_2]; done) | rfl) dX4_isRanked_23

theorem isRanked_in {M : Nat → Nat → Int32} {p0 : Int32} (h : ¬ f_X4_isRanked M p0 = 0) : vp_in p0 12 := by
  unfold f_X4_isRanked at h
  by_cases h1 : f_X4_isRankPlace M p0 = 0
  · rw [if_pos h1] at h
    exact absurd rfl h
  · exact isRankPlace_in h1

def f_X4_isAhead (M : Nat → Nat → Int32) (p0 : Int32) (p1 : Int32) : Int32 :=
  if (f_X4_isRanked M p0) = 0 then 0
  else if (f_X4_isRanked M p1) = 0 then 0
  else if (M 3 p0.toNatClampNeg) = (M 3 p1.toNatClampNeg) then (if (M 4 p0.toNatClampNeg) = (M 4 p1.toNatClampNeg) then (if p1 ≤ p0 then 0
      else 1)
    else if (M 4 p0.toNatClampNeg) ≤ (M 4 p1.toNatClampNeg) then 0
    else 1)
  else if (M 3 p0.toNatClampNeg) ≤ (M 3 p1.toNatClampNeg) then 0
  else 1
set_option maxHeartbeats 4000000 in
set_option maxRecDepth 100000 in
theorem m_X4_isAhead {D : va_G} {cA : Nat → ClassId} {B : Nat} (l : Launch) {dom : Nat → Prop} {ad : Nat → Nat} {X : Nat → va_E} {H0 : Heap} (M : Nat → Nat → Int32) (p0 : Int32) (p1 : Int32) (N : kw D cA B dom ad X M H0) (d_K : (∀ r, r < 5 → dom r) ∧ True) : MetR D cA B l yX4_isAhead cX4_isAhead 3 (some .boolean) 2 42 [.ref (ad 0), .int p0, .int p1] H0 (some (.int (f_X4_isAhead M p0 p1))) := by
  refine MetR.of (by decide) (Nat.le_of_ble_eq_true rfl) ?_
  intro p e s m args below meth c S hr hlk hh K ls hl
  subst hh
  have hS : va_S (fun q => B ≤ q) s.heap s.heap [] := va_S.rf
  have hl : lv_has ls 3 [(0, .ref (ad 0)), (1, .int p0), (2, .int p1)] := hl
  refine lv_aload_n S.1 S.2.1 dX4_isAhead_0 rfl (lv_at hl 0 rfl) ?_
  refine lv_iload_n S.1 S.2.1 dX4_isAhead_1 rfl (lv_at hl 1 rfl) ?_
  refine kc_rV S K N hS 0 (by unfold crole; omega) (d_K.1 0 (by decide)) (sh_K) (T := TX4) (n := 6) rfl (As := [.int p0]) (m_X4_isRanked l M p0 N (⟨d_K.1, trivial⟩)) k2_153 k2_155 kS_8 k1_1 k2_156 (num := 1) (by decide +kernel) rfl ⟨Nat.le_of_ble_eq_true rfl, Nat.le_of_ble_eq_true rfl⟩ hl.1 rfl (Nat.le_of_ble_eq_true rfl) dX4_isAhead_2 ⟨Nat.le_of_ble_eq_true rfl, Nat.le_of_ble_eq_true rfl⟩ ?_
  refine lv_if_eq (tgt := 16) S.1 S.2.1 dX4_isAhead_5 (by decide) (fun c5_1 => ?_) (fun c5_1 => ?_)
  · refine lv_iconst (v := 0) S.1 S.2.1 dX4_isAhead_16 (by decide) ?_
    exact ee_rZ S hr hlk (zb_0) (by unfold f_X4_isAhead; first | (rw [if_pos c5_1]; done) | (simp only [if_pos c5_1]; done) | rfl) dX4_isAhead_17
  · refine lv_aload_n S.1 S.2.1 dX4_isAhead_8 rfl (lv_at hl 0 rfl) ?_
    refine lv_iload_n S.1 S.2.1 dX4_isAhead_9 rfl (lv_at hl 2 rfl) ?_
    refine kc_rV S K N hS 0 (by unfold crole; omega) (d_K.1 0 (by decide)) (sh_K) (T := TX4) (n := 6) rfl (As := [.int p1]) (m_X4_isRanked l M p1 N (⟨d_K.1, trivial⟩)) k2_153 k2_155 kS_8 k1_1 k2_156 (num := 1) (by decide +kernel) rfl ⟨Nat.le_of_ble_eq_true rfl, Nat.le_of_ble_eq_true rfl⟩ hl.1 rfl (Nat.le_of_ble_eq_true rfl) dX4_isAhead_10 ⟨Nat.le_of_ble_eq_true rfl, Nat.le_of_ble_eq_true rfl⟩ ?_
    refine lv_if_ne (tgt := 18) S.1 S.2.1 dX4_isAhead_13 (by decide) (fun c13_2 => ?_) (fun c13_2 => ?_)
    · refine lv_aload_n S.1 S.2.1 dX4_isAhead_18 rfl (lv_at hl 0 rfl) ?_
      refine kr_get S K N 0 (by unfold crole; omega) (d_K.1 0 (by decide)) (sh_K) (C0 := RX4) (T := TX4) (n := 6) rfl iWX4 2 (by decide) k1_47 rfl (v := .ref (ad 3)) rfl dX4_isAhead_19 ?_
      refine lv_iload_n S.1 S.2.1 dX4_isAhead_22 rfl (lv_at hl 1 rfl) ?_
      refine kr_iald S K N 3 (by unfold crole; omega) (d_K.1 3 (by decide)) (sh_3) (v := (M 3 p0.toNatClampNeg)) (isRanked_in c5_1) (rfl) dX4_isAhead_23 ?_
      refine lv_aload_n S.1 S.2.1 dX4_isAhead_24 rfl (lv_at hl 0 rfl) ?_
      refine kr_get S K N 0 (by unfold crole; omega) (d_K.1 0 (by decide)) (sh_K) (C0 := RX4) (T := TX4) (n := 6) rfl iWX4 2 (by decide) k1_47 rfl (v := .ref (ad 3)) rfl dX4_isAhead_25 ?_
      refine lv_iload_n S.1 S.2.1 dX4_isAhead_28 rfl (lv_at hl 2 rfl) ?_
      refine kr_iald S K N 3 (by unfold crole; omega) (d_K.1 3 (by decide)) (sh_3) (v := (M 3 p1.toNatClampNeg)) (isRanked_in c13_2) (rfl) dX4_isAhead_29 ?_
      refine lv_icmp_eq (tgt := 54) S.1 S.2.1 dX4_isAhead_30 (by decide) (fun c30_3 => ?_) (fun c30_3 => ?_)
      · refine lv_aload_n S.1 S.2.1 dX4_isAhead_54 rfl (lv_at hl 0 rfl) ?_
        refine kr_get S K N 0 (by unfold crole; omega) (d_K.1 0 (by decide)) (sh_K) (C0 := RX4) (T := TX4) (n := 6) rfl iWX4 3 (by decide) k1_48 rfl (v := .ref (ad 4)) rfl dX4_isAhead_55 ?_
        refine lv_iload_n S.1 S.2.1 dX4_isAhead_58 rfl (lv_at hl 1 rfl) ?_
        refine kr_iald S K N 4 (by unfold crole; omega) (d_K.1 4 (by decide)) (sh_4) (v := (M 4 p0.toNatClampNeg)) (isRanked_in c5_1) (rfl) dX4_isAhead_59 ?_
        refine lv_aload_n S.1 S.2.1 dX4_isAhead_60 rfl (lv_at hl 0 rfl) ?_
        refine kr_get S K N 0 (by unfold crole; omega) (d_K.1 0 (by decide)) (sh_K) (C0 := RX4) (T := TX4) (n := 6) rfl iWX4 3 (by decide) k1_48 rfl (v := .ref (ad 4)) rfl dX4_isAhead_61 ?_
        refine lv_iload_n S.1 S.2.1 dX4_isAhead_64 rfl (lv_at hl 2 rfl) ?_
        refine kr_iald S K N 4 (by unfold crole; omega) (d_K.1 4 (by decide)) (sh_4) (v := (M 4 p1.toNatClampNeg)) (isRanked_in c13_2) (rfl) dX4_isAhead_65 ?_
        refine lv_icmp_eq (tgt := 90) S.1 S.2.1 dX4_isAhead_66 (by decide) (fun c66_4 => ?_) (fun c66_4 => ?_)
        · refine lv_iload_n S.1 S.2.1 dX4_isAhead_90 rfl (lv_at hl 1 rfl) ?_
          refine lv_iload_n S.1 S.2.1 dX4_isAhead_91 rfl (lv_at hl 2 rfl) ?_
          refine lv_icmp_ge (tgt := 99) S.1 S.2.1 dX4_isAhead_92 (by decide) (fun c92_5 => ?_) (fun c92_5 => ?_)
          · refine lv_iconst (v := 0) S.1 S.2.1 dX4_isAhead_99 (by decide) ?_
            exact ee_rZ S hr hlk (zb_0) (by unfold f_X4_isAhead; first | (rw [if_neg c5_1, if_neg c13_2, if_pos c30_3, if_pos c66_4, if_pos c92_5]; done) | (simp only [if_neg c5_1, if_neg c13_2, if_pos c30_3, if_pos c66_4, if_pos c92_5]; done) | rfl) dX4_isAhead_100
          · refine lv_iconst (v := 1) S.1 S.2.1 dX4_isAhead_95 (by decide) ?_
            refine lv_goto (tgt := 100) S.1 S.2.1 dX4_isAhead_96 (by decide) ?_
            exact ee_rZ S hr hlk (zb_1) (by unfold f_X4_isAhead; first | (rw [if_neg c5_1, if_neg c13_2, if_pos c30_3, if_pos c66_4, if_neg c92_5]; done) | (simp only [if_neg c5_1, if_neg c13_2, if_pos c30_3, if_pos c66_4, if_neg c92_5]; done) | rfl) dX4_isAhead_100
        · refine lv_aload_n S.1 S.2.1 dX4_isAhead_69 rfl (lv_at hl 0 rfl) ?_
          refine kr_get S K N 0 (by unfold crole; omega) (d_K.1 0 (by decide)) (sh_K) (C0 := RX4) (T := TX4) (n := 6) rfl iWX4 3 (by decide) k1_48 rfl (v := .ref (ad 4)) rfl dX4_isAhead_70 ?_
          refine lv_iload_n S.1 S.2.1 dX4_isAhead_73 rfl (lv_at hl 1 rfl) ?_
          refine kr_iald S K N 4 (by unfold crole; omega) (d_K.1 4 (by decide)) (sh_4) (v := (M 4 p0.toNatClampNeg)) (isRanked_in c5_1) (rfl) dX4_isAhead_74 ?_
          refine lv_aload_n S.1 S.2.1 dX4_isAhead_75 rfl (lv_at hl 0 rfl) ?_
          refine kr_get S K N 0 (by unfold crole; omega) (d_K.1 0 (by decide)) (sh_K) (C0 := RX4) (T := TX4) (n := 6) rfl iWX4 3 (by decide) k1_48 rfl (v := .ref (ad 4)) rfl dX4_isAhead_76 ?_
          refine lv_iload_n S.1 S.2.1 dX4_isAhead_79 rfl (lv_at hl 2 rfl) ?_
          refine kr_iald S K N 4 (by unfold crole; omega) (d_K.1 4 (by decide)) (sh_4) (v := (M 4 p1.toNatClampNeg)) (isRanked_in c13_2) (rfl) dX4_isAhead_80 ?_
          refine lv_icmp_le (tgt := 88) S.1 S.2.1 dX4_isAhead_81 (by decide) (fun c81_6 => ?_) (fun c81_6 => ?_)
          · refine lv_iconst (v := 0) S.1 S.2.1 dX4_isAhead_88 (by decide) ?_
            exact ee_rZ S hr hlk (zb_0) (by unfold f_X4_isAhead; first | (rw [if_neg c5_1, if_neg c13_2, if_pos c30_3, if_neg c66_4, if_pos c81_6]; done) | (simp only [if_neg c5_1, if_neg c13_2, if_pos c30_3, if_neg c66_4, if_pos c81_6]; done) | rfl) dX4_isAhead_89
          · refine lv_iconst (v := 1) S.1 S.2.1 dX4_isAhead_84 (by decide) ?_
            refine lv_goto (tgt := 89) S.1 S.2.1 dX4_isAhead_85 (by decide) ?_
            exact ee_rZ S hr hlk (zb_1) (by unfold f_X4_isAhead; first | (rw [if_neg c5_1, if_neg c13_2, if_pos c30_3, if_neg c66_4, if_neg c81_6]; done) | (simp only [if_neg c5_1, if_neg c13_2, if_pos c30_3, if_neg c66_4, if_neg c81_6]; done) | rfl) dX4_isAhead_89
      · refine lv_aload_n S.1 S.2.1 dX4_isAhead_33 rfl (lv_at hl 0 rfl) ?_
        refine kr_get S K N 0 (by unfold crole; omega) (d_K.1 0 (by decide)) (sh_K) (C0 := RX4) (T := TX4) (n := 6) rfl iWX4 2 (by decide) k1_47 rfl (v := .ref (ad 3)) rfl dX4_isAhead_34 ?_
        refine lv_iload_n S.1 S.2.1 dX4_isAhead_37 rfl (lv_at hl 1 rfl) ?_
        refine kr_iald S K N 3 (by unfold crole; omega) (d_K.1 3 (by decide)) (sh_3) (v := (M 3 p0.toNatClampNeg)) (isRanked_in c5_1) (rfl) dX4_isAhead_38 ?_
        refine lv_aload_n S.1 S.2.1 dX4_isAhead_39 rfl (lv_at hl 0 rfl) ?_
        refine kr_get S K N 0 (by unfold crole; omega) (d_K.1 0 (by decide)) (sh_K) (C0 := RX4) (T := TX4) (n := 6) rfl iWX4 2 (by decide) k1_47 rfl (v := .ref (ad 3)) rfl dX4_isAhead_40 ?_
        refine lv_iload_n S.1 S.2.1 dX4_isAhead_43 rfl (lv_at hl 2 rfl) ?_
        refine kr_iald S K N 3 (by unfold crole; omega) (d_K.1 3 (by decide)) (sh_3) (v := (M 3 p1.toNatClampNeg)) (isRanked_in c13_2) (rfl) dX4_isAhead_44 ?_
        refine lv_icmp_le (tgt := 52) S.1 S.2.1 dX4_isAhead_45 (by decide) (fun c45_7 => ?_) (fun c45_7 => ?_)
        · refine lv_iconst (v := 0) S.1 S.2.1 dX4_isAhead_52 (by decide) ?_
          exact ee_rZ S hr hlk (zb_0) (by unfold f_X4_isAhead; first | (rw [if_neg c5_1, if_neg c13_2, if_neg c30_3, if_pos c45_7]; done) | (simp only [if_neg c5_1, if_neg c13_2, if_neg c30_3, if_pos c45_7]; done) | rfl) dX4_isAhead_53
        · refine lv_iconst (v := 1) S.1 S.2.1 dX4_isAhead_48 (by decide) ?_
          refine lv_goto (tgt := 53) S.1 S.2.1 dX4_isAhead_49 (by decide) ?_
          exact ee_rZ S hr hlk (zb_1) (by unfold f_X4_isAhead; first | (rw [if_neg c5_1, if_neg c13_2, if_neg c30_3, if_neg c45_7]; done) | (simp only [if_neg c5_1, if_neg c13_2, if_neg c30_3, if_neg c45_7]; done) | rfl) dX4_isAhead_53
    · refine lv_iconst (v := 0) S.1 S.2.1 dX4_isAhead_16 (by decide) ?_
      exact ee_rZ S hr hlk (zb_0) (by unfold f_X4_isAhead; first | (rw [if_neg c5_1, if_pos c13_2]; done) | (simp only [if_neg c5_1, if_pos c13_2]; done) | rfl) dX4_isAhead_17

def it14_X4_rankOf (M : Nat → Nat → Int32) (p0 : Int32) : Nat → Int32
  | 0 => 0
  | n14 + 1 => (if (f_X4_isAhead M (nI n14) p0) = 0 then (it14_X4_rankOf M p0 n14) else ((it14_X4_rankOf M p0 n14) + 1))
def f_X4_rankOf (M : Nat → Nat → Int32) (p0 : Int32) : Int32 :=
  if (f_X4_isRanked M p0) = 0 then (-1)
  else (it14_X4_rankOf M p0 12)
set_option maxHeartbeats 4000000 in
set_option maxRecDepth 100000 in
theorem m_X4_rankOf {D : va_G} {cA : Nat → ClassId} {B : Nat} (l : Launch) {dom : Nat → Prop} {ad : Nat → Nat} {X : Nat → va_E} {H0 : Heap} (M : Nat → Nat → Int32) (p0 : Int32) (N : kw D cA B dom ad X M H0) (d_K : (∀ r, r < 5 → dom r) ∧ True) : MetR D cA B l yX4_rankOf cX4_rankOf 4 (some .int) 3 64 [.ref (ad 0), .int p0] H0 (some (.int (f_X4_rankOf M p0))) := by
  refine MetR.of (by decide) (Nat.le_of_ble_eq_true rfl) ?_
  intro p e s m args below meth c S hr hlk hh K ls hl
  subst hh
  have hS : va_S (fun q => B ≤ q) s.heap s.heap [] := va_S.rf
  have hl : lv_has ls 4 [(0, .ref (ad 0)), (1, .int p0)] := hl
  refine lv_aload_n S.1 S.2.1 dX4_rankOf_0 rfl (lv_at hl 0 rfl) ?_
  refine lv_iload_n S.1 S.2.1 dX4_rankOf_1 rfl (lv_at hl 1 rfl) ?_
  refine kc_rV S K N hS 0 (by unfold crole; omega) (d_K.1 0 (by decide)) (sh_K) (T := TX4) (n := 6) rfl (As := [.int p0]) (m_X4_isRanked l M p0 N (⟨d_K.1, trivial⟩)) k2_153 k2_155 kS_8 k1_1 k2_156 (num := 1) (by decide +kernel) rfl ⟨Nat.le_of_ble_eq_true rfl, Nat.le_of_ble_eq_true rfl⟩ hl.1 rfl (Nat.le_of_ble_eq_true rfl) dX4_rankOf_2 ⟨Nat.le_of_ble_eq_true rfl, Nat.le_of_ble_eq_true rfl⟩ ?_
  refine lv_if_ne (tgt := 10) S.1 S.2.1 dX4_rankOf_5 (by decide) (fun c5_1 => ?_) (fun c5_1 => ?_)
  · refine lv_iconst (v := 0) S.1 S.2.1 dX4_rankOf_10 (by decide) ?_
    refine lv_istore_n (lv' := [(2, .int 0), (0, .ref (ad 0)), (1, .int p0)]) S.1 S.2.1 dX4_rankOf_11 rfl hl (by decide) rfl (fun ls hl => ?_)
    refine lv_iconst (v := 0) S.1 S.2.1 dX4_rankOf_12 (by decide) ?_
    refine lv_istore_n (lv' := [(3, .int 0), (2, .int 0), (0, .ref (ad 0)), (1, .int p0)]) S.1 S.2.1 dX4_rankOf_13 rfl hl (by decide) rfl (fun ls hl => ?_)
    refine nl (h := 14) (N := 12) (n := 4) (L := fun i14 : Nat => [(3, .int (nI i14)), (2, .int (it14_X4_rankOf M p0 i14)), (0, .ref (ad 0)), (1, .int p0)]) (fun ls hl => ?_) (fun i14 hi14 ih14 ls hl => ?_) ls (lv_sub hl [0, 1, 2, 3] rfl)
    · try dsimp only at hl
      refine lv_iload_n S.1 S.2.1 dX4_rankOf_14 rfl (lv_at hl 0 rfl) ?_
      refine lv_bipush (v := 12) S.1 S.2.1 dX4_rankOf_15 (by decide) ?_
      refine lv_icmp_ge (tgt := 38) S.1 S.2.1 dX4_rankOf_17 (by decide) (fun _ => ?_) (fun c9 => absurd (nI_le (Nat.le_refl _) (by first | omega | decide)) c9)
      refine lv_iload_n S.1 S.2.1 dX4_rankOf_38 rfl (lv_at hl 1 rfl) ?_
      exact ee_rI S hr hlk (by unfold f_X4_rankOf; first | (rw [if_neg c5_1]; done) | (simp only [if_neg c5_1]; done) | rfl) dX4_rankOf_39
    · try dsimp only at hl
      refine lv_iload_n S.1 S.2.1 dX4_rankOf_14 rfl (lv_at hl 0 rfl) ?_
      refine lv_bipush (v := 12) S.1 S.2.1 dX4_rankOf_15 (by decide) ?_
      refine lv_icmp_ge (tgt := 38) S.1 S.2.1 dX4_rankOf_17 (by decide) (fun c9 => absurd c9 (nI_ge (hi14) (by first | omega | decide))) (fun _ => ?_)
      refine lv_aload_n S.1 S.2.1 dX4_rankOf_20 rfl (lv_at hl 2 rfl) ?_
      refine lv_iload_n S.1 S.2.1 dX4_rankOf_21 rfl (lv_at hl 0 rfl) ?_
      refine lv_iload_n S.1 S.2.1 dX4_rankOf_22 rfl (lv_at hl 3 rfl) ?_
      refine kc_rV S K N hS 0 (by unfold crole; omega) (d_K.1 0 (by decide)) (sh_K) (T := TX4) (n := 6) rfl (As := [.int (nI i14), .int p0]) (m_X4_isAhead l M (nI i14) p0 N (⟨d_K.1, trivial⟩)) k2_161 k2_163 kS_10 k1_1 k2_164 (num := 2) (by decide +kernel) rfl ⟨Nat.le_of_ble_eq_true rfl, Nat.le_of_ble_eq_true rfl⟩ hl.1 rfl (Nat.le_of_ble_eq_true rfl) dX4_rankOf_23 ⟨Nat.le_of_ble_eq_true rfl, Nat.le_of_ble_eq_true rfl⟩ ?_
      refine lv_if_eq (tgt := 32) S.1 S.2.1 dX4_rankOf_26 (by decide) (fun c26_2 => ?_) (fun c26_2 => ?_)
      · refine lv_iinc (v := nI (i14 + 1)) (lv' := [(3, .int (nI (i14 + 1))), (2, .int (it14_X4_rankOf M p0 i14)), (0, .ref (ad 0)), (1, .int p0)]) S.1 S.2.1 dX4_rankOf_32 hl (k := 0) rfl (nI_add i14 1) (by decide) rfl (fun ls hl => ?_)
        refine lv_goto (tgt := 14) S.1 S.2.1 dX4_rankOf_35 (by decide) ?_
        have hstep : (it14_X4_rankOf M p0 (i14 + 1)) = (it14_X4_rankOf M p0 i14) := by
          show (_ : _) = _
          simp only [it14_X4_rankOf, if_pos c26_2]
        refine ih14 ls (by rw [hstep]; exact lv_sub hl [0, 1, 2, 3] rfl)
      · refine lv_iinc (v := ((it14_X4_rankOf M p0 i14) + 1)) (lv' := [(2, .int ((it14_X4_rankOf M p0 i14) + 1)), (3, .int (nI i14)), (0, .ref (ad 0)), (1, .int p0)]) S.1 S.2.1 dX4_rankOf_29 hl (k := 1) rfl (rfl) (by decide) rfl (fun ls hl => ?_)
        refine lv_iinc (v := nI (i14 + 1)) (lv' := [(3, .int (nI (i14 + 1))), (2, .int ((it14_X4_rankOf M p0 i14) + 1)), (0, .ref (ad 0)), (1, .int p0)]) S.1 S.2.1 dX4_rankOf_32 hl (k := 1) rfl (nI_add i14 1) (by decide) rfl (fun ls hl => ?_)
        refine lv_goto (tgt := 14) S.1 S.2.1 dX4_rankOf_35 (by decide) ?_
        have hstep : (it14_X4_rankOf M p0 (i14 + 1)) = ((it14_X4_rankOf M p0 i14) + 1) := by
          show (_ : _) = _
          simp only [it14_X4_rankOf, if_neg c26_2]
        refine ih14 ls (by rw [hstep]; exact lv_sub hl [0, 1, 2, 3] rfl)
  · refine lv_iconst (v := (-1)) S.1 S.2.1 dX4_rankOf_8 (by decide) ?_
    exact ee_rI S hr hlk (by unfold f_X4_rankOf; first | (rw [if_pos c5_1]; done) | (simp only [if_pos c5_1]; done) | rfl) dX4_rankOf_9

def it4_X4_howManyRanked (M : Nat → Nat → Int32) : Nat → Int32
  | 0 => 0
  | n4 + 1 => (if (f_X4_isRanked M (nI n4)) = 0 then (it4_X4_howManyRanked M n4) else ((it4_X4_howManyRanked M n4) + 1))
def f_X4_howManyRanked (M : Nat → Nat → Int32) : Int32 :=
  (it4_X4_howManyRanked M 12)
set_option maxHeartbeats 4000000 in
set_option maxRecDepth 100000 in
theorem m_X4_howManyRanked {D : va_G} {cA : Nat → ClassId} {B : Nat} (l : Launch) {dom : Nat → Prop} {ad : Nat → Nat} {X : Nat → va_E} {H0 : Heap} (M : Nat → Nat → Int32) (N : kw D cA B dom ad X M H0) (d_K : (∀ r, r < 5 → dom r) ∧ True) : MetR D cA B l yX4_howManyRanked cX4_howManyRanked 3 (some .int) 2 42 [.ref (ad 0)] H0 (some (.int (f_X4_howManyRanked M))) := by
  refine MetR.of (by decide) (Nat.le_of_ble_eq_true rfl) ?_
  intro p e s m args below meth c S hr hlk hh K ls hl
  subst hh
  have hS : va_S (fun q => B ≤ q) s.heap s.heap [] := va_S.rf
  have hl : lv_has ls 3 [(0, .ref (ad 0))] := hl
  refine lv_iconst (v := 0) S.1 S.2.1 dX4_howManyRanked_0 (by decide) ?_
  refine lv_istore_n (lv' := [(1, .int 0), (0, .ref (ad 0))]) S.1 S.2.1 dX4_howManyRanked_1 rfl hl (by decide) rfl (fun ls hl => ?_)
  refine lv_iconst (v := 0) S.1 S.2.1 dX4_howManyRanked_2 (by decide) ?_
  refine lv_istore_n (lv' := [(2, .int 0), (1, .int 0), (0, .ref (ad 0))]) S.1 S.2.1 dX4_howManyRanked_3 rfl hl (by decide) rfl (fun ls hl => ?_)
  refine nl (h := 4) (N := 12) (n := 3) (L := fun i4 : Nat => [(2, .int (nI i4)), (1, .int (it4_X4_howManyRanked M i4)), (0, .ref (ad 0))]) (fun ls hl => ?_) (fun i4 hi4 ih4 ls hl => ?_) ls (lv_sub hl [0, 1, 2] rfl)
  · try dsimp only at hl
    refine lv_iload_n S.1 S.2.1 dX4_howManyRanked_4 rfl (lv_at hl 0 rfl) ?_
    refine lv_bipush (v := 12) S.1 S.2.1 dX4_howManyRanked_5 (by decide) ?_
    refine lv_icmp_ge (tgt := 27) S.1 S.2.1 dX4_howManyRanked_7 (by decide) (fun _ => ?_) (fun c9 => absurd (nI_le (Nat.le_refl _) (by first | omega | decide)) c9)
    refine lv_iload_n S.1 S.2.1 dX4_howManyRanked_27 rfl (lv_at hl 1 rfl) ?_
    exact ee_rI S hr hlk (rfl) dX4_howManyRanked_28
  · try dsimp only at hl
    refine lv_iload_n S.1 S.2.1 dX4_howManyRanked_4 rfl (lv_at hl 0 rfl) ?_
    refine lv_bipush (v := 12) S.1 S.2.1 dX4_howManyRanked_5 (by decide) ?_
    refine lv_icmp_ge (tgt := 27) S.1 S.2.1 dX4_howManyRanked_7 (by decide) (fun c9 => absurd c9 (nI_ge (hi4) (by first | omega | decide))) (fun _ => ?_)
    refine lv_aload_n S.1 S.2.1 dX4_howManyRanked_10 rfl (lv_at hl 2 rfl) ?_
    refine lv_iload_n S.1 S.2.1 dX4_howManyRanked_11 rfl (lv_at hl 0 rfl) ?_
    refine kc_rV S K N hS 0 (by unfold crole; omega) (d_K.1 0 (by decide)) (sh_K) (T := TX4) (n := 6) rfl (As := [.int (nI i4)]) (m_X4_isRanked l M (nI i4) N (⟨d_K.1, trivial⟩)) k2_153 k2_155 kS_8 k1_1 k2_156 (num := 1) (by decide +kernel) rfl ⟨Nat.le_of_ble_eq_true rfl, Nat.le_of_ble_eq_true rfl⟩ hl.1 rfl (Nat.le_of_ble_eq_true rfl) dX4_howManyRanked_12 ⟨Nat.le_of_ble_eq_true rfl, Nat.le_of_ble_eq_true rfl⟩ ?_
    refine lv_if_eq (tgt := 21) S.1 S.2.1 dX4_howManyRanked_15 (by decide) (fun c15_1 => ?_) (fun c15_1 => ?_)
    · refine lv_iinc (v := nI (i4 + 1)) (lv' := [(2, .int (nI (i4 + 1))), (1, .int (it4_X4_howManyRanked M i4)), (0, .ref (ad 0))]) S.1 S.2.1 dX4_howManyRanked_21 hl (k := 0) rfl (nI_add i4 1) (by decide) rfl (fun ls hl => ?_)
      refine lv_goto (tgt := 4) S.1 S.2.1 dX4_howManyRanked_24 (by decide) ?_
      have hstep : (it4_X4_howManyRanked M (i4 + 1)) = (it4_X4_howManyRanked M i4) := by
        show (_ : _) = _
        simp only [it4_X4_howManyRanked, if_pos c15_1]
      refine ih4 ls (by rw [hstep]; exact lv_sub hl [0, 1, 2] rfl)
    · refine lv_iinc (v := ((it4_X4_howManyRanked M i4) + 1)) (lv' := [(1, .int ((it4_X4_howManyRanked M i4) + 1)), (2, .int (nI i4)), (0, .ref (ad 0))]) S.1 S.2.1 dX4_howManyRanked_18 hl (k := 1) rfl (rfl) (by decide) rfl (fun ls hl => ?_)
      refine lv_iinc (v := nI (i4 + 1)) (lv' := [(2, .int (nI (i4 + 1))), (1, .int ((it4_X4_howManyRanked M i4) + 1)), (0, .ref (ad 0))]) S.1 S.2.1 dX4_howManyRanked_21 hl (k := 1) rfl (nI_add i4 1) (by decide) rfl (fun ls hl => ?_)
      refine lv_goto (tgt := 4) S.1 S.2.1 dX4_howManyRanked_24 (by decide) ?_
      have hstep : (it4_X4_howManyRanked M (i4 + 1)) = ((it4_X4_howManyRanked M i4) + 1) := by
        show (_ : _) = _
        simp only [it4_X4_howManyRanked, if_neg c15_1]
      refine ih4 ls (by rw [hstep]; exact lv_sub hl [0, 1, 2] rfl)

def fr2_X4_skaterOfRank (M : Nat → Nat → Int32) (p0 : Int32) : Nat → Nat → Int32
  | 0, _ => (-1)
  | k9 + 1, i2 => (if (f_X4_isRanked M (nI i2)) = 0 then (fr2_X4_skaterOfRank M p0 k9 (i2 + 1)) else (if (f_X4_rankOf M (nI i2)) = p0 then (nI i2) else (fr2_X4_skaterOfRank M p0 k9 (i2 + 1))))
def f_X4_skaterOfRank (M : Nat → Nat → Int32) (p0 : Int32) : Int32 := fr2_X4_skaterOfRank M p0 12 0
set_option maxHeartbeats 4000000 in
set_option maxRecDepth 100000 in
theorem m_X4_skaterOfRank {D : va_G} {cA : Nat → ClassId} {B : Nat} (l : Launch) {dom : Nat → Prop} {ad : Nat → Nat} {X : Nat → va_E} {H0 : Heap} (M : Nat → Nat → Int32) (p0 : Int32) (N : kw D cA B dom ad X M H0) (d_K : (∀ r, r < 5 → dom r) ∧ True) : MetR D cA B l yX4_skaterOfRank cX4_skaterOfRank 3 (some .int) 4 87 [.ref (ad 0), .int p0] H0 (some (.int (f_X4_skaterOfRank M p0))) := by
  refine MetR.of (by decide) (Nat.le_of_ble_eq_true rfl) ?_
  intro p e s m args below meth c S hr hlk hh K ls hl
  subst hh
  have hS : va_S (fun q => B ≤ q) s.heap s.heap [] := va_S.rf
  have hl : lv_has ls 3 [(0, .ref (ad 0)), (1, .int p0)] := hl
  refine lv_iconst (v := 0) S.1 S.2.1 dX4_skaterOfRank_0 (by decide) ?_
  refine lv_istore_n (lv' := [(2, .int 0), (0, .ref (ad 0)), (1, .int p0)]) S.1 S.2.1 dX4_skaterOfRank_1 rfl hl (by decide) rfl (fun ls hl => ?_)
  refine nlJ (J := fun i2 : Nat => f_X4_skaterOfRank M p0 = fr2_X4_skaterOfRank M p0 (12 - i2) i2) (h := 2) (N := 12) (n := 3) (L := fun i2 : Nat => [(2, .int (nI i2)), (0, .ref (ad 0)), (1, .int p0)]) (fun ls hj hl => ?_) (fun i2 hi2 ih2 ls hj hl => ?_) ls rfl (lv_sub hl [0, 1, 2] rfl)
  · try dsimp only at hl
    refine lv_iload_n S.1 S.2.1 dX4_skaterOfRank_2 rfl (lv_at hl 0 rfl) ?_
    refine lv_bipush (v := 12) S.1 S.2.1 dX4_skaterOfRank_3 (by decide) ?_
    refine lv_icmp_ge (tgt := 33) S.1 S.2.1 dX4_skaterOfRank_5 (by decide) (fun _ => ?_) (fun c9 => absurd (nI_le (Nat.le_refl _) (by first | omega | decide)) c9)
    refine lv_iconst (v := (-1)) S.1 S.2.1 dX4_skaterOfRank_33 (by decide) ?_
    exact ee_rI S hr hlk (by rw [hj]; rfl) dX4_skaterOfRank_34
  · try dsimp only at hl
    refine lv_iload_n S.1 S.2.1 dX4_skaterOfRank_2 rfl (lv_at hl 0 rfl) ?_
    refine lv_bipush (v := 12) S.1 S.2.1 dX4_skaterOfRank_3 (by decide) ?_
    refine lv_icmp_ge (tgt := 33) S.1 S.2.1 dX4_skaterOfRank_5 (by decide) (fun c9 => absurd c9 (nI_ge (hi2) (by first | omega | decide))) (fun _ => ?_)
    refine lv_aload_n S.1 S.2.1 dX4_skaterOfRank_8 rfl (lv_at hl 1 rfl) ?_
    refine lv_iload_n S.1 S.2.1 dX4_skaterOfRank_9 rfl (lv_at hl 0 rfl) ?_
    refine kc_rV S K N hS 0 (by unfold crole; omega) (d_K.1 0 (by decide)) (sh_K) (T := TX4) (n := 6) rfl (As := [.int (nI i2)]) (m_X4_isRanked l M (nI i2) N (⟨d_K.1, trivial⟩)) k2_153 k2_155 kS_8 k1_1 k2_156 (num := 1) (by decide +kernel) rfl ⟨Nat.le_of_ble_eq_true rfl, Nat.le_of_ble_eq_true rfl⟩ hl.1 rfl (Nat.le_of_ble_eq_true rfl) dX4_skaterOfRank_10 ⟨Nat.le_of_ble_eq_true rfl, Nat.le_of_ble_eq_true rfl⟩ ?_
    refine lv_if_eq (tgt := 27) S.1 S.2.1 dX4_skaterOfRank_13 (by decide) (fun c13_1 => ?_) (fun c13_1 => ?_)
    · refine lv_iinc (v := nI (i2 + 1)) (lv' := [(2, .int (nI (i2 + 1))), (0, .ref (ad 0)), (1, .int p0)]) S.1 S.2.1 dX4_skaterOfRank_27 hl (k := 0) rfl (nI_add i2 1) (by decide) rfl (fun ls hl => ?_)
      refine lv_goto (tgt := 2) S.1 S.2.1 dX4_skaterOfRank_30 (by decide) ?_
      exact ih2 ls (by rw [hj, show 12 - i2 = (12 - (i2 + 1)) + 1 by omega]; simp only [fr2_X4_skaterOfRank, if_pos c13_1]) (lv_sub hl [0, 1, 2] rfl)
    · refine lv_aload_n S.1 S.2.1 dX4_skaterOfRank_16 rfl (lv_at hl 1 rfl) ?_
      refine lv_iload_n S.1 S.2.1 dX4_skaterOfRank_17 rfl (lv_at hl 0 rfl) ?_
      refine kc_rV S K N hS 0 (by unfold crole; omega) (d_K.1 0 (by decide)) (sh_K) (T := TX4) (n := 6) rfl (As := [.int (nI i2)]) (m_X4_rankOf l M (nI i2) N (⟨d_K.1, trivial⟩)) k2_149 k2_151 kS_7 k1_1 k2_152 (num := 1) (by decide +kernel) rfl ⟨Nat.le_of_ble_eq_true rfl, Nat.le_of_ble_eq_true rfl⟩ hl.1 rfl (Nat.le_of_ble_eq_true rfl) dX4_skaterOfRank_18 ⟨Nat.le_of_ble_eq_true rfl, Nat.le_of_ble_eq_true rfl⟩ ?_
      refine lv_iload_n S.1 S.2.1 dX4_skaterOfRank_21 rfl (lv_at hl 2 rfl) ?_
      refine lv_icmp_ne (tgt := 27) S.1 S.2.1 dX4_skaterOfRank_22 (by decide) (fun c22_2 => ?_) (fun c22_2 => ?_)
      · refine lv_iinc (v := nI (i2 + 1)) (lv' := [(2, .int (nI (i2 + 1))), (0, .ref (ad 0)), (1, .int p0)]) S.1 S.2.1 dX4_skaterOfRank_27 hl (k := 0) rfl (nI_add i2 1) (by decide) rfl (fun ls hl => ?_)
        refine lv_goto (tgt := 2) S.1 S.2.1 dX4_skaterOfRank_30 (by decide) ?_
        exact ih2 ls (by rw [hj, show 12 - i2 = (12 - (i2 + 1)) + 1 by omega]; simp only [fr2_X4_skaterOfRank, if_neg c13_1, if_neg c22_2]) (lv_sub hl [0, 1, 2] rfl)
      · refine lv_iload_n S.1 S.2.1 dX4_skaterOfRank_25 rfl (lv_at hl 0 rfl) ?_
        exact ee_rI S hr hlk (by rw [hj, show 12 - i2 = (12 - (i2 + 1)) + 1 by omega]; simp only [fr2_X4_skaterOfRank, if_neg c13_1, if_pos c22_2]) dX4_skaterOfRank_26

def it4_X4_unrankedSkater (M : Nat → Nat → Int32) (p0 : Int32) : Nat → Int32
  | 0 => 0
  | n4 + 1 => (if (f_X4_programmeOf M (nI n4)) = 0 then (it4_X4_unrankedSkater M p0 n4) else (if (f_X4_isRanked M (nI n4)) = 0 then (if (it4_X4_unrankedSkater M p0 n4) = p0 then 0 else ((it4_X4_unrankedSkater M p0 n4) + 1)) else (it4_X4_unrankedSkater M p0 n4)))
def fr4_X4_unrankedSkater (M : Nat → Nat → Int32) (p0 : Int32) : Nat → Nat → Int32
  | 0, _ => (-1)
  | k9 + 1, i4 => (if (f_X4_programmeOf M (nI i4)) = 0 then (fr4_X4_unrankedSkater M p0 k9 (i4 + 1)) else (if (f_X4_isRanked M (nI i4)) = 0 then (if (it4_X4_unrankedSkater M p0 i4) = p0 then (nI i4) else (fr4_X4_unrankedSkater M p0 k9 (i4 + 1))) else (fr4_X4_unrankedSkater M p0 k9 (i4 + 1))))
def f_X4_unrankedSkater (M : Nat → Nat → Int32) (p0 : Int32) : Int32 := fr4_X4_unrankedSkater M p0 12 0
set_option maxHeartbeats 4000000 in
set_option maxRecDepth 100000 in
theorem m_X4_unrankedSkater {D : va_G} {cA : Nat → ClassId} {B : Nat} (l : Launch) {dom : Nat → Prop} {ad : Nat → Nat} {X : Nat → va_E} {H0 : Heap} (M : Nat → Nat → Int32) (p0 : Int32) (N : kw D cA B dom ad X M H0) (d_K : dK dom M) : MetR D cA B l yX4_unrankedSkater cX4_unrankedSkater 4 (some .int) 2 42 [.ref (ad 0), .int p0] H0 (some (.int (f_X4_unrankedSkater M p0))) := by
  refine MetR.of (by decide) (Nat.le_of_ble_eq_true rfl) ?_
  intro p e s m args below meth c S hr hlk hh K ls hl
  subst hh
  have hS : va_S (fun q => B ≤ q) s.heap s.heap [] := va_S.rf
  have hl : lv_has ls 4 [(0, .ref (ad 0)), (1, .int p0)] := hl
  refine lv_iconst (v := 0) S.1 S.2.1 dX4_unrankedSkater_0 (by decide) ?_
  refine lv_istore_n (lv' := [(2, .int 0), (0, .ref (ad 0)), (1, .int p0)]) S.1 S.2.1 dX4_unrankedSkater_1 rfl hl (by decide) rfl (fun ls hl => ?_)
  refine lv_iconst (v := 0) S.1 S.2.1 dX4_unrankedSkater_2 (by decide) ?_
  refine lv_istore_n (lv' := [(3, .int 0), (2, .int 0), (0, .ref (ad 0)), (1, .int p0)]) S.1 S.2.1 dX4_unrankedSkater_3 rfl hl (by decide) rfl (fun ls hl => ?_)
  refine nlJ (J := fun i4 : Nat => f_X4_unrankedSkater M p0 = fr4_X4_unrankedSkater M p0 (12 - i4) i4) (h := 4) (N := 12) (n := 4) (L := fun i4 : Nat => [(3, .int (nI i4)), (2, .int (it4_X4_unrankedSkater M p0 i4)), (0, .ref (ad 0)), (1, .int p0)]) (fun ls hj hl => ?_) (fun i4 hi4 ih4 ls hj hl => ?_) ls rfl (lv_sub hl [0, 1, 2, 3] rfl)
  · try dsimp only at hl
    refine lv_iload_n S.1 S.2.1 dX4_unrankedSkater_4 rfl (lv_at hl 0 rfl) ?_
    refine lv_bipush (v := 12) S.1 S.2.1 dX4_unrankedSkater_5 (by decide) ?_
    refine lv_icmp_ge (tgt := 42) S.1 S.2.1 dX4_unrankedSkater_7 (by decide) (fun _ => ?_) (fun c9 => absurd (nI_le (Nat.le_refl _) (by first | omega | decide)) c9)
    refine lv_iconst (v := (-1)) S.1 S.2.1 dX4_unrankedSkater_42 (by decide) ?_
    exact ee_rI S hr hlk (by rw [hj]; rfl) dX4_unrankedSkater_43
  · try dsimp only at hl
    refine lv_iload_n S.1 S.2.1 dX4_unrankedSkater_4 rfl (lv_at hl 0 rfl) ?_
    refine lv_bipush (v := 12) S.1 S.2.1 dX4_unrankedSkater_5 (by decide) ?_
    refine lv_icmp_ge (tgt := 42) S.1 S.2.1 dX4_unrankedSkater_7 (by decide) (fun c9 => absurd c9 (nI_ge (hi4) (by first | omega | decide))) (fun _ => ?_)
    refine lv_aload_n S.1 S.2.1 dX4_unrankedSkater_10 rfl (lv_at hl 2 rfl) ?_
    refine lv_iload_n S.1 S.2.1 dX4_unrankedSkater_11 rfl (lv_at hl 0 rfl) ?_
    refine kc_rV S K N hS 0 (by unfold crole; omega) (d_K.1 0 (by decide)) (sh_K) (T := TX4) (n := 6) rfl (As := [.int (nI i4)]) (m_X4_programmeOf l M (nI i4) N d_K) k1_215 k1_217 kS_1 k1_1 k1_218 (num := 1) (by decide +kernel) rfl ⟨Nat.le_of_ble_eq_true rfl, Nat.le_of_ble_eq_true rfl⟩ hl.1 rfl (Nat.le_of_ble_eq_true rfl) dX4_unrankedSkater_12 ⟨Nat.le_of_ble_eq_true rfl, Nat.le_of_ble_eq_true rfl⟩ ?_
    by_cases cn12_1 : (f_X4_programmeOf M (nI i4)) = 0
    · refine nt_a (v2 := .null) (rq_z cn12_1) ?_
      refine lv_ifnullN (tgt := 36) S.1 S.2.1 dX4_unrankedSkater_15 (by decide) ?_
      refine lv_iinc (v := nI (i4 + 1)) (lv' := [(3, .int (nI (i4 + 1))), (2, .int (it4_X4_unrankedSkater M p0 i4)), (0, .ref (ad 0)), (1, .int p0)]) S.1 S.2.1 dX4_unrankedSkater_36 hl (k := 0) rfl (nI_add i4 1) (by decide) rfl (fun ls hl => ?_)
      refine lv_goto (tgt := 4) S.1 S.2.1 dX4_unrankedSkater_39 (by decide) ?_
      have hstep : (it4_X4_unrankedSkater M p0 (i4 + 1)) = (it4_X4_unrankedSkater M p0 i4) := by
        show (_ : _) = _
        simp only [it4_X4_unrankedSkater, if_pos cn12_1]
      refine ih4 ls (by rw [hj, show 12 - i4 = (12 - (i4 + 1)) + 1 by omega]; simp only [fr4_X4_unrankedSkater, if_pos cn12_1]) (by rw [hstep]; exact lv_sub hl [0, 1, 2, 3] rfl)
    · have hb_cn12_1 := (at_X4_programmeOf cn12_1).1
      refine nt_a (v2 := .ref (ad (40 + ((nI i4).toNatClampNeg)))) (rq_s cn12_1) ?_
      refine lv_ifnull S.1 S.2.1 dX4_unrankedSkater_15 ?_
      refine lv_aload_n S.1 S.2.1 dX4_unrankedSkater_18 rfl (lv_at hl 2 rfl) ?_
      refine lv_iload_n S.1 S.2.1 dX4_unrankedSkater_19 rfl (lv_at hl 0 rfl) ?_
      refine kc_rV S K N hS 0 (by unfold crole; omega) (d_K.1 0 (by decide)) (sh_K) (T := TX4) (n := 6) rfl (As := [.int (nI i4)]) (m_X4_isRanked l M (nI i4) N (⟨d_K.1, trivial⟩)) k2_153 k2_155 kS_8 k1_1 k2_156 (num := 1) (by decide +kernel) rfl ⟨Nat.le_of_ble_eq_true rfl, Nat.le_of_ble_eq_true rfl⟩ hl.1 rfl (Nat.le_of_ble_eq_true rfl) dX4_unrankedSkater_20 ⟨Nat.le_of_ble_eq_true rfl, Nat.le_of_ble_eq_true rfl⟩ ?_
      refine lv_if_ne (tgt := 36) S.1 S.2.1 dX4_unrankedSkater_23 (by decide) (fun c23_2 => ?_) (fun c23_2 => ?_)
      · refine lv_iinc (v := nI (i4 + 1)) (lv' := [(3, .int (nI (i4 + 1))), (2, .int (it4_X4_unrankedSkater M p0 i4)), (0, .ref (ad 0)), (1, .int p0)]) S.1 S.2.1 dX4_unrankedSkater_36 hl (k := 0) rfl (nI_add i4 1) (by decide) rfl (fun ls hl => ?_)
        refine lv_goto (tgt := 4) S.1 S.2.1 dX4_unrankedSkater_39 (by decide) ?_
        have hstep : (it4_X4_unrankedSkater M p0 (i4 + 1)) = (it4_X4_unrankedSkater M p0 i4) := by
          show (_ : _) = _
          simp only [it4_X4_unrankedSkater, if_neg cn12_1, if_neg c23_2]
        refine ih4 ls (by rw [hj, show 12 - i4 = (12 - (i4 + 1)) + 1 by omega]; simp only [fr4_X4_unrankedSkater, if_neg cn12_1, if_neg c23_2]) (by rw [hstep]; exact lv_sub hl [0, 1, 2, 3] rfl)
      · refine lv_iload_n S.1 S.2.1 dX4_unrankedSkater_26 rfl (lv_at hl 1 rfl) ?_
        refine lv_iload_n S.1 S.2.1 dX4_unrankedSkater_27 rfl (lv_at hl 3 rfl) ?_
        refine lv_icmp_ne (tgt := 33) S.1 S.2.1 dX4_unrankedSkater_28 (by decide) (fun c28_3 => ?_) (fun c28_3 => ?_)
        · refine lv_iinc (v := ((it4_X4_unrankedSkater M p0 i4) + 1)) (lv' := [(2, .int ((it4_X4_unrankedSkater M p0 i4) + 1)), (3, .int (nI i4)), (0, .ref (ad 0)), (1, .int p0)]) S.1 S.2.1 dX4_unrankedSkater_33 hl (k := 1) rfl (rfl) (by decide) rfl (fun ls hl => ?_)
          refine lv_iinc (v := nI (i4 + 1)) (lv' := [(3, .int (nI (i4 + 1))), (2, .int ((it4_X4_unrankedSkater M p0 i4) + 1)), (0, .ref (ad 0)), (1, .int p0)]) S.1 S.2.1 dX4_unrankedSkater_36 hl (k := 1) rfl (nI_add i4 1) (by decide) rfl (fun ls hl => ?_)
          refine lv_goto (tgt := 4) S.1 S.2.1 dX4_unrankedSkater_39 (by decide) ?_
          have hstep : (it4_X4_unrankedSkater M p0 (i4 + 1)) = ((it4_X4_unrankedSkater M p0 i4) + 1) := by
            show (_ : _) = _
            simp only [it4_X4_unrankedSkater, if_neg cn12_1, if_pos c23_2, if_neg c28_3]
          refine ih4 ls (by rw [hj, show 12 - i4 = (12 - (i4 + 1)) + 1 by omega]; simp only [fr4_X4_unrankedSkater, if_neg cn12_1, if_pos c23_2, if_neg c28_3]) (by rw [hstep]; exact lv_sub hl [0, 1, 2, 3] rfl)
        · refine lv_iload_n S.1 S.2.1 dX4_unrankedSkater_31 rfl (lv_at hl 0 rfl) ?_
          exact ee_rI S hr hlk (by rw [hj, show 12 - i4 = (12 - (i4 + 1)) + 1 by omega]; simp only [fr4_X4_unrankedSkater, if_neg cn12_1, if_pos c23_2, if_pos c28_3]) dX4_unrankedSkater_32

def it2_X4_fillRanking (M : Nat → Nat → Int32) (d : Nat) : Nat → (Nat → Nat → Int32)
  | 0 => M
  | n2 + 1 => (if (f_X4_programmeOf ((it2_X4_fillRanking M d n2)) (nI n2)) = 0 then (up2 (up2 ((it2_X4_fillRanking M d n2)) 3 n2 (-1)) 4 n2 0) else (if (((it2_X4_fillRanking M d n2)) (40 + ((nI n2).toNatClampNeg)) 3) = 0 then (up2 (up2 ((it2_X4_fillRanking M d n2)) 3 n2 (-1)) 4 n2 0) else (up2 (up2 ((it2_X4_fillRanking M d n2)) 4 n2 (f_X2_elementScoresBy ((it2_X4_fillRanking M d n2)) ((nI n2).toNatClampNeg) d)) 3 n2 (f_X2_totalOf (up2 ((it2_X4_fillRanking M d n2)) 4 n2 (f_X2_elementScoresBy ((it2_X4_fillRanking M d n2)) ((nI n2).toNatClampNeg) d)) ((nI n2).toNatClampNeg) ((up2 ((it2_X4_fillRanking M d n2)) 4 n2 (f_X2_elementScoresBy ((it2_X4_fillRanking M d n2)) ((nI n2).toNatClampNeg) d)) 4 n2)))))
def g_X4_fillRanking (M : Nat → Nat → Int32) (d : Nat) : Nat → Nat → Int32 :=
  ((it2_X4_fillRanking M d 12))
theorem fl_rows (M : Nat → Nat → Int32) (d : Nat) : ∀ i r, ¬ r = 3 → ¬ r = 4 → it2_X4_fillRanking M d i r = M r := by
  intro i
  induction i with
  | zero => intro r _ _; rfl
  | succ i ih =>
    intro r h3 h4
    rw [it2_X4_fillRanking]
    repeat' split
    all_goals rw [up2_ne _ _ _ (by omega), up2_ne _ _ _ (by omega), ih r h3 h4]
set_option maxHeartbeats 4000000 in
set_option maxRecDepth 100000 in
theorem m_X4_fillRanking {D : va_G} {cA : Nat → ClassId} {B : Nat} (l : Launch) {dom : Nat → Prop} {ad : Nat → Nat} {X : Nat → va_E} {H0 : Heap} (M : Nat → Nat → Int32) (d : Nat) (N : kw D cA B dom ad X M H0) (d_K : dK dom M) (h_d : d < 3) (d_d : dom (30 + d) ∧ dom (33 + d)) : MetW D cA B l yX4_fillRanking cX4_fillRanking 4 none 4 96 0 0 [.ref (ad 0), .ref (ad (30 + d))] H0 (fun o h => o = none ∧ kw D cA B dom ad X (g_X4_fillRanking M d) h) := by
  refine MetW.of (by decide) (Nat.le_of_ble_eq_true rfl) ?_
  intro p e s m args below meth c S hr hlk hin hh K ls hl
  subst hh
  have hS : va_S (fun q => B ≤ q) s.heap s.heap [] := va_S.rf
  have hl : lv_has ls 4 [(0, .ref (ad 0)), (1, .ref (ad (30 + d)))] := hl
  refine lv_iconst (v := 0) S.1 S.2.1 dX4_fillRanking_0 (by decide) ?_
  refine lv_istore_n (lv' := [(2, .int 0), (0, .ref (ad 0)), (1, .ref (ad (30 + d)))]) S.1 S.2.1 dX4_fillRanking_1 rfl hl (by decide) rfl (fun ls hl => ?_)
  refine nlM (B := B) (h := 2) (N := 12) (n := 4) (PH := fun (i2 : Nat) (H : Heap) => kw D cA B dom ad X ((it2_X4_fillRanking M d i2)) H) (L := fun i2 : Nat => [(2, .int (nI i2)), (0, .ref (ad 0)), (1, .ref (ad (30 + d)))]) (fun ls H locs N hS hl => ?_) (fun i2 hi2 ih2 ls H locs N hS hl => ?_) ls _ _ N hS (lv_sub hl [0, 1, 2] rfl)
  · try dsimp only at hl
    refine lv_iload_n S.1 S.2.1 dX4_fillRanking_2 rfl (lv_at hl 0 rfl) ?_
    refine lv_aload_n S.1 S.2.1 dX4_fillRanking_3 rfl (lv_at hl 1 rfl) ?_
    refine kr_get S K N 0 (by unfold crole; omega) (d_K.1 0 (by decide)) (sh_K) (C0 := RX4) (T := TX4) (n := 6) rfl iWX4 2 (by decide) k1_47 rfl (v := .ref (ad 3)) rfl dX4_fillRanking_4 ?_
    refine kr_alen S K N 3 (by unfold crole; omega) (d_K.1 3 (by decide)) 0 rfl (sh_3) (v := 12) rfl dX4_fillRanking_7 ?_
    refine lv_icmp_ge (tgt := 87) S.1 S.2.1 dX4_fillRanking_8 (by decide) (fun _ => ?_) (fun c9 => absurd (nI_le (Nat.le_refl _) (by first | omega | decide)) c9)
    exact ne_wV S hS hr hlk ⟨rfl, N⟩ dX4_fillRanking_87
  · try dsimp only at hl
    refine lv_iload_n S.1 S.2.1 dX4_fillRanking_2 rfl (lv_at hl 0 rfl) ?_
    refine lv_aload_n S.1 S.2.1 dX4_fillRanking_3 rfl (lv_at hl 1 rfl) ?_
    refine kr_get S K N 0 (by unfold crole; omega) (d_K.1 0 (by decide)) (sh_K) (C0 := RX4) (T := TX4) (n := 6) rfl iWX4 2 (by decide) k1_47 rfl (v := .ref (ad 3)) rfl dX4_fillRanking_4 ?_
    refine kr_alen S K N 3 (by unfold crole; omega) (d_K.1 3 (by decide)) 0 rfl (sh_3) (v := 12) rfl dX4_fillRanking_7 ?_
    refine lv_icmp_ge (tgt := 87) S.1 S.2.1 dX4_fillRanking_8 (by decide) (fun c9 => absurd c9 (nI_ge (hi2) (by first | omega | decide))) (fun _ => ?_)
    refine lv_iload_n S.1 S.2.1 dX4_fillRanking_11 rfl (lv_at hl 0 rfl) ?_
    refine lv_aload_n S.1 S.2.1 dX4_fillRanking_12 rfl (lv_at hl 1 rfl) ?_
    refine kr_get S K N 0 (by unfold crole; omega) (d_K.1 0 (by decide)) (sh_K) (C0 := RX4) (T := TX4) (n := 6) rfl iWX4 3 (by decide) k1_48 rfl (v := .ref (ad 4)) rfl dX4_fillRanking_13 ?_
    refine kr_alen S K N 4 (by unfold crole; omega) (d_K.1 4 (by decide)) 0 rfl (sh_4) (v := 12) rfl dX4_fillRanking_16 ?_
    refine lv_icmp_ge (tgt := 87) S.1 S.2.1 dX4_fillRanking_17 (by decide) (fun c9 => absurd c9 (nI_ge hi2 (by first | omega | decide))) (fun _ => ?_)
    refine lv_aload_n S.1 S.2.1 dX4_fillRanking_20 rfl (lv_at hl 1 rfl) ?_
    refine lv_iload_n S.1 S.2.1 dX4_fillRanking_21 rfl (lv_at hl 0 rfl) ?_
    refine kc_rV S K N hS 0 (by unfold crole; omega) (d_K.1 0 (by decide)) (sh_K) (T := TX4) (n := 6) rfl (As := [.int (nI i2)]) (m_X4_programmeOf l ((it2_X4_fillRanking M d i2)) (nI i2) N (dK_rows (fl_rows _ _ _) d_K)) k1_215 k1_217 kS_1 k1_1 k1_218 (num := 1) (by decide +kernel) rfl ⟨Nat.le_of_ble_eq_true rfl, Nat.le_of_ble_eq_true rfl⟩ hl.1 rfl (Nat.le_of_ble_eq_true rfl) dX4_fillRanking_22 ⟨Nat.le_of_ble_eq_true rfl, Nat.le_of_ble_eq_true rfl⟩ ?_
    by_cases cn22_1 : (f_X4_programmeOf ((it2_X4_fillRanking M d i2)) (nI i2)) = 0
    · refine nt_a (v2 := .null) (rq_z cn22_1) ?_
      refine lv_astore_nN (lv' := [(3, .null), (2, .int (nI i2)), (0, .ref (ad 0)), (1, .ref (ad (30 + d)))]) S.1 S.2.1 dX4_fillRanking_25 rfl hl (by decide) rfl (fun ls hl => ?_)
      refine lv_aload_nN S.1 S.2.1 dX4_fillRanking_26 rfl (lv_at hl 0 rfl) ?_
      refine lv_ifnullN (tgt := 67) S.1 S.2.1 dX4_fillRanking_27 (by decide) ?_
      refine lv_aload_n S.1 S.2.1 dX4_fillRanking_67 rfl (lv_at hl 2 rfl) ?_
      refine kr_get S K N 0 (by unfold crole; omega) (d_K.1 0 (by decide)) (sh_K) (C0 := RX4) (T := TX4) (n := 6) rfl iWX4 2 (by decide) k1_47 rfl (v := .ref (ad 3)) rfl dX4_fillRanking_68 ?_
      refine lv_iload_n S.1 S.2.1 dX4_fillRanking_71 rfl (lv_at hl 1 rfl) ?_
      refine lv_iconst (v := (-1)) S.1 S.2.1 dX4_fillRanking_72 (by decide) ?_
      refine kr_iast S K N hS 3 (by unfold crole; omega) (d_K.1 3 (by decide)) (fun c9 => sh_3) (vp_in_nI (show i2 < 12 by omega) (by decide)) i2 (nI_clamp (show i2 < 2 ^ 31 by omega)) dX4_fillRanking_73 (fun H locs N hS => ?_)
      refine lv_aload_n S.1 S.2.1 dX4_fillRanking_74 rfl (lv_at hl 2 rfl) ?_
      refine kr_get S K N 0 (by unfold crole; omega) (d_K.1 0 (by decide)) (sh_K) (C0 := RX4) (T := TX4) (n := 6) rfl iWX4 3 (by decide) k1_48 rfl (v := .ref (ad 4)) rfl dX4_fillRanking_75 ?_
      refine lv_iload_n S.1 S.2.1 dX4_fillRanking_78 rfl (lv_at hl 1 rfl) ?_
      refine lv_iconst (v := 0) S.1 S.2.1 dX4_fillRanking_79 (by decide) ?_
      refine kr_iast S K N hS 4 (by unfold crole; omega) (d_K.1 4 (by decide)) (fun c9 => sh_4) (vp_in_nI (show i2 < 12 by omega) (by decide)) i2 (nI_clamp (show i2 < 2 ^ 31 by omega)) dX4_fillRanking_80 (fun H locs N hS => ?_)
      refine lv_iinc (v := nI (i2 + 1)) (lv' := [(2, .int (nI (i2 + 1))), (3, .null), (0, .ref (ad 0)), (1, .ref (ad (30 + d)))]) S.1 S.2.1 dX4_fillRanking_81 hl (k := 1) rfl (nI_add i2 1) (by decide) rfl (fun ls hl => ?_)
      refine lv_goto (tgt := 2) S.1 S.2.1 dX4_fillRanking_84 (by decide) ?_
      have hstep : (it2_X4_fillRanking M d (i2 + 1)) = (up2 (up2 ((it2_X4_fillRanking M d i2)) 3 i2 (-1)) 4 i2 0) := by
        show (_ : _) = _
        simp only [it2_X4_fillRanking, if_pos cn22_1]
      refine ih2 ls _ _ (by rw [hstep]; exact N) hS (by (try rw [hstep]); exact lv_sub hl [0, 2, 3] rfl)
    · have hb_cn22_1 := (at_X4_programmeOf cn22_1).1
      refine nt_a (v2 := .ref (ad (40 + ((nI i2).toNatClampNeg)))) (rq_s cn22_1) ?_
      refine lv_astore_n (lv' := [(3, .ref (ad (40 + ((nI i2).toNatClampNeg)))), (2, .int (nI i2)), (0, .ref (ad 0)), (1, .ref (ad (30 + d)))]) S.1 S.2.1 dX4_fillRanking_25 rfl hl (by decide) rfl (fun ls hl => ?_)
      refine lv_aload_n S.1 S.2.1 dX4_fillRanking_26 rfl (lv_at hl 0 rfl) ?_
      refine lv_ifnull S.1 S.2.1 dX4_fillRanking_27 ?_
      refine lv_aload_n S.1 S.2.1 dX4_fillRanking_30 rfl (lv_at hl 0 rfl) ?_
      refine kr_getN S K N (40 + ((nI i2).toNatClampNeg)) (by unfold crole; omega) (((dK_rows (fl_rows _ _ _) d_K).2.2 _ (at_X4_programmeOf cn22_1).1 (at_X4_programmeOf cn22_1).2.1).1) (sh_P (by omega)) (C0 := RX2) (T := TX2) (n := 12) rfl iWX2 3 (by decide) (by decide) rfl (v := .int (((it2_X4_fillRanking M d i2)) (40 + ((nI i2).toNatClampNeg)) 3)) rfl dX4_fillRanking_31 ?_
      refine lv_if_eq (tgt := 67) S.1 S.2.1 dX4_fillRanking_34 (by decide) (fun c34_2 => ?_) (fun c34_2 => ?_)
      · refine lv_aload_n S.1 S.2.1 dX4_fillRanking_67 rfl (lv_at hl 2 rfl) ?_
        refine kr_get S K N 0 (by unfold crole; omega) (d_K.1 0 (by decide)) (sh_K) (C0 := RX4) (T := TX4) (n := 6) rfl iWX4 2 (by decide) k1_47 rfl (v := .ref (ad 3)) rfl dX4_fillRanking_68 ?_
        refine lv_iload_n S.1 S.2.1 dX4_fillRanking_71 rfl (lv_at hl 1 rfl) ?_
        refine lv_iconst (v := (-1)) S.1 S.2.1 dX4_fillRanking_72 (by decide) ?_
        refine kr_iast S K N hS 3 (by unfold crole; omega) (d_K.1 3 (by decide)) (fun c9 => sh_3) (vp_in_nI (show i2 < 12 by omega) (by decide)) i2 (nI_clamp (show i2 < 2 ^ 31 by omega)) dX4_fillRanking_73 (fun H locs N hS => ?_)
        refine lv_aload_n S.1 S.2.1 dX4_fillRanking_74 rfl (lv_at hl 2 rfl) ?_
        refine kr_get S K N 0 (by unfold crole; omega) (d_K.1 0 (by decide)) (sh_K) (C0 := RX4) (T := TX4) (n := 6) rfl iWX4 3 (by decide) k1_48 rfl (v := .ref (ad 4)) rfl dX4_fillRanking_75 ?_
        refine lv_iload_n S.1 S.2.1 dX4_fillRanking_78 rfl (lv_at hl 1 rfl) ?_
        refine lv_iconst (v := 0) S.1 S.2.1 dX4_fillRanking_79 (by decide) ?_
        refine kr_iast S K N hS 4 (by unfold crole; omega) (d_K.1 4 (by decide)) (fun c9 => sh_4) (vp_in_nI (show i2 < 12 by omega) (by decide)) i2 (nI_clamp (show i2 < 2 ^ 31 by omega)) dX4_fillRanking_80 (fun H locs N hS => ?_)
        refine lv_iinc (v := nI (i2 + 1)) (lv' := [(2, .int (nI (i2 + 1))), (3, .ref (ad (40 + ((nI i2).toNatClampNeg)))), (0, .ref (ad 0)), (1, .ref (ad (30 + d)))]) S.1 S.2.1 dX4_fillRanking_81 hl (k := 1) rfl (nI_add i2 1) (by decide) rfl (fun ls hl => ?_)
        refine lv_goto (tgt := 2) S.1 S.2.1 dX4_fillRanking_84 (by decide) ?_
        have hstep : (it2_X4_fillRanking M d (i2 + 1)) = (up2 (up2 ((it2_X4_fillRanking M d i2)) 3 i2 (-1)) 4 i2 0) := by
          show (_ : _) = _
          simp only [it2_X4_fillRanking, if_neg cn22_1, if_pos c34_2]
        refine ih2 ls _ _ (by rw [hstep]; exact N) hS (by (try rw [hstep]); exact lv_sub hl [0, 2, 3] rfl)
      · refine lv_aload_n S.1 S.2.1 dX4_fillRanking_37 rfl (lv_at hl 2 rfl) ?_
        refine kr_get S K N 0 (by unfold crole; omega) (d_K.1 0 (by decide)) (sh_K) (C0 := RX4) (T := TX4) (n := 6) rfl iWX4 3 (by decide) k1_48 rfl (v := .ref (ad 4)) rfl dX4_fillRanking_38 ?_
        refine lv_iload_n S.1 S.2.1 dX4_fillRanking_41 rfl (lv_at hl 1 rfl) ?_
        refine lv_aload_n S.1 S.2.1 dX4_fillRanking_42 rfl (lv_at hl 0 rfl) ?_
        refine lv_aload_n S.1 S.2.1 dX4_fillRanking_43 rfl (lv_at hl 3 rfl) ?_
        refine kc_rV S K N hS (40 + ((nI i2).toNatClampNeg)) (by unfold crole; omega) (((dK_rows (fl_rows _ _ _) d_K).2.2 _ (at_X4_programmeOf cn22_1).1 (at_X4_programmeOf cn22_1).2.1).1) (sh_P (by omega)) (T := TX2) (n := 12) rfl (As := [.ref (ad (30 + d))]) (m_X2_elementScoresBy l ((it2_X4_fillRanking M d i2)) ((nI i2).toNatClampNeg) d N (by omega) ((dK_rows (fl_rows _ _ _) d_K).2.2 _ (at_X4_programmeOf cn22_1).1 (at_X4_programmeOf cn22_1).2.1) (by omega) d_d) k2_118 k2_119 k2_120 k1_7 k2_121 (num := 1) (by decide +kernel) rfl ⟨Nat.le_of_ble_eq_true rfl, Nat.le_of_ble_eq_true rfl⟩ hl.1 rfl (Nat.le_of_ble_eq_true rfl) dX4_fillRanking_44 ⟨Nat.le_of_ble_eq_true rfl, Nat.le_of_ble_eq_true rfl⟩ ?_
        refine kr_iast S K N hS 4 (by unfold crole; omega) (d_K.1 4 (by decide)) (fun c9 => sh_4) (vp_in_nI (show i2 < 12 by omega) (by decide)) i2 (nI_clamp (show i2 < 2 ^ 31 by omega)) dX4_fillRanking_47 (fun H locs N hS => ?_)
        refine lv_aload_n S.1 S.2.1 dX4_fillRanking_48 rfl (lv_at hl 2 rfl) ?_
        refine kr_get S K N 0 (by unfold crole; omega) (d_K.1 0 (by decide)) (sh_K) (C0 := RX4) (T := TX4) (n := 6) rfl iWX4 2 (by decide) k1_47 rfl (v := .ref (ad 3)) rfl dX4_fillRanking_49 ?_
        refine lv_iload_n S.1 S.2.1 dX4_fillRanking_52 rfl (lv_at hl 1 rfl) ?_
        refine lv_aload_n S.1 S.2.1 dX4_fillRanking_53 rfl (lv_at hl 0 rfl) ?_
        refine lv_aload_n S.1 S.2.1 dX4_fillRanking_54 rfl (lv_at hl 2 rfl) ?_
        refine kr_get S K N 0 (by unfold crole; omega) (d_K.1 0 (by decide)) (sh_K) (C0 := RX4) (T := TX4) (n := 6) rfl iWX4 3 (by decide) k1_48 rfl (v := .ref (ad 4)) rfl dX4_fillRanking_55 ?_
        refine lv_iload_n S.1 S.2.1 dX4_fillRanking_58 rfl (lv_at hl 1 rfl) ?_
        refine kr_iald S K N 4 (by unfold crole; omega) (d_K.1 4 (by decide)) (sh_4) (v := ((up2 ((it2_X4_fillRanking M d i2)) 4 i2 (f_X2_elementScoresBy ((it2_X4_fillRanking M d i2)) ((nI i2).toNatClampNeg) d)) 4 i2)) (vp_in_nI (show i2 < 12 by omega) (by decide)) (congrArg ((up2 ((it2_X4_fillRanking M d i2)) 4 i2 (f_X2_elementScoresBy ((it2_X4_fillRanking M d i2)) ((nI i2).toNatClampNeg) d)) 4) (nI_clamp (show i2 < 2 ^ 31 by omega))) dX4_fillRanking_59 ?_
        refine kc_rV S K N hS (40 + ((nI i2).toNatClampNeg)) (by unfold crole; omega) (((dK_rows (fl_rows _ _ _) d_K).2.2 _ (at_X4_programmeOf cn22_1).1 (at_X4_programmeOf cn22_1).2.1).1) (sh_P (by omega)) (T := TX2) (n := 12) rfl (As := [.int ((up2 ((it2_X4_fillRanking M d i2)) 4 i2 (f_X2_elementScoresBy ((it2_X4_fillRanking M d i2)) ((nI i2).toNatClampNeg) d)) 4 i2)]) (m_X2_totalOf l (up2 ((it2_X4_fillRanking M d i2)) 4 i2 (f_X2_elementScoresBy ((it2_X4_fillRanking M d i2)) ((nI i2).toNatClampNeg) d)) ((nI i2).toNatClampNeg) ((up2 ((it2_X4_fillRanking M d i2)) 4 i2 (f_X2_elementScoresBy ((it2_X4_fillRanking M d i2)) ((nI i2).toNatClampNeg) d)) 4 i2) N (by omega) (dP_up (by decide) ((dK_rows (fl_rows _ _ _) d_K).2.2 _ (at_X4_programmeOf cn22_1).1 (at_X4_programmeOf cn22_1).2.1))) k2_139 k2_140 k2_141 k1_7 k2_142 (num := 1) (by decide +kernel) rfl ⟨Nat.le_of_ble_eq_true rfl, Nat.le_of_ble_eq_true rfl⟩ hl.1 rfl (Nat.le_of_ble_eq_true rfl) dX4_fillRanking_60 ⟨Nat.le_of_ble_eq_true rfl, Nat.le_of_ble_eq_true rfl⟩ ?_
        refine kr_iast S K N hS 3 (by unfold crole; omega) (d_K.1 3 (by decide)) (fun c9 => sh_3) (vp_in_nI (show i2 < 12 by omega) (by decide)) i2 (nI_clamp (show i2 < 2 ^ 31 by omega)) dX4_fillRanking_63 (fun H locs N hS => ?_)
        refine lv_goto (tgt := 81) S.1 S.2.1 dX4_fillRanking_64 (by decide) ?_
        refine lv_iinc (v := nI (i2 + 1)) (lv' := [(2, .int (nI (i2 + 1))), (3, .ref (ad (40 + ((nI i2).toNatClampNeg)))), (0, .ref (ad 0)), (1, .ref (ad (30 + d)))]) S.1 S.2.1 dX4_fillRanking_81 hl (k := 1) rfl (nI_add i2 1) (by decide) rfl (fun ls hl => ?_)
        refine lv_goto (tgt := 2) S.1 S.2.1 dX4_fillRanking_84 (by decide) ?_
        have hstep : (it2_X4_fillRanking M d (i2 + 1)) = (up2 (up2 ((it2_X4_fillRanking M d i2)) 4 i2 (f_X2_elementScoresBy ((it2_X4_fillRanking M d i2)) ((nI i2).toNatClampNeg) d)) 3 i2 (f_X2_totalOf (up2 ((it2_X4_fillRanking M d i2)) 4 i2 (f_X2_elementScoresBy ((it2_X4_fillRanking M d i2)) ((nI i2).toNatClampNeg) d)) ((nI i2).toNatClampNeg) ((up2 ((it2_X4_fillRanking M d i2)) 4 i2 (f_X2_elementScoresBy ((it2_X4_fillRanking M d i2)) ((nI i2).toNatClampNeg) d)) 4 i2))) := by
          show (_ : _) = _
          simp only [it2_X4_fillRanking, if_neg cn22_1, if_neg c34_2]
        refine ih2 ls _ _ (by rw [hstep]; exact N) hS (by (try rw [hstep]); exact lv_sub hl [0, 2, 3] rfl)
