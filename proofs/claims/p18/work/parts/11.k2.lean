def rq (ad : Nat → Nat) (x : Int32) (r : Nat) : Value := if x = 0 then .null else .ref (ad r)
theorem rq_z {ad : Nat → Nat} {x : Int32} {r : Nat} (h : x = 0) : rq ad x r = .null := by unfold rq; rw [if_pos h]
theorem rq_s {ad : Nat → Nat} {x : Int32} {r : Nat} (h : ¬ x = 0) : rq ad x r = .ref (ad r) := by unfold rq; rw [if_neg h]
theorem ee_rA {p : Program} {l : Launch} {e : Env} {R : Room} {s : State} {m : MethodId} {args : Array Value} {below : List Frame} {meth : Method} {c : Code} {cc : ByteArray} {nL : Nat} {own : String} {pc : Nat} {ls : Array Slot} {v x : Value} {C : String} (S : CallFix p m c cc nL s args WU own) (hr : meth.sig.returnType = some (.object C)) (hlk : meth.locks = false) (h : v = x) (hv : x = .null ∨ ∃ a, x = .ref a) (hdg : decode cc pc = .ok (.areturn, 1)) : W p l e R s m args below meth c s.heap [] 0 0 (MQ below (Qro (some v)) args s 0 0 (fun _ => False)) (F0 m pc ls [x]) := by
  subst h
  exact ne_rA S hr hlk hv hdg
/-- counting down from 11 -/
def dn (i : Nat) : Int32 := nI (12 - i) - 1
theorem dn_nat {i : Nat} (h : i < 12) : dn i = nI (11 - i) := by
  unfold dn
  rw [show 12 - i = (11 - i) + 1 by omega]
  exact nI_pred _
theorem dn_next (i : Nat) (h : i < 12) : dn i + (-1) = dn (i + 1) := by
  rw [dn_nat h]
  unfold dn
  rw [show 12 - (i + 1) = 11 - i by omega, Int32.sub_eq_add_neg]
theorem dn_ge {i : Nat} (h : i < 12) : ¬ dn i < 0 := by
  rw [dn_nat h]
  exact nI_pos (by omega)
theorem dn_end : dn 12 < 0 := by decide
/-- counting down from 2 -/
def dm (i : Nat) : Int32 := nI (3 - i) - 1
theorem dm_nat {i : Nat} (h : i < 3) : dm i = nI (2 - i) := by
  unfold dm
  rw [show 3 - i = (2 - i) + 1 by omega]
  exact nI_pred _
theorem dm_next (i : Nat) (h : i < 3) : dm i + (-1) = dm (i + 1) := by
  rw [dm_nat h]
  unfold dm
  rw [show 3 - (i + 1) = 2 - i by omega, Int32.sub_eq_add_neg]
theorem dm_ge {i : Nat} (h : i < 3) : ¬ dm i < 0 := by
  rw [dm_nat h]
  exact nI_pos (by omega)
theorem dm_end : dm 3 < 0 := by decide
theorem at_lt {x : Int32} {n : Nat} (h : vp_in x n) : x.toNatClampNeg < n := by
  unfold vp_in at h
  omega
theorem zb_isIn (v lo hi : Int32) : vp_nar .boolean (f_X4_isIn v lo hi) = f_X4_isIn v lo hi := by
  unfold f_X4_isIn
  split
  · exact zb_0
  · split
    · exact zb_0
    · exact zb_1

def f_X0_hasValue (p0 : Int32) (p1 : Int32) : Int32 :=
  if p0 = 6 then (f_X4_isIn p1 0 4)
  else if (f_X4_isIn p0 0 5) = 0 then 0
  else if (f_X4_isIn p1 1 4) = 0 then 0
  else 1
set_option maxHeartbeats 4000000 in
set_option maxRecDepth 100000 in
theorem m_X0_hasValue {D : va_G} {cA : Nat → ClassId} {B : Nat} (l : Launch) {H0 : Heap} (p0 : Int32) (p1 : Int32) : MetR D cA B l yX0_hasValue cX0_hasValue 2 (some .boolean) 1 22 [.int p0, .int p1] H0 (some (.int (f_X0_hasValue p0 p1))) := by
  refine MetR.of (by decide) (Nat.le_of_ble_eq_true rfl) ?_
  intro p e s m args below meth c S hr hlk hh K ls hl
  subst hh
  have hS : va_S (fun q => B ≤ q) s.heap s.heap [] := va_S.rf
  have hl : lv_has ls 2 [(0, .int p0), (1, .int p1)] := hl
  refine lv_iload_n S.1 S.2.1 dX0_hasValue_0 rfl (lv_at hl 0 rfl) ?_
  refine lv_bipush (v := 6) S.1 S.2.1 dX0_hasValue_1 (by decide) ?_
  refine lv_icmp_ne (tgt := 13) S.1 S.2.1 dX0_hasValue_3 (by decide) (fun c3_1 => ?_) (fun c3_1 => ?_)
  · refine lv_iload_n S.1 S.2.1 dX0_hasValue_13 rfl (lv_at hl 0 rfl) ?_
    refine lv_iconst (v := 0) S.1 S.2.1 dX0_hasValue_14 (by decide) ?_
    refine lv_iconst (v := 5) S.1 S.2.1 dX0_hasValue_15 (by decide) ?_
    refine nc_rSN S K hS (As := [.int p0, .int 0, .int 5]) (m_X4_isIn l p0 0 5) (by decide) k2_10 k1_1 k2_11 (num := 3) (by decide +kernel) rfl ⟨Nat.le_of_ble_eq_true rfl, Nat.le_of_ble_eq_true rfl⟩ hl.1 rfl (Nat.le_of_ble_eq_true rfl) dX0_hasValue_16 ⟨Nat.le_of_ble_eq_true rfl, Nat.le_of_ble_eq_true rfl⟩ ?_
    refine lv_if_eq (tgt := 35) S.1 S.2.1 dX0_hasValue_19 (by decide) (fun c19_2 => ?_) (fun c19_2 => ?_)
    · refine lv_iconst (v := 0) S.1 S.2.1 dX0_hasValue_35 (by decide) ?_
      exact ee_rZ S hr hlk (zb_0) (by unfold f_X0_hasValue; first | (rw [if_neg c3_1, if_pos c19_2]; done) | (simp only [if_neg c3_1, if_pos c19_2]; done) | rfl) dX0_hasValue_36
    · refine lv_iload_n S.1 S.2.1 dX0_hasValue_22 rfl (lv_at hl 1 rfl) ?_
      refine lv_iconst (v := 1) S.1 S.2.1 dX0_hasValue_23 (by decide) ?_
      refine lv_iconst (v := 4) S.1 S.2.1 dX0_hasValue_24 (by decide) ?_
      refine nc_rSN S K hS (As := [.int p1, .int 1, .int 4]) (m_X4_isIn l p1 1 4) (by decide) k2_10 k1_1 k2_11 (num := 3) (by decide +kernel) rfl ⟨Nat.le_of_ble_eq_true rfl, Nat.le_of_ble_eq_true rfl⟩ hl.1 rfl (Nat.le_of_ble_eq_true rfl) dX0_hasValue_25 ⟨Nat.le_of_ble_eq_true rfl, Nat.le_of_ble_eq_true rfl⟩ ?_
      refine lv_if_eq (tgt := 35) S.1 S.2.1 dX0_hasValue_28 (by decide) (fun c28_3 => ?_) (fun c28_3 => ?_)
      · refine lv_iconst (v := 0) S.1 S.2.1 dX0_hasValue_35 (by decide) ?_
        exact ee_rZ S hr hlk (zb_0) (by unfold f_X0_hasValue; first | (rw [if_neg c3_1, if_neg c19_2, if_pos c28_3]; done) | (simp only [if_neg c3_1, if_neg c19_2, if_pos c28_3]; done) | rfl) dX0_hasValue_36
      · refine lv_iconst (v := 1) S.1 S.2.1 dX0_hasValue_31 (by decide) ?_
        refine lv_goto (tgt := 36) S.1 S.2.1 dX0_hasValue_32 (by decide) ?_
        exact ee_rZ S hr hlk (zb_1) (by unfold f_X0_hasValue; first | (rw [if_neg c3_1, if_neg c19_2, if_neg c28_3]; done) | (simp only [if_neg c3_1, if_neg c19_2, if_neg c28_3]; done) | rfl) dX0_hasValue_36
  · refine lv_iload_n S.1 S.2.1 dX0_hasValue_6 rfl (lv_at hl 1 rfl) ?_
    refine lv_iconst (v := 0) S.1 S.2.1 dX0_hasValue_7 (by decide) ?_
    refine lv_iconst (v := 4) S.1 S.2.1 dX0_hasValue_8 (by decide) ?_
    refine nc_rSN S K hS (As := [.int p1, .int 0, .int 4]) (m_X4_isIn l p1 0 4) (by decide) k2_10 k1_1 k2_11 (num := 3) (by decide +kernel) rfl ⟨Nat.le_of_ble_eq_true rfl, Nat.le_of_ble_eq_true rfl⟩ hl.1 rfl (Nat.le_of_ble_eq_true rfl) dX0_hasValue_9 ⟨Nat.le_of_ble_eq_true rfl, Nat.le_of_ble_eq_true rfl⟩ ?_
    exact ee_rZ S hr hlk (zb_isIn _ _ _) (by unfold f_X0_hasValue; first | (rw [if_pos c3_1]; done) | (simp only [if_pos c3_1]; done) | rfl) dX0_hasValue_12

def f_X1_quarters (M : Nat → Nat → Int32) (n : Nat) : Int32 :=
  (f_X3_middle M (36 + n))
set_option maxHeartbeats 4000000 in
set_option maxRecDepth 100000 in
theorem m_X1_quarters {D : va_G} {cA : Nat → ClassId} {B : Nat} (l : Launch) {dom : Nat → Prop} {ad : Nat → Nat} {X : Nat → va_E} {H0 : Heap} (M : Nat → Nat → Int32) (n : Nat) (N : kw D cA B dom ad X M H0) (h_n : n < 144) (d_n : dE dom n) : MetR D cA B l yX1_quarters cX1_quarters 1 (some .int) 1 20 [.ref (ad (80 + n))] H0 (some (.int (f_X1_quarters M n))) := by
  refine MetR.of (by decide) (Nat.le_of_ble_eq_true rfl) ?_
  intro p e s m args below meth c S hr hlk hh K ls hl
  subst hh
  have hS : va_S (fun q => B ≤ q) s.heap s.heap [] := va_S.rf
  have hl : lv_has ls 1 [(0, .ref (ad (80 + n)))] := hl
  refine lv_aload_n S.1 S.2.1 dX1_quarters_0 rfl (lv_at hl 0 rfl) ?_
  refine kr_get S K N (80 + n) (by unfold crole; omega) (d_n.1) (sh_L (by omega)) (C0 := RX1) (T := TX1) (n := 8) rfl iWX1 6 (by decide) k3_24 rfl (v := .ref (ad (300 + 3 * (36 + n)))) rfl dX1_quarters_1 ?_
  refine kc_rV S K N hS (300 + 3 * (36 + n)) (by unfold crole; omega) (d_n.2.1.1) (sh_V) (T := TX3) (n := 6) rfl (As := []) (m_X3_middle l M (36 + n) N (by omega) d_n.2.1) k2_85 k2_86 k2_87 k1_8 k2_88 (num := 0) (by decide +kernel) rfl ⟨Nat.le_of_ble_eq_true rfl, Nat.le_of_ble_eq_true rfl⟩ hl.1 rfl (Nat.le_of_ble_eq_true rfl) dX1_quarters_4 ⟨Nat.le_of_ble_eq_true rfl, Nat.le_of_ble_eq_true rfl⟩ ?_
  exact ee_rI S hr hlk (rfl) dX1_quarters_7

def f_X1_baseBy (M : Nat → Nat → Int32) (n : Nat) (d : Nat) : Int32 :=
  if (M (80 + n) 5) = 0 then 0
  else ((if (M (80 + n) 3) = 0 then ((if (M (80 + n) 2) = 0 then ((if (f_X3_middle M (36 + n)) = 2 then (f_X4_nearest (FP.dmul (FP.i2d (f_X0_valueOf M d (M (80 + n) 0) ((if (f_X3_middle M (36 + n)) < 3 then (M (80 + n) 1) else ((M (80 + n) 1) - 1)) : Int32))) 4605380978949069210)) else (f_X0_valueOf M d (M (80 + n) 0) ((if (f_X3_middle M (36 + n)) < 3 then (M (80 + n) 1) else ((M (80 + n) 1) - 1)) : Int32))) : Int32) else (f_X4_nearest (FP.dmul (FP.i2d ((if (f_X3_middle M (36 + n)) = 2 then (f_X4_nearest (FP.dmul (FP.i2d (f_X0_valueOf M d (M (80 + n) 0) ((if (f_X3_middle M (36 + n)) < 3 then (M (80 + n) 1) else ((M (80 + n) 1) - 1)) : Int32))) 4605380978949069210)) else (f_X0_valueOf M d (M (80 + n) 0) ((if (f_X3_middle M (36 + n)) < 3 then (M (80 + n) 1) else ((M (80 + n) 1) - 1)) : Int32))) : Int32)) 4605380978949069210))) : Int32) else (f_X4_nearest (FP.dmul (FP.i2d ((if (M (80 + n) 2) = 0 then ((if (f_X3_middle M (36 + n)) = 2 then (f_X4_nearest (FP.dmul (FP.i2d (f_X0_valueOf M d (M (80 + n) 0) ((if (f_X3_middle M (36 + n)) < 3 then (M (80 + n) 1) else ((M (80 + n) 1) - 1)) : Int32))) 4605380978949069210)) else (f_X0_valueOf M d (M (80 + n) 0) ((if (f_X3_middle M (36 + n)) < 3 then (M (80 + n) 1) else ((M (80 + n) 1) - 1)) : Int32))) : Int32) else (f_X4_nearest (FP.dmul (FP.i2d ((if (f_X3_middle M (36 + n)) = 2 then (f_X4_nearest (FP.dmul (FP.i2d (f_X0_valueOf M d (M (80 + n) 0) ((if (f_X3_middle M (36 + n)) < 3 then (M (80 + n) 1) else ((M (80 + n) 1) - 1)) : Int32))) 4605380978949069210)) else (f_X0_valueOf M d (M (80 + n) 0) ((if (f_X3_middle M (36 + n)) < 3 then (M (80 + n) 1) else ((M (80 + n) 1) - 1)) : Int32))) : Int32)) 4605380978949069210))) : Int32)) 4607632778762754458))) : Int32)
set_option maxHeartbeats 4000000 in
set_option maxRecDepth 100000 in
theorem m_X1_baseBy {D : va_G} {cA : Nat → ClassId} {B : Nat} (l : Launch) {dom : Nat → Prop} {ad : Nat → Nat} {X : Nat → va_E} {H0 : Heap} (M : Nat → Nat → Int32) (n : Nat) (d : Nat) (N : kw D cA B dom ad X M H0) (h_n : n < 144) (d_n : dE dom n) (h_d : d < 3) (d_d : dom (30 + d) ∧ dom (33 + d)) : MetR D cA B l yX1_baseBy cX1_baseBy 4 (some .int) 1 25 [.ref (ad (80 + n)), .ref (ad (30 + d))] H0 (some (.int (f_X1_baseBy M n d))) := by
  refine MetR.of (by decide) (Nat.le_of_ble_eq_true rfl) ?_
  intro p e s m args below meth c S hr hlk hh K ls hl
  subst hh
  have hS : va_S (fun q => B ≤ q) s.heap s.heap [] := va_S.rf
  have hl : lv_has ls 4 [(0, .ref (ad (80 + n))), (1, .ref (ad (30 + d)))] := hl
  refine lv_aload_n S.1 S.2.1 dX1_baseBy_0 rfl (lv_at hl 0 rfl) ?_
  refine kr_get S K N (80 + n) (by unfold crole; omega) (d_n.1) (sh_L (by omega)) (C0 := RX1) (T := TX1) (n := 8) rfl iWX1 5 (by decide) k3_23 rfl (v := .int (M (80 + n) 5)) rfl dX1_baseBy_1 ?_
  refine lv_if_ne (tgt := 9) S.1 S.2.1 dX1_baseBy_4 (by decide) (fun c4_1 => ?_) (fun c4_1 => ?_)
  · refine lv_aload_n S.1 S.2.1 dX1_baseBy_9 rfl (lv_at hl 0 rfl) ?_
    refine kr_get S K N (80 + n) (by unfold crole; omega) (d_n.1) (sh_L (by omega)) (C0 := RX1) (T := TX1) (n := 8) rfl iWX1 6 (by decide) k3_24 rfl (v := .ref (ad (300 + 3 * (36 + n)))) rfl dX1_baseBy_10 ?_
    refine kc_rV S K N hS (300 + 3 * (36 + n)) (by unfold crole; omega) (d_n.2.1.1) (sh_V) (T := TX3) (n := 6) rfl (As := []) (m_X3_middle l M (36 + n) N (by omega) d_n.2.1) k2_85 k2_86 k2_87 k1_8 k2_88 (num := 0) (by decide +kernel) rfl ⟨Nat.le_of_ble_eq_true rfl, Nat.le_of_ble_eq_true rfl⟩ hl.1 rfl (Nat.le_of_ble_eq_true rfl) dX1_baseBy_13 ⟨Nat.le_of_ble_eq_true rfl, Nat.le_of_ble_eq_true rfl⟩ ?_
    refine lv_istore_n (lv' := [(2, .int (f_X3_middle M (36 + n))), (0, .ref (ad (80 + n))), (1, .ref (ad (30 + d)))]) S.1 S.2.1 dX1_baseBy_16 rfl hl (by decide) rfl (fun ls hl => ?_)
    refine lv_aload_n S.1 S.2.1 dX1_baseBy_17 rfl (lv_at hl 2 rfl) ?_
    refine lv_aload_n S.1 S.2.1 dX1_baseBy_18 rfl (lv_at hl 1 rfl) ?_
    refine kr_get S K N (80 + n) (by unfold crole; omega) (d_n.1) (sh_L (by omega)) (C0 := RX1) (T := TX1) (n := 8) rfl iWX1 0 (by decide) k3_11 rfl (v := .int (M (80 + n) 0)) rfl dX1_baseBy_19 ?_
    refine lv_iload_n S.1 S.2.1 dX1_baseBy_22 rfl (lv_at hl 0 rfl) ?_
    refine lv_iconst (v := 3) S.1 S.2.1 dX1_baseBy_23 (by decide) ?_
    refine nj (J := 40) (V := ((if (f_X3_middle M (36 + n)) < 3 then (M (80 + n) 1) else ((M (80 + n) 1) - 1)) : Int32)) (L := fun v24_2 => [(2, .int (f_X3_middle M (36 + n))), (0, .ref (ad (80 + n))), (1, .ref (ad (30 + d)))]) (St := fun v24_2 => [.int v24_2, .int (M (80 + n) 0), .ref (ad (30 + d))]) (n := 4) (fun v24_2 ls h24_4 hl => ?_) (fun j24_3 => ?_)
    · try dsimp only at hl ⊢
      subst h24_4
      refine kc_rV S K N hS (30 + d) (by unfold crole; omega) (d_d.1) (sh_ed (by omega)) (T := TX0) (n := 1) rfl (As := [.int (M (80 + n) 0), .int ((if (f_X3_middle M (36 + n)) < 3 then (M (80 + n) 1) else ((M (80 + n) 1) - 1)) : Int32)]) (m_X0_valueOf l M d (M (80 + n) 0) ((if (f_X3_middle M (36 + n)) < 3 then (M (80 + n) 1) else ((M (80 + n) 1) - 1)) : Int32) N (by omega) d_d) k2_93 k2_94 k2_95 k1_2 k2_96 (num := 2) (by decide +kernel) rfl ⟨Nat.le_of_ble_eq_true rfl, Nat.le_of_ble_eq_true rfl⟩ hl.1 rfl (Nat.le_of_ble_eq_true rfl) dX1_baseBy_40 ⟨Nat.le_of_ble_eq_true rfl, Nat.le_of_ble_eq_true rfl⟩ ?_
      refine lv_istore_n (lv' := [(3, .int (f_X0_valueOf M d (M (80 + n) 0) ((if (f_X3_middle M (36 + n)) < 3 then (M (80 + n) 1) else ((M (80 + n) 1) - 1)) : Int32))), (2, .int (f_X3_middle M (36 + n))), (0, .ref (ad (80 + n))), (1, .ref (ad (30 + d)))]) S.1 S.2.1 dX1_baseBy_43 rfl hl (by decide) rfl (fun ls hl => ?_)
      refine lv_iload_n S.1 S.2.1 dX1_baseBy_44 rfl (lv_at hl 1 rfl) ?_
      refine lv_iconst (v := 2) S.1 S.2.1 dX1_baseBy_45 (by decide) ?_
      refine nj (J := 59) (V := ((if (f_X3_middle M (36 + n)) = 2 then (f_X4_nearest (FP.dmul (FP.i2d (f_X0_valueOf M d (M (80 + n) 0) ((if (f_X3_middle M (36 + n)) < 3 then (M (80 + n) 1) else ((M (80 + n) 1) - 1)) : Int32))) 4605380978949069210)) else (f_X0_valueOf M d (M (80 + n) 0) ((if (f_X3_middle M (36 + n)) < 3 then (M (80 + n) 1) else ((M (80 + n) 1) - 1)) : Int32))) : Int32)) (L := fun v46_5 => [(3, .int v46_5), (2, .int (f_X3_middle M (36 + n))), (0, .ref (ad (80 + n))), (1, .ref (ad (30 + d)))]) (St := fun v46_5 => []) (n := 4) (fun v46_5 ls h46_7 hl => ?_) (fun j46_6 => ?_)
      · try dsimp only at hl ⊢
        subst h46_7
        refine lv_aload_n S.1 S.2.1 dX1_baseBy_59 rfl (lv_at hl 2 rfl) ?_
        refine kr_get S K N (80 + n) (by unfold crole; omega) (d_n.1) (sh_L (by omega)) (C0 := RX1) (T := TX1) (n := 8) rfl iWX1 2 (by decide) k3_17 rfl (v := .int (M (80 + n) 2)) rfl dX1_baseBy_60 ?_
        refine nj (J := 76) (V := ((if (M (80 + n) 2) = 0 then ((if (f_X3_middle M (36 + n)) = 2 then (f_X4_nearest (FP.dmul (FP.i2d (f_X0_valueOf M d (M (80 + n) 0) ((if (f_X3_middle M (36 + n)) < 3 then (M (80 + n) 1) else ((M (80 + n) 1) - 1)) : Int32))) 4605380978949069210)) else (f_X0_valueOf M d (M (80 + n) 0) ((if (f_X3_middle M (36 + n)) < 3 then (M (80 + n) 1) else ((M (80 + n) 1) - 1)) : Int32))) : Int32) else (f_X4_nearest (FP.dmul (FP.i2d ((if (f_X3_middle M (36 + n)) = 2 then (f_X4_nearest (FP.dmul (FP.i2d (f_X0_valueOf M d (M (80 + n) 0) ((if (f_X3_middle M (36 + n)) < 3 then (M (80 + n) 1) else ((M (80 + n) 1) - 1)) : Int32))) 4605380978949069210)) else (f_X0_valueOf M d (M (80 + n) 0) ((if (f_X3_middle M (36 + n)) < 3 then (M (80 + n) 1) else ((M (80 + n) 1) - 1)) : Int32))) : Int32)) 4605380978949069210))) : Int32)) (L := fun v63_8 => [(3, .int v63_8), (2, .int (f_X3_middle M (36 + n))), (0, .ref (ad (80 + n))), (1, .ref (ad (30 + d)))]) (St := fun v63_8 => []) (n := 4) (fun v63_8 ls h63_10 hl => ?_) (fun j63_9 => ?_)
        · try dsimp only at hl ⊢
          subst h63_10
          refine lv_aload_n S.1 S.2.1 dX1_baseBy_76 rfl (lv_at hl 2 rfl) ?_
          refine kr_get S K N (80 + n) (by unfold crole; omega) (d_n.1) (sh_L (by omega)) (C0 := RX1) (T := TX1) (n := 8) rfl iWX1 3 (by decide) k3_19 rfl (v := .int (M (80 + n) 3)) rfl dX1_baseBy_77 ?_
          refine nj (J := 93) (V := ((if (M (80 + n) 3) = 0 then ((if (M (80 + n) 2) = 0 then ((if (f_X3_middle M (36 + n)) = 2 then (f_X4_nearest (FP.dmul (FP.i2d (f_X0_valueOf M d (M (80 + n) 0) ((if (f_X3_middle M (36 + n)) < 3 then (M (80 + n) 1) else ((M (80 + n) 1) - 1)) : Int32))) 4605380978949069210)) else (f_X0_valueOf M d (M (80 + n) 0) ((if (f_X3_middle M (36 + n)) < 3 then (M (80 + n) 1) else ((M (80 + n) 1) - 1)) : Int32))) : Int32) else (f_X4_nearest (FP.dmul (FP.i2d ((if (f_X3_middle M (36 + n)) = 2 then (f_X4_nearest (FP.dmul (FP.i2d (f_X0_valueOf M d (M (80 + n) 0) ((if (f_X3_middle M (36 + n)) < 3 then (M (80 + n) 1) else ((M (80 + n) 1) - 1)) : Int32))) 4605380978949069210)) else (f_X0_valueOf M d (M (80 + n) 0) ((if (f_X3_middle M (36 + n)) < 3 then (M (80 + n) 1) else ((M (80 + n) 1) - 1)) : Int32))) : Int32)) 4605380978949069210))) : Int32) else (f_X4_nearest (FP.dmul (FP.i2d ((if (M (80 + n) 2) = 0 then ((if (f_X3_middle M (36 + n)) = 2 then (f_X4_nearest (FP.dmul (FP.i2d (f_X0_valueOf M d (M (80 + n) 0) ((if (f_X3_middle M (36 + n)) < 3 then (M (80 + n) 1) else ((M (80 + n) 1) - 1)) : Int32))) 4605380978949069210)) else (f_X0_valueOf M d (M (80 + n) 0) ((if (f_X3_middle M (36 + n)) < 3 then (M (80 + n) 1) else ((M (80 + n) 1) - 1)) : Int32))) : Int32) else (f_X4_nearest (FP.dmul (FP.i2d ((if (f_X3_middle M (36 + n)) = 2 then (f_X4_nearest (FP.dmul (FP.i2d (f_X0_valueOf M d (M (80 + n) 0) ((if (f_X3_middle M (36 + n)) < 3 then (M (80 + n) 1) else ((M (80 + n) 1) - 1)) : Int32))) 4605380978949069210)) else (f_X0_valueOf M d (M (80 + n) 0) ((if (f_X3_middle M (36 + n)) < 3 then (M (80 + n) 1) else ((M (80 + n) 1) - 1)) : Int32))) : Int32)) 4605380978949069210))) : Int32)) 4607632778762754458))) : Int32)) (L := fun v80_11 => [(3, .int v80_11), (2, .int (f_X3_middle M (36 + n))), (0, .ref (ad (80 + n))), (1, .ref (ad (30 + d)))]) (St := fun v80_11 => []) (n := 4) (fun v80_11 ls h80_13 hl => ?_) (fun j80_12 => ?_)
          · try dsimp only at hl ⊢
            subst h80_13
            refine lv_iload_n S.1 S.2.1 dX1_baseBy_93 rfl (lv_at hl 0 rfl) ?_
            exact ee_rI S hr hlk (by unfold f_X1_baseBy; first | (rw [if_neg c4_1]; done) | (simp only [if_neg c4_1]; done) | rfl) dX1_baseBy_94
          · refine lv_if_eq (tgt := 93) S.1 S.2.1 dX1_baseBy_80 (by decide) (fun c80_14 => ?_) (fun c80_14 => ?_)
            · exact j80_12 _ _ (by first | (rw [if_pos c80_14]; done) | (simp only [if_pos c80_14]; done) | rfl) (lv_sub hl [0, 1, 2, 3] rfl)
            · refine lv_iload_n S.1 S.2.1 dX1_baseBy_83 rfl (lv_at hl 0 rfl) ?_
              refine lv_i2d S.1 S.2.1 dX1_baseBy_84 ?_
              refine lv_ldc2d S.1 S.2.1 S.2.2.2.1 (S.2.2.2.2 _ k2_103) dX1_baseBy_85 ?_
              refine lv_dmul S.1 S.2.1 dX1_baseBy_88 (vn_of (nan_11 _)) ?_
              refine nc_rSN S K hS (As := [.double (FP.dmul (FP.i2d ((if (M (80 + n) 2) = 0 then ((if (f_X3_middle M (36 + n)) = 2 then (f_X4_nearest (FP.dmul (FP.i2d (f_X0_valueOf M d (M (80 + n) 0) ((if (f_X3_middle M (36 + n)) < 3 then (M (80 + n) 1) else ((M (80 + n) 1) - 1)) : Int32))) 4605380978949069210)) else (f_X0_valueOf M d (M (80 + n) 0) ((if (f_X3_middle M (36 + n)) < 3 then (M (80 + n) 1) else ((M (80 + n) 1) - 1)) : Int32))) : Int32) else (f_X4_nearest (FP.dmul (FP.i2d ((if (f_X3_middle M (36 + n)) = 2 then (f_X4_nearest (FP.dmul (FP.i2d (f_X0_valueOf M d (M (80 + n) 0) ((if (f_X3_middle M (36 + n)) < 3 then (M (80 + n) 1) else ((M (80 + n) 1) - 1)) : Int32))) 4605380978949069210)) else (f_X0_valueOf M d (M (80 + n) 0) ((if (f_X3_middle M (36 + n)) < 3 then (M (80 + n) 1) else ((M (80 + n) 1) - 1)) : Int32))) : Int32)) 4605380978949069210))) : Int32)) 4607632778762754458)]) (m_X4_nearest l (FP.dmul (FP.i2d ((if (M (80 + n) 2) = 0 then ((if (f_X3_middle M (36 + n)) = 2 then (f_X4_nearest (FP.dmul (FP.i2d (f_X0_valueOf M d (M (80 + n) 0) ((if (f_X3_middle M (36 + n)) < 3 then (M (80 + n) 1) else ((M (80 + n) 1) - 1)) : Int32))) 4605380978949069210)) else (f_X0_valueOf M d (M (80 + n) 0) ((if (f_X3_middle M (36 + n)) < 3 then (M (80 + n) 1) else ((M (80 + n) 1) - 1)) : Int32))) : Int32) else (f_X4_nearest (FP.dmul (FP.i2d ((if (f_X3_middle M (36 + n)) = 2 then (f_X4_nearest (FP.dmul (FP.i2d (f_X0_valueOf M d (M (80 + n) 0) ((if (f_X3_middle M (36 + n)) < 3 then (M (80 + n) 1) else ((M (80 + n) 1) - 1)) : Int32))) 4605380978949069210)) else (f_X0_valueOf M d (M (80 + n) 0) ((if (f_X3_middle M (36 + n)) < 3 then (M (80 + n) 1) else ((M (80 + n) 1) - 1)) : Int32))) : Int32)) 4605380978949069210))) : Int32)) 4607632778762754458) (nan_11 _)) (by decide) k2_99 k1_1 k2_100 (num := 1) (by decide +kernel) rfl ⟨Nat.le_of_ble_eq_true rfl, Nat.le_of_ble_eq_true rfl⟩ hl.1 rfl (Nat.le_of_ble_eq_true rfl) dX1_baseBy_89 ⟨Nat.le_of_ble_eq_true rfl, Nat.le_of_ble_eq_true rfl⟩ ?_
              refine lv_istore_n (lv' := [(3, .int (f_X4_nearest (FP.dmul (FP.i2d ((if (M (80 + n) 2) = 0 then ((if (f_X3_middle M (36 + n)) = 2 then (f_X4_nearest (FP.dmul (FP.i2d (f_X0_valueOf M d (M (80 + n) 0) ((if (f_X3_middle M (36 + n)) < 3 then (M (80 + n) 1) else ((M (80 + n) 1) - 1)) : Int32))) 4605380978949069210)) else (f_X0_valueOf M d (M (80 + n) 0) ((if (f_X3_middle M (36 + n)) < 3 then (M (80 + n) 1) else ((M (80 + n) 1) - 1)) : Int32))) : Int32) else (f_X4_nearest (FP.dmul (FP.i2d ((if (f_X3_middle M (36 + n)) = 2 then (f_X4_nearest (FP.dmul (FP.i2d (f_X0_valueOf M d (M (80 + n) 0) ((if (f_X3_middle M (36 + n)) < 3 then (M (80 + n) 1) else ((M (80 + n) 1) - 1)) : Int32))) 4605380978949069210)) else (f_X0_valueOf M d (M (80 + n) 0) ((if (f_X3_middle M (36 + n)) < 3 then (M (80 + n) 1) else ((M (80 + n) 1) - 1)) : Int32))) : Int32)) 4605380978949069210))) : Int32)) 4607632778762754458))), (2, .int (f_X3_middle M (36 + n))), (0, .ref (ad (80 + n))), (1, .ref (ad (30 + d)))]) S.1 S.2.1 dX1_baseBy_92 rfl hl (by decide) rfl (fun ls hl => ?_)
              exact j80_12 _ _ (by first | (rw [if_neg c80_14]; done) | (simp only [if_neg c80_14]; done) | rfl) (lv_sub hl [0, 1, 2, 3] rfl)
        · refine lv_if_eq (tgt := 76) S.1 S.2.1 dX1_baseBy_63 (by decide) (fun c63_15 => ?_) (fun c63_15 => ?_)
          · exact j63_9 _ _ (by first | (rw [if_pos c63_15]; done) | (simp only [if_pos c63_15]; done) | rfl) (lv_sub hl [0, 1, 2, 3] rfl)
          · refine lv_iload_n S.1 S.2.1 dX1_baseBy_66 rfl (lv_at hl 0 rfl) ?_
            refine lv_i2d S.1 S.2.1 dX1_baseBy_67 ?_
            refine lv_ldc2d S.1 S.2.1 S.2.2.2.1 (S.2.2.2.2 _ k2_97) dX1_baseBy_68 ?_
            refine lv_dmul S.1 S.2.1 dX1_baseBy_71 (vn_of (nan_08 _)) ?_
            refine nc_rSN S K hS (As := [.double (FP.dmul (FP.i2d ((if (f_X3_middle M (36 + n)) = 2 then (f_X4_nearest (FP.dmul (FP.i2d (f_X0_valueOf M d (M (80 + n) 0) ((if (f_X3_middle M (36 + n)) < 3 then (M (80 + n) 1) else ((M (80 + n) 1) - 1)) : Int32))) 4605380978949069210)) else (f_X0_valueOf M d (M (80 + n) 0) ((if (f_X3_middle M (36 + n)) < 3 then (M (80 + n) 1) else ((M (80 + n) 1) - 1)) : Int32))) : Int32)) 4605380978949069210)]) (m_X4_nearest l (FP.dmul (FP.i2d ((if (f_X3_middle M (36 + n)) = 2 then (f_X4_nearest (FP.dmul (FP.i2d (f_X0_valueOf M d (M (80 + n) 0) ((if (f_X3_middle M (36 + n)) < 3 then (M (80 + n) 1) else ((M (80 + n) 1) - 1)) : Int32))) 4605380978949069210)) else (f_X0_valueOf M d (M (80 + n) 0) ((if (f_X3_middle M (36 + n)) < 3 then (M (80 + n) 1) else ((M (80 + n) 1) - 1)) : Int32))) : Int32)) 4605380978949069210) (nan_08 _)) (by decide) k2_99 k1_1 k2_100 (num := 1) (by decide +kernel) rfl ⟨Nat.le_of_ble_eq_true rfl, Nat.le_of_ble_eq_true rfl⟩ hl.1 rfl (Nat.le_of_ble_eq_true rfl) dX1_baseBy_72 ⟨Nat.le_of_ble_eq_true rfl, Nat.le_of_ble_eq_true rfl⟩ ?_
            refine lv_istore_n (lv' := [(3, .int (f_X4_nearest (FP.dmul (FP.i2d ((if (f_X3_middle M (36 + n)) = 2 then (f_X4_nearest (FP.dmul (FP.i2d (f_X0_valueOf M d (M (80 + n) 0) ((if (f_X3_middle M (36 + n)) < 3 then (M (80 + n) 1) else ((M (80 + n) 1) - 1)) : Int32))) 4605380978949069210)) else (f_X0_valueOf M d (M (80 + n) 0) ((if (f_X3_middle M (36 + n)) < 3 then (M (80 + n) 1) else ((M (80 + n) 1) - 1)) : Int32))) : Int32)) 4605380978949069210))), (2, .int (f_X3_middle M (36 + n))), (0, .ref (ad (80 + n))), (1, .ref (ad (30 + d)))]) S.1 S.2.1 dX1_baseBy_75 rfl hl (by decide) rfl (fun ls hl => ?_)
            exact j63_9 _ _ (by first | (rw [if_neg c63_15]; done) | (simp only [if_neg c63_15]; done) | rfl) (lv_sub hl [0, 1, 2, 3] rfl)
      · refine lv_icmp_ne (tgt := 59) S.1 S.2.1 dX1_baseBy_46 (by decide) (fun c46_16 => ?_) (fun c46_16 => ?_)
        · exact j46_6 _ _ (by first | (rw [if_neg c46_16]; done) | (simp only [if_neg c46_16]; done) | rfl) (lv_sub hl [0, 1, 2, 3] rfl)
        · refine lv_iload_n S.1 S.2.1 dX1_baseBy_49 rfl (lv_at hl 0 rfl) ?_
          refine lv_i2d S.1 S.2.1 dX1_baseBy_50 ?_
          refine lv_ldc2d S.1 S.2.1 S.2.2.2.1 (S.2.2.2.2 _ k2_97) dX1_baseBy_51 ?_
          refine lv_dmul S.1 S.2.1 dX1_baseBy_54 (vn_of (nan_08 _)) ?_
          refine nc_rSN S K hS (As := [.double (FP.dmul (FP.i2d (f_X0_valueOf M d (M (80 + n) 0) ((if (f_X3_middle M (36 + n)) < 3 then (M (80 + n) 1) else ((M (80 + n) 1) - 1)) : Int32))) 4605380978949069210)]) (m_X4_nearest l (FP.dmul (FP.i2d (f_X0_valueOf M d (M (80 + n) 0) ((if (f_X3_middle M (36 + n)) < 3 then (M (80 + n) 1) else ((M (80 + n) 1) - 1)) : Int32))) 4605380978949069210) (nan_08 _)) (by decide) k2_99 k1_1 k2_100 (num := 1) (by decide +kernel) rfl ⟨Nat.le_of_ble_eq_true rfl, Nat.le_of_ble_eq_true rfl⟩ hl.1 rfl (Nat.le_of_ble_eq_true rfl) dX1_baseBy_55 ⟨Nat.le_of_ble_eq_true rfl, Nat.le_of_ble_eq_true rfl⟩ ?_
          refine lv_istore_n (lv' := [(3, .int (f_X4_nearest (FP.dmul (FP.i2d (f_X0_valueOf M d (M (80 + n) 0) ((if (f_X3_middle M (36 + n)) < 3 then (M (80 + n) 1) else ((M (80 + n) 1) - 1)) : Int32))) 4605380978949069210))), (2, .int (f_X3_middle M (36 + n))), (0, .ref (ad (80 + n))), (1, .ref (ad (30 + d)))]) S.1 S.2.1 dX1_baseBy_58 rfl hl (by decide) rfl (fun ls hl => ?_)
          exact j46_6 _ _ (by first | (rw [if_pos c46_16]; done) | (simp only [if_pos c46_16]; done) | rfl) (lv_sub hl [0, 1, 2, 3] rfl)
    · refine lv_icmp_lt (tgt := 36) S.1 S.2.1 dX1_baseBy_24 (by decide) (fun c24_17 => ?_) (fun c24_17 => ?_)
      · refine lv_aload_n S.1 S.2.1 dX1_baseBy_36 rfl (lv_at hl 1 rfl) ?_
        refine kr_get S K N (80 + n) (by unfold crole; omega) (d_n.1) (sh_L (by omega)) (C0 := RX1) (T := TX1) (n := 8) rfl iWX1 1 (by decide) k3_14 rfl (v := .int (M (80 + n) 1)) rfl dX1_baseBy_37 ?_
        exact j24_3 _ _ (by first | (rw [if_pos c24_17]; done) | (simp only [if_pos c24_17]; done) | rfl) (lv_sub hl [0, 1, 2] rfl)
      · refine lv_aload_n S.1 S.2.1 dX1_baseBy_27 rfl (lv_at hl 1 rfl) ?_
        refine kr_get S K N (80 + n) (by unfold crole; omega) (d_n.1) (sh_L (by omega)) (C0 := RX1) (T := TX1) (n := 8) rfl iWX1 1 (by decide) k3_14 rfl (v := .int (M (80 + n) 1)) rfl dX1_baseBy_28 ?_
        refine lv_iconst (v := 1) S.1 S.2.1 dX1_baseBy_31 (by decide) ?_
        refine lv_isub S.1 S.2.1 dX1_baseBy_32 ?_
        refine lv_goto (tgt := 40) S.1 S.2.1 dX1_baseBy_33 (by decide) ?_
        exact j24_3 _ _ (by first | (rw [if_neg c24_17]; done) | (simp only [if_neg c24_17]; done) | rfl) (lv_sub hl [0, 1, 2] rfl)
  · refine lv_iconst (v := 0) S.1 S.2.1 dX1_baseBy_7 (by decide) ?_
    exact ee_rI S hr hlk (by unfold f_X1_baseBy; first | (rw [if_pos c4_1]; done) | (simp only [if_pos c4_1]; done) | rfl) dX1_baseBy_8

theorem nanL1 (b : Int32) (M : Nat → Nat → Int32) (v : Nat) : FP.dIsNaN (FP.dmul (FP.i2d b) (f_X3_trimmedMean M v)) = false := FP.Core.dmul_out (FP.Core.i2d_fin b) finV
theorem nanL2 (b : Int32) (M : Nat → Nat → Int32) (v : Nat) : FP.dIsNaN (FP.ddiv (FP.dmul (FP.i2d b) (f_X3_trimmedMean M v)) 4621819117588971520) = false := FP.Core.ddiv_out (nanL1 b M v) fin_10 nz_10
theorem nanV (M : Nat → Nat → Int32) (v : Nat) : FP.dIsNaN (FP.dmul 4627730092099895296 (f_X3_trimmedMean M v)) = false := FP.Core.dmul_out fin_25 finV

def f_X1_scoreBy (M : Nat → Nat → Int32) (n : Nat) (d : Nat) : Int32 :=
  ((f_X1_baseBy M n d) + (f_X4_nearest (FP.ddiv (FP.dmul (FP.i2d (f_X1_baseBy M n d)) (f_X3_trimmedMean M (180 + n))) 4621819117588971520)))
set_option maxHeartbeats 4000000 in
set_option maxRecDepth 100000 in
theorem m_X1_scoreBy {D : va_G} {cA : Nat → ClassId} {B : Nat} (l : Launch) {dom : Nat → Prop} {ad : Nat → Nat} {X : Nat → va_E} {H0 : Heap} (M : Nat → Nat → Int32) (n : Nat) (d : Nat) (N : kw D cA B dom ad X M H0) (h_n : n < 144) (d_n : dE dom n) (h_d : d < 3) (d_d : dom (30 + d) ∧ dom (33 + d)) : MetR D cA B l yX1_scoreBy cX1_scoreBy 3 (some .int) 2 48 [.ref (ad (80 + n)), .ref (ad (30 + d))] H0 (some (.int (f_X1_scoreBy M n d))) := by
  refine MetR.of (by decide) (Nat.le_of_ble_eq_true rfl) ?_
  intro p e s m args below meth c S hr hlk hh K ls hl
  subst hh
  have hS : va_S (fun q => B ≤ q) s.heap s.heap [] := va_S.rf
  have hl : lv_has ls 3 [(0, .ref (ad (80 + n))), (1, .ref (ad (30 + d)))] := hl
  refine lv_aload_n S.1 S.2.1 dX1_scoreBy_0 rfl (lv_at hl 0 rfl) ?_
  refine lv_aload_n S.1 S.2.1 dX1_scoreBy_1 rfl (lv_at hl 1 rfl) ?_
  refine kc_rV S K N hS (80 + n) (by unfold crole; omega) (d_n.1) (sh_L (by omega)) (T := TX1) (n := 8) rfl (As := [.ref (ad (30 + d))]) (m_X1_baseBy l M n d N (by omega) d_n (by omega) d_d) k2_108 k2_90 k2_91 k1_11 k2_92 (num := 1) (by decide +kernel) rfl ⟨Nat.le_of_ble_eq_true rfl, Nat.le_of_ble_eq_true rfl⟩ hl.1 rfl (Nat.le_of_ble_eq_true rfl) dX1_scoreBy_2 ⟨Nat.le_of_ble_eq_true rfl, Nat.le_of_ble_eq_true rfl⟩ ?_
  refine lv_istore_n (lv' := [(2, .int (f_X1_baseBy M n d)), (0, .ref (ad (80 + n))), (1, .ref (ad (30 + d)))]) S.1 S.2.1 dX1_scoreBy_5 rfl hl (by decide) rfl (fun ls hl => ?_)
  refine lv_iload_n S.1 S.2.1 dX1_scoreBy_6 rfl (lv_at hl 0 rfl) ?_
  refine lv_iload_n S.1 S.2.1 dX1_scoreBy_7 rfl (lv_at hl 0 rfl) ?_
  refine lv_i2d S.1 S.2.1 dX1_scoreBy_8 ?_
  refine lv_aload_n S.1 S.2.1 dX1_scoreBy_9 rfl (lv_at hl 1 rfl) ?_
  refine kr_get S K N (80 + n) (by unfold crole; omega) (d_n.1) (sh_L (by omega)) (C0 := RX1) (T := TX1) (n := 8) rfl iWX1 7 (by decide) k3_26 rfl (v := .ref (ad (300 + 3 * (180 + n)))) rfl dX1_scoreBy_10 ?_
  refine kc_rV S K N hS (300 + 3 * (180 + n)) (by unfold crole; omega) (d_n.2.2.1) (sh_V) (T := TX3) (n := 6) rfl (As := []) (m_X3_trimmedMean l M (180 + n) N (by omega) d_n.2.2) k2_109 k2_110 k2_111 k1_8 k2_112 (num := 0) (by decide +kernel) rfl ⟨Nat.le_of_ble_eq_true rfl, Nat.le_of_ble_eq_true rfl⟩ hl.1 rfl (Nat.le_of_ble_eq_true rfl) dX1_scoreBy_13 ⟨Nat.le_of_ble_eq_true rfl, Nat.le_of_ble_eq_true rfl⟩ ?_
  refine lv_dmul S.1 S.2.1 dX1_scoreBy_16 (vn_of (nanL1 _ _ _)) ?_
  refine lv_ldc2d S.1 S.2.1 S.2.2.2.1 (S.2.2.2.2 _ k2_113) dX1_scoreBy_17 ?_
  refine lv_ddiv S.1 S.2.1 dX1_scoreBy_20 (vn_of (nanL2 _ _ _)) ?_
  refine nc_rSN S K hS (As := [.double (FP.ddiv (FP.dmul (FP.i2d (f_X1_baseBy M n d)) (f_X3_trimmedMean M (180 + n))) 4621819117588971520)]) (m_X4_nearest l (FP.ddiv (FP.dmul (FP.i2d (f_X1_baseBy M n d)) (f_X3_trimmedMean M (180 + n))) 4621819117588971520) (nanL2 _ _ _)) (by decide) k2_99 k1_1 k2_100 (num := 1) (by decide +kernel) rfl ⟨Nat.le_of_ble_eq_true rfl, Nat.le_of_ble_eq_true rfl⟩ hl.1 rfl (Nat.le_of_ble_eq_true rfl) dX1_scoreBy_21 ⟨Nat.le_of_ble_eq_true rfl, Nat.le_of_ble_eq_true rfl⟩ ?_
  refine lv_iadd S.1 S.2.1 dX1_scoreBy_24 ?_
  exact ee_rI S hr hlk (rfl) dX1_scoreBy_25

def f_X2_elementAt (M : Nat → Nat → Int32) (k : Nat) (p0 : Int32) : Int32 :=
  if p0 < 0 then 0
  else if 12 ≤ p0 then 0
  else if (M (52 + k) p0.toNatClampNeg) = 0 then 0
  else 1
set_option maxHeartbeats 4000000 in
set_option maxRecDepth 100000 in
theorem m_X2_elementAt {D : va_G} {cA : Nat → ClassId} {B : Nat} (l : Launch) {dom : Nat → Prop} {ad : Nat → Nat} {X : Nat → va_E} {H0 : Heap} (M : Nat → Nat → Int32) (k : Nat) (p0 : Int32) (N : kw D cA B dom ad X M H0) (h_k : k < 12) (d_k : dP dom M k) : MetR D cA B l yX2_elementAt cX2_elementAt 2 (some (.object "EdgeCode$Element")) 0 0 [.ref (ad (40 + k)), .int p0] H0 (some (rq ad (f_X2_elementAt M k p0) (80 + (12 * k + p0.toNatClampNeg)))) := by
  refine MetR.of (by decide) (Nat.le_of_ble_eq_true rfl) ?_
  intro p e s m args below meth c S hr hlk hh K ls hl
  subst hh
  have hS : va_S (fun q => B ≤ q) s.heap s.heap [] := va_S.rf
  have hl : lv_has ls 2 [(0, .ref (ad (40 + k))), (1, .int p0)] := hl
  refine lv_iload_n S.1 S.2.1 dX2_elementAt_0 rfl (lv_at hl 1 rfl) ?_
  refine lv_if_lt (tgt := 22) S.1 S.2.1 dX2_elementAt_1 (by decide) (fun c1_1 => ?_) (fun c1_1 => ?_)
  · refine lv_null S.1 S.2.1 dX2_elementAt_22 ?_
    exact ee_rA S hr hlk (by unfold f_X2_elementAt; (try simp only [if_pos c1_1]); rfl) (Or.inl rfl) dX2_elementAt_23
  · refine lv_iload_n S.1 S.2.1 dX2_elementAt_4 rfl (lv_at hl 1 rfl) ?_
    refine lv_aload_n S.1 S.2.1 dX2_elementAt_5 rfl (lv_at hl 0 rfl) ?_
    refine kr_get S K N (40 + k) (by unfold crole; omega) (d_k.1) (sh_P (by omega)) (C0 := RX2) (T := TX2) (n := 12) rfl iWX2 0 (by decide) k1_170 rfl (v := .ref (ad (52 + k))) rfl dX2_elementAt_6 ?_
    refine kr_alen S K N (52 + k) (by unfold crole; omega) (d_k.2.1) 3 rfl (sh_Pe (by omega)) (v := 12) rfl dX2_elementAt_9 ?_
    refine lv_icmp_ge (tgt := 22) S.1 S.2.1 dX2_elementAt_10 (by decide) (fun c10_2 => ?_) (fun c10_2 => ?_)
    · refine lv_null S.1 S.2.1 dX2_elementAt_22 ?_
      exact ee_rA S hr hlk (by unfold f_X2_elementAt; (try simp only [if_neg c1_1, if_pos c10_2]); rfl) (Or.inl rfl) dX2_elementAt_23
    · refine lv_aload_n S.1 S.2.1 dX2_elementAt_13 rfl (lv_at hl 0 rfl) ?_
      refine kr_get S K N (40 + k) (by unfold crole; omega) (d_k.1) (sh_P (by omega)) (C0 := RX2) (T := TX2) (n := 12) rfl iWX2 0 (by decide) k1_170 rfl (v := .ref (ad (52 + k))) rfl dX2_elementAt_14 ?_
      refine lv_iload_n S.1 S.2.1 dX2_elementAt_17 rfl (lv_at hl 1 rfl) ?_
      by_cases cn18_3 : (M (52 + k) p0.toNatClampNeg) = 0
      · refine kr_aald S K N (52 + k) (by unfold crole; omega) (d_k.2.1) 3 rfl (sh_Pe (by omega)) (v := .null) (vi_ge c1_1 c10_2) (rf_z (rfl) (cn18_3)) dX2_elementAt_18 ?_
        refine lv_goto (tgt := 23) S.1 S.2.1 dX2_elementAt_19 (by decide) ?_
        exact ee_rA S hr hlk (by unfold f_X2_elementAt; (try simp only [if_neg c1_1, if_neg c10_2, if_pos cn18_3]); rfl) (Or.inl rfl) dX2_elementAt_23
      · refine kr_aald S K N (52 + k) (by unfold crole; omega) (d_k.2.1) 3 rfl (sh_Pe (by omega)) (v := .ref (ad (80 + (12 * k + p0.toNatClampNeg)))) (vi_ge c1_1 c10_2) (rf_s (rfl) (cn18_3) (by omega)) dX2_elementAt_18 ?_
        refine lv_goto (tgt := 23) S.1 S.2.1 dX2_elementAt_19 (by decide) ?_
        exact ee_rA S hr hlk (by unfold f_X2_elementAt; (try simp only [if_neg c1_1, if_neg c10_2, if_neg cn18_3]); rfl) (Or.inr ⟨_, rfl⟩) dX2_elementAt_23

theorem at_X2_elementAt {M : Nat → Nat → Int32} {k : Nat} {p0 : Int32} (h : ¬ f_X2_elementAt M k p0 = 0) : p0.toNatClampNeg < 12 ∧ ¬ M (52 + k) p0.toNatClampNeg = 0 ∧ vp_in p0 12 := by
  unfold f_X2_elementAt at h
  by_cases h1 : p0 < 0
  · rw [if_pos h1] at h
    exact absurd rfl h
  · rw [if_neg h1] at h
    by_cases h2 : 12 ≤ p0
    · rw [if_pos h2] at h
      exact absurd rfl h
    · rw [if_neg h2] at h
      by_cases h3 : M (52 + k) p0.toNatClampNeg = 0
      · rw [if_pos h3] at h
        exact absurd rfl h
      · exact ⟨at_lt (vi_ge h1 h2), h3, vi_ge h1 h2⟩

def f_X2_componentAt (M : Nat → Nat → Int32) (k : Nat) (p0 : Int32) : Int32 :=
  if p0 < 0 then 0
  else if 3 ≤ p0 then 0
  else if (M (64 + k) p0.toNatClampNeg) = 0 then 0
  else 1
set_option maxHeartbeats 4000000 in
set_option maxRecDepth 100000 in
theorem m_X2_componentAt {D : va_G} {cA : Nat → ClassId} {B : Nat} (l : Launch) {dom : Nat → Prop} {ad : Nat → Nat} {X : Nat → va_E} {H0 : Heap} (M : Nat → Nat → Int32) (k : Nat) (p0 : Int32) (N : kw D cA B dom ad X M H0) (h_k : k < 12) (d_k : dP dom M k) : MetR D cA B l yX2_componentAt cX2_componentAt 2 (some (.object "EdgeCode$Votes")) 0 0 [.ref (ad (40 + k)), .int p0] H0 (some (rq ad (f_X2_componentAt M k p0) (300 + 3 * (3 * k + p0.toNatClampNeg)))) := by
  refine MetR.of (by decide) (Nat.le_of_ble_eq_true rfl) ?_
  intro p e s m args below meth c S hr hlk hh K ls hl
  subst hh
  have hS : va_S (fun q => B ≤ q) s.heap s.heap [] := va_S.rf
  have hl : lv_has ls 2 [(0, .ref (ad (40 + k))), (1, .int p0)] := hl
  refine lv_iload_n S.1 S.2.1 dX2_componentAt_0 rfl (lv_at hl 1 rfl) ?_
  refine lv_if_lt (tgt := 22) S.1 S.2.1 dX2_componentAt_1 (by decide) (fun c1_1 => ?_) (fun c1_1 => ?_)
  · refine lv_null S.1 S.2.1 dX2_componentAt_22 ?_
    exact ee_rA S hr hlk (by unfold f_X2_componentAt; (try simp only [if_pos c1_1]); rfl) (Or.inl rfl) dX2_componentAt_23
  · refine lv_iload_n S.1 S.2.1 dX2_componentAt_4 rfl (lv_at hl 1 rfl) ?_
    refine lv_aload_n S.1 S.2.1 dX2_componentAt_5 rfl (lv_at hl 0 rfl) ?_
    refine kr_get S K N (40 + k) (by unfold crole; omega) (d_k.1) (sh_P (by omega)) (C0 := RX2) (T := TX2) (n := 12) rfl iWX2 1 (by decide) k1_171 rfl (v := .ref (ad (64 + k))) rfl dX2_componentAt_6 ?_
    refine kr_alen S K N (64 + k) (by unfold crole; omega) (d_k.2.2.1) 4 rfl (sh_Pc (by omega)) (v := 3) rfl dX2_componentAt_9 ?_
    refine lv_icmp_ge (tgt := 22) S.1 S.2.1 dX2_componentAt_10 (by decide) (fun c10_2 => ?_) (fun c10_2 => ?_)
    · refine lv_null S.1 S.2.1 dX2_componentAt_22 ?_
      exact ee_rA S hr hlk (by unfold f_X2_componentAt; (try simp only [if_neg c1_1, if_pos c10_2]); rfl) (Or.inl rfl) dX2_componentAt_23
    · refine lv_aload_n S.1 S.2.1 dX2_componentAt_13 rfl (lv_at hl 0 rfl) ?_
      refine kr_get S K N (40 + k) (by unfold crole; omega) (d_k.1) (sh_P (by omega)) (C0 := RX2) (T := TX2) (n := 12) rfl iWX2 1 (by decide) k1_171 rfl (v := .ref (ad (64 + k))) rfl dX2_componentAt_14 ?_
      refine lv_iload_n S.1 S.2.1 dX2_componentAt_17 rfl (lv_at hl 1 rfl) ?_
      by_cases cn18_3 : (M (64 + k) p0.toNatClampNeg) = 0
      · refine kr_aald S K N (64 + k) (by unfold crole; omega) (d_k.2.2.1) 4 rfl (sh_Pc (by omega)) (v := .null) (vi_ge c1_1 c10_2) (rf3_z (rfl) (cn18_3)) dX2_componentAt_18 ?_
        refine lv_goto (tgt := 23) S.1 S.2.1 dX2_componentAt_19 (by decide) ?_
        exact ee_rA S hr hlk (by unfold f_X2_componentAt; (try simp only [if_neg c1_1, if_neg c10_2, if_pos cn18_3]); rfl) (Or.inl rfl) dX2_componentAt_23
      · refine kr_aald S K N (64 + k) (by unfold crole; omega) (d_k.2.2.1) 4 rfl (sh_Pc (by omega)) (v := .ref (ad (300 + 3 * (3 * k + p0.toNatClampNeg)))) (vi_ge c1_1 c10_2) (rf3_s (rfl) (cn18_3) (by omega)) dX2_componentAt_18 ?_
        refine lv_goto (tgt := 23) S.1 S.2.1 dX2_componentAt_19 (by decide) ?_
        exact ee_rA S hr hlk (by unfold f_X2_componentAt; (try simp only [if_neg c1_1, if_neg c10_2, if_neg cn18_3]); rfl) (Or.inr ⟨_, rfl⟩) dX2_componentAt_23

theorem at_X2_componentAt {M : Nat → Nat → Int32} {k : Nat} {p0 : Int32} (h : ¬ f_X2_componentAt M k p0 = 0) : p0.toNatClampNeg < 3 ∧ ¬ M (64 + k) p0.toNatClampNeg = 0 ∧ vp_in p0 3 := by
  unfold f_X2_componentAt at h
  by_cases h1 : p0 < 0
  · rw [if_pos h1] at h
    exact absurd rfl h
  · rw [if_neg h1] at h
    by_cases h2 : 3 ≤ p0
    · rw [if_pos h2] at h
      exact absurd rfl h
    · rw [if_neg h2] at h
      by_cases h3 : M (64 + k) p0.toNatClampNeg = 0
      · rw [if_pos h3] at h
        exact absurd rfl h
      · exact ⟨at_lt (vi_ge h1 h2), h3, vi_ge h1 h2⟩

def f_X2_hasTime (M : Nat → Nat → Int32) (k : Nat) : Int32 :=
  if 240 ≤ (M (40 + k) 7) then 0
  else 1
set_option maxHeartbeats 4000000 in
set_option maxRecDepth 100000 in
theorem m_X2_hasTime {D : va_G} {cA : Nat → ClassId} {B : Nat} (l : Launch) {dom : Nat → Prop} {ad : Nat → Nat} {X : Nat → va_E} {H0 : Heap} (M : Nat → Nat → Int32) (k : Nat) (N : kw D cA B dom ad X M H0) (h_k : k < 12) (d_k : dP dom M k) : MetR D cA B l yX2_hasTime cX2_hasTime 1 (some .boolean) 0 0 [.ref (ad (40 + k))] H0 (some (.int (f_X2_hasTime M k))) := by
  refine MetR.of (by decide) (Nat.le_of_ble_eq_true rfl) ?_
  intro p e s m args below meth c S hr hlk hh K ls hl
  subst hh
  have hS : va_S (fun q => B ≤ q) s.heap s.heap [] := va_S.rf
  have hl : lv_has ls 1 [(0, .ref (ad (40 + k)))] := hl
  refine lv_aload_n S.1 S.2.1 dX2_hasTime_0 rfl (lv_at hl 0 rfl) ?_
  refine kr_get S K N (40 + k) (by unfold crole; omega) (d_k.1) (sh_P (by omega)) (C0 := RX2) (T := TX2) (n := 12) rfl iWX2 7 (by decide) k1_179 rfl (v := .int (M (40 + k) 7)) rfl dX2_hasTime_1 ?_
  refine lv_sipush (v := 240) S.1 S.2.1 dX2_hasTime_4 (by decide) ?_
  refine lv_icmp_ge (tgt := 14) S.1 S.2.1 dX2_hasTime_7 (by decide) (fun c7_1 => ?_) (fun c7_1 => ?_)
  · refine lv_iconst (v := 0) S.1 S.2.1 dX2_hasTime_14 (by decide) ?_
    exact ee_rZ S hr hlk (zb_0) (by unfold f_X2_hasTime; first | (rw [if_pos c7_1]; done) | (simp only [if_pos c7_1]; done) | rfl) dX2_hasTime_15
  · refine lv_iconst (v := 1) S.1 S.2.1 dX2_hasTime_10 (by decide) ?_
    refine lv_goto (tgt := 15) S.1 S.2.1 dX2_hasTime_11 (by decide) ?_
    exact ee_rZ S hr hlk (zb_1) (by unfold f_X2_hasTime; first | (rw [if_neg c7_1]; done) | (simp only [if_neg c7_1]; done) | rfl) dX2_hasTime_15

def f_X2_hasRoom (M : Nat → Nat → Int32) (k : Nat) : Int32 :=
  if (f_X2_hasTime M k) = 0 then 0
  else if 12 ≤ (M (40 + k) 8) then 0
  else 1
set_option maxHeartbeats 4000000 in
set_option maxRecDepth 100000 in
theorem m_X2_hasRoom {D : va_G} {cA : Nat → ClassId} {B : Nat} (l : Launch) {dom : Nat → Prop} {ad : Nat → Nat} {X : Nat → va_E} {H0 : Heap} (M : Nat → Nat → Int32) (k : Nat) (N : kw D cA B dom ad X M H0) (h_k : k < 12) (d_k : dP dom M k) : MetR D cA B l yX2_hasRoom cX2_hasRoom 1 (some .boolean) 1 20 [.ref (ad (40 + k))] H0 (some (.int (f_X2_hasRoom M k))) := by
  refine MetR.of (by decide) (Nat.le_of_ble_eq_true rfl) ?_
  intro p e s m args below meth c S hr hlk hh K ls hl
  subst hh
  have hS : va_S (fun q => B ≤ q) s.heap s.heap [] := va_S.rf
  have hl : lv_has ls 1 [(0, .ref (ad (40 + k)))] := hl
  refine lv_aload_n S.1 S.2.1 dX2_hasRoom_0 rfl (lv_at hl 0 rfl) ?_
  refine kc_rV S K N hS (40 + k) (by unfold crole; omega) (d_k.1) (sh_P (by omega)) (T := TX2) (n := 12) rfl (As := []) (m_X2_hasTime l M k N (by omega) d_k) k2_226 k2_208 k2_209 k1_7 k2_210 (num := 0) (by decide +kernel) rfl ⟨Nat.le_of_ble_eq_true rfl, Nat.le_of_ble_eq_true rfl⟩ hl.1 rfl (Nat.le_of_ble_eq_true rfl) dX2_hasRoom_1 ⟨Nat.le_of_ble_eq_true rfl, Nat.le_of_ble_eq_true rfl⟩ ?_
  refine lv_if_eq (tgt := 23) S.1 S.2.1 dX2_hasRoom_4 (by decide) (fun c4_1 => ?_) (fun c4_1 => ?_)
  · refine lv_iconst (v := 0) S.1 S.2.1 dX2_hasRoom_23 (by decide) ?_
    exact ee_rZ S hr hlk (zb_0) (by unfold f_X2_hasRoom; first | (rw [if_pos c4_1]; done) | (simp only [if_pos c4_1]; done) | rfl) dX2_hasRoom_24
  · refine lv_aload_n S.1 S.2.1 dX2_hasRoom_7 rfl (lv_at hl 0 rfl) ?_
    refine kr_get S K N (40 + k) (by unfold crole; omega) (d_k.1) (sh_P (by omega)) (C0 := RX2) (T := TX2) (n := 12) rfl iWX2 8 (by decide) k1_181 rfl (v := .int (M (40 + k) 8)) rfl dX2_hasRoom_8 ?_
    refine lv_aload_n S.1 S.2.1 dX2_hasRoom_11 rfl (lv_at hl 0 rfl) ?_
    refine kr_get S K N (40 + k) (by unfold crole; omega) (d_k.1) (sh_P (by omega)) (C0 := RX2) (T := TX2) (n := 12) rfl iWX2 0 (by decide) k1_170 rfl (v := .ref (ad (52 + k))) rfl dX2_hasRoom_12 ?_
    refine kr_alen S K N (52 + k) (by unfold crole; omega) (d_k.2.1) 3 rfl (sh_Pe (by omega)) (v := 12) rfl dX2_hasRoom_15 ?_
    refine lv_icmp_ge (tgt := 23) S.1 S.2.1 dX2_hasRoom_16 (by decide) (fun c16_2 => ?_) (fun c16_2 => ?_)
    · refine lv_iconst (v := 0) S.1 S.2.1 dX2_hasRoom_23 (by decide) ?_
      exact ee_rZ S hr hlk (zb_0) (by unfold f_X2_hasRoom; first | (rw [if_neg c4_1, if_pos c16_2]; done) | (simp only [if_neg c4_1, if_pos c16_2]; done) | rfl) dX2_hasRoom_24
    · refine lv_iconst (v := 1) S.1 S.2.1 dX2_hasRoom_19 (by decide) ?_
      refine lv_goto (tgt := 24) S.1 S.2.1 dX2_hasRoom_20 (by decide) ?_
      exact ee_rZ S hr hlk (zb_1) (by unfold f_X2_hasRoom; first | (rw [if_neg c4_1, if_neg c16_2]; done) | (simp only [if_neg c4_1, if_neg c16_2]; done) | rfl) dX2_hasRoom_24

def f_X2_isWrongEdge (M : Nat → Nat → Int32) (k : Nat) (p0 : Int32) : Int32 :=
  if (M (40 + k) 5) = ((if p0 = 1 then 0 else ((if p0 = 3 then 0 else 1) : Int32)) : Int32) then 0
  else 1
set_option maxHeartbeats 4000000 in
set_option maxRecDepth 100000 in
theorem m_X2_isWrongEdge {D : va_G} {cA : Nat → ClassId} {B : Nat} (l : Launch) {dom : Nat → Prop} {ad : Nat → Nat} {X : Nat → va_E} {H0 : Heap} (M : Nat → Nat → Int32) (k : Nat) (p0 : Int32) (N : kw D cA B dom ad X M H0) (h_k : k < 12) (d_k : dP dom M k) : MetR D cA B l yX2_isWrongEdge cX2_isWrongEdge 2 (some .boolean) 0 0 [.ref (ad (40 + k)), .int p0] H0 (some (.int (f_X2_isWrongEdge M k p0))) := by
  refine MetR.of (by decide) (Nat.le_of_ble_eq_true rfl) ?_
  intro p e s m args below meth c S hr hlk hh K ls hl
  subst hh
  have hS : va_S (fun q => B ≤ q) s.heap s.heap [] := va_S.rf
  have hl : lv_has ls 2 [(0, .ref (ad (40 + k))), (1, .int p0)] := hl
  refine lv_aload_n S.1 S.2.1 dX2_isWrongEdge_0 rfl (lv_at hl 0 rfl) ?_
  refine kr_get S K N (40 + k) (by unfold crole; omega) (d_k.1) (sh_P (by omega)) (C0 := RX2) (T := TX2) (n := 12) rfl iWX2 5 (by decide) k1_177 rfl (v := .int (M (40 + k) 5)) rfl dX2_isWrongEdge_1 ?_
  refine lv_iload_n S.1 S.2.1 dX2_isWrongEdge_4 rfl (lv_at hl 1 rfl) ?_
  refine lv_iconst (v := 1) S.1 S.2.1 dX2_isWrongEdge_5 (by decide) ?_
  refine nj (J := 19) (V := ((if p0 = 1 then 0 else ((if p0 = 3 then 0 else 1) : Int32)) : Int32)) (L := fun v6_1 => [(0, .ref (ad (40 + k))), (1, .int p0)]) (St := fun v6_1 => [.int v6_1, .int (M (40 + k) 5)]) (n := 2) (fun v6_1 ls h6_3 hl => ?_) (fun j6_2 => ?_)
  · try dsimp only at hl ⊢
    subst h6_3
    refine lv_icmp_eq (tgt := 26) S.1 S.2.1 dX2_isWrongEdge_19 (by decide) (fun c19_4 => ?_) (fun c19_4 => ?_)
    · refine lv_iconst (v := 0) S.1 S.2.1 dX2_isWrongEdge_26 (by decide) ?_
      exact ee_rZ S hr hlk (zb_0) (by unfold f_X2_isWrongEdge; first | (rw [if_pos c19_4]; done) | (simp only [if_pos c19_4]; done) | rfl) dX2_isWrongEdge_27
    · refine lv_iconst (v := 1) S.1 S.2.1 dX2_isWrongEdge_22 (by decide) ?_
      refine lv_goto (tgt := 27) S.1 S.2.1 dX2_isWrongEdge_23 (by decide) ?_
      exact ee_rZ S hr hlk (zb_1) (by unfold f_X2_isWrongEdge; first | (rw [if_neg c19_4]; done) | (simp only [if_neg c19_4]; done) | rfl) dX2_isWrongEdge_27
  · refine lv_icmp_eq (tgt := 14) S.1 S.2.1 dX2_isWrongEdge_6 (by decide) (fun c6_5 => ?_) (fun c6_5 => ?_)
    · refine lv_iconst (v := 0) S.1 S.2.1 dX2_isWrongEdge_14 (by decide) ?_
      refine lv_goto (tgt := 19) S.1 S.2.1 dX2_isWrongEdge_15 (by decide) ?_
      exact j6_2 _ _ (by first | (rw [if_pos c6_5]; done) | (simp only [if_pos c6_5]; done) | rfl) (lv_sub hl [0, 1] rfl)
    · refine lv_iload_n S.1 S.2.1 dX2_isWrongEdge_9 rfl (lv_at hl 1 rfl) ?_
      refine lv_iconst (v := 3) S.1 S.2.1 dX2_isWrongEdge_10 (by decide) ?_
      refine lv_icmp_ne (tgt := 18) S.1 S.2.1 dX2_isWrongEdge_11 (by decide) (fun c11_6 => ?_) (fun c11_6 => ?_)
      · refine lv_iconst (v := 1) S.1 S.2.1 dX2_isWrongEdge_18 (by decide) ?_
        exact j6_2 _ _ (by first | (rw [if_neg c6_5, if_neg c11_6]; done) | (simp only [if_neg c6_5, if_neg c11_6]; done) | rfl) (lv_sub hl [0, 1] rfl)
      · refine lv_iconst (v := 0) S.1 S.2.1 dX2_isWrongEdge_14 (by decide) ?_
        refine lv_goto (tgt := 19) S.1 S.2.1 dX2_isWrongEdge_15 (by decide) ?_
        exact j6_2 _ _ (by first | (rw [if_neg c6_5, if_pos c11_6]; done) | (simp only [if_neg c6_5, if_pos c11_6]; done) | rfl) (lv_sub hl [0, 1] rfl)

def f_X2_canTakeOff (M : Nat → Nat → Int32) (k : Nat) (p0 : Int32) : Int32 :=
  if (M (40 + k) 4) = ((if p0 = 0 then 1 else ((if p0 = 2 then 1 else 0) : Int32)) : Int32) then (if (M (40 + k) 6) = ((if p0 = 5 then 0 else 1) : Int32) then (if ((if p0 = 3 then 1 else ((if p0 = 4 then 1 else 0) : Int32)) : Int32) = 0 then (if (f_X2_isWrongEdge M k p0) = 0 then 1
        else 0)
      else 1)
    else 0)
  else 0
set_option maxHeartbeats 4000000 in
set_option maxRecDepth 100000 in
theorem m_X2_canTakeOff {D : va_G} {cA : Nat → ClassId} {B : Nat} (l : Launch) {dom : Nat → Prop} {ad : Nat → Nat} {X : Nat → va_E} {H0 : Heap} (M : Nat → Nat → Int32) (k : Nat) (p0 : Int32) (N : kw D cA B dom ad X M H0) (h_k : k < 12) (d_k : dP dom M k) : MetR D cA B l yX2_canTakeOff cX2_canTakeOff 5 (some .boolean) 1 21 [.ref (ad (40 + k)), .int p0] H0 (some (.int (f_X2_canTakeOff M k p0))) := by
  refine MetR.of (by decide) (Nat.le_of_ble_eq_true rfl) ?_
  intro p e s m args below meth c S hr hlk hh K ls hl
  subst hh
  have hS : va_S (fun q => B ≤ q) s.heap s.heap [] := va_S.rf
  have hl : lv_has ls 5 [(0, .ref (ad (40 + k))), (1, .int p0)] := hl
  refine lv_iload_n S.1 S.2.1 dX2_canTakeOff_0 rfl (lv_at hl 1 rfl) ?_
  refine nj (J := 14) (V := ((if p0 = 0 then 1 else ((if p0 = 2 then 1 else 0) : Int32)) : Int32)) (L := fun v1_1 => [(0, .ref (ad (40 + k))), (1, .int p0)]) (St := fun v1_1 => [.int v1_1]) (n := 5) (fun v1_1 ls h1_3 hl => ?_) (fun j1_2 => ?_)
  · try dsimp only at hl ⊢
    subst h1_3
    refine lv_istore_n (lv' := [(2, .int ((if p0 = 0 then 1 else ((if p0 = 2 then 1 else 0) : Int32)) : Int32)), (0, .ref (ad (40 + k))), (1, .int p0)]) S.1 S.2.1 dX2_canTakeOff_14 rfl hl (by decide) rfl (fun ls hl => ?_)
    refine lv_iload_n S.1 S.2.1 dX2_canTakeOff_15 rfl (lv_at hl 2 rfl) ?_
    refine lv_iconst (v := 5) S.1 S.2.1 dX2_canTakeOff_16 (by decide) ?_
    refine nj (J := 25) (V := ((if p0 = 5 then 0 else 1) : Int32)) (L := fun v17_4 => [(2, .int ((if p0 = 0 then 1 else ((if p0 = 2 then 1 else 0) : Int32)) : Int32)), (0, .ref (ad (40 + k))), (1, .int p0)]) (St := fun v17_4 => [.int v17_4]) (n := 5) (fun v17_4 ls h17_6 hl => ?_) (fun j17_5 => ?_)
    · try dsimp only at hl ⊢
      subst h17_6
      refine lv_istore_n (lv' := [(3, .int ((if p0 = 5 then 0 else 1) : Int32)), (2, .int ((if p0 = 0 then 1 else ((if p0 = 2 then 1 else 0) : Int32)) : Int32)), (0, .ref (ad (40 + k))), (1, .int p0)]) S.1 S.2.1 dX2_canTakeOff_25 rfl hl (by decide) rfl (fun ls hl => ?_)
      refine lv_iload_n S.1 S.2.1 dX2_canTakeOff_26 rfl (lv_at hl 3 rfl) ?_
      refine lv_iconst (v := 3) S.1 S.2.1 dX2_canTakeOff_27 (by decide) ?_
      refine nj (J := 41) (V := ((if p0 = 3 then 1 else ((if p0 = 4 then 1 else 0) : Int32)) : Int32)) (L := fun v28_7 => [(3, .int ((if p0 = 5 then 0 else 1) : Int32)), (2, .int ((if p0 = 0 then 1 else ((if p0 = 2 then 1 else 0) : Int32)) : Int32)), (0, .ref (ad (40 + k))), (1, .int p0)]) (St := fun v28_7 => [.int v28_7]) (n := 5) (fun v28_7 ls h28_9 hl => ?_) (fun j28_8 => ?_)
      · try dsimp only at hl ⊢
        subst h28_9
        refine lv_istore (lv' := [(4, .int ((if p0 = 3 then 1 else ((if p0 = 4 then 1 else 0) : Int32)) : Int32)), (3, .int ((if p0 = 5 then 0 else 1) : Int32)), (2, .int ((if p0 = 0 then 1 else ((if p0 = 2 then 1 else 0) : Int32)) : Int32)), (0, .ref (ad (40 + k))), (1, .int p0)]) S.1 S.2.1 dX2_canTakeOff_41 hl (by decide) rfl (fun ls hl => ?_)
        refine lv_aload_n S.1 S.2.1 dX2_canTakeOff_43 rfl (lv_at hl 3 rfl) ?_
        refine kr_get S K N (40 + k) (by unfold crole; omega) (d_k.1) (sh_P (by omega)) (C0 := RX2) (T := TX2) (n := 12) rfl iWX2 4 (by decide) k1_176 rfl (v := .int (M (40 + k) 4)) rfl dX2_canTakeOff_44 ?_
        refine lv_iload_n S.1 S.2.1 dX2_canTakeOff_47 rfl (lv_at hl 2 rfl) ?_
        refine lv_icmp_ne (tgt := 76) S.1 S.2.1 dX2_canTakeOff_48 (by decide) (fun c48_10 => ?_) (fun c48_10 => ?_)
        · refine lv_iconst (v := 0) S.1 S.2.1 dX2_canTakeOff_76 (by decide) ?_
          exact ee_rZ S hr hlk (zb_0) (by unfold f_X2_canTakeOff; first | (rw [if_neg c48_10]; done) | (simp only [if_neg c48_10]; done) | rfl) dX2_canTakeOff_77
        · refine lv_aload_n S.1 S.2.1 dX2_canTakeOff_51 rfl (lv_at hl 3 rfl) ?_
          refine kr_get S K N (40 + k) (by unfold crole; omega) (d_k.1) (sh_P (by omega)) (C0 := RX2) (T := TX2) (n := 12) rfl iWX2 6 (by decide) k1_178 rfl (v := .int (M (40 + k) 6)) rfl dX2_canTakeOff_52 ?_
          refine lv_iload_n S.1 S.2.1 dX2_canTakeOff_55 rfl (lv_at hl 1 rfl) ?_
          refine lv_icmp_ne (tgt := 76) S.1 S.2.1 dX2_canTakeOff_56 (by decide) (fun c56_11 => ?_) (fun c56_11 => ?_)
          · refine lv_iconst (v := 0) S.1 S.2.1 dX2_canTakeOff_76 (by decide) ?_
            exact ee_rZ S hr hlk (zb_0) (by unfold f_X2_canTakeOff; first | (rw [if_pos c48_10, if_neg c56_11]; done) | (simp only [if_pos c48_10, if_neg c56_11]; done) | rfl) dX2_canTakeOff_77
          · refine lv_iload S.1 S.2.1 dX2_canTakeOff_59 (lv_at hl 0 rfl) ?_
            refine lv_if_ne (tgt := 72) S.1 S.2.1 dX2_canTakeOff_61 (by decide) (fun c61_12 => ?_) (fun c61_12 => ?_)
            · refine lv_iconst (v := 1) S.1 S.2.1 dX2_canTakeOff_72 (by decide) ?_
              refine lv_goto (tgt := 77) S.1 S.2.1 dX2_canTakeOff_73 (by decide) ?_
              exact ee_rZ S hr hlk (zb_1) (by unfold f_X2_canTakeOff; first | (rw [if_pos c48_10, if_pos c56_11, if_neg c61_12]; done) | (simp only [if_pos c48_10, if_pos c56_11, if_neg c61_12]; done) | rfl) dX2_canTakeOff_77
            · refine lv_aload_n S.1 S.2.1 dX2_canTakeOff_64 rfl (lv_at hl 3 rfl) ?_
              refine lv_iload_n S.1 S.2.1 dX2_canTakeOff_65 rfl (lv_at hl 4 rfl) ?_
              refine kc_rV S K N hS (40 + k) (by unfold crole; omega) (d_k.1) (sh_P (by omega)) (T := TX2) (n := 12) rfl (As := [.int p0]) (m_X2_isWrongEdge l M k p0 N (by omega) d_k) k2_231 k2_233 kS_14 k1_7 k2_234 (num := 1) (by decide +kernel) rfl ⟨Nat.le_of_ble_eq_true rfl, Nat.le_of_ble_eq_true rfl⟩ hl.1 rfl (Nat.le_of_ble_eq_true rfl) dX2_canTakeOff_66 ⟨Nat.le_of_ble_eq_true rfl, Nat.le_of_ble_eq_true rfl⟩ ?_
              refine lv_if_ne (tgt := 76) S.1 S.2.1 dX2_canTakeOff_69 (by decide) (fun c69_13 => ?_) (fun c69_13 => ?_)
              · refine lv_iconst (v := 0) S.1 S.2.1 dX2_canTakeOff_76 (by decide) ?_
                exact ee_rZ S hr hlk (zb_0) (by unfold f_X2_canTakeOff; first | (rw [if_pos c48_10, if_pos c56_11, if_pos c61_12, if_neg c69_13]; done) | (simp only [if_pos c48_10, if_pos c56_11, if_pos c61_12, if_neg c69_13]; done) | rfl) dX2_canTakeOff_77
              · refine lv_iconst (v := 1) S.1 S.2.1 dX2_canTakeOff_72 (by decide) ?_
                refine lv_goto (tgt := 77) S.1 S.2.1 dX2_canTakeOff_73 (by decide) ?_
                exact ee_rZ S hr hlk (zb_1) (by unfold f_X2_canTakeOff; first | (rw [if_pos c48_10, if_pos c56_11, if_pos c61_12, if_pos c69_13]; done) | (simp only [if_pos c48_10, if_pos c56_11, if_pos c61_12, if_pos c69_13]; done) | rfl) dX2_canTakeOff_77
      · refine lv_icmp_eq (tgt := 36) S.1 S.2.1 dX2_canTakeOff_28 (by decide) (fun c28_14 => ?_) (fun c28_14 => ?_)
        · refine lv_iconst (v := 1) S.1 S.2.1 dX2_canTakeOff_36 (by decide) ?_
          refine lv_goto (tgt := 41) S.1 S.2.1 dX2_canTakeOff_37 (by decide) ?_
          exact j28_8 _ _ (by first | (rw [if_pos c28_14]; done) | (simp only [if_pos c28_14]; done) | rfl) (lv_sub hl [0, 1, 2, 3] rfl)
        · refine lv_iload_n S.1 S.2.1 dX2_canTakeOff_31 rfl (lv_at hl 3 rfl) ?_
          refine lv_iconst (v := 4) S.1 S.2.1 dX2_canTakeOff_32 (by decide) ?_
          refine lv_icmp_ne (tgt := 40) S.1 S.2.1 dX2_canTakeOff_33 (by decide) (fun c33_15 => ?_) (fun c33_15 => ?_)
          · refine lv_iconst (v := 0) S.1 S.2.1 dX2_canTakeOff_40 (by decide) ?_
            exact j28_8 _ _ (by first | (rw [if_neg c28_14, if_neg c33_15]; done) | (simp only [if_neg c28_14, if_neg c33_15]; done) | rfl) (lv_sub hl [0, 1, 2, 3] rfl)
          · refine lv_iconst (v := 1) S.1 S.2.1 dX2_canTakeOff_36 (by decide) ?_
            refine lv_goto (tgt := 41) S.1 S.2.1 dX2_canTakeOff_37 (by decide) ?_
            exact j28_8 _ _ (by first | (rw [if_neg c28_14, if_pos c33_15]; done) | (simp only [if_neg c28_14, if_pos c33_15]; done) | rfl) (lv_sub hl [0, 1, 2, 3] rfl)
    · refine lv_icmp_ne (tgt := 24) S.1 S.2.1 dX2_canTakeOff_17 (by decide) (fun c17_16 => ?_) (fun c17_16 => ?_)
      · refine lv_iconst (v := 1) S.1 S.2.1 dX2_canTakeOff_24 (by decide) ?_
        exact j17_5 _ _ (by first | (rw [if_neg c17_16]; done) | (simp only [if_neg c17_16]; done) | rfl) (lv_sub hl [0, 1, 2] rfl)
      · refine lv_iconst (v := 0) S.1 S.2.1 dX2_canTakeOff_20 (by decide) ?_
        refine lv_goto (tgt := 25) S.1 S.2.1 dX2_canTakeOff_21 (by decide) ?_
        exact j17_5 _ _ (by first | (rw [if_pos c17_16]; done) | (simp only [if_pos c17_16]; done) | rfl) (lv_sub hl [0, 1, 2] rfl)
  · refine lv_if_eq (tgt := 9) S.1 S.2.1 dX2_canTakeOff_1 (by decide) (fun c1_17 => ?_) (fun c1_17 => ?_)
    · refine lv_iconst (v := 1) S.1 S.2.1 dX2_canTakeOff_9 (by decide) ?_
      refine lv_goto (tgt := 14) S.1 S.2.1 dX2_canTakeOff_10 (by decide) ?_
      exact j1_2 _ _ (by first | (rw [if_pos c1_17]; done) | (simp only [if_pos c1_17]; done) | rfl) (lv_sub hl [0, 1] rfl)
    · refine lv_iload_n S.1 S.2.1 dX2_canTakeOff_4 rfl (lv_at hl 1 rfl) ?_
      refine lv_iconst (v := 2) S.1 S.2.1 dX2_canTakeOff_5 (by decide) ?_
      refine lv_icmp_ne (tgt := 13) S.1 S.2.1 dX2_canTakeOff_6 (by decide) (fun c6_18 => ?_) (fun c6_18 => ?_)
      · refine lv_iconst (v := 0) S.1 S.2.1 dX2_canTakeOff_13 (by decide) ?_
        exact j1_2 _ _ (by first | (rw [if_neg c1_17, if_neg c6_18]; done) | (simp only [if_neg c1_17, if_neg c6_18]; done) | rfl) (lv_sub hl [0, 1] rfl)
      · refine lv_iconst (v := 1) S.1 S.2.1 dX2_canTakeOff_9 (by decide) ?_
        refine lv_goto (tgt := 14) S.1 S.2.1 dX2_canTakeOff_10 (by decide) ?_
        exact j1_2 _ _ (by first | (rw [if_neg c1_17, if_pos c6_18]; done) | (simp only [if_neg c1_17, if_pos c6_18]; done) | rfl) (lv_sub hl [0, 1] rfl)

def it16_X2_likeJumps (M : Nat → Nat → Int32) (k : Nat) (p0 : Int32) (p1 : Int32) : Nat → Int32
  | 0 => 0
  | n16 + 1 => (if (M (52 + k) n16) = 0 then (it16_X2_likeJumps M k p0 p1 n16) else (if (M (80 + (12 * k + n16)) 0) = p0 then (if (M (80 + (12 * k + n16)) 1) = p1 then ((it16_X2_likeJumps M k p0 p1 n16) + 1) else (it16_X2_likeJumps M k p0 p1 n16)) else (it16_X2_likeJumps M k p0 p1 n16)))
def f_X2_likeJumps (M : Nat → Nat → Int32) (k : Nat) (p0 : Int32) (p1 : Int32) : Int32 :=
  (it16_X2_likeJumps M k p0 p1 12)
set_option maxHeartbeats 4000000 in
set_option maxRecDepth 100000 in
theorem m_X2_likeJumps {D : va_G} {cA : Nat → ClassId} {B : Nat} (l : Launch) {dom : Nat → Prop} {ad : Nat → Nat} {X : Nat → va_E} {H0 : Heap} (M : Nat → Nat → Int32) (k : Nat) (p0 : Int32) (p1 : Int32) (N : kw D cA B dom ad X M H0) (h_k : k < 12) (d_k : dP dom M k) : MetR D cA B l yX2_likeJumps cX2_likeJumps 8 (some .int) 0 0 [.ref (ad (40 + k)), .int p0, .int p1] H0 (some (.int (f_X2_likeJumps M k p0 p1))) := by
  refine MetR.of (by decide) (Nat.le_of_ble_eq_true rfl) ?_
  intro p e s m args below meth c S hr hlk hh K ls hl
  subst hh
  have hS : va_S (fun q => B ≤ q) s.heap s.heap [] := va_S.rf
  have hl : lv_has ls 8 [(0, .ref (ad (40 + k))), (1, .int p0), (2, .int p1)] := hl
  refine lv_iconst (v := 0) S.1 S.2.1 dX2_likeJumps_0 (by decide) ?_
  refine lv_istore_n (lv' := [(3, .int 0), (0, .ref (ad (40 + k))), (1, .int p0), (2, .int p1)]) S.1 S.2.1 dX2_likeJumps_1 rfl hl (by decide) rfl (fun ls hl => ?_)
  refine lv_aload_n S.1 S.2.1 dX2_likeJumps_2 rfl (lv_at hl 1 rfl) ?_
  refine kr_get S K N (40 + k) (by unfold crole; omega) (d_k.1) (sh_P (by omega)) (C0 := RX2) (T := TX2) (n := 12) rfl iWX2 0 (by decide) k1_170 rfl (v := .ref (ad (52 + k))) rfl dX2_likeJumps_3 ?_
  refine lv_astore (lv' := [(4, .ref (ad (52 + k))), (3, .int 0), (0, .ref (ad (40 + k))), (1, .int p0), (2, .int p1)]) S.1 S.2.1 dX2_likeJumps_6 hl (by decide) rfl (fun ls hl => ?_)
  refine lv_aload S.1 S.2.1 dX2_likeJumps_8 (lv_at hl 0 rfl) ?_
  refine kr_alen S K N (52 + k) (by unfold crole; omega) (d_k.2.1) 3 rfl (sh_Pe (by omega)) (v := 12) rfl dX2_likeJumps_10 ?_
  refine lv_istore (lv' := [(5, .int 12), (4, .ref (ad (52 + k))), (3, .int 0), (0, .ref (ad (40 + k))), (1, .int p0), (2, .int p1)]) S.1 S.2.1 dX2_likeJumps_11 hl (by decide) rfl (fun ls hl => ?_)
  refine lv_iconst (v := 0) S.1 S.2.1 dX2_likeJumps_13 (by decide) ?_
  refine lv_istore (lv' := [(6, .int 0), (5, .int 12), (4, .ref (ad (52 + k))), (3, .int 0), (0, .ref (ad (40 + k))), (1, .int p0), (2, .int p1)]) S.1 S.2.1 dX2_likeJumps_14 hl (by decide) rfl (fun ls hl => ?_)
  refine nl (h := 16) (N := 12) (n := 8) (L := fun i16 : Nat => [(6, .int (nI i16)), (3, .int (it16_X2_likeJumps M k p0 p1 i16)), (5, .int 12), (4, .ref (ad (52 + k))), (0, .ref (ad (40 + k))), (1, .int p0), (2, .int p1)]) (fun ls hl => ?_) (fun i16 hi16 ih16 ls hl => ?_) ls (lv_sub hl [0, 3, 1, 2, 4, 5, 6] rfl)
  · try dsimp only at hl
    refine lv_iload S.1 S.2.1 dX2_likeJumps_16 (lv_at hl 0 rfl) ?_
    refine lv_iload S.1 S.2.1 dX2_likeJumps_18 (lv_at hl 2 rfl) ?_
    refine lv_icmp_ge (tgt := 62) S.1 S.2.1 dX2_likeJumps_20 (by decide) (fun _ => ?_) (fun c9 => absurd (nI_le (Nat.le_refl _) (by first | omega | decide)) c9)
    refine lv_iload_n S.1 S.2.1 dX2_likeJumps_62 rfl (lv_at hl 1 rfl) ?_
    exact ee_rI S hr hlk (rfl) dX2_likeJumps_63
  · try dsimp only at hl
    refine lv_iload S.1 S.2.1 dX2_likeJumps_16 (lv_at hl 0 rfl) ?_
    refine lv_iload S.1 S.2.1 dX2_likeJumps_18 (lv_at hl 2 rfl) ?_
    refine lv_icmp_ge (tgt := 62) S.1 S.2.1 dX2_likeJumps_20 (by decide) (fun c9 => absurd c9 (nI_ge (hi16) (by first | omega | decide))) (fun _ => ?_)
    refine lv_aload S.1 S.2.1 dX2_likeJumps_23 (lv_at hl 3 rfl) ?_
    refine lv_iload S.1 S.2.1 dX2_likeJumps_25 (lv_at hl 0 rfl) ?_
    by_cases cn27_1 : (M (52 + k) i16) = 0
    · refine kr_aald S K N (52 + k) (by unfold crole; omega) (d_k.2.1) 3 rfl (sh_Pe (by omega)) (v := .null) (vp_in_nI (show i16 < 12 by omega) (by decide)) (rf_z (nI_clamp (show i16 < 2 ^ 31 by omega)) (cn27_1)) dX2_likeJumps_27 ?_
      refine lv_astoreN (lv' := [(7, .null), (6, .int (nI i16)), (3, .int (it16_X2_likeJumps M k p0 p1 i16)), (5, .int 12), (4, .ref (ad (52 + k))), (0, .ref (ad (40 + k))), (1, .int p0), (2, .int p1)]) S.1 S.2.1 dX2_likeJumps_28 hl (by decide) rfl (fun ls hl => ?_)
      refine lv_aloadN S.1 S.2.1 dX2_likeJumps_30 (lv_at hl 0 rfl) ?_
      refine lv_ifnullN (tgt := 56) S.1 S.2.1 dX2_likeJumps_32 (by decide) ?_
      refine lv_iinc (v := nI (i16 + 1)) (lv' := [(6, .int (nI (i16 + 1))), (7, .null), (3, .int (it16_X2_likeJumps M k p0 p1 i16)), (5, .int 12), (4, .ref (ad (52 + k))), (0, .ref (ad (40 + k))), (1, .int p0), (2, .int p1)]) S.1 S.2.1 dX2_likeJumps_56 hl (k := 1) rfl (nI_add i16 1) (by decide) rfl (fun ls hl => ?_)
      refine lv_goto (tgt := 16) S.1 S.2.1 dX2_likeJumps_59 (by decide) ?_
      have hstep : (it16_X2_likeJumps M k p0 p1 (i16 + 1)) = (it16_X2_likeJumps M k p0 p1 i16) := by
        show (_ : _) = _
        simp only [it16_X2_likeJumps, if_pos cn27_1]
      refine ih16 ls (by rw [hstep]; exact lv_sub hl [0, 2, 3, 4, 5, 6, 7] rfl)
    · refine kr_aald S K N (52 + k) (by unfold crole; omega) (d_k.2.1) 3 rfl (sh_Pe (by omega)) (v := .ref (ad (80 + (12 * k + i16)))) (vp_in_nI (show i16 < 12 by omega) (by decide)) (rf_s (nI_clamp (show i16 < 2 ^ 31 by omega)) (cn27_1) (by omega)) dX2_likeJumps_27 ?_
      refine lv_astore (lv' := [(7, .ref (ad (80 + (12 * k + i16)))), (6, .int (nI i16)), (3, .int (it16_X2_likeJumps M k p0 p1 i16)), (5, .int 12), (4, .ref (ad (52 + k))), (0, .ref (ad (40 + k))), (1, .int p0), (2, .int p1)]) S.1 S.2.1 dX2_likeJumps_28 hl (by decide) rfl (fun ls hl => ?_)
      refine lv_aload S.1 S.2.1 dX2_likeJumps_30 (lv_at hl 0 rfl) ?_
      refine lv_ifnull S.1 S.2.1 dX2_likeJumps_32 ?_
      refine lv_aload S.1 S.2.1 dX2_likeJumps_35 (lv_at hl 0 rfl) ?_
      refine kr_getN S K N (80 + (12 * k + i16)) (by unfold crole; omega) ((d_k.2.2.2.2 i16 (by omega) cn27_1).1) (sh_L (by omega)) (C0 := RX1) (T := TX1) (n := 8) rfl iWX1 0 (by decide) (by decide) rfl (v := .int (M (80 + (12 * k + i16)) 0)) rfl dX2_likeJumps_37 ?_
      refine lv_iload_n S.1 S.2.1 dX2_likeJumps_40 rfl (lv_at hl 6 rfl) ?_
      refine lv_icmp_ne (tgt := 56) S.1 S.2.1 dX2_likeJumps_41 (by decide) (fun c41_2 => ?_) (fun c41_2 => ?_)
      · refine lv_iinc (v := nI (i16 + 1)) (lv' := [(6, .int (nI (i16 + 1))), (7, .ref (ad (80 + (12 * k + i16)))), (3, .int (it16_X2_likeJumps M k p0 p1 i16)), (5, .int 12), (4, .ref (ad (52 + k))), (0, .ref (ad (40 + k))), (1, .int p0), (2, .int p1)]) S.1 S.2.1 dX2_likeJumps_56 hl (k := 1) rfl (nI_add i16 1) (by decide) rfl (fun ls hl => ?_)
        refine lv_goto (tgt := 16) S.1 S.2.1 dX2_likeJumps_59 (by decide) ?_
        have hstep : (it16_X2_likeJumps M k p0 p1 (i16 + 1)) = (it16_X2_likeJumps M k p0 p1 i16) := by
          show (_ : _) = _
          simp only [it16_X2_likeJumps, if_neg cn27_1, if_neg c41_2]
        refine ih16 ls (by rw [hstep]; exact lv_sub hl [0, 2, 3, 4, 5, 6, 7] rfl)
      · refine lv_aload S.1 S.2.1 dX2_likeJumps_44 (lv_at hl 0 rfl) ?_
        refine kr_getN S K N (80 + (12 * k + i16)) (by unfold crole; omega) ((d_k.2.2.2.2 i16 (by omega) cn27_1).1) (sh_L (by omega)) (C0 := RX1) (T := TX1) (n := 8) rfl iWX1 1 (by decide) (by decide) rfl (v := .int (M (80 + (12 * k + i16)) 1)) rfl dX2_likeJumps_46 ?_
        refine lv_iload_n S.1 S.2.1 dX2_likeJumps_49 rfl (lv_at hl 7 rfl) ?_
        refine lv_icmp_ne (tgt := 56) S.1 S.2.1 dX2_likeJumps_50 (by decide) (fun c50_3 => ?_) (fun c50_3 => ?_)
        · refine lv_iinc (v := nI (i16 + 1)) (lv' := [(6, .int (nI (i16 + 1))), (7, .ref (ad (80 + (12 * k + i16)))), (3, .int (it16_X2_likeJumps M k p0 p1 i16)), (5, .int 12), (4, .ref (ad (52 + k))), (0, .ref (ad (40 + k))), (1, .int p0), (2, .int p1)]) S.1 S.2.1 dX2_likeJumps_56 hl (k := 1) rfl (nI_add i16 1) (by decide) rfl (fun ls hl => ?_)
          refine lv_goto (tgt := 16) S.1 S.2.1 dX2_likeJumps_59 (by decide) ?_
          have hstep : (it16_X2_likeJumps M k p0 p1 (i16 + 1)) = (it16_X2_likeJumps M k p0 p1 i16) := by
            show (_ : _) = _
            simp only [it16_X2_likeJumps, if_neg cn27_1, if_pos c41_2, if_neg c50_3]
          refine ih16 ls (by rw [hstep]; exact lv_sub hl [0, 2, 3, 4, 5, 6, 7] rfl)
        · refine lv_iinc (v := ((it16_X2_likeJumps M k p0 p1 i16) + 1)) (lv' := [(3, .int ((it16_X2_likeJumps M k p0 p1 i16) + 1)), (7, .ref (ad (80 + (12 * k + i16)))), (6, .int (nI i16)), (5, .int 12), (4, .ref (ad (52 + k))), (0, .ref (ad (40 + k))), (1, .int p0), (2, .int p1)]) S.1 S.2.1 dX2_likeJumps_53 hl (k := 2) rfl (rfl) (by decide) rfl (fun ls hl => ?_)
          refine lv_iinc (v := nI (i16 + 1)) (lv' := [(6, .int (nI (i16 + 1))), (3, .int ((it16_X2_likeJumps M k p0 p1 i16) + 1)), (7, .ref (ad (80 + (12 * k + i16)))), (5, .int 12), (4, .ref (ad (52 + k))), (0, .ref (ad (40 + k))), (1, .int p0), (2, .int p1)]) S.1 S.2.1 dX2_likeJumps_56 hl (k := 2) rfl (nI_add i16 1) (by decide) rfl (fun ls hl => ?_)
          refine lv_goto (tgt := 16) S.1 S.2.1 dX2_likeJumps_59 (by decide) ?_
          have hstep : (it16_X2_likeJumps M k p0 p1 (i16 + 1)) = ((it16_X2_likeJumps M k p0 p1 i16) + 1) := by
            show (_ : _) = _
            simp only [it16_X2_likeJumps, if_neg cn27_1, if_pos c41_2, if_pos c50_3]
          refine ih16 ls (by rw [hstep]; exact lv_sub hl [0, 1, 3, 4, 5, 6, 7] rfl)

def it14_X2_elementScoresBy (M : Nat → Nat → Int32) (k : Nat) (d : Nat) : Nat → Int32
  | 0 => 0
  | n14 + 1 => (if (M (52 + k) n14) = 0 then (it14_X2_elementScoresBy M k d n14) else ((it14_X2_elementScoresBy M k d n14) + (f_X1_scoreBy M (12 * k + n14) d)))
def f_X2_elementScoresBy (M : Nat → Nat → Int32) (k : Nat) (d : Nat) : Int32 :=
  (it14_X2_elementScoresBy M k d 12)
set_option maxHeartbeats 4000000 in
set_option maxRecDepth 100000 in
theorem m_X2_elementScoresBy {D : va_G} {cA : Nat → ClassId} {B : Nat} (l : Launch) {dom : Nat → Prop} {ad : Nat → Nat} {X : Nat → va_E} {H0 : Heap} (M : Nat → Nat → Int32) (k : Nat) (d : Nat) (N : kw D cA B dom ad X M H0) (h_k : k < 12) (d_k : dP dom M k) (h_d : d < 3) (d_d : dom (30 + d) ∧ dom (33 + d)) : MetR D cA B l yX2_elementScoresBy cX2_elementScoresBy 7 (some .int) 3 70 [.ref (ad (40 + k)), .ref (ad (30 + d))] H0 (some (.int (f_X2_elementScoresBy M k d))) := by
  refine MetR.of (by decide) (Nat.le_of_ble_eq_true rfl) ?_
  intro p e s m args below meth c S hr hlk hh K ls hl
  subst hh
  have hS : va_S (fun q => B ≤ q) s.heap s.heap [] := va_S.rf
  have hl : lv_has ls 7 [(0, .ref (ad (40 + k))), (1, .ref (ad (30 + d)))] := hl
  refine lv_iconst (v := 0) S.1 S.2.1 dX2_elementScoresBy_0 (by decide) ?_
  refine lv_istore_n (lv' := [(2, .int 0), (0, .ref (ad (40 + k))), (1, .ref (ad (30 + d)))]) S.1 S.2.1 dX2_elementScoresBy_1 rfl hl (by decide) rfl (fun ls hl => ?_)
  refine lv_aload_n S.1 S.2.1 dX2_elementScoresBy_2 rfl (lv_at hl 1 rfl) ?_
  refine kr_get S K N (40 + k) (by unfold crole; omega) (d_k.1) (sh_P (by omega)) (C0 := RX2) (T := TX2) (n := 12) rfl iWX2 0 (by decide) k1_170 rfl (v := .ref (ad (52 + k))) rfl dX2_elementScoresBy_3 ?_
  refine lv_astore_n (lv' := [(3, .ref (ad (52 + k))), (2, .int 0), (0, .ref (ad (40 + k))), (1, .ref (ad (30 + d)))]) S.1 S.2.1 dX2_elementScoresBy_6 rfl hl (by decide) rfl (fun ls hl => ?_)
  refine lv_aload_n S.1 S.2.1 dX2_elementScoresBy_7 rfl (lv_at hl 0 rfl) ?_
  refine kr_alen S K N (52 + k) (by unfold crole; omega) (d_k.2.1) 3 rfl (sh_Pe (by omega)) (v := 12) rfl dX2_elementScoresBy_8 ?_
  refine lv_istore (lv' := [(4, .int 12), (3, .ref (ad (52 + k))), (2, .int 0), (0, .ref (ad (40 + k))), (1, .ref (ad (30 + d)))]) S.1 S.2.1 dX2_elementScoresBy_9 hl (by decide) rfl (fun ls hl => ?_)
  refine lv_iconst (v := 0) S.1 S.2.1 dX2_elementScoresBy_11 (by decide) ?_
  refine lv_istore (lv' := [(5, .int 0), (4, .int 12), (3, .ref (ad (52 + k))), (2, .int 0), (0, .ref (ad (40 + k))), (1, .ref (ad (30 + d)))]) S.1 S.2.1 dX2_elementScoresBy_12 hl (by decide) rfl (fun ls hl => ?_)
  refine nl (h := 14) (N := 12) (n := 7) (L := fun i14 : Nat => [(5, .int (nI i14)), (2, .int (it14_X2_elementScoresBy M k d i14)), (4, .int 12), (3, .ref (ad (52 + k))), (0, .ref (ad (40 + k))), (1, .ref (ad (30 + d)))]) (fun ls hl => ?_) (fun i14 hi14 ih14 ls hl => ?_) ls (lv_sub hl [0, 3, 1, 2, 4, 5] rfl)
  · try dsimp only at hl
    refine lv_iload S.1 S.2.1 dX2_elementScoresBy_14 (lv_at hl 0 rfl) ?_
    refine lv_iload S.1 S.2.1 dX2_elementScoresBy_16 (lv_at hl 2 rfl) ?_
    refine lv_icmp_ge (tgt := 47) S.1 S.2.1 dX2_elementScoresBy_18 (by decide) (fun _ => ?_) (fun c9 => absurd (nI_le (Nat.le_refl _) (by first | omega | decide)) c9)
    refine lv_iload_n S.1 S.2.1 dX2_elementScoresBy_47 rfl (lv_at hl 1 rfl) ?_
    exact ee_rI S hr hlk (rfl) dX2_elementScoresBy_48
  · try dsimp only at hl
    refine lv_iload S.1 S.2.1 dX2_elementScoresBy_14 (lv_at hl 0 rfl) ?_
    refine lv_iload S.1 S.2.1 dX2_elementScoresBy_16 (lv_at hl 2 rfl) ?_
    refine lv_icmp_ge (tgt := 47) S.1 S.2.1 dX2_elementScoresBy_18 (by decide) (fun c9 => absurd c9 (nI_ge (hi14) (by first | omega | decide))) (fun _ => ?_)
    refine lv_aload_n S.1 S.2.1 dX2_elementScoresBy_21 rfl (lv_at hl 3 rfl) ?_
    refine lv_iload S.1 S.2.1 dX2_elementScoresBy_22 (lv_at hl 0 rfl) ?_
    by_cases cn24_1 : (M (52 + k) i14) = 0
    · refine kr_aald S K N (52 + k) (by unfold crole; omega) (d_k.2.1) 3 rfl (sh_Pe (by omega)) (v := .null) (vp_in_nI (show i14 < 12 by omega) (by decide)) (rf_z (nI_clamp (show i14 < 2 ^ 31 by omega)) (cn24_1)) dX2_elementScoresBy_24 ?_
      refine lv_astoreN (lv' := [(6, .null), (5, .int (nI i14)), (2, .int (it14_X2_elementScoresBy M k d i14)), (4, .int 12), (3, .ref (ad (52 + k))), (0, .ref (ad (40 + k))), (1, .ref (ad (30 + d)))]) S.1 S.2.1 dX2_elementScoresBy_25 hl (by decide) rfl (fun ls hl => ?_)
      refine lv_aloadN S.1 S.2.1 dX2_elementScoresBy_27 (lv_at hl 0 rfl) ?_
      refine lv_ifnullN (tgt := 41) S.1 S.2.1 dX2_elementScoresBy_29 (by decide) ?_
      refine lv_iinc (v := nI (i14 + 1)) (lv' := [(5, .int (nI (i14 + 1))), (6, .null), (2, .int (it14_X2_elementScoresBy M k d i14)), (4, .int 12), (3, .ref (ad (52 + k))), (0, .ref (ad (40 + k))), (1, .ref (ad (30 + d)))]) S.1 S.2.1 dX2_elementScoresBy_41 hl (k := 1) rfl (nI_add i14 1) (by decide) rfl (fun ls hl => ?_)
      refine lv_goto (tgt := 14) S.1 S.2.1 dX2_elementScoresBy_44 (by decide) ?_
      have hstep : (it14_X2_elementScoresBy M k d (i14 + 1)) = (it14_X2_elementScoresBy M k d i14) := by
        show (_ : _) = _
        simp only [it14_X2_elementScoresBy, if_pos cn24_1]
      refine ih14 ls (by rw [hstep]; exact lv_sub hl [0, 2, 3, 4, 5, 6] rfl)
    · refine kr_aald S K N (52 + k) (by unfold crole; omega) (d_k.2.1) 3 rfl (sh_Pe (by omega)) (v := .ref (ad (80 + (12 * k + i14)))) (vp_in_nI (show i14 < 12 by omega) (by decide)) (rf_s (nI_clamp (show i14 < 2 ^ 31 by omega)) (cn24_1) (by omega)) dX2_elementScoresBy_24 ?_
      refine lv_astore (lv' := [(6, .ref (ad (80 + (12 * k + i14)))), (5, .int (nI i14)), (2, .int (it14_X2_elementScoresBy M k d i14)), (4, .int 12), (3, .ref (ad (52 + k))), (0, .ref (ad (40 + k))), (1, .ref (ad (30 + d)))]) S.1 S.2.1 dX2_elementScoresBy_25 hl (by decide) rfl (fun ls hl => ?_)
      refine lv_aload S.1 S.2.1 dX2_elementScoresBy_27 (lv_at hl 0 rfl) ?_
      refine lv_ifnull S.1 S.2.1 dX2_elementScoresBy_29 ?_
      refine lv_iload_n S.1 S.2.1 dX2_elementScoresBy_32 rfl (lv_at hl 2 rfl) ?_
      refine lv_aload S.1 S.2.1 dX2_elementScoresBy_33 (lv_at hl 0 rfl) ?_
      refine lv_aload_n S.1 S.2.1 dX2_elementScoresBy_35 rfl (lv_at hl 6 rfl) ?_
      refine kc_rV S K N hS (80 + (12 * k + i14)) (by unfold crole; omega) ((d_k.2.2.2.2 i14 (by omega) cn24_1).1) (sh_L (by omega)) (T := TX1) (n := 8) rfl (As := [.ref (ad (30 + d))]) (m_X1_scoreBy l M (12 * k + i14) d N (by omega) (d_k.2.2.2.2 i14 (by omega) cn24_1) (by omega) d_d) k2_122 k2_105 k2_106 k1_11 k2_107 (num := 1) (by decide +kernel) rfl ⟨Nat.le_of_ble_eq_true rfl, Nat.le_of_ble_eq_true rfl⟩ hl.1 rfl (Nat.le_of_ble_eq_true rfl) dX2_elementScoresBy_36 ⟨Nat.le_of_ble_eq_true rfl, Nat.le_of_ble_eq_true rfl⟩ ?_
      refine lv_iadd S.1 S.2.1 dX2_elementScoresBy_39 ?_
      refine lv_istore_n (lv' := [(2, .int ((it14_X2_elementScoresBy M k d i14) + (f_X1_scoreBy M (12 * k + i14) d))), (6, .ref (ad (80 + (12 * k + i14)))), (5, .int (nI i14)), (4, .int 12), (3, .ref (ad (52 + k))), (0, .ref (ad (40 + k))), (1, .ref (ad (30 + d)))]) S.1 S.2.1 dX2_elementScoresBy_40 rfl hl (by decide) rfl (fun ls hl => ?_)
      refine lv_iinc (v := nI (i14 + 1)) (lv' := [(5, .int (nI (i14 + 1))), (2, .int ((it14_X2_elementScoresBy M k d i14) + (f_X1_scoreBy M (12 * k + i14) d))), (6, .ref (ad (80 + (12 * k + i14)))), (4, .int 12), (3, .ref (ad (52 + k))), (0, .ref (ad (40 + k))), (1, .ref (ad (30 + d)))]) S.1 S.2.1 dX2_elementScoresBy_41 hl (k := 2) rfl (nI_add i14 1) (by decide) rfl (fun ls hl => ?_)
      refine lv_goto (tgt := 14) S.1 S.2.1 dX2_elementScoresBy_44 (by decide) ?_
      have hstep : (it14_X2_elementScoresBy M k d (i14 + 1)) = ((it14_X2_elementScoresBy M k d i14) + (f_X1_scoreBy M (12 * k + i14) d)) := by
        show (_ : _) = _
        simp only [it14_X2_elementScoresBy, if_neg cn24_1]
      refine ih14 ls (by rw [hstep]; exact lv_sub hl [0, 1, 3, 4, 5, 6] rfl)

def f_X2_componentScore (M : Nat → Nat → Int32) (k : Nat) (v : Nat) : Int32 :=
  (2 * (f_X4_nearest (FP.dmul 4627730092099895296 (f_X3_trimmedMean M v))))
set_option maxHeartbeats 4000000 in
set_option maxRecDepth 100000 in
theorem m_X2_componentScore {D : va_G} {cA : Nat → ClassId} {B : Nat} (l : Launch) {dom : Nat → Prop} {ad : Nat → Nat} {X : Nat → va_E} {H0 : Heap} (M : Nat → Nat → Int32) (k : Nat) (v : Nat) (N : kw D cA B dom ad X M H0) (h_k : k < 12) (d_k : dP dom M k) (h_v : v < 324) (d_v : dV dom v) : MetR D cA B l yX2_componentScore cX2_componentScore 2 (some .int) 1 25 [.ref (ad (40 + k)), .ref (ad (300 + 3 * v))] H0 (some (.int (f_X2_componentScore M k v))) := by
  refine MetR.of (by decide) (Nat.le_of_ble_eq_true rfl) ?_
  intro p e s m args below meth c S hr hlk hh K ls hl
  subst hh
  have hS : va_S (fun q => B ≤ q) s.heap s.heap [] := va_S.rf
  have hl : lv_has ls 2 [(0, .ref (ad (40 + k))), (1, .ref (ad (300 + 3 * v)))] := hl
  refine lv_iconst (v := 2) S.1 S.2.1 dX2_componentScore_0 (by decide) ?_
  refine lv_ldc2d S.1 S.2.1 S.2.2.2.1 (S.2.2.2.2 _ k2_131) dX2_componentScore_1 ?_
  refine lv_aload_n S.1 S.2.1 dX2_componentScore_4 rfl (lv_at hl 1 rfl) ?_
  refine kc_rV S K N hS (300 + 3 * v) (by unfold crole; omega) (d_v.1) (sh_V) (T := TX3) (n := 6) rfl (As := []) (m_X3_trimmedMean l M v N (by omega) d_v) k2_132 k2_110 k2_111 k1_8 k2_112 (num := 0) (by decide +kernel) rfl ⟨Nat.le_of_ble_eq_true rfl, Nat.le_of_ble_eq_true rfl⟩ hl.1 rfl (Nat.le_of_ble_eq_true rfl) dX2_componentScore_5 ⟨Nat.le_of_ble_eq_true rfl, Nat.le_of_ble_eq_true rfl⟩ ?_
  refine lv_dmul S.1 S.2.1 dX2_componentScore_8 (vn_of (nanV _ _)) ?_
  refine nc_rSN S K hS (As := [.double (FP.dmul 4627730092099895296 (f_X3_trimmedMean M v))]) (m_X4_nearest l (FP.dmul 4627730092099895296 (f_X3_trimmedMean M v)) (nanV _ _)) (by decide) k2_99 k1_1 k2_100 (num := 1) (by decide +kernel) rfl ⟨Nat.le_of_ble_eq_true rfl, Nat.le_of_ble_eq_true rfl⟩ hl.1 rfl (Nat.le_of_ble_eq_true rfl) dX2_componentScore_9 ⟨Nat.le_of_ble_eq_true rfl, Nat.le_of_ble_eq_true rfl⟩ ?_
  refine lv_imul S.1 S.2.1 dX2_componentScore_12 ?_
  exact ee_rI S hr hlk (rfl) dX2_componentScore_13

def it13_X2_componentScores (M : Nat → Nat → Int32) (k : Nat) : Nat → Int32
  | 0 => 0
  | n13 + 1 => (if (M (64 + k) n13) = 0 then (it13_X2_componentScores M k n13) else ((it13_X2_componentScores M k n13) + (f_X2_componentScore M k (3 * k + n13))))
def f_X2_componentScores (M : Nat → Nat → Int32) (k : Nat) : Int32 :=
  (it13_X2_componentScores M k 3)
set_option maxHeartbeats 4000000 in
set_option maxRecDepth 100000 in
theorem m_X2_componentScores {D : va_G} {cA : Nat → ClassId} {B : Nat} (l : Launch) {dom : Nat → Prop} {ad : Nat → Nat} {X : Nat → va_E} {H0 : Heap} (M : Nat → Nat → Int32) (k : Nat) (N : kw D cA B dom ad X M H0) (h_k : k < 12) (d_k : dP dom M k) : MetR D cA B l yX2_componentScores cX2_componentScores 6 (some .int) 2 46 [.ref (ad (40 + k))] H0 (some (.int (f_X2_componentScores M k))) := by
  refine MetR.of (by decide) (Nat.le_of_ble_eq_true rfl) ?_
  intro p e s m args below meth c S hr hlk hh K ls hl
  subst hh
  have hS : va_S (fun q => B ≤ q) s.heap s.heap [] := va_S.rf
  have hl : lv_has ls 6 [(0, .ref (ad (40 + k)))] := hl
  refine lv_iconst (v := 0) S.1 S.2.1 dX2_componentScores_0 (by decide) ?_
  refine lv_istore_n (lv' := [(1, .int 0), (0, .ref (ad (40 + k)))]) S.1 S.2.1 dX2_componentScores_1 rfl hl (by decide) rfl (fun ls hl => ?_)
  refine lv_aload_n S.1 S.2.1 dX2_componentScores_2 rfl (lv_at hl 1 rfl) ?_
  refine kr_get S K N (40 + k) (by unfold crole; omega) (d_k.1) (sh_P (by omega)) (C0 := RX2) (T := TX2) (n := 12) rfl iWX2 1 (by decide) k1_171 rfl (v := .ref (ad (64 + k))) rfl dX2_componentScores_3 ?_
  refine lv_astore_n (lv' := [(2, .ref (ad (64 + k))), (1, .int 0), (0, .ref (ad (40 + k)))]) S.1 S.2.1 dX2_componentScores_6 rfl hl (by decide) rfl (fun ls hl => ?_)
  refine lv_aload_n S.1 S.2.1 dX2_componentScores_7 rfl (lv_at hl 0 rfl) ?_
  refine kr_alen S K N (64 + k) (by unfold crole; omega) (d_k.2.2.1) 4 rfl (sh_Pc (by omega)) (v := 3) rfl dX2_componentScores_8 ?_
  refine lv_istore_n (lv' := [(3, .int 3), (2, .ref (ad (64 + k))), (1, .int 0), (0, .ref (ad (40 + k)))]) S.1 S.2.1 dX2_componentScores_9 rfl hl (by decide) rfl (fun ls hl => ?_)
  refine lv_iconst (v := 0) S.1 S.2.1 dX2_componentScores_10 (by decide) ?_
  refine lv_istore (lv' := [(4, .int 0), (3, .int 3), (2, .ref (ad (64 + k))), (1, .int 0), (0, .ref (ad (40 + k)))]) S.1 S.2.1 dX2_componentScores_11 hl (by decide) rfl (fun ls hl => ?_)
  refine nl (h := 13) (N := 3) (n := 6) (L := fun i13 : Nat => [(4, .int (nI i13)), (1, .int (it13_X2_componentScores M k i13)), (3, .int 3), (2, .ref (ad (64 + k))), (0, .ref (ad (40 + k)))]) (fun ls hl => ?_) (fun i13 hi13 ih13 ls hl => ?_) ls (lv_sub hl [0, 3, 1, 2, 4] rfl)
  · try dsimp only at hl
    refine lv_iload S.1 S.2.1 dX2_componentScores_13 (lv_at hl 0 rfl) ?_
    refine lv_iload_n S.1 S.2.1 dX2_componentScores_15 rfl (lv_at hl 2 rfl) ?_
    refine lv_icmp_ge (tgt := 45) S.1 S.2.1 dX2_componentScores_16 (by decide) (fun _ => ?_) (fun c9 => absurd (nI_le (Nat.le_refl _) (by first | omega | decide)) c9)
    refine lv_iload_n S.1 S.2.1 dX2_componentScores_45 rfl (lv_at hl 1 rfl) ?_
    exact ee_rI S hr hlk (rfl) dX2_componentScores_46
  · try dsimp only at hl
    refine lv_iload S.1 S.2.1 dX2_componentScores_13 (lv_at hl 0 rfl) ?_
    refine lv_iload_n S.1 S.2.1 dX2_componentScores_15 rfl (lv_at hl 2 rfl) ?_
    refine lv_icmp_ge (tgt := 45) S.1 S.2.1 dX2_componentScores_16 (by decide) (fun c9 => absurd c9 (nI_ge (hi13) (by first | omega | decide))) (fun _ => ?_)
    refine lv_aload_n S.1 S.2.1 dX2_componentScores_19 rfl (lv_at hl 3 rfl) ?_
    refine lv_iload S.1 S.2.1 dX2_componentScores_20 (lv_at hl 0 rfl) ?_
    by_cases cn22_1 : (M (64 + k) i13) = 0
    · refine kr_aald S K N (64 + k) (by unfold crole; omega) (d_k.2.2.1) 4 rfl (sh_Pc (by omega)) (v := .null) (vp_in_nI (show i13 < 3 by omega) (by decide)) (rf3_z (nI_clamp (show i13 < 2 ^ 31 by omega)) (cn22_1)) dX2_componentScores_22 ?_
      refine lv_astoreN (lv' := [(5, .null), (4, .int (nI i13)), (1, .int (it13_X2_componentScores M k i13)), (3, .int 3), (2, .ref (ad (64 + k))), (0, .ref (ad (40 + k)))]) S.1 S.2.1 dX2_componentScores_23 hl (by decide) rfl (fun ls hl => ?_)
      refine lv_aloadN S.1 S.2.1 dX2_componentScores_25 (lv_at hl 0 rfl) ?_
      refine lv_ifnullN (tgt := 39) S.1 S.2.1 dX2_componentScores_27 (by decide) ?_
      refine lv_iinc (v := nI (i13 + 1)) (lv' := [(4, .int (nI (i13 + 1))), (5, .null), (1, .int (it13_X2_componentScores M k i13)), (3, .int 3), (2, .ref (ad (64 + k))), (0, .ref (ad (40 + k)))]) S.1 S.2.1 dX2_componentScores_39 hl (k := 1) rfl (nI_add i13 1) (by decide) rfl (fun ls hl => ?_)
      refine lv_goto (tgt := 13) S.1 S.2.1 dX2_componentScores_42 (by decide) ?_
      have hstep : (it13_X2_componentScores M k (i13 + 1)) = (it13_X2_componentScores M k i13) := by
        show (_ : _) = _
        simp only [it13_X2_componentScores, if_pos cn22_1]
      refine ih13 ls (by rw [hstep]; exact lv_sub hl [0, 2, 3, 4, 5] rfl)
    · refine kr_aald S K N (64 + k) (by unfold crole; omega) (d_k.2.2.1) 4 rfl (sh_Pc (by omega)) (v := .ref (ad (300 + 3 * (3 * k + i13)))) (vp_in_nI (show i13 < 3 by omega) (by decide)) (rf3_s (nI_clamp (show i13 < 2 ^ 31 by omega)) (cn22_1) (by omega)) dX2_componentScores_22 ?_
      refine lv_astore (lv' := [(5, .ref (ad (300 + 3 * (3 * k + i13)))), (4, .int (nI i13)), (1, .int (it13_X2_componentScores M k i13)), (3, .int 3), (2, .ref (ad (64 + k))), (0, .ref (ad (40 + k)))]) S.1 S.2.1 dX2_componentScores_23 hl (by decide) rfl (fun ls hl => ?_)
      refine lv_aload S.1 S.2.1 dX2_componentScores_25 (lv_at hl 0 rfl) ?_
      refine lv_ifnull S.1 S.2.1 dX2_componentScores_27 ?_
      refine lv_iload_n S.1 S.2.1 dX2_componentScores_30 rfl (lv_at hl 2 rfl) ?_
      refine lv_aload_n S.1 S.2.1 dX2_componentScores_31 rfl (lv_at hl 5 rfl) ?_
      refine lv_aload S.1 S.2.1 dX2_componentScores_32 (lv_at hl 0 rfl) ?_
      refine kc_rV S K N hS (40 + k) (by unfold crole; omega) (d_k.1) (sh_P (by omega)) (T := TX2) (n := 12) rfl (As := [.ref (ad (300 + 3 * (3 * k + i13)))]) (m_X2_componentScore l M k (3 * k + i13) N (by omega) d_k (by omega) (d_k.2.2.2.1 i13 (by omega) cn22_1)) k2_127 k2_129 kS_5 k1_7 k2_130 (num := 1) (by decide +kernel) rfl ⟨Nat.le_of_ble_eq_true rfl, Nat.le_of_ble_eq_true rfl⟩ hl.1 rfl (Nat.le_of_ble_eq_true rfl) dX2_componentScores_34 ⟨Nat.le_of_ble_eq_true rfl, Nat.le_of_ble_eq_true rfl⟩ ?_
      refine lv_iadd S.1 S.2.1 dX2_componentScores_37 ?_
      refine lv_istore_n (lv' := [(1, .int ((it13_X2_componentScores M k i13) + (f_X2_componentScore M k (3 * k + i13)))), (5, .ref (ad (300 + 3 * (3 * k + i13)))), (4, .int (nI i13)), (3, .int 3), (2, .ref (ad (64 + k))), (0, .ref (ad (40 + k)))]) S.1 S.2.1 dX2_componentScores_38 rfl hl (by decide) rfl (fun ls hl => ?_)
      refine lv_iinc (v := nI (i13 + 1)) (lv' := [(4, .int (nI (i13 + 1))), (1, .int ((it13_X2_componentScores M k i13) + (f_X2_componentScore M k (3 * k + i13)))), (5, .ref (ad (300 + 3 * (3 * k + i13)))), (3, .int 3), (2, .ref (ad (64 + k))), (0, .ref (ad (40 + k)))]) S.1 S.2.1 dX2_componentScores_39 hl (k := 2) rfl (nI_add i13 1) (by decide) rfl (fun ls hl => ?_)
      refine lv_goto (tgt := 13) S.1 S.2.1 dX2_componentScores_42 (by decide) ?_
      have hstep : (it13_X2_componentScores M k (i13 + 1)) = ((it13_X2_componentScores M k i13) + (f_X2_componentScore M k (3 * k + i13))) := by
        show (_ : _) = _
        simp only [it13_X2_componentScores, if_neg cn22_1]
      refine ih13 ls (by rw [hstep]; exact lv_sub hl [0, 1, 3, 4, 5] rfl)

def f_X2_fine (M : Nat → Nat → Int32) (k : Nat) : Int32 :=
  ((100 * (M (40 + k) 10)) + (100 * ((if 0 < ((M (40 + k) 10) - 2) then ((M (40 + k) 10) - 2) else 0) : Int32)))
set_option maxHeartbeats 4000000 in
set_option maxRecDepth 100000 in
theorem m_X2_fine {D : va_G} {cA : Nat → ClassId} {B : Nat} (l : Launch) {dom : Nat → Prop} {ad : Nat → Nat} {X : Nat → va_E} {H0 : Heap} (M : Nat → Nat → Int32) (k : Nat) (N : kw D cA B dom ad X M H0) (h_k : k < 12) (d_k : dP dom M k) : MetR D cA B l yX2_fine cX2_fine 1 (some .int) 1 21 [.ref (ad (40 + k))] H0 (some (.int (f_X2_fine M k))) := by
  refine MetR.of (by decide) (Nat.le_of_ble_eq_true rfl) ?_
  intro p e s m args below meth c S hr hlk hh K ls hl
  subst hh
  have hS : va_S (fun q => B ≤ q) s.heap s.heap [] := va_S.rf
  have hl : lv_has ls 1 [(0, .ref (ad (40 + k)))] := hl
  refine lv_bipush (v := 100) S.1 S.2.1 dX2_fine_0 (by decide) ?_
  refine lv_aload_n S.1 S.2.1 dX2_fine_2 rfl (lv_at hl 0 rfl) ?_
  refine kr_get S K N (40 + k) (by unfold crole; omega) (d_k.1) (sh_P (by omega)) (C0 := RX2) (T := TX2) (n := 12) rfl iWX2 10 (by decide) k1_184 rfl (v := .int (M (40 + k) 10)) rfl dX2_fine_3 ?_
  refine lv_imul S.1 S.2.1 dX2_fine_6 ?_
  refine lv_bipush (v := 100) S.1 S.2.1 dX2_fine_7 (by decide) ?_
  refine lv_iconst (v := 0) S.1 S.2.1 dX2_fine_9 (by decide) ?_
  refine lv_aload_n S.1 S.2.1 dX2_fine_10 rfl (lv_at hl 0 rfl) ?_
  refine kr_get S K N (40 + k) (by unfold crole; omega) (d_k.1) (sh_P (by omega)) (C0 := RX2) (T := TX2) (n := 12) rfl iWX2 10 (by decide) k1_184 rfl (v := .int (M (40 + k) 10)) rfl dX2_fine_11 ?_
  refine lv_iconst (v := 2) S.1 S.2.1 dX2_fine_14 (by decide) ?_
  refine lv_isub S.1 S.2.1 dX2_fine_15 ?_
  refine va_mmax S.1 S.2.1 (S.2.2.1.trans hl.1.symm) S.2.2.2.1 (S.2.2.2.2 _ k2_138) (S.2.2.2.2 _ k2_46) (S.2.2.2.2 _ k1_12) (S.2.2.2.2 _ k2_47) (Nat.le_of_ble_eq_true rfl) (Nat.le_of_ble_eq_true rfl) (Nat.le_of_ble_eq_true rfl) (Nat.le_of_ble_eq_true rfl) dX2_fine_16 ?_
  refine lv_imul S.1 S.2.1 dX2_fine_19 ?_
  refine lv_iadd S.1 S.2.1 dX2_fine_20 ?_
  exact ee_rI S hr hlk (rfl) dX2_fine_21

def f_X2_totalOf (M : Nat → Nat → Int32) (k : Nat) (p0 : Int32) : Int32 :=
  ((if 0 < ((p0 + (f_X2_componentScores M k)) - (f_X2_fine M k)) then ((p0 + (f_X2_componentScores M k)) - (f_X2_fine M k)) else 0) : Int32)
set_option maxHeartbeats 4000000 in
set_option maxRecDepth 100000 in
theorem m_X2_totalOf {D : va_G} {cA : Nat → ClassId} {B : Nat} (l : Launch) {dom : Nat → Prop} {ad : Nat → Nat} {X : Nat → va_E} {H0 : Heap} (M : Nat → Nat → Int32) (k : Nat) (p0 : Int32) (N : kw D cA B dom ad X M H0) (h_k : k < 12) (d_k : dP dom M k) : MetR D cA B l yX2_totalOf cX2_totalOf 2 (some .int) 3 71 [.ref (ad (40 + k)), .int p0] H0 (some (.int (f_X2_totalOf M k p0))) := by
  refine MetR.of (by decide) (Nat.le_of_ble_eq_true rfl) ?_
  intro p e s m args below meth c S hr hlk hh K ls hl
  subst hh
  have hS : va_S (fun q => B ≤ q) s.heap s.heap [] := va_S.rf
  have hl : lv_has ls 2 [(0, .ref (ad (40 + k))), (1, .int p0)] := hl
  refine lv_iconst (v := 0) S.1 S.2.1 dX2_totalOf_0 (by decide) ?_
  refine lv_iload_n S.1 S.2.1 dX2_totalOf_1 rfl (lv_at hl 1 rfl) ?_
  refine lv_aload_n S.1 S.2.1 dX2_totalOf_2 rfl (lv_at hl 0 rfl) ?_
  refine kc_rV S K N hS (40 + k) (by unfold crole; omega) (d_k.1) (sh_P (by omega)) (T := TX2) (n := 12) rfl (As := []) (m_X2_componentScores l M k N (by omega) d_k) k2_143 k2_124 k2_125 k1_7 k2_126 (num := 0) (by decide +kernel) rfl ⟨Nat.le_of_ble_eq_true rfl, Nat.le_of_ble_eq_true rfl⟩ hl.1 rfl (Nat.le_of_ble_eq_true rfl) dX2_totalOf_3 ⟨Nat.le_of_ble_eq_true rfl, Nat.le_of_ble_eq_true rfl⟩ ?_
  refine lv_iadd S.1 S.2.1 dX2_totalOf_6 ?_
  refine lv_aload_n S.1 S.2.1 dX2_totalOf_7 rfl (lv_at hl 0 rfl) ?_
  refine kc_rV S K N hS (40 + k) (by unfold crole; omega) (d_k.1) (sh_P (by omega)) (T := TX2) (n := 12) rfl (As := []) (m_X2_fine l M k N (by omega) d_k) k2_144 k2_135 k2_136 k1_7 k2_137 (num := 0) (by decide +kernel) rfl ⟨Nat.le_of_ble_eq_true rfl, Nat.le_of_ble_eq_true rfl⟩ hl.1 rfl (Nat.le_of_ble_eq_true rfl) dX2_totalOf_8 ⟨Nat.le_of_ble_eq_true rfl, Nat.le_of_ble_eq_true rfl⟩ ?_
  refine lv_isub S.1 S.2.1 dX2_totalOf_11 ?_
  refine va_mmax S.1 S.2.1 (S.2.2.1.trans hl.1.symm) S.2.2.2.1 (S.2.2.2.2 _ k2_138) (S.2.2.2.2 _ k2_46) (S.2.2.2.2 _ k1_12) (S.2.2.2.2 _ k2_47) (Nat.le_of_ble_eq_true rfl) (Nat.le_of_ble_eq_true rfl) (Nat.le_of_ble_eq_true rfl) (Nat.le_of_ble_eq_true rfl) dX2_totalOf_12 ?_
  exact ee_rI S hr hlk (rfl) dX2_totalOf_15

def f_X2_skateTurn (M : Nat → Nat → Int32) (k : Nat) (p0 : Int32) : Int32 :=
  if p0 = 2 then (((4 * (1 - (M (40 + k) 4))) + (2 * (M (40 + k) 5))) + (1 - (M (40 + k) 6)))
  else if p0 = 3 then (((4 * (1 - (M (40 + k) 4))) + (2 * (1 - (M (40 + k) 5)))) + (1 - (M (40 + k) 6)))
  else if p0 = 5 then (((4 * (1 - (M (40 + k) 4))) + (2 * (M (40 + k) 5))) + (M (40 + k) 6))
  else if p0 = 0 then (((4 * (M (40 + k) 4)) + (2 * (1 - (M (40 + k) 5)))) + (1 - (M (40 + k) 6)))
  else if p0 = 4 then (((4 * (M (40 + k) 4)) + (2 * (1 - (M (40 + k) 5)))) + (M (40 + k) 6))
  else if p0 = 1 then (((4 * (M (40 + k) 4)) + (2 * (M (40 + k) 5))) + (1 - (M (40 + k) 6)))
  else (((4 * (M (40 + k) 4)) + (2 * (M (40 + k) 5))) + (M (40 + k) 6))
def g_X2_skateTurn (M : Nat → Nat → Int32) (k : Nat) (p0 : Int32) : Nat → Nat → Int32 :=
  if p0 = 2 then (up2 (up2 (up2 M (40 + k) 4 (1 - (M (40 + k) 4))) (40 + k) 6 (1 - (M (40 + k) 6))) (40 + k) 7 ((M (40 + k) 7) + 2))
  else if p0 = 3 then (up2 (up2 (up2 (up2 M (40 + k) 4 (1 - (M (40 + k) 4))) (40 + k) 5 (1 - (M (40 + k) 5))) (40 + k) 6 (1 - (M (40 + k) 6))) (40 + k) 7 ((M (40 + k) 7) + 2))
  else if p0 = 5 then (up2 (up2 M (40 + k) 4 (1 - (M (40 + k) 4))) (40 + k) 7 ((M (40 + k) 7) + 2))
  else if p0 = 0 then (up2 (up2 (up2 M (40 + k) 5 (1 - (M (40 + k) 5))) (40 + k) 6 (1 - (M (40 + k) 6))) (40 + k) 7 ((M (40 + k) 7) + 2))
  else if p0 = 4 then (up2 (up2 M (40 + k) 5 (1 - (M (40 + k) 5))) (40 + k) 7 ((M (40 + k) 7) + 2))
  else if p0 = 1 then (up2 (up2 M (40 + k) 6 (1 - (M (40 + k) 6))) (40 + k) 7 ((M (40 + k) 7) + 2))
  else (up2 M (40 + k) 7 ((M (40 + k) 7) + 2))
set_option maxHeartbeats 4000000 in
set_option maxRecDepth 100000 in
theorem m_X2_skateTurn {D : va_G} {cA : Nat → ClassId} {B : Nat} (l : Launch) {dom : Nat → Prop} {ad : Nat → Nat} {X : Nat → va_E} {H0 : Heap} (M : Nat → Nat → Int32) (k : Nat) (p0 : Int32) (N : kw D cA B dom ad X M H0) (h_k : k < 12) (d_k : dP dom M k) : MetW D cA B l yX2_skateTurn cX2_skateTurn 2 (some .int) 0 0 0 0 [.ref (ad (40 + k)), .int p0] H0 (fun o h => o = some (.int (f_X2_skateTurn M k p0)) ∧ kw D cA B dom ad X (g_X2_skateTurn M k p0) h) := by
  refine MetW.of (by decide) (Nat.le_of_ble_eq_true rfl) ?_
  intro p e s m args below meth c S hr hlk hin hh K ls hl
  subst hh
  have hS : va_S (fun q => B ≤ q) s.heap s.heap [] := va_S.rf
  have hl : lv_has ls 2 [(0, .ref (ad (40 + k))), (1, .int p0)] := hl
  refine lv_iload_n S.1 S.2.1 dX2_skateTurn_0 rfl (lv_at hl 1 rfl) ?_
  refine lv_iconst (v := 2) S.1 S.2.1 dX2_skateTurn_1 (by decide) ?_
  refine lv_icmp_eq (tgt := 15) S.1 S.2.1 dX2_skateTurn_2 (by decide) (fun c2_1 => ?_) (fun c2_1 => ?_)
  · refine lv_aload_n S.1 S.2.1 dX2_skateTurn_15 rfl (lv_at hl 0 rfl) ?_
    refine lv_iconst (v := 1) S.1 S.2.1 dX2_skateTurn_16 (by decide) ?_
    refine lv_aload_n S.1 S.2.1 dX2_skateTurn_17 rfl (lv_at hl 0 rfl) ?_
    refine kr_get S K N (40 + k) (by unfold crole; omega) (d_k.1) (sh_P (by omega)) (C0 := RX2) (T := TX2) (n := 12) rfl iWX2 4 (by decide) k1_176 rfl (v := .int (M (40 + k) 4)) rfl dX2_skateTurn_18 ?_
    refine lv_isub S.1 S.2.1 dX2_skateTurn_21 ?_
    refine kr_put S K N hS (40 + k) (by unfold crole; omega) (d_k.1) (sh_P (by omega)) (C0 := RX2) (T := TX2) (n := 12) rfl iWX2 tyX2 tyX2_ok nmX2 4 (by decide) k1_176 rfl rfl (1 - (M (40 + k) 4)) (by rw [sh_P (by omega), fsP_set _ _ _ _ _ (by decide)]) (rfl) rfl (show 4 < 12 by decide) dX2_skateTurn_22 (fun H locs N hS => ?_)
    refine lv_iload_n S.1 S.2.1 dX2_skateTurn_25 rfl (lv_at hl 1 rfl) ?_
    refine lv_if_eq (tgt := 39) S.1 S.2.1 dX2_skateTurn_26 (by decide) (fun c9 => absurd c9 (((fun c9 => absurd ((c2_1).symm.trans c9) (by decide)) : ¬ p0 = 0))) (fun _ => ?_)
    refine lv_iload_n S.1 S.2.1 dX2_skateTurn_29 rfl (lv_at hl 1 rfl) ?_
    refine lv_iconst (v := 3) S.1 S.2.1 dX2_skateTurn_30 (by decide) ?_
    refine lv_icmp_eq (tgt := 39) S.1 S.2.1 dX2_skateTurn_31 (by decide) (fun c9 => absurd c9 (((fun c9 => absurd ((c2_1).symm.trans c9) (by decide)) : ¬ p0 = 3))) (fun _ => ?_)
    refine lv_iload_n S.1 S.2.1 dX2_skateTurn_34 rfl (lv_at hl 1 rfl) ?_
    refine lv_iconst (v := 4) S.1 S.2.1 dX2_skateTurn_35 (by decide) ?_
    refine lv_icmp_ne (tgt := 49) S.1 S.2.1 dX2_skateTurn_36 (by decide) (fun _ => ?_) (fun c9 => absurd c9 (((fun c9 => absurd ((c2_1).symm.trans c9) (by decide)) : ¬ p0 = 4)))
    refine lv_iload_n S.1 S.2.1 dX2_skateTurn_49 rfl (lv_at hl 1 rfl) ?_
    refine lv_if_eq (tgt := 68) S.1 S.2.1 dX2_skateTurn_50 (by decide) (fun c9 => absurd c9 (((fun c9 => absurd ((c2_1).symm.trans c9) (by decide)) : ¬ p0 = 0))) (fun _ => ?_)
    refine lv_iload_n S.1 S.2.1 dX2_skateTurn_53 rfl (lv_at hl 1 rfl) ?_
    refine lv_iconst (v := 1) S.1 S.2.1 dX2_skateTurn_54 (by decide) ?_
    refine lv_icmp_eq (tgt := 68) S.1 S.2.1 dX2_skateTurn_55 (by decide) (fun c9 => absurd c9 (((fun c9 => absurd ((c2_1).symm.trans c9) (by decide)) : ¬ p0 = 1))) (fun _ => ?_)
    refine lv_iload_n S.1 S.2.1 dX2_skateTurn_58 rfl (lv_at hl 1 rfl) ?_
    refine lv_iconst (v := 2) S.1 S.2.1 dX2_skateTurn_59 (by decide) ?_
    refine lv_icmp_eq (tgt := 68) S.1 S.2.1 dX2_skateTurn_60 (by decide) (fun _ => ?_) (fun c9 => absurd (c2_1) c9)
    refine lv_aload_n S.1 S.2.1 dX2_skateTurn_68 rfl (lv_at hl 0 rfl) ?_
    refine lv_iconst (v := 1) S.1 S.2.1 dX2_skateTurn_69 (by decide) ?_
    refine lv_aload_n S.1 S.2.1 dX2_skateTurn_70 rfl (lv_at hl 0 rfl) ?_
    refine kr_get S K N (40 + k) (by unfold crole; omega) (d_k.1) (sh_P (by omega)) (C0 := RX2) (T := TX2) (n := 12) rfl iWX2 6 (by decide) k1_178 rfl (v := .int ((up2 M (40 + k) 4 (1 - (M (40 + k) 4))) (40 + k) 6)) rfl dX2_skateTurn_71 ?_
    refine nt_i (y := (M (40 + k) 6)) (by simp [up2]) ?_
    refine lv_isub S.1 S.2.1 dX2_skateTurn_74 ?_
    refine kr_put S K N hS (40 + k) (by unfold crole; omega) (d_k.1) (sh_P (by omega)) (C0 := RX2) (T := TX2) (n := 12) rfl iWX2 tyX2 tyX2_ok nmX2 6 (by decide) k1_178 rfl rfl (1 - (M (40 + k) 6)) (by rw [sh_P (by omega), fsP_set _ _ _ _ _ (by decide)]) (rfl) rfl (show 6 < 12 by decide) dX2_skateTurn_75 (fun H locs N hS => ?_)
    refine lv_aload_n S.1 S.2.1 dX2_skateTurn_78 rfl (lv_at hl 0 rfl) ?_
    refine lv_dup S.1 S.2.1 dX2_skateTurn_79 rfl ?_
    refine kr_get S K N (40 + k) (by unfold crole; omega) (d_k.1) (sh_P (by omega)) (C0 := RX2) (T := TX2) (n := 12) rfl iWX2 7 (by decide) k1_179 rfl (v := .int ((up2 (up2 M (40 + k) 4 (1 - (M (40 + k) 4))) (40 + k) 6 (1 - (M (40 + k) 6))) (40 + k) 7)) rfl dX2_skateTurn_80 ?_
    refine nt_i (y := (M (40 + k) 7)) (by simp [up2]) ?_
    refine lv_iconst (v := 2) S.1 S.2.1 dX2_skateTurn_83 (by decide) ?_
    refine lv_iadd S.1 S.2.1 dX2_skateTurn_84 ?_
    refine kr_put S K N hS (40 + k) (by unfold crole; omega) (d_k.1) (sh_P (by omega)) (C0 := RX2) (T := TX2) (n := 12) rfl iWX2 tyX2 tyX2_ok nmX2 7 (by decide) k1_179 rfl rfl ((M (40 + k) 7) + 2) (by rw [sh_P (by omega), fsP_set _ _ _ _ _ (by decide)]) (rfl) rfl (show 7 < 12 by decide) dX2_skateTurn_85 (fun H locs N hS => ?_)
    refine lv_iconst (v := 4) S.1 S.2.1 dX2_skateTurn_88 (by decide) ?_
    refine lv_aload_n S.1 S.2.1 dX2_skateTurn_89 rfl (lv_at hl 0 rfl) ?_
    refine kr_get S K N (40 + k) (by unfold crole; omega) (d_k.1) (sh_P (by omega)) (C0 := RX2) (T := TX2) (n := 12) rfl iWX2 4 (by decide) k1_176 rfl (v := .int ((up2 (up2 (up2 M (40 + k) 4 (1 - (M (40 + k) 4))) (40 + k) 6 (1 - (M (40 + k) 6))) (40 + k) 7 ((M (40 + k) 7) + 2)) (40 + k) 4)) rfl dX2_skateTurn_90 ?_
    refine nt_i (y := (1 - (M (40 + k) 4))) (by simp [up2]) ?_
    refine lv_imul S.1 S.2.1 dX2_skateTurn_93 ?_
    refine lv_iconst (v := 2) S.1 S.2.1 dX2_skateTurn_94 (by decide) ?_
    refine lv_aload_n S.1 S.2.1 dX2_skateTurn_95 rfl (lv_at hl 0 rfl) ?_
    refine kr_get S K N (40 + k) (by unfold crole; omega) (d_k.1) (sh_P (by omega)) (C0 := RX2) (T := TX2) (n := 12) rfl iWX2 5 (by decide) k1_177 rfl (v := .int ((up2 (up2 (up2 M (40 + k) 4 (1 - (M (40 + k) 4))) (40 + k) 6 (1 - (M (40 + k) 6))) (40 + k) 7 ((M (40 + k) 7) + 2)) (40 + k) 5)) rfl dX2_skateTurn_96 ?_
    refine nt_i (y := (M (40 + k) 5)) (by simp [up2]) ?_
    refine lv_imul S.1 S.2.1 dX2_skateTurn_99 ?_
    refine lv_iadd S.1 S.2.1 dX2_skateTurn_100 ?_
    refine lv_aload_n S.1 S.2.1 dX2_skateTurn_101 rfl (lv_at hl 0 rfl) ?_
    refine kr_get S K N (40 + k) (by unfold crole; omega) (d_k.1) (sh_P (by omega)) (C0 := RX2) (T := TX2) (n := 12) rfl iWX2 6 (by decide) k1_178 rfl (v := .int ((up2 (up2 (up2 M (40 + k) 4 (1 - (M (40 + k) 4))) (40 + k) 6 (1 - (M (40 + k) 6))) (40 + k) 7 ((M (40 + k) 7) + 2)) (40 + k) 6)) rfl dX2_skateTurn_102 ?_
    refine nt_i (y := (1 - (M (40 + k) 6))) (by simp [up2]) ?_
    refine lv_iadd S.1 S.2.1 dX2_skateTurn_105 ?_
    exact ne_wI S hS hr hlk ⟨congrArg (fun z => some (Value.int z)) (Eq.symm (by unfold f_X2_skateTurn; first | (rw [if_pos c2_1]; done) | (simp only [if_pos c2_1]; done) | rfl)), (by unfold g_X2_skateTurn; first | (rw [if_pos c2_1]; exact N) | (simp only [if_pos c2_1]; exact N) | exact N)⟩ dX2_skateTurn_106
  · refine lv_iload_n S.1 S.2.1 dX2_skateTurn_5 rfl (lv_at hl 1 rfl) ?_
    refine lv_iconst (v := 3) S.1 S.2.1 dX2_skateTurn_6 (by decide) ?_
    refine lv_icmp_eq (tgt := 15) S.1 S.2.1 dX2_skateTurn_7 (by decide) (fun c7_2 => ?_) (fun c7_2 => ?_)
    · refine lv_aload_n S.1 S.2.1 dX2_skateTurn_15 rfl (lv_at hl 0 rfl) ?_
      refine lv_iconst (v := 1) S.1 S.2.1 dX2_skateTurn_16 (by decide) ?_
      refine lv_aload_n S.1 S.2.1 dX2_skateTurn_17 rfl (lv_at hl 0 rfl) ?_
      refine kr_get S K N (40 + k) (by unfold crole; omega) (d_k.1) (sh_P (by omega)) (C0 := RX2) (T := TX2) (n := 12) rfl iWX2 4 (by decide) k1_176 rfl (v := .int (M (40 + k) 4)) rfl dX2_skateTurn_18 ?_
      refine lv_isub S.1 S.2.1 dX2_skateTurn_21 ?_
      refine kr_put S K N hS (40 + k) (by unfold crole; omega) (d_k.1) (sh_P (by omega)) (C0 := RX2) (T := TX2) (n := 12) rfl iWX2 tyX2 tyX2_ok nmX2 4 (by decide) k1_176 rfl rfl (1 - (M (40 + k) 4)) (by rw [sh_P (by omega), fsP_set _ _ _ _ _ (by decide)]) (rfl) rfl (show 4 < 12 by decide) dX2_skateTurn_22 (fun H locs N hS => ?_)
      refine lv_iload_n S.1 S.2.1 dX2_skateTurn_25 rfl (lv_at hl 1 rfl) ?_
      refine lv_if_eq (tgt := 39) S.1 S.2.1 dX2_skateTurn_26 (by decide) (fun c9 => absurd c9 (((fun c9 => absurd ((c7_2).symm.trans c9) (by decide)) : ¬ p0 = 0))) (fun _ => ?_)
      refine lv_iload_n S.1 S.2.1 dX2_skateTurn_29 rfl (lv_at hl 1 rfl) ?_
      refine lv_iconst (v := 3) S.1 S.2.1 dX2_skateTurn_30 (by decide) ?_
      refine lv_icmp_eq (tgt := 39) S.1 S.2.1 dX2_skateTurn_31 (by decide) (fun _ => ?_) (fun c9 => absurd (c7_2) c9)
      refine lv_aload_n S.1 S.2.1 dX2_skateTurn_39 rfl (lv_at hl 0 rfl) ?_
      refine lv_iconst (v := 1) S.1 S.2.1 dX2_skateTurn_40 (by decide) ?_
      refine lv_aload_n S.1 S.2.1 dX2_skateTurn_41 rfl (lv_at hl 0 rfl) ?_
      refine kr_get S K N (40 + k) (by unfold crole; omega) (d_k.1) (sh_P (by omega)) (C0 := RX2) (T := TX2) (n := 12) rfl iWX2 5 (by decide) k1_177 rfl (v := .int ((up2 M (40 + k) 4 (1 - (M (40 + k) 4))) (40 + k) 5)) rfl dX2_skateTurn_42 ?_
      refine nt_i (y := (M (40 + k) 5)) (by simp [up2]) ?_
      refine lv_isub S.1 S.2.1 dX2_skateTurn_45 ?_
      refine kr_put S K N hS (40 + k) (by unfold crole; omega) (d_k.1) (sh_P (by omega)) (C0 := RX2) (T := TX2) (n := 12) rfl iWX2 tyX2 tyX2_ok nmX2 5 (by decide) k1_177 rfl rfl (1 - (M (40 + k) 5)) (by rw [sh_P (by omega), fsP_set _ _ _ _ _ (by decide)]) (rfl) rfl (show 5 < 12 by decide) dX2_skateTurn_46 (fun H locs N hS => ?_)
      refine lv_iload_n S.1 S.2.1 dX2_skateTurn_49 rfl (lv_at hl 1 rfl) ?_
      refine lv_if_eq (tgt := 68) S.1 S.2.1 dX2_skateTurn_50 (by decide) (fun c9 => absurd c9 (((fun c9 => absurd ((c7_2).symm.trans c9) (by decide)) : ¬ p0 = 0))) (fun _ => ?_)
      refine lv_iload_n S.1 S.2.1 dX2_skateTurn_53 rfl (lv_at hl 1 rfl) ?_
      refine lv_iconst (v := 1) S.1 S.2.1 dX2_skateTurn_54 (by decide) ?_
      refine lv_icmp_eq (tgt := 68) S.1 S.2.1 dX2_skateTurn_55 (by decide) (fun c9 => absurd c9 (((fun c9 => absurd ((c7_2).symm.trans c9) (by decide)) : ¬ p0 = 1))) (fun _ => ?_)
      refine lv_iload_n S.1 S.2.1 dX2_skateTurn_58 rfl (lv_at hl 1 rfl) ?_
      refine lv_iconst (v := 2) S.1 S.2.1 dX2_skateTurn_59 (by decide) ?_
      refine lv_icmp_eq (tgt := 68) S.1 S.2.1 dX2_skateTurn_60 (by decide) (fun c9 => absurd c9 (c2_1)) (fun _ => ?_)
      refine lv_iload_n S.1 S.2.1 dX2_skateTurn_63 rfl (lv_at hl 1 rfl) ?_
      refine lv_iconst (v := 3) S.1 S.2.1 dX2_skateTurn_64 (by decide) ?_
      refine lv_icmp_ne (tgt := 78) S.1 S.2.1 dX2_skateTurn_65 (by decide) (fun c9 => absurd (c7_2) c9) (fun _ => ?_)
      refine lv_aload_n S.1 S.2.1 dX2_skateTurn_68 rfl (lv_at hl 0 rfl) ?_
      refine lv_iconst (v := 1) S.1 S.2.1 dX2_skateTurn_69 (by decide) ?_
      refine lv_aload_n S.1 S.2.1 dX2_skateTurn_70 rfl (lv_at hl 0 rfl) ?_
      refine kr_get S K N (40 + k) (by unfold crole; omega) (d_k.1) (sh_P (by omega)) (C0 := RX2) (T := TX2) (n := 12) rfl iWX2 6 (by decide) k1_178 rfl (v := .int ((up2 (up2 M (40 + k) 4 (1 - (M (40 + k) 4))) (40 + k) 5 (1 - (M (40 + k) 5))) (40 + k) 6)) rfl dX2_skateTurn_71 ?_
      refine nt_i (y := (M (40 + k) 6)) (by simp [up2]) ?_
      refine lv_isub S.1 S.2.1 dX2_skateTurn_74 ?_
      refine kr_put S K N hS (40 + k) (by unfold crole; omega) (d_k.1) (sh_P (by omega)) (C0 := RX2) (T := TX2) (n := 12) rfl iWX2 tyX2 tyX2_ok nmX2 6 (by decide) k1_178 rfl rfl (1 - (M (40 + k) 6)) (by rw [sh_P (by omega), fsP_set _ _ _ _ _ (by decide)]) (rfl) rfl (show 6 < 12 by decide) dX2_skateTurn_75 (fun H locs N hS => ?_)
      refine lv_aload_n S.1 S.2.1 dX2_skateTurn_78 rfl (lv_at hl 0 rfl) ?_
      refine lv_dup S.1 S.2.1 dX2_skateTurn_79 rfl ?_
      refine kr_get S K N (40 + k) (by unfold crole; omega) (d_k.1) (sh_P (by omega)) (C0 := RX2) (T := TX2) (n := 12) rfl iWX2 7 (by decide) k1_179 rfl (v := .int ((up2 (up2 (up2 M (40 + k) 4 (1 - (M (40 + k) 4))) (40 + k) 5 (1 - (M (40 + k) 5))) (40 + k) 6 (1 - (M (40 + k) 6))) (40 + k) 7)) rfl dX2_skateTurn_80 ?_
      refine nt_i (y := (M (40 + k) 7)) (by simp [up2]) ?_
      refine lv_iconst (v := 2) S.1 S.2.1 dX2_skateTurn_83 (by decide) ?_
      refine lv_iadd S.1 S.2.1 dX2_skateTurn_84 ?_
      refine kr_put S K N hS (40 + k) (by unfold crole; omega) (d_k.1) (sh_P (by omega)) (C0 := RX2) (T := TX2) (n := 12) rfl iWX2 tyX2 tyX2_ok nmX2 7 (by decide) k1_179 rfl rfl ((M (40 + k) 7) + 2) (by rw [sh_P (by omega), fsP_set _ _ _ _ _ (by decide)]) (rfl) rfl (show 7 < 12 by decide) dX2_skateTurn_85 (fun H locs N hS => ?_)
      refine lv_iconst (v := 4) S.1 S.2.1 dX2_skateTurn_88 (by decide) ?_
      refine lv_aload_n S.1 S.2.1 dX2_skateTurn_89 rfl (lv_at hl 0 rfl) ?_
      refine kr_get S K N (40 + k) (by unfold crole; omega) (d_k.1) (sh_P (by omega)) (C0 := RX2) (T := TX2) (n := 12) rfl iWX2 4 (by decide) k1_176 rfl (v := .int ((up2 (up2 (up2 (up2 M (40 + k) 4 (1 - (M (40 + k) 4))) (40 + k) 5 (1 - (M (40 + k) 5))) (40 + k) 6 (1 - (M (40 + k) 6))) (40 + k) 7 ((M (40 + k) 7) + 2)) (40 + k) 4)) rfl dX2_skateTurn_90 ?_
      refine nt_i (y := (1 - (M (40 + k) 4))) (by simp [up2]) ?_
      refine lv_imul S.1 S.2.1 dX2_skateTurn_93 ?_
      refine lv_iconst (v := 2) S.1 S.2.1 dX2_skateTurn_94 (by decide) ?_
      refine lv_aload_n S.1 S.2.1 dX2_skateTurn_95 rfl (lv_at hl 0 rfl) ?_
      refine kr_get S K N (40 + k) (by unfold crole; omega) (d_k.1) (sh_P (by omega)) (C0 := RX2) (T := TX2) (n := 12) rfl iWX2 5 (by decide) k1_177 rfl (v := .int ((up2 (up2 (up2 (up2 M (40 + k) 4 (1 - (M (40 + k) 4))) (40 + k) 5 (1 - (M (40 + k) 5))) (40 + k) 6 (1 - (M (40 + k) 6))) (40 + k) 7 ((M (40 + k) 7) + 2)) (40 + k) 5)) rfl dX2_skateTurn_96 ?_
      refine nt_i (y := (1 - (M (40 + k) 5))) (by simp [up2]) ?_
      refine lv_imul S.1 S.2.1 dX2_skateTurn_99 ?_
      refine lv_iadd S.1 S.2.1 dX2_skateTurn_100 ?_
      refine lv_aload_n S.1 S.2.1 dX2_skateTurn_101 rfl (lv_at hl 0 rfl) ?_
      refine kr_get S K N (40 + k) (by unfold crole; omega) (d_k.1) (sh_P (by omega)) (C0 := RX2) (T := TX2) (n := 12) rfl iWX2 6 (by decide) k1_178 rfl (v := .int ((up2 (up2 (up2 (up2 M (40 + k) 4 (1 - (M (40 + k) 4))) (40 + k) 5 (1 - (M (40 + k) 5))) (40 + k) 6 (1 - (M (40 + k) 6))) (40 + k) 7 ((M (40 + k) 7) + 2)) (40 + k) 6)) rfl dX2_skateTurn_102 ?_
      refine nt_i (y := (1 - (M (40 + k) 6))) (by simp [up2]) ?_
      refine lv_iadd S.1 S.2.1 dX2_skateTurn_105 ?_
      exact ne_wI S hS hr hlk ⟨congrArg (fun z => some (Value.int z)) (Eq.symm (by unfold f_X2_skateTurn; first | (rw [if_neg c2_1, if_pos c7_2]; done) | (simp only [if_neg c2_1, if_pos c7_2]; done) | rfl)), (by unfold g_X2_skateTurn; first | (rw [if_neg c2_1, if_pos c7_2]; exact N) | (simp only [if_neg c2_1, if_pos c7_2]; exact N) | exact N)⟩ dX2_skateTurn_106
    · refine lv_iload_n S.1 S.2.1 dX2_skateTurn_10 rfl (lv_at hl 1 rfl) ?_
      refine lv_iconst (v := 5) S.1 S.2.1 dX2_skateTurn_11 (by decide) ?_
      refine lv_icmp_ne (tgt := 25) S.1 S.2.1 dX2_skateTurn_12 (by decide) (fun c12_3 => ?_) (fun c12_3 => ?_)
      · refine lv_iload_n S.1 S.2.1 dX2_skateTurn_25 rfl (lv_at hl 1 rfl) ?_
        refine lv_if_eq (tgt := 39) S.1 S.2.1 dX2_skateTurn_26 (by decide) (fun c26_4 => ?_) (fun c26_4 => ?_)
        · refine lv_aload_n S.1 S.2.1 dX2_skateTurn_39 rfl (lv_at hl 0 rfl) ?_
          refine lv_iconst (v := 1) S.1 S.2.1 dX2_skateTurn_40 (by decide) ?_
          refine lv_aload_n S.1 S.2.1 dX2_skateTurn_41 rfl (lv_at hl 0 rfl) ?_
          refine kr_get S K N (40 + k) (by unfold crole; omega) (d_k.1) (sh_P (by omega)) (C0 := RX2) (T := TX2) (n := 12) rfl iWX2 5 (by decide) k1_177 rfl (v := .int (M (40 + k) 5)) rfl dX2_skateTurn_42 ?_
          refine lv_isub S.1 S.2.1 dX2_skateTurn_45 ?_
          refine kr_put S K N hS (40 + k) (by unfold crole; omega) (d_k.1) (sh_P (by omega)) (C0 := RX2) (T := TX2) (n := 12) rfl iWX2 tyX2 tyX2_ok nmX2 5 (by decide) k1_177 rfl rfl (1 - (M (40 + k) 5)) (by rw [sh_P (by omega), fsP_set _ _ _ _ _ (by decide)]) (rfl) rfl (show 5 < 12 by decide) dX2_skateTurn_46 (fun H locs N hS => ?_)
          refine lv_iload_n S.1 S.2.1 dX2_skateTurn_49 rfl (lv_at hl 1 rfl) ?_
          refine lv_if_eq (tgt := 68) S.1 S.2.1 dX2_skateTurn_50 (by decide) (fun _ => ?_) (fun c9 => absurd (c26_4) c9)
          refine lv_aload_n S.1 S.2.1 dX2_skateTurn_68 rfl (lv_at hl 0 rfl) ?_
          refine lv_iconst (v := 1) S.1 S.2.1 dX2_skateTurn_69 (by decide) ?_
          refine lv_aload_n S.1 S.2.1 dX2_skateTurn_70 rfl (lv_at hl 0 rfl) ?_
          refine kr_get S K N (40 + k) (by unfold crole; omega) (d_k.1) (sh_P (by omega)) (C0 := RX2) (T := TX2) (n := 12) rfl iWX2 6 (by decide) k1_178 rfl (v := .int ((up2 M (40 + k) 5 (1 - (M (40 + k) 5))) (40 + k) 6)) rfl dX2_skateTurn_71 ?_
          refine nt_i (y := (M (40 + k) 6)) (by simp [up2]) ?_
          refine lv_isub S.1 S.2.1 dX2_skateTurn_74 ?_
          refine kr_put S K N hS (40 + k) (by unfold crole; omega) (d_k.1) (sh_P (by omega)) (C0 := RX2) (T := TX2) (n := 12) rfl iWX2 tyX2 tyX2_ok nmX2 6 (by decide) k1_178 rfl rfl (1 - (M (40 + k) 6)) (by rw [sh_P (by omega), fsP_set _ _ _ _ _ (by decide)]) (rfl) rfl (show 6 < 12 by decide) dX2_skateTurn_75 (fun H locs N hS => ?_)
          refine lv_aload_n S.1 S.2.1 dX2_skateTurn_78 rfl (lv_at hl 0 rfl) ?_
          refine lv_dup S.1 S.2.1 dX2_skateTurn_79 rfl ?_
          refine kr_get S K N (40 + k) (by unfold crole; omega) (d_k.1) (sh_P (by omega)) (C0 := RX2) (T := TX2) (n := 12) rfl iWX2 7 (by decide) k1_179 rfl (v := .int ((up2 (up2 M (40 + k) 5 (1 - (M (40 + k) 5))) (40 + k) 6 (1 - (M (40 + k) 6))) (40 + k) 7)) rfl dX2_skateTurn_80 ?_
          refine nt_i (y := (M (40 + k) 7)) (by simp [up2]) ?_
          refine lv_iconst (v := 2) S.1 S.2.1 dX2_skateTurn_83 (by decide) ?_
          refine lv_iadd S.1 S.2.1 dX2_skateTurn_84 ?_
          refine kr_put S K N hS (40 + k) (by unfold crole; omega) (d_k.1) (sh_P (by omega)) (C0 := RX2) (T := TX2) (n := 12) rfl iWX2 tyX2 tyX2_ok nmX2 7 (by decide) k1_179 rfl rfl ((M (40 + k) 7) + 2) (by rw [sh_P (by omega), fsP_set _ _ _ _ _ (by decide)]) (rfl) rfl (show 7 < 12 by decide) dX2_skateTurn_85 (fun H locs N hS => ?_)
          refine lv_iconst (v := 4) S.1 S.2.1 dX2_skateTurn_88 (by decide) ?_
          refine lv_aload_n S.1 S.2.1 dX2_skateTurn_89 rfl (lv_at hl 0 rfl) ?_
          refine kr_get S K N (40 + k) (by unfold crole; omega) (d_k.1) (sh_P (by omega)) (C0 := RX2) (T := TX2) (n := 12) rfl iWX2 4 (by decide) k1_176 rfl (v := .int ((up2 (up2 (up2 M (40 + k) 5 (1 - (M (40 + k) 5))) (40 + k) 6 (1 - (M (40 + k) 6))) (40 + k) 7 ((M (40 + k) 7) + 2)) (40 + k) 4)) rfl dX2_skateTurn_90 ?_
          refine nt_i (y := (M (40 + k) 4)) (by simp [up2]) ?_
          refine lv_imul S.1 S.2.1 dX2_skateTurn_93 ?_
          refine lv_iconst (v := 2) S.1 S.2.1 dX2_skateTurn_94 (by decide) ?_
          refine lv_aload_n S.1 S.2.1 dX2_skateTurn_95 rfl (lv_at hl 0 rfl) ?_
          refine kr_get S K N (40 + k) (by unfold crole; omega) (d_k.1) (sh_P (by omega)) (C0 := RX2) (T := TX2) (n := 12) rfl iWX2 5 (by decide) k1_177 rfl (v := .int ((up2 (up2 (up2 M (40 + k) 5 (1 - (M (40 + k) 5))) (40 + k) 6 (1 - (M (40 + k) 6))) (40 + k) 7 ((M (40 + k) 7) + 2)) (40 + k) 5)) rfl dX2_skateTurn_96 ?_
          refine nt_i (y := (1 - (M (40 + k) 5))) (by simp [up2]) ?_
          refine lv_imul S.1 S.2.1 dX2_skateTurn_99 ?_
          refine lv_iadd S.1 S.2.1 dX2_skateTurn_100 ?_
          refine lv_aload_n S.1 S.2.1 dX2_skateTurn_101 rfl (lv_at hl 0 rfl) ?_
          refine kr_get S K N (40 + k) (by unfold crole; omega) (d_k.1) (sh_P (by omega)) (C0 := RX2) (T := TX2) (n := 12) rfl iWX2 6 (by decide) k1_178 rfl (v := .int ((up2 (up2 (up2 M (40 + k) 5 (1 - (M (40 + k) 5))) (40 + k) 6 (1 - (M (40 + k) 6))) (40 + k) 7 ((M (40 + k) 7) + 2)) (40 + k) 6)) rfl dX2_skateTurn_102 ?_
          refine nt_i (y := (1 - (M (40 + k) 6))) (by simp [up2]) ?_
          refine lv_iadd S.1 S.2.1 dX2_skateTurn_105 ?_
          exact ne_wI S hS hr hlk ⟨congrArg (fun z => some (Value.int z)) (Eq.symm (by unfold f_X2_skateTurn; first | (rw [if_neg c2_1, if_neg c7_2, if_neg c12_3, if_pos c26_4]; done) | (simp only [if_neg c2_1, if_neg c7_2, if_neg c12_3, if_pos c26_4]; done) | rfl)), (by unfold g_X2_skateTurn; first | (rw [if_neg c2_1, if_neg c7_2, if_neg c12_3, if_pos c26_4]; exact N) | (simp only [if_neg c2_1, if_neg c7_2, if_neg c12_3, if_pos c26_4]; exact N) | exact N)⟩ dX2_skateTurn_106
        · refine lv_iload_n S.1 S.2.1 dX2_skateTurn_29 rfl (lv_at hl 1 rfl) ?_
          refine lv_iconst (v := 3) S.1 S.2.1 dX2_skateTurn_30 (by decide) ?_
          refine lv_icmp_eq (tgt := 39) S.1 S.2.1 dX2_skateTurn_31 (by decide) (fun c9 => absurd c9 (c7_2)) (fun _ => ?_)
          refine lv_iload_n S.1 S.2.1 dX2_skateTurn_34 rfl (lv_at hl 1 rfl) ?_
          refine lv_iconst (v := 4) S.1 S.2.1 dX2_skateTurn_35 (by decide) ?_
          refine lv_icmp_ne (tgt := 49) S.1 S.2.1 dX2_skateTurn_36 (by decide) (fun c36_5 => ?_) (fun c36_5 => ?_)
          · refine lv_iload_n S.1 S.2.1 dX2_skateTurn_49 rfl (lv_at hl 1 rfl) ?_
            refine lv_if_eq (tgt := 68) S.1 S.2.1 dX2_skateTurn_50 (by decide) (fun c9 => absurd c9 (c26_4)) (fun _ => ?_)
            refine lv_iload_n S.1 S.2.1 dX2_skateTurn_53 rfl (lv_at hl 1 rfl) ?_
            refine lv_iconst (v := 1) S.1 S.2.1 dX2_skateTurn_54 (by decide) ?_
            refine lv_icmp_eq (tgt := 68) S.1 S.2.1 dX2_skateTurn_55 (by decide) (fun c55_6 => ?_) (fun c55_6 => ?_)
            · refine lv_aload_n S.1 S.2.1 dX2_skateTurn_68 rfl (lv_at hl 0 rfl) ?_
              refine lv_iconst (v := 1) S.1 S.2.1 dX2_skateTurn_69 (by decide) ?_
              refine lv_aload_n S.1 S.2.1 dX2_skateTurn_70 rfl (lv_at hl 0 rfl) ?_
              refine kr_get S K N (40 + k) (by unfold crole; omega) (d_k.1) (sh_P (by omega)) (C0 := RX2) (T := TX2) (n := 12) rfl iWX2 6 (by decide) k1_178 rfl (v := .int (M (40 + k) 6)) rfl dX2_skateTurn_71 ?_
              refine lv_isub S.1 S.2.1 dX2_skateTurn_74 ?_
              refine kr_put S K N hS (40 + k) (by unfold crole; omega) (d_k.1) (sh_P (by omega)) (C0 := RX2) (T := TX2) (n := 12) rfl iWX2 tyX2 tyX2_ok nmX2 6 (by decide) k1_178 rfl rfl (1 - (M (40 + k) 6)) (by rw [sh_P (by omega), fsP_set _ _ _ _ _ (by decide)]) (rfl) rfl (show 6 < 12 by decide) dX2_skateTurn_75 (fun H locs N hS => ?_)
              refine lv_aload_n S.1 S.2.1 dX2_skateTurn_78 rfl (lv_at hl 0 rfl) ?_
              refine lv_dup S.1 S.2.1 dX2_skateTurn_79 rfl ?_
              refine kr_get S K N (40 + k) (by unfold crole; omega) (d_k.1) (sh_P (by omega)) (C0 := RX2) (T := TX2) (n := 12) rfl iWX2 7 (by decide) k1_179 rfl (v := .int ((up2 M (40 + k) 6 (1 - (M (40 + k) 6))) (40 + k) 7)) rfl dX2_skateTurn_80 ?_
              refine nt_i (y := (M (40 + k) 7)) (by simp [up2]) ?_
              refine lv_iconst (v := 2) S.1 S.2.1 dX2_skateTurn_83 (by decide) ?_
              refine lv_iadd S.1 S.2.1 dX2_skateTurn_84 ?_
              refine kr_put S K N hS (40 + k) (by unfold crole; omega) (d_k.1) (sh_P (by omega)) (C0 := RX2) (T := TX2) (n := 12) rfl iWX2 tyX2 tyX2_ok nmX2 7 (by decide) k1_179 rfl rfl ((M (40 + k) 7) + 2) (by rw [sh_P (by omega), fsP_set _ _ _ _ _ (by decide)]) (rfl) rfl (show 7 < 12 by decide) dX2_skateTurn_85 (fun H locs N hS => ?_)
              refine lv_iconst (v := 4) S.1 S.2.1 dX2_skateTurn_88 (by decide) ?_
              refine lv_aload_n S.1 S.2.1 dX2_skateTurn_89 rfl (lv_at hl 0 rfl) ?_
              refine kr_get S K N (40 + k) (by unfold crole; omega) (d_k.1) (sh_P (by omega)) (C0 := RX2) (T := TX2) (n := 12) rfl iWX2 4 (by decide) k1_176 rfl (v := .int ((up2 (up2 M (40 + k) 6 (1 - (M (40 + k) 6))) (40 + k) 7 ((M (40 + k) 7) + 2)) (40 + k) 4)) rfl dX2_skateTurn_90 ?_
              refine nt_i (y := (M (40 + k) 4)) (by simp [up2]) ?_
              refine lv_imul S.1 S.2.1 dX2_skateTurn_93 ?_
              refine lv_iconst (v := 2) S.1 S.2.1 dX2_skateTurn_94 (by decide) ?_
              refine lv_aload_n S.1 S.2.1 dX2_skateTurn_95 rfl (lv_at hl 0 rfl) ?_
              refine kr_get S K N (40 + k) (by unfold crole; omega) (d_k.1) (sh_P (by omega)) (C0 := RX2) (T := TX2) (n := 12) rfl iWX2 5 (by decide) k1_177 rfl (v := .int ((up2 (up2 M (40 + k) 6 (1 - (M (40 + k) 6))) (40 + k) 7 ((M (40 + k) 7) + 2)) (40 + k) 5)) rfl dX2_skateTurn_96 ?_
              refine nt_i (y := (M (40 + k) 5)) (by simp [up2]) ?_
              refine lv_imul S.1 S.2.1 dX2_skateTurn_99 ?_
              refine lv_iadd S.1 S.2.1 dX2_skateTurn_100 ?_
              refine lv_aload_n S.1 S.2.1 dX2_skateTurn_101 rfl (lv_at hl 0 rfl) ?_
              refine kr_get S K N (40 + k) (by unfold crole; omega) (d_k.1) (sh_P (by omega)) (C0 := RX2) (T := TX2) (n := 12) rfl iWX2 6 (by decide) k1_178 rfl (v := .int ((up2 (up2 M (40 + k) 6 (1 - (M (40 + k) 6))) (40 + k) 7 ((M (40 + k) 7) + 2)) (40 + k) 6)) rfl dX2_skateTurn_102 ?_
              refine nt_i (y := (1 - (M (40 + k) 6))) (by simp [up2]) ?_
              refine lv_iadd S.1 S.2.1 dX2_skateTurn_105 ?_
              exact ne_wI S hS hr hlk ⟨congrArg (fun z => some (Value.int z)) (Eq.symm (by unfold f_X2_skateTurn; first | (rw [if_neg c2_1, if_neg c7_2, if_neg c12_3, if_neg c26_4, if_neg c36_5, if_pos c55_6]; done) | (simp only [if_neg c2_1, if_neg c7_2, if_neg c12_3, if_neg c26_4, if_neg c36_5, if_pos c55_6]; done) | rfl)), (by unfold g_X2_skateTurn; first | (rw [if_neg c2_1, if_neg c7_2, if_neg c12_3, if_neg c26_4, if_neg c36_5, if_pos c55_6]; exact N) | (simp only [if_neg c2_1, if_neg c7_2, if_neg c12_3, if_neg c26_4, if_neg c36_5, if_pos c55_6]; exact N) | exact N)⟩ dX2_skateTurn_106
            · refine lv_iload_n S.1 S.2.1 dX2_skateTurn_58 rfl (lv_at hl 1 rfl) ?_
              refine lv_iconst (v := 2) S.1 S.2.1 dX2_skateTurn_59 (by decide) ?_
              refine lv_icmp_eq (tgt := 68) S.1 S.2.1 dX2_skateTurn_60 (by decide) (fun c9 => absurd c9 (c2_1)) (fun _ => ?_)
              refine lv_iload_n S.1 S.2.1 dX2_skateTurn_63 rfl (lv_at hl 1 rfl) ?_
              refine lv_iconst (v := 3) S.1 S.2.1 dX2_skateTurn_64 (by decide) ?_
              refine lv_icmp_ne (tgt := 78) S.1 S.2.1 dX2_skateTurn_65 (by decide) (fun _ => ?_) (fun c9 => absurd c9 (c7_2))
              refine lv_aload_n S.1 S.2.1 dX2_skateTurn_78 rfl (lv_at hl 0 rfl) ?_
              refine lv_dup S.1 S.2.1 dX2_skateTurn_79 rfl ?_
              refine kr_get S K N (40 + k) (by unfold crole; omega) (d_k.1) (sh_P (by omega)) (C0 := RX2) (T := TX2) (n := 12) rfl iWX2 7 (by decide) k1_179 rfl (v := .int (M (40 + k) 7)) rfl dX2_skateTurn_80 ?_
              refine lv_iconst (v := 2) S.1 S.2.1 dX2_skateTurn_83 (by decide) ?_
              refine lv_iadd S.1 S.2.1 dX2_skateTurn_84 ?_
              refine kr_put S K N hS (40 + k) (by unfold crole; omega) (d_k.1) (sh_P (by omega)) (C0 := RX2) (T := TX2) (n := 12) rfl iWX2 tyX2 tyX2_ok nmX2 7 (by decide) k1_179 rfl rfl ((M (40 + k) 7) + 2) (by rw [sh_P (by omega), fsP_set _ _ _ _ _ (by decide)]) (rfl) rfl (show 7 < 12 by decide) dX2_skateTurn_85 (fun H locs N hS => ?_)
              refine lv_iconst (v := 4) S.1 S.2.1 dX2_skateTurn_88 (by decide) ?_
              refine lv_aload_n S.1 S.2.1 dX2_skateTurn_89 rfl (lv_at hl 0 rfl) ?_
              refine kr_get S K N (40 + k) (by unfold crole; omega) (d_k.1) (sh_P (by omega)) (C0 := RX2) (T := TX2) (n := 12) rfl iWX2 4 (by decide) k1_176 rfl (v := .int ((up2 M (40 + k) 7 ((M (40 + k) 7) + 2)) (40 + k) 4)) rfl dX2_skateTurn_90 ?_
              refine nt_i (y := (M (40 + k) 4)) (by simp [up2]) ?_
              refine lv_imul S.1 S.2.1 dX2_skateTurn_93 ?_
              refine lv_iconst (v := 2) S.1 S.2.1 dX2_skateTurn_94 (by decide) ?_
              refine lv_aload_n S.1 S.2.1 dX2_skateTurn_95 rfl (lv_at hl 0 rfl) ?_
              refine kr_get S K N (40 + k) (by unfold crole; omega) (d_k.1) (sh_P (by omega)) (C0 := RX2) (T := TX2) (n := 12) rfl iWX2 5 (by decide) k1_177 rfl (v := .int ((up2 M (40 + k) 7 ((M (40 + k) 7) + 2)) (40 + k) 5)) rfl dX2_skateTurn_96 ?_
              refine nt_i (y := (M (40 + k) 5)) (by simp [up2]) ?_
              refine lv_imul S.1 S.2.1 dX2_skateTurn_99 ?_
              refine lv_iadd S.1 S.2.1 dX2_skateTurn_100 ?_
              refine lv_aload_n S.1 S.2.1 dX2_skateTurn_101 rfl (lv_at hl 0 rfl) ?_
              refine kr_get S K N (40 + k) (by unfold crole; omega) (d_k.1) (sh_P (by omega)) (C0 := RX2) (T := TX2) (n := 12) rfl iWX2 6 (by decide) k1_178 rfl (v := .int ((up2 M (40 + k) 7 ((M (40 + k) 7) + 2)) (40 + k) 6)) rfl dX2_skateTurn_102 ?_
              refine nt_i (y := (M (40 + k) 6)) (by simp [up2]) ?_
              refine lv_iadd S.1 S.2.1 dX2_skateTurn_105 ?_
              exact ne_wI S hS hr hlk ⟨congrArg (fun z => some (Value.int z)) (Eq.symm (by unfold f_X2_skateTurn; first | (rw [if_neg c2_1, if_neg c7_2, if_neg c12_3, if_neg c26_4, if_neg c36_5, if_neg c55_6]; done) | (simp only [if_neg c2_1, if_neg c7_2, if_neg c12_3, if_neg c26_4, if_neg c36_5, if_neg c55_6]; done) | rfl)), (by unfold g_X2_skateTurn; first | (rw [if_neg c2_1, if_neg c7_2, if_neg c12_3, if_neg c26_4, if_neg c36_5, if_neg c55_6]; exact N) | (simp only [if_neg c2_1, if_neg c7_2, if_neg c12_3, if_neg c26_4, if_neg c36_5, if_neg c55_6]; exact N) | exact N)⟩ dX2_skateTurn_106
          · refine lv_aload_n S.1 S.2.1 dX2_skateTurn_39 rfl (lv_at hl 0 rfl) ?_
            refine lv_iconst (v := 1) S.1 S.2.1 dX2_skateTurn_40 (by decide) ?_
            refine lv_aload_n S.1 S.2.1 dX2_skateTurn_41 rfl (lv_at hl 0 rfl) ?_
            refine kr_get S K N (40 + k) (by unfold crole; omega) (d_k.1) (sh_P (by omega)) (C0 := RX2) (T := TX2) (n := 12) rfl iWX2 5 (by decide) k1_177 rfl (v := .int (M (40 + k) 5)) rfl dX2_skateTurn_42 ?_
            refine lv_isub S.1 S.2.1 dX2_skateTurn_45 ?_
            refine kr_put S K N hS (40 + k) (by unfold crole; omega) (d_k.1) (sh_P (by omega)) (C0 := RX2) (T := TX2) (n := 12) rfl iWX2 tyX2 tyX2_ok nmX2 5 (by decide) k1_177 rfl rfl (1 - (M (40 + k) 5)) (by rw [sh_P (by omega), fsP_set _ _ _ _ _ (by decide)]) (rfl) rfl (show 5 < 12 by decide) dX2_skateTurn_46 (fun H locs N hS => ?_)
            refine lv_iload_n S.1 S.2.1 dX2_skateTurn_49 rfl (lv_at hl 1 rfl) ?_
            refine lv_if_eq (tgt := 68) S.1 S.2.1 dX2_skateTurn_50 (by decide) (fun c9 => absurd c9 (c26_4)) (fun _ => ?_)
            refine lv_iload_n S.1 S.2.1 dX2_skateTurn_53 rfl (lv_at hl 1 rfl) ?_
            refine lv_iconst (v := 1) S.1 S.2.1 dX2_skateTurn_54 (by decide) ?_
            refine lv_icmp_eq (tgt := 68) S.1 S.2.1 dX2_skateTurn_55 (by decide) (fun c9 => absurd c9 (((fun c9 => absurd ((c36_5).symm.trans c9) (by decide)) : ¬ p0 = 1))) (fun _ => ?_)
            refine lv_iload_n S.1 S.2.1 dX2_skateTurn_58 rfl (lv_at hl 1 rfl) ?_
            refine lv_iconst (v := 2) S.1 S.2.1 dX2_skateTurn_59 (by decide) ?_
            refine lv_icmp_eq (tgt := 68) S.1 S.2.1 dX2_skateTurn_60 (by decide) (fun c9 => absurd c9 (c2_1)) (fun _ => ?_)
            refine lv_iload_n S.1 S.2.1 dX2_skateTurn_63 rfl (lv_at hl 1 rfl) ?_
            refine lv_iconst (v := 3) S.1 S.2.1 dX2_skateTurn_64 (by decide) ?_
            refine lv_icmp_ne (tgt := 78) S.1 S.2.1 dX2_skateTurn_65 (by decide) (fun _ => ?_) (fun c9 => absurd c9 (c7_2))
            refine lv_aload_n S.1 S.2.1 dX2_skateTurn_78 rfl (lv_at hl 0 rfl) ?_
            refine lv_dup S.1 S.2.1 dX2_skateTurn_79 rfl ?_
            refine kr_get S K N (40 + k) (by unfold crole; omega) (d_k.1) (sh_P (by omega)) (C0 := RX2) (T := TX2) (n := 12) rfl iWX2 7 (by decide) k1_179 rfl (v := .int ((up2 M (40 + k) 5 (1 - (M (40 + k) 5))) (40 + k) 7)) rfl dX2_skateTurn_80 ?_
            refine nt_i (y := (M (40 + k) 7)) (by simp [up2]) ?_
            refine lv_iconst (v := 2) S.1 S.2.1 dX2_skateTurn_83 (by decide) ?_
            refine lv_iadd S.1 S.2.1 dX2_skateTurn_84 ?_
            refine kr_put S K N hS (40 + k) (by unfold crole; omega) (d_k.1) (sh_P (by omega)) (C0 := RX2) (T := TX2) (n := 12) rfl iWX2 tyX2 tyX2_ok nmX2 7 (by decide) k1_179 rfl rfl ((M (40 + k) 7) + 2) (by rw [sh_P (by omega), fsP_set _ _ _ _ _ (by decide)]) (rfl) rfl (show 7 < 12 by decide) dX2_skateTurn_85 (fun H locs N hS => ?_)
            refine lv_iconst (v := 4) S.1 S.2.1 dX2_skateTurn_88 (by decide) ?_
            refine lv_aload_n S.1 S.2.1 dX2_skateTurn_89 rfl (lv_at hl 0 rfl) ?_
            refine kr_get S K N (40 + k) (by unfold crole; omega) (d_k.1) (sh_P (by omega)) (C0 := RX2) (T := TX2) (n := 12) rfl iWX2 4 (by decide) k1_176 rfl (v := .int ((up2 (up2 M (40 + k) 5 (1 - (M (40 + k) 5))) (40 + k) 7 ((M (40 + k) 7) + 2)) (40 + k) 4)) rfl dX2_skateTurn_90 ?_
            refine nt_i (y := (M (40 + k) 4)) (by simp [up2]) ?_
            refine lv_imul S.1 S.2.1 dX2_skateTurn_93 ?_
            refine lv_iconst (v := 2) S.1 S.2.1 dX2_skateTurn_94 (by decide) ?_
            refine lv_aload_n S.1 S.2.1 dX2_skateTurn_95 rfl (lv_at hl 0 rfl) ?_
            refine kr_get S K N (40 + k) (by unfold crole; omega) (d_k.1) (sh_P (by omega)) (C0 := RX2) (T := TX2) (n := 12) rfl iWX2 5 (by decide) k1_177 rfl (v := .int ((up2 (up2 M (40 + k) 5 (1 - (M (40 + k) 5))) (40 + k) 7 ((M (40 + k) 7) + 2)) (40 + k) 5)) rfl dX2_skateTurn_96 ?_
            refine nt_i (y := (1 - (M (40 + k) 5))) (by simp [up2]) ?_
            refine lv_imul S.1 S.2.1 dX2_skateTurn_99 ?_
            refine lv_iadd S.1 S.2.1 dX2_skateTurn_100 ?_
            refine lv_aload_n S.1 S.2.1 dX2_skateTurn_101 rfl (lv_at hl 0 rfl) ?_
            refine kr_get S K N (40 + k) (by unfold crole; omega) (d_k.1) (sh_P (by omega)) (C0 := RX2) (T := TX2) (n := 12) rfl iWX2 6 (by decide) k1_178 rfl (v := .int ((up2 (up2 M (40 + k) 5 (1 - (M (40 + k) 5))) (40 + k) 7 ((M (40 + k) 7) + 2)) (40 + k) 6)) rfl dX2_skateTurn_102 ?_
            refine nt_i (y := (M (40 + k) 6)) (by simp [up2]) ?_
            refine lv_iadd S.1 S.2.1 dX2_skateTurn_105 ?_
            exact ne_wI S hS hr hlk ⟨congrArg (fun z => some (Value.int z)) (Eq.symm (by unfold f_X2_skateTurn; first | (rw [if_neg c2_1, if_neg c7_2, if_neg c12_3, if_neg c26_4, if_pos c36_5]; done) | (simp only [if_neg c2_1, if_neg c7_2, if_neg c12_3, if_neg c26_4, if_pos c36_5]; done) | rfl)), (by unfold g_X2_skateTurn; first | (rw [if_neg c2_1, if_neg c7_2, if_neg c12_3, if_neg c26_4, if_pos c36_5]; exact N) | (simp only [if_neg c2_1, if_neg c7_2, if_neg c12_3, if_neg c26_4, if_pos c36_5]; exact N) | exact N)⟩ dX2_skateTurn_106
      · refine lv_aload_n S.1 S.2.1 dX2_skateTurn_15 rfl (lv_at hl 0 rfl) ?_
        refine lv_iconst (v := 1) S.1 S.2.1 dX2_skateTurn_16 (by decide) ?_
        refine lv_aload_n S.1 S.2.1 dX2_skateTurn_17 rfl (lv_at hl 0 rfl) ?_
        refine kr_get S K N (40 + k) (by unfold crole; omega) (d_k.1) (sh_P (by omega)) (C0 := RX2) (T := TX2) (n := 12) rfl iWX2 4 (by decide) k1_176 rfl (v := .int (M (40 + k) 4)) rfl dX2_skateTurn_18 ?_
        refine lv_isub S.1 S.2.1 dX2_skateTurn_21 ?_
        refine kr_put S K N hS (40 + k) (by unfold crole; omega) (d_k.1) (sh_P (by omega)) (C0 := RX2) (T := TX2) (n := 12) rfl iWX2 tyX2 tyX2_ok nmX2 4 (by decide) k1_176 rfl rfl (1 - (M (40 + k) 4)) (by rw [sh_P (by omega), fsP_set _ _ _ _ _ (by decide)]) (rfl) rfl (show 4 < 12 by decide) dX2_skateTurn_22 (fun H locs N hS => ?_)
        refine lv_iload_n S.1 S.2.1 dX2_skateTurn_25 rfl (lv_at hl 1 rfl) ?_
        refine lv_if_eq (tgt := 39) S.1 S.2.1 dX2_skateTurn_26 (by decide) (fun c9 => absurd c9 (((fun c9 => absurd ((c12_3).symm.trans c9) (by decide)) : ¬ p0 = 0))) (fun _ => ?_)
        refine lv_iload_n S.1 S.2.1 dX2_skateTurn_29 rfl (lv_at hl 1 rfl) ?_
        refine lv_iconst (v := 3) S.1 S.2.1 dX2_skateTurn_30 (by decide) ?_
        refine lv_icmp_eq (tgt := 39) S.1 S.2.1 dX2_skateTurn_31 (by decide) (fun c9 => absurd c9 (c7_2)) (fun _ => ?_)
        refine lv_iload_n S.1 S.2.1 dX2_skateTurn_34 rfl (lv_at hl 1 rfl) ?_
        refine lv_iconst (v := 4) S.1 S.2.1 dX2_skateTurn_35 (by decide) ?_
        refine lv_icmp_ne (tgt := 49) S.1 S.2.1 dX2_skateTurn_36 (by decide) (fun _ => ?_) (fun c9 => absurd c9 (((fun c9 => absurd ((c12_3).symm.trans c9) (by decide)) : ¬ p0 = 4)))
        refine lv_iload_n S.1 S.2.1 dX2_skateTurn_49 rfl (lv_at hl 1 rfl) ?_
        refine lv_if_eq (tgt := 68) S.1 S.2.1 dX2_skateTurn_50 (by decide) (fun c9 => absurd c9 (((fun c9 => absurd ((c12_3).symm.trans c9) (by decide)) : ¬ p0 = 0))) (fun _ => ?_)
        refine lv_iload_n S.1 S.2.1 dX2_skateTurn_53 rfl (lv_at hl 1 rfl) ?_
        refine lv_iconst (v := 1) S.1 S.2.1 dX2_skateTurn_54 (by decide) ?_
        refine lv_icmp_eq (tgt := 68) S.1 S.2.1 dX2_skateTurn_55 (by decide) (fun c9 => absurd c9 (((fun c9 => absurd ((c12_3).symm.trans c9) (by decide)) : ¬ p0 = 1))) (fun _ => ?_)
        refine lv_iload_n S.1 S.2.1 dX2_skateTurn_58 rfl (lv_at hl 1 rfl) ?_
        refine lv_iconst (v := 2) S.1 S.2.1 dX2_skateTurn_59 (by decide) ?_
        refine lv_icmp_eq (tgt := 68) S.1 S.2.1 dX2_skateTurn_60 (by decide) (fun c9 => absurd c9 (c2_1)) (fun _ => ?_)
        refine lv_iload_n S.1 S.2.1 dX2_skateTurn_63 rfl (lv_at hl 1 rfl) ?_
        refine lv_iconst (v := 3) S.1 S.2.1 dX2_skateTurn_64 (by decide) ?_
        refine lv_icmp_ne (tgt := 78) S.1 S.2.1 dX2_skateTurn_65 (by decide) (fun _ => ?_) (fun c9 => absurd c9 (c7_2))
        refine lv_aload_n S.1 S.2.1 dX2_skateTurn_78 rfl (lv_at hl 0 rfl) ?_
        refine lv_dup S.1 S.2.1 dX2_skateTurn_79 rfl ?_
        refine kr_get S K N (40 + k) (by unfold crole; omega) (d_k.1) (sh_P (by omega)) (C0 := RX2) (T := TX2) (n := 12) rfl iWX2 7 (by decide) k1_179 rfl (v := .int ((up2 M (40 + k) 4 (1 - (M (40 + k) 4))) (40 + k) 7)) rfl dX2_skateTurn_80 ?_
        refine nt_i (y := (M (40 + k) 7)) (by simp [up2]) ?_
        refine lv_iconst (v := 2) S.1 S.2.1 dX2_skateTurn_83 (by decide) ?_
        refine lv_iadd S.1 S.2.1 dX2_skateTurn_84 ?_
        refine kr_put S K N hS (40 + k) (by unfold crole; omega) (d_k.1) (sh_P (by omega)) (C0 := RX2) (T := TX2) (n := 12) rfl iWX2 tyX2 tyX2_ok nmX2 7 (by decide) k1_179 rfl rfl ((M (40 + k) 7) + 2) (by rw [sh_P (by omega), fsP_set _ _ _ _ _ (by decide)]) (rfl) rfl (show 7 < 12 by decide) dX2_skateTurn_85 (fun H locs N hS => ?_)
        refine lv_iconst (v := 4) S.1 S.2.1 dX2_skateTurn_88 (by decide) ?_
        refine lv_aload_n S.1 S.2.1 dX2_skateTurn_89 rfl (lv_at hl 0 rfl) ?_
        refine kr_get S K N (40 + k) (by unfold crole; omega) (d_k.1) (sh_P (by omega)) (C0 := RX2) (T := TX2) (n := 12) rfl iWX2 4 (by decide) k1_176 rfl (v := .int ((up2 (up2 M (40 + k) 4 (1 - (M (40 + k) 4))) (40 + k) 7 ((M (40 + k) 7) + 2)) (40 + k) 4)) rfl dX2_skateTurn_90 ?_
        refine nt_i (y := (1 - (M (40 + k) 4))) (by simp [up2]) ?_
        refine lv_imul S.1 S.2.1 dX2_skateTurn_93 ?_
        refine lv_iconst (v := 2) S.1 S.2.1 dX2_skateTurn_94 (by decide) ?_
        refine lv_aload_n S.1 S.2.1 dX2_skateTurn_95 rfl (lv_at hl 0 rfl) ?_
        refine kr_get S K N (40 + k) (by unfold crole; omega) (d_k.1) (sh_P (by omega)) (C0 := RX2) (T := TX2) (n := 12) rfl iWX2 5 (by decide) k1_177 rfl (v := .int ((up2 (up2 M (40 + k) 4 (1 - (M (40 + k) 4))) (40 + k) 7 ((M (40 + k) 7) + 2)) (40 + k) 5)) rfl dX2_skateTurn_96 ?_
        refine nt_i (y := (M (40 + k) 5)) (by simp [up2]) ?_
        refine lv_imul S.1 S.2.1 dX2_skateTurn_99 ?_
        refine lv_iadd S.1 S.2.1 dX2_skateTurn_100 ?_
        refine lv_aload_n S.1 S.2.1 dX2_skateTurn_101 rfl (lv_at hl 0 rfl) ?_
        refine kr_get S K N (40 + k) (by unfold crole; omega) (d_k.1) (sh_P (by omega)) (C0 := RX2) (T := TX2) (n := 12) rfl iWX2 6 (by decide) k1_178 rfl (v := .int ((up2 (up2 M (40 + k) 4 (1 - (M (40 + k) 4))) (40 + k) 7 ((M (40 + k) 7) + 2)) (40 + k) 6)) rfl dX2_skateTurn_102 ?_
        refine nt_i (y := (M (40 + k) 6)) (by simp [up2]) ?_
        refine lv_iadd S.1 S.2.1 dX2_skateTurn_105 ?_
        exact ne_wI S hS hr hlk ⟨congrArg (fun z => some (Value.int z)) (Eq.symm (by unfold f_X2_skateTurn; first | (rw [if_neg c2_1, if_neg c7_2, if_pos c12_3]; done) | (simp only [if_neg c2_1, if_neg c7_2, if_pos c12_3]; done) | rfl)), (by unfold g_X2_skateTurn; first | (rw [if_neg c2_1, if_neg c7_2, if_pos c12_3]; exact N) | (simp only [if_neg c2_1, if_neg c7_2, if_pos c12_3]; exact N) | exact N)⟩ dX2_skateTurn_106

def g_X2_landOn (M : Nat → Nat → Int32) (k : Nat) (p0 : Int32) : Nat → Nat → Int32 :=
  (up2 (up2 (up2 M (40 + k) 4 p0) (40 + k) 5 1) (40 + k) 6 1)
set_option maxHeartbeats 4000000 in
set_option maxRecDepth 100000 in
theorem m_X2_landOn {D : va_G} {cA : Nat → ClassId} {B : Nat} (l : Launch) {dom : Nat → Prop} {ad : Nat → Nat} {X : Nat → va_E} {H0 : Heap} (M : Nat → Nat → Int32) (k : Nat) (p0 : Int32) (N : kw D cA B dom ad X M H0) (d_k : dom (40 + k) ∧ k < 12) : MetW D cA B l yX2_landOn cX2_landOn 2 none 0 0 0 0 [.ref (ad (40 + k)), .int p0] H0 (fun o h => o = none ∧ kw D cA B dom ad X (g_X2_landOn M k p0) h) := by
  refine MetW.of (by decide) (Nat.le_of_ble_eq_true rfl) ?_
  intro p e s m args below meth c S hr hlk hin hh K ls hl
  subst hh
  have hS : va_S (fun q => B ≤ q) s.heap s.heap [] := va_S.rf
  have hl : lv_has ls 2 [(0, .ref (ad (40 + k))), (1, .int p0)] := hl
  have h_k := d_k.2
  refine lv_aload_n S.1 S.2.1 dX2_landOn_0 rfl (lv_at hl 0 rfl) ?_
  refine lv_iload_n S.1 S.2.1 dX2_landOn_1 rfl (lv_at hl 1 rfl) ?_
  refine kr_put S K N hS (40 + k) (by unfold crole; omega) (d_k.1) (sh_P (by omega)) (C0 := RX2) (T := TX2) (n := 12) rfl iWX2 tyX2 tyX2_ok nmX2 4 (by decide) k1_176 rfl rfl p0 (by rw [sh_P (by omega), fsP_set _ _ _ _ _ (by decide)]) (rfl) rfl (show 4 < 12 by decide) dX2_landOn_2 (fun H locs N hS => ?_)
  refine lv_aload_n S.1 S.2.1 dX2_landOn_5 rfl (lv_at hl 0 rfl) ?_
  refine lv_iconst (v := 1) S.1 S.2.1 dX2_landOn_6 (by decide) ?_
  refine kr_put S K N hS (40 + k) (by unfold crole; omega) (d_k.1) (sh_P (by omega)) (C0 := RX2) (T := TX2) (n := 12) rfl iWX2 tyX2 tyX2_ok nmX2 5 (by decide) k1_177 rfl rfl 1 (by rw [sh_P (by omega), fsP_set _ _ _ _ _ (by decide)]) (rfl) rfl (show 5 < 12 by decide) dX2_landOn_7 (fun H locs N hS => ?_)
  refine lv_aload_n S.1 S.2.1 dX2_landOn_10 rfl (lv_at hl 0 rfl) ?_
  refine lv_iconst (v := 1) S.1 S.2.1 dX2_landOn_11 (by decide) ?_
  refine kr_put S K N hS (40 + k) (by unfold crole; omega) (d_k.1) (sh_P (by omega)) (C0 := RX2) (T := TX2) (n := 12) rfl iWX2 tyX2 tyX2_ok nmX2 6 (by decide) k1_178 rfl rfl 1 (by rw [sh_P (by omega), fsP_set _ _ _ _ _ (by decide)]) (rfl) rfl (show 6 < 12 by decide) dX2_landOn_12 (fun H locs N hS => ?_)
  exact ne_wV S hS hr hlk ⟨rfl, N⟩ dX2_landOn_15
