/-! p18: skates (printed by wip/p18/gen/law.py) -/
def canV (ft eg wy p : Int32) : Int32 := ((if p = 0 then ((if ft = 1 then ((if eg = 1 then ((if wy = 1 then 1 else 0) : Int32) else 0) : Int32) else 0) : Int32) else ((if p = 2 then ((if ft = 1 then ((if eg = 1 then ((if wy = 1 then 1 else 0) : Int32) else 0) : Int32) else 0) : Int32) else ((if ft = 0 then ((if p = 1 then ((if eg = 0 then ((if wy = 1 then 1 else 0) : Int32) else 0) : Int32) else ((if p = 5 then ((if eg = 1 then ((if wy = 0 then 1 else 0) : Int32) else 0) : Int32) else ((if wy = 1 then 1 else 0) : Int32)) : Int32)) : Int32) else 0) : Int32)) : Int32)) : Int32)
theorem can_ok {C : Nat → Nat → Int32} {k q : Nat} {ft eg wy : Int32} (hq : q < 6) (h4 : C (40 + k) 4 = ft) (h5 : C (40 + k) 5 = eg) (h6 : C (40 + k) 6 = wy) (h : ¬ canV ft eg wy (nI q) = 0) : ¬ f_X2_canTakeOff C k (nI q) = 0 := by
  unfold f_X2_canTakeOff f_X2_isWrongEdge
  rw [h4, h5, h6]
  unfold canV at h
  rcases in05 hq with e | e | e | e | e | e <;> rw [e] at h ⊢
  all_goals (by_cases a1 : ft = 1 <;> by_cases a2 : ft = 0 <;> by_cases b1 : eg = 1 <;> by_cases b2 : eg = 0 <;> by_cases d1 : wy = 1 <;> by_cases d2 : wy = 0)
  all_goals first | (subst a1; exact absurd a2 (by decide)) | (subst b1; exact absurd b2 (by decide)) | (subst d1; exact absurd d2 (by decide)) | (simp [a1, a2, b1, b2, d1, d2] at h ⊢)
theorem tF_eq {q : Nat} (hq : q < 6) (a : Int32) : ((if (nI q) = 2 then (1 - a) else ((if (nI q) = 3 then (1 - a) else ((if (nI q) = 5 then (1 - a) else a) : Int32)) : Int32)) : Int32) = tF (nI q) a := by
  rcases in05 hq with e | e | e | e | e | e <;> rw [e] <;> rfl
theorem tG_eq {q : Nat} (hq : q < 6) (a : Int32) : ((if (nI q) = 0 then (1 - a) else ((if (nI q) = 3 then (1 - a) else ((if (nI q) = 4 then (1 - a) else a) : Int32)) : Int32)) : Int32) = tG (nI q) a := by
  rcases in05 hq with e | e | e | e | e | e <;> rw [e] <;> rfl
theorem tW_eq {q : Nat} (hq : q < 6) (a : Int32) : ((if 4 ≤ (nI q) then a else (1 - a)) : Int32) = tW (nI q) a := by
  rcases in05 hq with e | e | e | e | e | e <;> rw [e] <;> rfl
section SKA

variable {p : Program} {l : Launch} {e : Env} {R : Room} {s : State} {m : MethodId} {args : Array Value} {below : List Frame} {meth : Method} {c : Code} {Q : State → Prop}
variable {D : va_G} {cA : Nat → ClassId} {B b L o ea Sk en : Nat} {xs : Nat → Int32} {f : Nat → Int32}

set_option maxHeartbeats 8000000 in
set_option maxRecDepth 100000 in
theorem sk_loop (Z : Zw p l s m args c cL_skates 15 D cA B R) (KS0 : KS D cA B b L xs s) (hL : L < 2 ^ 31) {fr ac MC MS : Nat} (hfr : fr + ac ≤ 1000) {cnt0 : Nat → Nat} (hMC : MC ≤ R.cells ∧ MS ≤ R.slots)
    (ke : ∀ (sec : Nat) (cnt : Nat → Nat) (C : Nat → Nat → Int32) (H : Heap) (locs : List Loc) (ls : Array Slot), lx D cA B o ea Sk cnt C f H → LV Sk cnt en 1 C → (∀ k, ¬ k = en → cnt k = cnt0 k) → C (40 + en) 7 = nI sec → va_S (fun q => B ≤ q) s.heap H locs → lv_has ls 15 [(7, .int (nI sec))] → W p l e R s m args below meth c H locs MC MS Q (F0 m 447 ls [])) :
    ∀ (n a sec : Nat) (ft eg wy : Int32) (n8 : Nat) (cnt : Nat → Nat) (C : Nat → Nat → Int32) (H : Heap) (locs : List Loc) (ls : Array Slot) (cells slots : Nat), a + n = ac → cells + 8 * n ≤ MC ∧ slots + 54 * n ≤ MS → lx D cA B o ea Sk cnt C f H → LV Sk cnt en 1 C → (∀ k, ¬ k = en → cnt k = cnt0 k) → cnt en = n8 → C (40 + en) 4 = ft → C (40 + en) 5 = eg → C (40 + en) 6 = wy → C (40 + en) 7 = nI sec → sec ≤ 250 → va_S (fun q => B ≤ q) s.heap H locs → lv_has ls 15 [(0, .ref o), (1, .ref b), (2, .int (nI fr)), (3, .int (nI ac)), (4, .int ft), (5, .int eg), (6, .int wy), (7, .int (nI sec)), (8, .int (nI n8)), (9, .int (nI a))] → W p l e R s m args below meth c H locs cells slots Q (F0 m 18 ls []) := by
  obtain ⟨S, K, hls, hR1, hR2⟩ := id Z
  intro n
  induction n with
  | zero =>
    intro a sec ft eg wy n8 cnt C H locs ls cells slots ha hc W0 V hcn h8 h4 h5 h6 h7 hsec hS hl
    refine lv_iload S.1 S.2.1 dL_skates_18 (lv_at hl 9 rfl) ?_
    refine lv_iload_n S.1 S.2.1 dL_skates_20 rfl (lv_at hl 3 rfl) ?_
    refine lv_icmp_ge (tgt := 447) S.1 S.2.1 dL_skates_21 (by decide) (fun _ => ?_) (fun c9 => absurd (nI_le (by omega) (by omega)) c9)
    exact W.widen (k := MC) (n := MS) (by omega) (by omega) (ke sec cnt C H locs ls W0 V hcn h7 hS (lv_sub hl [7] rfl))
  | succ n ih =>
    intro a sec ft eg wy n8 cnt C H locs ls cells slots ha hc W0 V hcn h8 h4 h5 h6 h7 hsec hS hl
    have n12 := V.n12 en V.on_lt
    refine lv_iload S.1 S.2.1 dL_skates_18 (lv_at hl 9 rfl) ?_
    refine lv_iload_n S.1 S.2.1 dL_skates_20 rfl (lv_at hl 3 rfl) ?_
    refine lv_icmp_ge (tgt := 447) S.1 S.2.1 dL_skates_21 (by decide) (fun c9 => absurd c9 (nI_ge (by omega) (by omega))) (fun _ => ?_)
    refine lv_iload S.1 S.2.1 dL_skates_24 (lv_at hl 7 rfl) ?_
    refine lv_sipush (v := 240) S.1 S.2.1 dL_skates_26 (by decide) ?_
    refine lv_icmp_ge (tgt := 447) S.1 S.2.1 dL_skates_29 (by decide) (fun c29_1 => ?_) (fun c29_1 => ?_)
    · exact W.widen (k := MC) (n := MS) (by omega) (by omega) (ke sec cnt C H locs ls W0 V hcn h7 hS (lv_sub hl [7] rfl))
    · have hs2 : sec < 240 := Nat.lt_of_not_le (fun q => c29_1 (show (240 : Int32) ≤ nI sec from nI_le (a := 240) q (by omega)))
      refine lv_aload_n S.1 S.2.1 dL_skates_32 rfl (lv_at hl 1 rfl) ?_
      refine lv_iload_n S.1 S.2.1 dL_skates_33 rfl (lv_at hl 2 rfl) ?_
      refine lv_iload S.1 S.2.1 dL_skates_34 (lv_at hl 9 rfl) ?_
      refine lv_iadd S.1 S.2.1 dL_skates_36 ?_
      refine nt_i (y := nI (fr + a)) (nI_add fr a) ?_
      refine nc_rSS S KS0 hS (As := [.ref b, .int (nI (fr + a))]) (m_cell l ((fr + a)) (by omega) hL) k2_192 k2_193 k1_0 k2_194 (num := 2) (by decide +kernel) rfl ⟨by omega, by omega⟩ hl.1 rfl (Nat.le_of_ble_eq_true rfl) dL_skates_37 ⟨by omega, by omega⟩ ?_
      generalize cellV L xs ((fr + a)) = w
      refine lv_istore (lv' := [(10, .int w), (0, .ref o), (1, .ref b), (2, .int (nI fr)), (3, .int (nI ac)), (4, .int ft), (5, .int eg), (6, .int wy), (7, .int (nI sec)), (8, .int (nI n8)), (9, .int (nI a))]) S.1 S.2.1 dL_skates_40 hl (by decide) rfl (fun ls hl => ?_)
      refine lv_iload S.1 S.2.1 dL_skates_42 (lv_at hl 0 rfl) ?_
      refine lv_iconst (v := 4) S.1 S.2.1 dL_skates_44 (by decide) ?_
      refine nc_rS S KS0.1 hS (As := [.int w, .int 4]) (m_low l w 4 (by decide) (by decide)) k2_195 k2_196 k1_0 k2_197 (num := 2) (by decide +kernel) rfl ⟨by omega, by omega⟩ hl.1 rfl (Nat.le_of_ble_eq_true rfl) dL_skates_45 ⟨by omega, by omega⟩ ?_
      have hwh : lowN w 4 < 4 := lowN_lt _ (by decide)
      generalize lowN w 4 = wh at hwh ⊢
      refine lv_istore (lv' := [(11, .int (nI wh)), (10, .int w), (0, .ref o), (1, .ref b), (2, .int (nI fr)), (3, .int (nI ac)), (4, .int ft), (5, .int eg), (6, .int wy), (7, .int (nI sec)), (8, .int (nI n8)), (9, .int (nI a))]) S.1 S.2.1 dL_skates_48 hl (by decide) rfl (fun ls hl => ?_)
      refine lv_iload S.1 S.2.1 dL_skates_50 (lv_at hl 1 rfl) ?_
      refine lv_iconst (v := 4) S.1 S.2.1 dL_skates_52 (by decide) ?_
      refine lv_ishr S.1 S.2.1 dL_skates_53 ?_
      refine lv_bipush (v := 6) S.1 S.2.1 dL_skates_54 (by decide) ?_
      refine nc_rS S KS0.1 hS (As := [.int (w >>> (4 &&& 31)), .int 6]) (m_low l (w >>> (4 &&& 31)) 6 (by decide) (by decide)) k2_195 k2_196 k1_0 k2_197 (num := 2) (by decide +kernel) rfl ⟨by omega, by omega⟩ hl.1 rfl (Nat.le_of_ble_eq_true rfl) dL_skates_56 ⟨by omega, by omega⟩ ?_
      have hkd : lowN (w >>> (4 &&& 31)) 6 < 6 := lowN_lt _ (by decide)
      generalize lowN (w >>> (4 &&& 31)) 6 = kd at hkd ⊢
      refine lv_istore (lv' := [(12, .int (nI kd)), (11, .int (nI wh)), (10, .int w), (0, .ref o), (1, .ref b), (2, .int (nI fr)), (3, .int (nI ac)), (4, .int ft), (5, .int eg), (6, .int wy), (7, .int (nI sec)), (8, .int (nI n8)), (9, .int (nI a))]) S.1 S.2.1 dL_skates_59 hl (by decide) rfl (fun ls hl => ?_)
      refine lv_iload S.1 S.2.1 dL_skates_61 (lv_at hl 7 rfl) ?_
      refine lv_iconst (v := 1) S.1 S.2.1 dL_skates_63 (by decide) ?_
      refine nj (J := 84) (V := ((if ft = 1 then ((if eg = 1 then ((if wy = 1 then 1 else 0) : Int32) else 0) : Int32) else 0) : Int32)) (L := fun v64_2 => [(12, .int (nI kd)), (11, .int (nI wh)), (10, .int w), (0, .ref o), (1, .ref b), (2, .int (nI fr)), (3, .int (nI ac)), (4, .int ft), (5, .int eg), (6, .int wy), (7, .int (nI sec)), (8, .int (nI n8)), (9, .int (nI a))]) (St := fun v64_2 => [.int v64_2]) (n := 15) (fun v64_2 ls h64_4 hl => ?_) (fun j64_3 => ?_)
      · try dsimp only at hl ⊢
        subst h64_4
        refine lv_istore (lv' := [(13, .int ((if ft = 1 then ((if eg = 1 then ((if wy = 1 then 1 else 0) : Int32) else 0) : Int32) else 0) : Int32)), (12, .int (nI kd)), (11, .int (nI wh)), (10, .int w), (0, .ref o), (1, .ref b), (2, .int (nI fr)), (3, .int (nI ac)), (4, .int ft), (5, .int eg), (6, .int wy), (7, .int (nI sec)), (8, .int (nI n8)), (9, .int (nI a))]) S.1 S.2.1 dL_skates_84 hl (by decide) rfl (fun ls hl => ?_)
        refine lv_iload S.1 S.2.1 dL_skates_86 (lv_at hl 1 rfl) ?_
        refine nj (J := 158) (V := ((if (nI kd) = 0 then ((if ft = 1 then ((if eg = 1 then ((if wy = 1 then 1 else 0) : Int32) else 0) : Int32) else 0) : Int32) else ((if (nI kd) = 2 then ((if ft = 1 then ((if eg = 1 then ((if wy = 1 then 1 else 0) : Int32) else 0) : Int32) else 0) : Int32) else ((if ft = 0 then ((if (nI kd) = 1 then ((if eg = 0 then ((if wy = 1 then 1 else 0) : Int32) else 0) : Int32) else ((if (nI kd) = 5 then ((if eg = 1 then ((if wy = 0 then 1 else 0) : Int32) else 0) : Int32) else ((if wy = 1 then 1 else 0) : Int32)) : Int32)) : Int32) else 0) : Int32)) : Int32)) : Int32)) (L := fun v88_5 => [(13, .int ((if ft = 1 then ((if eg = 1 then ((if wy = 1 then 1 else 0) : Int32) else 0) : Int32) else 0) : Int32)), (12, .int (nI kd)), (11, .int (nI wh)), (10, .int w), (0, .ref o), (1, .ref b), (2, .int (nI fr)), (3, .int (nI ac)), (4, .int ft), (5, .int eg), (6, .int wy), (7, .int (nI sec)), (8, .int (nI n8)), (9, .int (nI a))]) (St := fun v88_5 => [.int v88_5]) (n := 15) (fun v88_5 ls h88_7 hl => ?_) (fun j88_6 => ?_)
        · try dsimp only at hl ⊢
          subst h88_7
          refine nt_i (y := (canV ft eg wy (nI kd))) (by unfold canV; rfl) ?_
          refine lv_istore (lv' := [(14, .int (canV ft eg wy (nI kd))), (13, .int ((if ft = 1 then ((if eg = 1 then ((if wy = 1 then 1 else 0) : Int32) else 0) : Int32) else 0) : Int32)), (12, .int (nI kd)), (11, .int (nI wh)), (10, .int w), (0, .ref o), (1, .ref b), (2, .int (nI fr)), (3, .int (nI ac)), (4, .int ft), (5, .int eg), (6, .int wy), (7, .int (nI sec)), (8, .int (nI n8)), (9, .int (nI a))]) S.1 S.2.1 dL_skates_158 hl (by decide) rfl (fun ls hl => ?_)
          have htn : ∀ ls : Array Slot, lv_has ls 15 [(14, .int (canV ft eg wy (nI kd))), (13, .int ((if ft = 1 then ((if eg = 1 then ((if wy = 1 then 1 else 0) : Int32) else 0) : Int32) else 0) : Int32)), (12, .int (nI kd)), (11, .int (nI wh)), (10, .int w), (0, .ref o), (1, .ref b), (2, .int (nI fr)), (3, .int (nI ac)), (4, .int ft), (5, .int eg), (6, .int wy), (7, .int (nI sec)), (8, .int (nI n8)), (9, .int (nI a))] → W p l e R s m args below meth c H locs cells slots Q (F0 m 184 ls []) := by
            intro ls hl
            refine lv_iload S.1 S.2.1 dL_skates_184 (lv_at hl 2 rfl) ?_
            refine lv_iconst (v := 2) S.1 S.2.1 dL_skates_186 (by decide) ?_
            refine nj (J := 211) (V := ((if (nI kd) = 2 then (1 - ft) else ((if (nI kd) = 3 then (1 - ft) else ((if (nI kd) = 5 then (1 - ft) else ft) : Int32)) : Int32)) : Int32)) (L := fun v187_8 => [(14, .int (canV ft eg wy (nI kd))), (13, .int ((if ft = 1 then ((if eg = 1 then ((if wy = 1 then 1 else 0) : Int32) else 0) : Int32) else 0) : Int32)), (12, .int (nI kd)), (11, .int (nI wh)), (10, .int w), (0, .ref o), (1, .ref b), (2, .int (nI fr)), (3, .int (nI ac)), (4, .int ft), (5, .int eg), (6, .int wy), (7, .int (nI sec)), (8, .int (nI n8)), (9, .int (nI a))]) (St := fun v187_8 => [.int v187_8]) (n := 15) (fun v187_8 ls h187_10 hl => ?_) (fun j187_9 => ?_)
            · try dsimp only at hl ⊢
              subst h187_10
              refine nt_i (y := (tF (nI kd) ft)) (tF_eq hkd ft) ?_
              refine lv_istore (lv' := [(4, .int (tF (nI kd) ft)), (14, .int (canV ft eg wy (nI kd))), (13, .int ((if ft = 1 then ((if eg = 1 then ((if wy = 1 then 1 else 0) : Int32) else 0) : Int32) else 0) : Int32)), (12, .int (nI kd)), (11, .int (nI wh)), (10, .int w), (0, .ref o), (1, .ref b), (2, .int (nI fr)), (3, .int (nI ac)), (5, .int eg), (6, .int wy), (7, .int (nI sec)), (8, .int (nI n8)), (9, .int (nI a))]) S.1 S.2.1 dL_skates_211 hl (by decide) rfl (fun ls hl => ?_)
              refine lv_iload S.1 S.2.1 dL_skates_213 (lv_at hl 3 rfl) ?_
              refine nj (J := 239) (V := ((if (nI kd) = 0 then (1 - eg) else ((if (nI kd) = 3 then (1 - eg) else ((if (nI kd) = 4 then (1 - eg) else eg) : Int32)) : Int32)) : Int32)) (L := fun v215_11 => [(4, .int (tF (nI kd) ft)), (14, .int (canV ft eg wy (nI kd))), (13, .int ((if ft = 1 then ((if eg = 1 then ((if wy = 1 then 1 else 0) : Int32) else 0) : Int32) else 0) : Int32)), (12, .int (nI kd)), (11, .int (nI wh)), (10, .int w), (0, .ref o), (1, .ref b), (2, .int (nI fr)), (3, .int (nI ac)), (5, .int eg), (6, .int wy), (7, .int (nI sec)), (8, .int (nI n8)), (9, .int (nI a))]) (St := fun v215_11 => [.int v215_11]) (n := 15) (fun v215_11 ls h215_13 hl => ?_) (fun j215_12 => ?_)
              · try dsimp only at hl ⊢
                subst h215_13
                refine nt_i (y := (tG (nI kd) eg)) (tG_eq hkd eg) ?_
                refine lv_istore (lv' := [(5, .int (tG (nI kd) eg)), (4, .int (tF (nI kd) ft)), (14, .int (canV ft eg wy (nI kd))), (13, .int ((if ft = 1 then ((if eg = 1 then ((if wy = 1 then 1 else 0) : Int32) else 0) : Int32) else 0) : Int32)), (12, .int (nI kd)), (11, .int (nI wh)), (10, .int w), (0, .ref o), (1, .ref b), (2, .int (nI fr)), (3, .int (nI ac)), (6, .int wy), (7, .int (nI sec)), (8, .int (nI n8)), (9, .int (nI a))]) S.1 S.2.1 dL_skates_239 hl (by decide) rfl (fun ls hl => ?_)
                refine lv_iload S.1 S.2.1 dL_skates_241 (lv_at hl 4 rfl) ?_
                refine lv_iconst (v := 4) S.1 S.2.1 dL_skates_243 (by decide) ?_
                refine nj (J := 256) (V := ((if 4 ≤ (nI kd) then wy else (1 - wy)) : Int32)) (L := fun v244_14 => [(5, .int (tG (nI kd) eg)), (4, .int (tF (nI kd) ft)), (14, .int (canV ft eg wy (nI kd))), (13, .int ((if ft = 1 then ((if eg = 1 then ((if wy = 1 then 1 else 0) : Int32) else 0) : Int32) else 0) : Int32)), (12, .int (nI kd)), (11, .int (nI wh)), (10, .int w), (0, .ref o), (1, .ref b), (2, .int (nI fr)), (3, .int (nI ac)), (6, .int wy), (7, .int (nI sec)), (8, .int (nI n8)), (9, .int (nI a))]) (St := fun v244_14 => [.int v244_14]) (n := 15) (fun v244_14 ls h244_16 hl => ?_) (fun j244_15 => ?_)
                · try dsimp only at hl ⊢
                  subst h244_16
                  refine nt_i (y := (tW (nI kd) wy)) (tW_eq hkd wy) ?_
                  refine lv_istore (lv' := [(6, .int (tW (nI kd) wy)), (5, .int (tG (nI kd) eg)), (4, .int (tF (nI kd) ft)), (14, .int (canV ft eg wy (nI kd))), (13, .int ((if ft = 1 then ((if eg = 1 then ((if wy = 1 then 1 else 0) : Int32) else 0) : Int32) else 0) : Int32)), (12, .int (nI kd)), (11, .int (nI wh)), (10, .int w), (0, .ref o), (1, .ref b), (2, .int (nI fr)), (3, .int (nI ac)), (7, .int (nI sec)), (8, .int (nI n8)), (9, .int (nI a))]) S.1 S.2.1 dL_skates_256 hl (by decide) rfl (fun ls hl => ?_)
                  refine lv_iload S.1 S.2.1 dL_skates_258 (lv_at hl 12 rfl) ?_
                  refine lv_aload_n S.1 S.2.1 dL_skates_260 rfl (lv_at hl 8 rfl) ?_
                  refine lv_iload S.1 S.2.1 dL_skates_261 (lv_at hl 5 rfl) ?_
                  obtain ⟨u1, u2, V1, t4, t5, t6, t7⟩ := V_turn V hkd h7 hs2
                  rw [h4] at t4; rw [h5] at t5; rw [h6] at t6
                  refine la_turn Z W0 hS V u1 hl.1 (Nat.le_of_ble_eq_true rfl) dL_skates_263 ⟨by omega, by omega⟩ (fun H locs W0 hS => ?_)
                  refine nt_i (y := (((4 * (tF (nI kd) ft)) + (2 * (tG (nI kd) eg))) + (tW (nI kd) wy))) (by rw [u2, h4, h5, h6]) ?_
                  refine lv_iconst (v := 4) S.1 S.2.1 dL_skates_266 (by decide) ?_
                  refine lv_iload S.1 S.2.1 dL_skates_267 (lv_at hl 2 rfl) ?_
                  refine lv_imul S.1 S.2.1 dL_skates_269 ?_
                  refine lv_iconst (v := 2) S.1 S.2.1 dL_skates_270 (by decide) ?_
                  refine lv_iload S.1 S.2.1 dL_skates_271 (lv_at hl 1 rfl) ?_
                  refine lv_imul S.1 S.2.1 dL_skates_273 ?_
                  refine lv_iadd S.1 S.2.1 dL_skates_274 ?_
                  refine lv_iload S.1 S.2.1 dL_skates_275 (lv_at hl 0 rfl) ?_
                  refine lv_iadd S.1 S.2.1 dL_skates_277 ?_
                  refine lv_icmp_ne (tgt := 285) S.1 S.2.1 dL_skates_278 (by decide) (fun c9 => absurd (rfl) c9) (fun _ => ?_)
                  refine lv_iconst (v := 2) S.1 S.2.1 dL_skates_281 (by decide) ?_
                  refine lv_goto (tgt := 287) S.1 S.2.1 dL_skates_282 (by decide) ?_
                  refine lv_iadd S.1 S.2.1 dL_skates_287 ?_
                  refine nt_i (y := nI (sec + 2)) (nI_add sec 2) ?_
                  refine lv_istore (lv' := [(7, .int (nI (sec + 2))), (6, .int (tW (nI kd) wy)), (5, .int (tG (nI kd) eg)), (4, .int (tF (nI kd) ft)), (14, .int (canV ft eg wy (nI kd))), (13, .int ((if ft = 1 then ((if eg = 1 then ((if wy = 1 then 1 else 0) : Int32) else 0) : Int32) else 0) : Int32)), (12, .int (nI kd)), (11, .int (nI wh)), (10, .int w), (0, .ref o), (1, .ref b), (2, .int (nI fr)), (3, .int (nI ac)), (8, .int (nI n8)), (9, .int (nI a))]) S.1 S.2.1 dL_skates_288 hl (by decide) rfl (fun ls hl => ?_)
                  refine lv_goto (tgt := 441) S.1 S.2.1 dL_skates_290 (by decide) ?_
                  refine lv_iinc (v := nI (a + 1)) (lv' := [(9, .int (nI (a + 1))), (7, .int (nI (sec + 2))), (6, .int (tW (nI kd) wy)), (5, .int (tG (nI kd) eg)), (4, .int (tF (nI kd) ft)), (14, .int (canV ft eg wy (nI kd))), (13, .int ((if ft = 1 then ((if eg = 1 then ((if wy = 1 then 1 else 0) : Int32) else 0) : Int32) else 0) : Int32)), (12, .int (nI kd)), (11, .int (nI wh)), (10, .int w), (0, .ref o), (1, .ref b), (2, .int (nI fr)), (3, .int (nI ac)), (8, .int (nI n8))]) S.1 S.2.1 dL_skates_441 hl (k := 14) rfl (nI_add a 1) (by decide) rfl (fun ls hl => ?_)
                  refine lv_goto (tgt := 18) S.1 S.2.1 dL_skates_444 (by decide) ?_
                  exact ih (a + 1) (sec + 2) (tF (nI kd) ft) (tG (nI kd) eg) (tW (nI kd) wy) (n8) cnt _ H locs ls _ _ (by omega) ⟨by omega, by omega⟩ W0 V1 hcn h8 t4 t5 t6 t7 (by omega) hS (lv_sub hl [10, 11, 12, 13, 4, 3, 2, 1, 14, 0] rfl)
                · refine lv_icmp_ge (tgt := 254) S.1 S.2.1 dL_skates_244 (by decide) (fun c244_17 => ?_) (fun c244_17 => ?_)
                  · refine lv_iload S.1 S.2.1 dL_skates_254 (lv_at hl 11 rfl) ?_
                    exact j244_15 _ _ (by first | (rw [if_pos c244_17]; done) | (simp only [if_pos c244_17]; done) | rfl) (lv_sub hl [0, 1, 2, 3, 4, 5, 6, 7, 8, 9, 10, 11, 12, 13, 14] rfl)
                  · refine lv_iconst (v := 1) S.1 S.2.1 dL_skates_247 (by decide) ?_
                    refine lv_iload S.1 S.2.1 dL_skates_248 (lv_at hl 11 rfl) ?_
                    refine lv_isub S.1 S.2.1 dL_skates_250 ?_
                    refine lv_goto (tgt := 256) S.1 S.2.1 dL_skates_251 (by decide) ?_
                    exact j244_15 _ _ (by first | (rw [if_neg c244_17]; done) | (simp only [if_neg c244_17]; done) | rfl) (lv_sub hl [0, 1, 2, 3, 4, 5, 6, 7, 8, 9, 10, 11, 12, 13, 14] rfl)
              · refine lv_if_eq (tgt := 230) S.1 S.2.1 dL_skates_215 (by decide) (fun c215_18 => ?_) (fun c215_18 => ?_)
                · refine lv_iconst (v := 1) S.1 S.2.1 dL_skates_230 (by decide) ?_
                  refine lv_iload S.1 S.2.1 dL_skates_231 (lv_at hl 10 rfl) ?_
                  refine lv_isub S.1 S.2.1 dL_skates_233 ?_
                  refine lv_goto (tgt := 239) S.1 S.2.1 dL_skates_234 (by decide) ?_
                  exact j215_12 _ _ (by first | (rw [if_pos c215_18]; done) | (simp only [if_pos c215_18]; done) | rfl) (lv_sub hl [0, 1, 2, 3, 4, 5, 6, 7, 8, 9, 10, 11, 12, 13, 14] rfl)
                · refine lv_iload S.1 S.2.1 dL_skates_218 (lv_at hl 3 rfl) ?_
                  refine lv_iconst (v := 3) S.1 S.2.1 dL_skates_220 (by decide) ?_
                  refine lv_icmp_eq (tgt := 230) S.1 S.2.1 dL_skates_221 (by decide) (fun c221_19 => ?_) (fun c221_19 => ?_)
                  · refine lv_iconst (v := 1) S.1 S.2.1 dL_skates_230 (by decide) ?_
                    refine lv_iload S.1 S.2.1 dL_skates_231 (lv_at hl 10 rfl) ?_
                    refine lv_isub S.1 S.2.1 dL_skates_233 ?_
                    refine lv_goto (tgt := 239) S.1 S.2.1 dL_skates_234 (by decide) ?_
                    exact j215_12 _ _ (by first | (rw [if_neg c215_18, if_pos c221_19]; done) | (simp only [if_neg c215_18, if_pos c221_19]; done) | rfl) (lv_sub hl [0, 1, 2, 3, 4, 5, 6, 7, 8, 9, 10, 11, 12, 13, 14] rfl)
                  · refine lv_iload S.1 S.2.1 dL_skates_224 (lv_at hl 3 rfl) ?_
                    refine lv_iconst (v := 4) S.1 S.2.1 dL_skates_226 (by decide) ?_
                    refine lv_icmp_ne (tgt := 237) S.1 S.2.1 dL_skates_227 (by decide) (fun c227_20 => ?_) (fun c227_20 => ?_)
                    · refine lv_iload S.1 S.2.1 dL_skates_237 (lv_at hl 10 rfl) ?_
                      exact j215_12 _ _ (by first | (rw [if_neg c215_18, if_neg c221_19, if_neg c227_20]; done) | (simp only [if_neg c215_18, if_neg c221_19, if_neg c227_20]; done) | rfl) (lv_sub hl [0, 1, 2, 3, 4, 5, 6, 7, 8, 9, 10, 11, 12, 13, 14] rfl)
                    · refine lv_iconst (v := 1) S.1 S.2.1 dL_skates_230 (by decide) ?_
                      refine lv_iload S.1 S.2.1 dL_skates_231 (lv_at hl 10 rfl) ?_
                      refine lv_isub S.1 S.2.1 dL_skates_233 ?_
                      refine lv_goto (tgt := 239) S.1 S.2.1 dL_skates_234 (by decide) ?_
                      exact j215_12 _ _ (by first | (rw [if_neg c215_18, if_neg c221_19, if_pos c227_20]; done) | (simp only [if_neg c215_18, if_neg c221_19, if_pos c227_20]; done) | rfl) (lv_sub hl [0, 1, 2, 3, 4, 5, 6, 7, 8, 9, 10, 11, 12, 13, 14] rfl)
            · refine lv_icmp_eq (tgt := 202) S.1 S.2.1 dL_skates_187 (by decide) (fun c187_21 => ?_) (fun c187_21 => ?_)
              · refine lv_iconst (v := 1) S.1 S.2.1 dL_skates_202 (by decide) ?_
                refine lv_iload S.1 S.2.1 dL_skates_203 (lv_at hl 9 rfl) ?_
                refine lv_isub S.1 S.2.1 dL_skates_205 ?_
                refine lv_goto (tgt := 211) S.1 S.2.1 dL_skates_206 (by decide) ?_
                exact j187_9 _ _ (by first | (rw [if_pos c187_21]; done) | (simp only [if_pos c187_21]; done) | rfl) (lv_sub hl [0, 1, 2, 3, 4, 5, 6, 7, 8, 9, 10, 11, 12, 13, 14] rfl)
              · refine lv_iload S.1 S.2.1 dL_skates_190 (lv_at hl 2 rfl) ?_
                refine lv_iconst (v := 3) S.1 S.2.1 dL_skates_192 (by decide) ?_
                refine lv_icmp_eq (tgt := 202) S.1 S.2.1 dL_skates_193 (by decide) (fun c193_22 => ?_) (fun c193_22 => ?_)
                · refine lv_iconst (v := 1) S.1 S.2.1 dL_skates_202 (by decide) ?_
                  refine lv_iload S.1 S.2.1 dL_skates_203 (lv_at hl 9 rfl) ?_
                  refine lv_isub S.1 S.2.1 dL_skates_205 ?_
                  refine lv_goto (tgt := 211) S.1 S.2.1 dL_skates_206 (by decide) ?_
                  exact j187_9 _ _ (by first | (rw [if_neg c187_21, if_pos c193_22]; done) | (simp only [if_neg c187_21, if_pos c193_22]; done) | rfl) (lv_sub hl [0, 1, 2, 3, 4, 5, 6, 7, 8, 9, 10, 11, 12, 13, 14] rfl)
                · refine lv_iload S.1 S.2.1 dL_skates_196 (lv_at hl 2 rfl) ?_
                  refine lv_iconst (v := 5) S.1 S.2.1 dL_skates_198 (by decide) ?_
                  refine lv_icmp_ne (tgt := 209) S.1 S.2.1 dL_skates_199 (by decide) (fun c199_23 => ?_) (fun c199_23 => ?_)
                  · refine lv_iload S.1 S.2.1 dL_skates_209 (lv_at hl 9 rfl) ?_
                    exact j187_9 _ _ (by first | (rw [if_neg c187_21, if_neg c193_22, if_neg c199_23]; done) | (simp only [if_neg c187_21, if_neg c193_22, if_neg c199_23]; done) | rfl) (lv_sub hl [0, 1, 2, 3, 4, 5, 6, 7, 8, 9, 10, 11, 12, 13, 14] rfl)
                  · refine lv_iconst (v := 1) S.1 S.2.1 dL_skates_202 (by decide) ?_
                    refine lv_iload S.1 S.2.1 dL_skates_203 (lv_at hl 9 rfl) ?_
                    refine lv_isub S.1 S.2.1 dL_skates_205 ?_
                    refine lv_goto (tgt := 211) S.1 S.2.1 dL_skates_206 (by decide) ?_
                    exact j187_9 _ _ (by first | (rw [if_neg c187_21, if_neg c193_22, if_pos c199_23]; done) | (simp only [if_neg c187_21, if_neg c193_22, if_pos c199_23]; done) | rfl) (lv_sub hl [0, 1, 2, 3, 4, 5, 6, 7, 8, 9, 10, 11, 12, 13, 14] rfl)
          refine lv_iload S.1 S.2.1 dL_skates_160 (lv_at hl 3 rfl) ?_
          refine lv_iconst (v := 2) S.1 S.2.1 dL_skates_162 (by decide) ?_
          refine lv_icmp_lt (tgt := 184) S.1 S.2.1 dL_skates_163 (by decide) (fun c163_24 => ?_) (fun c163_24 => ?_)
          · exact htn ls (lv_sub hl [0, 1, 2, 3, 4, 5, 6, 7, 8, 9, 10, 11, 12, 13, 14] rfl)
          · refine lv_iload S.1 S.2.1 dL_skates_166 (lv_at hl 13 rfl) ?_
            refine lv_bipush (v := 12) S.1 S.2.1 dL_skates_168 (by decide) ?_
            refine lv_icmp_eq (tgt := 184) S.1 S.2.1 dL_skates_170 (by decide) (fun c170_25 => ?_) (fun c170_25 => ?_)
            · exact htn ls (lv_sub hl [0, 1, 2, 3, 4, 5, 6, 7, 8, 9, 10, 11, 12, 13, 14] rfl)
            · have hn : n8 < 12 := by
                have : ¬ n8 = 12 := fun z => c170_25 (by rw [z]; rfl)
                omega
              refine lv_iload S.1 S.2.1 dL_skates_173 (lv_at hl 3 rfl) ?_
              refine lv_iconst (v := 2) S.1 S.2.1 dL_skates_175 (by decide) ?_
              refine lv_icmp_ne (tgt := 293) S.1 S.2.1 dL_skates_176 (by decide) (fun c176_26 => ?_) (fun c176_26 => ?_)
              · refine lv_iload S.1 S.2.1 dL_skates_293 (lv_at hl 3 rfl) ?_
                refine lv_iconst (v := 2) S.1 S.2.1 dL_skates_295 (by decide) ?_
                refine lv_icmp_ne (tgt := 388) S.1 S.2.1 dL_skates_296 (by decide) (fun _ => ?_) (fun c9 => absurd c9 (c176_26))
                refine lv_iload S.1 S.2.1 dL_skates_388 (lv_at hl 12 rfl) ?_
                refine lv_aload_n S.1 S.2.1 dL_skates_390 rfl (lv_at hl 5 rfl) ?_
                refine lv_iload S.1 S.2.1 dL_skates_391 (lv_at hl 4 rfl) ?_
                refine lv_iconst (v := 5) S.1 S.2.1 dL_skates_393 (by decide) ?_
                refine lv_ishr S.1 S.2.1 dL_skates_394 ?_
                refine lv_bipush (v := 64) S.1 S.2.1 dL_skates_395 (by decide) ?_
                refine nc_rS S KS0.1 hS (As := [.int (w >>> (5 &&& 31)), .int 64]) (m_low l (w >>> (5 &&& 31)) 64 (by decide) (by decide)) k2_195 k2_196 k1_0 k2_197 (num := 2) (by decide +kernel) rfl ⟨by omega, by omega⟩ hl.1 rfl (Nat.le_of_ble_eq_true rfl) dL_skates_397 ⟨by omega, by omega⟩ ?_
                have hff : lowN (w >>> (5 &&& 31)) 64 < 64 := lowN_lt _ (by decide)
                generalize lowN (w >>> (5 &&& 31)) 64 = ff at hff ⊢
                refine lv_iconst (v := 1) S.1 S.2.1 dL_skates_400 (by decide) ?_
                refine lv_iload S.1 S.2.1 dL_skates_401 (lv_at hl 4 rfl) ?_
                refine lv_iconst (v := 3) S.1 S.2.1 dL_skates_403 (by decide) ?_
                refine lv_ishr S.1 S.2.1 dL_skates_404 ?_
                refine lv_bipush (v := 20) S.1 S.2.1 dL_skates_405 (by decide) ?_
                refine nc_rS S KS0.1 hS (As := [.int (w >>> (3 &&& 31)), .int 20]) (m_low l (w >>> (3 &&& 31)) 20 (by decide) (by decide)) k2_195 k2_196 k1_0 k2_197 (num := 2) (by decide +kernel) rfl ⟨by omega, by omega⟩ hl.1 rfl (Nat.le_of_ble_eq_true rfl) dL_skates_407 ⟨by omega, by omega⟩ ?_
                have hrn : lowN (w >>> (3 &&& 31)) 20 < 20 := lowN_lt _ (by decide)
                generalize lowN (w >>> (3 &&& 31)) 20 = rn at hrn ⊢
                refine lv_iadd S.1 S.2.1 dL_skates_410 ?_
                refine nt_i (y := nI (1 + rn)) (nI_add 1 rn) ?_
                subst h8
                obtain ⟨u1, u2, V1, t4, t5, t6, t7⟩ := V_spin V (f := ff) (r := 1 + rn) hff (by omega) (by omega) hn h7 hs2
                refine la_spin Z W0 hS V u1 hn hl.1 (Nat.le_of_ble_eq_true rfl) dL_skates_411 ⟨by omega, by omega⟩ (fun H locs W0 hS => ?_)
                refine nt_i (y := (nI (cnt en))) (u2) ?_
                refine lv_iload S.1 S.2.1 dL_skates_414 (lv_at hl 13 rfl) ?_
                refine lv_icmp_ne (tgt := 424) S.1 S.2.1 dL_skates_416 (by decide) (fun c9 => absurd (rfl) c9) (fun _ => ?_)
                refine lv_bipush (v := 10) S.1 S.2.1 dL_skates_419 (by decide) ?_
                refine lv_goto (tgt := 426) S.1 S.2.1 dL_skates_421 (by decide) ?_
                refine lv_iadd S.1 S.2.1 dL_skates_426 ?_
                refine nt_i (y := nI (sec + 10)) (nI_add sec 10) ?_
                refine lv_istore (lv' := [(7, .int (nI (sec + 10))), (14, .int (canV ft eg wy (nI kd))), (13, .int ((if ft = 1 then ((if eg = 1 then ((if wy = 1 then 1 else 0) : Int32) else 0) : Int32) else 0) : Int32)), (12, .int (nI kd)), (11, .int (nI wh)), (10, .int w), (0, .ref o), (1, .ref b), (2, .int (nI fr)), (3, .int (nI ac)), (4, .int ft), (5, .int eg), (6, .int wy), (8, .int (nI (cnt en))), (9, .int (nI a))]) S.1 S.2.1 dL_skates_427 hl (by decide) rfl (fun ls hl => ?_)
                refine lv_iinc (v := nI ((cnt en) + 1)) (lv' := [(8, .int (nI ((cnt en) + 1))), (7, .int (nI (sec + 10))), (14, .int (canV ft eg wy (nI kd))), (13, .int ((if ft = 1 then ((if eg = 1 then ((if wy = 1 then 1 else 0) : Int32) else 0) : Int32) else 0) : Int32)), (12, .int (nI kd)), (11, .int (nI wh)), (10, .int w), (0, .ref o), (1, .ref b), (2, .int (nI fr)), (3, .int (nI ac)), (4, .int ft), (5, .int eg), (6, .int wy), (9, .int (nI a))]) S.1 S.2.1 dL_skates_429 hl (k := 13) rfl (nI_add (cnt en) 1) (by decide) rfl (fun ls hl => ?_)
                refine lv_iconst (v := 0) S.1 S.2.1 dL_skates_432 (by decide) ?_
                refine lv_istore (lv' := [(4, .int 0), (8, .int (nI ((cnt en) + 1))), (7, .int (nI (sec + 10))), (14, .int (canV ft eg wy (nI kd))), (13, .int ((if ft = 1 then ((if eg = 1 then ((if wy = 1 then 1 else 0) : Int32) else 0) : Int32) else 0) : Int32)), (12, .int (nI kd)), (11, .int (nI wh)), (10, .int w), (0, .ref o), (1, .ref b), (2, .int (nI fr)), (3, .int (nI ac)), (5, .int eg), (6, .int wy), (9, .int (nI a))]) S.1 S.2.1 dL_skates_433 hl (by decide) rfl (fun ls hl => ?_)
                refine lv_iconst (v := 1) S.1 S.2.1 dL_skates_435 (by decide) ?_
                refine lv_istore (lv' := [(5, .int 1), (4, .int 0), (8, .int (nI ((cnt en) + 1))), (7, .int (nI (sec + 10))), (14, .int (canV ft eg wy (nI kd))), (13, .int ((if ft = 1 then ((if eg = 1 then ((if wy = 1 then 1 else 0) : Int32) else 0) : Int32) else 0) : Int32)), (12, .int (nI kd)), (11, .int (nI wh)), (10, .int w), (0, .ref o), (1, .ref b), (2, .int (nI fr)), (3, .int (nI ac)), (6, .int wy), (9, .int (nI a))]) S.1 S.2.1 dL_skates_436 hl (by decide) rfl (fun ls hl => ?_)
                refine lv_iconst (v := 1) S.1 S.2.1 dL_skates_438 (by decide) ?_
                refine lv_istore (lv' := [(6, .int 1), (5, .int 1), (4, .int 0), (8, .int (nI ((cnt en) + 1))), (7, .int (nI (sec + 10))), (14, .int (canV ft eg wy (nI kd))), (13, .int ((if ft = 1 then ((if eg = 1 then ((if wy = 1 then 1 else 0) : Int32) else 0) : Int32) else 0) : Int32)), (12, .int (nI kd)), (11, .int (nI wh)), (10, .int w), (0, .ref o), (1, .ref b), (2, .int (nI fr)), (3, .int (nI ac)), (9, .int (nI a))]) S.1 S.2.1 dL_skates_439 hl (by decide) rfl (fun ls hl => ?_)
                refine lv_iinc (v := nI (a + 1)) (lv' := [(9, .int (nI (a + 1))), (6, .int 1), (5, .int 1), (4, .int 0), (8, .int (nI ((cnt en) + 1))), (7, .int (nI (sec + 10))), (14, .int (canV ft eg wy (nI kd))), (13, .int ((if ft = 1 then ((if eg = 1 then ((if wy = 1 then 1 else 0) : Int32) else 0) : Int32) else 0) : Int32)), (12, .int (nI kd)), (11, .int (nI wh)), (10, .int w), (0, .ref o), (1, .ref b), (2, .int (nI fr)), (3, .int (nI ac))]) S.1 S.2.1 dL_skates_441 hl (k := 14) rfl (nI_add a 1) (by decide) rfl (fun ls hl => ?_)
                refine lv_goto (tgt := 18) S.1 S.2.1 dL_skates_444 (by decide) ?_
                exact ih (a + 1) (sec + 10) 0 1 1 (cnt en + 1) (cx1 cnt en) _ H locs ls _ _ (by omega) ⟨by omega, by omega⟩ W0 V1 (fun k hk => (if_neg hk).trans (hcn k hk)) (if_pos rfl) t4 t5 t6 t7 (by omega) hS (lv_sub hl [11, 12, 13, 14, 3, 2, 1, 5, 4, 0] rfl)
              · refine lv_iload S.1 S.2.1 dL_skates_179 (lv_at hl 0 rfl) ?_
                refine lv_if_ne (tgt := 293) S.1 S.2.1 dL_skates_181 (by decide) (fun c181_27 => ?_) (fun c181_27 => ?_)
                · refine lv_iload S.1 S.2.1 dL_skates_293 (lv_at hl 3 rfl) ?_
                  refine lv_iconst (v := 2) S.1 S.2.1 dL_skates_295 (by decide) ?_
                  refine lv_icmp_ne (tgt := 388) S.1 S.2.1 dL_skates_296 (by decide) (fun c9 => absurd (c176_26) c9) (fun _ => ?_)
                  refine lv_iload S.1 S.2.1 dL_skates_299 (lv_at hl 12 rfl) ?_
                  refine lv_aload_n S.1 S.2.1 dL_skates_301 rfl (lv_at hl 5 rfl) ?_
                  refine lv_iload S.1 S.2.1 dL_skates_302 (lv_at hl 2 rfl) ?_
                  refine lv_iconst (v := 1) S.1 S.2.1 dL_skates_304 (by decide) ?_
                  refine lv_iload S.1 S.2.1 dL_skates_305 (lv_at hl 4 rfl) ?_
                  refine lv_bipush (v := 7) S.1 S.2.1 dL_skates_307 (by decide) ?_
                  refine lv_ishr S.1 S.2.1 dL_skates_309 ?_
                  refine lv_iconst (v := 4) S.1 S.2.1 dL_skates_310 (by decide) ?_
                  refine nc_rS S KS0.1 hS (As := [.int (w >>> (7 &&& 31)), .int 4]) (m_low l (w >>> (7 &&& 31)) 4 (by decide) (by decide)) k2_195 k2_196 k1_0 k2_197 (num := 2) (by decide +kernel) rfl ⟨by omega, by omega⟩ hl.1 rfl (Nat.le_of_ble_eq_true rfl) dL_skates_311 ⟨by omega, by omega⟩ ?_
                  have htn : lowN (w >>> (7 &&& 31)) 4 < 4 := lowN_lt _ (by decide)
                  generalize lowN (w >>> (7 &&& 31)) 4 = tn at htn ⊢
                  refine lv_iadd S.1 S.2.1 dL_skates_314 ?_
                  refine nt_i (y := nI (1 + tn)) (nI_add 1 tn) ?_
                  refine lv_iload S.1 S.2.1 dL_skates_315 (lv_at hl 4 rfl) ?_
                  refine lv_bipush (v := 9) S.1 S.2.1 dL_skates_317 (by decide) ?_
                  refine lv_ishr S.1 S.2.1 dL_skates_319 ?_
                  refine lv_iconst (v := 5) S.1 S.2.1 dL_skates_320 (by decide) ?_
                  refine nc_rS S KS0.1 hS (As := [.int (w >>> (9 &&& 31)), .int 5]) (m_low l (w >>> (9 &&& 31)) 5 (by decide) (by decide)) k2_195 k2_196 k1_0 k2_197 (num := 2) (by decide +kernel) rfl ⟨by omega, by omega⟩ hl.1 rfl (Nat.le_of_ble_eq_true rfl) dL_skates_321 ⟨by omega, by omega⟩ ?_
                  have hua : lowN (w >>> (9 &&& 31)) 5 < 5 := lowN_lt _ (by decide)
                  generalize lowN (w >>> (9 &&& 31)) 5 = ua at hua ⊢
                  refine nj (J := 332) (V := ((if (nI ua) = 0 then 1 else 0) : Int32)) (L := fun v324_28 => [(14, .int (canV ft eg wy (nI kd))), (13, .int ((if ft = 1 then ((if eg = 1 then ((if wy = 1 then 1 else 0) : Int32) else 0) : Int32) else 0) : Int32)), (12, .int (nI kd)), (11, .int (nI wh)), (10, .int w), (0, .ref o), (1, .ref b), (2, .int (nI fr)), (3, .int (nI ac)), (4, .int ft), (5, .int eg), (6, .int wy), (7, .int (nI sec)), (8, .int (nI n8)), (9, .int (nI a))]) (St := fun v324_28 => [.int v324_28, .int (nI (1 + tn)), .int (nI kd), .ref o, .int (nI sec)]) (n := 15) (fun v324_28 ls h324_30 hl => ?_) (fun j324_29 => ?_)
                  · try dsimp only at hl ⊢
                    subst h324_30
                    have hcan := can_ok (C := C) (k := en) hkd h4 h5 h6 c181_27
                    subst h8
                    obtain ⟨u1, u2, V1, t4, t5, t6, t7, t0⟩ := V_jump V (t := 1 + tn) (p2 := ((if (nI ua) = 0 then 1 else 0) : Int32)) hkd (by omega) (by omega) hn h7 hs2 hcan
                    refine la_jump Z W0 hS V u1 hn (by split <;> first | exact Or.inl rfl | exact Or.inr rfl) hl.1 (Nat.le_of_ble_eq_true rfl) dL_skates_332 ⟨by omega, by omega⟩ (fun H locs W0 hS => ?_)
                    refine nt_i (y := (nI (cnt en))) (u2) ?_
                    refine lv_iload S.1 S.2.1 dL_skates_335 (lv_at hl 13 rfl) ?_
                    refine lv_icmp_ne (tgt := 344) S.1 S.2.1 dL_skates_337 (by decide) (fun c9 => absurd (rfl) c9) (fun _ => ?_)
                    refine lv_iconst (v := 4) S.1 S.2.1 dL_skates_340 (by decide) ?_
                    refine lv_goto (tgt := 346) S.1 S.2.1 dL_skates_341 (by decide) ?_
                    refine lv_iadd S.1 S.2.1 dL_skates_346 ?_
                    refine nt_i (y := nI (sec + 4)) (nI_add sec 4) ?_
                    refine lv_istore (lv' := [(7, .int (nI (sec + 4))), (14, .int (canV ft eg wy (nI kd))), (13, .int ((if ft = 1 then ((if eg = 1 then ((if wy = 1 then 1 else 0) : Int32) else 0) : Int32) else 0) : Int32)), (12, .int (nI kd)), (11, .int (nI wh)), (10, .int w), (0, .ref o), (1, .ref b), (2, .int (nI fr)), (3, .int (nI ac)), (4, .int ft), (5, .int eg), (6, .int wy), (8, .int (nI (cnt en))), (9, .int (nI a))]) S.1 S.2.1 dL_skates_347 hl (by decide) rfl (fun ls hl => ?_)
                    refine lv_aload_n S.1 S.2.1 dL_skates_349 rfl (lv_at hl 6 rfl) ?_
                    refine lv_iload S.1 S.2.1 dL_skates_350 (lv_at hl 5 rfl) ?_
                    refine lv_iconst (v := 3) S.1 S.2.1 dL_skates_352 (by decide) ?_
                    refine lv_ishr S.1 S.2.1 dL_skates_353 ?_
                    refine lv_iconst (v := 3) S.1 S.2.1 dL_skates_354 (by decide) ?_
                    refine nc_rS S KS0.1 hS (As := [.int (w >>> (3 &&& 31)), .int 3]) (m_low l (w >>> (3 &&& 31)) 3 (by decide) (by decide)) k2_195 k2_196 k1_0 k2_197 (num := 2) (by decide +kernel) rfl ⟨by omega, by omega⟩ hl.1 rfl (Nat.le_of_ble_eq_true rfl) dL_skates_355 ⟨by omega, by omega⟩ ?_
                    have hca : lowN (w >>> (3 &&& 31)) 3 < 3 := lowN_lt _ (by decide)
                    generalize lowN (w >>> (3 &&& 31)) 3 = ca at hca ⊢
                    refine lv_iload S.1 S.2.1 dL_skates_358 (lv_at hl 13 rfl) ?_
                    refine lv_iload S.1 S.2.1 dL_skates_360 (lv_at hl 5 rfl) ?_
                    refine lv_bipush (v := 6) S.1 S.2.1 dL_skates_362 (by decide) ?_
                    refine lv_ishr S.1 S.2.1 dL_skates_364 ?_
                    refine lv_iconst (v := 5) S.1 S.2.1 dL_skates_365 (by decide) ?_
                    refine nc_rS S KS0.1 hS (As := [.int (w >>> (6 &&& 31)), .int 5]) (m_low l (w >>> (6 &&& 31)) 5 (by decide) (by decide)) k2_195 k2_196 k1_0 k2_197 (num := 2) (by decide +kernel) rfl ⟨by omega, by omega⟩ hl.1 rfl (Nat.le_of_ble_eq_true rfl) dL_skates_366 ⟨by omega, by omega⟩ ?_
                    have hcq : lowN (w >>> (6 &&& 31)) 5 < 5 := lowN_lt _ (by decide)
                    generalize lowN (w >>> (6 &&& 31)) 5 = cq at hcq ⊢
                    obtain ⟨y1, y2⟩ := V_call V1 hca (e := cnt en) (show cnt en < (if en = en then cnt en + 1 else cnt en) by rw [if_pos rfl]; omega) (q := cq) (by omega) t0
                    have V2 := LV_co y2 V1
                    have q4 := (congrFun (y2 (40 + en) (by have := V.on_lt; have := V.s12; omega) (by omega) (by omega) (by omega)) 4).trans t4
                    have q5 := (congrFun (y2 (40 + en) (by have := V.on_lt; have := V.s12; omega) (by omega) (by omega) (by omega)) 5).trans t5
                    have q6 := (congrFun (y2 (40 + en) (by have := V.on_lt; have := V.s12; omega) (by omega) (by omega) (by omega)) 6).trans t6
                    have q7 := (congrFun (y2 (40 + en) (by have := V.on_lt; have := V.s12; omega) (by omega) (by omega) (by omega)) 7).trans t7
                    refine la_call Z W0 hS V1 y1 hl.1 (Nat.le_of_ble_eq_true rfl) dL_skates_369 ⟨by omega, by omega⟩ (fun H locs W0 hS => ?_)
                    refine lv_pop S.1 S.2.1 dL_skates_372 rfl ?_
                    refine lv_iinc (v := nI ((cnt en) + 1)) (lv' := [(8, .int (nI ((cnt en) + 1))), (7, .int (nI (sec + 4))), (14, .int (canV ft eg wy (nI kd))), (13, .int ((if ft = 1 then ((if eg = 1 then ((if wy = 1 then 1 else 0) : Int32) else 0) : Int32) else 0) : Int32)), (12, .int (nI kd)), (11, .int (nI wh)), (10, .int w), (0, .ref o), (1, .ref b), (2, .int (nI fr)), (3, .int (nI ac)), (4, .int ft), (5, .int eg), (6, .int wy), (9, .int (nI a))]) S.1 S.2.1 dL_skates_373 hl (k := 13) rfl (nI_add (cnt en) 1) (by decide) rfl (fun ls hl => ?_)
                    refine lv_iconst (v := 1) S.1 S.2.1 dL_skates_376 (by decide) ?_
                    refine lv_istore (lv' := [(4, .int 1), (8, .int (nI ((cnt en) + 1))), (7, .int (nI (sec + 4))), (14, .int (canV ft eg wy (nI kd))), (13, .int ((if ft = 1 then ((if eg = 1 then ((if wy = 1 then 1 else 0) : Int32) else 0) : Int32) else 0) : Int32)), (12, .int (nI kd)), (11, .int (nI wh)), (10, .int w), (0, .ref o), (1, .ref b), (2, .int (nI fr)), (3, .int (nI ac)), (5, .int eg), (6, .int wy), (9, .int (nI a))]) S.1 S.2.1 dL_skates_377 hl (by decide) rfl (fun ls hl => ?_)
                    refine lv_iconst (v := 1) S.1 S.2.1 dL_skates_379 (by decide) ?_
                    refine lv_istore (lv' := [(5, .int 1), (4, .int 1), (8, .int (nI ((cnt en) + 1))), (7, .int (nI (sec + 4))), (14, .int (canV ft eg wy (nI kd))), (13, .int ((if ft = 1 then ((if eg = 1 then ((if wy = 1 then 1 else 0) : Int32) else 0) : Int32) else 0) : Int32)), (12, .int (nI kd)), (11, .int (nI wh)), (10, .int w), (0, .ref o), (1, .ref b), (2, .int (nI fr)), (3, .int (nI ac)), (6, .int wy), (9, .int (nI a))]) S.1 S.2.1 dL_skates_380 hl (by decide) rfl (fun ls hl => ?_)
                    refine lv_iconst (v := 1) S.1 S.2.1 dL_skates_382 (by decide) ?_
                    refine lv_istore (lv' := [(6, .int 1), (5, .int 1), (4, .int 1), (8, .int (nI ((cnt en) + 1))), (7, .int (nI (sec + 4))), (14, .int (canV ft eg wy (nI kd))), (13, .int ((if ft = 1 then ((if eg = 1 then ((if wy = 1 then 1 else 0) : Int32) else 0) : Int32) else 0) : Int32)), (12, .int (nI kd)), (11, .int (nI wh)), (10, .int w), (0, .ref o), (1, .ref b), (2, .int (nI fr)), (3, .int (nI ac)), (9, .int (nI a))]) S.1 S.2.1 dL_skates_383 hl (by decide) rfl (fun ls hl => ?_)
                    refine lv_goto (tgt := 441) S.1 S.2.1 dL_skates_385 (by decide) ?_
                    refine lv_iinc (v := nI (a + 1)) (lv' := [(9, .int (nI (a + 1))), (6, .int 1), (5, .int 1), (4, .int 1), (8, .int (nI ((cnt en) + 1))), (7, .int (nI (sec + 4))), (14, .int (canV ft eg wy (nI kd))), (13, .int ((if ft = 1 then ((if eg = 1 then ((if wy = 1 then 1 else 0) : Int32) else 0) : Int32) else 0) : Int32)), (12, .int (nI kd)), (11, .int (nI wh)), (10, .int w), (0, .ref o), (1, .ref b), (2, .int (nI fr)), (3, .int (nI ac))]) S.1 S.2.1 dL_skates_441 hl (k := 14) rfl (nI_add a 1) (by decide) rfl (fun ls hl => ?_)
                    refine lv_goto (tgt := 18) S.1 S.2.1 dL_skates_444 (by decide) ?_
                    exact ih (a + 1) (sec + 4) 1 1 1 (cnt en + 1) (cx1 cnt en) _ H locs ls _ _ (by omega) ⟨by omega, by omega⟩ W0 V2 (fun k hk => (if_neg hk).trans (hcn k hk)) (if_pos rfl) q4 q5 q6 q7 (by omega) hS (lv_sub hl [11, 12, 13, 14, 3, 2, 1, 5, 4, 0] rfl)
                  · refine lv_if_ne (tgt := 331) S.1 S.2.1 dL_skates_324 (by decide) (fun c324_31 => ?_) (fun c324_31 => ?_)
                    · refine lv_iconst (v := 0) S.1 S.2.1 dL_skates_331 (by decide) ?_
                      exact j324_29 _ _ (by first | (rw [if_neg c324_31]; done) | (simp only [if_neg c324_31]; done) | rfl) (lv_sub hl [0, 1, 2, 3, 4, 5, 6, 7, 8, 9, 10, 11, 12, 13, 14] rfl)
                    · refine lv_iconst (v := 1) S.1 S.2.1 dL_skates_327 (by decide) ?_
                      refine lv_goto (tgt := 332) S.1 S.2.1 dL_skates_328 (by decide) ?_
                      exact j324_29 _ _ (by first | (rw [if_pos c324_31]; done) | (simp only [if_pos c324_31]; done) | rfl) (lv_sub hl [0, 1, 2, 3, 4, 5, 6, 7, 8, 9, 10, 11, 12, 13, 14] rfl)
                · exact htn ls (lv_sub hl [0, 1, 2, 3, 4, 5, 6, 7, 8, 9, 10, 11, 12, 13, 14] rfl)
        · refine lv_if_eq (tgt := 97) S.1 S.2.1 dL_skates_88 (by decide) (fun c88_32 => ?_) (fun c88_32 => ?_)
          · refine lv_iload S.1 S.2.1 dL_skates_97 (lv_at hl 0 rfl) ?_
            refine lv_goto (tgt := 158) S.1 S.2.1 dL_skates_99 (by decide) ?_
            exact j88_6 _ _ (by first | (rw [if_pos c88_32]; done) | (simp only [if_pos c88_32]; done) | rfl) (lv_sub hl [0, 1, 2, 3, 4, 5, 6, 7, 8, 9, 10, 11, 12, 13] rfl)
          · refine lv_iload S.1 S.2.1 dL_skates_91 (lv_at hl 1 rfl) ?_
            refine lv_iconst (v := 2) S.1 S.2.1 dL_skates_93 (by decide) ?_
            refine lv_icmp_ne (tgt := 102) S.1 S.2.1 dL_skates_94 (by decide) (fun c94_33 => ?_) (fun c94_33 => ?_)
            · refine lv_iload S.1 S.2.1 dL_skates_102 (lv_at hl 8 rfl) ?_
              refine lv_if_ne (tgt := 157) S.1 S.2.1 dL_skates_104 (by decide) (fun c104_34 => ?_) (fun c104_34 => ?_)
              · refine lv_iconst (v := 0) S.1 S.2.1 dL_skates_157 (by decide) ?_
                exact j88_6 _ _ (by first | (rw [if_neg c88_32, if_neg c94_33, if_neg c104_34]; done) | (simp only [if_neg c88_32, if_neg c94_33, if_neg c104_34]; done) | rfl) (lv_sub hl [0, 1, 2, 3, 4, 5, 6, 7, 8, 9, 10, 11, 12, 13] rfl)
              · refine lv_iload S.1 S.2.1 dL_skates_107 (lv_at hl 1 rfl) ?_
                refine lv_iconst (v := 1) S.1 S.2.1 dL_skates_109 (by decide) ?_
                refine lv_icmp_ne (tgt := 127) S.1 S.2.1 dL_skates_110 (by decide) (fun c110_35 => ?_) (fun c110_35 => ?_)
                · refine lv_iload S.1 S.2.1 dL_skates_127 (lv_at hl 1 rfl) ?_
                  refine lv_iconst (v := 5) S.1 S.2.1 dL_skates_129 (by decide) ?_
                  refine lv_icmp_ne (tgt := 147) S.1 S.2.1 dL_skates_130 (by decide) (fun c130_36 => ?_) (fun c130_36 => ?_)
                  · refine lv_iload S.1 S.2.1 dL_skates_147 (lv_at hl 10 rfl) ?_
                    refine lv_iconst (v := 1) S.1 S.2.1 dL_skates_149 (by decide) ?_
                    refine lv_icmp_ne (tgt := 157) S.1 S.2.1 dL_skates_150 (by decide) (fun c150_37 => ?_) (fun c150_37 => ?_)
                    · refine lv_iconst (v := 0) S.1 S.2.1 dL_skates_157 (by decide) ?_
                      exact j88_6 _ _ (by first | (rw [if_neg c88_32, if_neg c94_33, if_pos c104_34, if_neg c110_35, if_neg c130_36, if_neg c150_37]; done) | (simp only [if_neg c88_32, if_neg c94_33, if_pos c104_34, if_neg c110_35, if_neg c130_36, if_neg c150_37]; done) | rfl) (lv_sub hl [0, 1, 2, 3, 4, 5, 6, 7, 8, 9, 10, 11, 12, 13] rfl)
                    · refine lv_iconst (v := 1) S.1 S.2.1 dL_skates_153 (by decide) ?_
                      refine lv_goto (tgt := 158) S.1 S.2.1 dL_skates_154 (by decide) ?_
                      exact j88_6 _ _ (by first | (rw [if_neg c88_32, if_neg c94_33, if_pos c104_34, if_neg c110_35, if_neg c130_36, if_pos c150_37]; done) | (simp only [if_neg c88_32, if_neg c94_33, if_pos c104_34, if_neg c110_35, if_neg c130_36, if_pos c150_37]; done) | rfl) (lv_sub hl [0, 1, 2, 3, 4, 5, 6, 7, 8, 9, 10, 11, 12, 13] rfl)
                  · refine lv_iload S.1 S.2.1 dL_skates_133 (lv_at hl 9 rfl) ?_
                    refine lv_iconst (v := 1) S.1 S.2.1 dL_skates_135 (by decide) ?_
                    refine lv_icmp_ne (tgt := 157) S.1 S.2.1 dL_skates_136 (by decide) (fun c136_38 => ?_) (fun c136_38 => ?_)
                    · refine lv_iconst (v := 0) S.1 S.2.1 dL_skates_157 (by decide) ?_
                      exact j88_6 _ _ (by first | (rw [if_neg c88_32, if_neg c94_33, if_pos c104_34, if_neg c110_35, if_pos c130_36, if_neg c136_38]; done) | (simp only [if_neg c88_32, if_neg c94_33, if_pos c104_34, if_neg c110_35, if_pos c130_36, if_neg c136_38]; done) | rfl) (lv_sub hl [0, 1, 2, 3, 4, 5, 6, 7, 8, 9, 10, 11, 12, 13] rfl)
                    · refine lv_iload S.1 S.2.1 dL_skates_139 (lv_at hl 10 rfl) ?_
                      refine lv_if_ne (tgt := 157) S.1 S.2.1 dL_skates_141 (by decide) (fun c141_39 => ?_) (fun c141_39 => ?_)
                      · refine lv_iconst (v := 0) S.1 S.2.1 dL_skates_157 (by decide) ?_
                        exact j88_6 _ _ (by first | (rw [if_neg c88_32, if_neg c94_33, if_pos c104_34, if_neg c110_35, if_pos c130_36, if_pos c136_38, if_neg c141_39]; done) | (simp only [if_neg c88_32, if_neg c94_33, if_pos c104_34, if_neg c110_35, if_pos c130_36, if_pos c136_38, if_neg c141_39]; done) | rfl) (lv_sub hl [0, 1, 2, 3, 4, 5, 6, 7, 8, 9, 10, 11, 12, 13] rfl)
                      · refine lv_goto (tgt := 153) S.1 S.2.1 dL_skates_144 (by decide) ?_
                        refine lv_iconst (v := 1) S.1 S.2.1 dL_skates_153 (by decide) ?_
                        refine lv_goto (tgt := 158) S.1 S.2.1 dL_skates_154 (by decide) ?_
                        exact j88_6 _ _ (by first | (rw [if_neg c88_32, if_neg c94_33, if_pos c104_34, if_neg c110_35, if_pos c130_36, if_pos c136_38, if_pos c141_39]; done) | (simp only [if_neg c88_32, if_neg c94_33, if_pos c104_34, if_neg c110_35, if_pos c130_36, if_pos c136_38, if_pos c141_39]; done) | rfl) (lv_sub hl [0, 1, 2, 3, 4, 5, 6, 7, 8, 9, 10, 11, 12, 13] rfl)
                · refine lv_iload S.1 S.2.1 dL_skates_113 (lv_at hl 9 rfl) ?_
                  refine lv_if_ne (tgt := 157) S.1 S.2.1 dL_skates_115 (by decide) (fun c115_40 => ?_) (fun c115_40 => ?_)
                  · refine lv_iconst (v := 0) S.1 S.2.1 dL_skates_157 (by decide) ?_
                    exact j88_6 _ _ (by first | (rw [if_neg c88_32, if_neg c94_33, if_pos c104_34, if_pos c110_35, if_neg c115_40]; done) | (simp only [if_neg c88_32, if_neg c94_33, if_pos c104_34, if_pos c110_35, if_neg c115_40]; done) | rfl) (lv_sub hl [0, 1, 2, 3, 4, 5, 6, 7, 8, 9, 10, 11, 12, 13] rfl)
                  · refine lv_iload S.1 S.2.1 dL_skates_118 (lv_at hl 10 rfl) ?_
                    refine lv_iconst (v := 1) S.1 S.2.1 dL_skates_120 (by decide) ?_
                    refine lv_icmp_ne (tgt := 157) S.1 S.2.1 dL_skates_121 (by decide) (fun c121_41 => ?_) (fun c121_41 => ?_)
                    · refine lv_iconst (v := 0) S.1 S.2.1 dL_skates_157 (by decide) ?_
                      exact j88_6 _ _ (by first | (rw [if_neg c88_32, if_neg c94_33, if_pos c104_34, if_pos c110_35, if_pos c115_40, if_neg c121_41]; done) | (simp only [if_neg c88_32, if_neg c94_33, if_pos c104_34, if_pos c110_35, if_pos c115_40, if_neg c121_41]; done) | rfl) (lv_sub hl [0, 1, 2, 3, 4, 5, 6, 7, 8, 9, 10, 11, 12, 13] rfl)
                    · refine lv_goto (tgt := 153) S.1 S.2.1 dL_skates_124 (by decide) ?_
                      refine lv_iconst (v := 1) S.1 S.2.1 dL_skates_153 (by decide) ?_
                      refine lv_goto (tgt := 158) S.1 S.2.1 dL_skates_154 (by decide) ?_
                      exact j88_6 _ _ (by first | (rw [if_neg c88_32, if_neg c94_33, if_pos c104_34, if_pos c110_35, if_pos c115_40, if_pos c121_41]; done) | (simp only [if_neg c88_32, if_neg c94_33, if_pos c104_34, if_pos c110_35, if_pos c115_40, if_pos c121_41]; done) | rfl) (lv_sub hl [0, 1, 2, 3, 4, 5, 6, 7, 8, 9, 10, 11, 12, 13] rfl)
            · refine lv_iload S.1 S.2.1 dL_skates_97 (lv_at hl 0 rfl) ?_
              refine lv_goto (tgt := 158) S.1 S.2.1 dL_skates_99 (by decide) ?_
              exact j88_6 _ _ (by first | (rw [if_neg c88_32, if_pos c94_33]; done) | (simp only [if_neg c88_32, if_pos c94_33]; done) | rfl) (lv_sub hl [0, 1, 2, 3, 4, 5, 6, 7, 8, 9, 10, 11, 12, 13] rfl)
      · refine lv_icmp_ne (tgt := 83) S.1 S.2.1 dL_skates_64 (by decide) (fun c64_42 => ?_) (fun c64_42 => ?_)
        · refine lv_iconst (v := 0) S.1 S.2.1 dL_skates_83 (by decide) ?_
          exact j64_3 _ _ (by first | (rw [if_neg c64_42]; done) | (simp only [if_neg c64_42]; done) | rfl) (lv_sub hl [0, 1, 2, 3, 4, 5, 6, 7, 8, 9, 10, 11, 12] rfl)
        · refine lv_iload S.1 S.2.1 dL_skates_67 (lv_at hl 8 rfl) ?_
          refine lv_iconst (v := 1) S.1 S.2.1 dL_skates_69 (by decide) ?_
          refine lv_icmp_ne (tgt := 83) S.1 S.2.1 dL_skates_70 (by decide) (fun c70_43 => ?_) (fun c70_43 => ?_)
          · refine lv_iconst (v := 0) S.1 S.2.1 dL_skates_83 (by decide) ?_
            exact j64_3 _ _ (by first | (rw [if_pos c64_42, if_neg c70_43]; done) | (simp only [if_pos c64_42, if_neg c70_43]; done) | rfl) (lv_sub hl [0, 1, 2, 3, 4, 5, 6, 7, 8, 9, 10, 11, 12] rfl)
          · refine lv_iload S.1 S.2.1 dL_skates_73 (lv_at hl 9 rfl) ?_
            refine lv_iconst (v := 1) S.1 S.2.1 dL_skates_75 (by decide) ?_
            refine lv_icmp_ne (tgt := 83) S.1 S.2.1 dL_skates_76 (by decide) (fun c76_44 => ?_) (fun c76_44 => ?_)
            · refine lv_iconst (v := 0) S.1 S.2.1 dL_skates_83 (by decide) ?_
              exact j64_3 _ _ (by first | (rw [if_pos c64_42, if_pos c70_43, if_neg c76_44]; done) | (simp only [if_pos c64_42, if_pos c70_43, if_neg c76_44]; done) | rfl) (lv_sub hl [0, 1, 2, 3, 4, 5, 6, 7, 8, 9, 10, 11, 12] rfl)
            · refine lv_iconst (v := 1) S.1 S.2.1 dL_skates_79 (by decide) ?_
              refine lv_goto (tgt := 84) S.1 S.2.1 dL_skates_80 (by decide) ?_
              exact j64_3 _ _ (by first | (rw [if_pos c64_42, if_pos c70_43, if_pos c76_44]; done) | (simp only [if_pos c64_42, if_pos c70_43, if_pos c76_44]; done) | rfl) (lv_sub hl [0, 1, 2, 3, 4, 5, 6, 7, 8, 9, 10, 11, 12] rfl)
set_option maxHeartbeats 4000000 in
theorem m_skates (l : Launch) {H0 : Heap} {cnt : Nat → Nat} {C : Nat → Nat → Int32} (hls : l.stackTraces = false) (hL : L < 2 ^ 31) (fr ac : Nat) (hac : ac ≤ 22) (hfr : fr + ac ≤ 1000) (W0 : lx D cA B o ea Sk cnt C f H0) (V : LV Sk cnt en 1 C) (h4 : C (40 + en) 4 = 0) (h5 : C (40 + en) 5 = 1) (h6 : C (40 + en) 6 = 0) (h7 : C (40 + en) 7 = 0) (h8 : cnt en = 0) :
    MetSW D cA B b L xs l yL_skates cL_skates 15 (some .int) 7 149 176 1188 [.ref o, .ref b, .int (nI fr), .int (nI ac)] H0 (fun v h => ∃ (sec : Nat) (cnt1 : Nat → Nat) (C1 : Nat → Nat → Int32), v = some (.int (nI sec)) ∧ lx D cA B o ea Sk cnt1 C1 f h ∧ LV Sk cnt1 en 1 C1 ∧ (∀ k, ¬ k = en → cnt1 k = cnt k) ∧ C1 (40 + en) 7 = nI sec) := by
  refine MetSW.of (by decide) (Nat.le_of_ble_eq_true rfl) ?_
  intro p e s m args below meth c S hr hlk hh KS0 ls hl
  subst hh
  have hS : va_S (fun q => B ≤ q) s.heap s.heap [] := va_S.rf
  have Z : Zw p l s m args c cL_skates 15 D cA B ({ frames := 7, cells := 176, slots := 1188, locals := 149 }) := ⟨S, KS0.1, hls, Nat.le_refl _, Nat.le_refl _⟩
  have hl : lv_has ls 15 [(0, .ref o), (1, .ref b), (2, .int (nI fr)), (3, .int (nI ac))] := hl
  refine lv_iconst (v := 0) S.1 S.2.1 dL_skates_0 (by decide) ?_
  refine lv_istore (lv' := [(4, .int 0), (0, .ref o), (1, .ref b), (2, .int (nI fr)), (3, .int (nI ac))]) S.1 S.2.1 dL_skates_1 hl (by decide) rfl (fun ls hl => ?_)
  refine lv_iconst (v := 1) S.1 S.2.1 dL_skates_3 (by decide) ?_
  refine lv_istore (lv' := [(5, .int 1), (4, .int 0), (0, .ref o), (1, .ref b), (2, .int (nI fr)), (3, .int (nI ac))]) S.1 S.2.1 dL_skates_4 hl (by decide) rfl (fun ls hl => ?_)
  refine lv_iconst (v := 0) S.1 S.2.1 dL_skates_6 (by decide) ?_
  refine lv_istore (lv' := [(6, .int 0), (5, .int 1), (4, .int 0), (0, .ref o), (1, .ref b), (2, .int (nI fr)), (3, .int (nI ac))]) S.1 S.2.1 dL_skates_7 hl (by decide) rfl (fun ls hl => ?_)
  refine lv_iconst (v := 0) S.1 S.2.1 dL_skates_9 (by decide) ?_
  refine lv_istore (lv' := [(7, .int 0), (6, .int 0), (5, .int 1), (4, .int 0), (0, .ref o), (1, .ref b), (2, .int (nI fr)), (3, .int (nI ac))]) S.1 S.2.1 dL_skates_10 hl (by decide) rfl (fun ls hl => ?_)
  refine lv_iconst (v := 0) S.1 S.2.1 dL_skates_12 (by decide) ?_
  refine lv_istore (lv' := [(8, .int 0), (7, .int 0), (6, .int 0), (5, .int 1), (4, .int 0), (0, .ref o), (1, .ref b), (2, .int (nI fr)), (3, .int (nI ac))]) S.1 S.2.1 dL_skates_13 hl (by decide) rfl (fun ls hl => ?_)
  refine lv_iconst (v := 0) S.1 S.2.1 dL_skates_15 (by decide) ?_
  refine lv_istore (lv' := [(9, .int 0), (8, .int 0), (7, .int 0), (6, .int 0), (5, .int 1), (4, .int 0), (0, .ref o), (1, .ref b), (2, .int (nI fr)), (3, .int (nI ac))]) S.1 S.2.1 dL_skates_16 hl (by decide) rfl (fun ls hl => ?_)
  refine sk_loop (cnt0 := cnt) Z KS0 hL hfr ⟨Nat.le_refl _, Nat.le_refl _⟩ (fun sec cnt1 C1 H locs ls W1 V1 hc g7 hS hl => ?_) ac 0 0 0 1 0 0 cnt C s.heap [] ls 0 0 (by omega) ⟨show 0 + 8 * ac ≤ 176 by omega, show 0 + 54 * ac ≤ 1188 by omega⟩ W0 V (fun _ _ => rfl) h8 h4 h5 h6 h7 (by omega) hS (lv_sub hl [6, 7, 8, 9, 5, 4, 3, 2, 1, 0] rfl)
  refine lv_iload S.1 S.2.1 dL_skates_447 (lv_at hl 0 rfl) ?_
  exact ne_wI S hS hr hlk ⟨sec, cnt1, C1, rfl, W1, V1, hc, g7⟩ dL_skates_449
end SKA
