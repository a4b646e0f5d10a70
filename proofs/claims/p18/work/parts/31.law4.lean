/-! p18: the law: a skater after the other (printed by wip/p18/gen/law2.py) -/
section LL2

variable {p : Program} {l : Launch} {e : Env} {R : Room} {s : State} {m : MethodId} {args : Array Value} {below : List Frame} {meth : Method} {c : Code} {Q : State → Prop}
variable {D : va_G} {cA : Nat → ClassId} {B b L o ea Sk : Nat} {xs : Nat → Int32}

set_option maxHeartbeats 8000000 in
set_option maxRecDepth 100000 in
theorem lp_all (Z : Zw p l s m args c cL_law 19 D cA B R) (KS0 : KS D cA B b L xs s) (hL : L < 2 ^ 31) {MC MS : Nat} (hMC : MC ≤ R.cells ∧ MS ≤ R.slots) (h5 : Sk ≤ 5) (hR8 : 8 ≤ R.frames ∧ 183 ≤ R.locals) {v la : Int32}
    (ke : ∀ (en g : Nat) (cnt : Nat → Nat) (C : Nat → Nat → Int32) (f : Nat → Int32) (H : Heap) (locs : List Loc) (ls : Array Slot), en + g = Sk → lx D cA B o ea Sk cnt C f H → LV Sk cnt en g C → (∀ i, i < 5 → f i = if i < en then nI (cnt i) else 0) → va_S (fun q => B ≤ q) s.heap H locs → lv_has ls 19 [(0, .ref b), (1, .ref o), (2, .int v), (3, .int (nI Sk)), (4, .int la), (5, .int 1), (6, .int (nI en)), (7, .ref ea)] → W p l e R s m args below meth c H locs MC MS Q (F0 m 339 ls [])) :
    ∀ (n : Nat) (j : Nat) (cnt : Nat → Nat) (C : Nat → Nat → Int32) (f : Nat → Int32) (H : Heap) (locs : List Loc) (ls : Array Slot) (cells slots : Nat), j + n = Sk → cells + 300 * n ≤ MC ∧ slots + 2000 * n ≤ MS → lx D cA B o ea Sk cnt C f H → LV Sk cnt j 0 C → (∀ i, i < 5 → f i = if i < j then nI (cnt i) else 0) → va_S (fun q => B ≤ q) s.heap H locs → lv_has ls 19 [(0, .ref b), (1, .ref o), (2, .int v), (3, .int (nI Sk)), (4, .int la), (5, .int 1), (6, .int (nI j)), (7, .ref ea), (8, .int (nI j))] → W p l e R s m args below meth c H locs cells slots Q (F0 m 89 ls []) := by
  obtain ⟨S, K, hls, hR1, hR2⟩ := id Z
  intro n
  induction n with
  | zero =>
    intro j cnt C f H locs ls cells slots hj hc W0 V hf hS hl
    refine lv_iload S.1 S.2.1 dL_law_89 (lv_at hl 8 rfl) ?_
    refine lv_iload_n S.1 S.2.1 dL_law_91 rfl (lv_at hl 3 rfl) ?_
    refine lv_icmp_ge (tgt := 339) S.1 S.2.1 dL_law_92 (by decide) (fun _ => ?_) (fun c9 => absurd (nI_le (by omega) (by omega)) c9)
    exact W.widen (k := MC) (n := MS) (by omega) (by omega) (ke j 0 cnt C f H locs ls (by omega) W0 V hf hS (lv_sub hl [0, 1, 2, 3, 4, 5, 6, 7] rfl))
  | succ n ih =>
    intro j cnt C f H locs ls cells slots hj hc W0 V hf hS hl
    refine lv_iload S.1 S.2.1 dL_law_89 (lv_at hl 8 rfl) ?_
    refine lv_iload_n S.1 S.2.1 dL_law_91 rfl (lv_at hl 3 rfl) ?_
    refine lv_icmp_ge (tgt := 339) S.1 S.2.1 dL_law_92 (by decide) (fun c9 => absurd c9 (nI_ge (by omega) (by omega))) (fun _ => ?_)
    refine lv_iload S.1 S.2.1 dL_law_95 (lv_at hl 5 rfl) ?_
    refine lv_if_eq (tgt := 339) S.1 S.2.1 dL_law_97 (by decide) (fun c9 => absurd c9 (by decide)) (fun _ => ?_)
    refine lv_aload_n S.1 S.2.1 dL_law_100 rfl (lv_at hl 1 rfl) ?_
    refine lv_iload S.1 S.2.1 dL_law_101 (lv_at hl 8 rfl) ?_
    obtain ⟨u1, V1, t4, t5, t6, t7, t8⟩ := V_begin V (by omega)
    refine la_begin Z W0 hS V u1 hl.1 (Nat.le_of_ble_eq_true rfl) dL_law_103 ⟨by omega, by omega⟩ (fun H locs W0 hS => ?_)
    refine lv_aload_n S.1 S.2.1 dL_law_106 rfl (lv_at hl 1 rfl) ?_
    refine lv_aload_n S.1 S.2.1 dL_law_107 rfl (lv_at hl 0 rfl) ?_
    refine lv_iconst (v := 1) S.1 S.2.1 dL_law_108 (by decide) ?_
    refine lv_bipush (v := 9) S.1 S.2.1 dL_law_109 (by decide) ?_
    refine lv_iload S.1 S.2.1 dL_law_111 (lv_at hl 8 rfl) ?_
    refine lv_imul S.1 S.2.1 dL_law_113 ?_
    refine nt_i (y := nI (9 * j)) (pk_mul 9 j) ?_
    refine lv_iadd S.1 S.2.1 dL_law_114 ?_
    refine nt_i (y := nI (1 + (9 * j))) (nI_add 1 (9 * j)) ?_
    refine lv_iconst (v := 3) S.1 S.2.1 dL_law_115 (by decide) ?_
    refine lv_aload_n S.1 S.2.1 dL_law_116 rfl (lv_at hl 0 rfl) ?_
    refine lv_iconst (v := 1) S.1 S.2.1 dL_law_117 (by decide) ?_
    refine lv_bipush (v := 9) S.1 S.2.1 dL_law_118 (by decide) ?_
    refine lv_iload S.1 S.2.1 dL_law_120 (lv_at hl 8 rfl) ?_
    refine lv_imul S.1 S.2.1 dL_law_122 ?_
    refine nt_i (y := nI (9 * j)) (pk_mul 9 j) ?_
    refine lv_iadd S.1 S.2.1 dL_law_123 ?_
    refine nt_i (y := nI (1 + (9 * j))) (nI_add 1 (9 * j)) ?_
    refine nc_rSS S KS0 hS (As := [.ref b, .int (nI (1 + (9 * j)))]) (m_cell l ((1 + (9 * j))) (by omega) hL) k2_192 k2_193 k1_0 k2_194 (num := 2) (by decide +kernel) rfl ⟨by omega, by omega⟩ hl.1 rfl (Nat.le_of_ble_eq_true rfl) dL_law_124 ⟨by omega, by omega⟩ ?_
    generalize cellV L xs ((1 + (9 * j))) = gw
    refine lv_bipush (v := 20) S.1 S.2.1 dL_law_127 (by decide) ?_
    refine nc_rS S KS0.1 hS (As := [.int gw, .int 20]) (m_low l gw 20 (by decide) (by decide)) k2_195 k2_196 k1_0 k2_197 (num := 2) (by decide +kernel) rfl ⟨by omega, by omega⟩ hl.1 rfl (Nat.le_of_ble_eq_true rfl) dL_law_129 ⟨by omega, by omega⟩ ?_
    have haq : lowN gw 20 < 20 := lowN_lt _ (by decide)
    generalize lowN gw 20 = aq at haq ⊢
    refine lv_iadd S.1 S.2.1 dL_law_132 ?_
    refine nt_i (y := nI (3 + aq)) (nI_add 3 aq) ?_
    refine nc_wSS S KS0 hS (As := [.ref o, .ref b, .int (nI (1 + (9 * j))), .int (nI (3 + aq))]) (m_skates l hls hL ((1 + (9 * j))) ((3 + aq)) (by omega) (by omega) W0 V1 t4 t5 t6 t7 t8) k2_199 k2_200 k1_0 k2_201 (num := 4) (by decide +kernel) rfl ⟨by omega, by omega⟩ hl.1 rfl (Nat.le_of_ble_eq_true rfl) dL_law_133 ⟨by omega, by omega⟩ (fun v9 H locs hP hS => ?_)
    obtain ⟨sec, cnt1, C1, rfl, W0, V1, hcn, h7⟩ := hP
    have n12 := V1.n12 j V1.on_lt
    refine W.eq (g2 := F0 m 136 ls [.int (nI sec)]) rfl ?_
    refine lv_istore (lv' := [(9, .int (nI sec)), (0, .ref b), (1, .ref o), (2, .int v), (3, .int (nI Sk)), (4, .int la), (5, .int 1), (6, .int (nI j)), (7, .ref ea), (8, .int (nI j))]) S.1 S.2.1 dL_law_136 hl (by decide) rfl (fun ls hl => ?_)
    refine lv_aload_n S.1 S.2.1 dL_law_138 rfl (lv_at hl 2 rfl) ?_
    refine lv_iload S.1 S.2.1 dL_law_139 (lv_at hl 9 rfl) ?_
    refine lv_iconst (v := 0) S.1 S.2.1 dL_law_141 (by decide) ?_
    refine lv_iconst (v := 4) S.1 S.2.1 dL_law_142 (by decide) ?_
    obtain ⟨u1, u2, u3⟩ := (V_pr V1 (d := 0) V1.on_lt (by decide)).2.2.2.2.1
    refine la_programme Z W0 hS V1 u1 hl.1 (Nat.le_of_ble_eq_true rfl) dL_law_143 ⟨by omega, by omega⟩ (fun H locs W0 hS => ?_)
    refine nt_i (y := (nI sec)) (u2.trans h7) ?_
    have W0 : lx D cA B o ea Sk cnt1 C1 f H := by rw [← u3]; exact W0
    refine lv_iload S.1 S.2.1 dL_law_146 (lv_at hl 0 rfl) ?_
    refine lv_icmp_ne (tgt := 167) S.1 S.2.1 dL_law_148 (by decide) (fun c9 => absurd (rfl) c9) (fun _ => ?_)
    refine lv_aload_n S.1 S.2.1 dL_law_151 rfl (lv_at hl 2 rfl) ?_
    refine lv_iload S.1 S.2.1 dL_law_152 (lv_at hl 9 rfl) ?_
    refine lv_iconst (v := 0) S.1 S.2.1 dL_law_154 (by decide) ?_
    refine lv_iconst (v := 5) S.1 S.2.1 dL_law_155 (by decide) ?_
    obtain ⟨u1, u2, u3⟩ := (V_pr V1 (d := 0) V1.on_lt (by decide)).2.2.2.2.2
    refine la_programme Z W0 hS V1 u1 hl.1 (Nat.le_of_ble_eq_true rfl) dL_law_156 ⟨by omega, by omega⟩ (fun H locs W0 hS => ?_)
    refine nt_i (y := (-1)) (u2.trans ((V_fill V1 (rr_rf C1) 0).rank0 (by omega) (Nat.le_refl j))) ?_
    have W0 : lx D cA B o ea Sk cnt1 (g_X4_fillRanking C1 0) f H := by rw [← u3]; exact W0
    have V2 := LV_co (co_fill C1 0) V1
    refine lv_iconst (v := (-1)) S.1 S.2.1 dL_law_159 (by decide) ?_
    refine lv_icmp_ne (tgt := 167) S.1 S.2.1 dL_law_160 (by decide) (fun c9 => absurd (by decide) c9) (fun _ => ?_)
    refine lv_iconst (v := 1) S.1 S.2.1 dL_law_163 (by decide) ?_
    refine lv_goto (tgt := 168) S.1 S.2.1 dL_law_164 (by decide) ?_
    refine lv_istore (lv' := [(5, .int 1), (9, .int (nI sec)), (0, .ref b), (1, .ref o), (2, .int v), (3, .int (nI Sk)), (4, .int la), (6, .int (nI j)), (7, .ref ea), (8, .int (nI j))]) S.1 S.2.1 dL_law_168 hl (by decide) rfl (fun ls hl => ?_)
    have h183 : ∀ ls : Array Slot, lv_has ls 19 [(5, .int 1), (9, .int (nI sec)), (0, .ref b), (1, .ref o), (2, .int v), (3, .int (nI Sk)), (4, .int la), (6, .int (nI j)), (7, .ref ea), (8, .int (nI j))] → W p l e R s m args below meth c H locs (cells + 1 + 176 + 1 + 1) (slots + 6 + 1188 + 6 + 6) Q (F0 m 183 ls []) := by
      intro ls hl
      refine lv_aload S.1 S.2.1 dL_law_183 (lv_at hl 8 rfl) ?_
      refine lv_iload S.1 S.2.1 dL_law_185 (lv_at hl 9 rfl) ?_
      refine lv_aload_n S.1 S.2.1 dL_law_187 rfl (lv_at hl 3 rfl) ?_
      obtain ⟨y1, y2, V3⟩ := V_end V2
      refine la_end Z W0 hS V2 y1 hl.1 (Nat.le_of_ble_eq_true rfl) dL_law_188 ⟨by omega, by omega⟩ (fun H locs W0 hS => ?_)
      refine nt_i (y := (nI (cnt1 j))) (y2) ?_
      refine la_ast Z W0 hS (j := j) (by omega) dL_law_191 (fun H locs W0 hS => ?_)
      refine lv_iinc (v := nI (j + 1)) (lv' := [(6, .int (nI (j + 1))), (5, .int 1), (9, .int (nI sec)), (0, .ref b), (1, .ref o), (2, .int v), (3, .int (nI Sk)), (4, .int la), (7, .ref ea), (8, .int (nI j))]) S.1 S.2.1 dL_law_192 hl (k := 7) rfl (nI_add j 1) (by decide) rfl (fun ls hl => ?_)
      refine lv_iconst (v := 0) S.1 S.2.1 dL_law_195 (by decide) ?_
      refine lv_istore (lv' := [(10, .int 0), (6, .int (nI (j + 1))), (5, .int 1), (9, .int (nI sec)), (0, .ref b), (1, .ref o), (2, .int v), (3, .int (nI Sk)), (4, .int la), (7, .ref ea), (8, .int (nI j))]) S.1 S.2.1 dL_law_196 hl (by decide) rfl (fun ls hl => ?_)
      refine lp_el Z KS0 hL (MC := cells + 264) (MS := slots + 1716) ⟨by omega, by omega⟩ h5 V2.on_lt (V3.n12 j V2.on_lt) (if_pos rfl) (fun C9 H locs ls W0 V3 hS hl => ?_) (cnt1 j) 0 _ H locs ls _ _ (by omega) ⟨by omega, by omega⟩ W0 V3 hS (lv_sub hl [4, 5, 6, 7, 8, 2, 1, 9, 10, 3, 0] rfl)
      refine lv_iconst (v := 0) S.1 S.2.1 dL_law_281 (by decide) ?_
      refine lv_istore (lv' := [(10, .int 0), (0, .ref b), (1, .ref o), (2, .int v), (3, .int (nI Sk)), (4, .int la), (5, .int 1), (6, .int (nI (j + 1))), (7, .ref ea), (8, .int (nI j)), (9, .int (nI sec))]) S.1 S.2.1 dL_law_282 hl (by decide) rfl (fun ls hl => ?_)
      refine lp_co Z KS0 hL (MC := cells + 285) (MS := slots + 1842) ⟨by omega, by omega⟩ h5 V2.on_lt (fun C9 H locs ls W0 V3 hS hl => ?_) 21 0 _ H locs ls _ _ (by omega) ⟨by omega, by omega⟩ W0 V3 hS (lv_sub hl [1, 2, 3, 4, 5, 6, 7, 8, 9, 10, 0] rfl)
      refine lv_iinc (v := nI (j + 1)) (lv' := [(8, .int (nI (j + 1))), (0, .ref b), (1, .ref o), (2, .int v), (3, .int (nI Sk)), (4, .int la), (5, .int 1), (6, .int (nI (j + 1))), (7, .ref ea), (9, .int (nI sec))]) S.1 S.2.1 dL_law_333 hl (k := 8) rfl (nI_add j 1) (by decide) rfl (fun ls hl => ?_)
      refine lv_goto (tgt := 89) S.1 S.2.1 dL_law_336 (by decide) ?_
      refine ih (j + 1) cnt1 _ (upd f j (nI (cnt1 j))) H locs ls _ _ (by omega) ⟨by omega, by omega⟩ W0 V3 (fun i hi => ?_) hS (lv_sub hl [1, 2, 3, 4, 5, 6, 7, 8, 0] rfl)
      unfold upd
      by_cases q : i = j
      · subst q
        rw [if_pos rfl, if_pos (Nat.lt_succ_self i)]
      · rw [if_neg q, hf i hi]
        by_cases q2 : i < j
        · rw [if_pos q2, if_pos (by omega), hcn i q]
        · rw [if_neg q2, if_neg (by omega)]
    refine lv_iload S.1 S.2.1 dL_law_170 (lv_at hl 9 rfl) ?_
    refine lv_iload_n S.1 S.2.1 dL_law_172 rfl (lv_at hl 5 rfl) ?_
    refine lv_iconst (v := 1) S.1 S.2.1 dL_law_173 (by decide) ?_
    refine lv_isub S.1 S.2.1 dL_law_174 ?_
    refine nt_i (y := nI (Sk - 1)) (pk_sub (b := 1) (by omega)) ?_
    refine lv_icmp_lt (tgt := 183) S.1 S.2.1 dL_law_175 (by decide) (fun c175_1 => ?_) (fun c175_1 => ?_)
    · exact h183 ls (lv_sub hl [0, 1, 2, 3, 4, 5, 6, 7, 8, 9] rfl)
    · refine lv_iload S.1 S.2.1 dL_law_178 (lv_at hl 6 rfl) ?_
      refine lv_if_eq (tgt := 333) S.1 S.2.1 dL_law_180 (by decide) (fun c180_2 => ?_) (fun c180_2 => ?_)
      · refine lv_iinc (v := nI (j + 1)) (lv' := [(8, .int (nI (j + 1))), (5, .int 1), (9, .int (nI sec)), (0, .ref b), (1, .ref o), (2, .int v), (3, .int (nI Sk)), (4, .int la), (6, .int (nI j)), (7, .ref ea)]) S.1 S.2.1 dL_law_333 hl (k := 9) rfl (nI_add j 1) (by decide) rfl (fun ls hl => ?_)
        refine lv_goto (tgt := 89) S.1 S.2.1 dL_law_336 (by decide) ?_
        have hlast : Sk - 1 ≤ j := Nat.le_of_not_lt (fun q => c175_1 ((nI_ltI (a := j) (b := Sk - 1) (by omega) (by omega)).mpr q))
        refine lv_iload S.1 S.2.1 dL_law_89 (lv_at hl 0 rfl) ?_
        refine lv_iload_n S.1 S.2.1 dL_law_91 rfl (lv_at hl 6 rfl) ?_
        refine lv_icmp_ge (tgt := 339) S.1 S.2.1 dL_law_92 (by decide) (fun _ => ?_) (fun c9 => absurd (nI_le (by omega) (by omega)) c9)
        exact W.widen (k := MC) (n := MS) (by omega) (by omega) (ke j 1 cnt1 _ f H locs ls (by omega) W0 V2 (fun i hi => (hf i hi).trans (by by_cases q : i < j; (· rw [if_pos q, if_pos q, hcn i (by omega)]); (· rw [if_neg q, if_neg q]))) hS (lv_sub hl [3, 4, 5, 6, 7, 1, 8, 9] rfl))
      · exact h183 ls (lv_sub hl [0, 1, 2, 3, 4, 5, 6, 7, 8, 9] rfl)

end LL2
