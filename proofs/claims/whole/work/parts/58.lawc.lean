/-! printed by wip/whole/gen/law_case.py: the cases of the law's switch -/
def zb01 (x : Int32) : Int32 := if x = 0 then 0 else 1
theorem zb_p {x : Int32} (h : x = 0) : zb01 x = 0 := if_pos h
theorem zb_n {x : Int32} (h : ¬ x = 0) : zb01 x = 1 := if_neg h
theorem zb_01 (x : Int32) : zb01 x = 0 ∨ zb01 x = 1 := by
  by_cases h : x = 0
  · exact Or.inl (zb_p h)
  · exact Or.inr (zb_n h)
theorem zb_nar (x : Int32) : vp_nar .boolean (zb01 x) = zb01 x := by
  rcases zb_01 x with h | h
  · rw [h]
    exact zb_0
  · rw [h]
    exact zb_1
theorem val_in {p0 p1 p2 : Int32} (h0 : ¬ f_X5_in p0 0 2 = 0) (h1 : ¬ f_X5_in p1 0 6 = 0) (h2 : ¬ f_X5_in p2 (if p1 = 6 then 0 else 1) 4 = 0) : vp_in (f_X5_valueAt p0 p1 p2) 87 := by
  obtain ⟨a1, a2⟩ := in2 h0
  obtain ⟨v1, v2⟩ := hasV p1 p2
  obtain ⟨p, q, hp, hq, hq4, hpq⟩ := v2 (v1.mpr ⟨h1, h2⟩)
  rw [a1, hp, hq, vAt hpq]
  exact pk_in (if p = 6 then 29 * p0.toNatClampNeg + (24 + q) else 29 * p0.toNatClampNeg + (4 * p + q - 1)) 87 (by split <;> omega) rfl (by decide)
section LC
variable {p : Program} {l : Launch} {e : Env} {R : Room} {s : State} {m : MethodId} {args : Array Value} {below : List Frame} {meth : Method} {c : Code} {H : Heap} {locs : List Loc} {cells slots : Nat} {Q : State → Prop}
variable {ls : Array Slot} {D : va_G} {cA : Nat → ClassId} {B b L : Nat} {xs : Nat → Int32}
set_option maxHeartbeats 4000000 in
theorem lc_skater {ad : Nat → Nat} {C M : Nat → Nat → Int32} {i : Nat} (Z : LwS p l s m args meth c D cA B b L xs R) (W0 : jw D cA B ad C M H) (hS : va_S (fun q => B ≤ q) s.heap H locs) (hi : i + 4 < L) (hl : lv_has ls 7 [(0, .ref b), (1, .ref (ad 0)), (2, .ref (ad 5)), (3, .ref (ad 6)), (4, .int (nI i))]) (hcell : cells + 12 ≤ R.cells ∧ slots + 87 ≤ R.slots)
    (kk : ∀ (ad1 : Nat → Nat) (C1 M1 : Nat → Nat → Int32) (H1 : Heap) (locs1 : List Loc) (ls1 : Array Slot), jw D cA B ad1 C1 M1 H1 → va_S (fun q => B ≤ q) s.heap H1 locs1 → ad1 0 = ad 0 ∧ ad1 5 = ad 5 ∧ ad1 6 = ad 6 → lv_has ls1 7 [(0, .ref b), (1, .ref (ad 0)), (2, .ref (ad 5)), (3, .ref (ad 6)), (4, .int (nI i))] → W p l e R s m args below meth c H1 locs1 (cells + 12) (slots + 87) Q (F0 m 1081 ls1 [])) : W p l e R s m args below meth c H locs cells slots Q (F0 m 112 ls []) := by
  obtain ⟨S, K, Kx, hls, hX, hbl, hbB, hL, hR1, hR2⟩ := id Z
  obtain ⟨ad2, C2, W2, he, nd, had⟩ := pre_P W0
  have a0 : ad2 0 = ad 0 := he 0 (dmn_6 (by decide))
  have a5 : ad2 5 = ad 5 := he 5 (dmn_6 (by decide))
  have a6 : ad2 6 = ad 6 := he 6 (dmn_6 (by decide))
  rw [← a0, ← a5, ← a6] at hl kk
  clear W0
  have J := W2.1
  obtain ⟨y0, X0, O, hm⟩ := jw_ow W2
  refine lv_aload_n S.1 S.2.1 dL_law_112 rfl (lv_at hl 1 rfl) ?_
  refine lv_aload_n S.1 S.2.1 dL_law_113 rfl (lv_at hl 3 rfl) ?_
  refine nc_hS (As := [.ref (ad2 0), .ref (ad2 6)]) (rest := []) S K Kx hS (w_skater l C2  (nS M) y0 O J.dK hls (J.ro.1.trans J.many.1) J.many.2 nd had (J_skater J).1) k1_128 k1_129 k1_0 k1_130 (num := 2) (by decide +kernel) rfl ⟨by omega, by omega⟩ hl.1 rfl (by decide) dL_law_114 ⟨by omega, by omega⟩ (fun v9 H1 locs1 hP hS => ?_)
  obtain ⟨rfl, dom1, C1, y1, O1, J1, hd1, hy1⟩ := aft_of (pr := (fun y9 => y9 = (f_X5_skater M  ).toInt64)) J (J_skater J) rfl (fun t _ => codA_n t) (fun h J1 => J.dom_skater h J1) (fun _ h => congrArg Int32.toInt64 h) hP
  obtain ⟨f9, E9, hf9, N9, hc9, h69, d69⟩ := ow_mw O1 hm (fun r hr => hd1 r (dmn_m hr))
  refine lv_istore (lv' := [(5, .int _), (0, .ref b), (1, .ref (ad2 0)), (2, .ref (ad2 5)), (3, .ref (ad2 6)), (4, .int (nI i))]) S.1 S.2.1 dL_law_117 hl (by decide) rfl (fun ls hl => ?_)
  refine lv_aload_n S.1 S.2.1 dL_law_119 rfl (lv_at hl 3 rfl) ?_
  refine mc_wV (As := []) (rest := []) S K N9 hS rfl (m_X5_skater l M   N9 ) k3_220 k3_221 k3_222 k1_3 k3_223 (num := 0) (by decide +kernel) rfl ⟨by omega, by omega⟩ hl.1 rfl (by decide) dL_law_120 ⟨by omega, by omega⟩ (fun v8 H2 locs2 hP2 hS => ?_)
  obtain ⟨rfl, N2⟩ := hP2
  refine lv_istore (lv' := [(6, .int _), (5, .int _), (0, .ref b), (1, .ref (ad2 0)), (2, .ref (ad2 5)), (3, .ref (ad2 6)), (4, .int (nI i))]) S.1 S.2.1 dL_law_123 hl (by decide) rfl (fun ls hl => ?_)
  refine W.widen (k := cells + 12) (n := slots + 87) (by omega) (by omega) ?_
  exact tail_i (t0 := 125) Z N2 hS hc9 h69 d69 (fun _ _ _ => rfl) J1 hd1 rfl (fun z => hf9.trans (hy1 z)) (lv_sub hl [2, 3, 4, 5, 6, 1, 0] rfl) dL_law_125 dL_law_126 dL_law_129 dL_law_131 dL_law_136 dL_law_138 dL_law_141 dL_law_142 dL_law_143 dL_law_144 dL_law_146 dL_law_147 dL_law_148 dL_law_153 (by decide) ⟨by omega, by omega⟩ (fun Wn hln => kk ad2 _ _ _ _ _ Wn hS ⟨rfl, rfl, rfl⟩ hln)
set_option maxHeartbeats 4000000 in
theorem lc_begin {ad : Nat → Nat} {C M : Nat → Nat → Int32} {i : Nat} (Z : LwS p l s m args meth c D cA B b L xs R) (W0 : jw D cA B ad C M H) (hS : va_S (fun q => B ≤ q) s.heap H locs) (hi : i + 4 < L) (hl : lv_has ls 7 [(0, .ref b), (1, .ref (ad 0)), (2, .ref (ad 5)), (3, .ref (ad 6)), (4, .int (nI i))]) (hcell : cells + 12 ≤ R.cells ∧ slots + 87 ≤ R.slots)
    (kk : ∀ (ad1 : Nat → Nat) (C1 M1 : Nat → Nat → Int32) (H1 : Heap) (locs1 : List Loc) (ls1 : Array Slot), jw D cA B ad1 C1 M1 H1 → va_S (fun q => B ≤ q) s.heap H1 locs1 → ad1 0 = ad 0 ∧ ad1 5 = ad 5 ∧ ad1 6 = ad 6 → lv_has ls1 7 [(0, .ref b), (1, .ref (ad 0)), (2, .ref (ad 5)), (3, .ref (ad 6)), (4, .int (nI i))] → W p l e R s m args below meth c H1 locs1 (cells + 12) (slots + 87) Q (F0 m 1081 ls1 [])) : W p l e R s m args below meth c H locs cells slots Q (F0 m 156 ls []) := by
  obtain ⟨S, K, Kx, hls, hX, hbl, hbB, hL, hR1, hR2⟩ := id Z
  have J := W0.1
  obtain ⟨y0, X0, O, hm⟩ := jw_ow W0
  refine lv_aload_n S.1 S.2.1 dL_law_156 rfl (lv_at hl 1 rfl) ?_
  refine lv_aload_n S.1 S.2.1 dL_law_157 rfl (lv_at hl 0 rfl) ?_
  refine lv_iload S.1 S.2.1 dL_law_158 (lv_at hl 4 rfl) ?_
  refine lv_iconst (v := 1) S.1 S.2.1 dL_law_160 (by decide) ?_
  refine lv_iadd S.1 S.2.1 dL_law_161 ?_
  refine nt_i (y := nI (i + 1)) (nI_add i 1) ?_
  refine va_sld S.1 S.2.1 hX hbl hbB hS (pk_in (i + 1) L (by omega) rfl (by omega)) dL_law_162 ?_
  refine nt_i (y := xs (i + 1)) (by rw [nI_clamp (by omega)]) ?_
  refine nc_hS (As := [.ref (ad 0), .int (xs (i + 1))]) (rest := []) S K Kx hS (w_begin l C (xs (i + 1))  y0 O J.dK hls J.hgo (J_begin J (xs (i + 1))).1) k2_38 k2_39 k1_0 k2_40 (num := 2) (by decide +kernel) rfl ⟨by omega, by omega⟩ hl.1 rfl (by decide) dL_law_163 ⟨by omega, by omega⟩ (fun v9 H1 locs1 hP hS => ?_)
  obtain ⟨rfl, dom1, C1, y1, O1, J1, hd1, hy1⟩ := aft_same (pr := (fun _ => True)) J (J_begin J (xs (i + 1))) rfl (fun t _ => codB_n t) (cs_begin C (xs (i + 1))) (fun _ _ => trivial) hP
  obtain ⟨f9, E9, hf9, N9, hc9, h69, d69⟩ := ow_mw O1 hm (fun r hr => hd1 r (dmn_m hr))
  refine lv_istore (lv' := [(5, .int _), (0, .ref b), (1, .ref (ad 0)), (2, .ref (ad 5)), (3, .ref (ad 6)), (4, .int (nI i))]) S.1 S.2.1 dL_law_166 hl (by decide) rfl (fun ls hl => ?_)
  refine lv_aload_n S.1 S.2.1 dL_law_168 rfl (lv_at hl 3 rfl) ?_
  refine lv_aload_n S.1 S.2.1 dL_law_169 rfl (lv_at hl 1 rfl) ?_
  refine lv_iload S.1 S.2.1 dL_law_170 (lv_at hl 5 rfl) ?_
  refine lv_iconst (v := 1) S.1 S.2.1 dL_law_172 (by decide) ?_
  refine lv_iadd S.1 S.2.1 dL_law_173 ?_
  refine nt_i (y := nI (i + 1)) (nI_add i 1) ?_
  refine va_sld S.1 S.2.1 hX hbl hbB hS (pk_in (i + 1) L (by omega) rfl (by omega)) dL_law_174 ?_
  refine nt_i (y := xs (i + 1)) (by rw [nI_clamp (by omega)]) ?_
  refine mc_wV (As := [.int (xs (i + 1))]) (rest := []) S K N9 hS rfl (m_X5_begin l M (xs (i + 1))  N9 J.hsk) k3_224 k3_225 k3_226 k1_3 k3_227 (num := 1) (by decide +kernel) rfl ⟨by omega, by omega⟩ hl.1 rfl (by decide) dL_law_175 ⟨by omega, by omega⟩ (fun v8 H2 locs2 hP2 hS => ?_)
  obtain ⟨rfl, N2⟩ := hP2
  refine W.widen (k := cells + 12) (n := slots + 87) (by omega) (by omega) ?_
  exact tail_v (t0 := 178) Z N2 hS hc9 h69 (fun _ _ _ => rfl) J1 hd1 rfl (lv_sub hl [1, 2, 3, 4, 5, 0] rfl) dL_law_178 dL_law_179 dL_law_182 dL_law_184 dL_law_189 (by decide) ⟨by omega, by omega⟩ (fun Wn hln => kk ad _ _ _ _ _ Wn hS ⟨rfl, rfl, rfl⟩ hln)
set_option maxHeartbeats 4000000 in
theorem lc_turn {ad : Nat → Nat} {C M : Nat → Nat → Int32} {i : Nat} (Z : LwS p l s m args meth c D cA B b L xs R) (W0 : jw D cA B ad C M H) (hS : va_S (fun q => B ≤ q) s.heap H locs) (hi : i + 4 < L) (hl : lv_has ls 7 [(0, .ref b), (1, .ref (ad 0)), (2, .ref (ad 5)), (3, .ref (ad 6)), (4, .int (nI i))]) (hcell : cells + 12 ≤ R.cells ∧ slots + 87 ≤ R.slots)
    (kk : ∀ (ad1 : Nat → Nat) (C1 M1 : Nat → Nat → Int32) (H1 : Heap) (locs1 : List Loc) (ls1 : Array Slot), jw D cA B ad1 C1 M1 H1 → va_S (fun q => B ≤ q) s.heap H1 locs1 → ad1 0 = ad 0 ∧ ad1 5 = ad 5 ∧ ad1 6 = ad 6 → lv_has ls1 7 [(0, .ref b), (1, .ref (ad 0)), (2, .ref (ad 5)), (3, .ref (ad 6)), (4, .int (nI i))] → W p l e R s m args below meth c H1 locs1 (cells + 12) (slots + 87) Q (F0 m 1081 ls1 [])) : W p l e R s m args below meth c H locs cells slots Q (F0 m 192 ls []) := by
  obtain ⟨S, K, Kx, hls, hX, hbl, hbB, hL, hR1, hR2⟩ := id Z
  have J := W0.1
  obtain ⟨y0, X0, O, hm⟩ := jw_ow W0
  refine lv_aload_n S.1 S.2.1 dL_law_192 rfl (lv_at hl 1 rfl) ?_
  refine lv_aload_n S.1 S.2.1 dL_law_193 rfl (lv_at hl 0 rfl) ?_
  refine lv_iload S.1 S.2.1 dL_law_194 (lv_at hl 4 rfl) ?_
  refine lv_iconst (v := 1) S.1 S.2.1 dL_law_196 (by decide) ?_
  refine lv_iadd S.1 S.2.1 dL_law_197 ?_
  refine nt_i (y := nI (i + 1)) (nI_add i 1) ?_
  refine va_sld S.1 S.2.1 hX hbl hbB hS (pk_in (i + 1) L (by omega) rfl (by omega)) dL_law_198 ?_
  refine nt_i (y := xs (i + 1)) (by rw [nI_clamp (by omega)]) ?_
  refine lv_aload_n S.1 S.2.1 dL_law_199 rfl (lv_at hl 3 rfl) ?_
  refine nc_hS (As := [.ref (ad 0), .int (xs (i + 1)), .ref (ad 6)]) (rest := []) S K Kx hS (w_turn l C (xs (i + 1))  y0 O J.dK hls J.hgo (J_turn J (xs (i + 1))).1) k2_67 k2_68 k1_0 k2_69 (num := 3) (by decide +kernel) rfl ⟨by omega, by omega⟩ hl.1 rfl (by decide) dL_law_200 ⟨by omega, by omega⟩ (fun v9 H1 locs1 hP hS => ?_)
  obtain ⟨rfl, dom1, C1, y1, O1, J1, hd1, hy1⟩ := aft_same (pr := (fun y9 => y9 = (f_X5_turn M (xs (i + 1)) (M 0 2).toNatClampNeg).toInt64)) J (J_turn J (xs (i + 1))) rfl (fun t _ => codC_n t) (cs_turn C (xs (i + 1))) (fun _ h => congrArg Int32.toInt64 h) hP
  obtain ⟨f9, E9, hf9, N9, hc9, h69, d69⟩ := ow_mw O1 hm (fun r hr => hd1 r (dmn_m hr))
  refine lv_istore (lv' := [(5, .int _), (0, .ref b), (1, .ref (ad 0)), (2, .ref (ad 5)), (3, .ref (ad 6)), (4, .int (nI i))]) S.1 S.2.1 dL_law_203 hl (by decide) rfl (fun ls hl => ?_)
  refine lv_aload_n S.1 S.2.1 dL_law_205 rfl (lv_at hl 3 rfl) ?_
  refine lv_aload_n S.1 S.2.1 dL_law_206 rfl (lv_at hl 1 rfl) ?_
  refine lv_iload S.1 S.2.1 dL_law_207 (lv_at hl 5 rfl) ?_
  refine lv_iconst (v := 1) S.1 S.2.1 dL_law_209 (by decide) ?_
  refine lv_iadd S.1 S.2.1 dL_law_210 ?_
  refine nt_i (y := nI (i + 1)) (nI_add i 1) ?_
  refine va_sld S.1 S.2.1 hX hbl hbB hS (pk_in (i + 1) L (by omega) rfl (by omega)) dL_law_211 ?_
  refine nt_i (y := xs (i + 1)) (by rw [nI_clamp (by omega)]) ?_
  refine mc_wV (As := [.int (xs (i + 1))]) (rest := []) S K N9 hS rfl (m_X5_turn l M (xs (i + 1)) (M 0 2).toNatClampNeg N9 J.hg (fun h => ⟨(J.gk (opn_go h)).1, J.lt (J.gk (opn_go h)).2.1⟩)) k3_239 k4_0 k4_1 k1_3 k4_2 (num := 1) (by decide +kernel) rfl ⟨by omega, by omega⟩ hl.1 rfl (by decide) dL_law_212 ⟨by omega, by omega⟩ (fun v8 H2 locs2 hP2 hS => ?_)
  obtain ⟨rfl, N2⟩ := hP2
  refine lv_istore (lv' := [(6, .int _), (5, .int _), (0, .ref b), (1, .ref (ad 0)), (2, .ref (ad 5)), (3, .ref (ad 6)), (4, .int (nI i))]) S.1 S.2.1 dL_law_215 hl (by decide) rfl (fun ls hl => ?_)
  refine W.widen (k := cells + 12) (n := slots + 87) (by omega) (by omega) ?_
  exact tail_i (t0 := 217) Z N2 hS hc9 h69 d69 (fun _ _ _ => rfl) J1 hd1 rfl (fun z => hf9.trans (hy1 z)) (lv_sub hl [2, 3, 4, 5, 6, 1, 0] rfl) dL_law_217 dL_law_218 dL_law_221 dL_law_223 dL_law_228 dL_law_230 dL_law_233 dL_law_234 dL_law_235 dL_law_236 dL_law_238 dL_law_239 dL_law_240 dL_law_245 (by decide) ⟨by omega, by omega⟩ (fun Wn hln => kk ad _ _ _ _ _ Wn hS ⟨rfl, rfl, rfl⟩ hln)
set_option maxHeartbeats 4000000 in
theorem lc_jump {ad : Nat → Nat} {C M : Nat → Nat → Int32} {i : Nat} (Z : LwS p l s m args meth c D cA B b L xs R) (W0 : jw D cA B ad C M H) (hS : va_S (fun q => B ≤ q) s.heap H locs) (hi : i + 4 < L) (hl : lv_has ls 7 [(0, .ref b), (1, .ref (ad 0)), (2, .ref (ad 5)), (3, .ref (ad 6)), (4, .int (nI i))]) (hcell : cells + 12 ≤ R.cells ∧ slots + 87 ≤ R.slots)
    (kk : ∀ (ad1 : Nat → Nat) (C1 M1 : Nat → Nat → Int32) (H1 : Heap) (locs1 : List Loc) (ls1 : Array Slot), jw D cA B ad1 C1 M1 H1 → va_S (fun q => B ≤ q) s.heap H1 locs1 → ad1 0 = ad 0 ∧ ad1 5 = ad 5 ∧ ad1 6 = ad 6 → lv_has ls1 7 [(0, .ref b), (1, .ref (ad 0)), (2, .ref (ad 5)), (3, .ref (ad 6)), (4, .int (nI i))] → W p l e R s m args below meth c H1 locs1 (cells + 12) (slots + 87) Q (F0 m 1081 ls1 [])) : W p l e R s m args below meth c H locs cells slots Q (F0 m 248 ls []) := by
  obtain ⟨S, K, Kx, hls, hX, hbl, hbB, hL, hR1, hR2⟩ := id Z
  obtain ⟨ad2, C2, W2, he, hcnt, hle, nd, had⟩ := pre_E W0
  have a0 : ad2 0 = ad 0 := he 0 (dmn_6 (by decide))
  have a5 : ad2 5 = ad 5 := he 5 (dmn_6 (by decide))
  have a6 : ad2 6 = ad 6 := he 6 (dmn_6 (by decide))
  rw [← a0, ← a5, ← a6] at hl kk
  clear W0
  have J := W2.1
  obtain ⟨y0, X0, O, hm⟩ := jw_ow W2
  refine lv_aload_n S.1 S.2.1 dL_law_248 rfl (lv_at hl 1 rfl) ?_
  refine lv_aload_n S.1 S.2.1 dL_law_249 rfl (lv_at hl 0 rfl) ?_
  refine lv_iload S.1 S.2.1 dL_law_250 (lv_at hl 4 rfl) ?_
  refine lv_iconst (v := 1) S.1 S.2.1 dL_law_252 (by decide) ?_
  refine lv_iadd S.1 S.2.1 dL_law_253 ?_
  refine nt_i (y := nI (i + 1)) (nI_add i 1) ?_
  refine va_sld S.1 S.2.1 hX hbl hbB hS (pk_in (i + 1) L (by omega) rfl (by omega)) dL_law_254 ?_
  refine nt_i (y := xs (i + 1)) (by rw [nI_clamp (by omega)]) ?_
  refine lv_aload_n S.1 S.2.1 dL_law_255 rfl (lv_at hl 0 rfl) ?_
  refine lv_iload S.1 S.2.1 dL_law_256 (lv_at hl 4 rfl) ?_
  refine lv_iconst (v := 2) S.1 S.2.1 dL_law_258 (by decide) ?_
  refine lv_iadd S.1 S.2.1 dL_law_259 ?_
  refine nt_i (y := nI (i + 2)) (nI_add i 2) ?_
  refine va_sld S.1 S.2.1 hX hbl hbB hS (pk_in (i + 2) L (by omega) rfl (by omega)) dL_law_260 ?_
  refine nt_i (y := xs (i + 2)) (by rw [nI_clamp (by omega)]) ?_
  refine lv_aload_n S.1 S.2.1 dL_law_261 rfl (lv_at hl 0 rfl) ?_
  refine lv_iload S.1 S.2.1 dL_law_262 (lv_at hl 4 rfl) ?_
  refine lv_iconst (v := 3) S.1 S.2.1 dL_law_264 (by decide) ?_
  refine lv_iadd S.1 S.2.1 dL_law_265 ?_
  refine nt_i (y := nI (i + 3)) (nI_add i 3) ?_
  refine va_sld S.1 S.2.1 hX hbl hbB hS (pk_in (i + 3) L (by omega) rfl (by omega)) dL_law_266 ?_
  refine nt_i (y := xs (i + 3)) (by rw [nI_clamp (by omega)]) ?_
  suffices key : ∀ z9 : Int32, z9 = zb01 (xs (i + 3)) → W p l e R s m args below meth c H locs cells slots Q (F0 m 275 ls [.int z9, .int (xs (i + 2)), .int (xs (i + 1)), .ref (ad2 0)]) from
    lv_if_eq (tgt := 274) S.1 S.2.1 dL_law_267 (by decide) (fun h => lv_iconst (v := 0) S.1 S.2.1 dL_law_274 (by decide) (key 0 (zb_p h).symm)) (fun h => lv_iconst (v := 1) S.1 S.2.1 dL_law_270 (by decide) (lv_goto (tgt := 275) S.1 S.2.1 dL_law_271 (by decide) (key 1 (zb_n h).symm)))
  rintro z9 rfl
  refine lv_aload_n S.1 S.2.1 dL_law_275 rfl (lv_at hl 3 rfl) ?_
  refine nc_hS (As := [.ref (ad2 0), .int (xs (i + 1)), .int (xs (i + 2)), .int (zb01 (xs (i + 3))), .ref (ad2 6)]) (rest := []) S K Kx hS (w_jump l C2 (xs (i + 1)) (xs (i + 2)) (zb01 (xs (i + 3))) (nE M (M 0 2).toNatClampNeg) y0 O J.dK hls J.hgo hcnt hle nd had (zb_01 _) (J_jump J (xs (i + 1)) (xs (i + 2)) (zb01 (xs (i + 3)))).1) k2_103 k2_104 k1_0 k2_105 (num := 5) (by decide +kernel) rfl ⟨by omega, by omega⟩ hl.1 rfl (by decide) dL_law_276 ⟨by omega, by omega⟩ (fun v9 H1 locs1 hP hS => ?_)
  obtain ⟨rfl, dom1, C1, y1, O1, J1, hd1, hy1⟩ := aft_of (pr := (fun y9 => y9 = (f_X5_jump M (xs (i + 1)) (xs (i + 2)) (zb01 (xs (i + 3))) (M 0 2).toNatClampNeg (nE M (M 0 2).toNatClampNeg)).toInt64)) J (J_jump J (xs (i + 1)) (xs (i + 2)) (zb01 (xs (i + 3)))) rfl (fun t _ => codC_n t) (fun h J1 => J.dom_jump h J1) (fun _ h => congrArg Int32.toInt64 h) hP
  obtain ⟨f9, E9, hf9, N9, hc9, h69, d69⟩ := ow_mw O1 hm (fun r hr => hd1 r (dmn_m hr))
  refine lv_istore (lv' := [(5, .int _), (0, .ref b), (1, .ref (ad2 0)), (2, .ref (ad2 5)), (3, .ref (ad2 6)), (4, .int (nI i))]) S.1 S.2.1 dL_law_279 hl (by decide) rfl (fun ls hl => ?_)
  refine lv_aload_n S.1 S.2.1 dL_law_281 rfl (lv_at hl 3 rfl) ?_
  refine lv_aload_n S.1 S.2.1 dL_law_282 rfl (lv_at hl 1 rfl) ?_
  refine lv_iload S.1 S.2.1 dL_law_283 (lv_at hl 5 rfl) ?_
  refine lv_iconst (v := 1) S.1 S.2.1 dL_law_285 (by decide) ?_
  refine lv_iadd S.1 S.2.1 dL_law_286 ?_
  refine nt_i (y := nI (i + 1)) (nI_add i 1) ?_
  refine va_sld S.1 S.2.1 hX hbl hbB hS (pk_in (i + 1) L (by omega) rfl (by omega)) dL_law_287 ?_
  refine nt_i (y := xs (i + 1)) (by rw [nI_clamp (by omega)]) ?_
  refine lv_aload_n S.1 S.2.1 dL_law_288 rfl (lv_at hl 1 rfl) ?_
  refine lv_iload S.1 S.2.1 dL_law_289 (lv_at hl 5 rfl) ?_
  refine lv_iconst (v := 2) S.1 S.2.1 dL_law_291 (by decide) ?_
  refine lv_iadd S.1 S.2.1 dL_law_292 ?_
  refine nt_i (y := nI (i + 2)) (nI_add i 2) ?_
  refine va_sld S.1 S.2.1 hX hbl hbB hS (pk_in (i + 2) L (by omega) rfl (by omega)) dL_law_293 ?_
  refine nt_i (y := xs (i + 2)) (by rw [nI_clamp (by omega)]) ?_
  refine lv_aload_n S.1 S.2.1 dL_law_294 rfl (lv_at hl 1 rfl) ?_
  refine lv_iload S.1 S.2.1 dL_law_295 (lv_at hl 5 rfl) ?_
  refine lv_iconst (v := 3) S.1 S.2.1 dL_law_297 (by decide) ?_
  refine lv_iadd S.1 S.2.1 dL_law_298 ?_
  refine nt_i (y := nI (i + 3)) (nI_add i 3) ?_
  refine va_sld S.1 S.2.1 hX hbl hbB hS (pk_in (i + 3) L (by omega) rfl (by omega)) dL_law_299 ?_
  refine nt_i (y := xs (i + 3)) (by rw [nI_clamp (by omega)]) ?_
  suffices key : ∀ z9 : Int32, z9 = zb01 (xs (i + 3)) → W p l e R s m args below meth c H1 locs1 (cells + 7) (slots + 48) Q (F0 m 308 ls [.int z9, .int (xs (i + 2)), .int (xs (i + 1)), .ref (ad2 5)]) from
    lv_if_eq (tgt := 307) S.1 S.2.1 dL_law_300 (by decide) (fun h => lv_iconst (v := 0) S.1 S.2.1 dL_law_307 (by decide) (key 0 (zb_p h).symm)) (fun h => lv_iconst (v := 1) S.1 S.2.1 dL_law_303 (by decide) (lv_goto (tgt := 308) S.1 S.2.1 dL_law_304 (by decide) (key 1 (zb_n h).symm)))
  rintro z9 rfl
  refine mc_wV (As := [.int (xs (i + 1)), .int (xs (i + 2)), .int (zb01 (xs (i + 3)))]) (rest := []) S K N9 hS rfl (m_X5_jump l M (xs (i + 1)) (xs (i + 2)) (zb01 (xs (i + 3))) (M 0 2).toNatClampNeg (nE M (M 0 2).toNatClampNeg) N9 J.hg (fun h => by rw [opn_th] at h; exact ⟨(J.gk (opn_go h)).1, J.lt (J.gk (opn_go h)).2.1, (J.cnt (J.lt (J.gk (opn_go h)).2.1)).1, (J.cnt (J.lt (J.gk (opn_go h)).2.1)).2⟩) (zb_nar _)) k4_7 k4_8 k4_9 k1_3 k4_10 (num := 3) (by decide +kernel) rfl ⟨by omega, by omega⟩ hl.1 rfl (by decide) dL_law_308 ⟨by omega, by omega⟩ (fun v8 H2 locs2 hP2 hS => ?_)
  obtain ⟨rfl, N2⟩ := hP2
  refine lv_istore (lv' := [(6, .int _), (5, .int _), (0, .ref b), (1, .ref (ad2 0)), (2, .ref (ad2 5)), (3, .ref (ad2 6)), (4, .int (nI i))]) S.1 S.2.1 dL_law_311 hl (by decide) rfl (fun ls hl => ?_)
  refine W.widen (k := cells + 12) (n := slots + 87) (by omega) (by omega) ?_
  exact tail_i (t0 := 313) Z N2 hS hc9 h69 d69 (fun _ _ _ => rfl) J1 hd1 rfl (fun z => hf9.trans (hy1 z)) (lv_sub hl [2, 3, 4, 5, 6, 1, 0] rfl) dL_law_313 dL_law_314 dL_law_317 dL_law_319 dL_law_324 dL_law_326 dL_law_329 dL_law_330 dL_law_331 dL_law_332 dL_law_334 dL_law_335 dL_law_336 dL_law_341 (by decide) ⟨by omega, by omega⟩ (fun Wn hln => kk ad2 _ _ _ _ _ Wn hS ⟨rfl, rfl, rfl⟩ hln)
set_option maxHeartbeats 4000000 in
theorem lc_spin {ad : Nat → Nat} {C M : Nat → Nat → Int32} {i : Nat} (Z : LwS p l s m args meth c D cA B b L xs R) (W0 : jw D cA B ad C M H) (hS : va_S (fun q => B ≤ q) s.heap H locs) (hi : i + 4 < L) (hl : lv_has ls 7 [(0, .ref b), (1, .ref (ad 0)), (2, .ref (ad 5)), (3, .ref (ad 6)), (4, .int (nI i))]) (hcell : cells + 12 ≤ R.cells ∧ slots + 87 ≤ R.slots)
    (kk : ∀ (ad1 : Nat → Nat) (C1 M1 : Nat → Nat → Int32) (H1 : Heap) (locs1 : List Loc) (ls1 : Array Slot), jw D cA B ad1 C1 M1 H1 → va_S (fun q => B ≤ q) s.heap H1 locs1 → ad1 0 = ad 0 ∧ ad1 5 = ad 5 ∧ ad1 6 = ad 6 → lv_has ls1 7 [(0, .ref b), (1, .ref (ad 0)), (2, .ref (ad 5)), (3, .ref (ad 6)), (4, .int (nI i))] → W p l e R s m args below meth c H1 locs1 (cells + 12) (slots + 87) Q (F0 m 1081 ls1 [])) : W p l e R s m args below meth c H locs cells slots Q (F0 m 344 ls []) := by
  obtain ⟨S, K, Kx, hls, hX, hbl, hbB, hL, hR1, hR2⟩ := id Z
  obtain ⟨ad2, C2, W2, he, hcnt, hle, nd, had⟩ := pre_E W0
  have a0 : ad2 0 = ad 0 := he 0 (dmn_6 (by decide))
  have a5 : ad2 5 = ad 5 := he 5 (dmn_6 (by decide))
  have a6 : ad2 6 = ad 6 := he 6 (dmn_6 (by decide))
  rw [← a0, ← a5, ← a6] at hl kk
  clear W0
  have J := W2.1
  obtain ⟨y0, X0, O, hm⟩ := jw_ow W2
  refine lv_aload_n S.1 S.2.1 dL_law_344 rfl (lv_at hl 1 rfl) ?_
  refine lv_aload_n S.1 S.2.1 dL_law_345 rfl (lv_at hl 0 rfl) ?_
  refine lv_iload S.1 S.2.1 dL_law_346 (lv_at hl 4 rfl) ?_
  refine lv_iconst (v := 1) S.1 S.2.1 dL_law_348 (by decide) ?_
  refine lv_iadd S.1 S.2.1 dL_law_349 ?_
  refine nt_i (y := nI (i + 1)) (nI_add i 1) ?_
  refine va_sld S.1 S.2.1 hX hbl hbB hS (pk_in (i + 1) L (by omega) rfl (by omega)) dL_law_350 ?_
  refine nt_i (y := xs (i + 1)) (by rw [nI_clamp (by omega)]) ?_
  refine lv_aload_n S.1 S.2.1 dL_law_351 rfl (lv_at hl 0 rfl) ?_
  refine lv_iload S.1 S.2.1 dL_law_352 (lv_at hl 4 rfl) ?_
  refine lv_iconst (v := 2) S.1 S.2.1 dL_law_354 (by decide) ?_
  refine lv_iadd S.1 S.2.1 dL_law_355 ?_
  refine nt_i (y := nI (i + 2)) (nI_add i 2) ?_
  refine va_sld S.1 S.2.1 hX hbl hbB hS (pk_in (i + 2) L (by omega) rfl (by omega)) dL_law_356 ?_
  refine nt_i (y := xs (i + 2)) (by rw [nI_clamp (by omega)]) ?_
  refine lv_aload_n S.1 S.2.1 dL_law_357 rfl (lv_at hl 3 rfl) ?_
  refine nc_hS (As := [.ref (ad2 0), .int (xs (i + 1)), .int (xs (i + 2)), .ref (ad2 6)]) (rest := []) S K Kx hS (w_spin l C2 (xs (i + 1)) (xs (i + 2)) (nE M (M 0 2).toNatClampNeg) y0 O J.dK hls J.hgo hcnt hle nd had (J_spin J (xs (i + 1)) (xs (i + 2))).1) k2_183 k2_184 k1_0 k2_185 (num := 4) (by decide +kernel) rfl ⟨by omega, by omega⟩ hl.1 rfl (by decide) dL_law_358 ⟨by omega, by omega⟩ (fun v9 H1 locs1 hP hS => ?_)
  obtain ⟨rfl, dom1, C1, y1, O1, J1, hd1, hy1⟩ := aft_of (pr := (fun y9 => y9 = (f_X5_spin M (xs (i + 1)) (xs (i + 2)) (M 0 2).toNatClampNeg (nE M (M 0 2).toNatClampNeg)).toInt64)) J (J_spin J (xs (i + 1)) (xs (i + 2))) rfl (fun t _ => codC_n t) (fun h J1 => J.dom_spin h J1) (fun _ h => congrArg Int32.toInt64 h) hP
  obtain ⟨f9, E9, hf9, N9, hc9, h69, d69⟩ := ow_mw O1 hm (fun r hr => hd1 r (dmn_m hr))
  refine lv_istore (lv' := [(5, .int _), (0, .ref b), (1, .ref (ad2 0)), (2, .ref (ad2 5)), (3, .ref (ad2 6)), (4, .int (nI i))]) S.1 S.2.1 dL_law_361 hl (by decide) rfl (fun ls hl => ?_)
  refine lv_aload_n S.1 S.2.1 dL_law_363 rfl (lv_at hl 3 rfl) ?_
  refine lv_aload_n S.1 S.2.1 dL_law_364 rfl (lv_at hl 1 rfl) ?_
  refine lv_iload S.1 S.2.1 dL_law_365 (lv_at hl 5 rfl) ?_
  refine lv_iconst (v := 1) S.1 S.2.1 dL_law_367 (by decide) ?_
  refine lv_iadd S.1 S.2.1 dL_law_368 ?_
  refine nt_i (y := nI (i + 1)) (nI_add i 1) ?_
  refine va_sld S.1 S.2.1 hX hbl hbB hS (pk_in (i + 1) L (by omega) rfl (by omega)) dL_law_369 ?_
  refine nt_i (y := xs (i + 1)) (by rw [nI_clamp (by omega)]) ?_
  refine lv_aload_n S.1 S.2.1 dL_law_370 rfl (lv_at hl 1 rfl) ?_
  refine lv_iload S.1 S.2.1 dL_law_371 (lv_at hl 5 rfl) ?_
  refine lv_iconst (v := 2) S.1 S.2.1 dL_law_373 (by decide) ?_
  refine lv_iadd S.1 S.2.1 dL_law_374 ?_
  refine nt_i (y := nI (i + 2)) (nI_add i 2) ?_
  refine va_sld S.1 S.2.1 hX hbl hbB hS (pk_in (i + 2) L (by omega) rfl (by omega)) dL_law_375 ?_
  refine nt_i (y := xs (i + 2)) (by rw [nI_clamp (by omega)]) ?_
  refine mc_wV (As := [.int (xs (i + 1)), .int (xs (i + 2))]) (rest := []) S K N9 hS rfl (m_X5_spin l M (xs (i + 1)) (xs (i + 2)) (M 0 2).toNatClampNeg (nE M (M 0 2).toNatClampNeg) N9 J.hg (fun h => ⟨(J.gk (opn_go h)).1, J.lt (J.gk (opn_go h)).2.1, (J.cnt (J.lt (J.gk (opn_go h)).2.1)).1, (J.cnt (J.lt (J.gk (opn_go h)).2.1)).2⟩)) k4_18 k4_19 k4_20 k1_3 k4_21 (num := 2) (by decide +kernel) rfl ⟨by omega, by omega⟩ hl.1 rfl (by decide) dL_law_376 ⟨by omega, by omega⟩ (fun v8 H2 locs2 hP2 hS => ?_)
  obtain ⟨rfl, N2⟩ := hP2
  refine lv_istore (lv' := [(6, .int _), (5, .int _), (0, .ref b), (1, .ref (ad2 0)), (2, .ref (ad2 5)), (3, .ref (ad2 6)), (4, .int (nI i))]) S.1 S.2.1 dL_law_379 hl (by decide) rfl (fun ls hl => ?_)
  refine W.widen (k := cells + 12) (n := slots + 87) (by omega) (by omega) ?_
  exact tail_i (t0 := 381) Z N2 hS hc9 h69 d69 (fun _ _ _ => rfl) J1 hd1 rfl (fun z => hf9.trans (hy1 z)) (lv_sub hl [2, 3, 4, 5, 6, 1, 0] rfl) dL_law_381 dL_law_382 dL_law_385 dL_law_387 dL_law_392 dL_law_394 dL_law_397 dL_law_398 dL_law_399 dL_law_400 dL_law_402 dL_law_403 dL_law_404 dL_law_409 (by decide) ⟨by omega, by omega⟩ (fun Wn hln => kk ad2 _ _ _ _ _ Wn hS ⟨rfl, rfl, rfl⟩ hln)
set_option maxHeartbeats 4000000 in
theorem lc_end {ad : Nat → Nat} {C M : Nat → Nat → Int32} {i : Nat} (Z : LwS p l s m args meth c D cA B b L xs R) (W0 : jw D cA B ad C M H) (hS : va_S (fun q => B ≤ q) s.heap H locs) (hi : i + 4 < L) (hl : lv_has ls 7 [(0, .ref b), (1, .ref (ad 0)), (2, .ref (ad 5)), (3, .ref (ad 6)), (4, .int (nI i))]) (hcell : cells + 12 ≤ R.cells ∧ slots + 87 ≤ R.slots)
    (kk : ∀ (ad1 : Nat → Nat) (C1 M1 : Nat → Nat → Int32) (H1 : Heap) (locs1 : List Loc) (ls1 : Array Slot), jw D cA B ad1 C1 M1 H1 → va_S (fun q => B ≤ q) s.heap H1 locs1 → ad1 0 = ad 0 ∧ ad1 5 = ad 5 ∧ ad1 6 = ad 6 → lv_has ls1 7 [(0, .ref b), (1, .ref (ad 0)), (2, .ref (ad 5)), (3, .ref (ad 6)), (4, .int (nI i))] → W p l e R s m args below meth c H1 locs1 (cells + 12) (slots + 87) Q (F0 m 1081 ls1 [])) : W p l e R s m args below meth c H locs cells slots Q (F0 m 412 ls []) := by
  obtain ⟨S, K, Kx, hls, hX, hbl, hbB, hL, hR1, hR2⟩ := id Z
  have J := W0.1
  obtain ⟨y0, X0, O, hm⟩ := jw_ow W0
  refine lv_aload_n S.1 S.2.1 dL_law_412 rfl (lv_at hl 1 rfl) ?_
  refine lv_aload_n S.1 S.2.1 dL_law_413 rfl (lv_at hl 3 rfl) ?_
  refine nc_hS (As := [.ref (ad 0), .ref (ad 6)]) (rest := []) S K Kx hS (w_end l C   y0 O J.dK hls J.hgo (J_end J).1) k2_205 k2_206 k1_0 k2_207 (num := 2) (by decide +kernel) rfl ⟨by omega, by omega⟩ hl.1 rfl (by decide) dL_law_414 ⟨by omega, by omega⟩ (fun v9 H1 locs1 hP hS => ?_)
  obtain ⟨rfl, dom1, C1, y1, O1, J1, hd1, hy1⟩ := aft_same (pr := (fun y9 => y9 = (f_X5_end M  (M 0 2).toNatClampNeg).toInt64)) J (J_end J) rfl (fun t _ => codA_n t) (cs_end C) (fun _ h => congrArg Int32.toInt64 h) hP
  obtain ⟨f9, E9, hf9, N9, hc9, h69, d69⟩ := ow_mw O1 hm (fun r hr => hd1 r (dmn_m hr))
  refine lv_istore (lv' := [(5, .int _), (0, .ref b), (1, .ref (ad 0)), (2, .ref (ad 5)), (3, .ref (ad 6)), (4, .int (nI i))]) S.1 S.2.1 dL_law_417 hl (by decide) rfl (fun ls hl => ?_)
  refine lv_aload_n S.1 S.2.1 dL_law_419 rfl (lv_at hl 3 rfl) ?_
  refine mc_wV (As := []) (rest := []) S K N9 hS rfl (m_X5_end l M  (M 0 2).toNatClampNeg N9 (fun h => ⟨(J.gk h).1, J.lt (J.gk h).2.1⟩)) k4_22 k4_23 k4_24 k1_3 k4_25 (num := 0) (by decide +kernel) rfl ⟨by omega, by omega⟩ hl.1 rfl (by decide) dL_law_420 ⟨by omega, by omega⟩ (fun v8 H2 locs2 hP2 hS => ?_)
  obtain ⟨rfl, N2⟩ := hP2
  refine lv_istore (lv' := [(6, .int _), (5, .int _), (0, .ref b), (1, .ref (ad 0)), (2, .ref (ad 5)), (3, .ref (ad 6)), (4, .int (nI i))]) S.1 S.2.1 dL_law_423 hl (by decide) rfl (fun ls hl => ?_)
  refine W.widen (k := cells + 12) (n := slots + 87) (by omega) (by omega) ?_
  exact tail_i (t0 := 425) Z N2 hS hc9 h69 d69 (fun _ _ _ => rfl) J1 hd1 rfl (fun z => hf9.trans (hy1 z)) (lv_sub hl [2, 3, 4, 5, 6, 1, 0] rfl) dL_law_425 dL_law_426 dL_law_429 dL_law_431 dL_law_436 dL_law_438 dL_law_441 dL_law_442 dL_law_443 dL_law_444 dL_law_446 dL_law_447 dL_law_448 dL_law_453 (by decide) ⟨by omega, by omega⟩ (fun Wn hln => kk ad _ _ _ _ _ Wn hS ⟨rfl, rfl, rfl⟩ hln)
set_option maxHeartbeats 4000000 in
theorem lc_call {ad : Nat → Nat} {C M : Nat → Nat → Int32} {i : Nat} (Z : LwS p l s m args meth c D cA B b L xs R) (W0 : jw D cA B ad C M H) (hS : va_S (fun q => B ≤ q) s.heap H locs) (hi : i + 4 < L) (hl : lv_has ls 7 [(0, .ref b), (1, .ref (ad 0)), (2, .ref (ad 5)), (3, .ref (ad 6)), (4, .int (nI i))]) (hcell : cells + 12 ≤ R.cells ∧ slots + 87 ≤ R.slots)
    (kk : ∀ (ad1 : Nat → Nat) (C1 M1 : Nat → Nat → Int32) (H1 : Heap) (locs1 : List Loc) (ls1 : Array Slot), jw D cA B ad1 C1 M1 H1 → va_S (fun q => B ≤ q) s.heap H1 locs1 → ad1 0 = ad 0 ∧ ad1 5 = ad 5 ∧ ad1 6 = ad 6 → lv_has ls1 7 [(0, .ref b), (1, .ref (ad 0)), (2, .ref (ad 5)), (3, .ref (ad 6)), (4, .int (nI i))] → W p l e R s m args below meth c H1 locs1 (cells + 12) (slots + 87) Q (F0 m 1081 ls1 [])) : W p l e R s m args below meth c H locs cells slots Q (F0 m 456 ls []) := by
  obtain ⟨S, K, Kx, hls, hX, hbl, hbB, hL, hR1, hR2⟩ := id Z
  have J := W0.1
  obtain ⟨y0, X0, O, hm⟩ := jw_ow W0
  refine lv_aload_n S.1 S.2.1 dL_law_456 rfl (lv_at hl 1 rfl) ?_
  refine lv_aload_n S.1 S.2.1 dL_law_457 rfl (lv_at hl 0 rfl) ?_
  refine lv_iload S.1 S.2.1 dL_law_458 (lv_at hl 4 rfl) ?_
  refine lv_iconst (v := 1) S.1 S.2.1 dL_law_460 (by decide) ?_
  refine lv_iadd S.1 S.2.1 dL_law_461 ?_
  refine nt_i (y := nI (i + 1)) (nI_add i 1) ?_
  refine va_sld S.1 S.2.1 hX hbl hbB hS (pk_in (i + 1) L (by omega) rfl (by omega)) dL_law_462 ?_
  refine nt_i (y := xs (i + 1)) (by rw [nI_clamp (by omega)]) ?_
  refine lv_aload_n S.1 S.2.1 dL_law_463 rfl (lv_at hl 0 rfl) ?_
  refine lv_iload S.1 S.2.1 dL_law_464 (lv_at hl 4 rfl) ?_
  refine lv_iconst (v := 2) S.1 S.2.1 dL_law_466 (by decide) ?_
  refine lv_iadd S.1 S.2.1 dL_law_467 ?_
  refine nt_i (y := nI (i + 2)) (nI_add i 2) ?_
  refine va_sld S.1 S.2.1 hX hbl hbB hS (pk_in (i + 2) L (by omega) rfl (by omega)) dL_law_468 ?_
  refine nt_i (y := xs (i + 2)) (by rw [nI_clamp (by omega)]) ?_
  refine lv_aload_n S.1 S.2.1 dL_law_469 rfl (lv_at hl 0 rfl) ?_
  refine lv_iload S.1 S.2.1 dL_law_470 (lv_at hl 4 rfl) ?_
  refine lv_iconst (v := 3) S.1 S.2.1 dL_law_472 (by decide) ?_
  refine lv_iadd S.1 S.2.1 dL_law_473 ?_
  refine nt_i (y := nI (i + 3)) (nI_add i 3) ?_
  refine va_sld S.1 S.2.1 hX hbl hbB hS (pk_in (i + 3) L (by omega) rfl (by omega)) dL_law_474 ?_
  refine nt_i (y := xs (i + 3)) (by rw [nI_clamp (by omega)]) ?_
  refine lv_aload_n S.1 S.2.1 dL_law_475 rfl (lv_at hl 3 rfl) ?_
  refine nc_hS (As := [.ref (ad 0), .int (xs (i + 1)), .int (xs (i + 2)), .int (xs (i + 3)), .ref (ad 6)]) (rest := []) S K Kx hS (w_call l C (xs (i + 1)) (xs (i + 2)) (xs (i + 3))  y0 O J.dK hls J.hgo (J_call J (xs (i + 1)) (xs (i + 2)) (xs (i + 3))).1) k2_213 k2_214 k1_0 k2_215 (num := 5) (by decide +kernel) rfl ⟨by omega, by omega⟩ hl.1 rfl (by decide) dL_law_476 ⟨by omega, by omega⟩ (fun v9 H1 locs1 hP hS => ?_)
  obtain ⟨rfl, dom1, C1, y1, O1, J1, hd1, hy1⟩ := aft_same (pr := (fun y9 => y9 = (f_X5_call M (xs (i + 1)) (xs (i + 2)) (xs (i + 3)) (xs (i + 1)).toNatClampNeg (M 0 2).toNatClampNeg (xs (i + 2)).toNatClampNeg).toInt64)) J (J_call J (xs (i + 1)) (xs (i + 2)) (xs (i + 3))) rfl (fun t _ => codD_n t) (cs_call C (xs (i + 1)) (xs (i + 2)) (xs (i + 3))) (fun _ h => congrArg Int32.toInt64 h) hP
  obtain ⟨f9, E9, hf9, N9, hc9, h69, d69⟩ := ow_mw O1 hm (fun r hr => hd1 r (dmn_m hr))
  refine lv_istore (lv' := [(5, .int _), (0, .ref b), (1, .ref (ad 0)), (2, .ref (ad 5)), (3, .ref (ad 6)), (4, .int (nI i))]) S.1 S.2.1 dL_law_479 hl (by decide) rfl (fun ls hl => ?_)
  refine lv_aload_n S.1 S.2.1 dL_law_481 rfl (lv_at hl 3 rfl) ?_
  refine lv_aload_n S.1 S.2.1 dL_law_482 rfl (lv_at hl 1 rfl) ?_
  refine lv_iload S.1 S.2.1 dL_law_483 (lv_at hl 5 rfl) ?_
  refine lv_iconst (v := 1) S.1 S.2.1 dL_law_485 (by decide) ?_
  refine lv_iadd S.1 S.2.1 dL_law_486 ?_
  refine nt_i (y := nI (i + 1)) (nI_add i 1) ?_
  refine va_sld S.1 S.2.1 hX hbl hbB hS (pk_in (i + 1) L (by omega) rfl (by omega)) dL_law_487 ?_
  refine nt_i (y := xs (i + 1)) (by rw [nI_clamp (by omega)]) ?_
  refine lv_aload_n S.1 S.2.1 dL_law_488 rfl (lv_at hl 1 rfl) ?_
  refine lv_iload S.1 S.2.1 dL_law_489 (lv_at hl 5 rfl) ?_
  refine lv_iconst (v := 2) S.1 S.2.1 dL_law_491 (by decide) ?_
  refine lv_iadd S.1 S.2.1 dL_law_492 ?_
  refine nt_i (y := nI (i + 2)) (nI_add i 2) ?_
  refine va_sld S.1 S.2.1 hX hbl hbB hS (pk_in (i + 2) L (by omega) rfl (by omega)) dL_law_493 ?_
  refine nt_i (y := xs (i + 2)) (by rw [nI_clamp (by omega)]) ?_
  refine lv_aload_n S.1 S.2.1 dL_law_494 rfl (lv_at hl 1 rfl) ?_
  refine lv_iload S.1 S.2.1 dL_law_495 (lv_at hl 5 rfl) ?_
  refine lv_iconst (v := 3) S.1 S.2.1 dL_law_497 (by decide) ?_
  refine lv_iadd S.1 S.2.1 dL_law_498 ?_
  refine nt_i (y := nI (i + 3)) (nI_add i 3) ?_
  refine va_sld S.1 S.2.1 hX hbl hbB hS (pk_in (i + 3) L (by omega) rfl (by omega)) dL_law_499 ?_
  refine nt_i (y := xs (i + 3)) (by rw [nI_clamp (by omega)]) ?_
  refine mc_wV (As := [.int (xs (i + 1)), .int (xs (i + 2)), .int (xs (i + 3))]) (rest := []) S K N9 hS rfl (m_X5_call l M (xs (i + 1)) (xs (i + 2)) (xs (i + 3)) (xs (i + 1)).toNatClampNeg (M 0 2).toNatClampNeg (xs (i + 2)).toNatClampNeg N9 J.hsk (fun h => ⟨(J.gk h).1, J.lt (J.gk h).2.1⟩) (fun h => ⟨(J.isEl h).2.2.1, Nat.lt_of_lt_of_le (J.isEl h).2.2.2 (J.cnt (J.lt (J.isEl h).2.1)).2⟩) in2) k4_26 k4_27 k4_28 k1_3 k4_29 (num := 3) (by decide +kernel) rfl ⟨by omega, by omega⟩ hl.1 rfl (by decide) dL_law_500 ⟨by omega, by omega⟩ (fun v8 H2 locs2 hP2 hS => ?_)
  obtain ⟨rfl, N2⟩ := hP2
  refine lv_istore (lv' := [(6, .int _), (5, .int _), (0, .ref b), (1, .ref (ad 0)), (2, .ref (ad 5)), (3, .ref (ad 6)), (4, .int (nI i))]) S.1 S.2.1 dL_law_503 hl (by decide) rfl (fun ls hl => ?_)
  refine W.widen (k := cells + 12) (n := slots + 87) (by omega) (by omega) ?_
  exact tail_i (t0 := 505) Z N2 hS hc9 h69 d69 (fun _ _ _ => rfl) J1 hd1 rfl (fun z => hf9.trans (hy1 z)) (lv_sub hl [2, 3, 4, 5, 6, 1, 0] rfl) dL_law_505 dL_law_506 dL_law_509 dL_law_511 dL_law_516 dL_law_518 dL_law_521 dL_law_522 dL_law_523 dL_law_524 dL_law_526 dL_law_527 dL_law_528 dL_law_533 (by decide) ⟨by omega, by omega⟩ (fun Wn hln => kk ad _ _ _ _ _ Wn hS ⟨rfl, rfl, rfl⟩ hln)
set_option maxHeartbeats 4000000 in
theorem lc_grade {ad : Nat → Nat} {C M : Nat → Nat → Int32} {i : Nat} (Z : LwS p l s m args meth c D cA B b L xs R) (W0 : jw D cA B ad C M H) (hS : va_S (fun q => B ≤ q) s.heap H locs) (hi : i + 4 < L) (hl : lv_has ls 7 [(0, .ref b), (1, .ref (ad 0)), (2, .ref (ad 5)), (3, .ref (ad 6)), (4, .int (nI i))]) (hcell : cells + 12 ≤ R.cells ∧ slots + 87 ≤ R.slots)
    (kk : ∀ (ad1 : Nat → Nat) (C1 M1 : Nat → Nat → Int32) (H1 : Heap) (locs1 : List Loc) (ls1 : Array Slot), jw D cA B ad1 C1 M1 H1 → va_S (fun q => B ≤ q) s.heap H1 locs1 → ad1 0 = ad 0 ∧ ad1 5 = ad 5 ∧ ad1 6 = ad 6 → lv_has ls1 7 [(0, .ref b), (1, .ref (ad 0)), (2, .ref (ad 5)), (3, .ref (ad 6)), (4, .int (nI i))] → W p l e R s m args below meth c H1 locs1 (cells + 12) (slots + 87) Q (F0 m 1081 ls1 [])) : W p l e R s m args below meth c H locs cells slots Q (F0 m 536 ls []) := by
  obtain ⟨S, K, Kx, hls, hX, hbl, hbB, hL, hR1, hR2⟩ := id Z
  have J := W0.1
  obtain ⟨y0, X0, O, hm⟩ := jw_ow W0
  refine lv_aload_n S.1 S.2.1 dL_law_536 rfl (lv_at hl 1 rfl) ?_
  refine lv_aload_n S.1 S.2.1 dL_law_537 rfl (lv_at hl 0 rfl) ?_
  refine lv_iload S.1 S.2.1 dL_law_538 (lv_at hl 4 rfl) ?_
  refine lv_iconst (v := 1) S.1 S.2.1 dL_law_540 (by decide) ?_
  refine lv_iadd S.1 S.2.1 dL_law_541 ?_
  refine nt_i (y := nI (i + 1)) (nI_add i 1) ?_
  refine va_sld S.1 S.2.1 hX hbl hbB hS (pk_in (i + 1) L (by omega) rfl (by omega)) dL_law_542 ?_
  refine nt_i (y := xs (i + 1)) (by rw [nI_clamp (by omega)]) ?_
  refine lv_aload_n S.1 S.2.1 dL_law_543 rfl (lv_at hl 0 rfl) ?_
  refine lv_iload S.1 S.2.1 dL_law_544 (lv_at hl 4 rfl) ?_
  refine lv_iconst (v := 2) S.1 S.2.1 dL_law_546 (by decide) ?_
  refine lv_iadd S.1 S.2.1 dL_law_547 ?_
  refine nt_i (y := nI (i + 2)) (nI_add i 2) ?_
  refine va_sld S.1 S.2.1 hX hbl hbB hS (pk_in (i + 2) L (by omega) rfl (by omega)) dL_law_548 ?_
  refine nt_i (y := xs (i + 2)) (by rw [nI_clamp (by omega)]) ?_
  refine lv_aload_n S.1 S.2.1 dL_law_549 rfl (lv_at hl 0 rfl) ?_
  refine lv_iload S.1 S.2.1 dL_law_550 (lv_at hl 4 rfl) ?_
  refine lv_iconst (v := 3) S.1 S.2.1 dL_law_552 (by decide) ?_
  refine lv_iadd S.1 S.2.1 dL_law_553 ?_
  refine nt_i (y := nI (i + 3)) (nI_add i 3) ?_
  refine va_sld S.1 S.2.1 hX hbl hbB hS (pk_in (i + 3) L (by omega) rfl (by omega)) dL_law_554 ?_
  refine nt_i (y := xs (i + 3)) (by rw [nI_clamp (by omega)]) ?_
  refine lv_aload_n S.1 S.2.1 dL_law_555 rfl (lv_at hl 0 rfl) ?_
  refine lv_iload S.1 S.2.1 dL_law_556 (lv_at hl 4 rfl) ?_
  refine lv_iconst (v := 4) S.1 S.2.1 dL_law_558 (by decide) ?_
  refine lv_iadd S.1 S.2.1 dL_law_559 ?_
  refine nt_i (y := nI (i + 4)) (nI_add i 4) ?_
  refine va_sld S.1 S.2.1 hX hbl hbB hS (pk_in (i + 4) L (by omega) rfl (by omega)) dL_law_560 ?_
  refine nt_i (y := xs (i + 4)) (by rw [nI_clamp (by omega)]) ?_
  refine nc_hS (As := [.ref (ad 0), .int (xs (i + 1)), .int (xs (i + 2)), .int (xs (i + 3)), .int (xs (i + 4))]) (rest := []) S K Kx hS (w_grade l C (xs (i + 1)) (xs (i + 2)) (xs (i + 3)) (xs (i + 4))  y0 O J.dK hls (J_grade J (xs (i + 1)) (xs (i + 2)) (xs (i + 3)) (xs (i + 4))).1) k3_5 k3_6 k1_0 k3_7 (num := 5) (by decide +kernel) rfl ⟨by omega, by omega⟩ hl.1 rfl (by decide) dL_law_561 ⟨by omega, by omega⟩ (fun v9 H1 locs1 hP hS => ?_)
  obtain ⟨rfl, dom1, C1, y1, O1, J1, hd1, hy1⟩ := aft_same (pr := (fun _ => True)) J (J_grade J (xs (i + 1)) (xs (i + 2)) (xs (i + 3)) (xs (i + 4))) rfl (fun t _ => codD_n t) (cs_grade C (xs (i + 1)) (xs (i + 2)) (xs (i + 3)) (xs (i + 4))) (fun _ _ => trivial) hP
  obtain ⟨f9, E9, hf9, N9, hc9, h69, d69⟩ := ow_mw O1 hm (fun r hr => hd1 r (dmn_m hr))
  refine lv_istore (lv' := [(5, .int _), (0, .ref b), (1, .ref (ad 0)), (2, .ref (ad 5)), (3, .ref (ad 6)), (4, .int (nI i))]) S.1 S.2.1 dL_law_564 hl (by decide) rfl (fun ls hl => ?_)
  refine lv_aload_n S.1 S.2.1 dL_law_566 rfl (lv_at hl 3 rfl) ?_
  refine lv_aload_n S.1 S.2.1 dL_law_567 rfl (lv_at hl 1 rfl) ?_
  refine lv_iload S.1 S.2.1 dL_law_568 (lv_at hl 5 rfl) ?_
  refine lv_iconst (v := 1) S.1 S.2.1 dL_law_570 (by decide) ?_
  refine lv_iadd S.1 S.2.1 dL_law_571 ?_
  refine nt_i (y := nI (i + 1)) (nI_add i 1) ?_
  refine va_sld S.1 S.2.1 hX hbl hbB hS (pk_in (i + 1) L (by omega) rfl (by omega)) dL_law_572 ?_
  refine nt_i (y := xs (i + 1)) (by rw [nI_clamp (by omega)]) ?_
  refine lv_aload_n S.1 S.2.1 dL_law_573 rfl (lv_at hl 1 rfl) ?_
  refine lv_iload S.1 S.2.1 dL_law_574 (lv_at hl 5 rfl) ?_
  refine lv_iconst (v := 2) S.1 S.2.1 dL_law_576 (by decide) ?_
  refine lv_iadd S.1 S.2.1 dL_law_577 ?_
  refine nt_i (y := nI (i + 2)) (nI_add i 2) ?_
  refine va_sld S.1 S.2.1 hX hbl hbB hS (pk_in (i + 2) L (by omega) rfl (by omega)) dL_law_578 ?_
  refine nt_i (y := xs (i + 2)) (by rw [nI_clamp (by omega)]) ?_
  refine lv_aload_n S.1 S.2.1 dL_law_579 rfl (lv_at hl 1 rfl) ?_
  refine lv_iload S.1 S.2.1 dL_law_580 (lv_at hl 5 rfl) ?_
  refine lv_iconst (v := 3) S.1 S.2.1 dL_law_582 (by decide) ?_
  refine lv_iadd S.1 S.2.1 dL_law_583 ?_
  refine nt_i (y := nI (i + 3)) (nI_add i 3) ?_
  refine va_sld S.1 S.2.1 hX hbl hbB hS (pk_in (i + 3) L (by omega) rfl (by omega)) dL_law_584 ?_
  refine nt_i (y := xs (i + 3)) (by rw [nI_clamp (by omega)]) ?_
  refine lv_aload_n S.1 S.2.1 dL_law_585 rfl (lv_at hl 1 rfl) ?_
  refine lv_iload S.1 S.2.1 dL_law_586 (lv_at hl 5 rfl) ?_
  refine lv_iconst (v := 4) S.1 S.2.1 dL_law_588 (by decide) ?_
  refine lv_iadd S.1 S.2.1 dL_law_589 ?_
  refine nt_i (y := nI (i + 4)) (nI_add i 4) ?_
  refine va_sld S.1 S.2.1 hX hbl hbB hS (pk_in (i + 4) L (by omega) rfl (by omega)) dL_law_590 ?_
  refine nt_i (y := xs (i + 4)) (by rw [nI_clamp (by omega)]) ?_
  refine mc_wV (As := [.int (xs (i + 1)), .int (xs (i + 2)), .int (xs (i + 3)), .int (xs (i + 4))]) (rest := []) S K N9 hS rfl (m_X5_grade l M (xs (i + 1)) (xs (i + 2)) (xs (i + 3)) (xs (i + 4)) (xs (i + 1)).toNatClampNeg (xs (i + 2)).toNatClampNeg (xs (i + 3)).toNatClampNeg N9 J.hsk in6 (fun h => ⟨(J.isEl h).1, J.lt (J.isEl h).2.1, (J.isEl h).2.2.1, Nat.lt_of_lt_of_le (J.isEl h).2.2.2 (J.cnt (J.lt (J.isEl h).2.1)).2⟩)) k4_38 k4_39 k4_40 k1_3 k4_41 (num := 4) (by decide +kernel) rfl ⟨by omega, by omega⟩ hl.1 rfl (by decide) dL_law_591 ⟨by omega, by omega⟩ (fun v8 H2 locs2 hP2 hS => ?_)
  obtain ⟨rfl, N2⟩ := hP2
  refine W.widen (k := cells + 12) (n := slots + 87) (by omega) (by omega) ?_
  exact tail_v (t0 := 594) Z N2 hS hc9 h69 (fun _ _ _ => rfl) J1 hd1 rfl (lv_sub hl [1, 2, 3, 4, 5, 0] rfl) dL_law_594 dL_law_595 dL_law_598 dL_law_600 dL_law_605 (by decide) ⟨by omega, by omega⟩ (fun Wn hln => kk ad _ _ _ _ _ Wn hS ⟨rfl, rfl, rfl⟩ hln)
set_option maxHeartbeats 4000000 in
theorem lc_component {ad : Nat → Nat} {C M : Nat → Nat → Int32} {i : Nat} (Z : LwS p l s m args meth c D cA B b L xs R) (W0 : jw D cA B ad C M H) (hS : va_S (fun q => B ≤ q) s.heap H locs) (hi : i + 4 < L) (hl : lv_has ls 7 [(0, .ref b), (1, .ref (ad 0)), (2, .ref (ad 5)), (3, .ref (ad 6)), (4, .int (nI i))]) (hcell : cells + 12 ≤ R.cells ∧ slots + 87 ≤ R.slots)
    (kk : ∀ (ad1 : Nat → Nat) (C1 M1 : Nat → Nat → Int32) (H1 : Heap) (locs1 : List Loc) (ls1 : Array Slot), jw D cA B ad1 C1 M1 H1 → va_S (fun q => B ≤ q) s.heap H1 locs1 → ad1 0 = ad 0 ∧ ad1 5 = ad 5 ∧ ad1 6 = ad 6 → lv_has ls1 7 [(0, .ref b), (1, .ref (ad 0)), (2, .ref (ad 5)), (3, .ref (ad 6)), (4, .int (nI i))] → W p l e R s m args below meth c H1 locs1 (cells + 12) (slots + 87) Q (F0 m 1081 ls1 [])) : W p l e R s m args below meth c H locs cells slots Q (F0 m 608 ls []) := by
  obtain ⟨S, K, Kx, hls, hX, hbl, hbB, hL, hR1, hR2⟩ := id Z
  have J := W0.1
  obtain ⟨y0, X0, O, hm⟩ := jw_ow W0
  refine lv_aload_n S.1 S.2.1 dL_law_608 rfl (lv_at hl 1 rfl) ?_
  refine lv_aload_n S.1 S.2.1 dL_law_609 rfl (lv_at hl 0 rfl) ?_
  refine lv_iload S.1 S.2.1 dL_law_610 (lv_at hl 4 rfl) ?_
  refine lv_iconst (v := 1) S.1 S.2.1 dL_law_612 (by decide) ?_
  refine lv_iadd S.1 S.2.1 dL_law_613 ?_
  refine nt_i (y := nI (i + 1)) (nI_add i 1) ?_
  refine va_sld S.1 S.2.1 hX hbl hbB hS (pk_in (i + 1) L (by omega) rfl (by omega)) dL_law_614 ?_
  refine nt_i (y := xs (i + 1)) (by rw [nI_clamp (by omega)]) ?_
  refine lv_aload_n S.1 S.2.1 dL_law_615 rfl (lv_at hl 0 rfl) ?_
  refine lv_iload S.1 S.2.1 dL_law_616 (lv_at hl 4 rfl) ?_
  refine lv_iconst (v := 2) S.1 S.2.1 dL_law_618 (by decide) ?_
  refine lv_iadd S.1 S.2.1 dL_law_619 ?_
  refine nt_i (y := nI (i + 2)) (nI_add i 2) ?_
  refine va_sld S.1 S.2.1 hX hbl hbB hS (pk_in (i + 2) L (by omega) rfl (by omega)) dL_law_620 ?_
  refine nt_i (y := xs (i + 2)) (by rw [nI_clamp (by omega)]) ?_
  refine lv_aload_n S.1 S.2.1 dL_law_621 rfl (lv_at hl 0 rfl) ?_
  refine lv_iload S.1 S.2.1 dL_law_622 (lv_at hl 4 rfl) ?_
  refine lv_iconst (v := 3) S.1 S.2.1 dL_law_624 (by decide) ?_
  refine lv_iadd S.1 S.2.1 dL_law_625 ?_
  refine nt_i (y := nI (i + 3)) (nI_add i 3) ?_
  refine va_sld S.1 S.2.1 hX hbl hbB hS (pk_in (i + 3) L (by omega) rfl (by omega)) dL_law_626 ?_
  refine nt_i (y := xs (i + 3)) (by rw [nI_clamp (by omega)]) ?_
  refine lv_aload_n S.1 S.2.1 dL_law_627 rfl (lv_at hl 0 rfl) ?_
  refine lv_iload S.1 S.2.1 dL_law_628 (lv_at hl 4 rfl) ?_
  refine lv_iconst (v := 4) S.1 S.2.1 dL_law_630 (by decide) ?_
  refine lv_iadd S.1 S.2.1 dL_law_631 ?_
  refine nt_i (y := nI (i + 4)) (nI_add i 4) ?_
  refine va_sld S.1 S.2.1 hX hbl hbB hS (pk_in (i + 4) L (by omega) rfl (by omega)) dL_law_632 ?_
  refine nt_i (y := xs (i + 4)) (by rw [nI_clamp (by omega)]) ?_
  refine nc_hS (As := [.ref (ad 0), .int (xs (i + 1)), .int (xs (i + 2)), .int (xs (i + 3)), .int (xs (i + 4))]) (rest := []) S K Kx hS (w_component l C (xs (i + 1)) (xs (i + 2)) (xs (i + 3)) (xs (i + 4))  y0 O J.dK hls (J_component J (xs (i + 1)) (xs (i + 2)) (xs (i + 3)) (xs (i + 4))).1) k3_15 k3_16 k1_0 k3_17 (num := 5) (by decide +kernel) rfl ⟨by omega, by omega⟩ hl.1 rfl (by decide) dL_law_633 ⟨by omega, by omega⟩ (fun v9 H1 locs1 hP hS => ?_)
  obtain ⟨rfl, dom1, C1, y1, O1, J1, hd1, hy1⟩ := aft_same (pr := (fun _ => True)) J (J_component J (xs (i + 1)) (xs (i + 2)) (xs (i + 3)) (xs (i + 4))) rfl (fun t _ => codD_n t) (cs_component C (xs (i + 1)) (xs (i + 2)) (xs (i + 3)) (xs (i + 4))) (fun _ _ => trivial) hP
  obtain ⟨f9, E9, hf9, N9, hc9, h69, d69⟩ := ow_mw O1 hm (fun r hr => hd1 r (dmn_m hr))
  refine lv_istore (lv' := [(5, .int _), (0, .ref b), (1, .ref (ad 0)), (2, .ref (ad 5)), (3, .ref (ad 6)), (4, .int (nI i))]) S.1 S.2.1 dL_law_636 hl (by decide) rfl (fun ls hl => ?_)
  refine lv_aload_n S.1 S.2.1 dL_law_638 rfl (lv_at hl 3 rfl) ?_
  refine lv_aload_n S.1 S.2.1 dL_law_639 rfl (lv_at hl 1 rfl) ?_
  refine lv_iload S.1 S.2.1 dL_law_640 (lv_at hl 5 rfl) ?_
  refine lv_iconst (v := 1) S.1 S.2.1 dL_law_642 (by decide) ?_
  refine lv_iadd S.1 S.2.1 dL_law_643 ?_
  refine nt_i (y := nI (i + 1)) (nI_add i 1) ?_
  refine va_sld S.1 S.2.1 hX hbl hbB hS (pk_in (i + 1) L (by omega) rfl (by omega)) dL_law_644 ?_
  refine nt_i (y := xs (i + 1)) (by rw [nI_clamp (by omega)]) ?_
  refine lv_aload_n S.1 S.2.1 dL_law_645 rfl (lv_at hl 1 rfl) ?_
  refine lv_iload S.1 S.2.1 dL_law_646 (lv_at hl 5 rfl) ?_
  refine lv_iconst (v := 2) S.1 S.2.1 dL_law_648 (by decide) ?_
  refine lv_iadd S.1 S.2.1 dL_law_649 ?_
  refine nt_i (y := nI (i + 2)) (nI_add i 2) ?_
  refine va_sld S.1 S.2.1 hX hbl hbB hS (pk_in (i + 2) L (by omega) rfl (by omega)) dL_law_650 ?_
  refine nt_i (y := xs (i + 2)) (by rw [nI_clamp (by omega)]) ?_
  refine lv_aload_n S.1 S.2.1 dL_law_651 rfl (lv_at hl 1 rfl) ?_
  refine lv_iload S.1 S.2.1 dL_law_652 (lv_at hl 5 rfl) ?_
  refine lv_iconst (v := 3) S.1 S.2.1 dL_law_654 (by decide) ?_
  refine lv_iadd S.1 S.2.1 dL_law_655 ?_
  refine nt_i (y := nI (i + 3)) (nI_add i 3) ?_
  refine va_sld S.1 S.2.1 hX hbl hbB hS (pk_in (i + 3) L (by omega) rfl (by omega)) dL_law_656 ?_
  refine nt_i (y := xs (i + 3)) (by rw [nI_clamp (by omega)]) ?_
  refine lv_aload_n S.1 S.2.1 dL_law_657 rfl (lv_at hl 1 rfl) ?_
  refine lv_iload S.1 S.2.1 dL_law_658 (lv_at hl 5 rfl) ?_
  refine lv_iconst (v := 4) S.1 S.2.1 dL_law_660 (by decide) ?_
  refine lv_iadd S.1 S.2.1 dL_law_661 ?_
  refine nt_i (y := nI (i + 4)) (nI_add i 4) ?_
  refine va_sld S.1 S.2.1 hX hbl hbB hS (pk_in (i + 4) L (by omega) rfl (by omega)) dL_law_662 ?_
  refine nt_i (y := xs (i + 4)) (by rw [nI_clamp (by omega)]) ?_
  refine mc_wV (As := [.int (xs (i + 1)), .int (xs (i + 2)), .int (xs (i + 3)), .int (xs (i + 4))]) (rest := []) S K N9 hS rfl (m_X5_component l M (xs (i + 1)) (xs (i + 2)) (xs (i + 3)) (xs (i + 4)) (xs (i + 1)).toNatClampNeg (xs (i + 2)).toNatClampNeg (xs (i + 3)).toNatClampNeg N9 in6 (fun h => ⟨((J.sk _).2 h).1, J.lt ((J.sk _).2 h).2⟩) in2) k4_42 k4_43 k4_44 k1_3 k4_45 (num := 4) (by decide +kernel) rfl ⟨by omega, by omega⟩ hl.1 rfl (by decide) dL_law_663 ⟨by omega, by omega⟩ (fun v8 H2 locs2 hP2 hS => ?_)
  obtain ⟨rfl, N2⟩ := hP2
  refine W.widen (k := cells + 12) (n := slots + 87) (by omega) (by omega) ?_
  exact tail_v (t0 := 666) Z N2 hS hc9 h69 (fun _ _ _ => rfl) J1 hd1 rfl (lv_sub hl [1, 2, 3, 4, 5, 0] rfl) dL_law_666 dL_law_667 dL_law_670 dL_law_672 dL_law_677 (by decide) ⟨by omega, by omega⟩ (fun Wn hln => kk ad _ _ _ _ _ Wn hS ⟨rfl, rfl, rfl⟩ hln)
set_option maxHeartbeats 4000000 in
theorem lc_value {ad : Nat → Nat} {C M : Nat → Nat → Int32} {i : Nat} (Z : LwS p l s m args meth c D cA B b L xs R) (W0 : jw D cA B ad C M H) (hS : va_S (fun q => B ≤ q) s.heap H locs) (hi : i + 4 < L) (hl : lv_has ls 7 [(0, .ref b), (1, .ref (ad 0)), (2, .ref (ad 5)), (3, .ref (ad 6)), (4, .int (nI i))]) (hcell : cells + 12 ≤ R.cells ∧ slots + 87 ≤ R.slots)
    (kk : ∀ (ad1 : Nat → Nat) (C1 M1 : Nat → Nat → Int32) (H1 : Heap) (locs1 : List Loc) (ls1 : Array Slot), jw D cA B ad1 C1 M1 H1 → va_S (fun q => B ≤ q) s.heap H1 locs1 → ad1 0 = ad 0 ∧ ad1 5 = ad 5 ∧ ad1 6 = ad 6 → lv_has ls1 7 [(0, .ref b), (1, .ref (ad 0)), (2, .ref (ad 5)), (3, .ref (ad 6)), (4, .int (nI i))] → W p l e R s m args below meth c H1 locs1 (cells + 12) (slots + 87) Q (F0 m 1081 ls1 [])) : W p l e R s m args below meth c H locs cells slots Q (F0 m 680 ls []) := by
  obtain ⟨S, K, Kx, hls, hX, hbl, hbB, hL, hR1, hR2⟩ := id Z
  have J := W0.1
  obtain ⟨y0, X0, O, hm⟩ := jw_ow W0
  refine lv_aload_n S.1 S.2.1 dL_law_680 rfl (lv_at hl 1 rfl) ?_
  refine lv_aload_n S.1 S.2.1 dL_law_681 rfl (lv_at hl 0 rfl) ?_
  refine lv_iload S.1 S.2.1 dL_law_682 (lv_at hl 4 rfl) ?_
  refine lv_iconst (v := 1) S.1 S.2.1 dL_law_684 (by decide) ?_
  refine lv_iadd S.1 S.2.1 dL_law_685 ?_
  refine nt_i (y := nI (i + 1)) (nI_add i 1) ?_
  refine va_sld S.1 S.2.1 hX hbl hbB hS (pk_in (i + 1) L (by omega) rfl (by omega)) dL_law_686 ?_
  refine nt_i (y := xs (i + 1)) (by rw [nI_clamp (by omega)]) ?_
  refine lv_aload_n S.1 S.2.1 dL_law_687 rfl (lv_at hl 0 rfl) ?_
  refine lv_iload S.1 S.2.1 dL_law_688 (lv_at hl 4 rfl) ?_
  refine lv_iconst (v := 2) S.1 S.2.1 dL_law_690 (by decide) ?_
  refine lv_iadd S.1 S.2.1 dL_law_691 ?_
  refine nt_i (y := nI (i + 2)) (nI_add i 2) ?_
  refine va_sld S.1 S.2.1 hX hbl hbB hS (pk_in (i + 2) L (by omega) rfl (by omega)) dL_law_692 ?_
  refine nt_i (y := xs (i + 2)) (by rw [nI_clamp (by omega)]) ?_
  refine lv_aload_n S.1 S.2.1 dL_law_693 rfl (lv_at hl 0 rfl) ?_
  refine lv_iload S.1 S.2.1 dL_law_694 (lv_at hl 4 rfl) ?_
  refine lv_iconst (v := 3) S.1 S.2.1 dL_law_696 (by decide) ?_
  refine lv_iadd S.1 S.2.1 dL_law_697 ?_
  refine nt_i (y := nI (i + 3)) (nI_add i 3) ?_
  refine va_sld S.1 S.2.1 hX hbl hbB hS (pk_in (i + 3) L (by omega) rfl (by omega)) dL_law_698 ?_
  refine nt_i (y := xs (i + 3)) (by rw [nI_clamp (by omega)]) ?_
  refine lv_aload_n S.1 S.2.1 dL_law_699 rfl (lv_at hl 0 rfl) ?_
  refine lv_iload S.1 S.2.1 dL_law_700 (lv_at hl 4 rfl) ?_
  refine lv_iconst (v := 4) S.1 S.2.1 dL_law_702 (by decide) ?_
  refine lv_iadd S.1 S.2.1 dL_law_703 ?_
  refine nt_i (y := nI (i + 4)) (nI_add i 4) ?_
  refine va_sld S.1 S.2.1 hX hbl hbB hS (pk_in (i + 4) L (by omega) rfl (by omega)) dL_law_704 ?_
  refine nt_i (y := xs (i + 4)) (by rw [nI_clamp (by omega)]) ?_
  refine lv_aload_n S.1 S.2.1 dL_law_705 rfl (lv_at hl 3 rfl) ?_
  refine nc_hS (As := [.ref (ad 0), .int (xs (i + 1)), .int (xs (i + 2)), .int (xs (i + 3)), .int (xs (i + 4)), .ref (ad 6)]) (rest := []) S K Kx hS (w_value l C (xs (i + 1)) (xs (i + 2)) (xs (i + 3)) (xs (i + 4))  y0 O J.dK hls (J_value J (xs (i + 1)) (xs (i + 2)) (xs (i + 3)) (xs (i + 4))).1) k3_27 k3_28 k1_0 k3_29 (num := 6) (by decide +kernel) rfl ⟨by omega, by omega⟩ hl.1 rfl (by decide) dL_law_706 ⟨by omega, by omega⟩ (fun v9 H1 locs1 hP hS => ?_)
  obtain ⟨rfl, dom1, C1, y1, O1, J1, hd1, hy1⟩ := aft_same (pr := (fun y9 => y9 = (f_X5_value M (xs (i + 1)) (xs (i + 2)) (xs (i + 3)) (xs (i + 4)) ).toInt64)) J (J_value J (xs (i + 1)) (xs (i + 2)) (xs (i + 3)) (xs (i + 4))) rfl (fun t _ => codA_n t) (cs_value J (xs (i + 1)) (xs (i + 2)) (xs (i + 3)) (xs (i + 4))) (fun _ h => congrArg Int32.toInt64 h) hP
  obtain ⟨f9, E9, hf9, N9, hc9, h69, d69⟩ := ow_mw O1 hm (fun r hr => hd1 r (dmn_m hr))
  refine lv_istore (lv' := [(5, .int _), (0, .ref b), (1, .ref (ad 0)), (2, .ref (ad 5)), (3, .ref (ad 6)), (4, .int (nI i))]) S.1 S.2.1 dL_law_709 hl (by decide) rfl (fun ls hl => ?_)
  refine lv_aload_n S.1 S.2.1 dL_law_711 rfl (lv_at hl 3 rfl) ?_
  refine lv_aload_n S.1 S.2.1 dL_law_712 rfl (lv_at hl 1 rfl) ?_
  refine lv_iload S.1 S.2.1 dL_law_713 (lv_at hl 5 rfl) ?_
  refine lv_iconst (v := 1) S.1 S.2.1 dL_law_715 (by decide) ?_
  refine lv_iadd S.1 S.2.1 dL_law_716 ?_
  refine nt_i (y := nI (i + 1)) (nI_add i 1) ?_
  refine va_sld S.1 S.2.1 hX hbl hbB hS (pk_in (i + 1) L (by omega) rfl (by omega)) dL_law_717 ?_
  refine nt_i (y := xs (i + 1)) (by rw [nI_clamp (by omega)]) ?_
  refine lv_aload_n S.1 S.2.1 dL_law_718 rfl (lv_at hl 1 rfl) ?_
  refine lv_iload S.1 S.2.1 dL_law_719 (lv_at hl 5 rfl) ?_
  refine lv_iconst (v := 2) S.1 S.2.1 dL_law_721 (by decide) ?_
  refine lv_iadd S.1 S.2.1 dL_law_722 ?_
  refine nt_i (y := nI (i + 2)) (nI_add i 2) ?_
  refine va_sld S.1 S.2.1 hX hbl hbB hS (pk_in (i + 2) L (by omega) rfl (by omega)) dL_law_723 ?_
  refine nt_i (y := xs (i + 2)) (by rw [nI_clamp (by omega)]) ?_
  refine lv_aload_n S.1 S.2.1 dL_law_724 rfl (lv_at hl 1 rfl) ?_
  refine lv_iload S.1 S.2.1 dL_law_725 (lv_at hl 5 rfl) ?_
  refine lv_iconst (v := 3) S.1 S.2.1 dL_law_727 (by decide) ?_
  refine lv_iadd S.1 S.2.1 dL_law_728 ?_
  refine nt_i (y := nI (i + 3)) (nI_add i 3) ?_
  refine va_sld S.1 S.2.1 hX hbl hbB hS (pk_in (i + 3) L (by omega) rfl (by omega)) dL_law_729 ?_
  refine nt_i (y := xs (i + 3)) (by rw [nI_clamp (by omega)]) ?_
  refine lv_aload_n S.1 S.2.1 dL_law_730 rfl (lv_at hl 1 rfl) ?_
  refine lv_iload S.1 S.2.1 dL_law_731 (lv_at hl 5 rfl) ?_
  refine lv_iconst (v := 4) S.1 S.2.1 dL_law_733 (by decide) ?_
  refine lv_iadd S.1 S.2.1 dL_law_734 ?_
  refine nt_i (y := nI (i + 4)) (nI_add i 4) ?_
  refine va_sld S.1 S.2.1 hX hbl hbB hS (pk_in (i + 4) L (by omega) rfl (by omega)) dL_law_735 ?_
  refine nt_i (y := xs (i + 4)) (by rw [nI_clamp (by omega)]) ?_
  refine mc_wV (As := [.int (xs (i + 1)), .int (xs (i + 2)), .int (xs (i + 3)), .int (xs (i + 4))]) (rest := []) S K N9 hS rfl (m_X5_value l M (xs (i + 1)) (xs (i + 2)) (xs (i + 3)) (xs (i + 4))  N9 (fun h1 h2 h3 => val_in h1 h2 h3)) k4_46 k4_47 k4_48 k1_3 k4_49 (num := 4) (by decide +kernel) rfl ⟨by omega, by omega⟩ hl.1 rfl (by decide) dL_law_736 ⟨by omega, by omega⟩ (fun v8 H2 locs2 hP2 hS => ?_)
  obtain ⟨rfl, N2⟩ := hP2
  refine lv_istore (lv' := [(6, .int _), (5, .int _), (0, .ref b), (1, .ref (ad 0)), (2, .ref (ad 5)), (3, .ref (ad 6)), (4, .int (nI i))]) S.1 S.2.1 dL_law_739 hl (by decide) rfl (fun ls hl => ?_)
  refine W.widen (k := cells + 12) (n := slots + 87) (by omega) (by omega) ?_
  exact tail_i (t0 := 741) Z N2 hS hc9 h69 d69 (fun _ _ _ => rfl) J1 hd1 rfl (fun z => hf9.trans (hy1 z)) (lv_sub hl [2, 3, 4, 5, 6, 1, 0] rfl) dL_law_741 dL_law_742 dL_law_745 dL_law_747 dL_law_752 dL_law_754 dL_law_757 dL_law_758 dL_law_759 dL_law_760 dL_law_762 dL_law_763 dL_law_764 dL_law_769 (by decide) ⟨by omega, by omega⟩ (fun Wn hln => kk ad _ _ _ _ _ Wn hS ⟨rfl, rfl, rfl⟩ hln)
set_option maxHeartbeats 4000000 in
theorem lc_element {ad : Nat → Nat} {C M : Nat → Nat → Int32} {i : Nat} (Z : LwS p l s m args meth c D cA B b L xs R) (W0 : jw D cA B ad C M H) (hS : va_S (fun q => B ≤ q) s.heap H locs) (hi : i + 4 < L) (hl : lv_has ls 7 [(0, .ref b), (1, .ref (ad 0)), (2, .ref (ad 5)), (3, .ref (ad 6)), (4, .int (nI i))]) (hcell : cells + 12 ≤ R.cells ∧ slots + 87 ≤ R.slots)
    (kk : ∀ (ad1 : Nat → Nat) (C1 M1 : Nat → Nat → Int32) (H1 : Heap) (locs1 : List Loc) (ls1 : Array Slot), jw D cA B ad1 C1 M1 H1 → va_S (fun q => B ≤ q) s.heap H1 locs1 → ad1 0 = ad 0 ∧ ad1 5 = ad 5 ∧ ad1 6 = ad 6 → lv_has ls1 7 [(0, .ref b), (1, .ref (ad 0)), (2, .ref (ad 5)), (3, .ref (ad 6)), (4, .int (nI i))] → W p l e R s m args below meth c H1 locs1 (cells + 12) (slots + 87) Q (F0 m 1081 ls1 [])) : W p l e R s m args below meth c H locs cells slots Q (F0 m 772 ls []) := by
  obtain ⟨S, K, Kx, hls, hX, hbl, hbB, hL, hR1, hR2⟩ := id Z
  have J := W0.1
  obtain ⟨y0, X0, O, hm⟩ := jw_ow W0
  refine lv_aload_n S.1 S.2.1 dL_law_772 rfl (lv_at hl 1 rfl) ?_
  refine lv_aload_n S.1 S.2.1 dL_law_773 rfl (lv_at hl 0 rfl) ?_
  refine lv_iload S.1 S.2.1 dL_law_774 (lv_at hl 4 rfl) ?_
  refine lv_iconst (v := 1) S.1 S.2.1 dL_law_776 (by decide) ?_
  refine lv_iadd S.1 S.2.1 dL_law_777 ?_
  refine nt_i (y := nI (i + 1)) (nI_add i 1) ?_
  refine va_sld S.1 S.2.1 hX hbl hbB hS (pk_in (i + 1) L (by omega) rfl (by omega)) dL_law_778 ?_
  refine nt_i (y := xs (i + 1)) (by rw [nI_clamp (by omega)]) ?_
  refine lv_aload_n S.1 S.2.1 dL_law_779 rfl (lv_at hl 0 rfl) ?_
  refine lv_iload S.1 S.2.1 dL_law_780 (lv_at hl 4 rfl) ?_
  refine lv_iconst (v := 2) S.1 S.2.1 dL_law_782 (by decide) ?_
  refine lv_iadd S.1 S.2.1 dL_law_783 ?_
  refine nt_i (y := nI (i + 2)) (nI_add i 2) ?_
  refine va_sld S.1 S.2.1 hX hbl hbB hS (pk_in (i + 2) L (by omega) rfl (by omega)) dL_law_784 ?_
  refine nt_i (y := xs (i + 2)) (by rw [nI_clamp (by omega)]) ?_
  refine lv_aload_n S.1 S.2.1 dL_law_785 rfl (lv_at hl 0 rfl) ?_
  refine lv_iload S.1 S.2.1 dL_law_786 (lv_at hl 4 rfl) ?_
  refine lv_iconst (v := 3) S.1 S.2.1 dL_law_788 (by decide) ?_
  refine lv_iadd S.1 S.2.1 dL_law_789 ?_
  refine nt_i (y := nI (i + 3)) (nI_add i 3) ?_
  refine va_sld S.1 S.2.1 hX hbl hbB hS (pk_in (i + 3) L (by omega) rfl (by omega)) dL_law_790 ?_
  refine nt_i (y := xs (i + 3)) (by rw [nI_clamp (by omega)]) ?_
  refine lv_aload_n S.1 S.2.1 dL_law_791 rfl (lv_at hl 0 rfl) ?_
  refine lv_iload S.1 S.2.1 dL_law_792 (lv_at hl 4 rfl) ?_
  refine lv_iconst (v := 4) S.1 S.2.1 dL_law_794 (by decide) ?_
  refine lv_iadd S.1 S.2.1 dL_law_795 ?_
  refine nt_i (y := nI (i + 4)) (nI_add i 4) ?_
  refine va_sld S.1 S.2.1 hX hbl hbB hS (pk_in (i + 4) L (by omega) rfl (by omega)) dL_law_796 ?_
  refine nt_i (y := xs (i + 4)) (by rw [nI_clamp (by omega)]) ?_
  refine lv_aload_n S.1 S.2.1 dL_law_797 rfl (lv_at hl 3 rfl) ?_
  refine nc_hS (As := [.ref (ad 0), .int (xs (i + 1)), .int (xs (i + 2)), .int (xs (i + 3)), .int (xs (i + 4)), .ref (ad 6)]) (rest := []) S K Kx hS (w_element l C (xs (i + 1)) (xs (i + 2)) (xs (i + 3)) (xs (i + 4))  y0 O J.dK hls (J_element J (xs (i + 1)) (xs (i + 2)) (xs (i + 3)) (xs (i + 4))).1) k3_47 k3_48 k1_0 k3_49 (num := 6) (by decide +kernel) rfl ⟨by omega, by omega⟩ hl.1 rfl (by decide) dL_law_798 ⟨by omega, by omega⟩ (fun v9 H1 locs1 hP hS => ?_)
  obtain ⟨rfl, dom1, C1, y1, O1, J1, hd1, hy1⟩ := aft_same (pr := (fun y9 => y9 = (f_X5_element M (xs (i + 1)) (xs (i + 2)) (xs (i + 3)) (xs (i + 4)) (xs (i + 1)).toNatClampNeg (xs (i + 2)).toNatClampNeg (xs (i + 3)).toNatClampNeg).toInt64)) J (J_element J (xs (i + 1)) (xs (i + 2)) (xs (i + 3)) (xs (i + 4))) rfl (fun t _ => codB_n t) (cs_rf C) (fun _ h => congrArg Int32.toInt64 h) hP
  obtain ⟨f9, E9, hf9, N9, hc9, h69, d69⟩ := ow_mw O1 hm (fun r hr => hd1 r (dmn_m hr))
  refine lv_istore (lv' := [(5, .int _), (0, .ref b), (1, .ref (ad 0)), (2, .ref (ad 5)), (3, .ref (ad 6)), (4, .int (nI i))]) S.1 S.2.1 dL_law_801 hl (by decide) rfl (fun ls hl => ?_)
  refine lv_aload_n S.1 S.2.1 dL_law_803 rfl (lv_at hl 3 rfl) ?_
  refine lv_aload_n S.1 S.2.1 dL_law_804 rfl (lv_at hl 1 rfl) ?_
  refine lv_iload S.1 S.2.1 dL_law_805 (lv_at hl 5 rfl) ?_
  refine lv_iconst (v := 1) S.1 S.2.1 dL_law_807 (by decide) ?_
  refine lv_iadd S.1 S.2.1 dL_law_808 ?_
  refine nt_i (y := nI (i + 1)) (nI_add i 1) ?_
  refine va_sld S.1 S.2.1 hX hbl hbB hS (pk_in (i + 1) L (by omega) rfl (by omega)) dL_law_809 ?_
  refine nt_i (y := xs (i + 1)) (by rw [nI_clamp (by omega)]) ?_
  refine lv_aload_n S.1 S.2.1 dL_law_810 rfl (lv_at hl 1 rfl) ?_
  refine lv_iload S.1 S.2.1 dL_law_811 (lv_at hl 5 rfl) ?_
  refine lv_iconst (v := 2) S.1 S.2.1 dL_law_813 (by decide) ?_
  refine lv_iadd S.1 S.2.1 dL_law_814 ?_
  refine nt_i (y := nI (i + 2)) (nI_add i 2) ?_
  refine va_sld S.1 S.2.1 hX hbl hbB hS (pk_in (i + 2) L (by omega) rfl (by omega)) dL_law_815 ?_
  refine nt_i (y := xs (i + 2)) (by rw [nI_clamp (by omega)]) ?_
  refine lv_aload_n S.1 S.2.1 dL_law_816 rfl (lv_at hl 1 rfl) ?_
  refine lv_iload S.1 S.2.1 dL_law_817 (lv_at hl 5 rfl) ?_
  refine lv_iconst (v := 3) S.1 S.2.1 dL_law_819 (by decide) ?_
  refine lv_iadd S.1 S.2.1 dL_law_820 ?_
  refine nt_i (y := nI (i + 3)) (nI_add i 3) ?_
  refine va_sld S.1 S.2.1 hX hbl hbB hS (pk_in (i + 3) L (by omega) rfl (by omega)) dL_law_821 ?_
  refine nt_i (y := xs (i + 3)) (by rw [nI_clamp (by omega)]) ?_
  refine lv_aload_n S.1 S.2.1 dL_law_822 rfl (lv_at hl 1 rfl) ?_
  refine lv_iload S.1 S.2.1 dL_law_823 (lv_at hl 5 rfl) ?_
  refine lv_iconst (v := 4) S.1 S.2.1 dL_law_825 (by decide) ?_
  refine lv_iadd S.1 S.2.1 dL_law_826 ?_
  refine nt_i (y := nI (i + 4)) (nI_add i 4) ?_
  refine va_sld S.1 S.2.1 hX hbl hbB hS (pk_in (i + 4) L (by omega) rfl (by omega)) dL_law_827 ?_
  refine nt_i (y := xs (i + 4)) (by rw [nI_clamp (by omega)]) ?_
  refine mc_wV (As := [.int (xs (i + 1)), .int (xs (i + 2)), .int (xs (i + 3)), .int (xs (i + 4))]) (rest := []) S K N9 hS rfl (m_X5_element l M (xs (i + 1)) (xs (i + 2)) (xs (i + 3)) (xs (i + 4)) (xs (i + 1)).toNatClampNeg (xs (i + 2)).toNatClampNeg (xs (i + 3)).toNatClampNeg N9 J.hsk J.ri (fun h => ⟨(J.isEl h).1, J.lt (J.isEl h).2.1, (J.isEl h).2.2.1, (J.isEl h).2.2.2⟩) in2) k4_53 k4_54 k4_55 k1_3 k4_56 (num := 4) (by decide +kernel) rfl ⟨by omega, by omega⟩ hl.1 rfl (by decide) dL_law_828 ⟨by omega, by omega⟩ (fun v8 H2 locs2 hP2 hS => ?_)
  obtain ⟨rfl, M2, sq2, N2⟩ := hP2
  refine lv_istore (lv' := [(6, .int _), (5, .int _), (0, .ref b), (1, .ref (ad 0)), (2, .ref (ad 5)), (3, .ref (ad 6)), (4, .int (nI i))]) S.1 S.2.1 dL_law_831 hl (by decide) rfl (fun ls hl => ?_)
  refine W.widen (k := cells + 12) (n := slots + 87) (by omega) (by omega) ?_
  exact tail_i (t0 := 833) Z N2 hS hc9 h69 d69 sq2 J1 hd1 rfl (fun z => hf9.trans (hy1 z)) (lv_sub hl [2, 3, 4, 5, 6, 1, 0] rfl) dL_law_833 dL_law_834 dL_law_837 dL_law_839 dL_law_844 dL_law_846 dL_law_849 dL_law_850 dL_law_851 dL_law_852 dL_law_854 dL_law_855 dL_law_856 dL_law_861 (by decide) ⟨by omega, by omega⟩ (fun Wn hln => kk ad _ _ _ _ _ Wn hS ⟨rfl, rfl, rfl⟩ hln)
set_option maxHeartbeats 4000000 in
theorem lc_programme {ad : Nat → Nat} {C M : Nat → Nat → Int32} {i : Nat} (Z : LwS p l s m args meth c D cA B b L xs R) (W0 : jw D cA B ad C M H) (hS : va_S (fun q => B ≤ q) s.heap H locs) (hi : i + 4 < L) (hl : lv_has ls 7 [(0, .ref b), (1, .ref (ad 0)), (2, .ref (ad 5)), (3, .ref (ad 6)), (4, .int (nI i))]) (hcell : cells + 12 ≤ R.cells ∧ slots + 87 ≤ R.slots)
    (kk : ∀ (ad1 : Nat → Nat) (C1 M1 : Nat → Nat → Int32) (H1 : Heap) (locs1 : List Loc) (ls1 : Array Slot), jw D cA B ad1 C1 M1 H1 → va_S (fun q => B ≤ q) s.heap H1 locs1 → ad1 0 = ad 0 ∧ ad1 5 = ad 5 ∧ ad1 6 = ad 6 → lv_has ls1 7 [(0, .ref b), (1, .ref (ad 0)), (2, .ref (ad 5)), (3, .ref (ad 6)), (4, .int (nI i))] → W p l e R s m args below meth c H1 locs1 (cells + 12) (slots + 87) Q (F0 m 1081 ls1 [])) : W p l e R s m args below meth c H locs cells slots Q (F0 m 864 ls []) := by
  obtain ⟨S, K, Kx, hls, hX, hbl, hbB, hL, hR1, hR2⟩ := id Z
  have J := W0.1
  obtain ⟨y0, X0, O, hm⟩ := jw_ow W0
  refine lv_aload_n S.1 S.2.1 dL_law_864 rfl (lv_at hl 1 rfl) ?_
  refine lv_aload_n S.1 S.2.1 dL_law_865 rfl (lv_at hl 0 rfl) ?_
  refine lv_iload S.1 S.2.1 dL_law_866 (lv_at hl 4 rfl) ?_
  refine lv_iconst (v := 1) S.1 S.2.1 dL_law_868 (by decide) ?_
  refine lv_iadd S.1 S.2.1 dL_law_869 ?_
  refine nt_i (y := nI (i + 1)) (nI_add i 1) ?_
  refine va_sld S.1 S.2.1 hX hbl hbB hS (pk_in (i + 1) L (by omega) rfl (by omega)) dL_law_870 ?_
  refine nt_i (y := xs (i + 1)) (by rw [nI_clamp (by omega)]) ?_
  refine lv_aload_n S.1 S.2.1 dL_law_871 rfl (lv_at hl 0 rfl) ?_
  refine lv_iload S.1 S.2.1 dL_law_872 (lv_at hl 4 rfl) ?_
  refine lv_iconst (v := 2) S.1 S.2.1 dL_law_874 (by decide) ?_
  refine lv_iadd S.1 S.2.1 dL_law_875 ?_
  refine nt_i (y := nI (i + 2)) (nI_add i 2) ?_
  refine va_sld S.1 S.2.1 hX hbl hbB hS (pk_in (i + 2) L (by omega) rfl (by omega)) dL_law_876 ?_
  refine nt_i (y := xs (i + 2)) (by rw [nI_clamp (by omega)]) ?_
  refine lv_aload_n S.1 S.2.1 dL_law_877 rfl (lv_at hl 0 rfl) ?_
  refine lv_iload S.1 S.2.1 dL_law_878 (lv_at hl 4 rfl) ?_
  refine lv_iconst (v := 3) S.1 S.2.1 dL_law_880 (by decide) ?_
  refine lv_iadd S.1 S.2.1 dL_law_881 ?_
  refine nt_i (y := nI (i + 3)) (nI_add i 3) ?_
  refine va_sld S.1 S.2.1 hX hbl hbB hS (pk_in (i + 3) L (by omega) rfl (by omega)) dL_law_882 ?_
  refine nt_i (y := xs (i + 3)) (by rw [nI_clamp (by omega)]) ?_
  refine lv_aload_n S.1 S.2.1 dL_law_883 rfl (lv_at hl 3 rfl) ?_
  refine nc_hS (As := [.ref (ad 0), .int (xs (i + 1)), .int (xs (i + 2)), .int (xs (i + 3)), .ref (ad 6)]) (rest := []) S K Kx hS (w_programme l C (xs (i + 1)) (xs (i + 2)) (xs (i + 3))  y0 O J.dK hls (J_programme J (xs (i + 1)) (xs (i + 2)) (xs (i + 3))).1) k3_58 k3_59 k1_0 k3_60 (num := 5) (by decide +kernel) rfl ⟨by omega, by omega⟩ hl.1 rfl (by decide) dL_law_884 ⟨by omega, by omega⟩ (fun v9 H1 locs1 hP hS => ?_)
  obtain ⟨rfl, dom1, C1, y1, O1, J1, hd1, hy1⟩ := aft_same (pr := (fun y9 => y9 = (f_X5_programme M (xs (i + 1)) (xs (i + 2)) (xs (i + 3)) (xs (i + 1)).toNatClampNeg (xs (i + 2)).toNatClampNeg).toInt64)) J (J_programme J (xs (i + 1)) (xs (i + 2)) (xs (i + 3))) rfl (fun t _ => codB_n t) (cs_programme C (xs (i + 1)) (xs (i + 2)) (xs (i + 3))) (fun _ h => congrArg Int32.toInt64 h) hP
  obtain ⟨f9, E9, hf9, N9, hc9, h69, d69⟩ := ow_mw O1 hm (fun r hr => hd1 r (dmn_m hr))
  refine lv_istore (lv' := [(5, .int _), (0, .ref b), (1, .ref (ad 0)), (2, .ref (ad 5)), (3, .ref (ad 6)), (4, .int (nI i))]) S.1 S.2.1 dL_law_887 hl (by decide) rfl (fun ls hl => ?_)
  refine lv_aload_n S.1 S.2.1 dL_law_889 rfl (lv_at hl 3 rfl) ?_
  refine lv_aload_n S.1 S.2.1 dL_law_890 rfl (lv_at hl 1 rfl) ?_
  refine lv_iload S.1 S.2.1 dL_law_891 (lv_at hl 5 rfl) ?_
  refine lv_iconst (v := 1) S.1 S.2.1 dL_law_893 (by decide) ?_
  refine lv_iadd S.1 S.2.1 dL_law_894 ?_
  refine nt_i (y := nI (i + 1)) (nI_add i 1) ?_
  refine va_sld S.1 S.2.1 hX hbl hbB hS (pk_in (i + 1) L (by omega) rfl (by omega)) dL_law_895 ?_
  refine nt_i (y := xs (i + 1)) (by rw [nI_clamp (by omega)]) ?_
  refine lv_aload_n S.1 S.2.1 dL_law_896 rfl (lv_at hl 1 rfl) ?_
  refine lv_iload S.1 S.2.1 dL_law_897 (lv_at hl 5 rfl) ?_
  refine lv_iconst (v := 2) S.1 S.2.1 dL_law_899 (by decide) ?_
  refine lv_iadd S.1 S.2.1 dL_law_900 ?_
  refine nt_i (y := nI (i + 2)) (nI_add i 2) ?_
  refine va_sld S.1 S.2.1 hX hbl hbB hS (pk_in (i + 2) L (by omega) rfl (by omega)) dL_law_901 ?_
  refine nt_i (y := xs (i + 2)) (by rw [nI_clamp (by omega)]) ?_
  refine lv_aload_n S.1 S.2.1 dL_law_902 rfl (lv_at hl 1 rfl) ?_
  refine lv_iload S.1 S.2.1 dL_law_903 (lv_at hl 5 rfl) ?_
  refine lv_iconst (v := 3) S.1 S.2.1 dL_law_905 (by decide) ?_
  refine lv_iadd S.1 S.2.1 dL_law_906 ?_
  refine nt_i (y := nI (i + 3)) (nI_add i 3) ?_
  refine va_sld S.1 S.2.1 hX hbl hbB hS (pk_in (i + 3) L (by omega) rfl (by omega)) dL_law_907 ?_
  refine nt_i (y := xs (i + 3)) (by rw [nI_clamp (by omega)]) ?_
  refine mc_wV (As := [.int (xs (i + 1)), .int (xs (i + 2)), .int (xs (i + 3))]) (rest := []) S K N9 hS rfl (m_X5_programme l M (xs (i + 1)) (xs (i + 2)) (xs (i + 3)) (xs (i + 1)).toNatClampNeg (xs (i + 2)).toNatClampNeg N9 J.ri (fun h => ⟨((J.sk _).2 h).1, J.lt ((J.sk _).2 h).2⟩) in2) k4_88 k4_89 k4_90 k1_3 k4_91 (num := 3) (by decide +kernel) rfl ⟨by omega, by omega⟩ hl.1 rfl (by decide) dL_law_908 ⟨by omega, by omega⟩ (fun v8 H2 locs2 hP2 hS => ?_)
  obtain ⟨rfl, M2, sq2, N2⟩ := hP2
  refine lv_istore (lv' := [(6, .int _), (5, .int _), (0, .ref b), (1, .ref (ad 0)), (2, .ref (ad 5)), (3, .ref (ad 6)), (4, .int (nI i))]) S.1 S.2.1 dL_law_911 hl (by decide) rfl (fun ls hl => ?_)
  refine W.widen (k := cells + 12) (n := slots + 87) (by omega) (by omega) ?_
  exact tail_i (t0 := 913) Z N2 hS hc9 h69 d69 sq2 J1 hd1 rfl (fun z => hf9.trans (hy1 z)) (lv_sub hl [2, 3, 4, 5, 6, 1, 0] rfl) dL_law_913 dL_law_914 dL_law_917 dL_law_919 dL_law_924 dL_law_926 dL_law_929 dL_law_930 dL_law_931 dL_law_932 dL_law_934 dL_law_935 dL_law_936 dL_law_941 (by decide) ⟨by omega, by omega⟩ (fun Wn hln => kk ad _ _ _ _ _ Wn hS ⟨rfl, rfl, rfl⟩ hln)
set_option maxHeartbeats 4000000 in
theorem lc_starts {ad : Nat → Nat} {C M : Nat → Nat → Int32} {i : Nat} (Z : LwS p l s m args meth c D cA B b L xs R) (W0 : jw D cA B ad C M H) (hS : va_S (fun q => B ≤ q) s.heap H locs) (hi : i + 4 < L) (hl : lv_has ls 7 [(0, .ref b), (1, .ref (ad 0)), (2, .ref (ad 5)), (3, .ref (ad 6)), (4, .int (nI i))]) (hcell : cells + 12 ≤ R.cells ∧ slots + 87 ≤ R.slots)
    (kk : ∀ (ad1 : Nat → Nat) (C1 M1 : Nat → Nat → Int32) (H1 : Heap) (locs1 : List Loc) (ls1 : Array Slot), jw D cA B ad1 C1 M1 H1 → va_S (fun q => B ≤ q) s.heap H1 locs1 → ad1 0 = ad 0 ∧ ad1 5 = ad 5 ∧ ad1 6 = ad 6 → lv_has ls1 7 [(0, .ref b), (1, .ref (ad 0)), (2, .ref (ad 5)), (3, .ref (ad 6)), (4, .int (nI i))] → W p l e R s m args below meth c H1 locs1 (cells + 12) (slots + 87) Q (F0 m 1081 ls1 [])) : W p l e R s m args below meth c H locs cells slots Q (F0 m 944 ls []) := by
  obtain ⟨S, K, Kx, hls, hX, hbl, hbB, hL, hR1, hR2⟩ := id Z
  have J := W0.1
  obtain ⟨y0, X0, O, hm⟩ := jw_ow W0
  refine lv_aload_n S.1 S.2.1 dL_law_944 rfl (lv_at hl 1 rfl) ?_
  refine lv_aload_n S.1 S.2.1 dL_law_945 rfl (lv_at hl 0 rfl) ?_
  refine lv_iload S.1 S.2.1 dL_law_946 (lv_at hl 4 rfl) ?_
  refine lv_iconst (v := 1) S.1 S.2.1 dL_law_948 (by decide) ?_
  refine lv_iadd S.1 S.2.1 dL_law_949 ?_
  refine nt_i (y := nI (i + 1)) (nI_add i 1) ?_
  refine va_sld S.1 S.2.1 hX hbl hbB hS (pk_in (i + 1) L (by omega) rfl (by omega)) dL_law_950 ?_
  refine nt_i (y := xs (i + 1)) (by rw [nI_clamp (by omega)]) ?_
  refine lv_aload_n S.1 S.2.1 dL_law_951 rfl (lv_at hl 0 rfl) ?_
  refine lv_iload S.1 S.2.1 dL_law_952 (lv_at hl 4 rfl) ?_
  refine lv_iconst (v := 2) S.1 S.2.1 dL_law_954 (by decide) ?_
  refine lv_iadd S.1 S.2.1 dL_law_955 ?_
  refine nt_i (y := nI (i + 2)) (nI_add i 2) ?_
  refine va_sld S.1 S.2.1 hX hbl hbB hS (pk_in (i + 2) L (by omega) rfl (by omega)) dL_law_956 ?_
  refine nt_i (y := xs (i + 2)) (by rw [nI_clamp (by omega)]) ?_
  refine lv_aload_n S.1 S.2.1 dL_law_957 rfl (lv_at hl 3 rfl) ?_
  refine nc_hS (As := [.ref (ad 0), .int (xs (i + 1)), .int (xs (i + 2)), .ref (ad 6)]) (rest := []) S K Kx hS (w_starts l C (xs (i + 1)) (xs (i + 2))  y0 O J.dK hls (J_starts J (xs (i + 1)) (xs (i + 2))).1) k3_89 k3_90 k1_0 k3_91 (num := 4) (by decide +kernel) rfl ⟨by omega, by omega⟩ hl.1 rfl (by decide) dL_law_958 ⟨by omega, by omega⟩ (fun v9 H1 locs1 hP hS => ?_)
  obtain ⟨rfl, dom1, C1, y1, O1, J1, hd1, hy1⟩ := aft_same (pr := (fun y9 => y9 = (f_X5_starts M (xs (i + 1)) (xs (i + 2)) (xs (i + 1)).toNatClampNeg).toInt64)) J (J_starts J (xs (i + 1)) (xs (i + 2))) rfl (fun t _ => codA_n t) (cs_starts C (xs (i + 1)) (xs (i + 2))) (fun _ h => congrArg Int32.toInt64 h) hP
  obtain ⟨f9, E9, hf9, N9, hc9, h69, d69⟩ := ow_mw O1 hm (fun r hr => hd1 r (dmn_m hr))
  refine lv_istore (lv' := [(5, .int _), (0, .ref b), (1, .ref (ad 0)), (2, .ref (ad 5)), (3, .ref (ad 6)), (4, .int (nI i))]) S.1 S.2.1 dL_law_961 hl (by decide) rfl (fun ls hl => ?_)
  refine lv_aload_n S.1 S.2.1 dL_law_963 rfl (lv_at hl 3 rfl) ?_
  refine lv_aload_n S.1 S.2.1 dL_law_964 rfl (lv_at hl 1 rfl) ?_
  refine lv_iload S.1 S.2.1 dL_law_965 (lv_at hl 5 rfl) ?_
  refine lv_iconst (v := 1) S.1 S.2.1 dL_law_967 (by decide) ?_
  refine lv_iadd S.1 S.2.1 dL_law_968 ?_
  refine nt_i (y := nI (i + 1)) (nI_add i 1) ?_
  refine va_sld S.1 S.2.1 hX hbl hbB hS (pk_in (i + 1) L (by omega) rfl (by omega)) dL_law_969 ?_
  refine nt_i (y := xs (i + 1)) (by rw [nI_clamp (by omega)]) ?_
  refine lv_aload_n S.1 S.2.1 dL_law_970 rfl (lv_at hl 1 rfl) ?_
  refine lv_iload S.1 S.2.1 dL_law_971 (lv_at hl 5 rfl) ?_
  refine lv_iconst (v := 2) S.1 S.2.1 dL_law_973 (by decide) ?_
  refine lv_iadd S.1 S.2.1 dL_law_974 ?_
  refine nt_i (y := nI (i + 2)) (nI_add i 2) ?_
  refine va_sld S.1 S.2.1 hX hbl hbB hS (pk_in (i + 2) L (by omega) rfl (by omega)) dL_law_975 ?_
  refine nt_i (y := xs (i + 2)) (by rw [nI_clamp (by omega)]) ?_
  refine mc_wV (As := [.int (xs (i + 1)), .int (xs (i + 2))]) (rest := []) S K N9 hS rfl (m_X5_starts l M (xs (i + 1)) (xs (i + 2)) (xs (i + 1)).toNatClampNeg N9 J.ri in2) k4_117 k4_118 k4_119 k1_3 k4_120 (num := 2) (by decide +kernel) rfl ⟨by omega, by omega⟩ hl.1 rfl (by decide) dL_law_976 ⟨by omega, by omega⟩ (fun v8 H2 locs2 hP2 hS => ?_)
  obtain ⟨rfl, M2, sq2, N2⟩ := hP2
  refine lv_istore (lv' := [(6, .int _), (5, .int _), (0, .ref b), (1, .ref (ad 0)), (2, .ref (ad 5)), (3, .ref (ad 6)), (4, .int (nI i))]) S.1 S.2.1 dL_law_979 hl (by decide) rfl (fun ls hl => ?_)
  refine W.widen (k := cells + 12) (n := slots + 87) (by omega) (by omega) ?_
  exact tail_i (t0 := 981) Z N2 hS hc9 h69 d69 sq2 J1 hd1 rfl (fun z => hf9.trans (hy1 z)) (lv_sub hl [2, 3, 4, 5, 6, 1, 0] rfl) dL_law_981 dL_law_982 dL_law_985 dL_law_987 dL_law_992 dL_law_994 dL_law_997 dL_law_998 dL_law_999 dL_law_1000 dL_law_1002 dL_law_1003 dL_law_1004 dL_law_1009 (by decide) ⟨by omega, by omega⟩ (fun Wn hln => kk ad _ _ _ _ _ Wn hS ⟨rfl, rfl, rfl⟩ hln)
set_option maxHeartbeats 4000000 in
theorem lc_bias {ad : Nat → Nat} {C M : Nat → Nat → Int32} {i : Nat} (Z : LwS p l s m args meth c D cA B b L xs R) (W0 : jw D cA B ad C M H) (hS : va_S (fun q => B ≤ q) s.heap H locs) (hi : i + 4 < L) (hl : lv_has ls 7 [(0, .ref b), (1, .ref (ad 0)), (2, .ref (ad 5)), (3, .ref (ad 6)), (4, .int (nI i))]) (hcell : cells + 12 ≤ R.cells ∧ slots + 87 ≤ R.slots)
    (kk : ∀ (ad1 : Nat → Nat) (C1 M1 : Nat → Nat → Int32) (H1 : Heap) (locs1 : List Loc) (ls1 : Array Slot), jw D cA B ad1 C1 M1 H1 → va_S (fun q => B ≤ q) s.heap H1 locs1 → ad1 0 = ad 0 ∧ ad1 5 = ad 5 ∧ ad1 6 = ad 6 → lv_has ls1 7 [(0, .ref b), (1, .ref (ad 0)), (2, .ref (ad 5)), (3, .ref (ad 6)), (4, .int (nI i))] → W p l e R s m args below meth c H1 locs1 (cells + 12) (slots + 87) Q (F0 m 1081 ls1 [])) : W p l e R s m args below meth c H locs cells slots Q (F0 m 1012 ls []) := by
  obtain ⟨S, K, Kx, hls, hX, hbl, hbB, hL, hR1, hR2⟩ := id Z
  have J := W0.1
  obtain ⟨y0, X0, O, hm⟩ := jw_ow W0
  refine lv_aload_n S.1 S.2.1 dL_law_1012 rfl (lv_at hl 1 rfl) ?_
  refine lv_aload_n S.1 S.2.1 dL_law_1013 rfl (lv_at hl 0 rfl) ?_
  refine lv_iload S.1 S.2.1 dL_law_1014 (lv_at hl 4 rfl) ?_
  refine lv_iconst (v := 1) S.1 S.2.1 dL_law_1016 (by decide) ?_
  refine lv_iadd S.1 S.2.1 dL_law_1017 ?_
  refine nt_i (y := nI (i + 1)) (nI_add i 1) ?_
  refine va_sld S.1 S.2.1 hX hbl hbB hS (pk_in (i + 1) L (by omega) rfl (by omega)) dL_law_1018 ?_
  refine nt_i (y := xs (i + 1)) (by rw [nI_clamp (by omega)]) ?_
  refine lv_aload_n S.1 S.2.1 dL_law_1019 rfl (lv_at hl 3 rfl) ?_
  refine nc_hS (As := [.ref (ad 0), .int (xs (i + 1)), .ref (ad 6)]) (rest := []) S K Kx hS (w_bias l C (xs (i + 1))  y0 O J.dK hls (J_bias J (xs (i + 1))).1) k3_109 k3_110 k1_0 k3_111 (num := 3) (by decide +kernel) rfl ⟨by omega, by omega⟩ hl.1 rfl (by decide) dL_law_1020 ⟨by omega, by omega⟩ (fun v9 H1 locs1 hP hS => ?_)
  obtain ⟨rfl, dom1, C1, y1, O1, J1, hd1, hy1⟩ := aft_same (pr := (fun y9 => y9 = (f_X5_bias M (xs (i + 1)) (xs (i + 1)).toNatClampNeg).toInt64)) J (J_bias J (xs (i + 1))) rfl (fun t _ => codA_n t) (cs_rf C) (fun _ h => congrArg Int32.toInt64 h) hP
  obtain ⟨f9, E9, hf9, N9, hc9, h69, d69⟩ := ow_mw O1 hm (fun r hr => hd1 r (dmn_m hr))
  refine lv_istore (lv' := [(5, .int _), (0, .ref b), (1, .ref (ad 0)), (2, .ref (ad 5)), (3, .ref (ad 6)), (4, .int (nI i))]) S.1 S.2.1 dL_law_1023 hl (by decide) rfl (fun ls hl => ?_)
  refine lv_aload_n S.1 S.2.1 dL_law_1025 rfl (lv_at hl 3 rfl) ?_
  refine lv_aload_n S.1 S.2.1 dL_law_1026 rfl (lv_at hl 1 rfl) ?_
  refine lv_iload S.1 S.2.1 dL_law_1027 (lv_at hl 5 rfl) ?_
  refine lv_iconst (v := 1) S.1 S.2.1 dL_law_1029 (by decide) ?_
  refine lv_iadd S.1 S.2.1 dL_law_1030 ?_
  refine nt_i (y := nI (i + 1)) (nI_add i 1) ?_
  refine va_sld S.1 S.2.1 hX hbl hbB hS (pk_in (i + 1) L (by omega) rfl (by omega)) dL_law_1031 ?_
  refine nt_i (y := xs (i + 1)) (by rw [nI_clamp (by omega)]) ?_
  refine mc_wV (As := [.int (xs (i + 1))]) (rest := []) S K N9 hS rfl (m_X5_bias l M (xs (i + 1)) (xs (i + 1)).toNatClampNeg N9 in6) k4_121 k4_122 k4_123 k1_3 k4_124 (num := 1) (by decide +kernel) rfl ⟨by omega, by omega⟩ hl.1 rfl (by decide) dL_law_1032 ⟨by omega, by omega⟩ (fun v8 H2 locs2 hP2 hS => ?_)
  obtain ⟨rfl, M2, sq2, N2⟩ := hP2
  refine lv_istore (lv' := [(6, .int _), (5, .int _), (0, .ref b), (1, .ref (ad 0)), (2, .ref (ad 5)), (3, .ref (ad 6)), (4, .int (nI i))]) S.1 S.2.1 dL_law_1035 hl (by decide) rfl (fun ls hl => ?_)
  refine W.widen (k := cells + 12) (n := slots + 87) (by omega) (by omega) ?_
  exact tail_i (t0 := 1037) Z N2 hS hc9 h69 d69 sq2 J1 hd1 rfl (fun z => hf9.trans (hy1 z)) (lv_sub hl [2, 3, 4, 5, 6, 1, 0] rfl) dL_law_1037 dL_law_1038 dL_law_1041 dL_law_1043 dL_law_1048 dL_law_1050 dL_law_1053 dL_law_1054 dL_law_1055 dL_law_1056 dL_law_1058 dL_law_1059 dL_law_1060 dL_law_1065 (by decide) ⟨by omega, by omega⟩ (fun Wn hln => kk ad _ _ _ _ _ Wn hS ⟨rfl, rfl, rfl⟩ hln)
end LC
