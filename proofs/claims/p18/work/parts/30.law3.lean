/-! p18: the law's loops (printed by wip/p18/gen/law2.py) -/

section LROW
variable {p : Program} {l : Launch} {e : Env} {R : Room} {s : State} {m : MethodId} {args : Array Value} {below : List Frame} {meth : Method} {c : Code} {H : Heap} {locs : List Loc} {cells slots : Nat} {Q : State → Prop}
variable {cc : ByteArray} {nL pc : Nat} {ls : Array Slot} {rest : List Value} {D : va_G} {cA : Nat → ClassId} {B o ea S : Nat} {cnt : Nat → Nat} {C : Nat → Nat → Int32} {f : Nat → Int32}
/-- the law's list is read, is written -/
theorem la_ald (Z : Zw p l s m args c cc nL D cA B R) (W0 : lx D cA B o ea S cnt C f H) {j : Nat} (hj : j < 5) (hdg : decode cc pc = .ok (.iaload, 1)) (kk : W p l e R s m args below meth c H locs cells slots Q (F0 m (pc + 1) ls (.int (f j) :: rest))) : W p l e R s m args below meth c H locs cells slots Q (F0 m pc ls (.int (nI j) :: .ref ea :: rest)) := by
  obtain ⟨S1, K, hls, hR1, hR2⟩ := Z
  obtain ⟨ad, E, h1, h2, h3, h4, h5⟩ := W0
  subst h2
  exact nr_iald S1 K h3 6 dmk_6 h5 (pk_in j 5 hj rfl (by decide)) (congrArg f (nI_clamp (by omega))) hdg kk
theorem la_ast (Z : Zw p l s m args c cc nL D cA B R) (W0 : lx D cA B o ea S cnt C f H) (hS : va_S (fun q => B ≤ q) s.heap H locs) {j : Nat} (hj : j < 5) {x : Int32} (hdg : decode cc pc = .ok (.iastore, 1)) (kk : ∀ (H1 : Heap) (locs1 : List Loc), lx D cA B o ea S cnt C (upd f j x) H1 → va_S (fun q => B ≤ q) s.heap H1 locs1 → W p l e R s m args below meth c H1 locs1 cells slots Q (F0 m (pc + 1) ls rest)) : W p l e R s m args below meth c H locs cells slots Q (F0 m pc ls (.int x :: .int (nI j) :: .ref ea :: rest)) := by
  obtain ⟨S1, K, hls, hR1, hR2⟩ := Z
  obtain ⟨ad, E, h1, h2, h3, h4, h5⟩ := W0
  subst h2
  refine nr_iast S1 K h3 hS 6 dmk_6 h5 (pk_in j 5 hj rfl (by decide)) hdg (fun H1 locs1 g1 g2 _ => ?_)
  refine kk H1 locs1 ⟨ad, _, h1, rfl, g1, fun r hc hd => ?_, ?_⟩ g2
  · rw [va_up_ne _ _ (fun z => by subst z; unfold crole at hc; omega)]
    exact h4 r hc hd
  · rw [va_up_self, nI_clamp (by omega)]
theorem gr_in {q : Nat} (h : q < 11) : f_X4_isIn (nI q - 5) (-5) 5 = 1 := by
  have : q = 0 ∨ q = 1 ∨ q = 2 ∨ q = 3 ∨ q = 4 ∨ q = 5 ∨ q = 6 ∨ q = 7 ∨ q = 8 ∨ q = 9 ∨ q = 10 := by omega
  rcases this with rfl | rfl | rfl | rfl | rfl | rfl | rfl | rfl | rfl | rfl | rfl <;> decide
theorem es_cnt {k d n : Nat} (h : ∀ i, i < 12 → (¬ C (52 + k) i = 0 ↔ i < n)) : ∀ i, n ≤ i → i ≤ 12 → it14_X2_elementScoresBy C k d i = it14_X2_elementScoresBy C k d n := by
  intro i
  induction i with
  | zero => intro h1 _; rw [Nat.le_zero.mp h1]
  | succ i ih =>
    intro h1 h2
    by_cases q : n = i + 1
    · rw [q]
    · rw [it14_X2_elementScoresBy, if_pos (Decidable.not_not.mp (fun z => absurd ((h i (by omega)).mp z) (by omega)))]
      exact ih (by omega) (by omega)
theorem tot_if (x : Int32) : ((if 0 < x then x else 0) : Int32) = ((if 0 ≤ x then x else 0) : Int32) := by
  by_cases h : 0 < x
  · rw [if_pos h, if_pos (Int32.le_of_lt h)]
  · rw [if_neg h]
    by_cases h2 : 0 ≤ x
    · rw [if_pos h2]
      rw [Int32.lt_iff_toInt_lt] at h
      rw [Int32.le_iff_toInt_le] at h2
      have z : (0 : Int32).toInt = 0 := rfl
      exact Int32.toInt_inj.mp (by omega)
    · rw [if_neg h2]
end LROW

section LL1

variable {p : Program} {l : Launch} {e : Env} {R : Room} {s : State} {m : MethodId} {args : Array Value} {below : List Frame} {meth : Method} {c : Code} {Q : State → Prop}
variable {D : va_G} {cA : Nat → ClassId} {B b L o ea Sk : Nat} {xs : Nat → Int32}

set_option maxHeartbeats 8000000 in
set_option maxRecDepth 100000 in
theorem lp_sk (Z : Zw p l s m args c cL_law 19 D cA B R) (KS0 : KS D cA B b L xs s) (hL : L < 2 ^ 31) {MC MS : Nat} (hMC : MC ≤ R.cells ∧ MS ≤ R.slots) (h5 : Sk ≤ 5) {f : Nat → Int32} {v la : Int32}
    (ke : ∀ (C : Nat → Nat → Int32) (H : Heap) (locs : List Loc) (ls : Array Slot), lx D cA B o ea Sk (fun _ => 0) C f H → LV Sk (fun _ => 0) 0 0 C → va_S (fun q => B ≤ q) s.heap H locs → lv_has ls 19 [(0, .ref b), (1, .ref o), (2, .int v), (3, .int (nI Sk)), (4, .int la), (5, .int 1), (6, .int 0), (7, .ref ea)] → W p l e R s m args below meth c H locs MC MS Q (F0 m 86 ls [])) :
    ∀ (n : Nat) (j : Nat) (C : Nat → Nat → Int32) (H : Heap) (locs : List Loc) (ls : Array Slot) (cells slots : Nat), j + n = Sk → cells + 12 * n ≤ MC ∧ slots + 87 * n ≤ MS → lx D cA B o ea j (fun _ => 0) C f H → LV j (fun _ => 0) 0 0 C → va_S (fun q => B ≤ q) s.heap H locs → lv_has ls 19 [(0, .ref b), (1, .ref o), (2, .int v), (3, .int (nI Sk)), (4, .int la), (5, .int 1), (6, .int 0), (7, .ref ea), (8, .int (nI j))] → W p l e R s m args below meth c H locs cells slots Q (F0 m 53 ls []) := by
  obtain ⟨S, K, hls, hR1, hR2⟩ := id Z
  intro n
  induction n with
  | zero =>
    intro j C H locs ls cells slots hj hc W0 V hS hl
    refine lv_iload S.1 S.2.1 dL_law_53 (lv_at hl 8 rfl) ?_
    refine lv_iload_n S.1 S.2.1 dL_law_55 rfl (lv_at hl 3 rfl) ?_
    refine lv_icmp_ge (tgt := 86) S.1 S.2.1 dL_law_56 (by decide) (fun _ => ?_) (fun c9 => absurd (nI_le (by omega) (by omega)) c9)
    exact W.widen (k := MC) (n := MS) (by omega) (by omega) (ke C H locs ls (by rw [show Sk = j by omega]; exact W0) (by rw [show Sk = j by omega]; exact V) hS (lv_sub hl [0, 1, 2, 3, 4, 5, 6, 7] rfl))
  | succ n ih =>
    intro j C H locs ls cells slots hj hc W0 V hS hl
    refine lv_iload S.1 S.2.1 dL_law_53 (lv_at hl 8 rfl) ?_
    refine lv_iload_n S.1 S.2.1 dL_law_55 rfl (lv_at hl 3 rfl) ?_
    refine lv_icmp_ge (tgt := 86) S.1 S.2.1 dL_law_56 (by decide) (fun c9 => absurd c9 (nI_ge (by omega) (by omega))) (fun _ => ?_)
    refine lv_iload S.1 S.2.1 dL_law_59 (lv_at hl 5 rfl) ?_
    refine lv_if_eq (tgt := 77) S.1 S.2.1 dL_law_61 (by decide) (fun c9 => absurd c9 (by decide)) (fun _ => ?_)
    refine lv_aload_n S.1 S.2.1 dL_law_64 rfl (lv_at hl 1 rfl) ?_
    obtain ⟨u1, u2, V1⟩ := V_skater V (by omega)
    refine la_skater Z W0 hS V u1 (by omega) hl.1 (Nat.le_of_ble_eq_true rfl) dL_law_65 ⟨by omega, by omega⟩ (fun H locs W0 hS => ?_)
    refine nt_i (y := (nI j)) (u2) ?_
    refine lv_iload S.1 S.2.1 dL_law_68 (lv_at hl 8 rfl) ?_
    refine lv_icmp_ne (tgt := 77) S.1 S.2.1 dL_law_70 (by decide) (fun c9 => absurd (rfl) c9) (fun _ => ?_)
    refine lv_iconst (v := 1) S.1 S.2.1 dL_law_73 (by decide) ?_
    refine lv_goto (tgt := 78) S.1 S.2.1 dL_law_74 (by decide) ?_
    refine lv_istore (lv' := [(5, .int 1), (0, .ref b), (1, .ref o), (2, .int v), (3, .int (nI Sk)), (4, .int la), (6, .int 0), (7, .ref ea), (8, .int (nI j))]) S.1 S.2.1 dL_law_78 hl (by decide) rfl (fun ls hl => ?_)
    refine lv_iinc (v := nI (j + 1)) (lv' := [(8, .int (nI (j + 1))), (5, .int 1), (0, .ref b), (1, .ref o), (2, .int v), (3, .int (nI Sk)), (4, .int la), (6, .int 0), (7, .ref ea)]) S.1 S.2.1 dL_law_80 hl (k := 8) rfl (nI_add j 1) (by decide) rfl (fun ls hl => ?_)
    refine lv_goto (tgt := 53) S.1 S.2.1 dL_law_83 (by decide) ?_
    exact ih (j + 1) _ H locs ls _ _ (by omega) ⟨by omega, by omega⟩ W0 V1 hS (lv_sub hl [2, 3, 4, 5, 6, 1, 7, 8, 0] rfl)

set_option maxHeartbeats 8000000 in
set_option maxRecDepth 100000 in
theorem lp_gr (Z : Zw p l s m args c cL_law 19 D cA B R) (KS0 : KS D cA B b L xs s) (hL : L < 2 ^ 31) {MC MS : Nat} (hMC : MC ≤ R.cells ∧ MS ≤ R.slots) (h5 : Sk ≤ 5) {cnt : Nat → Nat} {en : Nat} {f : Nat → Int32} {v la sc : Int32} {i : Nat} (hen : en < Sk) (hi : i < cnt en) (h12 : cnt en ≤ 12)
    (ke : ∀ (C : Nat → Nat → Int32) (H : Heap) (locs : List Loc) (ls : Array Slot), lx D cA B o ea Sk cnt C f H → LV Sk cnt (en + 1) 0 C → va_S (fun q => B ≤ q) s.heap H locs → lv_has ls 19 [(0, .ref b), (1, .ref o), (2, .int v), (3, .int (nI Sk)), (4, .int la), (5, .int 1), (6, .int (nI (en + 1))), (7, .ref ea), (8, .int (nI en)), (9, .int sc), (10, .int (nI i))] → W p l e R s m args below meth c H locs MC MS Q (F0 m 275 ls [])) :
    ∀ (n : Nat) (j : Nat) (C : Nat → Nat → Int32) (H : Heap) (locs : List Loc) (ls : Array Slot) (cells slots : Nat), j + n = 7 → cells + n ≤ MC ∧ slots + 6 * n ≤ MS → lx D cA B o ea Sk cnt C f H → LV Sk cnt (en + 1) 0 C → va_S (fun q => B ≤ q) s.heap H locs → lv_has ls 19 [(0, .ref b), (1, .ref o), (2, .int v), (3, .int (nI Sk)), (4, .int la), (5, .int 1), (6, .int (nI (en + 1))), (7, .ref ea), (8, .int (nI en)), (9, .int sc), (10, .int (nI i)), (11, .int (nI j))] → W p l e R s m args below meth c H locs cells slots Q (F0 m 211 ls []) := by
  obtain ⟨S, K, hls, hR1, hR2⟩ := id Z
  intro n
  induction n with
  | zero =>
    intro j C H locs ls cells slots hj hc W0 V hS hl
    refine lv_iload S.1 S.2.1 dL_law_211 (lv_at hl 11 rfl) ?_
    refine lv_bipush (v := 7) S.1 S.2.1 dL_law_213 (by decide) ?_
    refine lv_icmp_ge (tgt := 275) S.1 S.2.1 dL_law_215 (by decide) (fun _ => ?_) (fun c9 => absurd (by rw [show j = 7 by omega]; decide) c9)
    exact W.widen (k := MC) (n := MS) (by omega) (by omega) (ke C H locs ls W0 V hS (lv_sub hl [0, 1, 2, 3, 4, 5, 6, 7, 8, 9, 10] rfl))
  | succ n ih =>
    intro j C H locs ls cells slots hj hc W0 V hS hl
    refine lv_iload S.1 S.2.1 dL_law_211 (lv_at hl 11 rfl) ?_
    refine lv_bipush (v := 7) S.1 S.2.1 dL_law_213 (by decide) ?_
    refine lv_icmp_ge (tgt := 275) S.1 S.2.1 dL_law_215 (by decide) (fun c9 => absurd c9 (nI_ge (b := 7) (by omega) (by decide))) (fun _ => ?_)
    refine lv_aload_n S.1 S.2.1 dL_law_218 rfl (lv_at hl 0 rfl) ?_
    refine lv_iconst (v := 3) S.1 S.2.1 dL_law_219 (by decide) ?_
    refine lv_bipush (v := 9) S.1 S.2.1 dL_law_220 (by decide) ?_
    refine lv_iload S.1 S.2.1 dL_law_222 (lv_at hl 8 rfl) ?_
    refine lv_imul S.1 S.2.1 dL_law_224 ?_
    refine nt_i (y := nI (9 * en)) (pk_mul 9 en) ?_
    refine lv_iadd S.1 S.2.1 dL_law_225 ?_
    refine nt_i (y := nI (3 + (9 * en))) (nI_add 3 (9 * en)) ?_
    refine lv_iload S.1 S.2.1 dL_law_226 (lv_at hl 10 rfl) ?_
    refine lv_iadd S.1 S.2.1 dL_law_228 ?_
    refine nt_i (y := nI ((3 + (9 * en)) + i)) (nI_add (3 + (9 * en)) i) ?_
    refine nc_rSS S KS0 hS (As := [.ref b, .int (nI ((3 + (9 * en)) + i))]) (m_cell l (((3 + (9 * en)) + i)) (by omega) hL) k2_192 k2_193 k1_0 k2_194 (num := 2) (by decide +kernel) rfl ⟨by omega, by omega⟩ hl.1 rfl (Nat.le_of_ble_eq_true rfl) dL_law_229 ⟨by omega, by omega⟩ ?_
    generalize cellV L xs (((3 + (9 * en)) + i)) = gw
    refine lv_iload S.1 S.2.1 dL_law_232 (lv_at hl 11 rfl) ?_
    refine lv_iconst (v := 2) S.1 S.2.1 dL_law_234 (by decide) ?_
    refine lv_iadd S.1 S.2.1 dL_law_235 ?_
    refine nt_i (y := nI (j + 2)) (nI_add j 2) ?_
    refine lv_ishr S.1 S.2.1 dL_law_236 ?_
    refine lv_istore (lv' := [(12, .int (gw >>> ((nI (j + 2)) &&& 31))), (0, .ref b), (1, .ref o), (2, .int v), (3, .int (nI Sk)), (4, .int la), (5, .int 1), (6, .int (nI (en + 1))), (7, .ref ea), (8, .int (nI en)), (9, .int sc), (10, .int (nI i)), (11, .int (nI j))]) S.1 S.2.1 dL_law_237 hl (by decide) rfl (fun ls hl => ?_)
    refine lv_iload S.1 S.2.1 dL_law_239 (lv_at hl 0 rfl) ?_
    refine lv_iconst (v := 4) S.1 S.2.1 dL_law_241 (by decide) ?_
    refine nc_rS S KS0.1 hS (As := [.int (gw >>> ((nI (j + 2)) &&& 31)), .int 4]) (m_low l (gw >>> ((nI (j + 2)) &&& 31)) 4 (by decide) (by decide)) k2_195 k2_196 k1_0 k2_197 (num := 2) (by decide +kernel) rfl ⟨by omega, by omega⟩ hl.1 rfl (Nat.le_of_ble_eq_true rfl) dL_law_242 ⟨by omega, by omega⟩ ?_
    have hgz : lowN (gw >>> ((nI (j + 2)) &&& 31)) 4 < 4 := lowN_lt _ (by decide)
    generalize lowN (gw >>> ((nI (j + 2)) &&& 31)) 4 = gz at hgz ⊢
    refine lv_if_le (tgt := 269) S.1 S.2.1 dL_law_245 (by decide) (fun c245_1 => ?_) (fun c245_1 => ?_)
    · refine lv_iinc (v := nI (j + 1)) (lv' := [(11, .int (nI (j + 1))), (12, .int (gw >>> ((nI (j + 2)) &&& 31))), (0, .ref b), (1, .ref o), (2, .int v), (3, .int (nI Sk)), (4, .int la), (5, .int 1), (6, .int (nI (en + 1))), (7, .ref ea), (8, .int (nI en)), (9, .int sc), (10, .int (nI i))]) S.1 S.2.1 dL_law_269 hl (k := 12) rfl (nI_add j 1) (by decide) rfl (fun ls hl => ?_)
      refine lv_goto (tgt := 211) S.1 S.2.1 dL_law_272 (by decide) ?_
      exact ih (j + 1) _ H locs ls _ _ (by omega) ⟨by omega, by omega⟩ W0 V hS (lv_sub hl [2, 3, 4, 5, 6, 7, 8, 9, 10, 11, 12, 0] rfl)
    · refine lv_aload_n S.1 S.2.1 dL_law_248 rfl (lv_at hl 2 rfl) ?_
      refine lv_iload S.1 S.2.1 dL_law_249 (lv_at hl 12 rfl) ?_
      refine lv_iload S.1 S.2.1 dL_law_251 (lv_at hl 9 rfl) ?_
      refine lv_iload S.1 S.2.1 dL_law_253 (lv_at hl 11 rfl) ?_
      refine lv_iload S.1 S.2.1 dL_law_255 (lv_at hl 0 rfl) ?_
      refine lv_iconst (v := 2) S.1 S.2.1 dL_law_257 (by decide) ?_
      refine lv_ishr S.1 S.2.1 dL_law_258 ?_
      refine lv_bipush (v := 11) S.1 S.2.1 dL_law_259 (by decide) ?_
      refine nc_rS S KS0.1 hS (As := [.int ((gw >>> ((nI (j + 2)) &&& 31)) >>> (2 &&& 31)), .int 11]) (m_low l ((gw >>> ((nI (j + 2)) &&& 31)) >>> (2 &&& 31)) 11 (by decide) (by decide)) k2_195 k2_196 k1_0 k2_197 (num := 2) (by decide +kernel) rfl ⟨by omega, by omega⟩ hl.1 rfl (Nat.le_of_ble_eq_true rfl) dL_law_261 ⟨by omega, by omega⟩ ?_
      have hgq : lowN ((gw >>> ((nI (j + 2)) &&& 31)) >>> (2 &&& 31)) 11 < 11 := lowN_lt _ (by decide)
      generalize lowN ((gw >>> ((nI (j + 2)) &&& 31)) >>> (2 &&& 31)) 11 = gq at hgq ⊢
      refine lv_iconst (v := 5) S.1 S.2.1 dL_law_264 (by decide) ?_
      refine lv_isub S.1 S.2.1 dL_law_265 ?_
      obtain ⟨u1, u2⟩ := V_grade V (j := j) (k := en) (e := i) (by omega) (Nat.lt_succ_self en) hi (gr_in hgq)
      refine la_grade Z W0 hS V u1 hl.1 (Nat.le_of_ble_eq_true rfl) dL_law_266 ⟨by omega, by omega⟩ (fun H locs W0 hS => ?_)
      have V := LV_co u2 V
      refine lv_iinc (v := nI (j + 1)) (lv' := [(11, .int (nI (j + 1))), (12, .int (gw >>> ((nI (j + 2)) &&& 31))), (0, .ref b), (1, .ref o), (2, .int v), (3, .int (nI Sk)), (4, .int la), (5, .int 1), (6, .int (nI (en + 1))), (7, .ref ea), (8, .int (nI en)), (9, .int sc), (10, .int (nI i))]) S.1 S.2.1 dL_law_269 hl (k := 12) rfl (nI_add j 1) (by decide) rfl (fun ls hl => ?_)
      refine lv_goto (tgt := 211) S.1 S.2.1 dL_law_272 (by decide) ?_
      exact ih (j + 1) _ H locs ls _ _ (by omega) ⟨by omega, by omega⟩ W0 V hS (lv_sub hl [2, 3, 4, 5, 6, 7, 8, 9, 10, 11, 12, 0] rfl)

set_option maxHeartbeats 8000000 in
set_option maxRecDepth 100000 in
theorem lp_el (Z : Zw p l s m args c cL_law 19 D cA B R) (KS0 : KS D cA B b L xs s) (hL : L < 2 ^ 31) {MC MS : Nat} (hMC : MC ≤ R.cells ∧ MS ≤ R.slots) (h5 : Sk ≤ 5) {cnt : Nat → Nat} {en : Nat} {f : Nat → Int32} {v la sc : Int32} (hen : en < Sk) (h12 : cnt en ≤ 12) (hf : f en = nI (cnt en))
    (ke : ∀ (C : Nat → Nat → Int32) (H : Heap) (locs : List Loc) (ls : Array Slot), lx D cA B o ea Sk cnt C f H → LV Sk cnt (en + 1) 0 C → va_S (fun q => B ≤ q) s.heap H locs → lv_has ls 19 [(0, .ref b), (1, .ref o), (2, .int v), (3, .int (nI Sk)), (4, .int la), (5, .int 1), (6, .int (nI (en + 1))), (7, .ref ea), (8, .int (nI en)), (9, .int sc)] → W p l e R s m args below meth c H locs MC MS Q (F0 m 281 ls [])) :
    ∀ (n : Nat) (i : Nat) (C : Nat → Nat → Int32) (H : Heap) (locs : List Loc) (ls : Array Slot) (cells slots : Nat), i + n = cnt en → cells + 7 * n ≤ MC ∧ slots + 42 * n ≤ MS → lx D cA B o ea Sk cnt C f H → LV Sk cnt (en + 1) 0 C → va_S (fun q => B ≤ q) s.heap H locs → lv_has ls 19 [(0, .ref b), (1, .ref o), (2, .int v), (3, .int (nI Sk)), (4, .int la), (5, .int 1), (6, .int (nI (en + 1))), (7, .ref ea), (8, .int (nI en)), (9, .int sc), (10, .int (nI i))] → W p l e R s m args below meth c H locs cells slots Q (F0 m 198 ls []) := by
  obtain ⟨S, K, hls, hR1, hR2⟩ := id Z
  intro n
  induction n with
  | zero =>
    intro i C H locs ls cells slots hj hc W0 V hS hl
    refine lv_iload S.1 S.2.1 dL_law_198 (lv_at hl 10 rfl) ?_
    refine lv_aload S.1 S.2.1 dL_law_200 (lv_at hl 7 rfl) ?_
    refine lv_iload S.1 S.2.1 dL_law_202 (lv_at hl 8 rfl) ?_
    refine la_ald Z W0 (j := en) (by omega) dL_law_204 ?_
    refine nt_i (y := (nI (cnt en))) (hf) ?_
    refine lv_icmp_ge (tgt := 281) S.1 S.2.1 dL_law_205 (by decide) (fun _ => ?_) (fun c9 => absurd (nI_le (by omega) (by omega)) c9)
    exact W.widen (k := MC) (n := MS) (by omega) (by omega) (ke C H locs ls W0 V hS (lv_sub hl [0, 1, 2, 3, 4, 5, 6, 7, 8, 9] rfl))
  | succ n ih =>
    intro i C H locs ls cells slots hj hc W0 V hS hl
    refine lv_iload S.1 S.2.1 dL_law_198 (lv_at hl 10 rfl) ?_
    refine lv_aload S.1 S.2.1 dL_law_200 (lv_at hl 7 rfl) ?_
    refine lv_iload S.1 S.2.1 dL_law_202 (lv_at hl 8 rfl) ?_
    refine la_ald Z W0 (j := en) (by omega) dL_law_204 ?_
    refine nt_i (y := (nI (cnt en))) (hf) ?_
    refine lv_icmp_ge (tgt := 281) S.1 S.2.1 dL_law_205 (by decide) (fun c9 => absurd c9 (nI_ge (by omega) (by omega))) (fun _ => ?_)
    refine lv_iconst (v := 0) S.1 S.2.1 dL_law_208 (by decide) ?_
    refine lv_istore (lv' := [(11, .int 0), (0, .ref b), (1, .ref o), (2, .int v), (3, .int (nI Sk)), (4, .int la), (5, .int 1), (6, .int (nI (en + 1))), (7, .ref ea), (8, .int (nI en)), (9, .int sc), (10, .int (nI i))]) S.1 S.2.1 dL_law_209 hl (by decide) rfl (fun ls hl => ?_)
    refine lp_gr Z KS0 hL (MC := cells + 7) (MS := slots + 42) ⟨by omega, by omega⟩ h5 hen (show i < cnt en by omega) h12 (fun C H locs ls W0 V hS hl => ?_) 7 0 C H locs ls _ _ (by omega) ⟨by omega, by omega⟩ W0 V hS (lv_sub hl [1, 2, 3, 4, 5, 6, 7, 8, 9, 10, 11, 0] rfl)
    refine lv_iinc (v := nI (i + 1)) (lv' := [(10, .int (nI (i + 1))), (0, .ref b), (1, .ref o), (2, .int v), (3, .int (nI Sk)), (4, .int la), (5, .int 1), (6, .int (nI (en + 1))), (7, .ref ea), (8, .int (nI en)), (9, .int sc)]) S.1 S.2.1 dL_law_275 hl (k := 10) rfl (nI_add i 1) (by decide) rfl (fun ls hl => ?_)
    refine lv_goto (tgt := 198) S.1 S.2.1 dL_law_278 (by decide) ?_
    exact ih (i + 1) C H locs ls _ _ (by omega) ⟨by omega, by omega⟩ W0 V hS (lv_sub hl [1, 2, 3, 4, 5, 6, 7, 8, 9, 10, 0] rfl)

set_option maxHeartbeats 8000000 in
set_option maxRecDepth 100000 in
theorem lp_co (Z : Zw p l s m args c cL_law 19 D cA B R) (KS0 : KS D cA B b L xs s) (hL : L < 2 ^ 31) {MC MS : Nat} (hMC : MC ≤ R.cells ∧ MS ≤ R.slots) (h5 : Sk ≤ 5) {cnt : Nat → Nat} {en : Nat} {f : Nat → Int32} {v la sc : Int32} (hen : en < Sk)
    (ke : ∀ (C : Nat → Nat → Int32) (H : Heap) (locs : List Loc) (ls : Array Slot), lx D cA B o ea Sk cnt C f H → LV Sk cnt (en + 1) 0 C → va_S (fun q => B ≤ q) s.heap H locs → lv_has ls 19 [(0, .ref b), (1, .ref o), (2, .int v), (3, .int (nI Sk)), (4, .int la), (5, .int 1), (6, .int (nI (en + 1))), (7, .ref ea), (8, .int (nI en)), (9, .int sc)] → W p l e R s m args below meth c H locs MC MS Q (F0 m 333 ls [])) :
    ∀ (n : Nat) (j : Nat) (C : Nat → Nat → Int32) (H : Heap) (locs : List Loc) (ls : Array Slot) (cells slots : Nat), j + n = 21 → cells + n ≤ MC ∧ slots + 6 * n ≤ MS → lx D cA B o ea Sk cnt C f H → LV Sk cnt (en + 1) 0 C → va_S (fun q => B ≤ q) s.heap H locs → lv_has ls 19 [(0, .ref b), (1, .ref o), (2, .int v), (3, .int (nI Sk)), (4, .int la), (5, .int 1), (6, .int (nI (en + 1))), (7, .ref ea), (8, .int (nI en)), (9, .int sc), (10, .int (nI j))] → W p l e R s m args below meth c H locs cells slots Q (F0 m 284 ls []) := by
  obtain ⟨S, K, hls, hR1, hR2⟩ := id Z
  intro n
  induction n with
  | zero =>
    intro j C H locs ls cells slots hj hc W0 V hS hl
    refine lv_iload S.1 S.2.1 dL_law_284 (lv_at hl 10 rfl) ?_
    refine lv_bipush (v := 21) S.1 S.2.1 dL_law_286 (by decide) ?_
    refine lv_icmp_ge (tgt := 333) S.1 S.2.1 dL_law_288 (by decide) (fun _ => ?_) (fun c9 => absurd (by rw [show j = 21 by omega]; decide) c9)
    exact W.widen (k := MC) (n := MS) (by omega) (by omega) (ke C H locs ls W0 V hS (lv_sub hl [0, 1, 2, 3, 4, 5, 6, 7, 8, 9] rfl))
  | succ n ih =>
    intro j C H locs ls cells slots hj hc W0 V hS hl
    refine lv_iload S.1 S.2.1 dL_law_284 (lv_at hl 10 rfl) ?_
    refine lv_bipush (v := 21) S.1 S.2.1 dL_law_286 (by decide) ?_
    refine lv_icmp_ge (tgt := 333) S.1 S.2.1 dL_law_288 (by decide) (fun c9 => absurd c9 (nI_ge (b := 21) (by omega) (by decide))) (fun _ => ?_)
    refine lv_aload_n S.1 S.2.1 dL_law_291 rfl (lv_at hl 1 rfl) ?_
    refine lv_iload S.1 S.2.1 dL_law_292 (lv_at hl 10 rfl) ?_
    refine lv_iconst (v := 3) S.1 S.2.1 dL_law_294 (by decide) ?_
    refine lv_idiv S.1 S.2.1 dL_law_295 (by decide) ?_
    refine nt_i (y := nI (j / 3)) (pk_div (by omega) (by decide) (by decide)) ?_
    refine lv_iload S.1 S.2.1 dL_law_296 (lv_at hl 8 rfl) ?_
    refine lv_iload S.1 S.2.1 dL_law_298 (lv_at hl 10 rfl) ?_
    refine lv_iconst (v := 3) S.1 S.2.1 dL_law_300 (by decide) ?_
    refine lv_irem S.1 S.2.1 dL_law_301 (by decide) ?_
    refine nt_i (y := nI (j % 3)) (pk_rem (by omega) (by decide) (by decide)) ?_
    refine lv_aload_n S.1 S.2.1 dL_law_302 rfl (lv_at hl 0 rfl) ?_
    refine lv_iconst (v := 2) S.1 S.2.1 dL_law_303 (by decide) ?_
    refine lv_bipush (v := 9) S.1 S.2.1 dL_law_304 (by decide) ?_
    refine lv_iload S.1 S.2.1 dL_law_306 (lv_at hl 8 rfl) ?_
    refine lv_imul S.1 S.2.1 dL_law_308 ?_
    refine nt_i (y := nI (9 * en)) (pk_mul 9 en) ?_
    refine lv_iadd S.1 S.2.1 dL_law_309 ?_
    refine nt_i (y := nI (2 + (9 * en))) (nI_add 2 (9 * en)) ?_
    refine nc_rSS S KS0 hS (As := [.ref b, .int (nI (2 + (9 * en)))]) (m_cell l ((2 + (9 * en))) (by omega) hL) k2_192 k2_193 k1_0 k2_194 (num := 2) (by decide +kernel) rfl ⟨by omega, by omega⟩ hl.1 rfl (Nat.le_of_ble_eq_true rfl) dL_law_310 ⟨by omega, by omega⟩ ?_
    generalize cellV L xs ((2 + (9 * en))) = gw
    refine lv_iload S.1 S.2.1 dL_law_313 (lv_at hl 10 rfl) ?_
    refine lv_bipush (v := 17) S.1 S.2.1 dL_law_315 (by decide) ?_
    refine lv_irem S.1 S.2.1 dL_law_317 (by decide) ?_
    refine nt_i (y := nI (j % 17)) (pk_rem (by omega) (by decide) (by decide)) ?_
    refine lv_ishr S.1 S.2.1 dL_law_318 ?_
    refine lv_bipush (v := 41) S.1 S.2.1 dL_law_319 (by decide) ?_
    refine nc_rS S KS0.1 hS (As := [.int (gw >>> ((nI (j % 17)) &&& 31)), .int 41]) (m_low l (gw >>> ((nI (j % 17)) &&& 31)) 41 (by decide) (by decide)) k2_195 k2_196 k1_0 k2_197 (num := 2) (by decide +kernel) rfl ⟨by omega, by omega⟩ hl.1 rfl (Nat.le_of_ble_eq_true rfl) dL_law_321 ⟨by omega, by omega⟩ ?_
    have hcq : lowN (gw >>> ((nI (j % 17)) &&& 31)) 41 < 41 := lowN_lt _ (by decide)
    generalize lowN (gw >>> ((nI (j % 17)) &&& 31)) 41 = cq at hcq ⊢
    obtain ⟨u1, u2⟩ := V_component V (j := j / 3) (k := en) (e := j % 3) (x := cq) (by omega) (Nat.lt_succ_self en) (by omega) (by omega)
    refine la_component Z W0 hS V u1 hl.1 (Nat.le_of_ble_eq_true rfl) dL_law_324 ⟨by omega, by omega⟩ (fun H locs W0 hS => ?_)
    have V := LV_co u2 V
    refine lv_iinc (v := nI (j + 1)) (lv' := [(10, .int (nI (j + 1))), (0, .ref b), (1, .ref o), (2, .int v), (3, .int (nI Sk)), (4, .int la), (5, .int 1), (6, .int (nI (en + 1))), (7, .ref ea), (8, .int (nI en)), (9, .int sc)]) S.1 S.2.1 dL_law_327 hl (k := 10) rfl (nI_add j 1) (by decide) rfl (fun ls hl => ?_)
    refine lv_goto (tgt := 284) S.1 S.2.1 dL_law_330 (by decide) ?_
    exact ih (j + 1) _ H locs ls _ _ (by omega) ⟨by omega, by omega⟩ W0 V hS (lv_sub hl [1, 2, 3, 4, 5, 6, 7, 8, 9, 10, 0] rfl)

end LL1
