/-! THE LAW'S LOOP -/
section LA
variable {p : Program} {l : Launch} {e : Env} {R : Room} {s : State} {m : MethodId} {args : Array Value} {below : List Frame} {meth : Method} {c : Code} {H : Heap} {locs : List Loc} {cells slots : Nat} {Q : State → Prop}
variable {ls : Array Slot} {D : va_G} {cA : Nat → ClassId} {B b L : Nat} {xs : Nat → Int32}
set_option maxHeartbeats 4000000 in
theorem lc_addsUp {ad : Nat → Nat} {C M : Nat → Nat → Int32} {i : Nat} (Z : LwS p l s m args meth c D cA B b L xs R) (W0 : jw D cA B ad C M H) (hS : va_S (fun q => B ≤ q) s.heap H locs) (hl : lv_has ls 7 [(0, .ref b), (1, .ref (ad 0)), (2, .ref (ad 5)), (3, .ref (ad 6)), (4, .int (nI i))]) (hcell : cells + 12 ≤ R.cells ∧ slots + 87 ≤ R.slots)
    (kk : ∀ (ad1 : Nat → Nat) (C1 M1 : Nat → Nat → Int32) (H1 : Heap) (locs1 : List Loc) (ls1 : Array Slot), jw D cA B ad1 C1 M1 H1 → va_S (fun q => B ≤ q) s.heap H1 locs1 → ad1 0 = ad 0 ∧ ad1 5 = ad 5 ∧ ad1 6 = ad 6 → lv_has ls1 7 [(0, .ref b), (1, .ref (ad 0)), (2, .ref (ad 5)), (3, .ref (ad 6)), (4, .int (nI i))] → W p l e R s m args below meth c H1 locs1 (cells + 12) (slots + 87) Q (F0 m 1081 ls1 [])) : W p l e R s m args below meth c H locs cells slots Q (F0 m 1068 ls []) := by
  obtain ⟨S, K, Kx, hls, hX, hbl, hbB, hL, hR1, hR2⟩ := id Z
  obtain ⟨J, f, E, h1, h2, h3, h4⟩ := W0
  have N : kw D cA B (dmn M) ad E C H := ⟨E, h1, h2, fun _ _ => rfl⟩
  have N5 : mw D cA B (dmn M) ad E M H := ⟨E, h1, h3, fun _ _ => rfl, fun r hr => dmn_m hr⟩
  refine lv_aload_n S.1 S.2.1 dL_law_1068 rfl (lv_at hl 1 rfl) ?_
  refine kc_rV (As := []) (rest := []) S K N hS 0 (by unfold crole; omega) (dmn_6 (by decide)) (ci := 4) rfl (T := TX4) (n := 6) rfl (m_X4_addsUp l C N J.dK) k1_65 k1_66 k1_67 k1_1 k1_68 (num := 0) (by decide +kernel) rfl ⟨by omega, by omega⟩ hl.1 rfl (by decide) dL_law_1069 ⟨by omega, by omega⟩ ?_
  refine lv_aload_n S.1 S.2.1 dL_law_1072 rfl (lv_at hl 2 rfl) ?_
  refine mc_wV (As := []) (rest := [.int (f_X4_addsUp C)]) S K N5 hS rfl (m_X5_addsUp l M N5) k4_126 k4_127 k4_128 k1_3 k4_129 (num := 0) (by decide +kernel) rfl ⟨by omega, by omega⟩ hl.1 rfl (Nat.le_of_ble_eq_true rfl) dL_law_1073 ⟨by omega, by omega⟩ (fun v8 H2 locs2 hP2 hS => ?_)
  obtain ⟨rfl, N2⟩ := hP2
  refine lv_icmp_eq (tgt := 1081) S.1 S.2.1 dL_law_1076 (by decide) (fun _ => ?_) (fun z => absurd rfl z)
  refine W.widen (k := cells + 12) (n := slots + 87) (by omega) (by omega) ?_
  refine kk ad C (g_X5_addsUp M) H2 locs2 ls (mw_jw N2 h2 h4 (JJ_sr (sr_th M 0) J) (fun r hr => ?_)) hS ⟨rfl, rfl, rfl⟩ hl
  unfold g_X5_addsUp dmn nS nE at hr
  unfold dmn nS nE
  rw [up2_ne M 0 0 (show 8 ≠ 0 by decide), show up2 M 0 0 0 0 1 = M 0 1 from rfl] at hr
  exact hr
end LA
section LL
variable {p : Program} {l : Launch} {e : Env} {R : Room} {s : State} {m : MethodId} {args : Array Value} {below : List Frame} {meth : Method} {c : Code} {Q : State → Prop}
variable {D : va_G} {cA : Nat → ClassId} {B b L : Nat} {xs : Nat → Int32}
set_option maxHeartbeats 4000000 in
theorem lw_loop (Z : LwS p l s m args meth c D cA B b L xs R) (hB : B = s.heap.size) (hRm : 601024 ≤ R.cells ∧ 7293033 ≤ R.slots) (ke : ∀ (H1 : Heap) (ls1 : Array Slot), W p l e R s m args below meth c H1 [] 601024 7293033 Q (F0 m 1087 ls1 [])) : ∀ (n j : Nat) (ad : Nat → Nat) (C M : Nat → Nat → Int32) (H : Heap) (locs : List Loc) (ls : Array Slot) (cells slots : Nat), L < j + 5 + 5 * n → j ≤ 2560 → cells + 12 * n ≤ 601024 → slots + 87 * n ≤ 7293033 → jw D cA B ad C M H → va_S (fun q => B ≤ q) s.heap H locs → lv_has ls 7 [(0, .ref b), (1, .ref (ad 0)), (2, .ref (ad 5)), (3, .ref (ad 6)), (4, .int (nI j))] → W p l e R s m args below meth c H locs cells slots Q (F0 m 23 ls []) := by
  obtain ⟨S, K, Kx, hls, hX, hbl, hbB, hL, hR1, hR2⟩ := id Z
  have hLt : (nI L - 5).toInt = (L : Int) - 5 := by
    have a := nI_toInt (n := L) (by omega)
    have b5 : (5 : Int32).toInt = 5 := by decide
    rw [t_sub (by omega) (by omega), a, b5]
  intro n
  induction n with
  | zero =>
    intro j ad C M H locs ls cells slots hn hj hc hs W0 hS hl
    refine lv_iload S.1 S.2.1 dL_law_23 (lv_at hl 4 rfl) ?_
    refine lv_aload_n S.1 S.2.1 dL_law_25 rfl (lv_at hl 0 rfl) ?_
    refine va_slen S.1 S.2.1 hX hbl hbB hS dL_law_26 ?_
    refine lv_iconst (v := 5) S.1 S.2.1 dL_law_27 (by decide) ?_
    refine lv_isub S.1 S.2.1 dL_law_28 ?_
    refine lv_icmp_gt (tgt := 1087) S.1 S.2.1 dL_law_29 (by decide) (fun _ => ?_) (fun z => absurd ?_ z)
    · refine va_forget (fun q hq => by rw [← hB]; exact hS.2.2 q hq) (W.widen (k := 601024) (n := 7293033) (by omega) (by omega) (ke H ls))
    · show nI L - 5 < nI j
      rw [Int32.lt_iff_toInt_lt, hLt, nI_toInt (by omega)]
      omega
  | succ n ih =>
    intro j ad C M H locs ls cells slots hn hj hc hs W0 hS hl
    refine lv_iload S.1 S.2.1 dL_law_23 (lv_at hl 4 rfl) ?_
    refine lv_aload_n S.1 S.2.1 dL_law_25 rfl (lv_at hl 0 rfl) ?_
    refine va_slen S.1 S.2.1 hX hbl hbB hS dL_law_26 ?_
    refine lv_iconst (v := 5) S.1 S.2.1 dL_law_27 (by decide) ?_
    refine lv_isub S.1 S.2.1 dL_law_28 ?_
    refine lv_icmp_gt (tgt := 1087) S.1 S.2.1 dL_law_29 (by decide) (fun _ => ?_) (fun z => ?_)
    · refine va_forget (fun q hq => by rw [← hB]; exact hS.2.2 q hq) (W.widen (k := 601024) (n := 7293033) (by omega) (by omega) (ke H ls))
    have hi : j + 4 < L := by
      have z2 : ¬ nI L - 5 < nI j := z
      rw [Int32.lt_iff_toInt_lt, hLt, nI_toInt (by omega)] at z2
      omega
    have kk : ∀ (ad1 : Nat → Nat) (C1 M1 : Nat → Nat → Int32) (H1 : Heap) (locs1 : List Loc) (ls1 : Array Slot), jw D cA B ad1 C1 M1 H1 → va_S (fun q => B ≤ q) s.heap H1 locs1 → ad1 0 = ad 0 ∧ ad1 5 = ad 5 ∧ ad1 6 = ad 6 → lv_has ls1 7 [(0, .ref b), (1, .ref (ad 0)), (2, .ref (ad 5)), (3, .ref (ad 6)), (4, .int (nI j))] → W p l e R s m args below meth c H1 locs1 (cells + 12) (slots + 87) Q (F0 m 1081 ls1 []) := by
      intro ad1 C1 M1 H1 locs1 ls1 W1 hS1 ha hl1
      obtain ⟨a0, a5, a6⟩ := ha
      rw [← a0, ← a5, ← a6] at hl1
      refine lv_iinc (k := 4) (v := nI (j + 5)) (lv' := [(4, .int (nI (j + 5))), (0, .ref b), (1, .ref (ad1 0)), (2, .ref (ad1 5)), (3, .ref (ad1 6))]) S.1 S.2.1 dL_law_1081 hl1 rfl (nI_add j 5) (by decide) rfl (fun ls hl => ?_)
      refine lv_goto (tgt := 23) S.1 S.2.1 dL_law_1084 (by decide) ?_
      exact ih (j + 5) ad1 C1 M1 H1 locs1 ls _ _ (by omega) (by omega) (by omega) (by omega) W1 hS1 (lv_sub hl [1, 2, 3, 4, 0] rfl)
    have hcell : cells + 12 ≤ R.cells ∧ slots + 87 ≤ R.slots := ⟨by omega, by omega⟩
    refine lv_aload_n S.1 S.2.1 dL_law_32 rfl (lv_at hl 0 rfl) ?_
    refine lv_iload S.1 S.2.1 dL_law_33 (lv_at hl 4 rfl) ?_
    refine va_sld S.1 S.2.1 hX hbl hbB hS (pk_in j L (by omega) rfl (by omega)) dL_law_35 ?_
    refine lv_bipush (v := 15) S.1 S.2.1 dL_law_36 (by decide) ?_
    refine lv_iand S.1 S.2.1 dL_law_38 ?_
    obtain ⟨v, hv, ev⟩ := pk_andE (xs (nI j).toNatClampNeg) (m := 15) 4 (by decide)
    refine nt_i ev ?_
    have hvt : (nI v).toInt = v := nI_toInt (by omega)
    by_cases h15 : v = 15
    · subst h15
      refine lv_tableOut (tgt := 1081) S.1 S.2.1 dL_law_39 (Or.inr (by decide)) (by decide) ?_
      exact W.widen (k := cells + 12) (n := slots + 87) (by omega) (by omega) (kk ad C M H locs ls W0 hS ⟨rfl, rfl, rfl⟩ hl)
    have hv2 : v = 0 ∨ v = 1 ∨ v = 2 ∨ v = 3 ∨ v = 4 ∨ v = 5 ∨ v = 6 ∨ v = 7 ∨ v = 8 ∨ v = 9 ∨ v = 10 ∨ v = 11 ∨ v = 12 ∨ v = 13 ∨ v = 14 := by omega
    rcases hv2 with rfl | rfl | rfl | rfl | rfl | rfl | rfl | rfl | rfl | rfl | rfl | rfl | rfl | rfl | rfl
    · exact lv_tableIn (off := 73) (tgt := 112) S.1 S.2.1 dL_law_39 (by decide) (by decide) (by decide) (by decide) (lc_skater Z W0 hS hi hl hcell kk)
    · exact lv_tableIn (off := 117) (tgt := 156) S.1 S.2.1 dL_law_39 (by decide) (by decide) (by decide) (by decide) (lc_begin Z W0 hS hi hl hcell kk)
    · exact lv_tableIn (off := 153) (tgt := 192) S.1 S.2.1 dL_law_39 (by decide) (by decide) (by decide) (by decide) (lc_turn Z W0 hS hi hl hcell kk)
    · exact lv_tableIn (off := 209) (tgt := 248) S.1 S.2.1 dL_law_39 (by decide) (by decide) (by decide) (by decide) (lc_jump Z W0 hS hi hl hcell kk)
    · exact lv_tableIn (off := 305) (tgt := 344) S.1 S.2.1 dL_law_39 (by decide) (by decide) (by decide) (by decide) (lc_spin Z W0 hS hi hl hcell kk)
    · exact lv_tableIn (off := 373) (tgt := 412) S.1 S.2.1 dL_law_39 (by decide) (by decide) (by decide) (by decide) (lc_end Z W0 hS hi hl hcell kk)
    · exact lv_tableIn (off := 417) (tgt := 456) S.1 S.2.1 dL_law_39 (by decide) (by decide) (by decide) (by decide) (lc_call Z W0 hS hi hl hcell kk)
    · exact lv_tableIn (off := 497) (tgt := 536) S.1 S.2.1 dL_law_39 (by decide) (by decide) (by decide) (by decide) (lc_grade Z W0 hS hi hl hcell kk)
    · exact lv_tableIn (off := 569) (tgt := 608) S.1 S.2.1 dL_law_39 (by decide) (by decide) (by decide) (by decide) (lc_component Z W0 hS hi hl hcell kk)
    · exact lv_tableIn (off := 641) (tgt := 680) S.1 S.2.1 dL_law_39 (by decide) (by decide) (by decide) (by decide) (lc_value Z W0 hS hi hl hcell kk)
    · exact lv_tableIn (off := 733) (tgt := 772) S.1 S.2.1 dL_law_39 (by decide) (by decide) (by decide) (by decide) (lc_element Z W0 hS hi hl hcell kk)
    · exact lv_tableIn (off := 825) (tgt := 864) S.1 S.2.1 dL_law_39 (by decide) (by decide) (by decide) (by decide) (lc_programme Z W0 hS hi hl hcell kk)
    · exact lv_tableIn (off := 905) (tgt := 944) S.1 S.2.1 dL_law_39 (by decide) (by decide) (by decide) (by decide) (lc_starts Z W0 hS hi hl hcell kk)
    · exact lv_tableIn (off := 973) (tgt := 1012) S.1 S.2.1 dL_law_39 (by decide) (by decide) (by decide) (by decide) (lc_bias Z W0 hS hi hl hcell kk)
    · exact lv_tableIn (off := 1029) (tgt := 1068) S.1 S.2.1 dL_law_39 (by decide) (by decide) (by decide) (by decide) (lc_addsUp Z W0 hS hl hcell kk)
end LL
