/-! p18: the law: sums, ranks, starting orders (printed by wip/p18/gen/law3.py) -/
section STS
variable {F : Nat → Nat → Int32} {en : Nat} {T E : Nat → Int32} {S g : Nat} {cnt : Nat → Nat}
theorem RKF.st_a (R : RKF F en T E) {s : Nat} (hs : s < en) : (if f_X4_howManyRanked F ≤ nI (en - 1 - rkN T E en s 12) then f_X4_unrankedSkater F (nI (en - 1 - rkN T E en s 12) - f_X4_howManyRanked F) else f_X4_skaterOfRank F (f_X4_howManyRanked F - 1 - nI (en - 1 - rkN T E en s 12))) = nI s := by
  have h12 := R.1
  have hb := rk_up (T := T) (E := E) en s h12 hs
  rw [R.many, if_neg (nI_ge (by omega) (by omega)), show nI en - 1 = nI (en - 1) from pk_sub (b := 1) (by omega), pk_sub (by omega), show en - 1 - (en - 1 - rkN T E en s 12) = rkN T E en s 12 by omega]
  exact R.ofRank hs
theorem RKF.st_b (R : RKF F en T E) (V : LV S cnt en g F) (h : en < S) : (if f_X4_howManyRanked F ≤ nI en then f_X4_unrankedSkater F (nI en - f_X4_howManyRanked F) else f_X4_skaterOfRank F (f_X4_howManyRanked F - 1 - nI en)) = nI en := by
  rw [R.many, if_pos (Int32.le_refl _), pk_sub (Nat.le_refl _), Nat.sub_self]
  exact R.first V h
theorem RKF.st_c (R : RKF F en T E) (V : LV S cnt en g F) (h : S ≤ 5) : (if f_X4_howManyRanked F ≤ nI 11 then f_X4_unrankedSkater F (nI 11 - f_X4_howManyRanked F) else f_X4_skaterOfRank F (f_X4_howManyRanked F - 1 - nI 11)) = (-1) := by
  have heg := V.eg
  rw [R.many, if_pos (nI_le (by omega) (by decide)), pk_sub (by omega)]
  exact R.none V (by omega) (by omega)
end STS
section LL3

variable {p : Program} {l : Launch} {e : Env} {R : Room} {s : State} {m : MethodId} {args : Array Value} {below : List Frame} {meth : Method} {c : Code} {Q : State → Prop}
variable {D : va_G} {cA : Nat → ClassId} {B b L o ea Sk : Nat} {xs : Nat → Int32}

set_option maxHeartbeats 8000000 in
set_option maxRecDepth 100000 in
theorem lp_sum (Z : Zw p l s m args c cL_law 19 D cA B R) (KS0 : KS D cA B b L xs s) (hL : L < 2 ^ 31) {MC MS : Nat} (hMC : MC ≤ R.cells ∧ MS ≤ R.slots) (h5 : Sk ≤ 5) {cnt : Nat → Nat} {en g d : Nat} {C0 : Nat → Nat → Int32} {f : Nat → Int32} {v la : Int32} (V0 : LV Sk cnt en g C0) (hes : en + g = Sk) (hf : ∀ i, i < 5 → f i = if i < en then nI (cnt i) else 0) (hd : d < 2) {k : Nat} (hk : k < en) {C : Nat → Nat → Int32} (hr : rr C0 C) (V : LV Sk cnt en g C)
    (ke : ∀ (H : Heap) (locs : List Loc) (ls : Array Slot), lx D cA B o ea Sk cnt C f H → va_S (fun q => B ≤ q) s.heap H locs → lv_has ls 19 [(0, .ref b), (1, .ref o), (2, .int v), (3, .int (nI Sk)), (4, .int la), (5, .int 1), (6, .int (nI en)), (7, .ref ea), (8, .int (nI d)), (9, .int (nI k)), (10, .int (esc C0 d k))] → W p l e R s m args below meth c H locs MC MS Q (F0 m 604 ls [])) :
    ∀ (n : Nat) (i : Nat) (su : Int32) (sp jp : Nat) (H : Heap) (locs : List Loc) (ls : Array Slot) (cells slots : Nat), i + n = cnt k → sp = sb C k i → sp + jp = i → su = it14_X2_elementScoresBy C k d i → cells + 6 * n ≤ MC ∧ slots + 36 * n ≤ MS → lx D cA B o ea Sk cnt C f H → va_S (fun q => B ≤ q) s.heap H locs → lv_has ls 19 [(0, .ref b), (1, .ref o), (2, .int v), (3, .int (nI Sk)), (4, .int la), (5, .int 1), (6, .int (nI en)), (7, .ref ea), (8, .int (nI d)), (9, .int (nI k)), (10, .int su), (11, .int (nI i)), (12, .int (nI sp)), (13, .int (nI jp))] → W p l e R s m args below meth c H locs cells slots Q (F0 m 428 ls []) := by
  obtain ⟨S, K, hls, hR1, hR2⟩ := id Z
  intro n
  induction n with
  | zero =>
    intro i su sp jp H locs ls cells slots hj hsp hjp hsu hc W0 hS hl
    have n12 := V.n12 k (by omega)
    refine lv_iload S.1 S.2.1 dL_law_428 (lv_at hl 11 rfl) ?_
    refine lv_aload S.1 S.2.1 dL_law_430 (lv_at hl 7 rfl) ?_
    refine lv_iload S.1 S.2.1 dL_law_432 (lv_at hl 9 rfl) ?_
    refine la_ald Z W0 (j := k) (by omega) dL_law_434 ?_
    refine nt_i (y := nI (cnt k)) ((hf k (by omega)).trans (if_pos hk)) ?_
    refine lv_icmp_ge (tgt := 604) S.1 S.2.1 dL_law_435 (by decide) (fun _ => ?_) (fun c9 => absurd (nI_le (by omega) (by omega)) c9)
    have hx : su = esc C0 d k := by
      rw [hsu, show i = cnt k by omega, ← es_cnt (V.c52 k (by omega)) 12 n12 (Nat.le_refl _)]
      exact cg_es hr
    rw [hx] at hl
    exact W.widen (k := MC) (n := MS) (by omega) (by omega) (ke H locs ls W0 hS (lv_sub hl [0, 1, 2, 3, 4, 5, 6, 7, 8, 9, 10] rfl))
  | succ n ih =>
    intro i su sp jp H locs ls cells slots hj hsp hjp hsu hc W0 hS hl
    have n12 := V.n12 k (by omega)
    obtain ⟨a1, a2, a3, a4, a5, a6⟩ := V_el V (k := k) (e := i) (d := d) (by omega) (by omega) (by omega)
    refine lv_iload S.1 S.2.1 dL_law_428 (lv_at hl 11 rfl) ?_
    refine lv_aload S.1 S.2.1 dL_law_430 (lv_at hl 7 rfl) ?_
    refine lv_iload S.1 S.2.1 dL_law_432 (lv_at hl 9 rfl) ?_
    refine la_ald Z W0 (j := k) (by omega) dL_law_434 ?_
    refine nt_i (y := nI (cnt k)) ((hf k (by omega)).trans (if_pos hk)) ?_
    refine lv_icmp_ge (tgt := 604) S.1 S.2.1 dL_law_435 (by decide) (fun c9 => absurd c9 (nI_ge (by omega) (by omega))) (fun _ => ?_)
    refine lv_iload S.1 S.2.1 dL_law_438 (lv_at hl 10 rfl) ?_
    refine lv_aload_n S.1 S.2.1 dL_law_440 rfl (lv_at hl 1 rfl) ?_
    refine lv_iload S.1 S.2.1 dL_law_441 (lv_at hl 9 rfl) ?_
    refine lv_iload S.1 S.2.1 dL_law_443 (lv_at hl 11 rfl) ?_
    refine lv_iload S.1 S.2.1 dL_law_445 (lv_at hl 8 rfl) ?_
    refine lv_bipush (v := 7) S.1 S.2.1 dL_law_447 (by decide) ?_
    refine la_element Z W0 hS V a5 hl.1 (Nat.le_of_ble_eq_true rfl) dL_law_449 ⟨by omega, by omega⟩ (fun H locs W0 hS => ?_)
    refine nt_i (y := (f_X1_scoreBy C (12 * k + i) d)) (a6) ?_
    have W0 : lx D cA B o ea Sk cnt C f H := W0
    refine lv_iadd S.1 S.2.1 dL_law_452 ?_
    refine lv_istore (lv' := [(10, .int (su + (f_X1_scoreBy C (12 * k + i) d))), (0, .ref b), (1, .ref o), (2, .int v), (3, .int (nI Sk)), (4, .int la), (5, .int 1), (6, .int (nI en)), (7, .ref ea), (8, .int (nI d)), (9, .int (nI k)), (11, .int (nI i)), (12, .int (nI sp)), (13, .int (nI jp))]) S.1 S.2.1 dL_law_453 hl (by decide) rfl (fun ls hl => ?_)
    refine lv_iload S.1 S.2.1 dL_law_455 (lv_at hl 12 rfl) ?_
    refine lv_aload_n S.1 S.2.1 dL_law_457 rfl (lv_at hl 2 rfl) ?_
    refine lv_iload S.1 S.2.1 dL_law_458 (lv_at hl 10 rfl) ?_
    refine lv_iload S.1 S.2.1 dL_law_460 (lv_at hl 11 rfl) ?_
    refine lv_iload S.1 S.2.1 dL_law_462 (lv_at hl 9 rfl) ?_
    refine lv_iconst (v := 0) S.1 S.2.1 dL_law_464 (by decide) ?_
    refine la_element Z W0 hS V a1 hl.1 (Nat.le_of_ble_eq_true rfl) dL_law_465 ⟨by omega, by omega⟩ (fun H locs W0 hS => ?_)
    refine nt_i (y := (C (80 + (12 * k + i)) 0)) (a2) ?_
    have W0 : lx D cA B o ea Sk cnt C f H := W0
    refine lv_bipush (v := 6) S.1 S.2.1 dL_law_468 (by decide) ?_
    refine lv_icmp_ne (tgt := 477) S.1 S.2.1 dL_law_470 (by decide) (fun c470_1 => ?_) (fun c470_1 => ?_)
    · refine lv_iconst (v := 0) S.1 S.2.1 dL_law_477 (by decide) ?_
      refine lv_iadd S.1 S.2.1 dL_law_478 ?_
      refine nt_i (y := nI (sp + 0)) (nI_add sp 0) ?_
      refine lv_istore (lv' := [(12, .int (nI (sp + 0))), (10, .int (su + (f_X1_scoreBy C (12 * k + i) d))), (0, .ref b), (1, .ref o), (2, .int v), (3, .int (nI Sk)), (4, .int la), (5, .int 1), (6, .int (nI en)), (7, .ref ea), (8, .int (nI d)), (9, .int (nI k)), (11, .int (nI i)), (13, .int (nI jp))]) S.1 S.2.1 dL_law_479 hl (by decide) rfl (fun ls hl => ?_)
      refine lv_iload S.1 S.2.1 dL_law_481 (lv_at hl 13 rfl) ?_
      refine lv_aload_n S.1 S.2.1 dL_law_483 rfl (lv_at hl 3 rfl) ?_
      refine lv_iload S.1 S.2.1 dL_law_484 (lv_at hl 11 rfl) ?_
      refine lv_iload S.1 S.2.1 dL_law_486 (lv_at hl 12 rfl) ?_
      refine lv_iload S.1 S.2.1 dL_law_488 (lv_at hl 10 rfl) ?_
      refine lv_iconst (v := 0) S.1 S.2.1 dL_law_490 (by decide) ?_
      refine la_element Z W0 hS V a1 hl.1 (Nat.le_of_ble_eq_true rfl) dL_law_491 ⟨by omega, by omega⟩ (fun H locs W0 hS => ?_)
      refine nt_i (y := (C (80 + (12 * k + i)) 0)) (a2) ?_
      have W0 : lx D cA B o ea Sk cnt C f H := W0
      refine lv_bipush (v := 6) S.1 S.2.1 dL_law_494 (by decide) ?_
      refine lv_icmp_ne (tgt := 503) S.1 S.2.1 dL_law_496 (by decide) (fun _ => ?_) (fun c9 => absurd c9 (c470_1))
      refine lv_iconst (v := 1) S.1 S.2.1 dL_law_503 (by decide) ?_
      refine lv_iadd S.1 S.2.1 dL_law_504 ?_
      refine nt_i (y := nI (jp + 1)) (nI_add jp 1) ?_
      refine lv_istore (lv' := [(13, .int (nI (jp + 1))), (12, .int (nI (sp + 0))), (10, .int (su + (f_X1_scoreBy C (12 * k + i) d))), (0, .ref b), (1, .ref o), (2, .int v), (3, .int (nI Sk)), (4, .int la), (5, .int 1), (6, .int (nI en)), (7, .ref ea), (8, .int (nI d)), (9, .int (nI k)), (11, .int (nI i))]) S.1 S.2.1 dL_law_505 hl (by decide) rfl (fun ls hl => ?_)
      refine lv_aload_n S.1 S.2.1 dL_law_507 rfl (lv_at hl 4 rfl) ?_
      refine lv_iload S.1 S.2.1 dL_law_508 (lv_at hl 12 rfl) ?_
      refine lv_iload S.1 S.2.1 dL_law_510 (lv_at hl 13 rfl) ?_
      refine lv_iload S.1 S.2.1 dL_law_512 (lv_at hl 11 rfl) ?_
      refine lv_iconst (v := 0) S.1 S.2.1 dL_law_514 (by decide) ?_
      refine la_element Z W0 hS V a1 hl.1 (Nat.le_of_ble_eq_true rfl) dL_law_515 ⟨by omega, by omega⟩ (fun H locs W0 hS => ?_)
      refine nt_i (y := (C (80 + (12 * k + i)) 0)) (a2) ?_
      have W0 : lx D cA B o ea Sk cnt C f H := W0
      refine lv_bipush (v := 6) S.1 S.2.1 dL_law_518 (by decide) ?_
      refine lv_icmp_ne (tgt := 537) S.1 S.2.1 dL_law_520 (by decide) (fun _ => ?_) (fun c9 => absurd c9 (c470_1))
      refine lv_iload S.1 S.2.1 dL_law_537 (lv_at hl 0 rfl) ?_
      refine lv_bipush (v := 7) S.1 S.2.1 dL_law_539 (by decide) ?_
      refine lv_icmp_gt (tgt := 548) S.1 S.2.1 dL_law_541 (by decide) (fun c541_2 => ?_) (fun c541_2 => ?_)
      · refine lv_iconst (v := 0) S.1 S.2.1 dL_law_548 (by decide) ?_
        refine lv_istore (lv' := [(14, .int 0), (13, .int (nI (jp + 1))), (12, .int (nI (sp + 0))), (10, .int (su + (f_X1_scoreBy C (12 * k + i) d))), (0, .ref b), (1, .ref o), (2, .int v), (3, .int (nI Sk)), (4, .int la), (5, .int 1), (6, .int (nI en)), (7, .ref ea), (8, .int (nI d)), (9, .int (nI k)), (11, .int (nI i))]) S.1 S.2.1 dL_law_549 hl (by decide) rfl (fun ls hl => ?_)
        refine lv_iload S.1 S.2.1 dL_law_551 (lv_at hl 9 rfl) ?_
        refine lv_if_eq (tgt := 595) S.1 S.2.1 dL_law_553 (by decide) (fun c9 => absurd c9 (by decide)) (fun _ => ?_)
        refine lv_iload S.1 S.2.1 dL_law_556 (lv_at hl 0 rfl) ?_
        refine lv_if_ne (tgt := 591) S.1 S.2.1 dL_law_558 (by decide) (fun c9 => absurd (by decide) c9) (fun _ => ?_)
        refine lv_aload_n S.1 S.2.1 dL_law_561 rfl (lv_at hl 5 rfl) ?_
        refine lv_iload S.1 S.2.1 dL_law_562 (lv_at hl 13 rfl) ?_
        refine lv_iload S.1 S.2.1 dL_law_564 (lv_at hl 14 rfl) ?_
        refine lv_iload S.1 S.2.1 dL_law_566 (lv_at hl 12 rfl) ?_
        refine lv_bipush (v := 6) S.1 S.2.1 dL_law_568 (by decide) ?_
        have hun := (V.el k (by omega) i (by omega)).2 c470_1 (by have := (nI_ltI (a := 7) (by decide) (by omega)).mp c541_2; omega)
        refine la_element Z W0 hS V a3 hl.1 (Nat.le_of_ble_eq_true rfl) dL_law_570 ⟨by omega, by omega⟩ (fun H locs W0 hS => ?_)
        refine nt_i (y := 0) (a4.trans (base_0 hun)) ?_
        have W0 : lx D cA B o ea Sk cnt C f H := W0
        refine lv_if_ne (tgt := 595) S.1 S.2.1 dL_law_573 (by decide) (fun c9 => absurd (by decide) c9) (fun _ => ?_)
        refine lv_aload_n S.1 S.2.1 dL_law_576 rfl (lv_at hl 5 rfl) ?_
        refine lv_iload S.1 S.2.1 dL_law_577 (lv_at hl 13 rfl) ?_
        refine lv_iload S.1 S.2.1 dL_law_579 (lv_at hl 14 rfl) ?_
        refine lv_iload S.1 S.2.1 dL_law_581 (lv_at hl 12 rfl) ?_
        refine lv_bipush (v := 7) S.1 S.2.1 dL_law_583 (by decide) ?_
        refine la_element Z W0 hS V a5 hl.1 (Nat.le_of_ble_eq_true rfl) dL_law_585 ⟨by omega, by omega⟩ (fun H locs W0 hS => ?_)
        refine nt_i (y := 0) (a6.trans (score_0 hun)) ?_
        have W0 : lx D cA B o ea Sk cnt C f H := W0
        refine lv_if_ne (tgt := 595) S.1 S.2.1 dL_law_588 (by decide) (fun c9 => absurd (by decide) c9) (fun _ => ?_)
        refine lv_iconst (v := 1) S.1 S.2.1 dL_law_591 (by decide) ?_
        refine lv_goto (tgt := 596) S.1 S.2.1 dL_law_592 (by decide) ?_
        refine lv_istore (lv' := [(5, .int 1), (14, .int 0), (13, .int (nI (jp + 1))), (12, .int (nI (sp + 0))), (10, .int (su + (f_X1_scoreBy C (12 * k + i) d))), (0, .ref b), (1, .ref o), (2, .int v), (3, .int (nI Sk)), (4, .int la), (6, .int (nI en)), (7, .ref ea), (8, .int (nI d)), (9, .int (nI k)), (11, .int (nI i))]) S.1 S.2.1 dL_law_596 hl (by decide) rfl (fun ls hl => ?_)
        refine lv_iinc (v := nI (i + 1)) (lv' := [(11, .int (nI (i + 1))), (5, .int 1), (14, .int 0), (13, .int (nI (jp + 1))), (12, .int (nI (sp + 0))), (10, .int (su + (f_X1_scoreBy C (12 * k + i) d))), (0, .ref b), (1, .ref o), (2, .int v), (3, .int (nI Sk)), (4, .int la), (6, .int (nI en)), (7, .ref ea), (8, .int (nI d)), (9, .int (nI k))]) S.1 S.2.1 dL_law_598 hl (k := 14) rfl (nI_add i 1) (by decide) rfl (fun ls hl => ?_)
        refine lv_goto (tgt := 428) S.1 S.2.1 dL_law_601 (by decide) ?_
        exact ih (i + 1) _ (sp + 0) (jp + 1) H locs ls _ _ (by omega) (by rw [sb, if_neg c470_1, hsp] <;> rfl) (by omega) (by rw [it14_X2_elementScoresBy, if_neg ((V.c52 k (by omega) i (by omega)).mpr (by omega)), hsu]) ⟨by omega, by omega⟩ W0 hS (lv_sub hl [6, 7, 8, 9, 10, 1, 11, 12, 13, 14, 5, 0, 4, 3] rfl)
      · refine lv_iconst (v := 1) S.1 S.2.1 dL_law_544 (by decide) ?_
        refine lv_goto (tgt := 549) S.1 S.2.1 dL_law_545 (by decide) ?_
        refine lv_istore (lv' := [(14, .int 1), (13, .int (nI (jp + 1))), (12, .int (nI (sp + 0))), (10, .int (su + (f_X1_scoreBy C (12 * k + i) d))), (0, .ref b), (1, .ref o), (2, .int v), (3, .int (nI Sk)), (4, .int la), (5, .int 1), (6, .int (nI en)), (7, .ref ea), (8, .int (nI d)), (9, .int (nI k)), (11, .int (nI i))]) S.1 S.2.1 dL_law_549 hl (by decide) rfl (fun ls hl => ?_)
        refine lv_iload S.1 S.2.1 dL_law_551 (lv_at hl 9 rfl) ?_
        refine lv_if_eq (tgt := 595) S.1 S.2.1 dL_law_553 (by decide) (fun c9 => absurd c9 (by decide)) (fun _ => ?_)
        refine lv_iload S.1 S.2.1 dL_law_556 (lv_at hl 0 rfl) ?_
        refine lv_if_ne (tgt := 591) S.1 S.2.1 dL_law_558 (by decide) (fun _ => ?_) (fun c9 => absurd c9 (by decide))
        refine lv_iconst (v := 1) S.1 S.2.1 dL_law_591 (by decide) ?_
        refine lv_goto (tgt := 596) S.1 S.2.1 dL_law_592 (by decide) ?_
        refine lv_istore (lv' := [(5, .int 1), (14, .int 1), (13, .int (nI (jp + 1))), (12, .int (nI (sp + 0))), (10, .int (su + (f_X1_scoreBy C (12 * k + i) d))), (0, .ref b), (1, .ref o), (2, .int v), (3, .int (nI Sk)), (4, .int la), (6, .int (nI en)), (7, .ref ea), (8, .int (nI d)), (9, .int (nI k)), (11, .int (nI i))]) S.1 S.2.1 dL_law_596 hl (by decide) rfl (fun ls hl => ?_)
        refine lv_iinc (v := nI (i + 1)) (lv' := [(11, .int (nI (i + 1))), (5, .int 1), (14, .int 1), (13, .int (nI (jp + 1))), (12, .int (nI (sp + 0))), (10, .int (su + (f_X1_scoreBy C (12 * k + i) d))), (0, .ref b), (1, .ref o), (2, .int v), (3, .int (nI Sk)), (4, .int la), (6, .int (nI en)), (7, .ref ea), (8, .int (nI d)), (9, .int (nI k))]) S.1 S.2.1 dL_law_598 hl (k := 14) rfl (nI_add i 1) (by decide) rfl (fun ls hl => ?_)
        refine lv_goto (tgt := 428) S.1 S.2.1 dL_law_601 (by decide) ?_
        exact ih (i + 1) _ (sp + 0) (jp + 1) H locs ls _ _ (by omega) (by rw [sb, if_neg c470_1, hsp] <;> rfl) (by omega) (by rw [it14_X2_elementScoresBy, if_neg ((V.c52 k (by omega) i (by omega)).mpr (by omega)), hsu]) ⟨by omega, by omega⟩ W0 hS (lv_sub hl [6, 7, 8, 9, 10, 1, 11, 12, 13, 14, 5, 0, 4, 3] rfl)
    · refine lv_iconst (v := 1) S.1 S.2.1 dL_law_473 (by decide) ?_
      refine lv_goto (tgt := 478) S.1 S.2.1 dL_law_474 (by decide) ?_
      refine lv_iadd S.1 S.2.1 dL_law_478 ?_
      refine nt_i (y := nI (sp + 1)) (nI_add sp 1) ?_
      refine lv_istore (lv' := [(12, .int (nI (sp + 1))), (10, .int (su + (f_X1_scoreBy C (12 * k + i) d))), (0, .ref b), (1, .ref o), (2, .int v), (3, .int (nI Sk)), (4, .int la), (5, .int 1), (6, .int (nI en)), (7, .ref ea), (8, .int (nI d)), (9, .int (nI k)), (11, .int (nI i)), (13, .int (nI jp))]) S.1 S.2.1 dL_law_479 hl (by decide) rfl (fun ls hl => ?_)
      refine lv_iload S.1 S.2.1 dL_law_481 (lv_at hl 13 rfl) ?_
      refine lv_aload_n S.1 S.2.1 dL_law_483 rfl (lv_at hl 3 rfl) ?_
      refine lv_iload S.1 S.2.1 dL_law_484 (lv_at hl 11 rfl) ?_
      refine lv_iload S.1 S.2.1 dL_law_486 (lv_at hl 12 rfl) ?_
      refine lv_iload S.1 S.2.1 dL_law_488 (lv_at hl 10 rfl) ?_
      refine lv_iconst (v := 0) S.1 S.2.1 dL_law_490 (by decide) ?_
      refine la_element Z W0 hS V a1 hl.1 (Nat.le_of_ble_eq_true rfl) dL_law_491 ⟨by omega, by omega⟩ (fun H locs W0 hS => ?_)
      refine nt_i (y := (C (80 + (12 * k + i)) 0)) (a2) ?_
      have W0 : lx D cA B o ea Sk cnt C f H := W0
      refine lv_bipush (v := 6) S.1 S.2.1 dL_law_494 (by decide) ?_
      refine lv_icmp_ne (tgt := 503) S.1 S.2.1 dL_law_496 (by decide) (fun c9 => absurd (c470_1) c9) (fun _ => ?_)
      refine lv_iconst (v := 0) S.1 S.2.1 dL_law_499 (by decide) ?_
      refine lv_goto (tgt := 504) S.1 S.2.1 dL_law_500 (by decide) ?_
      refine lv_iadd S.1 S.2.1 dL_law_504 ?_
      refine nt_i (y := nI (jp + 0)) (nI_add jp 0) ?_
      refine lv_istore (lv' := [(13, .int (nI (jp + 0))), (12, .int (nI (sp + 1))), (10, .int (su + (f_X1_scoreBy C (12 * k + i) d))), (0, .ref b), (1, .ref o), (2, .int v), (3, .int (nI Sk)), (4, .int la), (5, .int 1), (6, .int (nI en)), (7, .ref ea), (8, .int (nI d)), (9, .int (nI k)), (11, .int (nI i))]) S.1 S.2.1 dL_law_505 hl (by decide) rfl (fun ls hl => ?_)
      refine lv_aload_n S.1 S.2.1 dL_law_507 rfl (lv_at hl 4 rfl) ?_
      refine lv_iload S.1 S.2.1 dL_law_508 (lv_at hl 12 rfl) ?_
      refine lv_iload S.1 S.2.1 dL_law_510 (lv_at hl 13 rfl) ?_
      refine lv_iload S.1 S.2.1 dL_law_512 (lv_at hl 11 rfl) ?_
      refine lv_iconst (v := 0) S.1 S.2.1 dL_law_514 (by decide) ?_
      refine la_element Z W0 hS V a1 hl.1 (Nat.le_of_ble_eq_true rfl) dL_law_515 ⟨by omega, by omega⟩ (fun H locs W0 hS => ?_)
      refine nt_i (y := (C (80 + (12 * k + i)) 0)) (a2) ?_
      have W0 : lx D cA B o ea Sk cnt C f H := W0
      refine lv_bipush (v := 6) S.1 S.2.1 dL_law_518 (by decide) ?_
      refine lv_icmp_ne (tgt := 537) S.1 S.2.1 dL_law_520 (by decide) (fun c9 => absurd (c470_1) c9) (fun _ => ?_)
      refine lv_iload S.1 S.2.1 dL_law_523 (lv_at hl 1 rfl) ?_
      refine lv_iconst (v := 3) S.1 S.2.1 dL_law_525 (by decide) ?_
      refine lv_icmp_gt (tgt := 533) S.1 S.2.1 dL_law_526 (by decide) (fun c526_3 => ?_) (fun c526_3 => ?_)
      · refine lv_iconst (v := 0) S.1 S.2.1 dL_law_533 (by decide) ?_
        refine lv_goto (tgt := 549) S.1 S.2.1 dL_law_534 (by decide) ?_
        refine lv_istore (lv' := [(14, .int 0), (13, .int (nI (jp + 0))), (12, .int (nI (sp + 1))), (10, .int (su + (f_X1_scoreBy C (12 * k + i) d))), (0, .ref b), (1, .ref o), (2, .int v), (3, .int (nI Sk)), (4, .int la), (5, .int 1), (6, .int (nI en)), (7, .ref ea), (8, .int (nI d)), (9, .int (nI k)), (11, .int (nI i))]) S.1 S.2.1 dL_law_549 hl (by decide) rfl (fun ls hl => ?_)
        refine lv_iload S.1 S.2.1 dL_law_551 (lv_at hl 9 rfl) ?_
        refine lv_if_eq (tgt := 595) S.1 S.2.1 dL_law_553 (by decide) (fun c9 => absurd c9 (by decide)) (fun _ => ?_)
        refine lv_iload S.1 S.2.1 dL_law_556 (lv_at hl 0 rfl) ?_
        refine lv_if_ne (tgt := 591) S.1 S.2.1 dL_law_558 (by decide) (fun c9 => absurd (by decide) c9) (fun _ => ?_)
        refine lv_aload_n S.1 S.2.1 dL_law_561 rfl (lv_at hl 5 rfl) ?_
        refine lv_iload S.1 S.2.1 dL_law_562 (lv_at hl 13 rfl) ?_
        refine lv_iload S.1 S.2.1 dL_law_564 (lv_at hl 14 rfl) ?_
        refine lv_iload S.1 S.2.1 dL_law_566 (lv_at hl 12 rfl) ?_
        refine lv_bipush (v := 6) S.1 S.2.1 dL_law_568 (by decide) ?_
        have hun := (V.el k (by omega) i (by omega)).1 c470_1 (by have := (nI_ltI (a := 3) (by decide) (by omega)).mp c526_3; omega)
        refine la_element Z W0 hS V a3 hl.1 (Nat.le_of_ble_eq_true rfl) dL_law_570 ⟨by omega, by omega⟩ (fun H locs W0 hS => ?_)
        refine nt_i (y := 0) (a4.trans (base_0 hun)) ?_
        have W0 : lx D cA B o ea Sk cnt C f H := W0
        refine lv_if_ne (tgt := 595) S.1 S.2.1 dL_law_573 (by decide) (fun c9 => absurd (by decide) c9) (fun _ => ?_)
        refine lv_aload_n S.1 S.2.1 dL_law_576 rfl (lv_at hl 5 rfl) ?_
        refine lv_iload S.1 S.2.1 dL_law_577 (lv_at hl 13 rfl) ?_
        refine lv_iload S.1 S.2.1 dL_law_579 (lv_at hl 14 rfl) ?_
        refine lv_iload S.1 S.2.1 dL_law_581 (lv_at hl 12 rfl) ?_
        refine lv_bipush (v := 7) S.1 S.2.1 dL_law_583 (by decide) ?_
        refine la_element Z W0 hS V a5 hl.1 (Nat.le_of_ble_eq_true rfl) dL_law_585 ⟨by omega, by omega⟩ (fun H locs W0 hS => ?_)
        refine nt_i (y := 0) (a6.trans (score_0 hun)) ?_
        have W0 : lx D cA B o ea Sk cnt C f H := W0
        refine lv_if_ne (tgt := 595) S.1 S.2.1 dL_law_588 (by decide) (fun c9 => absurd (by decide) c9) (fun _ => ?_)
        refine lv_iconst (v := 1) S.1 S.2.1 dL_law_591 (by decide) ?_
        refine lv_goto (tgt := 596) S.1 S.2.1 dL_law_592 (by decide) ?_
        refine lv_istore (lv' := [(5, .int 1), (14, .int 0), (13, .int (nI (jp + 0))), (12, .int (nI (sp + 1))), (10, .int (su + (f_X1_scoreBy C (12 * k + i) d))), (0, .ref b), (1, .ref o), (2, .int v), (3, .int (nI Sk)), (4, .int la), (6, .int (nI en)), (7, .ref ea), (8, .int (nI d)), (9, .int (nI k)), (11, .int (nI i))]) S.1 S.2.1 dL_law_596 hl (by decide) rfl (fun ls hl => ?_)
        refine lv_iinc (v := nI (i + 1)) (lv' := [(11, .int (nI (i + 1))), (5, .int 1), (14, .int 0), (13, .int (nI (jp + 0))), (12, .int (nI (sp + 1))), (10, .int (su + (f_X1_scoreBy C (12 * k + i) d))), (0, .ref b), (1, .ref o), (2, .int v), (3, .int (nI Sk)), (4, .int la), (6, .int (nI en)), (7, .ref ea), (8, .int (nI d)), (9, .int (nI k))]) S.1 S.2.1 dL_law_598 hl (k := 14) rfl (nI_add i 1) (by decide) rfl (fun ls hl => ?_)
        refine lv_goto (tgt := 428) S.1 S.2.1 dL_law_601 (by decide) ?_
        exact ih (i + 1) _ (sp + 1) (jp + 0) H locs ls _ _ (by omega) (by rw [sb, if_pos c470_1, hsp] <;> rfl) (by omega) (by rw [it14_X2_elementScoresBy, if_neg ((V.c52 k (by omega) i (by omega)).mpr (by omega)), hsu]) ⟨by omega, by omega⟩ W0 hS (lv_sub hl [6, 7, 8, 9, 10, 1, 11, 12, 13, 14, 5, 0, 4, 3] rfl)
      · refine lv_iconst (v := 1) S.1 S.2.1 dL_law_529 (by decide) ?_
        refine lv_goto (tgt := 549) S.1 S.2.1 dL_law_530 (by decide) ?_
        refine lv_istore (lv' := [(14, .int 1), (13, .int (nI (jp + 0))), (12, .int (nI (sp + 1))), (10, .int (su + (f_X1_scoreBy C (12 * k + i) d))), (0, .ref b), (1, .ref o), (2, .int v), (3, .int (nI Sk)), (4, .int la), (5, .int 1), (6, .int (nI en)), (7, .ref ea), (8, .int (nI d)), (9, .int (nI k)), (11, .int (nI i))]) S.1 S.2.1 dL_law_549 hl (by decide) rfl (fun ls hl => ?_)
        refine lv_iload S.1 S.2.1 dL_law_551 (lv_at hl 9 rfl) ?_
        refine lv_if_eq (tgt := 595) S.1 S.2.1 dL_law_553 (by decide) (fun c9 => absurd c9 (by decide)) (fun _ => ?_)
        refine lv_iload S.1 S.2.1 dL_law_556 (lv_at hl 0 rfl) ?_
        refine lv_if_ne (tgt := 591) S.1 S.2.1 dL_law_558 (by decide) (fun _ => ?_) (fun c9 => absurd c9 (by decide))
        refine lv_iconst (v := 1) S.1 S.2.1 dL_law_591 (by decide) ?_
        refine lv_goto (tgt := 596) S.1 S.2.1 dL_law_592 (by decide) ?_
        refine lv_istore (lv' := [(5, .int 1), (14, .int 1), (13, .int (nI (jp + 0))), (12, .int (nI (sp + 1))), (10, .int (su + (f_X1_scoreBy C (12 * k + i) d))), (0, .ref b), (1, .ref o), (2, .int v), (3, .int (nI Sk)), (4, .int la), (6, .int (nI en)), (7, .ref ea), (8, .int (nI d)), (9, .int (nI k)), (11, .int (nI i))]) S.1 S.2.1 dL_law_596 hl (by decide) rfl (fun ls hl => ?_)
        refine lv_iinc (v := nI (i + 1)) (lv' := [(11, .int (nI (i + 1))), (5, .int 1), (14, .int 1), (13, .int (nI (jp + 0))), (12, .int (nI (sp + 1))), (10, .int (su + (f_X1_scoreBy C (12 * k + i) d))), (0, .ref b), (1, .ref o), (2, .int v), (3, .int (nI Sk)), (4, .int la), (6, .int (nI en)), (7, .ref ea), (8, .int (nI d)), (9, .int (nI k))]) S.1 S.2.1 dL_law_598 hl (k := 14) rfl (nI_add i 1) (by decide) rfl (fun ls hl => ?_)
        refine lv_goto (tgt := 428) S.1 S.2.1 dL_law_601 (by decide) ?_
        exact ih (i + 1) _ (sp + 1) (jp + 0) H locs ls _ _ (by omega) (by rw [sb, if_pos c470_1, hsp] <;> rfl) (by omega) (by rw [it14_X2_elementScoresBy, if_neg ((V.c52 k (by omega) i (by omega)).mpr (by omega)), hsu]) ⟨by omega, by omega⟩ W0 hS (lv_sub hl [6, 7, 8, 9, 10, 1, 11, 12, 13, 14, 5, 0, 4, 3] rfl)

set_option maxHeartbeats 8000000 in
set_option maxRecDepth 100000 in
theorem lp_cmp (Z : Zw p l s m args c cL_law 19 D cA B R) (KS0 : KS D cA B b L xs s) (hL : L < 2 ^ 31) {MC MS : Nat} (hMC : MC ≤ R.cells ∧ MS ≤ R.slots) (h5 : Sk ≤ 5) {cnt : Nat → Nat} {en g d : Nat} {C0 : Nat → Nat → Int32} {f : Nat → Int32} {v la : Int32} (V0 : LV Sk cnt en g C0) (hes : en + g = Sk) (hf : ∀ i, i < 5 → f i = if i < en then nI (cnt i) else 0) (hd : d < 2) {k : Nat} (hk : k < en)
    (ke : ∀ (C : Nat → Nat → Int32) (H : Heap) (locs : List Loc) (ls : Array Slot), lx D cA B o ea Sk cnt C f H → rr C0 C → LV Sk cnt en g C → va_S (fun q => B ≤ q) s.heap H locs → lv_has ls 19 [(0, .ref b), (1, .ref o), (2, .int v), (3, .int (nI Sk)), (4, .int la), (5, .int 1), (6, .int (nI en)), (7, .ref ea), (8, .int (nI d)), (9, .int (nI k))] → W p l e R s m args below meth c H locs MC MS Q (F0 m 934 ls [])) :
    ∀ (n : Nat) (ot : Nat) (C : Nat → Nat → Int32) (H : Heap) (locs : List Loc) (ls : Array Slot) (cells slots : Nat), ot + n = en → cells + 8 * n ≤ MC ∧ slots + 48 * n ≤ MS → lx D cA B o ea Sk cnt C f H → rr C0 C → LV Sk cnt en g C → va_S (fun q => B ≤ q) s.heap H locs → lv_has ls 19 [(0, .ref b), (1, .ref o), (2, .int v), (3, .int (nI Sk)), (4, .int la), (5, .int 1), (6, .int (nI en)), (7, .ref ea), (8, .int (nI d)), (9, .int (nI k)), (15, .int (nI (rkN (tot C0 d) (esc C0 d) en k 12))), (16, .int (nI ot))] → W p l e R s m args below meth c H locs cells slots Q (F0 m 776 ls []) := by
  obtain ⟨S, K, hls, hR1, hR2⟩ := id Z
  intro n
  induction n with
  | zero =>
    intro ot C H locs ls cells slots hj hc W0 hr V hS hl
    refine lv_iload S.1 S.2.1 dL_law_776 (lv_at hl 11 rfl) ?_
    refine lv_iload S.1 S.2.1 dL_law_778 (lv_at hl 6 rfl) ?_
    refine lv_icmp_ge (tgt := 934) S.1 S.2.1 dL_law_780 (by decide) (fun _ => ?_) (fun c9 => absurd (nI_le (by omega) (by omega)) c9)
    exact W.widen (k := MC) (n := MS) (by omega) (by omega) (ke C H locs ls W0 hr V hS (lv_sub hl [0, 1, 2, 3, 4, 5, 6, 7, 8, 9] rfl))
  | succ n ih =>
    intro ot C H locs ls cells slots hj hc W0 hr V hS hl
    have h12 : en ≤ 12 := by omega
    have hot : ot < en := by omega
    have hb1 := rk_up (T := tot C0 d) (E := esc C0 d) en k h12 hk
    have hb2 := rk_up (T := tot C0 d) (E := esc C0 d) en ot h12 hot
    refine lv_iload S.1 S.2.1 dL_law_776 (lv_at hl 11 rfl) ?_
    refine lv_iload S.1 S.2.1 dL_law_778 (lv_at hl 6 rfl) ?_
    refine lv_icmp_ge (tgt := 934) S.1 S.2.1 dL_law_780 (by decide) (fun c9 => absurd c9 (nI_ge (by omega) (by omega))) (fun _ => ?_)
    refine lv_iload S.1 S.2.1 dL_law_783 (lv_at hl 5 rfl) ?_
    refine lv_if_eq (tgt := 934) S.1 S.2.1 dL_law_785 (by decide) (fun c9 => absurd c9 (by decide)) (fun _ => ?_)
    refine lv_iload S.1 S.2.1 dL_law_788 (lv_at hl 9 rfl) ?_
    refine lv_iload S.1 S.2.1 dL_law_790 (lv_at hl 6 rfl) ?_
    refine lv_icmp_ge (tgt := 934) S.1 S.2.1 dL_law_792 (by decide) (fun c9 => absurd c9 (nI_ge hk (by omega))) (fun _ => ?_)
    refine lv_aload_n S.1 S.2.1 dL_law_795 rfl (lv_at hl 1 rfl) ?_
    refine lv_iload S.1 S.2.1 dL_law_796 (lv_at hl 11 rfl) ?_
    refine lv_iload S.1 S.2.1 dL_law_798 (lv_at hl 8 rfl) ?_
    refine lv_iconst (v := 3) S.1 S.2.1 dL_law_800 (by decide) ?_
    obtain ⟨u1, u2, u3⟩ := (V_pr V (k := ot) (d := d) (by omega) (by omega)).2.2.2.1
    refine la_programme Z W0 hS V u1 hl.1 (Nat.le_of_ble_eq_true rfl) dL_law_801 ⟨by omega, by omega⟩ (fun H locs W0 hS => ?_)
    refine nt_i (y := (tot C0 d ot)) (u2.trans (cg_total hr d ot)) ?_
    have W0 : lx D cA B o ea Sk cnt C f H := by rw [← u3]; exact W0
    refine lv_istore (lv' := [(17, .int (tot C0 d ot)), (0, .ref b), (1, .ref o), (2, .int v), (3, .int (nI Sk)), (4, .int la), (5, .int 1), (6, .int (nI en)), (7, .ref ea), (8, .int (nI d)), (9, .int (nI k)), (15, .int (nI (rkN (tot C0 d) (esc C0 d) en k 12))), (16, .int (nI ot))]) S.1 S.2.1 dL_law_804 hl (by decide) rfl (fun ls hl => ?_)
    refine lv_aload_n S.1 S.2.1 dL_law_806 rfl (lv_at hl 2 rfl) ?_
    refine lv_iload S.1 S.2.1 dL_law_807 (lv_at hl 10 rfl) ?_
    refine lv_iload S.1 S.2.1 dL_law_809 (lv_at hl 9 rfl) ?_
    refine lv_iconst (v := 3) S.1 S.2.1 dL_law_811 (by decide) ?_
    obtain ⟨u1, u2, u3⟩ := (V_pr V (k := k) (d := d) (by omega) (by omega)).2.2.2.1
    refine la_programme Z W0 hS V u1 hl.1 (Nat.le_of_ble_eq_true rfl) dL_law_812 ⟨by omega, by omega⟩ (fun H locs W0 hS => ?_)
    refine nt_i (y := (tot C0 d k)) (u2.trans (cg_total hr d k)) ?_
    have W0 : lx D cA B o ea Sk cnt C f H := by rw [← u3]; exact W0
    refine lv_iload S.1 S.2.1 dL_law_815 (lv_at hl 0 rfl) ?_
    refine lv_icmp_gt (tgt := 883) S.1 S.2.1 dL_law_817 (by decide) (fun c817_1 => ?_) (fun c817_1 => ?_)
    · refine lv_iconst (v := 1) S.1 S.2.1 dL_law_883 (by decide) ?_
      refine lv_goto (tgt := 888) S.1 S.2.1 dL_law_884 (by decide) ?_
      have e1 := Int32.lt_iff_toInt_lt.mp c817_1
      have hA : aP (tot C0 d) (esc C0 d) k ot := by
        unfold aP
        omega
      refine lv_istore (lv' := [(18, .int 1), (17, .int (tot C0 d ot)), (0, .ref b), (1, .ref o), (2, .int v), (3, .int (nI Sk)), (4, .int la), (5, .int 1), (6, .int (nI en)), (7, .ref ea), (8, .int (nI d)), (9, .int (nI k)), (15, .int (nI (rkN (tot C0 d) (esc C0 d) en k 12))), (16, .int (nI ot))]) S.1 S.2.1 dL_law_888 hl (by decide) rfl (fun ls hl => ?_)
      refine lv_iload S.1 S.2.1 dL_law_890 (lv_at hl 13 rfl) ?_
      refine lv_iload S.1 S.2.1 dL_law_892 (lv_at hl 11 rfl) ?_
      refine lv_icmp_eq (tgt := 921) S.1 S.2.1 dL_law_894 (by decide) (fun c894_2 => ?_) (fun c894_2 => ?_)
      · refine lv_iconst (v := 1) S.1 S.2.1 dL_law_921 (by decide) ?_
        refine lv_goto (tgt := 926) S.1 S.2.1 dL_law_922 (by decide) ?_
        refine lv_istore (lv' := [(5, .int 1), (18, .int 1), (17, .int (tot C0 d ot)), (0, .ref b), (1, .ref o), (2, .int v), (3, .int (nI Sk)), (4, .int la), (6, .int (nI en)), (7, .ref ea), (8, .int (nI d)), (9, .int (nI k)), (15, .int (nI (rkN (tot C0 d) (esc C0 d) en k 12))), (16, .int (nI ot))]) S.1 S.2.1 dL_law_926 hl (by decide) rfl (fun ls hl => ?_)
        refine lv_iinc (v := nI (ot + 1)) (lv' := [(16, .int (nI (ot + 1))), (5, .int 1), (18, .int 1), (17, .int (tot C0 d ot)), (0, .ref b), (1, .ref o), (2, .int v), (3, .int (nI Sk)), (4, .int la), (6, .int (nI en)), (7, .ref ea), (8, .int (nI d)), (9, .int (nI k)), (15, .int (nI (rkN (tot C0 d) (esc C0 d) en k 12)))]) S.1 S.2.1 dL_law_928 hl (k := 13) rfl (nI_add ot 1) (by decide) rfl (fun ls hl => ?_)
        refine lv_goto (tgt := 776) S.1 S.2.1 dL_law_931 (by decide) ?_
        exact ih (ot + 1) C H locs ls _ _ (by omega) ⟨by omega, by omega⟩ W0 hr V hS (lv_sub hl [4, 5, 6, 7, 8, 1, 9, 10, 11, 12, 13, 0] rfl)
      · have hne : ¬ k = ot := fun z => c894_2 (by rw [z])
        refine lv_iload S.1 S.2.1 dL_law_897 (lv_at hl 0 rfl) ?_
        refine lv_iload S.1 S.2.1 dL_law_899 (lv_at hl 12 rfl) ?_
        refine lv_aload_n S.1 S.2.1 dL_law_901 rfl (lv_at hl 3 rfl) ?_
        refine lv_iload S.1 S.2.1 dL_law_902 (lv_at hl 13 rfl) ?_
        refine lv_iload S.1 S.2.1 dL_law_904 (lv_at hl 10 rfl) ?_
        refine lv_iconst (v := 5) S.1 S.2.1 dL_law_906 (by decide) ?_
        obtain ⟨u1, u2, u3⟩ := (V_pr V (k := ot) (d := d) (by omega) (by omega)).2.2.2.2.2
        refine la_programme Z W0 hS V u1 hl.1 (Nat.le_of_ble_eq_true rfl) dL_law_907 ⟨by omega, by omega⟩ (fun H locs W0 hS => ?_)
        refine nt_i (y := (nI (rkN (tot C0 d) (esc C0 d) en ot 12))) (u2.trans ((V_fill V hr d).rank hot)) ?_
        obtain ⟨C, W0, hr, V⟩ : ∃ C9 : Nat → Nat → Int32, lx D cA B o ea Sk cnt C9 f H ∧ rr C0 C9 ∧ LV Sk cnt en g C9 := ⟨_, by rw [← u3]; exact W0, rr_tr hr (rr_fill _ _), LV_co (co_fill _ _) V⟩
        refine lv_icmp_ge (tgt := 917) S.1 S.2.1 dL_law_910 (by decide) (fun c9 => absurd c9 (nI_ge ((rk_cmp en k ot h12 hk hot hne).mpr hA) (by omega))) (fun _ => ?_)
        refine lv_iconst (v := 1) S.1 S.2.1 dL_law_913 (by decide) ?_
        refine lv_goto (tgt := 918) S.1 S.2.1 dL_law_914 (by decide) ?_
        refine lv_icmp_ne (tgt := 925) S.1 S.2.1 dL_law_918 (by decide) (fun c9 => absurd (by decide) c9) (fun _ => ?_)
        refine lv_iconst (v := 1) S.1 S.2.1 dL_law_921 (by decide) ?_
        refine lv_goto (tgt := 926) S.1 S.2.1 dL_law_922 (by decide) ?_
        refine lv_istore (lv' := [(5, .int 1), (18, .int 1), (17, .int (tot C0 d ot)), (0, .ref b), (1, .ref o), (2, .int v), (3, .int (nI Sk)), (4, .int la), (6, .int (nI en)), (7, .ref ea), (8, .int (nI d)), (9, .int (nI k)), (15, .int (nI (rkN (tot C0 d) (esc C0 d) en k 12))), (16, .int (nI ot))]) S.1 S.2.1 dL_law_926 hl (by decide) rfl (fun ls hl => ?_)
        refine lv_iinc (v := nI (ot + 1)) (lv' := [(16, .int (nI (ot + 1))), (5, .int 1), (18, .int 1), (17, .int (tot C0 d ot)), (0, .ref b), (1, .ref o), (2, .int v), (3, .int (nI Sk)), (4, .int la), (6, .int (nI en)), (7, .ref ea), (8, .int (nI d)), (9, .int (nI k)), (15, .int (nI (rkN (tot C0 d) (esc C0 d) en k 12)))]) S.1 S.2.1 dL_law_928 hl (k := 13) rfl (nI_add ot 1) (by decide) rfl (fun ls hl => ?_)
        refine lv_goto (tgt := 776) S.1 S.2.1 dL_law_931 (by decide) ?_
        exact ih (ot + 1) C H locs ls _ _ (by omega) ⟨by omega, by omega⟩ W0 hr V hS (lv_sub hl [4, 5, 6, 7, 8, 1, 9, 10, 11, 12, 13, 0] rfl)
    · refine lv_aload_n S.1 S.2.1 dL_law_820 rfl (lv_at hl 2 rfl) ?_
      refine lv_iload S.1 S.2.1 dL_law_821 (lv_at hl 10 rfl) ?_
      refine lv_iload S.1 S.2.1 dL_law_823 (lv_at hl 9 rfl) ?_
      refine lv_iconst (v := 3) S.1 S.2.1 dL_law_825 (by decide) ?_
      obtain ⟨u1, u2, u3⟩ := (V_pr V (k := k) (d := d) (by omega) (by omega)).2.2.2.1
      refine la_programme Z W0 hS V u1 hl.1 (Nat.le_of_ble_eq_true rfl) dL_law_826 ⟨by omega, by omega⟩ (fun H locs W0 hS => ?_)
      refine nt_i (y := (tot C0 d k)) (u2.trans (cg_total hr d k)) ?_
      have W0 : lx D cA B o ea Sk cnt C f H := by rw [← u3]; exact W0
      refine lv_iload S.1 S.2.1 dL_law_829 (lv_at hl 0 rfl) ?_
      refine lv_icmp_ne (tgt := 887) S.1 S.2.1 dL_law_831 (by decide) (fun c831_3 => ?_) (fun c831_3 => ?_)
      · refine lv_iconst (v := 0) S.1 S.2.1 dL_law_887 (by decide) ?_
        have e1 : ¬ (tot C0 d ot).toInt < (tot C0 d k).toInt := fun q => c817_1 (Int32.lt_iff_toInt_lt.mpr q)
        have e2 : ¬ (tot C0 d k).toInt = (tot C0 d ot).toInt := fun q => c831_3 (Int32.toInt_inj.mp q)
        have hA : ¬ aP (tot C0 d) (esc C0 d) k ot := by
          unfold aP
          omega
        refine lv_istore (lv' := [(18, .int 0), (17, .int (tot C0 d ot)), (0, .ref b), (1, .ref o), (2, .int v), (3, .int (nI Sk)), (4, .int la), (5, .int 1), (6, .int (nI en)), (7, .ref ea), (8, .int (nI d)), (9, .int (nI k)), (15, .int (nI (rkN (tot C0 d) (esc C0 d) en k 12))), (16, .int (nI ot))]) S.1 S.2.1 dL_law_888 hl (by decide) rfl (fun ls hl => ?_)
        refine lv_iload S.1 S.2.1 dL_law_890 (lv_at hl 13 rfl) ?_
        refine lv_iload S.1 S.2.1 dL_law_892 (lv_at hl 11 rfl) ?_
        refine lv_icmp_eq (tgt := 921) S.1 S.2.1 dL_law_894 (by decide) (fun c894_4 => ?_) (fun c894_4 => ?_)
        · refine lv_iconst (v := 1) S.1 S.2.1 dL_law_921 (by decide) ?_
          refine lv_goto (tgt := 926) S.1 S.2.1 dL_law_922 (by decide) ?_
          refine lv_istore (lv' := [(5, .int 1), (18, .int 0), (17, .int (tot C0 d ot)), (0, .ref b), (1, .ref o), (2, .int v), (3, .int (nI Sk)), (4, .int la), (6, .int (nI en)), (7, .ref ea), (8, .int (nI d)), (9, .int (nI k)), (15, .int (nI (rkN (tot C0 d) (esc C0 d) en k 12))), (16, .int (nI ot))]) S.1 S.2.1 dL_law_926 hl (by decide) rfl (fun ls hl => ?_)
          refine lv_iinc (v := nI (ot + 1)) (lv' := [(16, .int (nI (ot + 1))), (5, .int 1), (18, .int 0), (17, .int (tot C0 d ot)), (0, .ref b), (1, .ref o), (2, .int v), (3, .int (nI Sk)), (4, .int la), (6, .int (nI en)), (7, .ref ea), (8, .int (nI d)), (9, .int (nI k)), (15, .int (nI (rkN (tot C0 d) (esc C0 d) en k 12)))]) S.1 S.2.1 dL_law_928 hl (k := 13) rfl (nI_add ot 1) (by decide) rfl (fun ls hl => ?_)
          refine lv_goto (tgt := 776) S.1 S.2.1 dL_law_931 (by decide) ?_
          exact ih (ot + 1) C H locs ls _ _ (by omega) ⟨by omega, by omega⟩ W0 hr V hS (lv_sub hl [4, 5, 6, 7, 8, 1, 9, 10, 11, 12, 13, 0] rfl)
        · have hne : ¬ k = ot := fun z => c894_4 (by rw [z])
          refine lv_iload S.1 S.2.1 dL_law_897 (lv_at hl 0 rfl) ?_
          refine lv_iload S.1 S.2.1 dL_law_899 (lv_at hl 12 rfl) ?_
          refine lv_aload_n S.1 S.2.1 dL_law_901 rfl (lv_at hl 3 rfl) ?_
          refine lv_iload S.1 S.2.1 dL_law_902 (lv_at hl 13 rfl) ?_
          refine lv_iload S.1 S.2.1 dL_law_904 (lv_at hl 10 rfl) ?_
          refine lv_iconst (v := 5) S.1 S.2.1 dL_law_906 (by decide) ?_
          obtain ⟨u1, u2, u3⟩ := (V_pr V (k := ot) (d := d) (by omega) (by omega)).2.2.2.2.2
          refine la_programme Z W0 hS V u1 hl.1 (Nat.le_of_ble_eq_true rfl) dL_law_907 ⟨by omega, by omega⟩ (fun H locs W0 hS => ?_)
          refine nt_i (y := (nI (rkN (tot C0 d) (esc C0 d) en ot 12))) (u2.trans ((V_fill V hr d).rank hot)) ?_
          obtain ⟨C, W0, hr, V⟩ : ∃ C9 : Nat → Nat → Int32, lx D cA B o ea Sk cnt C9 f H ∧ rr C0 C9 ∧ LV Sk cnt en g C9 := ⟨_, by rw [← u3]; exact W0, rr_tr hr (rr_fill _ _), LV_co (co_fill _ _) V⟩
          refine lv_icmp_ge (tgt := 917) S.1 S.2.1 dL_law_910 (by decide) (fun _ => ?_) (fun c9 => absurd (nI_le (Nat.le_of_not_lt (fun q => hA ((rk_cmp en k ot h12 hk hot hne).mp q))) (by omega)) c9)
          refine lv_iconst (v := 0) S.1 S.2.1 dL_law_917 (by decide) ?_
          refine lv_icmp_ne (tgt := 925) S.1 S.2.1 dL_law_918 (by decide) (fun c9 => absurd (by decide) c9) (fun _ => ?_)
          refine lv_iconst (v := 1) S.1 S.2.1 dL_law_921 (by decide) ?_
          refine lv_goto (tgt := 926) S.1 S.2.1 dL_law_922 (by decide) ?_
          refine lv_istore (lv' := [(5, .int 1), (18, .int 0), (17, .int (tot C0 d ot)), (0, .ref b), (1, .ref o), (2, .int v), (3, .int (nI Sk)), (4, .int la), (6, .int (nI en)), (7, .ref ea), (8, .int (nI d)), (9, .int (nI k)), (15, .int (nI (rkN (tot C0 d) (esc C0 d) en k 12))), (16, .int (nI ot))]) S.1 S.2.1 dL_law_926 hl (by decide) rfl (fun ls hl => ?_)
          refine lv_iinc (v := nI (ot + 1)) (lv' := [(16, .int (nI (ot + 1))), (5, .int 1), (18, .int 0), (17, .int (tot C0 d ot)), (0, .ref b), (1, .ref o), (2, .int v), (3, .int (nI Sk)), (4, .int la), (6, .int (nI en)), (7, .ref ea), (8, .int (nI d)), (9, .int (nI k)), (15, .int (nI (rkN (tot C0 d) (esc C0 d) en k 12)))]) S.1 S.2.1 dL_law_928 hl (k := 13) rfl (nI_add ot 1) (by decide) rfl (fun ls hl => ?_)
          refine lv_goto (tgt := 776) S.1 S.2.1 dL_law_931 (by decide) ?_
          exact ih (ot + 1) C H locs ls _ _ (by omega) ⟨by omega, by omega⟩ W0 hr V hS (lv_sub hl [4, 5, 6, 7, 8, 1, 9, 10, 11, 12, 13, 0] rfl)
      · refine lv_aload_n S.1 S.2.1 dL_law_834 rfl (lv_at hl 2 rfl) ?_
        refine lv_iload S.1 S.2.1 dL_law_835 (lv_at hl 10 rfl) ?_
        refine lv_iload S.1 S.2.1 dL_law_837 (lv_at hl 9 rfl) ?_
        refine lv_iconst (v := 0) S.1 S.2.1 dL_law_839 (by decide) ?_
        obtain ⟨u1, u2, u3⟩ := (V_pr V (k := k) (d := d) (by omega) (by omega)).1
        refine la_programme Z W0 hS V u1 hl.1 (Nat.le_of_ble_eq_true rfl) dL_law_840 ⟨by omega, by omega⟩ (fun H locs W0 hS => ?_)
        refine nt_i (y := (esc C0 d k)) (u2.trans (cg_es hr)) ?_
        have W0 : lx D cA B o ea Sk cnt C f H := by rw [← u3]; exact W0
        refine lv_aload_n S.1 S.2.1 dL_law_843 rfl (lv_at hl 2 rfl) ?_
        refine lv_iload S.1 S.2.1 dL_law_844 (lv_at hl 12 rfl) ?_
        refine lv_iload S.1 S.2.1 dL_law_846 (lv_at hl 9 rfl) ?_
        refine lv_iconst (v := 0) S.1 S.2.1 dL_law_848 (by decide) ?_
        obtain ⟨u1, u2, u3⟩ := (V_pr V (k := ot) (d := d) (by omega) (by omega)).1
        refine la_programme Z W0 hS V u1 hl.1 (Nat.le_of_ble_eq_true rfl) dL_law_849 ⟨by omega, by omega⟩ (fun H locs W0 hS => ?_)
        refine nt_i (y := (esc C0 d ot)) (u2.trans (cg_es hr)) ?_
        have W0 : lx D cA B o ea Sk cnt C f H := by rw [← u3]; exact W0
        refine lv_icmp_gt (tgt := 883) S.1 S.2.1 dL_law_852 (by decide) (fun c852_5 => ?_) (fun c852_5 => ?_)
        · refine lv_iconst (v := 1) S.1 S.2.1 dL_law_883 (by decide) ?_
          refine lv_goto (tgt := 888) S.1 S.2.1 dL_law_884 (by decide) ?_
          have e1 : ¬ (tot C0 d ot).toInt < (tot C0 d k).toInt := fun q => c817_1 (Int32.lt_iff_toInt_lt.mpr q)
          have e2 : (tot C0 d k).toInt = (tot C0 d ot).toInt := congrArg Int32.toInt c831_3
          have e3 := Int32.lt_iff_toInt_lt.mp c852_5
          have hA : aP (tot C0 d) (esc C0 d) k ot := by
            unfold aP
            omega
          refine lv_istore (lv' := [(18, .int 1), (17, .int (tot C0 d ot)), (0, .ref b), (1, .ref o), (2, .int v), (3, .int (nI Sk)), (4, .int la), (5, .int 1), (6, .int (nI en)), (7, .ref ea), (8, .int (nI d)), (9, .int (nI k)), (15, .int (nI (rkN (tot C0 d) (esc C0 d) en k 12))), (16, .int (nI ot))]) S.1 S.2.1 dL_law_888 hl (by decide) rfl (fun ls hl => ?_)
          refine lv_iload S.1 S.2.1 dL_law_890 (lv_at hl 13 rfl) ?_
          refine lv_iload S.1 S.2.1 dL_law_892 (lv_at hl 11 rfl) ?_
          refine lv_icmp_eq (tgt := 921) S.1 S.2.1 dL_law_894 (by decide) (fun c894_6 => ?_) (fun c894_6 => ?_)
          · refine lv_iconst (v := 1) S.1 S.2.1 dL_law_921 (by decide) ?_
            refine lv_goto (tgt := 926) S.1 S.2.1 dL_law_922 (by decide) ?_
            refine lv_istore (lv' := [(5, .int 1), (18, .int 1), (17, .int (tot C0 d ot)), (0, .ref b), (1, .ref o), (2, .int v), (3, .int (nI Sk)), (4, .int la), (6, .int (nI en)), (7, .ref ea), (8, .int (nI d)), (9, .int (nI k)), (15, .int (nI (rkN (tot C0 d) (esc C0 d) en k 12))), (16, .int (nI ot))]) S.1 S.2.1 dL_law_926 hl (by decide) rfl (fun ls hl => ?_)
            refine lv_iinc (v := nI (ot + 1)) (lv' := [(16, .int (nI (ot + 1))), (5, .int 1), (18, .int 1), (17, .int (tot C0 d ot)), (0, .ref b), (1, .ref o), (2, .int v), (3, .int (nI Sk)), (4, .int la), (6, .int (nI en)), (7, .ref ea), (8, .int (nI d)), (9, .int (nI k)), (15, .int (nI (rkN (tot C0 d) (esc C0 d) en k 12)))]) S.1 S.2.1 dL_law_928 hl (k := 13) rfl (nI_add ot 1) (by decide) rfl (fun ls hl => ?_)
            refine lv_goto (tgt := 776) S.1 S.2.1 dL_law_931 (by decide) ?_
            exact ih (ot + 1) C H locs ls _ _ (by omega) ⟨by omega, by omega⟩ W0 hr V hS (lv_sub hl [4, 5, 6, 7, 8, 1, 9, 10, 11, 12, 13, 0] rfl)
          · have hne : ¬ k = ot := fun z => c894_6 (by rw [z])
            refine lv_iload S.1 S.2.1 dL_law_897 (lv_at hl 0 rfl) ?_
            refine lv_iload S.1 S.2.1 dL_law_899 (lv_at hl 12 rfl) ?_
            refine lv_aload_n S.1 S.2.1 dL_law_901 rfl (lv_at hl 3 rfl) ?_
            refine lv_iload S.1 S.2.1 dL_law_902 (lv_at hl 13 rfl) ?_
            refine lv_iload S.1 S.2.1 dL_law_904 (lv_at hl 10 rfl) ?_
            refine lv_iconst (v := 5) S.1 S.2.1 dL_law_906 (by decide) ?_
            obtain ⟨u1, u2, u3⟩ := (V_pr V (k := ot) (d := d) (by omega) (by omega)).2.2.2.2.2
            refine la_programme Z W0 hS V u1 hl.1 (Nat.le_of_ble_eq_true rfl) dL_law_907 ⟨by omega, by omega⟩ (fun H locs W0 hS => ?_)
            refine nt_i (y := (nI (rkN (tot C0 d) (esc C0 d) en ot 12))) (u2.trans ((V_fill V hr d).rank hot)) ?_
            obtain ⟨C, W0, hr, V⟩ : ∃ C9 : Nat → Nat → Int32, lx D cA B o ea Sk cnt C9 f H ∧ rr C0 C9 ∧ LV Sk cnt en g C9 := ⟨_, by rw [← u3]; exact W0, rr_tr hr (rr_fill _ _), LV_co (co_fill _ _) V⟩
            refine lv_icmp_ge (tgt := 917) S.1 S.2.1 dL_law_910 (by decide) (fun c9 => absurd c9 (nI_ge ((rk_cmp en k ot h12 hk hot hne).mpr hA) (by omega))) (fun _ => ?_)
            refine lv_iconst (v := 1) S.1 S.2.1 dL_law_913 (by decide) ?_
            refine lv_goto (tgt := 918) S.1 S.2.1 dL_law_914 (by decide) ?_
            refine lv_icmp_ne (tgt := 925) S.1 S.2.1 dL_law_918 (by decide) (fun c9 => absurd (by decide) c9) (fun _ => ?_)
            refine lv_iconst (v := 1) S.1 S.2.1 dL_law_921 (by decide) ?_
            refine lv_goto (tgt := 926) S.1 S.2.1 dL_law_922 (by decide) ?_
            refine lv_istore (lv' := [(5, .int 1), (18, .int 1), (17, .int (tot C0 d ot)), (0, .ref b), (1, .ref o), (2, .int v), (3, .int (nI Sk)), (4, .int la), (6, .int (nI en)), (7, .ref ea), (8, .int (nI d)), (9, .int (nI k)), (15, .int (nI (rkN (tot C0 d) (esc C0 d) en k 12))), (16, .int (nI ot))]) S.1 S.2.1 dL_law_926 hl (by decide) rfl (fun ls hl => ?_)
            refine lv_iinc (v := nI (ot + 1)) (lv' := [(16, .int (nI (ot + 1))), (5, .int 1), (18, .int 1), (17, .int (tot C0 d ot)), (0, .ref b), (1, .ref o), (2, .int v), (3, .int (nI Sk)), (4, .int la), (6, .int (nI en)), (7, .ref ea), (8, .int (nI d)), (9, .int (nI k)), (15, .int (nI (rkN (tot C0 d) (esc C0 d) en k 12)))]) S.1 S.2.1 dL_law_928 hl (k := 13) rfl (nI_add ot 1) (by decide) rfl (fun ls hl => ?_)
            refine lv_goto (tgt := 776) S.1 S.2.1 dL_law_931 (by decide) ?_
            exact ih (ot + 1) C H locs ls _ _ (by omega) ⟨by omega, by omega⟩ W0 hr V hS (lv_sub hl [4, 5, 6, 7, 8, 1, 9, 10, 11, 12, 13, 0] rfl)
        · refine lv_aload_n S.1 S.2.1 dL_law_855 rfl (lv_at hl 2 rfl) ?_
          refine lv_iload S.1 S.2.1 dL_law_856 (lv_at hl 10 rfl) ?_
          refine lv_iload S.1 S.2.1 dL_law_858 (lv_at hl 9 rfl) ?_
          refine lv_iconst (v := 0) S.1 S.2.1 dL_law_860 (by decide) ?_
          obtain ⟨u1, u2, u3⟩ := (V_pr V (k := k) (d := d) (by omega) (by omega)).1
          refine la_programme Z W0 hS V u1 hl.1 (Nat.le_of_ble_eq_true rfl) dL_law_861 ⟨by omega, by omega⟩ (fun H locs W0 hS => ?_)
          refine nt_i (y := (esc C0 d k)) (u2.trans (cg_es hr)) ?_
          have W0 : lx D cA B o ea Sk cnt C f H := by rw [← u3]; exact W0
          refine lv_aload_n S.1 S.2.1 dL_law_864 rfl (lv_at hl 2 rfl) ?_
          refine lv_iload S.1 S.2.1 dL_law_865 (lv_at hl 12 rfl) ?_
          refine lv_iload S.1 S.2.1 dL_law_867 (lv_at hl 9 rfl) ?_
          refine lv_iconst (v := 0) S.1 S.2.1 dL_law_869 (by decide) ?_
          obtain ⟨u1, u2, u3⟩ := (V_pr V (k := ot) (d := d) (by omega) (by omega)).1
          refine la_programme Z W0 hS V u1 hl.1 (Nat.le_of_ble_eq_true rfl) dL_law_870 ⟨by omega, by omega⟩ (fun H locs W0 hS => ?_)
          refine nt_i (y := (esc C0 d ot)) (u2.trans (cg_es hr)) ?_
          have W0 : lx D cA B o ea Sk cnt C f H := by rw [← u3]; exact W0
          refine lv_icmp_ne (tgt := 887) S.1 S.2.1 dL_law_873 (by decide) (fun c873_7 => ?_) (fun c873_7 => ?_)
          · refine lv_iconst (v := 0) S.1 S.2.1 dL_law_887 (by decide) ?_
            have e1 : ¬ (tot C0 d ot).toInt < (tot C0 d k).toInt := fun q => c817_1 (Int32.lt_iff_toInt_lt.mpr q)
            have e2 : (tot C0 d k).toInt = (tot C0 d ot).toInt := congrArg Int32.toInt c831_3
            have e3 : ¬ (esc C0 d ot).toInt < (esc C0 d k).toInt := fun q => c852_5 (Int32.lt_iff_toInt_lt.mpr q)
            have e4 : ¬ (esc C0 d k).toInt = (esc C0 d ot).toInt := fun q => c873_7 (Int32.toInt_inj.mp q)
            have hA : ¬ aP (tot C0 d) (esc C0 d) k ot := by
              unfold aP
              omega
            refine lv_istore (lv' := [(18, .int 0), (17, .int (tot C0 d ot)), (0, .ref b), (1, .ref o), (2, .int v), (3, .int (nI Sk)), (4, .int la), (5, .int 1), (6, .int (nI en)), (7, .ref ea), (8, .int (nI d)), (9, .int (nI k)), (15, .int (nI (rkN (tot C0 d) (esc C0 d) en k 12))), (16, .int (nI ot))]) S.1 S.2.1 dL_law_888 hl (by decide) rfl (fun ls hl => ?_)
            refine lv_iload S.1 S.2.1 dL_law_890 (lv_at hl 13 rfl) ?_
            refine lv_iload S.1 S.2.1 dL_law_892 (lv_at hl 11 rfl) ?_
            refine lv_icmp_eq (tgt := 921) S.1 S.2.1 dL_law_894 (by decide) (fun c894_8 => ?_) (fun c894_8 => ?_)
            · refine lv_iconst (v := 1) S.1 S.2.1 dL_law_921 (by decide) ?_
              refine lv_goto (tgt := 926) S.1 S.2.1 dL_law_922 (by decide) ?_
              refine lv_istore (lv' := [(5, .int 1), (18, .int 0), (17, .int (tot C0 d ot)), (0, .ref b), (1, .ref o), (2, .int v), (3, .int (nI Sk)), (4, .int la), (6, .int (nI en)), (7, .ref ea), (8, .int (nI d)), (9, .int (nI k)), (15, .int (nI (rkN (tot C0 d) (esc C0 d) en k 12))), (16, .int (nI ot))]) S.1 S.2.1 dL_law_926 hl (by decide) rfl (fun ls hl => ?_)
              refine lv_iinc (v := nI (ot + 1)) (lv' := [(16, .int (nI (ot + 1))), (5, .int 1), (18, .int 0), (17, .int (tot C0 d ot)), (0, .ref b), (1, .ref o), (2, .int v), (3, .int (nI Sk)), (4, .int la), (6, .int (nI en)), (7, .ref ea), (8, .int (nI d)), (9, .int (nI k)), (15, .int (nI (rkN (tot C0 d) (esc C0 d) en k 12)))]) S.1 S.2.1 dL_law_928 hl (k := 13) rfl (nI_add ot 1) (by decide) rfl (fun ls hl => ?_)
              refine lv_goto (tgt := 776) S.1 S.2.1 dL_law_931 (by decide) ?_
              exact ih (ot + 1) C H locs ls _ _ (by omega) ⟨by omega, by omega⟩ W0 hr V hS (lv_sub hl [4, 5, 6, 7, 8, 1, 9, 10, 11, 12, 13, 0] rfl)
            · have hne : ¬ k = ot := fun z => c894_8 (by rw [z])
              refine lv_iload S.1 S.2.1 dL_law_897 (lv_at hl 0 rfl) ?_
              refine lv_iload S.1 S.2.1 dL_law_899 (lv_at hl 12 rfl) ?_
              refine lv_aload_n S.1 S.2.1 dL_law_901 rfl (lv_at hl 3 rfl) ?_
              refine lv_iload S.1 S.2.1 dL_law_902 (lv_at hl 13 rfl) ?_
              refine lv_iload S.1 S.2.1 dL_law_904 (lv_at hl 10 rfl) ?_
              refine lv_iconst (v := 5) S.1 S.2.1 dL_law_906 (by decide) ?_
              obtain ⟨u1, u2, u3⟩ := (V_pr V (k := ot) (d := d) (by omega) (by omega)).2.2.2.2.2
              refine la_programme Z W0 hS V u1 hl.1 (Nat.le_of_ble_eq_true rfl) dL_law_907 ⟨by omega, by omega⟩ (fun H locs W0 hS => ?_)
              refine nt_i (y := (nI (rkN (tot C0 d) (esc C0 d) en ot 12))) (u2.trans ((V_fill V hr d).rank hot)) ?_
              obtain ⟨C, W0, hr, V⟩ : ∃ C9 : Nat → Nat → Int32, lx D cA B o ea Sk cnt C9 f H ∧ rr C0 C9 ∧ LV Sk cnt en g C9 := ⟨_, by rw [← u3]; exact W0, rr_tr hr (rr_fill _ _), LV_co (co_fill _ _) V⟩
              refine lv_icmp_ge (tgt := 917) S.1 S.2.1 dL_law_910 (by decide) (fun _ => ?_) (fun c9 => absurd (nI_le (Nat.le_of_not_lt (fun q => hA ((rk_cmp en k ot h12 hk hot hne).mp q))) (by omega)) c9)
              refine lv_iconst (v := 0) S.1 S.2.1 dL_law_917 (by decide) ?_
              refine lv_icmp_ne (tgt := 925) S.1 S.2.1 dL_law_918 (by decide) (fun c9 => absurd (by decide) c9) (fun _ => ?_)
              refine lv_iconst (v := 1) S.1 S.2.1 dL_law_921 (by decide) ?_
              refine lv_goto (tgt := 926) S.1 S.2.1 dL_law_922 (by decide) ?_
              refine lv_istore (lv' := [(5, .int 1), (18, .int 0), (17, .int (tot C0 d ot)), (0, .ref b), (1, .ref o), (2, .int v), (3, .int (nI Sk)), (4, .int la), (6, .int (nI en)), (7, .ref ea), (8, .int (nI d)), (9, .int (nI k)), (15, .int (nI (rkN (tot C0 d) (esc C0 d) en k 12))), (16, .int (nI ot))]) S.1 S.2.1 dL_law_926 hl (by decide) rfl (fun ls hl => ?_)
              refine lv_iinc (v := nI (ot + 1)) (lv' := [(16, .int (nI (ot + 1))), (5, .int 1), (18, .int 0), (17, .int (tot C0 d ot)), (0, .ref b), (1, .ref o), (2, .int v), (3, .int (nI Sk)), (4, .int la), (6, .int (nI en)), (7, .ref ea), (8, .int (nI d)), (9, .int (nI k)), (15, .int (nI (rkN (tot C0 d) (esc C0 d) en k 12)))]) S.1 S.2.1 dL_law_928 hl (k := 13) rfl (nI_add ot 1) (by decide) rfl (fun ls hl => ?_)
              refine lv_goto (tgt := 776) S.1 S.2.1 dL_law_931 (by decide) ?_
              exact ih (ot + 1) C H locs ls _ _ (by omega) ⟨by omega, by omega⟩ W0 hr V hS (lv_sub hl [4, 5, 6, 7, 8, 1, 9, 10, 11, 12, 13, 0] rfl)
          · refine lv_iload S.1 S.2.1 dL_law_876 (lv_at hl 10 rfl) ?_
            refine lv_iload S.1 S.2.1 dL_law_878 (lv_at hl 12 rfl) ?_
            refine lv_icmp_ge (tgt := 887) S.1 S.2.1 dL_law_880 (by decide) (fun c880_9 => ?_) (fun c880_9 => ?_)
            · refine lv_iconst (v := 0) S.1 S.2.1 dL_law_887 (by decide) ?_
              have e1 : ¬ (tot C0 d ot).toInt < (tot C0 d k).toInt := fun q => c817_1 (Int32.lt_iff_toInt_lt.mpr q)
              have e2 : (tot C0 d k).toInt = (tot C0 d ot).toInt := congrArg Int32.toInt c831_3
              have e3 : ¬ (esc C0 d ot).toInt < (esc C0 d k).toInt := fun q => c852_5 (Int32.lt_iff_toInt_lt.mpr q)
              have e4 : (esc C0 d k).toInt = (esc C0 d ot).toInt := congrArg Int32.toInt c873_7
              have e5 : ot ≤ k := (nI_leI (by omega) (by omega)).mp c880_9
              have hA : ¬ aP (tot C0 d) (esc C0 d) k ot := by
                unfold aP
                omega
              refine lv_istore (lv' := [(18, .int 0), (17, .int (tot C0 d ot)), (0, .ref b), (1, .ref o), (2, .int v), (3, .int (nI Sk)), (4, .int la), (5, .int 1), (6, .int (nI en)), (7, .ref ea), (8, .int (nI d)), (9, .int (nI k)), (15, .int (nI (rkN (tot C0 d) (esc C0 d) en k 12))), (16, .int (nI ot))]) S.1 S.2.1 dL_law_888 hl (by decide) rfl (fun ls hl => ?_)
              refine lv_iload S.1 S.2.1 dL_law_890 (lv_at hl 13 rfl) ?_
              refine lv_iload S.1 S.2.1 dL_law_892 (lv_at hl 11 rfl) ?_
              refine lv_icmp_eq (tgt := 921) S.1 S.2.1 dL_law_894 (by decide) (fun c894_10 => ?_) (fun c894_10 => ?_)
              · refine lv_iconst (v := 1) S.1 S.2.1 dL_law_921 (by decide) ?_
                refine lv_goto (tgt := 926) S.1 S.2.1 dL_law_922 (by decide) ?_
                refine lv_istore (lv' := [(5, .int 1), (18, .int 0), (17, .int (tot C0 d ot)), (0, .ref b), (1, .ref o), (2, .int v), (3, .int (nI Sk)), (4, .int la), (6, .int (nI en)), (7, .ref ea), (8, .int (nI d)), (9, .int (nI k)), (15, .int (nI (rkN (tot C0 d) (esc C0 d) en k 12))), (16, .int (nI ot))]) S.1 S.2.1 dL_law_926 hl (by decide) rfl (fun ls hl => ?_)
                refine lv_iinc (v := nI (ot + 1)) (lv' := [(16, .int (nI (ot + 1))), (5, .int 1), (18, .int 0), (17, .int (tot C0 d ot)), (0, .ref b), (1, .ref o), (2, .int v), (3, .int (nI Sk)), (4, .int la), (6, .int (nI en)), (7, .ref ea), (8, .int (nI d)), (9, .int (nI k)), (15, .int (nI (rkN (tot C0 d) (esc C0 d) en k 12)))]) S.1 S.2.1 dL_law_928 hl (k := 13) rfl (nI_add ot 1) (by decide) rfl (fun ls hl => ?_)
                refine lv_goto (tgt := 776) S.1 S.2.1 dL_law_931 (by decide) ?_
                exact ih (ot + 1) C H locs ls _ _ (by omega) ⟨by omega, by omega⟩ W0 hr V hS (lv_sub hl [4, 5, 6, 7, 8, 1, 9, 10, 11, 12, 13, 0] rfl)
              · have hne : ¬ k = ot := fun z => c894_10 (by rw [z])
                refine lv_iload S.1 S.2.1 dL_law_897 (lv_at hl 0 rfl) ?_
                refine lv_iload S.1 S.2.1 dL_law_899 (lv_at hl 12 rfl) ?_
                refine lv_aload_n S.1 S.2.1 dL_law_901 rfl (lv_at hl 3 rfl) ?_
                refine lv_iload S.1 S.2.1 dL_law_902 (lv_at hl 13 rfl) ?_
                refine lv_iload S.1 S.2.1 dL_law_904 (lv_at hl 10 rfl) ?_
                refine lv_iconst (v := 5) S.1 S.2.1 dL_law_906 (by decide) ?_
                obtain ⟨u1, u2, u3⟩ := (V_pr V (k := ot) (d := d) (by omega) (by omega)).2.2.2.2.2
                refine la_programme Z W0 hS V u1 hl.1 (Nat.le_of_ble_eq_true rfl) dL_law_907 ⟨by omega, by omega⟩ (fun H locs W0 hS => ?_)
                refine nt_i (y := (nI (rkN (tot C0 d) (esc C0 d) en ot 12))) (u2.trans ((V_fill V hr d).rank hot)) ?_
                obtain ⟨C, W0, hr, V⟩ : ∃ C9 : Nat → Nat → Int32, lx D cA B o ea Sk cnt C9 f H ∧ rr C0 C9 ∧ LV Sk cnt en g C9 := ⟨_, by rw [← u3]; exact W0, rr_tr hr (rr_fill _ _), LV_co (co_fill _ _) V⟩
                refine lv_icmp_ge (tgt := 917) S.1 S.2.1 dL_law_910 (by decide) (fun _ => ?_) (fun c9 => absurd (nI_le (Nat.le_of_not_lt (fun q => hA ((rk_cmp en k ot h12 hk hot hne).mp q))) (by omega)) c9)
                refine lv_iconst (v := 0) S.1 S.2.1 dL_law_917 (by decide) ?_
                refine lv_icmp_ne (tgt := 925) S.1 S.2.1 dL_law_918 (by decide) (fun c9 => absurd (by decide) c9) (fun _ => ?_)
                refine lv_iconst (v := 1) S.1 S.2.1 dL_law_921 (by decide) ?_
                refine lv_goto (tgt := 926) S.1 S.2.1 dL_law_922 (by decide) ?_
                refine lv_istore (lv' := [(5, .int 1), (18, .int 0), (17, .int (tot C0 d ot)), (0, .ref b), (1, .ref o), (2, .int v), (3, .int (nI Sk)), (4, .int la), (6, .int (nI en)), (7, .ref ea), (8, .int (nI d)), (9, .int (nI k)), (15, .int (nI (rkN (tot C0 d) (esc C0 d) en k 12))), (16, .int (nI ot))]) S.1 S.2.1 dL_law_926 hl (by decide) rfl (fun ls hl => ?_)
                refine lv_iinc (v := nI (ot + 1)) (lv' := [(16, .int (nI (ot + 1))), (5, .int 1), (18, .int 0), (17, .int (tot C0 d ot)), (0, .ref b), (1, .ref o), (2, .int v), (3, .int (nI Sk)), (4, .int la), (6, .int (nI en)), (7, .ref ea), (8, .int (nI d)), (9, .int (nI k)), (15, .int (nI (rkN (tot C0 d) (esc C0 d) en k 12)))]) S.1 S.2.1 dL_law_928 hl (k := 13) rfl (nI_add ot 1) (by decide) rfl (fun ls hl => ?_)
                refine lv_goto (tgt := 776) S.1 S.2.1 dL_law_931 (by decide) ?_
                exact ih (ot + 1) C H locs ls _ _ (by omega) ⟨by omega, by omega⟩ W0 hr V hS (lv_sub hl [4, 5, 6, 7, 8, 1, 9, 10, 11, 12, 13, 0] rfl)
            · refine lv_iconst (v := 1) S.1 S.2.1 dL_law_883 (by decide) ?_
              refine lv_goto (tgt := 888) S.1 S.2.1 dL_law_884 (by decide) ?_
              have e1 : ¬ (tot C0 d ot).toInt < (tot C0 d k).toInt := fun q => c817_1 (Int32.lt_iff_toInt_lt.mpr q)
              have e2 : (tot C0 d k).toInt = (tot C0 d ot).toInt := congrArg Int32.toInt c831_3
              have e3 : ¬ (esc C0 d ot).toInt < (esc C0 d k).toInt := fun q => c852_5 (Int32.lt_iff_toInt_lt.mpr q)
              have e4 : (esc C0 d k).toInt = (esc C0 d ot).toInt := congrArg Int32.toInt c873_7
              have e5 : k < ot := Nat.lt_of_not_le (fun q => c880_9 ((nI_leI (by omega) (by omega)).mpr q))
              have hA : aP (tot C0 d) (esc C0 d) k ot := by
                unfold aP
                omega
              refine lv_istore (lv' := [(18, .int 1), (17, .int (tot C0 d ot)), (0, .ref b), (1, .ref o), (2, .int v), (3, .int (nI Sk)), (4, .int la), (5, .int 1), (6, .int (nI en)), (7, .ref ea), (8, .int (nI d)), (9, .int (nI k)), (15, .int (nI (rkN (tot C0 d) (esc C0 d) en k 12))), (16, .int (nI ot))]) S.1 S.2.1 dL_law_888 hl (by decide) rfl (fun ls hl => ?_)
              refine lv_iload S.1 S.2.1 dL_law_890 (lv_at hl 13 rfl) ?_
              refine lv_iload S.1 S.2.1 dL_law_892 (lv_at hl 11 rfl) ?_
              refine lv_icmp_eq (tgt := 921) S.1 S.2.1 dL_law_894 (by decide) (fun c894_11 => ?_) (fun c894_11 => ?_)
              · refine lv_iconst (v := 1) S.1 S.2.1 dL_law_921 (by decide) ?_
                refine lv_goto (tgt := 926) S.1 S.2.1 dL_law_922 (by decide) ?_
                refine lv_istore (lv' := [(5, .int 1), (18, .int 1), (17, .int (tot C0 d ot)), (0, .ref b), (1, .ref o), (2, .int v), (3, .int (nI Sk)), (4, .int la), (6, .int (nI en)), (7, .ref ea), (8, .int (nI d)), (9, .int (nI k)), (15, .int (nI (rkN (tot C0 d) (esc C0 d) en k 12))), (16, .int (nI ot))]) S.1 S.2.1 dL_law_926 hl (by decide) rfl (fun ls hl => ?_)
                refine lv_iinc (v := nI (ot + 1)) (lv' := [(16, .int (nI (ot + 1))), (5, .int 1), (18, .int 1), (17, .int (tot C0 d ot)), (0, .ref b), (1, .ref o), (2, .int v), (3, .int (nI Sk)), (4, .int la), (6, .int (nI en)), (7, .ref ea), (8, .int (nI d)), (9, .int (nI k)), (15, .int (nI (rkN (tot C0 d) (esc C0 d) en k 12)))]) S.1 S.2.1 dL_law_928 hl (k := 13) rfl (nI_add ot 1) (by decide) rfl (fun ls hl => ?_)
                refine lv_goto (tgt := 776) S.1 S.2.1 dL_law_931 (by decide) ?_
                exact ih (ot + 1) C H locs ls _ _ (by omega) ⟨by omega, by omega⟩ W0 hr V hS (lv_sub hl [4, 5, 6, 7, 8, 1, 9, 10, 11, 12, 13, 0] rfl)
              · have hne : ¬ k = ot := fun z => c894_11 (by rw [z])
                refine lv_iload S.1 S.2.1 dL_law_897 (lv_at hl 0 rfl) ?_
                refine lv_iload S.1 S.2.1 dL_law_899 (lv_at hl 12 rfl) ?_
                refine lv_aload_n S.1 S.2.1 dL_law_901 rfl (lv_at hl 3 rfl) ?_
                refine lv_iload S.1 S.2.1 dL_law_902 (lv_at hl 13 rfl) ?_
                refine lv_iload S.1 S.2.1 dL_law_904 (lv_at hl 10 rfl) ?_
                refine lv_iconst (v := 5) S.1 S.2.1 dL_law_906 (by decide) ?_
                obtain ⟨u1, u2, u3⟩ := (V_pr V (k := ot) (d := d) (by omega) (by omega)).2.2.2.2.2
                refine la_programme Z W0 hS V u1 hl.1 (Nat.le_of_ble_eq_true rfl) dL_law_907 ⟨by omega, by omega⟩ (fun H locs W0 hS => ?_)
                refine nt_i (y := (nI (rkN (tot C0 d) (esc C0 d) en ot 12))) (u2.trans ((V_fill V hr d).rank hot)) ?_
                obtain ⟨C, W0, hr, V⟩ : ∃ C9 : Nat → Nat → Int32, lx D cA B o ea Sk cnt C9 f H ∧ rr C0 C9 ∧ LV Sk cnt en g C9 := ⟨_, by rw [← u3]; exact W0, rr_tr hr (rr_fill _ _), LV_co (co_fill _ _) V⟩
                refine lv_icmp_ge (tgt := 917) S.1 S.2.1 dL_law_910 (by decide) (fun c9 => absurd c9 (nI_ge ((rk_cmp en k ot h12 hk hot hne).mpr hA) (by omega))) (fun _ => ?_)
                refine lv_iconst (v := 1) S.1 S.2.1 dL_law_913 (by decide) ?_
                refine lv_goto (tgt := 918) S.1 S.2.1 dL_law_914 (by decide) ?_
                refine lv_icmp_ne (tgt := 925) S.1 S.2.1 dL_law_918 (by decide) (fun c9 => absurd (by decide) c9) (fun _ => ?_)
                refine lv_iconst (v := 1) S.1 S.2.1 dL_law_921 (by decide) ?_
                refine lv_goto (tgt := 926) S.1 S.2.1 dL_law_922 (by decide) ?_
                refine lv_istore (lv' := [(5, .int 1), (18, .int 1), (17, .int (tot C0 d ot)), (0, .ref b), (1, .ref o), (2, .int v), (3, .int (nI Sk)), (4, .int la), (6, .int (nI en)), (7, .ref ea), (8, .int (nI d)), (9, .int (nI k)), (15, .int (nI (rkN (tot C0 d) (esc C0 d) en k 12))), (16, .int (nI ot))]) S.1 S.2.1 dL_law_926 hl (by decide) rfl (fun ls hl => ?_)
                refine lv_iinc (v := nI (ot + 1)) (lv' := [(16, .int (nI (ot + 1))), (5, .int 1), (18, .int 1), (17, .int (tot C0 d ot)), (0, .ref b), (1, .ref o), (2, .int v), (3, .int (nI Sk)), (4, .int la), (6, .int (nI en)), (7, .ref ea), (8, .int (nI d)), (9, .int (nI k)), (15, .int (nI (rkN (tot C0 d) (esc C0 d) en k 12)))]) S.1 S.2.1 dL_law_928 hl (k := 13) rfl (nI_add ot 1) (by decide) rfl (fun ls hl => ?_)
                refine lv_goto (tgt := 776) S.1 S.2.1 dL_law_931 (by decide) ?_
                exact ih (ot + 1) C H locs ls _ _ (by omega) ⟨by omega, by omega⟩ W0 hr V hS (lv_sub hl [4, 5, 6, 7, 8, 1, 9, 10, 11, 12, 13, 0] rfl)

set_option maxHeartbeats 8000000 in
set_option maxRecDepth 100000 in
theorem lp_k (Z : Zw p l s m args c cL_law 19 D cA B R) (KS0 : KS D cA B b L xs s) (hL : L < 2 ^ 31) {MC MS : Nat} (hMC : MC ≤ R.cells ∧ MS ≤ R.slots) (h5 : Sk ≤ 5) {cnt : Nat → Nat} {en g d : Nat} {C0 : Nat → Nat → Int32} {f : Nat → Int32} {v la : Int32} (V0 : LV Sk cnt en g C0) (hes : en + g = Sk) (hf : ∀ i, i < 5 → f i = if i < en then nI (cnt i) else 0) (hd : d < 2)
    (ke : ∀ (C : Nat → Nat → Int32) (H : Heap) (locs : List Loc) (ls : Array Slot), lx D cA B o ea Sk cnt C f H → rr C0 C → LV Sk cnt en g C → va_S (fun q => B ≤ q) s.heap H locs → lv_has ls 19 [(0, .ref b), (1, .ref o), (2, .int v), (3, .int (nI Sk)), (4, .int la), (5, .int 1), (6, .int (nI en)), (7, .ref ea), (8, .int (nI d))] → W p l e R s m args below meth c H locs MC MS Q (F0 m 940 ls [])) :
    ∀ (n : Nat) (k : Nat) (C : Nat → Nat → Int32) (H : Heap) (locs : List Loc) (ls : Array Slot) (cells slots : Nat), k + n = Sk → cells + 130 * n ≤ MC ∧ slots + 800 * n ≤ MS → lx D cA B o ea Sk cnt C f H → rr C0 C → LV Sk cnt en g C → va_S (fun q => B ≤ q) s.heap H locs → lv_has ls 19 [(0, .ref b), (1, .ref o), (2, .int v), (3, .int (nI Sk)), (4, .int la), (5, .int 1), (6, .int (nI en)), (7, .ref ea), (8, .int (nI d)), (9, .int (nI k))] → W p l e R s m args below meth c H locs cells slots Q (F0 m 405 ls []) := by
  obtain ⟨S, K, hls, hR1, hR2⟩ := id Z
  intro n
  induction n with
  | zero =>
    intro k C H locs ls cells slots hj hc W0 hr V hS hl
    refine lv_iload S.1 S.2.1 dL_law_405 (lv_at hl 9 rfl) ?_
    refine lv_iload_n S.1 S.2.1 dL_law_407 rfl (lv_at hl 3 rfl) ?_
    refine lv_icmp_ge (tgt := 940) S.1 S.2.1 dL_law_408 (by decide) (fun _ => ?_) (fun c9 => absurd (nI_le (by omega) (by omega)) c9)
    exact W.widen (k := MC) (n := MS) (by omega) (by omega) (ke C H locs ls W0 hr V hS (lv_sub hl [0, 1, 2, 3, 4, 5, 6, 7, 8] rfl))
  | succ n ih =>
    intro k C H locs ls cells slots hj hc W0 hr V hS hl
    have hg1 := V.g1
    have hegg := V.eg
    by_cases hk : k < en
    · have h12 : en ≤ 12 := by omega
      have n12 := V.n12 k (by omega)
      have hb1 := rk_up (T := tot C0 d) (E := esc C0 d) en k h12 hk
      refine lv_iload S.1 S.2.1 dL_law_405 (lv_at hl 9 rfl) ?_
      refine lv_iload_n S.1 S.2.1 dL_law_407 rfl (lv_at hl 3 rfl) ?_
      refine lv_icmp_ge (tgt := 940) S.1 S.2.1 dL_law_408 (by decide) (fun c9 => absurd c9 (nI_ge (by omega) (by omega))) (fun _ => ?_)
      refine lv_iload S.1 S.2.1 dL_law_411 (lv_at hl 5 rfl) ?_
      refine lv_if_eq (tgt := 940) S.1 S.2.1 dL_law_413 (by decide) (fun c9 => absurd c9 (by decide)) (fun _ => ?_)
      refine lv_iconst (v := 0) S.1 S.2.1 dL_law_416 (by decide) ?_
      refine lv_istore (lv' := [(10, .int 0), (0, .ref b), (1, .ref o), (2, .int v), (3, .int (nI Sk)), (4, .int la), (5, .int 1), (6, .int (nI en)), (7, .ref ea), (8, .int (nI d)), (9, .int (nI k))]) S.1 S.2.1 dL_law_417 hl (by decide) rfl (fun ls hl => ?_)
      refine lv_iconst (v := 0) S.1 S.2.1 dL_law_419 (by decide) ?_
      refine lv_istore (lv' := [(11, .int 0), (10, .int 0), (0, .ref b), (1, .ref o), (2, .int v), (3, .int (nI Sk)), (4, .int la), (5, .int 1), (6, .int (nI en)), (7, .ref ea), (8, .int (nI d)), (9, .int (nI k))]) S.1 S.2.1 dL_law_420 hl (by decide) rfl (fun ls hl => ?_)
      refine lv_iconst (v := 0) S.1 S.2.1 dL_law_422 (by decide) ?_
      refine lv_istore (lv' := [(12, .int 0), (11, .int 0), (10, .int 0), (0, .ref b), (1, .ref o), (2, .int v), (3, .int (nI Sk)), (4, .int la), (5, .int 1), (6, .int (nI en)), (7, .ref ea), (8, .int (nI d)), (9, .int (nI k))]) S.1 S.2.1 dL_law_423 hl (by decide) rfl (fun ls hl => ?_)
      refine lv_iconst (v := 0) S.1 S.2.1 dL_law_425 (by decide) ?_
      refine lv_istore (lv' := [(13, .int 0), (12, .int 0), (11, .int 0), (10, .int 0), (0, .ref b), (1, .ref o), (2, .int v), (3, .int (nI Sk)), (4, .int la), (5, .int 1), (6, .int (nI en)), (7, .ref ea), (8, .int (nI d)), (9, .int (nI k))]) S.1 S.2.1 dL_law_426 hl (by decide) rfl (fun ls hl => ?_)
      refine lp_sum Z KS0 hL (MC := cells + 72) (MS := slots + 432) ⟨by omega, by omega⟩ h5 V0 hes hf hd hk hr V (fun H locs ls W0 hS hl => ?_) (cnt k) 0 0 0 0 H locs ls _ _ (by omega) rfl rfl rfl ⟨by omega, by omega⟩ W0 hS (lv_sub hl [4, 5, 6, 7, 8, 9, 10, 11, 12, 13, 3, 2, 1, 0] rfl)
      refine lv_aload_n S.1 S.2.1 dL_law_604 rfl (lv_at hl 1 rfl) ?_
      refine lv_iload S.1 S.2.1 dL_law_605 (lv_at hl 9 rfl) ?_
      refine lv_iload S.1 S.2.1 dL_law_607 (lv_at hl 8 rfl) ?_
      refine lv_iconst (v := 0) S.1 S.2.1 dL_law_609 (by decide) ?_
      obtain ⟨u1, u2, u3⟩ := (V_pr V (k := k) (d := d) (by omega) (by omega)).1
      refine la_programme Z W0 hS V u1 hl.1 (Nat.le_of_ble_eq_true rfl) dL_law_610 ⟨by omega, by omega⟩ (fun H locs W0 hS => ?_)
      refine nt_i (y := (esc C0 d k)) (u2.trans (cg_es hr)) ?_
      have W0 : lx D cA B o ea Sk cnt C f H := by rw [← u3]; exact W0
      refine lv_aload_n S.1 S.2.1 dL_law_613 rfl (lv_at hl 1 rfl) ?_
      refine lv_iload S.1 S.2.1 dL_law_614 (lv_at hl 9 rfl) ?_
      refine lv_iload S.1 S.2.1 dL_law_616 (lv_at hl 8 rfl) ?_
      refine lv_iconst (v := 1) S.1 S.2.1 dL_law_618 (by decide) ?_
      obtain ⟨u1, u2, u3⟩ := (V_pr V (k := k) (d := d) (by omega) (by omega)).2.1
      refine la_programme Z W0 hS V u1 hl.1 (Nat.le_of_ble_eq_true rfl) dL_law_619 ⟨by omega, by omega⟩ (fun H locs W0 hS => ?_)
      refine nt_i (y := (f_X2_componentScores C0 k)) (u2.trans (cg_cs hr)) ?_
      have W0 : lx D cA B o ea Sk cnt C f H := by rw [← u3]; exact W0
      refine lv_iadd S.1 S.2.1 dL_law_622 ?_
      refine lv_aload_n S.1 S.2.1 dL_law_623 rfl (lv_at hl 1 rfl) ?_
      refine lv_iload S.1 S.2.1 dL_law_624 (lv_at hl 9 rfl) ?_
      refine lv_iload S.1 S.2.1 dL_law_626 (lv_at hl 8 rfl) ?_
      refine lv_iconst (v := 2) S.1 S.2.1 dL_law_628 (by decide) ?_
      obtain ⟨u1, u2, u3⟩ := (V_pr V (k := k) (d := d) (by omega) (by omega)).2.2.1
      refine la_programme Z W0 hS V u1 hl.1 (Nat.le_of_ble_eq_true rfl) dL_law_629 ⟨by omega, by omega⟩ (fun H locs W0 hS => ?_)
      refine nt_i (y := (f_X2_fine C0 k)) (u2.trans (cg_fine hr)) ?_
      have W0 : lx D cA B o ea Sk cnt C f H := by rw [← u3]; exact W0
      refine lv_isub S.1 S.2.1 dL_law_632 ?_
      refine lv_istore (lv' := [(14, .int (((esc C0 d k) + (f_X2_componentScores C0 k)) - (f_X2_fine C0 k))), (0, .ref b), (1, .ref o), (2, .int v), (3, .int (nI Sk)), (4, .int la), (5, .int 1), (6, .int (nI en)), (7, .ref ea), (8, .int (nI d)), (9, .int (nI k)), (10, .int (esc C0 d k))]) S.1 S.2.1 dL_law_633 hl (by decide) rfl (fun ls hl => ?_)
      refine lv_iload S.1 S.2.1 dL_law_635 (lv_at hl 6 rfl) ?_
      refine lv_if_eq (tgt := 688) S.1 S.2.1 dL_law_637 (by decide) (fun c9 => absurd c9 (by decide)) (fun _ => ?_)
      refine lv_iload S.1 S.2.1 dL_law_640 (lv_at hl 10 rfl) ?_
      refine lv_iload S.1 S.2.1 dL_law_642 (lv_at hl 7 rfl) ?_
      refine lv_icmp_ge (tgt := 661) S.1 S.2.1 dL_law_644 (by decide) (fun c9 => absurd c9 (nI_ge hk (by omega))) (fun _ => ?_)
      refine lv_aload_n S.1 S.2.1 dL_law_647 rfl (lv_at hl 2 rfl) ?_
      refine lv_iload S.1 S.2.1 dL_law_648 (lv_at hl 10 rfl) ?_
      refine lv_iload S.1 S.2.1 dL_law_650 (lv_at hl 9 rfl) ?_
      refine lv_iconst (v := 0) S.1 S.2.1 dL_law_652 (by decide) ?_
      obtain ⟨u1, u2, u3⟩ := (V_pr V (k := k) (d := d) (by omega) (by omega)).1
      refine la_programme Z W0 hS V u1 hl.1 (Nat.le_of_ble_eq_true rfl) dL_law_653 ⟨by omega, by omega⟩ (fun H locs W0 hS => ?_)
      refine nt_i (y := (esc C0 d k)) (u2.trans (cg_es hr)) ?_
      have W0 : lx D cA B o ea Sk cnt C f H := by rw [← u3]; exact W0
      refine lv_iload S.1 S.2.1 dL_law_656 (lv_at hl 11 rfl) ?_
      refine lv_icmp_ne (tgt := 688) S.1 S.2.1 dL_law_658 (by decide) (fun c9 => absurd (rfl) c9) (fun _ => ?_)
      refine lv_aload_n S.1 S.2.1 dL_law_661 rfl (lv_at hl 2 rfl) ?_
      refine lv_iload S.1 S.2.1 dL_law_662 (lv_at hl 10 rfl) ?_
      refine lv_iload S.1 S.2.1 dL_law_664 (lv_at hl 9 rfl) ?_
      refine lv_iconst (v := 3) S.1 S.2.1 dL_law_666 (by decide) ?_
      obtain ⟨u1, u2, u3⟩ := (V_pr V (k := k) (d := d) (by omega) (by omega)).2.2.2.1
      refine la_programme Z W0 hS V u1 hl.1 (Nat.le_of_ble_eq_true rfl) dL_law_667 ⟨by omega, by omega⟩ (fun H locs W0 hS => ?_)
      refine nt_i (y := (tot C0 d k)) (u2.trans (cg_total hr d k)) ?_
      have W0 : lx D cA B o ea Sk cnt C f H := by rw [← u3]; exact W0
      refine lv_iload S.1 S.2.1 dL_law_670 (lv_at hl 0 rfl) ?_
      refine nj (J := 681) (V := ((if 0 ≤ (((esc C0 d k) + (f_X2_componentScores C0 k)) - (f_X2_fine C0 k)) then (((esc C0 d k) + (f_X2_componentScores C0 k)) - (f_X2_fine C0 k)) else 0) : Int32)) (L := fun v672_1 => [(14, .int (((esc C0 d k) + (f_X2_componentScores C0 k)) - (f_X2_fine C0 k))), (0, .ref b), (1, .ref o), (2, .int v), (3, .int (nI Sk)), (4, .int la), (5, .int 1), (6, .int (nI en)), (7, .ref ea), (8, .int (nI d)), (9, .int (nI k)), (10, .int (esc C0 d k))]) (St := fun v672_1 => [.int v672_1, .int (tot C0 d k)]) (n := 19) (fun v672_1 ls h672_3 hl => ?_) (fun j672_2 => ?_)
      · try dsimp only at hl ⊢
        subst h672_3
        refine lv_icmp_ne (tgt := 688) S.1 S.2.1 dL_law_681 (by decide) (fun c9 => absurd ((show tot C0 d k = ((if 0 ≤ (((esc C0 d k) + (f_X2_componentScores C0 k)) - (f_X2_fine C0 k)) then (((esc C0 d k) + (f_X2_componentScores C0 k)) - (f_X2_fine C0 k)) else 0) : Int32) from tot_if _)) c9) (fun _ => ?_)
        refine lv_iconst (v := 1) S.1 S.2.1 dL_law_684 (by decide) ?_
        refine lv_goto (tgt := 689) S.1 S.2.1 dL_law_685 (by decide) ?_
        refine lv_istore (lv' := [(5, .int 1), (14, .int (((esc C0 d k) + (f_X2_componentScores C0 k)) - (f_X2_fine C0 k))), (0, .ref b), (1, .ref o), (2, .int v), (3, .int (nI Sk)), (4, .int la), (6, .int (nI en)), (7, .ref ea), (8, .int (nI d)), (9, .int (nI k)), (10, .int (esc C0 d k))]) S.1 S.2.1 dL_law_689 hl (by decide) rfl (fun ls hl => ?_)
        refine lv_aload_n S.1 S.2.1 dL_law_691 rfl (lv_at hl 3 rfl) ?_
        refine lv_iload S.1 S.2.1 dL_law_692 (lv_at hl 10 rfl) ?_
        refine lv_iload S.1 S.2.1 dL_law_694 (lv_at hl 9 rfl) ?_
        refine lv_iconst (v := 5) S.1 S.2.1 dL_law_696 (by decide) ?_
        obtain ⟨u1, u2, u3⟩ := (V_pr V (k := k) (d := d) (by omega) (by omega)).2.2.2.2.2
        refine la_programme Z W0 hS V u1 hl.1 (Nat.le_of_ble_eq_true rfl) dL_law_697 ⟨by omega, by omega⟩ (fun H locs W0 hS => ?_)
        refine nt_i (y := (nI (rkN (tot C0 d) (esc C0 d) en k 12))) (u2.trans ((V_fill V hr d).rank hk)) ?_
        obtain ⟨C, W0, hr, V⟩ : ∃ C9 : Nat → Nat → Int32, lx D cA B o ea Sk cnt C9 f H ∧ rr C0 C9 ∧ LV Sk cnt en g C9 := ⟨_, by rw [← u3]; exact W0, rr_tr hr (rr_fill _ _), LV_co (co_fill _ _) V⟩
        refine lv_istore (lv' := [(15, .int (nI (rkN (tot C0 d) (esc C0 d) en k 12))), (5, .int 1), (14, .int (((esc C0 d k) + (f_X2_componentScores C0 k)) - (f_X2_fine C0 k))), (0, .ref b), (1, .ref o), (2, .int v), (3, .int (nI Sk)), (4, .int la), (6, .int (nI en)), (7, .ref ea), (8, .int (nI d)), (9, .int (nI k)), (10, .int (esc C0 d k))]) S.1 S.2.1 dL_law_700 hl (by decide) rfl (fun ls hl => ?_)
        refine lv_iload S.1 S.2.1 dL_law_702 (lv_at hl 1 rfl) ?_
        refine lv_if_eq (tgt := 770) S.1 S.2.1 dL_law_704 (by decide) (fun c9 => absurd c9 (by decide)) (fun _ => ?_)
        refine lv_iload S.1 S.2.1 dL_law_707 (lv_at hl 11 rfl) ?_
        refine lv_iload S.1 S.2.1 dL_law_709 (lv_at hl 8 rfl) ?_
        refine lv_icmp_ge (tgt := 747) S.1 S.2.1 dL_law_711 (by decide) (fun c9 => absurd c9 (nI_ge hk (by omega))) (fun _ => ?_)
        refine lv_iload S.1 S.2.1 dL_law_714 (lv_at hl 0 rfl) ?_
        refine lv_if_lt (tgt := 770) S.1 S.2.1 dL_law_716 (by decide) (fun c9 => absurd c9 (nI_pos (by omega))) (fun _ => ?_)
        refine lv_iload S.1 S.2.1 dL_law_719 (lv_at hl 0 rfl) ?_
        refine lv_iload S.1 S.2.1 dL_law_721 (lv_at hl 8 rfl) ?_
        refine lv_icmp_ge (tgt := 770) S.1 S.2.1 dL_law_723 (by decide) (fun c9 => absurd c9 (nI_ge hb1 (by omega))) (fun _ => ?_)
        refine lv_aload_n S.1 S.2.1 dL_law_726 rfl (lv_at hl 4 rfl) ?_
        refine lv_iload S.1 S.2.1 dL_law_727 (lv_at hl 10 rfl) ?_
        refine lv_iload S.1 S.2.1 dL_law_729 (lv_at hl 8 rfl) ?_
        refine lv_iconst (v := 1) S.1 S.2.1 dL_law_731 (by decide) ?_
        refine lv_isub S.1 S.2.1 dL_law_732 ?_
        refine nt_i (y := nI (en - 1)) (pk_sub (b := 1) (by omega)) ?_
        refine lv_iload S.1 S.2.1 dL_law_733 (lv_at hl 0 rfl) ?_
        refine lv_isub S.1 S.2.1 dL_law_735 ?_
        refine nt_i (y := nI (en - 1 - rkN (tot C0 d) (esc C0 d) en k 12)) (pk_sub (by omega)) ?_
        have VF := LV_co (co_fill C d) V
        have RF := V_fill V hr d
        obtain ⟨u1, u2, u3⟩ := V_st V (d := d) (p := (en - 1 - rkN (tot C0 d) (esc C0 d) en k 12)) (by omega) (by omega)
        refine la_starts Z W0 hS V u1 hl.1 (Nat.le_of_ble_eq_true rfl) dL_law_736 ⟨by omega, by omega⟩ (fun H locs W0 hS => ?_)
        refine nt_i (y := (nI k)) (u2.trans (RF.st_a hk)) ?_
        obtain ⟨C, W0, hr, V⟩ : ∃ C9 : Nat → Nat → Int32, lx D cA B o ea Sk cnt C9 f H ∧ rr C0 C9 ∧ LV Sk cnt en g C9 := ⟨_, by rw [← u3]; exact W0, rr_tr hr (rr_fill _ _), LV_co (co_fill _ _) V⟩
        refine lv_iload S.1 S.2.1 dL_law_739 (lv_at hl 11 rfl) ?_
        refine lv_icmp_ne (tgt := 770) S.1 S.2.1 dL_law_741 (by decide) (fun c9 => absurd (rfl) c9) (fun _ => ?_)
        refine lv_goto (tgt := 766) S.1 S.2.1 dL_law_744 (by decide) ?_
        refine lv_iconst (v := 1) S.1 S.2.1 dL_law_766 (by decide) ?_
        refine lv_goto (tgt := 771) S.1 S.2.1 dL_law_767 (by decide) ?_
        refine lv_istore (lv' := [(5, .int 1), (15, .int (nI (rkN (tot C0 d) (esc C0 d) en k 12))), (14, .int (((esc C0 d k) + (f_X2_componentScores C0 k)) - (f_X2_fine C0 k))), (0, .ref b), (1, .ref o), (2, .int v), (3, .int (nI Sk)), (4, .int la), (6, .int (nI en)), (7, .ref ea), (8, .int (nI d)), (9, .int (nI k)), (10, .int (esc C0 d k))]) S.1 S.2.1 dL_law_771 hl (by decide) rfl (fun ls hl => ?_)
        refine lv_iconst (v := 0) S.1 S.2.1 dL_law_773 (by decide) ?_
        refine lv_istore (lv' := [(16, .int 0), (5, .int 1), (15, .int (nI (rkN (tot C0 d) (esc C0 d) en k 12))), (14, .int (((esc C0 d k) + (f_X2_componentScores C0 k)) - (f_X2_fine C0 k))), (0, .ref b), (1, .ref o), (2, .int v), (3, .int (nI Sk)), (4, .int la), (6, .int (nI en)), (7, .ref ea), (8, .int (nI d)), (9, .int (nI k)), (10, .int (esc C0 d k))]) S.1 S.2.1 dL_law_774 hl (by decide) rfl (fun ls hl => ?_)
        refine lp_cmp Z KS0 hL (MC := cells + 119) (MS := slots + 714) ⟨by omega, by omega⟩ h5 V0 hes hf hd hk (fun C H locs ls W0 hr V hS hl => ?_) en 0 C H locs ls _ _ (by omega) ⟨by omega, by omega⟩ W0 hr V hS (lv_sub hl [4, 5, 6, 7, 8, 1, 9, 10, 11, 12, 2, 0] rfl)
        refine lv_iinc (v := nI (k + 1)) (lv' := [(9, .int (nI (k + 1))), (0, .ref b), (1, .ref o), (2, .int v), (3, .int (nI Sk)), (4, .int la), (5, .int 1), (6, .int (nI en)), (7, .ref ea), (8, .int (nI d))]) S.1 S.2.1 dL_law_934 hl (k := 9) rfl (nI_add k 1) (by decide) rfl (fun ls hl => ?_)
        refine lv_goto (tgt := 405) S.1 S.2.1 dL_law_937 (by decide) ?_
        exact ih (k + 1) C H locs ls _ _ (by omega) ⟨by omega, by omega⟩ W0 hr V hS (lv_sub hl [1, 2, 3, 4, 5, 6, 7, 8, 9, 0] rfl)
      · refine lv_if_ge (tgt := 679) S.1 S.2.1 dL_law_672 (by decide) (fun c672_4 => ?_) (fun c672_4 => ?_)
        · refine lv_iload S.1 S.2.1 dL_law_679 (lv_at hl 0 rfl) ?_
          exact j672_2 _ _ (by first | (rw [if_pos c672_4]; done) | (simp only [if_pos c672_4]; done) | rfl) (lv_sub hl [0, 1, 2, 3, 4, 5, 6, 7, 8, 9, 10, 11] rfl)
        · refine lv_iconst (v := 0) S.1 S.2.1 dL_law_675 (by decide) ?_
          refine lv_goto (tgt := 681) S.1 S.2.1 dL_law_676 (by decide) ?_
          exact j672_2 _ _ (by first | (rw [if_neg c672_4]; done) | (simp only [if_neg c672_4]; done) | rfl) (lv_sub hl [0, 1, 2, 3, 4, 5, 6, 7, 8, 9, 10, 11] rfl)
    · have hke : k = en := by omega
      refine lv_iload S.1 S.2.1 dL_law_405 (lv_at hl 9 rfl) ?_
      refine lv_iload_n S.1 S.2.1 dL_law_407 rfl (lv_at hl 3 rfl) ?_
      refine lv_icmp_ge (tgt := 940) S.1 S.2.1 dL_law_408 (by decide) (fun c9 => absurd c9 (nI_ge (by omega) (by omega))) (fun _ => ?_)
      refine lv_iload S.1 S.2.1 dL_law_411 (lv_at hl 5 rfl) ?_
      refine lv_if_eq (tgt := 940) S.1 S.2.1 dL_law_413 (by decide) (fun c9 => absurd c9 (by decide)) (fun _ => ?_)
      refine lv_iconst (v := 0) S.1 S.2.1 dL_law_416 (by decide) ?_
      refine lv_istore (lv' := [(10, .int 0), (0, .ref b), (1, .ref o), (2, .int v), (3, .int (nI Sk)), (4, .int la), (5, .int 1), (6, .int (nI en)), (7, .ref ea), (8, .int (nI d)), (9, .int (nI k))]) S.1 S.2.1 dL_law_417 hl (by decide) rfl (fun ls hl => ?_)
      refine lv_iconst (v := 0) S.1 S.2.1 dL_law_419 (by decide) ?_
      refine lv_istore (lv' := [(11, .int 0), (10, .int 0), (0, .ref b), (1, .ref o), (2, .int v), (3, .int (nI Sk)), (4, .int la), (5, .int 1), (6, .int (nI en)), (7, .ref ea), (8, .int (nI d)), (9, .int (nI k))]) S.1 S.2.1 dL_law_420 hl (by decide) rfl (fun ls hl => ?_)
      refine lv_iconst (v := 0) S.1 S.2.1 dL_law_422 (by decide) ?_
      refine lv_istore (lv' := [(12, .int 0), (11, .int 0), (10, .int 0), (0, .ref b), (1, .ref o), (2, .int v), (3, .int (nI Sk)), (4, .int la), (5, .int 1), (6, .int (nI en)), (7, .ref ea), (8, .int (nI d)), (9, .int (nI k))]) S.1 S.2.1 dL_law_423 hl (by decide) rfl (fun ls hl => ?_)
      refine lv_iconst (v := 0) S.1 S.2.1 dL_law_425 (by decide) ?_
      refine lv_istore (lv' := [(13, .int 0), (12, .int 0), (11, .int 0), (10, .int 0), (0, .ref b), (1, .ref o), (2, .int v), (3, .int (nI Sk)), (4, .int la), (5, .int 1), (6, .int (nI en)), (7, .ref ea), (8, .int (nI d)), (9, .int (nI k))]) S.1 S.2.1 dL_law_426 hl (by decide) rfl (fun ls hl => ?_)
      refine lv_iload S.1 S.2.1 dL_law_428 (lv_at hl 2 rfl) ?_
      refine lv_aload S.1 S.2.1 dL_law_430 (lv_at hl 11 rfl) ?_
      refine lv_iload S.1 S.2.1 dL_law_432 (lv_at hl 13 rfl) ?_
      refine la_ald Z W0 (j := k) (by omega) dL_law_434 ?_
      refine nt_i (y := 0) ((hf k (by omega)).trans (if_neg hk)) ?_
      refine lv_icmp_ge (tgt := 604) S.1 S.2.1 dL_law_435 (by decide) (fun _ => ?_) (fun c9 => absurd (by decide) c9)
      refine lv_aload_n S.1 S.2.1 dL_law_604 rfl (lv_at hl 5 rfl) ?_
      refine lv_iload S.1 S.2.1 dL_law_605 (lv_at hl 13 rfl) ?_
      refine lv_iload S.1 S.2.1 dL_law_607 (lv_at hl 12 rfl) ?_
      refine lv_iconst (v := 0) S.1 S.2.1 dL_law_609 (by decide) ?_
      obtain ⟨u1, u2, u3⟩ := (V_pr V (k := k) (d := d) (by omega) (by omega)).1
      refine la_programme Z W0 hS V u1 hl.1 (Nat.le_of_ble_eq_true rfl) dL_law_610 ⟨by omega, by omega⟩ (fun H locs W0 hS => ?_)
      refine nt_i (y := (esc C0 d k)) (u2.trans (cg_es hr)) ?_
      have W0 : lx D cA B o ea Sk cnt C f H := by rw [← u3]; exact W0
      refine lv_aload_n S.1 S.2.1 dL_law_613 rfl (lv_at hl 5 rfl) ?_
      refine lv_iload S.1 S.2.1 dL_law_614 (lv_at hl 13 rfl) ?_
      refine lv_iload S.1 S.2.1 dL_law_616 (lv_at hl 12 rfl) ?_
      refine lv_iconst (v := 1) S.1 S.2.1 dL_law_618 (by decide) ?_
      obtain ⟨u1, u2, u3⟩ := (V_pr V (k := k) (d := d) (by omega) (by omega)).2.1
      refine la_programme Z W0 hS V u1 hl.1 (Nat.le_of_ble_eq_true rfl) dL_law_619 ⟨by omega, by omega⟩ (fun H locs W0 hS => ?_)
      refine nt_i (y := (f_X2_componentScores C0 k)) (u2.trans (cg_cs hr)) ?_
      have W0 : lx D cA B o ea Sk cnt C f H := by rw [← u3]; exact W0
      refine lv_iadd S.1 S.2.1 dL_law_622 ?_
      refine lv_aload_n S.1 S.2.1 dL_law_623 rfl (lv_at hl 5 rfl) ?_
      refine lv_iload S.1 S.2.1 dL_law_624 (lv_at hl 13 rfl) ?_
      refine lv_iload S.1 S.2.1 dL_law_626 (lv_at hl 12 rfl) ?_
      refine lv_iconst (v := 2) S.1 S.2.1 dL_law_628 (by decide) ?_
      obtain ⟨u1, u2, u3⟩ := (V_pr V (k := k) (d := d) (by omega) (by omega)).2.2.1
      refine la_programme Z W0 hS V u1 hl.1 (Nat.le_of_ble_eq_true rfl) dL_law_629 ⟨by omega, by omega⟩ (fun H locs W0 hS => ?_)
      refine nt_i (y := (f_X2_fine C0 k)) (u2.trans (cg_fine hr)) ?_
      have W0 : lx D cA B o ea Sk cnt C f H := by rw [← u3]; exact W0
      refine lv_isub S.1 S.2.1 dL_law_632 ?_
      refine lv_istore (lv' := [(14, .int (((esc C0 d k) + (f_X2_componentScores C0 k)) - (f_X2_fine C0 k))), (13, .int 0), (12, .int 0), (11, .int 0), (10, .int 0), (0, .ref b), (1, .ref o), (2, .int v), (3, .int (nI Sk)), (4, .int la), (5, .int 1), (6, .int (nI en)), (7, .ref ea), (8, .int (nI d)), (9, .int (nI k))]) S.1 S.2.1 dL_law_633 hl (by decide) rfl (fun ls hl => ?_)
      refine lv_iload S.1 S.2.1 dL_law_635 (lv_at hl 10 rfl) ?_
      refine lv_if_eq (tgt := 688) S.1 S.2.1 dL_law_637 (by decide) (fun c9 => absurd c9 (by decide)) (fun _ => ?_)
      refine lv_iload S.1 S.2.1 dL_law_640 (lv_at hl 14 rfl) ?_
      refine lv_iload S.1 S.2.1 dL_law_642 (lv_at hl 11 rfl) ?_
      refine lv_icmp_ge (tgt := 661) S.1 S.2.1 dL_law_644 (by decide) (fun _ => ?_) (fun c9 => absurd (nI_le (by omega) (by omega)) c9)
      refine lv_aload_n S.1 S.2.1 dL_law_661 rfl (lv_at hl 6 rfl) ?_
      refine lv_iload S.1 S.2.1 dL_law_662 (lv_at hl 14 rfl) ?_
      refine lv_iload S.1 S.2.1 dL_law_664 (lv_at hl 13 rfl) ?_
      refine lv_iconst (v := 3) S.1 S.2.1 dL_law_666 (by decide) ?_
      obtain ⟨u1, u2, u3⟩ := (V_pr V (k := k) (d := d) (by omega) (by omega)).2.2.2.1
      refine la_programme Z W0 hS V u1 hl.1 (Nat.le_of_ble_eq_true rfl) dL_law_667 ⟨by omega, by omega⟩ (fun H locs W0 hS => ?_)
      refine nt_i (y := (tot C0 d k)) (u2.trans (cg_total hr d k)) ?_
      have W0 : lx D cA B o ea Sk cnt C f H := by rw [← u3]; exact W0
      refine lv_iload S.1 S.2.1 dL_law_670 (lv_at hl 0 rfl) ?_
      refine nj (J := 681) (V := ((if 0 ≤ (((esc C0 d k) + (f_X2_componentScores C0 k)) - (f_X2_fine C0 k)) then (((esc C0 d k) + (f_X2_componentScores C0 k)) - (f_X2_fine C0 k)) else 0) : Int32)) (L := fun v672_1 => [(14, .int (((esc C0 d k) + (f_X2_componentScores C0 k)) - (f_X2_fine C0 k))), (13, .int 0), (12, .int 0), (11, .int 0), (10, .int 0), (0, .ref b), (1, .ref o), (2, .int v), (3, .int (nI Sk)), (4, .int la), (5, .int 1), (6, .int (nI en)), (7, .ref ea), (8, .int (nI d)), (9, .int (nI k))]) (St := fun v672_1 => [.int v672_1, .int (tot C0 d k)]) (n := 19) (fun v672_1 ls h672_3 hl => ?_) (fun j672_2 => ?_)
      · try dsimp only at hl ⊢
        subst h672_3
        refine lv_icmp_ne (tgt := 688) S.1 S.2.1 dL_law_681 (by decide) (fun c9 => absurd ((show tot C0 d k = ((if 0 ≤ (((esc C0 d k) + (f_X2_componentScores C0 k)) - (f_X2_fine C0 k)) then (((esc C0 d k) + (f_X2_componentScores C0 k)) - (f_X2_fine C0 k)) else 0) : Int32) from tot_if _)) c9) (fun _ => ?_)
        refine lv_iconst (v := 1) S.1 S.2.1 dL_law_684 (by decide) ?_
        refine lv_goto (tgt := 689) S.1 S.2.1 dL_law_685 (by decide) ?_
        refine lv_istore (lv' := [(5, .int 1), (14, .int (((esc C0 d k) + (f_X2_componentScores C0 k)) - (f_X2_fine C0 k))), (13, .int 0), (12, .int 0), (11, .int 0), (10, .int 0), (0, .ref b), (1, .ref o), (2, .int v), (3, .int (nI Sk)), (4, .int la), (6, .int (nI en)), (7, .ref ea), (8, .int (nI d)), (9, .int (nI k))]) S.1 S.2.1 dL_law_689 hl (by decide) rfl (fun ls hl => ?_)
        refine lv_aload_n S.1 S.2.1 dL_law_691 rfl (lv_at hl 7 rfl) ?_
        refine lv_iload S.1 S.2.1 dL_law_692 (lv_at hl 14 rfl) ?_
        refine lv_iload S.1 S.2.1 dL_law_694 (lv_at hl 13 rfl) ?_
        refine lv_iconst (v := 5) S.1 S.2.1 dL_law_696 (by decide) ?_
        obtain ⟨u1, u2, u3⟩ := (V_pr V (k := k) (d := d) (by omega) (by omega)).2.2.2.2.2
        refine la_programme Z W0 hS V u1 hl.1 (Nat.le_of_ble_eq_true rfl) dL_law_697 ⟨by omega, by omega⟩ (fun H locs W0 hS => ?_)
        refine nt_i (y := (-1)) (u2.trans ((V_fill V hr d).rank0 (by omega) (by omega))) ?_
        obtain ⟨C, W0, hr, V⟩ : ∃ C9 : Nat → Nat → Int32, lx D cA B o ea Sk cnt C9 f H ∧ rr C0 C9 ∧ LV Sk cnt en g C9 := ⟨_, by rw [← u3]; exact W0, rr_tr hr (rr_fill _ _), LV_co (co_fill _ _) V⟩
        refine lv_istore (lv' := [(15, .int (-1)), (5, .int 1), (14, .int (((esc C0 d k) + (f_X2_componentScores C0 k)) - (f_X2_fine C0 k))), (13, .int 0), (12, .int 0), (11, .int 0), (10, .int 0), (0, .ref b), (1, .ref o), (2, .int v), (3, .int (nI Sk)), (4, .int la), (6, .int (nI en)), (7, .ref ea), (8, .int (nI d)), (9, .int (nI k))]) S.1 S.2.1 dL_law_700 hl (by decide) rfl (fun ls hl => ?_)
        refine lv_iload S.1 S.2.1 dL_law_702 (lv_at hl 1 rfl) ?_
        refine lv_if_eq (tgt := 770) S.1 S.2.1 dL_law_704 (by decide) (fun c9 => absurd c9 (by decide)) (fun _ => ?_)
        refine lv_iload S.1 S.2.1 dL_law_707 (lv_at hl 15 rfl) ?_
        refine lv_iload S.1 S.2.1 dL_law_709 (lv_at hl 12 rfl) ?_
        refine lv_icmp_ge (tgt := 747) S.1 S.2.1 dL_law_711 (by decide) (fun _ => ?_) (fun c9 => absurd (nI_le (by omega) (by omega)) c9)
        refine lv_iload S.1 S.2.1 dL_law_747 (lv_at hl 0 rfl) ?_
        refine lv_iconst (v := (-1)) S.1 S.2.1 dL_law_749 (by decide) ?_
        refine lv_icmp_ne (tgt := 770) S.1 S.2.1 dL_law_750 (by decide) (fun c9 => absurd (by decide) c9) (fun _ => ?_)
        refine lv_aload_n S.1 S.2.1 dL_law_753 rfl (lv_at hl 8 rfl) ?_
        refine lv_iload S.1 S.2.1 dL_law_754 (lv_at hl 14 rfl) ?_
        refine lv_iload S.1 S.2.1 dL_law_756 (lv_at hl 15 rfl) ?_
        have VF := LV_co (co_fill C d) V
        have RF := V_fill V hr d
        obtain ⟨u1, u2, u3⟩ := V_st V (d := d) (p := k) (by omega) (by omega)
        refine la_starts Z W0 hS V u1 hl.1 (Nat.le_of_ble_eq_true rfl) dL_law_758 ⟨by omega, by omega⟩ (fun H locs W0 hS => ?_)
        refine nt_i (y := (nI k)) (u2.trans (by rw [hke]; exact RF.st_b VF (by omega))) ?_
        obtain ⟨C, W0, hr, V⟩ : ∃ C9 : Nat → Nat → Int32, lx D cA B o ea Sk cnt C9 f H ∧ rr C0 C9 ∧ LV Sk cnt en g C9 := ⟨_, by rw [← u3]; exact W0, rr_tr hr (rr_fill _ _), LV_co (co_fill _ _) V⟩
        refine lv_iload S.1 S.2.1 dL_law_761 (lv_at hl 15 rfl) ?_
        refine lv_icmp_ne (tgt := 770) S.1 S.2.1 dL_law_763 (by decide) (fun c9 => absurd (rfl) c9) (fun _ => ?_)
        refine lv_iconst (v := 1) S.1 S.2.1 dL_law_766 (by decide) ?_
        refine lv_goto (tgt := 771) S.1 S.2.1 dL_law_767 (by decide) ?_
        refine lv_istore (lv' := [(5, .int 1), (15, .int (-1)), (14, .int (((esc C0 d k) + (f_X2_componentScores C0 k)) - (f_X2_fine C0 k))), (13, .int 0), (12, .int 0), (11, .int 0), (10, .int 0), (0, .ref b), (1, .ref o), (2, .int v), (3, .int (nI Sk)), (4, .int la), (6, .int (nI en)), (7, .ref ea), (8, .int (nI d)), (9, .int (nI k))]) S.1 S.2.1 dL_law_771 hl (by decide) rfl (fun ls hl => ?_)
        refine lv_iconst (v := 0) S.1 S.2.1 dL_law_773 (by decide) ?_
        refine lv_istore (lv' := [(16, .int 0), (5, .int 1), (15, .int (-1)), (14, .int (((esc C0 d k) + (f_X2_componentScores C0 k)) - (f_X2_fine C0 k))), (13, .int 0), (12, .int 0), (11, .int 0), (10, .int 0), (0, .ref b), (1, .ref o), (2, .int v), (3, .int (nI Sk)), (4, .int la), (6, .int (nI en)), (7, .ref ea), (8, .int (nI d)), (9, .int (nI k))]) S.1 S.2.1 dL_law_774 hl (by decide) rfl (fun ls hl => ?_)
        refine lv_iload S.1 S.2.1 dL_law_776 (lv_at hl 0 rfl) ?_
        refine lv_iload S.1 S.2.1 dL_law_778 (lv_at hl 13 rfl) ?_
        refine lv_icmp_ge (tgt := 934) S.1 S.2.1 dL_law_780 (by decide) (fun c780_4 => ?_) (fun c780_4 => ?_)
        · refine lv_iinc (v := nI (k + 1)) (lv' := [(9, .int (nI (k + 1))), (16, .int 0), (5, .int 1), (15, .int (-1)), (14, .int (((esc C0 d k) + (f_X2_componentScores C0 k)) - (f_X2_fine C0 k))), (13, .int 0), (12, .int 0), (11, .int 0), (10, .int 0), (0, .ref b), (1, .ref o), (2, .int v), (3, .int (nI Sk)), (4, .int la), (6, .int (nI en)), (7, .ref ea), (8, .int (nI d))]) S.1 S.2.1 dL_law_934 hl (k := 16) rfl (nI_add k 1) (by decide) rfl (fun ls hl => ?_)
          refine lv_goto (tgt := 405) S.1 S.2.1 dL_law_937 (by decide) ?_
          exact ih (k + 1) C H locs ls _ _ (by omega) ⟨by omega, by omega⟩ W0 hr V hS (lv_sub hl [9, 10, 11, 12, 13, 2, 14, 15, 16, 0] rfl)
        · refine lv_iload S.1 S.2.1 dL_law_783 (lv_at hl 1 rfl) ?_
          refine lv_if_eq (tgt := 934) S.1 S.2.1 dL_law_785 (by decide) (fun c9 => absurd c9 (by decide)) (fun _ => ?_)
          refine lv_iload S.1 S.2.1 dL_law_788 (lv_at hl 16 rfl) ?_
          refine lv_iload S.1 S.2.1 dL_law_790 (lv_at hl 13 rfl) ?_
          refine lv_icmp_ge (tgt := 934) S.1 S.2.1 dL_law_792 (by decide) (fun _ => ?_) (fun c9 => absurd (nI_le (by omega) (by omega)) c9)
          refine lv_iinc (v := nI (k + 1)) (lv' := [(9, .int (nI (k + 1))), (16, .int 0), (5, .int 1), (15, .int (-1)), (14, .int (((esc C0 d k) + (f_X2_componentScores C0 k)) - (f_X2_fine C0 k))), (13, .int 0), (12, .int 0), (11, .int 0), (10, .int 0), (0, .ref b), (1, .ref o), (2, .int v), (3, .int (nI Sk)), (4, .int la), (6, .int (nI en)), (7, .ref ea), (8, .int (nI d))]) S.1 S.2.1 dL_law_934 hl (k := 16) rfl (nI_add k 1) (by decide) rfl (fun ls hl => ?_)
          refine lv_goto (tgt := 405) S.1 S.2.1 dL_law_937 (by decide) ?_
          exact ih (k + 1) C H locs ls _ _ (by omega) ⟨by omega, by omega⟩ W0 hr V hS (lv_sub hl [9, 10, 11, 12, 13, 2, 14, 15, 16, 0] rfl)
      · refine lv_if_ge (tgt := 679) S.1 S.2.1 dL_law_672 (by decide) (fun c672_5 => ?_) (fun c672_5 => ?_)
        · refine lv_iload S.1 S.2.1 dL_law_679 (lv_at hl 0 rfl) ?_
          exact j672_2 _ _ (by first | (rw [if_pos c672_5]; done) | (simp only [if_pos c672_5]; done) | rfl) (lv_sub hl [0, 1, 2, 3, 4, 5, 6, 7, 8, 9, 10, 11, 12, 13, 14] rfl)
        · refine lv_iconst (v := 0) S.1 S.2.1 dL_law_675 (by decide) ?_
          refine lv_goto (tgt := 681) S.1 S.2.1 dL_law_676 (by decide) ?_
          exact j672_2 _ _ (by first | (rw [if_neg c672_5]; done) | (simp only [if_neg c672_5]; done) | rfl) (lv_sub hl [0, 1, 2, 3, 4, 5, 6, 7, 8, 9, 10, 11, 12, 13, 14] rfl)

set_option maxHeartbeats 8000000 in
set_option maxRecDepth 100000 in
theorem lp_ed (Z : Zw p l s m args c cL_law 19 D cA B R) (KS0 : KS D cA B b L xs s) (hL : L < 2 ^ 31) {MC MS : Nat} (hMC : MC ≤ R.cells ∧ MS ≤ R.slots) (h5 : Sk ≤ 5) {cnt : Nat → Nat} {en g : Nat} {C0 : Nat → Nat → Int32} {f : Nat → Int32} {v la : Int32} (V0 : LV Sk cnt en g C0) (hes : en + g = Sk) (hf : ∀ i, i < 5 → f i = if i < en then nI (cnt i) else 0)
    (ke : ∀ (H : Heap) (locs : List Loc) (ls : Array Slot), va_S (fun q => B ≤ q) s.heap H locs → lv_has ls 19 [(5, .int 1)] → W p l e R s m args below meth c H locs MC MS Q (F0 m 970 ls [])) :
    ∀ (n : Nat) (d : Nat) (C : Nat → Nat → Int32) (H : Heap) (locs : List Loc) (ls : Array Slot) (cells slots : Nat), d + n = 2 → cells + 651 * n ≤ MC ∧ slots + 4006 * n ≤ MS → lx D cA B o ea Sk cnt C f H → rr C0 C → LV Sk cnt en g C → va_S (fun q => B ≤ q) s.heap H locs → lv_has ls 19 [(0, .ref b), (1, .ref o), (2, .int v), (3, .int (nI Sk)), (4, .int la), (5, .int 1), (6, .int (nI en)), (7, .ref ea), (8, .int (nI d))] → W p l e R s m args below meth c H locs cells slots Q (F0 m 391 ls []) := by
  obtain ⟨S, K, hls, hR1, hR2⟩ := id Z
  intro n
  induction n with
  | zero =>
    intro d C H locs ls cells slots hj hc W0 hr V hS hl
    refine lv_iload S.1 S.2.1 dL_law_391 (lv_at hl 8 rfl) ?_
    refine lv_iconst (v := 2) S.1 S.2.1 dL_law_393 (by decide) ?_
    refine lv_icmp_ge (tgt := 970) S.1 S.2.1 dL_law_394 (by decide) (fun _ => ?_) (fun c9 => absurd (by rw [show d = 2 by omega]; decide) c9)
    exact W.widen (k := MC) (n := MS) (by omega) (by omega) (ke H locs ls hS (lv_sub hl [5] rfl))
  | succ n ih =>
    intro d C H locs ls cells slots hj hc W0 hr V hS hl
    refine lv_iload S.1 S.2.1 dL_law_391 (lv_at hl 8 rfl) ?_
    refine lv_iconst (v := 2) S.1 S.2.1 dL_law_393 (by decide) ?_
    refine lv_icmp_ge (tgt := 970) S.1 S.2.1 dL_law_394 (by decide) (fun c9 => absurd c9 (nI_ge (b := 2) (by omega) (by decide))) (fun _ => ?_)
    refine lv_iload S.1 S.2.1 dL_law_397 (lv_at hl 5 rfl) ?_
    refine lv_if_eq (tgt := 970) S.1 S.2.1 dL_law_399 (by decide) (fun c9 => absurd c9 (by decide)) (fun _ => ?_)
    refine lv_iconst (v := 0) S.1 S.2.1 dL_law_402 (by decide) ?_
    refine lv_istore (lv' := [(9, .int 0), (0, .ref b), (1, .ref o), (2, .int v), (3, .int (nI Sk)), (4, .int la), (5, .int 1), (6, .int (nI en)), (7, .ref ea), (8, .int (nI d))]) S.1 S.2.1 dL_law_403 hl (by decide) rfl (fun ls hl => ?_)
    refine lp_k Z KS0 hL (MC := cells + 650) (MS := slots + 4000) ⟨by omega, by omega⟩ h5 V0 hes hf (show d < 2 by omega) (fun C H locs ls W0 hr V hS hl => ?_) Sk 0 C H locs ls _ _ (by omega) ⟨by omega, by omega⟩ W0 hr V hS (lv_sub hl [1, 2, 3, 4, 5, 6, 7, 8, 9, 0] rfl)
    refine lv_iload S.1 S.2.1 dL_law_940 (lv_at hl 5 rfl) ?_
    refine lv_if_eq (tgt := 961) S.1 S.2.1 dL_law_942 (by decide) (fun c9 => absurd c9 (by decide)) (fun _ => ?_)
    refine lv_aload_n S.1 S.2.1 dL_law_945 rfl (lv_at hl 1 rfl) ?_
    refine lv_iload S.1 S.2.1 dL_law_946 (lv_at hl 8 rfl) ?_
    refine lv_bipush (v := 11) S.1 S.2.1 dL_law_948 (by decide) ?_
    have VF := LV_co (co_fill C d) V
    have RF := V_fill V hr d
    obtain ⟨u1, u2, u3⟩ := V_st V (d := d) (p := 11) (by omega) (by decide)
    refine la_starts Z W0 hS V u1 hl.1 (Nat.le_of_ble_eq_true rfl) dL_law_950 ⟨by omega, by omega⟩ (fun H locs W0 hS => ?_)
    refine nt_i (y := (-1)) (u2.trans (RF.st_c VF h5)) ?_
    obtain ⟨C, W0, hr, V⟩ : ∃ C9 : Nat → Nat → Int32, lx D cA B o ea Sk cnt C9 f H ∧ rr C0 C9 ∧ LV Sk cnt en g C9 := ⟨_, by rw [← u3]; exact W0, rr_tr hr (rr_fill _ _), LV_co (co_fill _ _) V⟩
    refine lv_iconst (v := (-1)) S.1 S.2.1 dL_law_953 (by decide) ?_
    refine lv_icmp_ne (tgt := 961) S.1 S.2.1 dL_law_954 (by decide) (fun c9 => absurd (by decide) c9) (fun _ => ?_)
    refine lv_iconst (v := 1) S.1 S.2.1 dL_law_957 (by decide) ?_
    refine lv_goto (tgt := 962) S.1 S.2.1 dL_law_958 (by decide) ?_
    refine lv_istore (lv' := [(5, .int 1), (0, .ref b), (1, .ref o), (2, .int v), (3, .int (nI Sk)), (4, .int la), (6, .int (nI en)), (7, .ref ea), (8, .int (nI d))]) S.1 S.2.1 dL_law_962 hl (by decide) rfl (fun ls hl => ?_)
    refine lv_iinc (v := nI (d + 1)) (lv' := [(8, .int (nI (d + 1))), (5, .int 1), (0, .ref b), (1, .ref o), (2, .int v), (3, .int (nI Sk)), (4, .int la), (6, .int (nI en)), (7, .ref ea)]) S.1 S.2.1 dL_law_964 hl (k := 8) rfl (nI_add d 1) (by decide) rfl (fun ls hl => ?_)
    refine lv_goto (tgt := 391) S.1 S.2.1 dL_law_967 (by decide) ?_
    exact ih (d + 1) C H locs ls _ _ (by omega) ⟨by omega, by omega⟩ W0 hr V hS (lv_sub hl [2, 3, 4, 5, 6, 1, 7, 8, 0] rfl)

end LL3
