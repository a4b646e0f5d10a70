/-! p18: the law's first steps (printed by wip/p18/gen/law4.py) -/
def Cini : Nat → Nat → Int32 := fun r i => if r = 0 then (if i = 5 then (-1) else 0) else if r = 2 then (if i < 3 then 1 else 0) else if 33 ≤ r ∧ r < 36 then fvI i else 0
theorem LV_ini : LV 0 (fun _ => 0) 0 0 Cini :=
  ⟨by omega, by omega, by omega, rfl, rfl, fun j hj => ⟨fun z => absurd rfl z, fun z => absurd z (Nat.not_lt_zero _)⟩, fun d hd => by
    show ¬ (if d < 3 then (1 : Int32) else 0) = 0
    rw [if_pos hd]
    exact one_n, fun k hk => absurd hk (Nat.not_lt_zero _), fun k hk => absurd hk (Nat.not_lt_zero _), fun k hk => absurd hk (Nat.not_lt_zero _), fun k hk => absurd hk (Nat.not_lt_zero _), fun k hk => absurd hk (Nat.not_lt_zero _), fun k hk => absurd hk (Nat.not_lt_zero _), fun k hk => absurd hk (Nat.not_lt_zero _), fun k hk => absurd hk (Nat.not_lt_zero _), fun k hk => absurd hk (Nat.not_lt_zero _)⟩
def ad0 (n : Nat) : Nat → Nat := fun r => if r ≤ 4 then n + r else if r < 33 then n + 5 + 2 * (r - 30) else if r < 36 then n + 6 + 2 * (r - 33) else 0
theorem rf_ed (ad : Nat → Nat) : rf ad 30 (Cini 2) = va_up (va_up (va_up (fun _ => none) 0 (some (ad (30 + 0)))) 1 (some (ad (30 + 1)))) 2 (some (ad (30 + 2))) := by
  funext i
  show (if (if i < 3 then (1 : Int32) else 0) = 0 then none else some (ad (30 + i))) = _
  unfold va_up
  by_cases h2 : i = 2
  · subst h2; rfl
  · by_cases h1 : i = 1
    · subst h1; rfl
    · by_cases h0 : i = 0
      · subst h0; rfl
      · rw [if_neg h2, if_neg h1, if_neg h0, if_neg (show ¬ i < 3 by omega), if_pos rfl]
theorem dmk_ini {r : Nat} (h : dmk 0 (fun _ => 0) r) : r < 5 ∨ r = 6 ∨ (30 ≤ r ∧ r < 36) := by
  rcases h with h | h | h | ⟨k, hk, h⟩ | ⟨k, i, hk, hi, h⟩
  · exact Or.inl h
  · exact Or.inr (Or.inl h)
  · exact Or.inr (Or.inr h)
  · exact absurd hk (Nat.not_lt_zero _)
  · exact absurd hk (Nat.not_lt_zero _)
section LF
variable {p : Program} {l : Launch} {e : Env} {R : Room} {s : State} {m : MethodId} {args : Array Value} {below : List Frame} {meth : Method} {c : Code} {Q : State → Prop}
variable {D : va_G} {cA : Nat → ClassId} {B b L : Nat} {xs : Nat → Int32}

set_option maxHeartbeats 4000000 in
theorem lw_first (S : CallFix p m c cL_law 19 s args WU RL) (KS0 : KS D cA B b L xs s) (hL : L < 2 ^ 31) (hR : 8 ≤ R.frames ∧ 220 ≤ R.locals) (hcs : 12 ≤ R.cells ∧ 158 ≤ R.slots) {ls : Array Slot} (hl : lv_has ls 19 [(0, .ref b)]) (kk : ∀ (o ea Sk : Nat) (v la : Int32) (H : Heap) (locs : List Loc) (ls : Array Slot), 1 ≤ Sk → Sk ≤ 5 → lx D cA B o ea 0 (fun _ => 0) Cini (fun _ => 0) H → va_S (fun q => B ≤ q) s.heap H locs → lv_has ls 19 [(0, .ref b), (1, .ref o), (2, .int v), (3, .int (nI Sk)), (4, .int la), (5, .int 1), (6, .int 0), (7, .ref ea), (8, .int (nI 0))] → W p l e R s m args below meth c H locs 12 158 Q (F0 m 53 ls [])) : W p l e R s m args below meth c s.heap [] 0 0 Q (F0 m 0 ls []) := by
  obtain ⟨hR1, hR2⟩ := hR
  have K := KS0.1
  have hS : va_S (fun q => B ≤ q) s.heap s.heap [] := va_S.rf
  have N0 : nh D B (fun _ => False) (ad0 s.heap.size) (fun _ => .inl (cA 0, 0, .inl fun _ => 0)) s.heap := ⟨fun r h => h.elim, fun a b h => h.elim⟩
  refine nr_new S K N0 hS 0 id rfl (ci := 4) (C := RX4) (T := TX4) (n := 6) rfl iWX4 tyX4 tyX4_ok k1_14 k1_15 k1_1 [.null, .null, .null, .null, .int 0, .null] hf_X4 (by omega) (by omega) dL_law_0 (fun H1 N1 hS hz1 => ?_)
  refine lv_dup S.1 S.2.1 dL_law_3 rfl ?_
  refine nc_wI (As := []) (rest := [.ref (ad0 s.heap.size 0)]) S K hS (m_X4_init l 0 N1 (by decide) (Or.inr rfl) (va_up_self _ _ _) (by simp) (by simp) (by simp) (by simp) (by simp) (by simp) (by simp) (by simp) (by simp) (by simp) (by rw [hz1]; rfl) (by rw [hz1]; rfl) (by rw [hz1]; rfl) (by rw [hz1]; rfl) (by rw [hz1]; rfl) (by rw [hz1]; rfl) (by rw [hz1]; rfl) (by rw [hz1]; rfl) (by rw [hz1]; rfl) (by rw [hz1]; rfl)) k1_16 k1_17 rfl k1_1 k1_18 (num := 0) (by decide +kernel) rfl ⟨by omega, by omega⟩ hl.1 rfl (Nat.le_of_ble_eq_true rfl) dL_law_4 ⟨by omega, by omega⟩ (fun v9 H locs hP hS => ?_)
  obtain ⟨rfl, hz2, N2⟩ := hP
  refine lv_astore_n (lv' := [(1, .ref (ad0 s.heap.size 0)), (0, .ref b)]) S.1 S.2.1 dL_law_7 rfl hl (by decide) rfl (fun ls hl => ?_)

  refine lv_aload_n S.1 S.2.1 dL_law_8 rfl (lv_at hl 1 rfl) ?_
  refine lv_iconst (v := 0) S.1 S.2.1 dL_law_9 (by decide) ?_
  refine nc_rSS S KS0 hS (As := [.ref b, .int 0]) (m_cell l (0) (by omega) hL) k2_192 k2_193 k1_0 k2_194 (num := 2) (by decide +kernel) rfl ⟨by omega, by omega⟩ hl.1 rfl (Nat.le_of_ble_eq_true rfl) dL_law_10 ⟨by omega, by omega⟩ ?_
  generalize cellV L xs (0) = v
  refine lv_istore_n (lv' := [(2, .int v), (1, .ref (ad0 s.heap.size 0)), (0, .ref b)]) S.1 S.2.1 dL_law_13 rfl hl (by decide) rfl (fun ls hl => ?_)
  refine lv_iconst (v := 1) S.1 S.2.1 dL_law_14 (by decide) ?_
  refine lv_iload_n S.1 S.2.1 dL_law_15 rfl (lv_at hl 0 rfl) ?_
  refine lv_iconst (v := 5) S.1 S.2.1 dL_law_16 (by decide) ?_
  refine nc_rS S KS0.1 hS (As := [.int v, .int 5]) (m_low l v 5 (by decide) (by decide)) k2_195 k2_196 k1_0 k2_197 (num := 2) (by decide +kernel) rfl ⟨by omega, by omega⟩ hl.1 rfl (Nat.le_of_ble_eq_true rfl) dL_law_17 ⟨by omega, by omega⟩ ?_
  have hmn : lowN v 5 < 5 := lowN_lt _ (by decide)
  generalize lowN v 5 = mn at hmn ⊢
  refine lv_iadd S.1 S.2.1 dL_law_20 ?_
  refine nt_i (y := nI (1 + mn)) (nI_add 1 mn) ?_
  refine lv_istore_n (lv' := [(3, .int (nI (1 + mn))), (2, .int v), (1, .ref (ad0 s.heap.size 0)), (0, .ref b)]) S.1 S.2.1 dL_law_21 rfl hl (by decide) rfl (fun ls hl => ?_)
  refine lv_iload_n S.1 S.2.1 dL_law_22 rfl (lv_at hl 1 rfl) ?_
  refine lv_iconst (v := 3) S.1 S.2.1 dL_law_23 (by decide) ?_
  refine lv_ishr S.1 S.2.1 dL_law_24 ?_
  refine lv_iconst (v := 3) S.1 S.2.1 dL_law_25 (by decide) ?_
  refine nc_rS S KS0.1 hS (As := [.int (v >>> (3 &&& 31)), .int 3]) (m_low l (v >>> (3 &&& 31)) 3 (by decide) (by decide)) k2_195 k2_196 k1_0 k2_197 (num := 2) (by decide +kernel) rfl ⟨by omega, by omega⟩ hl.1 rfl (Nat.le_of_ble_eq_true rfl) dL_law_26 ⟨by omega, by omega⟩ ?_
  have hls3 : lowN (v >>> (3 &&& 31)) 3 < 3 := lowN_lt _ (by decide)
  generalize lowN (v >>> (3 &&& 31)) 3 = ls3 at hls3 ⊢
  refine nj (J := 37) (V := ((if (nI ls3) ≤ 0 then 0 else 1) : Int32)) (L := fun v29_1 => [(3, .int (nI (1 + mn))), (2, .int v), (1, .ref (ad0 s.heap.size 0)), (0, .ref b)]) (St := fun v29_1 => [.int v29_1]) (n := 19) (fun v29_1 ls h29_3 hl => ?_) (fun j29_2 => ?_)
  · try dsimp only at hl ⊢
    subst h29_3
    refine lv_istore (lv' := [(4, .int ((if (nI ls3) ≤ 0 then 0 else 1) : Int32)), (3, .int (nI (1 + mn))), (2, .int v), (1, .ref (ad0 s.heap.size 0)), (0, .ref b)]) S.1 S.2.1 dL_law_37 hl (by decide) rfl (fun ls hl => ?_)
    refine lv_iconst (v := 1) S.1 S.2.1 dL_law_39 (by decide) ?_
    refine lv_istore (lv' := [(5, .int 1), (4, .int ((if (nI ls3) ≤ 0 then 0 else 1) : Int32)), (3, .int (nI (1 + mn))), (2, .int v), (1, .ref (ad0 s.heap.size 0)), (0, .ref b)]) S.1 S.2.1 dL_law_40 hl (by decide) rfl (fun ls hl => ?_)
    refine lv_iconst (v := 0) S.1 S.2.1 dL_law_42 (by decide) ?_
    refine lv_istore (lv' := [(6, .int 0), (5, .int 1), (4, .int ((if (nI ls3) ≤ 0 then 0 else 1) : Int32)), (3, .int (nI (1 + mn))), (2, .int v), (1, .ref (ad0 s.heap.size 0)), (0, .ref b)]) S.1 S.2.1 dL_law_43 hl (by decide) rfl (fun ls hl => ?_)
    refine lv_iconst (v := 5) S.1 S.2.1 dL_law_45 (by decide) ?_
    have h6 : ¬ (fun q => ((((((((((False ∨ q = 0) ∨ q = 1) ∨ q = 2) ∨ q = 3) ∨ q = 4) ∨ q = (30 + 0)) ∨ q = (33 + 0)) ∨ q = (30 + 1)) ∨ q = (33 + 1)) ∨ q = (30 + 2)) ∨ q = (33 + 2)) 6 := by
      simp only [false_or]
      omega
    obtain ⟨ad1, hd1, hd6⟩ : ∃ ad1 : Nat → Nat, (∀ r, ¬ r = 6 → ad1 r = ad0 s.heap.size r) ∧ ad1 6 = H.size := ⟨fun r => if r = 6 then H.size else ad0 s.heap.size r, fun r hr => if_neg hr, if_pos rfl⟩
    rw [← hd1 0 (by decide)] at hl
    have N3 := nh_congr (ad' := ad1) N2 (fun r hr => hd1 r (fun z => h6 (z ▸ hr))) (fun _ _ => rfl)
    refine nr_newa S K N3 hS 6 h6 hd6 (atype := .int) (ty := .int) rfl (fun C h => by cases h) k1_44 0 rfl (i := 5) (n := 5) (by decide) (by decide) (by decide) (5, .inl fun _ => 0) (fun cA => rfl) (by omega) (by omega) dL_law_46 (fun H N5 hS hz5 => ?_)
    refine lv_astore (lv' := [(7, .ref (ad1 6)), (6, .int 0), (5, .int 1), (4, .int ((if (nI ls3) ≤ 0 then 0 else 1) : Int32)), (3, .int (nI (1 + mn))), (2, .int v), (1, .ref (ad1 0)), (0, .ref b)]) S.1 S.2.1 dL_law_48 hl (by decide) rfl (fun ls hl => ?_)
    refine lv_iconst (v := 0) S.1 S.2.1 dL_law_50 (by decide) ?_
    refine lv_istore (lv' := [(8, .int 0), (7, .ref (ad1 6)), (6, .int 0), (5, .int 1), (4, .int ((if (nI ls3) ≤ 0 then 0 else 1) : Int32)), (3, .int (nI (1 + mn))), (2, .int v), (1, .ref (ad1 0)), (0, .ref b)]) S.1 S.2.1 dL_law_51 hl (by decide) rfl (fun ls hl => ?_)
    refine kk (ad1 0) (ad1 6) (1 + mn) v _ H locs ls (by omega) (by omega) ⟨ad1, _, rfl, rfl, nh_sub N5 (fun r hr => ?_), fun r hc hr => ?_, va_up_self _ _ _⟩ hS (lv_sub hl [8, 7, 6, 5, 4, 3, 2, 1, 0] rfl)
    · have := dmk_ini hr
      simp only [false_or]
      omega
    · have q := dmk_ini hr
      unfold crole at hc
      have q2 : r = 0 ∨ r = 1 ∨ r = 2 ∨ r = 3 ∨ r = 4 ∨ r = 30 + 0 ∨ r = 30 + 1 ∨ r = 30 + 2 ∨ r = 33 + 0 ∨ r = 33 + 1 ∨ r = 33 + 2 := by omega
      rw [va_up_ne _ _ (by omega)]
      rcases q2 with rfl | rfl | rfl | rfl | rfl | rfl | rfl | rfl | rfl | rfl | rfl
      all_goals (repeat (first | rw [va_up_self] | rw [va_up_ne _ _ (by omega)]))
      · show (.inr (4, [.ref (ad0 s.heap.size 1), .ref (ad0 s.heap.size 2), .ref (ad0 s.heap.size 3), .ref (ad0 s.heap.size 4), .int 0, .null]) : va_E) = .inr (4, [.ref (ad1 1), .ref (ad1 2), .ref (ad1 3), .ref (ad1 4), .int 0, .null])
        rw [hd1 1 (by decide), hd1 2 (by decide), hd1 3 (by decide), hd1 4 (by decide)]
      · show _ = (.inl (cA 5, 12, .inr (.inr (.inr (.inr (rf ad1 40 (fun _ => 0)))))) : va_E)
        rw [rf_none]
      · rw [sh_2, rf_ed, hd1 (30 + 0) (by decide), hd1 (30 + 1) (by decide), hd1 (30 + 2) (by decide)]
      · rfl
      · rfl
      · rw [sh_ed (by decide), hd1 (33 + 0) (by decide)]
      · rw [sh_ed (by decide), hd1 (33 + 1) (by decide)]
      · rw [sh_ed (by decide), hd1 (33 + 2) (by decide)]
      · rw [sh_va (by decide)]
        rfl
      · rw [sh_va (by decide)]
        rfl
      · rw [sh_va (by decide)]
        rfl
  · refine lv_if_le (tgt := 36) S.1 S.2.1 dL_law_29 (by decide) (fun c29_4 => ?_) (fun c29_4 => ?_)
    · refine lv_iconst (v := 0) S.1 S.2.1 dL_law_36 (by decide) ?_
      exact j29_2 _ _ (by first | (rw [if_pos c29_4]; done) | (simp only [if_pos c29_4]; done) | rfl) (lv_sub hl [0, 1, 2, 3] rfl)
    · refine lv_iconst (v := 1) S.1 S.2.1 dL_law_32 (by decide) ?_
      refine lv_goto (tgt := 37) S.1 S.2.1 dL_law_33 (by decide) ?_
      exact j29_2 _ _ (by first | (rw [if_neg c29_4]; done) | (simp only [if_neg c29_4]; done) | rfl) (lv_sub hl [0, 1, 2, 3] rfl)
end LF
