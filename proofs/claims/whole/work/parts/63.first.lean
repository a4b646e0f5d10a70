/-! THE LAW'S FIRST STEPS: the class, the reference, the list out -/
theorem hf_X5 : ∀ j, j < 23 → defaultValue (tyX5 j) = vp_V [.int 0, .int 0, .int 0, .int 0, .int 0, .int 0, .null, .null, .null, .null, .null, .null, .null, .null, .null, .null, .null, .null, .null, .int 0, .int 0, .int 0, .int 0] j := by decide +kernel
def ad0 (n : Nat) : Nat → Nat := fun r => if r ≤ 4 then n + r else if r = 5 then n + 11 else if r < 29 then n + 12 + (r - 16) else if r < 33 then n + 5 + 2 * (r - 30) else if r < 36 then n + 6 + 2 * (r - 33) else 0
theorem ad0_m (n j : Nat) (h : j < 13) : ad0 n (16 + j) = n + 12 + j := by
  unfold ad0
  rw [if_neg (by omega), if_neg (by omega), if_pos (by omega)]
  omega
theorem rf_ed (ad : Nat → Nat) : rf ad 30 (C0 2) = va_up (va_up (va_up (fun _ => none) 0 (some (ad (30 + 0)))) 1 (some (ad (30 + 1)))) 2 (some (ad (30 + 2))) := by
  funext i
  show (if (if i < 3 then (1 : Int32) else 0) = 0 then none else some (ad (30 + i))) = _
  unfold va_up
  by_cases h2 : i = 2
  · subst h2; rfl
  · by_cases h1 : i = 1
    · subst h1; rfl
    · by_cases h0 : i = 0
      · subst h0; rfl
      · rw [if_neg h2, if_neg h1, if_neg h0, if_neg (show ¬ i < 3 by omega), if_pos rfl]
theorem nS_init : nS g_X5_init = 0 := by
  unfold nS
  rw [← J_init.ro.1]
  rfl
theorem dmn_init {r : Nat} (h : dmn g_X5_init r) : r ≤ 6 ∨ (16 ≤ r ∧ r ≤ 28) ∨ (30 ≤ r ∧ r < 36) := by
  rcases h with h | h | h | ⟨k, hk, h⟩ | ⟨k, i, hk, hi, h⟩
  · exact Or.inl h
  · exact Or.inr (Or.inl h)
  · exact Or.inr (Or.inr h)
  · rw [nS_init] at hk
    exact absurd hk (Nat.not_lt_zero _)
  · rw [nS_init] at hk
    exact absurd hk (Nat.not_lt_zero _)
section LF
variable {p : Program} {l : Launch} {e : Env} {R : Room} {s : State} {m : MethodId} {args : Array Value} {below : List Frame} {meth : Method} {c : Code} {Q : State → Prop}
variable {D : va_G} {cA : Nat → ClassId} {B b : Nat}
set_option maxHeartbeats 4000000 in
theorem lw_first (S : CallFix p m c cL_law 7 s args WU RL) (K : KK D cA B s) (hR : 8 ≤ R.frames ∧ 220 ≤ R.locals) (hcs : 26 ≤ R.cells ∧ 2856 ≤ R.slots) {ls : Array Slot} (hl : lv_has ls 7 [(0, .ref b)]) (kk : ∀ (ad : Nat → Nat) (H1 : Heap) (locs1 : List Loc) (ls1 : Array Slot), jw D cA B ad C0 g_X5_init H1 → va_S (fun q => B ≤ q) s.heap H1 locs1 → lv_has ls1 7 [(0, .ref b), (1, .ref (ad 0)), (2, .ref (ad 5)), (3, .ref (ad 6)), (4, .int (nI 0))] → W p l e R s m args below meth c H1 locs1 26 2856 Q (F0 m 23 ls1 [])) : W p l e R s m args below meth c s.heap [] 0 0 Q (F0 m 0 ls []) := by
  obtain ⟨hR1, hR2⟩ := hR
  have hS : va_S (fun q => B ≤ q) s.heap s.heap [] := va_S.rf
  have N0 : nh D B (fun _ => False) (ad0 s.heap.size) (fun _ => .inl (cA 0, 0, .inl fun _ => 0)) s.heap := ⟨fun r h => h.elim, fun a b h => h.elim⟩
  refine nr_new S K N0 hS 0 id rfl (ci := 4) (C := RX4) (T := TX4) (n := 6) rfl iWX4 tyX4 tyX4_ok k1_15 k1_16 k1_1 [.null, .null, .null, .null, .int 0, .null] hf_X4 (by omega) (by omega) dL_law_0 (fun H1 N1 hS hz1 => ?_)
  refine lv_dup S.1 S.2.1 dL_law_3 rfl ?_
  refine nc_wI (As := []) (rest := [.ref (ad0 s.heap.size 0)]) S K hS (m_X4_init l 0 N1 (by decide) (Or.inr rfl) (va_up_self _ _ _) (by simp) (by simp) (by simp) (by simp) (by simp) (by simp) (by simp) (by simp) (by simp) (by simp) (by rw [hz1]; rfl) (by rw [hz1]; rfl) (by rw [hz1]; rfl) (by rw [hz1]; rfl) (by rw [hz1]; rfl) (by rw [hz1]; rfl) (by rw [hz1]; rfl) (by rw [hz1]; rfl) (by rw [hz1]; rfl) (by rw [hz1]; rfl)) k1_17 k1_18 rfl k1_1 k1_19 (num := 0) (by decide +kernel) rfl ⟨by omega, by omega⟩ hl.1 rfl (Nat.le_of_ble_eq_true rfl) dL_law_4 ⟨by omega, by omega⟩ (fun v9 H2 locs2 hP hS => ?_)
  obtain ⟨rfl, hz2, N2⟩ := hP
  refine lv_astore_n (lv' := [(1, .ref (ad0 s.heap.size 0)), (0, .ref b)]) S.1 S.2.1 dL_law_7 rfl hl (by decide) rfl (fun ls hl => ?_)
  refine nr_new S K N2 hS 5 (by simp) (by rw [hz2, hz1]; rfl) (ci := 5) (C := RX5) (T := TX5) (n := 23) rfl iWX5 tyX5 tyX5_ok k3_136 k3_137 k1_3 [.int 0, .int 0, .int 0, .int 0, .int 0, .int 0, .null, .null, .null, .null, .null, .null, .null, .null, .null, .null, .null, .null, .null, .int 0, .int 0, .int 0, .int 0] hf_X5 (by omega) (by omega) dL_law_8 (fun H3 N3 hS hz3 => ?_)
  refine lv_dup S.1 S.2.1 dL_law_11 rfl ?_
  refine nc_wI (As := []) (rest := [.ref (ad0 s.heap.size 5)]) S K hS (m_X5_init l N3 (Or.inr rfl) (va_up_self _ _ _) (fun j hj h => by simp only [false_or] at h; omega) (fun j hj => by rw [ad0_m _ j hj]; omega)) k3_138 k3_139 rfl k1_3 k3_140 (num := 0) (by decide +kernel) rfl ⟨by omega, by omega⟩ hl.1 rfl (Nat.le_of_ble_eq_true rfl) dL_law_12 ⟨by omega, by omega⟩ (fun v9 H4 locs4 hP hS => ?_)
  obtain ⟨rfl, E4, g1, g2, g3, g4⟩ := hP
  refine lv_astore_n (lv' := [(2, .ref (ad0 s.heap.size 5)), (1, .ref (ad0 s.heap.size 0)), (0, .ref b)]) S.1 S.2.1 dL_law_15 rfl hl (by decide) rfl (fun ls hl => ?_)
  refine lv_iconst (v := 1) S.1 S.2.1 dL_law_16 (by decide) ?_
  have h6 : ¬ pmd (fun q => ((((((((((((False ∨ q = 0) ∨ q = 1) ∨ q = 2) ∨ q = 3) ∨ q = 4) ∨ q = (30 + 0)) ∨ q = (33 + 0)) ∨ q = (30 + 1)) ∨ q = (33 + 1)) ∨ q = (30 + 2)) ∨ q = (33 + 2)) ∨ q = 5)) 13 6 := by
    unfold pmd
    simp only [false_or]
    omega
  obtain ⟨ad1, hd1, hd6⟩ : ∃ ad1 : Nat → Nat, (∀ r, ¬ r = 6 → ad1 r = ad0 s.heap.size r) ∧ ad1 6 = H4.size := ⟨fun r => if r = 6 then H4.size else ad0 s.heap.size r, fun r hr => if_neg hr, if_pos rfl⟩
  rw [← hd1 5 (by decide), ← hd1 0 (by decide)] at hl
  have g1' := nh_congr (ad' := ad1) (E' := E4) g1 (fun r hr => hd1 r (fun z => h6 (z ▸ hr))) (fun _ _ => rfl)
  refine nr_newa S K g1' hS 6 h6 hd6 (atype := .long) (ty := .long) rfl (fun C h => by cases h) k4_130 2 rfl (i := 1) (n := 1) (by decide) (by decide) (by decide) (1, .inr (.inl fun _ => 0)) (fun cA => rfl) (by omega) (by omega) dL_law_17 (fun H5 N5 hS hz5 => ?_)
  refine lv_astore_n (lv' := [(3, .ref (ad1 6)), (2, .ref (ad1 5)), (1, .ref (ad1 0)), (0, .ref b)]) S.1 S.2.1 dL_law_19 rfl hl (by decide) rfl (fun ls hl => ?_)
  refine lv_iconst (v := nI 0) S.1 S.2.1 dL_law_20 (by decide) ?_
  refine lv_istore (lv' := [(4, .int (nI 0)), (3, .ref (ad1 6)), (2, .ref (ad1 5)), (1, .ref (ad1 0)), (0, .ref b)]) S.1 S.2.1 dL_law_21 hl (by decide) rfl (fun ls hl => ?_)
  refine kk ad1 H5 locs4 ls ⟨J_init, fun _ => 0, _, nh_sub N5 (fun r hr => ?_), fun r hc hr => ?_, ⟨?_, fun i hi1 hi2 => ?_⟩, va_up_self _ _ _⟩ hS (lv_sub hl [4, 3, 2, 1, 0] rfl)
  · have := dmn_init hr
    unfold pmd
    omega
  · have q := dmn_init hr
    unfold crole at hc
    have q2 : r = 0 ∨ r = 1 ∨ r = 2 ∨ r = 3 ∨ r = 4 ∨ r = 30 + 0 ∨ r = 30 + 1 ∨ r = 30 + 2 ∨ r = 33 + 0 ∨ r = 33 + 1 ∨ r = 33 + 2 := by omega
    have e5 : r ≠ 5 := by omega
    rw [va_up_ne _ _ (by omega), g3 r (by unfold mrole; omega), va_up_ne _ _ e5]
    rcases q2 with rfl | rfl | rfl | rfl | rfl | rfl | rfl | rfl | rfl | rfl | rfl
    all_goals (repeat (first | rw [va_up_self] | rw [va_up_ne _ _ (by omega)]))
    · show (.inr (4, [.ref (ad0 s.heap.size 1), .ref (ad0 s.heap.size 2), .ref (ad0 s.heap.size 3), .ref (ad0 s.heap.size 4), .int 0, .null]) : va_E) = .inr (4, [.ref (ad1 1), .ref (ad1 2), .ref (ad1 3), .ref (ad1 4), .int 0, .null])
      rw [hd1 1 (by decide), hd1 2 (by decide), hd1 3 (by decide), hd1 4 (by decide)]
    · show _ = (.inl (cA 5, 12, .inr (.inr (.inr (.inr (rf ad1 40 (fun _ => 0)))))) : va_E)
      rw [rf_none]
    · rw [sh_2, rf_ed, hd1 (30 + 0) (by decide), hd1 (30 + 1) (by decide), hd1 (30 + 2) (by decide)]
    · rfl
    · rfl
    · rw [sh_ed (by decide), hd1 (33 + 0) (by decide)]
    · rw [sh_ed (by decide), hd1 (33 + 1) (by decide)]
    · rw [sh_ed (by decide), hd1 (33 + 2) (by decide)]
    · rw [sh_va (by decide)]
      rfl
    · rw [sh_va (by decide)]
      rfl
    · rw [sh_va (by decide)]
      rfl
  · rw [va_up_ne _ _ (by decide), g2.1]
    unfold mfl
    rw [hd1 16 (by decide), hd1 17 (by decide), hd1 18 (by decide), hd1 19 (by decide), hd1 20 (by decide), hd1 21 (by decide), hd1 22 (by decide), hd1 23 (by decide), hd1 24 (by decide), hd1 25 (by decide), hd1 26 (by decide), hd1 27 (by decide), hd1 28 (by decide)]
  · rw [va_up_ne _ _ (by omega)]
    exact g2.2 i hi1 hi2
end LF
