theorem hf_X3 : ∀ j, j < 6 → defaultValue (tyX3 j) = vp_V [.null, .null, .int 0, .int 0, .int 0, .int 0] j := by
  intro j hj
  rcases j with _ | _ | _ | _ | _ | _ | j <;> first | rfl | omega
theorem hf_X0 : ∀ j, j < 1 → defaultValue (tyX0 j) = vp_V [.null] j := by
  intro j hj
  rcases j with _ | j <;> first | rfl | omega
theorem hf_X1 : ∀ j, j < 8 → defaultValue (tyX1 j) = vp_V [.int 0, .int 0, .int 0, .int 0, .int 0, .int 0, .null, .null] j := by
  intro j hj
  rcases j with _ | _ | _ | _ | _ | _ | _ | _ | j <;> first | rfl | omega
theorem hf_X2 : ∀ j, j < 12 → defaultValue (tyX2 j) = vp_V [.null, .null, .int 0, .int 0, .int 0, .int 0, .int 0, .int 0, .int 0, .int 0, .int 0, .int 0] j := by
  intro j hj
  rcases j with _ | _ | _ | _ | _ | _ | _ | _ | _ | _ | _ | _ | j <;> first | rfl | omega

set_option maxHeartbeats 4000000 in
set_option maxRecDepth 100000 in
theorem m_X3_init {D : va_G} {cA : Nat → ClassId} {B : Nat} (l : Launch) {dom : Nat → Prop} {ad : Nat → Nat} {E : Nat → va_E} {H0 : Heap} (v : Nat)  (N : nh D B dom ad E H0) (h_ix : v < 324) (d0 : dom (300 + 3 * v)) (hE0 : E (300 + 3 * v) = .inr (3, [.null, .null, .int 0, .int 0, .int 0, .int 0])) (hn_0 : ¬ dom (300 + 3 * v + 1)) (hn_1 : ¬ dom (300 + 3 * v + 2)) (ha_0 : ad (300 + 3 * v + 1) = H0.size) (ha_1 : ad (300 + 3 * v + 2) = H0.size + 1)  : MetW D cA B l yX3_init cX3_init 1 none 1 20 2 14 [.ref (ad (300 + 3 * v))] H0 (fun o h => o = none ∧ h.size = H0.size + 2 ∧ nh D B (fun q => ((dom q ∨ q = (300 + 3 * v + 1)) ∨ q = (300 + 3 * v + 2))) ad (va_up (va_up (va_up E (300 + 3 * v + 1) (.inl (cA 0, 7, .inl fun _ => 0))) (300 + 3 * v + 2) (.inl (cA 1, 7, .inl fun _ => 0))) (300 + 3 * v) (.inr (3, fsV ad v (fun _ => 0)))) h) := by
  refine MetW.of (by decide) (Nat.le_of_ble_eq_true rfl) ?_
  intro p e s m args below meth c S hr hlk hin hh K ls hl
  subst hh
  have hS : va_S (fun q => B ≤ q) s.heap s.heap [] := va_S.rf
  have hsz : s.heap.size = s.heap.size + 0 := rfl
  have hl : lv_has ls 1 [(0, .ref (ad (300 + 3 * v)))] := hl
  refine lv_aload_n S.1 S.2.1 dX3_init_0 rfl (lv_at hl 0 rfl) ?_
  refine nc_obj S k1_149 k1_20 k1_21 hl.1 (Nat.le_of_ble_eq_true rfl) dX3_init_1 ⟨(Nat.le_of_ble_eq_true rfl), (Nat.le_of_ble_eq_true rfl)⟩ ?_
  refine lv_aload_n S.1 S.2.1 dX3_init_4 rfl (lv_at hl 0 rfl) ?_
  refine lv_bipush (v := 7) S.1 S.2.1 dX3_init_5 (by decide) ?_
  refine nr_newa S K N hS (300 + 3 * v + 1) (hn_0) (ha_0.trans hsz.symm) (atype := .int) (ty := .int) rfl (by intro C h; cases h) k1_44 0 rfl (n := 7) (by decide) (by decide) (by decide) (a0 := (7, .inl fun _ => 0)) (fun _ => rfl) (Nat.le_of_ble_eq_true rfl) (Nat.le_of_ble_eq_true rfl) dX3_init_7 (fun H N hS hz => ?_)
  replace hsz : H.size = s.heap.size + 1 := by omega
  clear hz
  refine nr_putF S K N hS (300 + 3 * v) (Or.inl (d0)) (ci := 3) (fs := [.null, .null, .int 0, .int 0, .int 0, .int 0]) (by repeat (first | exact va_up_self _ _ _ | exact hE0 | rw [va_up_ne _ _ (by omega)])) (C := RX3) (T := TX3) (n := 6) rfl iWX3 tyX3 tyX3_ok nmX3 0 (by decide) k1_150 rfl rfl (hin.trans rfl) rfl (rfl) rfl (show 0 < 6 by decide) dX3_init_9 (fun H locs N hS hz => ?_)
  replace hsz : H.size = s.heap.size + 1 := by omega
  clear hz
  refine lv_aload_n S.1 S.2.1 dX3_init_12 rfl (lv_at hl 0 rfl) ?_
  refine lv_bipush (v := 7) S.1 S.2.1 dX3_init_13 (by decide) ?_
  refine nr_newa S K N hS (300 + 3 * v + 2) (nd_or (hn_1) (by omega)) (ha_1.trans hsz.symm) (atype := .boolean) (ty := .boolean) rfl (by intro C h; cases h) k1_169 1 rfl (n := 7) (by decide) (by decide) (by decide) (a0 := (7, .inl fun _ => 0)) (fun _ => rfl) (Nat.le_of_ble_eq_true rfl) (Nat.le_of_ble_eq_true rfl) dX3_init_15 (fun H N hS hz => ?_)
  replace hsz : H.size = s.heap.size + 2 := by omega
  clear hz
  refine nr_putF S K N hS (300 + 3 * v) (Or.inl (Or.inl (d0))) (ci := 3) (fs := [.ref (ad (300 + 3 * v + 1)), .null, .int 0, .int 0, .int 0, .int 0]) (by repeat (first | exact va_up_self _ _ _ | exact hE0 | rw [va_up_ne _ _ (by omega)])) (C := RX3) (T := TX3) (n := 6) rfl iWX3 tyX3 tyX3_ok nmX3 1 (by decide) k1_151 rfl rfl (hin.trans rfl) rfl (rfl) rfl (show 1 < 6 by decide) dX3_init_17 (fun H locs N hS hz => ?_)
  replace hsz : H.size = s.heap.size + 2 := by omega
  clear hz
  refine lv_aload_n S.1 S.2.1 dX3_init_20 rfl (lv_at hl 0 rfl) ?_
  refine lv_iconst (v := 0) S.1 S.2.1 dX3_init_21 (by decide) ?_
  refine nr_put S K N hS (300 + 3 * v) (Or.inl (Or.inl (d0))) (ci := 3) (fs := [.ref (ad (300 + 3 * v + 1)), .ref (ad (300 + 3 * v + 2)), .int 0, .int 0, .int 0, .int 0]) (by repeat (first | exact va_up_self _ _ _ | exact hE0 | rw [va_up_ne _ _ (by omega)])) (C := RX3) (T := TX3) (n := 6) rfl iWX3 tyX3 tyX3_ok nmX3 2 (by decide) k1_152 rfl rfl (rfl) rfl (show 2 < 6 by decide) dX3_init_22 (fun H locs N hS hz => ?_)
  replace hsz : H.size = s.heap.size + 2 := by omega
  clear hz
  refine lv_aload_n S.1 S.2.1 dX3_init_25 rfl (lv_at hl 0 rfl) ?_
  refine lv_iconst (v := 0) S.1 S.2.1 dX3_init_26 (by decide) ?_
  refine nr_put S K N hS (300 + 3 * v) (Or.inl (Or.inl (d0))) (ci := 3) (fs := [.ref (ad (300 + 3 * v + 1)), .ref (ad (300 + 3 * v + 2)), .int 0, .int 0, .int 0, .int 0]) (by repeat (first | exact va_up_self _ _ _ | exact hE0 | rw [va_up_ne _ _ (by omega)])) (C := RX3) (T := TX3) (n := 6) rfl iWX3 tyX3 tyX3_ok nmX3 3 (by decide) k1_153 rfl rfl (rfl) rfl (show 3 < 6 by decide) dX3_init_27 (fun H locs N hS hz => ?_)
  replace hsz : H.size = s.heap.size + 2 := by omega
  clear hz
  refine lv_aload_n S.1 S.2.1 dX3_init_30 rfl (lv_at hl 0 rfl) ?_
  refine lv_iconst (v := 0) S.1 S.2.1 dX3_init_31 (by decide) ?_
  refine nr_put S K N hS (300 + 3 * v) (Or.inl (Or.inl (d0))) (ci := 3) (fs := [.ref (ad (300 + 3 * v + 1)), .ref (ad (300 + 3 * v + 2)), .int 0, .int 0, .int 0, .int 0]) (by repeat (first | exact va_up_self _ _ _ | exact hE0 | rw [va_up_ne _ _ (by omega)])) (C := RX3) (T := TX3) (n := 6) rfl iWX3 tyX3 tyX3_ok nmX3 4 (by decide) k1_154 rfl rfl (rfl) rfl (show 4 < 6 by decide) dX3_init_32 (fun H locs N hS hz => ?_)
  replace hsz : H.size = s.heap.size + 2 := by omega
  clear hz
  refine lv_aload_n S.1 S.2.1 dX3_init_35 rfl (lv_at hl 0 rfl) ?_
  refine lv_iconst (v := 0) S.1 S.2.1 dX3_init_36 (by decide) ?_
  refine nr_put S K N hS (300 + 3 * v) (Or.inl (Or.inl (d0))) (ci := 3) (fs := [.ref (ad (300 + 3 * v + 1)), .ref (ad (300 + 3 * v + 2)), .int 0, .int 0, .int 0, .int 0]) (by repeat (first | exact va_up_self _ _ _ | exact hE0 | rw [va_up_ne _ _ (by omega)])) (C := RX3) (T := TX3) (n := 6) rfl iWX3 tyX3 tyX3_ok nmX3 5 (by decide) k1_155 rfl rfl (rfl) rfl (show 5 < 6 by decide) dX3_init_37 (fun H locs N hS hz => ?_)
  replace hsz : H.size = s.heap.size + 2 := by omega
  clear hz
  refine ne_wV S hS hr hlk ⟨rfl, hsz, nh_congr N (fun _ _ => rfl) (fun r _ => ?_)⟩ dX3_init_40
  by_cases h0 : r = (300 + 3 * v)
  · subst h0; (repeat (first | rw [va_up_self] | rw [va_up_ne _ _ (by omega)])); (try rfl)
  by_cases h1 : r = (300 + 3 * v + 1)
  · subst h1; (repeat (first | rw [va_up_self] | rw [va_up_ne _ _ (by omega)])); (try rfl)
  by_cases h2 : r = (300 + 3 * v + 2)
  · subst h2; (repeat (first | rw [va_up_self] | rw [va_up_ne _ _ (by omega)])); (try rfl)
  (repeat (first | rw [va_up_self] | rw [va_up_ne _ _ (by omega)])); (try rfl)

set_option maxHeartbeats 4000000 in
set_option maxRecDepth 100000 in
theorem m_X0_init {D : va_G} {cA : Nat → ClassId} {B : Nat} (l : Launch) {dom : Nat → Prop} {ad : Nat → Nat} {E : Nat → va_E} {H0 : Heap} (d : Nat)  (N : nh D B dom ad E H0) (h_ix : d < 3) (d0 : dom (30 + d)) (hE0 : E (30 + d) = .inr (0, [.null])) (hn_0 : ¬ dom (33 + d)) (ha_0 : ad (33 + d) = H0.size)  : MetW D cA B l yX0_init cX0_init 1 none 1 22 1 35 [.ref (ad (30 + d))] H0 (fun o h => o = none ∧ h.size = H0.size + 1 ∧ nh D B (fun q => (dom q ∨ q = (33 + d))) ad (va_up (va_up E (33 + d) (.inl (cA 0, 35, .inl fvI))) (30 + d) (.inr (0, [.ref (ad (33 + d))]))) h) := by
  refine MetW.of (by decide) (Nat.le_of_ble_eq_true rfl) ?_
  intro p e s m args below meth c S hr hlk hin hh K ls hl
  subst hh
  have hS : va_S (fun q => B ≤ q) s.heap s.heap [] := va_S.rf
  have hsz : s.heap.size = s.heap.size + 0 := rfl
  have hl : lv_has ls 1 [(0, .ref (ad (30 + d)))] := hl
  refine lv_aload_n S.1 S.2.1 dX0_init_0 rfl (lv_at hl 0 rfl) ?_
  refine nc_obj S k1_30 k1_20 k1_21 hl.1 (Nat.le_of_ble_eq_true rfl) dX0_init_1 ⟨(Nat.le_of_ble_eq_true rfl), (Nat.le_of_ble_eq_true rfl)⟩ ?_
  refine lv_aload_n S.1 S.2.1 dX0_init_4 rfl (lv_at hl 0 rfl) ?_
  refine nr_firsts S K N hS (33 + d) (hn_0) (ha_0.trans hsz.symm) hl.1 dX0_init_5 dX0_init_8 dX0_init_11 ⟨(Nat.le_of_ble_eq_true rfl), (Nat.le_of_ble_eq_true rfl), (Nat.le_of_ble_eq_true rfl), (Nat.le_of_ble_eq_true rfl)⟩ (fun H N hS hz => ?_)
  replace hsz : H.size = s.heap.size + 1 := by omega
  clear hz
  refine nr_putF S K N hS (30 + d) (Or.inl (d0)) (ci := 0) (fs := [.null]) (by repeat (first | exact va_up_self _ _ _ | exact hE0 | rw [va_up_ne _ _ (by omega)])) (C := RX0) (T := TX0) (n := 1) rfl iWX0 tyX0 tyX0_ok nmX0 0 (by decide) k1_40 rfl rfl (hin.trans rfl) rfl (rfl) rfl (show 0 < 1 by decide) dX0_init_14 (fun H locs N hS hz => ?_)
  replace hsz : H.size = s.heap.size + 1 := by omega
  clear hz
  refine ne_wV S hS hr hlk ⟨rfl, hsz, nh_congr N (fun _ _ => rfl) (fun r _ => ?_)⟩ dX0_init_17
  by_cases h0 : r = (30 + d)
  · subst h0; (repeat (first | rw [va_up_self] | rw [va_up_ne _ _ (by omega)])); (try rfl)
  by_cases h1 : r = (33 + d)
  · subst h1; (repeat (first | rw [va_up_self] | rw [va_up_ne _ _ (by omega)])); (try rfl)
  (repeat (first | rw [va_up_self] | rw [va_up_ne _ _ (by omega)])); (try rfl)

set_option maxHeartbeats 4000000 in
set_option maxRecDepth 100000 in
theorem m_X1_init {D : va_G} {cA : Nat → ClassId} {B : Nat} (l : Launch) {dom : Nat → Prop} {ad : Nat → Nat} {E : Nat → va_E} {H0 : Heap} (n : Nat) (p0 : Int32) (p1 : Int32) (p2 : Int32) (p3 : Int32) (p4 : Int32) (p5 : Int32) (N : nh D B dom ad E H0) (h_ix : n < 144) (d0 : dom (80 + n)) (hE0 : E (80 + n) = .inr (1, [.int 0, .int 0, .int 0, .int 0, .int 0, .int 0, .null, .null])) (hn_0 : ¬ dom (300 + 3 * (36 + n))) (hn_1 : ¬ dom (300 + 3 * (36 + n) + 1)) (hn_2 : ¬ dom (300 + 3 * (36 + n) + 2)) (hn_3 : ¬ dom (300 + 3 * (180 + n))) (hn_4 : ¬ dom (300 + 3 * (180 + n) + 1)) (hn_5 : ¬ dom (300 + 3 * (180 + n) + 2)) (ha_0 : ad (300 + 3 * (36 + n)) = H0.size) (ha_1 : ad (300 + 3 * (36 + n) + 1) = H0.size + 1) (ha_2 : ad (300 + 3 * (36 + n) + 2) = H0.size + 2) (ha_3 : ad (300 + 3 * (180 + n)) = H0.size + 3) (ha_4 : ad (300 + 3 * (180 + n) + 1) = H0.size + 4) (ha_5 : ad (300 + 3 * (180 + n) + 2) = H0.size + 5) (z2 : p2 = 0 ∨ p2 = 1) (z3 : p3 = 0 ∨ p3 = 1) (z4 : p4 = 0 ∨ p4 = 1) (z5 : p5 = 0 ∨ p5 = 1) : MetW D cA B l yX1_init cX1_init 7 none 2 40 6 40 [.ref (ad (80 + n)), .int p0, .int p1, .int p2, .int p3, .int p4, .int p5] H0 (fun o h => o = none ∧ h.size = H0.size + 6 ∧ nh D B (fun q => ((((((dom q ∨ q = (300 + 3 * (36 + n))) ∨ q = (300 + 3 * (36 + n) + 1)) ∨ q = (300 + 3 * (36 + n) + 2)) ∨ q = (300 + 3 * (180 + n))) ∨ q = (300 + 3 * (180 + n) + 1)) ∨ q = (300 + 3 * (180 + n) + 2))) ad (va_up (va_up (va_up (va_up (va_up (va_up (va_up E (300 + 3 * (36 + n)) (.inr (3, fsV ad (36 + n) (fun _ => 0)))) (300 + 3 * (36 + n) + 1) (.inl (cA 0, 7, .inl fun _ => 0))) (300 + 3 * (36 + n) + 2) (.inl (cA 1, 7, .inl fun _ => 0))) (300 + 3 * (180 + n)) (.inr (3, fsV ad (180 + n) (fun _ => 0)))) (300 + 3 * (180 + n) + 1) (.inl (cA 0, 7, .inl fun _ => 0))) (300 + 3 * (180 + n) + 2) (.inl (cA 1, 7, .inl fun _ => 0))) (80 + n) (.inr (1, [.int p0, .int p1, .int p2, .int p3, .int p4, .int p5, .ref (ad (300 + 3 * (36 + n))), .ref (ad (300 + 3 * (180 + n)))]))) h) := by
  refine MetW.of (by decide) (Nat.le_of_ble_eq_true rfl) ?_
  intro p e s m args below meth c S hr hlk hin hh K ls hl
  subst hh
  have hS : va_S (fun q => B ≤ q) s.heap s.heap [] := va_S.rf
  have hsz : s.heap.size = s.heap.size + 0 := rfl
  have hl : lv_has ls 7 [(0, .ref (ad (80 + n))), (1, .int p0), (2, .int p1), (3, .int p2), (4, .int p3), (5, .int p4), (6, .int p5)] := hl
  refine lv_aload_n S.1 S.2.1 dX1_init_0 rfl (lv_at hl 0 rfl) ?_
  refine nc_obj S k3_8 k1_20 k1_21 hl.1 (Nat.le_of_ble_eq_true rfl) dX1_init_1 ⟨(Nat.le_of_ble_eq_true rfl), (Nat.le_of_ble_eq_true rfl)⟩ ?_
  refine lv_aload_n S.1 S.2.1 dX1_init_4 rfl (lv_at hl 0 rfl) ?_
  refine nr_new S K N hS (300 + 3 * (36 + n)) (hn_0) (ha_0.trans hsz.symm) (ci := 3) (C := RX3) (T := TX3) (n := 6) rfl iWX3 tyX3 tyX3_ok k3_9 k1_145 k1_8 [.null, .null, .int 0, .int 0, .int 0, .int 0] hf_X3 (Nat.le_of_ble_eq_true rfl) (Nat.le_of_ble_eq_true rfl) dX1_init_5 (fun H N hS hz => ?_)
  replace hsz : H.size = s.heap.size + 1 := by omega
  clear hz
  refine lv_dup S.1 S.2.1 dX1_init_8 rfl ?_
  refine nc_wIN S K hS (As := []) (m_X3_init l (36 + n) N (by omega) (Or.inr rfl) (by repeat (first | exact va_up_self _ _ _ | exact hE0 | rw [va_up_ne _ _ (by omega)])) (nd_or (hn_1) (by omega)) (nd_or (hn_2) (by omega)) (by rw [hsz]; exact ha_1) (by rw [hsz]; exact ha_2)) (by decide) k1_147 rfl k1_8 k1_148 (num := 0) (by decide +kernel) rfl ⟨(Nat.le_of_ble_eq_true rfl), (Nat.le_of_ble_eq_true rfl)⟩ hl.1 rfl (Nat.le_of_ble_eq_true rfl) dX1_init_9 ⟨(Nat.le_of_ble_eq_true rfl), (Nat.le_of_ble_eq_true rfl)⟩ (fun v9 H locs hP hS => ?_)
  obtain ⟨rfl, hz, N⟩ := hP
  refine W.eq (g2 := F0 m 12 ls [.ref (ad (300 + 3 * (36 + n))), .ref (ad (80 + n))]) rfl ?_
  replace hsz : H.size = s.heap.size + 3 := by omega
  clear hz
  refine nr_putF S K N hS (80 + n) (Or.inl (Or.inl (Or.inl (d0)))) (ci := 1) (fs := [.int 0, .int 0, .int 0, .int 0, .int 0, .int 0, .null, .null]) (by repeat (first | exact va_up_self _ _ _ | exact hE0 | rw [va_up_ne _ _ (by omega)])) (C := RX1) (T := TX1) (n := 8) rfl iWX1 tyX1 tyX1_ok nmX1 6 (by decide) k3_24 rfl rfl (hin.trans rfl) rfl (rfl) rfl (show 6 < 8 by decide) dX1_init_12 (fun H locs N hS hz => ?_)
  replace hsz : H.size = s.heap.size + 3 := by omega
  clear hz
  refine lv_aload_n S.1 S.2.1 dX1_init_15 rfl (lv_at hl 0 rfl) ?_
  refine nr_new S K N hS (300 + 3 * (180 + n)) (nd_or (nd_or (nd_or (hn_3) (by omega)) (by omega)) (by omega)) (ha_3.trans hsz.symm) (ci := 3) (C := RX3) (T := TX3) (n := 6) rfl iWX3 tyX3 tyX3_ok k3_9 k1_145 k1_8 [.null, .null, .int 0, .int 0, .int 0, .int 0] hf_X3 (Nat.le_of_ble_eq_true rfl) (Nat.le_of_ble_eq_true rfl) dX1_init_16 (fun H N hS hz => ?_)
  replace hsz : H.size = s.heap.size + 4 := by omega
  clear hz
  refine lv_dup S.1 S.2.1 dX1_init_19 rfl ?_
  refine nc_wIN S K hS (As := []) (m_X3_init l (180 + n) N (by omega) (Or.inr rfl) (by repeat (first | exact va_up_self _ _ _ | exact hE0 | rw [va_up_ne _ _ (by omega)])) (nd_or (nd_or (nd_or (nd_or (hn_4) (by omega)) (by omega)) (by omega)) (by omega)) (nd_or (nd_or (nd_or (nd_or (hn_5) (by omega)) (by omega)) (by omega)) (by omega)) (by rw [hsz]; exact ha_4) (by rw [hsz]; exact ha_5)) (by decide) k1_147 rfl k1_8 k1_148 (num := 0) (by decide +kernel) rfl ⟨(Nat.le_of_ble_eq_true rfl), (Nat.le_of_ble_eq_true rfl)⟩ hl.1 rfl (Nat.le_of_ble_eq_true rfl) dX1_init_20 ⟨(Nat.le_of_ble_eq_true rfl), (Nat.le_of_ble_eq_true rfl)⟩ (fun v9 H locs hP hS => ?_)
  obtain ⟨rfl, hz, N⟩ := hP
  refine W.eq (g2 := F0 m 23 ls [.ref (ad (300 + 3 * (180 + n))), .ref (ad (80 + n))]) rfl ?_
  replace hsz : H.size = s.heap.size + 6 := by omega
  clear hz
  refine nr_putF S K N hS (80 + n) (Or.inl (Or.inl (Or.inl (Or.inl (Or.inl (Or.inl (d0))))))) (ci := 1) (fs := [.int 0, .int 0, .int 0, .int 0, .int 0, .int 0, .ref (ad (300 + 3 * (36 + n))), .null]) (by repeat (first | exact va_up_self _ _ _ | exact hE0 | rw [va_up_ne _ _ (by omega)])) (C := RX1) (T := TX1) (n := 8) rfl iWX1 tyX1 tyX1_ok nmX1 7 (by decide) k3_26 rfl rfl (hin.trans rfl) rfl (rfl) rfl (show 7 < 8 by decide) dX1_init_23 (fun H locs N hS hz => ?_)
  replace hsz : H.size = s.heap.size + 6 := by omega
  clear hz
  refine lv_aload_n S.1 S.2.1 dX1_init_26 rfl (lv_at hl 0 rfl) ?_
  refine lv_iload_n S.1 S.2.1 dX1_init_27 rfl (lv_at hl 1 rfl) ?_
  refine nr_putF S K N hS (80 + n) (Or.inl (Or.inl (Or.inl (Or.inl (Or.inl (Or.inl (d0))))))) (ci := 1) (fs := [.int 0, .int 0, .int 0, .int 0, .int 0, .int 0, .ref (ad (300 + 3 * (36 + n))), .ref (ad (300 + 3 * (180 + n)))]) (by repeat (first | exact va_up_self _ _ _ | exact hE0 | rw [va_up_ne _ _ (by omega)])) (C := RX1) (T := TX1) (n := 8) rfl iWX1 tyX1 tyX1_ok nmX1 0 (by decide) k3_11 rfl rfl (hin.trans rfl) rfl (rfl) rfl (show 0 < 8 by decide) dX1_init_28 (fun H locs N hS hz => ?_)
  replace hsz : H.size = s.heap.size + 6 := by omega
  clear hz
  refine lv_aload_n S.1 S.2.1 dX1_init_31 rfl (lv_at hl 0 rfl) ?_
  refine lv_iload_n S.1 S.2.1 dX1_init_32 rfl (lv_at hl 2 rfl) ?_
  refine nr_putF S K N hS (80 + n) (Or.inl (Or.inl (Or.inl (Or.inl (Or.inl (Or.inl (d0))))))) (ci := 1) (fs := [.int p0, .int 0, .int 0, .int 0, .int 0, .int 0, .ref (ad (300 + 3 * (36 + n))), .ref (ad (300 + 3 * (180 + n)))]) (by repeat (first | exact va_up_self _ _ _ | exact hE0 | rw [va_up_ne _ _ (by omega)])) (C := RX1) (T := TX1) (n := 8) rfl iWX1 tyX1 tyX1_ok nmX1 1 (by decide) k3_14 rfl rfl (hin.trans rfl) rfl (rfl) rfl (show 1 < 8 by decide) dX1_init_33 (fun H locs N hS hz => ?_)
  replace hsz : H.size = s.heap.size + 6 := by omega
  clear hz
  refine lv_aload_n S.1 S.2.1 dX1_init_36 rfl (lv_at hl 0 rfl) ?_
  refine lv_iload_n S.1 S.2.1 dX1_init_37 rfl (lv_at hl 3 rfl) ?_
  refine nr_putF S K N hS (80 + n) (Or.inl (Or.inl (Or.inl (Or.inl (Or.inl (Or.inl (d0))))))) (ci := 1) (fs := [.int p0, .int p1, .int 0, .int 0, .int 0, .int 0, .ref (ad (300 + 3 * (36 + n))), .ref (ad (300 + 3 * (180 + n)))]) (by repeat (first | exact va_up_self _ _ _ | exact hE0 | rw [va_up_ne _ _ (by omega)])) (C := RX1) (T := TX1) (n := 8) rfl iWX1 tyX1 tyX1_ok nmX1 2 (by decide) k3_17 rfl rfl (hin.trans rfl) rfl (by rcases z2 with q | q <;> rw [q] <;> rfl) (by rcases z2 with q | q <;> rw [q] <;> rfl) (show 2 < 8 by decide) dX1_init_38 (fun H locs N hS hz => ?_)
  replace hsz : H.size = s.heap.size + 6 := by omega
  clear hz
  refine lv_aload_n S.1 S.2.1 dX1_init_41 rfl (lv_at hl 0 rfl) ?_
  refine lv_iload S.1 S.2.1 dX1_init_42 (lv_at hl 4 rfl) ?_
  refine nr_putF S K N hS (80 + n) (Or.inl (Or.inl (Or.inl (Or.inl (Or.inl (Or.inl (d0))))))) (ci := 1) (fs := [.int p0, .int p1, .int p2, .int 0, .int 0, .int 0, .ref (ad (300 + 3 * (36 + n))), .ref (ad (300 + 3 * (180 + n)))]) (by repeat (first | exact va_up_self _ _ _ | exact hE0 | rw [va_up_ne _ _ (by omega)])) (C := RX1) (T := TX1) (n := 8) rfl iWX1 tyX1 tyX1_ok nmX1 3 (by decide) k3_19 rfl rfl (hin.trans rfl) rfl (by rcases z3 with q | q <;> rw [q] <;> rfl) (by rcases z3 with q | q <;> rw [q] <;> rfl) (show 3 < 8 by decide) dX1_init_44 (fun H locs N hS hz => ?_)
  replace hsz : H.size = s.heap.size + 6 := by omega
  clear hz
  refine lv_aload_n S.1 S.2.1 dX1_init_47 rfl (lv_at hl 0 rfl) ?_
  refine lv_iload S.1 S.2.1 dX1_init_48 (lv_at hl 5 rfl) ?_
  refine nr_putF S K N hS (80 + n) (Or.inl (Or.inl (Or.inl (Or.inl (Or.inl (Or.inl (d0))))))) (ci := 1) (fs := [.int p0, .int p1, .int p2, .int p3, .int 0, .int 0, .ref (ad (300 + 3 * (36 + n))), .ref (ad (300 + 3 * (180 + n)))]) (by repeat (first | exact va_up_self _ _ _ | exact hE0 | rw [va_up_ne _ _ (by omega)])) (C := RX1) (T := TX1) (n := 8) rfl iWX1 tyX1 tyX1_ok nmX1 4 (by decide) k3_21 rfl rfl (hin.trans rfl) rfl (by rcases z4 with q | q <;> rw [q] <;> rfl) (by rcases z4 with q | q <;> rw [q] <;> rfl) (show 4 < 8 by decide) dX1_init_50 (fun H locs N hS hz => ?_)
  replace hsz : H.size = s.heap.size + 6 := by omega
  clear hz
  refine lv_aload_n S.1 S.2.1 dX1_init_53 rfl (lv_at hl 0 rfl) ?_
  refine lv_iload S.1 S.2.1 dX1_init_54 (lv_at hl 6 rfl) ?_
  refine nr_putF S K N hS (80 + n) (Or.inl (Or.inl (Or.inl (Or.inl (Or.inl (Or.inl (d0))))))) (ci := 1) (fs := [.int p0, .int p1, .int p2, .int p3, .int p4, .int 0, .ref (ad (300 + 3 * (36 + n))), .ref (ad (300 + 3 * (180 + n)))]) (by repeat (first | exact va_up_self _ _ _ | exact hE0 | rw [va_up_ne _ _ (by omega)])) (C := RX1) (T := TX1) (n := 8) rfl iWX1 tyX1 tyX1_ok nmX1 5 (by decide) k3_23 rfl rfl (hin.trans rfl) rfl (by rcases z5 with q | q <;> rw [q] <;> rfl) (by rcases z5 with q | q <;> rw [q] <;> rfl) (show 5 < 8 by decide) dX1_init_56 (fun H locs N hS hz => ?_)
  replace hsz : H.size = s.heap.size + 6 := by omega
  clear hz
  refine ne_wV S hS hr hlk ⟨rfl, hsz, nh_congr N (fun _ _ => rfl) (fun r _ => ?_)⟩ dX1_init_59
  by_cases h0 : r = (80 + n)
  · subst h0; (repeat (first | rw [va_up_self] | rw [va_up_ne _ _ (by omega)])); (try rfl)
  by_cases h1 : r = (300 + 3 * (36 + n))
  · subst h1; (repeat (first | rw [va_up_self] | rw [va_up_ne _ _ (by omega)])); (try rfl)
  by_cases h2 : r = (300 + 3 * (36 + n) + 1)
  · subst h2; (repeat (first | rw [va_up_self] | rw [va_up_ne _ _ (by omega)])); (try rfl)
  by_cases h3 : r = (300 + 3 * (36 + n) + 2)
  · subst h3; (repeat (first | rw [va_up_self] | rw [va_up_ne _ _ (by omega)])); (try rfl)
  by_cases h4 : r = (300 + 3 * (180 + n))
  · subst h4; (repeat (first | rw [va_up_self] | rw [va_up_ne _ _ (by omega)])); (try rfl)
  by_cases h5 : r = (300 + 3 * (180 + n) + 1)
  · subst h5; (repeat (first | rw [va_up_self] | rw [va_up_ne _ _ (by omega)])); (try rfl)
  by_cases h6 : r = (300 + 3 * (180 + n) + 2)
  · subst h6; (repeat (first | rw [va_up_self] | rw [va_up_ne _ _ (by omega)])); (try rfl)
  (repeat (first | rw [va_up_self] | rw [va_up_ne _ _ (by omega)])); (try rfl)

set_option maxHeartbeats 4000000 in
set_option maxRecDepth 100000 in
theorem m_X2_init {D : va_G} {cA : Nat → ClassId} {B : Nat} (l : Launch) {dom : Nat → Prop} {ad : Nat → Nat} {E : Nat → va_E} {H0 : Heap} (k : Nat)  (N : nh D B dom ad E H0) (h_ix : k < 12) (d0 : dom (40 + k)) (hE0 : E (40 + k) = .inr (2, [.null, .null, .int 0, .int 0, .int 0, .int 0, .int 0, .int 0, .int 0, .int 0, .int 0, .int 0])) (hn_0 : ¬ dom (52 + k)) (hn_1 : ¬ dom (64 + k)) (hn_2 : ¬ dom (300 + 3 * (3 * k + 0))) (hn_3 : ¬ dom (300 + 3 * (3 * k + 0) + 1)) (hn_4 : ¬ dom (300 + 3 * (3 * k + 0) + 2)) (hn_5 : ¬ dom (300 + 3 * (3 * k + 1))) (hn_6 : ¬ dom (300 + 3 * (3 * k + 1) + 1)) (hn_7 : ¬ dom (300 + 3 * (3 * k + 1) + 2)) (hn_8 : ¬ dom (300 + 3 * (3 * k + 2))) (hn_9 : ¬ dom (300 + 3 * (3 * k + 2) + 1)) (hn_10 : ¬ dom (300 + 3 * (3 * k + 2) + 2)) (ha_0 : ad (52 + k) = H0.size) (ha_1 : ad (64 + k) = H0.size + 1) (ha_2 : ad (300 + 3 * (3 * k + 0)) = H0.size + 2) (ha_3 : ad (300 + 3 * (3 * k + 0) + 1) = H0.size + 3) (ha_4 : ad (300 + 3 * (3 * k + 0) + 2) = H0.size + 4) (ha_5 : ad (300 + 3 * (3 * k + 1)) = H0.size + 5) (ha_6 : ad (300 + 3 * (3 * k + 1) + 1) = H0.size + 6) (ha_7 : ad (300 + 3 * (3 * k + 1) + 2) = H0.size + 7) (ha_8 : ad (300 + 3 * (3 * k + 2)) = H0.size + 8) (ha_9 : ad (300 + 3 * (3 * k + 2) + 1) = H0.size + 9) (ha_10 : ad (300 + 3 * (3 * k + 2) + 2) = H0.size + 10)  : MetW D cA B l yX2_init cX2_init 2 none 2 40 11 75 [.ref (ad (40 + k))] H0 (fun o h => o = none ∧ h.size = H0.size + 11 ∧ nh D B (fun q => (((((((((((dom q ∨ q = (52 + k)) ∨ q = (64 + k)) ∨ q = (300 + 3 * (3 * k + 0))) ∨ q = (300 + 3 * (3 * k + 0) + 1)) ∨ q = (300 + 3 * (3 * k + 0) + 2)) ∨ q = (300 + 3 * (3 * k + 1))) ∨ q = (300 + 3 * (3 * k + 1) + 1)) ∨ q = (300 + 3 * (3 * k + 1) + 2)) ∨ q = (300 + 3 * (3 * k + 2))) ∨ q = (300 + 3 * (3 * k + 2) + 1)) ∨ q = (300 + 3 * (3 * k + 2) + 2))) ad (va_up (va_up (va_up (va_up (va_up (va_up (va_up (va_up (va_up (va_up (va_up (va_up E (52 + k) (.inl (cA 3, 12, .inr (.inr (.inr (.inr (fun _ => none))))))) (64 + k) (.inl (cA 4, 3, .inr (.inr (.inr (.inr (va_up (va_up (va_up (fun _ => none) 0 (some (ad (300 + 3 * (3 * k + 0))))) 1 (some (ad (300 + 3 * (3 * k + 1))))) 2 (some (ad (300 + 3 * (3 * k + 2))))))))))) (300 + 3 * (3 * k + 0)) (.inr (3, fsV ad (3 * k + 0) (fun _ => 0)))) (300 + 3 * (3 * k + 0) + 1) (.inl (cA 0, 7, .inl fun _ => 0))) (300 + 3 * (3 * k + 0) + 2) (.inl (cA 1, 7, .inl fun _ => 0))) (300 + 3 * (3 * k + 1)) (.inr (3, fsV ad (3 * k + 1) (fun _ => 0)))) (300 + 3 * (3 * k + 1) + 1) (.inl (cA 0, 7, .inl fun _ => 0))) (300 + 3 * (3 * k + 1) + 2) (.inl (cA 1, 7, .inl fun _ => 0))) (300 + 3 * (3 * k + 2)) (.inr (3, fsV ad (3 * k + 2) (fun _ => 0)))) (300 + 3 * (3 * k + 2) + 1) (.inl (cA 0, 7, .inl fun _ => 0))) (300 + 3 * (3 * k + 2) + 2) (.inl (cA 1, 7, .inl fun _ => 0))) (40 + k) (.inr (2, [.ref (ad (52 + k)), .ref (ad (64 + k)), .int 0, .int 0, .int 0, .int 1, .int 0, .int 0, .int 0, .int 0, .int 0, .int 0]))) h) := by
  refine MetW.of (by decide) (Nat.le_of_ble_eq_true rfl) ?_
  intro p e s m args below meth c S hr hlk hin hh K ls hl
  subst hh
  have hS : va_S (fun q => B ≤ q) s.heap s.heap [] := va_S.rf
  have hsz : s.heap.size = s.heap.size + 0 := rfl
  have hl : lv_has ls 2 [(0, .ref (ad (40 + k)))] := hl
  refine lv_aload_n S.1 S.2.1 dX2_init_0 rfl (lv_at hl 0 rfl) ?_
  refine nc_obj S k1_140 k1_20 k1_21 hl.1 (Nat.le_of_ble_eq_true rfl) dX2_init_1 ⟨(Nat.le_of_ble_eq_true rfl), (Nat.le_of_ble_eq_true rfl)⟩ ?_
  refine lv_aload_n S.1 S.2.1 dX2_init_4 rfl (lv_at hl 0 rfl) ?_
  refine lv_bipush (v := 12) S.1 S.2.1 dX2_init_5 (by decide) ?_
  refine nr_newq S K N hS (52 + k) (hn_0) (ha_0.trans hsz.symm) k1_141 K.2.2.2.2.2.2.2.2.1 3 rfl (n := 12) (by decide) (by decide) (by decide) (Nat.le_of_ble_eq_true rfl) (Nat.le_of_ble_eq_true rfl) dX2_init_7 (fun H N hS hz => ?_)
  replace hsz : H.size = s.heap.size + 1 := by omega
  clear hz
  refine nr_putF S K N hS (40 + k) (Or.inl (d0)) (ci := 2) (fs := [.null, .null, .int 0, .int 0, .int 0, .int 0, .int 0, .int 0, .int 0, .int 0, .int 0, .int 0]) (by repeat (first | exact va_up_self _ _ _ | exact hE0 | rw [va_up_ne _ _ (by omega)])) (C := RX2) (T := TX2) (n := 12) rfl iWX2 tyX2 tyX2_ok nmX2 0 (by decide) k1_170 rfl rfl (hin.trans rfl) rfl (rfl) rfl (show 0 < 12 by decide) dX2_init_10 (fun H locs N hS hz => ?_)
  replace hsz : H.size = s.heap.size + 1 := by omega
  clear hz
  refine lv_aload_n S.1 S.2.1 dX2_init_13 rfl (lv_at hl 0 rfl) ?_
  refine lv_iconst (v := 3) S.1 S.2.1 dX2_init_14 (by decide) ?_
  refine nr_newq S K N hS (64 + k) (nd_or (hn_1) (by omega)) (ha_1.trans hsz.symm) k1_143 K.2.2.2.2.2.2.2.2.2.2 4 rfl (n := 3) (by decide) (by decide) (by decide) (Nat.le_of_ble_eq_true rfl) (Nat.le_of_ble_eq_true rfl) dX2_init_15 (fun H N hS hz => ?_)
  replace hsz : H.size = s.heap.size + 2 := by omega
  clear hz
  refine nr_putF S K N hS (40 + k) (Or.inl (Or.inl (d0))) (ci := 2) (fs := [.ref (ad (52 + k)), .null, .int 0, .int 0, .int 0, .int 0, .int 0, .int 0, .int 0, .int 0, .int 0, .int 0]) (by repeat (first | exact va_up_self _ _ _ | exact hE0 | rw [va_up_ne _ _ (by omega)])) (C := RX2) (T := TX2) (n := 12) rfl iWX2 tyX2 tyX2_ok nmX2 1 (by decide) k1_171 rfl rfl (hin.trans rfl) rfl (rfl) rfl (show 1 < 12 by decide) dX2_init_18 (fun H locs N hS hz => ?_)
  replace hsz : H.size = s.heap.size + 2 := by omega
  clear hz
  refine lv_aload_n S.1 S.2.1 dX2_init_21 rfl (lv_at hl 0 rfl) ?_
  refine lv_iconst (v := 0) S.1 S.2.1 dX2_init_22 (by decide) ?_
  refine nr_put S K N hS (40 + k) (Or.inl (Or.inl (d0))) (ci := 2) (fs := [.ref (ad (52 + k)), .ref (ad (64 + k)), .int 0, .int 0, .int 0, .int 0, .int 0, .int 0, .int 0, .int 0, .int 0, .int 0]) (by repeat (first | exact va_up_self _ _ _ | exact hE0 | rw [va_up_ne _ _ (by omega)])) (C := RX2) (T := TX2) (n := 12) rfl iWX2 tyX2 tyX2_ok nmX2 2 (by decide) k1_172 rfl rfl (by first | exact congrArg Value.int zb_0 | rfl) rfl (show 2 < 12 by decide) dX2_init_23 (fun H locs N hS hz => ?_)
  replace hsz : H.size = s.heap.size + 2 := by omega
  clear hz
  refine lv_aload_n S.1 S.2.1 dX2_init_26 rfl (lv_at hl 0 rfl) ?_
  refine lv_iconst (v := 0) S.1 S.2.1 dX2_init_27 (by decide) ?_
  refine nr_put S K N hS (40 + k) (Or.inl (Or.inl (d0))) (ci := 2) (fs := [.ref (ad (52 + k)), .ref (ad (64 + k)), .int 0, .int 0, .int 0, .int 0, .int 0, .int 0, .int 0, .int 0, .int 0, .int 0]) (by repeat (first | exact va_up_self _ _ _ | exact hE0 | rw [va_up_ne _ _ (by omega)])) (C := RX2) (T := TX2) (n := 12) rfl iWX2 tyX2 tyX2_ok nmX2 3 (by decide) k1_174 rfl rfl (by first | exact congrArg Value.int zb_0 | rfl) rfl (show 3 < 12 by decide) dX2_init_28 (fun H locs N hS hz => ?_)
  replace hsz : H.size = s.heap.size + 2 := by omega
  clear hz
  refine lv_aload_n S.1 S.2.1 dX2_init_31 rfl (lv_at hl 0 rfl) ?_
  refine lv_iconst (v := 0) S.1 S.2.1 dX2_init_32 (by decide) ?_
  refine nr_put S K N hS (40 + k) (Or.inl (Or.inl (d0))) (ci := 2) (fs := [.ref (ad (52 + k)), .ref (ad (64 + k)), .int 0, .int 0, .int 0, .int 0, .int 0, .int 0, .int 0, .int 0, .int 0, .int 0]) (by repeat (first | exact va_up_self _ _ _ | exact hE0 | rw [va_up_ne _ _ (by omega)])) (C := RX2) (T := TX2) (n := 12) rfl iWX2 tyX2 tyX2_ok nmX2 4 (by decide) k1_176 rfl rfl (rfl) rfl (show 4 < 12 by decide) dX2_init_33 (fun H locs N hS hz => ?_)
  replace hsz : H.size = s.heap.size + 2 := by omega
  clear hz
  refine lv_aload_n S.1 S.2.1 dX2_init_36 rfl (lv_at hl 0 rfl) ?_
  refine lv_iconst (v := 1) S.1 S.2.1 dX2_init_37 (by decide) ?_
  refine nr_put S K N hS (40 + k) (Or.inl (Or.inl (d0))) (ci := 2) (fs := [.ref (ad (52 + k)), .ref (ad (64 + k)), .int 0, .int 0, .int 0, .int 0, .int 0, .int 0, .int 0, .int 0, .int 0, .int 0]) (by repeat (first | exact va_up_self _ _ _ | exact hE0 | rw [va_up_ne _ _ (by omega)])) (C := RX2) (T := TX2) (n := 12) rfl iWX2 tyX2 tyX2_ok nmX2 5 (by decide) k1_177 rfl rfl (rfl) rfl (show 5 < 12 by decide) dX2_init_38 (fun H locs N hS hz => ?_)
  replace hsz : H.size = s.heap.size + 2 := by omega
  clear hz
  refine lv_aload_n S.1 S.2.1 dX2_init_41 rfl (lv_at hl 0 rfl) ?_
  refine lv_iconst (v := 0) S.1 S.2.1 dX2_init_42 (by decide) ?_
  refine nr_put S K N hS (40 + k) (Or.inl (Or.inl (d0))) (ci := 2) (fs := [.ref (ad (52 + k)), .ref (ad (64 + k)), .int 0, .int 0, .int 0, .int 1, .int 0, .int 0, .int 0, .int 0, .int 0, .int 0]) (by repeat (first | exact va_up_self _ _ _ | exact hE0 | rw [va_up_ne _ _ (by omega)])) (C := RX2) (T := TX2) (n := 12) rfl iWX2 tyX2 tyX2_ok nmX2 6 (by decide) k1_178 rfl rfl (rfl) rfl (show 6 < 12 by decide) dX2_init_43 (fun H locs N hS hz => ?_)
  replace hsz : H.size = s.heap.size + 2 := by omega
  clear hz
  refine lv_aload_n S.1 S.2.1 dX2_init_46 rfl (lv_at hl 0 rfl) ?_
  refine lv_iconst (v := 0) S.1 S.2.1 dX2_init_47 (by decide) ?_
  refine nr_put S K N hS (40 + k) (Or.inl (Or.inl (d0))) (ci := 2) (fs := [.ref (ad (52 + k)), .ref (ad (64 + k)), .int 0, .int 0, .int 0, .int 1, .int 0, .int 0, .int 0, .int 0, .int 0, .int 0]) (by repeat (first | exact va_up_self _ _ _ | exact hE0 | rw [va_up_ne _ _ (by omega)])) (C := RX2) (T := TX2) (n := 12) rfl iWX2 tyX2 tyX2_ok nmX2 7 (by decide) k1_179 rfl rfl (rfl) rfl (show 7 < 12 by decide) dX2_init_48 (fun H locs N hS hz => ?_)
  replace hsz : H.size = s.heap.size + 2 := by omega
  clear hz
  refine lv_aload_n S.1 S.2.1 dX2_init_51 rfl (lv_at hl 0 rfl) ?_
  refine lv_iconst (v := 0) S.1 S.2.1 dX2_init_52 (by decide) ?_
  refine nr_put S K N hS (40 + k) (Or.inl (Or.inl (d0))) (ci := 2) (fs := [.ref (ad (52 + k)), .ref (ad (64 + k)), .int 0, .int 0, .int 0, .int 1, .int 0, .int 0, .int 0, .int 0, .int 0, .int 0]) (by repeat (first | exact va_up_self _ _ _ | exact hE0 | rw [va_up_ne _ _ (by omega)])) (C := RX2) (T := TX2) (n := 12) rfl iWX2 tyX2 tyX2_ok nmX2 8 (by decide) k1_181 rfl rfl (rfl) rfl (show 8 < 12 by decide) dX2_init_53 (fun H locs N hS hz => ?_)
  replace hsz : H.size = s.heap.size + 2 := by omega
  clear hz
  refine lv_aload_n S.1 S.2.1 dX2_init_56 rfl (lv_at hl 0 rfl) ?_
  refine lv_iconst (v := 0) S.1 S.2.1 dX2_init_57 (by decide) ?_
  refine nr_put S K N hS (40 + k) (Or.inl (Or.inl (d0))) (ci := 2) (fs := [.ref (ad (52 + k)), .ref (ad (64 + k)), .int 0, .int 0, .int 0, .int 1, .int 0, .int 0, .int 0, .int 0, .int 0, .int 0]) (by repeat (first | exact va_up_self _ _ _ | exact hE0 | rw [va_up_ne _ _ (by omega)])) (C := RX2) (T := TX2) (n := 12) rfl iWX2 tyX2 tyX2_ok nmX2 9 (by decide) k1_183 rfl rfl (rfl) rfl (show 9 < 12 by decide) dX2_init_58 (fun H locs N hS hz => ?_)
  replace hsz : H.size = s.heap.size + 2 := by omega
  clear hz
  refine lv_aload_n S.1 S.2.1 dX2_init_61 rfl (lv_at hl 0 rfl) ?_
  refine lv_iconst (v := 0) S.1 S.2.1 dX2_init_62 (by decide) ?_
  refine nr_put S K N hS (40 + k) (Or.inl (Or.inl (d0))) (ci := 2) (fs := [.ref (ad (52 + k)), .ref (ad (64 + k)), .int 0, .int 0, .int 0, .int 1, .int 0, .int 0, .int 0, .int 0, .int 0, .int 0]) (by repeat (first | exact va_up_self _ _ _ | exact hE0 | rw [va_up_ne _ _ (by omega)])) (C := RX2) (T := TX2) (n := 12) rfl iWX2 tyX2 tyX2_ok nmX2 10 (by decide) k1_184 rfl rfl (rfl) rfl (show 10 < 12 by decide) dX2_init_63 (fun H locs N hS hz => ?_)
  replace hsz : H.size = s.heap.size + 2 := by omega
  clear hz
  refine lv_aload_n S.1 S.2.1 dX2_init_66 rfl (lv_at hl 0 rfl) ?_
  refine lv_iconst (v := 0) S.1 S.2.1 dX2_init_67 (by decide) ?_
  refine nr_put S K N hS (40 + k) (Or.inl (Or.inl (d0))) (ci := 2) (fs := [.ref (ad (52 + k)), .ref (ad (64 + k)), .int 0, .int 0, .int 0, .int 1, .int 0, .int 0, .int 0, .int 0, .int 0, .int 0]) (by repeat (first | exact va_up_self _ _ _ | exact hE0 | rw [va_up_ne _ _ (by omega)])) (C := RX2) (T := TX2) (n := 12) rfl iWX2 tyX2 tyX2_ok nmX2 11 (by decide) k1_185 rfl rfl (rfl) rfl (show 11 < 12 by decide) dX2_init_68 (fun H locs N hS hz => ?_)
  replace hsz : H.size = s.heap.size + 2 := by omega
  clear hz
  refine lv_iconst (v := 0) S.1 S.2.1 dX2_init_71 (by decide) ?_
  refine lv_istore_n (lv' := [(1, .int 0), (0, .ref (ad (40 + k)))]) S.1 S.2.1 dX2_init_72 rfl hl (by decide) rfl (fun ls hl => ?_)
  refine lv_iload_n S.1 S.2.1 dX2_init_73 rfl (lv_at hl 0 rfl) ?_
  refine lv_aload_n S.1 S.2.1 dX2_init_74 rfl (lv_at hl 1 rfl) ?_
  refine nr_get S K N (40 + k) (Or.inl (Or.inl (d0))) (ci := 2) (fs := [.ref (ad (52 + k)), .ref (ad (64 + k)), .int 0, .int 0, .int 0, .int 1, .int 0, .int 0, .int 0, .int 0, .int 0, .int 0]) (by repeat (first | exact va_up_self _ _ _ | exact hE0 | rw [va_up_ne _ _ (by omega)])) (C := RX2) (T := TX2) (n := 12) rfl iWX2 1 (by decide) k1_171 rfl (v := .ref (ad (64 + k))) rfl dX2_init_75 ?_
  refine nr_alen S K N (64 + k) (Or.inr rfl) 4 rfl (by repeat (first | exact va_up_self _ _ _ | exact hE0 | rw [va_up_ne _ _ (by omega)])) (v := 3) rfl dX2_init_78 ?_
  refine lv_icmp_ge (tgt := 101) S.1 S.2.1 dX2_init_79 (by decide) (fun c9 => absurd c9 (by decide)) (fun _ => ?_)
  refine lv_aload_n S.1 S.2.1 dX2_init_82 rfl (lv_at hl 1 rfl) ?_
  refine nr_get S K N (40 + k) (Or.inl (Or.inl (d0))) (ci := 2) (fs := [.ref (ad (52 + k)), .ref (ad (64 + k)), .int 0, .int 0, .int 0, .int 1, .int 0, .int 0, .int 0, .int 0, .int 0, .int 0]) (by repeat (first | exact va_up_self _ _ _ | exact hE0 | rw [va_up_ne _ _ (by omega)])) (C := RX2) (T := TX2) (n := 12) rfl iWX2 1 (by decide) k1_171 rfl (v := .ref (ad (64 + k))) rfl dX2_init_83 ?_
  refine lv_iload_n S.1 S.2.1 dX2_init_86 rfl (lv_at hl 0 rfl) ?_
  refine nr_new S K N hS (300 + 3 * (3 * k + 0)) (nd_or (nd_or (hn_2) (by omega)) (by omega)) (ha_2.trans hsz.symm) (ci := 3) (C := RX3) (T := TX3) (n := 6) rfl iWX3 tyX3 tyX3_ok k1_143 k1_145 k1_8 [.null, .null, .int 0, .int 0, .int 0, .int 0] hf_X3 (Nat.le_of_ble_eq_true rfl) (Nat.le_of_ble_eq_true rfl) dX2_init_87 (fun H N hS hz => ?_)
  replace hsz : H.size = s.heap.size + 3 := by omega
  clear hz
  refine lv_dup S.1 S.2.1 dX2_init_90 rfl ?_
  refine nc_wIN S K hS (As := []) (m_X3_init l (3 * k + 0) N (by omega) (Or.inr rfl) (by repeat (first | exact va_up_self _ _ _ | exact hE0 | rw [va_up_ne _ _ (by omega)])) (nd_or (nd_or (nd_or (hn_3) (by omega)) (by omega)) (by omega)) (nd_or (nd_or (nd_or (hn_4) (by omega)) (by omega)) (by omega)) (by rw [hsz]; exact ha_3) (by rw [hsz]; exact ha_4)) (by decide) k1_147 rfl k1_8 k1_148 (num := 0) (by decide +kernel) rfl ⟨(Nat.le_of_ble_eq_true rfl), (Nat.le_of_ble_eq_true rfl)⟩ hl.1 rfl (Nat.le_of_ble_eq_true rfl) dX2_init_91 ⟨(Nat.le_of_ble_eq_true rfl), (Nat.le_of_ble_eq_true rfl)⟩ (fun v9 H locs hP hS => ?_)
  obtain ⟨rfl, hz, N⟩ := hP
  refine W.eq (g2 := F0 m 94 ls [.ref (ad (300 + 3 * (3 * k + 0))), .int 0, .ref (ad (64 + k))]) rfl ?_
  replace hsz : H.size = s.heap.size + 5 := by omega
  clear hz
  refine nr_aast S K N hS (64 + k) (Or.inl (Or.inl (Or.inl (Or.inr rfl)))) 4 rfl (by repeat (first | exact va_up_self _ _ _ | exact hE0 | rw [va_up_ne _ _ (by omega)])) (300 + 3 * (3 * k + 0)) (Or.inl (Or.inl (Or.inr rfl))) (by repeat (first | exact va_up_self _ _ _ | exact hE0 | rw [va_up_ne _ _ (by omega)])) (ci := 3) rfl (by unfold vp_in; decide) dX2_init_94 (fun H locs N hS hz => ?_)
  replace hsz : H.size = s.heap.size + 5 := by omega
  clear hz
  refine lv_iinc (v := 1) (lv' := [(1, .int 1), (0, .ref (ad (40 + k)))]) S.1 S.2.1 dX2_init_95 hl (k := 0) rfl (by decide) (by decide) rfl (fun ls hl => ?_)
  refine lv_goto (tgt := 73) S.1 S.2.1 dX2_init_98 (by decide) ?_
  refine lv_iload_n S.1 S.2.1 dX2_init_73 rfl (lv_at hl 0 rfl) ?_
  refine lv_aload_n S.1 S.2.1 dX2_init_74 rfl (lv_at hl 1 rfl) ?_
  refine nr_get S K N (40 + k) (Or.inl (Or.inl (Or.inl (Or.inl (Or.inl (d0)))))) (ci := 2) (fs := [.ref (ad (52 + k)), .ref (ad (64 + k)), .int 0, .int 0, .int 0, .int 1, .int 0, .int 0, .int 0, .int 0, .int 0, .int 0]) (by repeat (first | exact va_up_self _ _ _ | exact hE0 | rw [va_up_ne _ _ (by omega)])) (C := RX2) (T := TX2) (n := 12) rfl iWX2 1 (by decide) k1_171 rfl (v := .ref (ad (64 + k))) rfl dX2_init_75 ?_
  refine nr_alen S K N (64 + k) (Or.inl (Or.inl (Or.inl (Or.inr rfl)))) 4 rfl (by repeat (first | exact va_up_self _ _ _ | exact hE0 | rw [va_up_ne _ _ (by omega)])) (v := 3) rfl dX2_init_78 ?_
  refine lv_icmp_ge (tgt := 101) S.1 S.2.1 dX2_init_79 (by decide) (fun c9 => absurd c9 (by decide)) (fun _ => ?_)
  refine lv_aload_n S.1 S.2.1 dX2_init_82 rfl (lv_at hl 1 rfl) ?_
  refine nr_get S K N (40 + k) (Or.inl (Or.inl (Or.inl (Or.inl (Or.inl (d0)))))) (ci := 2) (fs := [.ref (ad (52 + k)), .ref (ad (64 + k)), .int 0, .int 0, .int 0, .int 1, .int 0, .int 0, .int 0, .int 0, .int 0, .int 0]) (by repeat (first | exact va_up_self _ _ _ | exact hE0 | rw [va_up_ne _ _ (by omega)])) (C := RX2) (T := TX2) (n := 12) rfl iWX2 1 (by decide) k1_171 rfl (v := .ref (ad (64 + k))) rfl dX2_init_83 ?_
  refine lv_iload_n S.1 S.2.1 dX2_init_86 rfl (lv_at hl 0 rfl) ?_
  refine nr_new S K N hS (300 + 3 * (3 * k + 1)) (nd_or (nd_or (nd_or (nd_or (nd_or (hn_5) (by omega)) (by omega)) (by omega)) (by omega)) (by omega)) (ha_5.trans hsz.symm) (ci := 3) (C := RX3) (T := TX3) (n := 6) rfl iWX3 tyX3 tyX3_ok k1_143 k1_145 k1_8 [.null, .null, .int 0, .int 0, .int 0, .int 0] hf_X3 (Nat.le_of_ble_eq_true rfl) (Nat.le_of_ble_eq_true rfl) dX2_init_87 (fun H N hS hz => ?_)
  replace hsz : H.size = s.heap.size + 6 := by omega
  clear hz
  refine lv_dup S.1 S.2.1 dX2_init_90 rfl ?_
  refine nc_wIN S K hS (As := []) (m_X3_init l (3 * k + 1) N (by omega) (Or.inr rfl) (by repeat (first | exact va_up_self _ _ _ | exact hE0 | rw [va_up_ne _ _ (by omega)])) (nd_or (nd_or (nd_or (nd_or (nd_or (nd_or (hn_6) (by omega)) (by omega)) (by omega)) (by omega)) (by omega)) (by omega)) (nd_or (nd_or (nd_or (nd_or (nd_or (nd_or (hn_7) (by omega)) (by omega)) (by omega)) (by omega)) (by omega)) (by omega)) (by rw [hsz]; exact ha_6) (by rw [hsz]; exact ha_7)) (by decide) k1_147 rfl k1_8 k1_148 (num := 0) (by decide +kernel) rfl ⟨(Nat.le_of_ble_eq_true rfl), (Nat.le_of_ble_eq_true rfl)⟩ hl.1 rfl (Nat.le_of_ble_eq_true rfl) dX2_init_91 ⟨(Nat.le_of_ble_eq_true rfl), (Nat.le_of_ble_eq_true rfl)⟩ (fun v9 H locs hP hS => ?_)
  obtain ⟨rfl, hz, N⟩ := hP
  refine W.eq (g2 := F0 m 94 ls [.ref (ad (300 + 3 * (3 * k + 1))), .int 1, .ref (ad (64 + k))]) rfl ?_
  replace hsz : H.size = s.heap.size + 8 := by omega
  clear hz
  refine nr_aast S K N hS (64 + k) (Or.inl (Or.inl (Or.inl (Or.inl (Or.inl (Or.inl (Or.inr rfl))))))) 4 rfl (by repeat (first | exact va_up_self _ _ _ | exact hE0 | rw [va_up_ne _ _ (by omega)])) (300 + 3 * (3 * k + 1)) (Or.inl (Or.inl (Or.inr rfl))) (by repeat (first | exact va_up_self _ _ _ | exact hE0 | rw [va_up_ne _ _ (by omega)])) (ci := 3) rfl (by unfold vp_in; decide) dX2_init_94 (fun H locs N hS hz => ?_)
  replace hsz : H.size = s.heap.size + 8 := by omega
  clear hz
  refine lv_iinc (v := 2) (lv' := [(1, .int 2), (0, .ref (ad (40 + k)))]) S.1 S.2.1 dX2_init_95 hl (k := 0) rfl (by decide) (by decide) rfl (fun ls hl => ?_)
  refine lv_goto (tgt := 73) S.1 S.2.1 dX2_init_98 (by decide) ?_
  refine lv_iload_n S.1 S.2.1 dX2_init_73 rfl (lv_at hl 0 rfl) ?_
  refine lv_aload_n S.1 S.2.1 dX2_init_74 rfl (lv_at hl 1 rfl) ?_
  refine nr_get S K N (40 + k) (Or.inl (Or.inl (Or.inl (Or.inl (Or.inl (Or.inl (Or.inl (Or.inl (d0))))))))) (ci := 2) (fs := [.ref (ad (52 + k)), .ref (ad (64 + k)), .int 0, .int 0, .int 0, .int 1, .int 0, .int 0, .int 0, .int 0, .int 0, .int 0]) (by repeat (first | exact va_up_self _ _ _ | exact hE0 | rw [va_up_ne _ _ (by omega)])) (C := RX2) (T := TX2) (n := 12) rfl iWX2 1 (by decide) k1_171 rfl (v := .ref (ad (64 + k))) rfl dX2_init_75 ?_
  refine nr_alen S K N (64 + k) (Or.inl (Or.inl (Or.inl (Or.inl (Or.inl (Or.inl (Or.inr rfl))))))) 4 rfl (by repeat (first | exact va_up_self _ _ _ | exact hE0 | rw [va_up_ne _ _ (by omega)])) (v := 3) rfl dX2_init_78 ?_
  refine lv_icmp_ge (tgt := 101) S.1 S.2.1 dX2_init_79 (by decide) (fun c9 => absurd c9 (by decide)) (fun _ => ?_)
  refine lv_aload_n S.1 S.2.1 dX2_init_82 rfl (lv_at hl 1 rfl) ?_
  refine nr_get S K N (40 + k) (Or.inl (Or.inl (Or.inl (Or.inl (Or.inl (Or.inl (Or.inl (Or.inl (d0))))))))) (ci := 2) (fs := [.ref (ad (52 + k)), .ref (ad (64 + k)), .int 0, .int 0, .int 0, .int 1, .int 0, .int 0, .int 0, .int 0, .int 0, .int 0]) (by repeat (first | exact va_up_self _ _ _ | exact hE0 | rw [va_up_ne _ _ (by omega)])) (C := RX2) (T := TX2) (n := 12) rfl iWX2 1 (by decide) k1_171 rfl (v := .ref (ad (64 + k))) rfl dX2_init_83 ?_
  refine lv_iload_n S.1 S.2.1 dX2_init_86 rfl (lv_at hl 0 rfl) ?_
  refine nr_new S K N hS (300 + 3 * (3 * k + 2)) (nd_or (nd_or (nd_or (nd_or (nd_or (nd_or (nd_or (nd_or (hn_8) (by omega)) (by omega)) (by omega)) (by omega)) (by omega)) (by omega)) (by omega)) (by omega)) (ha_8.trans hsz.symm) (ci := 3) (C := RX3) (T := TX3) (n := 6) rfl iWX3 tyX3 tyX3_ok k1_143 k1_145 k1_8 [.null, .null, .int 0, .int 0, .int 0, .int 0] hf_X3 (Nat.le_of_ble_eq_true rfl) (Nat.le_of_ble_eq_true rfl) dX2_init_87 (fun H N hS hz => ?_)
  replace hsz : H.size = s.heap.size + 9 := by omega
  clear hz
  refine lv_dup S.1 S.2.1 dX2_init_90 rfl ?_
  refine nc_wIN S K hS (As := []) (m_X3_init l (3 * k + 2) N (by omega) (Or.inr rfl) (by repeat (first | exact va_up_self _ _ _ | exact hE0 | rw [va_up_ne _ _ (by omega)])) (nd_or (nd_or (nd_or (nd_or (nd_or (nd_or (nd_or (nd_or (nd_or (hn_9) (by omega)) (by omega)) (by omega)) (by omega)) (by omega)) (by omega)) (by omega)) (by omega)) (by omega)) (nd_or (nd_or (nd_or (nd_or (nd_or (nd_or (nd_or (nd_or (nd_or (hn_10) (by omega)) (by omega)) (by omega)) (by omega)) (by omega)) (by omega)) (by omega)) (by omega)) (by omega)) (by rw [hsz]; exact ha_9) (by rw [hsz]; exact ha_10)) (by decide) k1_147 rfl k1_8 k1_148 (num := 0) (by decide +kernel) rfl ⟨(Nat.le_of_ble_eq_true rfl), (Nat.le_of_ble_eq_true rfl)⟩ hl.1 rfl (Nat.le_of_ble_eq_true rfl) dX2_init_91 ⟨(Nat.le_of_ble_eq_true rfl), (Nat.le_of_ble_eq_true rfl)⟩ (fun v9 H locs hP hS => ?_)
  obtain ⟨rfl, hz, N⟩ := hP
  refine W.eq (g2 := F0 m 94 ls [.ref (ad (300 + 3 * (3 * k + 2))), .int 2, .ref (ad (64 + k))]) rfl ?_
  replace hsz : H.size = s.heap.size + 11 := by omega
  clear hz
  refine nr_aast S K N hS (64 + k) (Or.inl (Or.inl (Or.inl (Or.inl (Or.inl (Or.inl (Or.inl (Or.inl (Or.inl (Or.inr rfl)))))))))) 4 rfl (by repeat (first | exact va_up_self _ _ _ | exact hE0 | rw [va_up_ne _ _ (by omega)])) (300 + 3 * (3 * k + 2)) (Or.inl (Or.inl (Or.inr rfl))) (by repeat (first | exact va_up_self _ _ _ | exact hE0 | rw [va_up_ne _ _ (by omega)])) (ci := 3) rfl (by unfold vp_in; decide) dX2_init_94 (fun H locs N hS hz => ?_)
  replace hsz : H.size = s.heap.size + 11 := by omega
  clear hz
  refine lv_iinc (v := 3) (lv' := [(1, .int 3), (0, .ref (ad (40 + k)))]) S.1 S.2.1 dX2_init_95 hl (k := 0) rfl (by decide) (by decide) rfl (fun ls hl => ?_)
  refine lv_goto (tgt := 73) S.1 S.2.1 dX2_init_98 (by decide) ?_
  refine lv_iload_n S.1 S.2.1 dX2_init_73 rfl (lv_at hl 0 rfl) ?_
  refine lv_aload_n S.1 S.2.1 dX2_init_74 rfl (lv_at hl 1 rfl) ?_
  refine nr_get S K N (40 + k) (Or.inl (Or.inl (Or.inl (Or.inl (Or.inl (Or.inl (Or.inl (Or.inl (Or.inl (Or.inl (Or.inl (d0)))))))))))) (ci := 2) (fs := [.ref (ad (52 + k)), .ref (ad (64 + k)), .int 0, .int 0, .int 0, .int 1, .int 0, .int 0, .int 0, .int 0, .int 0, .int 0]) (by repeat (first | exact va_up_self _ _ _ | exact hE0 | rw [va_up_ne _ _ (by omega)])) (C := RX2) (T := TX2) (n := 12) rfl iWX2 1 (by decide) k1_171 rfl (v := .ref (ad (64 + k))) rfl dX2_init_75 ?_
  refine nr_alen S K N (64 + k) (Or.inl (Or.inl (Or.inl (Or.inl (Or.inl (Or.inl (Or.inl (Or.inl (Or.inl (Or.inr rfl)))))))))) 4 rfl (by repeat (first | exact va_up_self _ _ _ | exact hE0 | rw [va_up_ne _ _ (by omega)])) (v := 3) rfl dX2_init_78 ?_
  refine lv_icmp_ge (tgt := 101) S.1 S.2.1 dX2_init_79 (by decide) (fun _ => ?_) (fun c9 => absurd (by decide) c9)
  refine ne_wV S hS hr hlk ⟨rfl, hsz, nh_congr N (fun _ _ => rfl) (fun r _ => ?_)⟩ dX2_init_101
  by_cases h0 : r = (40 + k)
  · subst h0; (repeat (first | rw [va_up_self] | rw [va_up_ne _ _ (by omega)])); (try rfl)
  by_cases h1 : r = (52 + k)
  · subst h1; (repeat (first | rw [va_up_self] | rw [va_up_ne _ _ (by omega)])); (try rfl)
  by_cases h2 : r = (64 + k)
  · subst h2; (repeat (first | rw [va_up_self] | rw [va_up_ne _ _ (by omega)])); (try rfl)
  by_cases h3 : r = (300 + 3 * (3 * k + 0))
  · subst h3; (repeat (first | rw [va_up_self] | rw [va_up_ne _ _ (by omega)])); (try rfl)
  by_cases h4 : r = (300 + 3 * (3 * k + 0) + 1)
  · subst h4; (repeat (first | rw [va_up_self] | rw [va_up_ne _ _ (by omega)])); (try rfl)
  by_cases h5 : r = (300 + 3 * (3 * k + 0) + 2)
  · subst h5; (repeat (first | rw [va_up_self] | rw [va_up_ne _ _ (by omega)])); (try rfl)
  by_cases h6 : r = (300 + 3 * (3 * k + 1))
  · subst h6; (repeat (first | rw [va_up_self] | rw [va_up_ne _ _ (by omega)])); (try rfl)
  by_cases h7 : r = (300 + 3 * (3 * k + 1) + 1)
  · subst h7; (repeat (first | rw [va_up_self] | rw [va_up_ne _ _ (by omega)])); (try rfl)
  by_cases h8 : r = (300 + 3 * (3 * k + 1) + 2)
  · subst h8; (repeat (first | rw [va_up_self] | rw [va_up_ne _ _ (by omega)])); (try rfl)
  by_cases h9 : r = (300 + 3 * (3 * k + 2))
  · subst h9; (repeat (first | rw [va_up_self] | rw [va_up_ne _ _ (by omega)])); (try rfl)
  by_cases h10 : r = (300 + 3 * (3 * k + 2) + 1)
  · subst h10; (repeat (first | rw [va_up_self] | rw [va_up_ne _ _ (by omega)])); (try rfl)
  by_cases h11 : r = (300 + 3 * (3 * k + 2) + 2)
  · subst h11; (repeat (first | rw [va_up_self] | rw [va_up_ne _ _ (by omega)])); (try rfl)
  (repeat (first | rw [va_up_self] | rw [va_up_ne _ _ (by omega)])); (try rfl)
