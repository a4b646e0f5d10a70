theorem hf_X4 : ∀ j, j < 6 → defaultValue (tyX4 j) = vp_V [.null, .null, .null, .null, .int 0, .null] j := by
  intro j hj
  rcases j with _ | _ | _ | _ | _ | _ | j <;> first | rfl | omega
/-- the reference before its lists are filled -/
def mz : Nat → Nat → Int32 := fun i j => if i = 0 ∧ j = 2 then (-1) else 0

set_option maxHeartbeats 4000000 in
set_option maxRecDepth 100000 in
theorem m_X4_init {D : va_G} {cA : Nat → ClassId} {B : Nat} (l : Launch) {dom : Nat → Prop} {ad : Nat → Nat} {E : Nat → va_E} {H0 : Heap} (z9 : Nat)  (N : nh D B dom ad E H0) (h_ix : z9 < 1) (d0 : dom 0) (hE0 : E 0 = .inr (4, [.null, .null, .null, .null, .int 0, .null])) (hn_0 : ¬ dom 1) (hn_1 : ¬ dom 2) (hn_2 : ¬ dom 3) (hn_3 : ¬ dom 4) (hn_4 : ¬ dom (30 + 0)) (hn_5 : ¬ dom (33 + 0)) (hn_6 : ¬ dom (30 + 1)) (hn_7 : ¬ dom (33 + 1)) (hn_8 : ¬ dom (30 + 2)) (hn_9 : ¬ dom (33 + 2)) (ha_0 : ad 1 = H0.size) (ha_1 : ad 2 = H0.size + 1) (ha_2 : ad 3 = H0.size + 2) (ha_3 : ad 4 = H0.size + 3) (ha_4 : ad (30 + 0) = H0.size + 4) (ha_5 : ad (33 + 0) = H0.size + 5) (ha_6 : ad (30 + 1) = H0.size + 6) (ha_7 : ad (33 + 1) = H0.size + 7) (ha_8 : ad (30 + 2) = H0.size + 8) (ha_9 : ad (33 + 2) = H0.size + 9)  : MetW D cA B l yX4_init cX4_init 2 none 2 42 10 147 [.ref (ad 0)] H0 (fun o h => o = none ∧ h.size = H0.size + 10 ∧ nh D B (fun q => ((((((((((dom q ∨ q = 1) ∨ q = 2) ∨ q = 3) ∨ q = 4) ∨ q = (30 + 0)) ∨ q = (33 + 0)) ∨ q = (30 + 1)) ∨ q = (33 + 1)) ∨ q = (30 + 2)) ∨ q = (33 + 2))) ad (va_up (va_up (va_up (va_up (va_up (va_up (va_up (va_up (va_up (va_up (va_up E 1 (.inl (cA 5, 12, .inr (.inr (.inr (.inr (fun _ => none))))))) 2 (.inl (cA 6, 3, .inr (.inr (.inr (.inr (va_up (va_up (va_up (fun _ => none) 0 (some (ad (30 + 0)))) 1 (some (ad (30 + 1)))) 2 (some (ad (30 + 2)))))))))) 3 (.inl (cA 0, 12, .inl fun _ => 0))) 4 (.inl (cA 0, 12, .inl fun _ => 0))) (30 + 0) (.inr (0, [.ref (ad (33 + 0))]))) (33 + 0) (.inl (cA 0, 35, .inl fvI))) (30 + 1) (.inr (0, [.ref (ad (33 + 1))]))) (33 + 1) (.inl (cA 0, 35, .inl fvI))) (30 + 2) (.inr (0, [.ref (ad (33 + 2))]))) (33 + 2) (.inl (cA 0, 35, .inl fvI))) 0 (.inr (4, [.ref (ad 1), .ref (ad 2), .ref (ad 3), .ref (ad 4), .int 0, .null]))) h) := by
  refine MetW.of (by decide) (Nat.le_of_ble_eq_true rfl) ?_
  intro p e s m args below meth c S hr hlk hin hh K ls hl
  subst hh
  have hS : va_S (fun q => B ≤ q) s.heap s.heap [] := va_S.rf
  have hsz : s.heap.size = s.heap.size + 0 := rfl
  have hl : lv_has ls 2 [(0, .ref (ad 0))] := hl
  refine lv_aload_n S.1 S.2.1 dX4_init_0 rfl (lv_at hl 0 rfl) ?_
  refine nc_obj S k1_19 k1_20 k1_21 hl.1 (Nat.le_of_ble_eq_true rfl) dX4_init_1 ⟨(Nat.le_of_ble_eq_true rfl), (Nat.le_of_ble_eq_true rfl)⟩ ?_
  refine lv_aload_n S.1 S.2.1 dX4_init_4 rfl (lv_at hl 0 rfl) ?_
  refine lv_bipush (v := 12) S.1 S.2.1 dX4_init_5 (by decide) ?_
  refine nr_newq S K N hS 1 (hn_0) (ha_0.trans hsz.symm) k1_22 K.2.2.2.2.2.2.2.2.2.1 5 rfl (n := 12) (by decide) (by decide) (by decide) (Nat.le_of_ble_eq_true rfl) (Nat.le_of_ble_eq_true rfl) dX4_init_7 (fun H N hS hz => ?_)
  replace hsz : H.size = s.heap.size + 1 := by omega
  clear hz
  refine nr_putF S K N hS 0 (Or.inl (d0)) (ci := 4) (fs := [.null, .null, .null, .null, .int 0, .null]) (by repeat (first | exact va_up_self _ _ _ | exact hE0 | rw [va_up_ne _ _ (by omega)])) (C := RX4) (T := TX4) (n := 6) rfl iWX4 tyX4 tyX4_ok nmX4 0 (by decide) k1_45 rfl rfl (hin.trans rfl) rfl (rfl) rfl (show 0 < 6 by decide) dX4_init_10 (fun H locs N hS hz => ?_)
  replace hsz : H.size = s.heap.size + 1 := by omega
  clear hz
  refine lv_aload_n S.1 S.2.1 dX4_init_13 rfl (lv_at hl 0 rfl) ?_
  refine lv_iconst (v := 3) S.1 S.2.1 dX4_init_14 (by decide) ?_
  refine nr_newq S K N hS 2 (nd_or (hn_1) (by omega)) (ha_1.trans hsz.symm) k1_24 K.2.2.2.2.2.2.2.1 6 rfl (n := 3) (by decide) (by decide) (by decide) (Nat.le_of_ble_eq_true rfl) (Nat.le_of_ble_eq_true rfl) dX4_init_15 (fun H N hS hz => ?_)
  replace hsz : H.size = s.heap.size + 2 := by omega
  clear hz
  refine nr_putF S K N hS 0 (Or.inl (Or.inl (d0))) (ci := 4) (fs := [.ref (ad 1), .null, .null, .null, .int 0, .null]) (by repeat (first | exact va_up_self _ _ _ | exact hE0 | rw [va_up_ne _ _ (by omega)])) (C := RX4) (T := TX4) (n := 6) rfl iWX4 tyX4 tyX4_ok nmX4 1 (by decide) k1_46 rfl rfl (hin.trans rfl) rfl (rfl) rfl (show 1 < 6 by decide) dX4_init_18 (fun H locs N hS hz => ?_)
  replace hsz : H.size = s.heap.size + 2 := by omega
  clear hz
  refine lv_aload_n S.1 S.2.1 dX4_init_21 rfl (lv_at hl 0 rfl) ?_
  refine lv_bipush (v := 12) S.1 S.2.1 dX4_init_22 (by decide) ?_
  refine nr_newa S K N hS 3 (nd_or (nd_or (hn_2) (by omega)) (by omega)) (ha_2.trans hsz.symm) (atype := .int) (ty := .int) rfl (by intro C h; cases h) k1_44 0 rfl (n := 12) (by decide) (by decide) (by decide) (a0 := (12, .inl fun _ => 0)) (fun _ => rfl) (Nat.le_of_ble_eq_true rfl) (Nat.le_of_ble_eq_true rfl) dX4_init_24 (fun H N hS hz => ?_)
  replace hsz : H.size = s.heap.size + 3 := by omega
  clear hz
  refine nr_putF S K N hS 0 (Or.inl (Or.inl (Or.inl (d0)))) (ci := 4) (fs := [.ref (ad 1), .ref (ad 2), .null, .null, .int 0, .null]) (by repeat (first | exact va_up_self _ _ _ | exact hE0 | rw [va_up_ne _ _ (by omega)])) (C := RX4) (T := TX4) (n := 6) rfl iWX4 tyX4 tyX4_ok nmX4 2 (by decide) k1_47 rfl rfl (hin.trans rfl) rfl (rfl) rfl (show 2 < 6 by decide) dX4_init_26 (fun H locs N hS hz => ?_)
  replace hsz : H.size = s.heap.size + 3 := by omega
  clear hz
  refine lv_aload_n S.1 S.2.1 dX4_init_29 rfl (lv_at hl 0 rfl) ?_
  refine lv_bipush (v := 12) S.1 S.2.1 dX4_init_30 (by decide) ?_
  refine nr_newa S K N hS 4 (nd_or (nd_or (nd_or (hn_3) (by omega)) (by omega)) (by omega)) (ha_3.trans hsz.symm) (atype := .int) (ty := .int) rfl (by intro C h; cases h) k1_44 0 rfl (n := 12) (by decide) (by decide) (by decide) (a0 := (12, .inl fun _ => 0)) (fun _ => rfl) (Nat.le_of_ble_eq_true rfl) (Nat.le_of_ble_eq_true rfl) dX4_init_32 (fun H N hS hz => ?_)
  replace hsz : H.size = s.heap.size + 4 := by omega
  clear hz
  refine nr_putF S K N hS 0 (Or.inl (Or.inl (Or.inl (Or.inl (d0))))) (ci := 4) (fs := [.ref (ad 1), .ref (ad 2), .ref (ad 3), .null, .int 0, .null]) (by repeat (first | exact va_up_self _ _ _ | exact hE0 | rw [va_up_ne _ _ (by omega)])) (C := RX4) (T := TX4) (n := 6) rfl iWX4 tyX4 tyX4_ok nmX4 3 (by decide) k1_48 rfl rfl (hin.trans rfl) rfl (rfl) rfl (show 3 < 6 by decide) dX4_init_34 (fun H locs N hS hz => ?_)
  replace hsz : H.size = s.heap.size + 4 := by omega
  clear hz
  refine lv_aload_n S.1 S.2.1 dX4_init_37 rfl (lv_at hl 0 rfl) ?_
  refine lv_iconst (v := 0) S.1 S.2.1 dX4_init_38 (by decide) ?_
  refine nr_put S K N hS 0 (Or.inl (Or.inl (Or.inl (Or.inl (d0))))) (ci := 4) (fs := [.ref (ad 1), .ref (ad 2), .ref (ad 3), .ref (ad 4), .int 0, .null]) (by repeat (first | exact va_up_self _ _ _ | exact hE0 | rw [va_up_ne _ _ (by omega)])) (C := RX4) (T := TX4) (n := 6) rfl iWX4 tyX4 tyX4_ok nmX4 4 (by decide) k1_49 rfl rfl (rfl) rfl (show 4 < 6 by decide) dX4_init_39 (fun H locs N hS hz => ?_)
  replace hsz : H.size = s.heap.size + 4 := by omega
  clear hz
  refine lv_aload_n S.1 S.2.1 dX4_init_42 rfl (lv_at hl 0 rfl) ?_
  refine lv_null S.1 S.2.1 dX4_init_43 ?_
  refine nr_put S K N hS 0 (Or.inl (Or.inl (Or.inl (Or.inl (d0))))) (ci := 4) (fs := [.ref (ad 1), .ref (ad 2), .ref (ad 3), .ref (ad 4), .int 0, .null]) (by repeat (first | exact va_up_self _ _ _ | exact hE0 | rw [va_up_ne _ _ (by omega)])) (C := RX4) (T := TX4) (n := 6) rfl iWX4 tyX4 tyX4_ok nmX4 5 (by decide) k1_50 rfl rfl (rfl) rfl (show 5 < 6 by decide) dX4_init_44 (fun H locs N hS hz => ?_)
  replace hsz : H.size = s.heap.size + 4 := by omega
  clear hz
  refine lv_iconst (v := 0) S.1 S.2.1 dX4_init_47 (by decide) ?_
  refine lv_istore_n (lv' := [(1, .int 0), (0, .ref (ad 0))]) S.1 S.2.1 dX4_init_48 rfl hl (by decide) rfl (fun ls hl => ?_)
  refine lv_iload_n S.1 S.2.1 dX4_init_49 rfl (lv_at hl 0 rfl) ?_
  refine lv_aload_n S.1 S.2.1 dX4_init_50 rfl (lv_at hl 1 rfl) ?_
  refine nr_get S K N 0 (Or.inl (Or.inl (Or.inl (Or.inl (d0))))) (ci := 4) (fs := [.ref (ad 1), .ref (ad 2), .ref (ad 3), .ref (ad 4), .int 0, .null]) (by repeat (first | exact va_up_self _ _ _ | exact hE0 | rw [va_up_ne _ _ (by omega)])) (C := RX4) (T := TX4) (n := 6) rfl iWX4 1 (by decide) k1_46 rfl (v := .ref (ad 2)) rfl dX4_init_51 ?_
  refine nr_alen S K N 2 (Or.inl (Or.inl (Or.inr rfl))) 6 rfl (by repeat (first | exact va_up_self _ _ _ | exact hE0 | rw [va_up_ne _ _ (by omega)])) (v := 3) rfl dX4_init_54 ?_
  refine lv_icmp_ge (tgt := 77) S.1 S.2.1 dX4_init_55 (by decide) (fun c9 => absurd c9 (by decide)) (fun _ => ?_)
  refine lv_aload_n S.1 S.2.1 dX4_init_58 rfl (lv_at hl 1 rfl) ?_
  refine nr_get S K N 0 (Or.inl (Or.inl (Or.inl (Or.inl (d0))))) (ci := 4) (fs := [.ref (ad 1), .ref (ad 2), .ref (ad 3), .ref (ad 4), .int 0, .null]) (by repeat (first | exact va_up_self _ _ _ | exact hE0 | rw [va_up_ne _ _ (by omega)])) (C := RX4) (T := TX4) (n := 6) rfl iWX4 1 (by decide) k1_46 rfl (v := .ref (ad 2)) rfl dX4_init_59 ?_
  refine lv_iload_n S.1 S.2.1 dX4_init_62 rfl (lv_at hl 0 rfl) ?_
  refine nr_new S K N hS (30 + 0) (nd_or (nd_or (nd_or (nd_or (hn_4) (by omega)) (by omega)) (by omega)) (by omega)) (ha_4.trans hsz.symm) (ci := 0) (C := RX0) (T := TX0) (n := 1) rfl iWX0 tyX0 tyX0_ok k1_24 k1_26 k1_2 [.null] hf_X0 (Nat.le_of_ble_eq_true rfl) (Nat.le_of_ble_eq_true rfl) dX4_init_63 (fun H N hS hz => ?_)
  replace hsz : H.size = s.heap.size + 5 := by omega
  clear hz
  refine lv_dup S.1 S.2.1 dX4_init_66 rfl ?_
  refine nc_wIN S K hS (As := []) (m_X0_init l 0 N (by omega) (Or.inr rfl) (by repeat (first | exact va_up_self _ _ _ | exact hE0 | rw [va_up_ne _ _ (by omega)])) (nd_or (nd_or (nd_or (nd_or (nd_or (hn_5) (by omega)) (by omega)) (by omega)) (by omega)) (by omega)) (by rw [hsz]; exact ha_5)) (by decide) k1_28 rfl k1_2 k1_29 (num := 0) (by decide +kernel) rfl ⟨(Nat.le_of_ble_eq_true rfl), (Nat.le_of_ble_eq_true rfl)⟩ hl.1 rfl (Nat.le_of_ble_eq_true rfl) dX4_init_67 ⟨(Nat.le_of_ble_eq_true rfl), (Nat.le_of_ble_eq_true rfl)⟩ (fun v9 H locs hP hS => ?_)
  obtain ⟨rfl, hz, N⟩ := hP
  refine W.eq (g2 := F0 m 70 ls [.ref (ad (30 + 0)), .int 0, .ref (ad 2)]) rfl ?_
  replace hsz : H.size = s.heap.size + 6 := by omega
  clear hz
  refine nr_aast S K N hS 2 (Or.inl (Or.inl (Or.inl (Or.inl (Or.inr rfl))))) 6 rfl (by repeat (first | exact va_up_self _ _ _ | exact hE0 | rw [va_up_ne _ _ (by omega)])) (30 + 0) (Or.inl (Or.inr rfl)) (by repeat (first | exact va_up_self _ _ _ | exact hE0 | rw [va_up_ne _ _ (by omega)])) (ci := 0) rfl (by unfold vp_in; decide) dX4_init_70 (fun H locs N hS hz => ?_)
  replace hsz : H.size = s.heap.size + 6 := by omega
  clear hz
  refine lv_iinc (v := 1) (lv' := [(1, .int 1), (0, .ref (ad 0))]) S.1 S.2.1 dX4_init_71 hl (k := 0) rfl (by decide) (by decide) rfl (fun ls hl => ?_)
  refine lv_goto (tgt := 49) S.1 S.2.1 dX4_init_74 (by decide) ?_
  refine lv_iload_n S.1 S.2.1 dX4_init_49 rfl (lv_at hl 0 rfl) ?_
  refine lv_aload_n S.1 S.2.1 dX4_init_50 rfl (lv_at hl 1 rfl) ?_
  refine nr_get S K N 0 (Or.inl (Or.inl (Or.inl (Or.inl (Or.inl (Or.inl (d0))))))) (ci := 4) (fs := [.ref (ad 1), .ref (ad 2), .ref (ad 3), .ref (ad 4), .int 0, .null]) (by repeat (first | exact va_up_self _ _ _ | exact hE0 | rw [va_up_ne _ _ (by omega)])) (C := RX4) (T := TX4) (n := 6) rfl iWX4 1 (by decide) k1_46 rfl (v := .ref (ad 2)) rfl dX4_init_51 ?_
  refine nr_alen S K N 2 (Or.inl (Or.inl (Or.inl (Or.inl (Or.inr rfl))))) 6 rfl (by repeat (first | exact va_up_self _ _ _ | exact hE0 | rw [va_up_ne _ _ (by omega)])) (v := 3) rfl dX4_init_54 ?_
  refine lv_icmp_ge (tgt := 77) S.1 S.2.1 dX4_init_55 (by decide) (fun c9 => absurd c9 (by decide)) (fun _ => ?_)
  refine lv_aload_n S.1 S.2.1 dX4_init_58 rfl (lv_at hl 1 rfl) ?_
  refine nr_get S K N 0 (Or.inl (Or.inl (Or.inl (Or.inl (Or.inl (Or.inl (d0))))))) (ci := 4) (fs := [.ref (ad 1), .ref (ad 2), .ref (ad 3), .ref (ad 4), .int 0, .null]) (by repeat (first | exact va_up_self _ _ _ | exact hE0 | rw [va_up_ne _ _ (by omega)])) (C := RX4) (T := TX4) (n := 6) rfl iWX4 1 (by decide) k1_46 rfl (v := .ref (ad 2)) rfl dX4_init_59 ?_
  refine lv_iload_n S.1 S.2.1 dX4_init_62 rfl (lv_at hl 0 rfl) ?_
  refine nr_new S K N hS (30 + 1) (nd_or (nd_or (nd_or (nd_or (nd_or (nd_or (hn_6) (by omega)) (by omega)) (by omega)) (by omega)) (by omega)) (by omega)) (ha_6.trans hsz.symm) (ci := 0) (C := RX0) (T := TX0) (n := 1) rfl iWX0 tyX0 tyX0_ok k1_24 k1_26 k1_2 [.null] hf_X0 (Nat.le_of_ble_eq_true rfl) (Nat.le_of_ble_eq_true rfl) dX4_init_63 (fun H N hS hz => ?_)
  replace hsz : H.size = s.heap.size + 7 := by omega
  clear hz
  refine lv_dup S.1 S.2.1 dX4_init_66 rfl ?_
  refine nc_wIN S K hS (As := []) (m_X0_init l 1 N (by omega) (Or.inr rfl) (by repeat (first | exact va_up_self _ _ _ | exact hE0 | rw [va_up_ne _ _ (by omega)])) (nd_or (nd_or (nd_or (nd_or (nd_or (nd_or (nd_or (hn_7) (by omega)) (by omega)) (by omega)) (by omega)) (by omega)) (by omega)) (by omega)) (by rw [hsz]; exact ha_7)) (by decide) k1_28 rfl k1_2 k1_29 (num := 0) (by decide +kernel) rfl ⟨(Nat.le_of_ble_eq_true rfl), (Nat.le_of_ble_eq_true rfl)⟩ hl.1 rfl (Nat.le_of_ble_eq_true rfl) dX4_init_67 ⟨(Nat.le_of_ble_eq_true rfl), (Nat.le_of_ble_eq_true rfl)⟩ (fun v9 H locs hP hS => ?_)
  obtain ⟨rfl, hz, N⟩ := hP
  refine W.eq (g2 := F0 m 70 ls [.ref (ad (30 + 1)), .int 1, .ref (ad 2)]) rfl ?_
  replace hsz : H.size = s.heap.size + 8 := by omega
  clear hz
  refine nr_aast S K N hS 2 (Or.inl (Or.inl (Or.inl (Or.inl (Or.inl (Or.inl (Or.inr rfl))))))) 6 rfl (by repeat (first | exact va_up_self _ _ _ | exact hE0 | rw [va_up_ne _ _ (by omega)])) (30 + 1) (Or.inl (Or.inr rfl)) (by repeat (first | exact va_up_self _ _ _ | exact hE0 | rw [va_up_ne _ _ (by omega)])) (ci := 0) rfl (by unfold vp_in; decide) dX4_init_70 (fun H locs N hS hz => ?_)
  replace hsz : H.size = s.heap.size + 8 := by omega
  clear hz
  refine lv_iinc (v := 2) (lv' := [(1, .int 2), (0, .ref (ad 0))]) S.1 S.2.1 dX4_init_71 hl (k := 0) rfl (by decide) (by decide) rfl (fun ls hl => ?_)
  refine lv_goto (tgt := 49) S.1 S.2.1 dX4_init_74 (by decide) ?_
  refine lv_iload_n S.1 S.2.1 dX4_init_49 rfl (lv_at hl 0 rfl) ?_
  refine lv_aload_n S.1 S.2.1 dX4_init_50 rfl (lv_at hl 1 rfl) ?_
  refine nr_get S K N 0 (Or.inl (Or.inl (Or.inl (Or.inl (Or.inl (Or.inl (Or.inl (Or.inl (d0))))))))) (ci := 4) (fs := [.ref (ad 1), .ref (ad 2), .ref (ad 3), .ref (ad 4), .int 0, .null]) (by repeat (first | exact va_up_self _ _ _ | exact hE0 | rw [va_up_ne _ _ (by omega)])) (C := RX4) (T := TX4) (n := 6) rfl iWX4 1 (by decide) k1_46 rfl (v := .ref (ad 2)) rfl dX4_init_51 ?_
  refine nr_alen S K N 2 (Or.inl (Or.inl (Or.inl (Or.inl (Or.inl (Or.inl (Or.inr rfl))))))) 6 rfl (by repeat (first | exact va_up_self _ _ _ | exact hE0 | rw [va_up_ne _ _ (by omega)])) (v := 3) rfl dX4_init_54 ?_
  refine lv_icmp_ge (tgt := 77) S.1 S.2.1 dX4_init_55 (by decide) (fun c9 => absurd c9 (by decide)) (fun _ => ?_)
  refine lv_aload_n S.1 S.2.1 dX4_init_58 rfl (lv_at hl 1 rfl) ?_
  refine nr_get S K N 0 (Or.inl (Or.inl (Or.inl (Or.inl (Or.inl (Or.inl (Or.inl (Or.inl (d0))))))))) (ci := 4) (fs := [.ref (ad 1), .ref (ad 2), .ref (ad 3), .ref (ad 4), .int 0, .null]) (by repeat (first | exact va_up_self _ _ _ | exact hE0 | rw [va_up_ne _ _ (by omega)])) (C := RX4) (T := TX4) (n := 6) rfl iWX4 1 (by decide) k1_46 rfl (v := .ref (ad 2)) rfl dX4_init_59 ?_
  refine lv_iload_n S.1 S.2.1 dX4_init_62 rfl (lv_at hl 0 rfl) ?_
  refine nr_new S K N hS (30 + 2) (nd_or (nd_or (nd_or (nd_or (nd_or (nd_or (nd_or (nd_or (hn_8) (by omega)) (by omega)) (by omega)) (by omega)) (by omega)) (by omega)) (by omega)) (by omega)) (ha_8.trans hsz.symm) (ci := 0) (C := RX0) (T := TX0) (n := 1) rfl iWX0 tyX0 tyX0_ok k1_24 k1_26 k1_2 [.null] hf_X0 (Nat.le_of_ble_eq_true rfl) (Nat.le_of_ble_eq_true rfl) dX4_init_63 (fun H N hS hz => ?_)
  replace hsz : H.size = s.heap.size + 9 := by omega
  clear hz
  refine lv_dup S.1 S.2.1 dX4_init_66 rfl ?_
  refine nc_wIN S K hS (As := []) (m_X0_init l 2 N (by omega) (Or.inr rfl) (by repeat (first | exact va_up_self _ _ _ | exact hE0 | rw [va_up_ne _ _ (by omega)])) (nd_or (nd_or (nd_or (nd_or (nd_or (nd_or (nd_or (nd_or (nd_or (hn_9) (by omega)) (by omega)) (by omega)) (by omega)) (by omega)) (by omega)) (by omega)) (by omega)) (by omega)) (by rw [hsz]; exact ha_9)) (by decide) k1_28 rfl k1_2 k1_29 (num := 0) (by decide +kernel) rfl ⟨(Nat.le_of_ble_eq_true rfl), (Nat.le_of_ble_eq_true rfl)⟩ hl.1 rfl (Nat.le_of_ble_eq_true rfl) dX4_init_67 ⟨(Nat.le_of_ble_eq_true rfl), (Nat.le_of_ble_eq_true rfl)⟩ (fun v9 H locs hP hS => ?_)
  obtain ⟨rfl, hz, N⟩ := hP
  refine W.eq (g2 := F0 m 70 ls [.ref (ad (30 + 2)), .int 2, .ref (ad 2)]) rfl ?_
  replace hsz : H.size = s.heap.size + 10 := by omega
  clear hz
  refine nr_aast S K N hS 2 (Or.inl (Or.inl (Or.inl (Or.inl (Or.inl (Or.inl (Or.inl (Or.inl (Or.inr rfl))))))))) 6 rfl (by repeat (first | exact va_up_self _ _ _ | exact hE0 | rw [va_up_ne _ _ (by omega)])) (30 + 2) (Or.inl (Or.inr rfl)) (by repeat (first | exact va_up_self _ _ _ | exact hE0 | rw [va_up_ne _ _ (by omega)])) (ci := 0) rfl (by unfold vp_in; decide) dX4_init_70 (fun H locs N hS hz => ?_)
  replace hsz : H.size = s.heap.size + 10 := by omega
  clear hz
  refine lv_iinc (v := 3) (lv' := [(1, .int 3), (0, .ref (ad 0))]) S.1 S.2.1 dX4_init_71 hl (k := 0) rfl (by decide) (by decide) rfl (fun ls hl => ?_)
  refine lv_goto (tgt := 49) S.1 S.2.1 dX4_init_74 (by decide) ?_
  refine lv_iload_n S.1 S.2.1 dX4_init_49 rfl (lv_at hl 0 rfl) ?_
  refine lv_aload_n S.1 S.2.1 dX4_init_50 rfl (lv_at hl 1 rfl) ?_
  refine nr_get S K N 0 (Or.inl (Or.inl (Or.inl (Or.inl (Or.inl (Or.inl (Or.inl (Or.inl (Or.inl (Or.inl (d0))))))))))) (ci := 4) (fs := [.ref (ad 1), .ref (ad 2), .ref (ad 3), .ref (ad 4), .int 0, .null]) (by repeat (first | exact va_up_self _ _ _ | exact hE0 | rw [va_up_ne _ _ (by omega)])) (C := RX4) (T := TX4) (n := 6) rfl iWX4 1 (by decide) k1_46 rfl (v := .ref (ad 2)) rfl dX4_init_51 ?_
  refine nr_alen S K N 2 (Or.inl (Or.inl (Or.inl (Or.inl (Or.inl (Or.inl (Or.inl (Or.inl (Or.inr rfl))))))))) 6 rfl (by repeat (first | exact va_up_self _ _ _ | exact hE0 | rw [va_up_ne _ _ (by omega)])) (v := 3) rfl dX4_init_54 ?_
  refine lv_icmp_ge (tgt := 77) S.1 S.2.1 dX4_init_55 (by decide) (fun _ => ?_) (fun c9 => absurd (by decide) c9)
  refine ne_wV S hS hr hlk ⟨rfl, hsz, nh_congr N (fun _ _ => rfl) (fun r _ => ?_)⟩ dX4_init_77
  by_cases h0 : r = 0
  · subst h0; (repeat (first | rw [va_up_self] | rw [va_up_ne _ _ (by omega)])); (try rfl)
  by_cases h1 : r = 1
  · subst h1; (repeat (first | rw [va_up_self] | rw [va_up_ne _ _ (by omega)])); (try rfl)
  by_cases h2 : r = 2
  · subst h2; (repeat (first | rw [va_up_self] | rw [va_up_ne _ _ (by omega)])); (try rfl)
  by_cases h3 : r = 3
  · subst h3; (repeat (first | rw [va_up_self] | rw [va_up_ne _ _ (by omega)])); (try rfl)
  by_cases h4 : r = 4
  · subst h4; (repeat (first | rw [va_up_self] | rw [va_up_ne _ _ (by omega)])); (try rfl)
  by_cases h5 : r = (30 + 0)
  · subst h5; (repeat (first | rw [va_up_self] | rw [va_up_ne _ _ (by omega)])); (try rfl)
  by_cases h6 : r = (33 + 0)
  · subst h6; (repeat (first | rw [va_up_self] | rw [va_up_ne _ _ (by omega)])); (try rfl)
  by_cases h7 : r = (30 + 1)
  · subst h7; (repeat (first | rw [va_up_self] | rw [va_up_ne _ _ (by omega)])); (try rfl)
  by_cases h8 : r = (33 + 1)
  · subst h8; (repeat (first | rw [va_up_self] | rw [va_up_ne _ _ (by omega)])); (try rfl)
  by_cases h9 : r = (30 + 2)
  · subst h9; (repeat (first | rw [va_up_self] | rw [va_up_ne _ _ (by omega)])); (try rfl)
  by_cases h10 : r = (33 + 2)
  · subst h10; (repeat (first | rw [va_up_self] | rw [va_up_ne _ _ (by omega)])); (try rfl)
  (repeat (first | rw [va_up_self] | rw [va_up_ne _ _ (by omega)])); (try rfl)
