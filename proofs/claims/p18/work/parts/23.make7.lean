def rP (k q : Nat) : Prop := rV (3 * k + 0) q ∨ rV (3 * k + 1) q ∨ rV (3 * k + 2) q
def adP (ad : Nat → Nat) (k a : Nat) : Prop := ad (40 + k) = a ∧ ad (52 + k) = a + 1 ∧ ad (64 + k) = a + 2 ∧ adV ad (3 * k + 0) (a + 3) ∧ adV ad (3 * k + 1) (a + 6) ∧ adV ad (3 * k + 2) (a + 9)
def ndP (dom : Nat → Prop) (k : Nat) : Prop := ¬ dom (40 + k) ∧ ¬ dom (52 + k) ∧ ¬ dom (64 + k) ∧ ndV dom (3 * k + 0) ∧ ndV dom (3 * k + 1) ∧ ndV dom (3 * k + 2)
def domP (dom : Nat → Prop) (k : Nat) : Nat → Prop := fun q => dom q ∨ q = 40 + k ∨ q = 52 + k ∨ q = 64 + k ∨ rV (3 * k + 0) q ∨ rV (3 * k + 1) q ∨ rV (3 * k + 2) q
def mkP (C : Nat → Nat → Int32) (k : Nat) : Nat → Nat → Int32 := fun r => if r = 40 + k then (fun i => if i = 5 then 1 else 0) else if r = 52 + k then (fun _ => 0) else if r = 64 + k then (fun i => if i < 3 then 1 else 0) else if rV (3 * k + 0) r ∨ rV (3 * k + 1) r ∨ rV (3 * k + 2) r then (fun _ => 0) else C r
theorem rf_none (ad : Nat → Nat) (b : Nat) : rf ad b (fun _ => 0) = fun _ => none := by
  funext i
  unfold rf
  rw [if_pos rfl]
theorem rf3_three (ad : Nat → Nat) (k : Nat) : rf3 ad (3 * k) (fun i => if i < 3 then 1 else 0) = va_up (va_up (va_up (fun _ => none) 0 (some (ad (300 + 3 * (3 * k + 0))))) 1 (some (ad (300 + 3 * (3 * k + 1))))) 2 (some (ad (300 + 3 * (3 * k + 2)))) := by
  funext i
  unfold rf3 va_up
  by_cases h2 : i = 2
  · subst h2; rfl
  · by_cases h1 : i = 1
    · subst h1; rfl
    · by_cases h0 : i = 0
      · subst h0; rfl
      · rw [if_neg h2, if_neg h1, if_neg h0]
        exact if_pos (by show (if i < 3 then (1 : Int32) else 0) = 0; rw [if_neg (by omega)])
section MKP
variable {p : Program} {l : Launch} {e : Env} {R : Room} {s : State} {m : MethodId} {args : Array Value} {below : List Frame} {meth : Method} {c : Code} {H : Heap} {locs : List Loc} {cells slots : Nat} {Q : State → Prop}
variable {cc : ByteArray} {nL : Nat} {own : String} {pc : Nat} {ls : Array Slot} {rest : List Value} {D : va_G} {cA : Nat → ClassId} {B : Nat} {dom : Nat → Prop} {ad : Nat → Nat} {X : Nat → va_E} {C : Nat → Nat → Int32}
theorem nk_newP (S : CallFix p m c cc nL s args WU RX4) (K : KK D cA B s) (N : kw D cA B dom ad X C H) (hS : va_S (fun q => B ≤ q) s.heap H locs) (k : Nat) (hr : ¬ dom (40 + k)) (ha : ad (40 + k) = H.size) (hcells : cells + 1 ≤ R.cells) (hslots : slots + 12 ≤ R.slots) {index : Nat} (hcl : Cond.classLink RX4 index RX2 ∈ WU) (hinst : Cond.instantiable RX2 12 ∈ WU) (hini : Cond.initialized RX2 ∈ WU) (hdg : decode cc pc = .ok (.new index, 3))
    (kk : ∀ (H1 : Heap), kwn D cA B dom ad X C (40 + k) (.inr (2, [.null, .null, .int 0, .int 0, .int 0, .int 0, .int 0, .int 0, .int 0, .int 0, .int 0, .int 0])) H1 → va_S (fun q => B ≤ q) s.heap H1 locs → H1.size = H.size + 1 → W p l e R s m args below meth c H1 locs (cells + 1) (slots + 12) Q (F0 m (pc + 3) ls (.ref (ad (40 + k)) :: rest))) : W p l e R s m args below meth c H locs cells slots Q (F0 m pc ls rest) := by
  obtain ⟨E, h1, h2, h3⟩ := N
  refine nr_new S K h1 hS (40 + k) hr ha (ci := 2) (C := RX2) (T := TX2) (n := 12) rfl iWX2 tyX2 tyX2_ok hcl hinst hini [.null, .null, .int 0, .int 0, .int 0, .int 0, .int 0, .int 0, .int 0, .int 0, .int 0, .int 0] hf_X2 hcells hslots hdg (fun H1 g1 g2 g3 => kk H1 ⟨_, g1, va_up_self _ _ _, fun r hc hd => ?_, fun r hc => ?_⟩ g2 g3)
  · rw [va_up_ne _ _ (fun q => hr (by rw [← q]; exact hd))]
    exact h2 r hc hd
  · rw [va_up_ne _ _ (fun q => hc (by rw [q]; unfold crole; omega))]
    exact h3 r hc
theorem nk_initP (S : CallFix p m c cc nL s args WU RX4) (K : KK D cA B s) {k : Nat} (N : kwn D cA B dom ad X C (40 + k) (.inr (2, [.null, .null, .int 0, .int 0, .int 0, .int 0, .int 0, .int 0, .int 0, .int 0, .int 0, .int 0])) H) (hS : va_S (fun q => B ≤ q) s.heap H locs) (hk : k < 12) (nd : ndP dom k) (h0 : ad (52 + k) = H.size ∧ ad (64 + k) = H.size + 1 ∧ adV ad (3 * k + 0) (H.size + 2) ∧ adV ad (3 * k + 1) (H.size + 5) ∧ adV ad (3 * k + 2) (H.size + 8))
    (hR : 4 ≤ R.frames ∧ 100 ≤ R.locals) (hz : ls.size = nL) (hw : (rest.map fun v => v.category).sum ≤ 8) (hdg : decode cc pc = .ok (.invokespecial 44, 3)) (hf : cells + 11 ≤ R.cells ∧ slots + 75 ≤ R.slots)
    (kk : ∀ (H1 : Heap) (locs1 : List Loc), kw D cA B (domP dom k) ad X (mkP C k) H1 → va_S (fun q => B ≤ q) s.heap H1 locs1 → W p l e R s m args below meth c H1 locs1 (cells + 11) (slots + 75) Q (F0 m (pc + 3) ls rest)) : W p l e R s m args below meth c H locs cells slots Q (F0 m pc ls (.ref (ad (40 + k)) :: rest)) := by
  obtain ⟨E, h1, h2, h3, h4⟩ := N
  obtain ⟨a0, a1, ⟨a2, a3, a4⟩, ⟨a5, a6, a7⟩, a8, a9, a10⟩ := h0
  obtain ⟨n, n0, n1, ⟨n2, n3, n4⟩, ⟨n5, n6, n7⟩, n8, n9, n10⟩ := nd
  have hM := m_X2_init (cA := cA) l k h1 hk (Or.inr rfl) h2 (nd_or n0 (by omega)) (nd_or n1 (by omega)) (nd_or n2 (by omega)) (nd_or n3 (by omega)) (nd_or n4 (by omega)) (nd_or n5 (by omega)) (nd_or n6 (by omega)) (nd_or n7 (by omega)) (nd_or n8 (by omega)) (nd_or n9 (by omega)) (nd_or n10 (by omega)) a0 a1 a2 a3 a4 a5 a6 a7 a8 a9 a10
  refine nc_wI S K hS (As := []) hM k1_137 k1_138 rfl k1_7 k1_139 (num := 0) (by decide +kernel) rfl ⟨by omega, by omega⟩ hz rfl hw hdg hf (fun v9 H1 locs1 hP g2 => ?_)
  obtain ⟨rfl, -, g1⟩ := hP
  refine kk H1 locs1 ⟨_, nh_sub g1 (fun r hr => ?_), fun r hc hd => ?_, fun r hc => ?_⟩ g2
  · unfold domP rV at hr
    rcases hr with h | h | h | h | (h | h | h) | (h | h | h) | (h | h | h) <;> simp only [h, true_or, or_true]
  · by_cases q0 : r = 40 + k
    · subst q0
      rw [va_up_self, sh_P hk]
      unfold mkP
      rw [if_pos rfl]
      rfl
    · rw [va_up_ne _ _ q0]
      unfold mkP
      rw [if_neg q0]
      by_cases q1 : r = 52 + k
      · subst q1
        rw [if_pos rfl, sh_Pe hk, rf_none]
        repeat (first | rw [va_up_self] | rw [va_up_ne _ _ (by omega)])
      · rw [if_neg q1]
        by_cases q2 : r = 64 + k
        · subst q2
          rw [if_pos rfl, sh_Pc hk, rf3_three]
          repeat (first | rw [va_up_self] | rw [va_up_ne _ _ (by omega)])
        · rw [if_neg q2]
          by_cases q3 : rV (3 * k + 0) r ∨ rV (3 * k + 1) r ∨ rV (3 * k + 2) r
          · rw [if_pos q3]
            unfold rV at q3
            rcases q3 with (rfl | rfl | rfl) | (rfl | rfl | rfl) | (rfl | rfl | rfl)
            all_goals (repeat (first | rw [va_up_self] | rw [va_up_ne _ _ (by omega)]))
            · rw [sh_V]
            · rw [sh_Vn]
            · rw [sh_Vt]
            · rw [sh_V]
            · rw [sh_Vn]
            · rw [sh_Vt]
            · rw [sh_V]
            · rw [sh_Vn]
            · rw [sh_Vt]
          · have hd2 : dom r := by
              unfold domP at hd
              rcases hd with h | h | h | h | h
              · exact h
              · exact absurd h q0
              · exact absurd h q1
              · exact absurd h q2
              · exact absurd h q3
            rw [if_neg q3]
            unfold rV at q3
            repeat (rw [va_up_ne _ _ (by omega)])
            exact h3 r hc hd2
  · unfold crole at hc
    repeat (rw [va_up_ne _ _ (by omega)])
    exact h4 r (by unfold crole; exact hc)
end MKP
theorem ilt12 {i : Nat} (h : nI i < 12) (hle : i ≤ 12) : i < 12 := by
  apply Nat.lt_of_not_le
  intro q
  have e : i = 12 := by omega
  subst e
  exact absurd h (by decide)

def f_X4_skater (M : Nat → Nat → Int32) (i : Nat) : Int32 :=
  if (nI i) < 12 then (nI i)
  else 0
def t_X4_skater (M : Nat → Nat → Int32) (i : Nat) : Nat :=
  if (nI i) < 12 then 0
  else 3
def g_X4_skater (M : Nat → Nat → Int32) (i : Nat) : Nat → Nat → Int32 :=
  if (nI i) < 12 then (up2 (up2 (mkP M i) 1 i 1) 0 4 (nI (i + 1)))
  else M
set_option maxHeartbeats 4000000 in
set_option maxRecDepth 100000 in
theorem m_X4_skater {D : va_G} {cA : Nat → ClassId} {B : Nat} (l : Launch) {dom : Nat → Prop} {ad : Nat → Nat} {X : Nat → va_E} {H0 : Heap} (M : Nat → Nat → Int32) (i : Nat) (N : kw D cA B dom ad X M H0) (d_K : (∀ r, r < 5 → dom r) ∧ True) (hls : l.stackTraces = false) (hcnt : M 0 4 = nI i) (hle : i ≤ 12) (nd : i < 12 → ndP dom i) (had : i < 12 → adP ad i H0.size) : MetX D cA B l yX4_skater cX4_skater 2 (some .int) 6 100 12 87 [.ref (ad 0)] H0 (fun o h => o = some (.int (f_X4_skater M i)) ∧ kw D cA B (domP dom i) ad X (g_X4_skater M i) h ∧ t_X4_skater M i = 0) (fun E h => E = xn (t_X4_skater M i) ∧ ¬ t_X4_skater M i = 0 ∧ kw D cA B dom ad X M h) := by
  refine MetX.of (by decide) (Nat.le_of_ble_eq_true rfl) ?_
  intro p e s m args below meth c S hr hlk htab hh K ls hl
  subst hh
  have hS : va_S (fun q => B ≤ q) s.heap s.heap [] := va_S.rf
  have hl : lv_has ls 2 [(0, .ref (ad 0))] := hl
  refine lv_aload_n S.1 S.2.1 dX4_skater_0 rfl (lv_at hl 0 rfl) ?_
  refine kr_get S K N 0 (by unfold crole; omega) (d_K.1 0 (by decide)) (sh_K) (C0 := RX4) (T := TX4) (n := 6) rfl iWX4 4 (by decide) k1_49 rfl (v := .int (M 0 4)) rfl dX4_skater_1 ?_
  refine nt_i (y := nI i) (hcnt) ?_
  refine lv_if_lt (tgt := 19) S.1 S.2.1 dX4_skater_4 (by decide) (fun c9 => absurd c9 (nI_pos (by omega))) (fun _ => ?_)
  refine lv_aload_n S.1 S.2.1 dX4_skater_7 rfl (lv_at hl 0 rfl) ?_
  refine kr_get S K N 0 (by unfold crole; omega) (d_K.1 0 (by decide)) (sh_K) (C0 := RX4) (T := TX4) (n := 6) rfl iWX4 4 (by decide) k1_49 rfl (v := .int (M 0 4)) rfl dX4_skater_8 ?_
  refine nt_i (y := nI i) (hcnt) ?_
  refine lv_aload_n S.1 S.2.1 dX4_skater_11 rfl (lv_at hl 0 rfl) ?_
  refine kr_get S K N 0 (by unfold crole; omega) (d_K.1 0 (by decide)) (sh_K) (C0 := RX4) (T := TX4) (n := 6) rfl iWX4 0 (by decide) k1_45 rfl (v := .ref (ad 1)) rfl dX4_skater_12 ?_
  refine kr_alen S K N 1 (by unfold crole; omega) (d_K.1 1 (by decide)) 5 rfl (sh_1) (v := 12) rfl dX4_skater_15 ?_
  refine lv_icmp_lt (tgt := 29) S.1 S.2.1 dX4_skater_16 (by decide) (fun c16_1 => ?_) (fun c16_1 => ?_)
  · have hi := ilt12 c16_1 hle
    refine lv_aload_n S.1 S.2.1 dX4_skater_29 rfl (lv_at hl 0 rfl) ?_
    refine kr_get S K N 0 (by unfold crole; omega) (d_K.1 0 (by decide)) (sh_K) (C0 := RX4) (T := TX4) (n := 6) rfl iWX4 4 (by decide) k1_49 rfl (v := .int (M 0 4)) rfl dX4_skater_30 ?_
    refine nt_i (y := nI i) (hcnt) ?_
    refine lv_istore_n (lv' := [(1, .int (nI i)), (0, .ref (ad 0))]) S.1 S.2.1 dX4_skater_33 rfl hl (by decide) rfl (fun ls hl => ?_)
    refine lv_aload_n S.1 S.2.1 dX4_skater_34 rfl (lv_at hl 1 rfl) ?_
    refine kr_get S K N 0 (by unfold crole; omega) (d_K.1 0 (by decide)) (sh_K) (C0 := RX4) (T := TX4) (n := 6) rfl iWX4 0 (by decide) k1_45 rfl (v := .ref (ad 1)) rfl dX4_skater_35 ?_
    refine lv_iload_n S.1 S.2.1 dX4_skater_38 rfl (lv_at hl 0 rfl) ?_
    refine nk_newP S K N hS i (nd hi).1 (had hi).1 (Nat.le_of_ble_eq_true rfl) (Nat.le_of_ble_eq_true rfl) k1_22 k1_136 k1_7 dX4_skater_39 (fun H Nn hS hz => ?_)
    have N := kwn_kw Nn
    refine lv_dup S.1 S.2.1 dX4_skater_42 rfl ?_
    refine nk_initP S K Nn hS hi (nd hi) (by rw [hz]; exact (had hi).2) ⟨(Nat.le_of_ble_eq_true rfl), (Nat.le_of_ble_eq_true rfl)⟩ hl.1 (Nat.le_of_ble_eq_true rfl) dX4_skater_43 ⟨(Nat.le_of_ble_eq_true rfl), (Nat.le_of_ble_eq_true rfl)⟩ (fun H locs N hS => ?_)
    have d_n : domP dom i (40 + i) ∧ True := ⟨Or.inr (Or.inl rfl), trivial⟩
    have d_K2 : (∀ r, r < 5 → domP dom i r) ∧ True := ⟨fun r hr => Or.inl (d_K.1 r hr), trivial⟩
    refine kr_aast S K N hS 1 (by unfold crole; omega) ((Or.inl (d_K.1 1 (by decide)))) 5 rfl (fun c9 => sh_1) (40 + i) (by unfold crole; omega) (d_n.1) (sh_P (by omega)) (ci := 2) rfl (vp_in_nI (show i < 12 by omega) (by decide)) i (nI_clamp (show i < 2 ^ 31 by omega)) (by omega) dX4_skater_46 (fun H locs N hS => ?_)
    refine lv_aload_n S.1 S.2.1 dX4_skater_47 rfl (lv_at hl 1 rfl) ?_
    refine lv_iload_n S.1 S.2.1 dX4_skater_48 rfl (lv_at hl 0 rfl) ?_
    refine lv_iconst (v := 1) S.1 S.2.1 dX4_skater_49 (by decide) ?_
    refine lv_iadd S.1 S.2.1 dX4_skater_50 ?_
    refine nt_i (y := nI (i + 1)) (nI_add i 1) ?_
    refine kr_put S K N hS 0 (by unfold crole; omega) (d_K2.1 0 (by decide)) (sh_K) (C0 := RX4) (T := TX4) (n := 6) rfl iWX4 tyX4 tyX4_ok nmX4 4 (by decide) k1_49 rfl rfl (nI (i + 1)) (by rw [sh_K, fsK_set4]) (rfl) rfl (show 4 < 6 by decide) dX4_skater_51 (fun H locs N hS => ?_)
    refine lv_iload_n S.1 S.2.1 dX4_skater_54 rfl (lv_at hl 0 rfl) ?_
    exact vx_ret (vw_zero (Nat.le_of_ble_eq_true rfl) (Nat.le_of_ble_eq_true rfl) (ne_wI S hS hr hlk ⟨congrArg (fun z => some (Value.int z)) (Eq.symm (by unfold f_X4_skater; first | (rw [if_pos c16_1]; done) | (simp only [if_pos c16_1]; done) | rfl)), (by unfold g_X4_skater; first | (rw [if_pos c16_1]; exact N) | (simp only [if_pos c16_1]; exact N) | exact N), by unfold t_X4_skater; first | (rw [if_pos c16_1]; done) | (simp only [if_pos c16_1]; done) | rfl⟩ dX4_skater_55))
  · refine nx_throw (text := "there are 12 skaters") xw_ise xg_ise (by decide) S hls K hS htab hlk hl.1 k1_68 k1_6 (by decide) dX4_skater_19 dX4_skater_22 dX4_skater_23 dX4_skater_25 dX4_skater_28 ⟨Nat.le_of_ble_eq_true rfl, Nat.le_of_ble_eq_true rfl, Nat.le_of_ble_eq_true rfl, Nat.le_of_ble_eq_true rfl⟩ (Nat.le_of_ble_eq_true rfl) (Nat.le_of_ble_eq_true rfl) (fun H1 hq => ?_)
    have e9 : t_X4_skater M i = 3 := by unfold t_X4_skater; first | (rw [if_neg c16_1]; done) | (simp only [if_neg c16_1]; done) | rfl
    exact ⟨by rw [e9]; rfl, by rw [e9]; decide, kw_kept N hq⟩
