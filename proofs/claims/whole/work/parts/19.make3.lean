/-- the reference while it is made: a lists are there, j of them in their fields -/
def pmd (dom : Nat → Prop) (a : Nat) : Nat → Prop := fun q => dom q ∨ (16 ≤ q ∧ q < 16 + a)
def pfl (ad : Nat → Nat) (j : Nat) : List Value := (List.range 23).map (fun i => if i = 2 then .int (-1) else if i < 6 then .int 0 else if i < 19 then (if i < 6 + j then .ref (ad (10 + i)) else .null) else .int 0)
theorem pfl_set (ad : Nat → Nat) (j : Nat) (h : j < 13) : (pfl ad j).set (6 + j) (.ref (ad (16 + j))) = pfl ad (j + 1) := by
  have : j = 0 ∨ j = 1 ∨ j = 2 ∨ j = 3 ∨ j = 4 ∨ j = 5 ∨ j = 6 ∨ j = 7 ∨ j = 8 ∨ j = 9 ∨ j = 10 ∨ j = 11 ∨ j = 12 := by omega
  rcases this with rfl | rfl | rfl | rfl | rfl | rfl | rfl | rfl | rfl | rfl | rfl | rfl | rfl <;> rfl
def pm (D : va_G) (cA : Nat → ClassId) (B : Nat) (dom : Nat → Prop) (ad : Nat → Nat) (E0 : Nat → va_E) (a j : Nat) (H : Heap) : Prop :=
  ∃ E, nh D B (pmd dom a) ad E H ∧ E 5 = .inr (5, pfl ad j) ∧ (∀ i, i < a → E (16 + i) = .inl (cA (mcls (6 + i)), mlen (6 + i), .inl fun _ => 0)) ∧ ∀ r, r ≠ 5 → ¬ (16 ≤ r ∧ r < 16 + a) → E r = E0 r
section PM
variable {p : Program} {l : Launch} {e : Env} {R : Room} {s : State} {m : MethodId} {args : Array Value} {below : List Frame} {meth : Method} {c : Code} {H : Heap} {locs : List Loc} {cells slots : Nat} {Q : State → Prop}
variable {cc : ByteArray} {nL : Nat} {own : String} {pc : Nat} {ls : Array Slot} {rest : List Value} {D : va_G} {cA : Nat → ClassId} {B : Nat} {dom : Nat → Prop} {ad : Nat → Nat} {E0 : Nat → va_E}
theorem pm_first (S : CallFix p m c cc nL s args WU RX5) (K : KK D cA B s) (N : nh D B dom ad E0 H) (hS : va_S (fun q => B ≤ q) s.heap H locs) (d0 : dom 5) (hE0 : E0 5 = .inr (5, [.int 0, .int 0, .int 0, .int 0, .int 0, .int 0, .null, .null, .null, .null, .null, .null, .null, .null, .null, .null, .null, .null, .null, .int 0, .int 0, .int 0, .int 0])) {index : Nat} (hlink : Cond.fieldLink RX5 index (TX5 2).1 (TX5 2).2.1 (TX5 2).2.2.1 ∈ WU) (hdg : decode cc pc = .ok (.putfield index, 3))
    (kk : ∀ (H1 : Heap) (locs1 : List Loc), pm D cA B dom ad E0 0 0 H1 → va_S (fun q => B ≤ q) s.heap H1 locs1 → H1.size = H.size → W p l e R s m args below meth c H1 locs1 cells slots Q (F0 m (pc + 3) ls rest)) : W p l e R s m args below meth c H locs cells slots Q (F0 m pc ls (.int (-1) :: .ref (ad 5) :: rest)) := by
  refine nr_put S K N hS 5 d0 hE0 (C := RX5) (T := TX5) (n := 23) rfl iWX5 tyX5 tyX5_ok nmX5 2 (by decide) hlink rfl rfl rfl rfl (by decide) hdg (fun H1 locs1 g1 g2 g3 => kk H1 locs1 ⟨_, nh_sub g1 (fun r h => ?_), ?_, fun i h => absurd h (Nat.not_lt_zero i), fun r h _ => va_up_ne _ _ h⟩ g2 g3)
  · rcases h with h | h
    · exact h
    · omega
  · rw [va_up_self]
    rfl
theorem pm_newa (S : CallFix p m c cc nL s args WU own) (K : KK D cA B s) {j : Nat} (N : pm D cA B dom ad E0 j j H) (hS : va_S (fun q => B ≤ q) s.heap H locs) (hr : ¬ dom (16 + j)) (ha : ad (16 + j) = H.size) {atype : ArrayType} {ty : FieldType} (hty : newarray.typeOf atype = ty) (hno : ∀ C, ty ≠ .object C) (harr : Cond.arrayClass ty ∈ WU) (ht : (ntys cA)[mcls (6 + j)]? = some (cA (mcls (6 + j)), ty)) {i : Int32} {n : Nat} (hn : ¬ i < 0) (hN : i.toNatClampNeg = n) (hm : mlen (6 + j) = n) (hbytes : n * componentBytes ty ≤ 536870912) (ha0 : ∀ cA : ClassId, vp_cell cA (n, .inl fun _ => 0) = arrV cA n (fun _ => defaultValue ty)) (hcells : cells + 1 ≤ R.cells) (hslots : slots + n ≤ R.slots) (hdg : decode cc pc = .ok (.newarray atype, 2))
    (kk : ∀ (H1 : Heap), pm D cA B dom ad E0 (j + 1) j H1 → va_S (fun q => B ≤ q) s.heap H1 locs → H1.size = H.size + 1 → W p l e R s m args below meth c H1 locs (cells + 1) (slots + n) Q (F0 m (pc + 2) ls (.ref (ad (16 + j)) :: rest))) : W p l e R s m args below meth c H locs cells slots Q (F0 m pc ls (.int i :: rest)) := by
  obtain ⟨E, h1, h2, h3, h4⟩ := N
  refine nr_newa S K h1 hS (16 + j) (fun h => ?_) ha hty hno harr (mcls (6 + j)) ht hn hN hbytes (n, .inl fun _ => 0) ha0 hcells hslots hdg (fun H1 g1 g2 g3 => kk H1 ⟨_, nh_sub g1 (fun r h => ?_), ?_, fun i h => ?_, fun r h h5 => ?_⟩ g2 g3)
  · rcases h with h | h
    · exact hr h
    · omega
  · unfold pmd at h ⊢
    rcases h with h | h
    · exact Or.inl (Or.inl h)
    · by_cases q : r = 16 + j
      · exact Or.inr q
      · exact Or.inl (Or.inr (by omega))
  · rw [va_up_ne _ _ (by omega)]
    exact h2
  · by_cases q : i = j
    · subst q
      rw [va_up_self, hm]
    · rw [va_up_ne _ _ (by omega)]
      exact h3 i (by omega)
  · rw [va_up_ne _ _ (by omega)]
    exact h4 r h (by omega)
theorem pm_put (S : CallFix p m c cc nL s args WU RX5) (K : KK D cA B s) {j : Nat} (hj : j < 13) (N : pm D cA B dom ad E0 (j + 1) j H) (hS : va_S (fun q => B ≤ q) s.heap H locs) (d0 : dom 5) (hi0 : meth.name = "<init>") {index : Nat} (hlink : Cond.fieldLink RX5 index (TX5 (6 + j)).1 (TX5 (6 + j)).2.1 (TX5 (6 + j)).2.2.1 ∈ WU) (hfin : (TX5 (6 + j)).2.2.2 = true) (hdecl : (TX5 (6 + j)).1 = RX5) (hn : narrow (tyX5 (6 + j)) (.ref (ad (16 + j))) = .ref (ad (16 + j))) (hfit : fits (tyX5 (6 + j)) (.ref (ad (16 + j))) = true) (hdg : decode cc pc = .ok (.putfield index, 3))
    (kk : ∀ (H1 : Heap) (locs1 : List Loc), pm D cA B dom ad E0 (j + 1) (j + 1) H1 → va_S (fun q => B ≤ q) s.heap H1 locs1 → H1.size = H.size → W p l e R s m args below meth c H1 locs1 cells slots Q (F0 m (pc + 3) ls rest)) : W p l e R s m args below meth c H locs cells slots Q (F0 m pc ls (.ref (ad (16 + j)) :: .ref (ad 5) :: rest)) := by
  obtain ⟨E, h1, h2, h3, h4⟩ := N
  refine nr_putF S K h1 hS 5 (Or.inl d0) h2 (C := RX5) (T := TX5) (n := 23) rfl iWX5 tyX5 tyX5_ok nmX5 (6 + j) (by omega) hlink rfl hfin hi0 hdecl hn hfit (by unfold pfl; rw [List.length_map, List.length_range]; omega) hdg (fun H1 locs1 g1 g2 g3 => kk H1 locs1 ⟨_, g1, ?_, fun i h => ?_, fun r h h5 => ?_⟩ g2 g3)
  · rw [va_up_self, pfl_set ad j hj]
  · rw [va_up_ne _ _ (by omega)]
    exact h3 i h
  · rw [va_up_ne _ _ h]
    exact h4 r h h5
theorem pm_mw (d0 : dom 5) (N : pm D cA B dom ad E0 13 13 H) : mw D cA B (pmd dom 13) ad E0 mz H := by
  obtain ⟨E, h1, h2, h3, h4⟩ := N
  refine ⟨E, h1, ⟨h2, fun i h6 h18 => ?_⟩, fun r hr => h4 r (fun q => hr (Or.inl q)) (fun q => hr (Or.inr ⟨q.1, by omega⟩)), fun r hr => ?_⟩
  · have h := h3 (i - 6) (by omega)
    rw [show 16 + (i - 6) = 10 + i by omega, show 6 + (i - 6) = i by omega] at h
    rw [h]
    have hz : mz i = fun _ => 0 := by
      funext j
      unfold mz
      rw [if_neg (by omega)]
    rw [hz]
  · unfold mrole at hr
    unfold pmd
    rcases hr with rfl | hr
    · exact Or.inl d0
    · exact Or.inr (by omega)
end PM

def it124_X5_init  : Nat → (Nat → Nat → Int32)
  | 0 => mz
  | n124 + 1 => (up2 ((it124_X5_init n124)) 12 n124 (-99))
def it147_X5_init  : Nat → (Nat → Nat → Int32)
  | 0 => ((it124_X5_init 432))
  | n147 + 1 => (up2 ((it147_X5_init n147)) 16 n147 (-99))
def it170_X5_init  : Nat → (Nat → Nat → Int32)
  | 0 => ((it147_X5_init 1008))
  | n170 + 1 => (up2 ((it170_X5_init n170)) 17 n170 (-99))
def it193_X5_init  : Nat → (Nat → Nat → Int32)
  | 0 => ((it170_X5_init 252))
  | n193 + 1 => (up2 (g_X5_sets (g_X5_sets (g_X5_sets (g_X5_sets (g_X5_sets (g_X5_sets (g_X5_sets ((it193_X5_init n193)) n193 0 40 130 420 950) n193 1 40 130 430 970) n193 2 50 170 490 1050) n193 3 50 180 530 1100) n193 4 60 210 590 1150) n193 5 110 330 800 1250) n193 6 0 120 150 200) 18 ((29 * n193) + 28) 270)
def g_X5_init : Nat → Nat → Int32 :=
  ((it193_X5_init 3))
set_option maxHeartbeats 4000000 in
set_option maxRecDepth 100000 in
theorem m_X5_init {D : va_G} {cA : Nat → ClassId} {B : Nat} (l : Launch) {dom : Nat → Prop} {ad : Nat → Nat} {X : Nat → va_E} {H0 : Heap} (N : nh D B dom ad X H0) (d0 : dom 5) (hE0 : X 5 = .inr (5, [.int 0, .int 0, .int 0, .int 0, .int 0, .int 0, .null, .null, .null, .null, .null, .null, .null, .null, .null, .null, .null, .null, .null, .int 0, .int 0, .int 0, .int 0])) (hn : ∀ j, j < 13 → ¬ dom (16 + j)) (ha : ∀ j, j < 13 → ad (16 + j) = H0.size + j) : MetW D cA B l yX5_init cX5_init 2 none 1 26 13 2679 [.ref (ad 5)] H0 (fun o h => o = none ∧ mw D cA B (pmd dom 13) ad X g_X5_init h) := by
  refine MetW.of (by decide) (Nat.le_of_ble_eq_true rfl) ?_
  intro p e s m args below meth c S hr hlk hin hh K ls hl
  subst hh
  have hS : va_S (fun q => B ≤ q) s.heap s.heap [] := va_S.rf
  have hsz : s.heap.size = s.heap.size + 0 := rfl
  have hl : lv_has ls 2 [(0, .ref (ad 5))] := hl
  refine lv_aload_n S.1 S.2.1 dX5_init_0 rfl (lv_at hl 0 rfl) ?_
  refine nc_obj S k3_141 k1_21 k1_22 hl.1 (Nat.le_of_ble_eq_true rfl) dX5_init_1 ⟨(Nat.le_of_ble_eq_true rfl), (Nat.le_of_ble_eq_true rfl)⟩ ?_
  refine lv_aload_n S.1 S.2.1 dX5_init_4 rfl (lv_at hl 0 rfl) ?_
  refine lv_iconst (v := (-1)) S.1 S.2.1 dX5_init_5 (by decide) ?_
  refine pm_first S K N hS d0 hE0 k3_148 dX5_init_6 (fun H locs N hS hz => ?_)
  replace hsz : H.size = s.heap.size + 0 := by omega
  clear hz
  refine lv_aload_n S.1 S.2.1 dX5_init_9 rfl (lv_at hl 0 rfl) ?_
  refine lv_bipush (v := 12) S.1 S.2.1 dX5_init_10 (by decide) ?_
  refine pm_newa S K (j := 0) N hS (hn 0 (by decide)) ((ha 0 (by decide)).trans hsz.symm) (atype := .int) (ty := .int) rfl (by intro C h; cases h) k1_45 rfl (n := 12) (by decide) (by decide) rfl (by decide) (fun _ => rfl) (Nat.le_of_ble_eq_true rfl) (Nat.le_of_ble_eq_true rfl) dX5_init_12 (fun H N hS hz => ?_)
  replace hsz : H.size = s.heap.size + 1 := by omega
  clear hz
  refine pm_put S K (j := 0) (by decide) N hS d0 (hin.trans rfl) k3_152 rfl rfl rfl rfl dX5_init_14 (fun H locs N hS hz => ?_)
  replace hsz : H.size = s.heap.size + 1 := by omega
  clear hz
  refine lv_aload_n S.1 S.2.1 dX5_init_17 rfl (lv_at hl 0 rfl) ?_
  refine lv_bipush (v := 12) S.1 S.2.1 dX5_init_18 (by decide) ?_
  refine pm_newa S K (j := 1) N hS (hn 1 (by decide)) ((ha 1 (by decide)).trans hsz.symm) (atype := .int) (ty := .int) rfl (by intro C h; cases h) k1_45 rfl (n := 12) (by decide) (by decide) rfl (by decide) (fun _ => rfl) (Nat.le_of_ble_eq_true rfl) (Nat.le_of_ble_eq_true rfl) dX5_init_20 (fun H N hS hz => ?_)
  replace hsz : H.size = s.heap.size + 2 := by omega
  clear hz
  refine pm_put S K (j := 1) (by decide) N hS d0 (hin.trans rfl) k3_153 rfl rfl rfl rfl dX5_init_22 (fun H locs N hS hz => ?_)
  replace hsz : H.size = s.heap.size + 2 := by omega
  clear hz
  refine lv_aload_n S.1 S.2.1 dX5_init_25 rfl (lv_at hl 0 rfl) ?_
  refine lv_bipush (v := 12) S.1 S.2.1 dX5_init_26 (by decide) ?_
  refine pm_newa S K (j := 2) N hS (hn 2 (by decide)) ((ha 2 (by decide)).trans hsz.symm) (atype := .int) (ty := .int) rfl (by intro C h; cases h) k1_45 rfl (n := 12) (by decide) (by decide) rfl (by decide) (fun _ => rfl) (Nat.le_of_ble_eq_true rfl) (Nat.le_of_ble_eq_true rfl) dX5_init_28 (fun H N hS hz => ?_)
  replace hsz : H.size = s.heap.size + 3 := by omega
  clear hz
  refine pm_put S K (j := 2) (by decide) N hS d0 (hin.trans rfl) k3_154 rfl rfl rfl rfl dX5_init_30 (fun H locs N hS hz => ?_)
  replace hsz : H.size = s.heap.size + 3 := by omega
  clear hz
  refine lv_aload_n S.1 S.2.1 dX5_init_33 rfl (lv_at hl 0 rfl) ?_
  refine lv_sipush (v := 144) S.1 S.2.1 dX5_init_34 (by decide) ?_
  refine pm_newa S K (j := 3) N hS (hn 3 (by decide)) ((ha 3 (by decide)).trans hsz.symm) (atype := .int) (ty := .int) rfl (by intro C h; cases h) k1_45 rfl (n := 144) (by decide) (by decide) rfl (by decide) (fun _ => rfl) (Nat.le_of_ble_eq_true rfl) (Nat.le_of_ble_eq_true rfl) dX5_init_37 (fun H N hS hz => ?_)
  replace hsz : H.size = s.heap.size + 4 := by omega
  clear hz
  refine pm_put S K (j := 3) (by decide) N hS d0 (hin.trans rfl) k3_155 rfl rfl rfl rfl dX5_init_39 (fun H locs N hS hz => ?_)
  replace hsz : H.size = s.heap.size + 4 := by omega
  clear hz
  refine lv_aload_n S.1 S.2.1 dX5_init_42 rfl (lv_at hl 0 rfl) ?_
  refine lv_sipush (v := 144) S.1 S.2.1 dX5_init_43 (by decide) ?_
  refine pm_newa S K (j := 4) N hS (hn 4 (by decide)) ((ha 4 (by decide)).trans hsz.symm) (atype := .int) (ty := .int) rfl (by intro C h; cases h) k1_45 rfl (n := 144) (by decide) (by decide) rfl (by decide) (fun _ => rfl) (Nat.le_of_ble_eq_true rfl) (Nat.le_of_ble_eq_true rfl) dX5_init_46 (fun H N hS hz => ?_)
  replace hsz : H.size = s.heap.size + 5 := by omega
  clear hz
  refine pm_put S K (j := 4) (by decide) N hS d0 (hin.trans rfl) k3_156 rfl rfl rfl rfl dX5_init_48 (fun H locs N hS hz => ?_)
  replace hsz : H.size = s.heap.size + 5 := by omega
  clear hz
  refine lv_aload_n S.1 S.2.1 dX5_init_51 rfl (lv_at hl 0 rfl) ?_
  refine lv_sipush (v := 144) S.1 S.2.1 dX5_init_52 (by decide) ?_
  refine pm_newa S K (j := 5) N hS (hn 5 (by decide)) ((ha 5 (by decide)).trans hsz.symm) (atype := .int) (ty := .int) rfl (by intro C h; cases h) k1_45 rfl (n := 144) (by decide) (by decide) rfl (by decide) (fun _ => rfl) (Nat.le_of_ble_eq_true rfl) (Nat.le_of_ble_eq_true rfl) dX5_init_55 (fun H N hS hz => ?_)
  replace hsz : H.size = s.heap.size + 6 := by omega
  clear hz
  refine pm_put S K (j := 5) (by decide) N hS d0 (hin.trans rfl) k3_157 rfl rfl rfl rfl dX5_init_57 (fun H locs N hS hz => ?_)
  replace hsz : H.size = s.heap.size + 6 := by omega
  clear hz
  refine lv_aload_n S.1 S.2.1 dX5_init_60 rfl (lv_at hl 0 rfl) ?_
  refine lv_sipush (v := 432) S.1 S.2.1 dX5_init_61 (by decide) ?_
  refine pm_newa S K (j := 6) N hS (hn 6 (by decide)) ((ha 6 (by decide)).trans hsz.symm) (atype := .int) (ty := .int) rfl (by intro C h; cases h) k1_45 rfl (n := 432) (by decide) (by decide) rfl (by decide) (fun _ => rfl) (Nat.le_of_ble_eq_true rfl) (Nat.le_of_ble_eq_true rfl) dX5_init_64 (fun H N hS hz => ?_)
  replace hsz : H.size = s.heap.size + 7 := by omega
  clear hz
  refine pm_put S K (j := 6) (by decide) N hS d0 (hin.trans rfl) k3_158 rfl rfl rfl rfl dX5_init_66 (fun H locs N hS hz => ?_)
  replace hsz : H.size = s.heap.size + 7 := by omega
  clear hz
  refine lv_aload_n S.1 S.2.1 dX5_init_69 rfl (lv_at hl 0 rfl) ?_
  refine lv_sipush (v := 144) S.1 S.2.1 dX5_init_70 (by decide) ?_
  refine pm_newa S K (j := 7) N hS (hn 7 (by decide)) ((ha 7 (by decide)).trans hsz.symm) (atype := .boolean) (ty := .boolean) rfl (by intro C h; cases h) k1_236 rfl (n := 144) (by decide) (by decide) rfl (by decide) (fun _ => rfl) (Nat.le_of_ble_eq_true rfl) (Nat.le_of_ble_eq_true rfl) dX5_init_73 (fun H N hS hz => ?_)
  replace hsz : H.size = s.heap.size + 8 := by omega
  clear hz
  refine pm_put S K (j := 7) (by decide) N hS d0 (hin.trans rfl) k3_159 rfl rfl rfl rfl dX5_init_75 (fun H locs N hS hz => ?_)
  replace hsz : H.size = s.heap.size + 8 := by omega
  clear hz
  refine lv_aload_n S.1 S.2.1 dX5_init_78 rfl (lv_at hl 0 rfl) ?_
  refine lv_sipush (v := 144) S.1 S.2.1 dX5_init_79 (by decide) ?_
  refine pm_newa S K (j := 8) N hS (hn 8 (by decide)) ((ha 8 (by decide)).trans hsz.symm) (atype := .boolean) (ty := .boolean) rfl (by intro C h; cases h) k1_236 rfl (n := 144) (by decide) (by decide) rfl (by decide) (fun _ => rfl) (Nat.le_of_ble_eq_true rfl) (Nat.le_of_ble_eq_true rfl) dX5_init_82 (fun H N hS hz => ?_)
  replace hsz : H.size = s.heap.size + 9 := by omega
  clear hz
  refine pm_put S K (j := 8) (by decide) N hS d0 (hin.trans rfl) k3_160 rfl rfl rfl rfl dX5_init_84 (fun H locs N hS hz => ?_)
  replace hsz : H.size = s.heap.size + 9 := by omega
  clear hz
  refine lv_aload_n S.1 S.2.1 dX5_init_87 rfl (lv_at hl 0 rfl) ?_
  refine lv_sipush (v := 144) S.1 S.2.1 dX5_init_88 (by decide) ?_
  refine pm_newa S K (j := 9) N hS (hn 9 (by decide)) ((ha 9 (by decide)).trans hsz.symm) (atype := .boolean) (ty := .boolean) rfl (by intro C h; cases h) k1_236 rfl (n := 144) (by decide) (by decide) rfl (by decide) (fun _ => rfl) (Nat.le_of_ble_eq_true rfl) (Nat.le_of_ble_eq_true rfl) dX5_init_91 (fun H N hS hz => ?_)
  replace hsz : H.size = s.heap.size + 10 := by omega
  clear hz
  refine pm_put S K (j := 9) (by decide) N hS d0 (hin.trans rfl) k3_161 rfl rfl rfl rfl dX5_init_93 (fun H locs N hS hz => ?_)
  replace hsz : H.size = s.heap.size + 10 := by omega
  clear hz
  refine lv_aload_n S.1 S.2.1 dX5_init_96 rfl (lv_at hl 0 rfl) ?_
  refine lv_sipush (v := 1008) S.1 S.2.1 dX5_init_97 (by decide) ?_
  refine pm_newa S K (j := 10) N hS (hn 10 (by decide)) ((ha 10 (by decide)).trans hsz.symm) (atype := .int) (ty := .int) rfl (by intro C h; cases h) k1_45 rfl (n := 1008) (by decide) (by decide) rfl (by decide) (fun _ => rfl) (Nat.le_of_ble_eq_true rfl) (Nat.le_of_ble_eq_true rfl) dX5_init_100 (fun H N hS hz => ?_)
  replace hsz : H.size = s.heap.size + 11 := by omega
  clear hz
  refine pm_put S K (j := 10) (by decide) N hS d0 (hin.trans rfl) k3_162 rfl rfl rfl rfl dX5_init_102 (fun H locs N hS hz => ?_)
  replace hsz : H.size = s.heap.size + 11 := by omega
  clear hz
  refine lv_aload_n S.1 S.2.1 dX5_init_105 rfl (lv_at hl 0 rfl) ?_
  refine lv_sipush (v := 252) S.1 S.2.1 dX5_init_106 (by decide) ?_
  refine pm_newa S K (j := 11) N hS (hn 11 (by decide)) ((ha 11 (by decide)).trans hsz.symm) (atype := .int) (ty := .int) rfl (by intro C h; cases h) k1_45 rfl (n := 252) (by decide) (by decide) rfl (by decide) (fun _ => rfl) (Nat.le_of_ble_eq_true rfl) (Nat.le_of_ble_eq_true rfl) dX5_init_109 (fun H N hS hz => ?_)
  replace hsz : H.size = s.heap.size + 12 := by omega
  clear hz
  refine pm_put S K (j := 11) (by decide) N hS d0 (hin.trans rfl) k3_163 rfl rfl rfl rfl dX5_init_111 (fun H locs N hS hz => ?_)
  replace hsz : H.size = s.heap.size + 12 := by omega
  clear hz
  refine lv_aload_n S.1 S.2.1 dX5_init_114 rfl (lv_at hl 0 rfl) ?_
  refine lv_bipush (v := 87) S.1 S.2.1 dX5_init_115 (by decide) ?_
  refine pm_newa S K (j := 12) N hS (hn 12 (by decide)) ((ha 12 (by decide)).trans hsz.symm) (atype := .int) (ty := .int) rfl (by intro C h; cases h) k1_45 rfl (n := 87) (by decide) (by decide) rfl (by decide) (fun _ => rfl) (Nat.le_of_ble_eq_true rfl) (Nat.le_of_ble_eq_true rfl) dX5_init_117 (fun H N hS hz => ?_)
  replace hsz : H.size = s.heap.size + 13 := by omega
  clear hz
  refine pm_put S K (j := 12) (by decide) N hS d0 (hin.trans rfl) k3_164 rfl rfl rfl rfl dX5_init_119 (fun H locs N hS hz => ?_)
  replace hsz : H.size = s.heap.size + 13 := by omega
  clear hz
  have N := pm_mw d0 N
  clear hsz ha hn
  generalize pmd dom 13 = dom at N ⊢
  refine lv_iconst (v := 0) S.1 S.2.1 dX5_init_122 (by decide) ?_
  refine lv_istore_n (lv' := [(1, .int 0), (0, .ref (ad 5))]) S.1 S.2.1 dX5_init_123 rfl hl (by decide) rfl (fun ls hl => ?_)
  refine nlM (B := B) (h := 124) (N := 432) (n := 2) (PH := fun (i124 : Nat) (H : Heap) => mw D cA B dom ad X ((it124_X5_init i124)) H) (L := fun i124 : Nat => [(1, .int (nI i124)), (0, .ref (ad 5))]) (fun ls H locs N hS hl => ?_) (fun i124 hi124 ih124 ls H locs N hS hl => ?_) ls _ _ N hS (lv_sub hl [0, 1] rfl)
  · try dsimp only at hl
    refine lv_iload_n S.1 S.2.1 dX5_init_124 rfl (lv_at hl 0 rfl) ?_
    refine lv_sipush (v := 432) S.1 S.2.1 dX5_init_125 (by decide) ?_
    refine lv_icmp_ge (tgt := 145) S.1 S.2.1 dX5_init_128 (by decide) (fun _ => ?_) (fun c9 => absurd (nI_le (Nat.le_refl _) (by first | omega | decide)) c9)
    refine lv_iconst (v := 0) S.1 S.2.1 dX5_init_145 (by decide) ?_
    refine lv_istore_n (lv' := [(1, .int 0), (0, .ref (ad 5))]) S.1 S.2.1 dX5_init_146 rfl hl (by decide) rfl (fun ls hl => ?_)
    refine nlM (B := B) (h := 147) (N := 1008) (n := 2) (PH := fun (i147 : Nat) (H : Heap) => mw D cA B dom ad X ((it147_X5_init i147)) H) (L := fun i147 : Nat => [(1, .int (nI i147)), (0, .ref (ad 5))]) (fun ls H locs N hS hl => ?_) (fun i147 hi147 ih147 ls H locs N hS hl => ?_) ls _ _ N hS (lv_sub hl [0, 1] rfl)
    · try dsimp only at hl
      refine lv_iload_n S.1 S.2.1 dX5_init_147 rfl (lv_at hl 0 rfl) ?_
      refine lv_sipush (v := 1008) S.1 S.2.1 dX5_init_148 (by decide) ?_
      refine lv_icmp_ge (tgt := 168) S.1 S.2.1 dX5_init_151 (by decide) (fun _ => ?_) (fun c9 => absurd (nI_le (Nat.le_refl _) (by first | omega | decide)) c9)
      refine lv_iconst (v := 0) S.1 S.2.1 dX5_init_168 (by decide) ?_
      refine lv_istore_n (lv' := [(1, .int 0), (0, .ref (ad 5))]) S.1 S.2.1 dX5_init_169 rfl hl (by decide) rfl (fun ls hl => ?_)
      refine nlM (B := B) (h := 170) (N := 252) (n := 2) (PH := fun (i170 : Nat) (H : Heap) => mw D cA B dom ad X ((it170_X5_init i170)) H) (L := fun i170 : Nat => [(1, .int (nI i170)), (0, .ref (ad 5))]) (fun ls H locs N hS hl => ?_) (fun i170 hi170 ih170 ls H locs N hS hl => ?_) ls _ _ N hS (lv_sub hl [0, 1] rfl)
      · try dsimp only at hl
        refine lv_iload_n S.1 S.2.1 dX5_init_170 rfl (lv_at hl 0 rfl) ?_
        refine lv_sipush (v := 252) S.1 S.2.1 dX5_init_171 (by decide) ?_
        refine lv_icmp_ge (tgt := 191) S.1 S.2.1 dX5_init_174 (by decide) (fun _ => ?_) (fun c9 => absurd (nI_le (Nat.le_refl _) (by first | omega | decide)) c9)
        refine lv_iconst (v := 0) S.1 S.2.1 dX5_init_191 (by decide) ?_
        refine lv_istore_n (lv' := [(1, .int 0), (0, .ref (ad 5))]) S.1 S.2.1 dX5_init_192 rfl hl (by decide) rfl (fun ls hl => ?_)
        refine nlM (B := B) (h := 193) (N := 3) (n := 2) (PH := fun (i193 : Nat) (H : Heap) => mw D cA B dom ad X ((it193_X5_init i193)) H) (L := fun i193 : Nat => [(1, .int (nI i193)), (0, .ref (ad 5))]) (fun ls H locs N hS hl => ?_) (fun i193 hi193 ih193 ls H locs N hS hl => ?_) ls _ _ N hS (lv_sub hl [0, 1] rfl)
        · try dsimp only at hl
          refine lv_iload_n S.1 S.2.1 dX5_init_193 rfl (lv_at hl 0 rfl) ?_
          refine lv_iconst (v := 3) S.1 S.2.1 dX5_init_194 (by decide) ?_
          refine lv_icmp_ge (tgt := 337) S.1 S.2.1 dX5_init_195 (by decide) (fun _ => ?_) (fun c9 => absurd (nI_le (Nat.le_refl _) (by first | omega | decide)) c9)
          exact ne_wV S hS hr hlk ⟨rfl, N⟩ dX5_init_337
        · try dsimp only at hl
          refine lv_iload_n S.1 S.2.1 dX5_init_193 rfl (lv_at hl 0 rfl) ?_
          refine lv_iconst (v := 3) S.1 S.2.1 dX5_init_194 (by decide) ?_
          refine lv_icmp_ge (tgt := 337) S.1 S.2.1 dX5_init_195 (by decide) (fun c9 => absurd c9 (nI_ge (hi193) (by first | omega | decide))) (fun _ => ?_)
          refine lv_aload_n S.1 S.2.1 dX5_init_198 rfl (lv_at hl 1 rfl) ?_
          refine lv_iload_n S.1 S.2.1 dX5_init_199 rfl (lv_at hl 0 rfl) ?_
          refine lv_iconst (v := 0) S.1 S.2.1 dX5_init_200 (by decide) ?_
          refine lv_bipush (v := 40) S.1 S.2.1 dX5_init_201 (by decide) ?_
          refine lv_sipush (v := 130) S.1 S.2.1 dX5_init_203 (by decide) ?_
          refine lv_sipush (v := 420) S.1 S.2.1 dX5_init_206 (by decide) ?_
          refine lv_sipush (v := 950) S.1 S.2.1 dX5_init_209 (by decide) ?_
          refine mc_wV S K N hS rfl (As := [.int (nI i193), .int 0, .int 40, .int 130, .int 420, .int 950]) (m_X5_sets l ((it193_X5_init i193)) i193 0 40 130 420 950 N (by omega) (by decide)) k3_142 k3_144 kS_18 k1_3 k3_145 (num := 6) (by decide +kernel) rfl ⟨Nat.le_of_ble_eq_true rfl, Nat.le_of_ble_eq_true rfl⟩ hl.1 rfl (Nat.le_of_ble_eq_true rfl) dX5_init_212 ⟨Nat.le_of_ble_eq_true rfl, Nat.le_of_ble_eq_true rfl⟩ (fun v9 H locs hP hS => ?_)
          obtain ⟨rfl, N⟩ := hP
          refine W.eq (g2 := F0 m 215 ls []) rfl ?_
          refine lv_aload_n S.1 S.2.1 dX5_init_215 rfl (lv_at hl 1 rfl) ?_
          refine lv_iload_n S.1 S.2.1 dX5_init_216 rfl (lv_at hl 0 rfl) ?_
          refine lv_iconst (v := 1) S.1 S.2.1 dX5_init_217 (by decide) ?_
          refine lv_bipush (v := 40) S.1 S.2.1 dX5_init_218 (by decide) ?_
          refine lv_sipush (v := 130) S.1 S.2.1 dX5_init_220 (by decide) ?_
          refine lv_sipush (v := 430) S.1 S.2.1 dX5_init_223 (by decide) ?_
          refine lv_sipush (v := 970) S.1 S.2.1 dX5_init_226 (by decide) ?_
          refine mc_wV S K N hS rfl (As := [.int (nI i193), .int 1, .int 40, .int 130, .int 430, .int 970]) (m_X5_sets l (g_X5_sets ((it193_X5_init i193)) i193 0 40 130 420 950) i193 1 40 130 430 970 N (by omega) (by decide)) k3_142 k3_144 kS_18 k1_3 k3_145 (num := 6) (by decide +kernel) rfl ⟨Nat.le_of_ble_eq_true rfl, Nat.le_of_ble_eq_true rfl⟩ hl.1 rfl (Nat.le_of_ble_eq_true rfl) dX5_init_229 ⟨Nat.le_of_ble_eq_true rfl, Nat.le_of_ble_eq_true rfl⟩ (fun v9 H locs hP hS => ?_)
          obtain ⟨rfl, N⟩ := hP
          refine W.eq (g2 := F0 m 232 ls []) rfl ?_
          refine lv_aload_n S.1 S.2.1 dX5_init_232 rfl (lv_at hl 1 rfl) ?_
          refine lv_iload_n S.1 S.2.1 dX5_init_233 rfl (lv_at hl 0 rfl) ?_
          refine lv_iconst (v := 2) S.1 S.2.1 dX5_init_234 (by decide) ?_
          refine lv_bipush (v := 50) S.1 S.2.1 dX5_init_235 (by decide) ?_
          refine lv_sipush (v := 170) S.1 S.2.1 dX5_init_237 (by decide) ?_
          refine lv_sipush (v := 490) S.1 S.2.1 dX5_init_240 (by decide) ?_
          refine lv_sipush (v := 1050) S.1 S.2.1 dX5_init_243 (by decide) ?_
          refine mc_wV S K N hS rfl (As := [.int (nI i193), .int 2, .int 50, .int 170, .int 490, .int 1050]) (m_X5_sets l (g_X5_sets (g_X5_sets ((it193_X5_init i193)) i193 0 40 130 420 950) i193 1 40 130 430 970) i193 2 50 170 490 1050 N (by omega) (by decide)) k3_142 k3_144 kS_18 k1_3 k3_145 (num := 6) (by decide +kernel) rfl ⟨Nat.le_of_ble_eq_true rfl, Nat.le_of_ble_eq_true rfl⟩ hl.1 rfl (Nat.le_of_ble_eq_true rfl) dX5_init_246 ⟨Nat.le_of_ble_eq_true rfl, Nat.le_of_ble_eq_true rfl⟩ (fun v9 H locs hP hS => ?_)
          obtain ⟨rfl, N⟩ := hP
          refine W.eq (g2 := F0 m 249 ls []) rfl ?_
          refine lv_aload_n S.1 S.2.1 dX5_init_249 rfl (lv_at hl 1 rfl) ?_
          refine lv_iload_n S.1 S.2.1 dX5_init_250 rfl (lv_at hl 0 rfl) ?_
          refine lv_iconst (v := 3) S.1 S.2.1 dX5_init_251 (by decide) ?_
          refine lv_bipush (v := 50) S.1 S.2.1 dX5_init_252 (by decide) ?_
          refine lv_sipush (v := 180) S.1 S.2.1 dX5_init_254 (by decide) ?_
          refine lv_sipush (v := 530) S.1 S.2.1 dX5_init_257 (by decide) ?_
          refine lv_sipush (v := 1100) S.1 S.2.1 dX5_init_260 (by decide) ?_
          refine mc_wV S K N hS rfl (As := [.int (nI i193), .int 3, .int 50, .int 180, .int 530, .int 1100]) (m_X5_sets l (g_X5_sets (g_X5_sets (g_X5_sets ((it193_X5_init i193)) i193 0 40 130 420 950) i193 1 40 130 430 970) i193 2 50 170 490 1050) i193 3 50 180 530 1100 N (by omega) (by decide)) k3_142 k3_144 kS_18 k1_3 k3_145 (num := 6) (by decide +kernel) rfl ⟨Nat.le_of_ble_eq_true rfl, Nat.le_of_ble_eq_true rfl⟩ hl.1 rfl (Nat.le_of_ble_eq_true rfl) dX5_init_263 ⟨Nat.le_of_ble_eq_true rfl, Nat.le_of_ble_eq_true rfl⟩ (fun v9 H locs hP hS => ?_)
          obtain ⟨rfl, N⟩ := hP
          refine W.eq (g2 := F0 m 266 ls []) rfl ?_
          refine lv_aload_n S.1 S.2.1 dX5_init_266 rfl (lv_at hl 1 rfl) ?_
          refine lv_iload_n S.1 S.2.1 dX5_init_267 rfl (lv_at hl 0 rfl) ?_
          refine lv_iconst (v := 4) S.1 S.2.1 dX5_init_268 (by decide) ?_
          refine lv_bipush (v := 60) S.1 S.2.1 dX5_init_269 (by decide) ?_
          refine lv_sipush (v := 210) S.1 S.2.1 dX5_init_271 (by decide) ?_
          refine lv_sipush (v := 590) S.1 S.2.1 dX5_init_274 (by decide) ?_
          refine lv_sipush (v := 1150) S.1 S.2.1 dX5_init_277 (by decide) ?_
          refine mc_wV S K N hS rfl (As := [.int (nI i193), .int 4, .int 60, .int 210, .int 590, .int 1150]) (m_X5_sets l (g_X5_sets (g_X5_sets (g_X5_sets (g_X5_sets ((it193_X5_init i193)) i193 0 40 130 420 950) i193 1 40 130 430 970) i193 2 50 170 490 1050) i193 3 50 180 530 1100) i193 4 60 210 590 1150 N (by omega) (by decide)) k3_142 k3_144 kS_18 k1_3 k3_145 (num := 6) (by decide +kernel) rfl ⟨Nat.le_of_ble_eq_true rfl, Nat.le_of_ble_eq_true rfl⟩ hl.1 rfl (Nat.le_of_ble_eq_true rfl) dX5_init_280 ⟨Nat.le_of_ble_eq_true rfl, Nat.le_of_ble_eq_true rfl⟩ (fun v9 H locs hP hS => ?_)
          obtain ⟨rfl, N⟩ := hP
          refine W.eq (g2 := F0 m 283 ls []) rfl ?_
          refine lv_aload_n S.1 S.2.1 dX5_init_283 rfl (lv_at hl 1 rfl) ?_
          refine lv_iload_n S.1 S.2.1 dX5_init_284 rfl (lv_at hl 0 rfl) ?_
          refine lv_iconst (v := 5) S.1 S.2.1 dX5_init_285 (by decide) ?_
          refine lv_bipush (v := 110) S.1 S.2.1 dX5_init_286 (by decide) ?_
          refine lv_sipush (v := 330) S.1 S.2.1 dX5_init_288 (by decide) ?_
          refine lv_sipush (v := 800) S.1 S.2.1 dX5_init_291 (by decide) ?_
          refine lv_sipush (v := 1250) S.1 S.2.1 dX5_init_294 (by decide) ?_
          refine mc_wV S K N hS rfl (As := [.int (nI i193), .int 5, .int 110, .int 330, .int 800, .int 1250]) (m_X5_sets l (g_X5_sets (g_X5_sets (g_X5_sets (g_X5_sets (g_X5_sets ((it193_X5_init i193)) i193 0 40 130 420 950) i193 1 40 130 430 970) i193 2 50 170 490 1050) i193 3 50 180 530 1100) i193 4 60 210 590 1150) i193 5 110 330 800 1250 N (by omega) (by decide)) k3_142 k3_144 kS_18 k1_3 k3_145 (num := 6) (by decide +kernel) rfl ⟨Nat.le_of_ble_eq_true rfl, Nat.le_of_ble_eq_true rfl⟩ hl.1 rfl (Nat.le_of_ble_eq_true rfl) dX5_init_297 ⟨Nat.le_of_ble_eq_true rfl, Nat.le_of_ble_eq_true rfl⟩ (fun v9 H locs hP hS => ?_)
          obtain ⟨rfl, N⟩ := hP
          refine W.eq (g2 := F0 m 300 ls []) rfl ?_
          refine lv_aload_n S.1 S.2.1 dX5_init_300 rfl (lv_at hl 1 rfl) ?_
          refine lv_iload_n S.1 S.2.1 dX5_init_301 rfl (lv_at hl 0 rfl) ?_
          refine lv_bipush (v := 6) S.1 S.2.1 dX5_init_302 (by decide) ?_
          refine lv_iconst (v := 0) S.1 S.2.1 dX5_init_304 (by decide) ?_
          refine lv_bipush (v := 120) S.1 S.2.1 dX5_init_305 (by decide) ?_
          refine lv_sipush (v := 150) S.1 S.2.1 dX5_init_307 (by decide) ?_
          refine lv_sipush (v := 200) S.1 S.2.1 dX5_init_310 (by decide) ?_
          refine mc_wV S K N hS rfl (As := [.int (nI i193), .int 6, .int 0, .int 120, .int 150, .int 200]) (m_X5_sets l (g_X5_sets (g_X5_sets (g_X5_sets (g_X5_sets (g_X5_sets (g_X5_sets ((it193_X5_init i193)) i193 0 40 130 420 950) i193 1 40 130 430 970) i193 2 50 170 490 1050) i193 3 50 180 530 1100) i193 4 60 210 590 1150) i193 5 110 330 800 1250) i193 6 0 120 150 200 N (by omega) (by decide)) k3_142 k3_144 kS_18 k1_3 k3_145 (num := 6) (by decide +kernel) rfl ⟨Nat.le_of_ble_eq_true rfl, Nat.le_of_ble_eq_true rfl⟩ hl.1 rfl (Nat.le_of_ble_eq_true rfl) dX5_init_313 ⟨Nat.le_of_ble_eq_true rfl, Nat.le_of_ble_eq_true rfl⟩ (fun v9 H locs hP hS => ?_)
          obtain ⟨rfl, N⟩ := hP
          refine W.eq (g2 := F0 m 316 ls []) rfl ?_
          refine lv_aload_n S.1 S.2.1 dX5_init_316 rfl (lv_at hl 1 rfl) ?_
          refine mr_get S K N 18 (by decide) k3_164 (v := .ref (ad 28)) rfl dX5_init_317 ?_
          refine lv_bipush (v := 29) S.1 S.2.1 dX5_init_320 (by decide) ?_
          refine lv_iload_n S.1 S.2.1 dX5_init_322 rfl (lv_at hl 0 rfl) ?_
          refine lv_imul S.1 S.2.1 dX5_init_323 ?_
          refine nt_i (y := nI (29 * i193)) (pk_mul 29 i193) ?_
          refine lv_bipush (v := 28) S.1 S.2.1 dX5_init_324 (by decide) ?_
          refine lv_iadd S.1 S.2.1 dX5_init_326 ?_
          refine nt_i (y := nI ((29 * i193) + 28)) (nI_add (29 * i193) 28) ?_
          refine lv_sipush (v := 270) S.1 S.2.1 dX5_init_327 (by decide) ?_
          refine mr_iast S K N hS 18 (by decide) (by decide) rfl (vp_in_nI (show ((29 * i193) + 28) < mlen 18 by show _ < 87; omega) (by decide)) ((29 * i193) + 28) (nI_clamp (show ((29 * i193) + 28) < 2 ^ 31 by omega)) dX5_init_330 (fun H locs N hS => ?_)
          refine lv_iinc (v := nI (i193 + 1)) (lv' := [(1, .int (nI (i193 + 1))), (0, .ref (ad 5))]) S.1 S.2.1 dX5_init_331 hl (k := 0) rfl (nI_add i193 1) (by decide) rfl (fun ls hl => ?_)
          refine lv_goto (tgt := 193) S.1 S.2.1 dX5_init_334 (by decide) ?_
          have hstep : (it193_X5_init (i193 + 1)) = (up2 (g_X5_sets (g_X5_sets (g_X5_sets (g_X5_sets (g_X5_sets (g_X5_sets (g_X5_sets ((it193_X5_init i193)) i193 0 40 130 420 950) i193 1 40 130 430 970) i193 2 50 170 490 1050) i193 3 50 180 530 1100) i193 4 60 210 590 1150) i193 5 110 330 800 1250) i193 6 0 120 150 200) 18 ((29 * i193) + 28) 270) := by rw [it193_X5_init]
          refine ih193 ls _ _ (by (try dsimp only); (try rw [hstep]); (try dsimp only); exact N) hS (by (try dsimp only); (try rw [hstep]); (try dsimp only); exact lv_sub hl [0, 1] rfl)
      · try dsimp only at hl
        refine lv_iload_n S.1 S.2.1 dX5_init_170 rfl (lv_at hl 0 rfl) ?_
        refine lv_sipush (v := 252) S.1 S.2.1 dX5_init_171 (by decide) ?_
        refine lv_icmp_ge (tgt := 191) S.1 S.2.1 dX5_init_174 (by decide) (fun c9 => absurd c9 (nI_ge (hi170) (by first | omega | decide))) (fun _ => ?_)
        refine lv_aload_n S.1 S.2.1 dX5_init_177 rfl (lv_at hl 1 rfl) ?_
        refine mr_get S K N 17 (by decide) k3_163 (v := .ref (ad 27)) rfl dX5_init_178 ?_
        refine lv_iload_n S.1 S.2.1 dX5_init_181 rfl (lv_at hl 0 rfl) ?_
        refine lv_bipush (v := (-99)) S.1 S.2.1 dX5_init_182 (by decide) ?_
        refine mr_iast S K N hS 17 (by decide) (by decide) rfl (vp_in_nI (show i170 < mlen 17 by show _ < 252; omega) (by decide)) i170 (nI_clamp (show i170 < 2 ^ 31 by omega)) dX5_init_184 (fun H locs N hS => ?_)
        refine lv_iinc (v := nI (i170 + 1)) (lv' := [(1, .int (nI (i170 + 1))), (0, .ref (ad 5))]) S.1 S.2.1 dX5_init_185 hl (k := 0) rfl (nI_add i170 1) (by decide) rfl (fun ls hl => ?_)
        refine lv_goto (tgt := 170) S.1 S.2.1 dX5_init_188 (by decide) ?_
        have hstep : (it170_X5_init (i170 + 1)) = (up2 ((it170_X5_init i170)) 17 i170 (-99)) := by rw [it170_X5_init]
        refine ih170 ls _ _ (by (try dsimp only); (try rw [hstep]); (try dsimp only); exact N) hS (by (try dsimp only); (try rw [hstep]); (try dsimp only); exact lv_sub hl [0, 1] rfl)
    · try dsimp only at hl
      refine lv_iload_n S.1 S.2.1 dX5_init_147 rfl (lv_at hl 0 rfl) ?_
      refine lv_sipush (v := 1008) S.1 S.2.1 dX5_init_148 (by decide) ?_
      refine lv_icmp_ge (tgt := 168) S.1 S.2.1 dX5_init_151 (by decide) (fun c9 => absurd c9 (nI_ge (hi147) (by first | omega | decide))) (fun _ => ?_)
      refine lv_aload_n S.1 S.2.1 dX5_init_154 rfl (lv_at hl 1 rfl) ?_
      refine mr_get S K N 16 (by decide) k3_162 (v := .ref (ad 26)) rfl dX5_init_155 ?_
      refine lv_iload_n S.1 S.2.1 dX5_init_158 rfl (lv_at hl 0 rfl) ?_
      refine lv_bipush (v := (-99)) S.1 S.2.1 dX5_init_159 (by decide) ?_
      refine mr_iast S K N hS 16 (by decide) (by decide) rfl (vp_in_nI (show i147 < mlen 16 by show _ < 1008; omega) (by decide)) i147 (nI_clamp (show i147 < 2 ^ 31 by omega)) dX5_init_161 (fun H locs N hS => ?_)
      refine lv_iinc (v := nI (i147 + 1)) (lv' := [(1, .int (nI (i147 + 1))), (0, .ref (ad 5))]) S.1 S.2.1 dX5_init_162 hl (k := 0) rfl (nI_add i147 1) (by decide) rfl (fun ls hl => ?_)
      refine lv_goto (tgt := 147) S.1 S.2.1 dX5_init_165 (by decide) ?_
      have hstep : (it147_X5_init (i147 + 1)) = (up2 ((it147_X5_init i147)) 16 i147 (-99)) := by rw [it147_X5_init]
      refine ih147 ls _ _ (by (try dsimp only); (try rw [hstep]); (try dsimp only); exact N) hS (by (try dsimp only); (try rw [hstep]); (try dsimp only); exact lv_sub hl [0, 1] rfl)
  · try dsimp only at hl
    refine lv_iload_n S.1 S.2.1 dX5_init_124 rfl (lv_at hl 0 rfl) ?_
    refine lv_sipush (v := 432) S.1 S.2.1 dX5_init_125 (by decide) ?_
    refine lv_icmp_ge (tgt := 145) S.1 S.2.1 dX5_init_128 (by decide) (fun c9 => absurd c9 (nI_ge (hi124) (by first | omega | decide))) (fun _ => ?_)
    refine lv_aload_n S.1 S.2.1 dX5_init_131 rfl (lv_at hl 1 rfl) ?_
    refine mr_get S K N 12 (by decide) k3_158 (v := .ref (ad 22)) rfl dX5_init_132 ?_
    refine lv_iload_n S.1 S.2.1 dX5_init_135 rfl (lv_at hl 0 rfl) ?_
    refine lv_bipush (v := (-99)) S.1 S.2.1 dX5_init_136 (by decide) ?_
    refine mr_iast S K N hS 12 (by decide) (by decide) rfl (vp_in_nI (show i124 < mlen 12 by show _ < 432; omega) (by decide)) i124 (nI_clamp (show i124 < 2 ^ 31 by omega)) dX5_init_138 (fun H locs N hS => ?_)
    refine lv_iinc (v := nI (i124 + 1)) (lv' := [(1, .int (nI (i124 + 1))), (0, .ref (ad 5))]) S.1 S.2.1 dX5_init_139 hl (k := 0) rfl (nI_add i124 1) (by decide) rfl (fun ls hl => ?_)
    refine lv_goto (tgt := 124) S.1 S.2.1 dX5_init_142 (by decide) ?_
    have hstep : (it124_X5_init (i124 + 1)) = (up2 ((it124_X5_init i124)) 12 i124 (-99)) := by rw [it124_X5_init]
    refine ih124 ls _ _ (by (try dsimp only); (try rw [hstep]); (try dsimp only); exact N) hS (by (try dsimp only); (try rw [hstep]); (try dsimp only); exact lv_sub hl [0, 1] rfl)
