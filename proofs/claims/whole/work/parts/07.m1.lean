section NJ
variable {p : Program} {l : Launch} {e : Env} {R : Room} {s : State} {m : MethodId} {args : Array Value} {below : List Frame} {meth : Method} {c : Code} {H : Heap} {locs : List Loc} {cells slots : Nat} {Q : State → Prop}
/-- paths that meet again: what differs gets a name -/
theorem nj {α : Type} {J n b : Nat} {V : α} {L : α → List (Nat × Value)} {St : α → List Value} {ls : Array Slot} {st : List Value}
    (k : ∀ (v : α) (ls2 : Array Slot), v = V → lv_has ls2 n (L v) → W p l e R s m args below meth c H locs cells slots Q (F0 m J ls2 (St v)))
    (bb : (∀ (v : α) (ls2 : Array Slot), v = V → lv_has ls2 n (L v) → W p l e R s m args below meth c H locs cells slots Q (F0 m J ls2 (St v))) → W p l e R s m args below meth c H locs cells slots Q (F0 m b ls st)) : W p l e R s m args below meth c H locs cells slots Q (F0 m b ls st) := bb k
/-- a loop that counts up to N -/
theorem nl {h N n : Nat} {L : Nat → List (Nat × Value)} (base : ∀ ls : Array Slot, lv_has ls n (L N) → W p l e R s m args below meth c H locs cells slots Q (F0 m h ls []))
    (step : ∀ i, i < N → (∀ ls : Array Slot, lv_has ls n (L (i + 1)) → W p l e R s m args below meth c H locs cells slots Q (F0 m h ls [])) → ∀ ls : Array Slot, lv_has ls n (L i) → W p l e R s m args below meth c H locs cells slots Q (F0 m h ls [])) : ∀ ls : Array Slot, lv_has ls n (L 0) → W p l e R s m args below meth c H locs cells slots Q (F0 m h ls []) := by
  have key : ∀ k i, i + k = N → ∀ ls : Array Slot, lv_has ls n (L i) → W p l e R s m args below meth c H locs cells slots Q (F0 m h ls []) := by
    intro k
    induction k with
    | zero =>
      intro i hi
      have : i = N := by omega
      subst this
      exact base
    | succ k ih =>
      intro i hi
      exact step i (by omega) (ih (i + 1) (by omega))
  exact key N 0 (by omega)
theorem nlM {B h N n : Nat} {PH : Nat → Heap → Prop} {L : Nat → List (Nat × Value)} (base : ∀ (ls : Array Slot) (H : Heap) (locs : List Loc), PH N H → va_S (fun q => B ≤ q) s.heap H locs → lv_has ls n (L N) → W p l e R s m args below meth c H locs cells slots Q (F0 m h ls []))
    (step : ∀ i, i < N → (∀ (ls : Array Slot) (H : Heap) (locs : List Loc), PH (i + 1) H → va_S (fun q => B ≤ q) s.heap H locs → lv_has ls n (L (i + 1)) → W p l e R s m args below meth c H locs cells slots Q (F0 m h ls [])) → ∀ (ls : Array Slot) (H : Heap) (locs : List Loc), PH i H → va_S (fun q => B ≤ q) s.heap H locs → lv_has ls n (L i) → W p l e R s m args below meth c H locs cells slots Q (F0 m h ls [])) :
    ∀ (ls : Array Slot) (H : Heap) (locs : List Loc), PH 0 H → va_S (fun q => B ≤ q) s.heap H locs → lv_has ls n (L 0) → W p l e R s m args below meth c H locs cells slots Q (F0 m h ls []) := by
  have key : ∀ k i, i + k = N → ∀ (ls : Array Slot) (H : Heap) (locs : List Loc), PH i H → va_S (fun q => B ≤ q) s.heap H locs → lv_has ls n (L i) → W p l e R s m args below meth c H locs cells slots Q (F0 m h ls []) := by
    intro k
    induction k with
    | zero =>
      intro i hi
      have : i = N := by omega
      subst this
      exact base
    | succ k ih =>
      intro i hi
      exact step i (by omega) (ih (i + 1) (by omega))
  exact key N 0 (by omega)
end NJ
def f_X5_in (v : Int32) (lo : Int32) (hi : Int32) : Int32 :=
  if v < lo then 0
  else if hi < v then 0
  else 1
set_option maxHeartbeats 4000000 in
set_option maxRecDepth 100000 in
theorem m_X5_in {D : va_G} {cA : Nat → ClassId} {B : Nat} (l : Launch) {H0 : Heap} (v : Int32) (lo : Int32) (hi : Int32) : MetR D cA B l yX5_in cX5_in 3 (some .boolean) 0 0 [.int v, .int lo, .int hi] H0 (some (.int (f_X5_in v lo hi))) := by
  refine MetR.of (by decide) (Nat.le_of_ble_eq_true rfl) ?_
  intro p e s m args below meth c S hr hlk hh K ls hl
  subst hh
  have hS : va_S (fun q => B ≤ q) s.heap s.heap [] := va_S.rf
  have hl : lv_has ls 3 [(0, .int v), (1, .int lo), (2, .int hi)] := hl
  refine lv_iload_n S.1 S.2.1 dX5_in_0 rfl (lv_at hl 0 rfl) ?_
  refine lv_iload_n S.1 S.2.1 dX5_in_1 rfl (lv_at hl 1 rfl) ?_
  refine lv_icmp_lt (tgt := 14) S.1 S.2.1 dX5_in_2 (by decide) (fun c2_1 => ?_) (fun c2_1 => ?_)
  · refine lv_iconst (v := 0) S.1 S.2.1 dX5_in_14 (by decide) ?_
    exact ee_rZ S hr hlk (zb_0) (by unfold f_X5_in; first | rfl | (rw [if_pos c2_1]) | (simp only [if_pos c2_1])) dX5_in_15
  · refine lv_iload_n S.1 S.2.1 dX5_in_5 rfl (lv_at hl 0 rfl) ?_
    refine lv_iload_n S.1 S.2.1 dX5_in_6 rfl (lv_at hl 2 rfl) ?_
    refine lv_icmp_gt (tgt := 14) S.1 S.2.1 dX5_in_7 (by decide) (fun c7_2 => ?_) (fun c7_2 => ?_)
    · refine lv_iconst (v := 0) S.1 S.2.1 dX5_in_14 (by decide) ?_
      exact ee_rZ S hr hlk (zb_0) (by unfold f_X5_in; first | rfl | (rw [if_neg c2_1, if_pos c7_2]) | (simp only [if_neg c2_1, if_pos c7_2])) dX5_in_15
    · refine lv_iconst (v := 1) S.1 S.2.1 dX5_in_10 (by decide) ?_
      refine lv_goto (tgt := 15) S.1 S.2.1 dX5_in_11 (by decide) ?_
      exact ee_rZ S hr hlk (zb_1) (by unfold f_X5_in; first | rfl | (rw [if_neg c2_1, if_neg c7_2]) | (simp only [if_neg c2_1, if_neg c7_2])) dX5_in_15

theorem zb_in (v lo hi : Int32) : vp_nar .boolean (f_X5_in v lo hi) = f_X5_in v lo hi := by
  unfold f_X5_in
  split
  · exact zb_0
  · split
    · exact zb_0
    · exact zb_1
def f_X5_at (sk : Nat) (el : Nat) : Int32 :=
  (nI ((12 * sk) + el))
set_option maxHeartbeats 4000000 in
set_option maxRecDepth 100000 in
theorem m_X5_at {D : va_G} {cA : Nat → ClassId} {B : Nat} (l : Launch) {H0 : Heap} (sk : Nat) (el : Nat) : MetR D cA B l yX5_at cX5_at 2 (some .int) 0 0 [.int (nI sk), .int (nI el)] H0 (some (.int (f_X5_at sk el))) := by
  refine MetR.of (by decide) (Nat.le_of_ble_eq_true rfl) ?_
  intro p e s m args below meth c S hr hlk hh K ls hl
  subst hh
  have hS : va_S (fun q => B ≤ q) s.heap s.heap [] := va_S.rf
  have hl : lv_has ls 2 [(0, .int (nI sk)), (1, .int (nI el))] := hl
  refine lv_bipush (v := 12) S.1 S.2.1 dX5_at_0 (by decide) ?_
  refine lv_iload_n S.1 S.2.1 dX5_at_2 rfl (lv_at hl 0 rfl) ?_
  refine lv_imul S.1 S.2.1 dX5_at_3 ?_
  refine nt_i (y := nI (12 * sk)) (pk_mul 12 sk) ?_
  refine lv_iload_n S.1 S.2.1 dX5_at_4 rfl (lv_at hl 1 rfl) ?_
  refine lv_iadd S.1 S.2.1 dX5_at_5 ?_
  refine nt_i (y := nI ((12 * sk) + el)) (nI_add (12 * sk) el) ?_
  exact ee_rI S hr hlk (rfl) dX5_at_6

def f_X5_thrown (M : Nat → Nat → Int32) : Int32 :=
  (M 0 0)
set_option maxHeartbeats 4000000 in
set_option maxRecDepth 100000 in
theorem m_X5_thrown {D : va_G} {cA : Nat → ClassId} {B : Nat} (l : Launch) {dom : Nat → Prop} {ad : Nat → Nat} {X : Nat → va_E} {H0 : Heap} (M : Nat → Nat → Int32) (N : mw D cA B dom ad X M H0) : MetR D cA B l yX5_thrown cX5_thrown 1 (some .int) 0 0 [.ref (ad 5)] H0 (some (.int (f_X5_thrown M))) := by
  refine MetR.of (by decide) (Nat.le_of_ble_eq_true rfl) ?_
  intro p e s m args below meth c S hr hlk hh K ls hl
  subst hh
  have hS : va_S (fun q => B ≤ q) s.heap s.heap [] := va_S.rf
  have hl : lv_has ls 1 [(0, .ref (ad 5))] := hl
  refine lv_aload_n S.1 S.2.1 dX5_thrown_0 rfl (lv_at hl 0 rfl) ?_
  refine mr_get S K N 0 (by decide) k3_138 (v := .int (M 0 0)) rfl dX5_thrown_1 ?_
  exact ee_rI S hr hlk (rfl) dX5_thrown_4

def f_X5_skater (M : Nat → Nat → Int32) : Int32 :=
  if (M 0 1) = 12 then 0
  else (((M 0 1) + 1) - 1)
def g_X5_skater (M : Nat → Nat → Int32) : Nat → Nat → Int32 :=
  if (M 0 1) = 12 then (up2 M 0 0 1)
  else (up2 (up2 M 0 0 0) 0 1 ((M 0 1) + 1))
set_option maxHeartbeats 4000000 in
set_option maxRecDepth 100000 in
theorem m_X5_skater {D : va_G} {cA : Nat → ClassId} {B : Nat} (l : Launch) {dom : Nat → Prop} {ad : Nat → Nat} {X : Nat → va_E} {H0 : Heap} (M : Nat → Nat → Int32) (N : mw D cA B dom ad X M H0) : MetW D cA B l yX5_skater cX5_skater 1 (some .int) 0 0 0 0 [.ref (ad 5)] H0 (fun o h => o = some (.int (f_X5_skater M)) ∧ mw D cA B dom ad X (g_X5_skater M) h) := by
  refine MetW.of (by decide) (Nat.le_of_ble_eq_true rfl) ?_
  intro p e s m args below meth c S hr hlk hin hh K ls hl
  subst hh
  have hS : va_S (fun q => B ≤ q) s.heap s.heap [] := va_S.rf
  have hl : lv_has ls 1 [(0, .ref (ad 5))] := hl
  refine lv_aload_n S.1 S.2.1 dX5_skater_0 rfl (lv_at hl 0 rfl) ?_
  refine lv_aload_n S.1 S.2.1 dX5_skater_1 rfl (lv_at hl 0 rfl) ?_
  refine mr_get S K N 1 (by decide) k3_139 (v := .int (M 0 1)) rfl dX5_skater_2 ?_
  refine lv_bipush (v := 12) S.1 S.2.1 dX5_skater_5 (by decide) ?_
  refine lv_icmp_ne (tgt := 14) S.1 S.2.1 dX5_skater_7 (by decide) (fun c7_1 => ?_) (fun c7_1 => ?_)
  · refine lv_iconst (v := 0) S.1 S.2.1 dX5_skater_14 (by decide) ?_
    refine mr_put S K N hS 0 (by decide) (by unfold mscal; omega) k3_138 rfl rfl dX5_skater_15 (fun H locs N hS => ?_)
    refine lv_aload_n S.1 S.2.1 dX5_skater_18 rfl (lv_at hl 0 rfl) ?_
    refine mr_get S K N 0 (by decide) k3_138 (v := .int 0) rfl dX5_skater_19 ?_
    refine lv_if_le (tgt := 27) S.1 S.2.1 dX5_skater_22 (by decide) (fun _ => ?_) (fun c9 => absurd (by decide) c9)
    refine lv_aload_n S.1 S.2.1 dX5_skater_27 rfl (lv_at hl 0 rfl) ?_
    refine lv_dup S.1 S.2.1 dX5_skater_28 rfl ?_
    refine mr_get S K N 1 (by decide) k3_139 (v := .int (M 0 1)) rfl dX5_skater_29 ?_
    refine lv_iconst (v := 1) S.1 S.2.1 dX5_skater_32 (by decide) ?_
    refine lv_iadd S.1 S.2.1 dX5_skater_33 ?_
    refine mr_put S K N hS 1 (by decide) (by unfold mscal; omega) k3_139 rfl rfl dX5_skater_34 (fun H locs N hS => ?_)
    refine lv_aload_n S.1 S.2.1 dX5_skater_37 rfl (lv_at hl 0 rfl) ?_
    refine mr_get S K N 1 (by decide) k3_139 (v := .int ((M 0 1) + 1)) rfl dX5_skater_38 ?_
    refine lv_iconst (v := 1) S.1 S.2.1 dX5_skater_41 (by decide) ?_
    refine lv_isub S.1 S.2.1 dX5_skater_42 ?_
    exact ne_wI S hS hr hlk ⟨congrArg (fun z => some (Value.int z)) (Eq.symm (by unfold f_X5_skater; first | rfl | (rw [if_neg c7_1]) | (simp only [if_neg c7_1]))), (by unfold g_X5_skater; first | exact N | (rw [if_neg c7_1]; exact N) | (simp only [if_neg c7_1]; exact N))⟩ dX5_skater_43
  · refine lv_iconst (v := 1) S.1 S.2.1 dX5_skater_10 (by decide) ?_
    refine lv_goto (tgt := 15) S.1 S.2.1 dX5_skater_11 (by decide) ?_
    refine mr_put S K N hS 0 (by decide) (by unfold mscal; omega) k3_138 rfl rfl dX5_skater_15 (fun H locs N hS => ?_)
    refine lv_aload_n S.1 S.2.1 dX5_skater_18 rfl (lv_at hl 0 rfl) ?_
    refine mr_get S K N 0 (by decide) k3_138 (v := .int 1) rfl dX5_skater_19 ?_
    refine lv_if_le (tgt := 27) S.1 S.2.1 dX5_skater_22 (by decide) (fun c9 => absurd c9 (by decide)) (fun _ => ?_)
    refine lv_iconst (v := 0) S.1 S.2.1 dX5_skater_25 (by decide) ?_
    exact ne_wI S hS hr hlk ⟨congrArg (fun z => some (Value.int z)) (Eq.symm (by unfold f_X5_skater; first | rfl | (rw [if_pos c7_1]) | (simp only [if_pos c7_1]))), (by unfold g_X5_skater; first | exact N | (rw [if_pos c7_1]; exact N) | (simp only [if_pos c7_1]; exact N))⟩ dX5_skater_26

def g_X5_stands (M : Nat → Nat → Int32) (p0 : Int32) (p1 : Int32) (p2 : Int32) : Nat → Nat → Int32 :=
  (up2 (up2 (up2 M 0 3 p0) 0 4 p1) 0 5 p2)
set_option maxHeartbeats 4000000 in
set_option maxRecDepth 100000 in
theorem m_X5_stands {D : va_G} {cA : Nat → ClassId} {B : Nat} (l : Launch) {dom : Nat → Prop} {ad : Nat → Nat} {X : Nat → va_E} {H0 : Heap} (M : Nat → Nat → Int32) (p0 : Int32) (p1 : Int32) (p2 : Int32) (N : mw D cA B dom ad X M H0) : MetW D cA B l yX5_stands cX5_stands 4 none 0 0 0 0 [.ref (ad 5), .int p0, .int p1, .int p2] H0 (fun o h => o = none ∧ mw D cA B dom ad X (g_X5_stands M p0 p1 p2) h) := by
  refine MetW.of (by decide) (Nat.le_of_ble_eq_true rfl) ?_
  intro p e s m args below meth c S hr hlk hin hh K ls hl
  subst hh
  have hS : va_S (fun q => B ≤ q) s.heap s.heap [] := va_S.rf
  have hl : lv_has ls 4 [(0, .ref (ad 5)), (1, .int p0), (2, .int p1), (3, .int p2)] := hl
  refine lv_aload_n S.1 S.2.1 dX5_stands_0 rfl (lv_at hl 0 rfl) ?_
  refine lv_iload_n S.1 S.2.1 dX5_stands_1 rfl (lv_at hl 1 rfl) ?_
  refine mr_put S K N hS 3 (by decide) (by unfold mscal; omega) k3_141 rfl rfl dX5_stands_2 (fun H locs N hS => ?_)
  refine lv_aload_n S.1 S.2.1 dX5_stands_5 rfl (lv_at hl 0 rfl) ?_
  refine lv_iload_n S.1 S.2.1 dX5_stands_6 rfl (lv_at hl 2 rfl) ?_
  refine mr_put S K N hS 4 (by decide) (by unfold mscal; omega) k3_142 rfl rfl dX5_stands_7 (fun H locs N hS => ?_)
  refine lv_aload_n S.1 S.2.1 dX5_stands_10 rfl (lv_at hl 0 rfl) ?_
  refine lv_iload_n S.1 S.2.1 dX5_stands_11 rfl (lv_at hl 3 rfl) ?_
  refine mr_put S K N hS 5 (by decide) (by unfold mscal; omega) k3_143 rfl rfl dX5_stands_12 (fun H locs N hS => ?_)
  exact ne_wV S hS hr hlk ⟨rfl, N⟩ dX5_stands_15

def f_X5_isSkater (M : Nat → Nat → Int32) (p0 : Int32) : Int32 :=
  (f_X5_in p0 0 ((M 0 1) - 1))
set_option maxHeartbeats 4000000 in
set_option maxRecDepth 100000 in
theorem m_X5_isSkater {D : va_G} {cA : Nat → ClassId} {B : Nat} (l : Launch) {dom : Nat → Prop} {ad : Nat → Nat} {X : Nat → va_E} {H0 : Heap} (M : Nat → Nat → Int32) (p0 : Int32) (N : mw D cA B dom ad X M H0) : MetR D cA B l yX5_isSkater cX5_isSkater 2 (some .boolean) 1 22 [.ref (ad 5), .int p0] H0 (some (.int (f_X5_isSkater M p0))) := by
  refine MetR.of (by decide) (Nat.le_of_ble_eq_true rfl) ?_
  intro p e s m args below meth c S hr hlk hh K ls hl
  subst hh
  have hS : va_S (fun q => B ≤ q) s.heap s.heap [] := va_S.rf
  have hl : lv_has ls 2 [(0, .ref (ad 5)), (1, .int p0)] := hl
  refine lv_iload_n S.1 S.2.1 dX5_isSkater_0 rfl (lv_at hl 1 rfl) ?_
  refine lv_iconst (v := 0) S.1 S.2.1 dX5_isSkater_1 (by decide) ?_
  refine lv_aload_n S.1 S.2.1 dX5_isSkater_2 rfl (lv_at hl 0 rfl) ?_
  refine mr_get S K N 1 (by decide) k3_139 (v := .int (M 0 1)) rfl dX5_isSkater_3 ?_
  refine lv_iconst (v := 1) S.1 S.2.1 dX5_isSkater_6 (by decide) ?_
  refine lv_isub S.1 S.2.1 dX5_isSkater_7 ?_
  refine nc_rS S K hS (As := [.int p0, .int 0, .int ((M 0 1) - 1)]) (m_X5_in l p0 0 ((M 0 1) - 1)) k3_224 k3_225 k1_3 k3_226 (num := 3) (by decide +kernel) rfl ⟨Nat.le_of_ble_eq_true rfl, Nat.le_of_ble_eq_true rfl⟩ hl.1 rfl (Nat.le_of_ble_eq_true rfl) dX5_isSkater_8 ⟨Nat.le_of_ble_eq_true rfl, Nat.le_of_ble_eq_true rfl⟩ ?_
  exact ee_rZ S hr hlk (zb_in _ _ _) (rfl) dX5_isSkater_11

def f_X5_isOpen (M : Nat → Nat → Int32) : Int32 :=
  if (M 0 2) = (-1) then 0
  else if 240 ≤ (M 7 (M 0 2).toNatClampNeg) then 0
  else 1
set_option maxHeartbeats 4000000 in
set_option maxRecDepth 100000 in
theorem m_X5_isOpen {D : va_G} {cA : Nat → ClassId} {B : Nat} (l : Launch) {dom : Nat → Prop} {ad : Nat → Nat} {X : Nat → va_E} {H0 : Heap} (M : Nat → Nat → Int32) (N : mw D cA B dom ad X M H0) (hg : ¬ M 0 2 = (-1) → vp_in (M 0 2) 12) : MetR D cA B l yX5_isOpen cX5_isOpen 1 (some .boolean) 0 0 [.ref (ad 5)] H0 (some (.int (f_X5_isOpen M))) := by
  refine MetR.of (by decide) (Nat.le_of_ble_eq_true rfl) ?_
  intro p e s m args below meth c S hr hlk hh K ls hl
  subst hh
  have hS : va_S (fun q => B ≤ q) s.heap s.heap [] := va_S.rf
  have hl : lv_has ls 1 [(0, .ref (ad 5))] := hl
  refine lv_aload_n S.1 S.2.1 dX5_isOpen_0 rfl (lv_at hl 0 rfl) ?_
  refine mr_get S K N 2 (by decide) k3_140 (v := .int (M 0 2)) rfl dX5_isOpen_1 ?_
  refine lv_iconst (v := (-1)) S.1 S.2.1 dX5_isOpen_4 (by decide) ?_
  refine lv_icmp_eq (tgt := 27) S.1 S.2.1 dX5_isOpen_5 (by decide) (fun c5_1 => ?_) (fun c5_1 => ?_)
  · refine lv_iconst (v := 0) S.1 S.2.1 dX5_isOpen_27 (by decide) ?_
    exact ee_rZ S hr hlk (zb_0) (by unfold f_X5_isOpen; first | rfl | (rw [if_pos c5_1]) | (simp only [if_pos c5_1])) dX5_isOpen_28
  · refine lv_aload_n S.1 S.2.1 dX5_isOpen_8 rfl (lv_at hl 0 rfl) ?_
    refine mr_get S K N 7 (by decide) k3_145 (v := .ref (ad 17)) rfl dX5_isOpen_9 ?_
    refine lv_aload_n S.1 S.2.1 dX5_isOpen_12 rfl (lv_at hl 0 rfl) ?_
    refine mr_get S K N 2 (by decide) k3_140 (v := .int (M 0 2)) rfl dX5_isOpen_13 ?_
    refine mr_iald S K N 7 (by decide) (by decide) rfl (v := (M 7 (M 0 2).toNatClampNeg)) (hg c5_1) (rfl) dX5_isOpen_16 ?_
    refine lv_sipush (v := 240) S.1 S.2.1 dX5_isOpen_17 (by decide) ?_
    refine lv_icmp_ge (tgt := 27) S.1 S.2.1 dX5_isOpen_20 (by decide) (fun c20_2 => ?_) (fun c20_2 => ?_)
    · refine lv_iconst (v := 0) S.1 S.2.1 dX5_isOpen_27 (by decide) ?_
      exact ee_rZ S hr hlk (zb_0) (by unfold f_X5_isOpen; first | rfl | (rw [if_neg c5_1, if_pos c20_2]) | (simp only [if_neg c5_1, if_pos c20_2])) dX5_isOpen_28
    · refine lv_iconst (v := 1) S.1 S.2.1 dX5_isOpen_23 (by decide) ?_
      refine lv_goto (tgt := 28) S.1 S.2.1 dX5_isOpen_24 (by decide) ?_
      exact ee_rZ S hr hlk (zb_1) (by unfold f_X5_isOpen; first | rfl | (rw [if_neg c5_1, if_neg c20_2]) | (simp only [if_neg c5_1, if_neg c20_2])) dX5_isOpen_28

def f_X5_canTakeOff (M : Nat → Nat → Int32) (p0 : Int32) : Int32 :=
  if p0 = 0 then (if (M 0 3) = 1 then (if (M 0 4) = 1 then (if (M 0 5) = 1 then 1
        else 0)
      else 0)
    else 0)
  else if p0 = 2 then (if (M 0 3) = 1 then (if (M 0 4) = 1 then (if (M 0 5) = 1 then 1
        else 0)
      else 0)
    else 0)
  else if p0 = 3 then (if (M 0 3) = 1 then 0
    else if (M 0 5) = 1 then 1
    else 0)
  else if p0 = 4 then (if (M 0 3) = 1 then 0
    else if (M 0 5) = 1 then 1
    else 0)
  else if (M 0 3) = 1 then 0
  else if p0 = 5 then (if (M 0 4) = 1 then (if (M 0 5) = 1 then 0
      else 1)
    else 0)
  else if (M 0 4) = 1 then 0
  else if (M 0 5) = 1 then 1
  else 0
set_option maxHeartbeats 4000000 in
set_option maxRecDepth 100000 in
theorem m_X5_canTakeOff {D : va_G} {cA : Nat → ClassId} {B : Nat} (l : Launch) {dom : Nat → Prop} {ad : Nat → Nat} {X : Nat → va_E} {H0 : Heap} (M : Nat → Nat → Int32) (p0 : Int32) (N : mw D cA B dom ad X M H0) : MetR D cA B l yX5_canTakeOff cX5_canTakeOff 2 (some .boolean) 0 0 [.ref (ad 5), .int p0] H0 (some (.int (f_X5_canTakeOff M p0))) := by
  refine MetR.of (by decide) (Nat.le_of_ble_eq_true rfl) ?_
  intro p e s m args below meth c S hr hlk hh K ls hl
  subst hh
  have hS : va_S (fun q => B ≤ q) s.heap s.heap [] := va_S.rf
  have hl : lv_has ls 2 [(0, .ref (ad 5)), (1, .int p0)] := hl
  refine lv_iload_n S.1 S.2.1 dX5_canTakeOff_0 rfl (lv_at hl 1 rfl) ?_
  refine lv_if_eq (tgt := 9) S.1 S.2.1 dX5_canTakeOff_1 (by decide) (fun c1_1 => ?_) (fun c1_1 => ?_)
  · refine lv_aload_n S.1 S.2.1 dX5_canTakeOff_9 rfl (lv_at hl 0 rfl) ?_
    refine mr_get S K N 3 (by decide) k3_141 (v := .int (M 0 3)) rfl dX5_canTakeOff_10 ?_
    refine lv_iconst (v := 1) S.1 S.2.1 dX5_canTakeOff_13 (by decide) ?_
    refine lv_icmp_ne (tgt := 37) S.1 S.2.1 dX5_canTakeOff_14 (by decide) (fun c14_2 => ?_) (fun c14_2 => ?_)
    · refine lv_iconst (v := 0) S.1 S.2.1 dX5_canTakeOff_37 (by decide) ?_
      exact ee_rZ S hr hlk (zb_0) (by unfold f_X5_canTakeOff; first | rfl | (rw [if_pos c1_1, if_neg c14_2]) | (simp only [if_pos c1_1, if_neg c14_2])) dX5_canTakeOff_38
    · refine lv_aload_n S.1 S.2.1 dX5_canTakeOff_17 rfl (lv_at hl 0 rfl) ?_
      refine mr_get S K N 4 (by decide) k3_142 (v := .int (M 0 4)) rfl dX5_canTakeOff_18 ?_
      refine lv_iconst (v := 1) S.1 S.2.1 dX5_canTakeOff_21 (by decide) ?_
      refine lv_icmp_ne (tgt := 37) S.1 S.2.1 dX5_canTakeOff_22 (by decide) (fun c22_3 => ?_) (fun c22_3 => ?_)
      · refine lv_iconst (v := 0) S.1 S.2.1 dX5_canTakeOff_37 (by decide) ?_
        exact ee_rZ S hr hlk (zb_0) (by unfold f_X5_canTakeOff; first | rfl | (rw [if_pos c1_1, if_pos c14_2, if_neg c22_3]) | (simp only [if_pos c1_1, if_pos c14_2, if_neg c22_3])) dX5_canTakeOff_38
      · refine lv_aload_n S.1 S.2.1 dX5_canTakeOff_25 rfl (lv_at hl 0 rfl) ?_
        refine mr_get S K N 5 (by decide) k3_143 (v := .int (M 0 5)) rfl dX5_canTakeOff_26 ?_
        refine lv_iconst (v := 1) S.1 S.2.1 dX5_canTakeOff_29 (by decide) ?_
        refine lv_icmp_ne (tgt := 37) S.1 S.2.1 dX5_canTakeOff_30 (by decide) (fun c30_4 => ?_) (fun c30_4 => ?_)
        · refine lv_iconst (v := 0) S.1 S.2.1 dX5_canTakeOff_37 (by decide) ?_
          exact ee_rZ S hr hlk (zb_0) (by unfold f_X5_canTakeOff; first | rfl | (rw [if_pos c1_1, if_pos c14_2, if_pos c22_3, if_neg c30_4]) | (simp only [if_pos c1_1, if_pos c14_2, if_pos c22_3, if_neg c30_4])) dX5_canTakeOff_38
        · refine lv_iconst (v := 1) S.1 S.2.1 dX5_canTakeOff_33 (by decide) ?_
          refine lv_goto (tgt := 38) S.1 S.2.1 dX5_canTakeOff_34 (by decide) ?_
          exact ee_rZ S hr hlk (zb_1) (by unfold f_X5_canTakeOff; first | rfl | (rw [if_pos c1_1, if_pos c14_2, if_pos c22_3, if_pos c30_4]) | (simp only [if_pos c1_1, if_pos c14_2, if_pos c22_3, if_pos c30_4])) dX5_canTakeOff_38
  · refine lv_iload_n S.1 S.2.1 dX5_canTakeOff_4 rfl (lv_at hl 1 rfl) ?_
    refine lv_iconst (v := 2) S.1 S.2.1 dX5_canTakeOff_5 (by decide) ?_
    refine lv_icmp_ne (tgt := 39) S.1 S.2.1 dX5_canTakeOff_6 (by decide) (fun c6_5 => ?_) (fun c6_5 => ?_)
    · refine lv_iload_n S.1 S.2.1 dX5_canTakeOff_39 rfl (lv_at hl 1 rfl) ?_
      refine lv_iconst (v := 3) S.1 S.2.1 dX5_canTakeOff_40 (by decide) ?_
      refine lv_icmp_eq (tgt := 49) S.1 S.2.1 dX5_canTakeOff_41 (by decide) (fun c41_6 => ?_) (fun c41_6 => ?_)
      · refine lv_aload_n S.1 S.2.1 dX5_canTakeOff_49 rfl (lv_at hl 0 rfl) ?_
        refine mr_get S K N 3 (by decide) k3_141 (v := .int (M 0 3)) rfl dX5_canTakeOff_50 ?_
        refine lv_iconst (v := 1) S.1 S.2.1 dX5_canTakeOff_53 (by decide) ?_
        refine lv_icmp_eq (tgt := 69) S.1 S.2.1 dX5_canTakeOff_54 (by decide) (fun c54_7 => ?_) (fun c54_7 => ?_)
        · refine lv_iconst (v := 0) S.1 S.2.1 dX5_canTakeOff_69 (by decide) ?_
          exact ee_rZ S hr hlk (zb_0) (by unfold f_X5_canTakeOff; first | rfl | (rw [if_neg c1_1, if_neg c6_5, if_pos c41_6, if_pos c54_7]) | (simp only [if_neg c1_1, if_neg c6_5, if_pos c41_6, if_pos c54_7])) dX5_canTakeOff_70
        · refine lv_aload_n S.1 S.2.1 dX5_canTakeOff_57 rfl (lv_at hl 0 rfl) ?_
          refine mr_get S K N 5 (by decide) k3_143 (v := .int (M 0 5)) rfl dX5_canTakeOff_58 ?_
          refine lv_iconst (v := 1) S.1 S.2.1 dX5_canTakeOff_61 (by decide) ?_
          refine lv_icmp_ne (tgt := 69) S.1 S.2.1 dX5_canTakeOff_62 (by decide) (fun c62_8 => ?_) (fun c62_8 => ?_)
          · refine lv_iconst (v := 0) S.1 S.2.1 dX5_canTakeOff_69 (by decide) ?_
            exact ee_rZ S hr hlk (zb_0) (by unfold f_X5_canTakeOff; first | rfl | (rw [if_neg c1_1, if_neg c6_5, if_pos c41_6, if_neg c54_7, if_neg c62_8]) | (simp only [if_neg c1_1, if_neg c6_5, if_pos c41_6, if_neg c54_7, if_neg c62_8])) dX5_canTakeOff_70
          · refine lv_iconst (v := 1) S.1 S.2.1 dX5_canTakeOff_65 (by decide) ?_
            refine lv_goto (tgt := 70) S.1 S.2.1 dX5_canTakeOff_66 (by decide) ?_
            exact ee_rZ S hr hlk (zb_1) (by unfold f_X5_canTakeOff; first | rfl | (rw [if_neg c1_1, if_neg c6_5, if_pos c41_6, if_neg c54_7, if_pos c62_8]) | (simp only [if_neg c1_1, if_neg c6_5, if_pos c41_6, if_neg c54_7, if_pos c62_8])) dX5_canTakeOff_70
      · refine lv_iload_n S.1 S.2.1 dX5_canTakeOff_44 rfl (lv_at hl 1 rfl) ?_
        refine lv_iconst (v := 4) S.1 S.2.1 dX5_canTakeOff_45 (by decide) ?_
        refine lv_icmp_ne (tgt := 71) S.1 S.2.1 dX5_canTakeOff_46 (by decide) (fun c46_9 => ?_) (fun c46_9 => ?_)
        · refine lv_aload_n S.1 S.2.1 dX5_canTakeOff_71 rfl (lv_at hl 0 rfl) ?_
          refine mr_get S K N 3 (by decide) k3_141 (v := .int (M 0 3)) rfl dX5_canTakeOff_72 ?_
          refine lv_iconst (v := 1) S.1 S.2.1 dX5_canTakeOff_75 (by decide) ?_
          refine lv_icmp_eq (tgt := 123) S.1 S.2.1 dX5_canTakeOff_76 (by decide) (fun c76_10 => ?_) (fun c76_10 => ?_)
          · refine lv_iconst (v := 0) S.1 S.2.1 dX5_canTakeOff_123 (by decide) ?_
            exact ee_rZ S hr hlk (zb_0) (by unfold f_X5_canTakeOff; first | rfl | (rw [if_neg c1_1, if_neg c6_5, if_neg c41_6, if_neg c46_9, if_pos c76_10]) | (simp only [if_neg c1_1, if_neg c6_5, if_neg c41_6, if_neg c46_9, if_pos c76_10])) dX5_canTakeOff_124
          · refine lv_iload_n S.1 S.2.1 dX5_canTakeOff_79 rfl (lv_at hl 1 rfl) ?_
            refine lv_iconst (v := 5) S.1 S.2.1 dX5_canTakeOff_80 (by decide) ?_
            refine lv_icmp_ne (tgt := 103) S.1 S.2.1 dX5_canTakeOff_81 (by decide) (fun c81_11 => ?_) (fun c81_11 => ?_)
            · refine lv_aload_n S.1 S.2.1 dX5_canTakeOff_103 rfl (lv_at hl 0 rfl) ?_
              refine mr_get S K N 4 (by decide) k3_142 (v := .int (M 0 4)) rfl dX5_canTakeOff_104 ?_
              refine lv_iconst (v := 1) S.1 S.2.1 dX5_canTakeOff_107 (by decide) ?_
              refine lv_icmp_eq (tgt := 123) S.1 S.2.1 dX5_canTakeOff_108 (by decide) (fun c108_12 => ?_) (fun c108_12 => ?_)
              · refine lv_iconst (v := 0) S.1 S.2.1 dX5_canTakeOff_123 (by decide) ?_
                exact ee_rZ S hr hlk (zb_0) (by unfold f_X5_canTakeOff; first | rfl | (rw [if_neg c1_1, if_neg c6_5, if_neg c41_6, if_neg c46_9, if_neg c76_10, if_neg c81_11, if_pos c108_12]) | (simp only [if_neg c1_1, if_neg c6_5, if_neg c41_6, if_neg c46_9, if_neg c76_10, if_neg c81_11, if_pos c108_12])) dX5_canTakeOff_124
              · refine lv_aload_n S.1 S.2.1 dX5_canTakeOff_111 rfl (lv_at hl 0 rfl) ?_
                refine mr_get S K N 5 (by decide) k3_143 (v := .int (M 0 5)) rfl dX5_canTakeOff_112 ?_
                refine lv_iconst (v := 1) S.1 S.2.1 dX5_canTakeOff_115 (by decide) ?_
                refine lv_icmp_ne (tgt := 123) S.1 S.2.1 dX5_canTakeOff_116 (by decide) (fun c116_13 => ?_) (fun c116_13 => ?_)
                · refine lv_iconst (v := 0) S.1 S.2.1 dX5_canTakeOff_123 (by decide) ?_
                  exact ee_rZ S hr hlk (zb_0) (by unfold f_X5_canTakeOff; first | rfl | (rw [if_neg c1_1, if_neg c6_5, if_neg c41_6, if_neg c46_9, if_neg c76_10, if_neg c81_11, if_neg c108_12, if_neg c116_13]) | (simp only [if_neg c1_1, if_neg c6_5, if_neg c41_6, if_neg c46_9, if_neg c76_10, if_neg c81_11, if_neg c108_12, if_neg c116_13])) dX5_canTakeOff_124
                · refine lv_iconst (v := 1) S.1 S.2.1 dX5_canTakeOff_119 (by decide) ?_
                  refine lv_goto (tgt := 124) S.1 S.2.1 dX5_canTakeOff_120 (by decide) ?_
                  exact ee_rZ S hr hlk (zb_1) (by unfold f_X5_canTakeOff; first | rfl | (rw [if_neg c1_1, if_neg c6_5, if_neg c41_6, if_neg c46_9, if_neg c76_10, if_neg c81_11, if_neg c108_12, if_pos c116_13]) | (simp only [if_neg c1_1, if_neg c6_5, if_neg c41_6, if_neg c46_9, if_neg c76_10, if_neg c81_11, if_neg c108_12, if_pos c116_13])) dX5_canTakeOff_124
            · refine lv_aload_n S.1 S.2.1 dX5_canTakeOff_84 rfl (lv_at hl 0 rfl) ?_
              refine mr_get S K N 4 (by decide) k3_142 (v := .int (M 0 4)) rfl dX5_canTakeOff_85 ?_
              refine lv_iconst (v := 1) S.1 S.2.1 dX5_canTakeOff_88 (by decide) ?_
              refine lv_icmp_ne (tgt := 123) S.1 S.2.1 dX5_canTakeOff_89 (by decide) (fun c89_14 => ?_) (fun c89_14 => ?_)
              · refine lv_iconst (v := 0) S.1 S.2.1 dX5_canTakeOff_123 (by decide) ?_
                exact ee_rZ S hr hlk (zb_0) (by unfold f_X5_canTakeOff; first | rfl | (rw [if_neg c1_1, if_neg c6_5, if_neg c41_6, if_neg c46_9, if_neg c76_10, if_pos c81_11, if_neg c89_14]) | (simp only [if_neg c1_1, if_neg c6_5, if_neg c41_6, if_neg c46_9, if_neg c76_10, if_pos c81_11, if_neg c89_14])) dX5_canTakeOff_124
              · refine lv_aload_n S.1 S.2.1 dX5_canTakeOff_92 rfl (lv_at hl 0 rfl) ?_
                refine mr_get S K N 5 (by decide) k3_143 (v := .int (M 0 5)) rfl dX5_canTakeOff_93 ?_
                refine lv_iconst (v := 1) S.1 S.2.1 dX5_canTakeOff_96 (by decide) ?_
                refine lv_icmp_eq (tgt := 123) S.1 S.2.1 dX5_canTakeOff_97 (by decide) (fun c97_15 => ?_) (fun c97_15 => ?_)
                · refine lv_iconst (v := 0) S.1 S.2.1 dX5_canTakeOff_123 (by decide) ?_
                  exact ee_rZ S hr hlk (zb_0) (by unfold f_X5_canTakeOff; first | rfl | (rw [if_neg c1_1, if_neg c6_5, if_neg c41_6, if_neg c46_9, if_neg c76_10, if_pos c81_11, if_pos c89_14, if_pos c97_15]) | (simp only [if_neg c1_1, if_neg c6_5, if_neg c41_6, if_neg c46_9, if_neg c76_10, if_pos c81_11, if_pos c89_14, if_pos c97_15])) dX5_canTakeOff_124
                · refine lv_goto (tgt := 119) S.1 S.2.1 dX5_canTakeOff_100 (by decide) ?_
                  refine lv_iconst (v := 1) S.1 S.2.1 dX5_canTakeOff_119 (by decide) ?_
                  refine lv_goto (tgt := 124) S.1 S.2.1 dX5_canTakeOff_120 (by decide) ?_
                  exact ee_rZ S hr hlk (zb_1) (by unfold f_X5_canTakeOff; first | rfl | (rw [if_neg c1_1, if_neg c6_5, if_neg c41_6, if_neg c46_9, if_neg c76_10, if_pos c81_11, if_pos c89_14, if_neg c97_15]) | (simp only [if_neg c1_1, if_neg c6_5, if_neg c41_6, if_neg c46_9, if_neg c76_10, if_pos c81_11, if_pos c89_14, if_neg c97_15])) dX5_canTakeOff_124
        · refine lv_aload_n S.1 S.2.1 dX5_canTakeOff_49 rfl (lv_at hl 0 rfl) ?_
          refine mr_get S K N 3 (by decide) k3_141 (v := .int (M 0 3)) rfl dX5_canTakeOff_50 ?_
          refine lv_iconst (v := 1) S.1 S.2.1 dX5_canTakeOff_53 (by decide) ?_
          refine lv_icmp_eq (tgt := 69) S.1 S.2.1 dX5_canTakeOff_54 (by decide) (fun c54_16 => ?_) (fun c54_16 => ?_)
          · refine lv_iconst (v := 0) S.1 S.2.1 dX5_canTakeOff_69 (by decide) ?_
            exact ee_rZ S hr hlk (zb_0) (by unfold f_X5_canTakeOff; first | rfl | (rw [if_neg c1_1, if_neg c6_5, if_neg c41_6, if_pos c46_9, if_pos c54_16]) | (simp only [if_neg c1_1, if_neg c6_5, if_neg c41_6, if_pos c46_9, if_pos c54_16])) dX5_canTakeOff_70
          · refine lv_aload_n S.1 S.2.1 dX5_canTakeOff_57 rfl (lv_at hl 0 rfl) ?_
            refine mr_get S K N 5 (by decide) k3_143 (v := .int (M 0 5)) rfl dX5_canTakeOff_58 ?_
            refine lv_iconst (v := 1) S.1 S.2.1 dX5_canTakeOff_61 (by decide) ?_
            refine lv_icmp_ne (tgt := 69) S.1 S.2.1 dX5_canTakeOff_62 (by decide) (fun c62_17 => ?_) (fun c62_17 => ?_)
            · refine lv_iconst (v := 0) S.1 S.2.1 dX5_canTakeOff_69 (by decide) ?_
              exact ee_rZ S hr hlk (zb_0) (by unfold f_X5_canTakeOff; first | rfl | (rw [if_neg c1_1, if_neg c6_5, if_neg c41_6, if_pos c46_9, if_neg c54_16, if_neg c62_17]) | (simp only [if_neg c1_1, if_neg c6_5, if_neg c41_6, if_pos c46_9, if_neg c54_16, if_neg c62_17])) dX5_canTakeOff_70
            · refine lv_iconst (v := 1) S.1 S.2.1 dX5_canTakeOff_65 (by decide) ?_
              refine lv_goto (tgt := 70) S.1 S.2.1 dX5_canTakeOff_66 (by decide) ?_
              exact ee_rZ S hr hlk (zb_1) (by unfold f_X5_canTakeOff; first | rfl | (rw [if_neg c1_1, if_neg c6_5, if_neg c41_6, if_pos c46_9, if_neg c54_16, if_pos c62_17]) | (simp only [if_neg c1_1, if_neg c6_5, if_neg c41_6, if_pos c46_9, if_neg c54_16, if_pos c62_17])) dX5_canTakeOff_70
    · refine lv_aload_n S.1 S.2.1 dX5_canTakeOff_9 rfl (lv_at hl 0 rfl) ?_
      refine mr_get S K N 3 (by decide) k3_141 (v := .int (M 0 3)) rfl dX5_canTakeOff_10 ?_
      refine lv_iconst (v := 1) S.1 S.2.1 dX5_canTakeOff_13 (by decide) ?_
      refine lv_icmp_ne (tgt := 37) S.1 S.2.1 dX5_canTakeOff_14 (by decide) (fun c14_18 => ?_) (fun c14_18 => ?_)
      · refine lv_iconst (v := 0) S.1 S.2.1 dX5_canTakeOff_37 (by decide) ?_
        exact ee_rZ S hr hlk (zb_0) (by unfold f_X5_canTakeOff; first | rfl | (rw [if_neg c1_1, if_pos c6_5, if_neg c14_18]) | (simp only [if_neg c1_1, if_pos c6_5, if_neg c14_18])) dX5_canTakeOff_38
      · refine lv_aload_n S.1 S.2.1 dX5_canTakeOff_17 rfl (lv_at hl 0 rfl) ?_
        refine mr_get S K N 4 (by decide) k3_142 (v := .int (M 0 4)) rfl dX5_canTakeOff_18 ?_
        refine lv_iconst (v := 1) S.1 S.2.1 dX5_canTakeOff_21 (by decide) ?_
        refine lv_icmp_ne (tgt := 37) S.1 S.2.1 dX5_canTakeOff_22 (by decide) (fun c22_19 => ?_) (fun c22_19 => ?_)
        · refine lv_iconst (v := 0) S.1 S.2.1 dX5_canTakeOff_37 (by decide) ?_
          exact ee_rZ S hr hlk (zb_0) (by unfold f_X5_canTakeOff; first | rfl | (rw [if_neg c1_1, if_pos c6_5, if_pos c14_18, if_neg c22_19]) | (simp only [if_neg c1_1, if_pos c6_5, if_pos c14_18, if_neg c22_19])) dX5_canTakeOff_38
        · refine lv_aload_n S.1 S.2.1 dX5_canTakeOff_25 rfl (lv_at hl 0 rfl) ?_
          refine mr_get S K N 5 (by decide) k3_143 (v := .int (M 0 5)) rfl dX5_canTakeOff_26 ?_
          refine lv_iconst (v := 1) S.1 S.2.1 dX5_canTakeOff_29 (by decide) ?_
          refine lv_icmp_ne (tgt := 37) S.1 S.2.1 dX5_canTakeOff_30 (by decide) (fun c30_20 => ?_) (fun c30_20 => ?_)
          · refine lv_iconst (v := 0) S.1 S.2.1 dX5_canTakeOff_37 (by decide) ?_
            exact ee_rZ S hr hlk (zb_0) (by unfold f_X5_canTakeOff; first | rfl | (rw [if_neg c1_1, if_pos c6_5, if_pos c14_18, if_pos c22_19, if_neg c30_20]) | (simp only [if_neg c1_1, if_pos c6_5, if_pos c14_18, if_pos c22_19, if_neg c30_20])) dX5_canTakeOff_38
          · refine lv_iconst (v := 1) S.1 S.2.1 dX5_canTakeOff_33 (by decide) ?_
            refine lv_goto (tgt := 38) S.1 S.2.1 dX5_canTakeOff_34 (by decide) ?_
            exact ee_rZ S hr hlk (zb_1) (by unfold f_X5_canTakeOff; first | rfl | (rw [if_neg c1_1, if_pos c6_5, if_pos c14_18, if_pos c22_19, if_pos c30_20]) | (simp only [if_neg c1_1, if_pos c6_5, if_pos c14_18, if_pos c22_19, if_pos c30_20])) dX5_canTakeOff_38
