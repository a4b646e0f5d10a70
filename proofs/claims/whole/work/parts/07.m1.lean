section NJ
variable {p : Program} {l : Launch} {e : Env} {R : Room} {s : State} {m : MethodId} {args : Array Value} {below : List Frame} {meth : Method} {c : Code} {H : Heap} {locs : List Loc} {cells slots : Nat} {Q : State → Prop}
/-- paths that meet again: what differs gets a name -/
theorem nj {α : Type} {J n b : Nat} {V : α} {L : α → List (Nat × Value)} {St : α → List Value} {ls : Array Slot} {st : List Value}
    (k : ∀ (v : α) (ls2 : Array Slot), v = V → lv_has ls2 n (L v) → W p l e R s m args below meth c H locs cells slots Q (F0 m J ls2 (St v)))
    (bb : (∀ (v : α) (ls2 : Array Slot), v = V → lv_has ls2 n (L v) → W p l e R s m args below meth c H locs cells slots Q (F0 m J ls2 (St v))) → W p l e R s m args below meth c H locs cells slots Q (F0 m b ls st)) : W p l e R s m args below meth c H locs cells slots Q (F0 m b ls st) := bb k
/-- a loop that counts up to N -/
theorem nl {h N n : Nat} {L : Nat → List (Nat × Value)} (base : ∀ ls : Array Slot, lv_has ls n (L N) → W p l e R s m args below meth c H locs cells slots Q (F0 m h ls []))
    (step : ∀ i, i < N → (∀ ls : Array Slot, lv_has ls n (L (i + 1)) → W p l e R s m args below meth c H locs cells slots Q (F0 m h ls [])) → ∀ ls : Array Slot, lv_has ls n (L i) → W p l e R s m args below meth c H locs cells slots Q (F0 m h ls [])) : ∀ ls : Array Slot, lv_has ls n (L 0) → W p l e R s m args below meth c H locs cells slots Q (F0 m h ls []) := by
  have key : ∀ k i, i + k = N → ∀ ls : Array Slot, lv_has ls n (L i) → W p l e R s m args below meth c H locs cells slots Q (F0 m h ls []) := by
    intro k
    induction k with
    | zero =>
      intro i hi
      have : i = N := by omega
      subst this
      exact base
    | succ k ih =>
      intro i hi
      exact step i (by omega) (ih (i + 1) (by omega))
  exact key N 0 (by omega)
theorem nlM {B h N n : Nat} {PH : Nat → Heap → Prop} {L : Nat → List (Nat × Value)} (base : ∀ (ls : Array Slot) (H : Heap) (locs : List Loc), PH N H → va_S (fun q => B ≤ q) s.heap H locs → lv_has ls n (L N) → W p l e R s m args below meth c H locs cells slots Q (F0 m h ls []))
    (step : ∀ i, i < N → (∀ (ls : Array Slot) (H : Heap) (locs : List Loc), PH (i + 1) H → va_S (fun q => B ≤ q) s.heap H locs → lv_has ls n (L (i + 1)) → W p l e R s m args below meth c H locs cells slots Q (F0 m h ls [])) → ∀ (ls : Array Slot) (H : Heap) (locs : List Loc), PH i H → va_S (fun q => B ≤ q) s.heap H locs → lv_has ls n (L i) → W p l e R s m args below meth c H locs cells slots Q (F0 m h ls [])) :
    ∀ (ls : Array Slot) (H : Heap) (locs : List Loc), PH 0 H → va_S (fun q => B ≤ q) s.heap H locs → lv_has ls n (L 0) → W p l e R s m args below meth c H locs cells slots Q (F0 m h ls []) := by
  have key : ∀ k i, i + k = N → ∀ (ls : Array Slot) (H : Heap) (locs : List Loc), PH i H → va_S (fun q => B ≤ q) s.heap H locs → lv_has ls n (L i) → W p l e R s m args below meth c H locs cells slots Q (F0 m h ls []) := by
    intro k
    induction k with
    | zero =>
      intro i hi
      have : i = N := by omega
      subst this
      exact base
    | succ k ih =>
      intro i hi
      exact step i (by omega) (ih (i + 1) (by omega))
  exact key N 0 (by omega)
end NJ
def f_X5_in (v : Int32) (lo : Int32) (hi : Int32) : Int32 :=
  if v < lo then 0
  else if hi < v then 0
  else 1
set_option maxHeartbeats 4000000 in
set_option maxRecDepth 100000 in
theorem m_X5_in {D : va_G} {cA : Nat → ClassId} {B : Nat} (l : Launch) {H0 : Heap} (v : Int32) (lo : Int32) (hi : Int32) : MetR D cA B l yX5_in cX5_in 3 (some .boolean) 0 0 [.int v, .int lo, .int hi] H0 (some (.int (f_X5_in v lo hi))) := by
  refine MetR.of (by decide) (Nat.le_of_ble_eq_true rfl) ?_
  intro p e s m args below meth c S hr hlk hh K ls hl
  subst hh
  have hS : va_S (fun q => B ≤ q) s.heap s.heap [] := va_S.rf
  have hl : lv_has ls 3 [(0, .int v), (1, .int lo), (2, .int hi)] := hl
  refine lv_iload_n S.1 S.2.1 dX5_in_0 rfl (lv_at hl 0 rfl) ?_
  refine lv_iload_n S.1 S.2.1 dX5_in_1 rfl (lv_at hl 1 rfl) ?_
  refine lv_icmp_lt (tgt := 14) S.1 S.2.1 dX5_in_2 (by decide) (fun c2_1 => ?_) (fun c2_1 => ?_)
  · refine lv_iconst (v := 0) S.1 S.2.1 dX5_in_14 (by decide) ?_
    exact ee_rZ S hr hlk (zb_0) (by unfold f_X5_in; first | (rw [if_pos c2_1]; done) | (simp only [if_pos c2_1]; done) | rfl) dX5_in_15
  · refine lv_iload_n S.1 S.2.1 dX5_in_5 rfl (lv_at hl 0 rfl) ?_
    refine lv_iload_n S.1 S.2.1 dX5_in_6 rfl (lv_at hl 2 rfl) ?_
    refine lv_icmp_gt (tgt := 14) S.1 S.2.1 dX5_in_7 (by decide) (fun c7_2 => ?_) (fun c7_2 => ?_)
    · refine lv_iconst (v := 0) S.1 S.2.1 dX5_in_14 (by decide) ?_
      exact ee_rZ S hr hlk (zb_0) (by unfold f_X5_in; first | (rw [if_neg c2_1, if_pos c7_2]; done) | (simp only [if_neg c2_1, if_pos c7_2]; done) | rfl) dX5_in_15
    · refine lv_iconst (v := 1) S.1 S.2.1 dX5_in_10 (by decide) ?_
      refine lv_goto (tgt := 15) S.1 S.2.1 dX5_in_11 (by decide) ?_
      exact ee_rZ S hr hlk (zb_1) (by unfold f_X5_in; first | (rw [if_neg c2_1, if_neg c7_2]; done) | (simp only [if_neg c2_1, if_neg c7_2]; done) | rfl) dX5_in_15


theorem zb_in (v lo hi : Int32) : vp_nar .boolean (f_X5_in v lo hi) = f_X5_in v lo hi := by
  unfold f_X5_in
  split
  · exact zb_0
  · split
    · exact zb_0
    · exact zb_1
/-- the reference's numbers but those that it counts with / and but what it threw -/
def sq (M M1 : Nat → Nat → Int32) : Prop := ∀ a j, (a = 0 → j < 19) → M1 a j = M a j
def sr (M M1 : Nat → Nat → Int32) : Prop := ∀ a j, (a = 0 → 1 ≤ j ∧ j < 19) → M1 a j = M a j
theorem sq_refl (M : Nat → Nat → Int32) : sq M M := fun _ _ _ => rfl
theorem sq_trans {M M1 M2 : Nat → Nat → Int32} (h : sq M M1) (h2 : sq M1 M2) : sq M M2 := fun a j q => (h2 a j q).trans (h a j q)
theorem sr_0 {M M1 : Nat → Nat → Int32} (h : sq M M1) : sr M M1 := fun a j q => h a j (fun z => (q z).2)
theorem sr_t {M M1 : Nat → Nat → Int32} {t : Int32} (h : sq (up2 M 0 0 t) M1) : sr M M1 := fun a j q => by
  rw [h a j (fun z => (q z).2)]
  unfold up2
  rw [if_neg]
  intro z
  have := q z.1
  omega
theorem nt_d {p : Program} {l : Launch} {e : Env} {R : Room} {s : State} {m : MethodId} {args : Array Value} {below : List Frame} {meth : Method} {c : Code} {H : Heap} {locs : List Loc} {cells slots : Nat} {Q : State → Prop} {pc : Nat} {ls : Array Slot} {rest : List Value} {x y : UInt64} (h : x = y) (k : W p l e R s m args below meth c H locs cells slots Q (F0 m pc ls (.double y :: rest))) : W p l e R s m args below meth c H locs cells slots Q (F0 m pc ls (.double x :: rest)) := by subst h; exact k
theorem nlt_nat {a n : Nat} (h : ¬ nI a ≤ nI n) (hn : n < 2 ^ 31) : n < a := Nat.lt_of_not_le (fun q => h (nI_le q hn))
theorem vn_of {r : UInt64} (h : FP.dIsNaN r = false) : vf_n64 r := by
  unfold vf_n64
  rw [UInt64.le_iff_toNat_le, FP.Core.mask_toNat]
  have h2 : ¬ 9218868437227405312 < r.toNat % 2 ^ 63 := fun q => by
    have h3 := (FP.Core.isNaN_bits r).mpr q
    have h4 : FP.Core.dIsNaN r = false := h
    rw [h4] at h3
    cases h3
  exact Nat.le_of_not_lt h2
theorem nan_size {P : Prop} [Decidable P] {x : UInt64} (h : FP.dIsNaN x = false) : FP.dIsNaN (if P then x else FP.dneg x) = false := by
  split
  · exact h
  · rw [FP.dneg_nan]
    exact h
theorem fin_08 : FP.Core.DFin 4605380978949069210 := by rw [FP.Core.fin_bits]; decide
theorem fin_11 : FP.Core.DFin 4607632778762754458 := by rw [FP.Core.fin_bits]; decide
theorem fin_10 : FP.Core.DFin 4621819117588971520 := by rw [FP.Core.fin_bits]; decide
theorem fin_25 : FP.Core.DFin 4627730092099895296 := by rw [FP.Core.fin_bits]; decide
theorem fin_100 : FP.Core.DFin 4636737291354636288 := by rw [FP.Core.fin_bits]; decide
theorem nz_10 : ¬ FP.Core.DZero 4621819117588971520 := by rw [FP.Core.zero_bits2]; decide
theorem nan_08 (x : Int32) : FP.dIsNaN (FP.dmul (FP.i2d x) 4605380978949069210) = false := FP.Core.dmul_out (FP.Core.i2d_fin x) fin_08
theorem nan_11 (x : Int32) : FP.dIsNaN (FP.dmul (FP.i2d x) 4607632778762754458) = false := FP.Core.dmul_out (FP.Core.i2d_fin x) fin_11

def f_X5_at (sk : Nat) (el : Nat) : Int32 :=
  (nI ((12 * sk) + el))
set_option maxHeartbeats 4000000 in
set_option maxRecDepth 100000 in
theorem m_X5_at {D : va_G} {cA : Nat → ClassId} {B : Nat} (l : Launch) {H0 : Heap} (sk : Nat) (el : Nat) : MetR D cA B l yX5_at cX5_at 2 (some .int) 0 0 [.int (nI sk), .int (nI el)] H0 (some (.int (f_X5_at sk el))) := by
  refine MetR.of (by decide) (Nat.le_of_ble_eq_true rfl) ?_
  intro p e s m args below meth c S hr hlk hh K ls hl
  subst hh
  have hS : va_S (fun q => B ≤ q) s.heap s.heap [] := va_S.rf
  have hl : lv_has ls 2 [(0, .int (nI sk)), (1, .int (nI el))] := hl
  refine lv_bipush (v := 12) S.1 S.2.1 dX5_at_0 (by decide) ?_
  refine lv_iload_n S.1 S.2.1 dX5_at_2 rfl (lv_at hl 0 rfl) ?_
  refine lv_imul S.1 S.2.1 dX5_at_3 ?_
  refine nt_i (y := nI (12 * sk)) (pk_mul 12 sk) ?_
  refine lv_iload_n S.1 S.2.1 dX5_at_4 rfl (lv_at hl 1 rfl) ?_
  refine lv_iadd S.1 S.2.1 dX5_at_5 ?_
  refine nt_i (y := nI ((12 * sk) + el)) (nI_add (12 * sk) el) ?_
  exact ee_rI S hr hlk (rfl) dX5_at_6

def f_X5_thrown (M : Nat → Nat → Int32) : Int32 :=
  (M 0 0)
set_option maxHeartbeats 4000000 in
set_option maxRecDepth 100000 in
theorem m_X5_thrown {D : va_G} {cA : Nat → ClassId} {B : Nat} (l : Launch) {dom : Nat → Prop} {ad : Nat → Nat} {X : Nat → va_E} {H0 : Heap} (M : Nat → Nat → Int32) (N : mw D cA B dom ad X M H0) : MetR D cA B l yX5_thrown cX5_thrown 1 (some .int) 0 0 [.ref (ad 5)] H0 (some (.int (f_X5_thrown M))) := by
  refine MetR.of (by decide) (Nat.le_of_ble_eq_true rfl) ?_
  intro p e s m args below meth c S hr hlk hh K ls hl
  subst hh
  have hS : va_S (fun q => B ≤ q) s.heap s.heap [] := va_S.rf
  have hl : lv_has ls 1 [(0, .ref (ad 5))] := hl
  refine lv_aload_n S.1 S.2.1 dX5_thrown_0 rfl (lv_at hl 0 rfl) ?_
  refine mr_get S K N 0 (by decide) k3_146 (v := .int (M 0 0)) rfl dX5_thrown_1 ?_
  exact ee_rI S hr hlk (rfl) dX5_thrown_4

def f_X5_skater (M : Nat → Nat → Int32) : Int32 :=
  if (M 0 1) = 12 then 0
  else (((M 0 1) + 1) - 1)
def g_X5_skater (M : Nat → Nat → Int32) : Nat → Nat → Int32 :=
  if (M 0 1) = 12 then (up2 M 0 0 1)
  else (up2 (up2 M 0 0 0) 0 1 ((M 0 1) + 1))
set_option maxHeartbeats 4000000 in
set_option maxRecDepth 100000 in
theorem m_X5_skater {D : va_G} {cA : Nat → ClassId} {B : Nat} (l : Launch) {dom : Nat → Prop} {ad : Nat → Nat} {X : Nat → va_E} {H0 : Heap} (M : Nat → Nat → Int32) (N : mw D cA B dom ad X M H0) : MetW D cA B l yX5_skater cX5_skater 1 (some .int) 0 0 0 0 [.ref (ad 5)] H0 (fun o h => o = some (.int (f_X5_skater M)) ∧ mw D cA B dom ad X (g_X5_skater M) h) := by
  refine MetW.of (by decide) (Nat.le_of_ble_eq_true rfl) ?_
  intro p e s m args below meth c S hr hlk hin hh K ls hl
  subst hh
  have hS : va_S (fun q => B ≤ q) s.heap s.heap [] := va_S.rf
  have hl : lv_has ls 1 [(0, .ref (ad 5))] := hl
  refine lv_aload_n S.1 S.2.1 dX5_skater_0 rfl (lv_at hl 0 rfl) ?_
  refine lv_aload_n S.1 S.2.1 dX5_skater_1 rfl (lv_at hl 0 rfl) ?_
  refine mr_get S K N 1 (by decide) k3_147 (v := .int (M 0 1)) rfl dX5_skater_2 ?_
  refine lv_bipush (v := 12) S.1 S.2.1 dX5_skater_5 (by decide) ?_
  refine lv_icmp_ne (tgt := 14) S.1 S.2.1 dX5_skater_7 (by decide) (fun c7_1 => ?_) (fun c7_1 => ?_)
  · refine lv_iconst (v := 0) S.1 S.2.1 dX5_skater_14 (by decide) ?_
    refine mr_put S K N hS 0 (by decide) (by unfold mscal; omega) k3_146 rfl rfl dX5_skater_15 (fun H locs N hS => ?_)
    refine lv_aload_n S.1 S.2.1 dX5_skater_18 rfl (lv_at hl 0 rfl) ?_
    refine mr_get S K N 0 (by decide) k3_146 (v := .int 0) rfl dX5_skater_19 ?_
    refine lv_if_le (tgt := 27) S.1 S.2.1 dX5_skater_22 (by decide) (fun _ => ?_) (fun c9 => absurd (by decide) c9)
    refine lv_aload_n S.1 S.2.1 dX5_skater_27 rfl (lv_at hl 0 rfl) ?_
    refine lv_dup S.1 S.2.1 dX5_skater_28 rfl ?_
    refine mr_get S K N 1 (by decide) k3_147 (v := .int (M 0 1)) rfl dX5_skater_29 ?_
    refine lv_iconst (v := 1) S.1 S.2.1 dX5_skater_32 (by decide) ?_
    refine lv_iadd S.1 S.2.1 dX5_skater_33 ?_
    refine mr_put S K N hS 1 (by decide) (by unfold mscal; omega) k3_147 rfl rfl dX5_skater_34 (fun H locs N hS => ?_)
    refine lv_aload_n S.1 S.2.1 dX5_skater_37 rfl (lv_at hl 0 rfl) ?_
    refine mr_get S K N 1 (by decide) k3_147 (v := .int ((M 0 1) + 1)) rfl dX5_skater_38 ?_
    refine lv_iconst (v := 1) S.1 S.2.1 dX5_skater_41 (by decide) ?_
    refine lv_isub S.1 S.2.1 dX5_skater_42 ?_
    exact ne_wI S hS hr hlk ⟨congrArg (fun z => some (Value.int z)) (Eq.symm (by unfold f_X5_skater; first | (rw [if_neg c7_1]; done) | (simp only [if_neg c7_1]; done) | rfl)), (by unfold g_X5_skater; first | (rw [if_neg c7_1]; exact N) | (simp only [if_neg c7_1]; exact N) | exact N)⟩ dX5_skater_43
  · refine lv_iconst (v := 1) S.1 S.2.1 dX5_skater_10 (by decide) ?_
    refine lv_goto (tgt := 15) S.1 S.2.1 dX5_skater_11 (by decide) ?_
    refine mr_put S K N hS 0 (by decide) (by unfold mscal; omega) k3_146 rfl rfl dX5_skater_15 (fun H locs N hS => ?_)
    refine lv_aload_n S.1 S.2.1 dX5_skater_18 rfl (lv_at hl 0 rfl) ?_
    refine mr_get S K N 0 (by decide) k3_146 (v := .int 1) rfl dX5_skater_19 ?_
    refine lv_if_le (tgt := 27) S.1 S.2.1 dX5_skater_22 (by decide) (fun c9 => absurd c9 (by decide)) (fun _ => ?_)
    refine lv_iconst (v := 0) S.1 S.2.1 dX5_skater_25 (by decide) ?_
    exact ne_wI S hS hr hlk ⟨congrArg (fun z => some (Value.int z)) (Eq.symm (by unfold f_X5_skater; first | (rw [if_pos c7_1]; done) | (simp only [if_pos c7_1]; done) | rfl)), (by unfold g_X5_skater; first | (rw [if_pos c7_1]; exact N) | (simp only [if_pos c7_1]; exact N) | exact N)⟩ dX5_skater_26

def g_X5_stands (M : Nat → Nat → Int32) (p0 : Int32) (p1 : Int32) (p2 : Int32) : Nat → Nat → Int32 :=
  (up2 (up2 (up2 M 0 3 p0) 0 4 p1) 0 5 p2)
set_option maxHeartbeats 4000000 in
set_option maxRecDepth 100000 in
theorem m_X5_stands {D : va_G} {cA : Nat → ClassId} {B : Nat} (l : Launch) {dom : Nat → Prop} {ad : Nat → Nat} {X : Nat → va_E} {H0 : Heap} (M : Nat → Nat → Int32) (p0 : Int32) (p1 : Int32) (p2 : Int32) (N : mw D cA B dom ad X M H0) : MetW D cA B l yX5_stands cX5_stands 4 none 0 0 0 0 [.ref (ad 5), .int p0, .int p1, .int p2] H0 (fun o h => o = none ∧ mw D cA B dom ad X (g_X5_stands M p0 p1 p2) h) := by
  refine MetW.of (by decide) (Nat.le_of_ble_eq_true rfl) ?_
  intro p e s m args below meth c S hr hlk hin hh K ls hl
  subst hh
  have hS : va_S (fun q => B ≤ q) s.heap s.heap [] := va_S.rf
  have hl : lv_has ls 4 [(0, .ref (ad 5)), (1, .int p0), (2, .int p1), (3, .int p2)] := hl
  refine lv_aload_n S.1 S.2.1 dX5_stands_0 rfl (lv_at hl 0 rfl) ?_
  refine lv_iload_n S.1 S.2.1 dX5_stands_1 rfl (lv_at hl 1 rfl) ?_
  refine mr_put S K N hS 3 (by decide) (by unfold mscal; omega) k3_149 rfl rfl dX5_stands_2 (fun H locs N hS => ?_)
  refine lv_aload_n S.1 S.2.1 dX5_stands_5 rfl (lv_at hl 0 rfl) ?_
  refine lv_iload_n S.1 S.2.1 dX5_stands_6 rfl (lv_at hl 2 rfl) ?_
  refine mr_put S K N hS 4 (by decide) (by unfold mscal; omega) k3_150 rfl rfl dX5_stands_7 (fun H locs N hS => ?_)
  refine lv_aload_n S.1 S.2.1 dX5_stands_10 rfl (lv_at hl 0 rfl) ?_
  refine lv_iload_n S.1 S.2.1 dX5_stands_11 rfl (lv_at hl 3 rfl) ?_
  refine mr_put S K N hS 5 (by decide) (by unfold mscal; omega) k3_151 rfl rfl dX5_stands_12 (fun H locs N hS => ?_)
  exact ne_wV S hS hr hlk ⟨rfl, N⟩ dX5_stands_15

def f_X5_isSkater (M : Nat → Nat → Int32) (p0 : Int32) : Int32 :=
  (f_X5_in p0 0 ((M 0 1) - 1))
set_option maxHeartbeats 4000000 in
set_option maxRecDepth 100000 in
theorem m_X5_isSkater {D : va_G} {cA : Nat → ClassId} {B : Nat} (l : Launch) {dom : Nat → Prop} {ad : Nat → Nat} {X : Nat → va_E} {H0 : Heap} (M : Nat → Nat → Int32) (p0 : Int32) (N : mw D cA B dom ad X M H0) : MetR D cA B l yX5_isSkater cX5_isSkater 2 (some .boolean) 1 22 [.ref (ad 5), .int p0] H0 (some (.int (f_X5_isSkater M p0))) := by
  refine MetR.of (by decide) (Nat.le_of_ble_eq_true rfl) ?_
  intro p e s m args below meth c S hr hlk hh K ls hl
  subst hh
  have hS : va_S (fun q => B ≤ q) s.heap s.heap [] := va_S.rf
  have hl : lv_has ls 2 [(0, .ref (ad 5)), (1, .int p0)] := hl
  refine lv_iload_n S.1 S.2.1 dX5_isSkater_0 rfl (lv_at hl 1 rfl) ?_
  refine lv_iconst (v := 0) S.1 S.2.1 dX5_isSkater_1 (by decide) ?_
  refine lv_aload_n S.1 S.2.1 dX5_isSkater_2 rfl (lv_at hl 0 rfl) ?_
  refine mr_get S K N 1 (by decide) k3_147 (v := .int (M 0 1)) rfl dX5_isSkater_3 ?_
  refine lv_iconst (v := 1) S.1 S.2.1 dX5_isSkater_6 (by decide) ?_
  refine lv_isub S.1 S.2.1 dX5_isSkater_7 ?_
  refine nc_rS S K hS (As := [.int p0, .int 0, .int ((M 0 1) - 1)]) (m_X5_in l p0 0 ((M 0 1) - 1)) k3_232 k3_233 k1_3 k3_234 (num := 3) (by decide +kernel) rfl ⟨Nat.le_of_ble_eq_true rfl, Nat.le_of_ble_eq_true rfl⟩ hl.1 rfl (Nat.le_of_ble_eq_true rfl) dX5_isSkater_8 ⟨Nat.le_of_ble_eq_true rfl, Nat.le_of_ble_eq_true rfl⟩ ?_
  exact ee_rZ S hr hlk (zb_in _ _ _) (rfl) dX5_isSkater_11

def f_X5_isOpen (M : Nat → Nat → Int32) : Int32 :=
  if (M 0 2) = (-1) then 0
  else if 240 ≤ (M 7 (M 0 2).toNatClampNeg) then 0
  else 1
set_option maxHeartbeats 4000000 in
set_option maxRecDepth 100000 in
theorem m_X5_isOpen {D : va_G} {cA : Nat → ClassId} {B : Nat} (l : Launch) {dom : Nat → Prop} {ad : Nat → Nat} {X : Nat → va_E} {H0 : Heap} (M : Nat → Nat → Int32) (N : mw D cA B dom ad X M H0) (hg : ¬ M 0 2 = (-1) → vp_in (M 0 2) 12) : MetR D cA B l yX5_isOpen cX5_isOpen 1 (some .boolean) 0 0 [.ref (ad 5)] H0 (some (.int (f_X5_isOpen M))) := by
  refine MetR.of (by decide) (Nat.le_of_ble_eq_true rfl) ?_
  intro p e s m args below meth c S hr hlk hh K ls hl
  subst hh
  have hS : va_S (fun q => B ≤ q) s.heap s.heap [] := va_S.rf
  have hl : lv_has ls 1 [(0, .ref (ad 5))] := hl
  refine lv_aload_n S.1 S.2.1 dX5_isOpen_0 rfl (lv_at hl 0 rfl) ?_
  refine mr_get S K N 2 (by decide) k3_148 (v := .int (M 0 2)) rfl dX5_isOpen_1 ?_
  refine lv_iconst (v := (-1)) S.1 S.2.1 dX5_isOpen_4 (by decide) ?_
  refine lv_icmp_eq (tgt := 27) S.1 S.2.1 dX5_isOpen_5 (by decide) (fun c5_1 => ?_) (fun c5_1 => ?_)
  · refine lv_iconst (v := 0) S.1 S.2.1 dX5_isOpen_27 (by decide) ?_
    exact ee_rZ S hr hlk (zb_0) (by unfold f_X5_isOpen; first | (rw [if_pos c5_1]; done) | (simp only [if_pos c5_1]; done) | rfl) dX5_isOpen_28
  · refine lv_aload_n S.1 S.2.1 dX5_isOpen_8 rfl (lv_at hl 0 rfl) ?_
    refine mr_get S K N 7 (by decide) k3_153 (v := .ref (ad 17)) rfl dX5_isOpen_9 ?_
    refine lv_aload_n S.1 S.2.1 dX5_isOpen_12 rfl (lv_at hl 0 rfl) ?_
    refine mr_get S K N 2 (by decide) k3_148 (v := .int (M 0 2)) rfl dX5_isOpen_13 ?_
    refine mr_iald S K N 7 (by decide) (by decide) rfl (v := (M 7 (M 0 2).toNatClampNeg)) (hg c5_1) (rfl) dX5_isOpen_16 ?_
    refine lv_sipush (v := 240) S.1 S.2.1 dX5_isOpen_17 (by decide) ?_
    refine lv_icmp_ge (tgt := 27) S.1 S.2.1 dX5_isOpen_20 (by decide) (fun c20_2 => ?_) (fun c20_2 => ?_)
    · refine lv_iconst (v := 0) S.1 S.2.1 dX5_isOpen_27 (by decide) ?_
      exact ee_rZ S hr hlk (zb_0) (by unfold f_X5_isOpen; first | (rw [if_neg c5_1, if_pos c20_2]; done) | (simp only [if_neg c5_1, if_pos c20_2]; done) | rfl) dX5_isOpen_28
    · refine lv_iconst (v := 1) S.1 S.2.1 dX5_isOpen_23 (by decide) ?_
      refine lv_goto (tgt := 28) S.1 S.2.1 dX5_isOpen_24 (by decide) ?_
      exact ee_rZ S hr hlk (zb_1) (by unfold f_X5_isOpen; first | (rw [if_neg c5_1, if_neg c20_2]; done) | (simp only [if_neg c5_1, if_neg c20_2]; done) | rfl) dX5_isOpen_28

def f_X5_canTakeOff (M : Nat → Nat → Int32) (p0 : Int32) : Int32 :=
  if p0 = 0 then (if (M 0 3) = 1 then (if (M 0 4) = 1 then (if (M 0 5) = 1 then 1
        else 0)
      else 0)
    else 0)
  else if p0 = 2 then (if (M 0 3) = 1 then (if (M 0 4) = 1 then (if (M 0 5) = 1 then 1
        else 0)
      else 0)
    else 0)
  else if p0 = 3 then (if (M 0 3) = 1 then 0
    else if (M 0 5) = 1 then 1
    else 0)
  else if p0 = 4 then (if (M 0 3) = 1 then 0
    else if (M 0 5) = 1 then 1
    else 0)
  else if (M 0 3) = 1 then 0
  else if p0 = 5 then (if (M 0 4) = 1 then (if (M 0 5) = 1 then 0
      else 1)
    else 0)
  else if (M 0 4) = 1 then 0
  else if (M 0 5) = 1 then 1
  else 0
set_option maxHeartbeats 4000000 in
set_option maxRecDepth 100000 in
theorem m_X5_canTakeOff {D : va_G} {cA : Nat → ClassId} {B : Nat} (l : Launch) {dom : Nat → Prop} {ad : Nat → Nat} {X : Nat → va_E} {H0 : Heap} (M : Nat → Nat → Int32) (p0 : Int32) (N : mw D cA B dom ad X M H0) : MetR D cA B l yX5_canTakeOff cX5_canTakeOff 2 (some .boolean) 0 0 [.ref (ad 5), .int p0] H0 (some (.int (f_X5_canTakeOff M p0))) := by
  refine MetR.of (by decide) (Nat.le_of_ble_eq_true rfl) ?_
  intro p e s m args below meth c S hr hlk hh K ls hl
  subst hh
  have hS : va_S (fun q => B ≤ q) s.heap s.heap [] := va_S.rf
  have hl : lv_has ls 2 [(0, .ref (ad 5)), (1, .int p0)] := hl
  refine lv_iload_n S.1 S.2.1 dX5_canTakeOff_0 rfl (lv_at hl 1 rfl) ?_
  refine lv_if_eq (tgt := 9) S.1 S.2.1 dX5_canTakeOff_1 (by decide) (fun c1_1 => ?_) (fun c1_1 => ?_)
  · refine lv_aload_n S.1 S.2.1 dX5_canTakeOff_9 rfl (lv_at hl 0 rfl) ?_
    refine mr_get S K N 3 (by decide) k3_149 (v := .int (M 0 3)) rfl dX5_canTakeOff_10 ?_
    refine lv_iconst (v := 1) S.1 S.2.1 dX5_canTakeOff_13 (by decide) ?_
    refine lv_icmp_ne (tgt := 37) S.1 S.2.1 dX5_canTakeOff_14 (by decide) (fun c14_2 => ?_) (fun c14_2 => ?_)
    · refine lv_iconst (v := 0) S.1 S.2.1 dX5_canTakeOff_37 (by decide) ?_
      exact ee_rZ S hr hlk (zb_0) (by unfold f_X5_canTakeOff; first | (rw [if_pos c1_1, if_neg c14_2]; done) | (simp only [if_pos c1_1, if_neg c14_2]; done) | rfl) dX5_canTakeOff_38
    · refine lv_aload_n S.1 S.2.1 dX5_canTakeOff_17 rfl (lv_at hl 0 rfl) ?_
      refine mr_get S K N 4 (by decide) k3_150 (v := .int (M 0 4)) rfl dX5_canTakeOff_18 ?_
      refine lv_iconst (v := 1) S.1 S.2.1 dX5_canTakeOff_21 (by decide) ?_
      refine lv_icmp_ne (tgt := 37) S.1 S.2.1 dX5_canTakeOff_22 (by decide) (fun c22_3 => ?_) (fun c22_3 => ?_)
      · refine lv_iconst (v := 0) S.1 S.2.1 dX5_canTakeOff_37 (by decide) ?_
        exact ee_rZ S hr hlk (zb_0) (by unfold f_X5_canTakeOff; first | (rw [if_pos c1_1, if_pos c14_2, if_neg c22_3]; done) | (simp only [if_pos c1_1, if_pos c14_2, if_neg c22_3]; done) | rfl) dX5_canTakeOff_38
      · refine lv_aload_n S.1 S.2.1 dX5_canTakeOff_25 rfl (lv_at hl 0 rfl) ?_
        refine mr_get S K N 5 (by decide) k3_151 (v := .int (M 0 5)) rfl dX5_canTakeOff_26 ?_
        refine lv_iconst (v := 1) S.1 S.2.1 dX5_canTakeOff_29 (by decide) ?_
        refine lv_icmp_ne (tgt := 37) S.1 S.2.1 dX5_canTakeOff_30 (by decide) (fun c30_4 => ?_) (fun c30_4 => ?_)
        · refine lv_iconst (v := 0) S.1 S.2.1 dX5_canTakeOff_37 (by decide) ?_
          exact ee_rZ S hr hlk (zb_0) (by unfold f_X5_canTakeOff; first | (rw [if_pos c1_1, if_pos c14_2, if_pos c22_3, if_neg c30_4]; done) | (simp only [if_pos c1_1, if_pos c14_2, if_pos c22_3, if_neg c30_4]; done) | rfl) dX5_canTakeOff_38
        · refine lv_iconst (v := 1) S.1 S.2.1 dX5_canTakeOff_33 (by decide) ?_
          refine lv_goto (tgt := 38) S.1 S.2.1 dX5_canTakeOff_34 (by decide) ?_
          exact ee_rZ S hr hlk (zb_1) (by unfold f_X5_canTakeOff; first | (rw [if_pos c1_1, if_pos c14_2, if_pos c22_3, if_pos c30_4]; done) | (simp only [if_pos c1_1, if_pos c14_2, if_pos c22_3, if_pos c30_4]; done) | rfl) dX5_canTakeOff_38
  · refine lv_iload_n S.1 S.2.1 dX5_canTakeOff_4 rfl (lv_at hl 1 rfl) ?_
    refine lv_iconst (v := 2) S.1 S.2.1 dX5_canTakeOff_5 (by decide) ?_
    refine lv_icmp_ne (tgt := 39) S.1 S.2.1 dX5_canTakeOff_6 (by decide) (fun c6_5 => ?_) (fun c6_5 => ?_)
    · refine lv_iload_n S.1 S.2.1 dX5_canTakeOff_39 rfl (lv_at hl 1 rfl) ?_
      refine lv_iconst (v := 3) S.1 S.2.1 dX5_canTakeOff_40 (by decide) ?_
      refine lv_icmp_eq (tgt := 49) S.1 S.2.1 dX5_canTakeOff_41 (by decide) (fun c41_6 => ?_) (fun c41_6 => ?_)
      · refine lv_aload_n S.1 S.2.1 dX5_canTakeOff_49 rfl (lv_at hl 0 rfl) ?_
        refine mr_get S K N 3 (by decide) k3_149 (v := .int (M 0 3)) rfl dX5_canTakeOff_50 ?_
        refine lv_iconst (v := 1) S.1 S.2.1 dX5_canTakeOff_53 (by decide) ?_
        refine lv_icmp_eq (tgt := 69) S.1 S.2.1 dX5_canTakeOff_54 (by decide) (fun c54_7 => ?_) (fun c54_7 => ?_)
        · refine lv_iconst (v := 0) S.1 S.2.1 dX5_canTakeOff_69 (by decide) ?_
          exact ee_rZ S hr hlk (zb_0) (by unfold f_X5_canTakeOff; first | (rw [if_neg c1_1, if_neg c6_5, if_pos c41_6, if_pos c54_7]; done) | (simp only [if_neg c1_1, if_neg c6_5, if_pos c41_6, if_pos c54_7]; done) | rfl) dX5_canTakeOff_70
        · refine lv_aload_n S.1 S.2.1 dX5_canTakeOff_57 rfl (lv_at hl 0 rfl) ?_
          refine mr_get S K N 5 (by decide) k3_151 (v := .int (M 0 5)) rfl dX5_canTakeOff_58 ?_
          refine lv_iconst (v := 1) S.1 S.2.1 dX5_canTakeOff_61 (by decide) ?_
          refine lv_icmp_ne (tgt := 69) S.1 S.2.1 dX5_canTakeOff_62 (by decide) (fun c62_8 => ?_) (fun c62_8 => ?_)
          · refine lv_iconst (v := 0) S.1 S.2.1 dX5_canTakeOff_69 (by decide) ?_
            exact ee_rZ S hr hlk (zb_0) (by unfold f_X5_canTakeOff; first | (rw [if_neg c1_1, if_neg c6_5, if_pos c41_6, if_neg c54_7, if_neg c62_8]; done) | (simp only [if_neg c1_1, if_neg c6_5, if_pos c41_6, if_neg c54_7, if_neg c62_8]; done) | rfl) dX5_canTakeOff_70
          · refine lv_iconst (v := 1) S.1 S.2.1 dX5_canTakeOff_65 (by decide) ?_
            refine lv_goto (tgt := 70) S.1 S.2.1 dX5_canTakeOff_66 (by decide) ?_
            exact ee_rZ S hr hlk (zb_1) (by unfold f_X5_canTakeOff; first | (rw [if_neg c1_1, if_neg c6_5, if_pos c41_6, if_neg c54_7, if_pos c62_8]; done) | (simp only [if_neg c1_1, if_neg c6_5, if_pos c41_6, if_neg c54_7, if_pos c62_8]; done) | rfl) dX5_canTakeOff_70
      · refine lv_iload_n S.1 S.2.1 dX5_canTakeOff_44 rfl (lv_at hl 1 rfl) ?_
        refine lv_iconst (v := 4) S.1 S.2.1 dX5_canTakeOff_45 (by decide) ?_
        refine lv_icmp_ne (tgt := 71) S.1 S.2.1 dX5_canTakeOff_46 (by decide) (fun c46_9 => ?_) (fun c46_9 => ?_)
        · refine lv_aload_n S.1 S.2.1 dX5_canTakeOff_71 rfl (lv_at hl 0 rfl) ?_
          refine mr_get S K N 3 (by decide) k3_149 (v := .int (M 0 3)) rfl dX5_canTakeOff_72 ?_
          refine lv_iconst (v := 1) S.1 S.2.1 dX5_canTakeOff_75 (by decide) ?_
          refine lv_icmp_eq (tgt := 123) S.1 S.2.1 dX5_canTakeOff_76 (by decide) (fun c76_10 => ?_) (fun c76_10 => ?_)
          · refine lv_iconst (v := 0) S.1 S.2.1 dX5_canTakeOff_123 (by decide) ?_
            exact ee_rZ S hr hlk (zb_0) (by unfold f_X5_canTakeOff; first | (rw [if_neg c1_1, if_neg c6_5, if_neg c41_6, if_neg c46_9, if_pos c76_10]; done) | (simp only [if_neg c1_1, if_neg c6_5, if_neg c41_6, if_neg c46_9, if_pos c76_10]; done) | rfl) dX5_canTakeOff_124
          · refine lv_iload_n S.1 S.2.1 dX5_canTakeOff_79 rfl (lv_at hl 1 rfl) ?_
            refine lv_iconst (v := 5) S.1 S.2.1 dX5_canTakeOff_80 (by decide) ?_
            refine lv_icmp_ne (tgt := 103) S.1 S.2.1 dX5_canTakeOff_81 (by decide) (fun c81_11 => ?_) (fun c81_11 => ?_)
            · refine lv_aload_n S.1 S.2.1 dX5_canTakeOff_103 rfl (lv_at hl 0 rfl) ?_
              refine mr_get S K N 4 (by decide) k3_150 (v := .int (M 0 4)) rfl dX5_canTakeOff_104 ?_
              refine lv_iconst (v := 1) S.1 S.2.1 dX5_canTakeOff_107 (by decide) ?_
              refine lv_icmp_eq (tgt := 123) S.1 S.2.1 dX5_canTakeOff_108 (by decide) (fun c108_12 => ?_) (fun c108_12 => ?_)
              · refine lv_iconst (v := 0) S.1 S.2.1 dX5_canTakeOff_123 (by decide) ?_
                exact ee_rZ S hr hlk (zb_0) (by unfold f_X5_canTakeOff; first | (rw [if_neg c1_1, if_neg c6_5, if_neg c41_6, if_neg c46_9, if_neg c76_10, if_neg c81_11, if_pos c108_12]; done) | (simp only [if_neg c1_1, if_neg c6_5, if_neg c41_6, if_neg c46_9, if_neg c76_10, if_neg c81_11, if_pos c108_12]; done) | rfl) dX5_canTakeOff_124
              · refine lv_aload_n S.1 S.2.1 dX5_canTakeOff_111 rfl (lv_at hl 0 rfl) ?_
                refine mr_get S K N 5 (by decide) k3_151 (v := .int (M 0 5)) rfl dX5_canTakeOff_112 ?_
                refine lv_iconst (v := 1) S.1 S.2.1 dX5_canTakeOff_115 (by decide) ?_
                refine lv_icmp_ne (tgt := 123) S.1 S.2.1 dX5_canTakeOff_116 (by decide) (fun c116_13 => ?_) (fun c116_13 => ?_)
                · refine lv_iconst (v := 0) S.1 S.2.1 dX5_canTakeOff_123 (by decide) ?_
                  exact ee_rZ S hr hlk (zb_0) (by unfold f_X5_canTakeOff; first | (rw [if_neg c1_1, if_neg c6_5, if_neg c41_6, if_neg c46_9, if_neg c76_10, if_neg c81_11, if_neg c108_12, if_neg c116_13]; done) | (simp only [if_neg c1_1, if_neg c6_5, if_neg c41_6, if_neg c46_9, if_neg c76_10, if_neg c81_11, if_neg c108_12, if_neg c116_13]; done) | rfl) dX5_canTakeOff_124
                · refine lv_iconst (v := 1) S.1 S.2.1 dX5_canTakeOff_119 (by decide) ?_
                  refine lv_goto (tgt := 124) S.1 S.2.1 dX5_canTakeOff_120 (by decide) ?_
                  exact ee_rZ S hr hlk (zb_1) (by unfold f_X5_canTakeOff; first | (rw [if_neg c1_1, if_neg c6_5, if_neg c41_6, if_neg c46_9, if_neg c76_10, if_neg c81_11, if_neg c108_12, if_pos c116_13]; done) | (simp only [if_neg c1_1, if_neg c6_5, if_neg c41_6, if_neg c46_9, if_neg c76_10, if_neg c81_11, if_neg c108_12, if_pos c116_13]; done) | rfl) dX5_canTakeOff_124
            · refine lv_aload_n S.1 S.2.1 dX5_canTakeOff_84 rfl (lv_at hl 0 rfl) ?_
              refine mr_get S K N 4 (by decide) k3_150 (v := .int (M 0 4)) rfl dX5_canTakeOff_85 ?_
              refine lv_iconst (v := 1) S.1 S.2.1 dX5_canTakeOff_88 (by decide) ?_
              refine lv_icmp_ne (tgt := 123) S.1 S.2.1 dX5_canTakeOff_89 (by decide) (fun c89_14 => ?_) (fun c89_14 => ?_)
              · refine lv_iconst (v := 0) S.1 S.2.1 dX5_canTakeOff_123 (by decide) ?_
                exact ee_rZ S hr hlk (zb_0) (by unfold f_X5_canTakeOff; first | (rw [if_neg c1_1, if_neg c6_5, if_neg c41_6, if_neg c46_9, if_neg c76_10, if_pos c81_11, if_neg c89_14]; done) | (simp only [if_neg c1_1, if_neg c6_5, if_neg c41_6, if_neg c46_9, if_neg c76_10, if_pos c81_11, if_neg c89_14]; done) | rfl) dX5_canTakeOff_124
              · refine lv_aload_n S.1 S.2.1 dX5_canTakeOff_92 rfl (lv_at hl 0 rfl) ?_
                refine mr_get S K N 5 (by decide) k3_151 (v := .int (M 0 5)) rfl dX5_canTakeOff_93 ?_
                refine lv_iconst (v := 1) S.1 S.2.1 dX5_canTakeOff_96 (by decide) ?_
                refine lv_icmp_eq (tgt := 123) S.1 S.2.1 dX5_canTakeOff_97 (by decide) (fun c97_15 => ?_) (fun c97_15 => ?_)
                · refine lv_iconst (v := 0) S.1 S.2.1 dX5_canTakeOff_123 (by decide) ?_
                  exact ee_rZ S hr hlk (zb_0) (by unfold f_X5_canTakeOff; first | (rw [if_neg c1_1, if_neg c6_5, if_neg c41_6, if_neg c46_9, if_neg c76_10, if_pos c81_11, if_pos c89_14, if_pos c97_15]; done) | (simp only [if_neg c1_1, if_neg c6_5, if_neg c41_6, if_neg c46_9, if_neg c76_10, if_pos c81_11, if_pos c89_14, if_pos c97_15]; done) | rfl) dX5_canTakeOff_124
                · refine lv_goto (tgt := 119) S.1 S.2.1 dX5_canTakeOff_100 (by decide) ?_
                  refine lv_iconst (v := 1) S.1 S.2.1 dX5_canTakeOff_119 (by decide) ?_
                  refine lv_goto (tgt := 124) S.1 S.2.1 dX5_canTakeOff_120 (by decide) ?_
                  exact ee_rZ S hr hlk (zb_1) (by unfold f_X5_canTakeOff; first | (rw [if_neg c1_1, if_neg c6_5, if_neg c41_6, if_neg c46_9, if_neg c76_10, if_pos c81_11, if_pos c89_14, if_neg c97_15]; done) | (simp only [if_neg c1_1, if_neg c6_5, if_neg c41_6, if_neg c46_9, if_neg c76_10, if_pos c81_11, if_pos c89_14, if_neg c97_15]; done) | rfl) dX5_canTakeOff_124
        · refine lv_aload_n S.1 S.2.1 dX5_canTakeOff_49 rfl (lv_at hl 0 rfl) ?_
          refine mr_get S K N 3 (by decide) k3_149 (v := .int (M 0 3)) rfl dX5_canTakeOff_50 ?_
          refine lv_iconst (v := 1) S.1 S.2.1 dX5_canTakeOff_53 (by decide) ?_
          refine lv_icmp_eq (tgt := 69) S.1 S.2.1 dX5_canTakeOff_54 (by decide) (fun c54_16 => ?_) (fun c54_16 => ?_)
          · refine lv_iconst (v := 0) S.1 S.2.1 dX5_canTakeOff_69 (by decide) ?_
            exact ee_rZ S hr hlk (zb_0) (by unfold f_X5_canTakeOff; first | (rw [if_neg c1_1, if_neg c6_5, if_neg c41_6, if_pos c46_9, if_pos c54_16]; done) | (simp only [if_neg c1_1, if_neg c6_5, if_neg c41_6, if_pos c46_9, if_pos c54_16]; done) | rfl) dX5_canTakeOff_70
          · refine lv_aload_n S.1 S.2.1 dX5_canTakeOff_57 rfl (lv_at hl 0 rfl) ?_
            refine mr_get S K N 5 (by decide) k3_151 (v := .int (M 0 5)) rfl dX5_canTakeOff_58 ?_
            refine lv_iconst (v := 1) S.1 S.2.1 dX5_canTakeOff_61 (by decide) ?_
            refine lv_icmp_ne (tgt := 69) S.1 S.2.1 dX5_canTakeOff_62 (by decide) (fun c62_17 => ?_) (fun c62_17 => ?_)
            · refine lv_iconst (v := 0) S.1 S.2.1 dX5_canTakeOff_69 (by decide) ?_
              exact ee_rZ S hr hlk (zb_0) (by unfold f_X5_canTakeOff; first | (rw [if_neg c1_1, if_neg c6_5, if_neg c41_6, if_pos c46_9, if_neg c54_16, if_neg c62_17]; done) | (simp only [if_neg c1_1, if_neg c6_5, if_neg c41_6, if_pos c46_9, if_neg c54_16, if_neg c62_17]; done) | rfl) dX5_canTakeOff_70
            · refine lv_iconst (v := 1) S.1 S.2.1 dX5_canTakeOff_65 (by decide) ?_
              refine lv_goto (tgt := 70) S.1 S.2.1 dX5_canTakeOff_66 (by decide) ?_
              exact ee_rZ S hr hlk (zb_1) (by unfold f_X5_canTakeOff; first | (rw [if_neg c1_1, if_neg c6_5, if_neg c41_6, if_pos c46_9, if_neg c54_16, if_pos c62_17]; done) | (simp only [if_neg c1_1, if_neg c6_5, if_neg c41_6, if_pos c46_9, if_neg c54_16, if_pos c62_17]; done) | rfl) dX5_canTakeOff_70
    · refine lv_aload_n S.1 S.2.1 dX5_canTakeOff_9 rfl (lv_at hl 0 rfl) ?_
      refine mr_get S K N 3 (by decide) k3_149 (v := .int (M 0 3)) rfl dX5_canTakeOff_10 ?_
      refine lv_iconst (v := 1) S.1 S.2.1 dX5_canTakeOff_13 (by decide) ?_
      refine lv_icmp_ne (tgt := 37) S.1 S.2.1 dX5_canTakeOff_14 (by decide) (fun c14_18 => ?_) (fun c14_18 => ?_)
      · refine lv_iconst (v := 0) S.1 S.2.1 dX5_canTakeOff_37 (by decide) ?_
        exact ee_rZ S hr hlk (zb_0) (by unfold f_X5_canTakeOff; first | (rw [if_neg c1_1, if_pos c6_5, if_neg c14_18]; done) | (simp only [if_neg c1_1, if_pos c6_5, if_neg c14_18]; done) | rfl) dX5_canTakeOff_38
      · refine lv_aload_n S.1 S.2.1 dX5_canTakeOff_17 rfl (lv_at hl 0 rfl) ?_
        refine mr_get S K N 4 (by decide) k3_150 (v := .int (M 0 4)) rfl dX5_canTakeOff_18 ?_
        refine lv_iconst (v := 1) S.1 S.2.1 dX5_canTakeOff_21 (by decide) ?_
        refine lv_icmp_ne (tgt := 37) S.1 S.2.1 dX5_canTakeOff_22 (by decide) (fun c22_19 => ?_) (fun c22_19 => ?_)
        · refine lv_iconst (v := 0) S.1 S.2.1 dX5_canTakeOff_37 (by decide) ?_
          exact ee_rZ S hr hlk (zb_0) (by unfold f_X5_canTakeOff; first | (rw [if_neg c1_1, if_pos c6_5, if_pos c14_18, if_neg c22_19]; done) | (simp only [if_neg c1_1, if_pos c6_5, if_pos c14_18, if_neg c22_19]; done) | rfl) dX5_canTakeOff_38
        · refine lv_aload_n S.1 S.2.1 dX5_canTakeOff_25 rfl (lv_at hl 0 rfl) ?_
          refine mr_get S K N 5 (by decide) k3_151 (v := .int (M 0 5)) rfl dX5_canTakeOff_26 ?_
          refine lv_iconst (v := 1) S.1 S.2.1 dX5_canTakeOff_29 (by decide) ?_
          refine lv_icmp_ne (tgt := 37) S.1 S.2.1 dX5_canTakeOff_30 (by decide) (fun c30_20 => ?_) (fun c30_20 => ?_)
          · refine lv_iconst (v := 0) S.1 S.2.1 dX5_canTakeOff_37 (by decide) ?_
            exact ee_rZ S hr hlk (zb_0) (by unfold f_X5_canTakeOff; first | (rw [if_neg c1_1, if_pos c6_5, if_pos c14_18, if_pos c22_19, if_neg c30_20]; done) | (simp only [if_neg c1_1, if_pos c6_5, if_pos c14_18, if_pos c22_19, if_neg c30_20]; done) | rfl) dX5_canTakeOff_38
          · refine lv_iconst (v := 1) S.1 S.2.1 dX5_canTakeOff_33 (by decide) ?_
            refine lv_goto (tgt := 38) S.1 S.2.1 dX5_canTakeOff_34 (by decide) ?_
            exact ee_rZ S hr hlk (zb_1) (by unfold f_X5_canTakeOff; first | (rw [if_neg c1_1, if_pos c6_5, if_pos c14_18, if_pos c22_19, if_pos c30_20]; done) | (simp only [if_neg c1_1, if_pos c6_5, if_pos c14_18, if_pos c22_19, if_pos c30_20]; done) | rfl) dX5_canTakeOff_38

def g_X5_begin (M : Nat → Nat → Int32) (p0 : Int32) : Nat → Nat → Int32 :=
  if (f_X5_isSkater M p0) = 0 then (up2 M 0 0 1)
  else if 0 < (M 6 p0.toNatClampNeg) then (up2 M 0 0 2)
  else if (M 0 2) = (-1) then (up2 (up2 (up2 (up2 (up2 (up2 M 0 0 0) 6 p0.toNatClampNeg 1) 0 2 p0) 0 3 0) 0 4 1) 0 5 0)
  else (up2 M 0 0 2)
set_option maxHeartbeats 4000000 in
set_option maxRecDepth 100000 in
theorem m_X5_begin {D : va_G} {cA : Nat → ClassId} {B : Nat} (l : Launch) {dom : Nat → Prop} {ad : Nat → Nat} {X : Nat → va_E} {H0 : Heap} (M : Nat → Nat → Int32) (p0 : Int32) (N : mw D cA B dom ad X M H0) (hsk : ∀ x, ¬ f_X5_isSkater M x = 0 → vp_in x 12) : MetW D cA B l yX5_begin cX5_begin 2 none 2 43 0 0 [.ref (ad 5), .int p0] H0 (fun o h => o = none ∧ mw D cA B dom ad X (g_X5_begin M p0) h) := by
  refine MetW.of (by decide) (Nat.le_of_ble_eq_true rfl) ?_
  intro p e s m args below meth c S hr hlk hin hh K ls hl
  subst hh
  have hS : va_S (fun q => B ≤ q) s.heap s.heap [] := va_S.rf
  have hl : lv_has ls 2 [(0, .ref (ad 5)), (1, .int p0)] := hl
  refine lv_aload_n S.1 S.2.1 dX5_begin_0 rfl (lv_at hl 0 rfl) ?_
  refine lv_aload_n S.1 S.2.1 dX5_begin_1 rfl (lv_at hl 0 rfl) ?_
  refine lv_iload_n S.1 S.2.1 dX5_begin_2 rfl (lv_at hl 1 rfl) ?_
  refine mc_rV S K N hS rfl (As := [.int p0]) (m_X5_isSkater l M p0 N) k3_228 k3_230 kS_19 k1_3 k3_231 (num := 1) (by decide +kernel) rfl ⟨Nat.le_of_ble_eq_true rfl, Nat.le_of_ble_eq_true rfl⟩ hl.1 rfl (Nat.le_of_ble_eq_true rfl) dX5_begin_3 ⟨Nat.le_of_ble_eq_true rfl, Nat.le_of_ble_eq_true rfl⟩ ?_
  refine lv_if_ne (tgt := 13) S.1 S.2.1 dX5_begin_6 (by decide) (fun c6_1 => ?_) (fun c6_1 => ?_)
  · refine lv_aload_n S.1 S.2.1 dX5_begin_13 rfl (lv_at hl 0 rfl) ?_
    refine mr_get S K N 6 (by decide) k3_152 (v := .ref (ad 16)) rfl dX5_begin_14 ?_
    refine lv_iload_n S.1 S.2.1 dX5_begin_17 rfl (lv_at hl 1 rfl) ?_
    refine mr_iald S K N 6 (by decide) (by decide) rfl (v := (M 6 p0.toNatClampNeg)) (hsk _ c6_1) (rfl) dX5_begin_18 ?_
    refine lv_if_gt (tgt := 30) S.1 S.2.1 dX5_begin_19 (by decide) (fun c19_2 => ?_) (fun c19_2 => ?_)
    · refine lv_iconst (v := 2) S.1 S.2.1 dX5_begin_30 (by decide) ?_
      refine lv_goto (tgt := 35) S.1 S.2.1 dX5_begin_31 (by decide) ?_
      refine mr_put S K N hS 0 (by decide) (by unfold mscal; omega) k3_146 rfl rfl dX5_begin_35 (fun H locs N hS => ?_)
      refine lv_aload_n S.1 S.2.1 dX5_begin_38 rfl (lv_at hl 0 rfl) ?_
      refine mr_get S K N 0 (by decide) k3_146 (v := .int 2) rfl dX5_begin_39 ?_
      refine lv_if_ne (tgt := 64) S.1 S.2.1 dX5_begin_42 (by decide) (fun _ => ?_) (fun c9 => absurd c9 (by decide))
      exact ne_wV S hS hr hlk ⟨rfl, (by unfold g_X5_begin; first | (rw [if_neg c6_1, if_pos c19_2]; exact N) | (simp only [if_neg c6_1, if_pos c19_2]; exact N) | exact N)⟩ dX5_begin_64
    · refine lv_aload_n S.1 S.2.1 dX5_begin_22 rfl (lv_at hl 0 rfl) ?_
      refine mr_get S K N 2 (by decide) k3_148 (v := .int (M 0 2)) rfl dX5_begin_23 ?_
      refine lv_iconst (v := (-1)) S.1 S.2.1 dX5_begin_26 (by decide) ?_
      refine lv_icmp_eq (tgt := 34) S.1 S.2.1 dX5_begin_27 (by decide) (fun c27_3 => ?_) (fun c27_3 => ?_)
      · refine lv_iconst (v := 0) S.1 S.2.1 dX5_begin_34 (by decide) ?_
        refine mr_put S K N hS 0 (by decide) (by unfold mscal; omega) k3_146 rfl rfl dX5_begin_35 (fun H locs N hS => ?_)
        refine lv_aload_n S.1 S.2.1 dX5_begin_38 rfl (lv_at hl 0 rfl) ?_
        refine mr_get S K N 0 (by decide) k3_146 (v := .int 0) rfl dX5_begin_39 ?_
        refine lv_if_ne (tgt := 64) S.1 S.2.1 dX5_begin_42 (by decide) (fun c9 => absurd (by decide) c9) (fun _ => ?_)
        refine lv_aload_n S.1 S.2.1 dX5_begin_45 rfl (lv_at hl 0 rfl) ?_
        refine mr_get S K N 6 (by decide) k3_152 (v := .ref (ad 16)) rfl dX5_begin_46 ?_
        refine lv_iload_n S.1 S.2.1 dX5_begin_49 rfl (lv_at hl 1 rfl) ?_
        refine lv_iconst (v := 1) S.1 S.2.1 dX5_begin_50 (by decide) ?_
        refine mr_iast S K N hS 6 (by decide) (by decide) rfl (hsk _ c6_1) p0.toNatClampNeg (rfl) dX5_begin_51 (fun H locs N hS => ?_)
        refine lv_aload_n S.1 S.2.1 dX5_begin_52 rfl (lv_at hl 0 rfl) ?_
        refine lv_iload_n S.1 S.2.1 dX5_begin_53 rfl (lv_at hl 1 rfl) ?_
        refine mr_put S K N hS 2 (by decide) (by unfold mscal; omega) k3_148 rfl rfl dX5_begin_54 (fun H locs N hS => ?_)
        refine lv_aload_n S.1 S.2.1 dX5_begin_57 rfl (lv_at hl 0 rfl) ?_
        refine lv_iconst (v := 0) S.1 S.2.1 dX5_begin_58 (by decide) ?_
        refine lv_iconst (v := 1) S.1 S.2.1 dX5_begin_59 (by decide) ?_
        refine lv_iconst (v := 0) S.1 S.2.1 dX5_begin_60 (by decide) ?_
        refine mc_wV S K N hS rfl (As := [.int 0, .int 1, .int 0]) (m_X5_stands l (up2 (up2 (up2 M 0 0 0) 6 p0.toNatClampNeg 1) 0 2 p0) 0 1 0 N) k3_235 k3_237 kS_20 k1_3 k3_238 (num := 3) (by decide +kernel) rfl ⟨Nat.le_of_ble_eq_true rfl, Nat.le_of_ble_eq_true rfl⟩ hl.1 rfl (Nat.le_of_ble_eq_true rfl) dX5_begin_61 ⟨Nat.le_of_ble_eq_true rfl, Nat.le_of_ble_eq_true rfl⟩ (fun v9 H locs hP hS => ?_)
        obtain ⟨rfl, N⟩ := hP
        have N : mw D cA B dom ad X (up2 (up2 (up2 (up2 (up2 (up2 M 0 0 0) 6 p0.toNatClampNeg 1) 0 2 p0) 0 3 0) 0 4 1) 0 5 0) H := N
        refine W.eq (g2 := F0 m 64 ls []) rfl ?_
        exact ne_wV S hS hr hlk ⟨rfl, (by unfold g_X5_begin; first | (rw [if_neg c6_1, if_neg c19_2, if_pos c27_3]; exact N) | (simp only [if_neg c6_1, if_neg c19_2, if_pos c27_3]; exact N) | exact N)⟩ dX5_begin_64
      · refine lv_iconst (v := 2) S.1 S.2.1 dX5_begin_30 (by decide) ?_
        refine lv_goto (tgt := 35) S.1 S.2.1 dX5_begin_31 (by decide) ?_
        refine mr_put S K N hS 0 (by decide) (by unfold mscal; omega) k3_146 rfl rfl dX5_begin_35 (fun H locs N hS => ?_)
        refine lv_aload_n S.1 S.2.1 dX5_begin_38 rfl (lv_at hl 0 rfl) ?_
        refine mr_get S K N 0 (by decide) k3_146 (v := .int 2) rfl dX5_begin_39 ?_
        refine lv_if_ne (tgt := 64) S.1 S.2.1 dX5_begin_42 (by decide) (fun _ => ?_) (fun c9 => absurd c9 (by decide))
        exact ne_wV S hS hr hlk ⟨rfl, (by unfold g_X5_begin; first | (rw [if_neg c6_1, if_neg c19_2, if_neg c27_3]; exact N) | (simp only [if_neg c6_1, if_neg c19_2, if_neg c27_3]; exact N) | exact N)⟩ dX5_begin_64
  · refine lv_iconst (v := 1) S.1 S.2.1 dX5_begin_9 (by decide) ?_
    refine lv_goto (tgt := 35) S.1 S.2.1 dX5_begin_10 (by decide) ?_
    refine mr_put S K N hS 0 (by decide) (by unfold mscal; omega) k3_146 rfl rfl dX5_begin_35 (fun H locs N hS => ?_)
    refine lv_aload_n S.1 S.2.1 dX5_begin_38 rfl (lv_at hl 0 rfl) ?_
    refine mr_get S K N 0 (by decide) k3_146 (v := .int 1) rfl dX5_begin_39 ?_
    refine lv_if_ne (tgt := 64) S.1 S.2.1 dX5_begin_42 (by decide) (fun _ => ?_) (fun c9 => absurd c9 (by decide))
    exact ne_wV S hS hr hlk ⟨rfl, (by unfold g_X5_begin; first | (rw [if_pos c6_1]; exact N) | (simp only [if_pos c6_1]; exact N) | exact N)⟩ dX5_begin_64

def f_X5_isElement (M : Nat → Nat → Int32) (p0 : Int32) (p1 : Int32) : Int32 :=
  if (f_X5_isSkater M p0) = 0 then 0
  else if (f_X5_in p1 0 ((M 8 p0.toNatClampNeg) - 1)) = 0 then 0
  else 1
set_option maxHeartbeats 4000000 in
set_option maxRecDepth 100000 in
theorem m_X5_isElement {D : va_G} {cA : Nat → ClassId} {B : Nat} (l : Launch) {dom : Nat → Prop} {ad : Nat → Nat} {X : Nat → va_E} {H0 : Heap} (M : Nat → Nat → Int32) (p0 : Int32) (p1 : Int32) (N : mw D cA B dom ad X M H0) (hsk : ∀ x, ¬ f_X5_isSkater M x = 0 → vp_in x 12) : MetR D cA B l yX5_isElement cX5_isElement 3 (some .boolean) 2 43 [.ref (ad 5), .int p0, .int p1] H0 (some (.int (f_X5_isElement M p0 p1))) := by
  refine MetR.of (by decide) (Nat.le_of_ble_eq_true rfl) ?_
  intro p e s m args below meth c S hr hlk hh K ls hl
  subst hh
  have hS : va_S (fun q => B ≤ q) s.heap s.heap [] := va_S.rf
  have hl : lv_has ls 3 [(0, .ref (ad 5)), (1, .int p0), (2, .int p1)] := hl
  refine lv_aload_n S.1 S.2.1 dX5_isElement_0 rfl (lv_at hl 0 rfl) ?_
  refine lv_iload_n S.1 S.2.1 dX5_isElement_1 rfl (lv_at hl 1 rfl) ?_
  refine mc_rV S K N hS rfl (As := [.int p0]) (m_X5_isSkater l M p0 N) k3_228 k3_230 kS_19 k1_3 k3_231 (num := 1) (by decide +kernel) rfl ⟨Nat.le_of_ble_eq_true rfl, Nat.le_of_ble_eq_true rfl⟩ hl.1 rfl (Nat.le_of_ble_eq_true rfl) dX5_isElement_2 ⟨Nat.le_of_ble_eq_true rfl, Nat.le_of_ble_eq_true rfl⟩ ?_
  refine lv_if_eq (tgt := 28) S.1 S.2.1 dX5_isElement_5 (by decide) (fun c5_1 => ?_) (fun c5_1 => ?_)
  · refine lv_iconst (v := 0) S.1 S.2.1 dX5_isElement_28 (by decide) ?_
    exact ee_rZ S hr hlk (zb_0) (by unfold f_X5_isElement; first | (rw [if_pos c5_1]; done) | (simp only [if_pos c5_1]; done) | rfl) dX5_isElement_29
  · refine lv_iload_n S.1 S.2.1 dX5_isElement_8 rfl (lv_at hl 2 rfl) ?_
    refine lv_iconst (v := 0) S.1 S.2.1 dX5_isElement_9 (by decide) ?_
    refine lv_aload_n S.1 S.2.1 dX5_isElement_10 rfl (lv_at hl 0 rfl) ?_
    refine mr_get S K N 8 (by decide) k3_154 (v := .ref (ad 18)) rfl dX5_isElement_11 ?_
    refine lv_iload_n S.1 S.2.1 dX5_isElement_14 rfl (lv_at hl 1 rfl) ?_
    refine mr_iald S K N 8 (by decide) (by decide) rfl (v := (M 8 p0.toNatClampNeg)) (hsk _ c5_1) (rfl) dX5_isElement_15 ?_
    refine lv_iconst (v := 1) S.1 S.2.1 dX5_isElement_16 (by decide) ?_
    refine lv_isub S.1 S.2.1 dX5_isElement_17 ?_
    refine nc_rS S K hS (As := [.int p1, .int 0, .int ((M 8 p0.toNatClampNeg) - 1)]) (m_X5_in l p1 0 ((M 8 p0.toNatClampNeg) - 1)) k3_232 k3_233 k1_3 k3_234 (num := 3) (by decide +kernel) rfl ⟨Nat.le_of_ble_eq_true rfl, Nat.le_of_ble_eq_true rfl⟩ hl.1 rfl (Nat.le_of_ble_eq_true rfl) dX5_isElement_18 ⟨Nat.le_of_ble_eq_true rfl, Nat.le_of_ble_eq_true rfl⟩ ?_
    refine lv_if_eq (tgt := 28) S.1 S.2.1 dX5_isElement_21 (by decide) (fun c21_2 => ?_) (fun c21_2 => ?_)
    · refine lv_iconst (v := 0) S.1 S.2.1 dX5_isElement_28 (by decide) ?_
      exact ee_rZ S hr hlk (zb_0) (by unfold f_X5_isElement; first | (rw [if_neg c5_1, if_pos c21_2]; done) | (simp only [if_neg c5_1, if_pos c21_2]; done) | rfl) dX5_isElement_29
    · refine lv_iconst (v := 1) S.1 S.2.1 dX5_isElement_24 (by decide) ?_
      refine lv_goto (tgt := 29) S.1 S.2.1 dX5_isElement_25 (by decide) ?_
      exact ee_rZ S hr hlk (zb_1) (by unfold f_X5_isElement; first | (rw [if_neg c5_1, if_neg c21_2]; done) | (simp only [if_neg c5_1, if_neg c21_2]; done) | rfl) dX5_isElement_29

def f_X5_turn (M : Nat → Nat → Int32) (p0 : Int32) (g : Nat) : Int32 :=
  if (f_X5_in p0 0 5) = 0 then 0
  else if (f_X5_isOpen M) = 0 then 0
  else (((4 * ((if ((if p0 = 2 then 1 else ((if p0 = 3 then 1 else ((if p0 = 5 then 1 else 0) : Int32)) : Int32)) : Int32) = 0 then (M 0 3) else (1 - (M 0 3))) : Int32)) + (2 * ((if ((if p0 = 0 then 1 else ((if p0 = 3 then 1 else ((if p0 = 4 then 1 else 0) : Int32)) : Int32)) : Int32) = 0 then (M 0 4) else (1 - (M 0 4))) : Int32))) + ((if ((if 4 ≤ p0 then 0 else 1) : Int32) = 0 then (M 0 5) else (1 - (M 0 5))) : Int32))
def g_X5_turn (M : Nat → Nat → Int32) (p0 : Int32) (g : Nat) : Nat → Nat → Int32 :=
  if (f_X5_in p0 0 5) = 0 then (up2 M 0 0 1)
  else if (f_X5_isOpen M) = 0 then (up2 M 0 0 2)
  else (up2 (up2 (up2 (up2 (up2 M 0 0 0) 0 3 ((if ((if p0 = 2 then 1 else ((if p0 = 3 then 1 else ((if p0 = 5 then 1 else 0) : Int32)) : Int32)) : Int32) = 0 then (M 0 3) else (1 - (M 0 3))) : Int32)) 0 4 ((if ((if p0 = 0 then 1 else ((if p0 = 3 then 1 else ((if p0 = 4 then 1 else 0) : Int32)) : Int32)) : Int32) = 0 then (M 0 4) else (1 - (M 0 4))) : Int32)) 0 5 ((if ((if 4 ≤ p0 then 0 else 1) : Int32) = 0 then (M 0 5) else (1 - (M 0 5))) : Int32)) 7 g ((M 7 g) + 2))
set_option maxHeartbeats 4000000 in
set_option maxRecDepth 100000 in
theorem m_X5_turn {D : va_G} {cA : Nat → ClassId} {B : Nat} (l : Launch) {dom : Nat → Prop} {ad : Nat → Nat} {X : Nat → va_E} {H0 : Heap} (M : Nat → Nat → Int32) (p0 : Int32) (g : Nat) (N : mw D cA B dom ad X M H0) (hg : ¬ M 0 2 = (-1) → vp_in (M 0 2) 12) (hop : ¬ f_X5_isOpen M = 0 → M 0 2 = nI g ∧ g < 12) : MetW D cA B l yX5_turn cX5_turn 5 (some .int) 1 23 0 0 [.ref (ad 5), .int p0] H0 (fun o h => o = some (.int (f_X5_turn M p0 g)) ∧ mw D cA B dom ad X (g_X5_turn M p0 g) h) := by
  refine MetW.of (by decide) (Nat.le_of_ble_eq_true rfl) ?_
  intro p e s m args below meth c S hr hlk hin hh K ls hl
  subst hh
  have hS : va_S (fun q => B ≤ q) s.heap s.heap [] := va_S.rf
  have hl : lv_has ls 5 [(0, .ref (ad 5)), (1, .int p0)] := hl
  refine lv_aload_n S.1 S.2.1 dX5_turn_0 rfl (lv_at hl 0 rfl) ?_
  refine lv_iload_n S.1 S.2.1 dX5_turn_1 rfl (lv_at hl 1 rfl) ?_
  refine lv_iconst (v := 0) S.1 S.2.1 dX5_turn_2 (by decide) ?_
  refine lv_iconst (v := 5) S.1 S.2.1 dX5_turn_3 (by decide) ?_
  refine nc_rS S K hS (As := [.int p0, .int 0, .int 5]) (m_X5_in l p0 0 5) k3_232 k3_233 k1_3 k3_234 (num := 3) (by decide +kernel) rfl ⟨Nat.le_of_ble_eq_true rfl, Nat.le_of_ble_eq_true rfl⟩ hl.1 rfl (Nat.le_of_ble_eq_true rfl) dX5_turn_4 ⟨Nat.le_of_ble_eq_true rfl, Nat.le_of_ble_eq_true rfl⟩ ?_
  refine lv_if_ne (tgt := 14) S.1 S.2.1 dX5_turn_7 (by decide) (fun c7_1 => ?_) (fun c7_1 => ?_)
  · refine lv_aload_n S.1 S.2.1 dX5_turn_14 rfl (lv_at hl 0 rfl) ?_
    refine mc_rV S K N hS rfl (As := []) (m_X5_isOpen l M N hg) k4_3 k4_5 kS_21 k1_3 k4_6 (num := 0) (by decide +kernel) rfl ⟨Nat.le_of_ble_eq_true rfl, Nat.le_of_ble_eq_true rfl⟩ hl.1 rfl (Nat.le_of_ble_eq_true rfl) dX5_turn_15 ⟨Nat.le_of_ble_eq_true rfl, Nat.le_of_ble_eq_true rfl⟩ ?_
    refine lv_if_eq (tgt := 25) S.1 S.2.1 dX5_turn_18 (by decide) (fun c18_2 => ?_) (fun c18_2 => ?_)
    · refine lv_iconst (v := 2) S.1 S.2.1 dX5_turn_25 (by decide) ?_
      refine mr_put S K N hS 0 (by decide) (by unfold mscal; omega) k3_146 rfl rfl dX5_turn_26 (fun H locs N hS => ?_)
      refine lv_aload_n S.1 S.2.1 dX5_turn_29 rfl (lv_at hl 0 rfl) ?_
      refine mr_get S K N 0 (by decide) k3_146 (v := .int 2) rfl dX5_turn_30 ?_
      refine lv_if_le (tgt := 38) S.1 S.2.1 dX5_turn_33 (by decide) (fun c9 => absurd c9 (by decide)) (fun _ => ?_)
      refine lv_iconst (v := 0) S.1 S.2.1 dX5_turn_36 (by decide) ?_
      exact ne_wI S hS hr hlk ⟨congrArg (fun z => some (Value.int z)) (Eq.symm (by unfold f_X5_turn; first | (rw [if_neg c7_1, if_pos c18_2]; done) | (simp only [if_neg c7_1, if_pos c18_2]; done) | rfl)), (by unfold g_X5_turn; first | (rw [if_neg c7_1, if_pos c18_2]; exact N) | (simp only [if_neg c7_1, if_pos c18_2]; exact N) | exact N)⟩ dX5_turn_37
    · obtain ⟨hg1, hg2⟩ := hop c18_2
      refine lv_iconst (v := 0) S.1 S.2.1 dX5_turn_21 (by decide) ?_
      refine lv_goto (tgt := 26) S.1 S.2.1 dX5_turn_22 (by decide) ?_
      refine mr_put S K N hS 0 (by decide) (by unfold mscal; omega) k3_146 rfl rfl dX5_turn_26 (fun H locs N hS => ?_)
      refine lv_aload_n S.1 S.2.1 dX5_turn_29 rfl (lv_at hl 0 rfl) ?_
      refine mr_get S K N 0 (by decide) k3_146 (v := .int 0) rfl dX5_turn_30 ?_
      refine lv_if_le (tgt := 38) S.1 S.2.1 dX5_turn_33 (by decide) (fun _ => ?_) (fun c9 => absurd (by decide) c9)
      refine lv_iload_n S.1 S.2.1 dX5_turn_38 rfl (lv_at hl 1 rfl) ?_
      refine lv_iconst (v := 2) S.1 S.2.1 dX5_turn_39 (by decide) ?_
      refine nj (J := 58) (V := ((if p0 = 2 then 1 else ((if p0 = 3 then 1 else ((if p0 = 5 then 1 else 0) : Int32)) : Int32)) : Int32)) (L := fun v40_3 => [(0, .ref (ad 5)), (1, .int p0)]) (St := fun v40_3 => [.int v40_3]) (n := 5) (fun v40_3 ls h40_5 hl => ?_) (fun j40_4 => ?_)
      · try dsimp only at hl ⊢
        subst h40_5
        refine lv_istore_n (lv' := [(2, .int ((if p0 = 2 then 1 else ((if p0 = 3 then 1 else ((if p0 = 5 then 1 else 0) : Int32)) : Int32)) : Int32)), (0, .ref (ad 5)), (1, .int p0)]) S.1 S.2.1 dX5_turn_58 rfl hl (by decide) rfl (fun ls hl => ?_)
        refine lv_iload_n S.1 S.2.1 dX5_turn_59 rfl (lv_at hl 2 rfl) ?_
        refine nj (J := 78) (V := ((if p0 = 0 then 1 else ((if p0 = 3 then 1 else ((if p0 = 4 then 1 else 0) : Int32)) : Int32)) : Int32)) (L := fun v60_6 => [(2, .int ((if p0 = 2 then 1 else ((if p0 = 3 then 1 else ((if p0 = 5 then 1 else 0) : Int32)) : Int32)) : Int32)), (0, .ref (ad 5)), (1, .int p0)]) (St := fun v60_6 => [.int v60_6]) (n := 5) (fun v60_6 ls h60_8 hl => ?_) (fun j60_7 => ?_)
        · try dsimp only at hl ⊢
          subst h60_8
          refine lv_istore_n (lv' := [(3, .int ((if p0 = 0 then 1 else ((if p0 = 3 then 1 else ((if p0 = 4 then 1 else 0) : Int32)) : Int32)) : Int32)), (2, .int ((if p0 = 2 then 1 else ((if p0 = 3 then 1 else ((if p0 = 5 then 1 else 0) : Int32)) : Int32)) : Int32)), (0, .ref (ad 5)), (1, .int p0)]) S.1 S.2.1 dX5_turn_78 rfl hl (by decide) rfl (fun ls hl => ?_)
          refine lv_iload_n S.1 S.2.1 dX5_turn_79 rfl (lv_at hl 3 rfl) ?_
          refine lv_iconst (v := 4) S.1 S.2.1 dX5_turn_80 (by decide) ?_
          refine nj (J := 89) (V := ((if 4 ≤ p0 then 0 else 1) : Int32)) (L := fun v81_9 => [(3, .int ((if p0 = 0 then 1 else ((if p0 = 3 then 1 else ((if p0 = 4 then 1 else 0) : Int32)) : Int32)) : Int32)), (2, .int ((if p0 = 2 then 1 else ((if p0 = 3 then 1 else ((if p0 = 5 then 1 else 0) : Int32)) : Int32)) : Int32)), (0, .ref (ad 5)), (1, .int p0)]) (St := fun v81_9 => [.int v81_9]) (n := 5) (fun v81_9 ls h81_11 hl => ?_) (fun j81_10 => ?_)
          · try dsimp only at hl ⊢
            subst h81_11
            refine lv_istore (lv' := [(4, .int ((if 4 ≤ p0 then 0 else 1) : Int32)), (3, .int ((if p0 = 0 then 1 else ((if p0 = 3 then 1 else ((if p0 = 4 then 1 else 0) : Int32)) : Int32)) : Int32)), (2, .int ((if p0 = 2 then 1 else ((if p0 = 3 then 1 else ((if p0 = 5 then 1 else 0) : Int32)) : Int32)) : Int32)), (0, .ref (ad 5)), (1, .int p0)]) S.1 S.2.1 dX5_turn_89 hl (by decide) rfl (fun ls hl => ?_)
            refine lv_aload_n S.1 S.2.1 dX5_turn_91 rfl (lv_at hl 3 rfl) ?_
            refine lv_iload_n S.1 S.2.1 dX5_turn_92 rfl (lv_at hl 2 rfl) ?_
            refine nj (J := 109) (V := ((if ((if p0 = 2 then 1 else ((if p0 = 3 then 1 else ((if p0 = 5 then 1 else 0) : Int32)) : Int32)) : Int32) = 0 then (M 0 3) else (1 - (M 0 3))) : Int32)) (L := fun v93_12 => [(4, .int ((if 4 ≤ p0 then 0 else 1) : Int32)), (3, .int ((if p0 = 0 then 1 else ((if p0 = 3 then 1 else ((if p0 = 4 then 1 else 0) : Int32)) : Int32)) : Int32)), (2, .int ((if p0 = 2 then 1 else ((if p0 = 3 then 1 else ((if p0 = 5 then 1 else 0) : Int32)) : Int32)) : Int32)), (0, .ref (ad 5)), (1, .int p0)]) (St := fun v93_12 => [.int v93_12, .ref (ad 5)]) (n := 5) (fun v93_12 ls h93_14 hl => ?_) (fun j93_13 => ?_)
            · try dsimp only at hl ⊢
              subst h93_14
              refine lv_iload_n S.1 S.2.1 dX5_turn_109 rfl (lv_at hl 1 rfl) ?_
              refine nj (J := 126) (V := ((if ((if p0 = 0 then 1 else ((if p0 = 3 then 1 else ((if p0 = 4 then 1 else 0) : Int32)) : Int32)) : Int32) = 0 then (M 0 4) else (1 - (M 0 4))) : Int32)) (L := fun v110_15 => [(4, .int ((if 4 ≤ p0 then 0 else 1) : Int32)), (3, .int ((if p0 = 0 then 1 else ((if p0 = 3 then 1 else ((if p0 = 4 then 1 else 0) : Int32)) : Int32)) : Int32)), (2, .int ((if p0 = 2 then 1 else ((if p0 = 3 then 1 else ((if p0 = 5 then 1 else 0) : Int32)) : Int32)) : Int32)), (0, .ref (ad 5)), (1, .int p0)]) (St := fun v110_15 => [.int v110_15, .int ((if ((if p0 = 2 then 1 else ((if p0 = 3 then 1 else ((if p0 = 5 then 1 else 0) : Int32)) : Int32)) : Int32) = 0 then (M 0 3) else (1 - (M 0 3))) : Int32), .ref (ad 5)]) (n := 5) (fun v110_15 ls h110_17 hl => ?_) (fun j110_16 => ?_)
              · try dsimp only at hl ⊢
                subst h110_17
                refine lv_iload S.1 S.2.1 dX5_turn_126 (lv_at hl 0 rfl) ?_
                refine nj (J := 144) (V := ((if ((if 4 ≤ p0 then 0 else 1) : Int32) = 0 then (M 0 5) else (1 - (M 0 5))) : Int32)) (L := fun v128_18 => [(4, .int ((if 4 ≤ p0 then 0 else 1) : Int32)), (3, .int ((if p0 = 0 then 1 else ((if p0 = 3 then 1 else ((if p0 = 4 then 1 else 0) : Int32)) : Int32)) : Int32)), (2, .int ((if p0 = 2 then 1 else ((if p0 = 3 then 1 else ((if p0 = 5 then 1 else 0) : Int32)) : Int32)) : Int32)), (0, .ref (ad 5)), (1, .int p0)]) (St := fun v128_18 => [.int v128_18, .int ((if ((if p0 = 0 then 1 else ((if p0 = 3 then 1 else ((if p0 = 4 then 1 else 0) : Int32)) : Int32)) : Int32) = 0 then (M 0 4) else (1 - (M 0 4))) : Int32), .int ((if ((if p0 = 2 then 1 else ((if p0 = 3 then 1 else ((if p0 = 5 then 1 else 0) : Int32)) : Int32)) : Int32) = 0 then (M 0 3) else (1 - (M 0 3))) : Int32), .ref (ad 5)]) (n := 5) (fun v128_18 ls h128_20 hl => ?_) (fun j128_19 => ?_)
                · try dsimp only at hl ⊢
                  subst h128_20
                  refine mc_wV S K N hS rfl (As := [.int ((if ((if p0 = 2 then 1 else ((if p0 = 3 then 1 else ((if p0 = 5 then 1 else 0) : Int32)) : Int32)) : Int32) = 0 then (M 0 3) else (1 - (M 0 3))) : Int32), .int ((if ((if p0 = 0 then 1 else ((if p0 = 3 then 1 else ((if p0 = 4 then 1 else 0) : Int32)) : Int32)) : Int32) = 0 then (M 0 4) else (1 - (M 0 4))) : Int32), .int ((if ((if 4 ≤ p0 then 0 else 1) : Int32) = 0 then (M 0 5) else (1 - (M 0 5))) : Int32)]) (m_X5_stands l (up2 M 0 0 0) ((if ((if p0 = 2 then 1 else ((if p0 = 3 then 1 else ((if p0 = 5 then 1 else 0) : Int32)) : Int32)) : Int32) = 0 then (M 0 3) else (1 - (M 0 3))) : Int32) ((if ((if p0 = 0 then 1 else ((if p0 = 3 then 1 else ((if p0 = 4 then 1 else 0) : Int32)) : Int32)) : Int32) = 0 then (M 0 4) else (1 - (M 0 4))) : Int32) ((if ((if 4 ≤ p0 then 0 else 1) : Int32) = 0 then (M 0 5) else (1 - (M 0 5))) : Int32) N) k3_235 k3_237 kS_20 k1_3 k3_238 (num := 3) (by decide +kernel) rfl ⟨Nat.le_of_ble_eq_true rfl, Nat.le_of_ble_eq_true rfl⟩ hl.1 rfl (Nat.le_of_ble_eq_true rfl) dX5_turn_144 ⟨Nat.le_of_ble_eq_true rfl, Nat.le_of_ble_eq_true rfl⟩ (fun v9 H locs hP hS => ?_)
                  obtain ⟨rfl, N⟩ := hP
                  have N : mw D cA B dom ad X (up2 (up2 (up2 (up2 M 0 0 0) 0 3 ((if ((if p0 = 2 then 1 else ((if p0 = 3 then 1 else ((if p0 = 5 then 1 else 0) : Int32)) : Int32)) : Int32) = 0 then (M 0 3) else (1 - (M 0 3))) : Int32)) 0 4 ((if ((if p0 = 0 then 1 else ((if p0 = 3 then 1 else ((if p0 = 4 then 1 else 0) : Int32)) : Int32)) : Int32) = 0 then (M 0 4) else (1 - (M 0 4))) : Int32)) 0 5 ((if ((if 4 ≤ p0 then 0 else 1) : Int32) = 0 then (M 0 5) else (1 - (M 0 5))) : Int32)) H := N
                  refine W.eq (g2 := F0 m 147 ls []) rfl ?_
                  refine lv_aload_n S.1 S.2.1 dX5_turn_147 rfl (lv_at hl 3 rfl) ?_
                  refine mr_get S K N 7 (by decide) k3_153 (v := .ref (ad 17)) rfl dX5_turn_148 ?_
                  refine lv_aload_n S.1 S.2.1 dX5_turn_151 rfl (lv_at hl 3 rfl) ?_
                  refine mr_get S K N 2 (by decide) k3_148 (v := .int (M 0 2)) rfl dX5_turn_152 ?_
                  refine nt_i (y := nI g) (hg1) ?_
                  refine lv_dup2_11 S.1 S.2.1 dX5_turn_155 rfl rfl ?_
                  refine mr_iald S K N 7 (by decide) (by decide) rfl (v := (M 7 g)) (vp_in_nI (show g < mlen 7 by show _ < 12; omega) (by decide)) ((congrArg ((up2 (up2 (up2 (up2 M 0 0 0) 0 3 ((if ((if p0 = 2 then 1 else ((if p0 = 3 then 1 else ((if p0 = 5 then 1 else 0) : Int32)) : Int32)) : Int32) = 0 then (M 0 3) else (1 - (M 0 3))) : Int32)) 0 4 ((if ((if p0 = 0 then 1 else ((if p0 = 3 then 1 else ((if p0 = 4 then 1 else 0) : Int32)) : Int32)) : Int32) = 0 then (M 0 4) else (1 - (M 0 4))) : Int32)) 0 5 ((if ((if 4 ≤ p0 then 0 else 1) : Int32) = 0 then (M 0 5) else (1 - (M 0 5))) : Int32)) 7) (nI_clamp (show g < 2 ^ 31 by omega))).trans rfl) dX5_turn_156 ?_
                  refine lv_iconst (v := 2) S.1 S.2.1 dX5_turn_157 (by decide) ?_
                  refine lv_iadd S.1 S.2.1 dX5_turn_158 ?_
                  refine mr_iast S K N hS 7 (by decide) (by decide) rfl (vp_in_nI (show g < mlen 7 by show _ < 12; omega) (by decide)) g (nI_clamp (show g < 2 ^ 31 by omega)) dX5_turn_159 (fun H locs N hS => ?_)
                  refine lv_iconst (v := 4) S.1 S.2.1 dX5_turn_160 (by decide) ?_
                  refine lv_aload_n S.1 S.2.1 dX5_turn_161 rfl (lv_at hl 3 rfl) ?_
                  refine mr_get S K N 3 (by decide) k3_149 (v := .int ((if ((if p0 = 2 then 1 else ((if p0 = 3 then 1 else ((if p0 = 5 then 1 else 0) : Int32)) : Int32)) : Int32) = 0 then (M 0 3) else (1 - (M 0 3))) : Int32)) rfl dX5_turn_162 ?_
                  refine lv_imul S.1 S.2.1 dX5_turn_165 ?_
                  refine lv_iconst (v := 2) S.1 S.2.1 dX5_turn_166 (by decide) ?_
                  refine lv_aload_n S.1 S.2.1 dX5_turn_167 rfl (lv_at hl 3 rfl) ?_
                  refine mr_get S K N 4 (by decide) k3_150 (v := .int ((if ((if p0 = 0 then 1 else ((if p0 = 3 then 1 else ((if p0 = 4 then 1 else 0) : Int32)) : Int32)) : Int32) = 0 then (M 0 4) else (1 - (M 0 4))) : Int32)) rfl dX5_turn_168 ?_
                  refine lv_imul S.1 S.2.1 dX5_turn_171 ?_
                  refine lv_iadd S.1 S.2.1 dX5_turn_172 ?_
                  refine lv_aload_n S.1 S.2.1 dX5_turn_173 rfl (lv_at hl 3 rfl) ?_
                  refine mr_get S K N 5 (by decide) k3_151 (v := .int ((if ((if 4 ≤ p0 then 0 else 1) : Int32) = 0 then (M 0 5) else (1 - (M 0 5))) : Int32)) rfl dX5_turn_174 ?_
                  refine lv_iadd S.1 S.2.1 dX5_turn_177 ?_
                  exact ne_wI S hS hr hlk ⟨congrArg (fun z => some (Value.int z)) (Eq.symm (by unfold f_X5_turn; first | (rw [if_neg c7_1, if_neg c18_2]; done) | (simp only [if_neg c7_1, if_neg c18_2]; done) | rfl)), (by unfold g_X5_turn; first | (rw [if_neg c7_1, if_neg c18_2]; exact N) | (simp only [if_neg c7_1, if_neg c18_2]; exact N) | exact N)⟩ dX5_turn_178
                · refine lv_if_eq (tgt := 140) S.1 S.2.1 dX5_turn_128 (by decide) (fun c128_21 => ?_) (fun c128_21 => ?_)
                  · refine lv_aload_n S.1 S.2.1 dX5_turn_140 rfl (lv_at hl 3 rfl) ?_
                    refine mr_get S K N 5 (by decide) k3_151 (v := .int (M 0 5)) rfl dX5_turn_141 ?_
                    exact j128_19 _ _ (by first | (rw [if_pos c128_21]; done) | (simp only [if_pos c128_21]; done) | rfl) (lv_sub hl [0, 1, 2, 3, 4] rfl)
                  · refine lv_iconst (v := 1) S.1 S.2.1 dX5_turn_131 (by decide) ?_
                    refine lv_aload_n S.1 S.2.1 dX5_turn_132 rfl (lv_at hl 3 rfl) ?_
                    refine mr_get S K N 5 (by decide) k3_151 (v := .int (M 0 5)) rfl dX5_turn_133 ?_
                    refine lv_isub S.1 S.2.1 dX5_turn_136 ?_
                    refine lv_goto (tgt := 144) S.1 S.2.1 dX5_turn_137 (by decide) ?_
                    exact j128_19 _ _ (by first | (rw [if_neg c128_21]; done) | (simp only [if_neg c128_21]; done) | rfl) (lv_sub hl [0, 1, 2, 3, 4] rfl)
              · refine lv_if_eq (tgt := 122) S.1 S.2.1 dX5_turn_110 (by decide) (fun c110_22 => ?_) (fun c110_22 => ?_)
                · refine lv_aload_n S.1 S.2.1 dX5_turn_122 rfl (lv_at hl 3 rfl) ?_
                  refine mr_get S K N 4 (by decide) k3_150 (v := .int (M 0 4)) rfl dX5_turn_123 ?_
                  exact j110_16 _ _ (by first | (rw [if_pos c110_22]; done) | (simp only [if_pos c110_22]; done) | rfl) (lv_sub hl [0, 1, 2, 3, 4] rfl)
                · refine lv_iconst (v := 1) S.1 S.2.1 dX5_turn_113 (by decide) ?_
                  refine lv_aload_n S.1 S.2.1 dX5_turn_114 rfl (lv_at hl 3 rfl) ?_
                  refine mr_get S K N 4 (by decide) k3_150 (v := .int (M 0 4)) rfl dX5_turn_115 ?_
                  refine lv_isub S.1 S.2.1 dX5_turn_118 ?_
                  refine lv_goto (tgt := 126) S.1 S.2.1 dX5_turn_119 (by decide) ?_
                  exact j110_16 _ _ (by first | (rw [if_neg c110_22]; done) | (simp only [if_neg c110_22]; done) | rfl) (lv_sub hl [0, 1, 2, 3, 4] rfl)
            · refine lv_if_eq (tgt := 105) S.1 S.2.1 dX5_turn_93 (by decide) (fun c93_23 => ?_) (fun c93_23 => ?_)
              · refine lv_aload_n S.1 S.2.1 dX5_turn_105 rfl (lv_at hl 3 rfl) ?_
                refine mr_get S K N 3 (by decide) k3_149 (v := .int (M 0 3)) rfl dX5_turn_106 ?_
                exact j93_13 _ _ (by first | (rw [if_pos c93_23]; done) | (simp only [if_pos c93_23]; done) | rfl) (lv_sub hl [0, 1, 2, 3, 4] rfl)
              · refine lv_iconst (v := 1) S.1 S.2.1 dX5_turn_96 (by decide) ?_
                refine lv_aload_n S.1 S.2.1 dX5_turn_97 rfl (lv_at hl 3 rfl) ?_
                refine mr_get S K N 3 (by decide) k3_149 (v := .int (M 0 3)) rfl dX5_turn_98 ?_
                refine lv_isub S.1 S.2.1 dX5_turn_101 ?_
                refine lv_goto (tgt := 109) S.1 S.2.1 dX5_turn_102 (by decide) ?_
                exact j93_13 _ _ (by first | (rw [if_neg c93_23]; done) | (simp only [if_neg c93_23]; done) | rfl) (lv_sub hl [0, 1, 2, 3, 4] rfl)
          · refine lv_icmp_ge (tgt := 88) S.1 S.2.1 dX5_turn_81 (by decide) (fun c81_24 => ?_) (fun c81_24 => ?_)
            · refine lv_iconst (v := 0) S.1 S.2.1 dX5_turn_88 (by decide) ?_
              exact j81_10 _ _ (by first | (rw [if_pos c81_24]; done) | (simp only [if_pos c81_24]; done) | rfl) (lv_sub hl [0, 1, 2, 3] rfl)
            · refine lv_iconst (v := 1) S.1 S.2.1 dX5_turn_84 (by decide) ?_
              refine lv_goto (tgt := 89) S.1 S.2.1 dX5_turn_85 (by decide) ?_
              exact j81_10 _ _ (by first | (rw [if_neg c81_24]; done) | (simp only [if_neg c81_24]; done) | rfl) (lv_sub hl [0, 1, 2, 3] rfl)
        · refine lv_if_eq (tgt := 73) S.1 S.2.1 dX5_turn_60 (by decide) (fun c60_25 => ?_) (fun c60_25 => ?_)
          · refine lv_iconst (v := 1) S.1 S.2.1 dX5_turn_73 (by decide) ?_
            refine lv_goto (tgt := 78) S.1 S.2.1 dX5_turn_74 (by decide) ?_
            exact j60_7 _ _ (by first | (rw [if_pos c60_25]; done) | (simp only [if_pos c60_25]; done) | rfl) (lv_sub hl [0, 1, 2] rfl)
          · refine lv_iload_n S.1 S.2.1 dX5_turn_63 rfl (lv_at hl 2 rfl) ?_
            refine lv_iconst (v := 3) S.1 S.2.1 dX5_turn_64 (by decide) ?_
            refine lv_icmp_eq (tgt := 73) S.1 S.2.1 dX5_turn_65 (by decide) (fun c65_26 => ?_) (fun c65_26 => ?_)
            · refine lv_iconst (v := 1) S.1 S.2.1 dX5_turn_73 (by decide) ?_
              refine lv_goto (tgt := 78) S.1 S.2.1 dX5_turn_74 (by decide) ?_
              exact j60_7 _ _ (by first | (rw [if_neg c60_25, if_pos c65_26]; done) | (simp only [if_neg c60_25, if_pos c65_26]; done) | rfl) (lv_sub hl [0, 1, 2] rfl)
            · refine lv_iload_n S.1 S.2.1 dX5_turn_68 rfl (lv_at hl 2 rfl) ?_
              refine lv_iconst (v := 4) S.1 S.2.1 dX5_turn_69 (by decide) ?_
              refine lv_icmp_ne (tgt := 77) S.1 S.2.1 dX5_turn_70 (by decide) (fun c70_27 => ?_) (fun c70_27 => ?_)
              · refine lv_iconst (v := 0) S.1 S.2.1 dX5_turn_77 (by decide) ?_
                exact j60_7 _ _ (by first | (rw [if_neg c60_25, if_neg c65_26, if_neg c70_27]; done) | (simp only [if_neg c60_25, if_neg c65_26, if_neg c70_27]; done) | rfl) (lv_sub hl [0, 1, 2] rfl)
              · refine lv_iconst (v := 1) S.1 S.2.1 dX5_turn_73 (by decide) ?_
                refine lv_goto (tgt := 78) S.1 S.2.1 dX5_turn_74 (by decide) ?_
                exact j60_7 _ _ (by first | (rw [if_neg c60_25, if_neg c65_26, if_pos c70_27]; done) | (simp only [if_neg c60_25, if_neg c65_26, if_pos c70_27]; done) | rfl) (lv_sub hl [0, 1, 2] rfl)
      · refine lv_icmp_eq (tgt := 53) S.1 S.2.1 dX5_turn_40 (by decide) (fun c40_28 => ?_) (fun c40_28 => ?_)
        · refine lv_iconst (v := 1) S.1 S.2.1 dX5_turn_53 (by decide) ?_
          refine lv_goto (tgt := 58) S.1 S.2.1 dX5_turn_54 (by decide) ?_
          exact j40_4 _ _ (by first | (rw [if_pos c40_28]; done) | (simp only [if_pos c40_28]; done) | rfl) (lv_sub hl [0, 1] rfl)
        · refine lv_iload_n S.1 S.2.1 dX5_turn_43 rfl (lv_at hl 1 rfl) ?_
          refine lv_iconst (v := 3) S.1 S.2.1 dX5_turn_44 (by decide) ?_
          refine lv_icmp_eq (tgt := 53) S.1 S.2.1 dX5_turn_45 (by decide) (fun c45_29 => ?_) (fun c45_29 => ?_)
          · refine lv_iconst (v := 1) S.1 S.2.1 dX5_turn_53 (by decide) ?_
            refine lv_goto (tgt := 58) S.1 S.2.1 dX5_turn_54 (by decide) ?_
            exact j40_4 _ _ (by first | (rw [if_neg c40_28, if_pos c45_29]; done) | (simp only [if_neg c40_28, if_pos c45_29]; done) | rfl) (lv_sub hl [0, 1] rfl)
          · refine lv_iload_n S.1 S.2.1 dX5_turn_48 rfl (lv_at hl 1 rfl) ?_
            refine lv_iconst (v := 5) S.1 S.2.1 dX5_turn_49 (by decide) ?_
            refine lv_icmp_ne (tgt := 57) S.1 S.2.1 dX5_turn_50 (by decide) (fun c50_30 => ?_) (fun c50_30 => ?_)
            · refine lv_iconst (v := 0) S.1 S.2.1 dX5_turn_57 (by decide) ?_
              exact j40_4 _ _ (by first | (rw [if_neg c40_28, if_neg c45_29, if_neg c50_30]; done) | (simp only [if_neg c40_28, if_neg c45_29, if_neg c50_30]; done) | rfl) (lv_sub hl [0, 1] rfl)
            · refine lv_iconst (v := 1) S.1 S.2.1 dX5_turn_53 (by decide) ?_
              refine lv_goto (tgt := 58) S.1 S.2.1 dX5_turn_54 (by decide) ?_
              exact j40_4 _ _ (by first | (rw [if_neg c40_28, if_neg c45_29, if_pos c50_30]; done) | (simp only [if_neg c40_28, if_neg c45_29, if_pos c50_30]; done) | rfl) (lv_sub hl [0, 1] rfl)
  · refine lv_iconst (v := 1) S.1 S.2.1 dX5_turn_10 (by decide) ?_
    refine lv_goto (tgt := 26) S.1 S.2.1 dX5_turn_11 (by decide) ?_
    refine mr_put S K N hS 0 (by decide) (by unfold mscal; omega) k3_146 rfl rfl dX5_turn_26 (fun H locs N hS => ?_)
    refine lv_aload_n S.1 S.2.1 dX5_turn_29 rfl (lv_at hl 0 rfl) ?_
    refine mr_get S K N 0 (by decide) k3_146 (v := .int 1) rfl dX5_turn_30 ?_
    refine lv_if_le (tgt := 38) S.1 S.2.1 dX5_turn_33 (by decide) (fun c9 => absurd c9 (by decide)) (fun _ => ?_)
    refine lv_iconst (v := 0) S.1 S.2.1 dX5_turn_36 (by decide) ?_
    exact ne_wI S hS hr hlk ⟨congrArg (fun z => some (Value.int z)) (Eq.symm (by unfold f_X5_turn; first | (rw [if_pos c7_1]; done) | (simp only [if_pos c7_1]; done) | rfl)), (by unfold g_X5_turn; first | (rw [if_pos c7_1]; exact N) | (simp only [if_pos c7_1]; exact N) | exact N)⟩ dX5_turn_37

def f_X5_jump (M : Nat → Nat → Int32) (p0 : Int32) (p1 : Int32) (p2 : Int32) (g : Nat) (n : Nat) : Int32 :=
  if (f_X5_in p0 0 5) = 0 then 0
  else if (f_X5_in p1 1 4) = 0 then 0
  else if (f_X5_isOpen (up2 M 0 0 0)) = 0 then 0
  else if 12 ≤ (nI n) then 0
  else if (f_X5_canTakeOff (up2 M 0 0 0) p0) = 0 then 0
  else ((nI (n + 1)) - 1)
def g_X5_jump (M : Nat → Nat → Int32) (p0 : Int32) (p1 : Int32) (p2 : Int32) (g : Nat) (n : Nat) : Nat → Nat → Int32 :=
  if (f_X5_in p0 0 5) = 0 then (up2 M 0 0 1)
  else if (f_X5_in p1 1 4) = 0 then (up2 M 0 0 1)
  else if (f_X5_isOpen (up2 M 0 0 0)) = 0 then (up2 (up2 M 0 0 0) 0 0 2)
  else if 12 ≤ (nI n) then (up2 (up2 M 0 0 0) 0 0 2)
  else if (f_X5_canTakeOff (up2 M 0 0 0) p0) = 0 then (up2 (up2 M 0 0 0) 0 0 2)
  else (up2 (up2 (up2 (up2 (up2 (up2 (up2 (up2 (up2 (up2 (up2 (up2 M 0 0 0) 0 0 0) 9 (12 * g + n) p0) 10 (12 * g + n) p1) 13 (12 * g + n) ((if p0 = 3 then ((if (M 0 4) = 1 then 1 else 0) : Int32) else ((if p0 = 4 then ((if (M 0 4) = 1 then 0 else 1) : Int32) else 0) : Int32)) : Int32)) 14 (12 * g + n) ((if (M 7 g) < 120 then 0 else 1) : Int32)) 15 (12 * g + n) p2) 7 g ((M 7 g) + 4)) 0 3 1) 0 4 1) 0 5 1) 8 g (nI (n + 1)))
set_option maxHeartbeats 4000000 in
set_option maxRecDepth 100000 in
theorem m_X5_jump {D : va_G} {cA : Nat → ClassId} {B : Nat} (l : Launch) {dom : Nat → Prop} {ad : Nat → Nat} {X : Nat → va_E} {H0 : Heap} (M : Nat → Nat → Int32) (p0 : Int32) (p1 : Int32) (p2 : Int32) (g : Nat) (n : Nat) (N : mw D cA B dom ad X M H0) (hg : ¬ M 0 2 = (-1) → vp_in (M 0 2) 12) (hop : ¬ f_X5_isOpen (up2 M 0 0 0) = 0 → M 0 2 = nI g ∧ g < 12 ∧ M 8 g = nI n ∧ n ≤ 12) (hz : vp_nar .boolean p2 = p2) : MetW D cA B l yX5_jump cX5_jump 5 (some .int) 1 23 0 0 [.ref (ad 5), .int p0, .int p1, .int p2] H0 (fun o h => o = some (.int (f_X5_jump M p0 p1 p2 g n)) ∧ mw D cA B dom ad X (g_X5_jump M p0 p1 p2 g n) h) := by
  refine MetW.of (by decide) (Nat.le_of_ble_eq_true rfl) ?_
  intro p e s m args below meth c S hr hlk hin hh K ls hl
  subst hh
  have hS : va_S (fun q => B ≤ q) s.heap s.heap [] := va_S.rf
  have hl : lv_has ls 5 [(0, .ref (ad 5)), (1, .int p0), (2, .int p1), (3, .int p2)] := hl
  refine lv_aload_n S.1 S.2.1 dX5_jump_0 rfl (lv_at hl 0 rfl) ?_
  refine lv_iload_n S.1 S.2.1 dX5_jump_1 rfl (lv_at hl 1 rfl) ?_
  refine lv_iconst (v := 0) S.1 S.2.1 dX5_jump_2 (by decide) ?_
  refine lv_iconst (v := 5) S.1 S.2.1 dX5_jump_3 (by decide) ?_
  refine nc_rS S K hS (As := [.int p0, .int 0, .int 5]) (m_X5_in l p0 0 5) k3_232 k3_233 k1_3 k3_234 (num := 3) (by decide +kernel) rfl ⟨Nat.le_of_ble_eq_true rfl, Nat.le_of_ble_eq_true rfl⟩ hl.1 rfl (Nat.le_of_ble_eq_true rfl) dX5_jump_4 ⟨Nat.le_of_ble_eq_true rfl, Nat.le_of_ble_eq_true rfl⟩ ?_
  refine lv_if_eq (tgt := 19) S.1 S.2.1 dX5_jump_7 (by decide) (fun c7_1 => ?_) (fun c7_1 => ?_)
  · refine lv_iconst (v := 1) S.1 S.2.1 dX5_jump_19 (by decide) ?_
    refine lv_goto (tgt := 24) S.1 S.2.1 dX5_jump_20 (by decide) ?_
    refine mr_put S K N hS 0 (by decide) (by unfold mscal; omega) k3_146 rfl rfl dX5_jump_24 (fun H locs N hS => ?_)
    refine lv_aload_n S.1 S.2.1 dX5_jump_27 rfl (lv_at hl 0 rfl) ?_
    refine mr_get S K N 0 (by decide) k3_146 (v := .int 1) rfl dX5_jump_28 ?_
    refine lv_if_ne (tgt := 72) S.1 S.2.1 dX5_jump_31 (by decide) (fun _ => ?_) (fun c9 => absurd c9 (by decide))
    refine lv_aload_n S.1 S.2.1 dX5_jump_72 rfl (lv_at hl 0 rfl) ?_
    refine mr_get S K N 0 (by decide) k3_146 (v := .int 1) rfl dX5_jump_73 ?_
    refine lv_if_le (tgt := 81) S.1 S.2.1 dX5_jump_76 (by decide) (fun c9 => absurd c9 (by decide)) (fun _ => ?_)
    refine lv_iconst (v := 0) S.1 S.2.1 dX5_jump_79 (by decide) ?_
    exact ne_wI S hS hr hlk ⟨congrArg (fun z => some (Value.int z)) (Eq.symm (by unfold f_X5_jump; first | (rw [if_pos c7_1]; done) | (simp only [if_pos c7_1]; done) | rfl)), (by unfold g_X5_jump; first | (rw [if_pos c7_1]; exact N) | (simp only [if_pos c7_1]; exact N) | exact N)⟩ dX5_jump_80
  · refine lv_iload_n S.1 S.2.1 dX5_jump_10 rfl (lv_at hl 2 rfl) ?_
    refine lv_iconst (v := 1) S.1 S.2.1 dX5_jump_11 (by decide) ?_
    refine lv_iconst (v := 4) S.1 S.2.1 dX5_jump_12 (by decide) ?_
    refine nc_rS S K hS (As := [.int p1, .int 1, .int 4]) (m_X5_in l p1 1 4) k3_232 k3_233 k1_3 k3_234 (num := 3) (by decide +kernel) rfl ⟨Nat.le_of_ble_eq_true rfl, Nat.le_of_ble_eq_true rfl⟩ hl.1 rfl (Nat.le_of_ble_eq_true rfl) dX5_jump_13 ⟨Nat.le_of_ble_eq_true rfl, Nat.le_of_ble_eq_true rfl⟩ ?_
    refine lv_if_ne (tgt := 23) S.1 S.2.1 dX5_jump_16 (by decide) (fun c16_2 => ?_) (fun c16_2 => ?_)
    · refine lv_iconst (v := 0) S.1 S.2.1 dX5_jump_23 (by decide) ?_
      refine mr_put S K N hS 0 (by decide) (by unfold mscal; omega) k3_146 rfl rfl dX5_jump_24 (fun H locs N hS => ?_)
      refine lv_aload_n S.1 S.2.1 dX5_jump_27 rfl (lv_at hl 0 rfl) ?_
      refine mr_get S K N 0 (by decide) k3_146 (v := .int 0) rfl dX5_jump_28 ?_
      refine lv_if_ne (tgt := 72) S.1 S.2.1 dX5_jump_31 (by decide) (fun c9 => absurd (by decide) c9) (fun _ => ?_)
      refine lv_aload_n S.1 S.2.1 dX5_jump_34 rfl (lv_at hl 0 rfl) ?_
      refine lv_aload_n S.1 S.2.1 dX5_jump_35 rfl (lv_at hl 0 rfl) ?_
      refine mc_rV S K N hS rfl (As := []) (m_X5_isOpen l (up2 M 0 0 0) N hg) k4_3 k4_5 kS_21 k1_3 k4_6 (num := 0) (by decide +kernel) rfl ⟨Nat.le_of_ble_eq_true rfl, Nat.le_of_ble_eq_true rfl⟩ hl.1 rfl (Nat.le_of_ble_eq_true rfl) dX5_jump_36 ⟨Nat.le_of_ble_eq_true rfl, Nat.le_of_ble_eq_true rfl⟩ ?_
      refine lv_if_eq (tgt := 68) S.1 S.2.1 dX5_jump_39 (by decide) (fun c39_3 => ?_) (fun c39_3 => ?_)
      · refine lv_iconst (v := 2) S.1 S.2.1 dX5_jump_68 (by decide) ?_
        refine mr_put S K N hS 0 (by decide) (by unfold mscal; omega) k3_146 rfl rfl dX5_jump_69 (fun H locs N hS => ?_)
        refine lv_aload_n S.1 S.2.1 dX5_jump_72 rfl (lv_at hl 0 rfl) ?_
        refine mr_get S K N 0 (by decide) k3_146 (v := .int 2) rfl dX5_jump_73 ?_
        refine lv_if_le (tgt := 81) S.1 S.2.1 dX5_jump_76 (by decide) (fun c9 => absurd c9 (by decide)) (fun _ => ?_)
        refine lv_iconst (v := 0) S.1 S.2.1 dX5_jump_79 (by decide) ?_
        exact ne_wI S hS hr hlk ⟨congrArg (fun z => some (Value.int z)) (Eq.symm (by unfold f_X5_jump; first | (rw [if_neg c7_1, if_neg c16_2, if_pos c39_3]; done) | (simp only [if_neg c7_1, if_neg c16_2, if_pos c39_3]; done) | rfl)), (by unfold g_X5_jump; first | (rw [if_neg c7_1, if_neg c16_2, if_pos c39_3]; exact N) | (simp only [if_neg c7_1, if_neg c16_2, if_pos c39_3]; exact N) | exact N)⟩ dX5_jump_80
      · obtain ⟨hg1, hg2, hn1, hn2⟩ := hop c39_3
        refine lv_aload_n S.1 S.2.1 dX5_jump_42 rfl (lv_at hl 0 rfl) ?_
        refine mr_get S K N 8 (by decide) k3_154 (v := .ref (ad 18)) rfl dX5_jump_43 ?_
        refine lv_aload_n S.1 S.2.1 dX5_jump_46 rfl (lv_at hl 0 rfl) ?_
        refine mr_get S K N 2 (by decide) k3_148 (v := .int (M 0 2)) rfl dX5_jump_47 ?_
        refine nt_i (y := nI g) (hg1) ?_
        refine mr_iald S K N 8 (by decide) (by decide) rfl (v := (M 8 g)) (vp_in_nI (show g < mlen 8 by show _ < 12; omega) (by decide)) ((congrArg ((up2 M 0 0 0) 8) (nI_clamp (show g < 2 ^ 31 by omega))).trans rfl) dX5_jump_50 ?_
        refine nt_i (y := nI n) (hn1) ?_
        refine lv_bipush (v := 12) S.1 S.2.1 dX5_jump_51 (by decide) ?_
        refine lv_icmp_ge (tgt := 68) S.1 S.2.1 dX5_jump_53 (by decide) (fun c53_4 => ?_) (fun c53_4 => ?_)
        · refine lv_iconst (v := 2) S.1 S.2.1 dX5_jump_68 (by decide) ?_
          refine mr_put S K N hS 0 (by decide) (by unfold mscal; omega) k3_146 rfl rfl dX5_jump_69 (fun H locs N hS => ?_)
          refine lv_aload_n S.1 S.2.1 dX5_jump_72 rfl (lv_at hl 0 rfl) ?_
          refine mr_get S K N 0 (by decide) k3_146 (v := .int 2) rfl dX5_jump_73 ?_
          refine lv_if_le (tgt := 81) S.1 S.2.1 dX5_jump_76 (by decide) (fun c9 => absurd c9 (by decide)) (fun _ => ?_)
          refine lv_iconst (v := 0) S.1 S.2.1 dX5_jump_79 (by decide) ?_
          exact ne_wI S hS hr hlk ⟨congrArg (fun z => some (Value.int z)) (Eq.symm (by unfold f_X5_jump; first | (rw [if_neg c7_1, if_neg c16_2, if_neg c39_3, if_pos c53_4]; done) | (simp only [if_neg c7_1, if_neg c16_2, if_neg c39_3, if_pos c53_4]; done) | rfl)), (by unfold g_X5_jump; first | (rw [if_neg c7_1, if_neg c16_2, if_neg c39_3, if_pos c53_4]; exact N) | (simp only [if_neg c7_1, if_neg c16_2, if_neg c39_3, if_pos c53_4]; exact N) | exact N)⟩ dX5_jump_80
        · have hn3 := nlt_nat (a := 12) c53_4 (by omega)
          refine lv_aload_n S.1 S.2.1 dX5_jump_56 rfl (lv_at hl 0 rfl) ?_
          refine lv_iload_n S.1 S.2.1 dX5_jump_57 rfl (lv_at hl 1 rfl) ?_
          refine mc_rV S K N hS rfl (As := [.int p0]) (m_X5_canTakeOff l (up2 M 0 0 0) p0 N) k4_11 k4_13 kS_22 k1_3 k4_14 (num := 1) (by decide +kernel) rfl ⟨Nat.le_of_ble_eq_true rfl, Nat.le_of_ble_eq_true rfl⟩ hl.1 rfl (Nat.le_of_ble_eq_true rfl) dX5_jump_58 ⟨Nat.le_of_ble_eq_true rfl, Nat.le_of_ble_eq_true rfl⟩ ?_
          refine lv_if_eq (tgt := 68) S.1 S.2.1 dX5_jump_61 (by decide) (fun c61_5 => ?_) (fun c61_5 => ?_)
          · refine lv_iconst (v := 2) S.1 S.2.1 dX5_jump_68 (by decide) ?_
            refine mr_put S K N hS 0 (by decide) (by unfold mscal; omega) k3_146 rfl rfl dX5_jump_69 (fun H locs N hS => ?_)
            refine lv_aload_n S.1 S.2.1 dX5_jump_72 rfl (lv_at hl 0 rfl) ?_
            refine mr_get S K N 0 (by decide) k3_146 (v := .int 2) rfl dX5_jump_73 ?_
            refine lv_if_le (tgt := 81) S.1 S.2.1 dX5_jump_76 (by decide) (fun c9 => absurd c9 (by decide)) (fun _ => ?_)
            refine lv_iconst (v := 0) S.1 S.2.1 dX5_jump_79 (by decide) ?_
            exact ne_wI S hS hr hlk ⟨congrArg (fun z => some (Value.int z)) (Eq.symm (by unfold f_X5_jump; first | (rw [if_neg c7_1, if_neg c16_2, if_neg c39_3, if_neg c53_4, if_pos c61_5]; done) | (simp only [if_neg c7_1, if_neg c16_2, if_neg c39_3, if_neg c53_4, if_pos c61_5]; done) | rfl)), (by unfold g_X5_jump; first | (rw [if_neg c7_1, if_neg c16_2, if_neg c39_3, if_neg c53_4, if_pos c61_5]; exact N) | (simp only [if_neg c7_1, if_neg c16_2, if_neg c39_3, if_neg c53_4, if_pos c61_5]; exact N) | exact N)⟩ dX5_jump_80
          · refine lv_iconst (v := 0) S.1 S.2.1 dX5_jump_64 (by decide) ?_
            refine lv_goto (tgt := 69) S.1 S.2.1 dX5_jump_65 (by decide) ?_
            refine mr_put S K N hS 0 (by decide) (by unfold mscal; omega) k3_146 rfl rfl dX5_jump_69 (fun H locs N hS => ?_)
            refine lv_aload_n S.1 S.2.1 dX5_jump_72 rfl (lv_at hl 0 rfl) ?_
            refine mr_get S K N 0 (by decide) k3_146 (v := .int 0) rfl dX5_jump_73 ?_
            refine lv_if_le (tgt := 81) S.1 S.2.1 dX5_jump_76 (by decide) (fun _ => ?_) (fun c9 => absurd (by decide) c9)
            refine lv_aload_n S.1 S.2.1 dX5_jump_81 rfl (lv_at hl 0 rfl) ?_
            refine mr_get S K N 2 (by decide) k3_148 (v := .int (M 0 2)) rfl dX5_jump_82 ?_
            refine nt_i (y := nI g) (hg1) ?_
            refine lv_aload_n S.1 S.2.1 dX5_jump_85 rfl (lv_at hl 0 rfl) ?_
            refine mr_get S K N 8 (by decide) k3_154 (v := .ref (ad 18)) rfl dX5_jump_86 ?_
            refine lv_aload_n S.1 S.2.1 dX5_jump_89 rfl (lv_at hl 0 rfl) ?_
            refine mr_get S K N 2 (by decide) k3_148 (v := .int (M 0 2)) rfl dX5_jump_90 ?_
            refine nt_i (y := nI g) (hg1) ?_
            refine mr_iald S K N 8 (by decide) (by decide) rfl (v := (M 8 g)) (vp_in_nI (show g < mlen 8 by show _ < 12; omega) (by decide)) ((congrArg ((up2 (up2 M 0 0 0) 0 0 0) 8) (nI_clamp (show g < 2 ^ 31 by omega))).trans rfl) dX5_jump_93 ?_
            refine nt_i (y := nI n) (hn1) ?_
            refine nc_rS S K hS (As := [.int (nI g), .int (nI n)]) (m_X5_at l g n) k4_15 k4_16 k1_3 k4_17 (num := 2) (by decide +kernel) rfl ⟨Nat.le_of_ble_eq_true rfl, Nat.le_of_ble_eq_true rfl⟩ hl.1 rfl (Nat.le_of_ble_eq_true rfl) dX5_jump_94 ⟨Nat.le_of_ble_eq_true rfl, Nat.le_of_ble_eq_true rfl⟩ ?_
            refine nt_i (y := nI (12 * g + n)) (rfl) ?_
            refine lv_istore (lv' := [(4, .int (nI (12 * g + n))), (0, .ref (ad 5)), (1, .int p0), (2, .int p1), (3, .int p2)]) S.1 S.2.1 dX5_jump_97 hl (by decide) rfl (fun ls hl => ?_)
            refine lv_aload_n S.1 S.2.1 dX5_jump_99 rfl (lv_at hl 1 rfl) ?_
            refine mr_get S K N 9 (by decide) k3_155 (v := .ref (ad 19)) rfl dX5_jump_100 ?_
            refine lv_iload S.1 S.2.1 dX5_jump_103 (lv_at hl 0 rfl) ?_
            refine lv_iload_n S.1 S.2.1 dX5_jump_105 rfl (lv_at hl 2 rfl) ?_
            refine mr_iast S K N hS 9 (by decide) (by decide) rfl (vp_in_nI (show (12 * g + n) < mlen 9 by show _ < 144; omega) (by decide)) (12 * g + n) (nI_clamp (show (12 * g + n) < 2 ^ 31 by omega)) dX5_jump_106 (fun H locs N hS => ?_)
            refine lv_aload_n S.1 S.2.1 dX5_jump_107 rfl (lv_at hl 1 rfl) ?_
            refine mr_get S K N 10 (by decide) k3_156 (v := .ref (ad 20)) rfl dX5_jump_108 ?_
            refine lv_iload S.1 S.2.1 dX5_jump_111 (lv_at hl 0 rfl) ?_
            refine lv_iload_n S.1 S.2.1 dX5_jump_113 rfl (lv_at hl 3 rfl) ?_
            refine mr_iast S K N hS 10 (by decide) (by decide) rfl (vp_in_nI (show (12 * g + n) < mlen 10 by show _ < 144; omega) (by decide)) (12 * g + n) (nI_clamp (show (12 * g + n) < 2 ^ 31 by omega)) dX5_jump_114 (fun H locs N hS => ?_)
            refine lv_aload_n S.1 S.2.1 dX5_jump_115 rfl (lv_at hl 1 rfl) ?_
            refine mr_get S K N 13 (by decide) k3_159 (v := .ref (ad 23)) rfl dX5_jump_116 ?_
            refine lv_iload S.1 S.2.1 dX5_jump_119 (lv_at hl 0 rfl) ?_
            refine lv_iload_n S.1 S.2.1 dX5_jump_121 rfl (lv_at hl 2 rfl) ?_
            refine lv_iconst (v := 3) S.1 S.2.1 dX5_jump_122 (by decide) ?_
            refine nj (J := 152) (V := ((if p0 = 3 then ((if (M 0 4) = 1 then 1 else 0) : Int32) else ((if p0 = 4 then ((if (M 0 4) = 1 then 0 else 1) : Int32) else 0) : Int32)) : Int32)) (L := fun v123_6 => [(4, .int (nI (12 * g + n))), (0, .ref (ad 5)), (1, .int p0), (2, .int p1), (3, .int p2)]) (St := fun v123_6 => [.int v123_6, .int (nI (12 * g + n)), .ref (ad 23)]) (n := 5) (fun v123_6 ls h123_8 hl => ?_) (fun j123_7 => ?_)
            · try dsimp only at hl ⊢
              subst h123_8
              refine mr_zast S K N hS 13 (by decide) (by decide) rfl (vp_in_nI (show (12 * g + n) < mlen 13 by show _ < 144; omega) (by decide)) (by repeat (first | exact zb_0 | exact zb_1 | split)) (12 * g + n) (nI_clamp (show (12 * g + n) < 2 ^ 31 by omega)) dX5_jump_152 (fun H locs N hS => ?_)
              refine lv_aload_n S.1 S.2.1 dX5_jump_153 rfl (lv_at hl 1 rfl) ?_
              refine mr_get S K N 14 (by decide) k3_160 (v := .ref (ad 24)) rfl dX5_jump_154 ?_
              refine lv_iload S.1 S.2.1 dX5_jump_157 (lv_at hl 0 rfl) ?_
              refine lv_aload_n S.1 S.2.1 dX5_jump_159 rfl (lv_at hl 1 rfl) ?_
              refine mr_get S K N 7 (by decide) k3_153 (v := .ref (ad 17)) rfl dX5_jump_160 ?_
              refine lv_aload_n S.1 S.2.1 dX5_jump_163 rfl (lv_at hl 1 rfl) ?_
              refine mr_get S K N 2 (by decide) k3_148 (v := .int (M 0 2)) rfl dX5_jump_164 ?_
              refine nt_i (y := nI g) (hg1) ?_
              refine mr_iald S K N 7 (by decide) (by decide) rfl (v := (M 7 g)) (vp_in_nI (show g < mlen 7 by show _ < 12; omega) (by decide)) ((congrArg ((up2 (up2 (up2 (up2 (up2 M 0 0 0) 0 0 0) 9 (12 * g + n) p0) 10 (12 * g + n) p1) 13 (12 * g + n) ((if p0 = 3 then ((if (M 0 4) = 1 then 1 else 0) : Int32) else ((if p0 = 4 then ((if (M 0 4) = 1 then 0 else 1) : Int32) else 0) : Int32)) : Int32)) 7) (nI_clamp (show g < 2 ^ 31 by omega))).trans rfl) dX5_jump_167 ?_
              refine lv_bipush (v := 120) S.1 S.2.1 dX5_jump_168 (by decide) ?_
              refine nj (J := 178) (V := ((if (M 7 g) < 120 then 0 else 1) : Int32)) (L := fun v170_9 => [(4, .int (nI (12 * g + n))), (0, .ref (ad 5)), (1, .int p0), (2, .int p1), (3, .int p2)]) (St := fun v170_9 => [.int v170_9, .int (nI (12 * g + n)), .ref (ad 24)]) (n := 5) (fun v170_9 ls h170_11 hl => ?_) (fun j170_10 => ?_)
              · try dsimp only at hl ⊢
                subst h170_11
                refine mr_zast S K N hS 14 (by decide) (by decide) rfl (vp_in_nI (show (12 * g + n) < mlen 14 by show _ < 144; omega) (by decide)) (by repeat (first | exact zb_0 | exact zb_1 | split)) (12 * g + n) (nI_clamp (show (12 * g + n) < 2 ^ 31 by omega)) dX5_jump_178 (fun H locs N hS => ?_)
                refine lv_aload_n S.1 S.2.1 dX5_jump_179 rfl (lv_at hl 1 rfl) ?_
                refine mr_get S K N 15 (by decide) k3_161 (v := .ref (ad 25)) rfl dX5_jump_180 ?_
                refine lv_iload S.1 S.2.1 dX5_jump_183 (lv_at hl 0 rfl) ?_
                refine lv_iload_n S.1 S.2.1 dX5_jump_185 rfl (lv_at hl 4 rfl) ?_
                refine mr_zast S K N hS 15 (by decide) (by decide) rfl (vp_in_nI (show (12 * g + n) < mlen 15 by show _ < 144; omega) (by decide)) (hz) (12 * g + n) (nI_clamp (show (12 * g + n) < 2 ^ 31 by omega)) dX5_jump_186 (fun H locs N hS => ?_)
                refine lv_aload_n S.1 S.2.1 dX5_jump_187 rfl (lv_at hl 1 rfl) ?_
                refine mr_get S K N 7 (by decide) k3_153 (v := .ref (ad 17)) rfl dX5_jump_188 ?_
                refine lv_aload_n S.1 S.2.1 dX5_jump_191 rfl (lv_at hl 1 rfl) ?_
                refine mr_get S K N 2 (by decide) k3_148 (v := .int (M 0 2)) rfl dX5_jump_192 ?_
                refine nt_i (y := nI g) (hg1) ?_
                refine lv_dup2_11 S.1 S.2.1 dX5_jump_195 rfl rfl ?_
                refine mr_iald S K N 7 (by decide) (by decide) rfl (v := (M 7 g)) (vp_in_nI (show g < mlen 7 by show _ < 12; omega) (by decide)) ((congrArg ((up2 (up2 (up2 (up2 (up2 (up2 (up2 M 0 0 0) 0 0 0) 9 (12 * g + n) p0) 10 (12 * g + n) p1) 13 (12 * g + n) ((if p0 = 3 then ((if (M 0 4) = 1 then 1 else 0) : Int32) else ((if p0 = 4 then ((if (M 0 4) = 1 then 0 else 1) : Int32) else 0) : Int32)) : Int32)) 14 (12 * g + n) ((if (M 7 g) < 120 then 0 else 1) : Int32)) 15 (12 * g + n) p2) 7) (nI_clamp (show g < 2 ^ 31 by omega))).trans rfl) dX5_jump_196 ?_
                refine lv_iconst (v := 4) S.1 S.2.1 dX5_jump_197 (by decide) ?_
                refine lv_iadd S.1 S.2.1 dX5_jump_198 ?_
                refine mr_iast S K N hS 7 (by decide) (by decide) rfl (vp_in_nI (show g < mlen 7 by show _ < 12; omega) (by decide)) g (nI_clamp (show g < 2 ^ 31 by omega)) dX5_jump_199 (fun H locs N hS => ?_)
                refine lv_aload_n S.1 S.2.1 dX5_jump_200 rfl (lv_at hl 1 rfl) ?_
                refine lv_iconst (v := 1) S.1 S.2.1 dX5_jump_201 (by decide) ?_
                refine lv_iconst (v := 1) S.1 S.2.1 dX5_jump_202 (by decide) ?_
                refine lv_iconst (v := 1) S.1 S.2.1 dX5_jump_203 (by decide) ?_
                refine mc_wV S K N hS rfl (As := [.int 1, .int 1, .int 1]) (m_X5_stands l (up2 (up2 (up2 (up2 (up2 (up2 (up2 (up2 M 0 0 0) 0 0 0) 9 (12 * g + n) p0) 10 (12 * g + n) p1) 13 (12 * g + n) ((if p0 = 3 then ((if (M 0 4) = 1 then 1 else 0) : Int32) else ((if p0 = 4 then ((if (M 0 4) = 1 then 0 else 1) : Int32) else 0) : Int32)) : Int32)) 14 (12 * g + n) ((if (M 7 g) < 120 then 0 else 1) : Int32)) 15 (12 * g + n) p2) 7 g ((M 7 g) + 4)) 1 1 1 N) k3_235 k3_237 kS_20 k1_3 k3_238 (num := 3) (by decide +kernel) rfl ⟨Nat.le_of_ble_eq_true rfl, Nat.le_of_ble_eq_true rfl⟩ hl.1 rfl (Nat.le_of_ble_eq_true rfl) dX5_jump_204 ⟨Nat.le_of_ble_eq_true rfl, Nat.le_of_ble_eq_true rfl⟩ (fun v9 H locs hP hS => ?_)
                obtain ⟨rfl, N⟩ := hP
                have N : mw D cA B dom ad X (up2 (up2 (up2 (up2 (up2 (up2 (up2 (up2 (up2 (up2 (up2 M 0 0 0) 0 0 0) 9 (12 * g + n) p0) 10 (12 * g + n) p1) 13 (12 * g + n) ((if p0 = 3 then ((if (M 0 4) = 1 then 1 else 0) : Int32) else ((if p0 = 4 then ((if (M 0 4) = 1 then 0 else 1) : Int32) else 0) : Int32)) : Int32)) 14 (12 * g + n) ((if (M 7 g) < 120 then 0 else 1) : Int32)) 15 (12 * g + n) p2) 7 g ((M 7 g) + 4)) 0 3 1) 0 4 1) 0 5 1) H := N
                refine W.eq (g2 := F0 m 207 ls []) rfl ?_
                refine lv_aload_n S.1 S.2.1 dX5_jump_207 rfl (lv_at hl 1 rfl) ?_
                refine mr_get S K N 8 (by decide) k3_154 (v := .ref (ad 18)) rfl dX5_jump_208 ?_
                refine lv_aload_n S.1 S.2.1 dX5_jump_211 rfl (lv_at hl 1 rfl) ?_
                refine mr_get S K N 2 (by decide) k3_148 (v := .int (M 0 2)) rfl dX5_jump_212 ?_
                refine nt_i (y := nI g) (hg1) ?_
                refine lv_dup2_11 S.1 S.2.1 dX5_jump_215 rfl rfl ?_
                refine mr_iald S K N 8 (by decide) (by decide) rfl (v := (M 8 g)) (vp_in_nI (show g < mlen 8 by show _ < 12; omega) (by decide)) ((congrArg ((up2 (up2 (up2 (up2 (up2 (up2 (up2 (up2 (up2 (up2 (up2 M 0 0 0) 0 0 0) 9 (12 * g + n) p0) 10 (12 * g + n) p1) 13 (12 * g + n) ((if p0 = 3 then ((if (M 0 4) = 1 then 1 else 0) : Int32) else ((if p0 = 4 then ((if (M 0 4) = 1 then 0 else 1) : Int32) else 0) : Int32)) : Int32)) 14 (12 * g + n) ((if (M 7 g) < 120 then 0 else 1) : Int32)) 15 (12 * g + n) p2) 7 g ((M 7 g) + 4)) 0 3 1) 0 4 1) 0 5 1) 8) (nI_clamp (show g < 2 ^ 31 by omega))).trans rfl) dX5_jump_216 ?_
                refine nt_i (y := nI n) (hn1) ?_
                refine lv_iconst (v := 1) S.1 S.2.1 dX5_jump_217 (by decide) ?_
                refine lv_iadd S.1 S.2.1 dX5_jump_218 ?_
                refine nt_i (y := nI (n + 1)) (nI_add n 1) ?_
                refine mr_iast S K N hS 8 (by decide) (by decide) rfl (vp_in_nI (show g < mlen 8 by show _ < 12; omega) (by decide)) g (nI_clamp (show g < 2 ^ 31 by omega)) dX5_jump_219 (fun H locs N hS => ?_)
                refine lv_aload_n S.1 S.2.1 dX5_jump_220 rfl (lv_at hl 1 rfl) ?_
                refine mr_get S K N 8 (by decide) k3_154 (v := .ref (ad 18)) rfl dX5_jump_221 ?_
                refine lv_aload_n S.1 S.2.1 dX5_jump_224 rfl (lv_at hl 1 rfl) ?_
                refine mr_get S K N 2 (by decide) k3_148 (v := .int (M 0 2)) rfl dX5_jump_225 ?_
                refine nt_i (y := nI g) (hg1) ?_
                refine mr_iald S K N 8 (by decide) (by decide) rfl (v := (nI (n + 1))) (vp_in_nI (show g < mlen 8 by show _ < 12; omega) (by decide)) ((congrArg ((up2 (up2 (up2 (up2 (up2 (up2 (up2 (up2 (up2 (up2 (up2 (up2 M 0 0 0) 0 0 0) 9 (12 * g + n) p0) 10 (12 * g + n) p1) 13 (12 * g + n) ((if p0 = 3 then ((if (M 0 4) = 1 then 1 else 0) : Int32) else ((if p0 = 4 then ((if (M 0 4) = 1 then 0 else 1) : Int32) else 0) : Int32)) : Int32)) 14 (12 * g + n) ((if (M 7 g) < 120 then 0 else 1) : Int32)) 15 (12 * g + n) p2) 7 g ((M 7 g) + 4)) 0 3 1) 0 4 1) 0 5 1) 8 g (nI (n + 1))) 8) (nI_clamp (show g < 2 ^ 31 by omega))).trans (by simp [up2])) dX5_jump_228 ?_
                refine lv_iconst (v := 1) S.1 S.2.1 dX5_jump_229 (by decide) ?_
                refine lv_isub S.1 S.2.1 dX5_jump_230 ?_
                exact ne_wI S hS hr hlk ⟨congrArg (fun z => some (Value.int z)) (Eq.symm (by unfold f_X5_jump; first | (rw [if_neg c7_1, if_neg c16_2, if_neg c39_3, if_neg c53_4, if_neg c61_5]; done) | (simp only [if_neg c7_1, if_neg c16_2, if_neg c39_3, if_neg c53_4, if_neg c61_5]; done) | rfl)), (by unfold g_X5_jump; first | (rw [if_neg c7_1, if_neg c16_2, if_neg c39_3, if_neg c53_4, if_neg c61_5]; exact N) | (simp only [if_neg c7_1, if_neg c16_2, if_neg c39_3, if_neg c53_4, if_neg c61_5]; exact N) | exact N)⟩ dX5_jump_231
              · refine lv_icmp_lt (tgt := 177) S.1 S.2.1 dX5_jump_170 (by decide) (fun c170_12 => ?_) (fun c170_12 => ?_)
                · refine lv_iconst (v := 0) S.1 S.2.1 dX5_jump_177 (by decide) ?_
                  exact j170_10 _ _ (by first | (rw [if_pos c170_12]; done) | (simp only [if_pos c170_12]; done) | rfl) (lv_sub hl [0, 1, 2, 3, 4] rfl)
                · refine lv_iconst (v := 1) S.1 S.2.1 dX5_jump_173 (by decide) ?_
                  refine lv_goto (tgt := 178) S.1 S.2.1 dX5_jump_174 (by decide) ?_
                  exact j170_10 _ _ (by first | (rw [if_neg c170_12]; done) | (simp only [if_neg c170_12]; done) | rfl) (lv_sub hl [0, 1, 2, 3, 4] rfl)
            · refine lv_icmp_ne (tgt := 134) S.1 S.2.1 dX5_jump_123 (by decide) (fun c123_13 => ?_) (fun c123_13 => ?_)
              · refine lv_iload_n S.1 S.2.1 dX5_jump_134 rfl (lv_at hl 2 rfl) ?_
                refine lv_iconst (v := 4) S.1 S.2.1 dX5_jump_135 (by decide) ?_
                refine lv_icmp_ne (tgt := 151) S.1 S.2.1 dX5_jump_136 (by decide) (fun c136_14 => ?_) (fun c136_14 => ?_)
                · refine lv_iconst (v := 0) S.1 S.2.1 dX5_jump_151 (by decide) ?_
                  exact j123_7 _ _ (by first | (rw [if_neg c123_13, if_neg c136_14]; done) | (simp only [if_neg c123_13, if_neg c136_14]; done) | rfl) (lv_sub hl [0, 1, 2, 3, 4] rfl)
                · refine lv_aload_n S.1 S.2.1 dX5_jump_139 rfl (lv_at hl 1 rfl) ?_
                  refine mr_get S K N 4 (by decide) k3_150 (v := .int (M 0 4)) rfl dX5_jump_140 ?_
                  refine lv_iconst (v := 1) S.1 S.2.1 dX5_jump_143 (by decide) ?_
                  refine lv_icmp_eq (tgt := 151) S.1 S.2.1 dX5_jump_144 (by decide) (fun c144_15 => ?_) (fun c144_15 => ?_)
                  · refine lv_iconst (v := 0) S.1 S.2.1 dX5_jump_151 (by decide) ?_
                    exact j123_7 _ _ (by first | (rw [if_neg c123_13, if_pos c136_14, if_pos c144_15]; done) | (simp only [if_neg c123_13, if_pos c136_14, if_pos c144_15]; done) | rfl) (lv_sub hl [0, 1, 2, 3, 4] rfl)
                  · refine lv_iconst (v := 1) S.1 S.2.1 dX5_jump_147 (by decide) ?_
                    refine lv_goto (tgt := 152) S.1 S.2.1 dX5_jump_148 (by decide) ?_
                    exact j123_7 _ _ (by first | (rw [if_neg c123_13, if_pos c136_14, if_neg c144_15]; done) | (simp only [if_neg c123_13, if_pos c136_14, if_neg c144_15]; done) | rfl) (lv_sub hl [0, 1, 2, 3, 4] rfl)
              · refine lv_aload_n S.1 S.2.1 dX5_jump_126 rfl (lv_at hl 1 rfl) ?_
                refine mr_get S K N 4 (by decide) k3_150 (v := .int (M 0 4)) rfl dX5_jump_127 ?_
                refine lv_iconst (v := 1) S.1 S.2.1 dX5_jump_130 (by decide) ?_
                refine lv_icmp_eq (tgt := 147) S.1 S.2.1 dX5_jump_131 (by decide) (fun c131_16 => ?_) (fun c131_16 => ?_)
                · refine lv_iconst (v := 1) S.1 S.2.1 dX5_jump_147 (by decide) ?_
                  refine lv_goto (tgt := 152) S.1 S.2.1 dX5_jump_148 (by decide) ?_
                  exact j123_7 _ _ (by first | (rw [if_pos c123_13, if_pos c131_16]; done) | (simp only [if_pos c123_13, if_pos c131_16]; done) | rfl) (lv_sub hl [0, 1, 2, 3, 4] rfl)
                · refine lv_iload_n S.1 S.2.1 dX5_jump_134 rfl (lv_at hl 2 rfl) ?_
                  refine lv_iconst (v := 4) S.1 S.2.1 dX5_jump_135 (by decide) ?_
                  refine lv_icmp_ne (tgt := 151) S.1 S.2.1 dX5_jump_136 (by decide) (fun _ => ?_) (fun c9 => absurd c9 (((fun c9 => absurd ((c123_13).symm.trans c9) (by decide)) : ¬ p0 = 4)))
                  refine lv_iconst (v := 0) S.1 S.2.1 dX5_jump_151 (by decide) ?_
                  exact j123_7 _ _ (by first | (rw [if_pos c123_13, if_neg c131_16]; done) | (simp only [if_pos c123_13, if_neg c131_16]; done) | rfl) (lv_sub hl [0, 1, 2, 3, 4] rfl)
    · refine lv_iconst (v := 1) S.1 S.2.1 dX5_jump_19 (by decide) ?_
      refine lv_goto (tgt := 24) S.1 S.2.1 dX5_jump_20 (by decide) ?_
      refine mr_put S K N hS 0 (by decide) (by unfold mscal; omega) k3_146 rfl rfl dX5_jump_24 (fun H locs N hS => ?_)
      refine lv_aload_n S.1 S.2.1 dX5_jump_27 rfl (lv_at hl 0 rfl) ?_
      refine mr_get S K N 0 (by decide) k3_146 (v := .int 1) rfl dX5_jump_28 ?_
      refine lv_if_ne (tgt := 72) S.1 S.2.1 dX5_jump_31 (by decide) (fun _ => ?_) (fun c9 => absurd c9 (by decide))
      refine lv_aload_n S.1 S.2.1 dX5_jump_72 rfl (lv_at hl 0 rfl) ?_
      refine mr_get S K N 0 (by decide) k3_146 (v := .int 1) rfl dX5_jump_73 ?_
      refine lv_if_le (tgt := 81) S.1 S.2.1 dX5_jump_76 (by decide) (fun c9 => absurd c9 (by decide)) (fun _ => ?_)
      refine lv_iconst (v := 0) S.1 S.2.1 dX5_jump_79 (by decide) ?_
      exact ne_wI S hS hr hlk ⟨congrArg (fun z => some (Value.int z)) (Eq.symm (by unfold f_X5_jump; first | (rw [if_neg c7_1, if_pos c16_2]; done) | (simp only [if_neg c7_1, if_pos c16_2]; done) | rfl)), (by unfold g_X5_jump; first | (rw [if_neg c7_1, if_pos c16_2]; exact N) | (simp only [if_neg c7_1, if_pos c16_2]; exact N) | exact N)⟩ dX5_jump_80

def it79_X5_spin (M : Nat → Nat → Int32) (p0 : Int32) (p1 : Int32) (g : Nat) (n : Nat) : Nat → Int32
  | 0 => 0
  | n79 + 1 => ((it79_X5_spin M p0 p1 g n n79) ||| ((if (M 9 (12 * g + n79)) = 6 then ((if (M 10 (12 * g + n79)) ≤ 0 then 0 else (M 11 (12 * g + n79))) : Int32) else 0) : Int32))
def it156_X5_spin (M : Nat → Nat → Int32) (p0 : Int32) (p1 : Int32) (g : Nat) (n : Nat) : Nat → Int32
  | 0 => 0
  | n156 + 1 => ((it156_X5_spin M p0 p1 g n n156) + ((if ((if ((p0 >>> ((nI n156) &&& 31)) &&& 1) = 1 then ((if (((it79_X5_spin M p0 p1 g n n) >>> ((nI n156) &&& 31)) &&& 1) = 0 then 1 else 0) : Int32) else 0) : Int32) = 0 then 0 else ((if 4 ≤ (it156_X5_spin M p0 p1 g n n156) then 0 else 1) : Int32)) : Int32))
def f_X5_spin (M : Nat → Nat → Int32) (p0 : Int32) (p1 : Int32) (g : Nat) (n : Nat) : Int32 :=
  if (f_X5_in p0 0 63) = 0 then 0
  else if (f_X5_in p1 1 20) = 0 then 0
  else if (f_X5_isOpen M) = 0 then 0
  else if 12 ≤ (nI n) then 0
  else if p1 < 6 then (nI n)
  else (nI n)
def g_X5_spin (M : Nat → Nat → Int32) (p0 : Int32) (p1 : Int32) (g : Nat) (n : Nat) : Nat → Nat → Int32 :=
  if (f_X5_in p0 0 63) = 0 then (up2 M 0 0 1)
  else if (f_X5_in p1 1 20) = 0 then (up2 M 0 0 1)
  else if (f_X5_isOpen M) = 0 then (up2 M 0 0 2)
  else if 12 ≤ (nI n) then (up2 M 0 0 2)
  else if p1 < 6 then (up2 (up2 (up2 (up2 (up2 (up2 (up2 (up2 (up2 M 0 0 0) 9 (12 * g + n) 6) 10 (12 * g + n) 0) 11 (12 * g + n) p0) 7 g ((M 7 g) + 10)) 0 3 0) 0 4 1) 0 5 1) 8 g (nI (n + 1)))
  else (up2 (up2 (up2 (up2 (up2 (up2 (up2 (up2 (up2 M 0 0 0) 9 (12 * g + n) 6) 10 (12 * g + n) (it156_X5_spin M p0 p1 g n 6)) 11 (12 * g + n) p0) 7 g ((M 7 g) + 10)) 0 3 0) 0 4 1) 0 5 1) 8 g (nI (n + 1)))
set_option maxHeartbeats 4000000 in
set_option maxRecDepth 100000 in
theorem m_X5_spin {D : va_G} {cA : Nat → ClassId} {B : Nat} (l : Launch) {dom : Nat → Prop} {ad : Nat → Nat} {X : Nat → va_E} {H0 : Heap} (M : Nat → Nat → Int32) (p0 : Int32) (p1 : Int32) (g : Nat) (n : Nat) (N : mw D cA B dom ad X M H0) (hg : ¬ M 0 2 = (-1) → vp_in (M 0 2) 12) (hop : ¬ f_X5_isOpen M = 0 → M 0 2 = nI g ∧ g < 12 ∧ M 8 g = nI n ∧ n ≤ 12) : MetW D cA B l yX5_spin cX5_spin 8 (some .int) 1 23 0 0 [.ref (ad 5), .int p0, .int p1] H0 (fun o h => o = some (.int (f_X5_spin M p0 p1 g n)) ∧ mw D cA B dom ad X (g_X5_spin M p0 p1 g n) h) := by
  refine MetW.of (by decide) (Nat.le_of_ble_eq_true rfl) ?_
  intro p e s m args below meth c S hr hlk hin hh K ls hl
  subst hh
  have hS : va_S (fun q => B ≤ q) s.heap s.heap [] := va_S.rf
  have hl : lv_has ls 8 [(0, .ref (ad 5)), (1, .int p0), (2, .int p1)] := hl
  refine lv_aload_n S.1 S.2.1 dX5_spin_0 rfl (lv_at hl 0 rfl) ?_
  refine lv_iload_n S.1 S.2.1 dX5_spin_1 rfl (lv_at hl 1 rfl) ?_
  refine lv_iconst (v := 0) S.1 S.2.1 dX5_spin_2 (by decide) ?_
  refine lv_bipush (v := 63) S.1 S.2.1 dX5_spin_3 (by decide) ?_
  refine nc_rS S K hS (As := [.int p0, .int 0, .int 63]) (m_X5_in l p0 0 63) k3_232 k3_233 k1_3 k3_234 (num := 3) (by decide +kernel) rfl ⟨Nat.le_of_ble_eq_true rfl, Nat.le_of_ble_eq_true rfl⟩ hl.1 rfl (Nat.le_of_ble_eq_true rfl) dX5_spin_5 ⟨Nat.le_of_ble_eq_true rfl, Nat.le_of_ble_eq_true rfl⟩ ?_
  refine lv_if_eq (tgt := 21) S.1 S.2.1 dX5_spin_8 (by decide) (fun c8_1 => ?_) (fun c8_1 => ?_)
  · refine lv_iconst (v := 1) S.1 S.2.1 dX5_spin_21 (by decide) ?_
    refine lv_goto (tgt := 51) S.1 S.2.1 dX5_spin_22 (by decide) ?_
    refine mr_put S K N hS 0 (by decide) (by unfold mscal; omega) k3_146 rfl rfl dX5_spin_51 (fun H locs N hS => ?_)
    refine lv_aload_n S.1 S.2.1 dX5_spin_54 rfl (lv_at hl 0 rfl) ?_
    refine mr_get S K N 0 (by decide) k3_146 (v := .int 1) rfl dX5_spin_55 ?_
    refine lv_if_le (tgt := 63) S.1 S.2.1 dX5_spin_58 (by decide) (fun c9 => absurd c9 (by decide)) (fun _ => ?_)
    refine lv_iconst (v := 0) S.1 S.2.1 dX5_spin_61 (by decide) ?_
    exact ne_wI S hS hr hlk ⟨congrArg (fun z => some (Value.int z)) (Eq.symm (by unfold f_X5_spin; first | (rw [if_pos c8_1]; done) | (simp only [if_pos c8_1]; done) | rfl)), (by unfold g_X5_spin; first | (rw [if_pos c8_1]; exact N) | (simp only [if_pos c8_1]; exact N) | exact N)⟩ dX5_spin_62
  · refine lv_iload_n S.1 S.2.1 dX5_spin_11 rfl (lv_at hl 2 rfl) ?_
    refine lv_iconst (v := 1) S.1 S.2.1 dX5_spin_12 (by decide) ?_
    refine lv_bipush (v := 20) S.1 S.2.1 dX5_spin_13 (by decide) ?_
    refine nc_rS S K hS (As := [.int p1, .int 1, .int 20]) (m_X5_in l p1 1 20) k3_232 k3_233 k1_3 k3_234 (num := 3) (by decide +kernel) rfl ⟨Nat.le_of_ble_eq_true rfl, Nat.le_of_ble_eq_true rfl⟩ hl.1 rfl (Nat.le_of_ble_eq_true rfl) dX5_spin_15 ⟨Nat.le_of_ble_eq_true rfl, Nat.le_of_ble_eq_true rfl⟩ ?_
    refine lv_if_ne (tgt := 25) S.1 S.2.1 dX5_spin_18 (by decide) (fun c18_2 => ?_) (fun c18_2 => ?_)
    · refine lv_aload_n S.1 S.2.1 dX5_spin_25 rfl (lv_at hl 0 rfl) ?_
      refine mc_rV S K N hS rfl (As := []) (m_X5_isOpen l M N hg) k4_3 k4_5 kS_21 k1_3 k4_6 (num := 0) (by decide +kernel) rfl ⟨Nat.le_of_ble_eq_true rfl, Nat.le_of_ble_eq_true rfl⟩ hl.1 rfl (Nat.le_of_ble_eq_true rfl) dX5_spin_26 ⟨Nat.le_of_ble_eq_true rfl, Nat.le_of_ble_eq_true rfl⟩ ?_
      refine lv_if_eq (tgt := 50) S.1 S.2.1 dX5_spin_29 (by decide) (fun c29_3 => ?_) (fun c29_3 => ?_)
      · refine lv_iconst (v := 2) S.1 S.2.1 dX5_spin_50 (by decide) ?_
        refine mr_put S K N hS 0 (by decide) (by unfold mscal; omega) k3_146 rfl rfl dX5_spin_51 (fun H locs N hS => ?_)
        refine lv_aload_n S.1 S.2.1 dX5_spin_54 rfl (lv_at hl 0 rfl) ?_
        refine mr_get S K N 0 (by decide) k3_146 (v := .int 2) rfl dX5_spin_55 ?_
        refine lv_if_le (tgt := 63) S.1 S.2.1 dX5_spin_58 (by decide) (fun c9 => absurd c9 (by decide)) (fun _ => ?_)
        refine lv_iconst (v := 0) S.1 S.2.1 dX5_spin_61 (by decide) ?_
        exact ne_wI S hS hr hlk ⟨congrArg (fun z => some (Value.int z)) (Eq.symm (by unfold f_X5_spin; first | (rw [if_neg c8_1, if_neg c18_2, if_pos c29_3]; done) | (simp only [if_neg c8_1, if_neg c18_2, if_pos c29_3]; done) | rfl)), (by unfold g_X5_spin; first | (rw [if_neg c8_1, if_neg c18_2, if_pos c29_3]; exact N) | (simp only [if_neg c8_1, if_neg c18_2, if_pos c29_3]; exact N) | exact N)⟩ dX5_spin_62
      · obtain ⟨hg1, hg2, hn1, hn2⟩ := hop c29_3
        refine lv_aload_n S.1 S.2.1 dX5_spin_32 rfl (lv_at hl 0 rfl) ?_
        refine mr_get S K N 8 (by decide) k3_154 (v := .ref (ad 18)) rfl dX5_spin_33 ?_
        refine lv_aload_n S.1 S.2.1 dX5_spin_36 rfl (lv_at hl 0 rfl) ?_
        refine mr_get S K N 2 (by decide) k3_148 (v := .int (M 0 2)) rfl dX5_spin_37 ?_
        refine nt_i (y := nI g) (hg1) ?_
        refine mr_iald S K N 8 (by decide) (by decide) rfl (v := (M 8 g)) (vp_in_nI (show g < mlen 8 by show _ < 12; omega) (by decide)) (congrArg (M 8) (nI_clamp (show g < 2 ^ 31 by omega))) dX5_spin_40 ?_
        refine nt_i (y := nI n) (hn1) ?_
        refine lv_bipush (v := 12) S.1 S.2.1 dX5_spin_41 (by decide) ?_
        refine lv_icmp_ge (tgt := 50) S.1 S.2.1 dX5_spin_43 (by decide) (fun c43_4 => ?_) (fun c43_4 => ?_)
        · refine lv_iconst (v := 2) S.1 S.2.1 dX5_spin_50 (by decide) ?_
          refine mr_put S K N hS 0 (by decide) (by unfold mscal; omega) k3_146 rfl rfl dX5_spin_51 (fun H locs N hS => ?_)
          refine lv_aload_n S.1 S.2.1 dX5_spin_54 rfl (lv_at hl 0 rfl) ?_
          refine mr_get S K N 0 (by decide) k3_146 (v := .int 2) rfl dX5_spin_55 ?_
          refine lv_if_le (tgt := 63) S.1 S.2.1 dX5_spin_58 (by decide) (fun c9 => absurd c9 (by decide)) (fun _ => ?_)
          refine lv_iconst (v := 0) S.1 S.2.1 dX5_spin_61 (by decide) ?_
          exact ne_wI S hS hr hlk ⟨congrArg (fun z => some (Value.int z)) (Eq.symm (by unfold f_X5_spin; first | (rw [if_neg c8_1, if_neg c18_2, if_neg c29_3, if_pos c43_4]; done) | (simp only [if_neg c8_1, if_neg c18_2, if_neg c29_3, if_pos c43_4]; done) | rfl)), (by unfold g_X5_spin; first | (rw [if_neg c8_1, if_neg c18_2, if_neg c29_3, if_pos c43_4]; exact N) | (simp only [if_neg c8_1, if_neg c18_2, if_neg c29_3, if_pos c43_4]; exact N) | exact N)⟩ dX5_spin_62
        · have hn3 := nlt_nat (a := 12) c43_4 (by omega)
          refine lv_iconst (v := 0) S.1 S.2.1 dX5_spin_46 (by decide) ?_
          refine lv_goto (tgt := 51) S.1 S.2.1 dX5_spin_47 (by decide) ?_
          refine mr_put S K N hS 0 (by decide) (by unfold mscal; omega) k3_146 rfl rfl dX5_spin_51 (fun H locs N hS => ?_)
          refine lv_aload_n S.1 S.2.1 dX5_spin_54 rfl (lv_at hl 0 rfl) ?_
          refine mr_get S K N 0 (by decide) k3_146 (v := .int 0) rfl dX5_spin_55 ?_
          refine lv_if_le (tgt := 63) S.1 S.2.1 dX5_spin_58 (by decide) (fun _ => ?_) (fun c9 => absurd (by decide) c9)
          refine lv_aload_n S.1 S.2.1 dX5_spin_63 rfl (lv_at hl 0 rfl) ?_
          refine mr_get S K N 8 (by decide) k3_154 (v := .ref (ad 18)) rfl dX5_spin_64 ?_
          refine lv_aload_n S.1 S.2.1 dX5_spin_67 rfl (lv_at hl 0 rfl) ?_
          refine mr_get S K N 2 (by decide) k3_148 (v := .int (M 0 2)) rfl dX5_spin_68 ?_
          refine nt_i (y := nI g) (hg1) ?_
          refine mr_iald S K N 8 (by decide) (by decide) rfl (v := (M 8 g)) (vp_in_nI (show g < mlen 8 by show _ < 12; omega) (by decide)) ((congrArg ((up2 M 0 0 0) 8) (nI_clamp (show g < 2 ^ 31 by omega))).trans rfl) dX5_spin_71 ?_
          refine nt_i (y := nI n) (hn1) ?_
          refine lv_istore_n (lv' := [(3, .int (nI n)), (0, .ref (ad 5)), (1, .int p0), (2, .int p1)]) S.1 S.2.1 dX5_spin_72 rfl hl (by decide) rfl (fun ls hl => ?_)
          refine lv_iconst (v := 0) S.1 S.2.1 dX5_spin_73 (by decide) ?_
          refine lv_istore (lv' := [(4, .int 0), (3, .int (nI n)), (0, .ref (ad 5)), (1, .int p0), (2, .int p1)]) S.1 S.2.1 dX5_spin_74 hl (by decide) rfl (fun ls hl => ?_)
          refine lv_iconst (v := 0) S.1 S.2.1 dX5_spin_76 (by decide) ?_
          refine lv_istore (lv' := [(5, .int 0), (4, .int 0), (3, .int (nI n)), (0, .ref (ad 5)), (1, .int p0), (2, .int p1)]) S.1 S.2.1 dX5_spin_77 hl (by decide) rfl (fun ls hl => ?_)
          refine nl (h := 79) (N := n) (n := 8) (L := fun i79 : Nat => [(5, .int (nI i79)), (4, .int (it79_X5_spin M p0 p1 g n i79)), (3, .int (nI n)), (0, .ref (ad 5)), (1, .int p0), (2, .int p1)]) (fun ls hl => ?_) (fun i79 hi79 ih79 ls hl => ?_) ls (lv_sub hl [0, 1, 2, 3, 4, 5] rfl)
          · try dsimp only at hl
            refine lv_iload S.1 S.2.1 dX5_spin_79 (lv_at hl 0 rfl) ?_
            refine lv_iload_n S.1 S.2.1 dX5_spin_81 rfl (lv_at hl 2 rfl) ?_
            refine lv_icmp_ge (tgt := 150) S.1 S.2.1 dX5_spin_82 (by decide) (fun _ => ?_) (fun c9 => absurd (nI_le (Nat.le_refl _) (by first | omega | decide)) c9)
            refine lv_iconst (v := 0) S.1 S.2.1 dX5_spin_150 (by decide) ?_
            refine lv_istore (lv' := [(5, .int 0), (4, .int (it79_X5_spin M p0 p1 g n n)), (3, .int (nI n)), (0, .ref (ad 5)), (1, .int p0), (2, .int p1)]) S.1 S.2.1 dX5_spin_151 hl (by decide) rfl (fun ls hl => ?_)
            refine lv_iconst (v := 0) S.1 S.2.1 dX5_spin_153 (by decide) ?_
            refine lv_istore (lv' := [(6, .int 0), (5, .int 0), (4, .int (it79_X5_spin M p0 p1 g n n)), (3, .int (nI n)), (0, .ref (ad 5)), (1, .int p0), (2, .int p1)]) S.1 S.2.1 dX5_spin_154 hl (by decide) rfl (fun ls hl => ?_)
            by_cases hrd : p1 < 6
            · refine lv_iload S.1 S.2.1 dX5_spin_156 (lv_at hl 0 rfl) ?_
              refine lv_bipush (v := 6) S.1 S.2.1 dX5_spin_158 (by decide) ?_
              refine lv_icmp_ge (tgt := 223) S.1 S.2.1 dX5_spin_160 (by decide) (fun c9 => absurd c9 (by decide)) (fun _ => ?_)
              refine lv_iload_n S.1 S.2.1 dX5_spin_163 rfl (lv_at hl 6 rfl) ?_
              refine lv_bipush (v := 6) S.1 S.2.1 dX5_spin_164 (by decide) ?_
              refine lv_icmp_lt (tgt := 223) S.1 S.2.1 dX5_spin_166 (by decide) (fun _ => ?_) (fun c9 => absurd (hrd) c9)
              refine lv_aload_n S.1 S.2.1 dX5_spin_223 rfl (lv_at hl 4 rfl) ?_
              refine mr_get S K N 9 (by decide) k3_155 (v := .ref (ad 19)) rfl dX5_spin_224 ?_
              refine lv_aload_n S.1 S.2.1 dX5_spin_227 rfl (lv_at hl 4 rfl) ?_
              refine mr_get S K N 2 (by decide) k3_148 (v := .int (M 0 2)) rfl dX5_spin_228 ?_
              refine nt_i (y := nI g) (hg1) ?_
              refine lv_iload_n S.1 S.2.1 dX5_spin_231 rfl (lv_at hl 3 rfl) ?_
              refine nc_rS S K hS (As := [.int (nI g), .int (nI n)]) (m_X5_at l g n) k4_15 k4_16 k1_3 k4_17 (num := 2) (by decide +kernel) rfl ⟨Nat.le_of_ble_eq_true rfl, Nat.le_of_ble_eq_true rfl⟩ hl.1 rfl (Nat.le_of_ble_eq_true rfl) dX5_spin_232 ⟨Nat.le_of_ble_eq_true rfl, Nat.le_of_ble_eq_true rfl⟩ ?_
              refine nt_i (y := nI (12 * g + n)) (rfl) ?_
              refine lv_bipush (v := 6) S.1 S.2.1 dX5_spin_235 (by decide) ?_
              refine mr_iast S K N hS 9 (by decide) (by decide) rfl (vp_in_nI (show (12 * g + n) < mlen 9 by show _ < 144; omega) (by decide)) (12 * g + n) (nI_clamp (show (12 * g + n) < 2 ^ 31 by omega)) dX5_spin_237 (fun H locs N hS => ?_)
              refine lv_aload_n S.1 S.2.1 dX5_spin_238 rfl (lv_at hl 4 rfl) ?_
              refine mr_get S K N 10 (by decide) k3_156 (v := .ref (ad 20)) rfl dX5_spin_239 ?_
              refine lv_aload_n S.1 S.2.1 dX5_spin_242 rfl (lv_at hl 4 rfl) ?_
              refine mr_get S K N 2 (by decide) k3_148 (v := .int (M 0 2)) rfl dX5_spin_243 ?_
              refine nt_i (y := nI g) (hg1) ?_
              refine lv_iload_n S.1 S.2.1 dX5_spin_246 rfl (lv_at hl 3 rfl) ?_
              refine nc_rS S K hS (As := [.int (nI g), .int (nI n)]) (m_X5_at l g n) k4_15 k4_16 k1_3 k4_17 (num := 2) (by decide +kernel) rfl ⟨Nat.le_of_ble_eq_true rfl, Nat.le_of_ble_eq_true rfl⟩ hl.1 rfl (Nat.le_of_ble_eq_true rfl) dX5_spin_247 ⟨Nat.le_of_ble_eq_true rfl, Nat.le_of_ble_eq_true rfl⟩ ?_
              refine nt_i (y := nI (12 * g + n)) (rfl) ?_
              refine lv_iload S.1 S.2.1 dX5_spin_250 (lv_at hl 1 rfl) ?_
              refine mr_iast S K N hS 10 (by decide) (by decide) rfl (vp_in_nI (show (12 * g + n) < mlen 10 by show _ < 144; omega) (by decide)) (12 * g + n) (nI_clamp (show (12 * g + n) < 2 ^ 31 by omega)) dX5_spin_252 (fun H locs N hS => ?_)
              refine lv_aload_n S.1 S.2.1 dX5_spin_253 rfl (lv_at hl 4 rfl) ?_
              refine mr_get S K N 11 (by decide) k3_157 (v := .ref (ad 21)) rfl dX5_spin_254 ?_
              refine lv_aload_n S.1 S.2.1 dX5_spin_257 rfl (lv_at hl 4 rfl) ?_
              refine mr_get S K N 2 (by decide) k3_148 (v := .int (M 0 2)) rfl dX5_spin_258 ?_
              refine nt_i (y := nI g) (hg1) ?_
              refine lv_iload_n S.1 S.2.1 dX5_spin_261 rfl (lv_at hl 3 rfl) ?_
              refine nc_rS S K hS (As := [.int (nI g), .int (nI n)]) (m_X5_at l g n) k4_15 k4_16 k1_3 k4_17 (num := 2) (by decide +kernel) rfl ⟨Nat.le_of_ble_eq_true rfl, Nat.le_of_ble_eq_true rfl⟩ hl.1 rfl (Nat.le_of_ble_eq_true rfl) dX5_spin_262 ⟨Nat.le_of_ble_eq_true rfl, Nat.le_of_ble_eq_true rfl⟩ ?_
              refine nt_i (y := nI (12 * g + n)) (rfl) ?_
              refine lv_iload_n S.1 S.2.1 dX5_spin_265 rfl (lv_at hl 5 rfl) ?_
              refine mr_iast S K N hS 11 (by decide) (by decide) rfl (vp_in_nI (show (12 * g + n) < mlen 11 by show _ < 144; omega) (by decide)) (12 * g + n) (nI_clamp (show (12 * g + n) < 2 ^ 31 by omega)) dX5_spin_266 (fun H locs N hS => ?_)
              refine lv_aload_n S.1 S.2.1 dX5_spin_267 rfl (lv_at hl 4 rfl) ?_
              refine mr_get S K N 7 (by decide) k3_153 (v := .ref (ad 17)) rfl dX5_spin_268 ?_
              refine lv_aload_n S.1 S.2.1 dX5_spin_271 rfl (lv_at hl 4 rfl) ?_
              refine mr_get S K N 2 (by decide) k3_148 (v := .int (M 0 2)) rfl dX5_spin_272 ?_
              refine nt_i (y := nI g) (hg1) ?_
              refine lv_dup2_11 S.1 S.2.1 dX5_spin_275 rfl rfl ?_
              refine mr_iald S K N 7 (by decide) (by decide) rfl (v := (M 7 g)) (vp_in_nI (show g < mlen 7 by show _ < 12; omega) (by decide)) ((congrArg ((up2 (up2 (up2 (up2 M 0 0 0) 9 (12 * g + n) 6) 10 (12 * g + n) 0) 11 (12 * g + n) p0) 7) (nI_clamp (show g < 2 ^ 31 by omega))).trans rfl) dX5_spin_276 ?_
              refine lv_bipush (v := 10) S.1 S.2.1 dX5_spin_277 (by decide) ?_
              refine lv_iadd S.1 S.2.1 dX5_spin_279 ?_
              refine mr_iast S K N hS 7 (by decide) (by decide) rfl (vp_in_nI (show g < mlen 7 by show _ < 12; omega) (by decide)) g (nI_clamp (show g < 2 ^ 31 by omega)) dX5_spin_280 (fun H locs N hS => ?_)
              refine lv_aload_n S.1 S.2.1 dX5_spin_281 rfl (lv_at hl 4 rfl) ?_
              refine lv_iconst (v := 0) S.1 S.2.1 dX5_spin_282 (by decide) ?_
              refine lv_iconst (v := 1) S.1 S.2.1 dX5_spin_283 (by decide) ?_
              refine lv_iconst (v := 1) S.1 S.2.1 dX5_spin_284 (by decide) ?_
              refine mc_wV S K N hS rfl (As := [.int 0, .int 1, .int 1]) (m_X5_stands l (up2 (up2 (up2 (up2 (up2 M 0 0 0) 9 (12 * g + n) 6) 10 (12 * g + n) 0) 11 (12 * g + n) p0) 7 g ((M 7 g) + 10)) 0 1 1 N) k3_235 k3_237 kS_20 k1_3 k3_238 (num := 3) (by decide +kernel) rfl ⟨Nat.le_of_ble_eq_true rfl, Nat.le_of_ble_eq_true rfl⟩ hl.1 rfl (Nat.le_of_ble_eq_true rfl) dX5_spin_285 ⟨Nat.le_of_ble_eq_true rfl, Nat.le_of_ble_eq_true rfl⟩ (fun v9 H locs hP hS => ?_)
              obtain ⟨rfl, N⟩ := hP
              have N : mw D cA B dom ad X (up2 (up2 (up2 (up2 (up2 (up2 (up2 (up2 M 0 0 0) 9 (12 * g + n) 6) 10 (12 * g + n) 0) 11 (12 * g + n) p0) 7 g ((M 7 g) + 10)) 0 3 0) 0 4 1) 0 5 1) H := N
              refine W.eq (g2 := F0 m 288 ls []) rfl ?_
              refine lv_aload_n S.1 S.2.1 dX5_spin_288 rfl (lv_at hl 4 rfl) ?_
              refine mr_get S K N 8 (by decide) k3_154 (v := .ref (ad 18)) rfl dX5_spin_289 ?_
              refine lv_aload_n S.1 S.2.1 dX5_spin_292 rfl (lv_at hl 4 rfl) ?_
              refine mr_get S K N 2 (by decide) k3_148 (v := .int (M 0 2)) rfl dX5_spin_293 ?_
              refine nt_i (y := nI g) (hg1) ?_
              refine lv_dup2_11 S.1 S.2.1 dX5_spin_296 rfl rfl ?_
              refine mr_iald S K N 8 (by decide) (by decide) rfl (v := (M 8 g)) (vp_in_nI (show g < mlen 8 by show _ < 12; omega) (by decide)) ((congrArg ((up2 (up2 (up2 (up2 (up2 (up2 (up2 (up2 M 0 0 0) 9 (12 * g + n) 6) 10 (12 * g + n) 0) 11 (12 * g + n) p0) 7 g ((M 7 g) + 10)) 0 3 0) 0 4 1) 0 5 1) 8) (nI_clamp (show g < 2 ^ 31 by omega))).trans rfl) dX5_spin_297 ?_
              refine nt_i (y := nI n) (hn1) ?_
              refine lv_iconst (v := 1) S.1 S.2.1 dX5_spin_298 (by decide) ?_
              refine lv_iadd S.1 S.2.1 dX5_spin_299 ?_
              refine nt_i (y := nI (n + 1)) (nI_add n 1) ?_
              refine mr_iast S K N hS 8 (by decide) (by decide) rfl (vp_in_nI (show g < mlen 8 by show _ < 12; omega) (by decide)) g (nI_clamp (show g < 2 ^ 31 by omega)) dX5_spin_300 (fun H locs N hS => ?_)
              refine lv_iload_n S.1 S.2.1 dX5_spin_301 rfl (lv_at hl 3 rfl) ?_
              exact ne_wI S hS hr hlk ⟨congrArg (fun z => some (Value.int z)) (Eq.symm (by unfold f_X5_spin; first | (rw [if_neg c8_1, if_neg c18_2, if_neg c29_3, if_neg c43_4, if_pos hrd]; done) | (simp only [if_neg c8_1, if_neg c18_2, if_neg c29_3, if_neg c43_4, if_pos hrd]; done) | rfl)), (by unfold g_X5_spin; first | (rw [if_neg c8_1, if_neg c18_2, if_neg c29_3, if_neg c43_4, if_pos hrd]; exact N) | (simp only [if_neg c8_1, if_neg c18_2, if_neg c29_3, if_neg c43_4, if_pos hrd]; exact N) | exact N)⟩ dX5_spin_302
            · refine nl (h := 156) (N := 6) (n := 8) (L := fun i156 : Nat => [(6, .int (nI i156)), (5, .int (it156_X5_spin M p0 p1 g n i156)), (4, .int (it79_X5_spin M p0 p1 g n n)), (3, .int (nI n)), (0, .ref (ad 5)), (1, .int p0), (2, .int p1)]) (fun ls hl => ?_) (fun i156 hi156 ih156 ls hl => ?_) ls (lv_sub hl [0, 1, 2, 3, 4, 5, 6] rfl)
              · try dsimp only at hl
                refine lv_iload S.1 S.2.1 dX5_spin_156 (lv_at hl 0 rfl) ?_
                refine lv_bipush (v := 6) S.1 S.2.1 dX5_spin_158 (by decide) ?_
                refine lv_icmp_ge (tgt := 223) S.1 S.2.1 dX5_spin_160 (by decide) (fun _ => ?_) (fun c9 => absurd (nI_le (Nat.le_refl _) (by first | omega | decide)) c9)
                refine lv_aload_n S.1 S.2.1 dX5_spin_223 rfl (lv_at hl 4 rfl) ?_
                refine mr_get S K N 9 (by decide) k3_155 (v := .ref (ad 19)) rfl dX5_spin_224 ?_
                refine lv_aload_n S.1 S.2.1 dX5_spin_227 rfl (lv_at hl 4 rfl) ?_
                refine mr_get S K N 2 (by decide) k3_148 (v := .int (M 0 2)) rfl dX5_spin_228 ?_
                refine nt_i (y := nI g) (hg1) ?_
                refine lv_iload_n S.1 S.2.1 dX5_spin_231 rfl (lv_at hl 3 rfl) ?_
                refine nc_rS S K hS (As := [.int (nI g), .int (nI n)]) (m_X5_at l g n) k4_15 k4_16 k1_3 k4_17 (num := 2) (by decide +kernel) rfl ⟨Nat.le_of_ble_eq_true rfl, Nat.le_of_ble_eq_true rfl⟩ hl.1 rfl (Nat.le_of_ble_eq_true rfl) dX5_spin_232 ⟨Nat.le_of_ble_eq_true rfl, Nat.le_of_ble_eq_true rfl⟩ ?_
                refine nt_i (y := nI (12 * g + n)) (rfl) ?_
                refine lv_bipush (v := 6) S.1 S.2.1 dX5_spin_235 (by decide) ?_
                refine mr_iast S K N hS 9 (by decide) (by decide) rfl (vp_in_nI (show (12 * g + n) < mlen 9 by show _ < 144; omega) (by decide)) (12 * g + n) (nI_clamp (show (12 * g + n) < 2 ^ 31 by omega)) dX5_spin_237 (fun H locs N hS => ?_)
                refine lv_aload_n S.1 S.2.1 dX5_spin_238 rfl (lv_at hl 4 rfl) ?_
                refine mr_get S K N 10 (by decide) k3_156 (v := .ref (ad 20)) rfl dX5_spin_239 ?_
                refine lv_aload_n S.1 S.2.1 dX5_spin_242 rfl (lv_at hl 4 rfl) ?_
                refine mr_get S K N 2 (by decide) k3_148 (v := .int (M 0 2)) rfl dX5_spin_243 ?_
                refine nt_i (y := nI g) (hg1) ?_
                refine lv_iload_n S.1 S.2.1 dX5_spin_246 rfl (lv_at hl 3 rfl) ?_
                refine nc_rS S K hS (As := [.int (nI g), .int (nI n)]) (m_X5_at l g n) k4_15 k4_16 k1_3 k4_17 (num := 2) (by decide +kernel) rfl ⟨Nat.le_of_ble_eq_true rfl, Nat.le_of_ble_eq_true rfl⟩ hl.1 rfl (Nat.le_of_ble_eq_true rfl) dX5_spin_247 ⟨Nat.le_of_ble_eq_true rfl, Nat.le_of_ble_eq_true rfl⟩ ?_
                refine nt_i (y := nI (12 * g + n)) (rfl) ?_
                refine lv_iload S.1 S.2.1 dX5_spin_250 (lv_at hl 1 rfl) ?_
                refine mr_iast S K N hS 10 (by decide) (by decide) rfl (vp_in_nI (show (12 * g + n) < mlen 10 by show _ < 144; omega) (by decide)) (12 * g + n) (nI_clamp (show (12 * g + n) < 2 ^ 31 by omega)) dX5_spin_252 (fun H locs N hS => ?_)
                refine lv_aload_n S.1 S.2.1 dX5_spin_253 rfl (lv_at hl 4 rfl) ?_
                refine mr_get S K N 11 (by decide) k3_157 (v := .ref (ad 21)) rfl dX5_spin_254 ?_
                refine lv_aload_n S.1 S.2.1 dX5_spin_257 rfl (lv_at hl 4 rfl) ?_
                refine mr_get S K N 2 (by decide) k3_148 (v := .int (M 0 2)) rfl dX5_spin_258 ?_
                refine nt_i (y := nI g) (hg1) ?_
                refine lv_iload_n S.1 S.2.1 dX5_spin_261 rfl (lv_at hl 3 rfl) ?_
                refine nc_rS S K hS (As := [.int (nI g), .int (nI n)]) (m_X5_at l g n) k4_15 k4_16 k1_3 k4_17 (num := 2) (by decide +kernel) rfl ⟨Nat.le_of_ble_eq_true rfl, Nat.le_of_ble_eq_true rfl⟩ hl.1 rfl (Nat.le_of_ble_eq_true rfl) dX5_spin_262 ⟨Nat.le_of_ble_eq_true rfl, Nat.le_of_ble_eq_true rfl⟩ ?_
                refine nt_i (y := nI (12 * g + n)) (rfl) ?_
                refine lv_iload_n S.1 S.2.1 dX5_spin_265 rfl (lv_at hl 5 rfl) ?_
                refine mr_iast S K N hS 11 (by decide) (by decide) rfl (vp_in_nI (show (12 * g + n) < mlen 11 by show _ < 144; omega) (by decide)) (12 * g + n) (nI_clamp (show (12 * g + n) < 2 ^ 31 by omega)) dX5_spin_266 (fun H locs N hS => ?_)
                refine lv_aload_n S.1 S.2.1 dX5_spin_267 rfl (lv_at hl 4 rfl) ?_
                refine mr_get S K N 7 (by decide) k3_153 (v := .ref (ad 17)) rfl dX5_spin_268 ?_
                refine lv_aload_n S.1 S.2.1 dX5_spin_271 rfl (lv_at hl 4 rfl) ?_
                refine mr_get S K N 2 (by decide) k3_148 (v := .int (M 0 2)) rfl dX5_spin_272 ?_
                refine nt_i (y := nI g) (hg1) ?_
                refine lv_dup2_11 S.1 S.2.1 dX5_spin_275 rfl rfl ?_
                refine mr_iald S K N 7 (by decide) (by decide) rfl (v := (M 7 g)) (vp_in_nI (show g < mlen 7 by show _ < 12; omega) (by decide)) ((congrArg ((up2 (up2 (up2 (up2 M 0 0 0) 9 (12 * g + n) 6) 10 (12 * g + n) (it156_X5_spin M p0 p1 g n 6)) 11 (12 * g + n) p0) 7) (nI_clamp (show g < 2 ^ 31 by omega))).trans rfl) dX5_spin_276 ?_
                refine lv_bipush (v := 10) S.1 S.2.1 dX5_spin_277 (by decide) ?_
                refine lv_iadd S.1 S.2.1 dX5_spin_279 ?_
                refine mr_iast S K N hS 7 (by decide) (by decide) rfl (vp_in_nI (show g < mlen 7 by show _ < 12; omega) (by decide)) g (nI_clamp (show g < 2 ^ 31 by omega)) dX5_spin_280 (fun H locs N hS => ?_)
                refine lv_aload_n S.1 S.2.1 dX5_spin_281 rfl (lv_at hl 4 rfl) ?_
                refine lv_iconst (v := 0) S.1 S.2.1 dX5_spin_282 (by decide) ?_
                refine lv_iconst (v := 1) S.1 S.2.1 dX5_spin_283 (by decide) ?_
                refine lv_iconst (v := 1) S.1 S.2.1 dX5_spin_284 (by decide) ?_
                refine mc_wV S K N hS rfl (As := [.int 0, .int 1, .int 1]) (m_X5_stands l (up2 (up2 (up2 (up2 (up2 M 0 0 0) 9 (12 * g + n) 6) 10 (12 * g + n) (it156_X5_spin M p0 p1 g n 6)) 11 (12 * g + n) p0) 7 g ((M 7 g) + 10)) 0 1 1 N) k3_235 k3_237 kS_20 k1_3 k3_238 (num := 3) (by decide +kernel) rfl ⟨Nat.le_of_ble_eq_true rfl, Nat.le_of_ble_eq_true rfl⟩ hl.1 rfl (Nat.le_of_ble_eq_true rfl) dX5_spin_285 ⟨Nat.le_of_ble_eq_true rfl, Nat.le_of_ble_eq_true rfl⟩ (fun v9 H locs hP hS => ?_)
                obtain ⟨rfl, N⟩ := hP
                have N : mw D cA B dom ad X (up2 (up2 (up2 (up2 (up2 (up2 (up2 (up2 M 0 0 0) 9 (12 * g + n) 6) 10 (12 * g + n) (it156_X5_spin M p0 p1 g n 6)) 11 (12 * g + n) p0) 7 g ((M 7 g) + 10)) 0 3 0) 0 4 1) 0 5 1) H := N
                refine W.eq (g2 := F0 m 288 ls []) rfl ?_
                refine lv_aload_n S.1 S.2.1 dX5_spin_288 rfl (lv_at hl 4 rfl) ?_
                refine mr_get S K N 8 (by decide) k3_154 (v := .ref (ad 18)) rfl dX5_spin_289 ?_
                refine lv_aload_n S.1 S.2.1 dX5_spin_292 rfl (lv_at hl 4 rfl) ?_
                refine mr_get S K N 2 (by decide) k3_148 (v := .int (M 0 2)) rfl dX5_spin_293 ?_
                refine nt_i (y := nI g) (hg1) ?_
                refine lv_dup2_11 S.1 S.2.1 dX5_spin_296 rfl rfl ?_
                refine mr_iald S K N 8 (by decide) (by decide) rfl (v := (M 8 g)) (vp_in_nI (show g < mlen 8 by show _ < 12; omega) (by decide)) ((congrArg ((up2 (up2 (up2 (up2 (up2 (up2 (up2 (up2 M 0 0 0) 9 (12 * g + n) 6) 10 (12 * g + n) (it156_X5_spin M p0 p1 g n 6)) 11 (12 * g + n) p0) 7 g ((M 7 g) + 10)) 0 3 0) 0 4 1) 0 5 1) 8) (nI_clamp (show g < 2 ^ 31 by omega))).trans rfl) dX5_spin_297 ?_
                refine nt_i (y := nI n) (hn1) ?_
                refine lv_iconst (v := 1) S.1 S.2.1 dX5_spin_298 (by decide) ?_
                refine lv_iadd S.1 S.2.1 dX5_spin_299 ?_
                refine nt_i (y := nI (n + 1)) (nI_add n 1) ?_
                refine mr_iast S K N hS 8 (by decide) (by decide) rfl (vp_in_nI (show g < mlen 8 by show _ < 12; omega) (by decide)) g (nI_clamp (show g < 2 ^ 31 by omega)) dX5_spin_300 (fun H locs N hS => ?_)
                refine lv_iload_n S.1 S.2.1 dX5_spin_301 rfl (lv_at hl 3 rfl) ?_
                exact ne_wI S hS hr hlk ⟨congrArg (fun z => some (Value.int z)) (Eq.symm (by unfold f_X5_spin; first | (rw [if_neg c8_1, if_neg c18_2, if_neg c29_3, if_neg c43_4, if_neg hrd]; done) | (simp only [if_neg c8_1, if_neg c18_2, if_neg c29_3, if_neg c43_4, if_neg hrd]; done) | rfl)), (by unfold g_X5_spin; first | (rw [if_neg c8_1, if_neg c18_2, if_neg c29_3, if_neg c43_4, if_neg hrd]; exact N) | (simp only [if_neg c8_1, if_neg c18_2, if_neg c29_3, if_neg c43_4, if_neg hrd]; exact N) | exact N)⟩ dX5_spin_302
              · try dsimp only at hl
                refine lv_iload S.1 S.2.1 dX5_spin_156 (lv_at hl 0 rfl) ?_
                refine lv_bipush (v := 6) S.1 S.2.1 dX5_spin_158 (by decide) ?_
                refine lv_icmp_ge (tgt := 223) S.1 S.2.1 dX5_spin_160 (by decide) (fun c9 => absurd c9 (nI_ge (hi156) (by first | omega | decide))) (fun _ => ?_)
                refine lv_iload_n S.1 S.2.1 dX5_spin_163 rfl (lv_at hl 6 rfl) ?_
                refine lv_bipush (v := 6) S.1 S.2.1 dX5_spin_164 (by decide) ?_
                refine lv_icmp_lt (tgt := 223) S.1 S.2.1 dX5_spin_166 (by decide) (fun c9 => absurd c9 (hrd)) (fun _ => ?_)
                refine lv_iload_n S.1 S.2.1 dX5_spin_169 rfl (lv_at hl 5 rfl) ?_
                refine lv_iload S.1 S.2.1 dX5_spin_170 (lv_at hl 0 rfl) ?_
                refine lv_ishr S.1 S.2.1 dX5_spin_172 ?_
                refine lv_iconst (v := 1) S.1 S.2.1 dX5_spin_173 (by decide) ?_
                refine lv_iand S.1 S.2.1 dX5_spin_174 ?_
                refine lv_iconst (v := 1) S.1 S.2.1 dX5_spin_175 (by decide) ?_
                refine nj (J := 194) (V := ((if ((p0 >>> ((nI i156) &&& 31)) &&& 1) = 1 then ((if (((it79_X5_spin M p0 p1 g n n) >>> ((nI i156) &&& 31)) &&& 1) = 0 then 1 else 0) : Int32) else 0) : Int32)) (L := fun v176_5 => [(6, .int (nI i156)), (5, .int (it156_X5_spin M p0 p1 g n i156)), (4, .int (it79_X5_spin M p0 p1 g n n)), (3, .int (nI n)), (0, .ref (ad 5)), (1, .int p0), (2, .int p1)]) (St := fun v176_5 => [.int v176_5]) (n := 8) (fun v176_5 ls h176_7 hl => ?_) (fun j176_6 => ?_)
                · try dsimp only at hl ⊢
                  subst h176_7
                  refine lv_istore (lv' := [(7, .int ((if ((p0 >>> ((nI i156) &&& 31)) &&& 1) = 1 then ((if (((it79_X5_spin M p0 p1 g n n) >>> ((nI i156) &&& 31)) &&& 1) = 0 then 1 else 0) : Int32) else 0) : Int32)), (6, .int (nI i156)), (5, .int (it156_X5_spin M p0 p1 g n i156)), (4, .int (it79_X5_spin M p0 p1 g n n)), (3, .int (nI n)), (0, .ref (ad 5)), (1, .int p0), (2, .int p1)]) S.1 S.2.1 dX5_spin_194 hl (by decide) rfl (fun ls hl => ?_)
                  refine lv_iload S.1 S.2.1 dX5_spin_196 (lv_at hl 2 rfl) ?_
                  refine lv_iload S.1 S.2.1 dX5_spin_198 (lv_at hl 0 rfl) ?_
                  refine nj (J := 214) (V := ((if ((if ((p0 >>> ((nI i156) &&& 31)) &&& 1) = 1 then ((if (((it79_X5_spin M p0 p1 g n n) >>> ((nI i156) &&& 31)) &&& 1) = 0 then 1 else 0) : Int32) else 0) : Int32) = 0 then 0 else ((if 4 ≤ (it156_X5_spin M p0 p1 g n i156) then 0 else 1) : Int32)) : Int32)) (L := fun v200_8 => [(7, .int ((if ((p0 >>> ((nI i156) &&& 31)) &&& 1) = 1 then ((if (((it79_X5_spin M p0 p1 g n n) >>> ((nI i156) &&& 31)) &&& 1) = 0 then 1 else 0) : Int32) else 0) : Int32)), (6, .int (nI i156)), (5, .int (it156_X5_spin M p0 p1 g n i156)), (4, .int (it79_X5_spin M p0 p1 g n n)), (3, .int (nI n)), (0, .ref (ad 5)), (1, .int p0), (2, .int p1)]) (St := fun v200_8 => [.int v200_8, .int (it156_X5_spin M p0 p1 g n i156)]) (n := 8) (fun v200_8 ls h200_10 hl => ?_) (fun j200_9 => ?_)
                  · try dsimp only at hl ⊢
                    subst h200_10
                    refine lv_iadd S.1 S.2.1 dX5_spin_214 ?_
                    refine lv_istore (lv' := [(5, .int ((it156_X5_spin M p0 p1 g n i156) + ((if ((if ((p0 >>> ((nI i156) &&& 31)) &&& 1) = 1 then ((if (((it79_X5_spin M p0 p1 g n n) >>> ((nI i156) &&& 31)) &&& 1) = 0 then 1 else 0) : Int32) else 0) : Int32) = 0 then 0 else ((if 4 ≤ (it156_X5_spin M p0 p1 g n i156) then 0 else 1) : Int32)) : Int32))), (7, .int ((if ((p0 >>> ((nI i156) &&& 31)) &&& 1) = 1 then ((if (((it79_X5_spin M p0 p1 g n n) >>> ((nI i156) &&& 31)) &&& 1) = 0 then 1 else 0) : Int32) else 0) : Int32)), (6, .int (nI i156)), (4, .int (it79_X5_spin M p0 p1 g n n)), (3, .int (nI n)), (0, .ref (ad 5)), (1, .int p0), (2, .int p1)]) S.1 S.2.1 dX5_spin_215 hl (by decide) rfl (fun ls hl => ?_)
                    refine lv_iinc (v := nI (i156 + 1)) (lv' := [(6, .int (nI (i156 + 1))), (5, .int ((it156_X5_spin M p0 p1 g n i156) + ((if ((if ((p0 >>> ((nI i156) &&& 31)) &&& 1) = 1 then ((if (((it79_X5_spin M p0 p1 g n n) >>> ((nI i156) &&& 31)) &&& 1) = 0 then 1 else 0) : Int32) else 0) : Int32) = 0 then 0 else ((if 4 ≤ (it156_X5_spin M p0 p1 g n i156) then 0 else 1) : Int32)) : Int32))), (7, .int ((if ((p0 >>> ((nI i156) &&& 31)) &&& 1) = 1 then ((if (((it79_X5_spin M p0 p1 g n n) >>> ((nI i156) &&& 31)) &&& 1) = 0 then 1 else 0) : Int32) else 0) : Int32)), (4, .int (it79_X5_spin M p0 p1 g n n)), (3, .int (nI n)), (0, .ref (ad 5)), (1, .int p0), (2, .int p1)]) S.1 S.2.1 dX5_spin_217 hl (k := 2) rfl (nI_add i156 1) (by decide) rfl (fun ls hl => ?_)
                    refine lv_goto (tgt := 156) S.1 S.2.1 dX5_spin_220 (by decide) ?_
                    exact ih156 ls (lv_sub hl [0, 1, 3, 4, 5, 6, 7] rfl)
                  · refine lv_if_eq (tgt := 213) S.1 S.2.1 dX5_spin_200 (by decide) (fun c200_11 => ?_) (fun c200_11 => ?_)
                    · refine lv_iconst (v := 0) S.1 S.2.1 dX5_spin_213 (by decide) ?_
                      exact j200_9 _ _ (by first | (rw [if_pos c200_11]; done) | (simp only [if_pos c200_11]; done) | rfl) (lv_sub hl [0, 1, 2, 3, 4, 5, 6, 7] rfl)
                    · refine lv_iload S.1 S.2.1 dX5_spin_203 (lv_at hl 2 rfl) ?_
                      refine lv_iconst (v := 4) S.1 S.2.1 dX5_spin_205 (by decide) ?_
                      refine lv_icmp_ge (tgt := 213) S.1 S.2.1 dX5_spin_206 (by decide) (fun c206_12 => ?_) (fun c206_12 => ?_)
                      · refine lv_iconst (v := 0) S.1 S.2.1 dX5_spin_213 (by decide) ?_
                        exact j200_9 _ _ (by first | (rw [if_neg c200_11, if_pos c206_12]; done) | (simp only [if_neg c200_11, if_pos c206_12]; done) | rfl) (lv_sub hl [0, 1, 2, 3, 4, 5, 6, 7] rfl)
                      · refine lv_iconst (v := 1) S.1 S.2.1 dX5_spin_209 (by decide) ?_
                        refine lv_goto (tgt := 214) S.1 S.2.1 dX5_spin_210 (by decide) ?_
                        exact j200_9 _ _ (by first | (rw [if_neg c200_11, if_neg c206_12]; done) | (simp only [if_neg c200_11, if_neg c206_12]; done) | rfl) (lv_sub hl [0, 1, 2, 3, 4, 5, 6, 7] rfl)
                · refine lv_icmp_ne (tgt := 193) S.1 S.2.1 dX5_spin_176 (by decide) (fun c176_13 => ?_) (fun c176_13 => ?_)
                  · refine lv_iconst (v := 0) S.1 S.2.1 dX5_spin_193 (by decide) ?_
                    exact j176_6 _ _ (by first | (rw [if_neg c176_13]; done) | (simp only [if_neg c176_13]; done) | rfl) (lv_sub hl [0, 1, 2, 3, 4, 5, 6] rfl)
                  · refine lv_iload S.1 S.2.1 dX5_spin_179 (lv_at hl 2 rfl) ?_
                    refine lv_iload S.1 S.2.1 dX5_spin_181 (lv_at hl 0 rfl) ?_
                    refine lv_ishr S.1 S.2.1 dX5_spin_183 ?_
                    refine lv_iconst (v := 1) S.1 S.2.1 dX5_spin_184 (by decide) ?_
                    refine lv_iand S.1 S.2.1 dX5_spin_185 ?_
                    refine lv_if_ne (tgt := 193) S.1 S.2.1 dX5_spin_186 (by decide) (fun c186_14 => ?_) (fun c186_14 => ?_)
                    · refine lv_iconst (v := 0) S.1 S.2.1 dX5_spin_193 (by decide) ?_
                      exact j176_6 _ _ (by first | (rw [if_pos c176_13, if_neg c186_14]; done) | (simp only [if_pos c176_13, if_neg c186_14]; done) | rfl) (lv_sub hl [0, 1, 2, 3, 4, 5, 6] rfl)
                    · refine lv_iconst (v := 1) S.1 S.2.1 dX5_spin_189 (by decide) ?_
                      refine lv_goto (tgt := 194) S.1 S.2.1 dX5_spin_190 (by decide) ?_
                      exact j176_6 _ _ (by first | (rw [if_pos c176_13, if_pos c186_14]; done) | (simp only [if_pos c176_13, if_pos c186_14]; done) | rfl) (lv_sub hl [0, 1, 2, 3, 4, 5, 6] rfl)
          · try dsimp only at hl
            refine lv_iload S.1 S.2.1 dX5_spin_79 (lv_at hl 0 rfl) ?_
            refine lv_iload_n S.1 S.2.1 dX5_spin_81 rfl (lv_at hl 2 rfl) ?_
            refine lv_icmp_ge (tgt := 150) S.1 S.2.1 dX5_spin_82 (by decide) (fun c9 => absurd c9 (nI_ge (hi79) (by first | omega | decide))) (fun _ => ?_)
            refine lv_iload S.1 S.2.1 dX5_spin_85 (lv_at hl 1 rfl) ?_
            refine lv_aload_n S.1 S.2.1 dX5_spin_87 rfl (lv_at hl 3 rfl) ?_
            refine mr_get S K N 9 (by decide) k3_155 (v := .ref (ad 19)) rfl dX5_spin_88 ?_
            refine lv_aload_n S.1 S.2.1 dX5_spin_91 rfl (lv_at hl 3 rfl) ?_
            refine mr_get S K N 2 (by decide) k3_148 (v := .int (M 0 2)) rfl dX5_spin_92 ?_
            refine nt_i (y := nI g) (hg1) ?_
            refine lv_iload S.1 S.2.1 dX5_spin_95 (lv_at hl 0 rfl) ?_
            refine nc_rS S K hS (As := [.int (nI g), .int (nI i79)]) (m_X5_at l g i79) k4_15 k4_16 k1_3 k4_17 (num := 2) (by decide +kernel) rfl ⟨Nat.le_of_ble_eq_true rfl, Nat.le_of_ble_eq_true rfl⟩ hl.1 rfl (Nat.le_of_ble_eq_true rfl) dX5_spin_97 ⟨Nat.le_of_ble_eq_true rfl, Nat.le_of_ble_eq_true rfl⟩ ?_
            refine nt_i (y := nI (12 * g + i79)) (rfl) ?_
            refine mr_iald S K N 9 (by decide) (by decide) rfl (v := (M 9 (12 * g + i79))) (vp_in_nI (show (12 * g + i79) < mlen 9 by show _ < 144; omega) (by decide)) ((congrArg ((up2 M 0 0 0) 9) (nI_clamp (show (12 * g + i79) < 2 ^ 31 by omega))).trans rfl) dX5_spin_100 ?_
            refine lv_bipush (v := 6) S.1 S.2.1 dX5_spin_101 (by decide) ?_
            refine nj (J := 141) (V := ((if (M 9 (12 * g + i79)) = 6 then ((if (M 10 (12 * g + i79)) ≤ 0 then 0 else (M 11 (12 * g + i79))) : Int32) else 0) : Int32)) (L := fun v103_15 => [(5, .int (nI i79)), (4, .int (it79_X5_spin M p0 p1 g n i79)), (3, .int (nI n)), (0, .ref (ad 5)), (1, .int p0), (2, .int p1)]) (St := fun v103_15 => [.int v103_15, .int (it79_X5_spin M p0 p1 g n i79)]) (n := 8) (fun v103_15 ls h103_17 hl => ?_) (fun j103_16 => ?_)
            · try dsimp only at hl ⊢
              subst h103_17
              refine lv_ior S.1 S.2.1 dX5_spin_141 ?_
              refine lv_istore (lv' := [(4, .int ((it79_X5_spin M p0 p1 g n i79) ||| ((if (M 9 (12 * g + i79)) = 6 then ((if (M 10 (12 * g + i79)) ≤ 0 then 0 else (M 11 (12 * g + i79))) : Int32) else 0) : Int32))), (5, .int (nI i79)), (3, .int (nI n)), (0, .ref (ad 5)), (1, .int p0), (2, .int p1)]) S.1 S.2.1 dX5_spin_142 hl (by decide) rfl (fun ls hl => ?_)
              refine lv_iinc (v := nI (i79 + 1)) (lv' := [(5, .int (nI (i79 + 1))), (4, .int ((it79_X5_spin M p0 p1 g n i79) ||| ((if (M 9 (12 * g + i79)) = 6 then ((if (M 10 (12 * g + i79)) ≤ 0 then 0 else (M 11 (12 * g + i79))) : Int32) else 0) : Int32))), (3, .int (nI n)), (0, .ref (ad 5)), (1, .int p0), (2, .int p1)]) S.1 S.2.1 dX5_spin_144 hl (k := 1) rfl (nI_add i79 1) (by decide) rfl (fun ls hl => ?_)
              refine lv_goto (tgt := 79) S.1 S.2.1 dX5_spin_147 (by decide) ?_
              exact ih79 ls (lv_sub hl [0, 1, 2, 3, 4, 5] rfl)
            · refine lv_icmp_ne (tgt := 140) S.1 S.2.1 dX5_spin_103 (by decide) (fun c103_18 => ?_) (fun c103_18 => ?_)
              · refine lv_iconst (v := 0) S.1 S.2.1 dX5_spin_140 (by decide) ?_
                exact j103_16 _ _ (by first | (rw [if_neg c103_18]; done) | (simp only [if_neg c103_18]; done) | rfl) (lv_sub hl [0, 1, 2, 3, 4, 5] rfl)
              · refine lv_aload_n S.1 S.2.1 dX5_spin_106 rfl (lv_at hl 3 rfl) ?_
                refine mr_get S K N 10 (by decide) k3_156 (v := .ref (ad 20)) rfl dX5_spin_107 ?_
                refine lv_aload_n S.1 S.2.1 dX5_spin_110 rfl (lv_at hl 3 rfl) ?_
                refine mr_get S K N 2 (by decide) k3_148 (v := .int (M 0 2)) rfl dX5_spin_111 ?_
                refine nt_i (y := nI g) (hg1) ?_
                refine lv_iload S.1 S.2.1 dX5_spin_114 (lv_at hl 0 rfl) ?_
                refine nc_rS S K hS (As := [.int (nI g), .int (nI i79)]) (m_X5_at l g i79) k4_15 k4_16 k1_3 k4_17 (num := 2) (by decide +kernel) rfl ⟨Nat.le_of_ble_eq_true rfl, Nat.le_of_ble_eq_true rfl⟩ hl.1 rfl (Nat.le_of_ble_eq_true rfl) dX5_spin_116 ⟨Nat.le_of_ble_eq_true rfl, Nat.le_of_ble_eq_true rfl⟩ ?_
                refine nt_i (y := nI (12 * g + i79)) (rfl) ?_
                refine mr_iald S K N 10 (by decide) (by decide) rfl (v := (M 10 (12 * g + i79))) (vp_in_nI (show (12 * g + i79) < mlen 10 by show _ < 144; omega) (by decide)) ((congrArg ((up2 M 0 0 0) 10) (nI_clamp (show (12 * g + i79) < 2 ^ 31 by omega))).trans rfl) dX5_spin_119 ?_
                refine lv_if_le (tgt := 140) S.1 S.2.1 dX5_spin_120 (by decide) (fun c120_19 => ?_) (fun c120_19 => ?_)
                · refine lv_iconst (v := 0) S.1 S.2.1 dX5_spin_140 (by decide) ?_
                  exact j103_16 _ _ (by first | (rw [if_pos c103_18, if_pos c120_19]; done) | (simp only [if_pos c103_18, if_pos c120_19]; done) | rfl) (lv_sub hl [0, 1, 2, 3, 4, 5] rfl)
                · refine lv_aload_n S.1 S.2.1 dX5_spin_123 rfl (lv_at hl 3 rfl) ?_
                  refine mr_get S K N 11 (by decide) k3_157 (v := .ref (ad 21)) rfl dX5_spin_124 ?_
                  refine lv_aload_n S.1 S.2.1 dX5_spin_127 rfl (lv_at hl 3 rfl) ?_
                  refine mr_get S K N 2 (by decide) k3_148 (v := .int (M 0 2)) rfl dX5_spin_128 ?_
                  refine nt_i (y := nI g) (hg1) ?_
                  refine lv_iload S.1 S.2.1 dX5_spin_131 (lv_at hl 0 rfl) ?_
                  refine nc_rS S K hS (As := [.int (nI g), .int (nI i79)]) (m_X5_at l g i79) k4_15 k4_16 k1_3 k4_17 (num := 2) (by decide +kernel) rfl ⟨Nat.le_of_ble_eq_true rfl, Nat.le_of_ble_eq_true rfl⟩ hl.1 rfl (Nat.le_of_ble_eq_true rfl) dX5_spin_133 ⟨Nat.le_of_ble_eq_true rfl, Nat.le_of_ble_eq_true rfl⟩ ?_
                  refine nt_i (y := nI (12 * g + i79)) (rfl) ?_
                  refine mr_iald S K N 11 (by decide) (by decide) rfl (v := (M 11 (12 * g + i79))) (vp_in_nI (show (12 * g + i79) < mlen 11 by show _ < 144; omega) (by decide)) ((congrArg ((up2 M 0 0 0) 11) (nI_clamp (show (12 * g + i79) < 2 ^ 31 by omega))).trans rfl) dX5_spin_136 ?_
                  refine lv_goto (tgt := 141) S.1 S.2.1 dX5_spin_137 (by decide) ?_
                  exact j103_16 _ _ (by first | (rw [if_pos c103_18, if_neg c120_19]; done) | (simp only [if_pos c103_18, if_neg c120_19]; done) | rfl) (lv_sub hl [0, 1, 2, 3, 4, 5] rfl)
    · refine lv_iconst (v := 1) S.1 S.2.1 dX5_spin_21 (by decide) ?_
      refine lv_goto (tgt := 51) S.1 S.2.1 dX5_spin_22 (by decide) ?_
      refine mr_put S K N hS 0 (by decide) (by unfold mscal; omega) k3_146 rfl rfl dX5_spin_51 (fun H locs N hS => ?_)
      refine lv_aload_n S.1 S.2.1 dX5_spin_54 rfl (lv_at hl 0 rfl) ?_
      refine mr_get S K N 0 (by decide) k3_146 (v := .int 1) rfl dX5_spin_55 ?_
      refine lv_if_le (tgt := 63) S.1 S.2.1 dX5_spin_58 (by decide) (fun c9 => absurd c9 (by decide)) (fun _ => ?_)
      refine lv_iconst (v := 0) S.1 S.2.1 dX5_spin_61 (by decide) ?_
      exact ne_wI S hS hr hlk ⟨congrArg (fun z => some (Value.int z)) (Eq.symm (by unfold f_X5_spin; first | (rw [if_neg c8_1, if_pos c18_2]; done) | (simp only [if_neg c8_1, if_pos c18_2]; done) | rfl)), (by unfold g_X5_spin; first | (rw [if_neg c8_1, if_pos c18_2]; exact N) | (simp only [if_neg c8_1, if_pos c18_2]; exact N) | exact N)⟩ dX5_spin_62

def f_X5_end (M : Nat → Nat → Int32) (g : Nat) : Int32 :=
  if (M 0 2) = (-1) then 0
  else (M 8 g)
def g_X5_end (M : Nat → Nat → Int32) (g : Nat) : Nat → Nat → Int32 :=
  if (M 0 2) = (-1) then (up2 M 0 0 1)
  else (up2 (up2 (up2 M 0 0 0) 6 g 2) 0 2 (-1))
set_option maxHeartbeats 4000000 in
set_option maxRecDepth 100000 in
theorem m_X5_end {D : va_G} {cA : Nat → ClassId} {B : Nat} (l : Launch) {dom : Nat → Prop} {ad : Nat → Nat} {X : Nat → va_E} {H0 : Heap} (M : Nat → Nat → Int32) (g : Nat) (N : mw D cA B dom ad X M H0) (hgo : ¬ M 0 2 = (-1) → M 0 2 = nI g ∧ g < 12) : MetW D cA B l yX5_end cX5_end 2 (some .int) 0 0 0 0 [.ref (ad 5)] H0 (fun o h => o = some (.int (f_X5_end M g)) ∧ mw D cA B dom ad X (g_X5_end M g) h) := by
  refine MetW.of (by decide) (Nat.le_of_ble_eq_true rfl) ?_
  intro p e s m args below meth c S hr hlk hin hh K ls hl
  subst hh
  have hS : va_S (fun q => B ≤ q) s.heap s.heap [] := va_S.rf
  have hl : lv_has ls 2 [(0, .ref (ad 5))] := hl
  refine lv_aload_n S.1 S.2.1 dX5_end_0 rfl (lv_at hl 0 rfl) ?_
  refine lv_aload_n S.1 S.2.1 dX5_end_1 rfl (lv_at hl 0 rfl) ?_
  refine mr_get S K N 2 (by decide) k3_148 (v := .int (M 0 2)) rfl dX5_end_2 ?_
  refine lv_iconst (v := (-1)) S.1 S.2.1 dX5_end_5 (by decide) ?_
  refine lv_icmp_ne (tgt := 13) S.1 S.2.1 dX5_end_6 (by decide) (fun c6_1 => ?_) (fun c6_1 => ?_)
  · obtain ⟨hg1, hg2⟩ := hgo c6_1
    refine lv_iconst (v := 0) S.1 S.2.1 dX5_end_13 (by decide) ?_
    refine mr_put S K N hS 0 (by decide) (by unfold mscal; omega) k3_146 rfl rfl dX5_end_14 (fun H locs N hS => ?_)
    refine lv_aload_n S.1 S.2.1 dX5_end_17 rfl (lv_at hl 0 rfl) ?_
    refine mr_get S K N 0 (by decide) k3_146 (v := .int 0) rfl dX5_end_18 ?_
    refine lv_if_le (tgt := 26) S.1 S.2.1 dX5_end_21 (by decide) (fun _ => ?_) (fun c9 => absurd (by decide) c9)
    refine lv_aload_n S.1 S.2.1 dX5_end_26 rfl (lv_at hl 0 rfl) ?_
    refine mr_get S K N 8 (by decide) k3_154 (v := .ref (ad 18)) rfl dX5_end_27 ?_
    refine lv_aload_n S.1 S.2.1 dX5_end_30 rfl (lv_at hl 0 rfl) ?_
    refine mr_get S K N 2 (by decide) k3_148 (v := .int (M 0 2)) rfl dX5_end_31 ?_
    refine nt_i (y := nI g) (hg1) ?_
    refine mr_iald S K N 8 (by decide) (by decide) rfl (v := (M 8 g)) (vp_in_nI (show g < mlen 8 by show _ < 12; omega) (by decide)) ((congrArg ((up2 M 0 0 0) 8) (nI_clamp (show g < 2 ^ 31 by omega))).trans rfl) dX5_end_34 ?_
    refine lv_istore_n (lv' := [(1, .int (M 8 g)), (0, .ref (ad 5))]) S.1 S.2.1 dX5_end_35 rfl hl (by decide) rfl (fun ls hl => ?_)
    refine lv_aload_n S.1 S.2.1 dX5_end_36 rfl (lv_at hl 1 rfl) ?_
    refine mr_get S K N 6 (by decide) k3_152 (v := .ref (ad 16)) rfl dX5_end_37 ?_
    refine lv_aload_n S.1 S.2.1 dX5_end_40 rfl (lv_at hl 1 rfl) ?_
    refine mr_get S K N 2 (by decide) k3_148 (v := .int (M 0 2)) rfl dX5_end_41 ?_
    refine nt_i (y := nI g) (hg1) ?_
    refine lv_iconst (v := 2) S.1 S.2.1 dX5_end_44 (by decide) ?_
    refine mr_iast S K N hS 6 (by decide) (by decide) rfl (vp_in_nI (show g < mlen 6 by show _ < 12; omega) (by decide)) g (nI_clamp (show g < 2 ^ 31 by omega)) dX5_end_45 (fun H locs N hS => ?_)
    refine lv_aload_n S.1 S.2.1 dX5_end_46 rfl (lv_at hl 1 rfl) ?_
    refine lv_iconst (v := (-1)) S.1 S.2.1 dX5_end_47 (by decide) ?_
    refine mr_put S K N hS 2 (by decide) (by unfold mscal; omega) k3_148 rfl rfl dX5_end_48 (fun H locs N hS => ?_)
    refine lv_iload_n S.1 S.2.1 dX5_end_51 rfl (lv_at hl 0 rfl) ?_
    exact ne_wI S hS hr hlk ⟨congrArg (fun z => some (Value.int z)) (Eq.symm (by unfold f_X5_end; first | (rw [if_neg c6_1]; done) | (simp only [if_neg c6_1]; done) | rfl)), (by unfold g_X5_end; first | (rw [if_neg c6_1]; exact N) | (simp only [if_neg c6_1]; exact N) | exact N)⟩ dX5_end_52
  · refine lv_iconst (v := 1) S.1 S.2.1 dX5_end_9 (by decide) ?_
    refine lv_goto (tgt := 14) S.1 S.2.1 dX5_end_10 (by decide) ?_
    refine mr_put S K N hS 0 (by decide) (by unfold mscal; omega) k3_146 rfl rfl dX5_end_14 (fun H locs N hS => ?_)
    refine lv_aload_n S.1 S.2.1 dX5_end_17 rfl (lv_at hl 0 rfl) ?_
    refine mr_get S K N 0 (by decide) k3_146 (v := .int 1) rfl dX5_end_18 ?_
    refine lv_if_le (tgt := 26) S.1 S.2.1 dX5_end_21 (by decide) (fun c9 => absurd c9 (by decide)) (fun _ => ?_)
    refine lv_iconst (v := 0) S.1 S.2.1 dX5_end_24 (by decide) ?_
    exact ne_wI S hS hr hlk ⟨congrArg (fun z => some (Value.int z)) (Eq.symm (by unfold f_X5_end; first | (rw [if_pos c6_1]; done) | (simp only [if_pos c6_1]; done) | rfl)), (by unfold g_X5_end; first | (rw [if_pos c6_1]; exact N) | (simp only [if_pos c6_1]; exact N) | exact N)⟩ dX5_end_25
