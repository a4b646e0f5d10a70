/-! numbers by roles; ends and names for what is equal; loops; doubles -/
def up2 (M : Nat → Nat → Int32) (i j : Nat) (x : Int32) : Nat → Nat → Int32 := fun a b => if a = i ∧ b = j then x else M a b
theorem up2_row (M : Nat → Nat → Int32) (i j : Nat) (x : Int32) : up2 M i j x i = upd (M i) j x := by
  funext b
  simp [up2, upd]
theorem up2_ne (M : Nat → Nat → Int32) {i a : Nat} (j : Nat) (x : Int32) (h : a ≠ i) : up2 M i j x a = M a := by
  funext b
  simp [up2, h]
section MR
variable {p : Program} {l : Launch} {e : Env} {R : Room} {s : State} {m : MethodId} {args : Array Value} {below : List Frame} {meth : Method} {c : Code} {H : Heap} {locs : List Loc} {cells slots : Nat} {Q : State → Prop}
variable {cc : ByteArray} {nL : Nat} {own : String} {pc : Nat} {ls : Array Slot} {rest : List Value} {D : va_G} {cA : Nat → ClassId} {B : Nat} {dom : Nat → Prop} {ad : Nat → Nat} {X : Nat → va_E} {M : Nat → Nat → Int32}
/-- a name for what is equal -/
theorem nt_i {x y : Int32} (h : x = y) (k : W p l e R s m args below meth c H locs cells slots Q (F0 m pc ls (.int y :: rest))) : W p l e R s m args below meth c H locs cells slots Q (F0 m pc ls (.int x :: rest)) := by subst h; exact k
theorem nt_2 {x y : Int32} {v : Value} (h : x = y) (k : W p l e R s m args below meth c H locs cells slots Q (F0 m pc ls (v :: .int y :: rest))) : W p l e R s m args below meth c H locs cells slots Q (F0 m pc ls (v :: .int x :: rest)) := by subst h; exact k
/-- ends, with an answer that is said otherwise -/
theorem ee_rI {v x : Int32} (S : CallFix p m c cc nL s args WU own) (hr : meth.sig.returnType = some .int) (hlk : meth.locks = false) (h : v = x) (hdg : decode cc pc = .ok (.ireturn, 1)) : W p l e R s m args below meth c s.heap [] 0 0 (MQ below (Qro (some (.int v))) args s 0 0 (fun _ => False)) (F0 m pc ls [.int x]) := by
  subst h
  exact ne_rI S hr hlk hdg
theorem ee_rZ {v x : Int32} (S : CallFix p m c cc nL s args WU own) (hr : meth.sig.returnType = some .boolean) (hlk : meth.locks = false) (hx : vp_nar .boolean x = x) (h : v = x) (hdg : decode cc pc = .ok (.ireturn, 1)) : W p l e R s m args below meth c s.heap [] 0 0 (MQ below (Qro (some (.int v))) args s 0 0 (fun _ => False)) (F0 m pc ls [.int x]) := by
  subst h
  exact ne_rZ S hr hlk hx hdg
theorem ee_rD {v x : UInt64} (S : CallFix p m c cc nL s args WU own) (hr : meth.sig.returnType = some .double) (hlk : meth.locks = false) (h : v = x) (hdg : decode cc pc = .ok (.dreturn, 1)) : W p l e R s m args below meth c s.heap [] 0 0 (MQ below (Qro (some (.double v))) args s 0 0 (fun _ => False)) (F0 m pc ls [.double x]) := by
  subst h
  exact ne_rD S hr hlk hdg
theorem zb_0 : vp_nar .boolean 0 = 0 := by decide
theorem zb_1 : vp_nar .boolean 1 = 1 := by decide
end MR
section NJ
variable {p : Program} {l : Launch} {e : Env} {R : Room} {s : State} {m : MethodId} {args : Array Value} {below : List Frame} {meth : Method} {c : Code} {H : Heap} {locs : List Loc} {cells slots : Nat} {Q : State → Prop}
/-- paths that meet again: what differs gets a name -/
theorem nj {α : Type} {J n b : Nat} {V : α} {L : α → List (Nat × Value)} {St : α → List Value} {ls : Array Slot} {st : List Value}
    (k : ∀ (v : α) (ls2 : Array Slot), v = V → lv_has ls2 n (L v) → W p l e R s m args below meth c H locs cells slots Q (F0 m J ls2 (St v)))
    (bb : (∀ (v : α) (ls2 : Array Slot), v = V → lv_has ls2 n (L v) → W p l e R s m args below meth c H locs cells slots Q (F0 m J ls2 (St v))) → W p l e R s m args below meth c H locs cells slots Q (F0 m b ls st)) : W p l e R s m args below meth c H locs cells slots Q (F0 m b ls st) := bb k
/-- a loop that counts up to N -/
theorem nl {h N n : Nat} {L : Nat → List (Nat × Value)} (base : ∀ ls : Array Slot, lv_has ls n (L N) → W p l e R s m args below meth c H locs cells slots Q (F0 m h ls []))
    (step : ∀ i, i < N → (∀ ls : Array Slot, lv_has ls n (L (i + 1)) → W p l e R s m args below meth c H locs cells slots Q (F0 m h ls [])) → ∀ ls : Array Slot, lv_has ls n (L i) → W p l e R s m args below meth c H locs cells slots Q (F0 m h ls [])) : ∀ ls : Array Slot, lv_has ls n (L 0) → W p l e R s m args below meth c H locs cells slots Q (F0 m h ls []) := by
  have key : ∀ k i, i + k = N → ∀ ls : Array Slot, lv_has ls n (L i) → W p l e R s m args below meth c H locs cells slots Q (F0 m h ls []) := by
    intro k
    induction k with
    | zero =>
      intro i hi
      have : i = N := by omega
      subst this
      exact base
    | succ k ih =>
      intro i hi
      exact step i (by omega) (ih (i + 1) (by omega))
  exact key N 0 (by omega)
theorem nlM {B h N n : Nat} {PH : Nat → Heap → Prop} {L : Nat → List (Nat × Value)} (base : ∀ (ls : Array Slot) (H : Heap) (locs : List Loc), PH N H → va_S (fun q => B ≤ q) s.heap H locs → lv_has ls n (L N) → W p l e R s m args below meth c H locs cells slots Q (F0 m h ls []))
    (step : ∀ i, i < N → (∀ (ls : Array Slot) (H : Heap) (locs : List Loc), PH (i + 1) H → va_S (fun q => B ≤ q) s.heap H locs → lv_has ls n (L (i + 1)) → W p l e R s m args below meth c H locs cells slots Q (F0 m h ls [])) → ∀ (ls : Array Slot) (H : Heap) (locs : List Loc), PH i H → va_S (fun q => B ≤ q) s.heap H locs → lv_has ls n (L i) → W p l e R s m args below meth c H locs cells slots Q (F0 m h ls [])) :
    ∀ (ls : Array Slot) (H : Heap) (locs : List Loc), PH 0 H → va_S (fun q => B ≤ q) s.heap H locs → lv_has ls n (L 0) → W p l e R s m args below meth c H locs cells slots Q (F0 m h ls []) := by
  have key : ∀ k i, i + k = N → ∀ (ls : Array Slot) (H : Heap) (locs : List Loc), PH i H → va_S (fun q => B ≤ q) s.heap H locs → lv_has ls n (L i) → W p l e R s m args below meth c H locs cells slots Q (F0 m h ls []) := by
    intro k
    induction k with
    | zero =>
      intro i hi
      have : i = N := by omega
      subst this
      exact base
    | succ k ih =>
      intro i hi
      exact step i (by omega) (ih (i + 1) (by omega))
  exact key N 0 (by omega)
end NJ

theorem nt_d {p : Program} {l : Launch} {e : Env} {R : Room} {s : State} {m : MethodId} {args : Array Value} {below : List Frame} {meth : Method} {c : Code} {H : Heap} {locs : List Loc} {cells slots : Nat} {Q : State → Prop} {pc : Nat} {ls : Array Slot} {rest : List Value} {x y : UInt64} (h : x = y) (k : W p l e R s m args below meth c H locs cells slots Q (F0 m pc ls (.double y :: rest))) : W p l e R s m args below meth c H locs cells slots Q (F0 m pc ls (.double x :: rest)) := by subst h; exact k
theorem nlt_nat {a n : Nat} (h : ¬ nI a ≤ nI n) (hn : n < 2 ^ 31) : n < a := Nat.lt_of_not_le (fun q => h (nI_le q hn))
theorem vn_of {r : UInt64} (h : FP.dIsNaN r = false) : vf_n64 r := by
  unfold vf_n64
  rw [UInt64.le_iff_toNat_le, FP.Core.mask_toNat]
  have h2 : ¬ 9218868437227405312 < r.toNat % 2 ^ 63 := fun q => by
    have h3 := (FP.Core.isNaN_bits r).mpr q
    have h4 : FP.Core.dIsNaN r = false := h
    rw [h4] at h3
    cases h3
  exact Nat.le_of_not_lt h2
theorem nan_size {P : Prop} [Decidable P] {x : UInt64} (h : FP.dIsNaN x = false) : FP.dIsNaN (if P then x else FP.dneg x) = false := by
  split
  · exact h
  · rw [FP.dneg_nan]
    exact h
theorem fin_08 : FP.Core.DFin 4605380978949069210 := by rw [FP.Core.fin_bits]; decide
theorem fin_11 : FP.Core.DFin 4607632778762754458 := by rw [FP.Core.fin_bits]; decide
theorem fin_10 : FP.Core.DFin 4621819117588971520 := by rw [FP.Core.fin_bits]; decide
theorem fin_25 : FP.Core.DFin 4627730092099895296 := by rw [FP.Core.fin_bits]; decide
theorem nz_10 : ¬ FP.Core.DZero 4621819117588971520 := by rw [FP.Core.zero_bits2]; decide
theorem nan_08 (x : Int32) : FP.dIsNaN (FP.dmul (FP.i2d x) 4605380978949069210) = false := FP.Core.dmul_out (FP.Core.i2d_fin x) fin_08
theorem nan_11 (x : Int32) : FP.dIsNaN (FP.dmul (FP.i2d x) 4607632778762754458) = false := FP.Core.dmul_out (FP.Core.i2d_fin x) fin_11
theorem sub2_nz {x : Int32} (h : 3 ≤ x) : ¬ (x - 2 : Int32) = 0 := by
  intro q
  have h2 : x = 2 := by
    have := congrArg (· + 2) q
    simpa using this
  subst h2
  exact absurd h (by decide)
theorem nz_i2d {x : Int32} (h : ¬ x = 0) : ¬ FP.Core.DZero (FP.i2d x) := by
  rw [FP.Core.zero_bits2]
  exact FP.Core.i2d_ne_zero h
theorem mag_div {a b : Int32} (h : ¬ b = 0) : (FP.ddiv (FP.i2d a) (FP.i2d b)).toNat % 2 ^ 63 < 1057 * 2 ^ 52 := by
  have hb := FP.Core.i2d_big (v := b) (fun q => h (Int32.toInt_inj.mp (q.trans rfl)))
  have := FP.Core.ddiv_mag (FP.Core.i2d_mag a) hb.1 hb.2 (by decide) (by decide)
  exact this
