/-! p18: methods of the law that are told the script -/
def KS (D : va_G) (cA : Nat → ClassId) (B b L : Nat) (xs : Nat → Int32) (U : State) : Prop := KK D cA B U ∧ va_X b L xs U U.heap ∧ b < U.heap.size ∧ ¬ B ≤ b
theorem KS.moved {D : va_G} {cA : Nat → ClassId} {B b L : Nat} {xs : Nat → Int32} {s U : State} {locs : List Loc} (h : KS D cA B b L xs s) (hS : va_S (fun q => B ≤ q) s.heap U.heap locs) (hW : s.WarmedH U.vm) : KS D cA B b L xs U :=
  ⟨h.1.moved hS hW, va_X.moved hW.alike (h.2.1.kept (hS.2.1 b h.2.2.1 h.2.2.2)), Nat.lt_of_lt_of_le h.2.2.1 hS.1, h.2.2.2⟩
def PnS (D : va_G) (cA : Nat → ClassId) (B b L : Nat) (xs : Nat → Int32) (As : List Value) (H0 : Heap) : Array Value → State → Prop := va_Pc As (fun U => U.heap = H0 ∧ KS D cA B b L xs U)
theorem PnS.blind {D : va_G} {cA : Nat → ClassId} {B b L : Nat} {xs : Nat → Int32} {As : List Value} {H0 : Heap} : FrameBlind (PnS D cA B b L xs As H0) := fun _ U g mk h => ⟨h.1, h.2.1, h.2.2.1.blind g mk _, va_X.moved (u := U) (U := U.calling g mk _) (Vm.Alike.refl U.vm) h.2.2.2.1, h.2.2.2.2.1, h.2.2.2.2.2⟩
theorem nb_selfS {D : va_G} {cA : Nat → ClassId} {B b L : Nat} {xs : Nat → Int32} {s : State} {H : Heap} {locs : List Loc} (K : KS D cA B b L xs s) (hS : va_S (fun q => B ≤ q) s.heap H locs) {As : List Value} : FrameBlind (PnS D cA B b L xs As H) ∧ ∀ U : State, U.heap = H → s.WarmedH U.vm → PnS D cA B b L xs As H As.toArray U :=
  ⟨PnS.blind, fun U hU hW => ⟨rfl, hU, K.moved (by rw [hU]; exact hS) hW⟩⟩
def MetSR (D : va_G) (cA : Nat → ClassId) (B b L : Nat) (xs : Nat → Int32) (l : Launch) (y : MethodName) (cc : ByteArray) (n : Nat) (ret : Option FieldType) (f lo : Nat) (As : List Value) (H0 : Heap) (v : Option Value) : Prop :=
  Met l y (.code y cc n ret :: WU) (rmOf f lo) (PnS D cA B b L xs As H0) (Qro v) 0 0 (fun _ => False)
def MetSW (D : va_G) (cA : Nat → ClassId) (B b L : Nat) (xs : Nat → Int32) (l : Launch) (y : MethodName) (cc : ByteArray) (n : Nat) (ret : Option FieldType) (f lo mc ms : Nat) (As : List Value) (H0 : Heap) (P : Option Value → Heap → Prop) : Prop :=
  Met l y (.code y cc n ret :: WU) ({ frames := f, cells := mc, slots := ms, locals := lo }) (PnS D cA B b L xs As H0) (Qrw B P) mc ms (fun q => B ≤ q)
theorem MetSR.of {D : va_G} {cA : Nat → ClassId} {B b L : Nat} {xs : Nat → Int32} {l : Launch} {y : MethodName} {cc : ByteArray} {n : Nat} {ret : Option FieldType} {f lo : Nat} {As : List Value} {H0 : Heap} {v : Option Value} (hy : plainName y.cls = true) (hn : (lg_sl As).length ≤ n)
    (body : ∀ (p : Program) (e : Env) (s : State) (m : MethodId) (args : Array Value) (below : List Frame) (meth : Method) (c : Code), CallFix p m c cc n s args WU y.cls → meth.sig.returnType = ret → meth.locks = false → s.heap = H0 → KS D cA B b L xs s → ∀ ls : Array Slot, lv_has ls n (lv_args 0 As) →
      W p l e (rmOf f lo) s m args below meth c s.heap [] 0 0 (MQ below (Qro v) args s 0 0 (fun _ => False)) (F0 m 0 ls [])) : MetSR D cA B b L xs l y cc n ret f lo As H0 v := by
  refine Met.ofW (cc := cc) (maxL := n) (ret := ret) hy rfl ?_
  intro p e s m args below meth c s₁ Bo hml hv
  obtain ⟨rfl, hh, K⟩ := hv
  have hts := atoms_spec (ws := Cond.code y cc n ret :: WU) Bo.pre
  have hl := lv_entry As (n := n) hn
  rw [lg_entry_eq]
  generalize (lg_sl As ++ List.replicate (n - (lg_sl As).length) Slot.unset).toArray = ls at hl ⊢
  exact body p e s m _ below meth c ⟨Bo.exec, Bo.bytes, hml, findClass_of_methodNamed Bo.named, fun w h => hts w (List.mem_cons_of_mem _ h)⟩ Bo.returns Bo.notSynchronized hh K ls hl
theorem MetSW.of {D : va_G} {cA : Nat → ClassId} {B b L : Nat} {xs : Nat → Int32} {l : Launch} {y : MethodName} {cc : ByteArray} {n : Nat} {ret : Option FieldType} {f lo mc ms : Nat} {As : List Value} {H0 : Heap} {P : Option Value → Heap → Prop} (hy : plainName y.cls = true) (hn : (lg_sl As).length ≤ n)
    (body : ∀ (p : Program) (e : Env) (s : State) (m : MethodId) (args : Array Value) (below : List Frame) (meth : Method) (c : Code), CallFix p m c cc n s args WU y.cls → meth.sig.returnType = ret → meth.locks = false → s.heap = H0 → KS D cA B b L xs s → ∀ ls : Array Slot, lv_has ls n (lv_args 0 As) →
      W p l e ({ frames := f, cells := mc, slots := ms, locals := lo }) s m args below meth c s.heap [] 0 0 (MQ below (Qrw B P) args s mc ms (fun q => B ≤ q)) (F0 m 0 ls [])) : MetSW D cA B b L xs l y cc n ret f lo mc ms As H0 P := by
  refine Met.ofW (cc := cc) (maxL := n) (ret := ret) hy rfl ?_
  intro p e s m args below meth c s₁ Bo hml hv
  obtain ⟨rfl, hh, K⟩ := hv
  have hts := atoms_spec (ws := Cond.code y cc n ret :: WU) Bo.pre
  have hl := lv_entry As (n := n) hn
  rw [lg_entry_eq]
  generalize (lg_sl As ++ List.replicate (n - (lg_sl As).length) Slot.unset).toArray = ls at hl ⊢
  exact body p e s m _ below meth c ⟨Bo.exec, Bo.bytes, hml, findClass_of_methodNamed Bo.named, fun w h => hts w (List.mem_cons_of_mem _ h)⟩ Bo.returns Bo.notSynchronized hh K ls hl
section NCS
variable {p : Program} {l : Launch} {e : Env} {R : Room} {s : State} {m : MethodId} {args : Array Value} {below : List Frame} {meth : Method} {c : Code} {H : Heap} {locs : List Loc} {cells slots : Nat} {Q : State → Prop}
variable {cc ycc : ByteArray} {nL : Nat} {own : String} {pc : Nat} {ls : Array Slot} {rest st0 : List Value} {D : va_G} {cA : Nat → ClassId} {B b L : Nat} {xs : Nat → Int32}
variable {y : MethodName} {yn idx f lo mc ms num : Nat} {ret : Option FieldType} {As : List Value}
theorem nc_rSS (S : CallFix p m c cc nL s args WU own) (K : KS D cA B b L xs s) (hS : va_S (fun q => B ≤ q) s.heap H locs) {v : Value}
    (hM : MetSR D cA B b L xs l y ycc yn ret f lo As H (some v)) (w1 : Cond.methodLink own idx y ∈ WU) (w2 : Cond.static y ∈ WU) (w4 : Cond.initialized y.cls ∈ WU) (w5 : Cond.code y ycc yn ret ∈ WU) (hd : okN y num) (hlen : As.length = num) (hR : f + 1 ≤ R.frames ∧ 8 + (yn + 11) + lo ≤ R.locals) (hz : ls.size = nL) (hst : st0 = As.reverse ++ rest) (hw : (rest.map fun v => v.category).sum ≤ 8) (hdg : decode cc pc = .ok (.invokestatic idx, 3)) (hf : cells ≤ R.cells ∧ slots ≤ R.slots)
    (kk : W p l e R s m args below meth c H locs cells slots Q (F0 m (pc + 3) ls (v :: rest))) : W p l e R s m args below meth c H locs cells slots Q (F0 m pc ls st0) :=
  nc_ro (va_runS (As := As) (rest := rest) S hM (va_cwS num S.2.2.2.2 (wu_S w1 w2 w4 (wu_cons w5)) rfl rfl rfl hd hR) (nb_selfS K hS) rfl hlen hz hst (lv_room hw) hdg hf) kk
theorem nc_wSS {P : Option Value → Heap → Prop} (S : CallFix p m c cc nL s args WU own) (K : KS D cA B b L xs s) (hS : va_S (fun q => B ≤ q) s.heap H locs)
    (hM : MetSW D cA B b L xs l y ycc yn ret f lo mc ms As H P) (w1 : Cond.methodLink own idx y ∈ WU) (w2 : Cond.static y ∈ WU) (w4 : Cond.initialized y.cls ∈ WU) (w5 : Cond.code y ycc yn ret ∈ WU) (hd : okN y num) (hlen : As.length = num) (hR : f + 1 ≤ R.frames ∧ 8 + (yn + 11) + lo ≤ R.locals) (hz : ls.size = nL) (hst : st0 = As.reverse ++ rest) (hw : (rest.map fun v => v.category).sum ≤ 8) (hdg : decode cc pc = .ok (.invokestatic idx, 3)) (hf : cells + mc ≤ R.cells ∧ slots + ms ≤ R.slots)
    (kk : ∀ (v : Option Value) (H1 : Heap) (locs1 : List Loc), P v H1 → va_S (fun q => B ≤ q) s.heap H1 locs1 → W p l e R s m args below meth c H1 locs1 (cells + mc) (slots + ms) Q (F0 m (pc + 3) ls (v.toList ++ rest))) : W p l e R s m args below meth c H locs cells slots Q (F0 m pc ls st0) :=
  nc_rw (va_runS (As := As) (rest := rest) S hM (va_cwS num S.2.2.2.2 (wu_S w1 w2 w4 (wu_cons w5)) rfl rfl rfl hd hR) (nb_selfS K hS) rfl hlen hz hst (lv_room hw) hdg hf) hS kk
end NCS
/-- a cell of the script, or what stands for one behind its end -/
def cellV (L : Nat) (xs : Nat → Int32) (k : Nat) : Int32 := if k < L then xs k else 7919 * (nI k + 3) * (nI k + 11)
/-- the rest of the lower 31 bits -/
def lowN (v : Int32) (n : Nat) : Nat := v.toBitVec.toNat % 2 ^ 31 % n
theorem lowN_lt (v : Int32) {n : Nat} (h : 0 < n) : lowN v n < n := Nat.mod_lt _ h
theorem m_cell {D : va_G} {cA : Nat → ClassId} {B b L : Nat} {xs : Nat → Int32} (l : Launch) {H0 : Heap} (k : Nat) (hk : k < 2 ^ 30) (hL : L < 2 ^ 31) : MetSR D cA B b L xs l yL_cell cL_cell 2 (some .int) 0 0 [.ref b, .int (nI k)] H0 (some (.int (cellV L xs k))) := by
  refine MetSR.of (by decide) (Nat.le_of_ble_eq_true rfl) ?_
  intro p e s m args below meth c S hr hlk hh K ls hl
  obtain ⟨K0, hX, hbl, hbB⟩ := id K
  subst hh
  have hS : va_S (fun q => B ≤ q) s.heap s.heap [] := va_S.rf
  have hl : lv_has ls 2 [(0, .ref b), (1, .int (nI k))] := hl
  refine lv_iload_n S.1 S.2.1 dL_cell_0 rfl (lv_at hl 1 rfl) ?_
  refine lv_aload_n S.1 S.2.1 dL_cell_1 rfl (lv_at hl 0 rfl) ?_
  refine va_slen S.1 S.2.1 hX hbl hbB hS dL_cell_2 ?_
  refine lv_icmp_ge (tgt := 12) S.1 S.2.1 dL_cell_3 (by decide) (fun z => ?_) (fun z => ?_)
  · have z : nI L ≤ nI k := z
    have z2 : ¬ k < L := by
      have := (nI_leI hL (by omega)).mp z
      omega
    refine lv_sipush (v := 7919) S.1 S.2.1 dL_cell_12 (by decide) ?_
    refine lv_iload_n S.1 S.2.1 dL_cell_15 rfl (lv_at hl 1 rfl) ?_
    refine lv_iconst (v := 3) S.1 S.2.1 dL_cell_16 (by decide) ?_
    refine lv_iadd S.1 S.2.1 dL_cell_17 ?_
    refine lv_imul S.1 S.2.1 dL_cell_18 ?_
    refine lv_iload_n S.1 S.2.1 dL_cell_19 rfl (lv_at hl 1 rfl) ?_
    refine lv_bipush (v := 11) S.1 S.2.1 dL_cell_20 (by decide) ?_
    refine lv_iadd S.1 S.2.1 dL_cell_22 ?_
    refine lv_imul S.1 S.2.1 dL_cell_23 ?_
    exact ee_rI S hr hlk (by unfold cellV; rw [if_neg z2]) dL_cell_24
  · have z : ¬ nI L ≤ nI k := z
    have z2 : k < L := Nat.lt_of_not_le (fun q => z ((nI_leI hL (by omega)).mpr q))
    refine lv_aload_n S.1 S.2.1 dL_cell_6 rfl (lv_at hl 0 rfl) ?_
    refine lv_iload_n S.1 S.2.1 dL_cell_7 rfl (lv_at hl 1 rfl) ?_
    refine va_sld S.1 S.2.1 hX hbl hbB hS (pk_in k L z2 rfl hL) dL_cell_8 ?_
    refine lv_goto (tgt := 24) S.1 S.2.1 dL_cell_9 (by decide) ?_
    exact ee_rI S hr hlk (by unfold cellV; rw [if_pos z2, nI_clamp (by omega)]) dL_cell_24
theorem m_low {D : va_G} {cA : Nat → ClassId} {B : Nat} (l : Launch) {H0 : Heap} (v : Int32) (n : Nat) (h0 : 0 < n) (hn : n < 2 ^ 31) : MetR D cA B l yL_low cL_low 2 (some .int) 0 0 [.int v, .int (nI n)] H0 (some (.int (nI (lowN v n)))) := by
  refine MetR.of (by decide) (Nat.le_of_ble_eq_true rfl) ?_
  intro p e s m args below meth c S hr hlk hh K ls hl
  subst hh
  have hl : lv_has ls 2 [(0, .int v), (1, .int (nI n))] := hl
  have hm : v.toBitVec.toNat % 2 ^ 31 < 2 ^ 31 := Nat.mod_lt _ (by decide)
  refine lv_iload_n S.1 S.2.1 dL_low_0 rfl (lv_at hl 0 rfl) ?_
  refine lv_ldc S.1 S.2.1 S.2.2.2.1 (S.2.2.2.2 _ k2_198) dL_low_1 ?_
  refine lv_iand S.1 S.2.1 dL_low_3 ?_
  refine nt_i (y := nI (v.toBitVec.toNat % 2 ^ 31)) (pk_and v (m := 2147483647) 31 (by decide)) ?_
  refine lv_iload_n S.1 S.2.1 dL_low_4 rfl (lv_at hl 1 rfl) ?_
  refine lv_irem S.1 S.2.1 dL_low_5 (nI_ne0 h0 hn) ?_
  refine nt_i (y := nI (lowN v n)) (pk_rem hm h0 hn) ?_
  exact ee_rI S hr hlk rfl dL_low_6
