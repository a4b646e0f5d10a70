/-! METHODS AND CALLS over the named heap -/
theorem nb_self {D : va_G} {cA : Nat → ClassId} {B : Nat} {s : State} {H : Heap} {locs : List Loc} (K : KK D cA B s) (hS : va_S (fun q => B ≤ q) s.heap H locs) {As : List Value} : FrameBlind (Pn D cA B As H) ∧ ∀ U : State, U.heap = H → s.WarmedH U.vm → Pn D cA B As H As.toArray U :=
  ⟨Pn.blind, fun U hU hW => ⟨rfl, hU, K.moved (by rw [hU]; exact hS) hW⟩⟩
theorem MetR.of {D : va_G} {cA : Nat → ClassId} {B : Nat} {l : Launch} {y : MethodName} {cc : ByteArray} {n : Nat} {ret : Option FieldType} {f lo : Nat} {As : List Value} {H0 : Heap} {v : Option Value} (hy : plainName y.cls = true) (hn : (lg_sl As).length ≤ n)
    (body : ∀ (p : Program) (e : Env) (s : State) (m : MethodId) (args : Array Value) (below : List Frame) (meth : Method) (c : Code), CallFix p m c cc n s args WU y.cls → meth.sig.returnType = ret → meth.locks = false → s.heap = H0 → KK D cA B s → ∀ ls : Array Slot, lv_has ls n (lv_args 0 As) →
      W p l e (rmOf f lo) s m args below meth c s.heap [] 0 0 (MQ below (Qro v) args s 0 0 (fun _ => False)) (F0 m 0 ls [])) : MetR D cA B l y cc n ret f lo As H0 v := by
  refine Met.ofW (cc := cc) (maxL := n) (ret := ret) hy rfl ?_
  intro p e s m args below meth c s₁ Bo hml hv
  obtain ⟨rfl, hh, K⟩ := hv
  have hts := atoms_spec (ws := Cond.code y cc n ret :: WU) Bo.pre
  have hl := lv_entry As (n := n) hn
  rw [lg_entry_eq]
  generalize (lg_sl As ++ List.replicate (n - (lg_sl As).length) Slot.unset).toArray = ls at hl ⊢
  exact body p e s m _ below meth c ⟨Bo.exec, Bo.bytes, hml, findClass_of_methodNamed Bo.named, fun w h => hts w (List.mem_cons_of_mem _ h)⟩ Bo.returns Bo.notSynchronized hh K ls hl
theorem MetW.of {D : va_G} {cA : Nat → ClassId} {B : Nat} {l : Launch} {y : MethodName} {cc : ByteArray} {n : Nat} {ret : Option FieldType} {f lo mc ms : Nat} {As : List Value} {H0 : Heap} {P : Option Value → Heap → Prop} (hy : plainName y.cls = true) (hn : (lg_sl As).length ≤ n)
    (body : ∀ (p : Program) (e : Env) (s : State) (m : MethodId) (args : Array Value) (below : List Frame) (meth : Method) (c : Code), CallFix p m c cc n s args WU y.cls → meth.sig.returnType = ret → meth.locks = false → meth.name = y.name → s.heap = H0 → KK D cA B s → ∀ ls : Array Slot, lv_has ls n (lv_args 0 As) →
      W p l e ({ frames := f, cells := mc, slots := ms, locals := lo }) s m args below meth c s.heap [] 0 0 (MQ below (Qrw B P) args s mc ms (fun q => B ≤ q)) (F0 m 0 ls [])) : MetW D cA B l y cc n ret f lo mc ms As H0 P := by
  refine Met.ofW (cc := cc) (maxL := n) (ret := ret) hy rfl ?_
  intro p e s m args below meth c s₁ Bo hml hv
  obtain ⟨rfl, hh, K⟩ := hv
  have hts := atoms_spec (ws := Cond.code y cc n ret :: WU) Bo.pre
  have hl := lv_entry As (n := n) hn
  rw [lg_entry_eq]
  generalize (lg_sl As ++ List.replicate (n - (lg_sl As).length) Slot.unset).toArray = ls at hl ⊢
  exact body p e s m _ below meth c ⟨Bo.exec, Bo.bytes, hml, findClass_of_methodNamed Bo.named, fun w h => hts w (List.mem_cons_of_mem _ h)⟩ Bo.returns Bo.notSynchronized (name_of_methodNamed Bo.named Bo.method).1 hh K ls hl
theorem MetX.of {D : va_G} {cA : Nat → ClassId} {B : Nat} {l : Launch} {y : MethodName} {cc : ByteArray} {n : Nat} {ret : Option FieldType} {f lo mc ms : Nat} {As : List Value} {H0 : Heap} {P : Option Value → Heap → Prop} {X : String → Heap → Prop} (hy : plainName y.cls = true) (hn : (lg_sl As).length ≤ n)
    (body : ∀ (p : Program) (e : Env) (s : State) (m : MethodId) (args : Array Value) (below : List Frame) (meth : Method) (c : Code), CallFix p m c cc n s args WU y.cls → meth.sig.returnType = ret → meth.locks = false → (∀ x ∈ c.exceptionTable.toList, False) → s.heap = H0 → KK D cA B s → ∀ ls : Array Slot, lv_has ls n (lv_args 0 As) →
      W p l e ({ frames := f, cells := mc, slots := ms, locals := lo }) s m args below meth c s.heap [] 0 0 (vx_MQ below (Qrw B P) (Xrw B X) args s mc ms (fun q => B ≤ q)) (F0 m 0 ls [])) : MetX D cA B l y cc n ret f lo mc ms As H0 P X := by
  refine vx_ofW (cc := cc) (maxL := n) (ret := ret) hy rfl ?_
  intro p e s m args below meth c s₁ Bo hml ht hv
  obtain ⟨rfl, hh, K⟩ := hv
  have hts := atoms_spec (ws := Cond.code y cc n ret :: WU) Bo.pre
  have hl := lv_entry As (n := n) hn
  rw [lg_entry_eq]
  generalize (lg_sl As ++ List.replicate (n - (lg_sl As).length) Slot.unset).toArray = ls at hl ⊢
  exact body p e s m _ below meth c ⟨Bo.exec, Bo.bytes, hml, findClass_of_methodNamed Bo.named, fun w h => hts w (List.mem_cons_of_mem _ h)⟩ Bo.returns Bo.notSynchronized ht hh K ls hl
section NC
variable {p : Program} {l : Launch} {e : Env} {R : Room} {s : State} {m : MethodId} {args : Array Value} {below : List Frame} {meth : Method} {c : Code} {H : Heap} {locs : List Loc} {cells slots : Nat} {Q : State → Prop}
variable {cc ycc : ByteArray} {nL : Nat} {own : String} {pc : Nat} {ls : Array Slot} {rest st0 : List Value} {D : va_G} {cA : Nat → ClassId} {B : Nat} {dom : Nat → Prop} {ad : Nat → Nat} {E : Nat → va_E}
variable {y : MethodName} {yn idx f lo mc ms num : Nat} {ret : Option FieldType} {As : List Value}
/-- behind a call that only reads: all is as it was -/
theorem nc_ro {v : Value} {a : Array Value} (hr : va_Run p l e R s m args below meth c H locs cells slots 0 0 (F0 m pc ls st0) rest (Qro (some v) a) (fun _ => False))
    (kk : W p l e R s m args below meth c H locs cells slots Q (F0 m (pc + 3) ls (v :: rest))) : W p l e R s m args below meth c H locs cells slots Q (F0 m pc ls st0) := by
  intro T hT X
  obtain ⟨w, st₀, t, T', L, h0, X', hL, e1, e2, ⟨hv, hh⟩, st⟩ := hr T hT X
  cases hv
  obtain ⟨t2, a1, b1⟩ := kk T' (by rw [e1, hh, h0]) (Stand.forget X' (fun q h => (hL q h).elim))
  exact ⟨t2, st t2 a1, b1⟩
/-- behind a call that writes -/
theorem nc_rw {P : Option Value → Heap → Prop} {a : Array Value} (hr : va_Run p l e R s m args below meth c H locs cells slots mc ms (F0 m pc ls st0) rest (Qrw B P a) (fun q => B ≤ q)) (hS : va_S (fun q => B ≤ q) s.heap H locs)
    (kk : ∀ (v : Option Value) (H1 : Heap) (locs1 : List Loc), P v H1 → va_S (fun q => B ≤ q) s.heap H1 locs1 → W p l e R s m args below meth c H1 locs1 (cells + mc) (slots + ms) Q (F0 m (pc + 3) ls (v.toList ++ rest))) : W p l e R s m args below meth c H locs cells slots Q (F0 m pc ls st0) := by
  intro T hT X
  obtain ⟨w, st₀, t, T', L, h0, X', hL, e1, e2, ⟨⟨v, hv, hP⟩, hz, hk⟩, st⟩ := hr T hT X
  cases hv
  rw [h0] at hz hk
  have hS1 : va_S (fun q => B ≤ q) s.heap t.heap (locs ++ L) := ⟨Nat.le_trans hS.1 hz, fun q h1 h2 => (hk q (Nat.lt_of_lt_of_le h1 hS.1) h2).trans (hS.2.1 q h1 h2), fun q hq => (List.mem_append.mp hq).elim (hS.2.2 q) (hL q)⟩
  obtain ⟨t2, a1, b1⟩ := kk w t.heap (locs ++ L) hP hS1 T' e1 X'
  exact ⟨t2, st t2 a1, b1⟩
abbrev okN (y : MethodName) (num : Nat) : Prop := y.cls ≠ "java/lang/invoke/MethodHandle" ∧ y.cls ≠ "java/lang/invoke/VarHandle" ∧ (parseMethodDescriptor y.desc).map (fun d => d.parameters.length) = some num
theorem nc_rV (S : CallFix p m c cc nL s args WU own) (K : KK D cA B s) (N : nh D B dom ad E H) (hS : va_S (fun q => B ≤ q) s.heap H locs) (r : Nat) (hr : dom r) {ci : Nat} {fs : List Value} (hE : E r = .inr (ci, fs)) {T : u_T} {n : Nat} (hc : vwCl[ci]? = some (y.cls, T, n)) {v : Value}
    (hM : MetR D cA B l y ycc yn ret f lo (.ref (ad r) :: As) H (some v)) (w1 : Cond.methodLink own idx y ∈ WU) (w2 : Cond.instanceMethod y ∈ WU) (w3 : Cond.selects y.cls y y ∈ WU) (w4 : Cond.initialized y.cls ∈ WU) (w5 : Cond.code y ycc yn ret ∈ WU) (hd : okN y num) (hlen : As.length = num) (hR : f + 1 ≤ R.frames ∧ 8 + (yn + 11) + lo ≤ R.locals) (hz : ls.size = nL) (hst : st0 = As.reverse ++ .ref (ad r) :: rest) (hw : (rest.map fun v => v.category).sum ≤ 8) (hdg : decode cc pc = .ok (.invokevirtual idx, 3)) (hf : cells ≤ R.cells ∧ slots ≤ R.slots)
    (kk : W p l e R s m args below meth c H locs cells slots Q (F0 m (pc + 3) ls (v :: rest))) : W p l e R s m args below meth c H locs cells slots Q (F0 m pc ls st0) :=
  nc_ro (va_runV (As := As) (rest := rest) S hM (cwV num S.2.2.2.2 (wu_V w1 w2 w3 w4 (wu_cons w5)) rfl rfl rfl ⟨rfl, hd⟩ hR) ⟨(nb_self K hS).1, va_recv K.1 (nh_one N hr hE) hc (q0 := 0) rfl, (nb_self K hS).2⟩ rfl hlen hz hst (lv_room hw) hdg hf) kk
theorem nc_rS (S : CallFix p m c cc nL s args WU own) (K : KK D cA B s) (hS : va_S (fun q => B ≤ q) s.heap H locs) {v : Value}
    (hM : MetR D cA B l y ycc yn ret f lo As H (some v)) (w1 : Cond.methodLink own idx y ∈ WU) (w2 : Cond.static y ∈ WU) (w4 : Cond.initialized y.cls ∈ WU) (w5 : Cond.code y ycc yn ret ∈ WU) (hd : okN y num) (hlen : As.length = num) (hR : f + 1 ≤ R.frames ∧ 8 + (yn + 11) + lo ≤ R.locals) (hz : ls.size = nL) (hst : st0 = As.reverse ++ rest) (hw : (rest.map fun v => v.category).sum ≤ 8) (hdg : decode cc pc = .ok (.invokestatic idx, 3)) (hf : cells ≤ R.cells ∧ slots ≤ R.slots)
    (kk : W p l e R s m args below meth c H locs cells slots Q (F0 m (pc + 3) ls (v :: rest))) : W p l e R s m args below meth c H locs cells slots Q (F0 m pc ls st0) :=
  nc_ro (va_runS (As := As) (rest := rest) S hM (va_cwS num S.2.2.2.2 (wu_S w1 w2 w4 (wu_cons w5)) rfl rfl rfl hd hR) (nb_self K hS) rfl hlen hz hst (lv_room hw) hdg hf) kk
theorem nc_rSN (S : CallFix p m c cc nL s args WU own) (K : KK D cA B s) (hS : va_S (fun q => B ≤ q) s.heap H locs) {v : Value}
    (hM : MetR D cA B l y ycc yn ret f lo As H (some v)) (w1 : (own, idx, y) ∈ nwM) (w2 : Cond.static y ∈ WU) (w4 : Cond.initialized y.cls ∈ WU) (w5 : Cond.code y ycc yn ret ∈ WU) (hd : okN y num) (hlen : As.length = num) (hR : f + 1 ≤ R.frames ∧ 8 + (yn + 11) + lo ≤ R.locals) (hz : ls.size = nL) (hst : st0 = As.reverse ++ rest) (hw : (rest.map fun v => v.category).sum ≤ 8) (hdg : decode cc pc = .ok (.invokestatic idx, 3)) (hf : cells ≤ R.cells ∧ slots ≤ R.slots)
    (kk : W p l e R s m args below meth c H locs cells slots Q (F0 m (pc + 3) ls (v :: rest))) : W p l e R s m args below meth c H locs cells slots Q (F0 m pc ls st0) :=
  nc_ro (va_runSN (As := As) (rest := rest) S hM ⟨va_cnB num S.2.2.2.2 (wu_cons w5) rfl rfl rfl (K.2.2.1 _ w1) (S.2.2.2.2 _ w4) hd hR, S.2.2.2.2 _ w2, trivial⟩ (nb_self K hS) rfl hlen hz hst (lv_room hw) hdg hf) kk
theorem nc_wV {P : Option Value → Heap → Prop} (S : CallFix p m c cc nL s args WU own) (K : KK D cA B s) (N : nh D B dom ad E H) (hS : va_S (fun q => B ≤ q) s.heap H locs) (r : Nat) (hr : dom r) {ci : Nat} {fs : List Value} (hE : E r = .inr (ci, fs)) {T : u_T} {n : Nat} (hc : vwCl[ci]? = some (y.cls, T, n))
    (hM : MetW D cA B l y ycc yn ret f lo mc ms (.ref (ad r) :: As) H P) (w1 : Cond.methodLink own idx y ∈ WU) (w2 : Cond.instanceMethod y ∈ WU) (w3 : Cond.selects y.cls y y ∈ WU) (w4 : Cond.initialized y.cls ∈ WU) (w5 : Cond.code y ycc yn ret ∈ WU) (hd : okN y num) (hlen : As.length = num) (hR : f + 1 ≤ R.frames ∧ 8 + (yn + 11) + lo ≤ R.locals) (hz : ls.size = nL) (hst : st0 = As.reverse ++ .ref (ad r) :: rest) (hw : (rest.map fun v => v.category).sum ≤ 8) (hdg : decode cc pc = .ok (.invokevirtual idx, 3)) (hf : cells + mc ≤ R.cells ∧ slots + ms ≤ R.slots)
    (kk : ∀ (v : Option Value) (H1 : Heap) (locs1 : List Loc), P v H1 → va_S (fun q => B ≤ q) s.heap H1 locs1 → W p l e R s m args below meth c H1 locs1 (cells + mc) (slots + ms) Q (F0 m (pc + 3) ls (v.toList ++ rest))) : W p l e R s m args below meth c H locs cells slots Q (F0 m pc ls st0) :=
  nc_rw (va_runV (As := As) (rest := rest) S hM (cwV num S.2.2.2.2 (wu_V w1 w2 w3 w4 (wu_cons w5)) rfl rfl rfl ⟨rfl, hd⟩ hR) ⟨(nb_self K hS).1, va_recv K.1 (nh_one N hr hE) hc (q0 := 0) rfl, (nb_self K hS).2⟩ rfl hlen hz hst (lv_room hw) hdg hf) hS kk
theorem nc_wI {P : Option Value → Heap → Prop} {b : Nat} (S : CallFix p m c cc nL s args WU own) (K : KK D cA B s) (hS : va_S (fun q => B ≤ q) s.heap H locs)
    (hM : MetW D cA B l y ycc yn none f lo mc ms (.ref b :: As) H P) (w1 : Cond.methodLink own idx y ∈ WU) (w2 : Cond.instanceMethod y ∈ WU) (hi : y.name = "<init>") (w4 : Cond.initialized y.cls ∈ WU) (w5 : Cond.code y ycc yn none ∈ WU) (hd : okN y num) (hlen : As.length = num) (hR : f + 1 ≤ R.frames ∧ 8 + (yn + 11) + lo ≤ R.locals) (hz : ls.size = nL) (hst : st0 = As.reverse ++ .ref b :: rest) (hw : (rest.map fun v => v.category).sum ≤ 8) (hdg : decode cc pc = .ok (.invokespecial idx, 3)) (hf : cells + mc ≤ R.cells ∧ slots + ms ≤ R.slots)
    (kk : ∀ (v : Option Value) (H1 : Heap) (locs1 : List Loc), P v H1 → va_S (fun q => B ≤ q) s.heap H1 locs1 → W p l e R s m args below meth c H1 locs1 (cells + mc) (slots + ms) Q (F0 m (pc + 3) ls (v.toList ++ rest))) : W p l e R s m args below meth c H locs cells slots Q (F0 m pc ls st0) :=
  nc_rw (va_runI (As := As) (rest := rest) S hM (cwI num S.2.2.2.2 (wu_cons w5) rfl rfl rfl (S.2.2.2.2 _ w4) (S.2.2.2.2 _ w1) (S.2.2.2.2 _ w2) hi hd hR) (nb_self K hS) rfl hlen hz hst (lv_room hw) hdg hf) hS kk
theorem nc_wIN {P : Option Value → Heap → Prop} {b : Nat} (S : CallFix p m c cc nL s args WU own) (K : KK D cA B s) (hS : va_S (fun q => B ≤ q) s.heap H locs)
    (hM : MetW D cA B l y ycc yn none f lo mc ms (.ref b :: As) H P) (w1 : (own, idx, y) ∈ nwM) (w2 : Cond.instanceMethod y ∈ WU) (hi : y.name = "<init>") (w4 : Cond.initialized y.cls ∈ WU) (w5 : Cond.code y ycc yn none ∈ WU) (hd : okN y num) (hlen : As.length = num) (hR : f + 1 ≤ R.frames ∧ 8 + (yn + 11) + lo ≤ R.locals) (hz : ls.size = nL) (hst : st0 = As.reverse ++ .ref b :: rest) (hw : (rest.map fun v => v.category).sum ≤ 8) (hdg : decode cc pc = .ok (.invokespecial idx, 3)) (hf : cells + mc ≤ R.cells ∧ slots + ms ≤ R.slots)
    (kk : ∀ (v : Option Value) (H1 : Heap) (locs1 : List Loc), P v H1 → va_S (fun q => B ≤ q) s.heap H1 locs1 → W p l e R s m args below meth c H1 locs1 (cells + mc) (slots + ms) Q (F0 m (pc + 3) ls (v.toList ++ rest))) : W p l e R s m args below meth c H locs cells slots Q (F0 m pc ls st0) :=
  nc_rw (va_runIN (As := As) (rest := rest) S hM ⟨va_cnB num S.2.2.2.2 (wu_cons w5) rfl rfl rfl (K.2.2.1 _ w1) (S.2.2.2.2 _ w4) hd hR, hi, S.2.2.2.2 _ w2⟩ (nb_self K hS) rfl hlen hz hst (lv_room hw) hdg hf) hS kk
/-- ends of methods that only read -/
theorem ne_rI {v : Int32} (S : CallFix p m c cc nL s args WU own) (hr : meth.sig.returnType = some .int) (hlk : meth.locks = false) (hdg : decode cc pc = .ok (.ireturn, 1)) : W p l e R s m args below meth c s.heap [] 0 0 (MQ below (Qro (some (.int v))) args s 0 0 (fun _ => False)) (F0 m pc ls [.int v]) :=
  W.iret S.1 S.2.1 hr (fun _ ht _ => ⟨rfl, ht⟩) (fun _ h => absurd h List.not_mem_nil) hdg hlk
theorem ne_rZ {v : Int32} (S : CallFix p m c cc nL s args WU own) (hr : meth.sig.returnType = some .boolean) (hlk : meth.locks = false) (hv : vp_nar .boolean v = v) (hdg : decode cc pc = .ok (.ireturn, 1)) : W p l e R s m args below meth c s.heap [] 0 0 (MQ below (Qro (some (.int v))) args s 0 0 (fun _ => False)) (F0 m pc ls [.int v]) :=
  W.zret S.1 S.2.1 hr (show narrow .boolean (.int v) = .int v from (show narrow .boolean (.int v) = .int (vp_nar .boolean v) from rfl).trans (by rw [hv])) (fun _ ht _ => ⟨rfl, ht⟩) (fun _ h => absurd h List.not_mem_nil) hdg hlk
theorem ne_rD {v : UInt64} (S : CallFix p m c cc nL s args WU own) (hr : meth.sig.returnType = some .double) (hlk : meth.locks = false) (hdg : decode cc pc = .ok (.dreturn, 1)) : W p l e R s m args below meth c s.heap [] 0 0 (MQ below (Qro (some (.double v))) args s 0 0 (fun _ => False)) (F0 m pc ls [.double v]) :=
  W.dret S.1 S.2.1 hr (fun _ ht _ => ⟨rfl, ht⟩) (fun _ h => absurd h List.not_mem_nil) hdg hlk
theorem ne_rA {v : Value} {C : String} (S : CallFix p m c cc nL s args WU own) (hr : meth.sig.returnType = some (.object C)) (hlk : meth.locks = false) (hv : v = .null ∨ ∃ a, v = .ref a) (hdg : decode cc pc = .ok (.areturn, 1)) : W p l e R s m args below meth c s.heap [] 0 0 (MQ below (Qro (some v)) args s 0 0 (fun _ => False)) (F0 m pc ls [v]) :=
  W.aret S.1 S.2.1 hr (Or.inl ⟨_, rfl⟩) hv (fun _ ht _ => ⟨rfl, ht⟩) (fun _ h => absurd h List.not_mem_nil) hdg hlk
/-- ends of methods that write -/
theorem ne_wI {v : Int32} {P : Option Value → Heap → Prop} (S : CallFix p m c cc nL s args WU own) (hS : va_S (fun q => B ≤ q) s.heap H locs) (hr : meth.sig.returnType = some .int) (hlk : meth.locks = false) (hP : P (some (.int v)) H) (hdg : decode cc pc = .ok (.ireturn, 1)) : W p l e R s m args below meth c H locs cells slots (MQ below (Qrw B P) args s cells slots (fun q => B ≤ q)) (F0 m pc ls [.int v]) :=
  W.iret S.1 S.2.1 hr (fun _ ht _ => ⟨⟨_, rfl, by rw [ht]; exact hP⟩, hS.F ht⟩) hS.2.2 hdg hlk
theorem ne_wZ {v : Int32} {P : Option Value → Heap → Prop} (S : CallFix p m c cc nL s args WU own) (hS : va_S (fun q => B ≤ q) s.heap H locs) (hr : meth.sig.returnType = some .boolean) (hlk : meth.locks = false) (hv : vp_nar .boolean v = v) (hP : P (some (.int v)) H) (hdg : decode cc pc = .ok (.ireturn, 1)) : W p l e R s m args below meth c H locs cells slots (MQ below (Qrw B P) args s cells slots (fun q => B ≤ q)) (F0 m pc ls [.int v]) :=
  W.zret S.1 S.2.1 hr (show narrow .boolean (.int v) = .int v from (show narrow .boolean (.int v) = .int (vp_nar .boolean v) from rfl).trans (by rw [hv])) (fun _ ht _ => ⟨⟨_, rfl, by rw [ht]; exact hP⟩, hS.F ht⟩) hS.2.2 hdg hlk
theorem ne_wD {v : UInt64} {P : Option Value → Heap → Prop} (S : CallFix p m c cc nL s args WU own) (hS : va_S (fun q => B ≤ q) s.heap H locs) (hr : meth.sig.returnType = some .double) (hlk : meth.locks = false) (hP : P (some (.double v)) H) (hdg : decode cc pc = .ok (.dreturn, 1)) : W p l e R s m args below meth c H locs cells slots (MQ below (Qrw B P) args s cells slots (fun q => B ≤ q)) (F0 m pc ls [.double v]) :=
  W.dret S.1 S.2.1 hr (fun _ ht _ => ⟨⟨_, rfl, by rw [ht]; exact hP⟩, hS.F ht⟩) hS.2.2 hdg hlk
theorem ne_wV {P : Option Value → Heap → Prop} (S : CallFix p m c cc nL s args WU own) (hS : va_S (fun q => B ≤ q) s.heap H locs) (hr : meth.sig.returnType = none) (hlk : meth.locks = false) (hP : P none H) (hdg : decode cc pc = .ok (.return_, 1)) : W p l e R s m args below meth c H locs cells slots (MQ below (Qrw B P) args s cells slots (fun q => B ≤ q)) (F0 m pc ls []) :=
  W.vret S.1 S.2.1 hr (fun _ ht _ => ⟨⟨_, rfl, by rw [ht]; exact hP⟩, hS.F ht⟩) hS.2.2 hdg hlk
/-- super(), of java/lang/Object -/
theorem nc_obj {b : Nat} (S : CallFix p m c cc nL s args WU own) (w1 : Cond.methodLink own idx objectInit ∈ WU) (w2 : Cond.instanceMethod objectInit ∈ WU) (w3 : Cond.code objectInit ⟨#[0xb1]⟩ 1 none ∈ WU) (hz : ls.size = nL) (hw : (rest.map fun v => v.category).sum ≤ 8) (hdg : decode cc pc = .ok (.invokespecial idx, 3)) (hR : 1 ≤ R.frames ∧ 20 ≤ R.locals)
    (kk : W p l e R s m args below meth c H locs cells slots Q (F0 m (pc + 3) ls rest)) : W p l e R s m args below meth c H locs cells slots Q (F0 m pc ls (.ref b :: rest)) := by
  refine W.objInit S.1 S.2.1 S.2.2.2.1 (S.2.2.2.2 _ w1) (S.2.2.2.2 _ w2) (S.2.2.2.2 _ w3) rfl (by rw [S.2.2.1]; exact hz) rfl hdg hR.1 (by have h9 := lv_room (m := m) (pc := pc) (ls := ls) (rest := .ref b :: rest) hw; omega) ?_
  exact kk
end NC
