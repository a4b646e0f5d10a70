/-! THE LAW'S WRAPPERS: a call of the class, what it throws told by a code. The exceptions are apart -/
def KX (U : State) : Prop := va_Nc "java/lang/IllegalStateException" "java/lang/IndexOutOfBoundsException" U ∧ va_Nc "java/lang/IllegalStateException" "java/lang/IllegalArgumentException" U ∧ va_Nc "java/lang/IllegalArgumentException" "java/lang/IndexOutOfBoundsException" U
theorem KX.moved {u U : State} (hvm : u.vm.Alike U.vm) (h : KX u) : KX U := ⟨h.1.moved hvm, h.2.1.moved hvm, h.2.2.moved hvm⟩
def PnL (D : va_G) (cA : Nat → ClassId) (B : Nat) (As : List Value) (H0 : Heap) : Array Value → State → Prop := va_Pc As (fun U => U.heap = H0 ∧ KK D cA B U ∧ KX U)
theorem PnL.blind {D : va_G} {cA : Nat → ClassId} {B : Nat} {As : List Value} {H0 : Heap} : FrameBlind (PnL D cA B As H0) := fun a U g mk h => ⟨h.1, h.2.1, h.2.2.1.blind g mk _, h.2.2.2.moved (Vm.Alike.refl _)⟩
theorem nb_selfL {D : va_G} {cA : Nat → ClassId} {B : Nat} {s : State} {H : Heap} {locs : List Loc} (K : KK D cA B s) (X : KX s) (hS : va_S (fun q => B ≤ q) s.heap H locs) {As : List Value} : FrameBlind (PnL D cA B As H) ∧ ∀ U : State, U.heap = H → s.WarmedH U.vm → PnL D cA B As H As.toArray U :=
  ⟨PnL.blind, fun U hU hW => ⟨rfl, hU, K.moved (by rw [hU]; exact hS) hW, X.moved hW.alike⟩⟩
/-- a contract of a static method that catches -/
def MetH (D : va_G) (cA : Nat → ClassId) (B : Nat) (l : Launch) (y : MethodName) (cc : ByteArray) (n : Nat) (ret : Option FieldType) (hh : List (Nat × Nat × Nat × Nat)) (f lo mc ms : Nat) (As : List Value) (H0 : Heap) (P : Option Value → Heap → Prop) : Prop :=
  Met l y (.codeWith y cc n ret hh :: WU) ({ frames := f, cells := mc, slots := ms, locals := lo }) (PnL D cA B As H0) (Qrw B P) mc ms (fun q => B ≤ q)
theorem Met_ofWH {l : Launch} {y : MethodName} {ws ws' : List Cond} {rm : Room} {Pc : Array Value → State → Prop} {Qc : Array Value → State → Outcome → State → Prop} {mc ms : Nat} {free : Addr → Prop} {cc : ByteArray} {maxL : Nat} {ret : Option FieldType} {hh : List (Nat × Nat × Nat × Nat)}
    (hy : plainName y.cls = true) (hw : ws = Cond.codeWith y cc maxL ret hh :: ws')
    (body : ∀ p e s m args below meth c s₁, BodyLoose p l y (headSpec ws rm) cc maxL ret e s m args below meth c s₁ → c.maxLocals = maxL → Pc args s →
      W p l e (headSpec ws rm).room s m args below meth c s.heap [] 0 0 (MQ below Qc args s mc ms free) (entryFrame m args maxL)) : Met l y ws rm Pc Qc mc ms free := by
  refine MetFree.of_bodyS (code := cc) (maxLocals := maxL) (ret := ret) hy ?_ ?_
  · intro args s m h hn
    obtain ⟨m9, meth, c, hn9, h1, h2, h3, h4, -, h5, h6, -⟩ := Cond.codeWith_spec (atoms_spec (ws := ws) h _ (by rw [hw]; exact List.mem_cons_self))
    cases hn.symm.trans hn9
    exact ⟨meth, c, h1, h2, h3, h4, h5, h6⟩
  · intro p e s m args below meth c s₁ B hml hP _
    have hh0 : s₁.heap = s.heap := by rw [B.state]; rfl
    obtain ⟨t, a1, o, b1, b2, b3⟩ := body p e s m args below meth c s₁ B hml hP s₁ hh0 (Stand.of_body B)
    exact ⟨t, o, a1, b1, b2, ⟨b3.1, b3.2⟩⟩
theorem MetH.of {D : va_G} {cA : Nat → ClassId} {B : Nat} {l : Launch} {y : MethodName} {cc : ByteArray} {n : Nat} {ret : Option FieldType} {hh : List (Nat × Nat × Nat × Nat)} {f lo mc ms : Nat} {As : List Value} {H0 : Heap} {P : Option Value → Heap → Prop} (hy : plainName y.cls = true) (hn : (lg_sl As).length ≤ n)
    (body : ∀ (p : Program) (e : Env) (s : State) (m : MethodId) (args : Array Value) (below : List Frame) (meth : Method) (c : Code), CallFix p m c cc n s args WU y.cls → meth.sig.returnType = ret → meth.locks = false → c.exceptionTable.toList = tableOf hh → s.heap = H0 → KK D cA B s → KX s → ∀ ls : Array Slot, lv_has ls n (lv_args 0 As) →
      W p l e ({ frames := f, cells := mc, slots := ms, locals := lo }) s m args below meth c s.heap [] 0 0 (MQ below (Qrw B P) args s mc ms (fun q => B ≤ q)) (F0 m 0 ls [])) : MetH D cA B l y cc n ret hh f lo mc ms As H0 P := by
  refine Met_ofWH (cc := cc) (maxL := n) (ret := ret) (hh := hh) hy rfl ?_
  intro p e s m args below meth c s₁ Bo hml hv
  obtain ⟨rfl, hh0, K, Kx⟩ := hv
  have hts := atoms_spec (ws := Cond.codeWith y cc n ret hh :: WU) Bo.pre
  have htab := vx_table (x := y) Bo (hts _ List.mem_cons_self)
  have hl := lv_entry As (n := n) hn
  rw [lg_entry_eq]
  generalize (lg_sl As ++ List.replicate (n - (lg_sl As).length) Slot.unset).toArray = ls at hl ⊢
  exact body p e s m _ below meth c ⟨Bo.exec, Bo.bytes, hml, findClass_of_methodNamed Bo.named, fun w h => hts w (List.mem_cons_of_mem _ h)⟩ Bo.returns Bo.notSynchronized htab hh0 K Kx ls hl
section LB
variable {p : Program} {l : Launch} {e : Env} {R : Room} {s : State} {m : MethodId} {args : Array Value} {below : List Frame} {meth : Method} {c : Code} {H : Heap} {locs : List Loc} {cells slots : Nat} {Q : State → Prop}
variable {cc ycc : ByteArray} {nL : Nat} {own : String} {pc : Nat} {ls : Array Slot} {rest st0 : List Value} {D : va_G} {cA : Nat → ClassId} {B : Nat} {dom : Nat → Prop} {ad : Nat → Nat} {E : Nat → va_E} {C : Nat → Nat → Int32}
variable {y : MethodName} {yn idx f lo mc ms num : Nat} {ret : Option FieldType} {As : List Value}
/-- the call of such a method -/
theorem nc_hS {P : Option Value → Heap → Prop} {hh : List (Nat × Nat × Nat × Nat)} (S : CallFix p m c cc nL s args WU own) (K : KK D cA B s) (Kx : KX s) (hS : va_S (fun q => B ≤ q) s.heap H locs)
    (hM : MetH D cA B l y ycc yn ret hh f lo mc ms As H P) (w1 : Cond.methodLink own idx y ∈ WU) (w2 : Cond.static y ∈ WU) (w4 : Cond.initialized y.cls ∈ WU) (w5 : Cond.codeWith y ycc yn ret hh ∈ WU) (hd : okN y num) (hlen : As.length = num) (hR : f + 1 ≤ R.frames ∧ 8 + (yn + 11) + lo ≤ R.locals) (hz : ls.size = nL) (hst : st0 = As.reverse ++ rest) (hw : (rest.map fun v => v.category).sum ≤ 8) (hdg : decode cc pc = .ok (.invokestatic idx, 3)) (hf : cells + mc ≤ R.cells ∧ slots + ms ≤ R.slots)
    (kk : ∀ (v : Option Value) (H1 : Heap) (locs1 : List Loc), P v H1 → va_S (fun q => B ≤ q) s.heap H1 locs1 → W p l e R s m args below meth c H1 locs1 (cells + mc) (slots + ms) Q (F0 m (pc + 3) ls (v.toList ++ rest))) : W p l e R s m args below meth c H locs cells slots Q (F0 m pc ls st0) :=
  nc_rw (vx_runSW (As := As) (rest := rest) S hM (vx_cwSW num S.2.2.2.2 (wu_S w1 w2 w4 (wu_consW w5)) rfl rfl rfl hd hR) (nb_selfL K Kx hS) rfl hlen hz hst (lv_room hw) hdg hf) hS kk
/-- a call that may throw, on an object -/
theorem nx_V {P : Option Value → Heap → Prop} {X : String → Heap → Prop} (S : CallFix p m c cc nL s args WU own) (K : KK D cA B s) (N : nh D B dom ad E H) (hS : va_S (fun q => B ≤ q) s.heap H locs) (r : Nat) (hr : dom r) {ci : Nat} {fs : List Value} (hE : E r = .inr (ci, fs)) {T : u_T} {n : Nat} (hc : vwCl[ci]? = some (y.cls, T, n))
    (hM : MetX D cA B l y ycc yn ret f lo mc ms (.ref (ad r) :: As) H P X) (w1 : Cond.methodLink own idx y ∈ WU) (w2 : Cond.instanceMethod y ∈ WU) (w3 : Cond.selects y.cls y y ∈ WU) (w4 : Cond.initialized y.cls ∈ WU) (w5 : Cond.code y ycc yn ret ∈ WU) (hd : okN y num) (hlen : As.length = num) (hR : f + 1 ≤ R.frames ∧ 8 + (yn + 11) + lo ≤ R.locals) (hz : ls.size = nL) (hst : st0 = As.reverse ++ .ref (ad r) :: rest) (hw : (rest.map fun v => v.category).sum ≤ 8) (hdg : decode cc pc = .ok (.invokevirtual idx, 3)) (hf : cells + mc ≤ R.cells ∧ slots + ms ≤ R.slots)
    (kx : ∀ (E9 : String) (ce : Cell) (q9 : Addr) (H1 : Heap) (locs1 : List Loc), X E9 H1 → va_S (fun q => B ≤ q) s.heap H1 locs1 → H1[q9]? = some ce → ce.vm = .none → s.vm.findClass E9 = some ce.cls → vx_W p l e R s m args below meth c H1 locs1 (cells + mc) (slots + ms) Q (F0 m pc ls rest) q9)
    (kk : ∀ (v : Option Value) (H1 : Heap) (locs1 : List Loc), P v H1 → va_S (fun q => B ≤ q) s.heap H1 locs1 → W p l e R s m args below meth c H1 locs1 (cells + mc) (slots + ms) Q (F0 m (pc + 3) ls (v.toList ++ rest))) : W p l e R s m args below meth c H locs cells slots Q (F0 m pc ls st0) := by
  have hr := vx_runV (g := F0 m pc ls st0) (cells := cells) (slots := slots) (locs := locs) (e := e) (below := below) (meth := meth) (p := p) (As := As) (rest := rest) S hM (cwV num S.2.2.2.2 (wu_V w1 w2 w3 w4 (wu_cons w5)) rfl rfl rfl ⟨rfl, hd⟩ hR) ⟨(nb_self K hS).1, va_recv K.1 (nh_one N hr hE) hc (q0 := 0) rfl, (nb_self K hS).2⟩ rfl hlen hz hst (lv_room hw) hdg hf
  intro T hT X0
  have hk : ∀ (st₀ t : State) (L : List Loc), st₀.heap = H → (∀ q ∈ L, B ≤ q.base) → va_F (fun q => B ≤ q) st₀ t → va_S (fun q => B ≤ q) s.heap t.heap (locs ++ L) := by
    intro st₀ t L h0 hL hF
    obtain ⟨hz, hk⟩ := hF
    rw [h0] at hz hk
    exact ⟨Nat.le_trans hS.1 hz, fun q h1 h2 => (hk q (Nat.lt_of_lt_of_le h1 hS.1) h2).trans (hS.2.1 q h1 h2), fun q hq => (List.mem_append.mp hq).elim (hS.2.2 q) (hL q)⟩
  rcases hr T hT X0 with ⟨w, st₀, t, T', L, h0, X', hL, e1, e2, ⟨⟨v, hv, hP⟩, hF⟩, st⟩ | ⟨q, st₀, t, T', L, E9, ce, h0, X', hL, e1, e2, ⟨hX, hF⟩, hce, hcv, hcl, st⟩
  · cases hv
    obtain ⟨t2, a1, b1⟩ := kk w t.heap (locs ++ L) hP (hk st₀ t L h0 hL hF) T' e1 X'
    exact ⟨t2, st t2 a1, b1⟩
  · obtain ⟨t2, a1, b1⟩ := kx E9 ce q t.heap (locs ++ L) hX (hk st₀ t L h0 hL hF) hce hcv hcl T' e1 X'
    exact ⟨t2, st.trans a1, b1⟩
theorem kx_V {X9 : Nat → va_E} {P : Option Value → Heap → Prop} {X : String → Heap → Prop} (S : CallFix p m c cc nL s args WU own) (K : KK D cA B s) (N : kw D cA B dom ad X9 C H) (hS : va_S (fun q => B ≤ q) s.heap H locs) (h0 : dom 0) (hy : y.cls = RX4)
    (hM : MetX D cA B l y ycc yn ret f lo mc ms (.ref (ad 0) :: As) H P X) (w1 : Cond.methodLink own idx y ∈ WU) (w2 : Cond.instanceMethod y ∈ WU) (w3 : Cond.selects y.cls y y ∈ WU) (w4 : Cond.initialized y.cls ∈ WU) (w5 : Cond.code y ycc yn ret ∈ WU) (hd : okN y num) (hlen : As.length = num) (hR : f + 1 ≤ R.frames ∧ 8 + (yn + 11) + lo ≤ R.locals) (hz : ls.size = nL) (hst : st0 = As.reverse ++ .ref (ad 0) :: rest) (hw : (rest.map fun v => v.category).sum ≤ 8) (hdg : decode cc pc = .ok (.invokevirtual idx, 3)) (hf : cells + mc ≤ R.cells ∧ slots + ms ≤ R.slots)
    (kx : ∀ (E9 : String) (ce : Cell) (q9 : Addr) (H1 : Heap) (locs1 : List Loc), X E9 H1 → va_S (fun q => B ≤ q) s.heap H1 locs1 → H1[q9]? = some ce → ce.vm = .none → s.vm.findClass E9 = some ce.cls → vx_W p l e R s m args below meth c H1 locs1 (cells + mc) (slots + ms) Q (F0 m pc ls rest) q9)
    (kk : ∀ (v : Option Value) (H1 : Heap) (locs1 : List Loc), P v H1 → va_S (fun q => B ≤ q) s.heap H1 locs1 → W p l e R s m args below meth c H1 locs1 (cells + mc) (slots + ms) Q (F0 m (pc + 3) ls (v.toList ++ rest))) : W p l e R s m args below meth c H locs cells slots Q (F0 m pc ls st0) := by
  obtain ⟨E, h1, h2, h3⟩ := N
  exact nx_V S K h1 hS 0 h0 ((h2 0 (Or.inl (by decide)) h0).trans sh_K) (T := TX4) (n := 6) (by rw [hy]; rfl) hM w1 w2 w3 w4 w5 hd hlen hR hz hst hw hdg hf kx kk
/-- the list out is role 6 -/
def X6 (cA : Nat → ClassId) (X : Nat → va_E) (f : Nat → Int64) : Nat → va_E := fun r => if r = 6 then .inl (cA 2, 1, .inr (.inl f)) else X r
def ow (D : va_G) (cA : Nat → ClassId) (B : Nat) (dom : Nat → Prop) (ad : Nat → Nat) (X : Nat → va_E) (C : Nat → Nat → Int32) (y : Int64) (H : Heap) : Prop :=
  ∃ f : Nat → Int64, f 0 = y ∧ dom 6 ∧ kw D cA B dom ad (X6 cA X f) C H
/-- what stands behind the call: the answer is kept, the code is 0 -/
theorem lw_fin {X : Nat → va_E} {P : Option Value → Heap → Prop} {r : Int32} {g : Nat → Int64} {off : Int} {tgt : Nat} (S : CallFix p m c cc nL s args WU own) (K : KK D cA B s) (hr : meth.sig.returnType = some .int) (hlk : meth.locks = false) (hS : va_S (fun q => B ≤ q) s.heap H locs) (N : kw D cA B dom ad (X6 cA X g) C H) (h6 : dom 6)
    (d1 : decode cc pc = .ok (.i2l, 1)) (d2 : decode cc (pc + 1) = .ok (.lastore, 1)) (d3 : decode cc (pc + 2) = .ok (.goto off, 3)) (ht : ((pc + 2 : Nat) : Int) + off = (tgt : Int)) (d4 : decode cc tgt = .ok (.iconst 0, 1)) (d5 : decode cc (tgt + 1) = .ok (.ireturn, 1))
    (hP : ∀ h : Heap, ow D cA B dom ad X C r.toInt64 h → P (some (.int 0)) h) : W p l e R s m args below meth c H locs cells slots (MQ below (Qrw B P) args s cells slots (fun q => B ≤ q)) (F0 m pc ls [.int r, .int 0, .ref (ad 6)]) := by
  obtain ⟨E, h1, h2, h3⟩ := N
  have n6 : ¬ crole 6 := by
    unfold crole
    omega
  have e6 : E 6 = .inl (cA 2, 1, .inr (.inl g)) := by
    rw [h3 6 n6]
    unfold X6
    rw [if_pos rfl]
  refine lv_i2l (v := r.toInt64) S.1 S.2.1 d1 rfl ?_
  refine nr_last S K h1 hS 6 h6 e6 (pk_in 0 1 (by decide) rfl (by decide)) d2 (fun H1 locs1 g1 g2 _ => ?_)
  refine lv_goto (tgt := tgt) S.1 S.2.1 d3 ht ?_
  refine lv_iconst (v := 0) S.1 S.2.1 d4 (by decide) ?_
  refine ne_wI S g2 hr hlk (hP H1 ⟨vp_updL g 0 r.toInt64, if_pos rfl, h6, _, g1, fun r2 hc hd => ?_, fun r2 hc => ?_⟩) d5
  · rw [va_up_ne _ _ (fun q => n6 (by rw [← q]; exact hc))]
    exact h2 r2 hc hd
  · by_cases q : r2 = 6
    · subst q
      rw [va_up_self]
      unfold X6
      rw [if_pos rfl]
      rfl
    · rw [va_up_ne _ _ q, h3 r2 hc]
      unfold X6
      rw [if_neg q, if_neg q]
/-- the code of what was caught -/
theorem lw_cod {P : Option Value → Heap → Prop} {k : Int} {v : Int32} (S : CallFix p m c cc nL s args WU own) (hr : meth.sig.returnType = some .int) (hlk : meth.locks = false) (hS : va_S (fun q => B ≤ q) s.heap H locs) (d4 : decode cc pc = .ok (.iconst k, 1)) (hv : Int32.ofInt k = v) (d5 : decode cc (pc + 1) = .ok (.ireturn, 1)) (hP : P (some (.int v)) H) : W p l e R s m args below meth c H locs cells slots (MQ below (Qrw B P) args s cells slots (fun q => B ≤ q)) (F0 m pc ls []) := by
  refine lv_iconst (v := v) S.1 S.2.1 d4 hv ?_
  exact ne_wI S hS hr hlk hP d5
end LB
theorem castE {D : va_G} {cA : Nat → ClassId} {B : Nat} {s : State} {args : Array Value} (K : KK D cA B s) {E : String} (h : (E, E) ∈ nwC) : (Cond.castable E E).before args s = true := va_Nw.use rfl (K.2.2.2.1.2.2.1 _ h)
