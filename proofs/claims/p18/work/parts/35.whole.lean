/-! THE CLAIM OUT OF ONE WALK OF THE LAW'S BODY. Your part is whole_start (and what it stands on); all else here is the same for every law, but numbers. -/
def lw_P (b : Addr) (xs : List Int32) (args : Array Value) (s : State) : Prop := args = #[.ref b] ∧ s.IntsAt b xs ∧ xs.length ≤ 260 ∧ (Jvm.Cond.and given_1 narrow_1).before args s = true
/-- what a walk over the start with the record d0 says of its end, said of the start itself -/
theorem lw_closed {s t : State} {o : Outcome} {d0 : Drawn} {L : List Loc} {k n : Nat} (hd0 : s.drawn.sameBut d0 lw_cs) (hv : ∃ v, o = .returned v) (hW : (s.setDrawn d0).WarmedH t.vm) (hs : (s.setDrawn d0).sameButNew ({ t with vm := s.vm } : State) L k n) : State.butDraws s t lw_cs (fun t1 => Framed s o t1 L k n) := by
  have h2 : t.drawn = d0 := congrArg State.drawn hs.1
  refine ⟨⟨hv, hW, State.sameButNew.setDrawn hs s.drawn⟩, ?_, by decide⟩
  rw [h2]
  exact hd0
def lw_Q (_ : Array Value) (s : State) (o : Outcome) (t : State) : Prop := o = .returned (some (.int 1)) ∧ State.butDraws s t lw_cs (fun t1 => Framed s o t1 [] 781794 6756242)
def lw_Z (below : List Frame) (a : Array Value) (s : State) : State → Prop := fun t => ∃ o, t.status = .running ∧ Ended t below o ∧ lw_Q a s o t
/-- the law's own end, with 1 on the stack, nothing written that was there before, its room as the claim has it; d0: the record of draws at this point (at the entry s.drawn: begin with 'refine W.base ?_' and 'have hd0 := Drawn.sameBut.refl s.drawn lw_cs') -/
theorem lw_ret {p : Program} {l : Launch} {e : Env} {s : State} {m : MethodId} {below : List Frame} {meth : Method} {c : Code} {b : Nat} {d0 : Drawn} (hd0 : s.drawn.sameBut d0 lw_cs) (hx : p.tables.exec = Jvm.exec) (hb : c.code = code) (hr : meth.sig.returnType = ret) (hlocks : meth.locks = false) {pc : Nat} {H : Heap} {ls : Array Slot} (hdg : decode code pc = .ok (.ireturn, 1)) : W p l e room_1 (s.setDrawn d0) m #[Value.ref b] below meth c H [] 781794 6756242 (lw_Z below #[Value.ref b] s) (F0 m pc ls [.int 1]) := by
  intro T hT X
  obtain ⟨fs, hret, hrun, hended, hW, hframe⟩ := X.leave (v := some (.int 1)) (hlocks := hlocks) (fun h => by rw [hr] at h; cases h)
  have hmeth' : T.vm.method? m = some meth := X.method'
  refine ⟨T.setFrames fs, ?_, .returned (some (.int 1)), hrun, hended, rfl, lw_closed hd0 ⟨_, rfl⟩ hW hframe⟩
  jvm_step X.here [X.here.top, hx, hb, hdg, hmeth', hr, ret, narrow_b1]
  (try refine ⟨rfl, ?_⟩); (try refine ⟨rfl, ?_⟩)
  first | (intro acts; rw [hret _ acts rfl rfl rfl]) | rw [hret _ _ rfl rfl rfl]
  exact Steps.refl _
/-- what holds at the law's entry: the machine, the code, the tables' words (any of lw_tbl by 'hts w (by decide +kernel)'), the script of L ints xs at the cell b, what the Statement gives of the start (any of its parts by flat_of_before) -/
def lw_At (p : Program) (s : State) (m : MethodId) (meth : Method) (c : Code) (b L : Nat) (xs : Nat → Int32) : Prop :=
  p.tables.exec = Jvm.exec ∧ c.code = code ∧ meth.sig.returnType = ret ∧ c.maxLocals = 19 ∧ s.vm.findClass R_law = some m.cls ∧ (∀ w ∈ lw_tbl, w.before #[Value.ref b] s = true) ∧ va_X b L xs s s.heap ∧ b < s.heap.size ∧ meth.locks = false ∧ (Jvm.Cond.and given_1 narrow_1).before #[Value.ref b] s = true
-- ===== YOUR PART BEGINS =====
/-- YOUR PART: from the entry, for every script of at most 260 ints, the law comes to its end with true ('hflags': the launch's flags, for a law that throws: no stack traces) -/
theorem whole_start {p : Program} {e : Env} {s : State} {m : MethodId} {below : List Frame} {meth : Method} {c : Code} (l : Launch) (hflags : l.flags = flags0) {b L : Nat} {xs : Nat → Int32} (hL : L ≤ 260) (C0 : lw_At p s m meth c b L xs) : W p l e room_1 s m #[Value.ref b] below meth c s.heap [] 0 0 (lw_Z below #[Value.ref b] s) (entryFrame m ([Value.ref b] : List Value).toArray 19) := by
  obtain ⟨hx, hb, hr, hml, hown, hts, hX, hbl, hlocks, hgv⟩ := id C0
  have hg := flat_of_before _ hgv
  have S : CallFix p m c cL_law 19 s #[Value.ref b] WU RL := ⟨hx, hb, hml, hown, fun w h => hts w (wu_tbl h)⟩
  obtain ⟨D, cA, K⟩ := kk_KK hts hg
  have hls : l.stackTraces = false := by
    unfold Launch.stackTraces
    rw [hflags]
    decide +kernel
  have hL2 : L < 2 ^ 31 := by omega
  have KS0 : KS D cA s.heap.size b L xs s := ⟨K, hX, hbl, Nat.not_le.mpr hbl⟩
  have Z : Zw p l s m #[Value.ref b] c cL_law 19 D cA s.heap.size room_1 := ⟨S, K, hls, by decide, by decide⟩
  have hl := lv_entry ([.ref b]) (n := 19) (Nat.le_of_ble_eq_true rfl)
  rw [lg_entry_eq]
  generalize (lg_sl ([.ref b]) ++ List.replicate (19 - (lg_sl ([.ref b])).length) Slot.unset).toArray = ls at hl ⊢
  have hl : lv_has ls 19 [(0, .ref b)] := hl
  have big : 4000 ≤ room_1.cells ∧ 40000 ≤ room_1.slots := ⟨by decide, by decide⟩
  obtain ⟨big1, big2⟩ := big
  have hR1 : 7 ≤ room_1.frames := by decide
  have hR2 : 149 ≤ room_1.locals := by decide
  refine lw_first S KS0 hL2 ⟨by decide, by decide⟩ ⟨by omega, by omega⟩ hl (fun o ea Sk v la H locs ls h1 h5 W0 hS hl => ?_)
  refine lp_sk Z KS0 hL2 (MC := 100) (MS := 1000) ⟨by omega, by omega⟩ h5 (fun C H locs ls W0 V hS hl => ?_) Sk 0 Cini H locs ls 12 158 (by omega) ⟨by omega, by omega⟩ W0 LV_ini hS hl
  refine lv_iconst (v := 0) S.1 S.2.1 dL_law_86 (by decide) ?_
  refine lv_istore (lv' := [(8, .int 0), (0, .ref b), (1, .ref o), (2, .int v), (3, .int (nI Sk)), (4, .int la), (5, .int 1), (6, .int 0), (7, .ref ea)]) S.1 S.2.1 dL_law_87 hl (by decide) rfl (fun ls hl => ?_)
  refine lp_all Z KS0 hL2 (MC := 2000) (MS := 20000) ⟨by omega, by omega⟩ h5 ⟨by decide, by decide⟩ (fun en g cnt C f H locs ls hes W0 V hf hS hl => ?_) Sk 0 _ C _ H locs ls 100 1000 (by omega) ⟨by omega, by omega⟩ W0 V (fun i hi => (if_neg (Nat.not_lt_zero _)).symm) hS (lv_sub hl [1, 2, 3, 4, 5, 6, 7, 8, 0] rfl)
  refine lv_aload_n S.1 S.2.1 dL_law_339 rfl (lv_at hl 1 rfl) ?_
  refine lv_iconst (v := 1) S.1 S.2.1 dL_law_340 (by decide) ?_
  refine lv_iload_n S.1 S.2.1 dL_law_341 rfl (lv_at hl 2 rfl) ?_
  refine lv_bipush (v := 6) S.1 S.2.1 dL_law_342 (by decide) ?_
  refine nc_rS S KS0.1 hS (As := [.int v, .int 6]) (m_low l v 6 (by decide) (by decide)) k2_195 k2_196 k1_0 k2_197 (num := 2) (by decide +kernel) rfl ⟨by omega, by omega⟩ hl.1 rfl (Nat.le_of_ble_eq_true rfl) dL_law_344 ⟨by omega, by omega⟩ ?_
  have hvq : lowN v 6 < 6 := lowN_lt _ (by decide)
  generalize lowN v 6 = vq at hvq ⊢
  refine lv_iconst (v := 1) S.1 S.2.1 dL_law_347 (by decide) ?_
  refine lv_iload_n S.1 S.2.1 dL_law_348 rfl (lv_at hl 2 rfl) ?_
  refine lv_iconst (v := 4) S.1 S.2.1 dL_law_349 (by decide) ?_
  refine lv_ishr S.1 S.2.1 dL_law_350 ?_
  refine lv_iconst (v := 4) S.1 S.2.1 dL_law_351 (by decide) ?_
  refine nc_rS S KS0.1 hS (As := [.int (v >>> (4 &&& 31)), .int 4]) (m_low l (v >>> (4 &&& 31)) 4 (by decide) (by decide)) k2_195 k2_196 k1_0 k2_197 (num := 2) (by decide +kernel) rfl ⟨by omega, by omega⟩ hl.1 rfl (Nat.le_of_ble_eq_true rfl) dL_law_352 ⟨by omega, by omega⟩ ?_
  have hvt : lowN (v >>> (4 &&& 31)) 4 < 4 := lowN_lt _ (by decide)
  generalize lowN (v >>> (4 &&& 31)) 4 = vt at hvt ⊢
  refine lv_iadd S.1 S.2.1 dL_law_355 ?_
  refine nt_i (y := nI (1 + vt)) (nI_add 1 vt) ?_
  refine lv_iload_n S.1 S.2.1 dL_law_356 rfl (lv_at hl 2 rfl) ?_
  refine lv_iconst (v := 2) S.1 S.2.1 dL_law_357 (by decide) ?_
  refine lv_ishr S.1 S.2.1 dL_law_358 ?_
  refine lv_sipush (v := 10000) S.1 S.2.1 dL_law_359 (by decide) ?_
  refine nc_rS S KS0.1 hS (As := [.int (v >>> (2 &&& 31)), .int 10000]) (m_low l (v >>> (2 &&& 31)) 10000 (by decide) (by decide)) k2_195 k2_196 k1_0 k2_197 (num := 2) (by decide +kernel) rfl ⟨by omega, by omega⟩ hl.1 rfl (Nat.le_of_ble_eq_true rfl) dL_law_362 ⟨by omega, by omega⟩ ?_
  have hvx : lowN (v >>> (2 &&& 31)) 10000 < 10000 := lowN_lt _ (by decide)
  generalize lowN (v >>> (2 &&& 31)) 10000 = vx at hvx ⊢
  obtain ⟨u1, u2⟩ := V_value V (q := vq) (t := 1 + vt) (x := vx) hvq (by omega) (by omega) (by omega)
  refine la_value Z W0 hS V u1 hl.1 (Nat.le_of_ble_eq_true rfl) dL_law_365 ⟨by omega, by omega⟩ (fun H locs W0 hS => ?_)
  have V := LV_co u2 V
  refine lv_pop S.1 S.2.1 dL_law_368 rfl ?_
  refine lv_iload S.1 S.2.1 dL_law_369 (lv_at hl 5 rfl) ?_
  refine lv_if_eq (tgt := 385) S.1 S.2.1 dL_law_371 (by decide) (fun c9 => absurd c9 (by decide)) (fun _ => ?_)
  refine lv_aload_n S.1 S.2.1 dL_law_374 rfl (lv_at hl 1 rfl) ?_
  refine la_addsUp Z W0 hS V hl.1 (Nat.le_of_ble_eq_true rfl) dL_law_375 ⟨by omega, by omega⟩ ?_
  refine lv_if_eq (tgt := 385) S.1 S.2.1 dL_law_378 (by decide) (fun c9 => absurd c9 (by decide)) (fun _ => ?_)
  refine lv_iconst (v := 1) S.1 S.2.1 dL_law_381 (by decide) ?_
  refine lv_goto (tgt := 386) S.1 S.2.1 dL_law_382 (by decide) ?_
  refine lv_istore (lv' := [(5, .int 1), (0, .ref b), (1, .ref o), (2, .int v), (3, .int (nI Sk)), (4, .int la), (6, .int (nI en)), (7, .ref ea)]) S.1 S.2.1 dL_law_386 hl (by decide) rfl (fun ls hl => ?_)
  refine lv_iconst (v := 0) S.1 S.2.1 dL_law_388 (by decide) ?_
  refine lv_istore (lv' := [(8, .int 0), (5, .int 1), (0, .ref b), (1, .ref o), (2, .int v), (3, .int (nI Sk)), (4, .int la), (6, .int (nI en)), (7, .ref ea)]) S.1 S.2.1 dL_law_389 hl (by decide) rfl (fun ls hl => ?_)
  refine lp_ed Z KS0 hL2 (MC := 4000) (MS := 40000) ⟨by omega, by omega⟩ h5 V hes hf (fun H locs ls hS hl => ?_) 2 0 _ H locs ls _ _ (by omega) ⟨by omega, by omega⟩ W0 (rr_rf _) V hS (lv_sub hl [2, 3, 4, 5, 6, 1, 7, 8, 0] rfl)
  refine lv_iload S.1 S.2.1 dL_law_970 (lv_at hl 0 rfl) ?_
  refine va_forget (fun q hq => hS.2.2 q hq) (W.widen (k := 781794) (n := 6756242) (by omega) (by omega) ?_)
  exact lw_ret (d0 := s.drawn) (Drawn.sameBut.refl s.drawn lw_cs) hx hb hr hlocks dL_law_972
-- ===== YOUR PART ENDS =====
set_option maxHeartbeats 4000000 in
theorem lw_walk (l : Launch) (hflags : l.flags = flags0) (b : Addr) (xs : List Int32) : MetFree l x (headSpec (Jvm.Cond.code x code maxLocals ret :: tables_1) room_1) (lw_P b xs) (fun _ _ _ _ _ => True) lw_Q := by
  refine MetFree.of_bodyS (code := code) (maxLocals := maxLocals) (ret := ret) (by decide) ?_ ?_
  · intro args s m h hn
    obtain ⟨meth, c, h1, h2, h3, h4, h5, h6, -, -⟩ := Cond.code_spec hn (atoms_spec (ws := Jvm.Cond.code x code maxLocals ret :: tables_1) h _ List.mem_cons_self)
    exact ⟨meth, c, h1, h2, h3, h4, h5, h6⟩
  · intro p e s m args below meth c s₁ B hml0 hP _
    obtain ⟨rfl, hx, hbd, hgv⟩ := hP
    obtain ⟨scr, harrAt, hlist, hof, hsmall⟩ := hx
    obtain ⟨hcb, hkn, -, -⟩ := State.arrayAt?_spec harrAt
    have hown : s.vm.findClass R_law = some m.cls := findClass_of_methodNamed B.named
    have hts0 : ∀ c ∈ (Jvm.Cond.code x code maxLocals ret :: tables_1), c.before #[Value.ref b] s = true := atoms_spec (ws := Jvm.Cond.code x code maxLocals ret :: tables_1) B.pre
    have hts : ∀ w ∈ lw_tbl, w.before #[Value.ref b] s = true := k2_hts_sels lw_privs (fun w hw => hts0 w (List.mem_cons_of_mem _ hw)) lw_privs_ok
    have hml : c.maxLocals = 19 := B.maxLocals_eq (hts0 _ List.mem_cons_self)
    have X₀ : Stand p l e room_1 s m #[Value.ref b] below meth c s₁ [] 0 0 := Stand.of_body B
    have hh0 : s₁.heap = s.heap := by rw [B.state]; rfl
    have hsz : scr.slots.size = xs.length := by rw [← Array.length_toList, hlist, List.length_map]
    have hval : ∀ j : Nat, j < xs.length → scr.slots[j]? = some (.int (xs.getD j 0)) := fun j hj => by
      rw [← Array.getElem?_toList, hlist]
      simp [hj]
    have hbl : b < s.heap.size := (Array.getElem?_eq_some_iff.mp hcb).1
    have hX : va_X b xs.length (fun j => xs.getD j 0) s s.heap := ⟨scr, hcb, hof, hkn, hsz, hval⟩
    have K : W p l e room_1 s m #[Value.ref b] below meth c s₁.heap [] 0 0 (lw_Z below #[Value.ref b] s) (entryFrame m ([Value.ref b] : List Value).toArray 19) := by
      rw [hh0]
      exact whole_start l hflags hbd ⟨B.exec, B.bytes, B.returns, hml, hown, hts, hX, hbl, B.notSynchronized, hgv⟩
    obtain ⟨t, a1, o, b1, b2, b3⟩ := K s₁ rfl X₀
    exact ⟨t, o, a1, b1, b2, b3⟩
theorem lw_pre_spec {args : Array Value} {s : State} (h : (Jvm.Cond.and given_1 narrow_1).before args s = true) (hr : rest_1_c.before args s = true) : ∃ (b : Addr) (xs : List Int32), lw_P b xs args s := by
  have hs := flat_of_before _ h
  have hq := flat_of_before _ hr
  have hc : (Cond.count 1).before args s = true := hs _ (by decide +kernel)
  have harr : (Cond.arrayOf (.arg 0) .int).before args s = true := hs _ (by decide +kernel)
  have hle : (Cond.le (.length (.arg 0)) (.int 260)).before args s = true := hs _ (by decide +kernel)
  have hlen : (Cond.isInt (.length (.arg 0))).before args s = true := hq _ (by decide +kernel)
  have hall : (Cond.all (.arg 0) (.isInt (.elem (.arg 0) (.index 0)))).before args s = true := hq _ (by decide +kernel)
  obtain ⟨b, xs, hb, hx⟩ := State.ints_of_pre rfl harr hlen hall
  have hsm : xs.length < 2 ^ 31 := hx.choose_spec.2.2.2
  have hev : (Term.length (.arg 0)).eval args s none [] s = some (.int xs.length.toInt32) := hx.length_eval hb
  have hv := Cond.le_ints hev (show (Term.int 260).eval args s none [] s = some (.int 260) from rfl)
  have hd : xs.length.toInt32 ≤ 260 := by
    simpa [Cond.before, Cond.holds, hv] using hle
  have hN : xs.length ≤ 260 := (Int32.ofNat_le_ofNat hsm (by decide)).mp (show Int32.ofNat xs.length ≤ Int32.ofNat 260 from hd)
  exact ⟨b, xs, Cond.one_arg hc (show args[0]? = some (.ref b) from hb), hx, hN, h⟩
theorem lw_comes (l : Launch) (hflags : l.flags = flags0) : Comes l x (Jvm.Cond.code x code maxLocals ret :: tables_1) room_1 (fun tb e args s => Calls_1 tb e args s ∧ rest_1 tb e args s ∧ Pre_1 tb e args s)
    (fun _ _ args s o t => lw_Q args s o t) := by
  intro p e ha hc hk s m args below hf hfit hheap happ hpre
  obtain ⟨b, xs, hP⟩ := lw_pre_spec hpre.2.2 hpre.2.1
  obtain ⟨k, o, h1, h2, h3, hQ⟩ := lw_walk l hflags b xs p e ha hc hk s m args below hf ((Spec.applies_iff_loose hf).mp happ).1 hP trivial
  exact ⟨k, o, h1, h2, h3, hQ⟩
theorem lw_frame {s t : State} {o : Outcome} {args : Array Value} (h : State.butDraws s t lw_cs (fun t1 => Framed s o t1 [] 781794 6756242)) :
    State.butDraws s t [Jvm.Choice.named "NaN.bits"] (fun t1 => Framed s o t1 (fieldLocs frame_1_writes args s ++ arrayLocs frame_1_arrays args s ++ staticLocs frame_1_statics s) 781794 6756242) := h
theorem lw_limb (L : Cond) (hL : ∀ (args : Array Value) (s t : State), L.after args s (.returned (some (.int 1))) t = true) :
    ArmFor flags0 classFile x code maxLocals ret World_1 tables_1 room_1 Calls_1 rest_1 Pre_1
      (fun tb e a s o t => postC L tb e a s o t ∧ State.butDraws s t [Jvm.Choice.named "NaN.bits"] (fun t1 => Framed s o t1 (fieldLocs frame_1_writes a s ++ arrayLocs frame_1_arrays a s ++ staticLocs frame_1_statics s) 781794 6756242)) := by
  intro l hflags _ _ p e ha hc hk s m args below hf hfit hheap happ hpre
  obtain ⟨k, o, h1, h2, h3, rfl, hF⟩ := lw_comes l hflags p e ha hc hk s m args below hf hfit hheap happ hpre
  exact ⟨k, _, h1, h2, h3, hL args s _, lw_frame hF⟩
theorem i_vc : Claimed_1_1 ∧ Claimed_1_2 := ⟨lw_limb limb_1_1 (fun args s t => by simp [limb_1_1, Cond.after, Cond.holds, Cond.value]), lw_limb limb_1_2 (fun args s t => Cond.after_iff.mpr (by
  first | (rw [show limb_1_2 = Cond.eq .result (.int 1) from rfl, Cond.eq_ints (x := 1) (y := 1) rfl rfl]; simp; done) | (simp [limb_1_2, Cond.value, Term.eval]; done)))⟩
