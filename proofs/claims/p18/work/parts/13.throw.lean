/-! WHAT IS THROWN: the three exceptions of the class -/
def nmE : List String := ["java/lang/RuntimeException", "java/lang/Exception"]
theorem kw_kept {D : va_G} {cA : Nat → ClassId} {B : Nat} {dom : Nat → Prop} {ad : Nat → Nat} {X : Nat → va_E} {C : Nat → Nat → Int32} {H H1 : Heap} (h : kw D cA B dom ad X C H) (oq : ∀ q : Nat, q < H.size → H1[q]? = H[q]?) : kw D cA B dom ad X C H1 := by
  obtain ⟨E, h1, h2, h3⟩ := h
  exact ⟨E, nh_kept h1 oq, h2, h3⟩
/-- each exception's words: the good ones stand in the list, four more by KK -/
def xw (E : String) (ic : Nat) : Prop := ∀ (D : va_G) (cA : Nat → ClassId) (B : Nat) (s : State) (args : Array Value), (∀ w ∈ WU, w.before args s = true) → KK D cA B s → ∀ w ∈ vx_atS RX4 ic E nmE, w.before args s = true
def xg (E : String) (ik ic : Nat) : Prop := ∀ w ∈ Cond.classLink RX4 ik E :: Cond.initialized E :: vx_atS RX4 ic E nmE, vx_ot w = true
def xbad (E : String) : List Cond := .castable E E :: nwD.map .declares
theorem xw_of {E : String} {ic : Nat} (hc : (E, E) ∈ nwC) (h1 : ∀ w ∈ (vx_atS RX4 ic E nmE).filter goodWord, w ∈ lw_tbl) (h2 : ∀ w ∈ (vx_atS RX4 ic E nmE).filter (fun w => !goodWord w), w ∈ xbad E) : xw E ic := by
  intro D cA B s args hw K
  refine vx_hat (fun w h => hw w ?_) h2 (fun w h => ?_)
  · exact wu_of (h1 w h) (List.mem_filter.mp h).2
  · unfold xbad at h
    rcases List.mem_cons.mp h with rfl | h
    · exact va_Nw.use rfl (K.2.2.2.1.2.2.1 _ hc)
    · obtain ⟨x, hx, rfl⟩ := List.mem_map.mp h
      exact va_Nw.use rfl (K.2.2.2.1.2.1 x hx)
theorem xw_ise : xw "java/lang/IllegalStateException" 41 := xw_of (by decide) (by decide +kernel) (by decide +kernel)
theorem xw_iae : xw "java/lang/IllegalArgumentException" 68 := xw_of (by decide) (by decide +kernel) (by decide +kernel)
theorem xw_iob : xw "java/lang/IndexOutOfBoundsException" 53 := xw_of (by decide) (by decide +kernel) (by decide +kernel)
theorem xg_ise : xg "java/lang/IllegalStateException" 37 41 := by unfold xg; decide +kernel
theorem xg_iae : xg "java/lang/IllegalArgumentException" 64 68 := by unfold xg; decide +kernel
theorem xg_iob : xg "java/lang/IndexOutOfBoundsException" 49 53 := by unfold xg; decide +kernel
section NTH
variable {p : Program} {l : Launch} {e : Env} {R : Room} {s : State} {m : MethodId} {args : Array Value} {below : List Frame} {meth : Method} {c : Code} {H : Heap} {locs : List Loc} {cells slots : Nat}
variable {cc : ByteArray} {nL : Nat} {pc : Nat} {ls : Array Slot} {rest : List Value} {D : va_G} {cA : Nat → ClassId} {B : Nat}
theorem nx_throw {E text : String} {ik ic is mc ms : Nat} {P : Option Value → Heap → Prop} {X : String → Heap → Prop} (hw : xw E ic) (hg : xg E ik ic) (hfit : Bundle.fit E = true) (S : CallFix p m c cc nL s args WU RX4) (hls : l.stackTraces = false) (K : KK D cA B s) (hS : va_S (fun q => B ≤ q) s.heap H locs) (ht : ∀ x ∈ c.exceptionTable.toList, False) (hlk : meth.locks = false) (hz : ls.size = nL)
    (hk : Cond.classLink RX4 ik E ∈ WU) (hi : Cond.initialized E ∈ WU) (hst : (is, text) ∈ nwS)
    (d0 : decode cc pc = .ok (.new ik, 3)) (d3 : decode cc (pc + 3) = .ok (.dup, 1)) (d4 : decode cc (pc + 4) = .ok (.ldc is, 2)) (d6 : decode cc (pc + 6) = .ok (.invokespecial ic, 3)) (d9 : decode cc (pc + 9) = .ok (.athrow, 1))
    (hr : 5 < R.frames ∧ (rest.map fun v => v.category).sum + 82 ≤ R.locals ∧ cells + 1 ≤ R.cells ∧ slots + 6 ≤ R.slots) (hc : cells + 1 ≤ mc) (hs : slots + 6 ≤ ms)
    (hX : ∀ H1 : Heap, (∀ q : Nat, q < H.size → H1[q]? = H[q]?) → X E H1) :
    W p l e R s m args below meth c H locs cells slots (vx_MQ below (Qrw B P) (Xrw B X) args s mc ms (fun q => B ≤ q)) (F0 m pc ls rest) := by
  obtain ⟨sa, hsa⟩ := K.2.2.2.1.1 _ hst
  refine vx_throwS (names := nmE) (A := fun q => B ≤ q) S.1 S.2.1 hls S.2.2.2.1 hfit (by decide) (S.2.2.2.2 _ hk) (S.2.2.2.2 _ hi) hsa (hw D cA B s args S.2.2.2.2 K) hg K.2.2.2.2.1 K.2.2.2.2.2.1 hS (hz.trans S.2.2.1.symm) d0 d3 d4 d6 d9 (fun x hx => (ht x hx).elim) hr.1 hr.2.1 hr.2.2.1 hr.2.2.2 hlk (fun t _ h2 h3 => ?_) hS.2.2 hc hs
  exact ⟨hX _ h3, Nat.le_trans hS.1 h2, fun q h4 h5 => (h3 q (Nat.lt_of_lt_of_le h4 hS.1)).trans (hS.2.1 q h4 h5)⟩
end NTH
