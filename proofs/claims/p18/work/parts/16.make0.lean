/-! CELLS ARE MADE -/
theorem nd_or {p q : Prop} (a : ¬ p) (b : ¬ q) : ¬ (p ∨ q) := fun h => h.elim a b
section MK
variable {p : Program} {l : Launch} {e : Env} {R : Room} {s : State} {m : MethodId} {args : Array Value} {below : List Frame} {meth : Method} {c : Code} {H : Heap} {locs : List Loc} {cells slots : Nat} {Q : State → Prop}
variable {cc : ByteArray} {nL : Nat} {pc : Nat} {ls : Array Slot} {rest : List Value} {D : va_G} {cA : Nat → ClassId} {B : Nat} {dom : Nat → Prop} {ad : Nat → Nat} {E : Nat → va_E}
theorem fv_cell {cA : Nat → ClassId} {cell : Cell} (h5 : cell.cls = cA 0) (h6 : cell.slots.size = 35) (h7 : ∀ j : Nat, j < 35 → cell.slots[j]? = some (.int (fvI j))) : ({ cls := cell.cls, slots := cell.slots } : Cell) = vp_cell (cA 0) (35, .inl fvI) := by
  have hs : cell.slots = (arrV (cA 0) 35 (fun j => .int (fvI j))).slots := by
    apply Array.ext
    · rw [h6, arrV_size]
    · intro i h8 h9
      have a1 := h7 i (by omega)
      rw [Array.getElem?_eq_getElem h8] at a1
      have a2 := arrV_read (cA 0) (fun j => Value.int (fvI j)) (show i < 35 by omega)
      rw [Array.getElem?_eq_getElem h9] at a2
      exact Option.some.inj (a1.trans a2.symm)
  rw [h5, hs]
  rfl
/-- FIRST_VALUES.clone() -/
theorem nr_firsts (S : CallFix p m c cc nL s args WU RX0) (K : KK D cA B s) (N : nh D B dom ad E H) (hS : va_S (fun q => B ≤ q) s.heap H locs) (r : Nat) (hr : ¬ dom r) (ha : ad r = H.size) (hz : ls.size = nL)
    (d1 : decode cc pc = .ok (.getstatic 9, 3)) (d2 : decode cc (pc + 3) = .ok (.invokevirtual 13, 3)) (d3 : decode cc (pc + 6) = .ok (.checkcast 14, 3))
    (hR : 1 ≤ R.frames ∧ (rest.map fun v => v.category).sum + 14 ≤ R.locals ∧ cells + 1 ≤ R.cells ∧ slots + 35 ≤ R.slots)
    (kk : ∀ (H1 : Heap), nh D B (fun q => dom q ∨ q = r) ad (va_up E r (.inl (cA 0, 35, .inl fvI))) H1 → va_S (fun q => B ≤ q) s.heap H1 locs → H1.size = H.size + 1 → W p l e R s m args below meth c H1 locs (cells + 1) (slots + 35) Q (F0 m (pc + 9) ls (.ref (ad r) :: rest))) : W p l e R s m args below meth c H locs cells slots Q (F0 m pc ls rest) := by
  obtain ⟨t, hZ, cell, g1, g2, g3, g4, g5, g6, g7⟩ := K.2.2.2.1.2.2.2
  refine va_getsN S.1 S.2.1 hZ hS S.2.2.2.1 (va_Nw.use rfl (K.2.1 (RX0, 9, RX4, "FIRST_VALUES", "[I") (by decide))) (fun _ h => h) d1 ?_
  have hnm : s.vm.findClass "[I" = some (cA 0) := (K.1.2 0 _ rfl).2
  have gH : H[t]? = some cell := (hS.2.1 t (Array.getElem?_eq_some_iff.mp g1).1 g7).trans g1
  obtain ⟨c0, t0', f1, f2, f3⟩ := Cond.castable_spec (va_Nw.use (A := args) rfl (K.2.2.2.1.2.2.1 ("[I", "java/lang/Cloneable") (by decide)))
  cases hnm.symm.trans f1
  have hcE := fv_cell g4 g5 g6
  have hBH : B ≤ H.size := Nat.le_trans K.2.2.2.2.2.2.1 hS.1
  intro T hT X
  have hcellT : T.heap[t]? = some cell := by rw [hT]; exact gH
  obtain ⟨-, kA, hkA, comp, hkind⟩ := State.isArrayOf_alike X.warmed.alike ((K.1.2 0 _ rfl).1 0 (fun _ => .null))
  obtain ⟨-, kS, hkS, compS, hkindS⟩ := (K.1.2 0 _ rfl).1 0 (fun _ => .null)
  obtain ⟨vm', X', st⟩ := X.cloneArray S.1 S.2.2.2.1 (S.2.2.2.2 _ k1_33) (S.2.2.2.2 _ k1_34) (S.2.2.2.2 _ k1_35) (S.2.2.2.2 _ k1_36) (S.2.2.2.2 _ k1_37) (a := t) (cell := cell) hcellT g2.1 g3 (by rw [g4]; exact hnm) f2 (by rw [g4]; exact f3)
    (fun i v hv => by
      rw [g4]
      have hk' : T.vm.classes[cA 0]? = some kA := hkA
      have hi : i < 35 := by
        have := (Array.getElem?_eq_some_iff.mp hv).1
        omega
      rw [g6 i hi] at hv
      cases hv
      simp [State.fitsSlot, State.slotType?, hk', hkind, fits])
    (g := F0 m (pc + 3) ls (.ref t :: rest)) rfl (hz.trans S.2.2.1.symm) rfl (by rw [S.2.1]; exact d2) hR.1 (by show 2 * 0 + _ + 14 ≤ _; have := hR.2.1; omega) hR.2.2.1 (by rw [g5]; exact hR.2.2.2) (hloader := by rw [g4]; exact Vm.clonesLoader_of_array hkS hkindS)
  rw [hcE, g5] at X'
  generalize hH1 : H.push (vp_cell (cA 0) (35, .inl fvI)) = H1
  have z1 : H1.size = H.size + 1 := by rw [← hH1, Array.size_push]
  have e1 : H1[H.size]? = some (vp_cell (cA 0) (35, .inl fvI)) := by rw [← hH1, Array.getElem?_push_size]
  have o1 : ∀ q : Nat, q < H.size → H1[q]? = H[q]? := fun q hq => by rw [← hH1, Array.getElem?_push, if_neg (Nat.ne_of_lt hq)]
  have N1 : nh D B (fun q => dom q ∨ q = r) ad (va_up E r (.inl (cA 0, 35, .inl fvI))) H1 := nh_new N hr ha hBH (by show H1[ad r]? = _; rw [ha]; exact e1) o1
  have hS1 : va_S (fun q => B ≤ q) s.heap H1 locs := ⟨Nat.le_trans hS.1 (by omega), fun y h1 h2 => (o1 y (Nat.lt_of_lt_of_le h1 hS.1)).trans (hS.2.1 y h1 h2), hS.2.2⟩
  have k2 := va_castA (own := RX0) (nm := "[I") S.1 S.2.1 S.2.2.2.1 (S.2.2.2.2 _ k1_39) (nh_one N1 (Or.inr rfl) (va_up_self _ _ _)) 0 rfl hnm d3 (kk H1 N1 hS1 z1)
  obtain ⟨t9, b1, b2⟩ := k2 ((T.setVm vm').pushCell (vp_cell (cA 0) (35, .inl fvI))) (by rw [← hH1, ← hT]; rfl) X'
  refine ⟨t9, st t9 ?_, b2⟩
  rw [hcE, hT, ← ha]
  exact b1
end MK
