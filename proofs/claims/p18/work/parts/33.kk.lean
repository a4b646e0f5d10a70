/-! WHAT THE LAW IS TOLD OF THE MACHINE, out of the Statement -/
def R_law : String := "EdgeCodeLaw"
section KKO
variable {args : Array Value} {s : State}
theorem kk_eq {t : Term} {n : Int32} (h : (Cond.eq t (.int n)).before args s = true) : t.eval args s none [] s = some (.int n) := by
  simp only [Cond.before, Cond.holds, Cond.value] at h
  rw [show (Term.int n).eval args s none [] s = some (.int n) from rfl] at h
  cases ht : t.eval args s none [] s with
  | none => simp [ht] at h
  | some v =>
    cases v <;> simp [ht] at h
    rw [h]
theorem kk_p {ty : FieldType} (h : (Cond.arrayClass ty).before args s = true) : ∃ c, ArrOfT s c ty ∧ s.vm.findClass ("[" ++ ty.toString) = some c := by
  obtain ⟨c, k, comp, h1, h2, h3⟩ := Cond.arrayClass_spec h
  exact ⟨c, fun n z => ⟨(fun k h => by cases h), k, h2, comp, h3⟩, h1⟩
theorem kk_o {C : String} (h : (Cond.arrayOver (.object C)).before args s = true) : ∃ c, ArrOfT s c (.object C) ∧ va_RA s c (.object C) := by
  obtain ⟨comp, c, k, h1, -, h3, h4, h5⟩ := Cond.arrayOver_spec h
  exact ⟨c, fun n z => ⟨(fun k h => by cases h), k, h3, comp, h4⟩, k, comp, h3, h4, h1, h5⟩
theorem kk_arr (hts : ∀ w ∈ lw_tbl, w.before args s = true) : ∃ cA : Nat → ClassId, ∀ (k : Nat) (q : ClassId × FieldType), (ntys cA)[k]? = some q → ArrOfT s q.1 q.2 ∧ va_RA s q.1 q.2 := by
  obtain ⟨c0, a0, b0⟩ := kk_p (hts _ (wu_tbl k1_44))
  obtain ⟨c1, a1, b1⟩ := kk_p (hts _ (wu_tbl k1_169))
  obtain ⟨c3, a3, b3⟩ := kk_o (hts (.arrayOver (.object RX1)) (by decide +kernel))
  obtain ⟨c4, a4, b4⟩ := kk_o (hts (.arrayOver (.object RX3)) (by decide +kernel))
  obtain ⟨c5, a5, b5⟩ := kk_o (hts (.arrayOver (.object RX2)) (by decide +kernel))
  obtain ⟨c6, a6, b6⟩ := kk_o (hts (.arrayOver (.object RX0)) (by decide +kernel))
  refine ⟨fun k => match k with | 0 => c0 | 1 => c1 | 2 => c0 | 3 => c3 | 4 => c4 | 5 => c5 | _ => c6, fun k q hq => ?_⟩
  match k, hq with
  | 0, hq => cases hq; exact ⟨a0, b0⟩
  | 1, hq => cases hq; exact ⟨a1, b1⟩
  | 2, hq => cases hq; exact ⟨a0, b0⟩
  | 3, hq => cases hq; exact ⟨a3, b3⟩
  | 4, hq => cases hq; exact ⟨a4, b4⟩
  | 5, hq => cases hq; exact ⟨a5, b5⟩
  | 6, hq => cases hq; exact ⟨a6, b6⟩
  | k + 7, hq => simp [ntys] at hq
theorem kk_cls (hts : ∀ w ∈ WU, w.before args s = true) : ∃ D : va_G, ∀ (k : Nat) (q : vw_C), vwCl[k]? = some q → u_Kn s q.1 q.2.1 q.2.2 (D.1 k) (D.2 k) := by
  obtain ⟨c0, i0, n0⟩ := u_known (C := RX0) (T := TX0) (N := 1) (n := 1) hts iWX0 (hts _ k1_26)
  obtain ⟨c1, i1, n1⟩ := u_known (C := RX1) (T := TX1) (N := 8) (n := 8) hts iWX1 (hts _ k3_4)
  obtain ⟨c2, i2, n2⟩ := u_known (C := RX2) (T := TX2) (N := 12) (n := 12) hts iWX2 (hts _ k1_136)
  obtain ⟨c3, i3, n3⟩ := u_known (C := RX3) (T := TX3) (N := 6) (n := 6) hts iWX3 (hts _ k1_145)
  obtain ⟨c4, i4, n4⟩ := u_known (C := RX4) (T := TX4) (N := 6) (n := 6) hts iWX4 (hts _ k1_15)
  refine ⟨(fun k => match k with | 0 => c0 | 1 => c1 | 2 => c2 | 3 => c3 | _ => c4, fun k => match k with | 0 => i0 | 1 => i1 | 2 => i2 | 3 => i3 | _ => i4), fun k q hq => ?_⟩
  match k, hq with
  | 0, hq => cases hq; exact n0
  | 1, hq => cases hq; exact n1
  | 2, hq => cases hq; exact n2
  | 3, hq => cases hq; exact n3
  | 4, hq => cases hq; exact n4
  | k + 5, hq => simp at hq
end KKO
/-! the words that stand in the tables, once -/
theorem kk_F : ∀ q ∈ nwF, Cond.fieldLinkNest q.1 q.2.1 q.2.2.1 q.2.2.2.1 q.2.2.2.2 "EdgeCode" ∈ tables_1 := by decide +kernel
theorem kk_M : ∀ q ∈ nwM, Cond.methodLinkNest q.1 q.2.1 q.2.2 "EdgeCode" ∈ tables_1 := by decide +kernel
theorem kk_S : ∀ q ∈ nwS, Cond.stringRef RX4 q.1 q.2 ∈ tables_1 := by decide +kernel
theorem kk_D : ∀ q ∈ nwD, Cond.declares q ∈ tables_1 := by decide +kernel
theorem kk_C : ∀ q ∈ nwC, Cond.castable q.1 q.2 ∈ tables_1 := by decide +kernel
theorem kk_X : ∀ q ∈ nwS, Cond.exactly (.string RX4 q.1) "java/lang/String" ∈ flatC (Jvm.Cond.and given_1 narrow_1) := by decide +kernel
theorem kk_V : ∀ j : Fin 35, Cond.eq (.elem (.static RX4 "FIRST_VALUES" "[I") (.int (nI j.1))) (.int (fvI j.1)) ∈ flatC (Jvm.Cond.and given_1 narrow_1) := by decide +kernel
section KKP
variable {args : Array Value} {s : State}
theorem kk_tb (hts : ∀ w ∈ lw_tbl, w.before args s = true) {w : Cond} (h : w ∈ tables_1) : w.before args s = true := hts w (List.mem_append_right _ h)
theorem kk_len {t : Term} {n : Nat} (hn : n < 2 ^ 31) {a : Nat} {cell : Cell} (h : (Term.length t).eval args s none [] s = some (.int (nI n))) (ht : t.eval args s none [] s = some (.ref a)) (hc : s.arrayAt? a = some cell) : cell.slots.size = n := by
  simp only [Term.eval, Option.bind_eq_bind, ht, Option.bind_some, hc] at h
  by_cases q : cell.slots.size < 2 ^ 31
  · rw [if_pos q] at h
    have h2 : nI cell.slots.size = nI n := by
      injection h with h
      injection h with h
    exact (nI_eq q hn).mp h2
  · rw [if_neg q] at h
    cases h
theorem kk_FV {cA : Nat → ClassId} (hts : ∀ w ∈ lw_tbl, w.before args s = true) (hg : ∀ w ∈ flatC (Jvm.Cond.and given_1 narrow_1), w.before args s = true) (hA : ∀ (k : Nat) (q : ClassId × FieldType), (ntys cA)[k]? = some q → ArrOfT s q.1 q.2 ∧ va_RA s q.1 q.2) : FV cA s.heap.size s := by
  have hlen := kk_eq (hg (.eq (.length (.static RX4 "FIRST_VALUES" "[I")) (.int 35)) (by decide +kernel))
  obtain ⟨t, cell, ht, harr, hv⟩ := Term.length_spec hlen
  obtain ⟨hc, hkn, -, -⟩ := State.arrayAt?_spec harr
  obtain ⟨ho, hkn2⟩ := Cond.arrayOf_spec (hg (.arrayOf (.static RX4 "FIRST_VALUES" "[I") .int) (by decide +kernel)) ht hc
  obtain ⟨a, c, cell2, k, e1, e2, e3, e4, e5, e6, -⟩ := Cond.exactly_spec (hg (.exactly (.static RX4 "FIRST_VALUES" "[I") "[I") (by decide +kernel))
  cases ht.symm.trans e1
  cases hc.symm.trans e3
  have hca : cell.cls = cA 0 := by
    rw [e6]
    have h0 : s.vm.findClass "[I" = some (cA 0) := (hA 0 _ rfl).2
    exact Option.some.inj (e2.symm.trans h0)
  have hlt : t < s.heap.size := (Array.getElem?_eq_some_iff.mp hc).1
  have hel : ∀ j : Nat, j < 35 → cell.slots[j]? = some (.int (fvI j)) := fun j hj => by
    obtain ⟨a2, j2, cell3, q1, q2, q3, -, q5⟩ := Term.elem_spec (kk_eq (hg _ (kk_V ⟨j, hj⟩)))
    cases ht.symm.trans q1
    cases harr.symm.trans q3
    cases q2
    have hj2 : (nI j).toNatClampNeg = j := nI_clamp (by omega)
    have q6 : cell.slots[(nI j).toNatClampNeg]? = some (.int (fvI j)) := q5
    rw [hj2] at q6
    exact q6
  have hsz : cell.slots.size = 35 := kk_len (n := 35) (by decide) hlen ht harr
  exact ⟨t, va_Zof (hts (.laysStatic RX4 "FIRST_VALUES" "[I") (by decide +kernel)) (hts (.initialized RX4) (by decide +kernel)) ht (fun a ha => Nat.not_le.mpr ha), cell, hc, ho, hkn2, hca, hsz, hel, Nat.not_le.mpr hlt⟩
theorem kk_KK (hts : ∀ w ∈ lw_tbl, w.before args s = true) (hg : ∀ w ∈ flatC (Jvm.Cond.and given_1 narrow_1), w.before args s = true) : ∃ (D : va_G) (cA : Nat → ClassId), KK D cA s.heap.size s := by
  obtain ⟨cA, hA⟩ := kk_arr hts
  obtain ⟨D, hD⟩ := kk_cls (fun w hw => hts w (wu_tbl hw))
  have old : ∀ a : Nat, a < s.heap.size → ¬ s.heap.size ≤ a := fun a ha => by omega
  refine ⟨D, cA, ⟨hD, hA⟩, fun q hq => va_Nw.of rfl (kk_tb hts (kk_F q hq)), fun q hq => va_Nw.of rfl (kk_tb hts (kk_M q hq)), ⟨fun q hq => ?_, fun x hx => va_Nw.of rfl (kk_tb hts (kk_D x hx)), fun q hq => va_Nw.of rfl (kk_tb hts (kk_C q hq)), kk_FV hts hg hA⟩, vx_Zqof (hts (.laysStatic Bundle.tN "UNASSIGNED_STACK" Bundle.steD) (by decide +kernel)) (hts (.initialized Bundle.tN) (by decide +kernel)) (hg (.isRef (.static Bundle.tN "UNASSIGNED_STACK" Bundle.steD)) (by decide +kernel)) old, vx_Zqof (hts (.laysStatic Bundle.tN "SUPPRESSED_SENTINEL" Bundle.listD) (by decide +kernel)) (hts (.initialized Bundle.tN) (by decide +kernel)) (hg (.isRef (.static Bundle.tN "SUPPRESSED_SENTINEL" Bundle.listD)) (by decide +kernel)) old, Nat.le_refl _, va_AO.of (hts (.arrayOver (.object RX0)) (by decide +kernel)), va_AO.of (hts (.arrayOver (.object RX1)) (by decide +kernel)), va_AO.of (hts (.arrayOver (.object RX2)) (by decide +kernel)), va_AO.of (hts (.arrayOver (.object RX3)) (by decide +kernel))⟩
  obtain ⟨a, c, cell, k, e1, -⟩ := Cond.exactly_spec (hg _ (kk_X q hq))
  exact ⟨a, vk_R.of (kk_tb hts (kk_S q hq)) e1⟩
end KKP
