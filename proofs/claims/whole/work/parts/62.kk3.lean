section KKP
variable {args : Array Value} {s : State}
theorem kk_tb (hts : ∀ w ∈ lw_tbl, w.before args s = true) {w : Cond} (h : w ∈ tables_1) : w.before args s = true := hts w (List.mem_append_right _ h)
theorem kk_len {t : Term} {n : Nat} (hn : n < 2 ^ 31) {a : Nat} {cell : Cell} (h : (Term.length t).eval args s none [] s = some (.int (nI n))) (ht : t.eval args s none [] s = some (.ref a)) (hc : s.arrayAt? a = some cell) : cell.slots.size = n := by
  simp only [Term.eval, Option.bind_eq_bind, ht, Option.bind_some, hc] at h
  by_cases q : cell.slots.size < 2 ^ 31
  · rw [if_pos q] at h
    have h2 : nI cell.slots.size = nI n := by
      injection h with h
      injection h with h
    exact (nI_eq q hn).mp h2
  · rw [if_neg q] at h
    cases h
theorem kk_FV {cA : Nat → ClassId} (hts : ∀ w ∈ lw_tbl, w.before args s = true) (hg : ∀ w ∈ flatC (Jvm.Cond.and given_1 narrow_1), w.before args s = true) (hA : ∀ (k : Nat) (q : ClassId × FieldType), (ntys cA)[k]? = some q → ArrOfT s q.1 q.2 ∧ va_RA s q.1 q.2) : FV cA s.heap.size s := by
  have hlen := kk_eq (hg (.eq (.length (.static RX4 "FIRST_VALUES" "[I")) (.int 35)) (by decide +kernel))
  obtain ⟨t, cell, ht, harr, hv⟩ := Term.length_spec hlen
  obtain ⟨hc, hkn, -, -⟩ := State.arrayAt?_spec harr
  obtain ⟨ho, hkn2⟩ := Cond.arrayOf_spec (hg (.arrayOf (.static RX4 "FIRST_VALUES" "[I") .int) (by decide +kernel)) ht hc
  obtain ⟨a, c, cell2, k, e1, e2, e3, e4, e5, e6, -⟩ := Cond.exactly_spec (hg (.exactly (.static RX4 "FIRST_VALUES" "[I") "[I") (by decide +kernel))
  cases ht.symm.trans e1
  cases hc.symm.trans e3
  have hca : cell.cls = cA 0 := by
    rw [e6]
    have h0 : s.vm.findClass "[I" = some (cA 0) := (hA 0 _ rfl).2
    exact Option.some.inj (e2.symm.trans h0)
  have hlt : t < s.heap.size := (Array.getElem?_eq_some_iff.mp hc).1
  have hel : ∀ j : Nat, j < 35 → cell.slots[j]? = some (.int (fvI j)) := fun j hj => by
    obtain ⟨a2, j2, cell3, q1, q2, q3, -, q5⟩ := Term.elem_spec (kk_eq (hg _ (kk_V ⟨j, hj⟩)))
    cases ht.symm.trans q1
    cases harr.symm.trans q3
    cases q2
    have hj2 : (nI j).toNatClampNeg = j := nI_clamp (by omega)
    have q6 : cell.slots[(nI j).toNatClampNeg]? = some (.int (fvI j)) := q5
    rw [hj2] at q6
    exact q6
  have hsz : cell.slots.size = 35 := kk_len (n := 35) (by decide) hlen ht harr
  exact ⟨t, va_Zof (hts (.laysStatic RX4 "FIRST_VALUES" "[I") (by decide +kernel)) (hts (.initialized RX4) (by decide +kernel)) ht (fun a ha => Nat.not_le.mpr ha), cell, hc, ho, hkn2, hca, hsz, hel, Nat.not_le.mpr hlt⟩
theorem kk_KX (hg : ∀ w ∈ flatC (Jvm.Cond.and given_1 narrow_1), w.before args s = true) : KX s :=
  ⟨va_Nc.of (hg (.not (.castable "java/lang/IllegalStateException" "java/lang/IndexOutOfBoundsException")) (by decide +kernel)), va_Nc.of (hg (.not (.castable "java/lang/IllegalStateException" "java/lang/IllegalArgumentException")) (by decide +kernel)), va_Nc.of (hg (.not (.castable "java/lang/IllegalArgumentException" "java/lang/IndexOutOfBoundsException")) (by decide +kernel))⟩
theorem kk_KK (hts : ∀ w ∈ lw_tbl, w.before args s = true) (hg : ∀ w ∈ flatC (Jvm.Cond.and given_1 narrow_1), w.before args s = true) : ∃ (D : va_G) (cA : Nat → ClassId), KK D cA s.heap.size s := by
  obtain ⟨cA, hA⟩ := kk_arr hts
  obtain ⟨D, hD⟩ := kk_cls (fun w hw => hts w (wu_tbl hw))
  have old : ∀ a : Nat, a < s.heap.size → ¬ s.heap.size ≤ a := fun a ha => by omega
  refine ⟨D, cA, ⟨hD, hA⟩, fun q hq => va_Nw.of rfl (kk_tb hts (kk_F q hq)), fun q hq => va_Nw.of rfl (kk_tb hts (kk_M q hq)), ⟨fun q hq => ?_, fun x hx => va_Nw.of rfl (kk_tb hts (kk_D x hx)), fun q hq => va_Nw.of rfl (kk_tb hts (kk_C q hq)), kk_FV hts hg hA⟩, vx_Zqof (hts (.laysStatic Bundle.tN "UNASSIGNED_STACK" Bundle.steD) (by decide +kernel)) (hts (.initialized Bundle.tN) (by decide +kernel)) (hg (.isRef (.static Bundle.tN "UNASSIGNED_STACK" Bundle.steD)) (by decide +kernel)) old, vx_Zqof (hts (.laysStatic Bundle.tN "SUPPRESSED_SENTINEL" Bundle.listD) (by decide +kernel)) (hts (.initialized Bundle.tN) (by decide +kernel)) (hg (.isRef (.static Bundle.tN "SUPPRESSED_SENTINEL" Bundle.listD)) (by decide +kernel)) old, Nat.le_refl _, va_AO.of (hts (.arrayOver (.object RX0)) (by decide +kernel)), va_AO.of (hts (.arrayOver (.object RX1)) (by decide +kernel)), va_AO.of (hts (.arrayOver (.object RX2)) (by decide +kernel)), va_AO.of (hts (.arrayOver (.object RX3)) (by decide +kernel))⟩
  obtain ⟨a, c, cell, k, e1, -⟩ := Cond.exactly_spec (hg _ (kk_X q hq))
  exact ⟨a, vk_R.of (kk_tb hts (kk_S q hq)) e1⟩
end KKP
