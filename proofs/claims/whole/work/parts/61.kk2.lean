/-! the words that stand in the tables, once -/
theorem kk_F : ∀ q ∈ nwF, Cond.fieldLinkNest q.1 q.2.1 q.2.2.1 q.2.2.2.1 q.2.2.2.2 "EdgeCode" ∈ tables_1 := by decide +kernel
theorem kk_M : ∀ q ∈ nwM, Cond.methodLinkNest q.1 q.2.1 q.2.2 "EdgeCode" ∈ tables_1 := by decide +kernel
theorem kk_S : ∀ q ∈ nwS, Cond.stringRef RX4 q.1 q.2 ∈ tables_1 := by decide +kernel
theorem kk_D : ∀ q ∈ nwD, Cond.declares q ∈ tables_1 := by decide +kernel
theorem kk_C : ∀ q ∈ nwC, Cond.castable q.1 q.2 ∈ tables_1 := by decide +kernel
theorem kk_X : ∀ q ∈ nwS, Cond.exactly (.string RX4 q.1) "java/lang/String" ∈ flatC (Jvm.Cond.and given_1 narrow_1) := by decide +kernel
theorem kk_V : ∀ j : Fin 35, Cond.eq (.elem (.static RX4 "FIRST_VALUES" "[I") (.int (nI j.1))) (.int (fvI j.1)) ∈ flatC (Jvm.Cond.and given_1 narrow_1) := by decide +kernel
