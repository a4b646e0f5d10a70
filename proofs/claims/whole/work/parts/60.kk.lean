/-! WHAT THE LAW IS TOLD OF THE MACHINE, out of the Statement -/
def R_law : String := "EdgeCodeLaw"
section KKO
variable {args : Array Value} {s : State}
theorem kk_eq {t : Term} {n : Int32} (h : (Cond.eq t (.int n)).before args s = true) : t.eval args s none [] s = some (.int n) := by
  simp only [Cond.before, Cond.holds, Cond.value] at h
  rw [show (Term.int n).eval args s none [] s = some (.int n) from rfl] at h
  cases ht : t.eval args s none [] s with
  | none => simp [ht] at h
  | some v =>
    cases v <;> simp [ht] at h
    rw [h]
theorem kk_p {ty : FieldType} (h : (Cond.arrayClass ty).before args s = true) : ∃ c, ArrOfT s c ty ∧ s.vm.findClass ("[" ++ ty.toString) = some c := by
  obtain ⟨c, k, comp, h1, h2, h3⟩ := Cond.arrayClass_spec h
  exact ⟨c, fun n z => ⟨(fun k h => by cases h), k, h2, comp, h3⟩, h1⟩
theorem kk_o {C : String} (h : (Cond.arrayOver (.object C)).before args s = true) : ∃ c, ArrOfT s c (.object C) ∧ va_RA s c (.object C) := by
  obtain ⟨comp, c, k, h1, -, h3, h4, h5⟩ := Cond.arrayOver_spec h
  exact ⟨c, fun n z => ⟨(fun k h => by cases h), k, h3, comp, h4⟩, k, comp, h3, h4, h1, h5⟩
theorem kk_arr (hts : ∀ w ∈ lw_tbl, w.before args s = true) : ∃ cA : Nat → ClassId, ∀ (k : Nat) (q : ClassId × FieldType), (ntys cA)[k]? = some q → ArrOfT s q.1 q.2 ∧ va_RA s q.1 q.2 := by
  obtain ⟨c0, a0, b0⟩ := kk_p (hts _ (wu_tbl k1_45))
  obtain ⟨c1, a1, b1⟩ := kk_p (hts _ (wu_tbl k1_236))
  obtain ⟨c2, a2, b2⟩ := kk_p (hts _ (wu_tbl k4_130))
  obtain ⟨c3, a3, b3⟩ := kk_o (hts (.arrayOver (.object RX1)) (by decide +kernel))
  obtain ⟨c4, a4, b4⟩ := kk_o (hts (.arrayOver (.object RX3)) (by decide +kernel))
  obtain ⟨c5, a5, b5⟩ := kk_o (hts (.arrayOver (.object RX2)) (by decide +kernel))
  obtain ⟨c6, a6, b6⟩ := kk_o (hts (.arrayOver (.object RX0)) (by decide +kernel))
  refine ⟨fun k => match k with | 0 => c0 | 1 => c1 | 2 => c2 | 3 => c3 | 4 => c4 | 5 => c5 | _ => c6, fun k q hq => ?_⟩
  match k, hq with
  | 0, hq => cases hq; exact ⟨a0, b0⟩
  | 1, hq => cases hq; exact ⟨a1, b1⟩
  | 2, hq => cases hq; exact ⟨a2, b2⟩
  | 3, hq => cases hq; exact ⟨a3, b3⟩
  | 4, hq => cases hq; exact ⟨a4, b4⟩
  | 5, hq => cases hq; exact ⟨a5, b5⟩
  | 6, hq => cases hq; exact ⟨a6, b6⟩
  | k + 7, hq => simp [ntys] at hq
theorem kk_cls (hts : ∀ w ∈ WU, w.before args s = true) : ∃ D : va_G, ∀ (k : Nat) (q : vw_C), vwCl[k]? = some q → u_Kn s q.1 q.2.1 q.2.2 (D.1 k) (D.2 k) := by
  obtain ⟨c0, i0, n0⟩ := u_known (C := RX0) (T := TX0) (N := 1) (n := 1) hts iWX0 (hts _ k1_27)
  obtain ⟨c1, i1, n1⟩ := u_known (C := RX1) (T := TX1) (N := 8) (n := 8) hts iWX1 (hts _ k2_133)
  obtain ⟨c2, i2, n2⟩ := u_known (C := RX2) (T := TX2) (N := 12) (n := 12) hts iWX2 (hts _ k1_104)
  obtain ⟨c3, i3, n3⟩ := u_known (C := RX3) (T := TX3) (N := 6) (n := 6) hts iWX3 (hts _ k1_212)
  obtain ⟨c4, i4, n4⟩ := u_known (C := RX4) (T := TX4) (N := 6) (n := 6) hts iWX4 (hts _ k1_16)
  obtain ⟨c5, i5, n5⟩ := u_known (C := RX5) (T := TX5) (N := 23) (n := 23) hts iWX5 (hts _ k3_137)
  refine ⟨(fun k => match k with | 0 => c0 | 1 => c1 | 2 => c2 | 3 => c3 | 4 => c4 | _ => c5, fun k => match k with | 0 => i0 | 1 => i1 | 2 => i2 | 3 => i3 | 4 => i4 | _ => i5), fun k q hq => ?_⟩
  match k, hq with
  | 0, hq => cases hq; exact n0
  | 1, hq => cases hq; exact n1
  | 2, hq => cases hq; exact n2
  | 3, hq => cases hq; exact n3
  | 4, hq => cases hq; exact n4
  | 5, hq => cases hq; exact n5
  | k + 6, hq => simp at hq
end KKO
