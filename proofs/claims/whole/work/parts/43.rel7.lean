/-! THE BRIDGE: the calls that ask -/
theorem cntIn {R : Nat → Int32} {n : Nat} (hn : n ≤ 12) (hR : ∀ i, i < 12 → (R i = 0 ↔ n ≤ i)) (p : Int32) : (if p < 0 then (0 : Int32) else if 12 ≤ p then 0 else if R p.toNatClampNeg = 0 then 0 else 1) = f_X5_in p 0 (nI n - 1) ∧ (¬ f_X5_in p 0 (nI n - 1) = 0 → p = nI p.toNatClampNeg ∧ p.toNatClampNeg < n) := by
  unfold f_X5_in
  rcases pk_ix p (n := n) (by omega) with h | h | ⟨j, hj, rfl⟩
  · rw [if_pos h, if_pos h]
    exact ⟨rfl, fun z => absurd rfl z⟩
  · have h0 : ¬ p < 0 := fun z => by
      rw [Int32.lt_iff_toInt_lt] at z
      rw [Int32.le_iff_toInt_le, nI_toInt (by omega)] at h
      have : (0 : Int32).toInt = 0 := rfl
      omega
    have h1 : nI n - 1 < p := by
      by_cases z : n = 0
      · rw [z]
        rw [Int32.lt_iff_toInt_lt] at h0 ⊢
        have e1 : (nI 0 - 1).toInt = -1 := by decide
        have e2 : (0 : Int32).toInt = 0 := rfl
        omega
      · obtain ⟨r, hr⟩ : ∃ r, n = r + 1 := ⟨n - 1, by omega⟩
        rw [hr, nI_pred]
        rw [hr] at h
        rw [Int32.le_iff_toInt_le, nI_toInt (by omega)] at h
        rw [Int32.lt_iff_toInt_lt, nI_toInt (by omega)]
        omega
    rw [if_neg h0, if_neg h0, if_pos h1]
    refine ⟨?_, fun z => absurd rfl z⟩
    split
    · rfl
    · rename_i h12
      rcases pk_ix p (n := 12) (by decide) with g | g | ⟨j, hj, rfl⟩
      · exact absurd g h0
      · exact absurd g h12
      · rw [nI_clamp (by omega), if_pos ((hR j hj).mpr ((nI_leI (by omega) (by omega)).mp h))]
  · obtain ⟨r, hr⟩ : ∃ r, n = r + 1 := ⟨n - 1, by omega⟩
    have e1 : ¬ nI n - 1 < nI j := by
      rw [hr, nI_pred]
      exact nI_nlt (by omega) (by omega)
    rw [if_neg (nI_pos (by omega)), if_neg (nI_pos (by omega)), if_neg (fun z => by
      have := (nI_leI (a := 12) (by decide) (by omega)).mp z
      omega), if_neg e1, nI_clamp (by omega), if_neg (fun z => by
      have := (hR j (by omega)).mp z
      omega)]
    exact ⟨rfl, fun _ => ⟨rfl, hj⟩⟩
theorem thrIn {R : Nat → Int32} (hR : ∀ i, i < 3 → ¬ R i = 0) (p : Int32) : (if p < 0 then (0 : Int32) else if 3 ≤ p then 0 else if R p.toNatClampNeg = 0 then 0 else 1) = f_X5_in p 0 2 := by
  unfold f_X5_in
  rcases pk_ix p (n := 3) (by decide) with h | h | ⟨j, hj, rfl⟩
  · rw [if_pos h, if_pos h]
  · have h0 : ¬ p < 0 := fun z => by
      rw [Int32.lt_iff_toInt_lt] at z
      rw [Int32.le_iff_toInt_le, nI_toInt (by omega)] at h
      have : (0 : Int32).toInt = 0 := rfl
      omega
    have h1 : (2 : Int32) < p := by
      rw [Int32.le_iff_toInt_le, nI_toInt (by omega)] at h
      rw [Int32.lt_iff_toInt_lt, show (2 : Int32).toInt = 2 from rfl]
      omega
    rw [if_neg h0, if_pos (show 3 ≤ p from h), if_neg h0, if_pos h1]
  · rw [if_neg (nI_pos (by omega)), if_neg (nI_pos (by omega)), if_neg (fun z => by
      have := (nI_leI (a := 3) (by decide) (by omega)).mp z
      omega), nI_clamp (by omega), if_neg (hR j hj), if_neg (fun z => by
      have := (nI_ltI (a := 2) (by decide) (by omega)).mp z
      omega)]
theorem JJ.sk {C M : Nat → Nat → Int32} (J : JJ C M) (p : Int32) : f_X4_programmeOf C p = f_X5_isSkater M p ∧ (¬ f_X5_isSkater M p = 0 → p = nI p.toNatClampNeg ∧ p.toNatClampNeg < nS M) := by
  have h := cntIn (R := C 1) J.many.2 (fun i hi => J.c1 hi) p
  rw [← J.many.1] at h
  exact h
theorem JJ.el {C M : Nat → Nat → Int32} (J : JJ C M) {k : Nat} (hk : k < nS M) (p : Int32) : f_X2_elementAt C k p = f_X5_in p 0 (M 8 k - 1) ∧ (¬ f_X5_in p 0 (M 8 k - 1) = 0 → p = nI p.toNatClampNeg ∧ p.toNatClampNeg < nE M k) := by
  have h := cntIn (R := C (52 + k)) (J.cnt (J.lt hk)).2 (fun i hi => J.c52 hk hi) p
  rw [← (J.cnt (J.lt hk)).1] at h
  exact h
theorem JJ.co {C M : Nat → Nat → Int32} (J : JJ C M) {k : Nat} (hk : k < nS M) (p : Int32) : f_X2_componentAt C k p = f_X5_in p 0 2 := thrIn (R := C (64 + k)) (fun _ hj => J.c64 hk hj) p
theorem JJ.ed {C M : Nat → Nat → Int32} (J : JJ C M) (p : Int32) : f_X4_editionAt C p = f_X5_in p 0 2 := thrIn (R := C 2) (fun d hd => by rw [J.ro.2.2.2 d hd]; decide) p
theorem in2 {p : Int32} (h : ¬ f_X5_in p 0 2 = 0) : p = nI p.toNatClampNeg ∧ p.toNatClampNeg < 3 := by
  obtain ⟨a, b⟩ := in_nat (n := 2) (by decide) h
  exact ⟨a, by omega⟩
theorem in6 {p : Int32} (h : ¬ f_X5_in p 0 6 = 0) : p = nI p.toNatClampNeg ∧ p.toNatClampNeg < 7 := by
  obtain ⟨a, b⟩ := in_nat (n := 6) (by decide) h
  exact ⟨a, by omega⟩
theorem JJ.isEl {C M : Nat → Nat → Int32} (J : JJ C M) {p0 p1 : Int32} (h : ¬ f_X5_isElement M p0 p1 = 0) : p0 = nI p0.toNatClampNeg ∧ p0.toNatClampNeg < nS M ∧ p1 = nI p1.toNatClampNeg ∧ p1.toNatClampNeg < nE M p0.toNatClampNeg := by
  unfold f_X5_isElement at h
  by_cases a : f_X5_isSkater M p0 = 0
  · rw [if_pos a] at h
    exact absurd rfl h
  · rw [if_neg a] at h
    obtain ⟨a1, a2⟩ := (J.sk p0).2 a
    by_cases b : f_X5_in p1 0 (M 8 p0.toNatClampNeg - 1) = 0
    · rw [if_pos b] at h
      exact absurd rfl h
    · obtain ⟨b1, b2⟩ := (J.el a2 p1).2 b
      exact ⟨a1, a2, b1, b2⟩
/-- the code of what is thrown -/
def codA (t : Nat) : Int32 := if t = 0 then 0 else 1
def codB (t : Nat) : Int32 := if t = 0 then 0 else if t = 1 then 1 else 2
def codC (t : Nat) : Int32 := if t = 0 then 0 else if t = 2 then 1 else 2
def codD (t : Nat) : Int32 := if t = 0 then 0 else if t = 1 then 1 else if t = 2 then 2 else 3
/-- class and reference answer alike -/
def Ans (C : Nat → Nat → Int32) (ok : List Nat) (cod : Nat → Int32) (t : Nat) (f4 : Int32) (g4 : Nat → Nat → Int32) (f5 : Int32) (g5 : Nat → Nat → Int32) : Prop :=
  t ∈ ok ∧ g5 0 0 = cod t ∧ (t = 0 → f4 = f5 ∧ JJ g4 g5) ∧ (¬ t = 0 → JJ C g5)
theorem Ans.no {C M : Nat → Nat → Int32} (J : JJ C M) {ok : List Nat} {cod : Nat → Int32} {t : Nat} {f4 f5 x : Int32} {g4 : Nat → Nat → Int32} (h : t ∈ ok) (h0 : ¬ t = 0) (hx : x = cod t) : Ans C ok cod t f4 g4 f5 (up2 M 0 0 x) :=
  ⟨h, by rw [up2_at]; exact hx, fun z => absurd z h0, fun _ => JJ_sr (sr_th M x) J⟩
theorem Ans.yes {C M : Nat → Nat → Int32} (J : JJ C M) {ok : List Nat} {cod : Nat → Int32} {f4 f5 : Int32} (h : 0 ∈ ok) (hc : cod 0 = 0) (hf : f4 = f5) : Ans C ok cod 0 f4 C f5 (up2 M 0 0 0) :=
  ⟨h, by rw [up2_at]; exact hc.symm, fun _ => ⟨hf, JJ_sr (sr_th M 0) J⟩, fun z => absurd rfl z⟩
theorem z1 {x : Int32} (h : (if x = 0 then (0 : Int32) else 1) = 0) : x = 0 := by
  by_cases q : x = 0
  · exact q
  · rw [if_neg q] at h
    exact absurd h (by decide)
theorem J_element {C M : Nat → Nat → Int32} (J : JJ C M) (p0 p1 p2 p3 : Int32) : Ans C [0, 1, 2] codB (t_X4_element C p0 p1 p2 p3) (f_X4_element C p0 p1 p2 p3) (g_X4_element C p0 p1 p2 p3) (f_X5_element M p0 p1 p2 p3 p0.toNatClampNeg p1.toNatClampNeg p2.toNatClampNeg) (g_X5_element M p0 p1 p2 p3 p0.toNatClampNeg p1.toNatClampNeg p2.toNatClampNeg) := by
  unfold t_X4_element f_X4_element g_X4_element f_X5_element g_X5_element f_X5_isElement
  rw [(J.sk p0).1]
  by_cases a : f_X5_isSkater M p0 = 0
  · rw [if_pos a, if_pos a, if_pos a, if_pos rfl, if_pos rfl]
    exact Ans.no J (by decide) (by decide) rfl
  · obtain ⟨-, a2⟩ := (J.sk p0).2 a
    rw [if_neg a, if_neg a, if_neg a, (J.el a2 p1).1]
    by_cases b : f_X5_in p1 0 (M 8 p0.toNatClampNeg - 1) = 0
    · rw [if_pos b, if_pos b, if_pos b, if_pos rfl, if_pos rfl]
      exact Ans.no J (by decide) (by decide) rfl
    · obtain ⟨-, b2⟩ := (J.el a2 p1).2 b
      have one : ¬ (1 : Int32) = 0 := by decide
      rw [if_neg b, if_neg b, if_neg b, if_neg one, if_neg one, J.ed p2]
      by_cases c : f_X5_in p2 0 2 = 0
      · rw [if_pos c, if_pos c, if_pos c, if_pos c]
        exact Ans.no J (by decide) (by decide) rfl
      · obtain ⟨c1, c2⟩ := in2 c
        rw [if_neg c, if_neg c, if_neg c, if_neg c, isIn_eq]
        by_cases e : f_X5_in p3 0 7 = 0
        · rw [if_pos e, if_pos e, if_pos e, if_pos e]
          exact Ans.no J (by decide) (by decide) rfl
        · rw [if_neg e, if_neg e, if_neg e, if_neg e]
          obtain ⟨w1, w2⟩ := in_nat (n := 7) (by decide) e
          obtain ⟨⟨r0, r1, r2, r3, r4, -⟩, -, -⟩ := J.re a2 b2
          have rq := J.quart a2 b2
          have rb := (J.base a2 b2 c2).1
          have rs := (J.score a2 b2 c2).1
          generalize p3.toNatClampNeg = w at w1 w2
          subst w1
          rw [r0, r1, r2, r3, r4, show f_X1_quarters C (12 * p0.toNatClampNeg + p1.toNatClampNeg) = _ from rq, rb, rs]
          have k : w = 0 ∨ w = 1 ∨ w = 2 ∨ w = 3 ∨ w = 4 ∨ w = 5 ∨ w = 6 ∨ w = 7 := by omega
          rcases k with rfl | rfl | rfl | rfl | rfl | rfl | rfl | rfl
          · simp only [show (nI 0 = 0) = True from eq_true (by decide), show (nI 0 = 1) = False from eq_false (by decide), show (nI 0 = 2) = False from eq_false (by decide), show (nI 0 = 3) = False from eq_false (by decide), show (nI 0 = 4) = False from eq_false (by decide), show (nI 0 = 5) = False from eq_false (by decide), show (nI 0 = 6) = False from eq_false (by decide), show (3 ≤ nI 0) = False from eq_false (by decide), show (6 ≤ nI 0) = False from eq_false (by decide), if_true, if_false, ite_self]
            exact Ans.yes J (by decide) rfl rfl
          · simp only [show (nI 1 = 0) = False from eq_false (by decide), show (nI 1 = 1) = True from eq_true (by decide), show (nI 1 = 2) = False from eq_false (by decide), show (nI 1 = 3) = False from eq_false (by decide), show (nI 1 = 4) = False from eq_false (by decide), show (nI 1 = 5) = False from eq_false (by decide), show (nI 1 = 6) = False from eq_false (by decide), show (3 ≤ nI 1) = False from eq_false (by decide), show (6 ≤ nI 1) = False from eq_false (by decide), if_true, if_false, ite_self]
            exact Ans.yes J (by decide) rfl rfl
          · simp only [show (nI 2 = 0) = False from eq_false (by decide), show (nI 2 = 1) = False from eq_false (by decide), show (nI 2 = 2) = True from eq_true (by decide), show (nI 2 = 3) = False from eq_false (by decide), show (nI 2 = 4) = False from eq_false (by decide), show (nI 2 = 5) = False from eq_false (by decide), show (nI 2 = 6) = False from eq_false (by decide), show (3 ≤ nI 2) = False from eq_false (by decide), show (6 ≤ nI 2) = False from eq_false (by decide), if_true, if_false, ite_self]
            exact Ans.yes J (by decide) rfl rfl
          · simp only [show (nI 3 = 0) = False from eq_false (by decide), show (nI 3 = 1) = False from eq_false (by decide), show (nI 3 = 2) = False from eq_false (by decide), show (nI 3 = 3) = True from eq_true (by decide), show (nI 3 = 4) = False from eq_false (by decide), show (nI 3 = 5) = False from eq_false (by decide), show (nI 3 = 6) = False from eq_false (by decide), show (3 ≤ nI 3) = True from eq_true (by decide), show (6 ≤ nI 3) = False from eq_false (by decide), if_true, if_false, ite_self]
            exact Ans.yes J (by decide) rfl rfl
          · simp only [show (nI 4 = 0) = False from eq_false (by decide), show (nI 4 = 1) = False from eq_false (by decide), show (nI 4 = 2) = False from eq_false (by decide), show (nI 4 = 3) = False from eq_false (by decide), show (nI 4 = 4) = True from eq_true (by decide), show (nI 4 = 5) = False from eq_false (by decide), show (nI 4 = 6) = False from eq_false (by decide), show (3 ≤ nI 4) = True from eq_true (by decide), show (6 ≤ nI 4) = False from eq_false (by decide), if_true, if_false, ite_self]
            exact Ans.yes J (by decide) rfl rfl
          · simp only [show (nI 5 = 0) = False from eq_false (by decide), show (nI 5 = 1) = False from eq_false (by decide), show (nI 5 = 2) = False from eq_false (by decide), show (nI 5 = 3) = False from eq_false (by decide), show (nI 5 = 4) = False from eq_false (by decide), show (nI 5 = 5) = True from eq_true (by decide), show (nI 5 = 6) = False from eq_false (by decide), show (3 ≤ nI 5) = True from eq_true (by decide), show (6 ≤ nI 5) = False from eq_false (by decide), if_true, if_false, ite_self]
            exact Ans.yes J (by decide) rfl rfl
          · simp only [show (nI 6 = 0) = False from eq_false (by decide), show (nI 6 = 1) = False from eq_false (by decide), show (nI 6 = 2) = False from eq_false (by decide), show (nI 6 = 3) = False from eq_false (by decide), show (nI 6 = 4) = False from eq_false (by decide), show (nI 6 = 5) = False from eq_false (by decide), show (nI 6 = 6) = True from eq_true (by decide), show (3 ≤ nI 6) = True from eq_true (by decide), show (6 ≤ nI 6) = True from eq_true (by decide), if_true, if_false, ite_self]
            exact Ans.yes J (by decide) rfl rfl
          · simp only [show (nI 7 = 0) = False from eq_false (by decide), show (nI 7 = 1) = False from eq_false (by decide), show (nI 7 = 2) = False from eq_false (by decide), show (nI 7 = 3) = False from eq_false (by decide), show (nI 7 = 4) = False from eq_false (by decide), show (nI 7 = 5) = False from eq_false (by decide), show (nI 7 = 6) = False from eq_false (by decide), show (3 ≤ nI 7) = True from eq_true (by decide), show (6 ≤ nI 7) = True from eq_true (by decide), if_true, if_false, ite_self]
            exact Ans.yes J (by decide) rfl rfl
theorem J_programme {C M : Nat → Nat → Int32} (J : JJ C M) (p0 p1 p2 : Int32) : Ans C [0, 1, 2] codB (t_X4_programme C p0 p1 p2) (f_X4_programme C p0 p1 p2) (g_X4_programme C p0 p1 p2) (f_X5_programme M p0 p1 p2 p0.toNatClampNeg p1.toNatClampNeg) (g_X5_programme M p0 p1 p2 p0.toNatClampNeg p1.toNatClampNeg) := by
  unfold t_X4_programme f_X4_programme g_X4_programme f_X5_programme g_X5_programme
  rw [(J.sk p0).1]
  by_cases a : f_X5_isSkater M p0 = 0
  · rw [if_pos a, if_pos a, if_pos a, if_pos a, if_pos a]
    exact Ans.no J (by decide) (by decide) rfl
  · obtain ⟨a1, a2⟩ := (J.sk p0).2 a
    rw [if_neg a, if_neg a, if_neg a, if_neg a, if_neg a, J.ed p1]
    by_cases c : f_X5_in p1 0 2 = 0
    · rw [if_pos c, if_pos c, if_pos c, if_pos c, if_pos c]
      exact Ans.no J (by decide) (by decide) rfl
    · obtain ⟨c1, c2⟩ := in2 c
      rw [if_neg c, if_neg c, if_neg c, if_neg c, if_neg c, isIn_eq]
      by_cases e : f_X5_in p2 0 5 = 0
      · rw [if_pos e, if_pos e, if_pos e, if_pos e, if_pos e]
        exact Ans.no J (by decide) (by decide) rfl
      · rw [if_neg e, if_neg e, if_neg e, if_neg e, if_neg e]
        obtain ⟨w1, w2⟩ := in_nat (n := 5) (by decide) e
        generalize p2.toNatClampNeg = w at w1 w2
        subst w1
        obtain ⟨JF, R⟩ := J.fill c2
        have rr := J.rank R c2 a2
        rw [← a1] at rr
        have k : w = 0 ∨ w = 1 ∨ w = 2 ∨ w = 3 ∨ w = 4 ∨ w = 5 := by omega
        rcases k with rfl | rfl | rfl | rfl | rfl | rfl
        · simp only [show (nI 0 = 0) = True from eq_true (by decide), show (nI 0 = 1) = False from eq_false (by decide), show (nI 0 = 2) = False from eq_false (by decide), show (nI 0 = 3) = False from eq_false (by decide), show (nI 0 = 4) = False from eq_false (by decide), show (3 ≤ nI 0) = False from eq_false (by decide), if_true, if_false]
          exact Ans.yes J (by decide) rfl (J.elems a2 c2).1
        · simp only [show (nI 1 = 0) = False from eq_false (by decide), show (nI 1 = 1) = True from eq_true (by decide), show (nI 1 = 2) = False from eq_false (by decide), show (nI 1 = 3) = False from eq_false (by decide), show (nI 1 = 4) = False from eq_false (by decide), show (3 ≤ nI 1) = False from eq_false (by decide), if_true, if_false]
          exact Ans.yes J (by decide) rfl (J.comps a2)
        · simp only [show (nI 2 = 0) = False from eq_false (by decide), show (nI 2 = 1) = False from eq_false (by decide), show (nI 2 = 2) = True from eq_true (by decide), show (nI 2 = 3) = False from eq_false (by decide), show (nI 2 = 4) = False from eq_false (by decide), show (3 ≤ nI 2) = False from eq_false (by decide), if_true, if_false]
          exact Ans.yes J (by decide) rfl (J.fine a2)
        · simp only [show (nI 3 = 0) = False from eq_false (by decide), show (nI 3 = 1) = False from eq_false (by decide), show (nI 3 = 2) = False from eq_false (by decide), show (nI 3 = 3) = True from eq_true (by decide), show (nI 3 = 4) = False from eq_false (by decide), show (3 ≤ nI 3) = True from eq_true (by decide), if_true, if_false]
          rw [(J.elems a2 c2).1, J.total a2 c2]
          exact Ans.yes J (by decide) rfl rfl
        · simp only [show (nI 4 = 0) = False from eq_false (by decide), show (nI 4 = 1) = False from eq_false (by decide), show (nI 4 = 2) = False from eq_false (by decide), show (nI 4 = 3) = False from eq_false (by decide), show (nI 4 = 4) = True from eq_true (by decide), show (3 ≤ nI 4) = True from eq_true (by decide), if_true, if_false]
          exact Ans.yes J (by decide) rfl (J.rp a2).1.2.2.1
        · simp only [show (nI 5 = 0) = False from eq_false (by decide), show (nI 5 = 1) = False from eq_false (by decide), show (nI 5 = 2) = False from eq_false (by decide), show (nI 5 = 3) = False from eq_false (by decide), show (nI 5 = 4) = False from eq_false (by decide), show (3 ≤ nI 5) = True from eq_true (by decide), if_true, if_false]
          rw [rr]
          exact ⟨by decide, up2_at _ _ _ _, fun _ => ⟨rfl, JJ_sr (sr_th M 0) JF⟩, fun z => absurd rfl z⟩
theorem J_starts {C M : Nat → Nat → Int32} (J : JJ C M) (p0 p1 : Int32) : Ans C [0, 2] codA (t_X4_starts C p0 p1) (f_X4_starts C p0 p1) (g_X4_starts C p0 p1) (f_X5_starts M p0 p1 p0.toNatClampNeg) (g_X5_starts M p0 p1 p0.toNatClampNeg) := by
  unfold t_X4_starts f_X4_starts g_X4_starts f_X5_starts g_X5_starts
  rw [J.ed p0, isIn_eq, ite_self]
  by_cases c : f_X5_in p0 0 2 = 0
  · rw [if_pos c, if_pos c, if_pos c, if_pos c, if_pos c]
    exact Ans.no J (by decide) (by decide) rfl
  · obtain ⟨c1, c2⟩ := in2 c
    rw [if_neg c, if_neg c, if_neg c, if_neg c, if_neg c]
    by_cases e : f_X5_in p1 0 11 = 0
    · rw [if_pos e, if_pos e, if_pos e, if_pos e, if_pos e]
      exact Ans.no J (by decide) (by decide) rfl
    · rw [if_neg e, if_neg e, if_neg e, if_neg e, if_neg e]
      obtain ⟨w1, w2⟩ := in_nat (n := 11) (by decide) e
      have h := J.start p0 c2 (pl := p1.toNatClampNeg) (by omega)
      rw [← w1] at h
      exact ⟨by decide, up2_at _ _ _ _, fun _ => ⟨h, JJ_sr (sr_th M 0) (J.fill c2).1⟩, fun z => absurd rfl z⟩
theorem J_bias {C M : Nat → Nat → Int32} (J : JJ C M) (p0 : Int32) : Ans C [0, 1] codA (t_X4_bias C p0) (f_X4_bias C p0) (g_X4_bias C p0) (f_X5_bias M p0 p0.toNatClampNeg) (g_X5_bias M p0 p0.toNatClampNeg) := by
  unfold t_X4_bias f_X4_bias g_X4_bias f_X5_bias g_X5_bias
  rw [isIn_eq]
  by_cases c : f_X5_in p0 0 6 = 0
  · rw [if_pos c, if_pos c, if_pos c, if_pos c]
    exact Ans.no J (by decide) (by decide) rfl
  · obtain ⟨c1, c2⟩ := in6 c
    rw [if_neg c, if_neg c, if_neg c, if_neg c]
    have h := J.bias p0 c2
    rw [← c1] at h
    exact Ans.yes J (by decide) rfl h
