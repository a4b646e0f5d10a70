/-! THE BRIDGE: starting orders -/
theorem aP_tr {M : Nat → Nat → Int32} {d a b c : Nat} (h1 : aP M d a b) (h2 : aP M d b c) : aP M d a c := by
  unfold aP at *
  omega
theorem aP_tot (M : Nat → Nat → Int32) (d a b : Nat) : aP M d a b ∨ aP M d b a ∨ a = b := by
  unfold aP
  omega
def rkN (M : Nat → Nat → Int32) (d a : Nat) : Nat → Nat
  | 0 => 0
  | n + 1 => rkN M d a n + (if M 6 n = 2 then (if n = a then 0 else if f_X5_isAhead M n a d = 0 then 0 else 1) else 0)
theorem rkN_le (M : Nat → Nat → Int32) (d a : Nat) : ∀ n, rkN M d a n ≤ n := by
  intro n
  induction n with
  | zero => exact Nat.le_refl _
  | succ n ih =>
    rw [rkN]
    split
    · split
      · omega
      · split <;> omega
    · omega
theorem rk_nat (M : Nat → Nat → Int32) (d s : Nat) (hs : s < 12) : ∀ n, n ≤ 12 → it5_X5_rankOf M s d n = nI (rkN M d s n) := by
  intro n
  induction n with
  | zero => intro _; rfl
  | succ n ih =>
    intro hn
    rw [it5_X5_rankOf, rkN, ih (by omega)]
    by_cases h : M 6 n = 2
    · rw [if_pos h, if_pos h]
      by_cases q : n = s
      · rw [if_pos q, if_pos (by rw [q]), Int32.add_zero, Nat.add_zero]
      · rw [if_neg q, if_neg (fun z => q ((nI_eq (by omega) (by omega)).mp z))]
        split
        · rw [Int32.add_zero, Nat.add_zero]
        · rw [nI_1]
    · rw [if_neg h, if_neg h, Int32.add_zero, Nat.add_zero]
theorem JJ.rk_lt {C M : Nat → Nat → Int32} (J : JJ C M) {d a b : Nat} (hd : d < 3) (ha : a < nS M) (hb : b < nS M) (ea : M 6 a = 2) (eb : M 6 b = 2) (h : aP M d a b) : ∀ n, n ≤ nS M → rkN M d a n + (if a < n then 1 else 0) ≤ rkN M d b n := by
  have hab : ¬ a = b := fun q => by
    subst q
    exact aP_irr M d a h
  intro n
  induction n with
  | zero => intro _; exact Nat.le_refl _
  | succ n ih =>
    intro hn
    have ih := ih (by omega)
    rw [rkN, rkN]
    by_cases e : M 6 n = 2
    · rw [if_pos e, if_pos e]
      by_cases q : n = a
      · subst q
        rw [if_pos rfl, if_neg hab, (J.ahead ha hb hd).1 h, if_neg (show ¬ (1 : Int32) = 0 by decide), if_pos (Nat.lt_succ_self _)]
        rw [if_neg (Nat.lt_irrefl _)] at ih
        omega
      · have e1 : (if a < n + 1 then 1 else 0) = if a < n then 1 else 0 := by
          by_cases g : a < n
          · rw [if_pos g, if_pos (by omega)]
          · rw [if_neg g, if_neg (by omega)]
        rw [if_neg q, e1]
        by_cases w : aP M d n a
        · have w2 : ¬ n = b := fun z => by
            subst z
            exact aP_irr M d a (aP_tr h w)
          rw [(J.ahead (by omega) ha hd).1 w, if_neg (show ¬ (1 : Int32) = 0 by decide), if_neg w2, (J.ahead (by omega) hb hd).1 (aP_tr w h), if_neg (show ¬ (1 : Int32) = 0 by decide)]
          omega
        · rw [(J.ahead (by omega) ha hd).2 w, if_pos rfl]
          omega
    · have q : ¬ n = a := fun z => e (by rw [z]; exact ea)
      rw [if_neg e, if_neg e]
      have e1 : (if a < n + 1 then 1 else 0) = if a < n then 1 else 0 := by
        by_cases g : a < n
        · rw [if_pos g, if_pos (by omega)]
        · rw [if_neg g, if_neg (by omega)]
      rw [e1]
      omega
theorem JJ.rk_inj {C M : Nat → Nat → Int32} (J : JJ C M) {d a b : Nat} (hd : d < 3) (ha : a < nS M) (hb : b < nS M) (ea : M 6 a = 2) (eb : M 6 b = 2) (h : f_X5_rankOf M a d = f_X5_rankOf M b d) : a = b := by
  have h12 := J.many.2
  unfold f_X5_rankOf at h
  rw [if_pos ea, if_pos eb, rk_nat M d a (by omega) _ h12, rk_nat M d b (by omega) _ h12] at h
  have l1 := rkN_le M d a (nS M)
  have l2 := rkN_le M d b (nS M)
  have h := (nI_eq (by omega) (by omega)).mp h
  rcases aP_tot M d a b with q | q | q
  · have := J.rk_lt hd ha hb ea eb q (nS M) (Nat.le_refl _)
    rw [if_pos ha] at this
    omega
  · have := J.rk_lt hd hb ha eb ea q (nS M) (Nat.le_refl _)
    rw [if_pos hb] at this
    omega
  · exact q
/-- how many have ended, and not -/
def eN (M : Nat → Nat → Int32) : Nat → Nat
  | 0 => 0
  | n + 1 => if M 6 n = 2 then eN M n + 1 else eN M n
def uN (M : Nat → Nat → Int32) : Nat → Nat
  | 0 => 0
  | n + 1 => if M 6 n = 2 then uN M n else uN M n + 1
theorem eN_le (M : Nat → Nat → Int32) : ∀ n, eN M n ≤ n := by
  intro n
  induction n with
  | zero => exact Nat.le_refl _
  | succ n ih => rw [eN]; split <;> omega
theorem uN_le (M : Nat → Nat → Int32) : ∀ n, uN M n ≤ n := by
  intro n
  induction n with
  | zero => exact Nat.le_refl _
  | succ n ih => rw [uN]; split <;> omega
theorem uN_mono (M : Nat → Nat → Int32) {a : Nat} : ∀ n, a ≤ n → uN M a ≤ uN M n := by
  intro n
  induction n with
  | zero => intro h; rw [Nat.le_zero.mp h]; exact Nat.le_refl _
  | succ n ih =>
    intro h
    by_cases q : a = n + 1
    · rw [q]
      exact Nat.le_refl _
    · have := ih (by omega)
      rw [uN]
      split <;> omega
theorem it42_eN (M : Nat → Nat → Int32) (p0 p1 : Int32) (d : Nat) : ∀ n, it42_X5_starts M p0 p1 d n = nI (eN M n) := by
  intro n
  induction n with
  | zero => rfl
  | succ n ih =>
    rw [it42_X5_starts, eN, ih]
    split
    · rw [nI_1]
    · exact Int32.add_zero _
theorem RK.many {F M : Nat → Nat → Int32} {d : Nat} (R : RK F M d) : ∀ n, n ≤ 12 → it4_X4_howManyRanked F n = nI (eN M n) := by
  intro n
  induction n with
  | zero => intro _; rfl
  | succ n ih =>
    intro hn
    rw [it4_X4_howManyRanked, eN, ih (by omega), R.ranked (by omega)]
    by_cases h : M 6 n = 2
    · rw [if_pos h, if_neg (by decide), if_pos h, nI_1]
    · rw [if_neg h, if_pos rfl, if_neg h]
theorem JJ.eN_st {C M : Nat → Nat → Int32} (J : JJ C M) : ∀ n, nS M ≤ n → n ≤ 12 → eN M n = eN M (nS M) := by
  intro n
  induction n with
  | zero => intro h _; rw [Nat.le_zero.mp h]
  | succ n ih =>
    intro h1 h2
    by_cases q : nS M = n + 1
    · rw [q]
    · rw [eN, if_neg (by rw [(J.none (by omega) (by omega)).2.1]; decide)]
      exact ih (by omega) (by omega)
def fdU (M : Nat → Nat → Int32) (q : Nat) : Nat → Int32
  | 0 => (-1)
  | n + 1 => if M 6 n = 2 then fdU M q n else if uN M n = q then nI n else fdU M q n
def fdR (M : Nat → Nat → Int32) (d r : Nat) : Nat → Int32
  | 0 => (-1)
  | n + 1 => if M 6 n = 2 then (if f_X5_rankOf M n d = nI r then nI n else fdR M d r n) else fdR M d r n
theorem fdU_none {M : Nat → Nat → Int32} {q : Nat} : ∀ n, (∀ m, m < n → ¬ M 6 m = 2 → ¬ uN M m = q) → fdU M q n = (-1) := by
  intro n
  induction n with
  | zero => intro _; rfl
  | succ n ih =>
    intro h
    rw [fdU, ih (fun m hm => h m (by omega))]
    split
    · rfl
    · rename_i g
      rw [if_neg (h n (by omega) g)]
theorem fdU_at {M : Nat → Nat → Int32} {q i : Nat} (hu : ¬ M 6 i = 2) (hq : uN M i = q) : ∀ n, i < n → fdU M q n = nI i := by
  intro n
  induction n with
  | zero => intro h; exact absurd h (Nat.not_lt_zero _)
  | succ n ih =>
    intro h
    rw [fdU]
    by_cases e : i = n
    · subst e
      rw [if_neg hu, if_pos hq]
    · have h1 := ih (by omega)
      split
      · exact h1
      · have h2 := uN_mono M (a := i + 1) n (by omega)
        rw [uN, if_neg hu] at h2
        rw [if_neg (by omega)]
        exact h1
theorem fdR_none {M : Nat → Nat → Int32} {d r : Nat} : ∀ n, (∀ m, m < n → M 6 m = 2 → ¬ f_X5_rankOf M m d = nI r) → fdR M d r n = (-1) := by
  intro n
  induction n with
  | zero => intro _; rfl
  | succ n ih =>
    intro h
    rw [fdR, ih (fun m hm => h m (by omega))]
    split
    · rename_i g
      rw [if_neg (h n (by omega) g)]
    · rfl
theorem JJ.fdR_at {C M : Nat → Nat → Int32} (J : JJ C M) {d r i : Nat} (hd : d < 3) (hu : M 6 i = 2) (hq : f_X5_rankOf M i d = nI r) : ∀ n, n ≤ nS M → i < n → fdR M d r n = nI i := by
  intro n
  induction n with
  | zero => intro _ h; exact absurd h (Nat.not_lt_zero _)
  | succ n ih =>
    intro hn h
    rw [fdR]
    by_cases e : i = n
    · subst e
      rw [if_pos hu, if_pos hq]
    · have h1 := ih (by omega) (by omega)
      by_cases g : M 6 n = 2
      · rw [if_pos g, if_neg (fun z => e (J.rk_inj hd (by omega) (by omega) hu g (hq.trans z.symm)))]
        exact h1
      · rw [if_neg g]
        exact h1
theorem sub1_0 (q u : Nat) (hq : q < 100) (hu : u < 100) : nI q - nI u = 0 ↔ u = q := by
  rw [← Int32.toInt_inj, pk_sub_toInt (by omega) (by omega), show (0 : Int32).toInt = 0 from rfl]
  omega
/-- the reference's loop: among those who have not ended -/
theorem it87_A {M : Nat → Nat → Int32} {p0 : Int32} {d pl e : Nat} (hpl : pl < 12) (he : eN M (nS M) = e) (h : e ≤ pl) : ∀ n, n ≤ 12 → it87_X5_starts M p0 (nI pl) d n = (nI (pl - e) - nI (uN M n), fdU M (pl - e) n) := by
  intro n
  induction n with
  | zero =>
    intro _
    rw [it87_X5_starts, it42_eN, he]
    show (nI pl - nI e, (-1 : Int32)) = (nI (pl - e) - 0, -1)
    rw [pk_sub h, Int32.sub_zero]
  | succ n ih =>
    intro hn
    have u := uN_le M n
    rw [it87_X5_starts, ih (by omega), it42_eN, he, fdU, uN]
    dsimp only
    by_cases g : M 6 n = 2
    · have cA : ¬ (1 : Int32) = 0 := by decide
      have c1 : nI e ≤ nI pl := (nI_leI (by omega) (by omega)).mpr h
      rw [if_pos g, if_pos g, if_pos g, if_neg cA, if_neg cA, if_pos c1, if_pos c1, Int32.sub_zero]
    · rw [if_neg g, if_neg g, if_neg g, if_pos rfl, if_pos rfl]
      have e1 : nI (pl - e) - nI (uN M n) - 1 = nI (pl - e) - nI (uN M n + 1) := by
        rw [← nI_1, Int32.sub_eq_add_neg, Int32.sub_eq_add_neg, Int32.sub_eq_add_neg, Int32.neg_add, Int32.sub_eq_add_neg, Int32.add_assoc]
      rw [e1, ite_self]
      by_cases w : uN M n = pl - e
      · rw [if_pos w, if_pos ((sub1_0 _ _ (by omega) (by omega)).mpr w)]
      · rw [if_neg w, if_neg (fun z => w ((sub1_0 _ _ (by omega) (by omega)).mp z))]
/-- and among those who have -/
theorem it87_B {M : Nat → Nat → Int32} {p0 : Int32} {d pl e : Nat} (he : eN M (nS M) = e) (he2 : e ≤ 12) (h : pl < e) : ∀ n, n ≤ 12 → (it87_X5_starts M p0 (nI pl) d n).1.toInt = (pl : Int) - e - uN M n ∧ (it87_X5_starts M p0 (nI pl) d n).2 = fdR M d (e - 1 - pl) n := by
  have h0 : (0 : Int32).toInt = 0 := rfl
  intro n
  induction n with
  | zero =>
    intro _
    rw [it87_X5_starts, it42_eN, he]
    refine ⟨?_, rfl⟩
    show (nI pl - nI e).toInt = (pl : Int) - e - (0 : Nat)
    rw [pk_sub_toInt (by omega) (by omega)]
    omega
  | succ n ih =>
    intro hn
    have u := uN_le M n
    obtain ⟨a, b⟩ := ih (by omega)
    rw [it87_X5_starts, it42_eN, he, fdR, uN]
    dsimp only
    rw [b]
    generalize it87_X5_starts M p0 (nI pl) d n = w at a ⊢
    have e2 : nI e - 1 - nI pl = nI (e - 1 - pl) := by
      rw [show nI e - 1 = nI (e - 1) from pk_sub (b := 1) (by omega), pk_sub (by omega)]
    by_cases g : M 6 n = 2
    · have cA : ¬ (1 : Int32) = 0 := by decide
      have c1 : ¬ nI e ≤ nI pl := fun z => by
        have := (nI_leI (by omega) (by omega)).mp z
        omega
      rw [if_pos g, if_pos g, if_pos g, if_neg cA, if_neg cA, if_neg c1, if_neg c1, e2, Int32.sub_zero, ite_self]
      exact ⟨a, rfl⟩
    · have z : ¬ w.1 = 0 := fun q => by
        rw [q] at a
        omega
      rw [if_neg g, if_neg g, if_neg g, if_pos rfl, if_pos rfl, if_neg z, if_neg z, t_sub (by rw [one_toInt]; omega) (by rw [one_toInt]; omega), a, one_toInt]
      exact ⟨by omega, rfl⟩
theorem JJ.it4u {C M F : Nat → Nat → Int32} (J : JJ C M) (JF : JJ F M) {d q : Nat} (R : RK F M d) (hq : q < 100) : ∀ i, i ≤ nS M → (∀ m, m < i → ¬ M 6 m = 2 → ¬ uN M m = q) → it4_X4_unrankedSkater F (nI q) i = nI (uN M i) := by
  have h12 := J.many.2
  intro i
  induction i with
  | zero => intro _ _; rfl
  | succ i ih =>
    intro hi h
    have u := uN_le M i
    rw [it4_X4_unrankedSkater, if_neg (fun z => by
      have := (JF.progN (by omega)).mp z
      omega), R.ranked (by omega), ih (by omega) (fun m hm => h m (by omega)), uN]
    by_cases g : M 6 i = 2
    · rw [if_pos g, if_neg (by decide), if_pos g]
    · rw [if_neg g, if_pos rfl, if_neg g, if_neg (fun z => h i (by omega) g ((nI_eq (by omega) (by omega)).mp z)), nI_1]
theorem JJ.fr4 {C M F : Nat → Nat → Int32} (J : JJ C M) (JF : JJ F M) {d q : Nat} (R : RK F M d) (hq : q < 100) : ∀ k i, i + k = 12 → (∀ m, m < i → m < nS M → ¬ M 6 m = 2 → ¬ uN M m = q) → fr4_X4_unrankedSkater F (nI q) k i = fdU M q (nS M) := by
  have h12 := J.many.2
  intro k
  induction k with
  | zero =>
    intro i hi h
    rw [fr4_X4_unrankedSkater, fdU_none _ (fun m hm => h m (by omega) hm)]
  | succ k ih =>
    intro i hi h
    rw [fr4_X4_unrankedSkater]
    by_cases hp : nS M ≤ i
    · rw [if_pos ((JF.progN (by omega)).mpr hp)]
      exact ih (i + 1) (by omega) (fun m _ hm2 => h m (by omega) hm2)
    · have u := uN_le M i
      rw [if_neg (fun z => hp ((JF.progN (by omega)).mp z)), R.ranked (by omega)]
      by_cases g : M 6 i = 2
      · rw [if_pos g, if_neg (by decide)]
        refine ih (i + 1) (by omega) (fun m hm hm2 hm3 => ?_)
        by_cases e : m = i
        · subst e
          exact absurd g hm3
        · exact h m (by omega) hm2 hm3
      · rw [if_neg g, if_pos rfl, J.it4u JF R hq i (by omega) (fun m hm => h m hm (by omega))]
        by_cases w : uN M i = q
        · rw [if_pos (by rw [w]), fdU_at g w (nS M) (by omega)]
        · rw [if_neg (fun z => w ((nI_eq (by omega) (by omega)).mp z))]
          refine ih (i + 1) (by omega) (fun m hm hm2 hm3 => ?_)
          by_cases e : m = i
          · subst e
            exact w
          · exact h m (by omega) hm2 hm3
theorem JJ.fr2 {C M F : Nat → Nat → Int32} (J : JJ C M) {d r : Nat} (R : RK F M d) (hd : d < 3) : ∀ k i, i + k = 12 → (∀ m, m < i → m < nS M → M 6 m = 2 → ¬ f_X5_rankOf M m d = nI r) → fr2_X4_skaterOfRank F (nI r) k i = fdR M d r (nS M) := by
  have h12 := J.many.2
  intro k
  induction k with
  | zero =>
    intro i hi h
    rw [fr2_X4_skaterOfRank, fdR_none _ (fun m hm => h m (by omega) hm)]
  | succ k ih =>
    intro i hi h
    rw [fr2_X4_skaterOfRank, R.ranked (by omega)]
    by_cases g : M 6 i = 2
    · have hp : i < nS M := by
        by_cases q : i < nS M
        · exact q
        · rw [(J.none (by omega) (by omega)).2.1] at g
          exact absurd g (by decide)
      rw [if_pos g, if_neg (by decide), J.rank R hd hp]
      by_cases w : f_X5_rankOf M i d = nI r
      · rw [if_pos w, J.fdR_at hd g w (nS M) (Nat.le_refl _) hp]
      · rw [if_neg w]
        refine ih (i + 1) (by omega) (fun m hm hm2 hm3 => ?_)
        by_cases e : m = i
        · subst e
          exact w
        · exact h m (by omega) hm2 hm3
    · rw [if_neg g, if_pos rfl]
      refine ih (i + 1) (by omega) (fun m hm hm2 hm3 => ?_)
      by_cases e : m = i
      · subst e
        exact absurd hm3 g
      · exact h m (by omega) hm2 hm3
theorem JJ.start {C M : Nat → Nat → Int32} (J : JJ C M) {d pl : Nat} (p0 : Int32) (hd : d < 3) (hpl : pl < 12) : (if f_X4_howManyRanked (g_X4_fillRanking C d) ≤ nI pl then f_X4_unrankedSkater (g_X4_fillRanking C d) (nI pl - f_X4_howManyRanked (g_X4_fillRanking C d)) else f_X4_skaterOfRank (g_X4_fillRanking C d) ((f_X4_howManyRanked (g_X4_fillRanking C d) - 1) - nI pl)) = (it87_X5_starts M p0 (nI pl) d (nS M)).2 := by
  have h12 := J.many.2
  obtain ⟨JF, R⟩ := J.fill hd
  generalize g_X4_fillRanking C d = F at JF R ⊢
  have R : RK F M d := R
  have hm : f_X4_howManyRanked F = nI (eN M (nS M)) := by
    unfold f_X4_howManyRanked
    rw [R.many 12 (Nat.le_refl _), J.eN_st 12 h12 (Nat.le_refl _)]
  have el := eN_le M (nS M)
  rw [hm]
  by_cases h : eN M (nS M) ≤ pl
  · rw [if_pos ((nI_leI (by omega) (by omega)).mpr h), pk_sub h, it87_A hpl rfl h _ h12]
    exact J.fr4 JF R (by omega) 12 0 rfl (fun m hm => absurd hm (Nat.not_lt_zero _))
  · rw [if_neg (fun z => h ((nI_leI (by omega) (by omega)).mp z)), show nI (eN M (nS M)) - 1 = nI (eN M (nS M) - 1) from pk_sub (b := 1) (by omega), pk_sub (by omega), (it87_B (p0 := p0) (d := d) rfl (by omega) (show pl < eN M (nS M) by omega) _ h12).2]
    exact J.fr2 R hd 12 0 rfl (fun m hm => absurd hm (Nat.not_lt_zero _))
