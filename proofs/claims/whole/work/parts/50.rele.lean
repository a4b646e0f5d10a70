/-! THE BRIDGE: spins -/
def nw (a u : Int32) (n : Nat) : Int32 := if ((a >>> ((nI n) &&& 31)) &&& 1) = 1 then (if ((u >>> ((nI n) &&& 31)) &&& 1) = 0 then 1 else 0) else 0
def nwN (a u : Int32) : Nat → Nat
  | 0 => 0
  | n + 1 => nwN a u n + (if nw a u n = 0 then 0 else 1)
theorem nwN_le (a u : Int32) : ∀ n, nwN a u n ≤ n := by
  intro n
  induction n with
  | zero => exact Nat.le_refl _
  | succ n ih =>
    rw [nwN]
    split <;> omega
theorem it79_u (M : Nat → Nat → Int32) (p0 p1 : Int32) (g n : Nat) : ∀ m, it79_X5_spin M p0 p1 g n m = cnU (M 9) (M 10) (M 11) (12 * g) m := by
  intro m
  induction m with
  | zero => rfl
  | succ m ih => rw [it79_X5_spin, cnU, ih]
theorem it156_c (M : Nat → Nat → Int32) (p0 p1 : Int32) (g n : Nat) : ∀ m, m ≤ 6 → it156_X5_spin M p0 p1 g n m = nI (min 4 (nwN p0 (it79_X5_spin M p0 p1 g n n) m)) := by
  intro m
  induction m with
  | zero => intro _; rfl
  | succ m ih =>
    intro hm
    have l := nwN_le p0 (it79_X5_spin M p0 p1 g n n) m
    rw [it156_X5_spin, ih (by omega), nwN]
    generalize hu : it79_X5_spin M p0 p1 g n n = u at l ⊢
    rw [show (if ((p0 >>> ((nI m) &&& 31)) &&& 1) = 1 then (if ((u >>> ((nI m) &&& 31)) &&& 1) = 0 then (1 : Int32) else 0) else 0) = nw p0 u m from rfl]
    by_cases z : nw p0 u m = 0
    · rw [if_pos z, if_pos z, Int32.add_zero, Nat.add_zero]
    · rw [if_neg z, if_neg z]
      by_cases f : 4 ≤ nwN p0 u m
      · rw [if_pos (show (4 : Int32) ≤ nI (min 4 (nwN p0 u m)) from (nI_leI (a := 4) (by decide) (by omega)).mpr (by omega)), Int32.add_zero, show min 4 (nwN p0 u m + 1) = min 4 (nwN p0 u m) by omega]
      · rw [if_neg (fun q => f (by
          have := (nI_leI (a := 4) (by decide) (by omega)).mp q
          omega)), nI_1, show min 4 (nwN p0 u m + 1) = min 4 (nwN p0 u m) + 1 by omega]
set_option maxRecDepth 100000 in
theorem bits64 : ∀ a : Fin 64, ∀ u : Fin 64, f_J6_bitCount_0f7a4 (nI a.1 &&& (nI u.1 ^^^ (-1))) = nI (nwN (nI a.1) (nI u.1) 6) := by decide +kernel
theorem or_nat {x y : Nat} (hx : x < 2 ^ 32) (hy : y < 2 ^ 32) : nI x ||| nI y = nI (x ||| y) := by
  apply Int32.toBitVec_inj.mp
  apply BitVec.eq_of_toNat_eq
  rw [Int32.toBitVec_or, BitVec.toNat_or, pk_tn hx, pk_tn hy, pk_tn (Nat.or_lt_two_pow hx hy)]
theorem JJ.used {C M : Nat → Nat → Int32} (J : JJ C M) {k : Nat} (hk : k < 12) : ∀ i, i ≤ nE M k → ∃ u, u < 64 ∧ cnU (M 9) (M 10) (M 11) (12 * k) i = nI u := by
  intro i
  induction i with
  | zero => intro _; exact ⟨0, by decide, rfl⟩
  | succ i ih =>
    intro hi
    obtain ⟨u, u1, u2⟩ := ih (by omega)
    rw [cnU, u2]
    rcases J.ok hk (show i < nE M k by omega) with ⟨p, q, a1, a2, a3, a4, a5⟩ | ⟨q, f, a1, a2, a3, a4, a5, -⟩
    · rw [if_neg (by rw [a4]; exact nI6 a1)]
      exact ⟨u, u1, Int32.or_zero⟩
    · rw [if_pos a3]
      split
      · exact ⟨u, u1, Int32.or_zero⟩
      · rw [a5, or_nat (by omega) (by omega)]
        exact ⟨u ||| f, Nat.or_lt_two_pow (n := 6) u1 a2, rfl⟩
theorem JJ_spinC {C M : Nat → Nat → Int32} {k i q : Nat} {p0 L : Int32} (J : JJ C M) (hk : k < nS M) (hg : M 0 2 = nI k) (h6 : M 6 k = 1) (hi : nE M k = i) (hi12 : i < 12) (hp : ¬ f_X5_in p0 0 63 = 0) (hL : L = nI q) (hq : q ≤ 4) :
    JJ (if L ≤ 0 then (up2 (up2 (up2 (up2 (up2 (up2 (mkE C (12 * k + i) 6 L 0 0 0 (if 3 ≤ (C (40 + k) 8) - (C (40 + k) 9) then 0 else 1)) (52 + k) i 1) (40 + k) 8 (nI (i + 1))) (40 + k) 7 ((mkE C (12 * k + i) 6 L 0 0 0 (if 3 ≤ (C (40 + k) 8) - (C (40 + k) 9) then 0 else 1)) (40 + k) 7 + 10)) (40 + k) 4 0) (40 + k) 5 1) (40 + k) 6 1)
        else (up2 (up2 (up2 (up2 (up2 (up2 (up2 (mkE C (12 * k + i) 6 L 0 0 0 (if 3 ≤ (C (40 + k) 8) - (C (40 + k) 9) then 0 else 1)) (52 + k) i 1) (40 + k) 8 (nI (i + 1))) (40 + k) 11 ((mkE C (12 * k + i) 6 L 0 0 0 (if 3 ≤ (C (40 + k) 8) - (C (40 + k) 9) then 0 else 1)) (40 + k) 11 ||| p0)) (40 + k) 7 ((mkE C (12 * k + i) 6 L 0 0 0 (if 3 ≤ (C (40 + k) 8) - (C (40 + k) 9) then 0 else 1)) (40 + k) 7 + 10)) (40 + k) 4 0) (40 + k) 5 1) (40 + k) 6 1))
      (up2 (up2 (up2 (up2 (up2 (up2 (up2 (up2 (up2 M 0 0 0) 9 (12 * k + i) 6) 10 (12 * k + i) L) 11 (12 * k + i) p0) 7 k (M 7 k + 10)) 0 3 0) 0 4 1) 0 5 1) 8 k (nI (i + 1))) := by
  have hk12 := J.lt hk
  obtain ⟨fn, fn1, rfl⟩ := (in_rg (n := 63) (by decide)).mp hp
  obtain ⟨n13, n14, n15, n12, n16⟩ := J.no hk12 hi12 (by omega)
  have h7 := (J.rp hk).1.2.2.1
  have h8 := J.c8 hk
  rw [hi] at h8
  rw [h8]
  generalize hQ : (if 3 ≤ nI i - C (40 + k) 9 then (0 : Int32) else 1) = Q
  have rk : ∀ (x0 x1 x2 x3 x4 x5 : Int32) (j : Nat), mkE C (12 * k + i) x0 x1 x2 x3 x4 x5 (40 + k) j = C (40 + k) j := fun x0 x1 x2 x3 x4 x5 j => by rw [mkE_ne (by omega) (by unfold rV; omega) (by unfold rV; omega)]
  have rl : ∀ (x0 x1 x2 x3 x4 x5 : Int32) (j : Nat), mkE C (12 * k + i) x0 x1 x2 x3 x4 x5 (52 + k) j = C (52 + k) j := fun x0 x1 x2 x3 x4 x5 j => by rw [mkE_ne (by omega) (by unfold rV; omega) (by unfold rV; omega)]
  have ro : ∀ (x0 x1 x2 x3 x4 x5 : Int32) (r j : Nat), ¬ r = 80 + (12 * k + i) → ¬ rV (36 + (12 * k + i)) r → ¬ rV (180 + (12 * k + i)) r → mkE C (12 * k + i) x0 x1 x2 x3 x4 x5 r j = C r j := fun x0 x1 x2 x3 x4 x5 r j h1 h2 h3 => by rw [mkE_ne h1 h2 h3]
  have d1 : ¬ (52 + k = 40 + k) := by omega
  have d2 : ¬ (40 + k = 52 + k) := by omega
  have d3 : ¬ (80 + (12 * k + i) = 40 + k) := by omega
  have d4 : ¬ (80 + (12 * k + i) = 52 + k) := by omega
  refine JJ_newE (K := 6) (L := L) (W := 0) (T := 0) (Fa := 0) (F := nI fn) (sec := 10) (ft := 0) J hk hg h6 hi hi12 (Or.inl rfl) ?_ ?_ ?_ ?_ ?_ ?_ (fun j => ?_) (fun j => ?_) (fun j => ?_) (fun j => ?_) (fun j => ?_) (fun j => ?_) (fun j => ?_) (fun j => ?_) ?_ ?_ ?_ ?_ ?_ (fun r h0 h1 h2 h3 h4 => ?_) ?_ ?_ ?_ ?_ ?_ ?_ ?_ ?_ ?_ ?_ (fun j => ?_) ?_ ?_ ?_ ?_ ?_ ?_ (fun r hr j => ?_)
  · simp [up2]
  · simp [up2]
  · simp [up2]
  · simp [up2]
  · simp [up2]
  · funext j
    simp [up2]
  · simp [up2]
  · simp [up2]
  · simp [up2]
  · simp [up2]
  · simp [up2]
  · by_cases e : j = 12 * k + i
    · subst e
      simp [up2, n13]
    · simp [up2, e]
  · by_cases e : j = 12 * k + i
    · subst e
      simp [up2, n14]
    · simp [up2, e]
  · by_cases e : j = 12 * k + i
    · subst e
      simp [up2, n15]
    · simp [up2, e]
  · funext j
    simp [up2]
  · funext j
    simp [up2]
  · funext j
    simp [up2]
  · funext j
    simp [up2]
  · refine Or.inr ⟨q, fn, hq, by omega, by simp [up2], by simp [up2, hL], by simp [up2], by simp [up2, n13], by simp [up2, n14], fun c hc => ?_⟩
    have := n12 c hc
    simp [up2, this]
  · funext j
    split <;> simp [up2, h0, h1, ro _ _ _ _ _ _ r j h2 h3 h4]
  · split <;> simp [up2, rk]
  · split <;> simp [up2, rk]
  · split <;> simp [up2, rk]
  · split <;> simp [up2, rk]
  · split <;> simp [up2, rk]
  · split <;> simp [up2, rk]
  · split <;> simp [up2, rk]
  · split <;> simp [up2, rk]
  · split <;> simp [up2, rk]
  · split
    · rename_i g
      simp [up2, rk, g]
    · rename_i g
      simp [up2, rk, g]
  · split <;> simp [up2, rl, d1]
  · split <;> simp [up2, mkE_e, d3, d4, six]
  · split <;> simp [up2, mkE_e, d3, d4, six]
  · split <;> simp [up2, mkE_e, d3, d4, six]
  · split <;> simp [up2, mkE_e, d3, d4, six]
  · split <;> simp [up2, mkE_e, d3, d4, six]
  · rw [if_pos rfl, hQ]
    split <;> simp [up2, mkE_e, d3, d4, six]
  · have d5 : ¬ r = 40 + k := by
      unfold rV at hr
      omega
    have d6 : ¬ r = 52 + k := by
      unfold rV at hr
      omega
    split <;> simp [up2, d5, d6, mkE_v hr (by omega)]
/-- the level -/
theorem JJ.level {C M : Nat → Nat → Int32} (J : JJ C M) {k : Nat} {p0 : Int32} (p1 : Int32) (hk : k < nS M) (hp : ¬ f_X5_in p0 0 63 = 0) : ∃ q, q ≤ 4 ∧ (if 6 ≤ p1 then (if 4 < f_J6_bitCount_0f7a4 (p0 &&& (C (40 + k) 11 ^^^ (-1))) then 4 else f_J6_bitCount_0f7a4 (p0 &&& (C (40 + k) 11 ^^^ (-1)))) else 0) = nI q ∧ (if p1 < 6 then 0 else it156_X5_spin M p0 p1 k (nE M k) 6) = nI q := by
  have hk12 := J.lt hk
  obtain ⟨fn, fn1, rfl⟩ := (in_rg (n := 63) (by decide)).mp hp
  by_cases h : p1 < 6
  · rw [if_pos h, if_neg (Int32.not_le.mpr h)]
    exact ⟨0, by decide, rfl, rfl⟩
  · rw [if_neg h, if_pos (Int32.not_lt.mp h)]
    obtain ⟨u, u1, u2⟩ := J.used hk12 (nE M k) (Nat.le_refl _)
    have l := nwN_le (nI fn) (nI u) 6
    have hb : f_J6_bitCount_0f7a4 (nI fn &&& (nI u ^^^ (-1))) = nI (nwN (nI fn) (nI u) 6) := bits64 ⟨fn, by omega⟩ ⟨u, u1⟩
    rw [it156_c M (nI fn) p1 k (nE M k) 6 (Nat.le_refl _), it79_u, u2, (J.rp hk).2.1.2.2.1, u2, hb]
    refine ⟨min 4 (nwN (nI fn) (nI u) 6), by omega, ?_, rfl⟩
    by_cases g : 4 < nwN (nI fn) (nI u) 6
    · rw [if_pos (show (4 : Int32) < nI (nwN (nI fn) (nI u) 6) from (nI_ltI (a := 4) (by decide) (by omega)).mpr g), show min 4 (nwN (nI fn) (nI u) 6) = 4 by omega]
      rfl
    · rw [if_neg (show ¬ (4 : Int32) < nI (nwN (nI fn) (nI u) 6) from fun z => g ((nI_ltI (a := 4) (by decide) (by omega)).mp z)), show min 4 (nwN (nI fn) (nI u) 6) = nwN (nI fn) (nI u) 6 by omega]
theorem J_spin {C M : Nat → Nat → Int32} (J : JJ C M) (p0 p1 : Int32) : Ans C [0, 2, 3] codC (t_X4_spin C p0 p1 (nE M (M 0 2).toNatClampNeg)) (f_X4_spin C p0 p1 (nE M (M 0 2).toNatClampNeg)) (g_X4_spin C p0 p1 (nE M (M 0 2).toNatClampNeg)) (f_X5_spin M p0 p1 (M 0 2).toNatClampNeg (nE M (M 0 2).toNatClampNeg)) (g_X5_spin M p0 p1 (M 0 2).toNatClampNeg (nE M (M 0 2).toNatClampNeg)) := by
  unfold t_X4_spin f_X4_spin g_X4_spin f_X5_spin g_X5_spin
  rw [isIn_eq, isIn_eq, J.ro.2.1]
  by_cases a : f_X5_in p0 0 63 = 0
  · simp only [if_pos a]
    exact Ans.no J (by decide) (by decide) rfl
  · simp only [if_neg a]
    by_cases b : f_X5_in p1 1 20 = 0
    · simp only [if_pos b]
      exact Ans.no J (by decide) (by decide) rfl
    · simp only [if_neg b]
      by_cases c : M 0 2 = (-1)
      · simp only [if_pos c, if_pos (closed c)]
        exact Ans.no J (by decide) (by decide) rfl
      · obtain ⟨g1, g2, g3⟩ := J.gk c
        have hk12 := J.lt g2
        simp only [if_neg c]
        rw [J.rest c]
        by_cases o : f_X5_isOpen M = 0
        · simp only [if_pos o, if_true]
          exact Ans.no J (by decide) (by decide) rfl
        · simp only [if_neg o]
          generalize (M 0 2).toNatClampNeg = k at g1 g2 g3 hk12 ⊢
          by_cases r : 12 ≤ nI (nE M k)
          · simp only [if_pos r, if_true]
            exact Ans.no J (by decide) (by decide) rfl
          · have hi12 : nE M k < 12 := by
              have h1 := (J.cnt hk12).2
              have h2 : ¬ 12 ≤ nE M k := fun z => r ((nI_leI (a := 12) (by decide) (by omega)).mpr z)
              omega
            simp only [if_neg r, if_neg (show ¬ (1 : Int32) = 0 by decide)]
            obtain ⟨q, q1, q2, q3⟩ := J.level p1 g2 a
            unfold f_X2_skateSpin g_X2_skateSpin f_X2_add
            rw [q2, ite_self, ite_self]
            have hm : (if p1 < 6 then (up2 (up2 (up2 (up2 (up2 (up2 (up2 (up2 (up2 M 0 0 0) 9 (12 * k + nE M k) 6) 10 (12 * k + nE M k) 0) 11 (12 * k + nE M k) p0) 7 k (M 7 k + 10)) 0 3 0) 0 4 1) 0 5 1) 8 k (nI (nE M k + 1))) else (up2 (up2 (up2 (up2 (up2 (up2 (up2 (up2 (up2 M 0 0 0) 9 (12 * k + nE M k) 6) 10 (12 * k + nE M k) (it156_X5_spin M p0 p1 k (nE M k) 6)) 11 (12 * k + nE M k) p0) 7 k (M 7 k + 10)) 0 3 0) 0 4 1) 0 5 1) 8 k (nI (nE M k + 1)))) = (up2 (up2 (up2 (up2 (up2 (up2 (up2 (up2 (up2 M 0 0 0) 9 (12 * k + nE M k) 6) 10 (12 * k + nE M k) (nI q)) 11 (12 * k + nE M k) p0) 7 k (M 7 k + 10)) 0 3 0) 0 4 1) 0 5 1) 8 k (nI (nE M k + 1))) := by
              rw [← q3]
              by_cases h : p1 < 6
              · rw [if_pos h, if_pos h]
              · rw [if_neg h, if_neg h]
            rw [hm]
            exact ⟨by decide, by simp [up2, codC], fun _ => ⟨rfl, JJ_spinC J g2 g1 g3 rfl hi12 a rfl q1⟩, fun z => absurd rfl z⟩
