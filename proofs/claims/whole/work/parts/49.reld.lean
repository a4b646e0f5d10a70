/-! THE BRIDGE: jumps -/
theorem JJ.like {C M : Nat → Nat → Int32} (J : JJ C M) {k : Nat} (p q : Int32) (hk : k < nS M) : ∀ m, m ≤ 12 → it16_X2_likeJumps C k p q m = cnA (M 9) (M 10) (12 * k) p q (min m (nE M k)) := by
  intro m
  induction m with
  | zero => intro _; rw [Nat.zero_min]; rfl
  | succ m ih =>
    intro hm
    rw [it16_X2_likeJumps, ih (by omega)]
    by_cases h : m < nE M k
    · obtain ⟨⟨r0, r1, -⟩, -⟩ := J.re hk h
      rw [if_neg (fun z => by
        have := (J.c52 hk (by omega)).mp z
        omega), show min (m + 1) (nE M k) = m + 1 by omega, show min m (nE M k) = m by omega, cnA, r0, r1]
    · rw [if_pos ((J.c52 hk (by omega)).mpr (by omega)), show min (m + 1) (nE M k) = min m (nE M k) by omega]
/-- the edge is wrong where the reference says so -/
theorem wrong_eq {C M : Nat → Nat → Int32} {k : Nat} {p : Int32} (h5 : C (40 + k) 5 = M 0 4) (b4 : M 0 4 = 0 ∨ M 0 4 = 1) (hp : ¬ f_X5_in p 0 5 = 0) (ho : ¬ f_X5_canTakeOff M p = 0) : f_X2_isWrongEdge C k p = if p = 3 then (if M 0 4 = 1 then 1 else 0) else if p = 4 then (if M 0 4 = 1 then 0 else 1) else 0 := by
  unfold f_X2_isWrongEdge
  unfold f_X5_canTakeOff at ho
  rw [h5]
  generalize M 0 3 = a3 at ho
  generalize M 0 5 = a5 at ho
  rcases in05 hp with rfl | rfl | rfl | rfl | rfl | rfl <;> rcases b4 with b4 | b4 <;> rw [b4] at ho ⊢
  · exfalso
    apply ho
    rw [if_pos rfl, if_neg (show ¬ (0 : Int32) = 1 by decide), ite_self]
  · decide
  · decide
  · exfalso
    apply ho
    rw [if_neg (by decide), if_neg (by decide), if_neg (by decide), if_neg (by decide), if_neg (show ¬ (1 : Int32) = 5 by decide), if_pos rfl, ite_self]
  · exfalso
    apply ho
    rw [if_neg (by decide), if_pos rfl, if_neg (show ¬ (0 : Int32) = 1 by decide), ite_self]
  · decide
  · decide
  · decide
  · decide
  · decide
  · exfalso
    apply ho
    rw [if_neg (by decide), if_neg (by decide), if_neg (by decide), if_neg (by decide), if_pos rfl, if_neg (show ¬ (0 : Int32) = 1 by decide), ite_self]
  · decide
theorem mkE_ne {C : Nat → Nat → Int32} {n r : Nat} {p0 p1 p2 p3 p4 p5 : Int32} (h0 : ¬ r = 80 + n) (h1 : ¬ rV (36 + n) r) (h2 : ¬ rV (180 + n) r) : mkE C n p0 p1 p2 p3 p4 p5 r = C r := by
  unfold mkE
  rw [if_neg h0, if_neg (fun z => z.elim h1 h2)]
theorem mkE_e {C : Nat → Nat → Int32} {n : Nat} {p0 p1 p2 p3 p4 p5 : Int32} : mkE C n p0 p1 p2 p3 p4 p5 (80 + n) = six p0 p1 p2 p3 p4 p5 := by
  unfold mkE
  rw [if_pos rfl]
theorem mkE_v {C : Nat → Nat → Int32} {n r : Nat} {p0 p1 p2 p3 p4 p5 : Int32} (h : rV (36 + n) r ∨ rV (180 + n) r) (hn : n < 144) (j : Nat) : mkE C n p0 p1 p2 p3 p4 p5 r j = 0 := by
  unfold mkE
  rw [if_neg (by unfold rV at h; omega), if_pos h]
theorem opn_th (M : Nat → Nat → Int32) (x : Int32) : f_X5_isOpen (up2 M 0 0 x) = f_X5_isOpen M := by
  unfold f_X5_isOpen
  rw [up2_j M x (show (2 : Nat) ≠ 0 by decide), up2_ne M 0 x (show (7 : Nat) ≠ 0 by decide)]
theorem off_th (M : Nat → Nat → Int32) (x p : Int32) : f_X5_canTakeOff (up2 M 0 0 x) p = f_X5_canTakeOff M p := by
  unfold f_X5_canTakeOff
  rw [up2_j M x (show (3 : Nat) ≠ 0 by decide), up2_j M x (show (4 : Nat) ≠ 0 by decide), up2_j M x (show (5 : Nat) ≠ 0 by decide)]
theorem JJ.rest {C M : Nat → Nat → Int32} (J : JJ C M) (h : ¬ M 0 2 = (-1)) : f_X2_hasRoom C (M 0 2).toNatClampNeg = if f_X5_isOpen M = 0 then 0 else if 12 ≤ nI (nE M (M 0 2).toNatClampNeg) then 0 else 1 := by
  obtain ⟨g1, g2, g3⟩ := J.gk h
  unfold f_X2_hasRoom
  rw [J.opn h, J.c8 g2]
theorem JJ_jumpC {C M : Nat → Nat → Int32} {k i : Nat} {p0 p1 p2 : Int32} (J : JJ C M) (hk : k < nS M) (hg : M 0 2 = nI k) (h6 : M 6 k = 1) (hi : nE M k = i) (hi12 : i < 12) (hp : ¬ f_X5_in p0 0 5 = 0) (hq : ¬ f_X5_in p1 1 4 = 0) (ho : ¬ f_X5_canTakeOff M p0 = 0) :
    JJ (g_X2_skateJump C k p0 p1 p2 i) (up2 (up2 (up2 (up2 (up2 (up2 (up2 (up2 (up2 (up2 (up2 (up2 M 0 0 0) 0 0 0) 9 (12 * k + i) p0) 10 (12 * k + i) p1) 13 (12 * k + i) (if p0 = 3 then (if M 0 4 = 1 then 1 else 0) else (if p0 = 4 then (if M 0 4 = 1 then 0 else 1) else 0))) 14 (12 * k + i) (if M 7 k < 120 then 0 else 1)) 15 (12 * k + i) p2) 7 k (M 7 k + 4)) 0 3 1) 0 4 1) 0 5 1) 8 k (nI (i + 1))) := by
  have hk12 := J.lt hk
  obtain ⟨pn, pn1, rfl⟩ := (in_rg (n := 5) (by decide)).mp hp
  obtain ⟨qn, qn1, qn2, rfl⟩ := in1_4.mp hq
  have hK : ¬ nI pn = 6 := nI6 (by omega)
  have hf := (J.rp hk).1.2.2.2.2.2 hg
  have hw := wrong_eq (C := C) (k := k) hf.2.1 J.1.1.2.2.2.1 hp ho
  have h7 := (J.rp hk).1.2.2.1
  have hl := J.like (nI pn) (nI qn) hk 12 (Nat.le_refl _)
  rw [show min 12 (nE M k) = i by omega] at hl
  have hl : f_X2_likeJumps C k (nI pn) (nI qn) = cnA (M 9) (M 10) (12 * k) (nI pn) (nI qn) i := hl
  unfold g_X2_skateJump
  rw [hw, hl, h7]
  generalize (if nI pn = 3 then (if M 0 4 = 1 then (1 : Int32) else 0) else if nI pn = 4 then (if M 0 4 = 1 then 0 else 1) else 0) = W
  generalize hT : (if M 7 k < 120 then (0 : Int32) else 1) = T
  generalize hQ : (if 7 ≤ C (40 + k) 9 then (0 : Int32) else (if 2 ≤ cnA (M 9) (M 10) (12 * k) (nI pn) (nI qn) i then 0 else 1)) = Q
  have rk : ∀ (x0 x1 x2 x3 x4 x5 : Int32) (j : Nat), mkE C (12 * k + i) x0 x1 x2 x3 x4 x5 (40 + k) j = C (40 + k) j := fun x0 x1 x2 x3 x4 x5 j => by rw [mkE_ne (by omega) (by unfold rV; omega) (by unfold rV; omega)]
  have rl : ∀ (x0 x1 x2 x3 x4 x5 : Int32) (j : Nat), mkE C (12 * k + i) x0 x1 x2 x3 x4 x5 (52 + k) j = C (52 + k) j := fun x0 x1 x2 x3 x4 x5 j => by rw [mkE_ne (by omega) (by unfold rV; omega) (by unfold rV; omega)]
  have ro : ∀ (x0 x1 x2 x3 x4 x5 : Int32) (r j : Nat), ¬ r = 80 + (12 * k + i) → ¬ rV (36 + (12 * k + i)) r → ¬ rV (180 + (12 * k + i)) r → mkE C (12 * k + i) x0 x1 x2 x3 x4 x5 r j = C r j := fun x0 x1 x2 x3 x4 x5 r j h1 h2 h3 => by rw [mkE_ne h1 h2 h3]
  have d1 : ¬ (52 + k = 40 + k) := by omega
  have d2 : ¬ (40 + k = 52 + k) := by omega
  have d3 : ¬ (80 + (12 * k + i) = 40 + k) := by omega
  have d4 : ¬ (80 + (12 * k + i) = 52 + k) := by omega
  refine JJ_newE (K := nI pn) (L := nI qn) (W := W) (T := T) (Fa := p2) (F := M 11 (12 * k + i)) (sec := 4) (ft := 1) J hk hg h6 hi hi12 (Or.inr rfl) ?_ ?_ ?_ ?_ ?_ ?_ (fun j => ?_) (fun j => ?_) (fun j => ?_) (fun j => ?_) (fun j => ?_) (fun j => ?_) (fun j => ?_) (fun j => ?_) ?_ ?_ ?_ ?_ ?_ (fun r h0 h1 h2 h3 h4 => ?_) ?_ ?_ ?_ ?_ ?_ ?_ ?_ ?_ ?_ ?_ (fun j => ?_) ?_ ?_ ?_ ?_ ?_ ?_ (fun r hr j => ?_)
  · simp [up2]
  · simp [up2]
  · simp [up2]
  · simp [up2]
  · simp [up2]
  · funext j
    simp [up2]
  · simp [up2]
  · simp [up2]
  · simp [up2]
  · simp [up2]
  · by_cases e : j = 12 * k + i
    · subst e
      simp [up2]
    · simp [up2, e]
  · simp [up2]
  · simp [up2]
  · simp [up2]
  · funext j
    simp [up2]
  · funext j
    simp [up2]
  · funext j
    simp [up2]
  · funext j
    simp [up2]
  · exact Or.inl ⟨pn, qn, by omega, qn1, qn2, by simp [up2], by simp [up2]⟩
  · funext j
    split <;> simp [up2, h0, h1, ro _ _ _ _ _ _ r j h2 h3 h4]
  · split <;> simp [up2, rk]
  · split <;> simp [up2, rk]
  · split <;> simp [up2, rk]
  · split <;> simp [up2, rk]
  · split <;> simp [up2, rk]
  · split <;> simp [up2, rk]
  · split <;> simp [up2, rk]
  · rw [if_neg hK]
    split <;> simp [up2, rk]
  · split <;> simp [up2, rk]
  · rw [if_neg hK]
    split <;> simp [up2, rk]
  · split <;> simp [up2, rl, d1]
  · split <;> simp [up2, mkE_e, d3, d4, six]
  · split <;> simp [up2, mkE_e, d3, d4, six]
  · split <;> simp [up2, mkE_e, d3, d4, six]
  · split <;> simp [up2, mkE_e, d3, d4, six]
  · split <;> simp [up2, mkE_e, d3, d4, six]
  · rw [if_neg hK, hQ]
    split <;> simp [up2, mkE_e, d3, d4, six]
  · have d5 : ¬ r = 40 + k := by
      unfold rV at hr
      omega
    have d6 : ¬ r = 52 + k := by
      unfold rV at hr
      omega
    split <;> simp [up2, d5, d6, mkE_v hr (by omega)]
theorem J_jump {C M : Nat → Nat → Int32} (J : JJ C M) (p0 p1 p2 : Int32) : Ans C [0, 2, 3] codC (t_X4_jump C p0 p1 p2 (nE M (M 0 2).toNatClampNeg)) (f_X4_jump C p0 p1 p2 (nE M (M 0 2).toNatClampNeg)) (g_X4_jump C p0 p1 p2 (nE M (M 0 2).toNatClampNeg)) (f_X5_jump M p0 p1 p2 (M 0 2).toNatClampNeg (nE M (M 0 2).toNatClampNeg)) (g_X5_jump M p0 p1 p2 (M 0 2).toNatClampNeg (nE M (M 0 2).toNatClampNeg)) := by
  unfold t_X4_jump f_X4_jump g_X4_jump f_X5_jump g_X5_jump
  rw [isIn_eq, isIn_eq, J.ro.2.1, opn_th, off_th]
  by_cases a : f_X5_in p0 0 5 = 0
  · simp only [if_pos a]
    exact Ans.no J (by decide) (by decide) rfl
  · simp only [if_neg a]
    by_cases b : f_X5_in p1 1 4 = 0
    · simp only [if_pos b]
      exact Ans.no J (by decide) (by decide) rfl
    · simp only [if_neg b]
      by_cases c : M 0 2 = (-1)
      · simp only [if_pos c, if_pos (closed c)]
        exact Ans.no (JJ_sr (sr_th M 0) J) (by decide) (by decide) rfl
      · obtain ⟨g1, g2, g3⟩ := J.gk c
        have hk12 := J.lt g2
        simp only [if_neg c]
        rw [J.rest c]
        by_cases o : f_X5_isOpen M = 0
        · simp only [if_pos o, if_true]
          exact Ans.no (JJ_sr (sr_th M 0) J) (by decide) (by decide) rfl
        · simp only [if_neg o]
          generalize (M 0 2).toNatClampNeg = k at g1 g2 g3 hk12 ⊢
          by_cases r : 12 ≤ nI (nE M k)
          · simp only [if_pos r, if_true]
            exact Ans.no (JJ_sr (sr_th M 0) J) (by decide) (by decide) rfl
          · have hi12 : nE M k < 12 := by
              have h1 := (J.cnt hk12).2
              have h2 : ¬ 12 ≤ nE M k := fun z => r ((nI_leI (a := 12) (by decide) (by omega)).mpr z)
              omega
            obtain ⟨b4, b5, b6⟩ := (J.rp g2).1.2.2.2.2.2 g1
            simp only [if_neg r, if_neg (show ¬ (1 : Int32) = 0 by decide)]
            rw [off_eq b4 b5 b6 J.1.1.2.2.1 J.1.1.2.2.2.1 J.1.1.2.2.2.2 a]
            by_cases w : f_X5_canTakeOff M p0 = 0
            · simp only [if_pos w]
              exact Ans.no (JJ_sr (sr_th M 0) J) (by decide) (by decide) rfl
            · simp only [if_neg w]
              refine ⟨by decide, by simp [up2, codC], fun _ => ⟨?_, JJ_jumpC J g2 g1 g3 rfl hi12 a b w⟩, fun z => absurd rfl z⟩
              unfold f_X2_skateJump f_X2_add
              rw [nI_pred, ite_self]
