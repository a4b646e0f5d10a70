/-! THE BRIDGE: the calls that change something. First: values -/
theorem nE_of {M M' : Nat → Nat → Int32} (h : M' 8 = M 8) (k : Nat) : nE M' k = nE M k := by
  unfold nE
  rw [h]
theorem nS_of {M M' : Nat → Nat → Int32} (h : M' 0 1 = M 0 1) : nS M' = nS M := by
  unfold nS
  rw [h]
theorem RPc_M {C M M' : Nat → Nat → Int32} {k : Nat} (h8 : M' 8 = M 8) (h9 : M' 9 = M 9) (h10 : M' 10 = M 10) (h11 : M' 11 = M 11) (h15 : M' 15 = M 15) (q : RPc C M k) : RPc C M' k := by
  unfold RPc at q ⊢
  rw [nE_of h8, h9, h10, h11, h15]
  exact q
theorem RPv_M {C M M' : Nat → Nat → Int32} {k : Nat} (h17 : M' 17 = M 17) (q : RPv C M k) : RPv C M' k := by
  unfold RPv tP at q ⊢
  rw [h17]
  exact q
theorem RE_M {C M M' : Nat → Nat → Int32} {k i : Nat} (h9 : M' 9 = M 9) (h10 : M' 10 = M 10) (h12 : M' 12 = M 12) (h13 : M' 13 = M 13) (h14 : M' 14 = M 14) (h15 : M' 15 = M 15) (h16 : M' 16 = M 16) (q : RE C M k i) : RE C M' k i := by
  unfold RE tC tGr at q ⊢
  rw [h9, h10, h12, h13, h14, h15, h16]
  exact q
theorem RV_M {C M M' : Nat → Nat → Int32} (h18 : M' 18 = M 18) (q : RV C M) : RV C M' := by
  unfold RV at q ⊢
  rw [h18]
  exact q
theorem IMe_M {M M' : Nat → Nat → Int32} (h8 : M' 8 = M 8) (h9 : M' 9 = M 9) (h10 : M' 10 = M 10) (h11 : M' 11 = M 11) (h12 : M' 12 = M 12) (h13 : M' 13 = M 13) (h14 : M' 14 = M 14) (h15 : M' 15 = M 15) (h16 : M' 16 = M 16) (q : IMe M) : IMe M' := by
  intro k i hk hi
  unfold okE noE
  rw [nE_of h8, h9, h10, h11, h12, h13, h14, h15, h16]
  exact q k i hk hi
theorem IMn_M {M M' : Nat → Nat → Int32} (h12 : M' 12 = M 12) (h16 : M' 16 = M 16) (h17 : M' 17 = M 17) (h18 : M' 18 = M 18) (q : IMn M) : IMn M' := by
  unfold IMn at q ⊢
  rw [h12, h16, h17, h18]
  exact q
/-- what stands aside from foot, edge, way, state and seconds stays -/
theorem JJ_move {C C' M M' : Nat → Nat → Int32} (J : JJ C M) (hM : ∀ a, 8 ≤ a → M' a = M a) (h1 : M' 0 1 = M 0 1) (hC : ∀ r, ¬ r = 0 → ¬ (40 ≤ r ∧ r < 52) → C' r = C r) (hc : ∀ k, k < nS M → ∀ j, 9 ≤ j → C' (40 + k) j = C (40 + k) j)
    (ho : IMo M') (hp : ∀ k, k < 12 → (M' 6 k = 0 ∨ M' 6 k = 1 ∨ M' 6 k = 2) ∧ (nS M ≤ k → M' 6 k = 0 ∧ M' 7 k = 0)) (hr : RO C' M') (hs : ∀ k, k < nS M → RPs C' M' k) : JJ C' M' := by
  have h8 : M' 8 = M 8 := hM 8 (by decide)
  have h9 : M' 9 = M 9 := hM 9 (by decide)
  have h10 : M' 10 = M 10 := hM 10 (by decide)
  have h11 : M' 11 = M 11 := hM 11 (by decide)
  have h12 : M' 12 = M 12 := hM 12 (by decide)
  have h13 : M' 13 = M 13 := hM 13 (by decide)
  have h14 : M' 14 = M 14 := hM 14 (by decide)
  have h15 : M' 15 = M 15 := hM 15 (by decide)
  have h16 : M' 16 = M 16 := hM 16 (by decide)
  have h17 : M' 17 = M 17 := hM 17 (by decide)
  have h18 : M' 18 = M 18 := hM 18 (by decide)
  have hS := nS_of h1
  refine ⟨⟨ho, fun k hk => ?_, IMe_M h8 h9 h10 h11 h12 h13 h14 h15 h16 J.1.2.2.1, IMn_M h12 h16 h17 h18 J.1.2.2.2⟩, hr, RV_M h18 (RV_congr (fun d hd => hC _ (by omega) (by omega)) J.rv), fun k hk => ?_, fun k i hk hi => ?_⟩
  · obtain ⟨a, b⟩ := hp k hk
    rw [nE_of h8, hS, h8]
    refine ⟨J.cnt hk, a, fun q => ?_⟩
    obtain ⟨c1, c2, c3, c4⟩ := J.none hk q
    refine ⟨c1, (b q).1, (b q).2, ?_⟩
    unfold tP at c4 ⊢
    rw [h17]
    exact c4
  · rw [hS] at hk
    obtain ⟨q1, q2, q3⟩ := J.rp hk
    have h12 := J.lt hk
    refine ⟨hs k hk, RPc_M h8 h9 h10 h11 h15 ?_, RPv_M h17 (fun j hj => VR_congr (fun r hr => hC r (by unfold rV at hr; omega) (by unfold rV at hr; omega)) (q3 j hj))⟩
    unfold RPc at q2 ⊢
    rw [hc k hk 9 (by decide), hc k hk 10 (by decide), hc k hk 11 (by decide), hC (52 + k) (by omega) (by omega), hC (64 + k) (by omega) (by omega)]
    exact q2
  · rw [hS] at hk
    rw [nE_of h8] at hi
    exact RE_M h9 h10 h12 h13 h14 h15 h16 (RE_congr (hC _ (by omega) (by omega)) (fun r hr => hC r (by unfold rV at hr; omega) (by unfold rV at hr; omega)) (fun r hr => hC r (by unfold rV at hr; omega) (by unfold rV at hr; omega)) (J.re hk hi))
theorem in_rg {p : Int32} {n : Nat} (hn : n < 2 ^ 31) : ¬ f_X5_in p 0 (nI n) = 0 ↔ ∃ i, i ≤ n ∧ p = nI i := by
  constructor
  · intro h
    obtain ⟨a, b⟩ := in_nat hn h
    exact ⟨_, b, a⟩
  · rintro ⟨i, hi, rfl⟩
    unfold f_X5_in
    rw [if_neg (nI_pos (by omega)), if_neg (fun z => by
      have := (nI_ltI (by omega) (by omega)).mp z
      omega)]
    decide
theorem in1_4 {p : Int32} : ¬ f_X5_in p 1 4 = 0 ↔ ∃ i, 1 ≤ i ∧ i ≤ 4 ∧ p = nI i := by
  unfold f_X5_in
  constructor
  · intro h
    by_cases a : p < 1
    · rw [if_pos a] at h
      exact absurd rfl h
    · rw [if_neg a] at h
      by_cases b : 4 < p
      · rw [if_pos b] at h
        exact absurd rfl h
      · rw [Int32.lt_iff_toInt_lt] at a b
        rw [show (1 : Int32).toInt = 1 from rfl] at a
        rw [show (4 : Int32).toInt = 4 from rfl] at b
        refine ⟨p.toInt.toNat, by omega, by omega, Int32.toInt_inj.mp ?_⟩
        rw [nI_toInt (by omega)]
        omega
  · rintro ⟨i, h1, h4, rfl⟩
    rw [if_neg (fun z => by
      have := (nI_ltI (b := 1) (by omega) (by decide)).mp z
      omega), if_neg (fun z => by
      have := (nI_ltI (a := 4) (by decide) (by omega)).mp z
      omega)]
    decide
theorem in_01 (p lo hi : Int32) : f_X5_in p lo hi = 0 ∨ f_X5_in p lo hi = 1 := by
  unfold f_X5_in
  split
  · exact Or.inl rfl
  · split
    · exact Or.inl rfl
    · exact Or.inr rfl
/-- which values can be told -/
theorem hasV (p1 p2 : Int32) : (¬ f_X0_hasValue p1 p2 = 0 ↔ (¬ f_X5_in p1 0 6 = 0 ∧ ¬ f_X5_in p2 (if p1 = 6 then 0 else 1) 4 = 0)) ∧ (¬ f_X0_hasValue p1 p2 = 0 → ∃ p q : Nat, p1 = nI p ∧ p2 = nI q ∧ q ≤ 4 ∧ ((p < 6 ∧ 1 ≤ q) ∨ p = 6)) := by
  unfold f_X0_hasValue
  rw [isIn_eq, isIn_eq, isIn_eq]
  by_cases h : p1 = 6
  · subst h
    rw [if_pos rfl, if_pos rfl]
    refine ⟨⟨fun z => ⟨by decide, z⟩, fun z => z.2⟩, fun z => ?_⟩
    obtain ⟨q, h1, h2⟩ := (in_rg (n := 4) (by decide)).mp z
    exact ⟨6, q, rfl, h2, h1, Or.inr rfl⟩
  · rw [if_neg h, if_neg h]
    have k : ¬ f_X5_in p1 0 5 = 0 ↔ ¬ f_X5_in p1 0 6 = 0 := by
      rw [show ¬ f_X5_in p1 0 5 = 0 ↔ _ from in_rg (n := 5) (by decide), show ¬ f_X5_in p1 0 6 = 0 ↔ _ from in_rg (n := 6) (by decide)]
      constructor
      · rintro ⟨i, h1, h2⟩
        exact ⟨i, by omega, h2⟩
      · rintro ⟨i, h1, h2⟩
        refine ⟨i, ?_, h2⟩
        by_cases z : i = 6
        · subst z
          exact absurd h2 h
        · omega
    by_cases a : f_X5_in p1 0 5 = 0
    · rw [if_pos a]
      exact ⟨⟨fun z => absurd rfl z, fun z => absurd a (k.mpr z.1)⟩, fun z => absurd rfl z⟩
    · rw [if_neg a]
      by_cases b : f_X5_in p2 1 4 = 0
      · rw [if_pos b]
        exact ⟨⟨fun z => absurd rfl z, fun z => absurd b z.2⟩, fun z => absurd rfl z⟩
      · rw [if_neg b]
        refine ⟨⟨fun _ => ⟨k.mp a, b⟩, fun _ => by decide⟩, fun _ => ?_⟩
        obtain ⟨i, i1, i2⟩ := (in_rg (n := 5) (by decide)).mp a
        obtain ⟨q, q1, q2, q3⟩ := in1_4.mp b
        exact ⟨i, q, i2, q3, q2, Or.inl ⟨by omega, q1⟩⟩
theorem place_C (C : Nat → Nat → Int32) (d p q : Nat) (v : Int32) (hp : p ≤ 6) (hq : q < 5) : f_X0_replace C d (nI p) (nI q) v = C (33 + d) (5 * p + q) ∧ g_X0_replace C d (nI p) (nI q) v = up2 C (33 + d) (5 * p + q) v := by
  unfold f_X0_replace g_X0_replace
  rw [show (5 : Int32) = nI 5 from rfl, pk_mul, nI_add, if_neg (nI_pos (by omega)), if_neg (nI_pos (by omega)), if_pos (show nI (p * 5 + q) < 35 from (nI_ltI (b := 35) (by omega) (by decide)).mpr (by omega)), if_pos (show nI (p * 5 + q) < 35 from (nI_ltI (b := 35) (by omega) (by decide)).mpr (by omega)), nI_clamp (by omega), Nat.mul_comm p 5]
  exact ⟨rfl, rfl⟩
/-- one value of one edition changes -/
theorem JJ_val {C M : Nat → Nat → Int32} (J : JJ C M) {d p q : Nat} {v : Int32} (hd : d < 3) (hq : q ≤ 4) (h : (p < 6 ∧ 1 ≤ q) ∨ p = 6) (hv : 0 ≤ v ∧ v ≤ 9999) (x : Nat) (hx : x = if p = 6 then 29 * d + (24 + q) else 29 * d + (4 * p + q - 1)) : C (33 + d) (5 * p + q) = M 18 x ∧ JJ (up2 C (33 + d) (5 * p + q) v) (up2 M 18 x v) := by
  have hM : ∀ a, a ≠ 18 → up2 M 18 x v a = M a := fun a h => up2_ne _ _ _ h
  have hC : ∀ a, a ≠ 33 + d → up2 C (33 + d) (5 * p + q) v a = C a := fun a h => up2_ne _ _ _ h
  have h0 := hM 0 (by decide)
  have h6 := hM 6 (by decide)
  have h7 := hM 7 (by decide)
  have h8 := hM 8 (by decide)
  have h9 := hM 9 (by decide)
  have h10 := hM 10 (by decide)
  have h11 := hM 11 (by decide)
  have h12 := hM 12 (by decide)
  have h13 := hM 13 (by decide)
  have h14 := hM 14 (by decide)
  have h15 := hM 15 (by decide)
  have h16 := hM 16 (by decide)
  have h17 := hM 17 (by decide)
  have hS : nS (up2 M 18 x v) = nS M := nS_of (by rw [h0])
  refine ⟨?_, ⟨?_, ?_, IMe_M h8 h9 h10 h11 h12 h13 h14 h15 h16 J.1.2.2.1, ?_⟩, ?_, ?_, fun k hk => ?_, fun k i hk hi => ?_⟩
  · rcases h with ⟨h1, h2⟩ | h1
    · rw [(J.rv d hd).1 p q h1 (by omega), if_neg (by omega), hx, if_neg (by omega)]
    · subst h1
      rw [if_pos rfl] at hx
      rw [show 5 * 6 + q = 30 + q from rfl, (J.rv d hd).2 q (by omega), hx]
  · have := J.1.1
    unfold IMo at this ⊢
    rw [h0, h6, hS]
    exact this
  · intro k hk
    have := J.1.2.1 k hk
    unfold tP at this ⊢
    rw [h6, h7, h8, h17, nE_of h8, hS]
    exact this
  · obtain ⟨i1, i2, i3, i4⟩ := J.1.2.2.2
    unfold IMn
    rw [h12, h16, h17]
    refine ⟨i1, i2, i3, fun n hn => ?_⟩
    unfold up2
    split
    · exact hv
    · exact i4 n hn
  · have := J.ro
    unfold RO at this ⊢
    rw [hC 0 (by omega), hC 1 (by omega), hC 2 (by omega), h0, hS]
    exact this
  · intro d2 hd2
    obtain ⟨r1, r2⟩ := J.rv d2 hd2
    unfold up2
    refine ⟨fun p2 t2 hp2 ht2 => ?_, fun t2 ht2 => ?_⟩
    · rw [r1 p2 t2 hp2 ht2]
      by_cases e : d2 = d ∧ 5 * p2 + t2 = 5 * p + q
      · obtain ⟨rfl, e2⟩ := e
        rw [if_pos ⟨rfl, e2⟩]
        rcases h with ⟨h1, h2⟩ | h1
        · have e3 : p2 = p ∧ t2 = q := by omega
          obtain ⟨rfl, rfl⟩ := e3
          rw [if_neg (by omega), if_pos ⟨rfl, by rw [hx, if_neg (by omega)]⟩]
        · omega
      · rw [if_neg (fun z => e ⟨by omega, z.2⟩)]
        by_cases t0 : t2 = 0
        · rw [if_pos t0, if_pos t0]
        · rw [if_neg t0, if_neg t0, if_neg (fun z => by
            have z2 := z.2
            rw [hx] at z2
            split at z2 <;> omega)]
    · rw [r2 t2 ht2]
      by_cases e : d2 = d ∧ 30 + t2 = 5 * p + q
      · obtain ⟨rfl, e2⟩ := e
        rw [if_pos ⟨rfl, e2⟩]
        rcases h with ⟨h1, h2⟩ | h1
        · omega
        · rw [if_pos ⟨rfl, by rw [hx, if_pos h1]; omega⟩]
      · rw [if_neg (fun z => e ⟨by omega, z.2⟩), if_neg (fun z => by
          have z2 := z.2
          rw [hx] at z2
          split at z2 <;> omega)]
  · rw [hS] at hk
    have hk12 := J.lt hk
    obtain ⟨q1, q2, q3⟩ := RP_congr (C' := up2 C (33 + d) (5 * p + q) v) (hC (40 + k) (by omega)) (hC (52 + k) (by omega)) (hC (64 + k) (by omega)) (fun j hj r hr => hC r (by unfold rV at hr; omega)) (J.rp hk)
    refine ⟨?_, RPc_M h8 h9 h10 h11 h15 q2, RPv_M h17 q3⟩
    unfold RPs at q1 ⊢
    rw [h0, h6, h7, h8]
    exact q1
  · rw [hS] at hk
    rw [nE_of h8] at hi
    have hk12 := J.lt hk
    have hi12 := (J.cnt hk12).2
    exact RE_M h9 h10 h12 h13 h14 h15 h16 (RE_congr (hC _ (by omega)) (fun r hr => hC r (by unfold rV at hr; omega)) (fun r hr => hC r (by unfold rV at hr; omega)) (J.re hk hi))
theorem in_9999 {p : Int32} (h : ¬ f_X5_in p 0 9999 = 0) : 0 ≤ p ∧ p ≤ 9999 := by
  unfold f_X5_in at h
  by_cases a : p < 0
  · rw [if_pos a] at h
    exact absurd rfl h
  · rw [if_neg a] at h
    by_cases b : 9999 < p
    · rw [if_pos b] at h
      exact absurd rfl h
    · exact ⟨Int32.not_lt.mp a, Int32.not_lt.mp b⟩
theorem vAt {d p q : Nat} (h : (p < 6 ∧ 1 ≤ q) ∨ p = 6) : f_X5_valueAt (nI d) (nI p) (nI q) = nI (if p = 6 then 29 * d + (24 + q) else 29 * d + (4 * p + q - 1)) := by
  rcases h with ⟨h1, h2⟩ | h1
  · rw [if_neg (by omega), vt_at d p q h1 h2]
  · subst h1
    rw [if_pos rfl]
    exact vt_at6 d q
theorem J_value {C M : Nat → Nat → Int32} (J : JJ C M) (p0 p1 p2 p3 : Int32) : Ans C [0, 2] codA (t_X4_value C p0 p1 p2 p3) (f_X4_value C p0 p1 p2 p3) (g_X4_value C p0 p1 p2 p3) (f_X5_value M p0 p1 p2 p3) (g_X5_value M p0 p1 p2 p3) := by
  unfold t_X4_value f_X4_value g_X4_value f_X5_value g_X5_value
  rw [J.ed p0, isIn_eq]
  by_cases c : f_X5_in p0 0 2 = 0
  · rw [if_pos c, if_pos c, if_pos c, if_pos c, if_pos c]
    exact Ans.no J (by decide) (by decide) rfl
  · obtain ⟨c1, c2⟩ := in2 c
    rw [if_neg c, if_neg c, if_neg c, if_neg c, if_neg c]
    obtain ⟨v1, v2⟩ := hasV p1 p2
    by_cases b : f_X0_hasValue p1 p2 = 0
    · rw [if_pos b, if_pos b, if_pos b]
      have nb : ¬ (¬ f_X5_in p1 0 6 = 0 ∧ ¬ f_X5_in p2 (if p1 = 6 then 0 else 1) 4 = 0) := fun z => (v1.mpr z) b
      by_cases e : f_X5_in p1 0 6 = 0
      · rw [if_pos e, if_pos e]
        exact Ans.no J (by decide) (by decide) rfl
      · rw [if_neg e, if_neg e]
        by_cases g : f_X5_in p2 (if p1 = 6 then 0 else 1) 4 = 0
        · rw [if_pos g, if_pos g]
          exact Ans.no J (by decide) (by decide) rfl
        · exact absurd ⟨e, g⟩ nb
    · obtain ⟨e, g⟩ := v1.mp b
      obtain ⟨p, q, hp, hq, hq4, hpq⟩ := v2 b
      rw [if_neg b, if_neg b, if_neg b, if_neg e, if_neg e, if_neg g, if_neg g]
      by_cases w : f_X5_in p3 0 9999 = 0
      · rw [if_pos w, if_pos w, if_pos w, if_pos w, if_pos w]
        exact Ans.no J (by decide) (by decide) rfl
      · rw [if_neg w, if_neg w, if_neg w, if_neg w, if_neg w]
        have hx : (f_X5_valueAt p0 p1 p2).toNatClampNeg = if p = 6 then 29 * p0.toNatClampNeg + (24 + q) else 29 * p0.toNatClampNeg + (4 * p + q - 1) := by
          rw [c1, hp, hq, vAt hpq, nI_clamp (by split <;> omega), nI_clamp (by omega)]
        obtain ⟨k1, k2⟩ := JJ_val (JJ_sr (sr_th M 0) J) (p := p) c2 hq4 hpq (in_9999 w) _ hx
        obtain ⟨r1, r2⟩ := place_C C p0.toNatClampNeg p q p3 (by omega) (by omega)
        rw [hp, hq] at k1 k2 ⊢
        rw [r1, r2]
        refine ⟨by decide, ?_, fun _ => ⟨k1, k2⟩, fun z => absurd rfl z⟩
        rw [up2_ne _ _ _ (by decide), up2_at]
        rfl
