/-! p18: turn, jump, spin -/
def tF (p a : Int32) : Int32 := if (if p = 2 then 1 else (if p = 3 then 1 else (if p = 5 then 1 else 0 : Int32) : Int32) : Int32) = 0 then a else 1 - a
def tG (p a : Int32) : Int32 := if (if p = 0 then 1 else (if p = 3 then 1 else (if p = 4 then 1 else 0 : Int32) : Int32) : Int32) = 0 then a else 1 - a
def tW (p a : Int32) : Int32 := if (if 4 ≤ p then 0 else 1 : Int32) = 0 then a else 1 - a
theorem turn_f {C : Nat → Nat → Int32} {k q : Nat} (hq : q < 6) : f_X2_skateTurn C k (nI q) = 4 * tF (nI q) (C (40 + k) 4) + 2 * tG (nI q) (C (40 + k) 5) + tW (nI q) (C (40 + k) 6) := by
  rcases in05 hq with e | e | e | e | e | e <;> rw [e] <;> rfl
theorem turn_r {C : Nat → Nat → Int32} {k r : Nat} {p : Int32} (h : r ≠ 40 + k) : g_X2_skateTurn C k p r = C r := by
  unfold g_X2_skateTurn
  repeat' split
  all_goals (repeat (rw [up2_ne _ _ _ h]))
theorem turn_g {C : Nat → Nat → Int32} {k q : Nat} (hq : q < 6) : g_X2_skateTurn C k (nI q) (40 + k) 4 = tF (nI q) (C (40 + k) 4) ∧ g_X2_skateTurn C k (nI q) (40 + k) 5 = tG (nI q) (C (40 + k) 5) ∧ g_X2_skateTurn C k (nI q) (40 + k) 6 = tW (nI q) (C (40 + k) 6) ∧ g_X2_skateTurn C k (nI q) (40 + k) 7 = C (40 + k) 7 + 2 ∧ ∀ j, j ≠ 4 → j ≠ 5 → j ≠ 6 → j ≠ 7 → g_X2_skateTurn C k (nI q) (40 + k) j = C (40 + k) j := by
  rcases in05 hq with e | e | e | e | e | e <;> rw [e]
  · rw [show g_X2_skateTurn C k 0 = up2 (up2 (up2 C (40 + k) 5 (1 - C (40 + k) 5)) (40 + k) 6 (1 - C (40 + k) 6)) (40 + k) 7 (C (40 + k) 7 + 2) from rfl]
    refine ⟨?_, ?_, ?_, ?_, fun j h4 h5 h6 h7 => ?_⟩ <;> repeat (first | rfl | rw [up2_at] | rw [up2_nj _ _ (by assumption)] | rw [up2_nj _ _ (by decide)])
  · rw [show g_X2_skateTurn C k 1 = up2 (up2 C (40 + k) 6 (1 - C (40 + k) 6)) (40 + k) 7 (C (40 + k) 7 + 2) from rfl]
    refine ⟨?_, ?_, ?_, ?_, fun j h4 h5 h6 h7 => ?_⟩ <;> repeat (first | rfl | rw [up2_at] | rw [up2_nj _ _ (by assumption)] | rw [up2_nj _ _ (by decide)])
  · rw [show g_X2_skateTurn C k 2 = up2 (up2 (up2 C (40 + k) 4 (1 - C (40 + k) 4)) (40 + k) 6 (1 - C (40 + k) 6)) (40 + k) 7 (C (40 + k) 7 + 2) from rfl]
    refine ⟨?_, ?_, ?_, ?_, fun j h4 h5 h6 h7 => ?_⟩ <;> repeat (first | rfl | rw [up2_at] | rw [up2_nj _ _ (by assumption)] | rw [up2_nj _ _ (by decide)])
  · rw [show g_X2_skateTurn C k 3 = up2 (up2 (up2 (up2 C (40 + k) 4 (1 - C (40 + k) 4)) (40 + k) 5 (1 - C (40 + k) 5)) (40 + k) 6 (1 - C (40 + k) 6)) (40 + k) 7 (C (40 + k) 7 + 2) from rfl]
    refine ⟨?_, ?_, ?_, ?_, fun j h4 h5 h6 h7 => ?_⟩ <;> repeat (first | rfl | rw [up2_at] | rw [up2_nj _ _ (by assumption)] | rw [up2_nj _ _ (by decide)])
  · rw [show g_X2_skateTurn C k 4 = up2 (up2 C (40 + k) 5 (1 - C (40 + k) 5)) (40 + k) 7 (C (40 + k) 7 + 2) from rfl]
    refine ⟨?_, ?_, ?_, ?_, fun j h4 h5 h6 h7 => ?_⟩ <;> repeat (first | rfl | rw [up2_at] | rw [up2_nj _ _ (by assumption)] | rw [up2_nj _ _ (by decide)])
  · rw [show g_X2_skateTurn C k 5 = up2 (up2 C (40 + k) 4 (1 - C (40 + k) 4)) (40 + k) 7 (C (40 + k) 7 + 2) from rfl]
    refine ⟨?_, ?_, ?_, ?_, fun j h4 h5 h6 h7 => ?_⟩ <;> repeat (first | rfl | rw [up2_at] | rw [up2_nj _ _ (by assumption)] | rw [up2_nj _ _ (by decide)])
section LVT
variable {S en : Nat} {cnt : Nat → Nat} {C C1 : Nat → Nat → Int32}
/-- time -/
theorem time_1 {k sec : Nat} (h : C (40 + k) 7 = nI sec) (h2 : sec < 240) : f_X2_hasTime C k = 1 := by
  unfold f_X2_hasTime
  rw [h, if_neg (show ¬ 240 ≤ nI sec from nI_ge (b := 240) h2 (by decide))]
theorem V_turn (V : LV S cnt en 1 C) {sec q : Nat} (hq : q < 6) (hs : C (40 + en) 7 = nI sec) (hs2 : sec < 240) : t_X4_turn C (nI q) = 0 ∧ f_X4_turn C (nI q) = 4 * tF (nI q) (C (40 + en) 4) + 2 * tG (nI q) (C (40 + en) 5) + tW (nI q) (C (40 + en) 6) ∧ LV S cnt en 1 (g_X4_turn C (nI q)) ∧ g_X4_turn C (nI q) (40 + en) 4 = tF (nI q) (C (40 + en) 4) ∧ g_X4_turn C (nI q) (40 + en) 5 = tG (nI q) (C (40 + en) 5) ∧ g_X4_turn C (nI q) (40 + en) 6 = tW (nI q) (C (40 + en) 6) ∧ g_X4_turn C (nI q) (40 + en) 7 = nI (sec + 2) := by
  have s12 := V.s12
  have hi : f_X4_isIn (nI q) 0 5 = 1 := isIn_n (m := 5) (by omega) (by decide)
  have hg : g_X4_turn C (nI q) = g_X2_skateTurn C en (nI q) := by
    unfold g_X4_turn
    rw [hi, if_neg one_n, if_neg V.on_n, V.on_c, time_1 hs hs2, if_neg one_n]
  obtain ⟨a1, a2, a3, a4, a5⟩ := turn_g (C := C) (k := en) hq
  refine ⟨?_, ?_, ?_, by rw [hg, a1], by rw [hg, a2], by rw [hg, a3], by rw [hg, a4, hs]; exact nI_add sec 2⟩
  · unfold t_X4_turn
    rw [hi, if_neg one_n, if_neg V.on_n, V.on_c, time_1 hs hs2, if_neg one_n]
  · unfold f_X4_turn
    rw [hi, if_neg one_n, if_neg V.on_n, V.on_c, time_1 hs hs2, if_neg one_n, turn_f hq]
  · rw [hg]
    have hk : ∀ k j, j ≠ 4 → j ≠ 5 → j ≠ 6 → j ≠ 7 → g_X2_skateTurn C en (nI q) (40 + k) j = C (40 + k) j := fun k j h4 h5 h6 h7 => by
      by_cases e : k = en
      · subst e
        exact a5 j h4 h5 h6 h7
      · rw [turn_r (by omega)]
    have h0 : g_X2_skateTurn C en (nI q) 0 = C 0 := turn_r (by omega)
    refine LV_pr V (by rw [h0]) (turn_r (by omega)) (turn_r (by omega)) (fun r h1 h2 => turn_r (by omega)) (fun k _ => ⟨hk k 8 (by decide) (by decide) (by decide) (by decide), hk k 9 (by decide) (by decide) (by decide) (by decide)⟩) V.eg V.g1 (by rw [h0]; exact V.c5) (fun k h => (hk k 2 (by decide) (by decide) (by decide) (by decide)).trans (V.f2 k h)) (fun k h => (hk k 3 (by decide) (by decide) (by decide) (by decide)).trans (V.f3 k h)) (fun k h h2 => ?_)
    rw [turn_r (by omega)]
    exact V.fr k h h2
/-- an element more -/
theorem LV_add (V : LV S cnt en 1 C) (hi : cnt en < 12) (hr : ∀ r, r < 300 → ¬ r = 40 + en → ¬ r = 52 + en → ¬ r = 80 + (12 * en + cnt en) → C1 r = C r) (h2 : C1 (40 + en) 2 = C (40 + en) 2) (h3 : C1 (40 + en) 3 = C (40 + en) 3) (h8 : C1 (40 + en) 8 = nI (cnt en + 1)) (h9 : C1 (40 + en) 9 = nI (cnt en + 1 - sb C1 en (cnt en + 1))) (h52 : ∀ j, C1 (52 + en) j = if j = cnt en then 1 else C (52 + en) j) (hc : isC C1 en (cnt en)) : LV S (fun k => if k = en then cnt en + 1 else cnt k) en 1 C1 := by
  have s12 := V.s12
  have hlt := V.on_lt
  have h0 : C1 0 = C 0 := hr 0 (by omega) (by omega) (by omega) (by omega)
  have hsb : ∀ k, k < S → ∀ i, i ≤ 12 → (k = en → i ≤ cnt en) → sb C1 k i = sb C k i := fun k hk i hi2 hi3 => sb_eq i (fun j hj => by rw [hr _ (by omega) (by omega) (by omega) (by omega)])
  have hkk : ∀ k, k < S → ¬ k = en → C1 (40 + k) = C (40 + k) := fun k hk e => hr _ (by omega) (by omega) (by omega) (by omega)
  refine ⟨V.s12, V.eg, V.g1, by rw [h0]; exact V.c4, by rw [h0]; exact V.c5, ?_, ?_, fun k hk => ?_, fun k hk => ?_, fun k hk i hi2 => ?_, fun k hk => ?_, fun k hk => ?_, fun k hk => ?_, fun k hk => ?_, fun k hk i hi2 => ?_, fun k hk hk2 => ?_⟩
  · rw [hr 1 (by omega) (by omega) (by omega) (by omega)]
    exact V.c1
  · rw [hr 2 (by omega) (by omega) (by omega) (by omega)]
    exact V.c2
  · dsimp only
    by_cases e : k = en
    · subst e
      rw [if_pos rfl, h8]
    · rw [if_neg e, hkk k hk e]
      exact V.c8 k hk
  · dsimp only
    by_cases e : k = en
    · rw [if_pos e]
      omega
    · rw [if_neg e]
      exact V.n12 k hk
  · dsimp only
    by_cases e : k = en
    · subst e
      rw [if_pos rfl, h52]
      by_cases q : i = cnt k
      · rw [if_pos q]
        exact ⟨fun _ => by omega, fun _ => one_n⟩
      · rw [if_neg q, V.c52 k hk i hi2]
        omega
    · rw [if_neg e, hr _ (by omega) (by omega) (by omega) (by omega)]
      exact V.c52 k hk i hi2
  · rw [hr _ (by omega) (by omega) (by omega) (by omega)]
    exact V.c64 k hk
  · by_cases e : k = en
    · subst e
      rw [h2]
      exact V.f2 k hk
    · rw [hkk k hk e]
      exact V.f2 k hk
  · by_cases e : k = en
    · subst e
      rw [h3]
      exact V.f3 k hk
    · rw [hkk k hk e]
      exact V.f3 k hk
  · dsimp only
    by_cases e : k = en
    · subst e
      rw [if_pos rfl, h9]
    · rw [if_neg e, hkk k hk e, hsb k hk _ (V.n12 k hk) (fun z => absurd z e)]
      exact V.jm k hk
  · dsimp only at hi2
    have n12 := V.n12 k hk
    by_cases e : k = en
    · subst e
      rw [if_pos rfl] at hi2
      by_cases q : i = cnt k
      · rw [q]
        exact hc
      · unfold isC
        rw [hr (80 + (12 * k + i)) (by omega) (by omega) (by omega) (by omega), hsb k hk i (by omega) (fun _ => by omega)]
        exact V.el k hk i (by omega)
    · rw [if_neg e] at hi2
      unfold isC
      rw [hr (80 + (12 * k + i)) (by omega) (by omega) (by omega) (by omega), hsb k hk i (by omega) (fun z => absurd z e)]
      exact V.el k hk i hi2
  · dsimp only
    rw [if_neg (by omega), hkk k hk (by omega)]
    exact V.fr k hk hk2
/-- what jump and spin make of the numbers -/
abbrev AddE (C C1 : Nat → Nat → Int32) (k i : Nat) (kd ct jp ft dt : Int32) : Prop :=
  (∀ r, r < 300 → ¬ r = 40 + k → ¬ r = 52 + k → ¬ r = 80 + (12 * k + i) → C1 r = C r) ∧ (C1 (40 + k) 2 = C (40 + k) 2) ∧ (C1 (40 + k) 3 = C (40 + k) 3) ∧ (C1 (40 + k) 4 = ft) ∧ (C1 (40 + k) 5 = 1) ∧ (C1 (40 + k) 6 = 1) ∧ (C1 (40 + k) 7 = C (40 + k) 7 + dt) ∧ (C1 (40 + k) 8 = nI (i + 1)) ∧ (C1 (40 + k) 9 = C (40 + k) 9 + jp) ∧ (∀ j, C1 (52 + k) j = if j = i then 1 else C (52 + k) j) ∧ (C1 (80 + (12 * k + i)) 0 = kd) ∧ (C1 (80 + (12 * k + i)) 5 = ct)
theorem AddE.ro {C C1 : Nat → Nat → Int32} {k i : Nat} {kd ct jp ft dt : Int32} (V : AddE C C1 k i kd ct jp ft dt) : ∀ r, r < 300 → ¬ r = 40 + k → ¬ r = 52 + k → ¬ r = 80 + (12 * k + i) → C1 r = C r := V.1
theorem AddE.p2 {C C1 : Nat → Nat → Int32} {k i : Nat} {kd ct jp ft dt : Int32} (V : AddE C C1 k i kd ct jp ft dt) : C1 (40 + k) 2 = C (40 + k) 2 := V.2.1
theorem AddE.p3 {C C1 : Nat → Nat → Int32} {k i : Nat} {kd ct jp ft dt : Int32} (V : AddE C C1 k i kd ct jp ft dt) : C1 (40 + k) 3 = C (40 + k) 3 := V.2.2.1
theorem AddE.p4 {C C1 : Nat → Nat → Int32} {k i : Nat} {kd ct jp ft dt : Int32} (V : AddE C C1 k i kd ct jp ft dt) : C1 (40 + k) 4 = ft := V.2.2.2.1
theorem AddE.p5 {C C1 : Nat → Nat → Int32} {k i : Nat} {kd ct jp ft dt : Int32} (V : AddE C C1 k i kd ct jp ft dt) : C1 (40 + k) 5 = 1 := V.2.2.2.2.1
theorem AddE.p6 {C C1 : Nat → Nat → Int32} {k i : Nat} {kd ct jp ft dt : Int32} (V : AddE C C1 k i kd ct jp ft dt) : C1 (40 + k) 6 = 1 := V.2.2.2.2.2.1
theorem AddE.p7 {C C1 : Nat → Nat → Int32} {k i : Nat} {kd ct jp ft dt : Int32} (V : AddE C C1 k i kd ct jp ft dt) : C1 (40 + k) 7 = C (40 + k) 7 + dt := V.2.2.2.2.2.2.1
theorem AddE.p8 {C C1 : Nat → Nat → Int32} {k i : Nat} {kd ct jp ft dt : Int32} (V : AddE C C1 k i kd ct jp ft dt) : C1 (40 + k) 8 = nI (i + 1) := V.2.2.2.2.2.2.2.1
theorem AddE.p9 {C C1 : Nat → Nat → Int32} {k i : Nat} {kd ct jp ft dt : Int32} (V : AddE C C1 k i kd ct jp ft dt) : C1 (40 + k) 9 = C (40 + k) 9 + jp := V.2.2.2.2.2.2.2.2.1
theorem AddE.l {C C1 : Nat → Nat → Int32} {k i : Nat} {kd ct jp ft dt : Int32} (V : AddE C C1 k i kd ct jp ft dt) : ∀ j, C1 (52 + k) j = if j = i then 1 else C (52 + k) j := V.2.2.2.2.2.2.2.2.2.1
theorem AddE.e0 {C C1 : Nat → Nat → Int32} {k i : Nat} {kd ct jp ft dt : Int32} (V : AddE C C1 k i kd ct jp ft dt) : C1 (80 + (12 * k + i)) 0 = kd := V.2.2.2.2.2.2.2.2.2.2.1
theorem AddE.e5 {C C1 : Nat → Nat → Int32} {k i : Nat} {kd ct jp ft dt : Int32} (V : AddE C C1 k i kd ct jp ft dt) : C1 (80 + (12 * k + i)) 5 = ct := V.2.2.2.2.2.2.2.2.2.2.2
theorem add_jump {k i : Nat} {p0 p1 p2 : Int32} (hk : k < 12) (hi : i < 12) : AddE C (g_X2_skateJump C k p0 p1 p2 i) k i p0 (if 7 ≤ C (40 + k) 9 then 0 else (if 2 ≤ f_X2_likeJumps C k p0 p1 then 0 else 1)) 1 1 4 := by
  unfold g_X2_skateJump
  generalize hE : mkE C (12 * k + i) p0 p1 (f_X2_isWrongEdge C k p0) ((if C (40 + k) 7 < 120 then 0 else 1) : Int32) p2 ((if 7 ≤ C (40 + k) 9 then 0 else ((if 2 ≤ f_X2_likeJumps C k p0 p1 then 0 else 1) : Int32)) : Int32) = E
  have d1 : ¬ 40 + k = 52 + k := by omega
  have d2 : ¬ 52 + k = 40 + k := by omega
  have d3 : ¬ 80 + (12 * k + i) = 40 + k := by omega
  have d4 : ¬ 80 + (12 * k + i) = 52 + k := by omega
  have e40 : E (40 + k) = C (40 + k) := by rw [← hE, mkE_ne (by omega) (by unfold rV; omega) (by unfold rV; omega)]
  have e52 : E (52 + k) = C (52 + k) := by rw [← hE, mkE_ne (by omega) (by unfold rV; omega) (by unfold rV; omega)]
  have e80 : E (80 + (12 * k + i)) = six p0 p1 (f_X2_isWrongEdge C k p0) ((if C (40 + k) 7 < 120 then 0 else 1) : Int32) p2 ((if 7 ≤ C (40 + k) 9 then 0 else ((if 2 ≤ f_X2_likeJumps C k p0 p1 then 0 else 1) : Int32)) : Int32) := by rw [← hE, mkE_e]
  have er : ∀ r, r < 300 → ¬ r = 40 + k → ¬ r = 52 + k → ¬ r = 80 + (12 * k + i) → E r = C r := fun r h1 h2 h3 h4 => by rw [← hE, mkE_ne h4 (by unfold rV; omega) (by unfold rV; omega)]
  split
  · refine ⟨fun r h1 h2 h3 h4 => ?_, ?_, ?_, ?_, ?_, ?_, ?_, ?_, ?_, fun j => ?_, ?_, ?_⟩
    · rw [up2_ne _ _ _ h2, up2_ne _ _ _ h2, up2_ne _ _ _ h2, up2_ne _ _ _ h2, up2_ne _ _ _ h2, up2_ne _ _ _ h2, up2_ne _ _ _ h3, er r h1 h2 h3 h4]
    all_goals simp [up2, d1, d2, d3, d4, e40, e52, e80, six]
  · refine ⟨fun r h1 h2 h3 h4 => ?_, ?_, ?_, ?_, ?_, ?_, ?_, ?_, ?_, fun j => ?_, ?_, ?_⟩
    · rw [up2_ne _ _ _ h2, up2_ne _ _ _ h2, up2_ne _ _ _ h2, up2_ne _ _ _ h2, up2_ne _ _ _ h2, up2_ne _ _ _ h2, up2_ne _ _ _ h2, up2_ne _ _ _ h3, er r h1 h2 h3 h4]
    all_goals simp [up2, d1, d2, d3, d4, e40, e52, e80, six]
theorem add_spin {k i : Nat} {p0 p1 : Int32} (hk : k < 12) (hi : i < 12) : AddE C (g_X2_skateSpin C k p0 p1 i) k i 6 (if 3 ≤ C (40 + k) 8 - C (40 + k) 9 then 0 else 1) 0 0 10 := by
  unfold g_X2_skateSpin
  generalize (if 6 ≤ p1 then (if 4 < f_J6_bitCount_0f7a4 (p0 &&& (C (40 + k) 11 ^^^ (-1))) then (4 : Int32) else f_J6_bitCount_0f7a4 (p0 &&& (C (40 + k) 11 ^^^ (-1)))) else 0) = L
  generalize hE : mkE C (12 * k + i) 6 L 0 0 0 ((if 3 ≤ C (40 + k) 8 - C (40 + k) 9 then 0 else 1) : Int32) = E
  have d1 : ¬ 40 + k = 52 + k := by omega
  have d2 : ¬ 52 + k = 40 + k := by omega
  have d3 : ¬ 80 + (12 * k + i) = 40 + k := by omega
  have d4 : ¬ 80 + (12 * k + i) = 52 + k := by omega
  have e40 : E (40 + k) = C (40 + k) := by rw [← hE, mkE_ne (by omega) (by unfold rV; omega) (by unfold rV; omega)]
  have e52 : E (52 + k) = C (52 + k) := by rw [← hE, mkE_ne (by omega) (by unfold rV; omega) (by unfold rV; omega)]
  have e80 : E (80 + (12 * k + i)) = six 6 L 0 0 0 ((if 3 ≤ C (40 + k) 8 - C (40 + k) 9 then 0 else 1) : Int32) := by rw [← hE, mkE_e]
  have er : ∀ r, r < 300 → ¬ r = 40 + k → ¬ r = 52 + k → ¬ r = 80 + (12 * k + i) → E r = C r := fun r h1 h2 h3 h4 => by rw [← hE, mkE_ne h4 (by unfold rV; omega) (by unfold rV; omega)]
  split
  · refine ⟨fun r h1 h2 h3 h4 => ?_, ?_, ?_, ?_, ?_, ?_, ?_, ?_, ?_, fun j => ?_, ?_, ?_⟩
    · rw [up2_ne _ _ _ h2, up2_ne _ _ _ h2, up2_ne _ _ _ h2, up2_ne _ _ _ h2, up2_ne _ _ _ h2, up2_ne _ _ _ h3, er r h1 h2 h3 h4]
    all_goals simp [up2, d1, d2, d3, d4, e40, e52, e80, six]
  · refine ⟨fun r h1 h2 h3 h4 => ?_, ?_, ?_, ?_, ?_, ?_, ?_, ?_, ?_, fun j => ?_, ?_, ?_⟩
    · rw [up2_ne _ _ _ h2, up2_ne _ _ _ h2, up2_ne _ _ _ h2, up2_ne _ _ _ h2, up2_ne _ _ _ h2, up2_ne _ _ _ h2, up2_ne _ _ _ h3, er r h1 h2 h3 h4]
    all_goals simp [up2, d1, d2, d3, d4, e40, e52, e80, six]
theorem room_1' {k sec n : Nat} (h : C (40 + k) 7 = nI sec) (h2 : sec < 240) (h8 : C (40 + k) 8 = nI n) (hn : n < 12) : f_X2_hasRoom C k = 1 := by
  unfold f_X2_hasRoom
  rw [time_1 h h2, if_neg one_n, h8, if_neg (show ¬ 12 ≤ nI n from nI_ge (b := 12) hn (by decide))]
/-- the number of an element -/
abbrev cx1 (cnt : Nat → Nat) (en : Nat) : Nat → Nat := fun k => if k = en then cnt en + 1 else cnt k
theorem V_jump (V : LV S cnt en 1 C) {sec q t : Nat} {p2 : Int32} (hq : q < 6) (ht1 : 1 ≤ t) (ht : t ≤ 4) (hn : cnt en < 12) (hs : C (40 + en) 7 = nI sec) (hs2 : sec < 240) (hc : ¬ f_X2_canTakeOff C en (nI q) = 0) : t_X4_jump C (nI q) (nI t) p2 (cnt en) = 0 ∧ f_X4_jump C (nI q) (nI t) p2 (cnt en) = nI (cnt en) ∧ LV S (cx1 cnt en) en 1 (g_X4_jump C (nI q) (nI t) p2 (cnt en)) ∧ g_X4_jump C (nI q) (nI t) p2 (cnt en) (40 + en) 4 = 1 ∧ g_X4_jump C (nI q) (nI t) p2 (cnt en) (40 + en) 5 = 1 ∧ g_X4_jump C (nI q) (nI t) p2 (cnt en) (40 + en) 6 = 1 ∧ g_X4_jump C (nI q) (nI t) p2 (cnt en) (40 + en) 7 = nI (sec + 4) ∧ ¬ g_X4_jump C (nI q) (nI t) p2 (cnt en) (80 + (12 * en + cnt en)) 0 = 6 := by
  have s12 := V.s12
  have hlt := V.on_lt
  have hi : f_X4_isIn (nI q) 0 5 = 1 := isIn_n (m := 5) (by omega) (by decide)
  have hi2 : f_X4_isIn (nI t) 1 4 = 1 := isIn_1 (m := 4) ht1 ht (by decide)
  have hr := room_1' hs hs2 (V.c8 en hlt) hn
  have hg : g_X4_jump C (nI q) (nI t) p2 (cnt en) = g_X2_skateJump C en (nI q) (nI t) p2 (cnt en) := by
    unfold g_X4_jump
    rw [hi, if_neg one_n, hi2, if_neg one_n, if_neg V.on_n, V.on_c, hr, if_neg one_n, if_neg hc]
  have A := add_jump (C := C) (k := en) (i := cnt en) (p0 := nI q) (p1 := nI t) (p2 := p2) (by omega) hn
  have h6 : ¬ nI q = 6 := by
    intro z
    have := (nI_eq (a := q) (b := 6) (by omega) (by decide)).mp z
    omega
  have hsl := sb_le C en (cnt en)
  have hsb : sb (g_X2_skateJump C en (nI q) (nI t) p2 (cnt en)) en (cnt en) = sb C en (cnt en) := sb_eq _ (fun j hj => by rw [A.ro _ (by omega) (by omega) (by omega) (by omega)])
  refine ⟨?_, ?_, ?_, by rw [hg]; exact A.p4, by rw [hg]; exact A.p5, by rw [hg]; exact A.p6, by rw [hg, A.p7, hs]; exact nI_add sec 4, by rw [hg, A.e0]; exact h6⟩
  · unfold t_X4_jump
    rw [hi, if_neg one_n, hi2, if_neg one_n, if_neg V.on_n, V.on_c, hr, if_neg one_n, if_neg hc]
  · unfold f_X4_jump
    rw [hi, if_neg one_n, hi2, if_neg one_n, if_neg V.on_n, V.on_c, hr, if_neg one_n, if_neg hc]
    unfold f_X2_skateJump f_X2_add
    rw [ite_self]
  · rw [hg]
    refine LV_add V hn A.ro A.p2 A.p3 A.p8 ?_ A.l ⟨fun z => ?_, fun _ h7 => ?_⟩
    · rw [A.p9, V.jm en hlt, sb, A.e0, if_neg h6, hsb, nI_1, show cnt en + 1 - sb C en (cnt en) = cnt en - sb C en (cnt en) + 1 by omega]
    · rw [A.e0] at z
      exact absurd z h6
    · rw [hsb] at h7
      rw [A.e5, V.jm en hlt, if_pos (show (7 : Int32) ≤ nI (cnt en - sb C en (cnt en)) from nI_le (a := 7) h7 (by omega))]
theorem V_spin (V : LV S cnt en 1 C) {sec f r : Nat} (hf : f < 64) (hr1 : 1 ≤ r) (hr2 : r ≤ 20) (hn : cnt en < 12) (hs : C (40 + en) 7 = nI sec) (hs2 : sec < 240) : t_X4_spin C (nI f) (nI r) (cnt en) = 0 ∧ f_X4_spin C (nI f) (nI r) (cnt en) = nI (cnt en) ∧ LV S (cx1 cnt en) en 1 (g_X4_spin C (nI f) (nI r) (cnt en)) ∧ g_X4_spin C (nI f) (nI r) (cnt en) (40 + en) 4 = 0 ∧ g_X4_spin C (nI f) (nI r) (cnt en) (40 + en) 5 = 1 ∧ g_X4_spin C (nI f) (nI r) (cnt en) (40 + en) 6 = 1 ∧ g_X4_spin C (nI f) (nI r) (cnt en) (40 + en) 7 = nI (sec + 10) := by
  have s12 := V.s12
  have hlt := V.on_lt
  have hi : f_X4_isIn (nI f) 0 63 = 1 := isIn_n (m := 63) (by omega) (by decide)
  have hi2 : f_X4_isIn (nI r) 1 20 = 1 := isIn_1 (m := 20) hr1 hr2 (by decide)
  have hr := room_1' hs hs2 (V.c8 en hlt) hn
  have hg : g_X4_spin C (nI f) (nI r) (cnt en) = g_X2_skateSpin C en (nI f) (nI r) (cnt en) := by
    unfold g_X4_spin
    rw [hi, if_neg one_n, hi2, if_neg one_n, if_neg V.on_n, V.on_c, hr, if_neg one_n]
  have A := add_spin (C := C) (k := en) (i := cnt en) (p0 := nI f) (p1 := nI r) (by omega) hn
  have hsl := sb_le C en (cnt en)
  have hsb : sb (g_X2_skateSpin C en (nI f) (nI r) (cnt en)) en (cnt en) = sb C en (cnt en) := sb_eq _ (fun j hj => by rw [A.ro _ (by omega) (by omega) (by omega) (by omega)])
  refine ⟨?_, ?_, ?_, by rw [hg]; exact A.p4, by rw [hg]; exact A.p5, by rw [hg]; exact A.p6, by rw [hg, A.p7, hs]; exact nI_add sec 10⟩
  · unfold t_X4_spin
    rw [hi, if_neg one_n, hi2, if_neg one_n, if_neg V.on_n, V.on_c, hr, if_neg one_n]
  · unfold f_X4_spin
    rw [hi, if_neg one_n, hi2, if_neg one_n, if_neg V.on_n, V.on_c, hr, if_neg one_n]
    unfold f_X2_skateSpin f_X2_add
    rw [ite_self]
  · rw [hg]
    refine LV_add V hn A.ro A.p2 A.p3 A.p8 ?_ A.l ⟨fun _ h3 => ?_, fun z => absurd A.e0 z⟩
    · rw [A.p9, V.jm en hlt, sb, A.e0, if_pos rfl, hsb, Int32.add_zero, show cnt en + 1 - (sb C en (cnt en) + 1) = cnt en - sb C en (cnt en) by omega]
    · rw [hsb] at h3
      rw [A.e5, V.jm en hlt, V.c8 en hlt, pk_sub (by omega), show cnt en - (cnt en - sb C en (cnt en)) = sb C en (cnt en) by omega, if_pos (show (3 : Int32) ≤ nI (sb C en (cnt en)) from nI_le (a := 3) h3 (by omega))]
/-! call, grade, component, value, addsUp -/
theorem V_call (V : LV S cnt en 1 C) {a e q : Nat} (ha : a < 3) (he : e < cnt en) (hq : q ≤ 4) (hk : ¬ C (80 + (12 * en + e)) 0 = 6) : t_X4_call C (nI a) (nI e) (nI q) = 0 ∧ co C (g_X4_call C (nI a) (nI e) (nI q)) := by
  have hlt := V.on_lt
  have n12 := V.n12 en hlt
  have hi : f_X4_isIn (nI a) 0 2 = 1 := isIn_n (m := 2) (by omega) (by decide)
  have hi2 : f_X4_isIn (nI q) 0 4 = 1 := isIn_n (m := 4) hq (by decide)
  refine ⟨?_, ?_⟩
  · unfold t_X4_call
    rw [if_neg V.on_n, V.on_c, V.elem hlt he, if_neg one_n, hi, if_neg one_n, hi2, if_neg one_n, nI_clamp (by omega), if_neg hk]
  · unfold g_X4_call
    repeat' split
    all_goals first | exact co_rf C | exact co_tell _ _ _ _
theorem V_grade (V : LV S cnt en 0 C) {j k e : Nat} {x : Int32} (hj : j < 7) (hk : k < en) (he : e < cnt k) (hx : f_X4_isIn x (-5) 5 = 1) : t_X4_grade C (nI j) (nI k) (nI e) x = 0 ∧ co C (g_X4_grade C (nI j) (nI k) (nI e) x) := by
  have heg := V.eg
  have s12 := V.s12
  have hi : f_X4_isIn (nI j) 0 6 = 1 := isIn_n (m := 6) (by omega) (by decide)
  have h3 : C (40 + k) 3 = 1 := (V.f3 k (by omega)).trans (if_pos hk)
  refine ⟨?_, ?_⟩
  · unfold t_X4_grade
    rw [V.prog (by omega), if_neg one_n, nI_clamp (n := k) (by omega), V.elem (by omega) he, if_neg one_n, hi, if_neg one_n, hx, if_neg one_n, h3, if_neg one_n]
  · unfold g_X4_grade
    repeat' split
    all_goals first | exact co_rf C | exact co_tell _ _ _ _
theorem V_component (V : LV S cnt en 0 C) {j k e x : Nat} (hj : j < 7) (hk : k < en) (he : e < 3) (hx : x ≤ 40) : t_X4_component C (nI j) (nI k) (nI e) (nI x) = 0 ∧ co C (g_X4_component C (nI j) (nI k) (nI e) (nI x)) := by
  have heg := V.eg
  have s12 := V.s12
  have hi : f_X4_isIn (nI j) 0 6 = 1 := isIn_n (m := 6) (by omega) (by decide)
  have hi2 : f_X4_isIn (nI x) 0 40 = 1 := isIn_n (m := 40) hx (by decide)
  have h3 : C (40 + k) 3 = 1 := (V.f3 k (by omega)).trans (if_pos hk)
  refine ⟨?_, ?_⟩
  · unfold t_X4_component
    rw [V.prog (by omega), if_neg one_n, nI_clamp (n := k) (by omega), V.comp (by omega) he, if_neg one_n, hi, if_neg one_n, hi2, if_neg one_n, h3, if_neg one_n]
  · unfold g_X4_component
    repeat' split
    all_goals first | exact co_rf C | exact co_tell _ _ _ _
theorem V_value {g : Nat} (V : LV S cnt en g C) {q t x : Nat} (hq : q < 6) (ht1 : 1 ≤ t) (ht : t ≤ 4) (hx : x ≤ 9999) : t_X4_value C 1 (nI q) (nI t) (nI x) = 0 ∧ co C (g_X4_value C 1 (nI q) (nI t) (nI x)) := by
  have hi : f_X4_isIn (nI x) 0 9999 = 1 := isIn_n (m := 9999) hx (by decide)
  have he : f_X4_editionAt C 1 = 1 := V.ed (d := 1) (by decide)
  have hv : f_X0_hasValue (nI q) (nI t) = 1 := by
    have h6 : ¬ nI q = 6 := by
      intro z
      have := (nI_eq (a := q) (b := 6) (by omega) (by decide)).mp z
      omega
    unfold f_X0_hasValue
    rw [if_neg h6, show f_X4_isIn (nI q) 0 5 = 1 from isIn_n (m := 5) (by omega) (by decide), if_neg one_n, show f_X4_isIn (nI t) 1 4 = 1 from isIn_1 (m := 4) ht1 ht (by decide), if_neg one_n]
  refine ⟨?_, ?_⟩
  · unfold t_X4_value
    rw [he, if_neg one_n, hv, if_neg one_n, hi, if_neg one_n]
  · have h1 : (1 : Int32).toNatClampNeg = 1 := by decide
    unfold g_X4_value g_X0_replace
    rw [h1]
    repeat' split
    all_goals first | exact co_rf C | exact fun r _ _ _ h => up2_ne _ _ _ (by omega)
end LVT
