/-! THE FIRST STATE -/
def C0 : Nat → Nat → Int32 := fun r i => if r = 0 then (if i = 5 then (-1) else 0) else if r = 2 then (if i < 3 then 1 else 0) else if 33 ≤ r ∧ r < 36 then fvI i else 0
theorem sets_ne (M : Nat → Nat → Int32) (ed row : Nat) (p2 p3 p4 p5 : Int32) {r : Nat} (h : r ≠ 18) : g_X5_sets M ed row p2 p3 p4 p5 r = M r := by
  unfold g_X5_sets
  rw [up2_ne _ _ _ h, up2_ne _ _ _ h, up2_ne _ _ _ h, up2_ne _ _ _ h]
theorem i193_ne {r : Nat} (h : r ≠ 18) : ∀ k, it193_X5_init k r = it170_X5_init 252 r := by
  intro k
  induction k with
  | zero => rfl
  | succ k ih =>
    rw [it193_X5_init, up2_ne _ _ _ h, sets_ne _ _ _ _ _ _ _ h, sets_ne _ _ _ _ _ _ _ h, sets_ne _ _ _ _ _ _ _ h, sets_ne _ _ _ _ _ _ _ h, sets_ne _ _ _ _ _ _ _ h, sets_ne _ _ _ _ _ _ _ h, sets_ne _ _ _ _ _ _ _ h, ih]
theorem g0_ne {r : Nat} (h : r ≠ 18) (i : Nat) : g_X5_init r i = if r = 17 ∧ i < 252 then (-99) else if r = 16 ∧ i < 1008 then (-99) else if r = 12 ∧ i < 432 then (-99) else mz r i := by
  show it193_X5_init 3 r i = _
  rw [i193_ne h 3, init_17, init_16, init_12]
theorem g0_z {r : Nat} (h : r ≠ 18) (h1 : r ≠ 17) (h2 : r ≠ 16) (h3 : r ≠ 12) (i : Nat) : g_X5_init r i = mz r i := by
  rw [g0_ne h, if_neg (fun z => h1 z.1), if_neg (fun z => h2 z.1), if_neg (fun z => h3 z.1)]
set_option maxRecDepth 100000 in
theorem g0_18 : ∀ m : Fin 87, 0 ≤ g_X5_init 18 m.1 ∧ g_X5_init 18 m.1 ≤ 9999 := by decide +kernel
set_option maxRecDepth 100000 in
theorem g0_v : ∀ d : Fin 3, ∀ p : Fin 6, ∀ t : Fin 5, fvI (5 * p.1 + t.1) = if t.1 = 0 then 0 else g_X5_init 18 (29 * d.1 + (4 * p.1 + t.1 - 1)) := by decide +kernel
set_option maxRecDepth 100000 in
theorem g0_s : ∀ d : Fin 3, ∀ t : Fin 5, fvI (30 + t.1) = g_X5_init 18 (29 * d.1 + (24 + t.1)) := by decide +kernel
theorem J_init : JJ C0 g_X5_init := by
  have z0 : ∀ i, ¬ i = 2 → g_X5_init 0 i = 0 := fun i hi => by
    rw [g0_z (by decide) (by decide) (by decide) (by decide)]
    exact if_neg (fun z => hi z.2)
  have z2 : g_X5_init 0 2 = (-1) := by
    rw [g0_z (by decide) (by decide) (by decide) (by decide)]
    rfl
  have zr : ∀ r, r ≠ 0 → r ≠ 12 → r ≠ 16 → r ≠ 17 → r ≠ 18 → ∀ i, g_X5_init r i = 0 := fun r a b c d e i => by
    rw [g0_z e d c b]
    exact if_neg (fun z => a z.1)
  have z12 : ∀ i, i < 432 → g_X5_init 12 i = (-99) := fun i hi => by
    rw [g0_ne (by decide), if_neg (fun z => absurd z.1 (by decide)), if_neg (fun z => absurd z.1 (by decide)), if_pos ⟨rfl, hi⟩]
  have z16 : ∀ i, i < 1008 → g_X5_init 16 i = (-99) := fun i hi => by
    rw [g0_ne (by decide), if_neg (fun z => absurd z.1 (by decide)), if_pos ⟨rfl, hi⟩]
  have z17 : ∀ i, i < 252 → g_X5_init 17 i = (-99) := fun i hi => by
    rw [g0_ne (by decide), if_pos ⟨rfl, hi⟩]
  have hS : nS g_X5_init = 0 := by
    unfold nS
    rw [z0 1 (by decide)]
    rfl
  have hE : ∀ k, nE g_X5_init k = 0 := fun k => by
    unfold nE
    rw [zr 8 (by decide) (by decide) (by decide) (by decide) (by decide)]
    rfl
  refine ⟨⟨?_, fun k hk => ?_, fun k i hk hi => ⟨fun q => ?_, fun _ => ?_⟩, fun n hn => ?_, fun n hn => ?_, fun n hn => ?_, fun n hn => ?_⟩, ?_, fun d hd => ⟨fun p t hp ht => ?_, fun t ht => ?_⟩, fun k hk => ?_, fun k i hk hi => ?_⟩
  · unfold IMo
    rw [hS, z0 1 (by decide), z0 3 (by decide), z0 4 (by decide), z0 5 (by decide)]
    exact ⟨⟨rfl, by decide⟩, Or.inl z2, Or.inl rfl, Or.inl rfl, Or.inl rfl⟩
  · unfold tP
    rw [hE, zr 8 (by decide) (by decide) (by decide) (by decide) (by decide), zr 6 (by decide) (by decide) (by decide) (by decide) (by decide), zr 7 (by decide) (by decide) (by decide) (by decide) (by decide)]
    exact ⟨⟨rfl, by decide⟩, Or.inl rfl, fun _ => ⟨rfl, rfl, rfl, fun j i hj hi => z17 _ (by omega)⟩⟩
  · rw [hE] at q
    exact absurd q (Nat.not_lt_zero _)
  · refine ⟨zr 13 (by decide) (by decide) (by decide) (by decide) (by decide) _, zr 14 (by decide) (by decide) (by decide) (by decide) (by decide) _, zr 15 (by decide) (by decide) (by decide) (by decide) (by decide) _, fun c hc => z12 _ (by omega), fun j hj => z16 _ (by omega)⟩
  · exact Or.inl (z12 n hn)
  · exact Or.inl (z16 n hn)
  · exact Or.inl (z17 n hn)
  · exact g0_18 ⟨n, hn⟩
  · unfold RO
    rw [hS, z0 1 (by decide), z2]
    refine ⟨rfl, rfl, fun k hk => ?_, fun d hd => ?_⟩
    · rw [if_neg (by omega)]
      rfl
    · exact if_pos hd
  · show (if 33 + d = 0 then _ else if 33 + d = 2 then _ else if 33 ≤ 33 + d ∧ 33 + d < 36 then fvI (5 * p + t) else 0) = _
    rw [if_neg (by omega), if_neg (by omega), if_pos (by omega)]
    exact g0_v ⟨d, hd⟩ ⟨p, hp⟩ ⟨t, ht⟩
  · show (if 33 + d = 0 then _ else if 33 + d = 2 then _ else if 33 ≤ 33 + d ∧ 33 + d < 36 then fvI (30 + t) else 0) = _
    rw [if_neg (by omega), if_neg (by omega), if_pos (by omega)]
    exact g0_s ⟨d, hd⟩ ⟨t, ht⟩
  · rw [hS] at hk
    exact absurd hk (Nat.not_lt_zero _)
  · rw [hS] at hk
    exact absurd hk (Nat.not_lt_zero _)
