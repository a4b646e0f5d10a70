/-! p18: THE CLASS'S OWN NUMBERS (no reference). LV: skaters, elements, who has begun and ended, what counts -/
theorem up2_at (C : Nat → Nat → Int32) (r j : Nat) (x : Int32) : up2 C r j x r j = x := by unfold up2; rw [if_pos ⟨rfl, rfl⟩]
theorem up2_nj (C : Nat → Nat → Int32) {r i j : Nat} (x : Int32) (h : i ≠ j) : up2 C r j x r i = C r i := by unfold up2; rw [if_neg (fun q => h q.2)]
theorem up2_j (C : Nat → Nat → Int32) {r i a j : Nat} (x : Int32) (h : a ≠ j) : up2 C r j x i a = C i a := by unfold up2; rw [if_neg (fun q => h q.2)]
theorem mkP_ne {C : Nat → Nat → Int32} {n r : Nat} (h0 : ¬ r = 40 + n) (h1 : ¬ r = 52 + n) (h2 : ¬ r = 64 + n) (h3 : ¬ (rV (3 * n + 0) r ∨ rV (3 * n + 1) r ∨ rV (3 * n + 2) r)) : mkP C n r = C r := by
  unfold mkP
  rw [if_neg h0, if_neg h1, if_neg h2, if_neg h3]
theorem mkE_ne {C : Nat → Nat → Int32} {n r : Nat} {p0 p1 p2 p3 p4 p5 : Int32} (h0 : ¬ r = 80 + n) (h1 : ¬ rV (36 + n) r) (h2 : ¬ rV (180 + n) r) : mkE C n p0 p1 p2 p3 p4 p5 r = C r := by
  unfold mkE
  rw [if_neg h0, if_neg (fun z => z.elim h1 h2)]
theorem mkE_e {C : Nat → Nat → Int32} {n : Nat} {p0 p1 p2 p3 p4 p5 : Int32} : mkE C n p0 p1 p2 p3 p4 p5 (80 + n) = six p0 p1 p2 p3 p4 p5 := by
  unfold mkE
  rw [if_pos rfl]
/-- how many spins stand ahead of element i -/
def sb (C : Nat → Nat → Int32) (k : Nat) : Nat → Nat
  | 0 => 0
  | i + 1 => if C (80 + (12 * k + i)) 0 = 6 then sb C k i + 1 else sb C k i
theorem sb_le (C : Nat → Nat → Int32) (k : Nat) : ∀ i, sb C k i ≤ i := by
  intro i
  induction i with
  | zero => exact Nat.le_refl _
  | succ i ih =>
    rw [sb]
    split <;> omega
theorem sb_eq {C C1 : Nat → Nat → Int32} {k : Nat} : ∀ n, (∀ j, j < n → C1 (80 + (12 * k + j)) 0 = C (80 + (12 * k + j)) 0) → sb C1 k n = sb C k n := by
  intro n
  induction n with
  | zero => intro _; rfl
  | succ n ih =>
    intro h
    rw [sb, sb, h n (Nat.lt_succ_self n), ih (fun j hj => h j (Nat.lt_succ_of_lt hj))]
/-- what doesn't count has no value -/
def isC (C : Nat → Nat → Int32) (k i : Nat) : Prop := (C (80 + (12 * k + i)) 0 = 6 → 3 ≤ sb C k i → C (80 + (12 * k + i)) 5 = 0) ∧ (¬ C (80 + (12 * k + i)) 0 = 6 → 7 ≤ i - sb C k i → C (80 + (12 * k + i)) 5 = 0)
abbrev LV (S : Nat) (cnt : Nat → Nat) (en g : Nat) (C : Nat → Nat → Int32) : Prop :=
  (S ≤ 12) ∧ (en + g ≤ S) ∧ (g ≤ 1) ∧ (C 0 4 = nI S) ∧ (C 0 5 = if g = 0 then (-1) else nI en) ∧ (∀ j, j < 12 → (¬ C 1 j = 0 ↔ j < S)) ∧ (∀ d, d < 3 → ¬ C 2 d = 0) ∧ (∀ k, k < S → C (40 + k) 8 = nI (cnt k)) ∧ (∀ k, k < S → cnt k ≤ 12) ∧ (∀ k, k < S → ∀ i, i < 12 → (¬ C (52 + k) i = 0 ↔ i < cnt k)) ∧ (∀ k, k < S → ∀ j, j < 3 → ¬ C (64 + k) j = 0) ∧ (∀ k, k < S → C (40 + k) 2 = if k < en + g then 1 else 0) ∧ (∀ k, k < S → C (40 + k) 3 = if k < en then 1 else 0) ∧ (∀ k, k < S → C (40 + k) 9 = nI (cnt k - sb C k (cnt k))) ∧ (∀ k, k < S → ∀ i, i < cnt k → isC C k i) ∧ (∀ k, k < S → en + g ≤ k → C (40 + k) 4 = 0 ∧ C (40 + k) 5 = 1 ∧ C (40 + k) 6 = 0 ∧ C (40 + k) 7 = 0 ∧ cnt k = 0)
theorem LV.s12 {S : Nat} {cnt : Nat → Nat} {en g : Nat} {C : Nat → Nat → Int32} (V : LV S cnt en g C) : S ≤ 12 := V.1
theorem LV.eg {S : Nat} {cnt : Nat → Nat} {en g : Nat} {C : Nat → Nat → Int32} (V : LV S cnt en g C) : en + g ≤ S := V.2.1
theorem LV.g1 {S : Nat} {cnt : Nat → Nat} {en g : Nat} {C : Nat → Nat → Int32} (V : LV S cnt en g C) : g ≤ 1 := V.2.2.1
theorem LV.c4 {S : Nat} {cnt : Nat → Nat} {en g : Nat} {C : Nat → Nat → Int32} (V : LV S cnt en g C) : C 0 4 = nI S := V.2.2.2.1
theorem LV.c5 {S : Nat} {cnt : Nat → Nat} {en g : Nat} {C : Nat → Nat → Int32} (V : LV S cnt en g C) : C 0 5 = if g = 0 then (-1) else nI en := V.2.2.2.2.1
theorem LV.c1 {S : Nat} {cnt : Nat → Nat} {en g : Nat} {C : Nat → Nat → Int32} (V : LV S cnt en g C) : ∀ j, j < 12 → (¬ C 1 j = 0 ↔ j < S) := V.2.2.2.2.2.1
theorem LV.c2 {S : Nat} {cnt : Nat → Nat} {en g : Nat} {C : Nat → Nat → Int32} (V : LV S cnt en g C) : ∀ d, d < 3 → ¬ C 2 d = 0 := V.2.2.2.2.2.2.1
theorem LV.c8 {S : Nat} {cnt : Nat → Nat} {en g : Nat} {C : Nat → Nat → Int32} (V : LV S cnt en g C) : ∀ k, k < S → C (40 + k) 8 = nI (cnt k) := V.2.2.2.2.2.2.2.1
theorem LV.n12 {S : Nat} {cnt : Nat → Nat} {en g : Nat} {C : Nat → Nat → Int32} (V : LV S cnt en g C) : ∀ k, k < S → cnt k ≤ 12 := V.2.2.2.2.2.2.2.2.1
theorem LV.c52 {S : Nat} {cnt : Nat → Nat} {en g : Nat} {C : Nat → Nat → Int32} (V : LV S cnt en g C) : ∀ k, k < S → ∀ i, i < 12 → (¬ C (52 + k) i = 0 ↔ i < cnt k) := V.2.2.2.2.2.2.2.2.2.1
theorem LV.c64 {S : Nat} {cnt : Nat → Nat} {en g : Nat} {C : Nat → Nat → Int32} (V : LV S cnt en g C) : ∀ k, k < S → ∀ j, j < 3 → ¬ C (64 + k) j = 0 := V.2.2.2.2.2.2.2.2.2.2.1
theorem LV.f2 {S : Nat} {cnt : Nat → Nat} {en g : Nat} {C : Nat → Nat → Int32} (V : LV S cnt en g C) : ∀ k, k < S → C (40 + k) 2 = if k < en + g then 1 else 0 := V.2.2.2.2.2.2.2.2.2.2.2.1
theorem LV.f3 {S : Nat} {cnt : Nat → Nat} {en g : Nat} {C : Nat → Nat → Int32} (V : LV S cnt en g C) : ∀ k, k < S → C (40 + k) 3 = if k < en then 1 else 0 := V.2.2.2.2.2.2.2.2.2.2.2.2.1
theorem LV.jm {S : Nat} {cnt : Nat → Nat} {en g : Nat} {C : Nat → Nat → Int32} (V : LV S cnt en g C) : ∀ k, k < S → C (40 + k) 9 = nI (cnt k - sb C k (cnt k)) := V.2.2.2.2.2.2.2.2.2.2.2.2.2.1
theorem LV.el {S : Nat} {cnt : Nat → Nat} {en g : Nat} {C : Nat → Nat → Int32} (V : LV S cnt en g C) : ∀ k, k < S → ∀ i, i < cnt k → isC C k i := V.2.2.2.2.2.2.2.2.2.2.2.2.2.2.1
theorem LV.fr {S : Nat} {cnt : Nat → Nat} {en g : Nat} {C : Nat → Nat → Int32} (V : LV S cnt en g C) : ∀ k, k < S → en + g ≤ k → C (40 + k) 4 = 0 ∧ C (40 + k) 5 = 1 ∧ C (40 + k) 6 = 0 ∧ C (40 + k) 7 = 0 ∧ cnt k = 0 := V.2.2.2.2.2.2.2.2.2.2.2.2.2.2.2
section LVS
variable {S en g : Nat} {cnt : Nat → Nat} {C C1 : Nat → Nat → Int32}
/-- only the programmes' standing changes -/
theorem LV_pr {en1 g1 : Nat} (V : LV S cnt en g C) (h04 : C1 0 4 = C 0 4) (h1 : C1 1 = C 1) (h2 : C1 2 = C 2) (hr : ∀ r, 52 ≤ r → r < 300 → C1 r = C r) (h8 : ∀ k, k < S → C1 (40 + k) 8 = C (40 + k) 8 ∧ C1 (40 + k) 9 = C (40 + k) 9) (heg : en1 + g1 ≤ S) (hg1 : g1 ≤ 1) (h5 : C1 0 5 = if g1 = 0 then (-1) else nI en1)
    (hf2 : ∀ k, k < S → C1 (40 + k) 2 = if k < en1 + g1 then 1 else 0) (hf3 : ∀ k, k < S → C1 (40 + k) 3 = if k < en1 then 1 else 0) (hfr : ∀ k, k < S → en1 + g1 ≤ k → C1 (40 + k) 4 = 0 ∧ C1 (40 + k) 5 = 1 ∧ C1 (40 + k) 6 = 0 ∧ C1 (40 + k) 7 = 0 ∧ cnt k = 0) : LV S cnt en1 g1 C1 := by
  have s12 := V.s12
  have hsb : ∀ k, k < S → ∀ i, i ≤ 12 → sb C1 k i = sb C k i := fun k hk i hi => sb_eq i (fun j hj => by rw [hr _ (by omega) (by omega)])
  refine ⟨V.s12, heg, hg1, h04.trans V.c4, h5, by rw [h1]; exact V.c1, by rw [h2]; exact V.c2, fun k hk => (h8 k hk).1.trans (V.c8 k hk), V.n12, fun k hk => ?_, fun k hk => ?_, hf2, hf3, fun k hk => ?_, fun k hk i hi => ?_, hfr⟩
  · rw [hr _ (by omega) (by omega)]
    exact V.c52 k hk
  · rw [hr _ (by omega) (by omega)]
    exact V.c64 k hk
  · rw [(h8 k hk).2, hsb k hk _ (V.n12 k hk)]
    exact V.jm k hk
  · have hc := V.n12 k hk
    unfold isC
    rw [hr (80 + (12 * k + i)) (by omega) (by omega), hsb k hk i (by omega)]
    exact V.el k hk i hi
/-- what most calls leave as it is -/
def co (C C1 : Nat → Nat → Int32) : Prop := ∀ r, r < 300 → ¬ r = 3 → ¬ r = 4 → ¬ (33 ≤ r ∧ r < 36) → C1 r = C r
theorem co_rf (C : Nat → Nat → Int32) : co C C := fun _ _ _ _ _ => rfl
theorem co_tr {C2 : Nat → Nat → Int32} (h : co C C1) (h2 : co C1 C2) : co C C2 := fun r a b c d => (h2 r a b c d).trans (h r a b c d)
theorem LV_co (h : co C C1) (V : LV S cnt en g C) : LV S cnt en g C1 := by
  have s12 := V.s12
  have hk : ∀ k, k < S → C1 (40 + k) = C (40 + k) := fun k hk => h _ (by omega) (by omega) (by omega) (by omega)
  have h0 : C1 0 = C 0 := h 0 (by omega) (by omega) (by omega) (by omega)
  refine LV_pr V (by rw [h0]) (h 1 (by omega) (by omega) (by omega) (by omega)) (h 2 (by omega) (by omega) (by omega) (by omega)) (fun r h1 h2 => h r h2 (by omega) (by omega) (by omega)) (fun k h2 => by rw [hk k h2]; exact ⟨rfl, rfl⟩) V.eg V.g1 (by rw [h0]; exact V.c5) (fun k h2 => by rw [hk k h2]; exact V.f2 k h2) (fun k h2 => by rw [hk k h2]; exact V.f3 k h2) (fun k h2 h3 => by rw [hk k h2]; exact V.fr k h2 h3)
theorem tell_lt {v r : Nat} {p x : Int32} (h : r < 300) : g_X3_tell C v p x r = C r := by
  have rec_row : ∀ (C : Nat → Nat → Int32) (v : Nat) (k r : Nat), ¬ r = 300 + 3 * v → it12_X3_recount C v k r = C r := by
    intro C v k
    induction k with
    | zero =>
      intro r h
      rw [it12_X3_recount, up2_ne _ _ _ h, up2_ne _ _ _ h]
    | succ k ih =>
      intro r h
      rw [it12_X3_recount]
      split
      · exact ih r h
      · rw [up2_ne _ _ _ h, up2_ne _ _ _ h, up2_ne _ _ _ h, up2_ne _ _ _ h, ih r h]
  unfold g_X3_tell
  split
  · rfl
  · unfold g_X3_recount
    rw [rec_row _ _ _ _ (by omega), up2_ne _ _ _ (by omega), up2_ne _ _ _ (by omega)]
theorem co_tell (C : Nat → Nat → Int32) (v : Nat) (p x : Int32) : co C (g_X3_tell C v p x) := fun _ h _ _ _ => tell_lt h
theorem co_fill (C : Nat → Nat → Int32) (d : Nat) : co C (g_X4_fillRanking C d) := fun r _ h3 h4 _ => fl_rows C d 12 r h3 h4
/-- what there is -/
theorem LV.prog (V : LV S cnt en g C) {k : Nat} (h : k < S) : f_X4_programmeOf C (nI k) = 1 := by
  have s12 := V.s12
  unfold f_X4_programmeOf
  rw [if_neg (nI_pos (by omega)), if_neg (show ¬ 12 ≤ nI k from nI_ge (b := 12) (by omega) (by decide)), nI_clamp (by omega), if_neg ((V.c1 k (by omega)).mpr h)]
theorem LV.prog0 (V : LV S cnt en g C) {k : Nat} (h : S ≤ k) (h2 : k < 12) : f_X4_programmeOf C (nI k) = 0 := by
  unfold f_X4_programmeOf
  rw [if_neg (nI_pos (by omega)), if_neg (show ¬ 12 ≤ nI k from nI_ge (b := 12) (by omega) (by decide)), nI_clamp (by omega), if_pos (Decidable.not_not.mp (fun q => absurd ((V.c1 k h2).mp q) (by omega)))]
theorem LV.elem (V : LV S cnt en g C) {k e : Nat} (h : k < S) (he : e < cnt k) : f_X2_elementAt C k (nI e) = 1 := by
  have n12 := V.n12 k h
  unfold f_X2_elementAt
  rw [if_neg (nI_pos (by omega)), if_neg (show ¬ 12 ≤ nI e from nI_ge (b := 12) (by omega) (by decide)), nI_clamp (by omega), if_neg ((V.c52 k h e (by omega)).mpr he)]
theorem LV.comp (V : LV S cnt en g C) {k j : Nat} (h : k < S) (hj : j < 3) : f_X2_componentAt C k (nI j) = 1 := by
  unfold f_X2_componentAt
  rw [if_neg (nI_pos (by omega)), if_neg (show ¬ 3 ≤ nI j from nI_ge (b := 3) hj (by decide)), nI_clamp (by omega), if_neg (V.c64 k h j hj)]
theorem LV.ed (V : LV S cnt en g C) {d : Nat} (h : d < 3) : f_X4_editionAt C (nI d) = 1 := by
  unfold f_X4_editionAt
  rw [if_neg (nI_pos (by omega)), if_neg (show ¬ 3 ≤ nI d from nI_ge (b := 3) h (by decide)), nI_clamp (by omega), if_neg (V.c2 d h)]
theorem LV.off (V : LV S cnt en 0 C) : C 0 5 = (-1) := V.c5
theorem LV.on (V : LV S cnt en 1 C) : C 0 5 = nI en := V.c5
theorem LV.on_lt (V : LV S cnt en 1 C) : en < S := by
  have := V.eg
  omega
theorem LV.on_n (V : LV S cnt en 1 C) : ¬ C 0 5 = (-1) := by
  have h1 := V.on_lt
  have h2 := V.s12
  rw [V.on]
  intro z
  have h3 := nI_toInt (n := en) (by omega)
  rw [z] at h3
  have h4 : (-1 : Int32).toInt = -1 := by decide
  omega
theorem LV.on_c (V : LV S cnt en 1 C) : (C 0 5).toNatClampNeg = en := by
  have h1 := V.on_lt
  have h2 := V.s12
  rw [V.on, nI_clamp (by omega)]
theorem isIn_n {q m : Nat} (h : q ≤ m) (hm : m < 2 ^ 31) : f_X4_isIn (nI q) 0 (nI m) = 1 := by
  unfold f_X4_isIn
  rw [if_neg (nI_pos (by omega)), if_neg (nI_nlt h hm)]
theorem isIn_1 {q m : Nat} (h1 : 1 ≤ q) (h : q ≤ m) (hm : m < 2 ^ 31) : f_X4_isIn (nI q) 1 (nI m) = 1 := by
  unfold f_X4_isIn
  rw [if_neg (show ¬ nI q < 1 from (nI_nlt h1 (by omega) : ¬ nI q < nI 1)), if_neg (nI_nlt h hm)]
theorem one_n : ¬ (1 : Int32) = 0 := by decide
theorem in05 {q : Nat} (h : q < 6) : nI q = 0 ∨ nI q = 1 ∨ nI q = 2 ∨ nI q = 3 ∨ nI q = 4 ∨ nI q = 5 := by
  have : q = 0 ∨ q = 1 ∨ q = 2 ∨ q = 3 ∨ q = 4 ∨ q = 5 := by omega
  rcases this with rfl | rfl | rfl | rfl | rfl | rfl
  · exact Or.inl rfl
  · exact Or.inr (Or.inl rfl)
  · exact Or.inr (Or.inr (Or.inl rfl))
  · exact Or.inr (Or.inr (Or.inr (Or.inl rfl)))
  · exact Or.inr (Or.inr (Or.inr (Or.inr (Or.inl rfl))))
  · exact Or.inr (Or.inr (Or.inr (Or.inr (Or.inr rfl))))
/-! begin, end, skater -/
theorem V_begin (V : LV S cnt en 0 C) (h : en < S) : t_X4_begin C (nI en) = 0 ∧ LV S cnt en 1 (g_X4_begin C (nI en)) ∧ g_X4_begin C (nI en) (40 + en) 4 = 0 ∧ g_X4_begin C (nI en) (40 + en) 5 = 1 ∧ g_X4_begin C (nI en) (40 + en) 6 = 0 ∧ g_X4_begin C (nI en) (40 + en) 7 = 0 ∧ cnt en = 0 := by
  have s12 := V.s12
  have hp := V.prog h
  have h2 : C (40 + en) 2 = 0 := (V.f2 en h).trans (if_neg (by omega))
  have ht : t_X4_begin C (nI en) = 0 := by
    unfold t_X4_begin
    rw [hp, if_neg one_n, if_pos V.off, nI_clamp (by omega), if_pos h2]
  have hg : g_X4_begin C (nI en) = up2 (up2 C (40 + en) 2 1) 0 5 (nI en) := by
    unfold g_X4_begin
    rw [hp, if_neg one_n, if_pos V.off, nI_clamp (by omega), if_pos h2]
  have hrow : ∀ k j, ¬ j = 2 → g_X4_begin C (nI en) (40 + k) j = C (40 + k) j := fun k j hj => by
    rw [hg, up2_ne _ _ _ (by omega), up2_j _ _ hj]
  obtain ⟨a1, a2, a3, a4, a5⟩ := V.fr en h (by omega)
  refine ⟨ht, ?_, (hrow en 4 (by decide)).trans a1, (hrow en 5 (by decide)).trans a2, (hrow en 6 (by decide)).trans a3, (hrow en 7 (by decide)).trans a4, a5⟩
  refine LV_pr V ?_ ?_ ?_ (fun r h1 h2 => ?_) (fun k hk => ⟨hrow k 8 (by decide), hrow k 9 (by decide)⟩) (by omega) (Nat.le_refl _) ?_ (fun k hk => ?_) (fun k hk => (hrow k 3 (by decide)).trans (V.f3 k hk)) (fun k hk hk2 => ?_)
  · rw [hg, up2_j _ _ (by decide), up2_ne _ _ _ (by omega)]
  · rw [hg, up2_ne _ _ _ (by omega), up2_ne _ _ _ (by omega)]
  · rw [hg, up2_ne _ _ _ (by omega), up2_ne _ _ _ (by omega)]
  · rw [hg, up2_ne _ _ _ (by omega), up2_ne _ _ _ (by omega)]
  · rw [hg, up2_at]
    rfl
  · rw [hg, up2_ne _ _ _ (by omega)]
    by_cases e : k = en
    · subst e
      rw [up2_at, if_pos (by omega)]
    · rw [up2_ne _ _ _ (by omega), V.f2 k hk]
      by_cases q : k < en
      · rw [if_pos (by omega), if_pos (by omega)]
      · rw [if_neg (by omega), if_neg (by omega)]
  · rw [hrow k 4 (by decide), hrow k 5 (by decide), hrow k 6 (by decide), hrow k 7 (by decide)]
    exact V.fr k hk (by omega)
theorem V_end (V : LV S cnt en 1 C) : t_X4_end C = 0 ∧ f_X4_end C = nI (cnt en) ∧ LV S cnt (en + 1) 0 (g_X4_end C) := by
  have s12 := V.s12
  have h := V.on_lt
  have hg : g_X4_end C = up2 (up2 C (40 + en) 3 1) 0 5 (-1) := by
    unfold g_X4_end
    rw [if_neg V.on_n, V.on_c]
  have hrow : ∀ k j, ¬ j = 3 → g_X4_end C (40 + k) j = C (40 + k) j := fun k j hj => by
    rw [hg, up2_ne _ _ _ (by omega), up2_j _ _ hj]
  refine ⟨?_, ?_, ?_⟩
  · unfold t_X4_end
    rw [if_neg V.on_n]
  · unfold f_X4_end
    rw [if_neg V.on_n, V.on_c]
    exact V.c8 en h
  · refine LV_pr V ?_ ?_ ?_ (fun r h1 h2 => ?_) (fun k hk => ⟨hrow k 8 (by decide), hrow k 9 (by decide)⟩) (by omega) (by omega) ?_ (fun k hk => (hrow k 2 (by decide)).trans (V.f2 k hk)) (fun k hk => ?_) (fun k hk hk2 => ?_)
    · rw [hg, up2_j _ _ (by decide), up2_ne _ _ _ (by omega)]
    · rw [hg, up2_ne _ _ _ (by omega), up2_ne _ _ _ (by omega)]
    · rw [hg, up2_ne _ _ _ (by omega), up2_ne _ _ _ (by omega)]
    · rw [hg, up2_ne _ _ _ (by omega), up2_ne _ _ _ (by omega)]
    · rw [hg, up2_at]
      rfl
    · rw [hg, up2_ne _ _ _ (by omega)]
      by_cases e : k = en
      · subst e
        rw [up2_at, if_pos (by omega)]
      · rw [up2_ne _ _ _ (by omega), V.f3 k hk]
        by_cases q : k < en
        · rw [if_pos q, if_pos (by omega)]
        · rw [if_neg q, if_neg (by omega)]
    · rw [hrow k 4 (by decide), hrow k 5 (by decide), hrow k 6 (by decide), hrow k 7 (by decide)]
      exact V.fr k hk (by omega)
theorem V_skater (V : LV S (fun _ => 0) 0 0 C) (h : S < 12) : t_X4_skater C S = 0 ∧ f_X4_skater C S = nI S ∧ LV (S + 1) (fun _ => 0) 0 0 (g_X4_skater C S) := by
  have hlt : nI S < 12 := (nI_ltI (b := 12) (by omega) (by decide)).mpr h
  have hg : g_X4_skater C S = up2 (up2 (mkP C S) 1 S 1) 0 4 (nI (S + 1)) := by
    unfold g_X4_skater
    rw [if_pos hlt]
  have hK : ∀ r, ¬ r = 0 → ¬ r = 1 → g_X4_skater C S r = mkP C S r := fun r h0 h1 => by
    rw [hg, up2_ne _ _ _ h0, up2_ne _ _ _ h1]
  have hO : ∀ r, ¬ r = 0 → ¬ r = 1 → ¬ r = 40 + S → ¬ r = 52 + S → ¬ r = 64 + S → r < 300 → g_X4_skater C S r = C r := fun r h0 h1 h2 h3 h4 h5 => by
    rw [hK r h0 h1, mkP_ne h2 h3 h4 (by unfold rV; omega)]
  have hN : ∀ j, g_X4_skater C S (40 + S) j = if j = 5 then 1 else 0 := fun j => by
    rw [hK _ (by omega) (by omega)]
    unfold mkP
    rw [if_pos rfl]
  refine ⟨?_, ?_, ?_⟩
  · unfold t_X4_skater
    rw [if_pos hlt]
  · unfold f_X4_skater
    rw [if_pos hlt]
  · have h00 : C 0 5 = (-1) := V.off
    refine ⟨by omega, by omega, by omega, by rw [hg, up2_at], ?_, fun j hj => ?_, fun d hd => ?_, fun k hk => ?_, fun _ _ => Nat.zero_le _, fun k hk i hi => ?_, fun k hk j hj => ?_, fun k hk => ?_, fun k hk => ?_, fun k hk => ?_, fun k hk i hi => absurd hi (Nat.not_lt_zero _), fun k hk _ => ?_⟩
    · rw [hg, up2_j _ _ (by decide), up2_ne _ _ _ (by omega), mkP_ne (by omega) (by omega) (by omega) (by unfold rV; omega), h00]
      rfl
    · rw [hg, up2_ne _ _ _ (by omega)]
      by_cases e : j = S
      · subst e
        rw [up2_at]
        exact ⟨fun _ => by omega, fun _ => one_n⟩
      · rw [up2_nj _ _ e, mkP_ne (by omega) (by omega) (by omega) (by unfold rV; omega), V.c1 j hj]
        omega
    · rw [hO 2 (by omega) (by omega) (by omega) (by omega) (by omega) (by omega)]
      exact V.c2 d hd
    · by_cases e : k = S
      · subst e
        rw [hN]
        rfl
      · rw [hO _ (by omega) (by omega) (by omega) (by omega) (by omega) (by omega)]
        exact V.c8 k (by omega)
    · by_cases e : k = S
      · subst e
        rw [hK _ (by omega) (by omega)]
        unfold mkP
        rw [if_neg (by omega), if_pos rfl]
        exact ⟨fun z => absurd rfl z, fun z => absurd z (Nat.not_lt_zero _)⟩
      · rw [hO _ (by omega) (by omega) (by omega) (by omega) (by omega) (by omega)]
        exact V.c52 k (by omega) i hi
    · by_cases e : k = S
      · subst e
        rw [hK _ (by omega) (by omega)]
        unfold mkP
        rw [if_neg (by omega), if_neg (by omega), if_pos rfl, if_pos hj]
        exact one_n
      · rw [hO _ (by omega) (by omega) (by omega) (by omega) (by omega) (by omega)]
        exact V.c64 k (by omega) j hj
    · by_cases e : k = S
      · subst e
        rw [hN, if_neg (show ¬ k < 0 + 0 by omega)]
        rfl
      · rw [hO _ (by omega) (by omega) (by omega) (by omega) (by omega) (by omega)]
        exact V.f2 k (by omega)
    · by_cases e : k = S
      · subst e
        rw [hN, if_neg (Nat.not_lt_zero _)]
        rfl
      · rw [hO _ (by omega) (by omega) (by omega) (by omega) (by omega) (by omega)]
        exact V.f3 k (by omega)
    · by_cases e : k = S
      · subst e
        rw [hN]
        rfl
      · rw [hO _ (by omega) (by omega) (by omega) (by omega) (by omega) (by omega)]
        exact V.jm k (by omega)
    · by_cases e : k = S
      · subst e
        rw [hN, hN, hN, hN]
        exact ⟨rfl, rfl, rfl, rfl, rfl⟩
      · rw [hO _ (by omega) (by omega) (by omega) (by omega) (by omega) (by omega)]
        exact V.fr k (by omega) (by omega)
end LVS
