/-! p18: THE LAW'S WORLD: the class's object, the law's list (role 6), and what S and cnt say is there -/
def dmk (S : Nat) (cnt : Nat → Nat) (r : Nat) : Prop := r < 5 ∨ r = 6 ∨ (30 ≤ r ∧ r < 36) ∨ (∃ k, k < S ∧ (r = 40 + k ∨ r = 52 + k ∨ r = 64 + k ∨ ∃ j, j < 3 ∧ rV (3 * k + j) r)) ∨ ∃ k i, k < S ∧ i < cnt k ∧ (r = 80 + (12 * k + i) ∨ rV (36 + (12 * k + i)) r ∨ rV (180 + (12 * k + i)) r)
section DMK
variable {S en g : Nat} {cnt : Nat → Nat} {C : Nat → Nat → Int32}
theorem dmk_P {k r : Nat} (hk : k < S) (h : r = 40 + k ∨ r = 52 + k ∨ r = 64 + k) : dmk S cnt r := by
  refine Or.inr (Or.inr (Or.inr (Or.inl ⟨k, hk, ?_⟩)))
  rcases h with h | h | h
  · exact Or.inl h
  · exact Or.inr (Or.inl h)
  · exact Or.inr (Or.inr (Or.inl h))
theorem dmk_Pv {k j r : Nat} (hk : k < S) (hj : j < 3) (h : rV (3 * k + j) r) : dmk S cnt r := Or.inr (Or.inr (Or.inr (Or.inl ⟨k, hk, Or.inr (Or.inr (Or.inr ⟨j, hj, h⟩))⟩)))
theorem dmk_E {k i r : Nat} (hk : k < S) (hi : i < cnt k) (h : r = 80 + (12 * k + i) ∨ rV (36 + (12 * k + i)) r ∨ rV (180 + (12 * k + i)) r) : dmk S cnt r := Or.inr (Or.inr (Or.inr (Or.inr ⟨k, i, hk, hi, h⟩)))
theorem dmk_e {r : Nat} (h : 30 ≤ r ∧ r < 36) : dmk S cnt r := Or.inr (Or.inr (Or.inl h))
theorem dmk_5 {r : Nat} (h : r < 5) : dmk S cnt r := Or.inl h
theorem dmk_6 : dmk S cnt 6 := Or.inr (Or.inl rfl)
theorem LV.dK (V : LV S cnt en g C) : dK (dmk S cnt) C := by
  have s12 := V.s12
  refine ⟨fun r hr => dmk_5 hr, fun d hd => ⟨dmk_e (by omega), dmk_e (by omega)⟩, fun k hk hc => ?_⟩
  have hk2 : k < S := (V.c1 k hk).mp hc
  refine ⟨dmk_P hk2 (Or.inl rfl), dmk_P hk2 (Or.inr (Or.inl rfl)), dmk_P hk2 (Or.inr (Or.inr rfl)), fun j hj _ => ⟨dmk_Pv hk2 hj (Or.inl rfl), dmk_Pv hk2 hj (Or.inr (Or.inl rfl)), dmk_Pv hk2 hj (Or.inr (Or.inr rfl))⟩, fun i hi hci => ?_⟩
  have hi2 : i < cnt k := (V.c52 k hk2 i hi).mp hci
  exact ⟨dmk_E hk2 hi2 (Or.inl rfl), ⟨dmk_E hk2 hi2 (Or.inr (Or.inl (Or.inl rfl))), dmk_E hk2 hi2 (Or.inr (Or.inl (Or.inr (Or.inl rfl)))), dmk_E hk2 hi2 (Or.inr (Or.inl (Or.inr (Or.inr rfl))))⟩, ⟨dmk_E hk2 hi2 (Or.inr (Or.inr (Or.inl rfl))), dmk_E hk2 hi2 (Or.inr (Or.inr (Or.inr (Or.inl rfl)))), dmk_E hk2 hi2 (Or.inr (Or.inr (Or.inr (Or.inr rfl))))⟩⟩
theorem LV.hgo (V : LV S cnt en g C) (h : ¬ C 0 5 = (-1)) : (C 0 5).toNatClampNeg < 12 ∧ ¬ C 1 (C 0 5).toNatClampNeg = 0 := by
  have s12 := V.s12
  have heg := V.eg
  have hg1 := V.g1
  rw [V.c5] at h ⊢
  by_cases q : g = 0
  · rw [if_pos q] at h
    exact absurd rfl h
  · rw [if_neg q, nI_clamp (by omega)]
    exact ⟨by omega, (V.c1 en (by omega)).mpr (by omega)⟩
theorem arrV_c {c : ClassId} {n : Nat} {f g : Nat → Value} (h : ∀ j, j < n → f j = g j) : arrV c n f = arrV c n g := by
  unfold arrV
  have e : (fun j : Fin n => f j.val) = fun j => g j.val := funext fun j => h j.val j.isLt
  rw [e]
theorem at_q {D : va_G} {H : Heap} {a n : Nat} {c : ClassId} {f g : Nat → Option Nat} (h : ∀ j, j < n → f j = g j) (q : va_at D vwCl (a, .inl (c, n, .inr (.inr (.inr (.inr f))))) H) : va_at D vwCl (a, .inl (c, n, .inr (.inr (.inr (.inr g))))) H := by
  have q : H[a]? = some (vp_cell c (n, .inr (.inr (.inr (.inr f))))) := q
  show H[a]? = some (vp_cell c (n, .inr (.inr (.inr (.inr g)))))
  rw [q, vp_cell_q, vp_cell_q, arrV_c (fun j hj => by rw [h j hj])]
/-- a role at other foreseen addresses -/
theorem sh_re {D : va_G} {cA : Nat → ClassId} {ad ad' : Nat → Nat} {H : Heap} {a r : Nat} (V : LV S cnt en g C) (h : ∀ r, dmk S cnt r → ad' r = ad r) (hc : crole r) (hd : dmk S cnt r) (q : va_at D vwCl (a, sh cA ad r (C r)) H) : va_at D vwCl (a, sh cA ad' r (C r)) H := by
  have s12 := V.s12
  have vo : ∀ v, dmk S cnt (300 + 3 * v + 1) → dmk S cnt (300 + 3 * v + 2) → rV v r → va_at D vwCl (a, sh cA ad' r (C r)) H := by
    intro v h1 h2 hr
    rcases hr with rfl | rfl | rfl
    · rw [sh_V] at q ⊢
      unfold fsV at q ⊢
      rw [h _ h1, h _ h2]
      exact q
    · rw [sh_Vn] at q ⊢
      exact q
    · rw [sh_Vt] at q ⊢
      exact q
  rcases hd with hd | hd | hd | ⟨k, hk, hd⟩ | ⟨k, i, hk, hi, hd⟩
  · have k5 : r = 0 ∨ r = 1 ∨ r = 2 ∨ r = 3 ∨ r = 4 := by omega
    rcases k5 with rfl | rfl | rfl | rfl | rfl
    · rw [sh_K] at *
      unfold fsK at q ⊢
      rw [h 1 (dmk_5 (by omega)), h 2 (dmk_5 (by omega)), h 3 (dmk_5 (by omega)), h 4 (dmk_5 (by omega))]
      have e : gv ad' (C 0 5) = gv ad (C 0 5) := by
        unfold gv
        by_cases z : C 0 5 = (-1)
        · rw [if_pos z, if_pos z]
        · rw [if_neg z, if_neg z]
          have g1 := V.hgo z
          rw [h _ (dmk_P ((V.c1 _ g1.1).mp g1.2) (Or.inl rfl))]
      rw [e]
      exact q
    · rw [sh_1] at q ⊢
      refine at_q (fun j hj => ?_) q
      unfold rf
      by_cases z : C 1 j = 0
      · rw [if_pos z, if_pos z]
      · rw [if_neg z, if_neg z, h _ (dmk_P (k := j) ((V.c1 j hj).mp z) (Or.inl rfl))]
    · rw [sh_2] at q ⊢
      refine at_q (fun j hj => ?_) q
      unfold rf
      rw [h _ (dmk_e (by omega))]
    · exact q
    · exact q
  · subst hd
    unfold crole at hc
    omega
  · by_cases g : r < 33
    · obtain ⟨d, rfl⟩ : ∃ d, r = 30 + d := ⟨r - 30, by omega⟩
      rw [sh_ed (by omega)] at q ⊢
      rw [h _ (dmk_e (by omega))]
      exact q
    · obtain ⟨d, rfl⟩ : ∃ d, r = 33 + d := ⟨r - 33, by omega⟩
      rw [sh_va (by omega)] at q ⊢
      exact q
  · rcases hd with rfl | rfl | rfl | ⟨j, hj, hr⟩
    · rw [sh_P (by omega)] at q ⊢
      unfold fsP at q ⊢
      rw [h _ (dmk_P hk (Or.inr (Or.inl rfl))), h _ (dmk_P hk (Or.inr (Or.inr rfl)))]
      exact q
    · rw [sh_Pe (by omega)] at q ⊢
      refine at_q (fun j hj => ?_) q
      unfold rf
      by_cases z : C (52 + k) j = 0
      · rw [if_pos z, if_pos z]
      · rw [if_neg z, if_neg z, h _ (dmk_E (i := j) hk ((V.c52 k hk j hj).mp z) (Or.inl (by omega)))]
    · rw [sh_Pc (by omega)] at q ⊢
      refine at_q (fun j hj => ?_) q
      unfold rf3
      rw [h _ (dmk_Pv hk hj (Or.inl rfl))]
    · exact vo _ (dmk_Pv hk hj (Or.inr (Or.inl rfl))) (dmk_Pv hk hj (Or.inr (Or.inr rfl))) hr
  · have hi12 := V.n12 k hk
    rcases hd with rfl | hr | hr
    · rw [sh_L (by omega)] at q ⊢
      unfold fsL at q ⊢
      rw [h _ (dmk_E hk hi (Or.inr (Or.inl (Or.inl rfl)))), h _ (dmk_E hk hi (Or.inr (Or.inr (Or.inl rfl))))]
      exact q
    · exact vo _ (dmk_E hk hi (Or.inr (Or.inl (Or.inr (Or.inl rfl))))) (dmk_E hk hi (Or.inr (Or.inl (Or.inr (Or.inr rfl))))) hr
    · exact vo _ (dmk_E hk hi (Or.inr (Or.inr (Or.inr (Or.inl rfl))))) (dmk_E hk hi (Or.inr (Or.inr (Or.inr (Or.inr rfl))))) hr
end DMK
/-- the law's world -/
def lx (D : va_G) (cA : Nat → ClassId) (B : Nat) (o ea S : Nat) (cnt : Nat → Nat) (C : Nat → Nat → Int32) (f : Nat → Int32) (H : Heap) : Prop :=
  ∃ (ad : Nat → Nat) (E : Nat → va_E), ad 0 = o ∧ ad 6 = ea ∧ nh D B (dmk S cnt) ad E H ∧ (∀ r, crole r → dmk S cnt r → E r = sh cA ad r (C r)) ∧ E 6 = .inl (cA 0, 5, .inl f)
section LX
variable {D : va_G} {cA : Nat → ClassId} {B o ea S en g : Nat} {cnt : Nat → Nat} {C : Nat → Nat → Int32} {f : Nat → Int32} {H : Heap}
theorem lx_kw (W : lx D cA B o ea S cnt C f H) : ∃ (ad : Nat → Nat) (E : Nat → va_E), ad 0 = o ∧ ad 6 = ea ∧ kw D cA B (dmk S cnt) ad E C H ∧ E 6 = .inl (cA 0, 5, .inl f) := by
  obtain ⟨ad, E, h1, h2, h3, h4, h5⟩ := W
  exact ⟨ad, E, h1, h2, ⟨E, h3, h4, fun _ _ => rfl⟩, h5⟩
theorem kw_lx {ad : Nat → Nat} {E : Nat → va_E} {dom1 : Nat → Prop} {S1 : Nat} {cnt1 : Nat → Nat} {C1 : Nat → Nat → Int32} {H1 : Heap} (h0 : ad 0 = o) (h6 : ad 6 = ea) (N : kw D cA B dom1 ad E C1 H1) (hd : ∀ r, dmk S1 cnt1 r → dom1 r) (hE : E 6 = .inl (cA 0, 5, .inl f)) : lx D cA B o ea S1 cnt1 C1 f H1 := by
  obtain ⟨E1, g1, g2, g3⟩ := N
  refine ⟨ad, E1, h0, h6, nh_sub g1 hd, fun r hr hr2 => g2 r hr (hd r hr2), ?_⟩
  rw [g3 6 (by unfold crole; omega)]
  exact hE
/-- other foreseen addresses -/
theorem lx_re (W : lx D cA B o ea S cnt C f H) (V : LV S cnt en g C) (ad' : (Nat → Nat) → Nat → Nat) (h : ∀ ad r, dmk S cnt r → ad' ad r = ad r) : ∃ (ad : Nat → Nat) (E : Nat → va_E), ad' ad 0 = o ∧ ad' ad 6 = ea ∧ kw D cA B (dmk S cnt) (ad' ad) E C H ∧ E 6 = .inl (cA 0, 5, .inl f) := by
  obtain ⟨ad, E, h1, h2, h3, h4, h5⟩ := W
  refine ⟨ad, fun r => if r < 5 ∨ 30 ≤ r then sh cA (ad' ad) r (C r) else E r, by rw [h ad 0 (dmk_5 (by omega)), h1], by rw [h ad 6 dmk_6, h2], ⟨_, ⟨fun r hr => ?_, fun a b ha hb hab => ?_⟩, fun r hc hr => if_pos hc, fun r _ => rfl⟩, (if_neg (by omega)).trans h5⟩
  · obtain ⟨a1, a2⟩ := h3.1 r hr
    rw [h ad r hr]
    refine ⟨?_, a2⟩
    show va_at D vwCl (ad r, if r < 5 ∨ 30 ≤ r then sh cA (ad' ad) r (C r) else E r) H
    by_cases hc : r < 5 ∨ 30 ≤ r
    · rw [if_pos hc]
      rw [h4 r hc hr] at a1
      exact sh_re V (h ad) hc hr a1
    · rw [if_neg hc]
      exact a1
  · rw [h ad a ha, h ad b hb] at hab
    exact h3.2 a b ha hb hab
end LX

def aNP (ad : Nat → Nat) (k a : Nat) : Nat → Nat := fun r => if r = 40 + k then a else if r = 52 + k then a + 1 else if r = 64 + k then a + 2 else if 300 + 9 * k ≤ r ∧ r < 300 + 9 * k + 9 then a + 3 + (r - (300 + 9 * k)) else ad r

def aNE (ad : Nat → Nat) (n a : Nat) : Nat → Nat := fun r => if r = 80 + n then a else if 300 + 3 * (36 + n) ≤ r ∧ r < 300 + 3 * (36 + n) + 3 then a + 1 + (r - (300 + 3 * (36 + n))) else if 300 + 3 * (180 + n) ≤ r ∧ r < 300 + 3 * (180 + n) + 3 then a + 4 + (r - (300 + 3 * (180 + n))) else ad r

theorem aNP_v {ad : Nat → Nat} {k a j : Nat} (hk : k < 12) (hj : j < 3) : adV (aNP ad k a) (3 * k + j) (a + 3 + 3 * j) := by
  unfold adV aNP
  refine ⟨?_, ?_, ?_⟩
  · rw [if_neg (by omega), if_neg (by omega), if_neg (by omega), if_pos (by omega)]
    omega
  · rw [if_neg (by omega), if_neg (by omega), if_neg (by omega), if_pos (by omega)]
    omega
  · rw [if_neg (by omega), if_neg (by omega), if_neg (by omega), if_pos (by omega)]
    omega

theorem aNP_ok {ad : Nat → Nat} {k a : Nat} (hk : k < 12) : adP (aNP ad k a) k a := by
  refine ⟨?_, ?_, ?_, aNP_v (j := 0) hk (by decide), aNP_v (j := 1) hk (by decide), aNP_v (j := 2) hk (by decide)⟩
  · unfold aNP
    rw [if_pos rfl]
  · unfold aNP
    rw [if_neg (by omega), if_pos rfl]
  · unfold aNP
    rw [if_neg (by omega), if_neg (by omega), if_pos rfl]

theorem aNE_ok {ad : Nat → Nat} {n a : Nat} (hn : n < 144) : adE (aNE ad n a) n a := by
  refine ⟨?_, ⟨?_, ?_, ?_⟩, ?_, ?_, ?_⟩
  · unfold aNE
    rw [if_pos rfl]
  · unfold aNE
    rw [if_neg (by omega), if_pos (by omega)]
    omega
  · unfold aNE
    rw [if_neg (by omega), if_pos (by omega)]
    omega
  · unfold aNE
    rw [if_neg (by omega), if_pos (by omega)]
    omega
  · unfold aNE
    rw [if_neg (by omega), if_neg (by omega), if_pos (by omega)]
    omega
  · unfold aNE
    rw [if_neg (by omega), if_neg (by omega), if_pos (by omega)]
    omega
  · unfold aNE
    rw [if_neg (by omega), if_neg (by omega), if_pos (by omega)]
    omega

section FREE
variable {S en g : Nat} {cnt : Nat → Nat} {C : Nat → Nat → Int32}
theorem LV.free_P (V : LV S cnt en g C) (h : S < 12) {r : Nat} (hr : dmk S cnt r) : ¬ r = 40 + S ∧ ¬ r = 52 + S ∧ ¬ r = 64 + S ∧ ¬ (300 + 9 * S ≤ r ∧ r < 300 + 9 * S + 9) := by
  rcases hr with h1 | h1 | h1 | ⟨k, hk, h1⟩ | ⟨k, i, hk, hi, h1⟩
  · omega
  · omega
  · omega
  · rcases h1 with h1 | h1 | h1 | ⟨j, hj, h1⟩
    · omega
    · omega
    · omega
    · unfold rV at h1
      omega
  · have hi12 := V.n12 k hk
    unfold rV at h1
    omega
theorem LV.free_E (V : LV S cnt en g C) (h : en < S) (hn : cnt en < 12) {r : Nat} (hr : dmk S cnt r) : ¬ r = 80 + (12 * en + cnt en) ∧ ¬ (300 + 3 * (36 + (12 * en + cnt en)) ≤ r ∧ r < 300 + 3 * (36 + (12 * en + cnt en)) + 3) ∧ ¬ (300 + 3 * (180 + (12 * en + cnt en)) ≤ r ∧ r < 300 + 3 * (180 + (12 * en + cnt en)) + 3) := by
  have s12 := V.s12
  rcases hr with h1 | h1 | h1 | ⟨k, hk, h1⟩ | ⟨k, i, hk, hi, h1⟩
  · omega
  · omega
  · omega
  · rcases h1 with h1 | h1 | h1 | ⟨j, hj, h1⟩
    · omega
    · omega
    · omega
    · unfold rV at h1
      omega
  · have hi12 := V.n12 k hk
    have e : ¬ 12 * k + i = 12 * en + cnt en := by
      intro z
      have ek : k = en := by omega
      subst ek
      omega
    unfold rV at h1
    omega
theorem aNP_re (V : LV S cnt en g C) (h : S < 12) (a : Nat) (ad : Nat → Nat) (r : Nat) (hr : dmk S cnt r) : aNP ad S a r = ad r := by
  have q := V.free_P h hr
  unfold aNP
  rw [if_neg (by omega), if_neg (by omega), if_neg (by omega), if_neg (by omega)]
theorem aNE_re (V : LV S cnt en g C) (h : en < S) (hn : cnt en < 12) (a : Nat) (ad : Nat → Nat) (r : Nat) (hr : dmk S cnt r) : aNE ad (12 * en + cnt en) a r = ad r := by
  have q := V.free_E h hn hr
  unfold aNE
  rw [if_neg (by omega), if_neg (by omega), if_neg (by omega)]
theorem LV.nd_P (V : LV S cnt en g C) (h : S < 12) : ndP (dmk S cnt) S := by
  have f : ∀ r, (r = 40 + S ∨ r = 52 + S ∨ r = 64 + S ∨ (300 + 9 * S ≤ r ∧ r < 300 + 9 * S + 9)) → ¬ dmk S cnt r := fun r hr h2 => by
    have q := V.free_P h h2
    omega
  exact ⟨f _ (Or.inl rfl), f _ (Or.inr (Or.inl rfl)), f _ (Or.inr (Or.inr (Or.inl rfl))), ⟨f _ (by omega), f _ (by omega), f _ (by omega)⟩, ⟨f _ (by omega), f _ (by omega), f _ (by omega)⟩, ⟨f _ (by omega), f _ (by omega), f _ (by omega)⟩⟩
theorem LV.nd_E (V : LV S cnt en g C) (h : en < S) (hn : cnt en < 12) : ndE (dmk S cnt) (12 * en + cnt en) := by
  have f : ∀ r, (r = 80 + (12 * en + cnt en) ∨ (300 + 3 * (36 + (12 * en + cnt en)) ≤ r ∧ r < 300 + 3 * (36 + (12 * en + cnt en)) + 3) ∨ (300 + 3 * (180 + (12 * en + cnt en)) ≤ r ∧ r < 300 + 3 * (180 + (12 * en + cnt en)) + 3)) → ¬ dmk S cnt r := fun r hr h2 => by
    have q := V.free_E h hn h2
    omega
  exact ⟨f _ (Or.inl rfl), ⟨f _ (by omega), f _ (by omega), f _ (by omega)⟩, ⟨f _ (by omega), f _ (by omega), f _ (by omega)⟩⟩
theorem dmk_sk {r : Nat} (h : dmk (S + 1) (fun _ => 0) r) : domP (dmk S (fun _ => 0)) S r := by
  unfold domP
  rcases h with h | h | h | ⟨k, hk, h⟩ | ⟨k, i, hk, hi, h⟩
  · exact Or.inl (dmk_5 h)
  · exact Or.inl (Or.inr (Or.inl h))
  · exact Or.inl (dmk_e h)
  · by_cases e : k = S
    · subst e
      rcases h with h | h | h | ⟨j, hj, h⟩
      · exact Or.inr (Or.inl h)
      · exact Or.inr (Or.inr (Or.inl h))
      · exact Or.inr (Or.inr (Or.inr (Or.inl h)))
      · have : j = 0 ∨ j = 1 ∨ j = 2 := by omega
        rcases this with rfl | rfl | rfl
        · exact Or.inr (Or.inr (Or.inr (Or.inr (Or.inl h))))
        · exact Or.inr (Or.inr (Or.inr (Or.inr (Or.inr (Or.inl h)))))
        · exact Or.inr (Or.inr (Or.inr (Or.inr (Or.inr (Or.inr h)))))
    · exact Or.inl (Or.inr (Or.inr (Or.inr (Or.inl ⟨k, by omega, h⟩))))
  · exact absurd hi (Nat.not_lt_zero _)
theorem dmk_el {r : Nat} (h : dmk S (cx1 cnt en) r) : domE (dmk S cnt) (12 * en + cnt en) r := by
  unfold domE
  rcases h with h | h | h | ⟨k, hk, h⟩ | ⟨k, i, hk, hi, h⟩
  · exact Or.inl (dmk_5 h)
  · exact Or.inl (Or.inr (Or.inl h))
  · exact Or.inl (dmk_e h)
  · exact Or.inl (Or.inr (Or.inr (Or.inr (Or.inl ⟨k, hk, h⟩))))
  · by_cases q : k = en ∧ i = cnt en
    · obtain ⟨rfl, rfl⟩ := q
      rcases h with h | h | h
      · exact Or.inr (Or.inl h)
      · exact Or.inr (Or.inr (Or.inl h))
      · exact Or.inr (Or.inr (Or.inr h))
    · refine Or.inl (dmk_E hk ?_ h)
      have hi : i < if k = en then cnt en + 1 else cnt k := hi
      by_cases ek : k = en
      · subst ek
        rw [if_pos rfl] at hi
        have : ¬ i = cnt k := fun z => q ⟨rfl, z⟩
        omega
      · rw [if_neg ek] at hi
        exact hi
end FREE

section LB
variable {p : Program} {l : Launch} {e : Env} {R : Room} {s : State} {m : MethodId} {args : Array Value} {below : List Frame} {meth : Method} {c : Code} {H : Heap} {locs : List Loc} {cells slots : Nat} {Q : State → Prop}
variable {cc ycc : ByteArray} {nL : Nat} {own : String} {pc : Nat} {ls : Array Slot} {rest st0 : List Value} {D : va_G} {cA : Nat → ClassId} {B : Nat} {dom : Nat → Prop} {ad : Nat → Nat} {E : Nat → va_E} {C : Nat → Nat → Int32}
variable {y : MethodName} {yn idx f lo mc ms num : Nat} {ret : Option FieldType} {As : List Value}
/-- a call that may throw, on an object -/
theorem nx_V {P : Option Value → Heap → Prop} {X : String → Heap → Prop} (S : CallFix p m c cc nL s args WU own) (K : KK D cA B s) (N : nh D B dom ad E H) (hS : va_S (fun q => B ≤ q) s.heap H locs) (r : Nat) (hr : dom r) {ci : Nat} {fs : List Value} (hE : E r = .inr (ci, fs)) {T : u_T} {n : Nat} (hc : vwCl[ci]? = some (y.cls, T, n))
    (hM : MetX D cA B l y ycc yn ret f lo mc ms (.ref (ad r) :: As) H P X) (w1 : Cond.methodLink own idx y ∈ WU) (w2 : Cond.instanceMethod y ∈ WU) (w3 : Cond.selects y.cls y y ∈ WU) (w4 : Cond.initialized y.cls ∈ WU) (w5 : Cond.code y ycc yn ret ∈ WU) (hd : okN y num) (hlen : As.length = num) (hR : f + 1 ≤ R.frames ∧ 8 + (yn + 11) + lo ≤ R.locals) (hz : ls.size = nL) (hst : st0 = As.reverse ++ .ref (ad r) :: rest) (hw : (rest.map fun v => v.category).sum ≤ 8) (hdg : decode cc pc = .ok (.invokevirtual idx, 3)) (hf : cells + mc ≤ R.cells ∧ slots + ms ≤ R.slots)
    (kx : ∀ (E9 : String) (ce : Cell) (q9 : Addr) (H1 : Heap) (locs1 : List Loc), X E9 H1 → va_S (fun q => B ≤ q) s.heap H1 locs1 → H1[q9]? = some ce → ce.vm = .none → s.vm.findClass E9 = some ce.cls → vx_W p l e R s m args below meth c H1 locs1 (cells + mc) (slots + ms) Q (F0 m pc ls rest) q9)
    (kk : ∀ (v : Option Value) (H1 : Heap) (locs1 : List Loc), P v H1 → va_S (fun q => B ≤ q) s.heap H1 locs1 → W p l e R s m args below meth c H1 locs1 (cells + mc) (slots + ms) Q (F0 m (pc + 3) ls (v.toList ++ rest))) : W p l e R s m args below meth c H locs cells slots Q (F0 m pc ls st0) := by
  have hr := vx_runV (g := F0 m pc ls st0) (cells := cells) (slots := slots) (locs := locs) (e := e) (below := below) (meth := meth) (p := p) (As := As) (rest := rest) S hM (cwV num S.2.2.2.2 (wu_V w1 w2 w3 w4 (wu_cons w5)) rfl rfl rfl ⟨rfl, hd⟩ hR) ⟨(nb_self K hS).1, va_recv K.1 (nh_one N hr hE) hc (q0 := 0) rfl, (nb_self K hS).2⟩ rfl hlen hz hst (lv_room hw) hdg hf
  intro T hT X0
  have hk : ∀ (st₀ t : State) (L : List Loc), st₀.heap = H → (∀ q ∈ L, B ≤ q.base) → va_F (fun q => B ≤ q) st₀ t → va_S (fun q => B ≤ q) s.heap t.heap (locs ++ L) := by
    intro st₀ t L h0 hL hF
    obtain ⟨hz, hk⟩ := hF
    rw [h0] at hz hk
    exact ⟨Nat.le_trans hS.1 hz, fun q h1 h2 => (hk q (Nat.lt_of_lt_of_le h1 hS.1) h2).trans (hS.2.1 q h1 h2), fun q hq => (List.mem_append.mp hq).elim (hS.2.2 q) (hL q)⟩
  rcases hr T hT X0 with ⟨w, st₀, t, T', L, h0, X', hL, e1, e2, ⟨⟨v, hv, hP⟩, hF⟩, st⟩ | ⟨q, st₀, t, T', L, E9, ce, h0, X', hL, e1, e2, ⟨hX, hF⟩, hce, hcv, hcl, st⟩
  · cases hv
    obtain ⟨t2, a1, b1⟩ := kk w t.heap (locs ++ L) hP (hk st₀ t L h0 hL hF) T' e1 X'
    exact ⟨t2, st t2 a1, b1⟩
  · obtain ⟨t2, a1, b1⟩ := kx E9 ce q t.heap (locs ++ L) hX (hk st₀ t L h0 hL hF) hce hcv hcl T' e1 X'
    exact ⟨t2, st.trans a1, b1⟩
theorem kx_V {X9 : Nat → va_E} {P : Option Value → Heap → Prop} {X : String → Heap → Prop} (S : CallFix p m c cc nL s args WU own) (K : KK D cA B s) (N : kw D cA B dom ad X9 C H) (hS : va_S (fun q => B ≤ q) s.heap H locs) (h0 : dom 0) (hy : y.cls = RX4)
    (hM : MetX D cA B l y ycc yn ret f lo mc ms (.ref (ad 0) :: As) H P X) (w1 : Cond.methodLink own idx y ∈ WU) (w2 : Cond.instanceMethod y ∈ WU) (w3 : Cond.selects y.cls y y ∈ WU) (w4 : Cond.initialized y.cls ∈ WU) (w5 : Cond.code y ycc yn ret ∈ WU) (hd : okN y num) (hlen : As.length = num) (hR : f + 1 ≤ R.frames ∧ 8 + (yn + 11) + lo ≤ R.locals) (hz : ls.size = nL) (hst : st0 = As.reverse ++ .ref (ad 0) :: rest) (hw : (rest.map fun v => v.category).sum ≤ 8) (hdg : decode cc pc = .ok (.invokevirtual idx, 3)) (hf : cells + mc ≤ R.cells ∧ slots + ms ≤ R.slots)
    (kx : ∀ (E9 : String) (ce : Cell) (q9 : Addr) (H1 : Heap) (locs1 : List Loc), X E9 H1 → va_S (fun q => B ≤ q) s.heap H1 locs1 → H1[q9]? = some ce → ce.vm = .none → s.vm.findClass E9 = some ce.cls → vx_W p l e R s m args below meth c H1 locs1 (cells + mc) (slots + ms) Q (F0 m pc ls rest) q9)
    (kk : ∀ (v : Option Value) (H1 : Heap) (locs1 : List Loc), P v H1 → va_S (fun q => B ≤ q) s.heap H1 locs1 → W p l e R s m args below meth c H1 locs1 (cells + mc) (slots + ms) Q (F0 m (pc + 3) ls (v.toList ++ rest))) : W p l e R s m args below meth c H locs cells slots Q (F0 m pc ls st0) := by
  obtain ⟨E, h1, h2, h3⟩ := N
  exact nx_V S K h1 hS 0 h0 ((h2 0 (Or.inl (by decide)) h0).trans sh_K) (T := TX4) (n := 6) (by rw [hy]; rfl) hM w1 w2 w3 w4 w5 hd hlen hR hz hst hw hdg hf kx kk
end LB

/-- a frame of the law -/
def Zw (p : Program) (l : Launch) (s : State) (m : MethodId) (args : Array Value) (c : Code) (cc : ByteArray) (nL : Nat) (D : va_G) (cA : Nat → ClassId) (B : Nat) (R : Room) : Prop :=
  CallFix p m c cc nL s args WU RL ∧ KK D cA B s ∧ l.stackTraces = false ∧ 7 ≤ R.frames ∧ 149 ≤ R.locals
section LA
variable {p : Program} {l : Launch} {e : Env} {R : Room} {s : State} {m : MethodId} {args : Array Value} {below : List Frame} {meth : Method} {c : Code} {H : Heap} {locs : List Loc} {cells slots : Nat} {Q : State → Prop}
variable {cc : ByteArray} {nL pc : Nat} {ls : Array Slot} {rest : List Value} {D : va_G} {cA : Nat → ClassId} {B o ea S en g : Nat} {cnt : Nat → Nat} {C : Nat → Nat → Int32} {f : Nat → Int32}

theorem la_begin (Z : Zw p l s m args c cc nL D cA B R) (W0 : lx D cA B o ea S cnt C f H) (hS : va_S (fun q => B ≤ q) s.heap H locs) (V : LV S cnt en g C) {p0 : Int32} (ht : (t_X4_begin C p0) = 0) (hz : ls.size = nL) (hw : (rest.map fun v => v.category).sum ≤ 8) (hdg : decode cc pc = .ok (.invokevirtual 41, 3)) (hf : cells + 1 ≤ R.cells ∧ slots + 6 ≤ R.slots)
    (kk : ∀ (H1 : Heap) (locs1 : List Loc), lx D cA B o ea S cnt (g_X4_begin C p0) f H1 → va_S (fun q => B ≤ q) s.heap H1 locs1 → W p l e R s m args below meth c H1 locs1 (cells + 1) (slots + 6) Q (F0 m (pc + 3) ls rest)) : W p l e R s m args below meth c H locs cells slots Q (F0 m pc ls (.int p0 :: .ref o :: rest)) := by
  obtain ⟨S1, K, hls, hR1, hR2⟩ := Z
  obtain ⟨ad, E, ho, hea, N, h6⟩ := lx_kw W0
  subst ho
  refine kx_V (As := [.int p0]) (rest := rest) S1 K N hS (dmk_5 (by decide)) rfl (m_X4_begin l C p0 N V.dK hls V.hgo) k1_211 k1_212 k1_213 k1_1 k1_214 (num := 1) (by decide +kernel) rfl ⟨by omega, by omega⟩ hz rfl hw hdg hf (fun E9 ce q9 H1 locs1 hX _ _ _ _ => absurd ht hX.2.1) (fun v9 H1 locs1 hP g2 => ?_)
  obtain ⟨rfl, N1, -⟩ := hP
  refine W.eq (g2 := F0 m (pc + 3) ls rest) rfl ?_
  exact kk H1 locs1 (kw_lx rfl hea N1 (fun _ h => h) h6) g2
theorem la_turn (Z : Zw p l s m args c cc nL D cA B R) (W0 : lx D cA B o ea S cnt C f H) (hS : va_S (fun q => B ≤ q) s.heap H locs) (V : LV S cnt en g C) {p0 : Int32} (ht : (t_X4_turn C p0) = 0) (hz : ls.size = nL) (hw : (rest.map fun v => v.category).sum ≤ 8) (hdg : decode cc pc = .ok (.invokevirtual 18, 3)) (hf : cells + 1 ≤ R.cells ∧ slots + 6 ≤ R.slots)
    (kk : ∀ (H1 : Heap) (locs1 : List Loc), lx D cA B o ea S cnt (g_X4_turn C p0) f H1 → va_S (fun q => B ≤ q) s.heap H1 locs1 → W p l e R s m args below meth c H1 locs1 (cells + 1) (slots + 6) Q (F0 m (pc + 3) ls (.int (f_X4_turn C p0) :: rest))) : W p l e R s m args below meth c H locs cells slots Q (F0 m pc ls (.int p0 :: .ref o :: rest)) := by
  obtain ⟨S1, K, hls, hR1, hR2⟩ := Z
  obtain ⟨ad, E, ho, hea, N, h6⟩ := lx_kw W0
  subst ho
  refine kx_V (As := [.int p0]) (rest := rest) S1 K N hS (dmk_5 (by decide)) rfl (m_X4_turn l C p0 N V.dK hls V.hgo) k2_202 k2_203 k2_204 k1_1 k2_205 (num := 1) (by decide +kernel) rfl ⟨by omega, by omega⟩ hz rfl hw hdg hf (fun E9 ce q9 H1 locs1 hX _ _ _ _ => absurd ht hX.2.1) (fun v9 H1 locs1 hP g2 => ?_)
  obtain ⟨rfl, N1, -⟩ := hP
  refine W.eq (g2 := F0 m (pc + 3) ls (.int (f_X4_turn C p0) :: rest)) rfl ?_
  exact kk H1 locs1 (kw_lx rfl hea N1 (fun _ h => h) h6) g2
theorem la_end (Z : Zw p l s m args c cc nL D cA B R) (W0 : lx D cA B o ea S cnt C f H) (hS : va_S (fun q => B ≤ q) s.heap H locs) (V : LV S cnt en g C)  (ht : (t_X4_end C) = 0) (hz : ls.size = nL) (hw : (rest.map fun v => v.category).sum ≤ 8) (hdg : decode cc pc = .ok (.invokevirtual 52, 3)) (hf : cells + 1 ≤ R.cells ∧ slots + 6 ≤ R.slots)
    (kk : ∀ (H1 : Heap) (locs1 : List Loc), lx D cA B o ea S cnt (g_X4_end C) f H1 → va_S (fun q => B ≤ q) s.heap H1 locs1 → W p l e R s m args below meth c H1 locs1 (cells + 1) (slots + 6) Q (F0 m (pc + 3) ls (.int (f_X4_end C) :: rest))) : W p l e R s m args below meth c H locs cells slots Q (F0 m pc ls (.ref o :: rest)) := by
  obtain ⟨S1, K, hls, hR1, hR2⟩ := Z
  obtain ⟨ad, E, ho, hea, N, h6⟩ := lx_kw W0
  subst ho
  refine kx_V (As := []) (rest := rest) S1 K N hS (dmk_5 (by decide)) rfl (m_X4_end l C  N V.dK hls V.hgo) k1_236 k1_237 k1_238 k1_1 k1_239 (num := 0) (by decide +kernel) rfl ⟨by omega, by omega⟩ hz rfl hw hdg hf (fun E9 ce q9 H1 locs1 hX _ _ _ _ => absurd ht hX.2.1) (fun v9 H1 locs1 hP g2 => ?_)
  obtain ⟨rfl, N1, -⟩ := hP
  refine W.eq (g2 := F0 m (pc + 3) ls (.int (f_X4_end C) :: rest)) rfl ?_
  exact kk H1 locs1 (kw_lx rfl hea N1 (fun _ h => h) h6) g2
theorem la_call (Z : Zw p l s m args c cc nL D cA B R) (W0 : lx D cA B o ea S cnt C f H) (hS : va_S (fun q => B ≤ q) s.heap H locs) (V : LV S cnt en g C) {p0 : Int32} {p1 : Int32} {p2 : Int32} (ht : (t_X4_call C p0 p1 p2) = 0) (hz : ls.size = nL) (hw : (rest.map fun v => v.category).sum ≤ 8) (hdg : decode cc pc = .ok (.invokevirtual 29, 3)) (hf : cells + 1 ≤ R.cells ∧ slots + 6 ≤ R.slots)
    (kk : ∀ (H1 : Heap) (locs1 : List Loc), lx D cA B o ea S cnt (g_X4_call C p0 p1 p2) f H1 → va_S (fun q => B ≤ q) s.heap H1 locs1 → W p l e R s m args below meth c H1 locs1 (cells + 1) (slots + 6) Q (F0 m (pc + 3) ls (.int (f_X4_call C p0 p1 p2) :: rest))) : W p l e R s m args below meth c H locs cells slots Q (F0 m pc ls (.int p2 :: .int p1 :: .int p0 :: .ref o :: rest)) := by
  obtain ⟨S1, K, hls, hR1, hR2⟩ := Z
  obtain ⟨ad, E, ho, hea, N, h6⟩ := lx_kw W0
  subst ho
  refine kx_V (As := [.int p0, .int p1, .int p2]) (rest := rest) S1 K N hS (dmk_5 (by decide)) rfl (m_X4_call l C p0 p1 p2 N V.dK hls V.hgo) k3_53 k3_54 k3_55 k1_1 k3_56 (num := 3) (by decide +kernel) rfl ⟨by omega, by omega⟩ hz rfl hw hdg hf (fun E9 ce q9 H1 locs1 hX _ _ _ _ => absurd ht hX.2.1) (fun v9 H1 locs1 hP g2 => ?_)
  obtain ⟨rfl, N1, -⟩ := hP
  refine W.eq (g2 := F0 m (pc + 3) ls (.int (f_X4_call C p0 p1 p2) :: rest)) rfl ?_
  exact kk H1 locs1 (kw_lx rfl hea N1 (fun _ h => h) h6) g2
theorem la_grade (Z : Zw p l s m args c cc nL D cA B R) (W0 : lx D cA B o ea S cnt C f H) (hS : va_S (fun q => B ≤ q) s.heap H locs) (V : LV S cnt en g C) {p0 : Int32} {p1 : Int32} {p2 : Int32} {p3 : Int32} (ht : (t_X4_grade C p0 p1 p2 p3) = 0) (hz : ls.size = nL) (hw : (rest.map fun v => v.category).sum ≤ 8) (hdg : decode cc pc = .ok (.invokevirtual 55, 3)) (hf : cells + 1 ≤ R.cells ∧ slots + 6 ≤ R.slots)
    (kk : ∀ (H1 : Heap) (locs1 : List Loc), lx D cA B o ea S cnt (g_X4_grade C p0 p1 p2 p3) f H1 → va_S (fun q => B ≤ q) s.heap H1 locs1 → W p l e R s m args below meth c H1 locs1 (cells + 1) (slots + 6) Q (F0 m (pc + 3) ls rest)) : W p l e R s m args below meth c H locs cells slots Q (F0 m pc ls (.int p3 :: .int p2 :: .int p1 :: .int p0 :: .ref o :: rest)) := by
  obtain ⟨S1, K, hls, hR1, hR2⟩ := Z
  obtain ⟨ad, E, ho, hea, N, h6⟩ := lx_kw W0
  subst ho
  refine kx_V (As := [.int p0, .int p1, .int p2, .int p3]) (rest := rest) S1 K N hS (dmk_5 (by decide)) rfl (m_X4_grade l C p0 p1 p2 p3 N V.dK hls) k2_1 k2_2 k2_3 k1_1 k2_4 (num := 4) (by decide +kernel) rfl ⟨by omega, by omega⟩ hz rfl hw hdg hf (fun E9 ce q9 H1 locs1 hX _ _ _ _ => absurd ht hX.2.1) (fun v9 H1 locs1 hP g2 => ?_)
  obtain ⟨rfl, N1, -⟩ := hP
  refine W.eq (g2 := F0 m (pc + 3) ls rest) rfl ?_
  exact kk H1 locs1 (kw_lx rfl hea N1 (fun _ h => h) h6) g2
theorem la_component (Z : Zw p l s m args c cc nL D cA B R) (W0 : lx D cA B o ea S cnt C f H) (hS : va_S (fun q => B ≤ q) s.heap H locs) (V : LV S cnt en g C) {p0 : Int32} {p1 : Int32} {p2 : Int32} {p3 : Int32} (ht : (t_X4_component C p0 p1 p2 p3) = 0) (hz : ls.size = nL) (hw : (rest.map fun v => v.category).sum ≤ 8) (hdg : decode cc pc = .ok (.invokevirtual 59, 3)) (hf : cells + 1 ≤ R.cells ∧ slots + 6 ≤ R.slots)
    (kk : ∀ (H1 : Heap) (locs1 : List Loc), lx D cA B o ea S cnt (g_X4_component C p0 p1 p2 p3) f H1 → va_S (fun q => B ≤ q) s.heap H1 locs1 → W p l e R s m args below meth c H1 locs1 (cells + 1) (slots + 6) Q (F0 m (pc + 3) ls rest)) : W p l e R s m args below meth c H locs cells slots Q (F0 m pc ls (.int p3 :: .int p2 :: .int p1 :: .int p0 :: .ref o :: rest)) := by
  obtain ⟨S1, K, hls, hR1, hR2⟩ := Z
  obtain ⟨ad, E, ho, hea, N, h6⟩ := lx_kw W0
  subst ho
  refine kx_V (As := [.int p0, .int p1, .int p2, .int p3]) (rest := rest) S1 K N hS (dmk_5 (by decide)) rfl (m_X4_component l C p0 p1 p2 p3 N V.dK hls) k2_48 k2_49 k2_50 k1_1 k2_51 (num := 4) (by decide +kernel) rfl ⟨by omega, by omega⟩ hz rfl hw hdg hf (fun E9 ce q9 H1 locs1 hX _ _ _ _ => absurd ht hX.2.1) (fun v9 H1 locs1 hP g2 => ?_)
  obtain ⟨rfl, N1, -⟩ := hP
  refine W.eq (g2 := F0 m (pc + 3) ls rest) rfl ?_
  exact kk H1 locs1 (kw_lx rfl hea N1 (fun _ h => h) h6) g2
theorem la_value (Z : Zw p l s m args c cc nL D cA B R) (W0 : lx D cA B o ea S cnt C f H) (hS : va_S (fun q => B ≤ q) s.heap H locs) (V : LV S cnt en g C) {p0 : Int32} {p1 : Int32} {p2 : Int32} {p3 : Int32} (ht : (t_X4_value C p0 p1 p2 p3) = 0) (hz : ls.size = nL) (hw : (rest.map fun v => v.category).sum ≤ 8) (hdg : decode cc pc = .ok (.invokevirtual 62, 3)) (hf : cells + 1 ≤ R.cells ∧ slots + 6 ≤ R.slots)
    (kk : ∀ (H1 : Heap) (locs1 : List Loc), lx D cA B o ea S cnt (g_X4_value C p0 p1 p2 p3) f H1 → va_S (fun q => B ≤ q) s.heap H1 locs1 → W p l e R s m args below meth c H1 locs1 (cells + 1) (slots + 6) Q (F0 m (pc + 3) ls (.int (f_X4_value C p0 p1 p2 p3) :: rest))) : W p l e R s m args below meth c H locs cells slots Q (F0 m pc ls (.int p3 :: .int p2 :: .int p1 :: .int p0 :: .ref o :: rest)) := by
  obtain ⟨S1, K, hls, hR1, hR2⟩ := Z
  obtain ⟨ad, E, ho, hea, N, h6⟩ := lx_kw W0
  subst ho
  refine kx_V (As := [.int p0, .int p1, .int p2, .int p3]) (rest := rest) S1 K N hS (dmk_5 (by decide)) rfl (m_X4_value l C p0 p1 p2 p3 N V.dK hls) k2_58 k2_59 k2_60 k1_1 k2_61 (num := 4) (by decide +kernel) rfl ⟨by omega, by omega⟩ hz rfl hw hdg hf (fun E9 ce q9 H1 locs1 hX _ _ _ _ => absurd ht hX.2.1) (fun v9 H1 locs1 hP g2 => ?_)
  obtain ⟨rfl, N1, -⟩ := hP
  refine W.eq (g2 := F0 m (pc + 3) ls (.int (f_X4_value C p0 p1 p2 p3) :: rest)) rfl ?_
  exact kk H1 locs1 (kw_lx rfl hea N1 (fun _ h => h) h6) g2
theorem la_element (Z : Zw p l s m args c cc nL D cA B R) (W0 : lx D cA B o ea S cnt C f H) (hS : va_S (fun q => B ≤ q) s.heap H locs) (V : LV S cnt en g C) {p0 : Int32} {p1 : Int32} {p2 : Int32} {p3 : Int32} (ht : (t_X4_element C p0 p1 p2 p3) = 0) (hz : ls.size = nL) (hw : (rest.map fun v => v.category).sum ≤ 8) (hdg : decode cc pc = .ok (.invokevirtual 70, 3)) (hf : cells + 1 ≤ R.cells ∧ slots + 6 ≤ R.slots)
    (kk : ∀ (H1 : Heap) (locs1 : List Loc), lx D cA B o ea S cnt (g_X4_element C p0 p1 p2 p3) f H1 → va_S (fun q => B ≤ q) s.heap H1 locs1 → W p l e R s m args below meth c H1 locs1 (cells + 1) (slots + 6) Q (F0 m (pc + 3) ls (.int (f_X4_element C p0 p1 p2 p3) :: rest))) : W p l e R s m args below meth c H locs cells slots Q (F0 m pc ls (.int p3 :: .int p2 :: .int p1 :: .int p0 :: .ref o :: rest)) := by
  obtain ⟨S1, K, hls, hR1, hR2⟩ := Z
  obtain ⟨ad, E, ho, hea, N, h6⟩ := lx_kw W0
  subst ho
  refine kx_V (As := [.int p0, .int p1, .int p2, .int p3]) (rest := rest) S1 K N hS (dmk_5 (by decide)) rfl (m_X4_element l C p0 p1 p2 p3 N V.dK hls) k2_75 k2_76 k2_77 k1_1 k2_78 (num := 4) (by decide +kernel) rfl ⟨by omega, by omega⟩ hz rfl hw hdg hf (fun E9 ce q9 H1 locs1 hX _ _ _ _ => absurd ht hX.2.1) (fun v9 H1 locs1 hP g2 => ?_)
  obtain ⟨rfl, N1, -⟩ := hP
  refine W.eq (g2 := F0 m (pc + 3) ls (.int (f_X4_element C p0 p1 p2 p3) :: rest)) rfl ?_
  exact kk H1 locs1 (kw_lx rfl hea N1 (fun _ h => h) h6) g2
theorem la_programme (Z : Zw p l s m args c cc nL D cA B R) (W0 : lx D cA B o ea S cnt C f H) (hS : va_S (fun q => B ≤ q) s.heap H locs) (V : LV S cnt en g C) {p0 : Int32} {p1 : Int32} {p2 : Int32} (ht : (t_X4_programme C p0 p1 p2) = 0) (hz : ls.size = nL) (hw : (rest.map fun v => v.category).sum ≤ 8) (hdg : decode cc pc = .ok (.invokevirtual 49, 3)) (hf : cells + 1 ≤ R.cells ∧ slots + 6 ≤ R.slots)
    (kk : ∀ (H1 : Heap) (locs1 : List Loc), lx D cA B o ea S cnt (g_X4_programme C p0 p1 p2) f H1 → va_S (fun q => B ≤ q) s.heap H1 locs1 → W p l e R s m args below meth c H1 locs1 (cells + 1) (slots + 6) Q (F0 m (pc + 3) ls (.int (f_X4_programme C p0 p1 p2) :: rest))) : W p l e R s m args below meth c H locs cells slots Q (F0 m pc ls (.int p2 :: .int p1 :: .int p0 :: .ref o :: rest)) := by
  obtain ⟨S1, K, hls, hR1, hR2⟩ := Z
  obtain ⟨ad, E, ho, hea, N, h6⟩ := lx_kw W0
  subst ho
  refine kx_V (As := [.int p0, .int p1, .int p2]) (rest := rest) S1 K N hS (dmk_5 (by decide)) rfl (m_X4_programme l C p0 p1 p2 N V.dK hls) k2_114 k2_115 k2_116 k1_1 k2_117 (num := 3) (by decide +kernel) rfl ⟨by omega, by omega⟩ hz rfl hw hdg hf (fun E9 ce q9 H1 locs1 hX _ _ _ _ => absurd ht hX.2.1) (fun v9 H1 locs1 hP g2 => ?_)
  obtain ⟨rfl, N1, -⟩ := hP
  refine W.eq (g2 := F0 m (pc + 3) ls (.int (f_X4_programme C p0 p1 p2) :: rest)) rfl ?_
  exact kk H1 locs1 (kw_lx rfl hea N1 (fun _ h => h) h6) g2
theorem la_starts (Z : Zw p l s m args c cc nL D cA B R) (W0 : lx D cA B o ea S cnt C f H) (hS : va_S (fun q => B ≤ q) s.heap H locs) (V : LV S cnt en g C) {p0 : Int32} {p1 : Int32} (ht : (t_X4_starts C p0 p1) = 0) (hz : ls.size = nL) (hw : (rest.map fun v => v.category).sum ≤ 8) (hdg : decode cc pc = .ok (.invokevirtual 73, 3)) (hf : cells + 1 ≤ R.cells ∧ slots + 6 ≤ R.slots)
    (kk : ∀ (H1 : Heap) (locs1 : List Loc), lx D cA B o ea S cnt (g_X4_starts C p0 p1) f H1 → va_S (fun q => B ≤ q) s.heap H1 locs1 → W p l e R s m args below meth c H1 locs1 (cells + 1) (slots + 6) Q (F0 m (pc + 3) ls (.int (f_X4_starts C p0 p1) :: rest))) : W p l e R s m args below meth c H locs cells slots Q (F0 m pc ls (.int p1 :: .int p0 :: .ref o :: rest)) := by
  obtain ⟨S1, K, hls, hR1, hR2⟩ := Z
  obtain ⟨ad, E, ho, hea, N, h6⟩ := lx_kw W0
  subst ho
  refine kx_V (As := [.int p0, .int p1]) (rest := rest) S1 K N hS (dmk_5 (by decide)) rfl (m_X4_starts l C p0 p1 N V.dK hls) k2_165 k2_166 k2_167 k1_1 k2_168 (num := 2) (by decide +kernel) rfl ⟨by omega, by omega⟩ hz rfl hw hdg hf (fun E9 ce q9 H1 locs1 hX _ _ _ _ => absurd ht hX.2.1) (fun v9 H1 locs1 hP g2 => ?_)
  obtain ⟨rfl, N1, -⟩ := hP
  refine W.eq (g2 := F0 m (pc + 3) ls (.int (f_X4_starts C p0 p1) :: rest)) rfl ?_
  exact kk H1 locs1 (kw_lx rfl hea N1 (fun _ h => h) h6) g2
theorem la_jump (Z : Zw p l s m args c cc nL D cA B R) (W0 : lx D cA B o ea S cnt C f H) (hS : va_S (fun q => B ≤ q) s.heap H locs) (V : LV S cnt en 1 C) {p0 : Int32} {p1 : Int32} {p2 : Int32} (ht : (t_X4_jump C p0 p1 p2 (cnt en)) = 0) (hn : cnt en < 12) (z2 : p2 = 0 ∨ p2 = 1) (hz : ls.size = nL) (hw : (rest.map fun v => v.category).sum ≤ 8) (hdg : decode cc pc = .ok (.invokevirtual 25, 3)) (hf : cells + 7 ≤ R.cells ∧ slots + 48 ≤ R.slots)
    (kk : ∀ (H1 : Heap) (locs1 : List Loc), lx D cA B o ea S (cx1 cnt en) (g_X4_jump C p0 p1 p2 (cnt en)) f H1 → va_S (fun q => B ≤ q) s.heap H1 locs1 → W p l e R s m args below meth c H1 locs1 (cells + 7) (slots + 48) Q (F0 m (pc + 3) ls (.int (f_X4_jump C p0 p1 p2 (cnt en)) :: rest))) : W p l e R s m args below meth c H locs cells slots Q (F0 m pc ls (.int p2 :: .int p1 :: .int p0 :: .ref o :: rest)) := by
  obtain ⟨S1, K, hls, hR1, hR2⟩ := Z
  obtain ⟨ad, E, ho, hea, N, h6⟩ := (lx_re W0 V (fun ad => aNE ad (12 * en + cnt en) H.size) (fun ad r hr => aNE_re V V.on_lt hn H.size ad r hr))
  subst ho
  refine kx_V (As := [.int p0, .int p1, .int p2]) (rest := rest) S1 K N hS (dmk_5 (by decide)) rfl (m_X4_jump l C p0 p1 p2 (cnt en) N V.dK hls V.hgo (by rw [V.on_c]; exact V.c8 en V.on_lt) (V.n12 en V.on_lt) (fun _ => by rw [V.on_c]; exact V.nd_E V.on_lt hn) (fun _ => by rw [V.on_c]; exact aNE_ok (by have := V.on_lt; have := V.s12; omega)) z2) k2_217 k2_218 k2_219 k1_1 k2_220 (num := 3) (by decide +kernel) rfl ⟨by omega, by omega⟩ hz rfl hw hdg hf (fun E9 ce q9 H1 locs1 hX _ _ _ _ => absurd ht hX.2.1) (fun v9 H1 locs1 hP g2 => ?_)
  obtain ⟨rfl, N1, -⟩ := hP
  refine W.eq (g2 := F0 m (pc + 3) ls (.int (f_X4_jump C p0 p1 p2 (cnt en)) :: rest)) rfl ?_
  exact kk H1 locs1 (kw_lx rfl hea N1 (fun r h => by rw [V.on_c]; exact dmk_el h) h6) g2
theorem la_spin (Z : Zw p l s m args c cc nL D cA B R) (W0 : lx D cA B o ea S cnt C f H) (hS : va_S (fun q => B ≤ q) s.heap H locs) (V : LV S cnt en 1 C) {p0 : Int32} {p1 : Int32} (ht : (t_X4_spin C p0 p1 (cnt en)) = 0) (hn : cnt en < 12) (hz : ls.size = nL) (hw : (rest.map fun v => v.category).sum ≤ 8) (hdg : decode cc pc = .ok (.invokevirtual 33, 3)) (hf : cells + 7 ≤ R.cells ∧ slots + 48 ≤ R.slots)
    (kk : ∀ (H1 : Heap) (locs1 : List Loc), lx D cA B o ea S (cx1 cnt en) (g_X4_spin C p0 p1 (cnt en)) f H1 → va_S (fun q => B ≤ q) s.heap H1 locs1 → W p l e R s m args below meth c H1 locs1 (cells + 7) (slots + 48) Q (F0 m (pc + 3) ls (.int (f_X4_spin C p0 p1 (cnt en)) :: rest))) : W p l e R s m args below meth c H locs cells slots Q (F0 m pc ls (.int p1 :: .int p0 :: .ref o :: rest)) := by
  obtain ⟨S1, K, hls, hR1, hR2⟩ := Z
  obtain ⟨ad, E, ho, hea, N, h6⟩ := (lx_re W0 V (fun ad => aNE ad (12 * en + cnt en) H.size) (fun ad r hr => aNE_re V V.on_lt hn H.size ad r hr))
  subst ho
  refine kx_V (As := [.int p0, .int p1]) (rest := rest) S1 K N hS (dmk_5 (by decide)) rfl (m_X4_spin l C p0 p1 (cnt en) N V.dK hls V.hgo (by rw [V.on_c]; exact V.c8 en V.on_lt) (V.n12 en V.on_lt) (fun _ => by rw [V.on_c]; exact V.nd_E V.on_lt hn) (fun _ => by rw [V.on_c]; exact aNE_ok (by have := V.on_lt; have := V.s12; omega))) k3_59 k3_60 k3_61 k1_1 k3_62 (num := 2) (by decide +kernel) rfl ⟨by omega, by omega⟩ hz rfl hw hdg hf (fun E9 ce q9 H1 locs1 hX _ _ _ _ => absurd ht hX.2.1) (fun v9 H1 locs1 hP g2 => ?_)
  obtain ⟨rfl, N1, -⟩ := hP
  refine W.eq (g2 := F0 m (pc + 3) ls (.int (f_X4_spin C p0 p1 (cnt en)) :: rest)) rfl ?_
  exact kk H1 locs1 (kw_lx rfl hea N1 (fun r h => by rw [V.on_c]; exact dmk_el h) h6) g2
theorem la_skater (Z : Zw p l s m args c cc nL D cA B R) (W0 : lx D cA B o ea S (fun _ => 0) C f H) (hS : va_S (fun q => B ≤ q) s.heap H locs) (V : LV S (fun _ => 0) 0 0 C)  (ht : (t_X4_skater C S) = 0) (h12 : S < 12) (hz : ls.size = nL) (hw : (rest.map fun v => v.category).sum ≤ 8) (hdg : decode cc pc = .ok (.invokevirtual 37, 3)) (hf : cells + 12 ≤ R.cells ∧ slots + 87 ≤ R.slots)
    (kk : ∀ (H1 : Heap) (locs1 : List Loc), lx D cA B o ea (S + 1) (fun _ => 0) (g_X4_skater C S) f H1 → va_S (fun q => B ≤ q) s.heap H1 locs1 → W p l e R s m args below meth c H1 locs1 (cells + 12) (slots + 87) Q (F0 m (pc + 3) ls (.int (f_X4_skater C S) :: rest))) : W p l e R s m args below meth c H locs cells slots Q (F0 m pc ls (.ref o :: rest)) := by
  obtain ⟨S1, K, hls, hR1, hR2⟩ := Z
  obtain ⟨ad, E, ho, hea, N, h6⟩ := (lx_re W0 V (fun ad => aNP ad S H.size) (fun ad r hr => aNP_re V h12 H.size ad r hr))
  subst ho
  refine kx_V (As := []) (rest := rest) S1 K N hS (dmk_5 (by decide)) rfl (m_X4_skater l C  S N ⟨V.dK.1, trivial⟩ hls V.c4 V.s12 (fun h => V.nd_P h) (fun h => aNP_ok h)) k1_64 k1_65 k1_66 k1_1 k1_67 (num := 0) (by decide +kernel) rfl ⟨by omega, by omega⟩ hz rfl hw hdg hf (fun E9 ce q9 H1 locs1 hX _ _ _ _ => absurd ht hX.2.1) (fun v9 H1 locs1 hP g2 => ?_)
  obtain ⟨rfl, N1, -⟩ := hP
  refine W.eq (g2 := F0 m (pc + 3) ls (.int (f_X4_skater C S) :: rest)) rfl ?_
  exact kk H1 locs1 (kw_lx rfl hea N1 (fun r h => dmk_sk h) h6) g2
theorem la_addsUp (Z : Zw p l s m args c cc nL D cA B R) (W0 : lx D cA B o ea S cnt C f H) (hS : va_S (fun q => B ≤ q) s.heap H locs) (V : LV S cnt en g C) (hz : ls.size = nL) (hw : (rest.map fun v => v.category).sum ≤ 8) (hdg : decode cc pc = .ok (.invokevirtual 66, 3)) (hf : cells ≤ R.cells ∧ slots ≤ R.slots)
    (kk : W p l e R s m args below meth c H locs cells slots Q (F0 m (pc + 3) ls (.int 1 :: rest))) : W p l e R s m args below meth c H locs cells slots Q (F0 m pc ls (.ref o :: rest)) := by
  obtain ⟨S1, K, hls, hR1, hR2⟩ := Z
  obtain ⟨ad, E, ho, hea, N, h6⟩ := lx_kw W0
  subst ho
  exact kc_rV (As := []) (rest := rest) S1 K N hS 0 (by unfold crole; omega) (dmk_5 (by decide)) (ci := 4) rfl (T := TX4) (n := 6) rfl (m_X4_addsUp l C N V.dK) k2_182 k2_183 k2_184 k1_1 k2_185 (num := 0) (by decide +kernel) rfl ⟨by omega, by omega⟩ hz rfl hw hdg hf kk
end LA
