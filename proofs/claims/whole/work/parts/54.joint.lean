/-! THE JOINT WORLD: class, reference, the list out -/
def dmn (M : Nat → Nat → Int32) (r : Nat) : Prop := r ≤ 6 ∨ (16 ≤ r ∧ r ≤ 28) ∨ (30 ≤ r ∧ r < 36) ∨ (∃ k, k < nS M ∧ (r = 40 + k ∨ r = 52 + k ∨ r = 64 + k ∨ ∃ j, j < 3 ∧ rV (3 * k + j) r)) ∨ ∃ k i, k < nS M ∧ i < nE M k ∧ (r = 80 + (12 * k + i) ∨ rV (36 + (12 * k + i)) r ∨ rV (180 + (12 * k + i)) r)
theorem dmn_P {M : Nat → Nat → Int32} {k r : Nat} (hk : k < nS M) (h : r = 40 + k ∨ r = 52 + k ∨ r = 64 + k) : dmn M r := by
  refine Or.inr (Or.inr (Or.inr (Or.inl ⟨k, hk, ?_⟩)))
  rcases h with h | h | h
  · exact Or.inl h
  · exact Or.inr (Or.inl h)
  · exact Or.inr (Or.inr (Or.inl h))
theorem dmn_Pv {M : Nat → Nat → Int32} {k j r : Nat} (hk : k < nS M) (hj : j < 3) (h : rV (3 * k + j) r) : dmn M r := Or.inr (Or.inr (Or.inr (Or.inl ⟨k, hk, Or.inr (Or.inr (Or.inr ⟨j, hj, h⟩))⟩)))
theorem dmn_E {M : Nat → Nat → Int32} {k i r : Nat} (hk : k < nS M) (hi : i < nE M k) (h : r = 80 + (12 * k + i) ∨ rV (36 + (12 * k + i)) r ∨ rV (180 + (12 * k + i)) r) : dmn M r := Or.inr (Or.inr (Or.inr (Or.inr ⟨k, i, hk, hi, h⟩)))
theorem dmn_m {M : Nat → Nat → Int32} {r : Nat} (h : mrole r) : dmn M r := by
  unfold mrole at h
  rcases h with h | h
  · exact Or.inl (by omega)
  · exact Or.inr (Or.inl h)
theorem dmn_e {M : Nat → Nat → Int32} {r : Nat} (h : 30 ≤ r ∧ r < 36) : dmn M r := Or.inr (Or.inr (Or.inl h))
theorem dmn_6 {M : Nat → Nat → Int32} {r : Nat} (h : r ≤ 6) : dmn M r := Or.inl h
theorem JJ.dK {C M : Nat → Nat → Int32} (J : JJ C M) : dK (dmn M) C := by
  refine ⟨fun r hr => dmn_6 (by omega), fun d hd => ⟨dmn_e (by omega), dmn_e (by omega)⟩, fun k hk hc => ?_⟩
  have hk2 : k < nS M := by
    by_cases q : k < nS M
    · exact q
    · exact absurd ((J.c1 hk).mpr (by omega)) hc
  refine ⟨dmn_P hk2 (Or.inl rfl), dmn_P hk2 (Or.inr (Or.inl rfl)), dmn_P hk2 (Or.inr (Or.inr rfl)), fun j hj _ => ⟨dmn_Pv hk2 hj (Or.inl rfl), dmn_Pv hk2 hj (Or.inr (Or.inl rfl)), dmn_Pv hk2 hj (Or.inr (Or.inr rfl))⟩, fun i hi hci => ?_⟩
  have hi2 : i < nE M k := by
    by_cases q : i < nE M k
    · exact q
    · exact absurd ((J.c52 hk2 hi).mpr (by omega)) hci
  exact ⟨dmn_E hk2 hi2 (Or.inl rfl), ⟨dmn_E hk2 hi2 (Or.inr (Or.inl (Or.inl rfl))), dmn_E hk2 hi2 (Or.inr (Or.inl (Or.inr (Or.inl rfl)))), dmn_E hk2 hi2 (Or.inr (Or.inl (Or.inr (Or.inr rfl))))⟩, ⟨dmn_E hk2 hi2 (Or.inr (Or.inr (Or.inl rfl))), dmn_E hk2 hi2 (Or.inr (Or.inr (Or.inr (Or.inl rfl)))), dmn_E hk2 hi2 (Or.inr (Or.inr (Or.inr (Or.inr rfl))))⟩⟩
theorem JJ.hgo {C M : Nat → Nat → Int32} (J : JJ C M) (h : ¬ C 0 5 = (-1)) : (C 0 5).toNatClampNeg < 12 ∧ ¬ C 1 (C 0 5).toNatClampNeg = 0 := by
  rw [J.ro.2.1] at h ⊢
  obtain ⟨g1, g2, g3⟩ := J.gk h
  exact ⟨J.lt g2, J.c1' (J.lt g2) g2⟩
/-- the same counts: the same roles -/
theorem dmn_same {C C1 M M1 : Nat → Nat → Int32} (J : JJ C M) (J1 : JJ C1 M1) (h4 : C1 0 4 = C 0 4) (h8 : ∀ k, k < 12 → C1 (40 + k) 8 = C (40 + k) 8) {r : Nat} (h : dmn M1 r) : dmn M r := by
  have hS : nS M1 = nS M := by
    unfold nS
    rw [← J.ro.1, ← J1.ro.1, h4]
  have hE : ∀ k, k < nS M → nE M1 k = nE M k := by
    intro k hk
    have hk12 := J.lt hk
    have a := J.c8 hk
    have b := J1.c8 (k := k) (by omega)
    have l1 := (J.cnt hk12).2
    have l2 := (J1.cnt hk12).2
    rw [h8 k hk12, a] at b
    exact ((nI_eq (by omega) (by omega)).mp b).symm
  rcases h with h | h | h | ⟨k, hk, h⟩ | ⟨k, i, hk, hi, h⟩
  · exact Or.inl h
  · exact Or.inr (Or.inl h)
  · exact Or.inr (Or.inr (Or.inl h))
  · exact Or.inr (Or.inr (Or.inr (Or.inl ⟨k, by omega, h⟩)))
  · refine dmn_E (k := k) (i := i) (by omega) ?_ h
    rw [← hE k (by omega)]
    exact hi
/-- beyond their ends lists hold nothing -/
def trC (C : Nat → Nat → Int32) : Nat → Nat → Int32 := fun r i => if (r = 1 ∧ 12 ≤ i) ∨ (r = 2 ∧ 3 ≤ i) ∨ (52 ≤ r ∧ r < 64 ∧ 12 ≤ i) ∨ (64 ≤ r ∧ r < 80 ∧ 3 ≤ i) then 0 else C r i
theorem tr_row (C : Nat → Nat → Int32) {r : Nat} (h : ¬ (r = 1 ∨ r = 2 ∨ (52 ≤ r ∧ r < 80))) : trC C r = C r := by
  funext i
  exact if_neg (by omega)
theorem tr_in (C : Nat → Nat → Int32) {r i : Nat} (h : ¬ ((r = 1 ∧ 12 ≤ i) ∨ (r = 2 ∧ 3 ≤ i) ∨ (52 ≤ r ∧ r < 64 ∧ 12 ≤ i) ∨ (64 ≤ r ∧ r < 80 ∧ 3 ≤ i))) : trC C r i = C r i := if_neg h
theorem JJ_tr {C M : Nat → Nat → Int32} (J : JJ C M) : JJ (trC C) M := by
  refine ⟨J.1, ?_, RV_congr (fun d hd => tr_row C (by omega)) J.rv, fun k hk => ?_, fun k i hk hi => ?_⟩
  · obtain ⟨r1, r2, r3, r4⟩ := J.ro
    unfold RO
    rw [tr_row C (show ¬ ((0 : Nat) = 1 ∨ (0 : Nat) = 2 ∨ (52 ≤ 0 ∧ 0 < 80)) by omega)]
    refine ⟨r1, r2, fun k hk => ?_, fun d hd => ?_⟩
    · rw [tr_in C (by omega)]
      exact r3 k hk
    · rw [tr_in C (by omega)]
      exact r4 d hd
  · have hk12 := J.lt hk
    obtain ⟨q1, q2, q3⟩ := J.rp hk
    refine ⟨?_, ?_, fun j hj => VR_congr (fun r hr => tr_row C (by unfold rV at hr; omega)) (q3 j hj)⟩
    · unfold RPs at q1 ⊢
      rw [tr_row C (by omega)]
      exact q1
    · unfold RPc at q2 ⊢
      rw [tr_row C (show ¬ (40 + k = 1 ∨ 40 + k = 2 ∨ (52 ≤ 40 + k ∧ 40 + k < 80)) by omega)]
      refine ⟨q2.1, q2.2.1, q2.2.2.1, fun i hi => ?_, fun j hj => ?_⟩
      · rw [tr_in C (by omega)]
        exact q2.2.2.2.1 i hi
      · rw [tr_in C (by omega)]
        exact q2.2.2.2.2 j hj
  · have hk12 := J.lt hk
    have hi12 := (J.cnt hk12).2
    exact RE_congr (tr_row C (by omega)) (fun r hr => tr_row C (by unfold rV at hr; omega)) (fun r hr => tr_row C (by unfold rV at hr; omega)) (J.re hk hi)
theorem arrV_c {c : ClassId} {n : Nat} {f g : Nat → Value} (h : ∀ j, j < n → f j = g j) : arrV c n f = arrV c n g := by
  unfold arrV
  have e : (fun j : Fin n => f j.val) = fun j => g j.val := funext fun j => h j.val j.isLt
  rw [e]
theorem at_q {D : va_G} {H : Heap} {a n : Nat} {c : ClassId} {f g : Nat → Option Nat} (h : ∀ j, j < n → f j = g j) (q : va_at D vwCl (a, .inl (c, n, .inr (.inr (.inr (.inr f))))) H) : va_at D vwCl (a, .inl (c, n, .inr (.inr (.inr (.inr g))))) H := by
  have q : H[a]? = some (vp_cell c (n, .inr (.inr (.inr (.inr f))))) := q
  show H[a]? = some (vp_cell c (n, .inr (.inr (.inr (.inr g)))))
  rw [q, vp_cell_q, vp_cell_q, arrV_c (fun j hj => by rw [h j hj])]
/-- a role at other foreseen addresses -/
theorem sh_re {D : va_G} {cA : Nat → ClassId} {ad ad' : Nat → Nat} {C M : Nat → Nat → Int32} {H : Heap} {a r : Nat} (J : JJ C M) (h : ∀ r, dmn M r → ad' r = ad r) (hc : crole r) (hd : dmn M r) (q : va_at D vwCl (a, sh cA ad r (C r)) H) : va_at D vwCl (a, sh cA ad' r (trC C r)) H := by
  have vo : ∀ v, dmn M (300 + 3 * v + 1) → dmn M (300 + 3 * v + 2) → rV v r → va_at D vwCl (a, sh cA ad' r (trC C r)) H := by
    intro v h1 h2 hr
    rw [tr_row C (by unfold rV at hr; omega)]
    rcases hr with rfl | rfl | rfl
    · rw [sh_V] at q ⊢
      unfold fsV at q ⊢
      rw [h _ h1, h _ h2]
      exact q
    · rw [sh_Vn] at q ⊢
      exact q
    · rw [sh_Vt] at q ⊢
      exact q
  rcases hd with hd | hd | hd | ⟨k, hk, hd⟩ | ⟨k, i, hk, hi, hd⟩
  · have k5 : r = 0 ∨ r = 1 ∨ r = 2 ∨ r = 3 ∨ r = 4 := by
      unfold crole at hc
      omega
    rcases k5 with rfl | rfl | rfl | rfl | rfl
    · rw [tr_row C (by omega), sh_K] at *
      unfold fsK at q ⊢
      rw [h 1 (dmn_6 (by omega)), h 2 (dmn_6 (by omega)), h 3 (dmn_6 (by omega)), h 4 (dmn_6 (by omega))]
      have e : gv ad' (C 0 5) = gv ad (C 0 5) := by
        unfold gv
        by_cases z : C 0 5 = (-1)
        · rw [if_pos z, if_pos z]
        · rw [if_neg z, if_neg z]
          rw [J.ro.2.1] at z ⊢
          obtain ⟨g1, g2, g3⟩ := J.gk z
          rw [h _ (dmn_P g2 (Or.inl rfl))]
      rw [e]
      exact q
    · rw [sh_1] at q ⊢
      refine at_q (fun j hj => ?_) q
      unfold rf
      rw [tr_in C (by omega)]
      by_cases z : C 1 j = 0
      · rw [if_pos z, if_pos z]
      · rw [if_neg z, if_neg z, h _ (dmn_P (k := j) (by
          by_cases g : j < nS M
          · exact g
          · exact absurd ((J.c1 hj).mpr (by omega)) z) (Or.inl rfl))]
    · rw [sh_2] at q ⊢
      refine at_q (fun j hj => ?_) q
      unfold rf
      rw [tr_in C (by omega), h _ (dmn_e (by omega))]
    · rw [tr_row C (by omega)]
      exact q
    · rw [tr_row C (by omega)]
      exact q
  · unfold crole at hc
    omega
  · rw [tr_row C (by omega)]
    by_cases g : r < 33
    · obtain ⟨d, rfl⟩ : ∃ d, r = 30 + d := ⟨r - 30, by omega⟩
      rw [sh_ed (by omega)] at q ⊢
      rw [h _ (dmn_e (by omega))]
      exact q
    · obtain ⟨d, rfl⟩ : ∃ d, r = 33 + d := ⟨r - 33, by omega⟩
      rw [sh_va (by omega)] at q ⊢
      exact q
  · have hk12 := J.lt hk
    rcases hd with rfl | rfl | rfl | ⟨j, hj, hr⟩
    · rw [tr_row C (by omega)]
      rw [sh_P hk12] at q ⊢
      unfold fsP at q ⊢
      rw [h _ (dmn_P hk (Or.inr (Or.inl rfl))), h _ (dmn_P hk (Or.inr (Or.inr rfl)))]
      exact q
    · rw [sh_Pe hk12] at q ⊢
      refine at_q (fun j hj => ?_) q
      unfold rf
      rw [tr_in C (by omega)]
      by_cases z : C (52 + k) j = 0
      · rw [if_pos z, if_pos z]
      · rw [if_neg z, if_neg z, h _ (dmn_E (i := j) hk (by
          by_cases g : j < nE M k
          · exact g
          · exact absurd ((J.c52 hk hj).mpr (by omega)) z) (Or.inl (by omega)))]
    · rw [sh_Pc hk12] at q ⊢
      refine at_q (fun j hj => ?_) q
      unfold rf3
      rw [tr_in C (by omega), h _ (dmn_Pv hk hj (Or.inl rfl))]
    · exact vo _ (dmn_Pv hk hj (Or.inr (Or.inl rfl))) (dmn_Pv hk hj (Or.inr (Or.inr rfl))) hr
  · have hk12 := J.lt hk
    have hi12 := (J.cnt hk12).2
    rcases hd with rfl | hr | hr
    · rw [tr_row C (by omega)]
      rw [sh_L (by omega)] at q ⊢
      unfold fsL at q ⊢
      rw [h _ (dmn_E hk hi (Or.inr (Or.inl (Or.inl rfl)))), h _ (dmn_E hk hi (Or.inr (Or.inr (Or.inl rfl))))]
      exact q
    · exact vo _ (dmn_E hk hi (Or.inr (Or.inl (Or.inr (Or.inl rfl))))) (dmn_E hk hi (Or.inr (Or.inl (Or.inr (Or.inr rfl))))) hr
    · exact vo _ (dmn_E hk hi (Or.inr (Or.inr (Or.inr (Or.inl rfl))))) (dmn_E hk hi (Or.inr (Or.inr (Or.inr (Or.inr rfl))))) hr
/-- the joint world -/
def jw (D : va_G) (cA : Nat → ClassId) (B : Nat) (ad : Nat → Nat) (C M : Nat → Nat → Int32) (H : Heap) : Prop :=
  JJ C M ∧ ∃ (f : Nat → Int64) (E : Nat → va_E), nh D B (dmn M) ad E H ∧ (∀ r, crole r → dmn M r → E r = sh cA ad r (C r)) ∧ mi cA ad M E ∧ E 6 = .inl (cA 2, 1, .inr (.inl f))
theorem jw_re {D : va_G} {cA : Nat → ClassId} {B : Nat} {ad ad' : Nat → Nat} {C M : Nat → Nat → Int32} {H : Heap} (W : jw D cA B ad C M H) (h : ∀ r, dmn M r → ad' r = ad r) : jw D cA B ad' (trC C) M H := by
  obtain ⟨J, f, E, h1, h2, h3, h4⟩ := W
  have n6 : ¬ ((6 : Nat) < 5 ∨ 30 ≤ 6) := by omega
  refine ⟨JJ_tr J, f, fun r => if r < 5 ∨ 30 ≤ r then sh cA ad' r (trC C r) else E r, ⟨fun r hr => ?_, fun a b ha hb hab => ?_⟩, fun r hc hr => if_pos hc, ⟨?_, fun i hi1 hi2 => ?_⟩, ?_⟩
  · obtain ⟨a1, a2⟩ := h1.1 r hr
    rw [h r hr]
    refine ⟨?_, a2⟩
    show va_at D vwCl (ad r, if r < 5 ∨ 30 ≤ r then sh cA ad' r (trC C r) else E r) H
    by_cases hc : r < 5 ∨ 30 ≤ r
    · rw [if_pos hc]
      rw [h2 r hc hr] at a1
      exact sh_re J h hc hr a1
    · rw [if_neg hc]
      exact a1
  · rw [h a ha, h b hb] at hab
    exact h1.2 a b ha hb hab
  · show (if (5 : Nat) < 5 ∨ 30 ≤ 5 then _ else E 5) = _
    rw [if_neg (by omega), h3.1]
    have e : mfl ad' M = mfl ad M := by
      unfold mfl
      rw [h 16 (dmn_m (by unfold mrole; omega)), h 17 (dmn_m (by unfold mrole; omega)), h 18 (dmn_m (by unfold mrole; omega)), h 19 (dmn_m (by unfold mrole; omega)), h 20 (dmn_m (by unfold mrole; omega)), h 21 (dmn_m (by unfold mrole; omega)), h 22 (dmn_m (by unfold mrole; omega)), h 23 (dmn_m (by unfold mrole; omega)), h 24 (dmn_m (by unfold mrole; omega)), h 25 (dmn_m (by unfold mrole; omega)), h 26 (dmn_m (by unfold mrole; omega)), h 27 (dmn_m (by unfold mrole; omega)), h 28 (dmn_m (by unfold mrole; omega))]
    rw [e]
  · show (if 10 + i < 5 ∨ 30 ≤ 10 + i then _ else E (10 + i)) = _
    rw [if_neg (by omega)]
    exact h3.2 i hi1 hi2
  · show (if (6 : Nat) < 5 ∨ 30 ≤ 6 then _ else E 6) = _
    rw [if_neg n6]
    exact h4
/-- its halves: the class's (with the list out), then the reference's -/
theorem jw_ow {D : va_G} {cA : Nat → ClassId} {B : Nat} {ad : Nat → Nat} {C M : Nat → Nat → Int32} {H : Heap} (W : jw D cA B ad C M H) : ∃ (y : Int64) (X : Nat → va_E), ow D cA B (dmn M) ad X C y H ∧ mi cA ad M X := by
  obtain ⟨J, f, E, h1, h2, h3, h4⟩ := W
  refine ⟨f 0, E, ⟨f, rfl, dmn_6 (by omega), E, h1, h2, fun r hr => ?_⟩, h3⟩
  unfold X6
  by_cases q : r = 6
  · subst q
    rw [if_pos rfl, h4]
  · rw [if_neg q]
theorem ow_mw {D : va_G} {cA : Nat → ClassId} {B : Nat} {ad : Nat → Nat} {dom : Nat → Prop} {X : Nat → va_E} {C M : Nat → Nat → Int32} {y : Int64} {H : Heap} (W : ow D cA B dom ad X C y H) (hm : mi cA ad M X) (hd : ∀ r, mrole r → dom r) : ∃ (f : Nat → Int64) (E1 : Nat → va_E), f 0 = y ∧ mw D cA B dom ad E1 M H ∧ (∀ r, crole r → dom r → E1 r = sh cA ad r (C r)) ∧ E1 6 = .inl (cA 2, 1, .inr (.inl f)) ∧ dom 6 := by
  obtain ⟨f, hf, h6, E, h1, h2, h3⟩ := W
  refine ⟨f, E, hf, ⟨E, h1, ⟨?_, fun i hi1 hi2 => ?_⟩, fun r _ => rfl, hd⟩, h2, ?_, h6⟩
  · rw [h3 5 (by unfold crole; omega)]
    unfold X6
    rw [if_neg (by omega), hm.1]
  · rw [h3 (10 + i) (by unfold crole; omega)]
    unfold X6
    rw [if_neg (by omega), hm.2 i hi1 hi2]
  · rw [h3 6 (by unfold crole; omega)]
    unfold X6
    rw [if_pos rfl]
/-- behind the reference's call -/
theorem mw_jw {D : va_G} {cA : Nat → ClassId} {B : Nat} {ad : Nat → Nat} {dom : Nat → Prop} {E1 : Nat → va_E} {C M1 : Nat → Nat → Int32} {f : Nat → Int64} {H : Heap} (N : mw D cA B dom ad E1 M1 H) (hc : ∀ r, crole r → dom r → E1 r = sh cA ad r (C r)) (h6 : E1 6 = .inl (cA 2, 1, .inr (.inl f))) (J : JJ C M1) (hd : ∀ r, dmn M1 r → dom r) : jw D cA B ad C M1 H := by
  obtain ⟨E, h1, h2, h3, h4⟩ := N
  refine ⟨J, f, E, nh_sub h1 hd, fun r hr hr2 => ?_, h2, ?_⟩
  · rw [h3 r (by unfold crole at hr; unfold mrole; omega)]
    exact hc r hr (hd r hr2)
  · rw [h3 6 (by unfold mrole; omega)]
    exact h6
