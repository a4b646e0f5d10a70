/-! THE BRIDGE, THE RELATION: what the class holds, told by the reference's numbers -/
/-- of the elements from b on: how many jumps; how many of one kind and turns; the features used; the falls; whether it counts -/
def cnJ (K : Nat → Int32) (b : Nat) : Nat → Int32
  | 0 => 0
  | i + 1 => if K (b + i) = 6 then cnJ K b i else cnJ K b i + 1
def cnA (K L : Nat → Int32) (b : Nat) (p q : Int32) : Nat → Int32
  | 0 => 0
  | i + 1 => if K (b + i) = p then (if L (b + i) = q then cnA K L b p q i + 1 else cnA K L b p q i) else cnA K L b p q i
def cnU (K L F : Nat → Int32) (b : Nat) : Nat → Int32
  | 0 => 0
  | i + 1 => cnU K L F b i ||| (if K (b + i) = 6 then (if L (b + i) ≤ 0 then 0 else F (b + i)) else 0)
def cnF (W : Nat → Int32) (b : Nat) : Nat → Int32
  | 0 => 0
  | i + 1 => if W (b + i) = 0 then cnF W b i else cnF W b i + 1
def ctd (K L : Nat → Int32) (b i : Nat) : Int32 :=
  if K (b + i) = 6 then (if 3 ≤ nI i - cnJ K b i then 0 else 1) else (if 7 ≤ cnJ K b i then 0 else if 2 ≤ cnA K L b (K (b + i)) (L (b + i)) i then 0 else 1)
def tP (M : Nat → Nat → Int32) (k j : Nat) : Nat → Int32 := fun i => M 17 ((36 * i + 3 * k) + j)
def tGr (M : Nat → Nat → Int32) (n : Nat) : Nat → Int32 := fun i => M 16 (144 * i + n)
def RO (C M : Nat → Nat → Int32) : Prop := C 0 4 = M 0 1 ∧ C 0 5 = M 0 2 ∧ (∀ k, k < 12 → C 1 k = if k < nS M then 1 else 0) ∧ ∀ d, d < 3 → C 2 d = 1
def RV (C M : Nat → Nat → Int32) : Prop := ∀ d, d < 3 → (∀ p t, p < 6 → t < 5 → C (33 + d) (5 * p + t) = if t = 0 then 0 else M 18 (29 * d + (4 * p + t - 1))) ∧ ∀ t, t < 5 → C (33 + d) (30 + t) = M 18 (29 * d + (24 + t))
def RPs (C M : Nat → Nat → Int32) (k : Nat) : Prop :=
  (C (40 + k) 2 = if 0 < M 6 k then 1 else 0) ∧ (C (40 + k) 3 = if M 6 k = 2 then 1 else 0) ∧ C (40 + k) 7 = M 7 k ∧ C (40 + k) 8 = M 8 k ∧
  (M 6 k = 0 → C (40 + k) 4 = 0 ∧ C (40 + k) 5 = 1 ∧ C (40 + k) 6 = 0) ∧ (M 0 2 = nI k → C (40 + k) 4 = M 0 3 ∧ C (40 + k) 5 = M 0 4 ∧ C (40 + k) 6 = M 0 5)
def RPc (C M : Nat → Nat → Int32) (k : Nat) : Prop :=
  C (40 + k) 9 = cnJ (M 9) (12 * k) (nE M k) ∧ C (40 + k) 10 = cnF (M 15) (12 * k) (nE M k) ∧ C (40 + k) 11 = cnU (M 9) (M 10) (M 11) (12 * k) (nE M k) ∧
  (∀ i, i < 12 → C (52 + k) i = if i < nE M k then 1 else 0) ∧ ∀ j, j < 3 → C (64 + k) j = 1
def RPv (C M : Nat → Nat → Int32) (k : Nat) : Prop := ∀ j, j < 3 → VR C (3 * k + j) (tP M k j)
def RE (C M : Nat → Nat → Int32) (k i : Nat) : Prop :=
  (C (80 + (12 * k + i)) 0 = M 9 (12 * k + i) ∧ C (80 + (12 * k + i)) 1 = M 10 (12 * k + i) ∧ C (80 + (12 * k + i)) 2 = M 13 (12 * k + i) ∧ C (80 + (12 * k + i)) 3 = M 14 (12 * k + i) ∧ C (80 + (12 * k + i)) 4 = M 15 (12 * k + i) ∧ C (80 + (12 * k + i)) 5 = ctd (M 9) (M 10) (12 * k) i) ∧
  VR C (36 + (12 * k + i)) (tC M (12 * k + i)) ∧ VR C (180 + (12 * k + i)) (tGr M (12 * k + i))
def Rel (C M : Nat → Nat → Int32) : Prop := RO C M ∧ RV C M ∧ (∀ k, k < nS M → RPs C M k ∧ RPc C M k ∧ RPv C M k) ∧ ∀ k i, k < nS M → i < nE M k → RE C M k i
/-- what the reference's numbers keep to -/
def okE (M : Nat → Nat → Int32) (n : Nat) : Prop :=
  (∃ p q : Nat, p < 6 ∧ 1 ≤ q ∧ q ≤ 4 ∧ M 9 n = nI p ∧ M 10 n = nI q) ∨
  (∃ q f : Nat, q ≤ 4 ∧ f < 64 ∧ M 9 n = 6 ∧ M 10 n = nI q ∧ M 11 n = nI f ∧ M 13 n = 0 ∧ M 14 n = 0 ∧ ∀ c, c < 3 → M 12 (3 * n + c) = (-99))
def noE (M : Nat → Nat → Int32) (n : Nat) : Prop := M 13 n = 0 ∧ M 14 n = 0 ∧ M 15 n = 0 ∧ (∀ c, c < 3 → M 12 (3 * n + c) = (-99)) ∧ ∀ j, j < 7 → M 16 (144 * j + n) = (-99)
def IMo (M : Nat → Nat → Int32) : Prop := (M 0 1 = nI (nS M) ∧ nS M ≤ 12) ∧ (M 0 2 = (-1) ∨ ∃ g, g < nS M ∧ M 0 2 = nI g ∧ M 6 g = 1) ∧ (M 0 3 = 0 ∨ M 0 3 = 1) ∧ (M 0 4 = 0 ∨ M 0 4 = 1) ∧ (M 0 5 = 0 ∨ M 0 5 = 1)
def IMp (M : Nat → Nat → Int32) : Prop := ∀ k, k < 12 → (M 8 k = nI (nE M k) ∧ nE M k ≤ 12) ∧ (M 6 k = 0 ∨ M 6 k = 1 ∨ M 6 k = 2) ∧ (nS M ≤ k → nE M k = 0 ∧ M 6 k = 0 ∧ M 7 k = 0 ∧ ∀ j i, j < 3 → i < 7 → tP M k j i = (-99))
def IMe (M : Nat → Nat → Int32) : Prop := ∀ k i, k < 12 → i < 12 → (i < nE M k → okE M (12 * k + i)) ∧ (nE M k ≤ i → noE M (12 * k + i))
def rgI (x lo hi : Int32) : Prop := x = (-99) ∨ (lo ≤ x ∧ x ≤ hi)
def IMn (M : Nat → Nat → Int32) : Prop := (∀ n, n < 432 → rgI (M 12 n) 0 4) ∧ (∀ n, n < 1008 → rgI (M 16 n) (-5) 5) ∧ (∀ n, n < 252 → rgI (M 17 n) 0 40) ∧ ∀ n, n < 87 → 0 ≤ M 18 n ∧ M 18 n ≤ 9999
def IM (M : Nat → Nat → Int32) : Prop := IMo M ∧ IMp M ∧ IMe M ∧ IMn M
def JJ (C M : Nat → Nat → Int32) : Prop := IM M ∧ Rel C M
/-- what the reference reckons with, and what it has thrown, is no part of it -/
theorem JJ_sr {C M M1 : Nat → Nat → Int32} (h : sr M M1) (J : JJ C M) : JJ C M1 := by
  have e6 : M1 6 = M 6 := sr_e h 5
  have e7 : M1 7 = M 7 := sr_e h 6
  have e8 : M1 8 = M 8 := sr_e h 7
  have e9 : M1 9 = M 9 := sr_e h 8
  have e10 : M1 10 = M 10 := sr_e h 9
  have e11 : M1 11 = M 11 := sr_e h 10
  have e12 : M1 12 = M 12 := sr_e h 11
  have e13 : M1 13 = M 13 := sr_e h 12
  have e14 : M1 14 = M 14 := sr_e h 13
  have e15 : M1 15 = M 15 := sr_e h 14
  have e16 : M1 16 = M 16 := sr_e h 15
  have e17 : M1 17 = M 17 := sr_e h 16
  have e18 : M1 18 = M 18 := sr_e h 17
  have f1 : M1 0 1 = M 0 1 := sr_n h (by decide) (by decide)
  have f2 : M1 0 2 = M 0 2 := sr_n h (by decide) (by decide)
  have f3 : M1 0 3 = M 0 3 := sr_n h (by decide) (by decide)
  have f4 : M1 0 4 = M 0 4 := sr_n h (by decide) (by decide)
  have f5 : M1 0 5 = M 0 5 := sr_n h (by decide) (by decide)
  have k : JJ C M1 = JJ C M := by
    unfold JJ IM IMo IMp IMe IMn okE noE Rel RO RV RPs RPc RPv RE tC tGr tP nS nE
    simp only [e6, e7, e8, e9, e10, e11, e12, e13, e14, e15, e16, e17, e18, f1, f2, f3, f4, f5]
  rw [k]
  exact J
theorem sr_th (M : Nat → Nat → Int32) (x : Int32) : sr M (up2 M 0 0 x) := by
  intro a j h
  unfold up2
  rw [if_neg (fun q => by
    have := h q.1
    omega)]
theorem sq_sr {M M1 : Nat → Nat → Int32} (h : sq M M1) : sr M M1 := fun a j q => h a j (fun z => (q z).2)
/-- its parts -/
theorem JJ.many {C M : Nat → Nat → Int32} (J : JJ C M) : M 0 1 = nI (nS M) ∧ nS M ≤ 12 := J.1.1.1
theorem JJ.going {C M : Nat → Nat → Int32} (J : JJ C M) : M 0 2 = (-1) ∨ ∃ g, g < nS M ∧ M 0 2 = nI g ∧ M 6 g = 1 := J.1.1.2.1
theorem JJ.cnt {C M : Nat → Nat → Int32} (J : JJ C M) {k : Nat} (hk : k < 12) : M 8 k = nI (nE M k) ∧ nE M k ≤ 12 := (J.1.2.1 k hk).1
theorem JJ.state {C M : Nat → Nat → Int32} (J : JJ C M) {k : Nat} (hk : k < 12) : M 6 k = 0 ∨ M 6 k = 1 ∨ M 6 k = 2 := (J.1.2.1 k hk).2.1
theorem JJ.none {C M : Nat → Nat → Int32} (J : JJ C M) {k : Nat} (hk : k < 12) (h : nS M ≤ k) : nE M k = 0 ∧ M 6 k = 0 ∧ M 7 k = 0 ∧ ∀ j i, j < 3 → i < 7 → tP M k j i = (-99) := (J.1.2.1 k hk).2.2 h
theorem JJ.ok {C M : Nat → Nat → Int32} (J : JJ C M) {k i : Nat} (hk : k < 12) (hi : i < nE M k) : okE M (12 * k + i) := (J.1.2.2.1 k i hk (Nat.lt_of_lt_of_le hi (J.cnt hk).2)).1 hi
theorem JJ.no {C M : Nat → Nat → Int32} (J : JJ C M) {k i : Nat} (hk : k < 12) (hi : i < 12) (h : nE M k ≤ i) : noE M (12 * k + i) := (J.1.2.2.1 k i hk hi).2 h
theorem JJ.ro {C M : Nat → Nat → Int32} (J : JJ C M) : RO C M := J.2.1
theorem JJ.rv {C M : Nat → Nat → Int32} (J : JJ C M) : RV C M := J.2.2.1
theorem JJ.rp {C M : Nat → Nat → Int32} (J : JJ C M) {k : Nat} (hk : k < nS M) : RPs C M k ∧ RPc C M k ∧ RPv C M k := J.2.2.2.1 k hk
theorem JJ.re {C M : Nat → Nat → Int32} (J : JJ C M) {k i : Nat} (hk : k < nS M) (hi : i < nE M k) : RE C M k i := J.2.2.2.2 k i hk hi
theorem JJ.lt {C M : Nat → Nat → Int32} (J : JJ C M) {k : Nat} (hk : k < nS M) : k < 12 := Nat.lt_of_lt_of_le hk J.many.2
theorem JJ.c8 {C M : Nat → Nat → Int32} (J : JJ C M) {k : Nat} (hk : k < nS M) : C (40 + k) 8 = nI (nE M k) := (J.rp hk).1.2.2.2.1.trans (J.cnt (J.lt hk)).1
theorem JJ.c1 {C M : Nat → Nat → Int32} (J : JJ C M) {k : Nat} (hk : k < 12) : C 1 k = 0 ↔ nS M ≤ k := by
  rw [J.ro.2.2.1 k hk]
  by_cases h : k < nS M
  · rw [if_pos h]
    exact ⟨fun q => absurd q (by decide), fun q => absurd h (by omega)⟩
  · rw [if_neg h]
    exact ⟨fun _ => by omega, fun _ => rfl⟩
theorem JJ.c52 {C M : Nat → Nat → Int32} (J : JJ C M) {k i : Nat} (hk : k < nS M) (hi : i < 12) : C (52 + k) i = 0 ↔ nE M k ≤ i := by
  rw [(J.rp hk).2.1.2.2.2.1 i hi]
  by_cases h : i < nE M k
  · rw [if_pos h]
    exact ⟨fun q => absurd q (by decide), fun q => absurd h (by omega)⟩
  · rw [if_neg h]
    exact ⟨fun _ => by omega, fun _ => rfl⟩
theorem JJ.c64 {C M : Nat → Nat → Int32} (J : JJ C M) {k j : Nat} (hk : k < nS M) (hj : j < 3) : ¬ C (64 + k) j = 0 := by
  rw [(J.rp hk).2.1.2.2.2.2 j hj]
  decide
theorem vt_at (d p t : Nat) (hp : p < 6) (ht : 1 ≤ t) : f_X5_valueAt (nI d) (nI p) (nI t) = nI (29 * d + (4 * p + t - 1)) := by
  unfold f_X5_valueAt
  rw [if_neg (show ¬ nI p = 6 from fun q => by
    have := (nI_eq (by omega) (by decide)).mp (show nI p = nI 6 from q)
    omega), show (29 : Int32) = nI 29 from rfl, show (4 : Int32) = nI 4 from rfl, pk_mul, pk_mul, nI_add]
  obtain ⟨r, hr⟩ : ∃ r, 4 * p + t = r + 1 := ⟨4 * p + t - 1, by omega⟩
  rw [hr, nI_pred, nI_add, Nat.add_sub_cancel]
theorem vt_at6 (d t : Nat) : f_X5_valueAt (nI d) 6 (nI t) = nI (29 * d + (24 + t)) := by
  unfold f_X5_valueAt
  rw [if_pos rfl, show (29 : Int32) = nI 29 from rfl, show (24 : Int32) = nI 24 from rfl, pk_mul, nI_add, nI_add]
theorem nI6 {p : Nat} (hp : p < 6) : ¬ nI p = 6 := fun q => by
  have := (nI_eq (by omega) (by decide)).mp (show nI p = nI 6 from q)
  omega
theorem JJ.ri {C M : Nat → Nat → Int32} (J : JJ C M) : RI M := by
  refine ⟨J.many.1, J.many.2, fun sk h => J.cnt h, fun sk e ed hs he hd => ?_⟩
  rcases J.ok hs he with ⟨p, q, h1, h2, h3, h4, h5⟩ | ⟨q, f, h1, -, h3, h4, -⟩
  · refine ⟨fun z => absurd (h4.symm.trans z) (nI6 h1), fun _ t ht hz => ?_⟩
    rw [h4]
    rcases ht with ht | ht
    · rw [ht, h5, vt_at ed p q h1 h2]
      exact pk_in (29 * ed + (4 * p + q - 1)) 87 (by omega) rfl (by decide)
    · rw [h5] at ht
      obtain ⟨r, rfl⟩ : ∃ r, q = r + 1 := ⟨q - 1, by omega⟩
      rw [nI_pred] at ht
      by_cases hr : r = 0
      · subst hr
        exact absurd (ht.trans nI_0) hz
      · rw [ht, vt_at ed p r h1 (by omega)]
        exact pk_in (29 * ed + (4 * p + r - 1)) 87 (by omega) rfl (by decide)
  · refine ⟨fun _ => ?_, fun z => absurd h3 z⟩
    rw [h4, vt_at6]
    exact pk_in (29 * ed + (24 + q)) 87 (by omega) rfl (by decide)
