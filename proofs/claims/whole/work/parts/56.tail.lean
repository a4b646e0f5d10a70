/-! THE LAW: what lies behind the two calls -/
theorem tell_lt {C : Nat → Nat → Int32} {v r : Nat} {p x : Int32} (h : r < 300) : g_X3_tell C v p x r = C r := by
  unfold g_X3_tell
  split
  · rfl
  · unfold g_X3_recount
    rw [rec_row _ _ _ _ (by omega), up2_ne _ _ _ (by omega), up2_ne _ _ _ (by omega)]
/-- the counts of the class -/
def cs (C C1 : Nat → Nat → Int32) : Prop := C1 0 4 = C 0 4 ∧ ∀ k, k < 12 → C1 (40 + k) 8 = C (40 + k) 8
theorem cs_rf (C : Nat → Nat → Int32) : cs C C := ⟨rfl, fun _ _ => rfl⟩
theorem cs_rows {C C1 : Nat → Nat → Int32} (h : ∀ r, r < 52 → (r = 0 ∨ 40 ≤ r) → C1 r = C r) : cs C C1 := ⟨by rw [h 0 (by decide) (Or.inl rfl)], fun k hk => by rw [h _ (by omega) (Or.inr (by omega))]⟩
theorem cs_begin (C : Nat → Nat → Int32) (p0 : Int32) : cs C (g_X4_begin C p0) := by
  unfold g_X4_begin
  split
  · exact cs_rf C
  · split
    · split
      · refine ⟨?_, fun k hk => ?_⟩
        · rw [up2_j _ _ (by decide), up2_j _ _ (by decide)]
        · rw [up2_j _ _ (by decide), up2_j _ _ (by decide)]
      · exact cs_rf C
    · exact cs_rf C
theorem cs_turn (C : Nat → Nat → Int32) (p0 : Int32) : cs C (g_X4_turn C p0) := by
  unfold g_X4_turn
  by_cases a : f_X4_isIn p0 0 5 = 0
  · rw [if_pos a]
    exact cs_rf C
  · rw [if_neg a]
    split
    · exact cs_rf C
    · split
      · exact cs_rf C
      · generalize (C 0 5).toNatClampNeg = g
        refine ⟨by rw [turn_r (by omega)], fun k hk => ?_⟩
        by_cases e : k = g
        · subst e
          exact (turn_g (C := C) (k := k) a).2.2.2.2 8 (by decide) (by decide) (by decide) (by decide)
        · rw [turn_r (by omega)]
theorem cs_end (C : Nat → Nat → Int32) : cs C (g_X4_end C) := by
  unfold g_X4_end
  split
  · exact cs_rf C
  · refine ⟨?_, fun k hk => ?_⟩
    · rw [up2_j _ _ (by decide), up2_j _ _ (by decide)]
    · rw [up2_j _ _ (by decide), up2_j _ _ (by decide)]
theorem cs_call (C : Nat → Nat → Int32) (p0 p1 p2 : Int32) : cs C (g_X4_call C p0 p1 p2) := by
  unfold g_X4_call
  repeat' split
  all_goals first | exact cs_rf C | exact cs_rows (fun r hr _ => tell_lt (by omega))
theorem cs_grade (C : Nat → Nat → Int32) (p0 p1 p2 p3 : Int32) : cs C (g_X4_grade C p0 p1 p2 p3) := by
  unfold g_X4_grade
  repeat' split
  all_goals first | exact cs_rf C | exact cs_rows (fun r hr _ => tell_lt (by omega))
theorem cs_component (C : Nat → Nat → Int32) (p0 p1 p2 p3 : Int32) : cs C (g_X4_component C p0 p1 p2 p3) := by
  unfold g_X4_component
  repeat' split
  all_goals first | exact cs_rf C | exact cs_rows (fun r hr _ => tell_lt (by omega))
theorem ed_lt {C M : Nat → Nat → Int32} (J : JJ C M) {p : Int32} (h : ¬ f_X4_editionAt C p = 0) : p.toNatClampNeg < 3 := by
  rw [J.ed p] at h
  exact (in2 h).2
theorem cs_value {C M : Nat → Nat → Int32} (J : JJ C M) (p0 p1 p2 p3 : Int32) : cs C (g_X4_value C p0 p1 p2 p3) := by
  unfold g_X4_value
  by_cases a : f_X4_editionAt C p0 = 0
  · rw [if_pos a]
    exact cs_rf C
  · have h := ed_lt J a
    rw [if_neg a]
    unfold g_X0_replace
    repeat' split
    all_goals first | exact cs_rf C | exact cs_rows (fun r hr h2 => up2_ne _ _ _ (by omega))
theorem cs_fill (C : Nat → Nat → Int32) (d : Nat) : cs C (g_X4_fillRanking C d) := cs_rows (fun r hr h2 => fl_rows C d 12 r (by omega) (by omega))
theorem cs_programme (C : Nat → Nat → Int32) (p0 p1 p2 : Int32) : cs C (g_X4_programme C p0 p1 p2) := by
  unfold g_X4_programme
  split
  · exact cs_rf C
  · split
    · exact cs_rf C
    · split
      · exact cs_rf C
      · split
        · exact cs_rf C
        · split
          · exact cs_rf C
          · split
            · exact cs_rf C
            · split
              · exact cs_rf C
              · split
                · exact cs_rf C
                · exact cs_fill C _
theorem cs_starts (C : Nat → Nat → Int32) (p0 p1 : Int32) : cs C (g_X4_starts C p0 p1) := by
  unfold g_X4_starts
  split
  · exact cs_rf C
  · split
    · exact cs_rf C
    · exact cs_fill C _
/-- what is known behind the class's call -/
def Aft (D : va_G) (cA : Nat → ClassId) (B : Nat) (ad : Nat → Nat) (X : Nat → va_E) (G : Nat → Nat → Int32) (pr : Int64 → Prop) (h : Heap) : Prop :=
  ∃ (dom' : Nat → Prop) (C' : Nat → Nat → Int32) (y' : Int64), ow D cA B dom' ad X C' y' h ∧ JJ C' G ∧ (∀ r, dmn G r → dom' r) ∧ (G 0 0 = 0 → pr y')
theorem aft_of {D : va_G} {cA : Nat → ClassId} {B : Nat} {ad : Nat → Nat} {X : Nat → va_E} {C M g4 g5 : Nat → Nat → Int32} {ok : List Nat} {cod : Nat → Int32} {t : Nat} {f4 f5 : Int32} {dom1 : Nat → Prop} {v : Option Value} {h : Heap} {y y1 : Int64} {pr : Int64 → Prop} (J : JJ C M) (A : Ans C ok cod t f4 g4 f5 g5) (h0 : cod 0 = 0) (hz : ∀ t, t ∈ ok → ¬ t = 0 → ¬ cod t = 0) (hd : t = 0 → JJ g4 g5 → ∀ r, dmn g5 r → dom1 r) (hy : t = 0 → f4 = f5 → pr y1)
    (hP : (t = 0 → v = some (.int 0) ∧ ow D cA B dom1 ad X g4 y1 h) ∧ (¬ t = 0 → v = some (.int (cod t)) ∧ ow D cA B (dmn M) ad X C y h)) : v = some (.int (g5 0 0)) ∧ Aft D cA B ad X g5 pr h := by
  obtain ⟨a1, a2, a3, a4⟩ := A
  by_cases e : t = 0
  · obtain ⟨p1, p2⟩ := hP.1 e
    obtain ⟨q1, q2⟩ := a3 e
    rw [a2, e, h0]
    exact ⟨p1, dom1, g4, y1, p2, q2, hd e q2, fun _ => hy e q1⟩
  · obtain ⟨p1, p2⟩ := hP.2 e
    have q2 := a4 e
    refine ⟨by rw [a2]; exact p1, dmn M, C, y, p2, q2, fun r hr => dmn_same J q2 rfl (fun _ _ => rfl) hr, fun z => ?_⟩
    rw [a2] at z
    exact absurd z (hz t a1 e)
theorem aft_same {D : va_G} {cA : Nat → ClassId} {B : Nat} {ad : Nat → Nat} {X : Nat → va_E} {C M g4 g5 : Nat → Nat → Int32} {ok : List Nat} {cod : Nat → Int32} {t : Nat} {f4 f5 : Int32} {v : Option Value} {h : Heap} {y y1 : Int64} {pr : Int64 → Prop} (J : JJ C M) (A : Ans C ok cod t f4 g4 f5 g5) (h0 : cod 0 = 0) (hz : ∀ t, t ∈ ok → ¬ t = 0 → ¬ cod t = 0) (hs : cs C g4) (hy : t = 0 → f4 = f5 → pr y1)
    (hP : (t = 0 → v = some (.int 0) ∧ ow D cA B (dmn M) ad X g4 y1 h) ∧ (¬ t = 0 → v = some (.int (cod t)) ∧ ow D cA B (dmn M) ad X C y h)) : v = some (.int (g5 0 0)) ∧ Aft D cA B ad X g5 pr h :=
  aft_of J A h0 hz (fun _ J1 _ hr => dmn_same J J1 hs.1 hs.2 hr) hy hP
theorem codA_n (t : Nat) (h : ¬ t = 0) : ¬ codA t = 0 := by
  unfold codA
  rw [if_neg h]
  decide
theorem codB_n (t : Nat) (h : ¬ t = 0) : ¬ codB t = 0 := by
  unfold codB
  rw [if_neg h]
  split <;> decide
theorem codC_n (t : Nat) (h : ¬ t = 0) : ¬ codC t = 0 := by
  unfold codC
  rw [if_neg h]
  split <;> decide
theorem codD_n (t : Nat) (h : ¬ t = 0) : ¬ codD t = 0 := by
  unfold codD
  rw [if_neg h]
  split
  · decide
  · split <;> decide
theorem dmn_sq {G M1 : Nat → Nat → Int32} (h : sq G M1) {r : Nat} (q : dmn M1 r) : dmn G r := by
  have e8 : M1 8 = G 8 := funext fun j => h 8 j (fun z => absurd z (by decide))
  have e1 : M1 0 1 = G 0 1 := h 0 1 (fun _ => by decide)
  unfold dmn nS nE at q ⊢
  rw [e8, e1] at q
  exact q
theorem cmp_self (x : Int64) : lg_cmp x x = 0 := by
  unfold lg_cmp
  simp
/-- where the law stands: the machine, the words, the script -/
def LwS (p : Program) (l : Launch) (s : State) (m : MethodId) (args : Array Value) (meth : Method) (c : Code) (D : va_G) (cA : Nat → ClassId) (B b L : Nat) (xs : Nat → Int32) (R : Room) : Prop :=
  CallFix p m c cL_law 7 s args WU RL ∧ KK D cA B s ∧ KX s ∧ l.stackTraces = false ∧ va_X b L xs s s.heap ∧ b < s.heap.size ∧ ¬ B ≤ b ∧ L ≤ 2560 ∧ 8 ≤ R.frames ∧ 220 ≤ R.locals
section LT
variable {p : Program} {l : Launch} {e : Env} {R : Room} {s : State} {m : MethodId} {args : Array Value} {below : List Frame} {meth : Method} {c : Code} {H : Heap} {locs : List Loc} {cells slots : Nat} {Q : State → Prop}
variable {ls : Array Slot} {D : va_G} {cA : Nat → ClassId} {B b L : Nat} {xs : Nat → Int32} {dom : Nat → Prop} {ad : Nat → Nat} {E1 : Nat → va_E} {C G M1 : Nat → Nat → Int32} {f : Nat → Int64} {t0 : Nat} {i : Nat} {k r : Int32} {off : Int}
theorem tail_i (Z : LwS p l s m args meth c D cA B b L xs R) (N : mw D cA B dom ad E1 M1 H) (hS : va_S (fun q => B ≤ q) s.heap H locs) (hc : ∀ r, crole r → dom r → E1 r = sh cA ad r (C r)) (h6 : E1 6 = .inl (cA 2, 1, .inr (.inl f))) (d6 : dom 6) (hsq : sq G M1) (J : JJ C G) (hd : ∀ r, dmn G r → dom r) (hk : G 0 0 = k) (hf : G 0 0 = 0 → f 0 = r.toInt64)
    (hl : lv_has ls 7 [(0, .ref b), (1, .ref (ad 0)), (2, .ref (ad 5)), (3, .ref (ad 6)), (4, .int (nI i)), (5, .int k), (6, .int r)])
    (d0 : decode cL_law t0 = .ok (.aload_n 2, 1)) (d1 : decode cL_law (t0 + 1) = .ok (.invokevirtual 75, 3)) (d4 : decode cL_law (t0 + 4) = .ok (.iload 5, 2)) (d6' : decode cL_law (t0 + 6) = .ok (.if_icmp .eq 5, 3)) (d11 : decode cL_law (t0 + 11) = .ok (.iload 5, 2)) (d13 : decode cL_law (t0 + 13) = .ok (.ifCond .ne 15, 3)) (d16 : decode cL_law (t0 + 16) = .ok (.aload_n 3, 1)) (d17 : decode cL_law (t0 + 17) = .ok (.iconst 0, 1)) (d18 : decode cL_law (t0 + 18) = .ok (.laload, 1)) (d19 : decode cL_law (t0 + 19) = .ok (.iload 6, 2)) (d21 : decode cL_law (t0 + 21) = .ok (.i2l, 1)) (d22 : decode cL_law (t0 + 22) = .ok (.lcmp, 1)) (d23 : decode cL_law (t0 + 23) = .ok (.ifCond .eq 5, 3)) (d28 : decode cL_law (t0 + 28) = .ok (.goto off, 3)) (ht : ((t0 + 28 : Nat) : Int) + off = ((1081 : Nat) : Int)) (hf2 : cells ≤ R.cells ∧ slots ≤ R.slots)
    (kk : jw D cA B ad C M1 H → lv_has ls 7 [(0, .ref b), (1, .ref (ad 0)), (2, .ref (ad 5)), (3, .ref (ad 6)), (4, .int (nI i))] → W p l e R s m args below meth c H locs cells slots Q (F0 m 1081 ls [])) : W p l e R s m args below meth c H locs cells slots Q (F0 m t0 ls []) := by
  obtain ⟨S, K, Kx, hls, hX, hbl, hbB, hL, hR1, hR2⟩ := Z
  have hth : f_X5_thrown M1 = k := by
    rw [← hk]
    exact hsq 0 0 (fun _ => by decide)
  refine lv_aload_n S.1 S.2.1 d0 rfl (lv_at hl 2 rfl) ?_
  refine mc_rV (As := []) (rest := []) S K N hS rfl (m_X5_thrown l M1 N) k3_216 k3_217 k3_218 k1_3 k3_219 (num := 0) (by decide +kernel) rfl ⟨by omega, by omega⟩ hl.1 rfl (by decide) d1 hf2 ?_
  refine nt_i (y := k) hth ?_
  refine lv_iload S.1 S.2.1 d4 (lv_at hl 5 rfl) ?_
  refine lv_icmp_eq (tgt := t0 + 11) S.1 S.2.1 d6' (by omega) (fun _ => ?_) (fun z => absurd rfl z)
  have go : W p l e R s m args below meth c H locs cells slots Q (F0 m (t0 + 28) ls []) := by
    refine lv_goto (tgt := 1081) S.1 S.2.1 d28 ht ?_
    exact kk (mw_jw N hc h6 (JJ_sr (sq_sr hsq) J) (fun r hr => hd r (dmn_sq hsq hr))) (lv_sub hl [0, 1, 2, 3, 4] rfl)
  refine lv_iload S.1 S.2.1 d11 (lv_at hl 5 rfl) ?_
  refine lv_if_ne (tgt := t0 + 28) S.1 S.2.1 d13 (by omega) (fun _ => go) (fun z => ?_)
  have z : k = 0 := z
  obtain ⟨E, h1, h2, h3, h4⟩ := N
  have e6 : E 6 = .inl (cA 2, 1, .inr (.inl f)) := by
    rw [h3 6 (by unfold mrole; omega)]
    exact h6
  refine lv_aload_n S.1 S.2.1 d16 rfl (lv_at hl 3 rfl) ?_
  refine lv_iconst (v := 0) S.1 S.2.1 d17 (by decide) ?_
  refine nr_lald S K h1 6 d6 e6 (pk_in 0 1 (by decide) rfl (by decide)) (x := r.toInt64) (hf (hk.trans z)) d18 ?_
  refine lv_iload S.1 S.2.1 d19 (lv_at hl 6 rfl) ?_
  refine lv_i2l (v := r.toInt64) S.1 S.2.1 d21 rfl ?_
  refine W.lcmp S.1 S.2.1 d22 ?_
  refine nt_i (y := 0) (cmp_self _) ?_
  exact lv_if_eq (tgt := t0 + 28) S.1 S.2.1 d23 (by omega) (fun _ => go) (fun z => absurd rfl z)
theorem tail_v (Z : LwS p l s m args meth c D cA B b L xs R) (N : mw D cA B dom ad E1 M1 H) (hS : va_S (fun q => B ≤ q) s.heap H locs) (hc : ∀ r, crole r → dom r → E1 r = sh cA ad r (C r)) (h6 : E1 6 = .inl (cA 2, 1, .inr (.inl f))) (hsq : sq G M1) (J : JJ C G) (hd : ∀ r, dmn G r → dom r) (hk : G 0 0 = k)
    (hl : lv_has ls 7 [(0, .ref b), (1, .ref (ad 0)), (2, .ref (ad 5)), (3, .ref (ad 6)), (4, .int (nI i)), (5, .int k)])
    (d0 : decode cL_law t0 = .ok (.aload_n 2, 1)) (d1 : decode cL_law (t0 + 1) = .ok (.invokevirtual 75, 3)) (d4 : decode cL_law (t0 + 4) = .ok (.iload 5, 2)) (d6' : decode cL_law (t0 + 6) = .ok (.if_icmp .eq 5, 3)) (d28 : decode cL_law (t0 + 11) = .ok (.goto off, 3)) (ht : ((t0 + 11 : Nat) : Int) + off = ((1081 : Nat) : Int)) (hf2 : cells ≤ R.cells ∧ slots ≤ R.slots)
    (kk : jw D cA B ad C M1 H → lv_has ls 7 [(0, .ref b), (1, .ref (ad 0)), (2, .ref (ad 5)), (3, .ref (ad 6)), (4, .int (nI i))] → W p l e R s m args below meth c H locs cells slots Q (F0 m 1081 ls [])) : W p l e R s m args below meth c H locs cells slots Q (F0 m t0 ls []) := by
  obtain ⟨S, K, Kx, hls, hX, hbl, hbB, hL, hR1, hR2⟩ := Z
  have hth : f_X5_thrown M1 = k := by
    rw [← hk]
    exact hsq 0 0 (fun _ => by decide)
  refine lv_aload_n S.1 S.2.1 d0 rfl (lv_at hl 2 rfl) ?_
  refine mc_rV (As := []) (rest := []) S K N hS rfl (m_X5_thrown l M1 N) k3_216 k3_217 k3_218 k1_3 k3_219 (num := 0) (by decide +kernel) rfl ⟨by omega, by omega⟩ hl.1 rfl (by decide) d1 hf2 ?_
  refine nt_i (y := k) hth ?_
  refine lv_iload S.1 S.2.1 d4 (lv_at hl 5 rfl) ?_
  refine lv_icmp_eq (tgt := t0 + 11) S.1 S.2.1 d6' (by omega) (fun _ => ?_) (fun z => absurd rfl z)
  refine lv_goto (tgt := 1081) S.1 S.2.1 d28 ht ?_
  exact kk (mw_jw N hc h6 (JJ_sr (sq_sr hsq) J) (fun r hr => hd r (dmn_sq hsq hr))) (lv_sub hl [0, 1, 2, 3, 4] rfl)
end LT
