/-! AN ELEMENT, A PROGRAMME IS MADE, and put into its list -/
theorem rf_upd {ad : Nat → Nat} {b j r : Nat} {c : Nat → Int32} (h : r = b + j) : va_up (rf ad b c) j (some (ad r)) = rf ad b (upd c j 1) := by
  subst h
  funext i
  unfold va_up rf upd
  by_cases q : i = j
  · subst q
    simp
  · simp [q]
/-- a made object that is not yet built -/
def kwn (D : va_G) (cA : Nat → ClassId) (B : Nat) (dom : Nat → Prop) (ad : Nat → Nat) (X : Nat → va_E) (C : Nat → Nat → Int32) (r0 : Nat) (x0 : va_E) (H : Heap) : Prop :=
  ∃ E, nh D B (fun q => dom q ∨ q = r0) ad E H ∧ E r0 = x0 ∧ (∀ r, crole r → dom r → E r = sh cA ad r (C r)) ∧ ∀ r, ¬ crole r → E r = X r
theorem kwn_kw {D : va_G} {cA : Nat → ClassId} {B : Nat} {dom : Nat → Prop} {ad : Nat → Nat} {X : Nat → va_E} {C : Nat → Nat → Int32} {r0 : Nat} {x0 : va_E} {H : Heap} (h : kwn D cA B dom ad X C r0 x0 H) : kw D cA B dom ad X C H := by
  obtain ⟨E, h1, -, h3, h4⟩ := h
  exact ⟨E, nh_sub h1 (fun r hr => Or.inl hr), h3, h4⟩
def adV (ad : Nat → Nat) (v a : Nat) : Prop := ad (300 + 3 * v) = a ∧ ad (300 + 3 * v + 1) = a + 1 ∧ ad (300 + 3 * v + 2) = a + 2
def adE (ad : Nat → Nat) (n a : Nat) : Prop := ad (80 + n) = a ∧ adV ad (36 + n) (a + 1) ∧ adV ad (180 + n) (a + 4)
def ndV (dom : Nat → Prop) (v : Nat) : Prop := ¬ dom (300 + 3 * v) ∧ ¬ dom (300 + 3 * v + 1) ∧ ¬ dom (300 + 3 * v + 2)
def ndE (dom : Nat → Prop) (n : Nat) : Prop := ¬ dom (80 + n) ∧ ndV dom (36 + n) ∧ ndV dom (180 + n)
abbrev rV (v q : Nat) : Prop := q = 300 + 3 * v ∨ q = 300 + 3 * v + 1 ∨ q = 300 + 3 * v + 2
def domE (dom : Nat → Prop) (n : Nat) : Nat → Prop := fun q => dom q ∨ q = 80 + n ∨ rV (36 + n) q ∨ rV (180 + n) q
def six (p0 p1 p2 p3 p4 p5 : Int32) : Nat → Int32 := fun i => [p0, p1, p2, p3, p4, p5].getD i 0
def mkE (C : Nat → Nat → Int32) (n : Nat) (p0 p1 p2 p3 p4 p5 : Int32) : Nat → Nat → Int32 := fun r => if r = 80 + n then six p0 p1 p2 p3 p4 p5 else if rV (36 + n) r ∨ rV (180 + n) r then (fun _ => 0) else C r
section MKE
variable {p : Program} {l : Launch} {e : Env} {R : Room} {s : State} {m : MethodId} {args : Array Value} {below : List Frame} {meth : Method} {c : Code} {H : Heap} {locs : List Loc} {cells slots : Nat} {Q : State → Prop}
variable {cc : ByteArray} {nL : Nat} {own : String} {pc : Nat} {ls : Array Slot} {rest : List Value} {D : va_G} {cA : Nat → ClassId} {B : Nat} {dom : Nat → Prop} {ad : Nat → Nat} {X : Nat → va_E} {C : Nat → Nat → Int32}
theorem kr_aast (S : CallFix p m c cc nL s args WU own) (K : KK D cA B s) (N : kw D cA B dom ad X C H) (hS : va_S (fun q => B ≤ q) s.heap H locs) (r : Nat) (hcr : crole r) (hr : dom r) (t0 : Nat) {q9 : vw_C} (ht : (ntys cA)[t0]? = some (cA t0, .object q9.1)) {n b : Nat} (hsh : ∀ c9 : Nat → Int32, sh cA ad r c9 = .inl (cA t0, n, .inr (.inr (.inr (.inr (rf ad b c9)))))) (r2 : Nat) (hcr2 : crole r2) (hr2 : dom r2) {ci : Nat} {vs : List Value} (hsh2 : sh cA ad r2 (C r2) = .inr (ci, vs)) (hc : vwCl[ci]? = some q9) {j : Int32} (hin : vp_in j n) (j0 : Nat) (hj : j.toNatClampNeg = j0) (hro : r2 = b + j0) (hdg : decode cc pc = .ok (.aastore, 1))
    (kk : ∀ (H1 : Heap) (locs1 : List Loc), kw D cA B dom ad X (up2 C r j0 1) H1 → va_S (fun q => B ≤ q) s.heap H1 locs1 → W p l e R s m args below meth c H1 locs1 cells slots Q (F0 m (pc + 1) ls rest)) : W p l e R s m args below meth c H locs cells slots Q (F0 m pc ls (.ref (ad r2) :: .int j :: .ref (ad r) :: rest)) := by
  subst hj
  obtain ⟨E, h1, h2, h3⟩ := N
  refine nr_aast S K h1 hS r hr t0 ht ((h2 r hcr hr).trans (hsh _)) r2 hr2 ((h2 r2 hcr2 hr2).trans hsh2) hc hin hdg (fun H1 locs1 g1 g2 _ => ?_)
  exact kk H1 locs1 (kw_up hcr h2 h3 (by rw [rf_upd hro, hsh]) g1) g2
theorem nk_newE (S : CallFix p m c cc nL s args WU RX2) (K : KK D cA B s) (N : kw D cA B dom ad X C H) (hS : va_S (fun q => B ≤ q) s.heap H locs) (n : Nat) (hr : ¬ dom (80 + n)) (ha : ad (80 + n) = H.size) (hcells : cells + 1 ≤ R.cells) (hslots : slots + 8 ≤ R.slots) {index : Nat} (hcl : Cond.classLink RX2 index RX1 ∈ WU) (hinst : Cond.instantiable RX1 8 ∈ WU) (hini : Cond.initialized RX1 ∈ WU) (hdg : decode cc pc = .ok (.new index, 3))
    (kk : ∀ (H1 : Heap), kwn D cA B dom ad X C (80 + n) (.inr (1, [.int 0, .int 0, .int 0, .int 0, .int 0, .int 0, .null, .null])) H1 → va_S (fun q => B ≤ q) s.heap H1 locs → H1.size = H.size + 1 → W p l e R s m args below meth c H1 locs (cells + 1) (slots + 8) Q (F0 m (pc + 3) ls (.ref (ad (80 + n)) :: rest))) : W p l e R s m args below meth c H locs cells slots Q (F0 m pc ls rest) := by
  obtain ⟨E, h1, h2, h3⟩ := N
  refine nr_new S K h1 hS (80 + n) hr ha (ci := 1) (C := RX1) (T := TX1) (n := 8) rfl iWX1 tyX1 tyX1_ok hcl hinst hini [.int 0, .int 0, .int 0, .int 0, .int 0, .int 0, .null, .null] hf_X1 hcells hslots hdg (fun H1 g1 g2 g3 => kk H1 ⟨_, g1, va_up_self _ _ _, fun r hc hd => ?_, fun r hc => ?_⟩ g2 g3)
  · rw [va_up_ne _ _ (fun q => hr (by rw [← q]; exact hd))]
    exact h2 r hc hd
  · rw [va_up_ne _ _ (fun q => hc (by rw [q]; unfold crole; omega))]
    exact h3 r hc
theorem nk_initE (S : CallFix p m c cc nL s args WU RX2) (K : KK D cA B s) {n : Nat} {p0 p1 p2 p3 p4 p5 : Int32} (N : kwn D cA B dom ad X C (80 + n) (.inr (1, [.int 0, .int 0, .int 0, .int 0, .int 0, .int 0, .null, .null])) H) (hS : va_S (fun q => B ≤ q) s.heap H locs) (hn : n < 144) (nd : ndE dom n) (h0 : adV ad (36 + n) H.size ∧ adV ad (180 + n) (H.size + 3)) (z2 : p2 = 0 ∨ p2 = 1) (z3 : p3 = 0 ∨ p3 = 1) (z4 : p4 = 0 ∨ p4 = 1) (z5 : p5 = 0 ∨ p5 = 1)
    (hR : 3 ≤ R.frames ∧ 100 ≤ R.locals) (hz : ls.size = nL) (hw : (rest.map fun v => v.category).sum ≤ 8) (hdg : decode cc pc = .ok (.invokespecial 68, 3)) (hf : cells + 6 ≤ R.cells ∧ slots + 40 ≤ R.slots)
    (kk : ∀ (H1 : Heap) (locs1 : List Loc), kw D cA B (domE dom n) ad X (mkE C n p0 p1 p2 p3 p4 p5) H1 → va_S (fun q => B ≤ q) s.heap H1 locs1 → W p l e R s m args below meth c H1 locs1 (cells + 6) (slots + 40) Q (F0 m (pc + 3) ls rest)) : W p l e R s m args below meth c H locs cells slots Q (F0 m pc ls (.int p5 :: .int p4 :: .int p3 :: .int p2 :: .int p1 :: .int p0 :: .ref (ad (80 + n)) :: rest)) := by
  obtain ⟨E, h1, h2, h3, h4⟩ := N
  obtain ⟨⟨a1, a2, a3⟩, b1, b2, b3⟩ := h0
  obtain ⟨n0, ⟨n1, n2, n3⟩, n4, n5, n6⟩ := nd
  have hM := m_X1_init (cA := cA) l n p0 p1 p2 p3 p4 p5 h1 hn (Or.inr rfl) h2 (nd_or n1 (by omega)) (nd_or n2 (by omega)) (nd_or n3 (by omega)) (nd_or n4 (by omega)) (nd_or n5 (by omega)) (nd_or n6 (by omega)) a1 a2 a3 b1 b2 b3 z2 z3 z4 z5
  refine nc_wI S K hS (As := [.int p0, .int p1, .int p2, .int p3, .int p4, .int p5]) hM k3_5 k3_6 rfl k1_11 k3_7 (num := 6) (by decide +kernel) rfl ⟨by omega, by omega⟩ hz rfl hw hdg hf (fun v9 H1 locs1 hP g2 => ?_)
  obtain ⟨rfl, -, g1⟩ := hP
  refine kk H1 locs1 ⟨_, nh_sub g1 (fun r hr => ?_), fun r hc hd => ?_, fun r hc => ?_⟩ g2
  · unfold domE rV at hr
    rcases hr with h | h | (h | h | h) | (h | h | h)
    · exact Or.inl (Or.inl (Or.inl (Or.inl (Or.inl (Or.inl (Or.inl h))))))
    · exact Or.inl (Or.inl (Or.inl (Or.inl (Or.inl (Or.inl (Or.inr h))))))
    · exact Or.inl (Or.inl (Or.inl (Or.inl (Or.inl (Or.inr h)))))
    · exact Or.inl (Or.inl (Or.inl (Or.inl (Or.inr h))))
    · exact Or.inl (Or.inl (Or.inl (Or.inr h)))
    · exact Or.inl (Or.inl (Or.inr h))
    · exact Or.inl (Or.inr h)
    · exact Or.inr h
  · by_cases q0 : r = 80 + n
    · subst q0
      rw [va_up_self, sh_L hn]
      unfold mkE
      rw [if_pos rfl]
      rfl
    · rw [va_up_ne _ _ q0]
      by_cases q1 : rV (36 + n) r ∨ rV (180 + n) r
      · unfold mkE
        rw [if_neg q0, if_pos q1]
        unfold rV at q1
        rcases q1 with (rfl | rfl | rfl) | (rfl | rfl | rfl)
        all_goals (repeat (first | rw [va_up_self] | rw [va_up_ne _ _ (by omega)]))
        · rw [sh_V]
        · rw [sh_Vn]
        · rw [sh_Vt]
        · rw [sh_V]
        · rw [sh_Vn]
        · rw [sh_Vt]
      · have hd2 : dom r := by
          unfold domE at hd
          rcases hd with h | h | h | h
          · exact h
          · exact absurd h q0
          · exact absurd (Or.inl h) q1
          · exact absurd (Or.inr h) q1
        unfold mkE
        rw [if_neg q0, if_neg q1]
        unfold rV at q1
        repeat (rw [va_up_ne _ _ (by omega)])
        exact h3 r hc hd2
  · unfold crole at hc
    repeat (rw [va_up_ne _ _ (by omega)])
    exact h4 r (by unfold crole; exact hc)
end MKE
