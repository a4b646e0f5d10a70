/-! THE REFERENCE'S WORLD: its object is role 5, its arrays are the roles 16 to 28; M 0 k: the field k, M i j: what the array of the field i holds at j -/
def mlen (i : Nat) : Nat := if i ≤ 8 then 12 else if i ≤ 11 then 144 else if i = 12 then 432 else if i ≤ 15 then 144 else if i = 16 then 1008 else if i = 17 then 252 else 87
def mcls (i : Nat) : Nat := if 13 ≤ i ∧ i ≤ 15 then 1 else 0
def mfl (ad : Nat → Nat) (M : Nat → Nat → Int32) : List Value := [.int (M 0 0), .int (M 0 1), .int (M 0 2), .int (M 0 3), .int (M 0 4), .int (M 0 5), .ref (ad 16), .ref (ad 17), .ref (ad 18), .ref (ad 19), .ref (ad 20), .ref (ad 21), .ref (ad 22), .ref (ad 23), .ref (ad 24), .ref (ad 25), .ref (ad 26), .ref (ad 27), .ref (ad 28), .int (M 0 19), .int (M 0 20), .int (M 0 21), .int (M 0 22)]
def mrole (r : Nat) : Prop := r = 5 ∨ (16 ≤ r ∧ r ≤ 28)
def mi (cA : Nat → ClassId) (ad : Nat → Nat) (M : Nat → Nat → Int32) (E : Nat → va_E) : Prop := E 5 = .inr (5, mfl ad M) ∧ ∀ i, 6 ≤ i → i ≤ 18 → E (10 + i) = .inl (cA (mcls i), mlen i, .inl (M i))
def mw (D : va_G) (cA : Nat → ClassId) (B : Nat) (dom : Nat → Prop) (ad : Nat → Nat) (X : Nat → va_E) (M : Nat → Nat → Int32) (H : Heap) : Prop :=
  ∃ E, nh D B dom ad E H ∧ mi cA ad M E ∧ (∀ r, ¬ mrole r → E r = X r) ∧ ∀ r, mrole r → dom r
def up2 (M : Nat → Nat → Int32) (i j : Nat) (x : Int32) : Nat → Nat → Int32 := fun a b => if a = i ∧ b = j then x else M a b
theorem up2_row (M : Nat → Nat → Int32) (i j : Nat) (x : Int32) : up2 M i j x i = upd (M i) j x := by
  funext b
  simp [up2, upd]
theorem up2_ne (M : Nat → Nat → Int32) {i a : Nat} (j : Nat) (x : Int32) (h : a ≠ i) : up2 M i j x a = M a := by
  funext b
  simp [up2, h]
theorem mrole_5 : mrole 5 := Or.inl rfl
theorem mrole_a {i : Nat} (h : 6 ≤ i) (h2 : i ≤ 18) : mrole (10 + i) := Or.inr ⟨by omega, by omega⟩
/-- the scalar fields -/
def mscal (k : Nat) : Prop := k ≤ 5 ∨ (19 ≤ k ∧ k ≤ 22)
theorem mfl_set (ad : Nat → Nat) (M : Nat → Nat → Int32) (k : Nat) (x : Int32) (hk : mscal k) : (mfl ad M).set k (.int x) = mfl ad (up2 M 0 k x) := by
  have h : k = 0 ∨ k = 1 ∨ k = 2 ∨ k = 3 ∨ k = 4 ∨ k = 5 ∨ k = 19 ∨ k = 20 ∨ k = 21 ∨ k = 22 := by
    unfold mscal at hk
    omega
  rcases h with rfl | rfl | rfl | rfl | rfl | rfl | rfl | rfl | rfl | rfl <;> simp [mfl, up2]
theorem mfl_arr (ad : Nat → Nat) (M : Nat → Nat → Int32) {i : Nat} (j : Nat) (x : Int32) (hi : 6 ≤ i) : mfl ad (up2 M i j x) = mfl ad M := by
  have h : (0 : Nat) ≠ i := by omega
  simp [mfl, up2_ne M j x h]
section MR
variable {p : Program} {l : Launch} {e : Env} {R : Room} {s : State} {m : MethodId} {args : Array Value} {below : List Frame} {meth : Method} {c : Code} {H : Heap} {locs : List Loc} {cells slots : Nat} {Q : State → Prop}
variable {cc : ByteArray} {nL : Nat} {own : String} {pc : Nat} {ls : Array Slot} {rest : List Value} {D : va_G} {cA : Nat → ClassId} {B : Nat} {dom : Nat → Prop} {ad : Nat → Nat} {X : Nat → va_E} {M : Nat → Nat → Int32}
theorem mr_get (S : CallFix p m c cc nL s args WU own) (K : KK D cA B s) (N : mw D cA B dom ad X M H) (k : Nat) (hk : k < 23) {index : Nat} (hlink : Cond.fieldLink own index (TX5 k).1 (TX5 k).2.1 (TX5 k).2.2.1 ∈ WU) {v : Value} (hv : (mfl ad M)[k]? = some v) (hdg : decode cc pc = .ok (.getfield index, 3))
    (kk : W p l e R s m args below meth c H locs cells slots Q (F0 m (pc + 3) ls (v :: rest))) : W p l e R s m args below meth c H locs cells slots Q (F0 m pc ls (.ref (ad 5) :: rest)) := by
  obtain ⟨E, h1, h2, -, h4⟩ := N
  exact nr_get S K h1 5 (h4 5 mrole_5) h2.1 (C := RX5) (T := TX5) (n := 23) rfl iWX5 k hk hlink rfl hv hdg kk
theorem mr_put (S : CallFix p m c cc nL s args WU own) (K : KK D cA B s) (N : mw D cA B dom ad X M H) (hS : va_S (fun q => B ≤ q) s.heap H locs) (k : Nat) (hk : k < 23) (hsc : mscal k) {index : Nat} (hlink : Cond.fieldLink own index (TX5 k).1 (TX5 k).2.1 (TX5 k).2.2.1 ∈ WU) (hfin : (TX5 k).2.2.2 = false) (hty : tyX5 k = .int) {x : Int32} (hdg : decode cc pc = .ok (.putfield index, 3))
    (kk : ∀ (H1 : Heap) (locs1 : List Loc), mw D cA B dom ad X (up2 M 0 k x) H1 → va_S (fun q => B ≤ q) s.heap H1 locs1 → W p l e R s m args below meth c H1 locs1 cells slots Q (F0 m (pc + 3) ls rest)) : W p l e R s m args below meth c H locs cells slots Q (F0 m pc ls (.int x :: .ref (ad 5) :: rest)) := by
  obtain ⟨E, h1, h2, h3, h4⟩ := N
  refine nr_put S K h1 hS 5 (h4 5 mrole_5) h2.1 (C := RX5) (T := TX5) (n := 23) rfl iWX5 tyX5 tyX5_ok nmX5 k hk hlink rfl hfin (by rw [hty]; rfl) (by rw [hty]; rfl) hk hdg (fun H1 locs1 g1 g2 _ => ?_)
  refine kk H1 locs1 ⟨_, g1, ⟨?_, fun i h5 h6 => ?_⟩, fun r hr => ?_, h4⟩ g2
  · rw [va_up_self, mfl_set ad M k x hsc]
  · rw [va_up_ne _ _ (by omega), h2.2 i h5 h6, up2_ne M k x (by omega)]
  · rw [va_up_ne _ _ (fun h => hr (Or.inl h))]
    exact h3 r hr
theorem mr_iald (S : CallFix p m c cc nL s args WU own) (K : KK D cA B s) (N : mw D cA B dom ad X M H) (i : Nat) (h6 : 6 ≤ i) (h18 : i ≤ 18) (hc : mcls i = 0) {j v : Int32} (hin : vp_in j (mlen i)) (hv : M i j.toNatClampNeg = v) (hdg : decode cc pc = .ok (.iaload, 1))
    (kk : W p l e R s m args below meth c H locs cells slots Q (F0 m (pc + 1) ls (.int v :: rest))) : W p l e R s m args below meth c H locs cells slots Q (F0 m pc ls (.int j :: .ref (ad (10 + i)) :: rest)) := by
  obtain ⟨E, h1, h2, -, h4⟩ := N
  have hE := h2.2 i h6 h18
  rw [hc] at hE
  exact nr_iald S K h1 (10 + i) (h4 _ (mrole_a h6 h18)) hE hin hv hdg kk
theorem mr_zald (S : CallFix p m c cc nL s args WU own) (K : KK D cA B s) (N : mw D cA B dom ad X M H) (i : Nat) (h6 : 6 ≤ i) (h18 : i ≤ 18) (hc : mcls i = 1) {j v : Int32} (hin : vp_in j (mlen i)) (hv : M i j.toNatClampNeg = v) (hdg : decode cc pc = .ok (.baload, 1))
    (kk : W p l e R s m args below meth c H locs cells slots Q (F0 m (pc + 1) ls (.int v :: rest))) : W p l e R s m args below meth c H locs cells slots Q (F0 m pc ls (.int j :: .ref (ad (10 + i)) :: rest)) := by
  obtain ⟨E, h1, h2, -, h4⟩ := N
  have hE := h2.2 i h6 h18
  rw [hc] at hE
  exact nr_zald S K h1 (10 + i) (h4 _ (mrole_a h6 h18)) hE hin hv hdg kk
theorem mw_arr {H1 : Heap} {E : Nat → va_E} {i : Nat} (h6 : 6 ≤ i) (h18 : i ≤ 18) {j : Nat} {x : Int32} (h2 : mi cA ad M E) (h3 : ∀ r, ¬ mrole r → E r = X r) (h4 : ∀ r, mrole r → dom r) (g1 : nh D B dom ad (va_up E (10 + i) (.inl (cA (mcls i), mlen i, .inl (upd (M i) j x)))) H1) : mw D cA B dom ad X (up2 M i j x) H1 := by
  refine ⟨_, g1, ⟨?_, fun i2 h5 h7 => ?_⟩, fun r hr => ?_, h4⟩
  · rw [va_up_ne _ _ (by omega), mfl_arr ad M j x h6]
    exact h2.1
  · by_cases hii : i2 = i
    · subst hii
      rw [va_up_self, up2_row]
    · rw [va_up_ne _ _ (by omega), up2_ne M j x hii]
      exact h2.2 i2 h5 h7
  · rw [va_up_ne _ _ (fun h => hr (by rw [h]; exact mrole_a h6 h18))]
    exact h3 r hr
theorem mr_iast (S : CallFix p m c cc nL s args WU own) (K : KK D cA B s) (N : mw D cA B dom ad X M H) (hS : va_S (fun q => B ≤ q) s.heap H locs) (i : Nat) (h6 : 6 ≤ i) (h18 : i ≤ 18) (hc : mcls i = 0) {j x : Int32} (hin : vp_in j (mlen i)) (j0 : Nat) (hj : j.toNatClampNeg = j0) (hdg : decode cc pc = .ok (.iastore, 1))
    (kk : ∀ (H1 : Heap) (locs1 : List Loc), mw D cA B dom ad X (up2 M i j0 x) H1 → va_S (fun q => B ≤ q) s.heap H1 locs1 → W p l e R s m args below meth c H1 locs1 cells slots Q (F0 m (pc + 1) ls rest)) : W p l e R s m args below meth c H locs cells slots Q (F0 m pc ls (.int x :: .int j :: .ref (ad (10 + i)) :: rest)) := by
  subst hj
  obtain ⟨E, h1, h2, h3, h4⟩ := N
  have hE := h2.2 i h6 h18
  rw [hc] at hE
  refine nr_iast S K h1 hS (10 + i) (h4 _ (mrole_a h6 h18)) hE hin hdg (fun H1 locs1 g1 g2 _ => ?_)
  exact kk H1 locs1 (mw_arr h6 h18 h2 h3 h4 (by rw [hc]; exact g1)) g2
theorem mr_zast (S : CallFix p m c cc nL s args WU own) (K : KK D cA B s) (N : mw D cA B dom ad X M H) (hS : va_S (fun q => B ≤ q) s.heap H locs) (i : Nat) (h6 : 6 ≤ i) (h18 : i ≤ 18) (hc : mcls i = 1) {j x : Int32} (hin : vp_in j (mlen i)) (hx : vp_nar .boolean x = x) (j0 : Nat) (hj : j.toNatClampNeg = j0) (hdg : decode cc pc = .ok (.bastore, 1))
    (kk : ∀ (H1 : Heap) (locs1 : List Loc), mw D cA B dom ad X (up2 M i j0 x) H1 → va_S (fun q => B ≤ q) s.heap H1 locs1 → W p l e R s m args below meth c H1 locs1 cells slots Q (F0 m (pc + 1) ls rest)) : W p l e R s m args below meth c H locs cells slots Q (F0 m pc ls (.int x :: .int j :: .ref (ad (10 + i)) :: rest)) := by
  subst hj
  obtain ⟨E, h1, h2, h3, h4⟩ := N
  have hE := h2.2 i h6 h18
  rw [hc] at hE
  refine nr_zast S K h1 hS (10 + i) (h4 _ (mrole_a h6 h18)) hE hin hx hdg (fun H1 locs1 g1 g2 _ => ?_)
  exact kk H1 locs1 (mw_arr h6 h18 h2 h3 h4 (by rw [hc]; exact g1)) g2
/-- a call on the reference's object -/
theorem mc_rV {y : MethodName} {ycc : ByteArray} {yn idx f lo num : Nat} {ret : Option FieldType} {As st0 : List Value} {v : Value} (S : CallFix p m c cc nL s args WU own) (K : KK D cA B s) (N : mw D cA B dom ad X M H) (hS : va_S (fun q => B ≤ q) s.heap H locs) (hy : y.cls = RX5)
    (hM : MetR D cA B l y ycc yn ret f lo (.ref (ad 5) :: As) H (some v)) (w1 : Cond.methodLink own idx y ∈ WU) (w2 : Cond.instanceMethod y ∈ WU) (w3 : Cond.selects y.cls y y ∈ WU) (w4 : Cond.initialized y.cls ∈ WU) (w5 : Cond.code y ycc yn ret ∈ WU) (hd : okN y num) (hlen : As.length = num) (hR : f + 1 ≤ R.frames ∧ 8 + (yn + 11) + lo ≤ R.locals) (hz : ls.size = nL) (hst : st0 = As.reverse ++ .ref (ad 5) :: rest) (hw : (rest.map fun v => v.category).sum ≤ 8) (hdg : decode cc pc = .ok (.invokevirtual idx, 3)) (hf : cells ≤ R.cells ∧ slots ≤ R.slots)
    (kk : W p l e R s m args below meth c H locs cells slots Q (F0 m (pc + 3) ls (v :: rest))) : W p l e R s m args below meth c H locs cells slots Q (F0 m pc ls st0) := by
  obtain ⟨E, h1, h2, -, h4⟩ := N
  exact nc_rV S K h1 hS 5 (h4 5 mrole_5) h2.1 (T := TX5) (n := 23) (by rw [hy]; rfl) hM w1 w2 w3 w4 w5 hd hlen hR hz hst hw hdg hf kk
theorem mc_wV {y : MethodName} {ycc : ByteArray} {yn idx f lo mc ms num : Nat} {ret : Option FieldType} {As st0 : List Value} {P : Option Value → Heap → Prop} (S : CallFix p m c cc nL s args WU own) (K : KK D cA B s) (N : mw D cA B dom ad X M H) (hS : va_S (fun q => B ≤ q) s.heap H locs) (hy : y.cls = RX5)
    (hM : MetW D cA B l y ycc yn ret f lo mc ms (.ref (ad 5) :: As) H P) (w1 : Cond.methodLink own idx y ∈ WU) (w2 : Cond.instanceMethod y ∈ WU) (w3 : Cond.selects y.cls y y ∈ WU) (w4 : Cond.initialized y.cls ∈ WU) (w5 : Cond.code y ycc yn ret ∈ WU) (hd : okN y num) (hlen : As.length = num) (hR : f + 1 ≤ R.frames ∧ 8 + (yn + 11) + lo ≤ R.locals) (hz : ls.size = nL) (hst : st0 = As.reverse ++ .ref (ad 5) :: rest) (hw : (rest.map fun v => v.category).sum ≤ 8) (hdg : decode cc pc = .ok (.invokevirtual idx, 3)) (hf : cells + mc ≤ R.cells ∧ slots + ms ≤ R.slots)
    (kk : ∀ (v : Option Value) (H1 : Heap) (locs1 : List Loc), P v H1 → va_S (fun q => B ≤ q) s.heap H1 locs1 → W p l e R s m args below meth c H1 locs1 (cells + mc) (slots + ms) Q (F0 m (pc + 3) ls (v.toList ++ rest))) : W p l e R s m args below meth c H locs cells slots Q (F0 m pc ls st0) := by
  obtain ⟨E, h1, h2, -, h4⟩ := N
  exact nc_wV S K h1 hS 5 (h4 5 mrole_5) h2.1 (T := TX5) (n := 23) (by rw [hy]; rfl) hM w1 w2 w3 w4 w5 hd hlen hR hz hst hw hdg hf kk
/-- a name for what is equal -/
theorem nt_i {x y : Int32} (h : x = y) (k : W p l e R s m args below meth c H locs cells slots Q (F0 m pc ls (.int y :: rest))) : W p l e R s m args below meth c H locs cells slots Q (F0 m pc ls (.int x :: rest)) := by subst h; exact k
theorem nt_2 {x y : Int32} {v : Value} (h : x = y) (k : W p l e R s m args below meth c H locs cells slots Q (F0 m pc ls (v :: .int y :: rest))) : W p l e R s m args below meth c H locs cells slots Q (F0 m pc ls (v :: .int x :: rest)) := by subst h; exact k
/-- ends, with an answer that is said otherwise -/
theorem ee_rI {v x : Int32} (S : CallFix p m c cc nL s args WU own) (hr : meth.sig.returnType = some .int) (hlk : meth.locks = false) (h : v = x) (hdg : decode cc pc = .ok (.ireturn, 1)) : W p l e R s m args below meth c s.heap [] 0 0 (MQ below (Qro (some (.int v))) args s 0 0 (fun _ => False)) (F0 m pc ls [.int x]) := by
  subst h
  exact ne_rI S hr hlk hdg
theorem ee_rZ {v x : Int32} (S : CallFix p m c cc nL s args WU own) (hr : meth.sig.returnType = some .boolean) (hlk : meth.locks = false) (hx : vp_nar .boolean x = x) (h : v = x) (hdg : decode cc pc = .ok (.ireturn, 1)) : W p l e R s m args below meth c s.heap [] 0 0 (MQ below (Qro (some (.int v))) args s 0 0 (fun _ => False)) (F0 m pc ls [.int x]) := by
  subst h
  exact ne_rZ S hr hlk hx hdg
theorem ee_rD {v x : UInt64} (S : CallFix p m c cc nL s args WU own) (hr : meth.sig.returnType = some .double) (hlk : meth.locks = false) (h : v = x) (hdg : decode cc pc = .ok (.dreturn, 1)) : W p l e R s m args below meth c s.heap [] 0 0 (MQ below (Qro (some (.double v))) args s 0 0 (fun _ => False)) (F0 m pc ls [.double x]) := by
  subst h
  exact ne_rD S hr hlk hdg
theorem zb_0 : vp_nar .boolean 0 = 0 := by decide
theorem zb_1 : vp_nar .boolean 1 = 1 := by decide
end MR
