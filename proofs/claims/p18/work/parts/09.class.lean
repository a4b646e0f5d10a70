/-! THE CLASS'S WORLD: C r i is what the role r holds at i (an int of an array, an int field, 0 or 1 for a reference that may be null).
roles: 0 the object, 1 programmes, 2 editions, 3 and 4 the two rankings, 30+e an edition, 33+e its values, 40+k a programme, 52+k its elements, 64+k its components, 80+n an element (n = 12k+e), 300+3v votes, then their numbers, then what is told (v: 3k+j components, 36+n calls, 180+n grades) -/
def gv (ad : Nat → Nat) (x : Int32) : Value := if x = (-1) then .null else .ref (ad (40 + x.toNatClampNeg))
def fsK (ad : Nat → Nat) (c : Nat → Int32) : List Value := [.ref (ad 1), .ref (ad 2), .ref (ad 3), .ref (ad 4), .int (c 4), gv ad (c 5)]
def fsP (ad : Nat → Nat) (k : Nat) (c : Nat → Int32) : List Value := [.ref (ad (52 + k)), .ref (ad (64 + k)), .int (c 2), .int (c 3), .int (c 4), .int (c 5), .int (c 6), .int (c 7), .int (c 8), .int (c 9), .int (c 10), .int (c 11)]
def fsL (ad : Nat → Nat) (n : Nat) (c : Nat → Int32) : List Value := [.int (c 0), .int (c 1), .int (c 2), .int (c 3), .int (c 4), .int (c 5), .ref (ad (300 + 3 * (36 + n))), .ref (ad (300 + 3 * (180 + n)))]
def fsV (ad : Nat → Nat) (v : Nat) (c : Nat → Int32) : List Value := [.ref (ad (300 + 3 * v + 1)), .ref (ad (300 + 3 * v + 2)), .int (c 2), .int (c 3), .int (c 4), .int (c 5)]
/-- references to the roles from b on, null where there is 0 -/
def rf (ad : Nat → Nat) (b : Nat) (c : Nat → Int32) : Nat → Option Nat := fun i => if c i = 0 then none else some (ad (b + i))
def rf3 (ad : Nat → Nat) (b : Nat) (c : Nat → Int32) : Nat → Option Nat := fun i => if c i = 0 then none else some (ad (300 + 3 * (b + i)))
def sh (cA : Nat → ClassId) (ad : Nat → Nat) (r : Nat) (c : Nat → Int32) : va_E :=
  if r = 0 then .inr (4, fsK ad c)
  else if r = 1 then .inl (cA 5, 12, .inr (.inr (.inr (.inr (rf ad 40 c)))))
  else if r = 2 then .inl (cA 6, 3, .inr (.inr (.inr (.inr (rf ad 30 c)))))
  else if r < 30 then .inl (cA 0, 12, .inl c)
  else if r < 33 then .inr (0, [.ref (ad (r + 3))])
  else if r < 40 then .inl (cA 0, 35, .inl c)
  else if r < 52 then .inr (2, fsP ad (r - 40) c)
  else if r < 64 then .inl (cA 3, 12, .inr (.inr (.inr (.inr (rf ad (80 + 12 * (r - 52)) c)))))
  else if r < 80 then .inl (cA 4, 3, .inr (.inr (.inr (.inr (rf3 ad (3 * (r - 64)) c)))))
  else if r < 300 then .inr (1, fsL ad (r - 80) c)
  else if (r - 300) % 3 = 0 then .inr (3, fsV ad ((r - 300) / 3) c)
  else if (r - 300) % 3 = 1 then .inl (cA 0, 7, .inl c)
  else .inl (cA 1, 7, .inl c)
def crole (r : Nat) : Prop := r < 5 ∨ 30 ≤ r
section SH
variable {cA : Nat → ClassId} {ad : Nat → Nat} {c : Nat → Int32}
theorem sh_K : sh cA ad 0 c = .inr (4, fsK ad c) := rfl
theorem sh_1 : sh cA ad 1 c = .inl (cA 5, 12, .inr (.inr (.inr (.inr (rf ad 40 c))))) := rfl
theorem sh_2 : sh cA ad 2 c = .inl (cA 6, 3, .inr (.inr (.inr (.inr (rf ad 30 c))))) := rfl
theorem sh_3 : sh cA ad 3 c = .inl (cA 0, 12, .inl c) := rfl
theorem sh_4 : sh cA ad 4 c = .inl (cA 0, 12, .inl c) := rfl
theorem sh_ed {d : Nat} (h : d < 3) : sh cA ad (30 + d) c = .inr (0, [.ref (ad (33 + d))]) := by
  unfold sh
  rw [if_neg (by omega), if_neg (by omega), if_neg (by omega), if_neg (by omega), if_pos (by omega), show 30 + d + 3 = 33 + d by omega]
theorem sh_va {d : Nat} (h : d < 3) : sh cA ad (33 + d) c = .inl (cA 0, 35, .inl c) := by
  unfold sh
  rw [if_neg (by omega), if_neg (by omega), if_neg (by omega), if_neg (by omega), if_neg (by omega), if_pos (by omega)]
theorem sh_P {k : Nat} (h : k < 12) : sh cA ad (40 + k) c = .inr (2, fsP ad k c) := by
  unfold sh
  rw [if_neg (by omega), if_neg (by omega), if_neg (by omega), if_neg (by omega), if_neg (by omega), if_neg (by omega), if_pos (by omega), Nat.add_sub_cancel_left]
theorem sh_Pe {k : Nat} (h : k < 12) : sh cA ad (52 + k) c = .inl (cA 3, 12, .inr (.inr (.inr (.inr (rf ad (80 + 12 * k) c))))) := by
  unfold sh
  rw [if_neg (by omega), if_neg (by omega), if_neg (by omega), if_neg (by omega), if_neg (by omega), if_neg (by omega), if_neg (by omega), if_pos (by omega), Nat.add_sub_cancel_left]
theorem sh_Pc {k : Nat} (h : k < 12) : sh cA ad (64 + k) c = .inl (cA 4, 3, .inr (.inr (.inr (.inr (rf3 ad (3 * k) c))))) := by
  unfold sh
  rw [if_neg (by omega), if_neg (by omega), if_neg (by omega), if_neg (by omega), if_neg (by omega), if_neg (by omega), if_neg (by omega), if_neg (by omega), if_pos (by omega), Nat.add_sub_cancel_left]
theorem sh_L {n : Nat} (h : n < 144) : sh cA ad (80 + n) c = .inr (1, fsL ad n c) := by
  unfold sh
  rw [if_neg (by omega), if_neg (by omega), if_neg (by omega), if_neg (by omega), if_neg (by omega), if_neg (by omega), if_neg (by omega), if_neg (by omega), if_neg (by omega), if_pos (by omega), Nat.add_sub_cancel_left]
theorem sh_ge {r : Nat} (h : 300 ≤ r) : sh cA ad r c = if (r - 300) % 3 = 0 then .inr (3, fsV ad ((r - 300) / 3) c) else if (r - 300) % 3 = 1 then .inl (cA 0, 7, .inl c) else .inl (cA 1, 7, .inl c) := by
  unfold sh
  rw [if_neg (by omega), if_neg (by omega), if_neg (by omega), if_neg (by omega), if_neg (by omega), if_neg (by omega), if_neg (by omega), if_neg (by omega), if_neg (by omega), if_neg (by omega)]
theorem sh_V {v : Nat} : sh cA ad (300 + 3 * v) c = .inr (3, fsV ad v c) := by
  rw [sh_ge (by omega), if_pos (by omega), show (300 + 3 * v - 300) / 3 = v by omega]
theorem sh_Vn {v : Nat} : sh cA ad (300 + 3 * v + 1) c = .inl (cA 0, 7, .inl c) := by
  rw [sh_ge (by omega), if_neg (by omega), if_pos (by omega)]
theorem sh_Vt {v : Nat} : sh cA ad (300 + 3 * v + 2) c = .inl (cA 1, 7, .inl c) := by
  rw [sh_ge (by omega), if_neg (by omega), if_neg (by omega)]
end SH
def kw (D : va_G) (cA : Nat → ClassId) (B : Nat) (dom : Nat → Prop) (ad : Nat → Nat) (X : Nat → va_E) (C : Nat → Nat → Int32) (H : Heap) : Prop :=
  ∃ E, nh D B dom ad E H ∧ (∀ r, crole r → dom r → E r = sh cA ad r (C r)) ∧ ∀ r, ¬ crole r → E r = X r
theorem fsV_set (ad : Nat → Nat) (v : Nat) (c : Nat → Int32) (k : Nat) (x : Int32) (h : k = 2 ∨ k = 3 ∨ k = 4 ∨ k = 5) : fsV ad v (upd c k x) = (fsV ad v c).set k (.int x) := by
  rcases h with rfl | rfl | rfl | rfl <;> simp [fsV, upd]
theorem fsP_set (ad : Nat → Nat) (v : Nat) (c : Nat → Int32) (k : Nat) (x : Int32) (h : 2 ≤ k ∧ k ≤ 11) : fsP ad v (upd c k x) = (fsP ad v c).set k (.int x) := by
  have : k = 2 ∨ k = 3 ∨ k = 4 ∨ k = 5 ∨ k = 6 ∨ k = 7 ∨ k = 8 ∨ k = 9 ∨ k = 10 ∨ k = 11 := by omega
  rcases this with rfl | rfl | rfl | rfl | rfl | rfl | rfl | rfl | rfl | rfl <;> simp [fsP, upd]
theorem fsK_set4 (ad : Nat → Nat) (c : Nat → Int32) (x : Int32) : fsK ad (upd c 4 x) = (fsK ad c).set 4 (.int x) := by
  simp [fsK, upd]
theorem fsK_set5 (ad : Nat → Nat) (c : Nat → Int32) (x : Int32) : fsK ad (upd c 5 x) = (fsK ad c).set 5 (gv ad x) := by
  simp [fsK, upd]
section KR
variable {p : Program} {l : Launch} {e : Env} {R : Room} {s : State} {m : MethodId} {args : Array Value} {below : List Frame} {meth : Method} {c : Code} {H : Heap} {locs : List Loc} {cells slots : Nat} {Q : State → Prop}
variable {cc : ByteArray} {nL : Nat} {own : String} {pc : Nat} {ls : Array Slot} {rest : List Value} {D : va_G} {cA : Nat → ClassId} {B : Nat} {dom : Nat → Prop} {ad : Nat → Nat} {X : Nat → va_E} {C : Nat → Nat → Int32}
theorem kr_get (S : CallFix p m c cc nL s args WU own) (K : KK D cA B s) (N : kw D cA B dom ad X C H) (r : Nat) (hcr : crole r) (hr : dom r) {ci : Nat} {fs : List Value} (hsh : sh cA ad r (C r) = .inr (ci, fs)) {C0 ref : String} {T : u_T} {n : Nat} (hc : vwCl[ci]? = some (C0, T, n)) (hin : ∀ w ∈ u_ws C0 T n, w ∈ WU) (k : Nat) (hk : k < n) {index : Nat} (hlink : Cond.fieldLink own index ref (T k).2.1 (T k).2.2.1 ∈ WU) (href : ref = (T k).1) {v : Value} (hv : fs[k]? = some v) (hdg : decode cc pc = .ok (.getfield index, 3))
    (kk : W p l e R s m args below meth c H locs cells slots Q (F0 m (pc + 3) ls (v :: rest))) : W p l e R s m args below meth c H locs cells slots Q (F0 m pc ls (.ref (ad r) :: rest)) := by
  obtain ⟨E, h1, h2, h3⟩ := N
  exact nr_get S K h1 r hr ((h2 r hcr hr).trans hsh) hc hin k hk hlink href hv hdg kk
theorem kr_getN (S : CallFix p m c cc nL s args WU own) (K : KK D cA B s) (N : kw D cA B dom ad X C H) (r : Nat) (hcr : crole r) (hr : dom r) {ci : Nat} {fs : List Value} (hsh : sh cA ad r (C r) = .inr (ci, fs)) {C0 ref : String} {T : u_T} {n : Nat} (hc : vwCl[ci]? = some (C0, T, n)) (hin : ∀ w ∈ u_ws C0 T n, w ∈ WU) (k : Nat) (hk : k < n) {index : Nat} (hlink : (own, index, ref, (T k).2.1, (T k).2.2.1) ∈ nwF) (href : ref = (T k).1) {v : Value} (hv : fs[k]? = some v) (hdg : decode cc pc = .ok (.getfield index, 3))
    (kk : W p l e R s m args below meth c H locs cells slots Q (F0 m (pc + 3) ls (v :: rest))) : W p l e R s m args below meth c H locs cells slots Q (F0 m pc ls (.ref (ad r) :: rest)) := by
  obtain ⟨E, h1, h2, h3⟩ := N
  exact nr_getN S K h1 r hr ((h2 r hcr hr).trans hsh) hc hin k hk hlink href hv hdg kk
theorem kw_up {H1 : Heap} {E : Nat → va_E} {r k : Nat} {x : Int32} (hcr : crole r) (h2 : ∀ r, crole r → dom r → E r = sh cA ad r (C r)) (h3 : ∀ r, ¬ crole r → E r = X r) {y : va_E} (hy : y = sh cA ad r (upd (C r) k x)) (g1 : nh D B dom ad (va_up E r y) H1) : kw D cA B dom ad X (up2 C r k x) H1 := by
  refine ⟨_, g1, fun r2 hc2 hd2 => ?_, fun r2 hc2 => ?_⟩
  · by_cases q : r2 = r
    · subst q
      rw [va_up_self, up2_row, hy]
    · rw [va_up_ne _ _ q, up2_ne C k x q]
      exact h2 r2 hc2 hd2
  · rw [va_up_ne _ _ (fun q => hc2 (by rw [q]; exact hcr))]
    exact h3 r2 hc2
theorem kr_put (S : CallFix p m c cc nL s args WU own) (K : KK D cA B s) (N : kw D cA B dom ad X C H) (hS : va_S (fun q => B ≤ q) s.heap H locs) (r : Nat) (hcr : crole r) (hr : dom r) {ci : Nat} {fs : List Value} (hsh : sh cA ad r (C r) = .inr (ci, fs)) {C0 ref : String} {T : u_T} {n : Nat} (hc : vwCl[ci]? = some (C0, T, n)) (hin : ∀ w ∈ u_ws C0 T n, w ∈ WU) (ty0 : Nat → FieldType) (hty : ∀ k, k < n → parseFieldDescriptor (T k).2.2.1 = some (ty0 k)) (hnm : ∀ a, a < n → ∀ b, b < n → a ≠ b → (T a).2.1 ≠ (T b).2.1) (k : Nat) (hk : k < n) {index : Nat} (hlink : Cond.fieldLink own index ref (T k).2.1 (T k).2.2.1 ∈ WU) (href : ref = (T k).1) (hfin : (T k).2.2.2 = false) {v : Value} (x : Int32) (hset : sh cA ad r (upd (C r) k x) = .inr (ci, fs.set k v)) (hn : narrow (ty0 k) v = v) (hfit : fits (ty0 k) v = true) (hl : k < fs.length) (hdg : decode cc pc = .ok (.putfield index, 3))
    (kk : ∀ (H1 : Heap) (locs1 : List Loc), kw D cA B dom ad X (up2 C r k x) H1 → va_S (fun q => B ≤ q) s.heap H1 locs1 → W p l e R s m args below meth c H1 locs1 cells slots Q (F0 m (pc + 3) ls rest)) : W p l e R s m args below meth c H locs cells slots Q (F0 m pc ls (v :: .ref (ad r) :: rest)) := by
  obtain ⟨E, h1, h2, h3⟩ := N
  refine nr_put S K h1 hS r hr ((h2 r hcr hr).trans hsh) hc hin ty0 hty hnm k hk hlink href hfin hn hfit hl hdg (fun H1 locs1 g1 g2 _ => ?_)
  exact kk H1 locs1 (kw_up hcr h2 h3 hset.symm g1) g2
theorem kr_putN (S : CallFix p m c cc nL s args WU own) (K : KK D cA B s) (N : kw D cA B dom ad X C H) (hS : va_S (fun q => B ≤ q) s.heap H locs) (r : Nat) (hcr : crole r) (hr : dom r) {ci : Nat} {fs : List Value} (hsh : sh cA ad r (C r) = .inr (ci, fs)) {C0 ref : String} {T : u_T} {n : Nat} (hc : vwCl[ci]? = some (C0, T, n)) (hin : ∀ w ∈ u_ws C0 T n, w ∈ WU) (ty0 : Nat → FieldType) (hty : ∀ k, k < n → parseFieldDescriptor (T k).2.2.1 = some (ty0 k)) (hnm : ∀ a, a < n → ∀ b, b < n → a ≠ b → (T a).2.1 ≠ (T b).2.1) (k : Nat) (hk : k < n) {index : Nat} (hlink : (own, index, ref, (T k).2.1, (T k).2.2.1) ∈ nwF) (href : ref = (T k).1) (hfin : (T k).2.2.2 = false) {v : Value} (x : Int32) (hset : sh cA ad r (upd (C r) k x) = .inr (ci, fs.set k v)) (hn : narrow (ty0 k) v = v) (hfit : fits (ty0 k) v = true) (hl : k < fs.length) (hdg : decode cc pc = .ok (.putfield index, 3))
    (kk : ∀ (H1 : Heap) (locs1 : List Loc), kw D cA B dom ad X (up2 C r k x) H1 → va_S (fun q => B ≤ q) s.heap H1 locs1 → W p l e R s m args below meth c H1 locs1 cells slots Q (F0 m (pc + 3) ls rest)) : W p l e R s m args below meth c H locs cells slots Q (F0 m pc ls (v :: .ref (ad r) :: rest)) := by
  obtain ⟨E, h1, h2, h3⟩ := N
  refine nr_putN S K h1 hS r hr ((h2 r hcr hr).trans hsh) hc hin ty0 hty hnm k hk hlink href hfin hn hfit hl hdg (fun H1 locs1 g1 g2 _ => ?_)
  exact kk H1 locs1 (kw_up hcr h2 h3 hset.symm g1) g2
theorem kr_iald (S : CallFix p m c cc nL s args WU own) (K : KK D cA B s) (N : kw D cA B dom ad X C H) (r : Nat) (hcr : crole r) (hr : dom r) {n : Nat} (hsh : sh cA ad r (C r) = .inl (cA 0, n, .inl (C r))) {j v : Int32} (hin : vp_in j n) (hv : C r j.toNatClampNeg = v) (hdg : decode cc pc = .ok (.iaload, 1))
    (kk : W p l e R s m args below meth c H locs cells slots Q (F0 m (pc + 1) ls (.int v :: rest))) : W p l e R s m args below meth c H locs cells slots Q (F0 m pc ls (.int j :: .ref (ad r) :: rest)) := by
  obtain ⟨E, h1, h2, h3⟩ := N
  exact nr_iald S K h1 r hr ((h2 r hcr hr).trans hsh) hin hv hdg kk
theorem kr_zald (S : CallFix p m c cc nL s args WU own) (K : KK D cA B s) (N : kw D cA B dom ad X C H) (r : Nat) (hcr : crole r) (hr : dom r) {n : Nat} (hsh : sh cA ad r (C r) = .inl (cA 1, n, .inl (C r))) {j v : Int32} (hin : vp_in j n) (hv : C r j.toNatClampNeg = v) (hdg : decode cc pc = .ok (.baload, 1))
    (kk : W p l e R s m args below meth c H locs cells slots Q (F0 m (pc + 1) ls (.int v :: rest))) : W p l e R s m args below meth c H locs cells slots Q (F0 m pc ls (.int j :: .ref (ad r) :: rest)) := by
  obtain ⟨E, h1, h2, h3⟩ := N
  exact nr_zald S K h1 r hr ((h2 r hcr hr).trans hsh) hin hv hdg kk
/-- a reference is read that may be null -/
theorem kr_aald (S : CallFix p m c cc nL s args WU own) (K : KK D cA B s) (N : kw D cA B dom ad X C H) (r : Nat) (hcr : crole r) (hr : dom r) (t0 : Nat) {Cs : String} (ht : (ntys cA)[t0]? = some (cA t0, .object Cs)) {n : Nat} {f : Nat → Option Nat} (hsh : sh cA ad r (C r) = .inl (cA t0, n, .inr (.inr (.inr (.inr f))))) {j : Int32} {v : Value} (hin : vp_in j n) (hv : va_rf (f j.toNatClampNeg) = v) (hdg : decode cc pc = .ok (.aaload, 1))
    (kk : W p l e R s m args below meth c H locs cells slots Q (F0 m (pc + 1) ls (v :: rest))) : W p l e R s m args below meth c H locs cells slots Q (F0 m pc ls (.int j :: .ref (ad r) :: rest)) := by
  obtain ⟨E, h1, h2, h3⟩ := N
  exact nr_aald S K h1 r hr t0 ht ((h2 r hcr hr).trans hsh) hin hv hdg kk
theorem kr_alen (S : CallFix p m c cc nL s args WU own) (K : KK D cA B s) (N : kw D cA B dom ad X C H) (r : Nat) (hcr : crole r) (hr : dom r) (t0 : Nat) {ty : FieldType} (ht : (ntys cA)[t0]? = some (cA t0, ty)) {x : vp_A} (hsh : sh cA ad r (C r) = .inl (cA t0, x)) {v : Int32} (hv : Int32.ofNat x.1 = v) (hdg : decode cc pc = .ok (.arraylength, 1))
    (kk : W p l e R s m args below meth c H locs cells slots Q (F0 m (pc + 1) ls (.int v :: rest))) : W p l e R s m args below meth c H locs cells slots Q (F0 m pc ls (.ref (ad r) :: rest)) := by
  obtain ⟨E, h1, h2, h3⟩ := N
  exact nr_alen S K h1 r hr t0 ht ((h2 r hcr hr).trans hsh) hv hdg kk
theorem kr_iast (S : CallFix p m c cc nL s args WU own) (K : KK D cA B s) (N : kw D cA B dom ad X C H) (hS : va_S (fun q => B ≤ q) s.heap H locs) (r : Nat) (hcr : crole r) (hr : dom r) {n : Nat} (hsh : ∀ c9 : Nat → Int32, sh cA ad r c9 = .inl (cA 0, n, .inl c9)) {j x : Int32} (hin : vp_in j n) (j0 : Nat) (hj : j.toNatClampNeg = j0) (hdg : decode cc pc = .ok (.iastore, 1))
    (kk : ∀ (H1 : Heap) (locs1 : List Loc), kw D cA B dom ad X (up2 C r j0 x) H1 → va_S (fun q => B ≤ q) s.heap H1 locs1 → W p l e R s m args below meth c H1 locs1 cells slots Q (F0 m (pc + 1) ls rest)) : W p l e R s m args below meth c H locs cells slots Q (F0 m pc ls (.int x :: .int j :: .ref (ad r) :: rest)) := by
  subst hj
  obtain ⟨E, h1, h2, h3⟩ := N
  refine nr_iast S K h1 hS r hr ((h2 r hcr hr).trans (hsh _)) hin hdg (fun H1 locs1 g1 g2 _ => ?_)
  exact kk H1 locs1 (kw_up hcr h2 h3 (hsh _).symm g1) g2
theorem kr_zast (S : CallFix p m c cc nL s args WU own) (K : KK D cA B s) (N : kw D cA B dom ad X C H) (hS : va_S (fun q => B ≤ q) s.heap H locs) (r : Nat) (hcr : crole r) (hr : dom r) {n : Nat} (hsh : ∀ c9 : Nat → Int32, sh cA ad r c9 = .inl (cA 1, n, .inl c9)) {j x : Int32} (hin : vp_in j n) (hx : vp_nar .boolean x = x) (j0 : Nat) (hj : j.toNatClampNeg = j0) (hdg : decode cc pc = .ok (.bastore, 1))
    (kk : ∀ (H1 : Heap) (locs1 : List Loc), kw D cA B dom ad X (up2 C r j0 x) H1 → va_S (fun q => B ≤ q) s.heap H1 locs1 → W p l e R s m args below meth c H1 locs1 cells slots Q (F0 m (pc + 1) ls rest)) : W p l e R s m args below meth c H locs cells slots Q (F0 m pc ls (.int x :: .int j :: .ref (ad r) :: rest)) := by
  subst hj
  obtain ⟨E, h1, h2, h3⟩ := N
  refine nr_zast S K h1 hS r hr ((h2 r hcr hr).trans (hsh _)) hin hx hdg (fun H1 locs1 g1 g2 _ => ?_)
  exact kk H1 locs1 (kw_up hcr h2 h3 (hsh _).symm g1) g2
/-- a call on an object of the class -/
theorem kc_rV {y : MethodName} {ycc : ByteArray} {yn idx f lo num : Nat} {ret : Option FieldType} {As st0 : List Value} {v : Value} (S : CallFix p m c cc nL s args WU own) (K : KK D cA B s) (N : kw D cA B dom ad X C H) (hS : va_S (fun q => B ≤ q) s.heap H locs) (r : Nat) (hcr : crole r) (hr : dom r) {ci : Nat} {fs : List Value} (hsh : sh cA ad r (C r) = .inr (ci, fs)) {T : u_T} {n : Nat} (hc : vwCl[ci]? = some (y.cls, T, n))
    (hM : MetR D cA B l y ycc yn ret f lo (.ref (ad r) :: As) H (some v)) (w1 : Cond.methodLink own idx y ∈ WU) (w2 : Cond.instanceMethod y ∈ WU) (w3 : Cond.selects y.cls y y ∈ WU) (w4 : Cond.initialized y.cls ∈ WU) (w5 : Cond.code y ycc yn ret ∈ WU) (hd : okN y num) (hlen : As.length = num) (hR : f + 1 ≤ R.frames ∧ 8 + (yn + 11) + lo ≤ R.locals) (hz : ls.size = nL) (hst : st0 = As.reverse ++ .ref (ad r) :: rest) (hw : (rest.map fun v => v.category).sum ≤ 8) (hdg : decode cc pc = .ok (.invokevirtual idx, 3)) (hf : cells ≤ R.cells ∧ slots ≤ R.slots)
    (kk : W p l e R s m args below meth c H locs cells slots Q (F0 m (pc + 3) ls (v :: rest))) : W p l e R s m args below meth c H locs cells slots Q (F0 m pc ls st0) := by
  obtain ⟨E, h1, h2, h3⟩ := N
  exact nc_rV S K h1 hS r hr ((h2 r hcr hr).trans hsh) hc hM w1 w2 w3 w4 w5 hd hlen hR hz hst hw hdg hf kk
theorem kc_wV {y : MethodName} {ycc : ByteArray} {yn idx f lo mc ms num : Nat} {ret : Option FieldType} {As st0 : List Value} {P : Option Value → Heap → Prop} (S : CallFix p m c cc nL s args WU own) (K : KK D cA B s) (N : kw D cA B dom ad X C H) (hS : va_S (fun q => B ≤ q) s.heap H locs) (r : Nat) (hcr : crole r) (hr : dom r) {ci : Nat} {fs : List Value} (hsh : sh cA ad r (C r) = .inr (ci, fs)) {T : u_T} {n : Nat} (hc : vwCl[ci]? = some (y.cls, T, n))
    (hM : MetW D cA B l y ycc yn ret f lo mc ms (.ref (ad r) :: As) H P) (w1 : Cond.methodLink own idx y ∈ WU) (w2 : Cond.instanceMethod y ∈ WU) (w3 : Cond.selects y.cls y y ∈ WU) (w4 : Cond.initialized y.cls ∈ WU) (w5 : Cond.code y ycc yn ret ∈ WU) (hd : okN y num) (hlen : As.length = num) (hR : f + 1 ≤ R.frames ∧ 8 + (yn + 11) + lo ≤ R.locals) (hz : ls.size = nL) (hst : st0 = As.reverse ++ .ref (ad r) :: rest) (hw : (rest.map fun v => v.category).sum ≤ 8) (hdg : decode cc pc = .ok (.invokevirtual idx, 3)) (hf : cells + mc ≤ R.cells ∧ slots + ms ≤ R.slots)
    (kk : ∀ (v : Option Value) (H1 : Heap) (locs1 : List Loc), P v H1 → va_S (fun q => B ≤ q) s.heap H1 locs1 → W p l e R s m args below meth c H1 locs1 (cells + mc) (slots + ms) Q (F0 m (pc + 3) ls (v.toList ++ rest))) : W p l e R s m args below meth c H locs cells slots Q (F0 m pc ls st0) := by
  obtain ⟨E, h1, h2, h3⟩ := N
  exact nc_wV S K h1 hS r hr ((h2 r hcr hr).trans hsh) hc hM w1 w2 w3 w4 w5 hd hlen hR hz hst hw hdg hf kk
theorem nt_a {v v2 : Value} (h : v = v2) (k : W p l e R s m args below meth c H locs cells slots Q (F0 m pc ls (v2 :: rest))) : W p l e R s m args below meth c H locs cells slots Q (F0 m pc ls (v :: rest)) := by subst h; exact k
end KR
/-- what lies in the heap -/
def dV (dom : Nat → Prop) (v : Nat) : Prop := dom (300 + 3 * v) ∧ dom (300 + 3 * v + 1) ∧ dom (300 + 3 * v + 2)
def dE (dom : Nat → Prop) (n : Nat) : Prop := dom (80 + n) ∧ dV dom (36 + n) ∧ dV dom (180 + n)
def dP (dom : Nat → Prop) (C : Nat → Nat → Int32) (k : Nat) : Prop := dom (40 + k) ∧ dom (52 + k) ∧ dom (64 + k) ∧ (∀ j, j < 3 → ¬ C (64 + k) j = 0 → dV dom (3 * k + j)) ∧ ∀ i, i < 12 → ¬ C (52 + k) i = 0 → dE dom (12 * k + i)
def dK (dom : Nat → Prop) (C : Nat → Nat → Int32) : Prop := (∀ r, r < 5 → dom r) ∧ (∀ d, d < 3 → dom (30 + d) ∧ dom (33 + d)) ∧ ∀ k, k < 12 → ¬ C 1 k = 0 → dP dom C k
