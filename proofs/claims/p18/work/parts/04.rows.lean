theorem iWX0 : ∀ w ∈ wsX00, w ∈ WU := by
  intro w hw
  obtain ⟨k, hk, rfl⟩ := List.mem_map.mp hw
  have hk := List.mem_range.mp hk
  match k, hk with
  | 0, _ => exact k1_41
  | k + 1, hk => omega
theorem iWX1 : ∀ w ∈ wsX10, w ∈ WU := by
  intro w hw
  obtain ⟨k, hk, rfl⟩ := List.mem_map.mp hw
  have hk := List.mem_range.mp hk
  match k, hk with
  | 0, _ => exact k3_28
  | 1, _ => exact k3_30
  | 2, _ => exact k3_32
  | 3, _ => exact k3_34
  | 4, _ => exact k3_36
  | 5, _ => exact k3_38
  | 6, _ => exact k3_40
  | 7, _ => exact k3_42
  | k + 8, hk => omega
theorem iWX2 : ∀ w ∈ wsX20, w ∈ WU := by
  intro w hw
  obtain ⟨k, hk, rfl⟩ := List.mem_map.mp hw
  have hk := List.mem_range.mp hk
  match k, hk with
  | 0, _ => exact k1_186
  | 1, _ => exact k1_188
  | 2, _ => exact k1_190
  | 3, _ => exact k1_192
  | 4, _ => exact k1_194
  | 5, _ => exact k1_196
  | 6, _ => exact k1_198
  | 7, _ => exact k1_200
  | 8, _ => exact k1_202
  | 9, _ => exact k1_204
  | 10, _ => exact k1_206
  | 11, _ => exact k1_208
  | k + 12, hk => omega
theorem iWX3 : ∀ w ∈ wsX30, w ∈ WU := by
  intro w hw
  obtain ⟨k, hk, rfl⟩ := List.mem_map.mp hw
  have hk := List.mem_range.mp hk
  match k, hk with
  | 0, _ => exact k1_156
  | 1, _ => exact k1_158
  | 2, _ => exact k1_160
  | 3, _ => exact k1_162
  | 4, _ => exact k1_164
  | 5, _ => exact k1_166
  | k + 6, hk => omega
theorem iWX4 : ∀ w ∈ wsX40, w ∈ WU := by
  intro w hw
  obtain ⟨k, hk, rfl⟩ := List.mem_map.mp hw
  have hk := List.mem_range.mp hk
  match k, hk with
  | 0, _ => exact k1_51
  | 1, _ => exact k1_53
  | 2, _ => exact k1_55
  | 3, _ => exact k1_57
  | 4, _ => exact k1_59
  | 5, _ => exact k1_61
  | k + 6, hk => omega
section NR
variable {p : Program} {l : Launch} {e : Env} {R : Room} {s : State} {m : MethodId} {args : Array Value} {below : List Frame} {meth : Method} {c : Code} {H : Heap} {locs : List Loc} {cells slots : Nat} {Q : State → Prop}
variable {cc : ByteArray} {nL : Nat} {own : String} {pc : Nat} {ls : Array Slot} {rest : List Value} {D : va_G} {cA : Nat → ClassId} {B : Nat} {dom : Nat → Prop} {ad : Nat → Nat} {E : Nat → va_E}
/-- a field is read -/
theorem nr_get (S : CallFix p m c cc nL s args WU own) (K : KK D cA B s) (N : nh D B dom ad E H) (r : Nat) (hr : dom r) {ci : Nat} {fs : List Value} (hE : E r = .inr (ci, fs)) {C ref : String} {T : u_T} {n : Nat} (hc : vwCl[ci]? = some (C, T, n)) (hin : ∀ w ∈ u_ws C T n, w ∈ WU) (k : Nat) (hk : k < n) {index : Nat} (hlink : Cond.fieldLink own index ref (T k).2.1 (T k).2.2.1 ∈ WU) (href : ref = (T k).1) {v : Value} (hv : fs[k]? = some v) (hdg : decode cc pc = .ok (.getfield index, 3))
    (kk : W p l e R s m args below meth c H locs cells slots Q (F0 m (pc + 3) ls (v :: rest))) : W p l e R s m args below meth c H locs cells slots Q (F0 m pc ls (.ref (ad r) :: rest)) := by
  subst href
  exact va_get (D := D) (ci := ci) (C := C) (T := T) (N := n) S.1 S.2.1 S.2.2.2.2 hin S.2.2.2.1 K.1 (nh_one N hr hE) 0 rfl hc k hk (S.2.2.2.2 _ hlink) (fun _ h => h) hv hdg kk
theorem nr_getN (S : CallFix p m c cc nL s args WU own) (K : KK D cA B s) (N : nh D B dom ad E H) (r : Nat) (hr : dom r) {ci : Nat} {fs : List Value} (hE : E r = .inr (ci, fs)) {C ref : String} {T : u_T} {n : Nat} (hc : vwCl[ci]? = some (C, T, n)) (hin : ∀ w ∈ u_ws C T n, w ∈ WU) (k : Nat) (hk : k < n) {index : Nat} (hlink : (own, index, ref, (T k).2.1, (T k).2.2.1) ∈ nwF) (href : ref = (T k).1) {v : Value} (hv : fs[k]? = some v) (hdg : decode cc pc = .ok (.getfield index, 3))
    (kk : W p l e R s m args below meth c H locs cells slots Q (F0 m (pc + 3) ls (v :: rest))) : W p l e R s m args below meth c H locs cells slots Q (F0 m pc ls (.ref (ad r) :: rest)) := by
  subst href
  exact va_getN (D := D) (ci := ci) (C := C) (T := T) (N := n) S.1 S.2.1 S.2.2.2.2 hin S.2.2.2.1 K.1 (nh_one N hr hE) 0 rfl hc k hk (va_Nw.use rfl (K.2.1 _ hlink)) (fun _ h => h) hv hdg kk
/-- a field is written -/
theorem nr_put (S : CallFix p m c cc nL s args WU own) (K : KK D cA B s) (N : nh D B dom ad E H) (hS : va_S (fun q => B ≤ q) s.heap H locs) (r : Nat) (hr : dom r) {ci : Nat} {fs : List Value} (hE : E r = .inr (ci, fs)) {C ref : String} {T : u_T} {n : Nat} (hc : vwCl[ci]? = some (C, T, n)) (hin : ∀ w ∈ u_ws C T n, w ∈ WU) (ty0 : Nat → FieldType) (hty : ∀ k, k < n → parseFieldDescriptor (T k).2.2.1 = some (ty0 k)) (hnm : ∀ a, a < n → ∀ b, b < n → a ≠ b → (T a).2.1 ≠ (T b).2.1) (k : Nat) (hk : k < n) {index : Nat} (hlink : Cond.fieldLink own index ref (T k).2.1 (T k).2.2.1 ∈ WU) (href : ref = (T k).1) (hfin : (T k).2.2.2 = false) {v : Value} (hn : narrow (ty0 k) v = v) (hfit : fits (ty0 k) v = true) (hl : k < fs.length) (hdg : decode cc pc = .ok (.putfield index, 3))
    (kk : ∀ (H1 : Heap) (locs1 : List Loc), nh D B dom ad (va_up E r (.inr (ci, fs.set k v))) H1 → va_S (fun q => B ≤ q) s.heap H1 locs1 → H1.size = H.size → W p l e R s m args below meth c H1 locs1 cells slots Q (F0 m (pc + 3) ls rest)) : W p l e R s m args below meth c H locs cells slots Q (F0 m pc ls (v :: .ref (ad r) :: rest)) := by
  subst href
  have hap := va_apart (own := own) S.2.2.2.2 hin ty0 hty hnm K.1 hc
  obtain ⟨r0, h1, cell, q1, q2, q3, q4⟩ := nh_one N hr hE 0 _ rfl
  have hr0 : r0 = (C, T, n) := Option.some.inj (h1.symm.trans hc)
  subst hr0
  obtain ⟨hSl, hfc, kC, hkC, hkind⟩ := K.1.1 ci _ hc
  obtain ⟨cf, kf, fi, f, hi, hsl⟩ := hSl k hk
  have hlay := S.2.2.2.2 _ (hin _ (u_in_lay hk))
  unfold u_lay at hlay
  rw [if_neg (by rw [hfin]; decide)] at hlay
  have hst := (u_facts hfc hkC (u_lays S.2.2.2.2 hin hk) hi).1
  have h6 := u_store hfc hkC hkind hlay hi (hty k hk) hn hfit
  refine W.putK S.1 S.2.1 (f := f) ⟨S.2.2.2.1, S.2.2.2.2 _ hlink, ⟨_, _, _, hi⟩, hst⟩ (by rw [q2]; exact h6) q1 q3 (by rw [hsl]; exact k2_hasslot (q4 k hk)) rfl rfl hdg fun H' e1 e2 e3 => ?_
  rw [hsl] at e1 ⊢
  exact kk H' _ (nh_upd N hr ⟨_, hc, t_OB.to (V := updV (vp_V fs) k v) ⟨_, e1, q2, q3, t_set q4 hap hk v⟩ (fun j _ => vp_updV_set hl v j)⟩ e3) (hS.put e2 e3 (N.1 r hr).2) e2
theorem nr_putN (S : CallFix p m c cc nL s args WU own) (K : KK D cA B s) (N : nh D B dom ad E H) (hS : va_S (fun q => B ≤ q) s.heap H locs) (r : Nat) (hr : dom r) {ci : Nat} {fs : List Value} (hE : E r = .inr (ci, fs)) {C ref : String} {T : u_T} {n : Nat} (hc : vwCl[ci]? = some (C, T, n)) (hin : ∀ w ∈ u_ws C T n, w ∈ WU) (ty0 : Nat → FieldType) (hty : ∀ k, k < n → parseFieldDescriptor (T k).2.2.1 = some (ty0 k)) (hnm : ∀ a, a < n → ∀ b, b < n → a ≠ b → (T a).2.1 ≠ (T b).2.1) (k : Nat) (hk : k < n) {index : Nat} (hlink : (own, index, ref, (T k).2.1, (T k).2.2.1) ∈ nwF) (href : ref = (T k).1) (hfin : (T k).2.2.2 = false) {v : Value} (hn : narrow (ty0 k) v = v) (hfit : fits (ty0 k) v = true) (hl : k < fs.length) (hdg : decode cc pc = .ok (.putfield index, 3))
    (kk : ∀ (H1 : Heap) (locs1 : List Loc), nh D B dom ad (va_up E r (.inr (ci, fs.set k v))) H1 → va_S (fun q => B ≤ q) s.heap H1 locs1 → H1.size = H.size → W p l e R s m args below meth c H1 locs1 cells slots Q (F0 m (pc + 3) ls rest)) : W p l e R s m args below meth c H locs cells slots Q (F0 m pc ls (v :: .ref (ad r) :: rest)) := by
  subst href
  have hap := va_apart (own := own) S.2.2.2.2 hin ty0 hty hnm K.1 hc
  obtain ⟨r0, h1, cell, q1, q2, q3, q4⟩ := nh_one N hr hE 0 _ rfl
  have hr0 : r0 = (C, T, n) := Option.some.inj (h1.symm.trans hc)
  subst hr0
  obtain ⟨hSl, hfc, kC, hkC, hkind⟩ := K.1.1 ci _ hc
  obtain ⟨cf, kf, fi, f, hi, hsl⟩ := hSl k hk
  have hlay := S.2.2.2.2 _ (hin _ (u_in_lay hk))
  unfold u_lay at hlay
  rw [if_neg (by rw [hfin]; decide)] at hlay
  have hst := (u_facts hfc hkC (u_lays S.2.2.2.2 hin hk) hi).1
  have h6 := u_store hfc hkC hkind hlay hi (hty k hk) hn hfit
  refine va_WputK S.1 S.2.1 (f := f) S.2.2.2.1 (va_Nw.use rfl (K.2.1 _ hlink)) hi hst (by rw [q2]; exact h6) q1 q3 (by rw [hsl]; exact k2_hasslot (q4 k hk)) rfl rfl hdg fun H' e1 e2 e3 => ?_
  rw [hsl] at e1 ⊢
  exact kk H' _ (nh_upd N hr ⟨_, hc, t_OB.to (V := updV (vp_V fs) k v) ⟨_, e1, q2, q3, t_set q4 hap hk v⟩ (fun j _ => vp_updV_set hl v j)⟩ e3) (hS.put e2 e3 (N.1 r hr).2) e2
/-- a final field, in its constructor -/
theorem nr_putF (S : CallFix p m c cc nL s args WU own) (K : KK D cA B s) (N : nh D B dom ad E H) (hS : va_S (fun q => B ≤ q) s.heap H locs) (r : Nat) (hr : dom r) {ci : Nat} {fs : List Value} (hE : E r = .inr (ci, fs)) {C ref : String} {T : u_T} {n : Nat} (hc : vwCl[ci]? = some (C, T, n)) (hin : ∀ w ∈ u_ws C T n, w ∈ WU) (ty0 : Nat → FieldType) (hty : ∀ k, k < n → parseFieldDescriptor (T k).2.2.1 = some (ty0 k)) (hnm : ∀ a, a < n → ∀ b, b < n → a ≠ b → (T a).2.1 ≠ (T b).2.1) (k : Nat) (hk : k < n) {index : Nat} (hlink : Cond.fieldLink own index ref (T k).2.1 (T k).2.2.1 ∈ WU) (href : ref = (T k).1) (hfin : (T k).2.2.2 = true) (hi0 : meth.name = "<init>") (hdecl : (T k).1 = own) {v : Value} (hn : narrow (ty0 k) v = v) (hfit : fits (ty0 k) v = true) (hl : k < fs.length) (hdg : decode cc pc = .ok (.putfield index, 3))
    (kk : ∀ (H1 : Heap) (locs1 : List Loc), nh D B dom ad (va_up E r (.inr (ci, fs.set k v))) H1 → va_S (fun q => B ≤ q) s.heap H1 locs1 → H1.size = H.size → W p l e R s m args below meth c H1 locs1 cells slots Q (F0 m (pc + 3) ls rest)) : W p l e R s m args below meth c H locs cells slots Q (F0 m pc ls (v :: .ref (ad r) :: rest)) := by
  subst href
  have hap := va_apart (own := own) S.2.2.2.2 hin ty0 hty hnm K.1 hc
  obtain ⟨r0, h1, cell, q1, q2, q3, q4⟩ := nh_one N hr hE 0 _ rfl
  have hr0 : r0 = (C, T, n) := Option.some.inj (h1.symm.trans hc)
  subst hr0
  obtain ⟨hSl, hfc, kC, hkC, hkind⟩ := K.1.1 ci _ hc
  obtain ⟨cf, kf, fi, f, hi, hsl⟩ := hSl k hk
  have hlay := S.2.2.2.2 _ (hin _ (u_in_lay hk))
  unfold u_lay at hlay
  rw [if_pos hfin] at hlay
  have hst := (u_facts hfc hkC (u_lays S.2.2.2.2 hin hk) hi).1
  have hcf : m.cls = cf := by
    obtain ⟨_, _, c', _, _, _, -, -, hf', -, -, -, hown2, -⟩ := Cond.laysFinal_spec hlay
    have e1 : c' = cf := by have := hi.symm.trans hf'; simp at this; exact this.1.symm
    rw [hdecl] at hown2
    rw [← e1]; exact Option.some.inj (S.2.2.2.1.symm.trans hown2)
  have h6 := u_fits hfc hkC hkind (Or.inr hlay) hi (hty k hk) hn hfit
  refine W.putFinK S.1 S.2.1 S.2.2.2.1 (S.2.2.2.2 _ hlink) hi hst hcf hi0 (by rw [q2]; exact h6) q1 q3 (by rw [hsl]; exact k2_hasslot (q4 k hk)) rfl rfl hdg fun H' e1 e2 e3 => ?_
  rw [hsl] at e1 ⊢
  exact kk H' _ (nh_upd N hr ⟨_, hc, t_OB.to (V := updV (vp_V fs) k v) ⟨_, e1, q2, q3, t_set q4 hap hk v⟩ (fun j _ => vp_updV_set hl v j)⟩ e3) (hS.put e2 e3 (N.1 r hr).2) e2
/-- arrays are read -/
theorem nr_iald (S : CallFix p m c cc nL s args WU own) (K : KK D cA B s) (N : nh D B dom ad E H) (r : Nat) (hr : dom r) {n : Nat} {f : Nat → Int32} (hE : E r = .inl (cA 0, n, .inl f)) {i x : Int32} (hin : vp_in i n) (hv : f i.toNatClampNeg = x) (hdg : decode cc pc = .ok (.iaload, 1))
    (kk : W p l e R s m args below meth c H locs cells slots Q (F0 m (pc + 1) ls (.int x :: rest))) : W p l e R s m args below meth c H locs cells slots Q (F0 m pc ls (.int i :: .ref (ad r) :: rest)) := by
  subst hv
  exact va_iald (tys := ntys cA) S.1 S.2.1 K.1 (nh_one N hr hE) 0 0 rfl rfl hin hdg kk
theorem nr_zald (S : CallFix p m c cc nL s args WU own) (K : KK D cA B s) (N : nh D B dom ad E H) (r : Nat) (hr : dom r) {n : Nat} {f : Nat → Int32} (hE : E r = .inl (cA 1, n, .inl f)) {i x : Int32} (hin : vp_in i n) (hv : f i.toNatClampNeg = x) (hdg : decode cc pc = .ok (.baload, 1))
    (kk : W p l e R s m args below meth c H locs cells slots Q (F0 m (pc + 1) ls (.int x :: rest))) : W p l e R s m args below meth c H locs cells slots Q (F0 m pc ls (.int i :: .ref (ad r) :: rest)) := by
  subst hv
  exact va_zald (tys := ntys cA) S.1 S.2.1 K.1 (nh_one N hr hE) 0 1 rfl rfl hin hdg kk
theorem nr_aald (S : CallFix p m c cc nL s args WU own) (K : KK D cA B s) (N : nh D B dom ad E H) (r : Nat) (hr : dom r) (t0 : Nat) {C : String} (ht : (ntys cA)[t0]? = some (cA t0, .object C)) {n : Nat} {f : Nat → Option Nat} (hE : E r = .inl (cA t0, n, .inr (.inr (.inr (.inr f))))) {i : Int32} {v : Value} (hin : vp_in i n) (hv : va_rf (f i.toNatClampNeg) = v) (hdg : decode cc pc = .ok (.aaload, 1))
    (kk : W p l e R s m args below meth c H locs cells slots Q (F0 m (pc + 1) ls (v :: rest))) : W p l e R s m args below meth c H locs cells slots Q (F0 m pc ls (.int i :: .ref (ad r) :: rest)) := by
  subst hv
  exact va_aldq (tys := ntys cA) S.1 S.2.1 K.1 (nh_one N hr hE) 0 t0 rfl ht hin hdg kk
theorem nr_alen (S : CallFix p m c cc nL s args WU own) (K : KK D cA B s) (N : nh D B dom ad E H) (r : Nat) (hr : dom r) (t0 : Nat) {ty : FieldType} (ht : (ntys cA)[t0]? = some (cA t0, ty)) {x : vp_A} (hE : E r = .inl (cA t0, x)) {v : Int32} (hv : Int32.ofNat x.1 = v) (hdg : decode cc pc = .ok (.arraylength, 1))
    (kk : W p l e R s m args below meth c H locs cells slots Q (F0 m (pc + 1) ls (.int v :: rest))) : W p l e R s m args below meth c H locs cells slots Q (F0 m pc ls (.ref (ad r) :: rest)) :=
  va_alen (tys := ntys cA) S.1 S.2.1 K.1 (nh_one N hr hE) 0 t0 rfl ht hv hdg kk
/-- arrays are written -/
theorem nr_iast (S : CallFix p m c cc nL s args WU own) (K : KK D cA B s) (N : nh D B dom ad E H) (hS : va_S (fun q => B ≤ q) s.heap H locs) (r : Nat) (hr : dom r) {n : Nat} {f : Nat → Int32} (hE : E r = .inl (cA 0, n, .inl f)) {i x : Int32} (hin : vp_in i n) (hdg : decode cc pc = .ok (.iastore, 1))
    (kk : ∀ (H1 : Heap) (locs1 : List Loc), nh D B dom ad (va_up E r (.inl (cA 0, n, .inl (upd f i.toNatClampNeg x)))) H1 → va_S (fun q => B ≤ q) s.heap H1 locs1 → H1.size = H.size → W p l e R s m args below meth c H1 locs1 cells slots Q (F0 m (pc + 1) ls rest)) : W p l e R s m args below meth c H locs cells slots Q (F0 m pc ls (.int x :: .int i :: .ref (ad r) :: rest)) := by
  refine W.iast S.1 S.2.1 (nh_one N hr hE 0 _ rfl) ((K.1.2 0 _ rfl).1 n (fun j => .int (f j))) (fun q => by cases q) (by show ¬ (i < 0 ∨ (arrV _ _ _).slots.size ≤ _); rw [arrV_size]; exact hin) rfl rfl hdg fun H1 e z oq => ?_
  refine kk H1 _ (nh_upd N hr ?_ oq) (hS.put z oq (N.1 r hr).2) z
  show H1[ad r]? = some (vp_cell _ _)
  rw [e, vp_cell_i, vp_cell_i, arrV_store]
  congr 2
  funext q
  by_cases hq : q = i.toNatClampNeg
  · subst hq
    simp [updV, upd]
  · simp [updV, upd, hq]
theorem nr_zast (S : CallFix p m c cc nL s args WU own) (K : KK D cA B s) (N : nh D B dom ad E H) (hS : va_S (fun q => B ≤ q) s.heap H locs) (r : Nat) (hr : dom r) {n : Nat} {f : Nat → Int32} (hE : E r = .inl (cA 1, n, .inl f)) {i x : Int32} (hin : vp_in i n) (hx : vp_nar .boolean x = x) (hdg : decode cc pc = .ok (.bastore, 1))
    (kk : ∀ (H1 : Heap) (locs1 : List Loc), nh D B dom ad (va_up E r (.inl (cA 1, n, .inl (upd f i.toNatClampNeg x)))) H1 → va_S (fun q => B ≤ q) s.heap H1 locs1 → H1.size = H.size → W p l e R s m args below meth c H1 locs1 cells slots Q (F0 m (pc + 1) ls rest)) : W p l e R s m args below meth c H locs cells slots Q (F0 m pc ls (.int x :: .int i :: .ref (ad r) :: rest)) := by
  refine W.zast S.1 S.2.1 (nh_one N hr hE 0 _ rfl) ((K.1.2 1 _ rfl).1 n (fun j => .int (f j))) (fun q => by cases q) (by show ¬ (i < 0 ∨ (arrV _ _ _).slots.size ≤ _); rw [arrV_size]; exact hin) rfl rfl hdg fun H1 e z oq => ?_
  refine kk H1 _ (nh_upd N hr ?_ oq) (hS.put z oq (N.1 r hr).2) z
  have hx2 : narrow .boolean (.int x) = .int x := by
    have h9 : narrow .boolean (.int x) = .int (vp_nar .boolean x) := rfl
    rw [h9, hx]
  show H1[ad r]? = some (vp_cell _ _)
  rw [e, hx2, vp_cell_i, vp_cell_i, arrV_store]
  congr 2
  funext q
  by_cases hq : q = i.toNatClampNeg
  · subst hq
    simp [updV, upd]
  · simp [updV, upd, hq]
theorem nr_aast (S : CallFix p m c cc nL s args WU own) (K : KK D cA B s) (N : nh D B dom ad E H) (hS : va_S (fun q => B ≤ q) s.heap H locs) (r : Nat) (hr : dom r) (t0 : Nat) {q9 : vw_C} (ht : (ntys cA)[t0]? = some (cA t0, .object q9.1)) {n : Nat} {f : Nat → Option Nat} (hE : E r = .inl (cA t0, n, .inr (.inr (.inr (.inr f))))) (r2 : Nat) (hr2 : dom r2) {ci : Nat} {vs : List Value} (hE2 : E r2 = .inr (ci, vs)) (hc : vwCl[ci]? = some q9) {i : Int32} (hin : vp_in i n) (hdg : decode cc pc = .ok (.aastore, 1))
    (kk : ∀ (H1 : Heap) (locs1 : List Loc), nh D B dom ad (va_up E r (.inl (cA t0, n, .inr (.inr (.inr (.inr (va_up f i.toNatClampNeg (some (ad r2))))))))) H1 → va_S (fun q => B ≤ q) s.heap H1 locs1 → H1.size = H.size → W p l e R s m args below meth c H1 locs1 cells slots Q (F0 m (pc + 1) ls rest)) : W p l e R s m args below meth c H locs cells slots Q (F0 m pc ls (.ref (ad r2) :: .int i :: .ref (ad r) :: rest)) := by
  have hlt : i.toNatClampNeg < n := Nat.not_le.mp fun q => hin (Or.inr q)
  have h0 : ¬ i < 0 := fun q => hin (Or.inl q)
  obtain ⟨r', hr', cellV, g1, g2, g3, -⟩ := nh_one N hr2 hE2 0 _ rfl
  have hcls := (K.1.1 ci q9 hc).2
  obtain ⟨kA, comp, k1, k2, k3, -⟩ := (K.1.2 t0 _ ht).2
  have hcomp : comp = D.1 ci := Option.some.inj (k3.symm.trans hcls.1)
  subst hcomp
  obtain ⟨kC, hkC, -⟩ := id hcls.2
  refine W.aast S.1 S.2.1 (nh_one N hr hE 0 _ rfl) (fun q h => by cases h) (fun h => by cases h) k1 k2 rfl hkC ⟨h0, by show _ < (arrV _ _ _).slots.size; rw [arrV_size]; exact hlt⟩ g1 (fun q h => by rw [g3] at h; cases h) (by rw [g2]; exact hkC) (by rw [g2]; exact va_assign hcls) rfl rfl hdg fun H1 e z oq => ?_
  refine kk H1 _ (nh_upd N hr ?_ oq) (hS.put z oq (N.1 r hr).2) z
  show H1[ad r]? = some (vp_cell _ _)
  rw [e, vp_cell_q, vp_cell_q, arrV_store]
  congr 2
  funext q
  by_cases hq : q = i.toNatClampNeg
  · subst hq
    simp [updV, va_up, va_rf]
  · simp [updV, va_up, hq]
/-- cells are made: the next address is the one that ad foresaw -/
theorem nr_new (S : CallFix p m c cc nL s args WU own) (K : KK D cA B s) (N : nh D B dom ad E H) (hS : va_S (fun q => B ≤ q) s.heap H locs) (r : Nat) (hr : ¬ dom r) (ha : ad r = H.size) {ci : Nat} {C : String} {T : u_T} {n : Nat} (hc : vwCl[ci]? = some (C, T, n)) (hin : ∀ w ∈ u_ws C T n, w ∈ WU) (ty0 : Nat → FieldType) (hty : ∀ k, k < n → parseFieldDescriptor (T k).2.2.1 = some (ty0 k)) {index : Nat} (hcl : Cond.classLink own index C ∈ WU) (hinst : Cond.instantiable C n ∈ WU) (hini : Cond.initialized C ∈ WU) (fs : List Value) (hfs : ∀ j, j < n → defaultValue (ty0 j) = vp_V fs j) (hcells : cells + 1 ≤ R.cells) (hslots : slots + n ≤ R.slots) (hdg : decode cc pc = .ok (.new index, 3))
    (kk : ∀ (H1 : Heap), nh D B (fun q => dom q ∨ q = r) ad (va_up E r (.inr (ci, fs))) H1 → va_S (fun q => B ≤ q) s.heap H1 locs → H1.size = H.size + 1 → W p l e R s m args below meth c H1 locs (cells + 1) (slots + n) Q (F0 m (pc + 3) ls (.ref (ad r) :: rest))) : W p l e R s m args below meth c H locs cells slots Q (F0 m pc ls rest) := by
  have hKn := K.1.1 ci _ hc
  refine W.newcK S.1 S.2.1 S.2.2.2.1 (S.2.2.2.2 _ hcl) (S.2.2.2.2 _ hinst) (S.2.2.2.2 _ hini) rfl hdg hcells hslots hKn.2.1 rfl fun H1 kC hkC e1 z1 o1 => ?_
  have hBs : B ≤ s.heap.size := K.2.2.2.2.2.2.1
  have hBH : B ≤ H.size := Nat.le_trans hBs hS.1
  rw [← ha]
  refine kk H1 (nh_new N hr ha hBH ?_ o1) ⟨Nat.le_trans hS.1 (by omega), fun x h1 h2 => (o1 x (Nat.lt_of_lt_of_le h1 hS.1)).trans (hS.2.1 x h1 h2), hS.2.2⟩ z1
  rw [ha]
  exact ⟨_, hc, (u_born ty0 S.2.2.2.2 hin hKn hkC e1 hty).to hfs⟩
theorem nr_newa (S : CallFix p m c cc nL s args WU own) (K : KK D cA B s) (N : nh D B dom ad E H) (hS : va_S (fun q => B ≤ q) s.heap H locs) (r : Nat) (hr : ¬ dom r) (ha : ad r = H.size) {atype : ArrayType} {ty : FieldType} (hty : newarray.typeOf atype = ty) (hno : ∀ C, ty ≠ .object C) (harr : Cond.arrayClass ty ∈ WU) (t0 : Nat) (ht : (ntys cA)[t0]? = some (cA t0, ty)) {i : Int32} {n : Nat} (hn : ¬ i < 0) (hN : i.toNatClampNeg = n) (hbytes : n * componentBytes ty ≤ 536870912) (a0 : vp_A) (ha0 : ∀ cA : ClassId, vp_cell cA a0 = arrV cA n (fun _ => defaultValue ty)) (hcells : cells + 1 ≤ R.cells) (hslots : slots + n ≤ R.slots) (hdg : decode cc pc = .ok (.newarray atype, 2))
    (kk : ∀ (H1 : Heap), nh D B (fun q => dom q ∨ q = r) ad (va_up E r (.inl (cA t0, a0))) H1 → va_S (fun q => B ≤ q) s.heap H1 locs → H1.size = H.size + 1 → W p l e R s m args below meth c H1 locs (cells + 1) (slots + n) Q (F0 m (pc + 2) ls (.ref (ad r) :: rest))) : W p l e R s m args below meth c H locs cells slots Q (F0 m pc ls (.int i :: rest)) := by
  subst hty
  refine va_newaK S.1 S.2.1 (S.2.2.2.2 _ harr) rfl hdg rfl hn hN hbytes hcells hslots rfl fun H1 c1 e1 z1 o1 hAr hNm => ?_
  have hBH : B ≤ H.size := Nat.le_trans K.2.2.2.2.2.2.1 hS.1
  have hc1 : c1 = cA t0 := by
    have h9 := (K.1.2 t0 _ ht).2
    have h8 : s.vm.findClass ("[" ++ (newarray.typeOf atype).toString) = some (cA t0) := by
      cases atype <;> exact h9
    exact Option.some.inj (hNm.symm.trans h8)
  subst hc1
  rw [← ha]
  refine kk H1 (nh_new N hr ha hBH ?_ o1) ⟨Nat.le_trans hS.1 (by omega), fun x h1 h2 => (o1 x (Nat.lt_of_lt_of_le h1 hS.1)).trans (hS.2.1 x h1 h2), hS.2.2⟩ z1
  show H1[ad r]? = some (vp_cell _ _)
  rw [ha0, ha]
  exact e1
theorem nr_newq (S : CallFix p m c cc nL s args WU own) (K : KK D cA B s) (N : nh D B dom ad E H) (hS : va_S (fun q => B ≤ q) s.heap H locs) (r : Nat) (hr : ¬ dom r) (ha : ad r = H.size) {C : String} {index : Nat} (hcl : Cond.classLink own index C ∈ WU) (hover : va_AO C s) (t0 : Nat) (ht : (ntys cA)[t0]? = some (cA t0, .object C)) {i : Int32} {n : Nat} (hn : ¬ i < 0) (hN : i.toNatClampNeg = n) (hbytes : n * 4 ≤ 536870912) (hcells : cells + 1 ≤ R.cells) (hslots : slots + n ≤ R.slots) (hdg : decode cc pc = .ok (.anewarray index, 3))
    (kk : ∀ (H1 : Heap), nh D B (fun q => dom q ∨ q = r) ad (va_up E r (.inl (cA t0, n, .inr (.inr (.inr (.inr (fun _ => none))))))) H1 → va_S (fun q => B ≤ q) s.heap H1 locs → H1.size = H.size + 1 → W p l e R s m args below meth c H1 locs (cells + 1) (slots + n) Q (F0 m (pc + 3) ls (.ref (ad r) :: rest))) : W p l e R s m args below meth c H locs cells slots Q (F0 m pc ls (.int i :: rest)) := by
  subst hN
  refine W.anew S.1 S.2.1 S.2.2.2.1 (S.2.2.2.2 _ hcl) (va_AO.use hover) rfl hdg rfl hn hbytes hcells hslots fun c1 kA comp f1 f2 f3 f4 => ?_
  generalize hH1 : H.push ({ cls := c1, slots := Array.replicate i.toNatClampNeg .null, vm := .none } : Cell) = H1
  have z1 : H1.size = H.size + 1 := by rw [← hH1, Array.size_push]
  have e1 : H1[H.size]? = some (arrV c1 i.toNatClampNeg (fun _ => .null)) := by rw [← hH1, Array.getElem?_push_size, ← arrV_new]
  have o1 : ∀ q : Nat, q < H.size → H1[q]? = H[q]? := fun q hq => by rw [← hH1, Array.getElem?_push, if_neg (Nat.ne_of_lt hq)]
  have hBH : B ≤ H.size := Nat.le_trans K.2.2.2.2.2.2.1 hS.1
  have hc1 : c1 = cA t0 := by
    obtain ⟨_, _, _, _, _, h9⟩ := (K.1.2 t0 _ ht).2
    exact Option.some.inj (f1.symm.trans h9)
  subst hc1
  rw [← ha]
  refine kk H1 (nh_new N hr ha hBH ?_ o1) ⟨Nat.le_trans hS.1 (by omega), fun x h1 h2 => (o1 x (Nat.lt_of_lt_of_le h1 hS.1)).trans (hS.2.1 x h1 h2), hS.2.2⟩ z1
  show H1[ad r]? = some (vp_cell _ _)
  rw [vp_cell_q, ha]
  exact e1
end NR
