/-! THE NAMED HEAP: every cell of the class, of the reference and of the law has a number of its own (a role);
dom: the roles that lie in the heap, ad: their addresses, all from B on and apart; E: what each holds -/
def nh (D : va_G) (B : Nat) (dom : Nat → Prop) (ad : Nat → Nat) (E : Nat → va_E) (H : Heap) : Prop :=
  (∀ r, dom r → va_at D vwCl (ad r, E r) H ∧ B ≤ ad r) ∧ ∀ r r', dom r → dom r' → ad r = ad r' → r = r'
theorem nh_one {D : va_G} {B : Nat} {dom : Nat → Prop} {ad : Nat → Nat} {E : Nat → va_E} {H : Heap} (h : nh D B dom ad E H) {r : Nat} (hr : dom r) {x : va_E} (hE : E r = x) : va_P D vwCl [(ad r, x)] H := by
  intro k q hk
  cases k with
  | zero =>
    cases hk
    rw [← hE]
    exact (h.1 r hr).1
  | succ k => simp at hk
theorem nh_two {D : va_G} {B : Nat} {dom : Nat → Prop} {ad : Nat → Nat} {E : Nat → va_E} {H : Heap} (h : nh D B dom ad E H) {r r2 : Nat} (hr : dom r) (hr2 : dom r2) {x y : va_E} (hE : E r = x) (hE2 : E r2 = y) : va_P D vwCl [(ad r, x), (ad r2, y)] H := by
  intro k q hk
  match k, hk with
  | 0, hk => cases hk; rw [← hE]; exact (h.1 r hr).1
  | 1, hk => cases hk; rw [← hE2]; exact (h.1 r2 hr2).1
  | k + 2, hk => simp at hk
theorem nh_upd {D : va_G} {B : Nat} {dom : Nat → Prop} {ad : Nat → Nat} {E : Nat → va_E} {H H1 : Heap} (h : nh D B dom ad E H) {r : Nat} (hr : dom r) {x : va_E} (hx : va_at D vwCl (ad r, x) H1) (oq : ∀ q : Nat, q ≠ ad r → H1[q]? = H[q]?) : nh D B dom ad (va_up E r x) H1 := by
  refine ⟨fun r' h' => ⟨?_, (h.1 r' h').2⟩, h.2⟩
  by_cases e : r' = r
  · subst e
    rw [va_up_self]
    exact hx
  · rw [va_up_ne E x e]
    exact (h.1 r' h').1.kept (oq _ (fun z => e (h.2 r' r h' hr z)))
theorem nh_kept {D : va_G} {B : Nat} {dom : Nat → Prop} {ad : Nat → Nat} {E : Nat → va_E} {H H1 : Heap} (h : nh D B dom ad E H) (oq : ∀ q : Nat, q < H.size → H1[q]? = H[q]?) : nh D B dom ad E H1 :=
  ⟨fun r hr => ⟨(h.1 r hr).1.kept (oq _ (h.1 r hr).1.lt), (h.1 r hr).2⟩, h.2⟩
theorem nh_new {D : va_G} {B : Nat} {dom : Nat → Prop} {ad : Nat → Nat} {E : Nat → va_E} {H H1 : Heap} (h : nh D B dom ad E H) {r : Nat} (hr : ¬ dom r) (ha : ad r = H.size) (hB : B ≤ H.size) {x : va_E} (hx : va_at D vwCl (ad r, x) H1) (oq : ∀ q : Nat, q < H.size → H1[q]? = H[q]?) : nh D B (fun q => dom q ∨ q = r) ad (va_up E r x) H1 := by
  refine ⟨fun r' h' => ?_, fun a b h1 h2 hab => ?_⟩
  · rcases h' with h' | h'
    · have e : r' ≠ r := fun e => hr (by rw [← e]; exact h')
      rw [va_up_ne E x e]
      exact ⟨(h.1 r' h').1.kept (oq _ (h.1 r' h').1.lt), (h.1 r' h').2⟩
    · subst h'
      rw [va_up_self]
      exact ⟨hx, by rw [ha]; exact hB⟩
  · rcases h1 with h1 | h1 <;> rcases h2 with h2 | h2
    · exact h.2 a b h1 h2 hab
    · subst h2
      have := (h.1 a h1).1.lt
      dsimp only at this
      omega
    · subst h1
      have := (h.1 b h2).1.lt
      dsimp only at this
      omega
    · rw [h1, h2]
theorem nh_sub {D : va_G} {B : Nat} {dom dom' : Nat → Prop} {ad : Nat → Nat} {E : Nat → va_E} {H : Heap} (h : nh D B dom ad E H) (hd : ∀ r, dom' r → dom r) : nh D B dom' ad E H :=
  ⟨fun r hr => h.1 r (hd r hr), fun a b h1 h2 => h.2 a b (hd a h1) (hd b h2)⟩
theorem nh_congr {D : va_G} {B : Nat} {dom : Nat → Prop} {ad ad' : Nat → Nat} {E E' : Nat → va_E} {H : Heap} (h : nh D B dom ad E H) (ha : ∀ r, dom r → ad' r = ad r) (hE : ∀ r, dom r → E' r = E r) : nh D B dom ad' E' H :=
  ⟨fun r hr => by rw [ha r hr, hE r hr]; exact h.1 r hr, fun a b h1 h2 e => h.2 a b h1 h2 (by rw [← ha a h1, ← ha b h2]; exact e)⟩
theorem nh_lt {D : va_G} {B : Nat} {dom : Nat → Prop} {ad : Nat → Nat} {E : Nat → va_E} {H : Heap} (h : nh D B dom ad E H) {r : Nat} (hr : dom r) : ad r < H.size := (h.1 r hr).1.lt
/-- the array classes in use -/
def ntys (cA : Nat → ClassId) : List (ClassId × FieldType) := [(cA 0, .int), (cA 1, .boolean), (cA 2, .int), (cA 3, .object RX1), (cA 4, .object RX3), (cA 5, .object RX2), (cA 6, .object RX0)]
def nwF : List (String × Nat × String × String × String) := [(RX0, 9, RX4, "FIRST_VALUES", "[I"), (RX4, 54, RX2, "hasBegun", "Z"), (RX4, 104, RX2, "hasEnded", "Z"), (RX4, 203, RX2, "seconds", "I"), (RX4, 107, RX2, "count", "I"), (RX4, 118, RX1, "kind", "I"), (RX2, 90, RX1, "kind", "I"), (RX4, 172, RX1, "turns", "I"), (RX2, 93, RX1, "turns", "I"), (RX4, 175, RX1, "isWrongEdge", "Z"), (RX4, 178, RX1, "isLate", "Z"), (RX4, 181, RX1, "isFall", "Z"), (RX4, 125, RX1, "calls", "LEdgeCode$Votes;"), (RX4, 145, RX1, "grades", "LEdgeCode$Votes;")]
def nwM : List (String × Nat × MethodName) := [(RX4, 36, yX0_init), (RX1, 51, yX4_nearest), (RX2, 106, yX4_nearest), (RX2, 55, yX3_init), (RX1, 9, yX3_init), (RX0, 23, yX4_isIn)]
def nwS : List (Nat × String) := [(39, "there are 12 skaters"), (51, "no such skater"), (58, "it began, or another one goes on"), (66, "no such turn"), (73, "no programme goes on, or its time is over"), (79, "no such jump"), (88, "no programme goes on, it has no room, or no such take-off"), (94, "no such spin"), (96, "no programme goes on, or it has no room"), (102, "no programme goes on"), (114, "no such caller or element"), (116, "no such quarters"), (123, "no programme goes on, or the element is a spin"), (139, "no such judge, skater or element"), (141, "no such grade"), (143, "the programme has not ended"), (152, "no such judge, skater or component"), (162, "no such edition, jump, level or value"), (168, "no such skater or element"), (170, "no such edition or question"), (213, "no such edition or place")]
def nwD : List MethodName := [⟨"java/lang/RuntimeException", "<init>", "(Ljava/lang/String;)V"⟩, ⟨"java/lang/Exception", "<init>", "(Ljava/lang/String;)V"⟩, ⟨"java/lang/Throwable", "<init>", "(Ljava/lang/String;)V"⟩]
def nwC : List (String × String) := [("java/lang/IllegalStateException", "java/lang/IllegalStateException"), ("java/lang/IndexOutOfBoundsException", "java/lang/IndexOutOfBoundsException"), ("java/lang/IllegalArgumentException", "java/lang/IllegalArgumentException"), ("[I", "java/lang/Cloneable")]
/-- the first values, by kind and turns -/
def fvL : List Int32 := [0, 40, 130, 420, 950, 0, 40, 130, 430, 970, 0, 50, 170, 490, 1050, 0, 50, 180, 530, 1100, 0, 60, 210, 590, 1150, 0, 110, 330, 800, 1250, 0, 120, 150, 200, 270]
def fvI (j : Nat) : Int32 := fvL.getD j 0
/-- the list of the first values: it is old, so that no one writes it -/
def FV (cA : Nat → ClassId) (B : Nat) (U : State) : Prop := ∃ t : Nat, va_Z RX4 "FIRST_VALUES" "[I" (.ref t) (fun q => B ≤ q) U U.heap ∧ ∃ cell : Cell, U.heap[t]? = some cell ∧ U.isArrayOf cell .int ∧ cell.vm ≠ .unknown ∧ cell.cls = cA 0 ∧ cell.slots.size = 35 ∧ (∀ j : Nat, j < 35 → cell.slots[j]? = some (.int (fvI j))) ∧ ¬ B ≤ t
theorem FV.to {cA : Nat → ClassId} {B : Nat} {s U : State} (h : FV cA B s) (hvm : s.vm.Alike U.vm) (hq : ∀ a : Nat, a < s.heap.size → ¬ B ≤ a → U.heap[a]? = s.heap[a]?) : FV cA B U := by
  obtain ⟨t, h1, cell, h2, h3, h4, h5, h6, h7, h8⟩ := h
  exact ⟨t, va_Z.moved hvm (h1.kept hq), cell, (hq t (Array.getElem?_eq_some_iff.mp h2).1 h8).trans h2, State.isArrayOf_alike hvm h3, h4, h5, h6, h7, h8⟩
/-- what each method is told of the machine it starts in, beside its words -/
def KK (D : va_G) (cA : Nat → ClassId) (B : Nat) (U : State) : Prop :=
  va_K D vwCl (ntys cA) U ∧ (∀ q ∈ nwF, va_Nw (.fieldLinkNest q.1 q.2.1 q.2.2.1 q.2.2.2.1 q.2.2.2.2 "EdgeCode") U) ∧ (∀ q ∈ nwM, va_Nw (.methodLinkNest q.1 q.2.1 q.2.2 "EdgeCode") U) ∧ ((∀ q ∈ nwS, ∃ sa, vk_R RX4 q.1 q.2 sa U) ∧ (∀ x ∈ nwD, va_Nw (.declares x) U) ∧ (∀ q ∈ nwC, va_Nw (.castable q.1 q.2) U) ∧ FV cA B U) ∧
  vx_Zq Bundle.tN "UNASSIGNED_STACK" Bundle.steD (fun q => B ≤ q) U U.heap ∧ vx_Zq Bundle.tN "SUPPRESSED_SENTINEL" Bundle.listD (fun q => B ≤ q) U U.heap ∧ B ≤ U.heap.size ∧
  (va_AO RX0 U ∧ va_AO RX1 U ∧ va_AO RX2 U ∧ va_AO RX3 U)
theorem KK.blind {D : va_G} {cA : Nat → ClassId} {B : Nat} {U : State} (g : JFrame) (mk : MethodId) (a : Array Value) (h : KK D cA B U) : KK D cA B (U.calling g mk a) := by
  obtain ⟨h1, h2, h3, h4, h5, h6, h7, h8⟩ := h
  refine ⟨va_K.moved (u := U) (U := U.calling g mk a) (Vm.Alike.refl U.vm) h1, fun q hq => va_Nw.same rfl (u := U) rfl (h2 q hq), fun q hq => va_Nw.same rfl (u := U) rfl (h3 q hq), ⟨fun q hq => ?_, fun x hx => va_Nw.same rfl (u := U) rfl (h4.2.1 x hx), fun q hq => va_Nw.same rfl (u := U) rfl (h4.2.2.1 q hq), FV.to (s := U) (U := U.calling g mk a) h4.2.2.2 (Vm.Alike.refl U.vm) (fun _ _ _ => rfl)⟩, vx_Zq.moved (u := U) (U := U.calling g mk a) (Vm.Alike.refl U.vm) h5, vx_Zq.moved (u := U) (U := U.calling g mk a) (Vm.Alike.refl U.vm) h6, h7, ?_⟩
  · obtain ⟨sa, hs⟩ := h4.1 q hq
    exact ⟨sa, vk_R.same (u := U) rfl hs⟩
  · exact ⟨va_AO.moved (u := U) (U := U.calling g mk a) (Vm.Alike.refl U.vm) h8.1, va_AO.moved (u := U) (U := U.calling g mk a) (Vm.Alike.refl U.vm) h8.2.1, va_AO.moved (u := U) (U := U.calling g mk a) (Vm.Alike.refl U.vm) h8.2.2.1, va_AO.moved (u := U) (U := U.calling g mk a) (Vm.Alike.refl U.vm) h8.2.2.2⟩
theorem KK.moved {D : va_G} {cA : Nat → ClassId} {B : Nat} {s U : State} {locs : List Loc} (h : KK D cA B s) (hS : va_S (fun q => B ≤ q) s.heap U.heap locs) (hW : s.WarmedH U.vm) : KK D cA B U := by
  obtain ⟨h1, h2, h3, h4, h5, h6, h7, h8⟩ := h
  refine ⟨va_K.moved hW.alike h1, fun q hq => va_Nw.warmF hW (h2 q hq), fun q hq => va_Nw.warmM hW (h3 q hq), ⟨fun q hq => ?_, fun x hx => va_Nw.warmD hW (h4.2.1 x hx), fun q hq => va_Nw.warmC hW (h4.2.2.1 q hq), FV.to h4.2.2.2 hW.alike hS.2.1⟩, vx_Zq.moved hW.alike (h5.kept hS.2.1), vx_Zq.moved hW.alike (h6.kept hS.2.1), Nat.le_trans h7 hS.1, va_AO.moved hW.alike h8.1, va_AO.moved hW.alike h8.2.1, va_AO.moved hW.alike h8.2.2.1, va_AO.moved hW.alike h8.2.2.2⟩
  obtain ⟨sa, hs⟩ := h4.1 q hq
  exact ⟨sa, vk_R.warm hW hs⟩
/-- a method's start: its arguments, the heap, what KK says -/
def Pn (D : va_G) (cA : Nat → ClassId) (B : Nat) (As : List Value) (H0 : Heap) : Array Value → State → Prop := va_Pc As (fun U => U.heap = H0 ∧ KK D cA B U)
/-- the end of a method that only reads -/
def Qro (v : Option Value) : Array Value → State → Outcome → State → Prop := fun _ st o t => o = .returned v ∧ t.heap = st.heap
/-- the end of a method that may write: what it answers and the heap behind it -/
def Qrw (B : Nat) (P : Option Value → Heap → Prop) : Array Value → State → Outcome → State → Prop := fun _ st o t => (∃ v, o = .returned v ∧ P v t.heap) ∧ va_F (fun q => B ≤ q) st t
/-- where it throws -/
def Xrw (B : Nat) (P : String → Heap → Prop) : String → State → State → Prop := fun E st t => P E t.heap ∧ va_F (fun q => B ≤ q) st t
theorem Pn.blind {D : va_G} {cA : Nat → ClassId} {B : Nat} {As : List Value} {H0 : Heap} : FrameBlind (Pn D cA B As H0) := fun _ _ g mk h => ⟨h.1, h.2.1, h.2.2.blind g mk _⟩
abbrev rmOf (f l : Nat) : Room := { frames := f, cells := 0, slots := 0, locals := l }
/-- contracts: a method that only reads; one that writes; one that may throw -/
def MetR (D : va_G) (cA : Nat → ClassId) (B : Nat) (l : Launch) (y : MethodName) (cc : ByteArray) (n : Nat) (ret : Option FieldType) (f lo : Nat) (As : List Value) (H0 : Heap) (v : Option Value) : Prop :=
  Met l y (.code y cc n ret :: WU) (rmOf f lo) (Pn D cA B As H0) (Qro v) 0 0 (fun _ => False)
def MetW (D : va_G) (cA : Nat → ClassId) (B : Nat) (l : Launch) (y : MethodName) (cc : ByteArray) (n : Nat) (ret : Option FieldType) (f lo mc ms : Nat) (As : List Value) (H0 : Heap) (P : Option Value → Heap → Prop) : Prop :=
  Met l y (.code y cc n ret :: WU) ({ frames := f, cells := mc, slots := ms, locals := lo }) (Pn D cA B As H0) (Qrw B P) mc ms (fun q => B ≤ q)
def MetX (D : va_G) (cA : Nat → ClassId) (B : Nat) (l : Launch) (y : MethodName) (cc : ByteArray) (n : Nat) (ret : Option FieldType) (f lo mc ms : Nat) (As : List Value) (H0 : Heap) (P : Option Value → Heap → Prop) (X : String → Heap → Prop) : Prop :=
  vx_Met l y (.code y cc n ret :: WU) ({ frames := f, cells := mc, slots := ms, locals := lo }) (Pn D cA B As H0) (Qrw B P) (Xrw B X) mc ms (fun q => B ≤ q)
