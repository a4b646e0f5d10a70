section
-- ===== PART A: goes FIRST, ahead of the names: the tables' words, and 'selects' of the private methods out of them =====
/-- a private method of a class that the tables say can be made, by its rows of tables_1 -/
def lw_okq (q : MethodName × Nat) : Prop := (q.1.cls ≠ "java/lang/invoke/MethodHandle" ∧ q.1.cls ≠ "java/lang/invoke/VarHandle") ∧ Cond.instantiable q.1.cls q.2 ∈ tables_1 ∧ Cond.privateMethod q.1 ∈ tables_1 ∧ Cond.instanceMethod q.1 ∈ tables_1
theorem lw_p0 : lw_okq (⟨"EdgeCode$Programme", "componentScore", "(LEdgeCode$Votes;)I"⟩, 12) := ⟨⟨by decide +kernel, by decide +kernel⟩, List.mem_of_getElem? (i := 104) (by decide +kernel), List.mem_of_getElem? (i := 102) (by decide +kernel), List.mem_of_getElem? (i := 103) (by decide +kernel)⟩
theorem lw_p1 : lw_okq (⟨"java/lang/Throwable", "fillInStackTrace", "(I)Ljava/lang/Throwable;"⟩, 6) := ⟨⟨by decide +kernel, by decide +kernel⟩, List.mem_of_getElem? (i := 175) (by decide +kernel), List.mem_of_getElem? (i := 173) (by decide +kernel), List.mem_of_getElem? (i := 174) (by decide +kernel)⟩
theorem lw_p2 : lw_okq (⟨"EdgeCode", "programmeOf", "(I)LEdgeCode$Programme;"⟩, 6) := ⟨⟨by decide +kernel, by decide +kernel⟩, List.mem_of_getElem? (i := 16) (by decide +kernel), List.mem_of_getElem? (i := 287) (by decide +kernel), List.mem_of_getElem? (i := 288) (by decide +kernel)⟩
theorem lw_p3 : lw_okq (⟨"EdgeCode$Programme", "isWrongEdge", "(I)Z"⟩, 12) := ⟨⟨by decide +kernel, by decide +kernel⟩, List.mem_of_getElem? (i := 104) (by decide +kernel), List.mem_of_getElem? (i := 361) (by decide +kernel), List.mem_of_getElem? (i := 362) (by decide +kernel)⟩
theorem lw_p4 : lw_okq (⟨"EdgeCode$Programme", "likeJumps", "(II)I"⟩, 12) := ⟨⟨by decide +kernel, by decide +kernel⟩, List.mem_of_getElem? (i := 104) (by decide +kernel), List.mem_of_getElem? (i := 370) (by decide +kernel), List.mem_of_getElem? (i := 371) (by decide +kernel)⟩
theorem lw_p5 : lw_okq (⟨"EdgeCode$Programme", "add", "(LEdgeCode$Element;)I"⟩, 12) := ⟨⟨by decide +kernel, by decide +kernel⟩, List.mem_of_getElem? (i := 104) (by decide +kernel), List.mem_of_getElem? (i := 416) (by decide +kernel), List.mem_of_getElem? (i := 417) (by decide +kernel)⟩
theorem lw_p6 : lw_okq (⟨"EdgeCode$Programme", "landOn", "(I)V"⟩, 12) := ⟨⟨by decide +kernel, by decide +kernel⟩, List.mem_of_getElem? (i := 104) (by decide +kernel), List.mem_of_getElem? (i := 420) (by decide +kernel), List.mem_of_getElem? (i := 421) (by decide +kernel)⟩
theorem lw_p7 : lw_okq (⟨"EdgeCode$Votes", "recount", "()V"⟩, 6) := ⟨⟨by decide +kernel, by decide +kernel⟩, List.mem_of_getElem? (i := 212) (by decide +kernel), List.mem_of_getElem? (i := 472) (by decide +kernel), List.mem_of_getElem? (i := 473) (by decide +kernel)⟩
theorem lw_p8 : lw_okq (⟨"EdgeCode", "editionAt", "(I)LEdgeCode$Edition;"⟩, 6) := ⟨⟨by decide +kernel, by decide +kernel⟩, List.mem_of_getElem? (i := 16) (by decide +kernel), List.mem_of_getElem? (i := 511) (by decide +kernel), List.mem_of_getElem? (i := 512) (by decide +kernel)⟩
theorem lw_p9 : lw_okq (⟨"EdgeCode", "fillRanking", "(LEdgeCode$Edition;)V"⟩, 6) := ⟨⟨by decide +kernel, by decide +kernel⟩, List.mem_of_getElem? (i := 16) (by decide +kernel), List.mem_of_getElem? (i := 546) (by decide +kernel), List.mem_of_getElem? (i := 547) (by decide +kernel)⟩
theorem lw_p10 : lw_okq (⟨"EdgeCode", "rankOf", "(I)I"⟩, 6) := ⟨⟨by decide +kernel, by decide +kernel⟩, List.mem_of_getElem? (i := 16) (by decide +kernel), List.mem_of_getElem? (i := 550) (by decide +kernel), List.mem_of_getElem? (i := 551) (by decide +kernel)⟩
theorem lw_p11 : lw_okq (⟨"EdgeCode", "isRanked", "(I)Z"⟩, 6) := ⟨⟨by decide +kernel, by decide +kernel⟩, List.mem_of_getElem? (i := 16) (by decide +kernel), List.mem_of_getElem? (i := 554) (by decide +kernel), List.mem_of_getElem? (i := 555) (by decide +kernel)⟩
theorem lw_p12 : lw_okq (⟨"EdgeCode", "isAhead", "(II)Z"⟩, 6) := ⟨⟨by decide +kernel, by decide +kernel⟩, List.mem_of_getElem? (i := 16) (by decide +kernel), List.mem_of_getElem? (i := 558) (by decide +kernel), List.mem_of_getElem? (i := 559) (by decide +kernel)⟩
theorem lw_p13 : lw_okq (⟨"EdgeCode", "howManyRanked", "()I"⟩, 6) := ⟨⟨by decide +kernel, by decide +kernel⟩, List.mem_of_getElem? (i := 16) (by decide +kernel), List.mem_of_getElem? (i := 570) (by decide +kernel), List.mem_of_getElem? (i := 571) (by decide +kernel)⟩
theorem lw_p14 : lw_okq (⟨"EdgeCode", "skaterOfRank", "(I)I"⟩, 6) := ⟨⟨by decide +kernel, by decide +kernel⟩, List.mem_of_getElem? (i := 16) (by decide +kernel), List.mem_of_getElem? (i := 574) (by decide +kernel), List.mem_of_getElem? (i := 575) (by decide +kernel)⟩
theorem lw_p15 : lw_okq (⟨"EdgeCode", "unrankedSkater", "(I)I"⟩, 6) := ⟨⟨by decide +kernel, by decide +kernel⟩, List.mem_of_getElem? (i := 16) (by decide +kernel), List.mem_of_getElem? (i := 578) (by decide +kernel), List.mem_of_getElem? (i := 579) (by decide +kernel)⟩
def lw_privs_1 : List (MethodName × Nat) := [(⟨"EdgeCode$Programme", "componentScore", "(LEdgeCode$Votes;)I"⟩, 12), (⟨"java/lang/Throwable", "fillInStackTrace", "(I)Ljava/lang/Throwable;"⟩, 6), (⟨"EdgeCode", "programmeOf", "(I)LEdgeCode$Programme;"⟩, 6), (⟨"EdgeCode$Programme", "isWrongEdge", "(I)Z"⟩, 12), (⟨"EdgeCode$Programme", "likeJumps", "(II)I"⟩, 12), (⟨"EdgeCode$Programme", "add", "(LEdgeCode$Element;)I"⟩, 12), (⟨"EdgeCode$Programme", "landOn", "(I)V"⟩, 12), (⟨"EdgeCode$Votes", "recount", "()V"⟩, 6), (⟨"EdgeCode", "editionAt", "(I)LEdgeCode$Edition;"⟩, 6), (⟨"EdgeCode", "fillRanking", "(LEdgeCode$Edition;)V"⟩, 6), (⟨"EdgeCode", "rankOf", "(I)I"⟩, 6), (⟨"EdgeCode", "isRanked", "(I)Z"⟩, 6), (⟨"EdgeCode", "isAhead", "(II)Z"⟩, 6), (⟨"EdgeCode", "howManyRanked", "()I"⟩, 6), (⟨"EdgeCode", "skaterOfRank", "(I)I"⟩, 6), (⟨"EdgeCode", "unrankedSkater", "(I)I"⟩, 6)]
theorem lw_r1 : ∀ q ∈ lw_privs_1, lw_okq q := List.forall_mem_cons.mpr ⟨lw_p0, List.forall_mem_cons.mpr ⟨lw_p1, List.forall_mem_cons.mpr ⟨lw_p2, List.forall_mem_cons.mpr ⟨lw_p3, List.forall_mem_cons.mpr ⟨lw_p4, List.forall_mem_cons.mpr ⟨lw_p5, List.forall_mem_cons.mpr ⟨lw_p6, List.forall_mem_cons.mpr ⟨lw_p7, List.forall_mem_cons.mpr ⟨lw_p8, List.forall_mem_cons.mpr ⟨lw_p9, List.forall_mem_cons.mpr ⟨lw_p10, List.forall_mem_cons.mpr ⟨lw_p11, List.forall_mem_cons.mpr ⟨lw_p12, List.forall_mem_cons.mpr ⟨lw_p13, List.forall_mem_cons.mpr ⟨lw_p14, List.forall_mem_cons.mpr ⟨lw_p15, fun _ h => absurd h List.not_mem_nil⟩⟩⟩⟩⟩⟩⟩⟩⟩⟩⟩⟩⟩⟩⟩⟩
theorem lw_p16 : lw_okq (⟨"EdgeCodeModel", "sets", "(IIIIII)V"⟩, 23) := ⟨⟨by decide +kernel, by decide +kernel⟩, List.mem_of_getElem? (i := 609) (by decide +kernel), List.mem_of_getElem? (i := 615) (by decide +kernel), List.mem_of_getElem? (i := 616) (by decide +kernel)⟩
theorem lw_p17 : lw_okq (⟨"EdgeCodeModel", "isSkater", "(I)Z"⟩, 23) := ⟨⟨by decide +kernel, by decide +kernel⟩, List.mem_of_getElem? (i := 609) (by decide +kernel), List.mem_of_getElem? (i := 701) (by decide +kernel), List.mem_of_getElem? (i := 702) (by decide +kernel)⟩
theorem lw_p18 : lw_okq (⟨"EdgeCodeModel", "stands", "(III)V"⟩, 23) := ⟨⟨by decide +kernel, by decide +kernel⟩, List.mem_of_getElem? (i := 609) (by decide +kernel), List.mem_of_getElem? (i := 708) (by decide +kernel), List.mem_of_getElem? (i := 709) (by decide +kernel)⟩
theorem lw_p19 : lw_okq (⟨"EdgeCodeModel", "isOpen", "()Z"⟩, 23) := ⟨⟨by decide +kernel, by decide +kernel⟩, List.mem_of_getElem? (i := 609) (by decide +kernel), List.mem_of_getElem? (i := 716) (by decide +kernel), List.mem_of_getElem? (i := 717) (by decide +kernel)⟩
theorem lw_p20 : lw_okq (⟨"EdgeCodeModel", "canTakeOff", "(I)Z"⟩, 23) := ⟨⟨by decide +kernel, by decide +kernel⟩, List.mem_of_getElem? (i := 609) (by decide +kernel), List.mem_of_getElem? (i := 724) (by decide +kernel), List.mem_of_getElem? (i := 725) (by decide +kernel)⟩
theorem lw_p21 : lw_okq (⟨"EdgeCodeModel", "isElement", "(II)Z"⟩, 23) := ⟨⟨by decide +kernel, by decide +kernel⟩, List.mem_of_getElem? (i := 609) (by decide +kernel), List.mem_of_getElem? (i := 743) (by decide +kernel), List.mem_of_getElem? (i := 744) (by decide +kernel)⟩
theorem lw_p22 : lw_okq (⟨"EdgeCodeModel", "quartersOf", "(I)I"⟩, 23) := ⟨⟨by decide +kernel, by decide +kernel⟩, List.mem_of_getElem? (i := 609) (by decide +kernel), List.mem_of_getElem? (i := 747) (by decide +kernel), List.mem_of_getElem? (i := 748) (by decide +kernel)⟩
theorem lw_p23 : lw_okq (⟨"EdgeCodeModel", "baseOf", "(III)I"⟩, 23) := ⟨⟨by decide +kernel, by decide +kernel⟩, List.mem_of_getElem? (i := 609) (by decide +kernel), List.mem_of_getElem? (i := 770) (by decide +kernel), List.mem_of_getElem? (i := 771) (by decide +kernel)⟩
theorem lw_p24 : lw_okq (⟨"EdgeCodeModel", "scoreOf", "(III)I"⟩, 23) := ⟨⟨by decide +kernel, by decide +kernel⟩, List.mem_of_getElem? (i := 609) (by decide +kernel), List.mem_of_getElem? (i := 780) (by decide +kernel), List.mem_of_getElem? (i := 781) (by decide +kernel)⟩
theorem lw_p25 : lw_okq (⟨"EdgeCodeModel", "meanOf", "(II)D"⟩, 23) := ⟨⟨by decide +kernel, by decide +kernel⟩, List.mem_of_getElem? (i := 609) (by decide +kernel), List.mem_of_getElem? (i := 784) (by decide +kernel), List.mem_of_getElem? (i := 785) (by decide +kernel)⟩
theorem lw_p26 : lw_okq (⟨"EdgeCodeModel", "clears", "()V"⟩, 23) := ⟨⟨by decide +kernel, by decide +kernel⟩, List.mem_of_getElem? (i := 609) (by decide +kernel), List.mem_of_getElem? (i := 788) (by decide +kernel), List.mem_of_getElem? (i := 789) (by decide +kernel)⟩
theorem lw_p27 : lw_okq (⟨"EdgeCodeModel", "counts", "(I)V"⟩, 23) := ⟨⟨by decide +kernel, by decide +kernel⟩, List.mem_of_getElem? (i := 609) (by decide +kernel), List.mem_of_getElem? (i := 792) (by decide +kernel), List.mem_of_getElem? (i := 793) (by decide +kernel)⟩
theorem lw_p28 : lw_okq (⟨"EdgeCodeModel", "trimmed", "()D"⟩, 23) := ⟨⟨by decide +kernel, by decide +kernel⟩, List.mem_of_getElem? (i := 609) (by decide +kernel), List.mem_of_getElem? (i := 796) (by decide +kernel), List.mem_of_getElem? (i := 797) (by decide +kernel)⟩
theorem lw_p29 : lw_okq (⟨"EdgeCodeModel", "elementsOf", "(II)I"⟩, 23) := ⟨⟨by decide +kernel, by decide +kernel⟩, List.mem_of_getElem? (i := 609) (by decide +kernel), List.mem_of_getElem? (i := 805) (by decide +kernel), List.mem_of_getElem? (i := 806) (by decide +kernel)⟩
theorem lw_p30 : lw_okq (⟨"EdgeCodeModel", "componentsOf", "(I)I"⟩, 23) := ⟨⟨by decide +kernel, by decide +kernel⟩, List.mem_of_getElem? (i := 609) (by decide +kernel), List.mem_of_getElem? (i := 809) (by decide +kernel), List.mem_of_getElem? (i := 810) (by decide +kernel)⟩
theorem lw_p31 : lw_okq (⟨"EdgeCodeModel", "fineOf", "(I)I"⟩, 23) := ⟨⟨by decide +kernel, by decide +kernel⟩, List.mem_of_getElem? (i := 609) (by decide +kernel), List.mem_of_getElem? (i := 814) (by decide +kernel), List.mem_of_getElem? (i := 815) (by decide +kernel)⟩
def lw_privs_2 : List (MethodName × Nat) := [(⟨"EdgeCodeModel", "sets", "(IIIIII)V"⟩, 23), (⟨"EdgeCodeModel", "isSkater", "(I)Z"⟩, 23), (⟨"EdgeCodeModel", "stands", "(III)V"⟩, 23), (⟨"EdgeCodeModel", "isOpen", "()Z"⟩, 23), (⟨"EdgeCodeModel", "canTakeOff", "(I)Z"⟩, 23), (⟨"EdgeCodeModel", "isElement", "(II)Z"⟩, 23), (⟨"EdgeCodeModel", "quartersOf", "(I)I"⟩, 23), (⟨"EdgeCodeModel", "baseOf", "(III)I"⟩, 23), (⟨"EdgeCodeModel", "scoreOf", "(III)I"⟩, 23), (⟨"EdgeCodeModel", "meanOf", "(II)D"⟩, 23), (⟨"EdgeCodeModel", "clears", "()V"⟩, 23), (⟨"EdgeCodeModel", "counts", "(I)V"⟩, 23), (⟨"EdgeCodeModel", "trimmed", "()D"⟩, 23), (⟨"EdgeCodeModel", "elementsOf", "(II)I"⟩, 23), (⟨"EdgeCodeModel", "componentsOf", "(I)I"⟩, 23), (⟨"EdgeCodeModel", "fineOf", "(I)I"⟩, 23)]
theorem lw_r2 : ∀ q ∈ lw_privs_2, lw_okq q := List.forall_mem_cons.mpr ⟨lw_p16, List.forall_mem_cons.mpr ⟨lw_p17, List.forall_mem_cons.mpr ⟨lw_p18, List.forall_mem_cons.mpr ⟨lw_p19, List.forall_mem_cons.mpr ⟨lw_p20, List.forall_mem_cons.mpr ⟨lw_p21, List.forall_mem_cons.mpr ⟨lw_p22, List.forall_mem_cons.mpr ⟨lw_p23, List.forall_mem_cons.mpr ⟨lw_p24, List.forall_mem_cons.mpr ⟨lw_p25, List.forall_mem_cons.mpr ⟨lw_p26, List.forall_mem_cons.mpr ⟨lw_p27, List.forall_mem_cons.mpr ⟨lw_p28, List.forall_mem_cons.mpr ⟨lw_p29, List.forall_mem_cons.mpr ⟨lw_p30, List.forall_mem_cons.mpr ⟨lw_p31, fun _ h => absurd h List.not_mem_nil⟩⟩⟩⟩⟩⟩⟩⟩⟩⟩⟩⟩⟩⟩⟩⟩
theorem lw_p32 : lw_okq (⟨"EdgeCodeModel", "totalOf", "(II)I"⟩, 23) := ⟨⟨by decide +kernel, by decide +kernel⟩, List.mem_of_getElem? (i := 609) (by decide +kernel), List.mem_of_getElem? (i := 818) (by decide +kernel), List.mem_of_getElem? (i := 819) (by decide +kernel)⟩
theorem lw_p33 : lw_okq (⟨"EdgeCodeModel", "rankOf", "(II)I"⟩, 23) := ⟨⟨by decide +kernel, by decide +kernel⟩, List.mem_of_getElem? (i := 609) (by decide +kernel), List.mem_of_getElem? (i := 822) (by decide +kernel), List.mem_of_getElem? (i := 823) (by decide +kernel)⟩
theorem lw_p34 : lw_okq (⟨"EdgeCodeModel", "isAhead", "(III)Z"⟩, 23) := ⟨⟨by decide +kernel, by decide +kernel⟩, List.mem_of_getElem? (i := 609) (by decide +kernel), List.mem_of_getElem? (i := 826) (by decide +kernel), List.mem_of_getElem? (i := 827) (by decide +kernel)⟩
def lw_privs_3 : List (MethodName × Nat) := [(⟨"EdgeCodeModel", "totalOf", "(II)I"⟩, 23), (⟨"EdgeCodeModel", "rankOf", "(II)I"⟩, 23), (⟨"EdgeCodeModel", "isAhead", "(III)Z"⟩, 23)]
theorem lw_r3 : ∀ q ∈ lw_privs_3, lw_okq q := List.forall_mem_cons.mpr ⟨lw_p32, List.forall_mem_cons.mpr ⟨lw_p33, List.forall_mem_cons.mpr ⟨lw_p34, fun _ h => absurd h List.not_mem_nil⟩⟩⟩
def lw_privs : List (MethodName × Nat) := lw_privs_1 ++ (lw_privs_2 ++ (lw_privs_3))
def lw_tbl : List Cond := k2_sels lw_privs ++ tables_1
theorem lw_privs_ok : ∀ q ∈ lw_privs, lw_okq q := by
  show ∀ q ∈ lw_privs_1 ++ (lw_privs_2 ++ (lw_privs_3)), lw_okq q
  exact List.forall_mem_append.mpr ⟨lw_r1, List.forall_mem_append.mpr ⟨lw_r2, lw_r3⟩⟩
/-- the streams that the claim lets the run draw from -/
abbrev lw_cs : List Choice := [Jvm.Choice.named "NaN.bits"]
theorem lw_bits : nanBits ∈ lw_cs := by first | decide | exact List.mem_cons_self | simp [lw_cs, nanBits]
/-! ===== BEGIN words of one list among another's, by their places ===== -/
theorem goodIn_r {big : List Cond} (ws : List Cond) (ps : List Nat) (hp : ws = ps.filterMap (fun i => big[i]?)) (h : ws.all goodWord = true) : GoodIn big ws := by
  intro w hw
  have h1 := List.all_eq_true.mp h w hw
  rw [hp] at hw
  obtain ⟨i, -, hi⟩ := List.mem_filterMap.mp hw
  have hm : w ∈ big := by first | exact List.mem_of_getElem? hi | exact List.getElem?_mem hi
  exact ⟨hm, good_of_word h1⟩
theorem goodIn_app {big a b : List Cond} (ha : GoodIn big a) (hb : GoodIn big b) : GoodIn big (a ++ b) := fun w h => (List.mem_append.mp h).elim (ha w) (hb w)
theorem goodIn_ca {big a b : List Cond} {c : Cond} (ha : GoodIn big (c :: a)) (hb : GoodIn big b) : GoodIn big (c :: (a ++ b)) := fun w h => (List.mem_cons.mp h).elim (fun e => ha w (List.mem_cons.mpr (Or.inl e))) (fun h => (List.mem_append.mp h).elim (fun h => ha w (List.mem_cons.mpr (Or.inr h))) (hb w))
theorem goodIn_sub {big ws : List Cond} (hm : ∀ w ∈ ws, w ∈ big) (h : ws.all goodWord = true) : GoodIn big ws := fun w hw => ⟨hm w hw, good_of_word (List.all_eq_true.mp h w hw)⟩
/-! ===== END ===== -/

/-! ===== BEGIN exceptions that leave a method, and their catching by the caller (launches without stack traces) ===== -/
section VXA
/-! The laws vx_back, vx_callV, vx_callS, vx_callSW, vx_throw0, vx_throwS follow proofs of the library, with one case more: JvmDerived/Free/Laws.lean (Back.of_free), Shelf42/LK1.lean (callV, callS), Shelf/KitTraced.lean (throwNew0V, throwNewS). -/
/-- where a method has thrown q: the class by its name, the cell, what was written, the world -/
def vx_T (XC : String → State → State → Prop) (st : State) (q : Addr) (t : State) (mc ms : Nat) (free : Addr → Prop) : Prop :=
  ∃ (E : String) (ce : Cell) (L : List Loc), XC E st t ∧ t.heap[q]? = some ce ∧ ce.vm = .none ∧ st.vm.findClass E = some ce.cls ∧ st.WarmedH t.vm ∧ st.sameButNew ({ t with vm := st.vm } : State) L mc ms ∧ ∀ z ∈ L, free z.base
def vx_Q (Qc : Array Value → State → Outcome → State → Prop) (XC : String → State → State → Prop) (mc ms : Nat) (free : Addr → Prop) : Array Value → State → Outcome → State → Prop := fun a st o t =>
  (Qc a st o t ∧ ∃ L, FrameEnd st o t L mc ms ∧ ∀ q ∈ L, free q.base) ∨ ∃ q, o = .threw q ∧ vx_T XC st q t mc ms free
/-- a callee that returns or throws -/
def vx_Met (l : Launch) (y : MethodName) (ws : List Cond) (rm : Room) (Pc : Array Value → State → Prop) (Qc : Array Value → State → Outcome → State → Prop) (XC : String → State → State → Prop) (mc ms : Nat) (free : Addr → Prop) : Prop :=
  MetFree l y (headSpec ws rm) Pc (fun _ _ _ _ _ => True) (vx_Q Qc XC mc ms free)
def vx_Post (XC : String → State → State → Prop) (mc ms : Nat) (free : Addr → Prop) : Pt → Array Value → Addr → Pt → Prop := fun A a q B =>
  ∃ (g : JFrame) (mk : MethodId) (t : State) (L : List Loc) (E : String) (ce : Cell), B.U.heap = t.heap ∧ B.U.vm = t.vm ∧ XC E (A.U.calling g mk a) t ∧ t.heap[q]? = some ce ∧ ce.vm = .none ∧ A.U.vm.findClass E = some ce.cls ∧ B.locs = A.locs ++ L ∧ (∀ z ∈ L, free z.base) ∧ B.cells = A.cells + mc ∧ B.slots = A.slots + ms
def vx_Back (l : Launch) (R : Room) (p : Program) (e : Env) (below : List Frame) (s : State) (sargs : Array Value) (y : MethodName) (len W9 : Nat)
    (Pre : Pt → Array Value → Prop) (Post : Pt → Array Value → Option Value → Pt → Prop) (PostX : Pt → Array Value → Addr → Pt → Prop) : Prop :=
  ∀ (m : MethodId) (meth : Method) (c : Code) (A : Pt) (g : JFrame) (ig : Instr) (mk : MethodId) (a : Array Value),
    Stand p l e R s m sargs below meth c A.U A.locs A.cells A.slots → g.method = m → g.locals.size = c.maxLocals → decode c.code g.pc = .ok (ig, len) →
    2 * g.monitorRoom + (g.stack.map fun v => v.category).sum ≤ W9 → A.U.methodNamed? y = some mk → Pre A a →
    (∃ (v : Option Value) (B : Pt), Stand p l e R s m sargs below meth c B.U B.locs B.cells B.slots ∧ Post A a v B ∧
      Steps p.tables e below (doInvoke e (A.U.setTop g) [] mk a).1 (B.U.setTop { g with pc := g.pc + len, stack := v.toList ++ g.stack })) ∨
    (∃ (q : Addr) (B : Pt), Stand p l e R s m sargs below meth c B.U B.locs B.cells B.slots ∧ PostX A a q B ∧
      Steps p.tables e below (doInvoke e (A.U.setTop g) [] mk a).1 ((B.U.setTop g).pushFrame (.throwing q)))
section Payer
variable {l : Launch} {R : Room} {p : Program} {e : Env} {below : List Frame} {s : State} {sargs : Array Value} {y : MethodName} {len W9 : Nat}
theorem vx_back {ws : List Cond} {rm : Room} {Pc : Array Value → State → Prop} {Qc : Array Value → State → Outcome → State → Prop} {XC : String → State → State → Prop} {mc ms : Nat} {free : Addr → Prop} {bytes : ByteArray} {maxL : Nat} {ret : Option FieldType}
    (hM : vx_Met l y ws rm Pc Qc XC mc ms free) (hblind : FrameBlind Pc) (hrc : rm.cells = mc) (hrs : rm.slots = ms)
    (hframes : rm.frames + 1 ≤ R.frames) (hlocals : W9 + (maxL + 11) + rm.locals ≤ R.locals)
    (hws : ∀ w ∈ ws, ∀ a' U, s.WarmedH U.vm → w.before a' U = true) (hcode : Cond.code y bytes maxL ret ∈ ws) (hinit : ∀ a' U, s.WarmedH U.vm → (Cond.initialized y.cls).before a' U = true) :
    vx_Back l R p e below s sargs y len W9 (PreOf R mc ms Pc) (PostOf Qc mc ms free) (vx_Post XC mc ms free) := by
  intro m meth c A g ig mk a X hg hsize hdg hW hn hp
  have h1 : (headSpec ws rm).pre.before a A.U = true := atoms_intro fun w hw => hws w hw _ _ X.warmed
  have h2 : (Cond.code y bytes maxL ret).before a A.U = true := hws _ hcode _ _ X.warmed
  have h3 : (Cond.initialized y.cls).before a A.U = true := hinit _ _ X.warmed
  have h4 : A.cells + (headSpec ws rm).room.cells ≤ R.cells := by rw [show (headSpec ws rm).room.cells = mc from hrc]; exact hp.1
  have h5 : A.slots + (headSpec ws rm).room.slots ≤ R.slots := by rw [show (headSpec ws rm).room.slots = ms from hrs]; exact hp.2.1
  have hPc : Pc a (A.U.calling g mk a) := hblind _ _ _ _ hp.2.2
  obtain ⟨U, Ls, c0, s0⟩ := A
  dsimp only [Pt.U, Pt.locs, Pt.cells, Pt.slots] at h1 h2 h3 h4 h5 X hn hPc ⊢
  obtain ⟨methY, cY, hmY, hcY, -, hlY, -, -, -, -⟩ := Cond.code_spec hn h2
  obtain ⟨kY, hkY, -⟩ := className_of_methodNamed hn
  have hinitY : kY.init = .initialized := Cond.initialized_spec (findClass_of_methodNamed hn) hkY h3
  have h : At U g.method c below := by rw [hg]; exact X.here
  have hlocals9 : W9 + (maxL + 11) + (headSpec ws rm).room.locals ≤ R.locals := hlocals
  have happ : (headSpec ws rm).appliesLoose y e.platform (U.calling g mk a) = true :=
    Spec.appliesLoose_calling (g := g) h hdg hn hkY hinitY
      (X.room_calling (g := g) (R' := (headSpec ws rm).room) hsize hmY hcY hframes (by rw [hlY]; omega) h4 h5) h1
  obtain ⟨mid, hmid⟩ := h.above
  have hfr : (U.setTop g).frames = (.java g :: mid) ++ below := by rw [State.frames_setTop' g h.top, hmid]; rfl
  obtain ⟨o, s₂, hsteps, -, hend, hq⟩ := Steps.callFree hM p X.admits X.cas X.clock (acts := []) hfr happ hPc trivial
  have hq' : vx_Q Qc XC mc ms free a (U.calling g mk a) o s₂ := hq
  rw [State.frames_setTop' g h.top] at hend
  obtain ⟨g₀, hg0⟩ := Option.isSome_iff_exists.mp h.top
  obtain ⟨r, hr⟩ := State.topJava?_eq_some.mp hg0
  have hr' : (({ U with heap := s₂.heap, slotsUsed := s₂.slotsUsed } : State).setVm s₂.vm).frames = .java g₀ :: r := hr
  rcases hq' with ⟨hqc, L, hfe, hL⟩ | ⟨q, rfl, E, ce, L, hx, hce, hcv, hcl, hW₂, hsm, hL⟩
  · obtain ⟨⟨v, rfl⟩, hW₂, e2, q2, q3, q4, q5, q6⟩ := id hfe
    have e3 : s₂ = ({ (U.calling g mk a).setFrames s₂.frames with heap := s₂.heap, slotsUsed := s₂.slotsUsed } : State).setVm s₂.vm := by
      have : s₂ = ({ s₂ with vm := (U.calling g mk a).vm } : State).setVm s₂.vm := rfl
      rw [e2] at this
      exact this
    obtain ⟨c₂, i₂, len₂, hc₂, hd₂, hf₂⟩ := hend
    have hW' : U.WarmedH s₂.vm := hW₂
    have hcc : c₂ = c := by
      have h1 : s₂.code? g.method = U.code? g.method := by
        rw [State.code?_eq, State.code?_eq, hW'.alike.method?]
      exact Option.some.inj (hc₂.symm.trans (h1.trans h.code))
    subst hcc
    have hlen : len₂ = len := by rw [hdg] at hd₂; cases hd₂; rfl
    subst hlen
    have hs₂ : s₂ = (({ U with heap := s₂.heap, slotsUsed := s₂.slotsUsed } : State).setVm s₂.vm).setTop { g with pc := g.pc + len₂, stack := v.toList ++ g.stack } := by
      refine e3.trans ?_
      rw [hf₂, State.calling_eq h.top, State.setFrames_setFrames, State.setTop_of_frames _ hr', hr]
      rfl
    have hsame : U.sameButNew ({ U with heap := s₂.heap, slotsUsed := s₂.slotsUsed } : State) L mc ms := by
      refine ⟨?_, q2, q3, q4, q5, q6⟩
      obtain ⟨t, ht, -⟩ := State.frames_cons hr
      show ({ U with heap := s₂.heap, slotsUsed := s₂.slotsUsed } : State) = { U.setFrames U.frames with heap := s₂.heap, slotsUsed := s₂.slotsUsed }
      rw [State.setFrames_self ht]
    subst hg
    refine Or.inl ⟨v, ⟨(({ U with heap := s₂.heap, slotsUsed := s₂.slotsUsed } : State).setVm s₂.vm), Ls ++ L, c0 + mc, s0 + ms⟩,
      ⟨X.admits, X.cas, X.clock, X.frames, X.room, X.hears, X.method, X.code, (X.here.setHeapUsed s₂.heap s₂.slotsUsed).setVm hW'.alike, X.tail, State.WarmedH.trans X.warmed hW', X.limits, X.bytes, X.same.trans (hsame.setVm s.vm)⟩,
      ⟨g, mk, s₂, L, rfl, rfl, hqc, rfl, hL, rfl, rfl⟩, ?_⟩
    show Steps p.tables e below _ ((({ U with heap := s₂.heap, slotsUsed := s₂.slotsUsed } : State).setVm s₂.vm).setTop { g with pc := g.pc + len₂, stack := v.toList ++ g.stack })
    rw [← hs₂]
    exact hsteps
  · obtain ⟨e2, q2, q3, q4, q5, q6⟩ := id hsm
    have e3 : s₂ = ({ (U.calling g mk a).setFrames s₂.frames with heap := s₂.heap, slotsUsed := s₂.slotsUsed } : State).setVm s₂.vm := by
      have : s₂ = ({ s₂ with vm := (U.calling g mk a).vm } : State).setVm s₂.vm := rfl
      rw [e2] at this
      exact this
    have hf₂ : s₂.frames = .throwing q :: .java g :: U.frames.tail := hend
    have hW' : U.WarmedH s₂.vm := hW₂
    have hs₂ : s₂ = ((({ U with heap := s₂.heap, slotsUsed := s₂.slotsUsed } : State).setVm s₂.vm).setTop g).pushFrame (.throwing q) := by
      refine e3.trans ?_
      rw [hf₂, State.calling_eq h.top, State.setFrames_setFrames, State.pushFrame, State.frames_setTop _ hr', State.setTop_of_frames _ hr', State.setFrames_setFrames, hr]
      rfl
    have hsame : U.sameButNew ({ U with heap := s₂.heap, slotsUsed := s₂.slotsUsed } : State) L mc ms := by
      refine ⟨?_, q2, q3, q4, q5, q6⟩
      obtain ⟨t, ht, -⟩ := State.frames_cons hr
      show ({ U with heap := s₂.heap, slotsUsed := s₂.slotsUsed } : State) = { U.setFrames U.frames with heap := s₂.heap, slotsUsed := s₂.slotsUsed }
      rw [State.setFrames_self ht]
    subst hg
    refine Or.inr ⟨q, ⟨(({ U with heap := s₂.heap, slotsUsed := s₂.slotsUsed } : State).setVm s₂.vm), Ls ++ L, c0 + mc, s0 + ms⟩,
      ⟨X.admits, X.cas, X.clock, X.frames, X.room, X.hears, X.method, X.code, (X.here.setHeapUsed s₂.heap s₂.slotsUsed).setVm hW'.alike, X.tail, State.WarmedH.trans X.warmed hW', X.limits, X.bytes, X.same.trans (hsame.setVm s.vm)⟩,
      ⟨g, mk, s₂, L, E, ce, rfl, rfl, hx, hce, hcv, hcl, rfl, hL, rfl, rfl⟩, ?_⟩
    show Steps p.tables e below _ (((({ U with heap := s₂.heap, slotsUsed := s₂.slotsUsed } : State).setVm s₂.vm).setTop g).pushFrame (.throwing q))
    rw [← hs₂]
    exact hsteps
end Payer
section Calls
variable {p : Program} {l : Launch} {e : Env} {R : Room} {s : State} {m : MethodId} {args : Array Value} {below : List Frame} {meth : Method} {c : Code} {T : State} {locs : List Loc} {cells slots : Nat}
theorem vx_callV (X : Stand p l e R s m args below meth c T locs cells slots) (hexec : p.tables.exec = Jvm.exec) {own C : String} {index : Nat} {y : MethodName} {bytes : ByteArray} {maxL : Nat} {ret : Option FieldType}
    (hown : s.vm.findClass own = some m.cls) (hlink : (Cond.methodLink own index y).before args s = true) (hinst : (Cond.instanceMethod y).before args s = true) (hsel : (Cond.selects C y y).before args s = true)
    (hcode : (Cond.code y bytes maxL ret).before args s = true) (hy : y.cls ≠ "java/lang/invoke/MethodHandle" ∧ y.cls ≠ "java/lang/invoke/VarHandle")
    {W9 : Nat} {Pre : Pt → Array Value → Prop} {Post : Pt → Array Value → Option Value → Pt → Prop} {PostX : Pt → Array Value → Addr → Pt → Prop} (hK : vx_Back l R p e below s args y 3 W9 Pre Post PostX)
    {b : Addr} {cellB : Cell} (hcell : T.heap[b]? = some cellB) (hobj : cellB.vm.isStatics = false) (hcls : s.vm.findClass C = some cellB.cls)
    {g : JFrame} (hg : g.method = m) (hsize : g.locals.size = c.maxLocals) {argsL rest : List Value} (hlen : ∀ sig, parseMethodDescriptor y.desc = some sig → argsL.length = sig.parameters.length)
    (hstack : g.stack = argsL.reverse ++ .ref b :: rest) (hW : 2 * g.monitorRoom + (rest.map fun v => v.category).sum ≤ W9) (hdg : decode c.code g.pc = .ok (.invokevirtual index, 3))
    (hpre : ∀ vm₁, s.WarmedH vm₁ → Pre ⟨T.setVm vm₁, locs, cells, slots⟩ (Value.ref b :: argsL).toArray) :
    (∃ (v : Option Value) (vm₁ : Vm) (B : Pt), s.WarmedH vm₁ ∧ Stand p l e R s m args below meth c B.U B.locs B.cells B.slots ∧ Post ⟨T.setVm vm₁, locs, cells, slots⟩ (Value.ref b :: argsL).toArray v B ∧
      ∀ target, Steps p.tables e below (B.U.setTop { g with pc := g.pc + 3, stack := v.toList ++ rest }) target → Steps p.tables e below (T.setTop g) target) ∨
    (∃ (q : Addr) (vm₁ : Vm) (B : Pt), s.WarmedH vm₁ ∧ Stand p l e R s m args below meth c B.U B.locs B.cells B.slots ∧ PostX ⟨T.setVm vm₁, locs, cells, slots⟩ (Value.ref b :: argsL).toArray q B ∧
      Steps p.tables e below (T.setTop g) ((B.U.setTop { g with stack := rest }).pushFrame (.throwing q))) := by
  obtain ⟨mk, methM, hnamed, hmethM, hstM, habM⟩ := Cond.instanceMethod_spec hinst
  obtain ⟨methM', cM, hmethM', -, -, -, -, -, -, hsigM⟩ := Cond.code_spec hnamed hcode
  cases hmethM.symm.trans hmethM'
  obtain ⟨c2, r2, m2, q1, q2, q3, q4, kP, hkP, hkPi⟩ := Cond.selects_spec hsel
  cases hcls.symm.trans q1
  cases (State.methodFound?_of_named hnamed hy).symm.trans q2
  cases hnamed.symm.trans q3
  have hselP : selectMethod e.platform s.vm cellB.cls mk = .method mk := by rw [Launch.admits_selectMethod X.admits]; exact q4
  obtain ⟨vm₁, X₁, hstep₁⟩ := X.invokevirtual hexec hown hlink hnamed hmethM hstM hkP hkPi hy (a := b) (cell := cellB) hcell
    (fun z h => by rw [h] at hobj; cases hobj) hselP hmethM habM hkP hkPi (g := g) hg (argsL := argsL) (rest := rest) (hlen _ hsigM) hstack hdg
  rcases hK m meth c ⟨T.setVm vm₁, locs, cells, slots⟩ { g with stack := rest } (.invokevirtual index) mk (Value.ref b :: argsL).toArray X₁ hg hsize hdg hW (X₁.named hnamed) (hpre vm₁ X₁.warmed) with ⟨v, B, X', hpost, hsteps⟩ | ⟨q, B, X', hpost, hsteps⟩
  · exact Or.inl ⟨v, vm₁, B, X₁.warmed, X', hpost, fun target h => hstep₁ _ fun acts => by rw [doInvoke_state]; exact hsteps.trans h⟩
  · exact Or.inr ⟨q, vm₁, B, X₁.warmed, X', hpost, hstep₁ _ fun acts => by rw [doInvoke_state]; exact hsteps⟩
theorem vx_callS (X : Stand p l e R s m args below meth c T locs cells slots) (hexec : p.tables.exec = Jvm.exec) {own : String} {index : Nat} {y : MethodName} {bytes : ByteArray} {maxL : Nat} {ret : Option FieldType}
    (hown : s.vm.findClass own = some m.cls) (hlink : (Cond.methodLink own index y).before args s = true) (hstat : (Cond.static y).before args s = true) (hinit : (Cond.initialized y.cls).before args s = true)
    (hcode : (Cond.code y bytes maxL ret).before args s = true) (hy : y.cls ≠ "java/lang/invoke/MethodHandle" ∧ y.cls ≠ "java/lang/invoke/VarHandle")
    {W9 : Nat} {Pre : Pt → Array Value → Prop} {Post : Pt → Array Value → Option Value → Pt → Prop} {PostX : Pt → Array Value → Addr → Pt → Prop} (hK : vx_Back l R p e below s args y 3 W9 Pre Post PostX)
    {g : JFrame} (hg : g.method = m) (hsize : g.locals.size = c.maxLocals) {argsL rest : List Value} (hlen : ∀ sig, parseMethodDescriptor y.desc = some sig → argsL.length = sig.parameters.length)
    (hstack : g.stack = argsL.reverse ++ rest) (hW : 2 * g.monitorRoom + (rest.map fun v => v.category).sum ≤ W9) (hdg : decode c.code g.pc = .ok (.invokestatic index, 3))
    (hpre : ∀ vm₁, s.WarmedH vm₁ → Pre ⟨T.setVm vm₁, locs, cells, slots⟩ argsL.toArray) :
    (∃ (v : Option Value) (vm₁ : Vm) (B : Pt), s.WarmedH vm₁ ∧ Stand p l e R s m args below meth c B.U B.locs B.cells B.slots ∧ Post ⟨T.setVm vm₁, locs, cells, slots⟩ argsL.toArray v B ∧
      ∀ target, Steps p.tables e below (B.U.setTop { g with pc := g.pc + 3, stack := v.toList ++ rest }) target → Steps p.tables e below (T.setTop g) target) ∨
    (∃ (q : Addr) (vm₁ : Vm) (B : Pt), s.WarmedH vm₁ ∧ Stand p l e R s m args below meth c B.U B.locs B.cells B.slots ∧ PostX ⟨T.setVm vm₁, locs, cells, slots⟩ argsL.toArray q B ∧
      Steps p.tables e below (T.setTop g) ((B.U.setTop { g with stack := rest }).pushFrame (.throwing q))) := by
  obtain ⟨mk, hnamed⟩ := Cond.code_named hcode
  obtain ⟨methM, cM, hmethM, -, -, -, -, -, -, hsigM⟩ := Cond.code_spec hnamed hcode
  have hstatic : methM.isStatic = true := Cond.static_spec hnamed hmethM hstat
  obtain ⟨kP, hkP, -⟩ := className_of_methodNamed hnamed
  have hinitP : kP.init = .initialized := Cond.initialized_spec (findClass_of_methodNamed hnamed) hkP hinit
  obtain ⟨vm₁, X₁, hstep₁⟩ := X.invokestatic hexec hown hlink hnamed hmethM hstatic hkP hinitP hy (g := g) hg (argsL := argsL) (rest := rest) (hlen _ hsigM) hstack hdg
  rcases hK m meth c ⟨T.setVm vm₁, locs, cells, slots⟩ { g with stack := rest } (.invokestatic index) mk argsL.toArray X₁ hg hsize hdg hW (X₁.named hnamed) (hpre vm₁ X₁.warmed) with ⟨v, B, X', hpost, hsteps⟩ | ⟨q, B, X', hpost, hsteps⟩
  · exact Or.inl ⟨v, vm₁, B, X₁.warmed, X', hpost, fun target h => hstep₁ _ fun acts => by rw [doInvoke_state]; exact hsteps.trans h⟩
  · exact Or.inr ⟨q, vm₁, B, X₁.warmed, X', hpost, hstep₁ _ fun acts => by rw [doInvoke_state]; exact hsteps⟩
end Calls
theorem vx_cls {s : State} {T : State} {vm₁ : Vm} {E : String} {k : ClassId} (hW : s.WarmedH vm₁) (h : (T.setVm vm₁).vm.findClass E = some k) : s.vm.findClass E = some k := by
  have h1 : vm₁.findClass E = some k := h
  rw [hW.alike.findClass] at h1
  exact h1
/-- the method's frame g, with q thrown over it -/
def vx_W (p : Program) (l : Launch) (e : Env) (R : Room) (s : State) (m : MethodId) (args : Array Value) (below : List Frame) (meth : Method) (c : Code) (H : Heap) (locs : List Loc) (cells slots : Nat) (Q : State → Prop) (g : JFrame) (q : Addr) : Prop :=
  ∀ T : State, T.heap = H → Stand p l e R s m args below meth c T locs cells slots → ∃ t, Steps p.tables e below ((T.setTop g).pushFrame (.throwing q)) t ∧ Q t
def vx_Run (p : Program) (l : Launch) (e : Env) (R : Room) (s : State) (m : MethodId) (args : Array Value) (below : List Frame) (meth : Method) (c : Code) (H : Heap) (locs : List Loc) (cells slots mc ms : Nat) (g : JFrame) (rest : List Value) (Qa : State → Outcome → State → Prop) (XC : String → State → State → Prop) (free : Addr → Prop) : Prop :=
  ∀ T : State, T.heap = H → Stand p l e R s m args below meth c T locs cells slots →
    (∃ (v : Option Value) (st₀ t T' : State) (L : List Loc), st₀.heap = H ∧ Stand p l e R s m args below meth c T' (locs ++ L) (cells + mc) (slots + ms) ∧ (∀ q ∈ L, free q.base) ∧ T'.heap = t.heap ∧ T'.vm = t.vm ∧ Qa st₀ (.returned v) t ∧
      Goes p e below T g T' { g with pc := g.pc + 3, stack := v.toList ++ rest }) ∨
    (∃ (q : Addr) (st₀ t T' : State) (L : List Loc) (E : String) (ce : Cell), st₀.heap = H ∧ Stand p l e R s m args below meth c T' (locs ++ L) (cells + mc) (slots + ms) ∧ (∀ z ∈ L, free z.base) ∧ T'.heap = t.heap ∧ T'.vm = t.vm ∧ XC E st₀ t ∧ t.heap[q]? = some ce ∧ ce.vm = .none ∧ s.vm.findClass E = some ce.cls ∧
      Steps p.tables e below (T.setTop g) ((T'.setTop { g with stack := rest }).pushFrame (.throwing q)))
def vx_X {S : Type} (px : S → Prop) (B : String → S → State → Prop) (A : Nat → Prop) : String → State → State → Prop := fun E st t => ∃ u : S, px u ∧ B E u t ∧ va_F A st t
section Runs
variable {p : Program} {l : Launch} {e : Env} {R : Room} {s : State} {m : MethodId} {args : Array Value} {below : List Frame} {meth : Method} {c : Code} {H : Heap} {locs : List Loc} {cells slots : Nat}
variable {y : MethodName} {bytes cc : ByteArray} {maxL nL mc ms n index : Nat} {ret : Option FieldType} {ws : List Cond} {rm : Room} {Pc : Array Value → State → Prop} {Qc : Array Value → State → Outcome → State → Prop} {XC : String → State → State → Prop} {free : Addr → Prop} {Ts : List Cond} {own C : String} {b : Addr} {As rest : List Value} {g : JFrame}
theorem vx_callBack (cb : CallB R s args own index y bytes maxL ret ws rm mc ms n) (hM : vx_Met l y ws rm Pc Qc XC mc ms free) (hbl : FrameBlind Pc) : vx_Back l R p e below s args y 3 8 (PreOf R mc ms Pc) (PostOf Qc mc ms free) (vx_Post XC mc ms free) := by
  obtain ⟨hrc, hrs, hfr, hlo, hws, hcw, -, hini, -⟩ := cb
  exact vx_back (bytes := bytes) (maxL := maxL) (ret := ret) hM hbl hrc hrs hfr hlo hws hcw (fun a' U hW => word_at hW (Or.inl (by first | rfl | simp [Cond.onTables, Cond.keeps, Cond.steady])) hini)
theorem vx_runV (S : CallFix p m c cc nL s args Ts own) (hM : vx_Met l y ws rm Pc Qc XC mc ms free) (cw : CallW R s args own C index y bytes maxL ret ws rm mc ms n) (hp : PreV s H C b Pc As)
    (hg : g.method = m) (hn : As.length = n) (hsize : g.locals.size = nL) (hstack : g.stack = As.reverse ++ .ref b :: rest) (hW : 2 * g.monitorRoom + (rest.map fun v => v.category).sum ≤ 8) (hdg : decode cc g.pc = .ok (.invokevirtual index, 3)) (hf : cells + mc ≤ R.cells ∧ slots + ms ≤ R.slots) :
    vx_Run p l e R s m args below meth c H locs cells slots mc ms g rest (Qc (Value.ref b :: As).toArray) XC free := by
  have hK : vx_Back l R p e below s args y 3 8 (PreOf R mc ms Pc) (PostOf Qc mc ms free) (vx_Post XC mc ms free) := vx_callBack cw.1 hM hp.1
  obtain ⟨⟨-, -, -, -, -, -, hcode, -, hy, hlen, hl⟩, hin, hse⟩ := cw
  obtain ⟨hx, hb, hml, ho, -⟩ := S
  obtain ⟨-, ⟨cellB, hcB, hoB, hclB⟩, hPc⟩ := hp
  intro T hT X
  rcases vx_callV X hx (C := C) (bytes := bytes) (maxL := maxL) (ret := ret) ho hl hin hse hcode hy hK (by rw [hT]; exact hcB) hoB hclB hg (hsize.trans hml.symm) (argsL := As) (rest := rest) (fun sig h => hn.trans (hlen sig h)) hstack hW (by rw [hb]; exact hdg)
    (fun vm₁ hW₁ => ⟨hf.1, hf.2, hPc (T.setVm vm₁) hT hW₁⟩) with ⟨v, vm₁, ⟨U', l2, c2, s2⟩, hW₁, X', ⟨g', mk, t, L, e1, e2, hq, h1, hL, h2, h3⟩, st⟩ | ⟨q, vm₁, ⟨U', l2, c2, s2⟩, hW₁, X', ⟨g', mk, t, L, E, ce, e1, e2, hq, hce, hcv, hcl, h1, hL, h2, h3⟩, st⟩
  · dsimp only [Pt.U, Pt.locs, Pt.cells, Pt.slots] at X' e1 e2 h1 h2 h3 st
    subst h1; subst h2; subst h3
    exact Or.inl ⟨v, (T.setVm vm₁).calling g' mk (Value.ref b :: As).toArray, t, U', L, hT, X', hL, e1, e2, hq, st⟩
  · dsimp only [Pt.U, Pt.locs, Pt.cells, Pt.slots] at X' e1 e2 h1 h2 h3 st hcl
    subst h1; subst h2; subst h3
    exact Or.inr ⟨q, (T.setVm vm₁).calling g' mk (Value.ref b :: As).toArray, t, U', L, E, ce, hT, X', hL, e1, e2, hq, hce, hcv, vx_cls hW₁ hcl, st⟩
theorem vx_runS (S : CallFix p m c cc nL s args Ts own) (hM : vx_Met l y ws rm Pc Qc XC mc ms free) (cw : CallB R s args own index y bytes maxL ret ws rm mc ms n ∧ (Cond.static y).before args s = true) (hp : PreS s H Pc As)
    (hg : g.method = m) (hn : As.length = n) (hsize : g.locals.size = nL) (hstack : g.stack = As.reverse ++ rest) (hW : 2 * g.monitorRoom + (rest.map fun v => v.category).sum ≤ 8) (hdg : decode cc g.pc = .ok (.invokestatic index, 3)) (hf : cells + mc ≤ R.cells ∧ slots + ms ≤ R.slots) :
    vx_Run p l e R s m args below meth c H locs cells slots mc ms g rest (Qc As.toArray) XC free := by
  have hK : vx_Back l R p e below s args y 3 8 (PreOf R mc ms Pc) (PostOf Qc mc ms free) (vx_Post XC mc ms free) := vx_callBack cw.1 hM hp.1
  obtain ⟨⟨-, -, -, -, -, -, hcode, hini, hy, hlen, hl⟩, hstt⟩ := cw
  obtain ⟨hx, hb, hml, ho, -⟩ := S
  intro T hT X
  rcases vx_callS X hx (bytes := bytes) (maxL := maxL) (ret := ret) ho hl hstt hini hcode hy hK hg (hsize.trans hml.symm) (argsL := As) (rest := rest) (fun sig h => hn.trans (hlen sig h)) hstack hW (by rw [hb]; exact hdg)
    (fun vm₁ hW₁ => ⟨hf.1, hf.2, hp.2 (T.setVm vm₁) hT hW₁⟩) with ⟨v, vm₁, ⟨U', l2, c2, s2⟩, hW₁, X', ⟨g', mk, t, L, e1, e2, hq, h1, hL, h2, h3⟩, st⟩ | ⟨q, vm₁, ⟨U', l2, c2, s2⟩, hW₁, X', ⟨g', mk, t, L, E, ce, e1, e2, hq, hce, hcv, hcl, h1, hL, h2, h3⟩, st⟩
  · dsimp only [Pt.U, Pt.locs, Pt.cells, Pt.slots] at X' e1 e2 h1 h2 h3 st
    subst h1; subst h2; subst h3
    exact Or.inl ⟨v, (T.setVm vm₁).calling g' mk As.toArray, t, U', L, hT, X', hL, e1, e2, hq, st⟩
  · dsimp only [Pt.U, Pt.locs, Pt.cells, Pt.slots] at X' e1 e2 h1 h2 h3 st hcl
    subst h1; subst h2; subst h3
    exact Or.inr ⟨q, (T.setVm vm₁).calling g' mk As.toArray, t, U', L, E, ce, hT, X', hL, e1, e2, hq, hce, hcv, vx_cls hW₁ hcl, st⟩
end Runs
section Rows
variable {p : Program} {l : Launch} {e : Env} {R : Room} {s : State} {m : MethodId} {args : Array Value} {below : List Frame} {meth : Method} {c : Code} {H : Heap} {locs : List Loc} {cells slots : Nat} {Q : State → Prop}
variable {mc ms : Nat} {free : Addr → Prop} {A0 A1 : Nat → Prop} {H0 : Heap} {a : Array Value} {pc : Nat} {ls : Array Slot} {st0 rest : List Value}
theorem vx_keep {st₀ t T' : State} {L : List Loc} (h0 : st₀.heap = H) (e1 : T'.heap = t.heap) (hS : va_S A0 H0 H locs) (hA : ∀ q, q < H.size → A1 q → A0 q) (hf : ∀ q, free q → A0 q) (hL : ∀ q ∈ L, free q.base) (hF : va_F A1 st₀ t) :
    H.size ≤ T'.heap.size ∧ (∀ q : Nat, q < H.size → ¬ A1 q → T'.heap[q]? = H[q]?) ∧ va_S A0 H0 T'.heap (locs ++ L) := by
  obtain ⟨hz, hk⟩ := hF
  rw [h0] at hz hk
  exact ⟨by rw [e1]; exact hz, fun q h1 h2 => by rw [e1]; exact hk q h1 h2,
    ⟨Nat.le_trans hS.1 (by rw [e1]; exact hz), fun q h1 h2 => by rw [e1, hk q (Nat.lt_of_lt_of_le h1 hS.1) (fun z => h2 (hA q (Nat.lt_of_lt_of_le h1 hS.1) z))]; exact hS.2.1 q h1 h2, fun q hq => by
      rcases List.mem_append.mp hq with h | h
      · exact hS.2.2 q h
      · exact hf _ (hL q h)⟩⟩
theorem vx_calli {S SX : Type} {post : Int32 → S → Prop} {px : SX → Prop} {B : S → State → Prop} {BX : String → SX → State → Prop} {AX : Nat → Prop} (hr : vx_Run p l e R s m args below meth c H locs cells slots mc ms (F0 m pc ls st0) rest (va_Qi post B A1 a) (vx_X px BX AX) free) (hS : va_S A0 H0 H locs) (hA : ∀ q, q < H.size → A1 q → A0 q) (hf : ∀ q, free q → A0 q) (hAX : ∀ q, q < H.size → AX q → A0 q)
    (kx : ∀ (E : String) (ce : Cell) (q9 : Addr) (u : SX) (t : State) (H1 : Heap) (locs1 : List Loc), t.heap = H1 → s.vm.Alike t.vm → px u → BX E u t → H.size ≤ H1.size → (∀ q : Nat, q < H.size → ¬ AX q → H1[q]? = H[q]?) → va_S A0 H0 H1 locs1 → H1[q9]? = some ce → ce.vm = .none → s.vm.findClass E = some ce.cls → vx_W p l e R s m args below meth c H1 locs1 (cells + mc) (slots + ms) Q (F0 m pc ls rest) q9)
    (kk : ∀ (r : Int32) (u : S) (t : State) (H1 : Heap) (locs1 : List Loc), t.heap = H1 → s.vm.Alike t.vm → post r u → B u t → H.size ≤ H1.size → (∀ q : Nat, q < H.size → ¬ A1 q → H1[q]? = H[q]?) → va_S A0 H0 H1 locs1 → W p l e R s m args below meth c H1 locs1 (cells + mc) (slots + ms) Q (F0 m (pc + 3) ls (.int r :: rest))) : W p l e R s m args below meth c H locs cells slots Q (F0 m pc ls st0) := by
  intro T hT X
  rcases hr T hT X with ⟨v, st₀, t, T', L, h0, X', hL, e1, e2, ⟨⟨r, u, hv, hp, hb⟩, hF⟩, st⟩ | ⟨q, st₀, t, T', L, E, ce, h0, X', hL, e1, e2, ⟨u, hp, hb, hF⟩, hce, hcv, hcl, st⟩
  · cases hv
    obtain ⟨k1, k2, k3⟩ := vx_keep h0 e1 hS hA hf hL hF
    obtain ⟨t2, a1, b1⟩ := kk r u t T'.heap (locs ++ L) e1.symm (by rw [← e2]; exact X'.warmed.alike) hp hb k1 k2 k3 T' rfl X'
    exact ⟨t2, st t2 a1, b1⟩
  · obtain ⟨k1, k2, k3⟩ := vx_keep h0 e1 hS hAX hf hL hF
    obtain ⟨t2, a1, b1⟩ := kx E ce q u t T'.heap (locs ++ L) e1.symm (by rw [← e2]; exact X'.warmed.alike) hp hb k1 k2 k3 (by rw [e1]; exact hce) hcv hcl T' rfl X'
    exact ⟨t2, st.trans a1, b1⟩
theorem vx_calll {S SX : Type} {post : Int64 → S → Prop} {px : SX → Prop} {B : S → State → Prop} {BX : String → SX → State → Prop} {AX : Nat → Prop} (hr : vx_Run p l e R s m args below meth c H locs cells slots mc ms (F0 m pc ls st0) rest (va_Ql post B A1 a) (vx_X px BX AX) free) (hS : va_S A0 H0 H locs) (hA : ∀ q, q < H.size → A1 q → A0 q) (hf : ∀ q, free q → A0 q) (hAX : ∀ q, q < H.size → AX q → A0 q)
    (kx : ∀ (E : String) (ce : Cell) (q9 : Addr) (u : SX) (t : State) (H1 : Heap) (locs1 : List Loc), t.heap = H1 → s.vm.Alike t.vm → px u → BX E u t → H.size ≤ H1.size → (∀ q : Nat, q < H.size → ¬ AX q → H1[q]? = H[q]?) → va_S A0 H0 H1 locs1 → H1[q9]? = some ce → ce.vm = .none → s.vm.findClass E = some ce.cls → vx_W p l e R s m args below meth c H1 locs1 (cells + mc) (slots + ms) Q (F0 m pc ls rest) q9)
    (kk : ∀ (r : Int64) (u : S) (t : State) (H1 : Heap) (locs1 : List Loc), t.heap = H1 → s.vm.Alike t.vm → post r u → B u t → H.size ≤ H1.size → (∀ q : Nat, q < H.size → ¬ A1 q → H1[q]? = H[q]?) → va_S A0 H0 H1 locs1 → W p l e R s m args below meth c H1 locs1 (cells + mc) (slots + ms) Q (F0 m (pc + 3) ls (.long r :: rest))) : W p l e R s m args below meth c H locs cells slots Q (F0 m pc ls st0) := by
  intro T hT X
  rcases hr T hT X with ⟨v, st₀, t, T', L, h0, X', hL, e1, e2, ⟨⟨r, u, hv, hp, hb⟩, hF⟩, st⟩ | ⟨q, st₀, t, T', L, E, ce, h0, X', hL, e1, e2, ⟨u, hp, hb, hF⟩, hce, hcv, hcl, st⟩
  · cases hv
    obtain ⟨k1, k2, k3⟩ := vx_keep h0 e1 hS hA hf hL hF
    obtain ⟨t2, a1, b1⟩ := kk r u t T'.heap (locs ++ L) e1.symm (by rw [← e2]; exact X'.warmed.alike) hp hb k1 k2 k3 T' rfl X'
    exact ⟨t2, st t2 a1, b1⟩
  · obtain ⟨k1, k2, k3⟩ := vx_keep h0 e1 hS hAX hf hL hF
    obtain ⟨t2, a1, b1⟩ := kx E ce q u t T'.heap (locs ++ L) e1.symm (by rw [← e2]; exact X'.warmed.alike) hp hb k1 k2 k3 (by rw [e1]; exact hce) hcv hcl T' rfl X'
    exact ⟨t2, st.trans a1, b1⟩
theorem vx_callf {S SX : Type} {post : UInt32 → S → Prop} {px : SX → Prop} {B : S → State → Prop} {BX : String → SX → State → Prop} {AX : Nat → Prop} (hr : vx_Run p l e R s m args below meth c H locs cells slots mc ms (F0 m pc ls st0) rest (va_Qf post B A1 a) (vx_X px BX AX) free) (hS : va_S A0 H0 H locs) (hA : ∀ q, q < H.size → A1 q → A0 q) (hf : ∀ q, free q → A0 q) (hAX : ∀ q, q < H.size → AX q → A0 q)
    (kx : ∀ (E : String) (ce : Cell) (q9 : Addr) (u : SX) (t : State) (H1 : Heap) (locs1 : List Loc), t.heap = H1 → s.vm.Alike t.vm → px u → BX E u t → H.size ≤ H1.size → (∀ q : Nat, q < H.size → ¬ AX q → H1[q]? = H[q]?) → va_S A0 H0 H1 locs1 → H1[q9]? = some ce → ce.vm = .none → s.vm.findClass E = some ce.cls → vx_W p l e R s m args below meth c H1 locs1 (cells + mc) (slots + ms) Q (F0 m pc ls rest) q9)
    (kk : ∀ (r : UInt32) (u : S) (t : State) (H1 : Heap) (locs1 : List Loc), t.heap = H1 → s.vm.Alike t.vm → post r u → B u t → H.size ≤ H1.size → (∀ q : Nat, q < H.size → ¬ A1 q → H1[q]? = H[q]?) → va_S A0 H0 H1 locs1 → W p l e R s m args below meth c H1 locs1 (cells + mc) (slots + ms) Q (F0 m (pc + 3) ls (.float r :: rest))) : W p l e R s m args below meth c H locs cells slots Q (F0 m pc ls st0) := by
  intro T hT X
  rcases hr T hT X with ⟨v, st₀, t, T', L, h0, X', hL, e1, e2, ⟨⟨r, u, hv, hp, hb⟩, hF⟩, st⟩ | ⟨q, st₀, t, T', L, E, ce, h0, X', hL, e1, e2, ⟨u, hp, hb, hF⟩, hce, hcv, hcl, st⟩
  · cases hv
    obtain ⟨k1, k2, k3⟩ := vx_keep h0 e1 hS hA hf hL hF
    obtain ⟨t2, a1, b1⟩ := kk r u t T'.heap (locs ++ L) e1.symm (by rw [← e2]; exact X'.warmed.alike) hp hb k1 k2 k3 T' rfl X'
    exact ⟨t2, st t2 a1, b1⟩
  · obtain ⟨k1, k2, k3⟩ := vx_keep h0 e1 hS hAX hf hL hF
    obtain ⟨t2, a1, b1⟩ := kx E ce q u t T'.heap (locs ++ L) e1.symm (by rw [← e2]; exact X'.warmed.alike) hp hb k1 k2 k3 (by rw [e1]; exact hce) hcv hcl T' rfl X'
    exact ⟨t2, st.trans a1, b1⟩
theorem vx_calld {S SX : Type} {post : UInt64 → S → Prop} {px : SX → Prop} {B : S → State → Prop} {BX : String → SX → State → Prop} {AX : Nat → Prop} (hr : vx_Run p l e R s m args below meth c H locs cells slots mc ms (F0 m pc ls st0) rest (va_Qd post B A1 a) (vx_X px BX AX) free) (hS : va_S A0 H0 H locs) (hA : ∀ q, q < H.size → A1 q → A0 q) (hf : ∀ q, free q → A0 q) (hAX : ∀ q, q < H.size → AX q → A0 q)
    (kx : ∀ (E : String) (ce : Cell) (q9 : Addr) (u : SX) (t : State) (H1 : Heap) (locs1 : List Loc), t.heap = H1 → s.vm.Alike t.vm → px u → BX E u t → H.size ≤ H1.size → (∀ q : Nat, q < H.size → ¬ AX q → H1[q]? = H[q]?) → va_S A0 H0 H1 locs1 → H1[q9]? = some ce → ce.vm = .none → s.vm.findClass E = some ce.cls → vx_W p l e R s m args below meth c H1 locs1 (cells + mc) (slots + ms) Q (F0 m pc ls rest) q9)
    (kk : ∀ (r : UInt64) (u : S) (t : State) (H1 : Heap) (locs1 : List Loc), t.heap = H1 → s.vm.Alike t.vm → post r u → B u t → H.size ≤ H1.size → (∀ q : Nat, q < H.size → ¬ A1 q → H1[q]? = H[q]?) → va_S A0 H0 H1 locs1 → W p l e R s m args below meth c H1 locs1 (cells + mc) (slots + ms) Q (F0 m (pc + 3) ls (.double r :: rest))) : W p l e R s m args below meth c H locs cells slots Q (F0 m pc ls st0) := by
  intro T hT X
  rcases hr T hT X with ⟨v, st₀, t, T', L, h0, X', hL, e1, e2, ⟨⟨r, u, hv, hp, hb⟩, hF⟩, st⟩ | ⟨q, st₀, t, T', L, E, ce, h0, X', hL, e1, e2, ⟨u, hp, hb, hF⟩, hce, hcv, hcl, st⟩
  · cases hv
    obtain ⟨k1, k2, k3⟩ := vx_keep h0 e1 hS hA hf hL hF
    obtain ⟨t2, a1, b1⟩ := kk r u t T'.heap (locs ++ L) e1.symm (by rw [← e2]; exact X'.warmed.alike) hp hb k1 k2 k3 T' rfl X'
    exact ⟨t2, st t2 a1, b1⟩
  · obtain ⟨k1, k2, k3⟩ := vx_keep h0 e1 hS hAX hf hL hF
    obtain ⟨t2, a1, b1⟩ := kx E ce q u t T'.heap (locs ++ L) e1.symm (by rw [← e2]; exact X'.warmed.alike) hp hb k1 k2 k3 (by rw [e1]; exact hce) hcv hcl T' rfl X'
    exact ⟨t2, st.trans a1, b1⟩
theorem vx_callv {S SX : Type} {post : S → Prop} {px : SX → Prop} {B : S → State → Prop} {BX : String → SX → State → Prop} {AX : Nat → Prop} (hr : vx_Run p l e R s m args below meth c H locs cells slots mc ms (F0 m pc ls st0) rest (va_Qv post B A1 a) (vx_X px BX AX) free) (hS : va_S A0 H0 H locs) (hA : ∀ q, q < H.size → A1 q → A0 q) (hf : ∀ q, free q → A0 q) (hAX : ∀ q, q < H.size → AX q → A0 q)
    (kx : ∀ (E : String) (ce : Cell) (q9 : Addr) (u : SX) (t : State) (H1 : Heap) (locs1 : List Loc), t.heap = H1 → s.vm.Alike t.vm → px u → BX E u t → H.size ≤ H1.size → (∀ q : Nat, q < H.size → ¬ AX q → H1[q]? = H[q]?) → va_S A0 H0 H1 locs1 → H1[q9]? = some ce → ce.vm = .none → s.vm.findClass E = some ce.cls → vx_W p l e R s m args below meth c H1 locs1 (cells + mc) (slots + ms) Q (F0 m pc ls rest) q9)
    (kk : ∀ (u : S) (t : State) (H1 : Heap) (locs1 : List Loc), t.heap = H1 → s.vm.Alike t.vm → post u → B u t → H.size ≤ H1.size → (∀ q : Nat, q < H.size → ¬ A1 q → H1[q]? = H[q]?) → va_S A0 H0 H1 locs1 → W p l e R s m args below meth c H1 locs1 (cells + mc) (slots + ms) Q (F0 m (pc + 3) ls (rest))) : W p l e R s m args below meth c H locs cells slots Q (F0 m pc ls st0) := by
  intro T hT X
  rcases hr T hT X with ⟨v, st₀, t, T', L, h0, X', hL, e1, e2, ⟨⟨u, hv, hp, hb⟩, hF⟩, st⟩ | ⟨q, st₀, t, T', L, E, ce, h0, X', hL, e1, e2, ⟨u, hp, hb, hF⟩, hce, hcv, hcl, st⟩
  · cases hv
    obtain ⟨k1, k2, k3⟩ := vx_keep h0 e1 hS hA hf hL hF
    obtain ⟨t2, a1, b1⟩ := kk u t T'.heap (locs ++ L) e1.symm (by rw [← e2]; exact X'.warmed.alike) hp hb k1 k2 k3 T' rfl X'
    exact ⟨t2, st t2 a1, b1⟩
  · obtain ⟨k1, k2, k3⟩ := vx_keep h0 e1 hS hAX hf hL hF
    obtain ⟨t2, a1, b1⟩ := kx E ce q u t T'.heap (locs ++ L) e1.symm (by rw [← e2]; exact X'.warmed.alike) hp hb k1 k2 k3 (by rw [e1]; exact hce) hcv hcl T' rfl X'
    exact ⟨t2, st.trans a1, b1⟩
/-- caught by the row x of this method's table; the rows ahead don't take it -/
theorem vx_catch {own name : String} {E : String} {ce : Cell} {q : Addr} (hown : s.vm.findClass own = some m.cls) (pre : List ExceptionTableEntry) (x : ExceptionTableEntry) (suf : List ExceptionTableEntry) (hsplit : c.exceptionTable.toList = pre ++ x :: suf)
    (hpass : ∀ z ∈ pre, covers z pc = false ∨ (z.catchType ≠ 0 ∧ ∃ nm : String, (Cond.classLink own z.catchType nm).before args s = true ∧ va_Nc E nm s)) (hx : covers x pc = true) (h0 : x.catchType ≠ 0)
    (hlink : (Cond.classLink own x.catchType name).before args s = true) (hcast : (Cond.castable E name).before args s = true) (hcell : H[q]? = some ce) (hv : ce.vm = .none) (hcl : s.vm.findClass E = some ce.cls)
    (kk : W p l e R s m args below meth c H locs cells slots Q (F0 m x.handlerPc ls [.ref q])) : vx_W p l e R s m args below meth c H locs cells slots Q (F0 m pc ls rest) q := by
  intro T hT X
  have hpl : e.platform.magicAccessors = ({} : Platform).magicAccessors := by rw [X.admits.platform]
  obtain ⟨c3, c4, hc3, hc4, hasg⟩ := Cond.castable_spec hcast
  cases Option.some.inj (hc3.symm.trans hcl)
  obtain ⟨c5, hc5, hcl5⟩ := Cond.classLink_spec hown hlink e.platform hpl
  cases Option.some.inj (hc4.symm.trans hc5)
  obtain ⟨vm', X', st⟩ := X.thenCaughtThrough q (g := F0 m pc ls rest) rfl (Steps.refl _) (by rw [hT]; exact hcell) (by rw [hv]; rfl) (by obtain ⟨k9, h9, -⟩ := Vm.findClass_spec hcl; exact ⟨k9, h9⟩) pre x suf hsplit
    (fun z hz => by
      rcases hpass z hz with h | ⟨hz0, nm, hl1, hn1⟩
      · exact Or.inl h
      · obtain ⟨c6, hc6, hcl6⟩ := Cond.classLink_spec hown hl1 e.platform hpl
        obtain ⟨a8, b8, h1, h2, h3⟩ := hn1
        cases Option.some.inj (h1.symm.trans hcl)
        cases Option.some.inj (h2.symm.trans hc6)
        exact Or.inr ⟨hz0, _, hcl6, h3⟩) hx (Or.inr ⟨h0, c4, hcl5, hasg⟩)
  obtain ⟨t, a1, b1⟩ := kk (T.setVm vm') hT X'
  exact ⟨t, st.trans a1, b1⟩
end Rows
section Ends
variable {p : Program} {l : Launch} {e : Env} {R : Room} {s : State} {m : MethodId} {args : Array Value} {below : List Frame} {meth : Method} {c : Code} {H : Heap} {locs : List Loc} {cells slots : Nat} {Q : State → Prop}
variable {mc ms : Nat} {free : Addr → Prop} {A0 A1 : Nat → Prop} {H0 : Heap} {a : Array Value} {ls : Array Slot} {st0 rest : List Value}
variable {Qc : Array Value → State → Outcome → State → Prop} {XC : String → State → State → Prop}
/-- what a body that may throw owes at its end -/
def vx_MQ (below : List Frame) (Qc : Array Value → State → Outcome → State → Prop) (XC : String → State → State → Prop) (a : Array Value) (s : State) (mc ms : Nat) (free : Addr → Prop) : State → Prop := fun t =>
  ∃ o, t.status = .running ∧ Ended t below o ∧ vx_Q Qc XC mc ms free a s o t
theorem vx_ret {g : JFrame} {mc ms : Nat} (k : W p l e R s m args below meth c H locs cells slots (MQ below Qc args s mc ms free) g) : W p l e R s m args below meth c H locs cells slots (vx_MQ below Qc XC args s mc ms free) g := by
  intro T hT X
  obtain ⟨t, a1, o, b1, b2, b3, b4⟩ := k T hT X
  exact ⟨t, a1, o, b1, b2, Or.inl ⟨b3, b4⟩⟩
/-- not caught here: it goes on to the caller -/
theorem vx_widen {g : JFrame} {q : Addr} {k n : Nat} (h1 : cells ≤ k) (h2 : slots ≤ n) (kk : vx_W p l e R s m args below meth c H locs k n Q g q) : vx_W p l e R s m args below meth c H locs cells slots Q g q := fun T hT X => kk T hT (stand_widen X h1 h2)
theorem vx_out {pc : Nat} {E : String} {ce : Cell} {q : Addr} {mc ms : Nat} (hout : ∀ x ∈ c.exceptionTable.toList, covers x pc = false) (hlocks : meth.locks = false) (hcell : H[q]? = some ce) (hv : ce.vm = .none) (hcl : s.vm.findClass E = some ce.cls)
    (hx : ∀ t : State, t.heap = H → s.vm.Alike t.vm → XC E s t) (hf : ∀ z ∈ locs, free z.base) (hc : cells ≤ mc) (hs : slots ≤ ms) :
    vx_W p l e R s m args below meth c H locs cells slots (vx_MQ below Qc XC args s mc ms free) (F0 m pc ls rest) q := by
  intro T hT X
  obtain ⟨st1, hrun, hend, hW, hsm⟩ := X.leaveThrown q (g := F0 m pc ls rest) rfl rfl rfl hout hlocks
  have hcell9 : (T.setFrames (.throwing q :: below)).heap[q]? = some ce := by
    show T.heap[q]? = some ce
    rw [hT]; exact hcell
  exact ⟨_, st1, .threw q, hrun, hend, Or.inr ⟨q, rfl, E, ce, locs, hx _ hT hW.alike, hcell9, hv, hcl, hW, hsm.mono hc hs, hf⟩⟩
theorem vx_frame {U : State} {k n : Nat} (h : s.sameButNew ({ U with vm := s.vm } : State) locs k n) : s.heap.size ≤ U.heap.size ∧ ∀ q : Nat, q < s.heap.size → (∀ z ∈ locs, z.base ≠ q) → U.heap[q]? = s.heap[q]? := by
  obtain ⟨-, h2, -, -, -, h6⟩ := h
  refine ⟨h2, fun q hq hz => ?_⟩
  obtain ⟨c9, e1, e2, e3, e4⟩ := h6 q _ (Array.getElem?_eq_getElem hq)
  have hs : c9.slots = (s.heap[q]).slots := Array.ext_getElem? fun i => e4 i fun hm => hz _ hm rfl
  have h9 : c9 = s.heap[q] := by
    rw [hs] at e2
    exact e2
  have e5 : U.heap[q]? = some c9 := e1
  rw [e5, h9, Array.getElem?_eq_getElem hq]
/-- the words of a throw but the four that speak of the heap -/
def vx_no (w : Cond) : Bool := decide (w ≠ .isRef (.static Bundle.tN "UNASSIGNED_STACK" Bundle.steD)) && decide (w ≠ .isRef (.static Bundle.tN "SUPPRESSED_SENTINEL" Bundle.listD)) && decide (w ≠ .laysStatic Bundle.tN "UNASSIGNED_STACK" Bundle.steD) && decide (w ≠ .laysStatic Bundle.tN "SUPPRESSED_SENTINEL" Bundle.listD)
def vx_at0 (own : String) (ic : Nat) (X : String) (names : List String) : List Cond := (Bundle.ownAtoms0 own ic X names).filter vx_no
def vx_atS (own : String) (ic : Nat) (X : String) (names : List String) : List Cond := (Bundle.ownAtoms own ic X names).filter vx_no
/-- a word that the tables alone decide, or a good one -/
def vx_ot (w : Cond) : Bool := w.onTables || goodWord w
theorem vx_ot_at {args a' : Array Value} {s U : State} {w : Cond} (hW : s.WarmedH U.vm) (hvm : s.vm = U.vm) (hg : vx_ot w = true) (h : w.before args s = true) : w.before a' U = true := by
  simp only [vx_ot, Bool.or_eq_true] at hg
  rcases hg with hg | hg
  · exact va_tabs hg hvm h
  · exact word_at hW (good_of_word hg) h
/-- a list's words: the good ones out of the method's own list, the others by premises of their own -/
theorem vx_hat {args : Array Value} {s : State} {L B : List Cond} (h1 : ∀ w ∈ L.filter goodWord, w.before args s = true) (h2 : ∀ w ∈ L.filter (fun w => !goodWord w), w ∈ B) (h3 : ∀ w ∈ B, w.before args s = true) : ∀ w ∈ L, w.before args s = true := by
  intro w hw
  by_cases g : goodWord w = true
  · exact h1 w (List.mem_filter.mpr ⟨hw, g⟩)
  · refine h3 w (h2 w (List.mem_filter.mpr ⟨hw, ?_⟩))
    show (!goodWord w) = true
    cases hgw : goodWord w
    · rfl
    · exact absurd hgw g
theorem vx_c {args : Array Value} {s : State} {w : Cond} {B : List Cond} (h : w.before args s = true) (t : ∀ w ∈ B, w.before args s = true) : ∀ w' ∈ w :: B, w'.before args s = true := fun w' h' => (List.mem_cons.mp h').elim (fun e => by rw [e]; exact h) (t w')
theorem vx_n {args : Array Value} {s : State} : ∀ w ∈ ([] : List Cond), w.before args s = true := fun _ h => nomatch h
theorem vx_own {args : Array Value} {s : State} {L : List Cond} (h1 : ∀ w ∈ L.filter vx_no, w.before args s = true)
    (hU : (Cond.isRef (.static Bundle.tN "UNASSIGNED_STACK" Bundle.steD)).before args s = true) (hN : (Cond.isRef (.static Bundle.tN "SUPPRESSED_SENTINEL" Bundle.listD)).before args s = true)
    (lU : (Cond.laysStatic Bundle.tN "UNASSIGNED_STACK" Bundle.steD).before args s = true) (lN : (Cond.laysStatic Bundle.tN "SUPPRESSED_SENTINEL" Bundle.listD).before args s = true) : ∀ w ∈ L, w.before args s = true := by
  intro w hw
  by_cases e1 : w = .isRef (.static Bundle.tN "UNASSIGNED_STACK" Bundle.steD)
  · rw [e1]; exact hU
  · by_cases e2 : w = .isRef (.static Bundle.tN "SUPPRESSED_SENTINEL" Bundle.listD)
    · rw [e2]; exact hN
    · by_cases e3 : w = .laysStatic Bundle.tN "UNASSIGNED_STACK" Bundle.steD
      · rw [e3]; exact lU
      · by_cases e4 : w = .laysStatic Bundle.tN "SUPPRESSED_SENTINEL" Bundle.listD
        · rw [e4]; exact lN
        · exact h1 w (List.mem_filter.mpr ⟨hw, by unfold vx_no; rw [decide_eq_true e1, decide_eq_true e2, decide_eq_true e3, decide_eq_true e4]; rfl⟩)
/-- where a static field lies, its class's statics cell in H -/
def vx_L (C n d : String) (A : Nat → Prop) (U : State) (H : Heap) : Prop := ∃ (c : ClassId) (k : Class) (i : Nat) (f : Field) (a : Nat) (cell : Cell), U.vm.findClass C = some c ∧ U.fieldFound? C n d = some (c, k, i, f) ∧ f.isStatic = true ∧ k.statics = some a ∧ H[a]? = some cell ∧ cell.vm.isStatics = true ∧ cell.cls = c ∧ f.slot < cell.slots.size ∧ k.staticTypes[f.slot]? = some f.type ∧ ¬ A a
theorem vx_L.moved {C n d : String} {A : Nat → Prop} {u U : State} {H : Heap} (hvm : u.vm.Alike U.vm) (h : vx_L C n d A u H) : vx_L C n d A U H := by
  obtain ⟨c, k, i, f, a, cell, h1, h2, h3, h4, h5, h6, h7, h8, h9, h10⟩ := h
  obtain ⟨k', hi', he⟩ := State.fieldFound?_setVm hvm h2
  exact ⟨c, k', i, f, a, cell, by rw [hvm.findClass]; exact h1, hi', h3, by rw [he]; exact h4, h5, h6, h7, h8, by rw [he]; exact h9, h10⟩
theorem vx_L.kept {C n d : String} {A : Nat → Prop} {U : State} {H H1 : Heap} (h : vx_L C n d A U H) (hq : ∀ a : Nat, a < H.size → ¬ A a → H1[a]? = H[a]?) : vx_L C n d A U H1 := by
  obtain ⟨c, k, i, f, a, cell, h1, h2, h3, h4, h5, h6, h7, h8, h9, h10⟩ := h
  exact ⟨c, k, i, f, a, cell, h1, h2, h3, h4, by rw [hq a (Array.getElem?_eq_some_iff.mp h5).1 h10]; exact h5, h6, h7, h8, h9, h10⟩
theorem vx_L.narrow {C n d : String} {A B : Nat → Prop} {U : State} {H : Heap} (h : vx_L C n d A U H) (hAB : ∀ q, B q → A q) : vx_L C n d B U H := by
  obtain ⟨c, k, i, f, a, cell, h1, h2, h3, h4, h5, h6, h7, h8, h9, h10⟩ := h
  exact ⟨c, k, i, f, a, cell, h1, h2, h3, h4, h5, h6, h7, h8, h9, fun z => h10 (hAB _ z)⟩
theorem vx_L.word {C n d : String} {A : Nat → Prop} {s : State} {args : Array Value} (h : vx_L C n d A s s.heap) : (Cond.laysStatic C n d).before args s = true := by
  obtain ⟨c, k, i, f, a, cell, h1, h2, h3, h4, h5, h6, h7, h8, h9, -⟩ := h
  show (Cond.laysStatic C n d).holds args s none s [] = true
  exact Cond.laysStatic_of h1 h2 h3 h4 h5 h6 h7 h8 h9
/-- .. and what it holds: null or some reference -/
def vx_Zq (C n d : String) (A : Nat → Prop) (U : State) (H : Heap) : Prop := va_Zq C n d A U H ∧ vx_L C n d A U H
theorem vx_Zq.moved {C n d : String} {A : Nat → Prop} {u U : State} {H : Heap} (hvm : u.vm.Alike U.vm) (h : vx_Zq C n d A u H) : vx_Zq C n d A U H := ⟨va_Zq.moved hvm h.1, vx_L.moved hvm h.2⟩
theorem vx_Zq.kept {C n d : String} {A : Nat → Prop} {U : State} {H H1 : Heap} (h : vx_Zq C n d A U H) (hq : ∀ a : Nat, a < H.size → ¬ A a → H1[a]? = H[a]?) : vx_Zq C n d A U H1 := ⟨va_Zq.kept h.1 hq, vx_L.kept h.2 hq⟩
theorem vx_Zq.narrow {C n d : String} {A B : Nat → Prop} {U : State} {H : Heap} (h : vx_Zq C n d A U H) (hAB : ∀ q, B q → A q) : vx_Zq C n d B U H := ⟨va_Zq.narrow h.1 hAB, vx_L.narrow h.2 hAB⟩
theorem vx_Zqof {args : Array Value} {s : State} {C n d : String} {A : Nat → Prop} (hl : (Cond.laysStatic C n d).before args s = true) (hini : (Cond.initialized C).before args s = true) (h : (Cond.isRef (.static C n d)).before args s = true) (hA : ∀ a : Nat, a < s.heap.size → ¬ A a) : vx_Zq C n d A s s.heap := by
  refine ⟨va_Zqof hl hini h hA, ?_⟩
  obtain ⟨c, k, i, f, a, cell, h1, h2, h3, h4, h5, h6, h7, h8, h9⟩ := Cond.laysStatic_spec hl
  exact ⟨c, k, i, f, a, cell, h1, h2, h3, h4, h5, h6, h7, h8, h9, hA a (Array.getElem?_eq_some_iff.mp h5).1⟩
theorem vx_isRef {C n d : String} {v : Value} {A : Nat → Prop} {s : State} {args : Array Value} (h : va_Z C n d v A s s.heap) (hv : v.isRef = true) : (Cond.isRef (.static C n d)).before args s = true := by
  obtain ⟨cf, kf, fi, f, a, cell, h1, h2, h3, h4, h5, h6, h7, -⟩ := h
  have he : (Term.static C n d).eval args s none [] s = some v := by
    simp [Term.eval, State.fieldNamed?, h1, h2, h4, h5, h6, h7]
  simp only [Cond.before, Cond.holds, Cond.value, he]
  cases v <;> simp_all [Value.isRef]
theorem vx_isRefq {C n d : String} {A : Nat → Prop} {s : State} {args : Array Value} (h : va_Zq C n d A s s.heap) : (Cond.isRef (.static C n d)).before args s = true := by
  rcases h with h | ⟨t, h⟩
  · exact vx_isRef h rfl
  · exact vx_isRef h rfl
/-- the same frame, seen from here: as if the method were called anew in this heap -/
theorem vx_rebase {T : State} (X : Stand p l e R s m args below meth c T locs cells slots) {R' : Room} (hf : R'.frames ≤ R.frames) (hl : R'.locals ≤ R.locals) (hc : cells + R'.cells ≤ R.cells) (hs : slots + R'.slots ≤ R.slots) :
    Stand p l e R' ((T.setVm s.vm).setFrames (.invoking m args :: below)) m args below meth c T [] 0 0 := by
  have htop : (T.setVm s.vm).topJava?.isSome := X.here.top
  have hF : ((T.setVm s.vm).setFrames (.invoking m args :: below)).frames = .invoking m args :: below := State.frames_setFrames _ (State.cur_lt_of_top htop)
  obtain ⟨g₀, hg0⟩ := Option.isSome_iff_exists.mp htop
  obtain ⟨r, hr⟩ := State.topJava?_eq_some.mp hg0
  have hl9 : e.platform.stackLimits (T.setVm s.vm).me = e.platform.stackLimits s.me := X.limits
  have hb9 : (T.setVm s.vm).me.stackBytes = s.me.stackBytes := X.bytes
  refine ⟨X.admits, X.cas, X.clock, hF, ?_, X.hears, X.method, X.code, X.here, X.tail, X.warmed, ?_, ?_, ?_⟩
  · have h := X.room
    have hU : ((T.setVm s.vm).setFrames (.invoking m args :: below)).localsInUse = s.localsInUse := by
      rw [State.localsInUse_invoking hF (meth := meth) (c := c) X.method X.code, State.localsInUse_invoking X.frames X.method X.code]
    simp only [State.hasRoom, Bool.and_eq_true, decide_eq_true_eq] at h ⊢
    obtain ⟨⟨⟨⟨h1, h2, h3, h4, h5, h6⟩, h7⟩, h8⟩, h9⟩ := h
    rw [X.frames, List.length_cons] at h2 h3
    have q1 := X.heapSize
    have q2 := X.used
    simp only [hF, hU, List.length_cons, State.stackLimits_setFrames, State.stackBytes_setFrames, hl9, hb9]
    refine ⟨⟨⟨⟨by omega, by omega, by omega, by omega, by omega, h6⟩, ?_⟩, ?_⟩, X.book⟩
    · show T.heap.size + R'.cells ≤ e.platform.maxCells
      omega
    · show T.slotsUsed + R'.slots ≤ e.platform.maxSlots
      omega
  · rw [State.stackLimits_setFrames]; rfl
  · rw [State.stackBytes_setFrames]; rfl
  · refine ⟨?_, Nat.le_refl _, Nat.le_refl _, ?_, ?_, fun a c9 h9 => ⟨c9, h9, rfl, rfl, fun _ _ => rfl⟩⟩
    · obtain ⟨t, ht, -⟩ := State.frames_cons hr
      show T.setVm s.vm = { ((T.setVm s.vm).setFrames (.invoking m args :: below)).setFrames (T.setVm s.vm).frames with heap := T.heap, slotsUsed := T.slotsUsed }
      rw [State.setFrames_setFrames, State.setFrames_self ht]
      rfl
    · show T.slotsUsed = T.slotsUsed + ((T.heap.toList.drop T.heap.size).map (·.slots.size)).sum
      rw [List.drop_eq_nil_of_le (Nat.le_of_eq Array.length_toList)]
      rfl
    · show ((T.heap.toList.drop T.heap.size).map (·.slots.size)).sum ≤ 0
      rw [List.drop_eq_nil_of_le (Nat.le_of_eq Array.length_toList)]
      exact Nat.le_refl _
/-- 'throw new E()': new; dup; invokespecial; athrow -/
theorem vx_throw0 {cc : ByteArray} {pc : Nat} (hexec : p.tables.exec = Jvm.exec) (hb : c.code = cc) (hl : l.stackTraces = false) {own cls : String} {names : List String} {ik ic mc ms : Nat} {A : Nat → Prop}
    (hown : s.vm.findClass own = some m.cls) (hcls : Bundle.fit cls = true) (hnames : ∀ n ∈ names, Bundle.fit n = true)
    (hk : (Cond.classLink own ik cls).before args s = true) (hini : (Cond.initialized cls).before args s = true) (hat : ∀ w ∈ vx_at0 own ic cls names, w.before args s = true)
    (hgood : ∀ w ∈ Cond.classLink own ik cls :: Cond.initialized cls :: vx_at0 own ic cls names, vx_ot w = true)
    (hU : vx_Zq Bundle.tN "UNASSIGNED_STACK" Bundle.steD A s s.heap) (hN : vx_Zq Bundle.tN "SUPPRESSED_SENTINEL" Bundle.listD A s s.heap) (hS : va_S A s.heap H locs) (hsize : ls.size = c.maxLocals)
    (d0 : decode cc pc = .ok (.new ik, 3)) (d3 : decode cc (pc + 3) = .ok (.dup, 1)) (d4 : decode cc (pc + 4) = .ok (.invokespecial ic, 3)) (d7 : decode cc (pc + 7) = .ok (.athrow, 1))
    (hout : ∀ x ∈ c.exceptionTable.toList, covers x (pc + 7) = false)
    (hRframes : names.length + 3 < R.frames) (hRlocals : (rest.map fun v => v.category).sum + (13 * (names.length + 1) + 42) ≤ R.locals) (hRcells : cells + 1 ≤ R.cells) (hRslots : slots + 6 ≤ R.slots) (hlocks : meth.locks = false)
    (hx : ∀ t : State, s.vm.Alike t.vm → H.size ≤ t.heap.size → (∀ q : Nat, q < H.size → t.heap[q]? = H[q]?) → XC cls s t)
    (hf : ∀ z ∈ locs, free z.base) (hc : cells + 1 ≤ mc) (hs : slots + 6 ≤ ms) :
    W p l e R s m args below meth c H locs cells slots (vx_MQ below Qc XC args s mc ms free) (F0 m pc ls rest) := by
  intro T hT X
  have htr : e.platform.stackTraces = false := (show e.platform.stackTraces = l.stackTraces by rw [X.admits.platform]).trans hl
  have Y := vx_rebase X (R' := { frames := R.frames, locals := R.locals, cells := 1, slots := 6 }) (Nat.le_refl _) (Nat.le_refl _) hRcells hRslots
  obtain ⟨s', hA⟩ : ∃ z, z = (T.setVm s.vm).setFrames (.invoking m args :: below) := ⟨_, rfl⟩
  rw [← hA] at Y
  have hvm : s'.vm = s.vm := by rw [hA]; rfl
  have hhp : s'.heap = H := by rw [hA]; exact hT
  have hW0 : s.WarmedH s'.vm := by rw [hvm]; exact State.WarmedH.refl s
  have hat' : ∀ w ∈ vx_at0 own ic cls names, w.before args s' = true := fun w hw => vx_ot_at hW0 hvm.symm (hgood w (List.mem_cons_of_mem _ (List.mem_cons_of_mem _ hw))) (hat w hw)
  have hk' : (Cond.classLink own ik cls).before args s' = true := vx_ot_at hW0 hvm.symm (hgood _ List.mem_cons_self) hk
  have hini' : (Cond.initialized cls).before args s' = true := vx_ot_at hW0 hvm.symm (hgood _ (List.mem_cons_of_mem _ List.mem_cons_self)) hini
  have hU' : vx_Zq Bundle.tN "UNASSIGNED_STACK" Bundle.steD A s' s'.heap := by rw [hhp]; exact vx_Zq.moved hW0.alike (hU.kept hS.2.1)
  have hN' : vx_Zq Bundle.tN "SUPPRESSED_SENTINEL" Bundle.listD A s' s'.heap := by rw [hhp]; exact vx_Zq.moved hW0.alike (hN.kept hS.2.1)
  have h : ∀ w ∈ Bundle.ownAtoms0 own ic cls names, w.before args s' = true := vx_own hat' (vx_isRefq hU'.1) (vx_isRefq hN'.1) hU'.2.word hN'.2.word
  have hown' : s'.vm.findClass own = some m.cls := by rw [hvm]; exact hown
  have hins : (Cond.instantiable cls 6).before args s' = true := h _ (by simp [Bundle.ownAtoms0])
  obtain ⟨vm₁, cX, kX, hfX, hkX, -, -, X₁, st1⟩ := Y.newCold hexec (own := own) (C := cls) (index := ik) (n := 6) hown' hk' hins hini'
    (g := F0 m pc ls rest) rfl (by rw [hb]; exact d0) (Nat.le_refl _) (Nat.le_refl _)
  generalize hT1 : (T.setVm vm₁).pushCell { cls := cX, slots := kX.instanceTypes.map defaultValue, vm := .none } = T1 at X₁ st1
  have hcat : (Value.ref T.heap.size).category = 1 := rfl
  have hcellA : T1.heap[T.heap.size]? = some (freshCell cX kX) := by rw [← hT1]; exact State.heap_pushCell_size _ _
  have d3' : decode c.code (pc + 3) = .ok (.dup, 1) := by rw [hb]; exact d3
  obtain ⟨U, hsteps, hrun, hend, hW, hsame, ce, hce, hO⟩ := X₁.ctorThrow0 hexec htr (own := own) (cls := cls) (names := names) (ic := ic) hown' hcls hnames h (fun x hx => nomatch hx) hfX hkX hcellA (by rw [hhp, hT]; exact Nat.le_refl _)
    (g := { method := m, pc := pc + 4, locals := ls, stack := .ref T.heap.size :: .ref T.heap.size :: rest, locked := none }) rfl hsize rfl rfl (rest := rest) rfl
    (by rw [hb]; exact d4) (by rw [hb]; exact d7) hout hRframes (by simp only [List.map_cons, List.sum_cons, hcat]; omega) hlocks
  obtain ⟨f1, f2⟩ := vx_frame hsame
  rw [hhp] at f1 f2
  have hWs : s.WarmedH U.vm := State.WarmedH.trans hW0 hW
  have hcl : s.vm.findClass cls = some ce.cls := by
    have h9 := hO.cls
    rw [hvm] at h9
    exact h9
  have hall : s.sameButNew ({ U with vm := s.vm } : State) locs mc ms := by
    subst hA
    obtain ⟨e1, e2⟩ := hsame
    rw [State.setFrames_setFrames] at e1
    have h2 : (T.setVm s.vm).sameButNew ({ U with vm := s.vm } : State) [] (0 + 1) (0 + 6) := ⟨e1, e2⟩
    have h3 := X.same.trans h2
    rw [List.append_nil] at h3
    exact h3.mono hc hs
  refine ⟨U, ?_, .threw T.heap.size, hrun, hend, Or.inr ⟨T.heap.size, rfl, cls, ce, locs, hx U hWs.alike f1 (fun q hq => f2 q hq (fun z hz => nomatch hz)), hce, hO.vm, hcl, hWs, hall, hf⟩⟩
  refine st1 _ ?_
  show Steps p.tables e below (T1.setTop { method := m, pc := pc + 3, locals := ls, stack := .ref T.heap.size :: rest, locked := none }) _
  jvm_step X₁.here [X₁.here.top, hexec, d3', Value.category]
  exact hsteps
/-- 'throw new E("text")': new; dup; ldc; invokespecial; athrow -/
theorem vx_throwS {cc : ByteArray} {pc : Nat} (hexec : p.tables.exec = Jvm.exec) (hb : c.code = cc) (hl : l.stackTraces = false) {own cls text : String} {names : List String} {ik is ic mc ms sa : Nat} {A : Nat → Prop}
    (hown : s.vm.findClass own = some m.cls) (hcls : Bundle.fit cls = true) (hnames : ∀ n ∈ names, Bundle.fit n = true)
    (hk : (Cond.classLink own ik cls).before args s = true) (hini : (Cond.initialized cls).before args s = true) (hstr : vk_R own is text sa s) (hat : ∀ w ∈ vx_atS own ic cls names, w.before args s = true)
    (hgood : ∀ w ∈ Cond.classLink own ik cls :: Cond.initialized cls :: vx_atS own ic cls names, vx_ot w = true)
    (hU : vx_Zq Bundle.tN "UNASSIGNED_STACK" Bundle.steD A s s.heap) (hN : vx_Zq Bundle.tN "SUPPRESSED_SENTINEL" Bundle.listD A s s.heap) (hS : va_S A s.heap H locs) (hsize : ls.size = c.maxLocals)
    (d0 : decode cc pc = .ok (.new ik, 3)) (d3 : decode cc (pc + 3) = .ok (.dup, 1)) (d4 : decode cc (pc + 4) = .ok (.ldc is, 2)) (d6 : decode cc (pc + 6) = .ok (.invokespecial ic, 3)) (d9 : decode cc (pc + 9) = .ok (.athrow, 1))
    (hout : ∀ x ∈ c.exceptionTable.toList, covers x (pc + 9) = false)
    (hRframes : names.length + 3 < R.frames) (hRlocals : (rest.map fun v => v.category).sum + (13 * (names.length + 1) + 43) ≤ R.locals) (hRcells : cells + 1 ≤ R.cells) (hRslots : slots + 6 ≤ R.slots) (hlocks : meth.locks = false)
    (hx : ∀ t : State, s.vm.Alike t.vm → H.size ≤ t.heap.size → (∀ q : Nat, q < H.size → t.heap[q]? = H[q]?) → XC cls s t)
    (hf : ∀ z ∈ locs, free z.base) (hc : cells + 1 ≤ mc) (hs : slots + 6 ≤ ms) :
    W p l e R s m args below meth c H locs cells slots (vx_MQ below Qc XC args s mc ms free) (F0 m pc ls rest) := by
  intro T hT X
  have htr : e.platform.stackTraces = false := (show e.platform.stackTraces = l.stackTraces by rw [X.admits.platform]).trans hl
  have Y := vx_rebase X (R' := { frames := R.frames, locals := R.locals, cells := 1, slots := 6 }) (Nat.le_refl _) (Nat.le_refl _) hRcells hRslots
  obtain ⟨s', hA⟩ : ∃ z, z = (T.setVm s.vm).setFrames (.invoking m args :: below) := ⟨_, rfl⟩
  rw [← hA] at Y
  have hvm : s'.vm = s.vm := by rw [hA]; rfl
  have hhp : s'.heap = H := by rw [hA]; exact hT
  have hW0 : s.WarmedH s'.vm := by rw [hvm]; exact State.WarmedH.refl s
  have hat' : ∀ w ∈ vx_atS own ic cls names, w.before args s' = true := fun w hw => vx_ot_at hW0 hvm.symm (hgood w (List.mem_cons_of_mem _ (List.mem_cons_of_mem _ hw))) (hat w hw)
  have hk' : (Cond.classLink own ik cls).before args s' = true := vx_ot_at hW0 hvm.symm (hgood _ List.mem_cons_self) hk
  have hini' : (Cond.initialized cls).before args s' = true := vx_ot_at hW0 hvm.symm (hgood _ (List.mem_cons_of_mem _ List.mem_cons_self)) hini
  have hU' : vx_Zq Bundle.tN "UNASSIGNED_STACK" Bundle.steD A s' s'.heap := by rw [hhp]; exact vx_Zq.moved hW0.alike (hU.kept hS.2.1)
  have hN' : vx_Zq Bundle.tN "SUPPRESSED_SENTINEL" Bundle.listD A s' s'.heap := by rw [hhp]; exact vx_Zq.moved hW0.alike (hN.kept hS.2.1)
  have h : ∀ w ∈ Bundle.ownAtoms own ic cls names, w.before args s' = true := vx_own hat' (vx_isRefq hU'.1) (vx_isRefq hN'.1) hU'.2.word hN'.2.word
  have hown' : s'.vm.findClass own = some m.cls := by rw [hvm]; exact hown
  have hins : (Cond.instantiable cls 6).before args s' = true := h _ (by simp [Bundle.ownAtoms])
  obtain ⟨vm₁, cX, kX, hfX, hkX, -, -, X₁, st1⟩ := Y.newCold hexec (own := own) (C := cls) (index := ik) (n := 6) hown' hk' hins hini'
    (g := F0 m pc ls rest) rfl (by rw [hb]; exact d0) (Nat.le_refl _) (Nat.le_refl _)
  generalize hT1 : (T.setVm vm₁).pushCell { cls := cX, slots := kX.instanceTypes.map defaultValue, vm := .none } = T1 at X₁ st1
  have hcat : (Value.ref T.heap.size).category = 1 := rfl
  have hcellA : T1.heap[T.heap.size]? = some (freshCell cX kX) := by rw [← hT1]; exact State.heap_pushCell_size _ _
  have d3' : decode c.code (pc + 3) = .ok (.dup, 1) := by rw [hb]; exact d3
  have d4' : decode c.code (pc + 4) = .ok (.ldc is, 2) := by rw [hb]; exact d4
  have hstr' : vk_R own is text sa s' := vk_R.warm hW0 hstr
  obtain ⟨U, hsteps, hrun, hend, hW, hsame, ce, hce, hO⟩ := X₁.ctorThrowS hexec htr (own := own) (cls := cls) (names := names) (ic := ic) hown' hcls hnames h (fun x hx => nomatch hx) hfX hkX hcellA (by rw [hhp, hT]; exact Nat.le_refl _) (msg := .ref sa) rfl
    (g := { method := m, pc := pc + 6, locals := ls, stack := .ref sa :: .ref T.heap.size :: .ref T.heap.size :: rest, locked := none }) rfl hsize rfl rfl (rest := rest) rfl
    (by rw [hb]; exact d6) (by rw [hb]; exact d9) hout hRframes (by simp only [List.map_cons, List.sum_cons, hcat]; omega) hlocks
  obtain ⟨f1, f2⟩ := vx_frame hsame
  rw [hhp] at f1 f2
  have hWs : s.WarmedH U.vm := State.WarmedH.trans hW0 hW
  have hcl : s.vm.findClass cls = some ce.cls := by
    have h9 := hO.cls
    rw [hvm] at h9
    exact h9
  have hall : s.sameButNew ({ U with vm := s.vm } : State) locs mc ms := by
    subst hA
    obtain ⟨e1, e2⟩ := hsame
    rw [State.setFrames_setFrames] at e1
    have h2 : (T.setVm s.vm).sameButNew ({ U with vm := s.vm } : State) [] (0 + 1) (0 + 6) := ⟨e1, e2⟩
    have h3 := X.same.trans h2
    rw [List.append_nil] at h3
    exact h3.mono hc hs
  refine ⟨U, ?_, .threw T.heap.size, hrun, hend, Or.inr ⟨T.heap.size, rfl, cls, ce, locs, hx U hWs.alike f1 (fun q hq => f2 q hq (fun z hz => nomatch hz)), hce, hO.vm, hcl, hWs, hall, hf⟩⟩
  refine st1 _ ?_
  show Steps p.tables e below (T1.setTop { method := m, pc := pc + 3, locals := ls, stack := .ref T.heap.size :: rest, locked := none }) _
  jvm_step X₁.here [X₁.here.top, hexec, d3', Value.category]
  exact X₁.ldcString hexec (own := own) (text := text) (index := is) (a := sa) hown' hstr'.1 hstr'.2
    (g := { method := m, pc := pc + 4, locals := ls, stack := .ref T.heap.size :: .ref T.heap.size :: rest, locked := none }) rfl d4' _ hsteps
/-- 'throw new E("text")', the text by a wide index -/
theorem vx_throwSW {cc : ByteArray} {pc : Nat} (hexec : p.tables.exec = Jvm.exec) (hb : c.code = cc) (hl : l.stackTraces = false) {own cls text : String} {names : List String} {ik is ic mc ms sa : Nat} {A : Nat → Prop}
    (hown : s.vm.findClass own = some m.cls) (hcls : Bundle.fit cls = true) (hnames : ∀ n ∈ names, Bundle.fit n = true)
    (hk : (Cond.classLink own ik cls).before args s = true) (hini : (Cond.initialized cls).before args s = true) (hstr : vk_R own is text sa s) (hat : ∀ w ∈ vx_atS own ic cls names, w.before args s = true)
    (hgood : ∀ w ∈ Cond.classLink own ik cls :: Cond.initialized cls :: vx_atS own ic cls names, vx_ot w = true)
    (hU : vx_Zq Bundle.tN "UNASSIGNED_STACK" Bundle.steD A s s.heap) (hN : vx_Zq Bundle.tN "SUPPRESSED_SENTINEL" Bundle.listD A s s.heap) (hS : va_S A s.heap H locs) (hsize : ls.size = c.maxLocals)
    (d0 : decode cc pc = .ok (.new ik, 3)) (d3 : decode cc (pc + 3) = .ok (.dup, 1)) (d4 : decode cc (pc + 4) = .ok (.ldc_w is, 3)) (d7 : decode cc (pc + 7) = .ok (.invokespecial ic, 3)) (d10 : decode cc (pc + 10) = .ok (.athrow, 1))
    (hout : ∀ x ∈ c.exceptionTable.toList, covers x (pc + 10) = false)
    (hRframes : names.length + 3 < R.frames) (hRlocals : (rest.map fun v => v.category).sum + (13 * (names.length + 1) + 43) ≤ R.locals) (hRcells : cells + 1 ≤ R.cells) (hRslots : slots + 6 ≤ R.slots) (hlocks : meth.locks = false)
    (hx : ∀ t : State, s.vm.Alike t.vm → H.size ≤ t.heap.size → (∀ q : Nat, q < H.size → t.heap[q]? = H[q]?) → XC cls s t)
    (hf : ∀ z ∈ locs, free z.base) (hc : cells + 1 ≤ mc) (hs : slots + 6 ≤ ms) :
    W p l e R s m args below meth c H locs cells slots (vx_MQ below Qc XC args s mc ms free) (F0 m pc ls rest) := by
  intro T hT X
  have htr : e.platform.stackTraces = false := (show e.platform.stackTraces = l.stackTraces by rw [X.admits.platform]).trans hl
  have Y := vx_rebase X (R' := { frames := R.frames, locals := R.locals, cells := 1, slots := 6 }) (Nat.le_refl _) (Nat.le_refl _) hRcells hRslots
  obtain ⟨s', hA⟩ : ∃ z, z = (T.setVm s.vm).setFrames (.invoking m args :: below) := ⟨_, rfl⟩
  rw [← hA] at Y
  have hvm : s'.vm = s.vm := by rw [hA]; rfl
  have hhp : s'.heap = H := by rw [hA]; exact hT
  have hW0 : s.WarmedH s'.vm := by rw [hvm]; exact State.WarmedH.refl s
  have hat' : ∀ w ∈ vx_atS own ic cls names, w.before args s' = true := fun w hw => vx_ot_at hW0 hvm.symm (hgood w (List.mem_cons_of_mem _ (List.mem_cons_of_mem _ hw))) (hat w hw)
  have hk' : (Cond.classLink own ik cls).before args s' = true := vx_ot_at hW0 hvm.symm (hgood _ List.mem_cons_self) hk
  have hini' : (Cond.initialized cls).before args s' = true := vx_ot_at hW0 hvm.symm (hgood _ (List.mem_cons_of_mem _ List.mem_cons_self)) hini
  have hU' : vx_Zq Bundle.tN "UNASSIGNED_STACK" Bundle.steD A s' s'.heap := by rw [hhp]; exact vx_Zq.moved hW0.alike (hU.kept hS.2.1)
  have hN' : vx_Zq Bundle.tN "SUPPRESSED_SENTINEL" Bundle.listD A s' s'.heap := by rw [hhp]; exact vx_Zq.moved hW0.alike (hN.kept hS.2.1)
  have h : ∀ w ∈ Bundle.ownAtoms own ic cls names, w.before args s' = true := vx_own hat' (vx_isRefq hU'.1) (vx_isRefq hN'.1) hU'.2.word hN'.2.word
  have hown' : s'.vm.findClass own = some m.cls := by rw [hvm]; exact hown
  have hins : (Cond.instantiable cls 6).before args s' = true := h _ (by simp [Bundle.ownAtoms])
  obtain ⟨vm₁, cX, kX, hfX, hkX, -, -, X₁, st1⟩ := Y.newCold hexec (own := own) (C := cls) (index := ik) (n := 6) hown' hk' hins hini'
    (g := F0 m pc ls rest) rfl (by rw [hb]; exact d0) (Nat.le_refl _) (Nat.le_refl _)
  generalize hT1 : (T.setVm vm₁).pushCell { cls := cX, slots := kX.instanceTypes.map defaultValue, vm := .none } = T1 at X₁ st1
  have hcat : (Value.ref T.heap.size).category = 1 := rfl
  have hcellA : T1.heap[T.heap.size]? = some (freshCell cX kX) := by rw [← hT1]; exact State.heap_pushCell_size _ _
  have d3' : decode c.code (pc + 3) = .ok (.dup, 1) := by rw [hb]; exact d3
  have d4' : decode c.code (pc + 4) = .ok (.ldc_w is, 3) := by rw [hb]; exact d4
  have hstr' : vk_R own is text sa s' := vk_R.warm hW0 hstr
  obtain ⟨U, hsteps, hrun, hend, hW, hsame, ce, hce, hO⟩ := X₁.ctorThrowS hexec htr (own := own) (cls := cls) (names := names) (ic := ic) hown' hcls hnames h (fun x hx => nomatch hx) hfX hkX hcellA (by rw [hhp, hT]; exact Nat.le_refl _) (msg := .ref sa) rfl
    (g := { method := m, pc := pc + 7, locals := ls, stack := .ref sa :: .ref T.heap.size :: .ref T.heap.size :: rest, locked := none }) rfl hsize rfl rfl (rest := rest) rfl
    (by rw [hb]; exact d7) (by rw [hb]; exact d10) hout hRframes (by simp only [List.map_cons, List.sum_cons, hcat]; omega) hlocks
  obtain ⟨f1, f2⟩ := vx_frame hsame
  rw [hhp] at f1 f2
  have hWs : s.WarmedH U.vm := State.WarmedH.trans hW0 hW
  have hcl : s.vm.findClass cls = some ce.cls := by
    have h9 := hO.cls
    rw [hvm] at h9
    exact h9
  have hall : s.sameButNew ({ U with vm := s.vm } : State) locs mc ms := by
    subst hA
    obtain ⟨e1, e2⟩ := hsame
    rw [State.setFrames_setFrames] at e1
    have h2 : (T.setVm s.vm).sameButNew ({ U with vm := s.vm } : State) [] (0 + 1) (0 + 6) := ⟨e1, e2⟩
    have h3 := X.same.trans h2
    rw [List.append_nil] at h3
    exact h3.mono hc hs
  refine ⟨U, ?_, .threw T.heap.size, hrun, hend, Or.inr ⟨T.heap.size, rfl, cls, ce, locs, hx U hWs.alike f1 (fun q hq => f2 q hq (fun z hz => nomatch hz)), hce, hO.vm, hcl, hWs, hall, hf⟩⟩
  refine st1 _ ?_
  show Steps p.tables e below (T1.setTop { method := m, pc := pc + 3, locals := ls, stack := .ref T.heap.size :: rest, locked := none }) _
  jvm_step X₁.here [X₁.here.top, hexec, d3', Value.category]
  exact X₁.ldcStringW hexec (own := own) (text := text) (index := is) (a := sa) hown' hstr'.1 hstr'.2
    (g := { method := m, pc := pc + 4, locals := ls, stack := .ref T.heap.size :: .ref T.heap.size :: rest, locked := none }) rfl d4' _ hsteps
end Ends
section Bodies
variable {l : Launch}
theorem vx_ofW {y : MethodName} {ws ws' : List Cond} {rm : Room} {Pc : Array Value → State → Prop} {Qc : Array Value → State → Outcome → State → Prop} {XC : String → State → State → Prop} {mc ms : Nat} {free : Addr → Prop} {cc : ByteArray} {maxL : Nat} {ret : Option FieldType}
    (hy : plainName y.cls = true) (hw : ws = Cond.code y cc maxL ret :: ws')
    (body : ∀ p e s m args below meth c s₁, BodyLoose p l y (headSpec ws rm) cc maxL ret e s m args below meth c s₁ → c.maxLocals = maxL → (∀ x ∈ c.exceptionTable.toList, False) → Pc args s →
      W p l e (headSpec ws rm).room s m args below meth c s.heap [] 0 0 (vx_MQ below Qc XC args s mc ms free) (entryFrame m args maxL)) : vx_Met l y ws rm Pc Qc XC mc ms free := by
  refine MetFree.of_bodyS (code := cc) (maxLocals := maxL) (ret := ret) hy ?_ ?_
  · intro args s m h hn
    obtain ⟨meth, c, h1, h2, h3, h4, h5, h6, -, -⟩ := Cond.code_spec hn (atoms_spec (ws := ws) h _ (by rw [hw]; exact List.mem_cons_self))
    exact ⟨meth, c, h1, h2, h3, h4, h5, h6⟩
  · intro p e s m args below meth c s₁ B hml hP _
    have hh0 : s₁.heap = s.heap := by rw [B.state]; rfl
    have ht : ∀ x ∈ c.exceptionTable.toList, False := by
      obtain ⟨meth9, c9, h1, h2, -, -, -, -, h7, -⟩ := Cond.code_spec B.named (atoms_spec (ws := ws) B.pre _ (by rw [hw]; exact List.mem_cons_self))
      cases Option.some.inj (h1.symm.trans B.method)
      cases Option.some.inj (h2.symm.trans (Stand.of_body B).code)
      intro x hx
      rw [Array.isEmpty_iff.mp h7] at hx
      cases hx
    obtain ⟨t, a1, o, b1, b2, b3⟩ := body p e s m args below meth c s₁ B hml ht hP s₁ hh0 (Stand.of_body B)
    exact ⟨t, o, a1, b1, b2, b3⟩
/-- the table of a body with handlers -/
theorem vx_table {p : Program} {x y : MethodName} {S : Spec} {cc bytes : ByteArray} {maxL maxL' : Nat} {ret ret' : Option FieldType} {e : Env} {s s₁ : State} {m : MethodId} {args : Array Value} {below : List Frame} {meth : Method} {c : Code} {hh : List (Nat × Nat × Nat × Nat)}
    (B : BodyLoose p l y S cc maxL ret e s m args below meth c s₁) (h : (Cond.codeWith y bytes maxL' ret' hh).before args s = true) : c.exceptionTable.toList = tableOf hh := by
  obtain ⟨m9, meth9, c9, hn9, h1, h2, -, -, h6, -⟩ := Cond.codeWith_spec h
  cases Option.some.inj (hn9.symm.trans B.named)
  cases Option.some.inj (h1.symm.trans B.method)
  cases Option.some.inj (h2.symm.trans (Stand.of_body B).code)
  rw [← h6, table_eq]
end Bodies
end VXA
/-! ===== END ===== -/
/-! ===== BEGIN a static call of a method with an exception table ===== -/
section VXS
variable {p : Program} {l : Launch} {e : Env} {R : Room} {s : State} {m : MethodId} {args : Array Value} {below : List Frame} {meth : Method} {c : Code} {T : State} {H : Heap} {locs : List Loc} {cells slots : Nat}
abbrev vx_CSW (R : Room) (s : State) (args : Array Value) (own : String) (index : Nat) (y : MethodName) (bytes : ByteArray) (maxL : Nat) (ret : Option FieldType) (hh : List (Nat × Nat × Nat × Nat)) (ws : List Cond) (rm : Room) (mc ms n : Nat) : Prop :=
  (rm.cells = mc ∧ rm.slots = ms ∧ rm.frames + 1 ≤ R.frames ∧ 8 + (maxL + 11) + rm.locals ≤ R.locals ∧ (∀ w ∈ ws, ∀ (a' : Array Value) (U : State), s.WarmedH U.vm → w.before a' U = true) ∧ Cond.codeWith y bytes maxL ret hh ∈ ws) ∧
  (Cond.codeWith y bytes maxL ret hh).before args s = true ∧ (Cond.initialized y.cls).before args s = true ∧ (y.cls ≠ "java/lang/invoke/MethodHandle" ∧ y.cls ≠ "java/lang/invoke/VarHandle") ∧
  (∀ sig, parseMethodDescriptor y.desc = some sig → n = sig.parameters.length) ∧ (Cond.methodLink own index y).before args s = true ∧ (Cond.static y).before args s = true
theorem vx_cwSW {own : String} {index maxL mc ms : Nat} {y : MethodName} {bytes : ByteArray} {ret : Option FieldType} {hh : List (Nat × Nat × Nat × Nat)} {Ts ws ws' : List Cond} {rm : Room} (n : Nat) (ht : ∀ w ∈ Ts, w.before args s = true) (hT : GoodIn Ts (va_wsS own index y ws)) (hw : ws = Cond.codeWith y bytes maxL ret hh :: ws') (hrc : rm.cells = mc) (hrs : rm.slots = ms)
    (hd : y.cls ≠ "java/lang/invoke/MethodHandle" ∧ y.cls ≠ "java/lang/invoke/VarHandle" ∧ (parseMethodDescriptor y.desc).map (fun d => d.parameters.length) = some n) (hR : rm.frames + 1 ≤ R.frames ∧ 8 + (maxL + 11) + rm.locals ≤ R.locals) :
    vx_CSW R s args own index y bytes maxL ret hh ws rm mc ms n := by
  have ok : ∀ w ∈ va_wsS own index y ws, w.before args s = true := fun w h => ht w (hT w h).1
  have hG : GoodIn Ts ws := fun w h => hT w (by unfold va_wsS; exact List.mem_append_right _ h)
  have hc : Cond.codeWith y bytes maxL ret hh ∈ ws := by rw [hw]; exact List.mem_cons_self
  refine ⟨⟨hrc, hrs, hR.1, hR.2, pay_in ht hG, hc⟩, ht _ (hG _ hc).1, ok _ (by simp [va_wsS]), ⟨hd.1, hd.2.1⟩, fun sig h => ?_, ok _ (by simp [va_wsS]), ok _ (by simp [va_wsS])⟩
  have h2 := hd.2.2
  rw [h] at h2
  exact (Option.some.inj h2).symm
theorem vx_callSW (X : Stand p l e R s m args below meth c T locs cells slots) (hexec : p.tables.exec = Jvm.exec) {own : String} {index : Nat} {y : MethodName} {bytes : ByteArray} {maxL : Nat} {ret : Option FieldType} {hh : List (Nat × Nat × Nat × Nat)}
    (hown : s.vm.findClass own = some m.cls) (hlink : (Cond.methodLink own index y).before args s = true) (hstat : (Cond.static y).before args s = true) (hinit : (Cond.initialized y.cls).before args s = true)
    (hcode : (Cond.codeWith y bytes maxL ret hh).before args s = true) (hy : y.cls ≠ "java/lang/invoke/MethodHandle" ∧ y.cls ≠ "java/lang/invoke/VarHandle")
    {W9 : Nat} {Pre : Pt → Array Value → Prop} {Post : Pt → Array Value → Option Value → Pt → Prop} (hK : Back l R p e below s args y 3 W9 Pre Post)
    {g : JFrame} (hg : g.method = m) (hsize : g.locals.size = c.maxLocals) {argsL rest : List Value} (hlen : ∀ sig, parseMethodDescriptor y.desc = some sig → argsL.length = sig.parameters.length)
    (hstack : g.stack = argsL.reverse ++ rest) (hW : 2 * g.monitorRoom + (rest.map fun v => v.category).sum ≤ W9) (hdg : decode c.code g.pc = .ok (.invokestatic index, 3))
    (hpre : ∀ vm₁, s.WarmedH vm₁ → Pre ⟨T.setVm vm₁, locs, cells, slots⟩ argsL.toArray) :
    ∃ (v : Option Value) (vm₁ : Vm) (B : Pt), s.WarmedH vm₁ ∧ Stand p l e R s m args below meth c B.U B.locs B.cells B.slots ∧ Post ⟨T.setVm vm₁, locs, cells, slots⟩ argsL.toArray v B ∧
      ∀ target, Steps p.tables e below (B.U.setTop { g with pc := g.pc + 3, stack := v.toList ++ rest }) target → Steps p.tables e below (T.setTop g) target := by
  obtain ⟨mk, methM, cM, hnamed, hmethM, -, -, -, -, -, -, hsigM⟩ := Cond.codeWith_spec hcode
  have hstatic : methM.isStatic = true := Cond.static_spec hnamed hmethM hstat
  obtain ⟨kP, hkP, -⟩ := className_of_methodNamed hnamed
  have hinitP : kP.init = .initialized := Cond.initialized_spec (findClass_of_methodNamed hnamed) hkP hinit
  obtain ⟨vm₁, X₁, hstep₁⟩ := X.invokestatic hexec hown hlink hnamed hmethM hstatic hkP hinitP hy (g := g) hg (argsL := argsL) (rest := rest) (hlen _ hsigM) hstack hdg
  obtain ⟨v, B, X', hpost, hsteps⟩ := hK m meth c ⟨T.setVm vm₁, locs, cells, slots⟩ { g with stack := rest } (.invokestatic index) mk argsL.toArray X₁ hg hsize hdg hW (X₁.named hnamed) (hpre vm₁ X₁.warmed)
  exact ⟨v, vm₁, B, X₁.warmed, X', hpost, fun target h => hstep₁ _ fun acts => by rw [doInvoke_state]; exact hsteps.trans h⟩
theorem vx_runSW {y : MethodName} {bytes cc : ByteArray} {maxL nL mc ms n index : Nat} {ret : Option FieldType} {hh : List (Nat × Nat × Nat × Nat)} {ws : List Cond} {rm : Room} {Pc : Array Value → State → Prop} {Qc : Array Value → State → Outcome → State → Prop} {free : Addr → Prop} {Ts : List Cond} {own : String} {As rest : List Value} {g : JFrame}
    (S : CallFix p m c cc nL s args Ts own) (hM : Met l y ws rm Pc Qc mc ms free) (cw : vx_CSW R s args own index y bytes maxL ret hh ws rm mc ms n) (hp : PreS s H Pc As)
    (hg : g.method = m) (hn : As.length = n) (hsize : g.locals.size = nL) (hstack : g.stack = As.reverse ++ rest) (hW : 2 * g.monitorRoom + (rest.map fun v => v.category).sum ≤ 8) (hdg : decode cc g.pc = .ok (.invokestatic index, 3)) (hf : cells + mc ≤ R.cells ∧ slots + ms ≤ R.slots) :
    va_Run p l e R s m args below meth c H locs cells slots mc ms g rest (Qc As.toArray) (free) := by
  obtain ⟨⟨hrc, hrs, hfr, hlo, hws, hcw⟩, hcode, hini, hy, hlen, hl, hstt⟩ := cw
  have hK : Back l R p e below s args y 3 8 (PreOf R mc ms Pc) (PostOf Qc mc ms free) := va_backW (hh := hh) (bytes := bytes) (maxL := maxL) (ret := ret) hM hp.1 hrc hrs hfr hlo hws hcw (fun a' U hW => word_at hW (Or.inl (by first | rfl | simp [Cond.onTables, Cond.keeps, Cond.steady])) hini)
  obtain ⟨hx, hb, hml, ho, -⟩ := S
  intro T hT X
  obtain ⟨v, vm₁, ⟨U', l2, c2, s2⟩, hW₁, X', ⟨g', mk, t, L, e1, e2, hq, h1, hL, h2, h3⟩, st⟩ := vx_callSW X hx (hh := hh) (bytes := bytes) (maxL := maxL) (ret := ret) ho hl hstt hini hcode hy hK hg (hsize.trans hml.symm) (argsL := As) (rest := rest) (fun sig h => hn.trans (hlen sig h)) hstack hW (by rw [hb]; exact hdg)
    (fun vm₁ hW₁ => ⟨hf.1, hf.2, hp.2 (T.setVm vm₁) hT hW₁⟩)
  dsimp only [Pt.U, Pt.locs, Pt.cells, Pt.slots] at X' e1 e2 h1 h2 h3 st
  subst h1; subst h2; subst h3
  exact ⟨v, (T.setVm vm₁).calling g' mk As.toArray, t, U', L, hT, X', hL, e1, e2, hq, st⟩
/-- not caught here, past rows that name other classes: it goes on to the caller -/
theorem vx_outP {p : Program} {l : Launch} {e : Env} {R : Room} {s : State} {m : MethodId} {args : Array Value} {below : List Frame} {meth : Method} {c : Code} {H : Heap} {locs : List Loc} {cells slots : Nat} {free : Addr → Prop} {ls : Array Slot} {rest : List Value} {Qc : Array Value → State → Outcome → State → Prop} {XC : String → State → State → Prop}
    {pc : Nat} {own E : String} {ce : Cell} {q : Addr} {mc ms : Nat} (hown : s.vm.findClass own = some m.cls) (hlocks : meth.locks = false)
    (hpass : ∀ z ∈ c.exceptionTable.toList, covers z pc = false ∨ (z.catchType ≠ 0 ∧ ∃ nm : String, (Cond.classLink own z.catchType nm).before args s = true ∧ va_Nc E nm s)) (hcell : H[q]? = some ce) (hv : ce.vm = .none) (hcl : s.vm.findClass E = some ce.cls)
    (hx : ∀ t : State, t.heap = H → s.vm.Alike t.vm → XC E s t) (hf : ∀ z ∈ locs, free z.base) (hc : cells ≤ mc) (hs : slots ≤ ms) :
    vx_W p l e R s m args below meth c H locs cells slots (vx_MQ below Qc XC args s mc ms free) (F0 m pc ls rest) q := by
  intro T hT X
  have hpl : e.platform.magicAccessors = ({} : Platform).magicAccessors := by rw [X.admits.platform]
  obtain ⟨vm', hW', X', st⟩ := X.outThrough hlocks q (g := F0 m pc ls rest) rfl rfl rfl (cell := ce) (by rw [hT]; exact hcell) (by rw [hv]; rfl)
    (by obtain ⟨k9, h9, -⟩ := Vm.findClass_spec hcl; exact ⟨k9, h9⟩) (fun z hz => by
      rcases hpass z hz with h | ⟨hz0, nm, hl1, hn1⟩
      · exact Or.inl h
      · obtain ⟨c6, hc6, hcl6⟩ := Cond.classLink_spec hown hl1 e.platform hpl
        obtain ⟨a8, b8, h1, h2, h3⟩ := hn1
        cases Option.some.inj (h1.symm.trans hcl)
        cases Option.some.inj (h2.symm.trans hc6)
        exact Or.inr ⟨hz0, _, hcl6, h3⟩)
  obtain ⟨g₀, hfr⟩ := X'.frames_eq
  have hcell9 : ((T.setVm vm').setFrames (.throwing q :: below)).heap[q]? = some ce := by
    show T.heap[q]? = some ce
    rw [hT]; exact hcell
  have hend : Ended ((T.setVm vm').setFrames (.throwing q :: below)) below (.threw q) := State.frames_setFrames _ (State.cur_lt_of_frames hfr)
  refine ⟨(T.setVm vm').setFrames (.throwing q :: below), ?_, .threw q, X'.here.running, hend, Or.inr ⟨q, rfl, E, ce, locs, hx _ hT (X'.ends _).1.alike, hcell9, hv, hcl, (X'.ends _).1, (X'.ends _).2.mono hc hs, hf⟩⟩
  rw [X.pushThrowing_eq]
  exact st
/-- a thing of a world lies in the heap -/
theorem vx_lt {D : va_G} {cl : List vw_C} {ws : va_W} {H1 : Heap} (h : va_P D cl ws H1) {k : Nat} {q : Nat × va_E} (hk : ws[k]? = some q) : q.1 < H1.size := (h k q hk).lt
end VXS
/-! ===== END ===== -/
/-! ===== BEGIN methods with a table of their own: called by a name, returning or throwing ===== -/
section VXH
/-! vx_backW, vx_callVX, vx_callSX, vx_callVW, vx_runVW, vx_runVX, vx_runSX, vx_ofWH follow the same proofs as their sisters above (Free/Laws.lean, Shelf42/LK1.lean); vx_outP calls Shelf42/NT130.lean (outThrough). -/
section
variable {l : Launch} {R : Room} {p : Program} {e : Env} {below : List Frame} {s : State} {sargs : Array Value} {y : MethodName} {len W9 : Nat}
theorem vx_backW {ws : List Cond} {rm : Room} {Pc : Array Value → State → Prop} {Qc : Array Value → State → Outcome → State → Prop} {XC : String → State → State → Prop} {mc ms : Nat} {free : Addr → Prop} {bytes : ByteArray} {maxL : Nat} {ret : Option FieldType} {hh : List (Nat × Nat × Nat × Nat)}
    (hM : vx_Met l y ws rm Pc Qc XC mc ms free) (hblind : FrameBlind Pc) (hrc : rm.cells = mc) (hrs : rm.slots = ms)
    (hframes : rm.frames + 1 ≤ R.frames) (hlocals : W9 + (maxL + 11) + rm.locals ≤ R.locals)
    (hws : ∀ w ∈ ws, ∀ a' U, s.WarmedH U.vm → w.before a' U = true) (hcode : Cond.codeWith y bytes maxL ret hh ∈ ws) (hinit : ∀ a' U, s.WarmedH U.vm → (Cond.initialized y.cls).before a' U = true) :
    vx_Back l R p e below s sargs y len W9 (PreOf R mc ms Pc) (PostOf Qc mc ms free) (vx_Post XC mc ms free) := by
  intro m meth c A g ig mk a X hg hsize hdg hW hn hp
  have h1 : (headSpec ws rm).pre.before a A.U = true := atoms_intro fun w hw => hws w hw _ _ X.warmed
  have h2 : (Cond.codeWith y bytes maxL ret hh).before a A.U = true := hws _ hcode _ _ X.warmed
  have h3 : (Cond.initialized y.cls).before a A.U = true := hinit _ _ X.warmed
  have h4 : A.cells + (headSpec ws rm).room.cells ≤ R.cells := by rw [show (headSpec ws rm).room.cells = mc from hrc]; exact hp.1
  have h5 : A.slots + (headSpec ws rm).room.slots ≤ R.slots := by rw [show (headSpec ws rm).room.slots = ms from hrs]; exact hp.2.1
  have hPc : Pc a (A.U.calling g mk a) := hblind _ _ _ _ hp.2.2
  obtain ⟨U, Ls, c0, s0⟩ := A
  dsimp only [Pt.U, Pt.locs, Pt.cells, Pt.slots] at h1 h2 h3 h4 h5 X hn hPc ⊢
  obtain ⟨m9, methY, cY, hn9, hmY, hcY, -, hlY, -⟩ := Cond.codeWith_spec h2
  cases Option.some.inj (hn9.symm.trans hn)
  obtain ⟨kY, hkY, -⟩ := className_of_methodNamed hn
  have hinitY : kY.init = .initialized := Cond.initialized_spec (findClass_of_methodNamed hn) hkY h3
  have h : At U g.method c below := by rw [hg]; exact X.here
  have hlocals9 : W9 + (maxL + 11) + (headSpec ws rm).room.locals ≤ R.locals := hlocals
  have happ : (headSpec ws rm).appliesLoose y e.platform (U.calling g mk a) = true :=
    Spec.appliesLoose_calling (g := g) h hdg hn hkY hinitY
      (X.room_calling (g := g) (R' := (headSpec ws rm).room) hsize hmY hcY hframes (by rw [hlY]; omega) h4 h5) h1
  obtain ⟨mid, hmid⟩ := h.above
  have hfr : (U.setTop g).frames = (.java g :: mid) ++ below := by rw [State.frames_setTop' g h.top, hmid]; rfl
  obtain ⟨o, s₂, hsteps, -, hend, hq⟩ := Steps.callFree hM p X.admits X.cas X.clock (acts := []) hfr happ hPc trivial
  have hq' : vx_Q Qc XC mc ms free a (U.calling g mk a) o s₂ := hq
  rw [State.frames_setTop' g h.top] at hend
  obtain ⟨g₀, hg0⟩ := Option.isSome_iff_exists.mp h.top
  obtain ⟨r, hr⟩ := State.topJava?_eq_some.mp hg0
  have hr' : (({ U with heap := s₂.heap, slotsUsed := s₂.slotsUsed } : State).setVm s₂.vm).frames = .java g₀ :: r := hr
  rcases hq' with ⟨hqc, L, hfe, hL⟩ | ⟨q, rfl, E, ce, L, hx, hce, hcv, hcl, hW₂, hsm, hL⟩
  · obtain ⟨⟨v, rfl⟩, hW₂, e2, q2, q3, q4, q5, q6⟩ := id hfe
    have e3 : s₂ = ({ (U.calling g mk a).setFrames s₂.frames with heap := s₂.heap, slotsUsed := s₂.slotsUsed } : State).setVm s₂.vm := by
      have : s₂ = ({ s₂ with vm := (U.calling g mk a).vm } : State).setVm s₂.vm := rfl
      rw [e2] at this
      exact this
    obtain ⟨c₂, i₂, len₂, hc₂, hd₂, hf₂⟩ := hend
    have hW' : U.WarmedH s₂.vm := hW₂
    have hcc : c₂ = c := by
      have h1 : s₂.code? g.method = U.code? g.method := by
        rw [State.code?_eq, State.code?_eq, hW'.alike.method?]
      exact Option.some.inj (hc₂.symm.trans (h1.trans h.code))
    subst hcc
    have hlen : len₂ = len := by rw [hdg] at hd₂; cases hd₂; rfl
    subst hlen
    have hs₂ : s₂ = (({ U with heap := s₂.heap, slotsUsed := s₂.slotsUsed } : State).setVm s₂.vm).setTop { g with pc := g.pc + len₂, stack := v.toList ++ g.stack } := by
      refine e3.trans ?_
      rw [hf₂, State.calling_eq h.top, State.setFrames_setFrames, State.setTop_of_frames _ hr', hr]
      rfl
    have hsame : U.sameButNew ({ U with heap := s₂.heap, slotsUsed := s₂.slotsUsed } : State) L mc ms := by
      refine ⟨?_, q2, q3, q4, q5, q6⟩
      obtain ⟨t, ht, -⟩ := State.frames_cons hr
      show ({ U with heap := s₂.heap, slotsUsed := s₂.slotsUsed } : State) = { U.setFrames U.frames with heap := s₂.heap, slotsUsed := s₂.slotsUsed }
      rw [State.setFrames_self ht]
    subst hg
    refine Or.inl ⟨v, ⟨(({ U with heap := s₂.heap, slotsUsed := s₂.slotsUsed } : State).setVm s₂.vm), Ls ++ L, c0 + mc, s0 + ms⟩,
      ⟨X.admits, X.cas, X.clock, X.frames, X.room, X.hears, X.method, X.code, (X.here.setHeapUsed s₂.heap s₂.slotsUsed).setVm hW'.alike, X.tail, State.WarmedH.trans X.warmed hW', X.limits, X.bytes, X.same.trans (hsame.setVm s.vm)⟩,
      ⟨g, mk, s₂, L, rfl, rfl, hqc, rfl, hL, rfl, rfl⟩, ?_⟩
    show Steps p.tables e below _ ((({ U with heap := s₂.heap, slotsUsed := s₂.slotsUsed } : State).setVm s₂.vm).setTop { g with pc := g.pc + len₂, stack := v.toList ++ g.stack })
    rw [← hs₂]
    exact hsteps
  · obtain ⟨e2, q2, q3, q4, q5, q6⟩ := id hsm
    have e3 : s₂ = ({ (U.calling g mk a).setFrames s₂.frames with heap := s₂.heap, slotsUsed := s₂.slotsUsed } : State).setVm s₂.vm := by
      have : s₂ = ({ s₂ with vm := (U.calling g mk a).vm } : State).setVm s₂.vm := rfl
      rw [e2] at this
      exact this
    have hf₂ : s₂.frames = .throwing q :: .java g :: U.frames.tail := hend
    have hW' : U.WarmedH s₂.vm := hW₂
    have hs₂ : s₂ = ((({ U with heap := s₂.heap, slotsUsed := s₂.slotsUsed } : State).setVm s₂.vm).setTop g).pushFrame (.throwing q) := by
      refine e3.trans ?_
      rw [hf₂, State.calling_eq h.top, State.setFrames_setFrames, State.pushFrame, State.frames_setTop _ hr', State.setTop_of_frames _ hr', State.setFrames_setFrames, hr]
      rfl
    have hsame : U.sameButNew ({ U with heap := s₂.heap, slotsUsed := s₂.slotsUsed } : State) L mc ms := by
      refine ⟨?_, q2, q3, q4, q5, q6⟩
      obtain ⟨t, ht, -⟩ := State.frames_cons hr
      show ({ U with heap := s₂.heap, slotsUsed := s₂.slotsUsed } : State) = { U.setFrames U.frames with heap := s₂.heap, slotsUsed := s₂.slotsUsed }
      rw [State.setFrames_self ht]
    subst hg
    refine Or.inr ⟨q, ⟨(({ U with heap := s₂.heap, slotsUsed := s₂.slotsUsed } : State).setVm s₂.vm), Ls ++ L, c0 + mc, s0 + ms⟩,
      ⟨X.admits, X.cas, X.clock, X.frames, X.room, X.hears, X.method, X.code, (X.here.setHeapUsed s₂.heap s₂.slotsUsed).setVm hW'.alike, X.tail, State.WarmedH.trans X.warmed hW', X.limits, X.bytes, X.same.trans (hsame.setVm s.vm)⟩,
      ⟨g, mk, s₂, L, E, ce, rfl, rfl, hx, hce, hcv, hcl, rfl, hL, rfl, rfl⟩, ?_⟩
    show Steps p.tables e below _ (((({ U with heap := s₂.heap, slotsUsed := s₂.slotsUsed } : State).setVm s₂.vm).setTop g).pushFrame (.throwing q))
    rw [← hs₂]
    exact hsteps
end
variable {p : Program} {l : Launch} {e : Env} {R : Room} {s : State} {m : MethodId} {args : Array Value} {below : List Frame} {meth : Method} {c : Code} {T : State} {H : Heap} {locs : List Loc} {cells slots : Nat}
theorem vx_callVX (X : Stand p l e R s m args below meth c T locs cells slots) (hexec : p.tables.exec = Jvm.exec) {own C : String} {index : Nat} {y : MethodName} {bytes : ByteArray} {maxL : Nat} {ret : Option FieldType} {hh : List (Nat × Nat × Nat × Nat)}
    (hown : s.vm.findClass own = some m.cls) (hlink : (Cond.methodLink own index y).before args s = true) (hinst : (Cond.instanceMethod y).before args s = true) (hsel : (Cond.selects C y y).before args s = true)
    (hcode : (Cond.codeWith y bytes maxL ret hh).before args s = true) (hy : y.cls ≠ "java/lang/invoke/MethodHandle" ∧ y.cls ≠ "java/lang/invoke/VarHandle")
    {W9 : Nat} {Pre : Pt → Array Value → Prop} {Post : Pt → Array Value → Option Value → Pt → Prop} {PostX : Pt → Array Value → Addr → Pt → Prop} (hK : vx_Back l R p e below s args y 3 W9 Pre Post PostX)
    {b : Addr} {cellB : Cell} (hcell : T.heap[b]? = some cellB) (hobj : cellB.vm.isStatics = false) (hcls : s.vm.findClass C = some cellB.cls)
    {g : JFrame} (hg : g.method = m) (hsize : g.locals.size = c.maxLocals) {argsL rest : List Value} (hlen : ∀ sig, parseMethodDescriptor y.desc = some sig → argsL.length = sig.parameters.length)
    (hstack : g.stack = argsL.reverse ++ .ref b :: rest) (hW : 2 * g.monitorRoom + (rest.map fun v => v.category).sum ≤ W9) (hdg : decode c.code g.pc = .ok (.invokevirtual index, 3))
    (hpre : ∀ vm₁, s.WarmedH vm₁ → Pre ⟨T.setVm vm₁, locs, cells, slots⟩ (Value.ref b :: argsL).toArray) :
    (∃ (v : Option Value) (vm₁ : Vm) (B : Pt), s.WarmedH vm₁ ∧ Stand p l e R s m args below meth c B.U B.locs B.cells B.slots ∧ Post ⟨T.setVm vm₁, locs, cells, slots⟩ (Value.ref b :: argsL).toArray v B ∧
      ∀ target, Steps p.tables e below (B.U.setTop { g with pc := g.pc + 3, stack := v.toList ++ rest }) target → Steps p.tables e below (T.setTop g) target) ∨
    (∃ (q : Addr) (vm₁ : Vm) (B : Pt), s.WarmedH vm₁ ∧ Stand p l e R s m args below meth c B.U B.locs B.cells B.slots ∧ PostX ⟨T.setVm vm₁, locs, cells, slots⟩ (Value.ref b :: argsL).toArray q B ∧
      Steps p.tables e below (T.setTop g) ((B.U.setTop { g with stack := rest }).pushFrame (.throwing q))) := by
  obtain ⟨mk, methM, hnamed, hmethM, hstM, habM⟩ := Cond.instanceMethod_spec hinst
  obtain ⟨m8, methM', cM, hn8, hmethM', -, -, -, -, -, -, hsigM⟩ := Cond.codeWith_spec hcode
  cases Option.some.inj (hn8.symm.trans hnamed)
  cases hmethM.symm.trans hmethM'
  obtain ⟨c2, r2, m2, q1, q2, q3, q4, kP, hkP, hkPi⟩ := Cond.selects_spec hsel
  cases hcls.symm.trans q1
  cases (State.methodFound?_of_named hnamed hy).symm.trans q2
  cases hnamed.symm.trans q3
  have hselP : selectMethod e.platform s.vm cellB.cls mk = .method mk := by rw [Launch.admits_selectMethod X.admits]; exact q4
  obtain ⟨vm₁, X₁, hstep₁⟩ := X.invokevirtual hexec hown hlink hnamed hmethM hstM hkP hkPi hy (a := b) (cell := cellB) hcell
    (fun z h => by rw [h] at hobj; cases hobj) hselP hmethM habM hkP hkPi (g := g) hg (argsL := argsL) (rest := rest) (hlen _ hsigM) hstack hdg
  rcases hK m meth c ⟨T.setVm vm₁, locs, cells, slots⟩ { g with stack := rest } (.invokevirtual index) mk (Value.ref b :: argsL).toArray X₁ hg hsize hdg hW (X₁.named hnamed) (hpre vm₁ X₁.warmed) with ⟨v, B, X', hpost, hsteps⟩ | ⟨q, B, X', hpost, hsteps⟩
  · exact Or.inl ⟨v, vm₁, B, X₁.warmed, X', hpost, fun target h => hstep₁ _ fun acts => by rw [doInvoke_state]; exact hsteps.trans h⟩
  · exact Or.inr ⟨q, vm₁, B, X₁.warmed, X', hpost, hstep₁ _ fun acts => by rw [doInvoke_state]; exact hsteps⟩
theorem vx_callSX (X : Stand p l e R s m args below meth c T locs cells slots) (hexec : p.tables.exec = Jvm.exec) {own : String} {index : Nat} {y : MethodName} {bytes : ByteArray} {maxL : Nat} {ret : Option FieldType} {hh : List (Nat × Nat × Nat × Nat)}
    (hown : s.vm.findClass own = some m.cls) (hlink : (Cond.methodLink own index y).before args s = true) (hstat : (Cond.static y).before args s = true) (hinit : (Cond.initialized y.cls).before args s = true)
    (hcode : (Cond.codeWith y bytes maxL ret hh).before args s = true) (hy : y.cls ≠ "java/lang/invoke/MethodHandle" ∧ y.cls ≠ "java/lang/invoke/VarHandle")
    {W9 : Nat} {Pre : Pt → Array Value → Prop} {Post : Pt → Array Value → Option Value → Pt → Prop} {PostX : Pt → Array Value → Addr → Pt → Prop} (hK : vx_Back l R p e below s args y 3 W9 Pre Post PostX)
    {g : JFrame} (hg : g.method = m) (hsize : g.locals.size = c.maxLocals) {argsL rest : List Value} (hlen : ∀ sig, parseMethodDescriptor y.desc = some sig → argsL.length = sig.parameters.length)
    (hstack : g.stack = argsL.reverse ++ rest) (hW : 2 * g.monitorRoom + (rest.map fun v => v.category).sum ≤ W9) (hdg : decode c.code g.pc = .ok (.invokestatic index, 3))
    (hpre : ∀ vm₁, s.WarmedH vm₁ → Pre ⟨T.setVm vm₁, locs, cells, slots⟩ argsL.toArray) :
    (∃ (v : Option Value) (vm₁ : Vm) (B : Pt), s.WarmedH vm₁ ∧ Stand p l e R s m args below meth c B.U B.locs B.cells B.slots ∧ Post ⟨T.setVm vm₁, locs, cells, slots⟩ argsL.toArray v B ∧
      ∀ target, Steps p.tables e below (B.U.setTop { g with pc := g.pc + 3, stack := v.toList ++ rest }) target → Steps p.tables e below (T.setTop g) target) ∨
    (∃ (q : Addr) (vm₁ : Vm) (B : Pt), s.WarmedH vm₁ ∧ Stand p l e R s m args below meth c B.U B.locs B.cells B.slots ∧ PostX ⟨T.setVm vm₁, locs, cells, slots⟩ argsL.toArray q B ∧
      Steps p.tables e below (T.setTop g) ((B.U.setTop { g with stack := rest }).pushFrame (.throwing q))) := by
  obtain ⟨mk, methM, cM, hnamed, hmethM, -, -, -, -, -, -, hsigM⟩ := Cond.codeWith_spec hcode
  have hstatic : methM.isStatic = true := Cond.static_spec hnamed hmethM hstat
  obtain ⟨kP, hkP, -⟩ := className_of_methodNamed hnamed
  have hinitP : kP.init = .initialized := Cond.initialized_spec (findClass_of_methodNamed hnamed) hkP hinit
  obtain ⟨vm₁, X₁, hstep₁⟩ := X.invokestatic hexec hown hlink hnamed hmethM hstatic hkP hinitP hy (g := g) hg (argsL := argsL) (rest := rest) (hlen _ hsigM) hstack hdg
  rcases hK m meth c ⟨T.setVm vm₁, locs, cells, slots⟩ { g with stack := rest } (.invokestatic index) mk argsL.toArray X₁ hg hsize hdg hW (X₁.named hnamed) (hpre vm₁ X₁.warmed) with ⟨v, B, X', hpost, hsteps⟩ | ⟨q, B, X', hpost, hsteps⟩
  · exact Or.inl ⟨v, vm₁, B, X₁.warmed, X', hpost, fun target h => hstep₁ _ fun acts => by rw [doInvoke_state]; exact hsteps.trans h⟩
  · exact Or.inr ⟨q, vm₁, B, X₁.warmed, X', hpost, hstep₁ _ fun acts => by rw [doInvoke_state]; exact hsteps⟩
theorem vx_callVW (X : Stand p l e R s m args below meth c T locs cells slots) (hexec : p.tables.exec = Jvm.exec) {own C : String} {index : Nat} {y : MethodName} {bytes : ByteArray} {maxL : Nat} {ret : Option FieldType} {hh : List (Nat × Nat × Nat × Nat)}
    (hown : s.vm.findClass own = some m.cls) (hlink : (Cond.methodLink own index y).before args s = true) (hinst : (Cond.instanceMethod y).before args s = true) (hsel : (Cond.selects C y y).before args s = true)
    (hcode : (Cond.codeWith y bytes maxL ret hh).before args s = true) (hy : y.cls ≠ "java/lang/invoke/MethodHandle" ∧ y.cls ≠ "java/lang/invoke/VarHandle")
    {W9 : Nat} {Pre : Pt → Array Value → Prop} {Post : Pt → Array Value → Option Value → Pt → Prop} (hK : Back l R p e below s args y 3 W9 Pre Post)
    {b : Addr} {cellB : Cell} (hcell : T.heap[b]? = some cellB) (hobj : cellB.vm.isStatics = false) (hcls : s.vm.findClass C = some cellB.cls)
    {g : JFrame} (hg : g.method = m) (hsize : g.locals.size = c.maxLocals) {argsL rest : List Value} (hlen : ∀ sig, parseMethodDescriptor y.desc = some sig → argsL.length = sig.parameters.length)
    (hstack : g.stack = argsL.reverse ++ .ref b :: rest) (hW : 2 * g.monitorRoom + (rest.map fun v => v.category).sum ≤ W9) (hdg : decode c.code g.pc = .ok (.invokevirtual index, 3))
    (hpre : ∀ vm₁, s.WarmedH vm₁ → Pre ⟨T.setVm vm₁, locs, cells, slots⟩ (Value.ref b :: argsL).toArray) :
    ∃ (v : Option Value) (vm₁ : Vm) (B : Pt), s.WarmedH vm₁ ∧ Stand p l e R s m args below meth c B.U B.locs B.cells B.slots ∧ Post ⟨T.setVm vm₁, locs, cells, slots⟩ (Value.ref b :: argsL).toArray v B ∧
      ∀ target, Steps p.tables e below (B.U.setTop { g with pc := g.pc + 3, stack := v.toList ++ rest }) target → Steps p.tables e below (T.setTop g) target := by
  obtain ⟨mk, methM, hnamed, hmethM, hstM, habM⟩ := Cond.instanceMethod_spec hinst
  obtain ⟨m8, methM', cM, hn8, hmethM', -, -, -, -, -, -, hsigM⟩ := Cond.codeWith_spec hcode
  cases Option.some.inj (hn8.symm.trans hnamed)
  cases hmethM.symm.trans hmethM'
  obtain ⟨c2, r2, m2, q1, q2, q3, q4, kP, hkP, hkPi⟩ := Cond.selects_spec hsel
  cases hcls.symm.trans q1
  cases (State.methodFound?_of_named hnamed hy).symm.trans q2
  cases hnamed.symm.trans q3
  have hselP : selectMethod e.platform s.vm cellB.cls mk = .method mk := by rw [Launch.admits_selectMethod X.admits]; exact q4
  obtain ⟨vm₁, X₁, hstep₁⟩ := X.invokevirtual hexec hown hlink hnamed hmethM hstM hkP hkPi hy (a := b) (cell := cellB) hcell
    (fun z h => by rw [h] at hobj; cases hobj) hselP hmethM habM hkP hkPi (g := g) hg (argsL := argsL) (rest := rest) (hlen _ hsigM) hstack hdg
  obtain ⟨v, B, X', hpost, hsteps⟩ := hK m meth c ⟨T.setVm vm₁, locs, cells, slots⟩ { g with stack := rest } (.invokevirtual index) mk (Value.ref b :: argsL).toArray X₁ hg hsize hdg hW (X₁.named hnamed) (hpre vm₁ X₁.warmed)
  exact ⟨v, vm₁, B, X₁.warmed, X', hpost, fun target h => hstep₁ _ fun acts => by rw [doInvoke_state]; exact hsteps.trans h⟩
abbrev vx_CVW (R : Room) (s : State) (args : Array Value) (own C : String) (index : Nat) (y : MethodName) (bytes : ByteArray) (maxL : Nat) (ret : Option FieldType) (hh : List (Nat × Nat × Nat × Nat)) (ws : List Cond) (rm : Room) (mc ms n : Nat) : Prop :=
  (rm.cells = mc ∧ rm.slots = ms ∧ rm.frames + 1 ≤ R.frames ∧ 8 + (maxL + 11) + rm.locals ≤ R.locals ∧ (∀ w ∈ ws, ∀ (a' : Array Value) (U : State), s.WarmedH U.vm → w.before a' U = true) ∧ Cond.codeWith y bytes maxL ret hh ∈ ws) ∧
  (Cond.codeWith y bytes maxL ret hh).before args s = true ∧ (Cond.initialized y.cls).before args s = true ∧ (y.cls ≠ "java/lang/invoke/MethodHandle" ∧ y.cls ≠ "java/lang/invoke/VarHandle") ∧
  (∀ sig, parseMethodDescriptor y.desc = some sig → n = sig.parameters.length) ∧ (Cond.methodLink own index y).before args s = true ∧ (Cond.instanceMethod y).before args s = true ∧ (Cond.selects C y y).before args s = true
theorem vx_cwVW {own C : String} {index maxL mc ms : Nat} {y : MethodName} {bytes : ByteArray} {ret : Option FieldType} {hh : List (Nat × Nat × Nat × Nat)} {Ts ws ws' : List Cond} {rm : Room} (n : Nat) (ht : ∀ w ∈ Ts, w.before args s = true) (hT : GoodIn Ts (wsV own index C y ws)) (hw : ws = Cond.codeWith y bytes maxL ret hh :: ws') (hrc : rm.cells = mc) (hrs : rm.slots = ms)
    (hd : y.cls = C ∧ y.cls ≠ "java/lang/invoke/MethodHandle" ∧ y.cls ≠ "java/lang/invoke/VarHandle" ∧ (parseMethodDescriptor y.desc).map (fun d => d.parameters.length) = some n) (hR : rm.frames + 1 ≤ R.frames ∧ 8 + (maxL + 11) + rm.locals ≤ R.locals) :
    vx_CVW R s args own C index y bytes maxL ret hh ws rm mc ms n := by
  obtain ⟨hC, hd⟩ := hd
  subst hC
  have ok : ∀ w ∈ wsV own index y.cls y ws, w.before args s = true := fun w h => ht w (hT w h).1
  have hG : GoodIn Ts ws := fun w h => hT w (by unfold wsV; exact List.mem_append_right _ h)
  have hc : Cond.codeWith y bytes maxL ret hh ∈ ws := by rw [hw]; exact List.mem_cons_self
  refine ⟨⟨hrc, hrs, hR.1, hR.2, pay_in ht hG, hc⟩, ht _ (hG _ hc).1, ok _ (by simp [wsV]), ⟨hd.1, hd.2.1⟩, fun sig h => ?_, ok _ (by simp [wsV]), ok _ (by simp [wsV]), ok _ (by simp [wsV])⟩
  have h2 := hd.2.2
  rw [h] at h2
  exact (Option.some.inj h2).symm
theorem vx_runVW {y : MethodName} {bytes cc : ByteArray} {maxL nL mc ms n index : Nat} {ret : Option FieldType} {hh : List (Nat × Nat × Nat × Nat)} {ws : List Cond} {rm : Room} {Pc : Array Value → State → Prop} {Qc : Array Value → State → Outcome → State → Prop} {free : Addr → Prop} {Ts : List Cond} {own C : String} {b : Addr} {As rest : List Value} {g : JFrame}
    (S : CallFix p m c cc nL s args Ts own) (hM : Met l y ws rm Pc Qc mc ms free) (cw : vx_CVW R s args own C index y bytes maxL ret hh ws rm mc ms n) (hp : PreV s H C b Pc As)
    (hg : g.method = m) (hn : As.length = n) (hsize : g.locals.size = nL) (hstack : g.stack = As.reverse ++ .ref b :: rest) (hW : 2 * g.monitorRoom + (rest.map fun v => v.category).sum ≤ 8) (hdg : decode cc g.pc = .ok (.invokevirtual index, 3)) (hf : cells + mc ≤ R.cells ∧ slots + ms ≤ R.slots) :
    va_Run p l e R s m args below meth c H locs cells slots mc ms g rest (Qc (Value.ref b :: As).toArray) free := by
  obtain ⟨⟨hrc, hrs, hfr, hlo, hws, hcw⟩, hcode, hini, hy, hlen, hl, hin, hse⟩ := cw
  have hK : Back l R p e below s args y 3 8 (PreOf R mc ms Pc) (PostOf Qc mc ms free) := va_backW (hh := hh) (bytes := bytes) (maxL := maxL) (ret := ret) hM hp.1 hrc hrs hfr hlo hws hcw (fun a' U hW => word_at hW (Or.inl (by first | rfl | simp [Cond.onTables, Cond.keeps, Cond.steady])) hini)
  obtain ⟨hx, hb, hml, ho, -⟩ := S
  obtain ⟨-, ⟨cellB, hcB, hoB, hclB⟩, hPc⟩ := hp
  intro T hT X
  obtain ⟨v, vm₁, ⟨U', l2, c2, s2⟩, hW₁, X', ⟨g', mk, t, L, e1, e2, hq, h1, hL, h2, h3⟩, st⟩ := vx_callVW X hx (C := C) (hh := hh) (bytes := bytes) (maxL := maxL) (ret := ret) ho hl hin hse hcode hy hK (by rw [hT]; exact hcB) hoB hclB hg (hsize.trans hml.symm) (argsL := As) (rest := rest) (fun sig h => hn.trans (hlen sig h)) hstack hW (by rw [hb]; exact hdg)
    (fun vm₁ hW₁ => ⟨hf.1, hf.2, hPc (T.setVm vm₁) hT hW₁⟩)
  dsimp only [Pt.U, Pt.locs, Pt.cells, Pt.slots] at X' e1 e2 h1 h2 h3 st
  subst h1; subst h2; subst h3
  exact ⟨v, (T.setVm vm₁).calling g' mk (Value.ref b :: As).toArray, t, U', L, hT, X', hL, e1, e2, hq, st⟩
section
variable {y : MethodName} {bytes cc : ByteArray} {maxL nL mc ms n index : Nat} {ret : Option FieldType} {ws : List Cond} {rm : Room} {Pc : Array Value → State → Prop} {Qc : Array Value → State → Outcome → State → Prop} {XC : String → State → State → Prop} {free : Addr → Prop} {Ts : List Cond} {own C : String} {b : Addr} {As rest : List Value} {g : JFrame}
theorem vx_runVX {hh : List (Nat × Nat × Nat × Nat)} (S : CallFix p m c cc nL s args Ts own) (hM : vx_Met l y ws rm Pc Qc XC mc ms free) (cw : vx_CVW R s args own C index y bytes maxL ret hh ws rm mc ms n) (hp : PreV s H C b Pc As)
    (hg : g.method = m) (hn : As.length = n) (hsize : g.locals.size = nL) (hstack : g.stack = As.reverse ++ .ref b :: rest) (hW : 2 * g.monitorRoom + (rest.map fun v => v.category).sum ≤ 8) (hdg : decode cc g.pc = .ok (.invokevirtual index, 3)) (hf : cells + mc ≤ R.cells ∧ slots + ms ≤ R.slots) :
    vx_Run p l e R s m args below meth c H locs cells slots mc ms g rest (Qc (Value.ref b :: As).toArray) XC free := by
  obtain ⟨⟨hrc, hrs, hfr, hlo, hws, hcw⟩, hcode, hini, hy, hlen, hl, hin, hse⟩ := cw
  have hK : vx_Back l R p e below s args y 3 8 (PreOf R mc ms Pc) (PostOf Qc mc ms free) (vx_Post XC mc ms free) := vx_backW (hh := hh) (bytes := bytes) (maxL := maxL) (ret := ret) hM hp.1 hrc hrs hfr hlo hws hcw (fun a' U hW => word_at hW (Or.inl (by first | rfl | simp [Cond.onTables, Cond.keeps, Cond.steady])) hini)
  obtain ⟨hx, hb, hml, ho, -⟩ := S
  obtain ⟨-, ⟨cellB, hcB, hoB, hclB⟩, hPc⟩ := hp
  intro T hT X
  rcases vx_callVX X hx (C := C) (hh := hh) (bytes := bytes) (maxL := maxL) (ret := ret) ho hl hin hse hcode hy hK (by rw [hT]; exact hcB) hoB hclB hg (hsize.trans hml.symm) (argsL := As) (rest := rest) (fun sig h => hn.trans (hlen sig h)) hstack hW (by rw [hb]; exact hdg)
    (fun vm₁ hW₁ => ⟨hf.1, hf.2, hPc (T.setVm vm₁) hT hW₁⟩) with ⟨v, vm₁, ⟨U', l2, c2, s2⟩, hW₁, X', ⟨g', mk, t, L, e1, e2, hq, h1, hL, h2, h3⟩, st⟩ | ⟨q, vm₁, ⟨U', l2, c2, s2⟩, hW₁, X', ⟨g', mk, t, L, E, ce, e1, e2, hq, hce, hcv, hcl, h1, hL, h2, h3⟩, st⟩
  · dsimp only [Pt.U, Pt.locs, Pt.cells, Pt.slots] at X' e1 e2 h1 h2 h3 st
    subst h1; subst h2; subst h3
    exact Or.inl ⟨v, (T.setVm vm₁).calling g' mk (Value.ref b :: As).toArray, t, U', L, hT, X', hL, e1, e2, hq, st⟩
  · dsimp only [Pt.U, Pt.locs, Pt.cells, Pt.slots] at X' e1 e2 h1 h2 h3 st hcl
    subst h1; subst h2; subst h3
    exact Or.inr ⟨q, (T.setVm vm₁).calling g' mk (Value.ref b :: As).toArray, t, U', L, E, ce, hT, X', hL, e1, e2, hq, hce, hcv, vx_cls hW₁ hcl, st⟩
theorem vx_runSX {hh : List (Nat × Nat × Nat × Nat)} (S : CallFix p m c cc nL s args Ts own) (hM : vx_Met l y ws rm Pc Qc XC mc ms free) (cw : vx_CSW R s args own index y bytes maxL ret hh ws rm mc ms n) (hp : PreS s H Pc As)
    (hg : g.method = m) (hn : As.length = n) (hsize : g.locals.size = nL) (hstack : g.stack = As.reverse ++ rest) (hW : 2 * g.monitorRoom + (rest.map fun v => v.category).sum ≤ 8) (hdg : decode cc g.pc = .ok (.invokestatic index, 3)) (hf : cells + mc ≤ R.cells ∧ slots + ms ≤ R.slots) :
    vx_Run p l e R s m args below meth c H locs cells slots mc ms g rest (Qc As.toArray) XC free := by
  obtain ⟨⟨hrc, hrs, hfr, hlo, hws, hcw⟩, hcode, hini, hy, hlen, hl, hstt⟩ := cw
  have hK : vx_Back l R p e below s args y 3 8 (PreOf R mc ms Pc) (PostOf Qc mc ms free) (vx_Post XC mc ms free) := vx_backW (hh := hh) (bytes := bytes) (maxL := maxL) (ret := ret) hM hp.1 hrc hrs hfr hlo hws hcw (fun a' U hW => word_at hW (Or.inl (by first | rfl | simp [Cond.onTables, Cond.keeps, Cond.steady])) hini)
  obtain ⟨hx, hb, hml, ho, -⟩ := S
  intro T hT X
  rcases vx_callSX X hx (hh := hh) (bytes := bytes) (maxL := maxL) (ret := ret) ho hl hstt hini hcode hy hK hg (hsize.trans hml.symm) (argsL := As) (rest := rest) (fun sig h => hn.trans (hlen sig h)) hstack hW (by rw [hb]; exact hdg)
    (fun vm₁ hW₁ => ⟨hf.1, hf.2, hp.2 (T.setVm vm₁) hT hW₁⟩) with ⟨v, vm₁, ⟨U', l2, c2, s2⟩, hW₁, X', ⟨g', mk, t, L, e1, e2, hq, h1, hL, h2, h3⟩, st⟩ | ⟨q, vm₁, ⟨U', l2, c2, s2⟩, hW₁, X', ⟨g', mk, t, L, E, ce, e1, e2, hq, hce, hcv, hcl, h1, hL, h2, h3⟩, st⟩
  · dsimp only [Pt.U, Pt.locs, Pt.cells, Pt.slots] at X' e1 e2 h1 h2 h3 st
    subst h1; subst h2; subst h3
    exact Or.inl ⟨v, (T.setVm vm₁).calling g' mk As.toArray, t, U', L, hT, X', hL, e1, e2, hq, st⟩
  · dsimp only [Pt.U, Pt.locs, Pt.cells, Pt.slots] at X' e1 e2 h1 h2 h3 st hcl
    subst h1; subst h2; subst h3
    exact Or.inr ⟨q, (T.setVm vm₁).calling g' mk As.toArray, t, U', L, E, ce, hT, X', hL, e1, e2, hq, hce, hcv, vx_cls hW₁ hcl, st⟩
end
end VXH
theorem vx_ofWH {l : Launch} {y : MethodName} {ws ws' : List Cond} {rm : Room} {Pc : Array Value → State → Prop} {Qc : Array Value → State → Outcome → State → Prop} {XC : String → State → State → Prop} {mc ms : Nat} {free : Addr → Prop} {cc : ByteArray} {maxL : Nat} {ret : Option FieldType} {hh : List (Nat × Nat × Nat × Nat)}
    (hy : plainName y.cls = true) (hw : ws = Cond.codeWith y cc maxL ret hh :: ws')
    (body : ∀ p e s m args below meth c s₁, BodyLoose p l y (headSpec ws rm) cc maxL ret e s m args below meth c s₁ → c.maxLocals = maxL → Pc args s →
      W p l e (headSpec ws rm).room s m args below meth c s.heap [] 0 0 (vx_MQ below Qc XC args s mc ms free) (entryFrame m args maxL)) : vx_Met l y ws rm Pc Qc XC mc ms free := by
  refine MetFree.of_bodyS (code := cc) (maxLocals := maxL) (ret := ret) hy ?_ ?_
  · intro args s m h hn
    obtain ⟨m9, meth, c, hn9, h1, h2, h3, h4, -, h5, h6, -⟩ := Cond.codeWith_spec (atoms_spec (ws := ws) h _ (by rw [hw]; exact List.mem_cons_self))
    cases hn.symm.trans hn9
    exact ⟨meth, c, h1, h2, h3, h4, h5, h6⟩
  · intro p e s m args below meth c s₁ B hml hP _
    have hh0 : s₁.heap = s.heap := by rw [B.state]; rfl
    obtain ⟨t, a1, o, b1, b2, b3⟩ := body p e s m args below meth c s₁ B hml hP s₁ hh0 (Stand.of_body B)
    exact ⟨t, o, a1, b1, b2, b3⟩
/-! ===== END ===== -/

/-! THE WORDS: all of the tables' words that stay true; every contract of ours has this one list -/
def WU : List Cond := lw_tbl.filter goodWord
theorem wu_of {w : Cond} (h : w ∈ lw_tbl) (g : goodWord w = true) : w ∈ WU := List.mem_filter.mpr ⟨h, g⟩
theorem wu0 (i : Nat) {w : Cond} (h : (k2_sels lw_privs)[i]? = some w) (g : goodWord w = true) : w ∈ WU := wu_of (List.mem_append_left _ (List.mem_of_getElem? h)) g
theorem wu1 (i : Nat) {w : Cond} (h : tables_1_1[i]? = some w) (g : goodWord w = true) : w ∈ WU := wu_of (List.mem_append_right _ (List.mem_append_left _ (List.mem_of_getElem? h))) g
theorem wu2 (i : Nat) {w : Cond} (h : tables_1_2[i]? = some w) (g : goodWord w = true) : w ∈ WU := wu_of (List.mem_append_right _ (List.mem_append_right _ (List.mem_append_left _ (List.mem_of_getElem? h)))) g
theorem wu3 (i : Nat) {w : Cond} (h : tables_1_3[i]? = some w) (g : goodWord w = true) : w ∈ WU := wu_of (List.mem_append_right _ (List.mem_append_right _ (List.mem_append_right _ (List.mem_append_left _ (List.mem_of_getElem? h))))) g
theorem wu4 (i : Nat) {w : Cond} (h : tables_1_4[i]? = some w) (g : goodWord w = true) : w ∈ WU := wu_of (List.mem_append_right _ (List.mem_append_right _ (List.mem_append_right _ (List.mem_append_right _ (List.mem_of_getElem? h))))) g
theorem wu_good {w : Cond} (h : w ∈ WU) : (w.onTables && w.keeps) = true ∨ ∃ ty, w = .arrayClass ty := good_of_word (List.mem_filter.mp h).2
theorem wu_tbl {w : Cond} (h : w ∈ WU) : w ∈ lw_tbl := (List.mem_filter.mp h).1
theorem wu_cons {y : MethodName} {cc : ByteArray} {n : Nat} {ret : Option FieldType} (h : Cond.code y cc n ret ∈ WU) : GoodIn WU (Cond.code y cc n ret :: WU) := fun w hw => (List.mem_cons.mp hw).elim (fun e => by rw [e]; exact ⟨h, wu_good h⟩) (fun q => ⟨q, wu_good q⟩)
theorem wu_consW {y : MethodName} {cc : ByteArray} {n : Nat} {ret : Option FieldType} {hh : List (Nat × Nat × Nat × Nat)} (h : Cond.codeWith y cc n ret hh ∈ WU) : GoodIn WU (Cond.codeWith y cc n ret hh :: WU) := fun w hw => (List.mem_cons.mp hw).elim (fun e => by rw [e]; exact ⟨h, wu_good h⟩) (fun q => ⟨q, wu_good q⟩)
theorem wu_list {big l : List Cond} (h : ∀ w ∈ l, w ∈ WU) (h2 : GoodIn WU big) : GoodIn WU (l ++ big) := fun w hw => (List.mem_append.mp hw).elim (fun q => ⟨h w q, wu_good (h w q)⟩) (h2 w)
/-- the words of a virtual call, of a static one -/
theorem wu_V {own : String} {idx : Nat} {C : String} {y : MethodName} {ws : List Cond} (h1 : Cond.methodLink own idx y ∈ WU) (h2 : Cond.instanceMethod y ∈ WU) (h3 : Cond.selects C y y ∈ WU) (h4 : Cond.initialized C ∈ WU) (h5 : GoodIn WU ws) : GoodIn WU (wsV own idx C y ws) :=
  wu_list (fun w hw => by
    simp only [List.mem_cons, List.not_mem_nil, or_false] at hw
    rcases hw with rfl | rfl | rfl | rfl
    · exact h1
    · exact h2
    · exact h3
    · exact h4) h5
theorem wu_S {own : String} {idx : Nat} {y : MethodName} {ws : List Cond} (h1 : Cond.methodLink own idx y ∈ WU) (h2 : Cond.static y ∈ WU) (h4 : Cond.initialized y.cls ∈ WU) (h5 : GoodIn WU ws) : GoodIn WU (va_wsS own idx y ws) :=
  wu_list (fun w hw => by
    simp only [List.mem_cons, List.not_mem_nil, or_false] at hw
    rcases hw with rfl | rfl | rfl
    · exact h1
    · exact h2
    · exact h4) h5
end
section
def RX0 : String := "EdgeCode$Edition"
def TX0 : u_T := fun k => match k with
  | _ => ("EdgeCode$Edition", "values", "[I", true)
def tyX0 : Nat → FieldType := fun k => match k with
  | _ => .array .int
abbrev wsX00 : List Cond := u_ws RX0 TX0 1
theorem nmX0 : ∀ a, a < 1 → ∀ b, b < 1 → a ≠ b → (TX0 a).2.1 ≠ (TX0 b).2.1 := by decide +kernel
theorem tyX0_ok : ∀ k, k < 1 → parseFieldDescriptor (TX0 k).2.2.1 = some (tyX0 k) := by decide +kernel
abbrev cX0_init : ByteArray := prog_2_method_1_code
def yX0_init : MethodName := ⟨RX0, "<init>", "()V"⟩
abbrev cX0_hasValue : ByteArray := prog_2_method_2_code
def yX0_hasValue : MethodName := ⟨RX0, "hasValue", "(II)Z"⟩
abbrev cX0_valueOf : ByteArray := prog_2_method_3_code
def yX0_valueOf : MethodName := ⟨RX0, "valueOf", "(II)I"⟩
abbrev cX0_replace : ByteArray := prog_2_method_4_code
def yX0_replace : MethodName := ⟨RX0, "replace", "(III)I"⟩
def RX1 : String := "EdgeCode$Element"
def TX1 : u_T := fun k => match k with
  | 0 => ("EdgeCode$Element", "kind", "I", true)
  | 1 => ("EdgeCode$Element", "turns", "I", true)
  | 2 => ("EdgeCode$Element", "isWrongEdge", "Z", true)
  | 3 => ("EdgeCode$Element", "isLate", "Z", true)
  | 4 => ("EdgeCode$Element", "isFall", "Z", true)
  | 5 => ("EdgeCode$Element", "isCounted", "Z", true)
  | 6 => ("EdgeCode$Element", "calls", "LEdgeCode$Votes;", true)
  | _ => ("EdgeCode$Element", "grades", "LEdgeCode$Votes;", true)
def tyX1 : Nat → FieldType := fun k => match k with
  | 0 => .int
  | 1 => .int
  | 2 => .boolean
  | 3 => .boolean
  | 4 => .boolean
  | 5 => .boolean
  | 6 => .object "EdgeCode$Votes"
  | _ => .object "EdgeCode$Votes"
abbrev wsX10 : List Cond := u_ws RX1 TX1 8
theorem nmX1 : ∀ a, a < 8 → ∀ b, b < 8 → a ≠ b → (TX1 a).2.1 ≠ (TX1 b).2.1 := by decide +kernel
theorem tyX1_ok : ∀ k, k < 8 → parseFieldDescriptor (TX1 k).2.2.1 = some (tyX1 k) := by decide +kernel
abbrev cX1_init : ByteArray := prog_3_method_1_code
def yX1_init : MethodName := ⟨RX1, "<init>", "(IIZZZZ)V"⟩
abbrev cX1_quarters : ByteArray := prog_3_method_2_code
def yX1_quarters : MethodName := ⟨RX1, "quarters", "()I"⟩
abbrev cX1_baseBy : ByteArray := prog_3_method_3_code
def yX1_baseBy : MethodName := ⟨RX1, "baseBy", "(LEdgeCode$Edition;)I"⟩
abbrev cX1_scoreBy : ByteArray := prog_3_method_4_code
def yX1_scoreBy : MethodName := ⟨RX1, "scoreBy", "(LEdgeCode$Edition;)I"⟩
def RX2 : String := "EdgeCode$Programme"
def TX2 : u_T := fun k => match k with
  | 0 => ("EdgeCode$Programme", "elements", "[LEdgeCode$Element;", true)
  | 1 => ("EdgeCode$Programme", "components", "[LEdgeCode$Votes;", true)
  | 2 => ("EdgeCode$Programme", "hasBegun", "Z", false)
  | 3 => ("EdgeCode$Programme", "hasEnded", "Z", false)
  | 4 => ("EdgeCode$Programme", "foot", "I", false)
  | 5 => ("EdgeCode$Programme", "edge", "I", false)
  | 6 => ("EdgeCode$Programme", "way", "I", false)
  | 7 => ("EdgeCode$Programme", "seconds", "I", false)
  | 8 => ("EdgeCode$Programme", "count", "I", false)
  | 9 => ("EdgeCode$Programme", "jumps", "I", false)
  | 10 => ("EdgeCode$Programme", "falls", "I", false)
  | _ => ("EdgeCode$Programme", "usedFeatures", "I", false)
def tyX2 : Nat → FieldType := fun k => match k with
  | 0 => .array (.object "EdgeCode$Element")
  | 1 => .array (.object "EdgeCode$Votes")
  | 2 => .boolean
  | 3 => .boolean
  | 4 => .int
  | 5 => .int
  | 6 => .int
  | 7 => .int
  | 8 => .int
  | 9 => .int
  | 10 => .int
  | _ => .int
abbrev wsX20 : List Cond := u_ws RX2 TX2 12
theorem nmX2 : ∀ a, a < 12 → ∀ b, b < 12 → a ≠ b → (TX2 a).2.1 ≠ (TX2 b).2.1 := by decide +kernel
theorem tyX2_ok : ∀ k, k < 12 → parseFieldDescriptor (TX2 k).2.2.1 = some (tyX2 k) := by decide +kernel
abbrev cX2_init : ByteArray := prog_4_method_1_code
def yX2_init : MethodName := ⟨RX2, "<init>", "()V"⟩
abbrev cX2_elementAt : ByteArray := prog_4_method_2_code
def yX2_elementAt : MethodName := ⟨RX2, "elementAt", "(I)LEdgeCode$Element;"⟩
abbrev cX2_componentAt : ByteArray := prog_4_method_3_code
def yX2_componentAt : MethodName := ⟨RX2, "componentAt", "(I)LEdgeCode$Votes;"⟩
abbrev cX2_hasTime : ByteArray := prog_4_method_4_code
def yX2_hasTime : MethodName := ⟨RX2, "hasTime", "()Z"⟩
abbrev cX2_hasRoom : ByteArray := prog_4_method_5_code
def yX2_hasRoom : MethodName := ⟨RX2, "hasRoom", "()Z"⟩
abbrev cX2_skateTurn : ByteArray := prog_4_method_6_code
def yX2_skateTurn : MethodName := ⟨RX2, "skateTurn", "(I)I"⟩
abbrev cX2_canTakeOff : ByteArray := prog_4_method_7_code
def yX2_canTakeOff : MethodName := ⟨RX2, "canTakeOff", "(I)Z"⟩
abbrev cX2_isWrongEdge : ByteArray := prog_4_method_8_code
def yX2_isWrongEdge : MethodName := ⟨RX2, "isWrongEdge", "(I)Z"⟩
abbrev cX2_skateJump : ByteArray := prog_4_method_9_code
def yX2_skateJump : MethodName := ⟨RX2, "skateJump", "(IIZ)I"⟩
abbrev cX2_skateSpin : ByteArray := prog_4_method_10_code
def yX2_skateSpin : MethodName := ⟨RX2, "skateSpin", "(II)I"⟩
abbrev cX2_add : ByteArray := prog_4_method_11_code
def yX2_add : MethodName := ⟨RX2, "add", "(LEdgeCode$Element;)I"⟩
abbrev cX2_landOn : ByteArray := prog_4_method_12_code
def yX2_landOn : MethodName := ⟨RX2, "landOn", "(I)V"⟩
abbrev cX2_likeJumps : ByteArray := prog_4_method_13_code
def yX2_likeJumps : MethodName := ⟨RX2, "likeJumps", "(II)I"⟩
abbrev cX2_elementScoresBy : ByteArray := prog_4_method_14_code
def yX2_elementScoresBy : MethodName := ⟨RX2, "elementScoresBy", "(LEdgeCode$Edition;)I"⟩
abbrev cX2_componentScore : ByteArray := prog_4_method_15_code
def yX2_componentScore : MethodName := ⟨RX2, "componentScore", "(LEdgeCode$Votes;)I"⟩
abbrev cX2_componentScores : ByteArray := prog_4_method_16_code
def yX2_componentScores : MethodName := ⟨RX2, "componentScores", "()I"⟩
abbrev cX2_fine : ByteArray := prog_4_method_17_code
def yX2_fine : MethodName := ⟨RX2, "fine", "()I"⟩
abbrev cX2_totalOf : ByteArray := prog_4_method_18_code
def yX2_totalOf : MethodName := ⟨RX2, "totalOf", "(I)I"⟩
abbrev cX2_isSumRight : ByteArray := prog_4_method_19_code
def yX2_isSumRight : MethodName := ⟨RX2, "isSumRight", "(LEdgeCode$Edition;)Z"⟩
abbrev cX2_addBias : ByteArray := prog_4_method_20_code
def yX2_addBias : MethodName := ⟨RX2, "addBias", "(ID)D"⟩
def RX3 : String := "EdgeCode$Votes"
def TX3 : u_T := fun k => match k with
  | 0 => ("EdgeCode$Votes", "numbers", "[I", true)
  | 1 => ("EdgeCode$Votes", "isTold", "[Z", true)
  | 2 => ("EdgeCode$Votes", "count", "I", false)
  | 3 => ("EdgeCode$Votes", "sum", "I", false)
  | 4 => ("EdgeCode$Votes", "least", "I", false)
  | _ => ("EdgeCode$Votes", "greatest", "I", false)
def tyX3 : Nat → FieldType := fun k => match k with
  | 0 => .array .int
  | 1 => .array .boolean
  | 2 => .int
  | 3 => .int
  | 4 => .int
  | _ => .int
abbrev wsX30 : List Cond := u_ws RX3 TX3 6
theorem nmX3 : ∀ a, a < 6 → ∀ b, b < 6 → a ≠ b → (TX3 a).2.1 ≠ (TX3 b).2.1 := by decide +kernel
theorem tyX3_ok : ∀ k, k < 6 → parseFieldDescriptor (TX3 k).2.2.1 = some (tyX3 k) := by decide +kernel
abbrev cX3_init : ByteArray := prog_5_method_1_code
def yX3_init : MethodName := ⟨RX3, "<init>", "()V"⟩
abbrev cX3_tell : ByteArray := prog_5_method_2_code
def yX3_tell : MethodName := ⟨RX3, "tell", "(II)V"⟩
abbrev cX3_recount : ByteArray := prog_5_method_3_code
def yX3_recount : MethodName := ⟨RX3, "recount", "()V"⟩
abbrev cX3_hasMean : ByteArray := prog_5_method_4_code
def yX3_hasMean : MethodName := ⟨RX3, "hasMean", "()Z"⟩
abbrev cX3_trimmedMean : ByteArray := prog_5_method_5_code
def yX3_trimmedMean : MethodName := ⟨RX3, "trimmedMean", "()D"⟩
abbrev cX3_middle : ByteArray := prog_5_method_6_code
def yX3_middle : MethodName := ⟨RX3, "middle", "()I"⟩
abbrev cX3_hasTold : ByteArray := prog_5_method_7_code
def yX3_hasTold : MethodName := ⟨RX3, "hasTold", "(I)Z"⟩
abbrev cX3_numberOf : ByteArray := prog_5_method_8_code
def yX3_numberOf : MethodName := ⟨RX3, "numberOf", "(I)I"⟩
def RX4 : String := "EdgeCode"
def TX4 : u_T := fun k => match k with
  | 0 => ("EdgeCode", "programmes", "[LEdgeCode$Programme;", true)
  | 1 => ("EdgeCode", "editions", "[LEdgeCode$Edition;", true)
  | 2 => ("EdgeCode", "rankedTotals", "[I", true)
  | 3 => ("EdgeCode", "rankedElementScores", "[I", true)
  | 4 => ("EdgeCode", "skaters", "I", false)
  | _ => ("EdgeCode", "goingOn", "LEdgeCode$Programme;", false)
def tyX4 : Nat → FieldType := fun k => match k with
  | 0 => .array (.object "EdgeCode$Programme")
  | 1 => .array (.object "EdgeCode$Edition")
  | 2 => .array .int
  | 3 => .array .int
  | 4 => .int
  | _ => .object "EdgeCode$Programme"
abbrev wsX40 : List Cond := u_ws RX4 TX4 6
theorem nmX4 : ∀ a, a < 6 → ∀ b, b < 6 → a ≠ b → (TX4 a).2.1 ≠ (TX4 b).2.1 := by decide +kernel
theorem tyX4_ok : ∀ k, k < 6 → parseFieldDescriptor (TX4 k).2.2.1 = some (tyX4 k) := by decide +kernel
abbrev cX4_init : ByteArray := prog_1_method_1_code
def yX4_init : MethodName := ⟨RX4, "<init>", "()V"⟩
abbrev cX4_skater : ByteArray := prog_1_method_2_code
def yX4_skater : MethodName := ⟨RX4, "skater", "()I"⟩
abbrev cX4_begin : ByteArray := prog_1_method_3_code
def yX4_begin : MethodName := ⟨RX4, "begin", "(I)V"⟩
abbrev cX4_turn : ByteArray := prog_1_method_4_code
def yX4_turn : MethodName := ⟨RX4, "turn", "(I)I"⟩
abbrev cX4_jump : ByteArray := prog_1_method_5_code
def yX4_jump : MethodName := ⟨RX4, "jump", "(IIZ)I"⟩
abbrev cX4_spin : ByteArray := prog_1_method_6_code
def yX4_spin : MethodName := ⟨RX4, "spin", "(II)I"⟩
abbrev cX4_end : ByteArray := prog_1_method_7_code
def yX4_end : MethodName := ⟨RX4, "end", "()I"⟩
abbrev cX4_call : ByteArray := prog_1_method_8_code
def yX4_call : MethodName := ⟨RX4, "call", "(III)I"⟩
abbrev cX4_grade : ByteArray := prog_1_method_9_code
def yX4_grade : MethodName := ⟨RX4, "grade", "(IIII)V"⟩
abbrev cX4_component : ByteArray := prog_1_method_10_code
def yX4_component : MethodName := ⟨RX4, "component", "(IIII)V"⟩
abbrev cX4_value : ByteArray := prog_1_method_11_code
def yX4_value : MethodName := ⟨RX4, "value", "(IIII)I"⟩
abbrev cX4_element : ByteArray := prog_1_method_12_code
def yX4_element : MethodName := ⟨RX4, "element", "(IIII)I"⟩
abbrev cX4_programme : ByteArray := prog_1_method_13_code
def yX4_programme : MethodName := ⟨RX4, "programme", "(III)I"⟩
abbrev cX4_starts : ByteArray := prog_1_method_14_code
def yX4_starts : MethodName := ⟨RX4, "starts", "(II)I"⟩
abbrev cX4_bias : ByteArray := prog_1_method_15_code
def yX4_bias : MethodName := ⟨RX4, "bias", "(I)I"⟩
abbrev cX4_addsUp : ByteArray := prog_1_method_16_code
def yX4_addsUp : MethodName := ⟨RX4, "addsUp", "()Z"⟩
abbrev cX4_isIn : ByteArray := prog_1_method_17_code
def yX4_isIn : MethodName := ⟨RX4, "isIn", "(III)Z"⟩
abbrev cX4_nearest : ByteArray := prog_1_method_18_code
def yX4_nearest : MethodName := ⟨RX4, "nearest", "(D)I"⟩
abbrev cX4_programmeOf : ByteArray := prog_1_method_19_code
def yX4_programmeOf : MethodName := ⟨RX4, "programmeOf", "(I)LEdgeCode$Programme;"⟩
abbrev cX4_editionAt : ByteArray := prog_1_method_20_code
def yX4_editionAt : MethodName := ⟨RX4, "editionAt", "(I)LEdgeCode$Edition;"⟩
abbrev cX4_fillRanking : ByteArray := prog_1_method_21_code
def yX4_fillRanking : MethodName := ⟨RX4, "fillRanking", "(LEdgeCode$Edition;)V"⟩
abbrev cX4_isRanked : ByteArray := prog_1_method_22_code
def yX4_isRanked : MethodName := ⟨RX4, "isRanked", "(I)Z"⟩
abbrev cX4_isAhead : ByteArray := prog_1_method_23_code
def yX4_isAhead : MethodName := ⟨RX4, "isAhead", "(II)Z"⟩
abbrev cX4_rankOf : ByteArray := prog_1_method_24_code
def yX4_rankOf : MethodName := ⟨RX4, "rankOf", "(I)I"⟩
abbrev cX4_howManyRanked : ByteArray := prog_1_method_25_code
def yX4_howManyRanked : MethodName := ⟨RX4, "howManyRanked", "()I"⟩
abbrev cX4_skaterOfRank : ByteArray := prog_1_method_26_code
def yX4_skaterOfRank : MethodName := ⟨RX4, "skaterOfRank", "(I)I"⟩
abbrev cX4_unrankedSkater : ByteArray := prog_1_method_27_code
def yX4_unrankedSkater : MethodName := ⟨RX4, "unrankedSkater", "(I)I"⟩
def RX5 : String := "EdgeCodeModel"
def TX5 : u_T := fun k => match k with
  | 0 => ("EdgeCodeModel", "thrown", "I", false)
  | 1 => ("EdgeCodeModel", "many", "I", false)
  | 2 => ("EdgeCodeModel", "going", "I", false)
  | 3 => ("EdgeCodeModel", "foot", "I", false)
  | 4 => ("EdgeCodeModel", "edge", "I", false)
  | 5 => ("EdgeCodeModel", "way", "I", false)
  | 6 => ("EdgeCodeModel", "states", "[I", true)
  | 7 => ("EdgeCodeModel", "seconds", "[I", true)
  | 8 => ("EdgeCodeModel", "elementMany", "[I", true)
  | 9 => ("EdgeCodeModel", "kinds", "[I", true)
  | 10 => ("EdgeCodeModel", "levels", "[I", true)
  | 11 => ("EdgeCodeModel", "features", "[I", true)
  | 12 => ("EdgeCodeModel", "calls", "[I", true)
  | 13 => ("EdgeCodeModel", "isWrong", "[Z", true)
  | 14 => ("EdgeCodeModel", "isLate", "[Z", true)
  | 15 => ("EdgeCodeModel", "hasFall", "[Z", true)
  | 16 => ("EdgeCodeModel", "grades", "[I", true)
  | 17 => ("EdgeCodeModel", "parts", "[I", true)
  | 18 => ("EdgeCodeModel", "values", "[I", true)
  | 19 => ("EdgeCodeModel", "toldMany", "I", false)
  | 20 => ("EdgeCodeModel", "toldSum", "I", false)
  | 21 => ("EdgeCodeModel", "toldLeast", "I", false)
  | _ => ("EdgeCodeModel", "toldGreatest", "I", false)
def tyX5 : Nat → FieldType := fun k => match k with
  | 0 => .int
  | 1 => .int
  | 2 => .int
  | 3 => .int
  | 4 => .int
  | 5 => .int
  | 6 => .array .int
  | 7 => .array .int
  | 8 => .array .int
  | 9 => .array .int
  | 10 => .array .int
  | 11 => .array .int
  | 12 => .array .int
  | 13 => .array .boolean
  | 14 => .array .boolean
  | 15 => .array .boolean
  | 16 => .array .int
  | 17 => .array .int
  | 18 => .array .int
  | 19 => .int
  | 20 => .int
  | 21 => .int
  | _ => .int
abbrev wsX50 : List Cond := u_ws RX5 TX5 23
theorem nmX5 : ∀ a, a < 23 → ∀ b, b < 23 → a ≠ b → (TX5 a).2.1 ≠ (TX5 b).2.1 := by decide +kernel
theorem tyX5_ok : ∀ k, k < 23 → parseFieldDescriptor (TX5 k).2.2.1 = some (tyX5 k) := by decide +kernel
abbrev cX5_init : ByteArray := prog_7_method_1_code
def yX5_init : MethodName := ⟨RX5, "<init>", "()V"⟩
abbrev cX5_sets : ByteArray := prog_7_method_2_code
def yX5_sets : MethodName := ⟨RX5, "sets", "(IIIIII)V"⟩
abbrev cX5_thrown : ByteArray := prog_7_method_3_code
def yX5_thrown : MethodName := ⟨RX5, "thrown", "()I"⟩
abbrev cX5_in : ByteArray := prog_7_method_4_code
def yX5_in : MethodName := ⟨RX5, "in", "(III)Z"⟩
abbrev cX5_isSkater : ByteArray := prog_7_method_5_code
def yX5_isSkater : MethodName := ⟨RX5, "isSkater", "(I)Z"⟩
abbrev cX5_isElement : ByteArray := prog_7_method_6_code
def yX5_isElement : MethodName := ⟨RX5, "isElement", "(II)Z"⟩
abbrev cX5_at : ByteArray := prog_7_method_7_code
def yX5_at : MethodName := ⟨RX5, "at", "(II)I"⟩
abbrev cX5_skater : ByteArray := prog_7_method_8_code
def yX5_skater : MethodName := ⟨RX5, "skater", "()I"⟩
abbrev cX5_begin : ByteArray := prog_7_method_9_code
def yX5_begin : MethodName := ⟨RX5, "begin", "(I)V"⟩
abbrev cX5_stands : ByteArray := prog_7_method_10_code
def yX5_stands : MethodName := ⟨RX5, "stands", "(III)V"⟩
abbrev cX5_isOpen : ByteArray := prog_7_method_11_code
def yX5_isOpen : MethodName := ⟨RX5, "isOpen", "()Z"⟩
abbrev cX5_turn : ByteArray := prog_7_method_12_code
def yX5_turn : MethodName := ⟨RX5, "turn", "(I)I"⟩
abbrev cX5_canTakeOff : ByteArray := prog_7_method_13_code
def yX5_canTakeOff : MethodName := ⟨RX5, "canTakeOff", "(I)Z"⟩
abbrev cX5_jump : ByteArray := prog_7_method_14_code
def yX5_jump : MethodName := ⟨RX5, "jump", "(IIZ)I"⟩
abbrev cX5_spin : ByteArray := prog_7_method_15_code
def yX5_spin : MethodName := ⟨RX5, "spin", "(II)I"⟩
abbrev cX5_end : ByteArray := prog_7_method_16_code
def yX5_end : MethodName := ⟨RX5, "end", "()I"⟩
abbrev cX5_quartersOf : ByteArray := prog_7_method_17_code
def yX5_quartersOf : MethodName := ⟨RX5, "quartersOf", "(I)I"⟩
abbrev cX5_call : ByteArray := prog_7_method_18_code
def yX5_call : MethodName := ⟨RX5, "call", "(III)I"⟩
abbrev cX5_grade : ByteArray := prog_7_method_19_code
def yX5_grade : MethodName := ⟨RX5, "grade", "(IIII)V"⟩
abbrev cX5_component : ByteArray := prog_7_method_20_code
def yX5_component : MethodName := ⟨RX5, "component", "(IIII)V"⟩
abbrev cX5_value : ByteArray := prog_7_method_21_code
def yX5_value : MethodName := ⟨RX5, "value", "(IIII)I"⟩
abbrev cX5_valueAt : ByteArray := prog_7_method_22_code
def yX5_valueAt : MethodName := ⟨RX5, "valueAt", "(III)I"⟩
abbrev cX5_rint : ByteArray := prog_7_method_23_code
def yX5_rint : MethodName := ⟨RX5, "rint", "(D)I"⟩
abbrev cX5_baseOf : ByteArray := prog_7_method_24_code
def yX5_baseOf : MethodName := ⟨RX5, "baseOf", "(III)I"⟩
abbrev cX5_clears : ByteArray := prog_7_method_25_code
def yX5_clears : MethodName := ⟨RX5, "clears", "()V"⟩
abbrev cX5_counts : ByteArray := prog_7_method_26_code
def yX5_counts : MethodName := ⟨RX5, "counts", "(I)V"⟩
abbrev cX5_trimmed : ByteArray := prog_7_method_27_code
def yX5_trimmed : MethodName := ⟨RX5, "trimmed", "()D"⟩
abbrev cX5_meanOf : ByteArray := prog_7_method_28_code
def yX5_meanOf : MethodName := ⟨RX5, "meanOf", "(II)D"⟩
abbrev cX5_scoreOf : ByteArray := prog_7_method_29_code
def yX5_scoreOf : MethodName := ⟨RX5, "scoreOf", "(III)I"⟩
abbrev cX5_elementsOf : ByteArray := prog_7_method_30_code
def yX5_elementsOf : MethodName := ⟨RX5, "elementsOf", "(II)I"⟩
abbrev cX5_componentsOf : ByteArray := prog_7_method_31_code
def yX5_componentsOf : MethodName := ⟨RX5, "componentsOf", "(I)I"⟩
abbrev cX5_fineOf : ByteArray := prog_7_method_32_code
def yX5_fineOf : MethodName := ⟨RX5, "fineOf", "(I)I"⟩
abbrev cX5_totalOf : ByteArray := prog_7_method_33_code
def yX5_totalOf : MethodName := ⟨RX5, "totalOf", "(II)I"⟩
abbrev cX5_isAhead : ByteArray := prog_7_method_34_code
def yX5_isAhead : MethodName := ⟨RX5, "isAhead", "(III)Z"⟩
abbrev cX5_rankOf : ByteArray := prog_7_method_35_code
def yX5_rankOf : MethodName := ⟨RX5, "rankOf", "(II)I"⟩
abbrev cX5_element : ByteArray := prog_7_method_36_code
def yX5_element : MethodName := ⟨RX5, "element", "(IIII)I"⟩
abbrev cX5_programme : ByteArray := prog_7_method_37_code
def yX5_programme : MethodName := ⟨RX5, "programme", "(III)I"⟩
abbrev cX5_starts : ByteArray := prog_7_method_38_code
def yX5_starts : MethodName := ⟨RX5, "starts", "(II)I"⟩
abbrev cX5_bias : ByteArray := prog_7_method_39_code
def yX5_bias : MethodName := ⟨RX5, "bias", "(I)I"⟩
abbrev cX5_addsUp : ByteArray := prog_7_method_40_code
def yX5_addsUp : MethodName := ⟨RX5, "addsUp", "()Z"⟩
def RJx8e188 : String := "java/lang/Cloneable"
def TJx8e188 : u_T := fun k => match k with
  | _ => ("", "", "", false)
def tyJx8e188 : Nat → FieldType := fun k => match k with
  | _ => .int
theorem nmJx8e188 : ∀ a, a < 0 → ∀ b, b < 0 → a ≠ b → (TJx8e188 a).2.1 ≠ (TJx8e188 b).2.1 := by decide +kernel
theorem tyJx8e188_ok : ∀ k, k < 0 → parseFieldDescriptor (TJx8e188 k).2.2.1 = some (tyJx8e188 k) := by decide +kernel
def RJ6 : String := "java/lang/Integer"
def TJ6 : u_T := fun k => match k with
  | _ => ("", "", "", false)
def tyJ6 : Nat → FieldType := fun k => match k with
  | _ => .int
theorem nmJ6 : ∀ a, a < 0 → ∀ b, b < 0 → a ≠ b → (TJ6 a).2.1 ≠ (TJ6 b).2.1 := by decide +kernel
theorem tyJ6_ok : ∀ k, k < 0 → parseFieldDescriptor (TJ6 k).2.2.1 = some (tyJ6 k) := by decide +kernel
abbrev cJ6_bitCount_0f7a4 : ByteArray := prog_13_method_49_code
def yJ6_bitCount_0f7a4 : MethodName := ⟨RJ6, "bitCount", "(I)I"⟩
def RJ9 : String := "java/lang/Math"
def TJ9 : u_T := fun k => match k with
  | _ => ("", "", "", false)
def tyJ9 : Nat → FieldType := fun k => match k with
  | _ => .int
theorem nmJ9 : ∀ a, a < 0 → ∀ b, b < 0 → a ≠ b → (TJ9 a).2.1 ≠ (TJ9 b).2.1 := by decide +kernel
theorem tyJ9_ok : ∀ k, k < 0 → parseFieldDescriptor (TJ9 k).2.2.1 = some (tyJ9 k) := by decide +kernel
abbrev cJ9_max_7cf53 : ByteArray := prog_14_method_65_code
def yJ9_max_7cf53 : MethodName := ⟨RJ9, "max", "(II)I"⟩
abbrev cJ9_min_7cf53 : ByteArray := prog_14_method_69_code
def yJ9_min_7cf53 : MethodName := ⟨RJ9, "min", "(II)I"⟩
def RJ0 : String := "java/lang/String"
def TJ0 : u_T := fun k => match k with
  | _ => ("", "", "", false)
def tyJ0 : Nat → FieldType := fun k => match k with
  | _ => .int
theorem nmJ0 : ∀ a, a < 0 → ∀ b, b < 0 → a ≠ b → (TJ0 a).2.1 ≠ (TJ0 b).2.1 := by decide +kernel
theorem tyJ0_ok : ∀ k, k < 0 → parseFieldDescriptor (TJ0 k).2.2.1 = some (tyJ0 k) := by decide +kernel
def RL : String := "EdgeCodeLaw"
abbrev cL_skater : ByteArray := method_3_code
def yL_skater : MethodName := ⟨RL, "skater", "(LEdgeCode;[J)I"⟩
abbrev cL_begin : ByteArray := method_4_code
def yL_begin : MethodName := ⟨RL, "begin", "(LEdgeCode;I)I"⟩
abbrev cL_turn : ByteArray := method_5_code
def yL_turn : MethodName := ⟨RL, "turn", "(LEdgeCode;I[J)I"⟩
abbrev cL_jump : ByteArray := method_6_code
def yL_jump : MethodName := ⟨RL, "jump", "(LEdgeCode;IIZ[J)I"⟩
abbrev cL_spin : ByteArray := method_7_code
def yL_spin : MethodName := ⟨RL, "spin", "(LEdgeCode;II[J)I"⟩
abbrev cL_end : ByteArray := method_8_code
def yL_end : MethodName := ⟨RL, "end", "(LEdgeCode;[J)I"⟩
abbrev cL_call : ByteArray := method_9_code
def yL_call : MethodName := ⟨RL, "call", "(LEdgeCode;III[J)I"⟩
abbrev cL_grade : ByteArray := method_10_code
def yL_grade : MethodName := ⟨RL, "grade", "(LEdgeCode;IIII)I"⟩
abbrev cL_component : ByteArray := method_11_code
def yL_component : MethodName := ⟨RL, "component", "(LEdgeCode;IIII)I"⟩
abbrev cL_value : ByteArray := method_12_code
def yL_value : MethodName := ⟨RL, "value", "(LEdgeCode;IIII[J)I"⟩
abbrev cL_element : ByteArray := method_13_code
def yL_element : MethodName := ⟨RL, "element", "(LEdgeCode;IIII[J)I"⟩
abbrev cL_programme : ByteArray := method_14_code
def yL_programme : MethodName := ⟨RL, "programme", "(LEdgeCode;III[J)I"⟩
abbrev cL_starts : ByteArray := method_15_code
def yL_starts : MethodName := ⟨RL, "starts", "(LEdgeCode;II[J)I"⟩
abbrev cL_bias : ByteArray := method_16_code
def yL_bias : MethodName := ⟨RL, "bias", "(LEdgeCode;I[J)I"⟩
abbrev cL_law : ByteArray := code
def yL_law : MethodName := ⟨RL, "law", "([I)Z"⟩
abbrev vwCl : List vw_C := [(RX0, TX0, 1), (RX1, TX1, 8), (RX2, TX2, 12), (RX3, TX3, 6), (RX4, TX4, 6), (RX5, TX5, 23)]
end
section
theorem kS_0 : Cond.selects RX2 yX2_componentScore yX2_componentScore ∈ WU := wu0 0 (by decide +kernel) (by decide +kernel)
theorem kS_1 : Cond.selects "java/lang/Throwable" ⟨"java/lang/Throwable", "fillInStackTrace", "(I)Ljava/lang/Throwable;"⟩ ⟨"java/lang/Throwable", "fillInStackTrace", "(I)Ljava/lang/Throwable;"⟩ ∈ WU := wu0 1 (by decide +kernel) (by decide +kernel)
theorem kS_2 : Cond.selects RX4 yX4_programmeOf yX4_programmeOf ∈ WU := wu0 2 (by decide +kernel) (by decide +kernel)
theorem kS_3 : Cond.selects RX2 yX2_isWrongEdge yX2_isWrongEdge ∈ WU := wu0 3 (by decide +kernel) (by decide +kernel)
theorem kS_4 : Cond.selects RX2 yX2_likeJumps yX2_likeJumps ∈ WU := wu0 4 (by decide +kernel) (by decide +kernel)
theorem kS_5 : Cond.selects RX2 yX2_add yX2_add ∈ WU := wu0 5 (by decide +kernel) (by decide +kernel)
theorem kS_6 : Cond.selects RX2 yX2_landOn yX2_landOn ∈ WU := wu0 6 (by decide +kernel) (by decide +kernel)
theorem kS_7 : Cond.selects RX3 yX3_recount yX3_recount ∈ WU := wu0 7 (by decide +kernel) (by decide +kernel)
theorem kS_8 : Cond.selects RX4 yX4_editionAt yX4_editionAt ∈ WU := wu0 8 (by decide +kernel) (by decide +kernel)
theorem kS_9 : Cond.selects RX4 yX4_fillRanking yX4_fillRanking ∈ WU := wu0 9 (by decide +kernel) (by decide +kernel)
theorem kS_10 : Cond.selects RX4 yX4_rankOf yX4_rankOf ∈ WU := wu0 10 (by decide +kernel) (by decide +kernel)
theorem kS_11 : Cond.selects RX4 yX4_isRanked yX4_isRanked ∈ WU := wu0 11 (by decide +kernel) (by decide +kernel)
theorem kS_12 : Cond.selects RX4 yX4_isAhead yX4_isAhead ∈ WU := wu0 12 (by decide +kernel) (by decide +kernel)
theorem kS_13 : Cond.selects RX4 yX4_howManyRanked yX4_howManyRanked ∈ WU := wu0 13 (by decide +kernel) (by decide +kernel)
theorem kS_14 : Cond.selects RX4 yX4_skaterOfRank yX4_skaterOfRank ∈ WU := wu0 14 (by decide +kernel) (by decide +kernel)
theorem kS_15 : Cond.selects RX4 yX4_unrankedSkater yX4_unrankedSkater ∈ WU := wu0 15 (by decide +kernel) (by decide +kernel)
theorem kS_16 : Cond.selects RX5 yX5_sets yX5_sets ∈ WU := wu0 16 (by decide +kernel) (by decide +kernel)
theorem kS_17 : Cond.selects RX5 yX5_isSkater yX5_isSkater ∈ WU := wu0 17 (by decide +kernel) (by decide +kernel)
theorem kS_18 : Cond.selects RX5 yX5_stands yX5_stands ∈ WU := wu0 18 (by decide +kernel) (by decide +kernel)
theorem kS_19 : Cond.selects RX5 yX5_isOpen yX5_isOpen ∈ WU := wu0 19 (by decide +kernel) (by decide +kernel)
theorem kS_20 : Cond.selects RX5 yX5_canTakeOff yX5_canTakeOff ∈ WU := wu0 20 (by decide +kernel) (by decide +kernel)
theorem kS_21 : Cond.selects RX5 yX5_isElement yX5_isElement ∈ WU := wu0 21 (by decide +kernel) (by decide +kernel)
theorem kS_22 : Cond.selects RX5 yX5_quartersOf yX5_quartersOf ∈ WU := wu0 22 (by decide +kernel) (by decide +kernel)
theorem kS_23 : Cond.selects RX5 yX5_baseOf yX5_baseOf ∈ WU := wu0 23 (by decide +kernel) (by decide +kernel)
theorem kS_24 : Cond.selects RX5 yX5_scoreOf yX5_scoreOf ∈ WU := wu0 24 (by decide +kernel) (by decide +kernel)
theorem kS_25 : Cond.selects RX5 yX5_meanOf yX5_meanOf ∈ WU := wu0 25 (by decide +kernel) (by decide +kernel)
theorem kS_26 : Cond.selects RX5 yX5_clears yX5_clears ∈ WU := wu0 26 (by decide +kernel) (by decide +kernel)
theorem kS_27 : Cond.selects RX5 yX5_counts yX5_counts ∈ WU := wu0 27 (by decide +kernel) (by decide +kernel)
theorem kS_28 : Cond.selects RX5 yX5_trimmed yX5_trimmed ∈ WU := wu0 28 (by decide +kernel) (by decide +kernel)
theorem kS_29 : Cond.selects RX5 yX5_elementsOf yX5_elementsOf ∈ WU := wu0 29 (by decide +kernel) (by decide +kernel)
theorem kS_30 : Cond.selects RX5 yX5_componentsOf yX5_componentsOf ∈ WU := wu0 30 (by decide +kernel) (by decide +kernel)
theorem kS_31 : Cond.selects RX5 yX5_fineOf yX5_fineOf ∈ WU := wu0 31 (by decide +kernel) (by decide +kernel)
theorem kS_32 : Cond.selects RX5 yX5_totalOf yX5_totalOf ∈ WU := wu0 32 (by decide +kernel) (by decide +kernel)
theorem kS_33 : Cond.selects RX5 yX5_rankOf yX5_rankOf ∈ WU := wu0 33 (by decide +kernel) (by decide +kernel)
theorem kS_34 : Cond.selects RX5 yX5_isAhead yX5_isAhead ∈ WU := wu0 34 (by decide +kernel) (by decide +kernel)
theorem k1_0 : Cond.initialized RL ∈ WU := wu1 0 (by decide +kernel) (by decide +kernel)
theorem k1_1 : Cond.initialized RX4 ∈ WU := wu1 1 (by decide +kernel) (by decide +kernel)
theorem k1_2 : Cond.initialized RX0 ∈ WU := wu1 2 (by decide +kernel) (by decide +kernel)
theorem k1_3 : Cond.initialized RX5 ∈ WU := wu1 3 (by decide +kernel) (by decide +kernel)
theorem k1_4 : Cond.initialized "java/lang/Throwable" ∈ WU := wu1 4 (by decide +kernel) (by decide +kernel)
theorem k1_5 : Cond.initialized "java/lang/Exception" ∈ WU := wu1 5 (by decide +kernel) (by decide +kernel)
theorem k1_6 : Cond.initialized "java/lang/RuntimeException" ∈ WU := wu1 6 (by decide +kernel) (by decide +kernel)
theorem k1_7 : Cond.initialized "java/lang/IllegalStateException" ∈ WU := wu1 7 (by decide +kernel) (by decide +kernel)
theorem k1_8 : Cond.initialized RX2 ∈ WU := wu1 8 (by decide +kernel) (by decide +kernel)
theorem k1_9 : Cond.initialized RX3 ∈ WU := wu1 9 (by decide +kernel) (by decide +kernel)
theorem k1_10 : Cond.initialized "java/lang/IndexOutOfBoundsException" ∈ WU := wu1 10 (by decide +kernel) (by decide +kernel)
theorem k1_11 : Cond.initialized "java/lang/IllegalArgumentException" ∈ WU := wu1 11 (by decide +kernel) (by decide +kernel)
theorem k1_12 : Cond.initialized RX1 ∈ WU := wu1 12 (by decide +kernel) (by decide +kernel)
theorem k1_13 : Cond.initialized RJ6 ∈ WU := wu1 13 (by decide +kernel) (by decide +kernel)
theorem k1_14 : Cond.initialized RJ9 ∈ WU := wu1 14 (by decide +kernel) (by decide +kernel)
theorem k1_15 : Cond.classLink RL 8 RX4 ∈ WU := wu1 15 (by decide +kernel) (by decide +kernel)
theorem k1_16 : Cond.instantiable RX4 6 ∈ WU := wu1 16 (by decide +kernel) (by decide +kernel)
theorem k1_17 : Cond.methodLink RL 65 yX4_init ∈ WU := wu1 17 (by decide +kernel) (by decide +kernel)
theorem k1_18 : Cond.instanceMethod yX4_init ∈ WU := wu1 18 (by decide +kernel) (by decide +kernel)
theorem k1_19 : Cond.code yX4_init cX4_init 2 none ∈ WU := wu1 19 rfl rfl
theorem k1_20 : Cond.methodLink RX4 1 ⟨"java/lang/Object", "<init>", "()V"⟩ ∈ WU := wu1 20 (by decide +kernel) (by decide +kernel)
theorem k1_21 : Cond.instanceMethod ⟨"java/lang/Object", "<init>", "()V"⟩ ∈ WU := wu1 21 (by decide +kernel) (by decide +kernel)
theorem k1_22 : Cond.code ⟨"java/lang/Object", "<init>", "()V"⟩ object_method_1_code 1 none ∈ WU := wu1 22 rfl rfl
theorem k1_23 : Cond.classLink RX4 9 RX2 ∈ WU := wu1 23 (by decide +kernel) (by decide +kernel)
theorem k1_25 : Cond.classLink RX4 15 RX0 ∈ WU := wu1 25 (by decide +kernel) (by decide +kernel)
theorem k1_27 : Cond.instantiable RX0 1 ∈ WU := wu1 27 (by decide +kernel) (by decide +kernel)
theorem k1_29 : Cond.instanceMethod yX0_init ∈ WU := wu1 29 (by decide +kernel) (by decide +kernel)
theorem k1_30 : Cond.code yX0_init cX0_init 1 none ∈ WU := wu1 30 rfl rfl
theorem k1_31 : Cond.methodLink RX0 3 ⟨"java/lang/Object", "<init>", "()V"⟩ ∈ WU := wu1 31 (by decide +kernel) (by decide +kernel)
theorem k1_34 : Cond.methodLink RX0 13 ⟨"[I", "clone", "()Ljava/lang/Object;"⟩ ∈ WU := wu1 34 (by decide +kernel) (by decide +kernel)
theorem k1_35 : Cond.sameMethod "[I" "java/lang/Object" "clone" "()Ljava/lang/Object;" ∈ WU := wu1 35 (by decide +kernel) (by decide +kernel)
theorem k1_36 : Cond.native ⟨"java/lang/Object", "clone", "()Ljava/lang/Object;"⟩ ∈ WU := wu1 36 (by decide +kernel) (by decide +kernel)
theorem k1_37 : Cond.instanceMethod ⟨"java/lang/Object", "clone", "()Ljava/lang/Object;"⟩ ∈ WU := wu1 37 (by decide +kernel) (by decide +kernel)
theorem k1_38 : Cond.selects "[I" ⟨"[I", "clone", "()Ljava/lang/Object;"⟩ ⟨"java/lang/Object", "clone", "()Ljava/lang/Object;"⟩ ∈ WU := wu1 38 (by decide +kernel) (by decide +kernel)
theorem k1_40 : Cond.classLink RX0 14 "[I" ∈ WU := wu1 40 (by decide +kernel) (by decide +kernel)
theorem k1_41 : Cond.fieldLink RX0 18 "EdgeCode$Edition" "values" "[I" ∈ WU := wu1 41 (by decide +kernel) (by decide +kernel)
theorem k1_42 : Cond.laysFinal RX0 "EdgeCode$Edition" "values" "[I" ∈ WU := wu1 42 (by decide +kernel) (by decide +kernel)
theorem k1_43 : Cond.soleField RX0 "values" ∈ WU := wu1 43 (by decide +kernel) (by decide +kernel)
theorem k1_44 : Cond.superclass RX0 "java/lang/Object" ∈ WU := wu1 44 (by decide +kernel) (by decide +kernel)
theorem k1_45 : Cond.arrayClass .int ∈ WU := wu1 45 (by decide +kernel) (by decide +kernel)
theorem k1_46 : Cond.fieldLink RX4 11 "EdgeCode" "programmes" "[LEdgeCode$Programme;" ∈ WU := wu1 46 (by decide +kernel) (by decide +kernel)
theorem k1_47 : Cond.fieldLink RX4 17 "EdgeCode" "editions" "[LEdgeCode$Edition;" ∈ WU := wu1 47 (by decide +kernel) (by decide +kernel)
theorem k1_48 : Cond.fieldLink RX4 21 "EdgeCode" "rankedTotals" "[I" ∈ WU := wu1 48 (by decide +kernel) (by decide +kernel)
theorem k1_49 : Cond.fieldLink RX4 25 "EdgeCode" "rankedElementScores" "[I" ∈ WU := wu1 49 (by decide +kernel) (by decide +kernel)
theorem k1_50 : Cond.fieldLink RX4 28 "EdgeCode" "skaters" "I" ∈ WU := wu1 50 (by decide +kernel) (by decide +kernel)
theorem k1_51 : Cond.fieldLink RX4 32 "EdgeCode" "goingOn" "LEdgeCode$Programme;" ∈ WU := wu1 51 (by decide +kernel) (by decide +kernel)
theorem k1_52 : Cond.laysFinal RX4 "EdgeCode" "programmes" "[LEdgeCode$Programme;" ∈ WU := wu1 52 (by decide +kernel) (by decide +kernel)
theorem k1_53 : Cond.soleField RX4 "programmes" ∈ WU := wu1 53 (by decide +kernel) (by decide +kernel)
theorem k1_54 : Cond.laysFinal RX4 "EdgeCode" "editions" "[LEdgeCode$Edition;" ∈ WU := wu1 54 (by decide +kernel) (by decide +kernel)
theorem k1_55 : Cond.soleField RX4 "editions" ∈ WU := wu1 55 (by decide +kernel) (by decide +kernel)
theorem k1_56 : Cond.laysFinal RX4 "EdgeCode" "rankedTotals" "[I" ∈ WU := wu1 56 (by decide +kernel) (by decide +kernel)
theorem k1_57 : Cond.soleField RX4 "rankedTotals" ∈ WU := wu1 57 (by decide +kernel) (by decide +kernel)
theorem k1_58 : Cond.laysFinal RX4 "EdgeCode" "rankedElementScores" "[I" ∈ WU := wu1 58 (by decide +kernel) (by decide +kernel)
theorem k1_59 : Cond.soleField RX4 "rankedElementScores" ∈ WU := wu1 59 (by decide +kernel) (by decide +kernel)
theorem k1_60 : Cond.lays RX4 "EdgeCode" "skaters" "I" ∈ WU := wu1 60 (by decide +kernel) (by decide +kernel)
theorem k1_61 : Cond.soleField RX4 "skaters" ∈ WU := wu1 61 (by decide +kernel) (by decide +kernel)
theorem k1_62 : Cond.lays RX4 "EdgeCode" "goingOn" "LEdgeCode$Programme;" ∈ WU := wu1 62 (by decide +kernel) (by decide +kernel)
theorem k1_63 : Cond.soleField RX4 "goingOn" ∈ WU := wu1 63 (by decide +kernel) (by decide +kernel)
theorem k1_64 : Cond.superclass RX4 "java/lang/Object" ∈ WU := wu1 64 (by decide +kernel) (by decide +kernel)
theorem k1_65 : Cond.methodLink RL 124 yX4_addsUp ∈ WU := wu1 65 (by decide +kernel) (by decide +kernel)
theorem k1_66 : Cond.instanceMethod yX4_addsUp ∈ WU := wu1 66 (by decide +kernel) (by decide +kernel)
theorem k1_67 : Cond.selects RX4 yX4_addsUp yX4_addsUp ∈ WU := wu1 67 (by decide +kernel) (by decide +kernel)
theorem k1_68 : Cond.code yX4_addsUp cX4_addsUp 9 (some .boolean) ∈ WU := wu1 68 rfl rfl
theorem k1_69 : Cond.methodLink RX4 236 yX2_isSumRight ∈ WU := wu1 69 (by decide +kernel) (by decide +kernel)
theorem k1_70 : Cond.instanceMethod yX2_isSumRight ∈ WU := wu1 70 (by decide +kernel) (by decide +kernel)
theorem k1_71 : Cond.selects RX2 yX2_isSumRight yX2_isSumRight ∈ WU := wu1 71 (by decide +kernel) (by decide +kernel)
theorem k1_72 : Cond.code yX2_isSumRight cX2_isSumRight 5 (some .boolean) ∈ WU := wu1 72 rfl rfl
theorem k1_73 : Cond.methodLink RX2 96 yX1_scoreBy ∈ WU := wu1 73 (by decide +kernel) (by decide +kernel)
theorem k1_74 : Cond.instanceMethod yX1_scoreBy ∈ WU := wu1 74 (by decide +kernel) (by decide +kernel)
theorem k1_75 : Cond.selects RX1 yX1_scoreBy yX1_scoreBy ∈ WU := wu1 75 (by decide +kernel) (by decide +kernel)
theorem k1_76 : Cond.code yX1_scoreBy cX1_scoreBy 3 (some .int) ∈ WU := wu1 76 rfl rfl
theorem k1_77 : Cond.methodLink RX1 59 yX1_baseBy ∈ WU := wu1 77 (by decide +kernel) (by decide +kernel)
theorem k1_78 : Cond.instanceMethod yX1_baseBy ∈ WU := wu1 78 (by decide +kernel) (by decide +kernel)
theorem k1_79 : Cond.selects RX1 yX1_baseBy yX1_baseBy ∈ WU := wu1 79 (by decide +kernel) (by decide +kernel)
theorem k1_80 : Cond.code yX1_baseBy cX1_baseBy 4 (some .int) ∈ WU := wu1 80 rfl rfl
theorem k1_81 : Cond.methodLink RX1 39 yX3_middle ∈ WU := wu1 81 (by decide +kernel) (by decide +kernel)
theorem k1_82 : Cond.instanceMethod yX3_middle ∈ WU := wu1 82 (by decide +kernel) (by decide +kernel)
theorem k1_83 : Cond.selects RX3 yX3_middle yX3_middle ∈ WU := wu1 83 (by decide +kernel) (by decide +kernel)
theorem k1_84 : Cond.code yX3_middle cX3_middle 1 (some .int) ∈ WU := wu1 84 rfl rfl
theorem k1_85 : Cond.methodLink RX1 43 yX0_valueOf ∈ WU := wu1 85 (by decide +kernel) (by decide +kernel)
theorem k1_86 : Cond.instanceMethod yX0_valueOf ∈ WU := wu1 86 (by decide +kernel) (by decide +kernel)
theorem k1_87 : Cond.selects RX0 yX0_valueOf yX0_valueOf ∈ WU := wu1 87 (by decide +kernel) (by decide +kernel)
theorem k1_88 : Cond.code yX0_valueOf cX0_valueOf 4 (some .int) ∈ WU := wu1 88 rfl rfl
theorem k1_89 : Cond.constantDouble RX1 49 4605380978949069210 ∈ WU := wu1 89 (by decide +kernel) (by decide +kernel)
theorem k1_91 : Cond.static yX4_nearest ∈ WU := wu1 91 (by decide +kernel) (by decide +kernel)
theorem k1_92 : Cond.code yX4_nearest cX4_nearest 6 (some .int) ∈ WU := wu1 92 rfl rfl
theorem k1_93 : Cond.constantDouble RX4 240 4602678819172646912 ∈ WU := wu1 93 (by decide +kernel) (by decide +kernel)
theorem k1_94 : Cond.constantDouble RX4 242 13826050856027422720 ∈ WU := wu1 94 (by decide +kernel) (by decide +kernel)
theorem k1_95 : Cond.constantDouble RX1 57 4607632778762754458 ∈ WU := wu1 95 (by decide +kernel) (by decide +kernel)
theorem k1_96 : Cond.methodLink RX1 63 yX3_trimmedMean ∈ WU := wu1 96 (by decide +kernel) (by decide +kernel)
theorem k1_97 : Cond.instanceMethod yX3_trimmedMean ∈ WU := wu1 97 (by decide +kernel) (by decide +kernel)
theorem k1_98 : Cond.selects RX3 yX3_trimmedMean yX3_trimmedMean ∈ WU := wu1 98 (by decide +kernel) (by decide +kernel)
theorem k1_99 : Cond.code yX3_trimmedMean cX3_trimmedMean 1 (some .double) ∈ WU := wu1 99 rfl rfl
theorem k1_100 : Cond.constantDouble RX1 67 4621819117588971520 ∈ WU := wu1 100 (by decide +kernel) (by decide +kernel)
theorem k1_101 : Cond.methodLink RX2 110 yX2_componentScore ∈ WU := wu1 101 (by decide +kernel) (by decide +kernel)
theorem k1_103 : Cond.instanceMethod yX2_componentScore ∈ WU := wu1 103 (by decide +kernel) (by decide +kernel)
theorem k1_104 : Cond.instantiable RX2 12 ∈ WU := wu1 104 (by decide +kernel) (by decide +kernel)
theorem k1_105 : Cond.code yX2_componentScore cX2_componentScore 2 (some .int) ∈ WU := wu1 105 rfl rfl
theorem k1_106 : Cond.constantDouble RX2 100 4627730092099895296 ∈ WU := wu1 106 (by decide +kernel) (by decide +kernel)
theorem k1_107 : Cond.methodLink RX2 102 yX3_trimmedMean ∈ WU := wu1 107 (by decide +kernel) (by decide +kernel)
theorem k1_109 : Cond.methodLink RX2 121 yX2_fine ∈ WU := wu1 109 (by decide +kernel) (by decide +kernel)
theorem k1_110 : Cond.instanceMethod yX2_fine ∈ WU := wu1 110 (by decide +kernel) (by decide +kernel)
theorem k1_111 : Cond.selects RX2 yX2_fine yX2_fine ∈ WU := wu1 111 (by decide +kernel) (by decide +kernel)
theorem k1_112 : Cond.code yX2_fine cX2_fine 1 (some .int) ∈ WU := wu1 112 rfl rfl
theorem k1_113 : Cond.methodLink RX2 114 yJ9_max_7cf53 ∈ WU := wu1 113 (by decide +kernel) (by decide +kernel)
theorem k1_114 : Cond.static yJ9_max_7cf53 ∈ WU := wu1 114 (by decide +kernel) (by decide +kernel)
theorem k1_115 : Cond.code yJ9_max_7cf53 cJ9_max_7cf53 2 (some .int) ∈ WU := wu1 115 rfl rfl
theorem k1_116 : Cond.methodLink RX2 124 yX2_elementScoresBy ∈ WU := wu1 116 (by decide +kernel) (by decide +kernel)
theorem k1_117 : Cond.instanceMethod yX2_elementScoresBy ∈ WU := wu1 117 (by decide +kernel) (by decide +kernel)
theorem k1_118 : Cond.selects RX2 yX2_elementScoresBy yX2_elementScoresBy ∈ WU := wu1 118 (by decide +kernel) (by decide +kernel)
theorem k1_119 : Cond.code yX2_elementScoresBy cX2_elementScoresBy 7 (some .int) ∈ WU := wu1 119 rfl rfl
theorem k1_120 : Cond.methodLink RX2 127 yX2_totalOf ∈ WU := wu1 120 (by decide +kernel) (by decide +kernel)
theorem k1_121 : Cond.instanceMethod yX2_totalOf ∈ WU := wu1 121 (by decide +kernel) (by decide +kernel)
theorem k1_122 : Cond.selects RX2 yX2_totalOf yX2_totalOf ∈ WU := wu1 122 (by decide +kernel) (by decide +kernel)
theorem k1_123 : Cond.code yX2_totalOf cX2_totalOf 2 (some .int) ∈ WU := wu1 123 rfl rfl
theorem k1_124 : Cond.methodLink RX2 117 yX2_componentScores ∈ WU := wu1 124 (by decide +kernel) (by decide +kernel)
theorem k1_125 : Cond.instanceMethod yX2_componentScores ∈ WU := wu1 125 (by decide +kernel) (by decide +kernel)
theorem k1_126 : Cond.selects RX2 yX2_componentScores yX2_componentScores ∈ WU := wu1 126 (by decide +kernel) (by decide +kernel)
theorem k1_127 : Cond.code yX2_componentScores cX2_componentScores 6 (some .int) ∈ WU := wu1 127 rfl rfl
theorem k1_128 : Cond.methodLink RL 69 yL_skater ∈ WU := wu1 128 (by decide +kernel) (by decide +kernel)
theorem k1_129 : Cond.static yL_skater ∈ WU := wu1 129 (by decide +kernel) (by decide +kernel)
theorem k1_130 : Cond.codeWith yL_skater cL_skater 3 (some .int) [(0, 8, 11, 13)] ∈ WU := wu1 130 rfl rfl
theorem k1_131 : Cond.classLink RL 13 "java/lang/IllegalStateException" ∈ WU := wu1 131 (by decide +kernel) (by decide +kernel)
theorem k1_132 : Cond.methodLink RL 7 yX4_skater ∈ WU := wu1 132 (by decide +kernel) (by decide +kernel)
theorem k1_133 : Cond.instanceMethod yX4_skater ∈ WU := wu1 133 (by decide +kernel) (by decide +kernel)
theorem k1_134 : Cond.selects RX4 yX4_skater yX4_skater ∈ WU := wu1 134 (by decide +kernel) (by decide +kernel)
theorem k1_135 : Cond.code yX4_skater cX4_skater 2 (some .int) ∈ WU := wu1 135 rfl rfl
theorem k1_136 : Cond.classLink RX4 37 "java/lang/IllegalStateException" ∈ WU := wu1 136 (by decide +kernel) (by decide +kernel)
theorem k1_137 : Cond.instantiable "java/lang/IllegalStateException" 6 ∈ WU := wu1 137 (by decide +kernel) (by decide +kernel)
theorem k1_145 : Cond.selects "java/lang/IllegalStateException" ⟨"java/lang/Throwable", "fillInStackTrace", "(I)Ljava/lang/Throwable;"⟩ ⟨"java/lang/Throwable", "fillInStackTrace", "(I)Ljava/lang/Throwable;"⟩ ∈ WU := wu1 145 (by decide +kernel) (by decide +kernel)
theorem k1_146 : Cond.selects "java/lang/IllegalStateException" ⟨"java/lang/Throwable", "fillInStackTrace", "()Ljava/lang/Throwable;"⟩ ⟨"java/lang/Throwable", "fillInStackTrace", "()Ljava/lang/Throwable;"⟩ ∈ WU := wu1 146 (by decide +kernel) (by decide +kernel)
theorem k1_147 : Cond.lays "java/lang/IllegalStateException" "java/lang/Throwable" "cause" "Ljava/lang/Throwable;" ∈ WU := wu1 147 (by decide +kernel) (by decide +kernel)
theorem k1_148 : Cond.lays "java/lang/Throwable" "java/lang/Throwable" "cause" "Ljava/lang/Throwable;" ∈ WU := wu1 148 (by decide +kernel) (by decide +kernel)
theorem k1_149 : Cond.lays "java/lang/IllegalStateException" "java/lang/Throwable" "stackTrace" "[Ljava/lang/StackTraceElement;" ∈ WU := wu1 149 (by decide +kernel) (by decide +kernel)
theorem k1_150 : Cond.lays "java/lang/Throwable" "java/lang/Throwable" "stackTrace" "[Ljava/lang/StackTraceElement;" ∈ WU := wu1 150 (by decide +kernel) (by decide +kernel)
theorem k1_151 : Cond.lays "java/lang/IllegalStateException" "java/lang/Throwable" "suppressedExceptions" "Ljava/util/List;" ∈ WU := wu1 151 (by decide +kernel) (by decide +kernel)
theorem k1_152 : Cond.lays "java/lang/Throwable" "java/lang/Throwable" "suppressedExceptions" "Ljava/util/List;" ∈ WU := wu1 152 (by decide +kernel) (by decide +kernel)
theorem k1_153 : Cond.lays "java/lang/IllegalStateException" "java/lang/Throwable" "detailMessage" "Ljava/lang/String;" ∈ WU := wu1 153 (by decide +kernel) (by decide +kernel)
theorem k1_154 : Cond.lays "java/lang/Throwable" "java/lang/Throwable" "detailMessage" "Ljava/lang/String;" ∈ WU := wu1 154 (by decide +kernel) (by decide +kernel)
theorem k1_155 : Cond.lays "java/lang/IllegalStateException" "java/lang/Throwable" "backtrace" "Ljava/lang/Object;" ∈ WU := wu1 155 (by decide +kernel) (by decide +kernel)
theorem k1_156 : Cond.lays "java/lang/Throwable" "java/lang/Throwable" "backtrace" "Ljava/lang/Object;" ∈ WU := wu1 156 (by decide +kernel) (by decide +kernel)
theorem k1_157 : Cond.fieldLink "java/lang/Throwable" 198 "java/lang/Throwable" "backtrace" "Ljava/lang/Object;" ∈ WU := wu1 157 (by decide +kernel) (by decide +kernel)
theorem k1_158 : Cond.superclass "java/lang/Throwable" "java/lang/Object" ∈ WU := wu1 158 (by decide +kernel) (by decide +kernel)
theorem k1_159 : Cond.instanceMethod ⟨"java/lang/Throwable", "<init>", "()V"⟩ ∈ WU := wu1 159 (by decide +kernel) (by decide +kernel)
theorem k1_160 : Cond.code ⟨"java/lang/Throwable", "<init>", "()V"⟩ prog_17_method_1_code 1 none ∈ WU := wu1 160 rfl rfl
theorem k1_161 : Cond.methodLink "java/lang/Throwable" 1 ⟨"java/lang/Object", "<init>", "()V"⟩ ∈ WU := wu1 161 (by decide +kernel) (by decide +kernel)
theorem k1_162 : Cond.fieldLink "java/lang/Throwable" 13 "java/lang/Throwable" "UNASSIGNED_STACK" "[Ljava/lang/StackTraceElement;" ∈ WU := wu1 162 (by decide +kernel) (by decide +kernel)
theorem k1_164 : Cond.fieldLink "java/lang/Throwable" 20 "java/lang/Throwable" "SUPPRESSED_SENTINEL" "Ljava/util/List;" ∈ WU := wu1 164 (by decide +kernel) (by decide +kernel)
theorem k1_166 : Cond.methodLink "java/lang/Throwable" 27 ⟨"java/lang/Throwable", "fillInStackTrace", "()Ljava/lang/Throwable;"⟩ ∈ WU := wu1 166 (by decide +kernel) (by decide +kernel)
theorem k1_167 : Cond.instanceMethod ⟨"java/lang/Throwable", "fillInStackTrace", "()Ljava/lang/Throwable;"⟩ ∈ WU := wu1 167 (by decide +kernel) (by decide +kernel)
theorem k1_168 : Cond.sameMethod "java/lang/Throwable" "java/lang/Throwable" "fillInStackTrace" "()Ljava/lang/Throwable;" ∈ WU := wu1 168 (by decide +kernel) (by decide +kernel)
theorem k1_169 : Cond.selects "java/lang/IllegalArgumentException" ⟨"java/lang/Throwable", "fillInStackTrace", "()Ljava/lang/Throwable;"⟩ ⟨"java/lang/Throwable", "fillInStackTrace", "()Ljava/lang/Throwable;"⟩ ∈ WU := wu1 169 (by decide +kernel) (by decide +kernel)
theorem k1_170 : Cond.selects "java/lang/IndexOutOfBoundsException" ⟨"java/lang/Throwable", "fillInStackTrace", "()Ljava/lang/Throwable;"⟩ ⟨"java/lang/Throwable", "fillInStackTrace", "()Ljava/lang/Throwable;"⟩ ∈ WU := wu1 170 (by decide +kernel) (by decide +kernel)
theorem k1_171 : Cond.codeSync ⟨"java/lang/Throwable", "fillInStackTrace", "()Ljava/lang/Throwable;"⟩ prog_17_method_18_code 1 (some (.object "java/lang/Throwable")) ∈ WU := wu1 171 rfl rfl
theorem k1_172 : Cond.methodLink "java/lang/Throwable" 202 ⟨"java/lang/Throwable", "fillInStackTrace", "(I)Ljava/lang/Throwable;"⟩ ∈ WU := wu1 172 (by decide +kernel) (by decide +kernel)
theorem k1_174 : Cond.instanceMethod ⟨"java/lang/Throwable", "fillInStackTrace", "(I)Ljava/lang/Throwable;"⟩ ∈ WU := wu1 174 (by decide +kernel) (by decide +kernel)
theorem k1_175 : Cond.instantiable "java/lang/Throwable" 6 ∈ WU := wu1 175 (by decide +kernel) (by decide +kernel)
theorem k1_176 : Cond.native ⟨"java/lang/Throwable", "fillInStackTrace", "(I)Ljava/lang/Throwable;"⟩ ∈ WU := wu1 176 (by decide +kernel) (by decide +kernel)
theorem k1_178 : Cond.methodLink RX4 41 ⟨"java/lang/IllegalStateException", "<init>", "(Ljava/lang/String;)V"⟩ ∈ WU := wu1 178 (by decide +kernel) (by decide +kernel)
theorem k1_179 : Cond.instanceMethod ⟨"java/lang/IllegalStateException", "<init>", "(Ljava/lang/String;)V"⟩ ∈ WU := wu1 179 (by decide +kernel) (by decide +kernel)
theorem k1_180 : Cond.code ⟨"java/lang/IllegalStateException", "<init>", "(Ljava/lang/String;)V"⟩ prog_11_method_2_code 2 none ∈ WU := wu1 180 rfl rfl
theorem k1_181 : Cond.methodLink "java/lang/IllegalStateException" 7 ⟨"java/lang/RuntimeException", "<init>", "(Ljava/lang/String;)V"⟩ ∈ WU := wu1 181 (by decide +kernel) (by decide +kernel)
theorem k1_182 : Cond.instanceMethod ⟨"java/lang/RuntimeException", "<init>", "(Ljava/lang/String;)V"⟩ ∈ WU := wu1 182 (by decide +kernel) (by decide +kernel)
theorem k1_183 : Cond.code ⟨"java/lang/RuntimeException", "<init>", "(Ljava/lang/String;)V"⟩ prog_15_method_2_code 2 none ∈ WU := wu1 183 rfl rfl
theorem k1_184 : Cond.methodLink "java/lang/RuntimeException" 7 ⟨"java/lang/Exception", "<init>", "(Ljava/lang/String;)V"⟩ ∈ WU := wu1 184 (by decide +kernel) (by decide +kernel)
theorem k1_185 : Cond.instanceMethod ⟨"java/lang/Exception", "<init>", "(Ljava/lang/String;)V"⟩ ∈ WU := wu1 185 (by decide +kernel) (by decide +kernel)
theorem k1_186 : Cond.code ⟨"java/lang/Exception", "<init>", "(Ljava/lang/String;)V"⟩ prog_9_method_2_code 2 none ∈ WU := wu1 186 rfl rfl
theorem k1_187 : Cond.methodLink "java/lang/Exception" 7 ⟨"java/lang/Throwable", "<init>", "(Ljava/lang/String;)V"⟩ ∈ WU := wu1 187 (by decide +kernel) (by decide +kernel)
theorem k1_188 : Cond.instanceMethod ⟨"java/lang/Throwable", "<init>", "(Ljava/lang/String;)V"⟩ ∈ WU := wu1 188 (by decide +kernel) (by decide +kernel)
theorem k1_189 : Cond.code ⟨"java/lang/Throwable", "<init>", "(Ljava/lang/String;)V"⟩ prog_17_method_2_code 2 none ∈ WU := wu1 189 rfl rfl
theorem k1_191 : Cond.fieldLink "java/lang/Throwable" 31 "java/lang/Throwable" "detailMessage" "Ljava/lang/String;" ∈ WU := wu1 191 (by decide +kernel) (by decide +kernel)
theorem k1_192 : Cond.fieldLink "java/lang/Throwable" 7 "java/lang/Throwable" "cause" "Ljava/lang/Throwable;" ∈ WU := wu1 192 (by decide +kernel) (by decide +kernel)
theorem k1_193 : Cond.fieldLink "java/lang/Throwable" 17 "java/lang/Throwable" "stackTrace" "[Ljava/lang/StackTraceElement;" ∈ WU := wu1 193 (by decide +kernel) (by decide +kernel)
theorem k1_194 : Cond.fieldLink "java/lang/Throwable" 24 "java/lang/Throwable" "suppressedExceptions" "Ljava/util/List;" ∈ WU := wu1 194 (by decide +kernel) (by decide +kernel)
theorem k1_195 : Cond.soleField "java/lang/Throwable" "backtrace" ∈ WU := wu1 195 (by decide +kernel) (by decide +kernel)
theorem k1_196 : Cond.soleField "java/lang/Throwable" "detailMessage" ∈ WU := wu1 196 (by decide +kernel) (by decide +kernel)
theorem k1_197 : Cond.soleField "java/lang/Throwable" "cause" ∈ WU := wu1 197 (by decide +kernel) (by decide +kernel)
theorem k1_198 : Cond.soleField "java/lang/Throwable" "stackTrace" ∈ WU := wu1 198 (by decide +kernel) (by decide +kernel)
theorem k1_199 : Cond.lays "java/lang/IllegalStateException" "java/lang/Throwable" "depth" "I" ∈ WU := wu1 199 (by decide +kernel) (by decide +kernel)
theorem k1_200 : Cond.soleField "java/lang/Throwable" "depth" ∈ WU := wu1 200 (by decide +kernel) (by decide +kernel)
theorem k1_201 : Cond.soleField "java/lang/Throwable" "suppressedExceptions" ∈ WU := wu1 201 (by decide +kernel) (by decide +kernel)
theorem k1_202 : Cond.superclass "java/lang/IllegalStateException" "java/lang/RuntimeException" ∈ WU := wu1 202 (by decide +kernel) (by decide +kernel)
theorem k1_203 : Cond.arrayClass .byte ∈ WU := wu1 203 (by decide +kernel) (by decide +kernel)
theorem k1_204 : Cond.methodLink RX4 44 yX2_init ∈ WU := wu1 204 (by decide +kernel) (by decide +kernel)
theorem k1_205 : Cond.instanceMethod yX2_init ∈ WU := wu1 205 (by decide +kernel) (by decide +kernel)
theorem k1_206 : Cond.code yX2_init cX2_init 2 none ∈ WU := wu1 206 rfl rfl
theorem k1_207 : Cond.methodLink RX2 3 ⟨"java/lang/Object", "<init>", "()V"⟩ ∈ WU := wu1 207 (by decide +kernel) (by decide +kernel)
theorem k1_208 : Cond.classLink RX2 9 RX1 ∈ WU := wu1 208 (by decide +kernel) (by decide +kernel)
theorem k1_210 : Cond.classLink RX2 17 RX3 ∈ WU := wu1 210 (by decide +kernel) (by decide +kernel)
theorem k1_212 : Cond.instantiable RX3 6 ∈ WU := wu1 212 (by decide +kernel) (by decide +kernel)
theorem k1_214 : Cond.instanceMethod yX3_init ∈ WU := wu1 214 (by decide +kernel) (by decide +kernel)
theorem k1_215 : Cond.code yX3_init cX3_init 1 none ∈ WU := wu1 215 rfl rfl
theorem k1_216 : Cond.methodLink RX3 3 ⟨"java/lang/Object", "<init>", "()V"⟩ ∈ WU := wu1 216 (by decide +kernel) (by decide +kernel)
theorem k1_217 : Cond.fieldLink RX3 9 "EdgeCode$Votes" "numbers" "[I" ∈ WU := wu1 217 (by decide +kernel) (by decide +kernel)
theorem k1_218 : Cond.fieldLink RX3 15 "EdgeCode$Votes" "isTold" "[Z" ∈ WU := wu1 218 (by decide +kernel) (by decide +kernel)
theorem k1_219 : Cond.fieldLink RX3 19 "EdgeCode$Votes" "count" "I" ∈ WU := wu1 219 (by decide +kernel) (by decide +kernel)
theorem k1_220 : Cond.fieldLink RX3 23 "EdgeCode$Votes" "sum" "I" ∈ WU := wu1 220 (by decide +kernel) (by decide +kernel)
theorem k1_221 : Cond.fieldLink RX3 26 "EdgeCode$Votes" "least" "I" ∈ WU := wu1 221 (by decide +kernel) (by decide +kernel)
theorem k1_222 : Cond.fieldLink RX3 29 "EdgeCode$Votes" "greatest" "I" ∈ WU := wu1 222 (by decide +kernel) (by decide +kernel)
theorem k1_223 : Cond.laysFinal RX3 "EdgeCode$Votes" "numbers" "[I" ∈ WU := wu1 223 (by decide +kernel) (by decide +kernel)
theorem k1_224 : Cond.soleField RX3 "numbers" ∈ WU := wu1 224 (by decide +kernel) (by decide +kernel)
theorem k1_225 : Cond.laysFinal RX3 "EdgeCode$Votes" "isTold" "[Z" ∈ WU := wu1 225 (by decide +kernel) (by decide +kernel)
theorem k1_226 : Cond.soleField RX3 "isTold" ∈ WU := wu1 226 (by decide +kernel) (by decide +kernel)
theorem k1_227 : Cond.lays RX3 "EdgeCode$Votes" "count" "I" ∈ WU := wu1 227 (by decide +kernel) (by decide +kernel)
theorem k1_228 : Cond.soleField RX3 "count" ∈ WU := wu1 228 (by decide +kernel) (by decide +kernel)
theorem k1_229 : Cond.lays RX3 "EdgeCode$Votes" "sum" "I" ∈ WU := wu1 229 (by decide +kernel) (by decide +kernel)
theorem k1_230 : Cond.soleField RX3 "sum" ∈ WU := wu1 230 (by decide +kernel) (by decide +kernel)
theorem k1_231 : Cond.lays RX3 "EdgeCode$Votes" "least" "I" ∈ WU := wu1 231 (by decide +kernel) (by decide +kernel)
theorem k1_232 : Cond.soleField RX3 "least" ∈ WU := wu1 232 (by decide +kernel) (by decide +kernel)
theorem k1_233 : Cond.lays RX3 "EdgeCode$Votes" "greatest" "I" ∈ WU := wu1 233 (by decide +kernel) (by decide +kernel)
theorem k1_234 : Cond.soleField RX3 "greatest" ∈ WU := wu1 234 (by decide +kernel) (by decide +kernel)
theorem k1_235 : Cond.superclass RX3 "java/lang/Object" ∈ WU := wu1 235 (by decide +kernel) (by decide +kernel)
theorem k1_236 : Cond.arrayClass .boolean ∈ WU := wu1 236 (by decide +kernel) (by decide +kernel)
theorem k1_237 : Cond.fieldLink RX2 11 "EdgeCode$Programme" "elements" "[LEdgeCode$Element;" ∈ WU := wu1 237 (by decide +kernel) (by decide +kernel)
theorem k1_238 : Cond.fieldLink RX2 19 "EdgeCode$Programme" "components" "[LEdgeCode$Votes;" ∈ WU := wu1 238 (by decide +kernel) (by decide +kernel)
theorem k1_239 : Cond.fieldLink RX2 23 "EdgeCode$Programme" "hasBegun" "Z" ∈ WU := wu1 239 (by decide +kernel) (by decide +kernel)
theorem k2_1 : Cond.fieldLink RX2 27 "EdgeCode$Programme" "hasEnded" "Z" ∈ WU := wu2 1 (by decide +kernel) (by decide +kernel)
theorem k2_3 : Cond.fieldLink RX2 30 "EdgeCode$Programme" "foot" "I" ∈ WU := wu2 3 (by decide +kernel) (by decide +kernel)
theorem k2_4 : Cond.fieldLink RX2 34 "EdgeCode$Programme" "edge" "I" ∈ WU := wu2 4 (by decide +kernel) (by decide +kernel)
theorem k2_5 : Cond.fieldLink RX2 37 "EdgeCode$Programme" "way" "I" ∈ WU := wu2 5 (by decide +kernel) (by decide +kernel)
theorem k2_6 : Cond.fieldLink RX2 40 "EdgeCode$Programme" "seconds" "I" ∈ WU := wu2 6 (by decide +kernel) (by decide +kernel)
theorem k2_8 : Cond.fieldLink RX2 43 "EdgeCode$Programme" "count" "I" ∈ WU := wu2 8 (by decide +kernel) (by decide +kernel)
theorem k2_10 : Cond.fieldLink RX2 46 "EdgeCode$Programme" "jumps" "I" ∈ WU := wu2 10 (by decide +kernel) (by decide +kernel)
theorem k2_11 : Cond.fieldLink RX2 49 "EdgeCode$Programme" "falls" "I" ∈ WU := wu2 11 (by decide +kernel) (by decide +kernel)
theorem k2_12 : Cond.fieldLink RX2 52 "EdgeCode$Programme" "usedFeatures" "I" ∈ WU := wu2 12 (by decide +kernel) (by decide +kernel)
theorem k2_13 : Cond.laysFinal RX2 "EdgeCode$Programme" "elements" "[LEdgeCode$Element;" ∈ WU := wu2 13 (by decide +kernel) (by decide +kernel)
theorem k2_14 : Cond.soleField RX2 "elements" ∈ WU := wu2 14 (by decide +kernel) (by decide +kernel)
theorem k2_15 : Cond.laysFinal RX2 "EdgeCode$Programme" "components" "[LEdgeCode$Votes;" ∈ WU := wu2 15 (by decide +kernel) (by decide +kernel)
theorem k2_16 : Cond.soleField RX2 "components" ∈ WU := wu2 16 (by decide +kernel) (by decide +kernel)
theorem k2_17 : Cond.lays RX2 "EdgeCode$Programme" "hasBegun" "Z" ∈ WU := wu2 17 (by decide +kernel) (by decide +kernel)
theorem k2_18 : Cond.soleField RX2 "hasBegun" ∈ WU := wu2 18 (by decide +kernel) (by decide +kernel)
theorem k2_19 : Cond.lays RX2 "EdgeCode$Programme" "hasEnded" "Z" ∈ WU := wu2 19 (by decide +kernel) (by decide +kernel)
theorem k2_20 : Cond.soleField RX2 "hasEnded" ∈ WU := wu2 20 (by decide +kernel) (by decide +kernel)
theorem k2_21 : Cond.lays RX2 "EdgeCode$Programme" "foot" "I" ∈ WU := wu2 21 (by decide +kernel) (by decide +kernel)
theorem k2_22 : Cond.soleField RX2 "foot" ∈ WU := wu2 22 (by decide +kernel) (by decide +kernel)
theorem k2_23 : Cond.lays RX2 "EdgeCode$Programme" "edge" "I" ∈ WU := wu2 23 (by decide +kernel) (by decide +kernel)
theorem k2_24 : Cond.soleField RX2 "edge" ∈ WU := wu2 24 (by decide +kernel) (by decide +kernel)
theorem k2_25 : Cond.lays RX2 "EdgeCode$Programme" "way" "I" ∈ WU := wu2 25 (by decide +kernel) (by decide +kernel)
theorem k2_26 : Cond.soleField RX2 "way" ∈ WU := wu2 26 (by decide +kernel) (by decide +kernel)
theorem k2_27 : Cond.lays RX2 "EdgeCode$Programme" "seconds" "I" ∈ WU := wu2 27 (by decide +kernel) (by decide +kernel)
theorem k2_28 : Cond.soleField RX2 "seconds" ∈ WU := wu2 28 (by decide +kernel) (by decide +kernel)
theorem k2_29 : Cond.lays RX2 "EdgeCode$Programme" "count" "I" ∈ WU := wu2 29 (by decide +kernel) (by decide +kernel)
theorem k2_30 : Cond.soleField RX2 "count" ∈ WU := wu2 30 (by decide +kernel) (by decide +kernel)
theorem k2_31 : Cond.lays RX2 "EdgeCode$Programme" "jumps" "I" ∈ WU := wu2 31 (by decide +kernel) (by decide +kernel)
theorem k2_32 : Cond.soleField RX2 "jumps" ∈ WU := wu2 32 (by decide +kernel) (by decide +kernel)
theorem k2_33 : Cond.lays RX2 "EdgeCode$Programme" "falls" "I" ∈ WU := wu2 33 (by decide +kernel) (by decide +kernel)
theorem k2_34 : Cond.soleField RX2 "falls" ∈ WU := wu2 34 (by decide +kernel) (by decide +kernel)
theorem k2_35 : Cond.lays RX2 "EdgeCode$Programme" "usedFeatures" "I" ∈ WU := wu2 35 (by decide +kernel) (by decide +kernel)
theorem k2_36 : Cond.soleField RX2 "usedFeatures" ∈ WU := wu2 36 (by decide +kernel) (by decide +kernel)
theorem k2_37 : Cond.superclass RX2 "java/lang/Object" ∈ WU := wu2 37 (by decide +kernel) (by decide +kernel)
theorem k2_38 : Cond.methodLink RL 78 yL_begin ∈ WU := wu2 38 (by decide +kernel) (by decide +kernel)
theorem k2_39 : Cond.static yL_begin ∈ WU := wu2 39 (by decide +kernel) (by decide +kernel)
theorem k2_40 : Cond.codeWith yL_begin cL_begin 3 (some .int) [(0, 5, 8, 19), (0, 5, 11, 13)] ∈ WU := wu2 40 rfl rfl
theorem k2_41 : Cond.classLink RL 19 "java/lang/IndexOutOfBoundsException" ∈ WU := wu2 41 (by decide +kernel) (by decide +kernel)
theorem k2_42 : Cond.methodLink RL 15 yX4_begin ∈ WU := wu2 42 (by decide +kernel) (by decide +kernel)
theorem k2_43 : Cond.instanceMethod yX4_begin ∈ WU := wu2 43 (by decide +kernel) (by decide +kernel)
theorem k2_44 : Cond.selects RX4 yX4_begin yX4_begin ∈ WU := wu2 44 (by decide +kernel) (by decide +kernel)
theorem k2_45 : Cond.code yX4_begin cX4_begin 3 none ∈ WU := wu2 45 rfl rfl
theorem k2_46 : Cond.methodLink RX4 45 yX4_programmeOf ∈ WU := wu2 46 (by decide +kernel) (by decide +kernel)
theorem k2_48 : Cond.instanceMethod yX4_programmeOf ∈ WU := wu2 48 (by decide +kernel) (by decide +kernel)
theorem k2_49 : Cond.code yX4_programmeOf cX4_programmeOf 2 (some (.object "EdgeCode$Programme")) ∈ WU := wu2 49 rfl rfl
theorem k2_50 : Cond.classLink RX4 49 "java/lang/IndexOutOfBoundsException" ∈ WU := wu2 50 (by decide +kernel) (by decide +kernel)
theorem k2_51 : Cond.instantiable "java/lang/IndexOutOfBoundsException" 6 ∈ WU := wu2 51 (by decide +kernel) (by decide +kernel)
theorem k2_53 : Cond.selects "java/lang/IndexOutOfBoundsException" ⟨"java/lang/Throwable", "fillInStackTrace", "(I)Ljava/lang/Throwable;"⟩ ⟨"java/lang/Throwable", "fillInStackTrace", "(I)Ljava/lang/Throwable;"⟩ ∈ WU := wu2 53 (by decide +kernel) (by decide +kernel)
theorem k2_54 : Cond.lays "java/lang/IndexOutOfBoundsException" "java/lang/Throwable" "cause" "Ljava/lang/Throwable;" ∈ WU := wu2 54 (by decide +kernel) (by decide +kernel)
theorem k2_55 : Cond.lays "java/lang/IndexOutOfBoundsException" "java/lang/Throwable" "stackTrace" "[Ljava/lang/StackTraceElement;" ∈ WU := wu2 55 (by decide +kernel) (by decide +kernel)
theorem k2_56 : Cond.lays "java/lang/IndexOutOfBoundsException" "java/lang/Throwable" "suppressedExceptions" "Ljava/util/List;" ∈ WU := wu2 56 (by decide +kernel) (by decide +kernel)
theorem k2_57 : Cond.lays "java/lang/IndexOutOfBoundsException" "java/lang/Throwable" "detailMessage" "Ljava/lang/String;" ∈ WU := wu2 57 (by decide +kernel) (by decide +kernel)
theorem k2_58 : Cond.lays "java/lang/IndexOutOfBoundsException" "java/lang/Throwable" "backtrace" "Ljava/lang/Object;" ∈ WU := wu2 58 (by decide +kernel) (by decide +kernel)
theorem k2_60 : Cond.methodLink RX4 53 ⟨"java/lang/IndexOutOfBoundsException", "<init>", "(Ljava/lang/String;)V"⟩ ∈ WU := wu2 60 (by decide +kernel) (by decide +kernel)
theorem k2_61 : Cond.instanceMethod ⟨"java/lang/IndexOutOfBoundsException", "<init>", "(Ljava/lang/String;)V"⟩ ∈ WU := wu2 61 (by decide +kernel) (by decide +kernel)
theorem k2_62 : Cond.code ⟨"java/lang/IndexOutOfBoundsException", "<init>", "(Ljava/lang/String;)V"⟩ prog_12_method_2_code 2 none ∈ WU := wu2 62 rfl rfl
theorem k2_63 : Cond.methodLink "java/lang/IndexOutOfBoundsException" 7 ⟨"java/lang/RuntimeException", "<init>", "(Ljava/lang/String;)V"⟩ ∈ WU := wu2 63 (by decide +kernel) (by decide +kernel)
theorem k2_64 : Cond.lays "java/lang/IndexOutOfBoundsException" "java/lang/Throwable" "depth" "I" ∈ WU := wu2 64 (by decide +kernel) (by decide +kernel)
theorem k2_65 : Cond.superclass "java/lang/IndexOutOfBoundsException" "java/lang/RuntimeException" ∈ WU := wu2 65 (by decide +kernel) (by decide +kernel)
theorem k2_67 : Cond.methodLink RL 82 yL_turn ∈ WU := wu2 67 (by decide +kernel) (by decide +kernel)
theorem k2_68 : Cond.static yL_turn ∈ WU := wu2 68 (by decide +kernel) (by decide +kernel)
theorem k2_69 : Cond.codeWith yL_turn cL_turn 4 (some .int) [(0, 9, 12, 25), (0, 9, 15, 13)] ∈ WU := wu2 69 rfl rfl
theorem k2_70 : Cond.classLink RL 25 "java/lang/IllegalArgumentException" ∈ WU := wu2 70 (by decide +kernel) (by decide +kernel)
theorem k2_71 : Cond.methodLink RL 21 yX4_turn ∈ WU := wu2 71 (by decide +kernel) (by decide +kernel)
theorem k2_72 : Cond.instanceMethod yX4_turn ∈ WU := wu2 72 (by decide +kernel) (by decide +kernel)
theorem k2_73 : Cond.selects RX4 yX4_turn yX4_turn ∈ WU := wu2 73 (by decide +kernel) (by decide +kernel)
theorem k2_74 : Cond.code yX4_turn cX4_turn 2 (some .int) ∈ WU := wu2 74 rfl rfl
theorem k2_75 : Cond.methodLink RX4 60 yX4_isIn ∈ WU := wu2 75 (by decide +kernel) (by decide +kernel)
theorem k2_76 : Cond.static yX4_isIn ∈ WU := wu2 76 (by decide +kernel) (by decide +kernel)
theorem k2_77 : Cond.code yX4_isIn cX4_isIn 3 (some .boolean) ∈ WU := wu2 77 rfl rfl
theorem k2_78 : Cond.classLink RX4 64 "java/lang/IllegalArgumentException" ∈ WU := wu2 78 (by decide +kernel) (by decide +kernel)
theorem k2_79 : Cond.instantiable "java/lang/IllegalArgumentException" 6 ∈ WU := wu2 79 (by decide +kernel) (by decide +kernel)
theorem k2_81 : Cond.selects "java/lang/IllegalArgumentException" ⟨"java/lang/Throwable", "fillInStackTrace", "(I)Ljava/lang/Throwable;"⟩ ⟨"java/lang/Throwable", "fillInStackTrace", "(I)Ljava/lang/Throwable;"⟩ ∈ WU := wu2 81 (by decide +kernel) (by decide +kernel)
theorem k2_82 : Cond.lays "java/lang/IllegalArgumentException" "java/lang/Throwable" "cause" "Ljava/lang/Throwable;" ∈ WU := wu2 82 (by decide +kernel) (by decide +kernel)
theorem k2_83 : Cond.lays "java/lang/IllegalArgumentException" "java/lang/Throwable" "stackTrace" "[Ljava/lang/StackTraceElement;" ∈ WU := wu2 83 (by decide +kernel) (by decide +kernel)
theorem k2_84 : Cond.lays "java/lang/IllegalArgumentException" "java/lang/Throwable" "suppressedExceptions" "Ljava/util/List;" ∈ WU := wu2 84 (by decide +kernel) (by decide +kernel)
theorem k2_85 : Cond.lays "java/lang/IllegalArgumentException" "java/lang/Throwable" "detailMessage" "Ljava/lang/String;" ∈ WU := wu2 85 (by decide +kernel) (by decide +kernel)
theorem k2_86 : Cond.lays "java/lang/IllegalArgumentException" "java/lang/Throwable" "backtrace" "Ljava/lang/Object;" ∈ WU := wu2 86 (by decide +kernel) (by decide +kernel)
theorem k2_88 : Cond.methodLink RX4 68 ⟨"java/lang/IllegalArgumentException", "<init>", "(Ljava/lang/String;)V"⟩ ∈ WU := wu2 88 (by decide +kernel) (by decide +kernel)
theorem k2_89 : Cond.instanceMethod ⟨"java/lang/IllegalArgumentException", "<init>", "(Ljava/lang/String;)V"⟩ ∈ WU := wu2 89 (by decide +kernel) (by decide +kernel)
theorem k2_90 : Cond.code ⟨"java/lang/IllegalArgumentException", "<init>", "(Ljava/lang/String;)V"⟩ prog_10_method_2_code 2 none ∈ WU := wu2 90 rfl rfl
theorem k2_91 : Cond.methodLink "java/lang/IllegalArgumentException" 7 ⟨"java/lang/RuntimeException", "<init>", "(Ljava/lang/String;)V"⟩ ∈ WU := wu2 91 (by decide +kernel) (by decide +kernel)
theorem k2_92 : Cond.lays "java/lang/IllegalArgumentException" "java/lang/Throwable" "depth" "I" ∈ WU := wu2 92 (by decide +kernel) (by decide +kernel)
theorem k2_93 : Cond.superclass "java/lang/IllegalArgumentException" "java/lang/RuntimeException" ∈ WU := wu2 93 (by decide +kernel) (by decide +kernel)
theorem k2_94 : Cond.methodLink RX4 69 yX2_hasTime ∈ WU := wu2 94 (by decide +kernel) (by decide +kernel)
theorem k2_95 : Cond.instanceMethod yX2_hasTime ∈ WU := wu2 95 (by decide +kernel) (by decide +kernel)
theorem k2_96 : Cond.selects RX2 yX2_hasTime yX2_hasTime ∈ WU := wu2 96 (by decide +kernel) (by decide +kernel)
theorem k2_97 : Cond.code yX2_hasTime cX2_hasTime 1 (some .boolean) ∈ WU := wu2 97 rfl rfl
theorem k2_99 : Cond.methodLink RX4 75 yX2_skateTurn ∈ WU := wu2 99 (by decide +kernel) (by decide +kernel)
theorem k2_100 : Cond.instanceMethod yX2_skateTurn ∈ WU := wu2 100 (by decide +kernel) (by decide +kernel)
theorem k2_101 : Cond.selects RX2 yX2_skateTurn yX2_skateTurn ∈ WU := wu2 101 (by decide +kernel) (by decide +kernel)
theorem k2_102 : Cond.code yX2_skateTurn cX2_skateTurn 2 (some .int) ∈ WU := wu2 102 rfl rfl
theorem k2_103 : Cond.methodLink RL 86 yL_jump ∈ WU := wu2 103 (by decide +kernel) (by decide +kernel)
theorem k2_104 : Cond.static yL_jump ∈ WU := wu2 104 (by decide +kernel) (by decide +kernel)
theorem k2_105 : Cond.codeWith yL_jump cL_jump 6 (some .int) [(0, 12, 15, 25), (0, 12, 19, 13)] ∈ WU := wu2 105 rfl rfl
theorem k2_106 : Cond.methodLink RL 27 yX4_jump ∈ WU := wu2 106 (by decide +kernel) (by decide +kernel)
theorem k2_107 : Cond.instanceMethod yX4_jump ∈ WU := wu2 107 (by decide +kernel) (by decide +kernel)
theorem k2_108 : Cond.selects RX4 yX4_jump yX4_jump ∈ WU := wu2 108 (by decide +kernel) (by decide +kernel)
theorem k2_109 : Cond.code yX4_jump cX4_jump 4 (some .int) ∈ WU := wu2 109 rfl rfl
theorem k2_111 : Cond.methodLink RX4 81 yX2_hasRoom ∈ WU := wu2 111 (by decide +kernel) (by decide +kernel)
theorem k2_112 : Cond.instanceMethod yX2_hasRoom ∈ WU := wu2 112 (by decide +kernel) (by decide +kernel)
theorem k2_113 : Cond.selects RX2 yX2_hasRoom yX2_hasRoom ∈ WU := wu2 113 (by decide +kernel) (by decide +kernel)
theorem k2_114 : Cond.code yX2_hasRoom cX2_hasRoom 1 (some .boolean) ∈ WU := wu2 114 rfl rfl
theorem k2_115 : Cond.methodLink RX2 56 yX2_hasTime ∈ WU := wu2 115 (by decide +kernel) (by decide +kernel)
theorem k2_116 : Cond.methodLink RX4 84 yX2_canTakeOff ∈ WU := wu2 116 (by decide +kernel) (by decide +kernel)
theorem k2_117 : Cond.instanceMethod yX2_canTakeOff ∈ WU := wu2 117 (by decide +kernel) (by decide +kernel)
theorem k2_118 : Cond.selects RX2 yX2_canTakeOff yX2_canTakeOff ∈ WU := wu2 118 (by decide +kernel) (by decide +kernel)
theorem k2_119 : Cond.code yX2_canTakeOff cX2_canTakeOff 5 (some .boolean) ∈ WU := wu2 119 rfl rfl
theorem k2_120 : Cond.methodLink RX2 60 yX2_isWrongEdge ∈ WU := wu2 120 (by decide +kernel) (by decide +kernel)
theorem k2_122 : Cond.instanceMethod yX2_isWrongEdge ∈ WU := wu2 122 (by decide +kernel) (by decide +kernel)
theorem k2_123 : Cond.code yX2_isWrongEdge cX2_isWrongEdge 2 (some .boolean) ∈ WU := wu2 123 rfl rfl
theorem k2_125 : Cond.methodLink RX4 90 yX2_skateJump ∈ WU := wu2 125 (by decide +kernel) (by decide +kernel)
theorem k2_126 : Cond.instanceMethod yX2_skateJump ∈ WU := wu2 126 (by decide +kernel) (by decide +kernel)
theorem k2_127 : Cond.selects RX2 yX2_skateJump yX2_skateJump ∈ WU := wu2 127 (by decide +kernel) (by decide +kernel)
theorem k2_128 : Cond.code yX2_skateJump cX2_skateJump 7 (some .int) ∈ WU := wu2 128 rfl rfl
theorem k2_129 : Cond.methodLink RX2 64 yX2_likeJumps ∈ WU := wu2 129 (by decide +kernel) (by decide +kernel)
theorem k2_131 : Cond.instanceMethod yX2_likeJumps ∈ WU := wu2 131 (by decide +kernel) (by decide +kernel)
theorem k2_132 : Cond.code yX2_likeJumps cX2_likeJumps 8 (some .int) ∈ WU := wu2 132 rfl rfl
theorem k2_133 : Cond.instantiable RX1 8 ∈ WU := wu2 133 (by decide +kernel) (by decide +kernel)
theorem k2_134 : Cond.methodLink RX2 68 yX1_init ∈ WU := wu2 134 (by decide +kernel) (by decide +kernel)
theorem k2_135 : Cond.instanceMethod yX1_init ∈ WU := wu2 135 (by decide +kernel) (by decide +kernel)
theorem k2_136 : Cond.code yX1_init cX1_init 7 none ∈ WU := wu2 136 rfl rfl
theorem k2_137 : Cond.methodLink RX1 1 ⟨"java/lang/Object", "<init>", "()V"⟩ ∈ WU := wu2 137 (by decide +kernel) (by decide +kernel)
theorem k2_138 : Cond.classLink RX1 7 RX3 ∈ WU := wu2 138 (by decide +kernel) (by decide +kernel)
theorem k2_140 : Cond.fieldLink RX1 19 "EdgeCode$Element" "kind" "I" ∈ WU := wu2 140 (by decide +kernel) (by decide +kernel)
theorem k2_143 : Cond.fieldLink RX1 23 "EdgeCode$Element" "turns" "I" ∈ WU := wu2 143 (by decide +kernel) (by decide +kernel)
theorem k2_146 : Cond.fieldLink RX1 26 "EdgeCode$Element" "isWrongEdge" "Z" ∈ WU := wu2 146 (by decide +kernel) (by decide +kernel)
theorem k2_148 : Cond.fieldLink RX1 30 "EdgeCode$Element" "isLate" "Z" ∈ WU := wu2 148 (by decide +kernel) (by decide +kernel)
theorem k2_150 : Cond.fieldLink RX1 33 "EdgeCode$Element" "isFall" "Z" ∈ WU := wu2 150 (by decide +kernel) (by decide +kernel)
theorem k2_152 : Cond.fieldLink RX1 36 "EdgeCode$Element" "isCounted" "Z" ∈ WU := wu2 152 (by decide +kernel) (by decide +kernel)
theorem k2_153 : Cond.fieldLink RX1 10 "EdgeCode$Element" "calls" "LEdgeCode$Votes;" ∈ WU := wu2 153 (by decide +kernel) (by decide +kernel)
theorem k2_155 : Cond.fieldLink RX1 16 "EdgeCode$Element" "grades" "LEdgeCode$Votes;" ∈ WU := wu2 155 (by decide +kernel) (by decide +kernel)
theorem k2_158 : Cond.laysFinal RX1 "EdgeCode$Element" "kind" "I" ∈ WU := wu2 158 (by decide +kernel) (by decide +kernel)
theorem k2_159 : Cond.soleField RX1 "kind" ∈ WU := wu2 159 (by decide +kernel) (by decide +kernel)
theorem k2_160 : Cond.laysFinal RX1 "EdgeCode$Element" "turns" "I" ∈ WU := wu2 160 (by decide +kernel) (by decide +kernel)
theorem k2_161 : Cond.soleField RX1 "turns" ∈ WU := wu2 161 (by decide +kernel) (by decide +kernel)
theorem k2_162 : Cond.laysFinal RX1 "EdgeCode$Element" "isWrongEdge" "Z" ∈ WU := wu2 162 (by decide +kernel) (by decide +kernel)
theorem k2_163 : Cond.soleField RX1 "isWrongEdge" ∈ WU := wu2 163 (by decide +kernel) (by decide +kernel)
theorem k2_164 : Cond.laysFinal RX1 "EdgeCode$Element" "isLate" "Z" ∈ WU := wu2 164 (by decide +kernel) (by decide +kernel)
theorem k2_165 : Cond.soleField RX1 "isLate" ∈ WU := wu2 165 (by decide +kernel) (by decide +kernel)
theorem k2_166 : Cond.laysFinal RX1 "EdgeCode$Element" "isFall" "Z" ∈ WU := wu2 166 (by decide +kernel) (by decide +kernel)
end
section
theorem k2_167 : Cond.soleField RX1 "isFall" ∈ WU := wu2 167 (by decide +kernel) (by decide +kernel)
theorem k2_168 : Cond.laysFinal RX1 "EdgeCode$Element" "isCounted" "Z" ∈ WU := wu2 168 (by decide +kernel) (by decide +kernel)
theorem k2_169 : Cond.soleField RX1 "isCounted" ∈ WU := wu2 169 (by decide +kernel) (by decide +kernel)
theorem k2_170 : Cond.laysFinal RX1 "EdgeCode$Element" "calls" "LEdgeCode$Votes;" ∈ WU := wu2 170 (by decide +kernel) (by decide +kernel)
theorem k2_171 : Cond.soleField RX1 "calls" ∈ WU := wu2 171 (by decide +kernel) (by decide +kernel)
theorem k2_172 : Cond.laysFinal RX1 "EdgeCode$Element" "grades" "LEdgeCode$Votes;" ∈ WU := wu2 172 (by decide +kernel) (by decide +kernel)
theorem k2_173 : Cond.soleField RX1 "grades" ∈ WU := wu2 173 (by decide +kernel) (by decide +kernel)
theorem k2_174 : Cond.superclass RX1 "java/lang/Object" ∈ WU := wu2 174 (by decide +kernel) (by decide +kernel)
theorem k2_175 : Cond.methodLink RX2 71 yX2_add ∈ WU := wu2 175 (by decide +kernel) (by decide +kernel)
theorem k2_177 : Cond.instanceMethod yX2_add ∈ WU := wu2 177 (by decide +kernel) (by decide +kernel)
theorem k2_178 : Cond.code yX2_add cX2_add 3 (some .int) ∈ WU := wu2 178 rfl rfl
theorem k2_179 : Cond.methodLink RX2 75 yX2_landOn ∈ WU := wu2 179 (by decide +kernel) (by decide +kernel)
theorem k2_181 : Cond.instanceMethod yX2_landOn ∈ WU := wu2 181 (by decide +kernel) (by decide +kernel)
theorem k2_182 : Cond.code yX2_landOn cX2_landOn 2 none ∈ WU := wu2 182 rfl rfl
theorem k2_183 : Cond.methodLink RL 90 yL_spin ∈ WU := wu2 183 (by decide +kernel) (by decide +kernel)
theorem k2_184 : Cond.static yL_spin ∈ WU := wu2 184 (by decide +kernel) (by decide +kernel)
theorem k2_185 : Cond.codeWith yL_spin cL_spin 5 (some .int) [(0, 10, 13, 25), (0, 10, 17, 13)] ∈ WU := wu2 185 rfl rfl
theorem k2_186 : Cond.methodLink RL 31 yX4_spin ∈ WU := wu2 186 (by decide +kernel) (by decide +kernel)
theorem k2_187 : Cond.instanceMethod yX4_spin ∈ WU := wu2 187 (by decide +kernel) (by decide +kernel)
theorem k2_188 : Cond.selects RX4 yX4_spin yX4_spin ∈ WU := wu2 188 (by decide +kernel) (by decide +kernel)
theorem k2_189 : Cond.code yX4_spin cX4_spin 3 (some .int) ∈ WU := wu2 189 rfl rfl
theorem k2_192 : Cond.methodLink RX4 98 yX2_skateSpin ∈ WU := wu2 192 (by decide +kernel) (by decide +kernel)
theorem k2_193 : Cond.instanceMethod yX2_skateSpin ∈ WU := wu2 193 (by decide +kernel) (by decide +kernel)
theorem k2_194 : Cond.selects RX2 yX2_skateSpin yX2_skateSpin ∈ WU := wu2 194 (by decide +kernel) (by decide +kernel)
theorem k2_195 : Cond.code yX2_skateSpin cX2_skateSpin 6 (some .int) ∈ WU := wu2 195 rfl rfl
theorem k2_196 : Cond.methodLink RX2 79 yJ6_bitCount_0f7a4 ∈ WU := wu2 196 (by decide +kernel) (by decide +kernel)
theorem k2_197 : Cond.static yJ6_bitCount_0f7a4 ∈ WU := wu2 197 (by decide +kernel) (by decide +kernel)
theorem k2_198 : Cond.code yJ6_bitCount_0f7a4 cJ6_bitCount_0f7a4 1 (some .int) ∈ WU := wu2 198 rfl rfl
theorem k2_199 : Cond.constant RJ6 265 1431655765 ∈ WU := wu2 199 (by decide +kernel) (by decide +kernel)
theorem k2_200 : Cond.constant RJ6 266 858993459 ∈ WU := wu2 200 (by decide +kernel) (by decide +kernel)
theorem k2_201 : Cond.constant RJ6 267 252645135 ∈ WU := wu2 201 (by decide +kernel) (by decide +kernel)
theorem k2_202 : Cond.methodLink RX2 85 yJ9_min_7cf53 ∈ WU := wu2 202 (by decide +kernel) (by decide +kernel)
theorem k2_203 : Cond.static yJ9_min_7cf53 ∈ WU := wu2 203 (by decide +kernel) (by decide +kernel)
theorem k2_204 : Cond.code yJ9_min_7cf53 cJ9_min_7cf53 2 (some .int) ∈ WU := wu2 204 rfl rfl
theorem k2_205 : Cond.methodLink RL 94 yL_end ∈ WU := wu2 205 (by decide +kernel) (by decide +kernel)
theorem k2_206 : Cond.static yL_end ∈ WU := wu2 206 (by decide +kernel) (by decide +kernel)
theorem k2_207 : Cond.codeWith yL_end cL_end 3 (some .int) [(0, 8, 11, 13)] ∈ WU := wu2 207 rfl rfl
theorem k2_208 : Cond.methodLink RL 35 yX4_end ∈ WU := wu2 208 (by decide +kernel) (by decide +kernel)
theorem k2_209 : Cond.instanceMethod yX4_end ∈ WU := wu2 209 (by decide +kernel) (by decide +kernel)
theorem k2_210 : Cond.selects RX4 yX4_end yX4_end ∈ WU := wu2 210 (by decide +kernel) (by decide +kernel)
theorem k2_211 : Cond.code yX4_end cX4_end 2 (some .int) ∈ WU := wu2 211 rfl rfl
theorem k2_213 : Cond.methodLink RL 97 yL_call ∈ WU := wu2 213 (by decide +kernel) (by decide +kernel)
theorem k2_214 : Cond.static yL_call ∈ WU := wu2 214 (by decide +kernel) (by decide +kernel)
theorem k2_215 : Cond.codeWith yL_call cL_call 6 (some .int) [(0, 12, 15, 19), (0, 12, 19, 25), (0, 12, 23, 13)] ∈ WU := wu2 215 rfl rfl
theorem k2_216 : Cond.methodLink RL 38 yX4_call ∈ WU := wu2 216 (by decide +kernel) (by decide +kernel)
theorem k2_217 : Cond.instanceMethod yX4_call ∈ WU := wu2 217 (by decide +kernel) (by decide +kernel)
theorem k2_218 : Cond.selects RX4 yX4_call yX4_call ∈ WU := wu2 218 (by decide +kernel) (by decide +kernel)
theorem k2_219 : Cond.code yX4_call cX4_call 5 (some .int) ∈ WU := wu2 219 rfl rfl
theorem k2_220 : Cond.methodLink RX4 110 yX2_elementAt ∈ WU := wu2 220 (by decide +kernel) (by decide +kernel)
theorem k2_221 : Cond.instanceMethod yX2_elementAt ∈ WU := wu2 221 (by decide +kernel) (by decide +kernel)
theorem k2_222 : Cond.selects RX2 yX2_elementAt yX2_elementAt ∈ WU := wu2 222 (by decide +kernel) (by decide +kernel)
theorem k2_223 : Cond.code yX2_elementAt cX2_elementAt 2 (some (.object "EdgeCode$Element")) ∈ WU := wu2 223 rfl rfl
theorem k2_227 : Cond.methodLink RX4 129 yX3_tell ∈ WU := wu2 227 (by decide +kernel) (by decide +kernel)
theorem k2_228 : Cond.instanceMethod yX3_tell ∈ WU := wu2 228 (by decide +kernel) (by decide +kernel)
theorem k2_229 : Cond.selects RX3 yX3_tell yX3_tell ∈ WU := wu2 229 (by decide +kernel) (by decide +kernel)
theorem k2_230 : Cond.code yX3_tell cX3_tell 3 none ∈ WU := wu2 230 rfl rfl
theorem k2_231 : Cond.methodLink RX3 32 yX3_recount ∈ WU := wu2 231 (by decide +kernel) (by decide +kernel)
theorem k2_233 : Cond.instanceMethod yX3_recount ∈ WU := wu2 233 (by decide +kernel) (by decide +kernel)
theorem k2_234 : Cond.code yX3_recount cX3_recount 2 none ∈ WU := wu2 234 rfl rfl
theorem k2_235 : Cond.methodLink RX3 35 yJ9_min_7cf53 ∈ WU := wu2 235 (by decide +kernel) (by decide +kernel)
theorem k2_236 : Cond.methodLink RX3 41 yJ9_max_7cf53 ∈ WU := wu2 236 (by decide +kernel) (by decide +kernel)
theorem k2_237 : Cond.methodLink RX4 135 yX1_quarters ∈ WU := wu2 237 (by decide +kernel) (by decide +kernel)
theorem k2_238 : Cond.instanceMethod yX1_quarters ∈ WU := wu2 238 (by decide +kernel) (by decide +kernel)
theorem k2_239 : Cond.selects RX1 yX1_quarters yX1_quarters ∈ WU := wu2 239 (by decide +kernel) (by decide +kernel)
theorem k3_0 : Cond.code yX1_quarters cX1_quarters 1 (some .int) ∈ WU := wu3 0 rfl rfl
theorem k3_1 : Cond.methodLink RL 101 yL_grade ∈ WU := wu3 1 (by decide +kernel) (by decide +kernel)
theorem k3_2 : Cond.static yL_grade ∈ WU := wu3 2 (by decide +kernel) (by decide +kernel)
theorem k3_3 : Cond.codeWith yL_grade cL_grade 6 (some .int) [(0, 9, 12, 19), (0, 9, 16, 25), (0, 9, 20, 13)] ∈ WU := wu3 3 rfl rfl
theorem k3_4 : Cond.methodLink RL 42 yX4_grade ∈ WU := wu3 4 (by decide +kernel) (by decide +kernel)
theorem k3_5 : Cond.instanceMethod yX4_grade ∈ WU := wu3 5 (by decide +kernel) (by decide +kernel)
theorem k3_6 : Cond.selects RX4 yX4_grade yX4_grade ∈ WU := wu3 6 (by decide +kernel) (by decide +kernel)
theorem k3_7 : Cond.code yX4_grade cX4_grade 7 none ∈ WU := wu3 7 rfl rfl
theorem k3_11 : Cond.methodLink RL 105 yL_component ∈ WU := wu3 11 (by decide +kernel) (by decide +kernel)
theorem k3_12 : Cond.static yL_component ∈ WU := wu3 12 (by decide +kernel) (by decide +kernel)
theorem k3_13 : Cond.codeWith yL_component cL_component 6 (some .int) [(0, 9, 12, 19), (0, 9, 16, 25), (0, 9, 20, 13)] ∈ WU := wu3 13 rfl rfl
theorem k3_14 : Cond.methodLink RL 46 yX4_component ∈ WU := wu3 14 (by decide +kernel) (by decide +kernel)
theorem k3_15 : Cond.instanceMethod yX4_component ∈ WU := wu3 15 (by decide +kernel) (by decide +kernel)
theorem k3_16 : Cond.selects RX4 yX4_component yX4_component ∈ WU := wu3 16 (by decide +kernel) (by decide +kernel)
theorem k3_17 : Cond.code yX4_component cX4_component 7 none ∈ WU := wu3 17 rfl rfl
theorem k3_18 : Cond.methodLink RX4 148 yX2_componentAt ∈ WU := wu3 18 (by decide +kernel) (by decide +kernel)
theorem k3_19 : Cond.instanceMethod yX2_componentAt ∈ WU := wu3 19 (by decide +kernel) (by decide +kernel)
theorem k3_20 : Cond.selects RX2 yX2_componentAt yX2_componentAt ∈ WU := wu3 20 (by decide +kernel) (by decide +kernel)
theorem k3_21 : Cond.code yX2_componentAt cX2_componentAt 2 (some (.object "EdgeCode$Votes")) ∈ WU := wu3 21 rfl rfl
theorem k3_23 : Cond.methodLink RL 108 yL_value ∈ WU := wu3 23 (by decide +kernel) (by decide +kernel)
theorem k3_24 : Cond.static yL_value ∈ WU := wu3 24 (by decide +kernel) (by decide +kernel)
theorem k3_25 : Cond.codeWith yL_value cL_value 7 (some .int) [(0, 14, 17, 25)] ∈ WU := wu3 25 rfl rfl
theorem k3_26 : Cond.methodLink RL 49 yX4_value ∈ WU := wu3 26 (by decide +kernel) (by decide +kernel)
theorem k3_27 : Cond.instanceMethod yX4_value ∈ WU := wu3 27 (by decide +kernel) (by decide +kernel)
theorem k3_28 : Cond.selects RX4 yX4_value yX4_value ∈ WU := wu3 28 (by decide +kernel) (by decide +kernel)
theorem k3_29 : Cond.code yX4_value cX4_value 6 (some .int) ∈ WU := wu3 29 rfl rfl
theorem k3_30 : Cond.methodLink RX4 154 yX4_editionAt ∈ WU := wu3 30 (by decide +kernel) (by decide +kernel)
theorem k3_32 : Cond.instanceMethod yX4_editionAt ∈ WU := wu3 32 (by decide +kernel) (by decide +kernel)
theorem k3_33 : Cond.code yX4_editionAt cX4_editionAt 2 (some (.object "EdgeCode$Edition")) ∈ WU := wu3 33 rfl rfl
theorem k3_34 : Cond.methodLink RX4 158 yX0_hasValue ∈ WU := wu3 34 (by decide +kernel) (by decide +kernel)
theorem k3_35 : Cond.static yX0_hasValue ∈ WU := wu3 35 (by decide +kernel) (by decide +kernel)
theorem k3_36 : Cond.code yX0_hasValue cX0_hasValue 2 (some .boolean) ∈ WU := wu3 36 rfl rfl
theorem k3_39 : Cond.methodLink RX4 164 yX0_replace ∈ WU := wu3 39 (by decide +kernel) (by decide +kernel)
theorem k3_40 : Cond.instanceMethod yX0_replace ∈ WU := wu3 40 (by decide +kernel) (by decide +kernel)
theorem k3_41 : Cond.selects RX0 yX0_replace yX0_replace ∈ WU := wu3 41 (by decide +kernel) (by decide +kernel)
theorem k3_42 : Cond.code yX0_replace cX0_replace 6 (some .int) ∈ WU := wu3 42 rfl rfl
theorem k3_43 : Cond.methodLink RL 112 yL_element ∈ WU := wu3 43 (by decide +kernel) (by decide +kernel)
theorem k3_44 : Cond.static yL_element ∈ WU := wu3 44 (by decide +kernel) (by decide +kernel)
theorem k3_45 : Cond.codeWith yL_element cL_element 7 (some .int) [(0, 14, 17, 19), (0, 14, 21, 25)] ∈ WU := wu3 45 rfl rfl
theorem k3_46 : Cond.methodLink RL 53 yX4_element ∈ WU := wu3 46 (by decide +kernel) (by decide +kernel)
theorem k3_47 : Cond.instanceMethod yX4_element ∈ WU := wu3 47 (by decide +kernel) (by decide +kernel)
theorem k3_48 : Cond.selects RX4 yX4_element yX4_element ∈ WU := wu3 48 (by decide +kernel) (by decide +kernel)
theorem k3_49 : Cond.code yX4_element cX4_element 8 (some .int) ∈ WU := wu3 49 rfl rfl
theorem k3_52 : Cond.methodLink RX4 184 yX1_baseBy ∈ WU := wu3 52 (by decide +kernel) (by decide +kernel)
theorem k3_53 : Cond.methodLink RX4 188 yX1_scoreBy ∈ WU := wu3 53 (by decide +kernel) (by decide +kernel)
theorem k3_54 : Cond.methodLink RL 115 yL_programme ∈ WU := wu3 54 (by decide +kernel) (by decide +kernel)
theorem k3_55 : Cond.static yL_programme ∈ WU := wu3 55 (by decide +kernel) (by decide +kernel)
theorem k3_56 : Cond.codeWith yL_programme cL_programme 6 (some .int) [(0, 12, 15, 19), (0, 12, 19, 25)] ∈ WU := wu3 56 rfl rfl
theorem k3_57 : Cond.methodLink RL 56 yX4_programme ∈ WU := wu3 57 (by decide +kernel) (by decide +kernel)
theorem k3_58 : Cond.instanceMethod yX4_programme ∈ WU := wu3 58 (by decide +kernel) (by decide +kernel)
theorem k3_59 : Cond.selects RX4 yX4_programme yX4_programme ∈ WU := wu3 59 (by decide +kernel) (by decide +kernel)
theorem k3_60 : Cond.code yX4_programme cX4_programme 6 (some .int) ∈ WU := wu3 60 rfl rfl
theorem k3_61 : Cond.methodLink RX4 191 yX2_elementScoresBy ∈ WU := wu3 61 (by decide +kernel) (by decide +kernel)
theorem k3_62 : Cond.methodLink RX4 194 yX2_componentScores ∈ WU := wu3 62 (by decide +kernel) (by decide +kernel)
theorem k3_63 : Cond.methodLink RX4 197 yX2_fine ∈ WU := wu3 63 (by decide +kernel) (by decide +kernel)
theorem k3_64 : Cond.methodLink RX4 200 yX2_totalOf ∈ WU := wu3 64 (by decide +kernel) (by decide +kernel)
theorem k3_65 : Cond.methodLink RX4 206 yX4_fillRanking ∈ WU := wu3 65 (by decide +kernel) (by decide +kernel)
theorem k3_67 : Cond.instanceMethod yX4_fillRanking ∈ WU := wu3 67 (by decide +kernel) (by decide +kernel)
theorem k3_68 : Cond.code yX4_fillRanking cX4_fillRanking 4 none ∈ WU := wu3 68 rfl rfl
theorem k3_69 : Cond.methodLink RX4 210 yX4_rankOf ∈ WU := wu3 69 (by decide +kernel) (by decide +kernel)
theorem k3_71 : Cond.instanceMethod yX4_rankOf ∈ WU := wu3 71 (by decide +kernel) (by decide +kernel)
theorem k3_72 : Cond.code yX4_rankOf cX4_rankOf 4 (some .int) ∈ WU := wu3 72 rfl rfl
theorem k3_73 : Cond.methodLink RX4 244 yX4_isRanked ∈ WU := wu3 73 (by decide +kernel) (by decide +kernel)
theorem k3_75 : Cond.instanceMethod yX4_isRanked ∈ WU := wu3 75 (by decide +kernel) (by decide +kernel)
theorem k3_76 : Cond.code yX4_isRanked cX4_isRanked 2 (some .boolean) ∈ WU := wu3 76 rfl rfl
theorem k3_77 : Cond.methodLink RX4 247 yX4_isAhead ∈ WU := wu3 77 (by decide +kernel) (by decide +kernel)
theorem k3_79 : Cond.instanceMethod yX4_isAhead ∈ WU := wu3 79 (by decide +kernel) (by decide +kernel)
theorem k3_80 : Cond.code yX4_isAhead cX4_isAhead 3 (some .boolean) ∈ WU := wu3 80 rfl rfl
theorem k3_81 : Cond.methodLink RL 118 yL_starts ∈ WU := wu3 81 (by decide +kernel) (by decide +kernel)
theorem k3_82 : Cond.static yL_starts ∈ WU := wu3 82 (by decide +kernel) (by decide +kernel)
theorem k3_83 : Cond.codeWith yL_starts cL_starts 5 (some .int) [(0, 10, 13, 25)] ∈ WU := wu3 83 rfl rfl
theorem k3_84 : Cond.methodLink RL 59 yX4_starts ∈ WU := wu3 84 (by decide +kernel) (by decide +kernel)
theorem k3_85 : Cond.instanceMethod yX4_starts ∈ WU := wu3 85 (by decide +kernel) (by decide +kernel)
theorem k3_86 : Cond.selects RX4 yX4_starts yX4_starts ∈ WU := wu3 86 (by decide +kernel) (by decide +kernel)
theorem k3_87 : Cond.code yX4_starts cX4_starts 5 (some .int) ∈ WU := wu3 87 rfl rfl
theorem k3_89 : Cond.methodLink RX4 215 yX4_howManyRanked ∈ WU := wu3 89 (by decide +kernel) (by decide +kernel)
theorem k3_91 : Cond.instanceMethod yX4_howManyRanked ∈ WU := wu3 91 (by decide +kernel) (by decide +kernel)
theorem k3_92 : Cond.code yX4_howManyRanked cX4_howManyRanked 3 (some .int) ∈ WU := wu3 92 rfl rfl
theorem k3_93 : Cond.methodLink RX4 218 yX4_skaterOfRank ∈ WU := wu3 93 (by decide +kernel) (by decide +kernel)
theorem k3_95 : Cond.instanceMethod yX4_skaterOfRank ∈ WU := wu3 95 (by decide +kernel) (by decide +kernel)
theorem k3_96 : Cond.code yX4_skaterOfRank cX4_skaterOfRank 3 (some .int) ∈ WU := wu3 96 rfl rfl
theorem k3_97 : Cond.methodLink RX4 221 yX4_unrankedSkater ∈ WU := wu3 97 (by decide +kernel) (by decide +kernel)
theorem k3_99 : Cond.instanceMethod yX4_unrankedSkater ∈ WU := wu3 99 (by decide +kernel) (by decide +kernel)
theorem k3_100 : Cond.code yX4_unrankedSkater cX4_unrankedSkater 4 (some .int) ∈ WU := wu3 100 rfl rfl
theorem k3_101 : Cond.methodLink RL 121 yL_bias ∈ WU := wu3 101 (by decide +kernel) (by decide +kernel)
theorem k3_102 : Cond.static yL_bias ∈ WU := wu3 102 (by decide +kernel) (by decide +kernel)
theorem k3_103 : Cond.codeWith yL_bias cL_bias 4 (some .int) [(0, 9, 12, 19)] ∈ WU := wu3 103 rfl rfl
theorem k3_104 : Cond.methodLink RL 62 yX4_bias ∈ WU := wu3 104 (by decide +kernel) (by decide +kernel)
theorem k3_105 : Cond.instanceMethod yX4_bias ∈ WU := wu3 105 (by decide +kernel) (by decide +kernel)
theorem k3_106 : Cond.selects RX4 yX4_bias yX4_bias ∈ WU := wu3 106 (by decide +kernel) (by decide +kernel)
theorem k3_107 : Cond.code yX4_bias cX4_bias 8 (some .int) ∈ WU := wu3 107 rfl rfl
theorem k3_109 : Cond.methodLink RX4 226 yX2_addBias ∈ WU := wu3 109 (by decide +kernel) (by decide +kernel)
theorem k3_110 : Cond.instanceMethod yX2_addBias ∈ WU := wu3 110 (by decide +kernel) (by decide +kernel)
theorem k3_111 : Cond.selects RX2 yX2_addBias yX2_addBias ∈ WU := wu3 111 (by decide +kernel) (by decide +kernel)
theorem k3_112 : Cond.code yX2_addBias cX2_addBias 10 (some .double) ∈ WU := wu3 112 rfl rfl
theorem k3_113 : Cond.methodLink RX2 134 yX3_hasMean ∈ WU := wu3 113 (by decide +kernel) (by decide +kernel)
theorem k3_114 : Cond.instanceMethod yX3_hasMean ∈ WU := wu3 114 (by decide +kernel) (by decide +kernel)
theorem k3_115 : Cond.selects RX3 yX3_hasMean yX3_hasMean ∈ WU := wu3 115 (by decide +kernel) (by decide +kernel)
theorem k3_116 : Cond.code yX3_hasMean cX3_hasMean 1 (some .boolean) ∈ WU := wu3 116 rfl rfl
theorem k3_117 : Cond.methodLink RX2 137 yX3_hasTold ∈ WU := wu3 117 (by decide +kernel) (by decide +kernel)
theorem k3_118 : Cond.instanceMethod yX3_hasTold ∈ WU := wu3 118 (by decide +kernel) (by decide +kernel)
theorem k3_119 : Cond.selects RX3 yX3_hasTold yX3_hasTold ∈ WU := wu3 119 (by decide +kernel) (by decide +kernel)
theorem k3_120 : Cond.code yX3_hasTold cX3_hasTold 2 (some .boolean) ∈ WU := wu3 120 rfl rfl
theorem k3_121 : Cond.methodLink RX2 140 yX3_numberOf ∈ WU := wu3 121 (by decide +kernel) (by decide +kernel)
theorem k3_122 : Cond.instanceMethod yX3_numberOf ∈ WU := wu3 122 (by decide +kernel) (by decide +kernel)
theorem k3_123 : Cond.selects RX3 yX3_numberOf yX3_numberOf ∈ WU := wu3 123 (by decide +kernel) (by decide +kernel)
theorem k3_124 : Cond.code yX3_numberOf cX3_numberOf 2 (some .int) ∈ WU := wu3 124 rfl rfl
theorem k3_125 : Cond.methodLink RX3 44 yX3_hasTold ∈ WU := wu3 125 (by decide +kernel) (by decide +kernel)
theorem k3_126 : Cond.constantDouble RX4 230 4636737291354636288 ∈ WU := wu3 126 (by decide +kernel) (by decide +kernel)
theorem k3_127 : Cond.methodLink RX4 232 yX4_nearest ∈ WU := wu3 127 (by decide +kernel) (by decide +kernel)
theorem k3_128 : Cond.classLink RL 66 RX5 ∈ WU := wu3 128 (by decide +kernel) (by decide +kernel)
theorem k3_129 : Cond.instantiable RX5 23 ∈ WU := wu3 129 (by decide +kernel) (by decide +kernel)
theorem k3_130 : Cond.methodLink RL 68 yX5_init ∈ WU := wu3 130 (by decide +kernel) (by decide +kernel)
theorem k3_131 : Cond.instanceMethod yX5_init ∈ WU := wu3 131 (by decide +kernel) (by decide +kernel)
theorem k3_132 : Cond.code yX5_init cX5_init 2 none ∈ WU := wu3 132 rfl rfl
theorem k3_133 : Cond.methodLink RX5 1 ⟨"java/lang/Object", "<init>", "()V"⟩ ∈ WU := wu3 133 (by decide +kernel) (by decide +kernel)
theorem k3_134 : Cond.methodLink RX5 54 yX5_sets ∈ WU := wu3 134 (by decide +kernel) (by decide +kernel)
theorem k3_136 : Cond.instanceMethod yX5_sets ∈ WU := wu3 136 (by decide +kernel) (by decide +kernel)
theorem k3_137 : Cond.code yX5_sets cX5_sets 7 none ∈ WU := wu3 137 rfl rfl
theorem k3_138 : Cond.fieldLink RX5 58 "EdgeCodeModel" "thrown" "I" ∈ WU := wu3 138 (by decide +kernel) (by decide +kernel)
theorem k3_139 : Cond.fieldLink RX5 61 "EdgeCodeModel" "many" "I" ∈ WU := wu3 139 (by decide +kernel) (by decide +kernel)
theorem k3_140 : Cond.fieldLink RX5 9 "EdgeCodeModel" "going" "I" ∈ WU := wu3 140 (by decide +kernel) (by decide +kernel)
theorem k3_141 : Cond.fieldLink RX5 76 "EdgeCodeModel" "foot" "I" ∈ WU := wu3 141 (by decide +kernel) (by decide +kernel)
theorem k3_142 : Cond.fieldLink RX5 79 "EdgeCodeModel" "edge" "I" ∈ WU := wu3 142 (by decide +kernel) (by decide +kernel)
theorem k3_143 : Cond.fieldLink RX5 82 "EdgeCodeModel" "way" "I" ∈ WU := wu3 143 (by decide +kernel) (by decide +kernel)
theorem k3_144 : Cond.fieldLink RX5 13 "EdgeCodeModel" "states" "[I" ∈ WU := wu3 144 (by decide +kernel) (by decide +kernel)
theorem k3_145 : Cond.fieldLink RX5 17 "EdgeCodeModel" "seconds" "[I" ∈ WU := wu3 145 (by decide +kernel) (by decide +kernel)
theorem k3_146 : Cond.fieldLink RX5 20 "EdgeCodeModel" "elementMany" "[I" ∈ WU := wu3 146 (by decide +kernel) (by decide +kernel)
theorem k3_147 : Cond.fieldLink RX5 23 "EdgeCodeModel" "kinds" "[I" ∈ WU := wu3 147 (by decide +kernel) (by decide +kernel)
theorem k3_148 : Cond.fieldLink RX5 26 "EdgeCodeModel" "levels" "[I" ∈ WU := wu3 148 (by decide +kernel) (by decide +kernel)
theorem k3_149 : Cond.fieldLink RX5 29 "EdgeCodeModel" "features" "[I" ∈ WU := wu3 149 (by decide +kernel) (by decide +kernel)
theorem k3_150 : Cond.fieldLink RX5 32 "EdgeCodeModel" "calls" "[I" ∈ WU := wu3 150 (by decide +kernel) (by decide +kernel)
theorem k3_151 : Cond.fieldLink RX5 35 "EdgeCodeModel" "isWrong" "[Z" ∈ WU := wu3 151 (by decide +kernel) (by decide +kernel)
theorem k3_152 : Cond.fieldLink RX5 39 "EdgeCodeModel" "isLate" "[Z" ∈ WU := wu3 152 (by decide +kernel) (by decide +kernel)
theorem k3_153 : Cond.fieldLink RX5 42 "EdgeCodeModel" "hasFall" "[Z" ∈ WU := wu3 153 (by decide +kernel) (by decide +kernel)
theorem k3_154 : Cond.fieldLink RX5 45 "EdgeCodeModel" "grades" "[I" ∈ WU := wu3 154 (by decide +kernel) (by decide +kernel)
theorem k3_155 : Cond.fieldLink RX5 48 "EdgeCodeModel" "parts" "[I" ∈ WU := wu3 155 (by decide +kernel) (by decide +kernel)
theorem k3_156 : Cond.fieldLink RX5 51 "EdgeCodeModel" "values" "[I" ∈ WU := wu3 156 (by decide +kernel) (by decide +kernel)
theorem k3_157 : Cond.fieldLink RX5 118 "EdgeCodeModel" "toldMany" "I" ∈ WU := wu3 157 (by decide +kernel) (by decide +kernel)
theorem k3_158 : Cond.fieldLink RX5 121 "EdgeCodeModel" "toldSum" "I" ∈ WU := wu3 158 (by decide +kernel) (by decide +kernel)
theorem k3_159 : Cond.fieldLink RX5 124 "EdgeCodeModel" "toldLeast" "I" ∈ WU := wu3 159 (by decide +kernel) (by decide +kernel)
theorem k3_160 : Cond.fieldLink RX5 127 "EdgeCodeModel" "toldGreatest" "I" ∈ WU := wu3 160 (by decide +kernel) (by decide +kernel)
theorem k3_161 : Cond.lays RX5 "EdgeCodeModel" "thrown" "I" ∈ WU := wu3 161 (by decide +kernel) (by decide +kernel)
theorem k3_162 : Cond.soleField RX5 "thrown" ∈ WU := wu3 162 (by decide +kernel) (by decide +kernel)
theorem k3_163 : Cond.lays RX5 "EdgeCodeModel" "many" "I" ∈ WU := wu3 163 (by decide +kernel) (by decide +kernel)
theorem k3_164 : Cond.soleField RX5 "many" ∈ WU := wu3 164 (by decide +kernel) (by decide +kernel)
theorem k3_165 : Cond.lays RX5 "EdgeCodeModel" "going" "I" ∈ WU := wu3 165 (by decide +kernel) (by decide +kernel)
theorem k3_166 : Cond.soleField RX5 "going" ∈ WU := wu3 166 (by decide +kernel) (by decide +kernel)
theorem k3_167 : Cond.lays RX5 "EdgeCodeModel" "foot" "I" ∈ WU := wu3 167 (by decide +kernel) (by decide +kernel)
theorem k3_168 : Cond.soleField RX5 "foot" ∈ WU := wu3 168 (by decide +kernel) (by decide +kernel)
theorem k3_169 : Cond.lays RX5 "EdgeCodeModel" "edge" "I" ∈ WU := wu3 169 (by decide +kernel) (by decide +kernel)
theorem k3_170 : Cond.soleField RX5 "edge" ∈ WU := wu3 170 (by decide +kernel) (by decide +kernel)
theorem k3_171 : Cond.lays RX5 "EdgeCodeModel" "way" "I" ∈ WU := wu3 171 (by decide +kernel) (by decide +kernel)
theorem k3_172 : Cond.soleField RX5 "way" ∈ WU := wu3 172 (by decide +kernel) (by decide +kernel)
theorem k3_173 : Cond.laysFinal RX5 "EdgeCodeModel" "states" "[I" ∈ WU := wu3 173 (by decide +kernel) (by decide +kernel)
theorem k3_174 : Cond.soleField RX5 "states" ∈ WU := wu3 174 (by decide +kernel) (by decide +kernel)
theorem k3_175 : Cond.laysFinal RX5 "EdgeCodeModel" "seconds" "[I" ∈ WU := wu3 175 (by decide +kernel) (by decide +kernel)
theorem k3_176 : Cond.soleField RX5 "seconds" ∈ WU := wu3 176 (by decide +kernel) (by decide +kernel)
theorem k3_177 : Cond.laysFinal RX5 "EdgeCodeModel" "elementMany" "[I" ∈ WU := wu3 177 (by decide +kernel) (by decide +kernel)
theorem k3_178 : Cond.soleField RX5 "elementMany" ∈ WU := wu3 178 (by decide +kernel) (by decide +kernel)
theorem k3_179 : Cond.laysFinal RX5 "EdgeCodeModel" "kinds" "[I" ∈ WU := wu3 179 (by decide +kernel) (by decide +kernel)
theorem k3_180 : Cond.soleField RX5 "kinds" ∈ WU := wu3 180 (by decide +kernel) (by decide +kernel)
theorem k3_181 : Cond.laysFinal RX5 "EdgeCodeModel" "levels" "[I" ∈ WU := wu3 181 (by decide +kernel) (by decide +kernel)
theorem k3_182 : Cond.soleField RX5 "levels" ∈ WU := wu3 182 (by decide +kernel) (by decide +kernel)
theorem k3_183 : Cond.laysFinal RX5 "EdgeCodeModel" "features" "[I" ∈ WU := wu3 183 (by decide +kernel) (by decide +kernel)
theorem k3_184 : Cond.soleField RX5 "features" ∈ WU := wu3 184 (by decide +kernel) (by decide +kernel)
theorem k3_185 : Cond.laysFinal RX5 "EdgeCodeModel" "calls" "[I" ∈ WU := wu3 185 (by decide +kernel) (by decide +kernel)
theorem k3_186 : Cond.soleField RX5 "calls" ∈ WU := wu3 186 (by decide +kernel) (by decide +kernel)
theorem k3_187 : Cond.laysFinal RX5 "EdgeCodeModel" "isWrong" "[Z" ∈ WU := wu3 187 (by decide +kernel) (by decide +kernel)
theorem k3_188 : Cond.soleField RX5 "isWrong" ∈ WU := wu3 188 (by decide +kernel) (by decide +kernel)
theorem k3_189 : Cond.laysFinal RX5 "EdgeCodeModel" "isLate" "[Z" ∈ WU := wu3 189 (by decide +kernel) (by decide +kernel)
theorem k3_190 : Cond.soleField RX5 "isLate" ∈ WU := wu3 190 (by decide +kernel) (by decide +kernel)
theorem k3_191 : Cond.laysFinal RX5 "EdgeCodeModel" "hasFall" "[Z" ∈ WU := wu3 191 (by decide +kernel) (by decide +kernel)
theorem k3_192 : Cond.soleField RX5 "hasFall" ∈ WU := wu3 192 (by decide +kernel) (by decide +kernel)
theorem k3_193 : Cond.laysFinal RX5 "EdgeCodeModel" "grades" "[I" ∈ WU := wu3 193 (by decide +kernel) (by decide +kernel)
theorem k3_194 : Cond.soleField RX5 "grades" ∈ WU := wu3 194 (by decide +kernel) (by decide +kernel)
theorem k3_195 : Cond.laysFinal RX5 "EdgeCodeModel" "parts" "[I" ∈ WU := wu3 195 (by decide +kernel) (by decide +kernel)
theorem k3_196 : Cond.soleField RX5 "parts" ∈ WU := wu3 196 (by decide +kernel) (by decide +kernel)
theorem k3_197 : Cond.laysFinal RX5 "EdgeCodeModel" "values" "[I" ∈ WU := wu3 197 (by decide +kernel) (by decide +kernel)
theorem k3_198 : Cond.soleField RX5 "values" ∈ WU := wu3 198 (by decide +kernel) (by decide +kernel)
theorem k3_199 : Cond.lays RX5 "EdgeCodeModel" "toldMany" "I" ∈ WU := wu3 199 (by decide +kernel) (by decide +kernel)
theorem k3_200 : Cond.soleField RX5 "toldMany" ∈ WU := wu3 200 (by decide +kernel) (by decide +kernel)
theorem k3_201 : Cond.lays RX5 "EdgeCodeModel" "toldSum" "I" ∈ WU := wu3 201 (by decide +kernel) (by decide +kernel)
theorem k3_202 : Cond.soleField RX5 "toldSum" ∈ WU := wu3 202 (by decide +kernel) (by decide +kernel)
theorem k3_203 : Cond.lays RX5 "EdgeCodeModel" "toldLeast" "I" ∈ WU := wu3 203 (by decide +kernel) (by decide +kernel)
theorem k3_204 : Cond.soleField RX5 "toldLeast" ∈ WU := wu3 204 (by decide +kernel) (by decide +kernel)
theorem k3_205 : Cond.lays RX5 "EdgeCodeModel" "toldGreatest" "I" ∈ WU := wu3 205 (by decide +kernel) (by decide +kernel)
theorem k3_206 : Cond.soleField RX5 "toldGreatest" ∈ WU := wu3 206 (by decide +kernel) (by decide +kernel)
theorem k3_207 : Cond.superclass RX5 "java/lang/Object" ∈ WU := wu3 207 (by decide +kernel) (by decide +kernel)
theorem k3_208 : Cond.methodLink RL 75 yX5_thrown ∈ WU := wu3 208 (by decide +kernel) (by decide +kernel)
theorem k3_209 : Cond.instanceMethod yX5_thrown ∈ WU := wu3 209 (by decide +kernel) (by decide +kernel)
theorem k3_210 : Cond.selects RX5 yX5_thrown yX5_thrown ∈ WU := wu3 210 (by decide +kernel) (by decide +kernel)
theorem k3_211 : Cond.code yX5_thrown cX5_thrown 1 (some .int) ∈ WU := wu3 211 rfl rfl
theorem k3_212 : Cond.methodLink RL 74 yX5_skater ∈ WU := wu3 212 (by decide +kernel) (by decide +kernel)
theorem k3_213 : Cond.instanceMethod yX5_skater ∈ WU := wu3 213 (by decide +kernel) (by decide +kernel)
theorem k3_214 : Cond.selects RX5 yX5_skater yX5_skater ∈ WU := wu3 214 (by decide +kernel) (by decide +kernel)
theorem k3_215 : Cond.code yX5_skater cX5_skater 1 (some .int) ∈ WU := wu3 215 rfl rfl
theorem k3_216 : Cond.methodLink RL 81 yX5_begin ∈ WU := wu3 216 (by decide +kernel) (by decide +kernel)
theorem k3_217 : Cond.instanceMethod yX5_begin ∈ WU := wu3 217 (by decide +kernel) (by decide +kernel)
theorem k3_218 : Cond.selects RX5 yX5_begin yX5_begin ∈ WU := wu3 218 (by decide +kernel) (by decide +kernel)
theorem k3_219 : Cond.code yX5_begin cX5_begin 2 none ∈ WU := wu3 219 rfl rfl
theorem k3_220 : Cond.methodLink RX5 68 yX5_isSkater ∈ WU := wu3 220 (by decide +kernel) (by decide +kernel)
theorem k3_222 : Cond.instanceMethod yX5_isSkater ∈ WU := wu3 222 (by decide +kernel) (by decide +kernel)
theorem k3_223 : Cond.code yX5_isSkater cX5_isSkater 2 (some .boolean) ∈ WU := wu3 223 rfl rfl
theorem k3_224 : Cond.methodLink RX5 64 yX5_in ∈ WU := wu3 224 (by decide +kernel) (by decide +kernel)
theorem k3_225 : Cond.static yX5_in ∈ WU := wu3 225 (by decide +kernel) (by decide +kernel)
theorem k3_226 : Cond.code yX5_in cX5_in 3 (some .boolean) ∈ WU := wu3 226 rfl rfl
theorem k3_227 : Cond.methodLink RX5 72 yX5_stands ∈ WU := wu3 227 (by decide +kernel) (by decide +kernel)
theorem k3_229 : Cond.instanceMethod yX5_stands ∈ WU := wu3 229 (by decide +kernel) (by decide +kernel)
theorem k3_230 : Cond.code yX5_stands cX5_stands 4 none ∈ WU := wu3 230 rfl rfl
theorem k3_231 : Cond.methodLink RL 85 yX5_turn ∈ WU := wu3 231 (by decide +kernel) (by decide +kernel)
theorem k3_232 : Cond.instanceMethod yX5_turn ∈ WU := wu3 232 (by decide +kernel) (by decide +kernel)
theorem k3_233 : Cond.selects RX5 yX5_turn yX5_turn ∈ WU := wu3 233 (by decide +kernel) (by decide +kernel)
theorem k3_234 : Cond.code yX5_turn cX5_turn 5 (some .int) ∈ WU := wu3 234 rfl rfl
theorem k3_235 : Cond.methodLink RX5 85 yX5_isOpen ∈ WU := wu3 235 (by decide +kernel) (by decide +kernel)
theorem k3_237 : Cond.instanceMethod yX5_isOpen ∈ WU := wu3 237 (by decide +kernel) (by decide +kernel)
theorem k3_238 : Cond.code yX5_isOpen cX5_isOpen 1 (some .boolean) ∈ WU := wu3 238 rfl rfl
theorem k3_239 : Cond.methodLink RL 89 yX5_jump ∈ WU := wu3 239 (by decide +kernel) (by decide +kernel)
theorem k4_0 : Cond.instanceMethod yX5_jump ∈ WU := wu4 0 (by decide +kernel) (by decide +kernel)
theorem k4_1 : Cond.selects RX5 yX5_jump yX5_jump ∈ WU := wu4 1 (by decide +kernel) (by decide +kernel)
theorem k4_2 : Cond.code yX5_jump cX5_jump 5 (some .int) ∈ WU := wu4 2 rfl rfl
theorem k4_3 : Cond.methodLink RX5 89 yX5_canTakeOff ∈ WU := wu4 3 (by decide +kernel) (by decide +kernel)
theorem k4_5 : Cond.instanceMethod yX5_canTakeOff ∈ WU := wu4 5 (by decide +kernel) (by decide +kernel)
theorem k4_6 : Cond.code yX5_canTakeOff cX5_canTakeOff 2 (some .boolean) ∈ WU := wu4 6 rfl rfl
theorem k4_7 : Cond.methodLink RX5 92 yX5_at ∈ WU := wu4 7 (by decide +kernel) (by decide +kernel)
theorem k4_8 : Cond.static yX5_at ∈ WU := wu4 8 (by decide +kernel) (by decide +kernel)
theorem k4_9 : Cond.code yX5_at cX5_at 2 (some .int) ∈ WU := wu4 9 rfl rfl
theorem k4_10 : Cond.methodLink RL 93 yX5_spin ∈ WU := wu4 10 (by decide +kernel) (by decide +kernel)
theorem k4_11 : Cond.instanceMethod yX5_spin ∈ WU := wu4 11 (by decide +kernel) (by decide +kernel)
theorem k4_12 : Cond.selects RX5 yX5_spin yX5_spin ∈ WU := wu4 12 (by decide +kernel) (by decide +kernel)
theorem k4_13 : Cond.code yX5_spin cX5_spin 8 (some .int) ∈ WU := wu4 13 rfl rfl
theorem k4_14 : Cond.methodLink RL 96 yX5_end ∈ WU := wu4 14 (by decide +kernel) (by decide +kernel)
theorem k4_15 : Cond.instanceMethod yX5_end ∈ WU := wu4 15 (by decide +kernel) (by decide +kernel)
theorem k4_16 : Cond.selects RX5 yX5_end yX5_end ∈ WU := wu4 16 (by decide +kernel) (by decide +kernel)
theorem k4_17 : Cond.code yX5_end cX5_end 2 (some .int) ∈ WU := wu4 17 rfl rfl
theorem k4_18 : Cond.methodLink RL 100 yX5_call ∈ WU := wu4 18 (by decide +kernel) (by decide +kernel)
theorem k4_19 : Cond.instanceMethod yX5_call ∈ WU := wu4 19 (by decide +kernel) (by decide +kernel)
theorem k4_20 : Cond.selects RX5 yX5_call yX5_call ∈ WU := wu4 20 (by decide +kernel) (by decide +kernel)
theorem k4_21 : Cond.code yX5_call cX5_call 4 (some .int) ∈ WU := wu4 21 rfl rfl
theorem k4_22 : Cond.methodLink RX5 96 yX5_isElement ∈ WU := wu4 22 (by decide +kernel) (by decide +kernel)
theorem k4_24 : Cond.instanceMethod yX5_isElement ∈ WU := wu4 24 (by decide +kernel) (by decide +kernel)
theorem k4_25 : Cond.code yX5_isElement cX5_isElement 3 (some .boolean) ∈ WU := wu4 25 rfl rfl
theorem k4_26 : Cond.methodLink RX5 100 yX5_quartersOf ∈ WU := wu4 26 (by decide +kernel) (by decide +kernel)
theorem k4_28 : Cond.instanceMethod yX5_quartersOf ∈ WU := wu4 28 (by decide +kernel) (by decide +kernel)
theorem k4_29 : Cond.code yX5_quartersOf cX5_quartersOf 8 (some .int) ∈ WU := wu4 29 rfl rfl
theorem k4_30 : Cond.methodLink RL 104 yX5_grade ∈ WU := wu4 30 (by decide +kernel) (by decide +kernel)
theorem k4_31 : Cond.instanceMethod yX5_grade ∈ WU := wu4 31 (by decide +kernel) (by decide +kernel)
theorem k4_32 : Cond.selects RX5 yX5_grade yX5_grade ∈ WU := wu4 32 (by decide +kernel) (by decide +kernel)
theorem k4_33 : Cond.code yX5_grade cX5_grade 5 none ∈ WU := wu4 33 rfl rfl
theorem k4_34 : Cond.methodLink RL 107 yX5_component ∈ WU := wu4 34 (by decide +kernel) (by decide +kernel)
theorem k4_35 : Cond.instanceMethod yX5_component ∈ WU := wu4 35 (by decide +kernel) (by decide +kernel)
theorem k4_36 : Cond.selects RX5 yX5_component yX5_component ∈ WU := wu4 36 (by decide +kernel) (by decide +kernel)
theorem k4_37 : Cond.code yX5_component cX5_component 5 none ∈ WU := wu4 37 rfl rfl
theorem k4_38 : Cond.methodLink RL 111 yX5_value ∈ WU := wu4 38 (by decide +kernel) (by decide +kernel)
theorem k4_39 : Cond.instanceMethod yX5_value ∈ WU := wu4 39 (by decide +kernel) (by decide +kernel)
theorem k4_40 : Cond.selects RX5 yX5_value yX5_value ∈ WU := wu4 40 (by decide +kernel) (by decide +kernel)
theorem k4_41 : Cond.code yX5_value cX5_value 8 (some .int) ∈ WU := wu4 41 rfl rfl
theorem k4_42 : Cond.methodLink RX5 104 yX5_valueAt ∈ WU := wu4 42 (by decide +kernel) (by decide +kernel)
theorem k4_43 : Cond.static yX5_valueAt ∈ WU := wu4 43 (by decide +kernel) (by decide +kernel)
theorem k4_44 : Cond.code yX5_valueAt cX5_valueAt 3 (some .int) ∈ WU := wu4 44 rfl rfl
theorem k4_45 : Cond.methodLink RL 114 yX5_element ∈ WU := wu4 45 (by decide +kernel) (by decide +kernel)
theorem k4_46 : Cond.instanceMethod yX5_element ∈ WU := wu4 46 (by decide +kernel) (by decide +kernel)
theorem k4_47 : Cond.selects RX5 yX5_element yX5_element ∈ WU := wu4 47 (by decide +kernel) (by decide +kernel)
theorem k4_48 : Cond.code yX5_element cX5_element 6 (some .int) ∈ WU := wu4 48 rfl rfl
theorem k4_49 : Cond.methodLink RX5 141 yX5_baseOf ∈ WU := wu4 49 (by decide +kernel) (by decide +kernel)
theorem k4_51 : Cond.instanceMethod yX5_baseOf ∈ WU := wu4 51 (by decide +kernel) (by decide +kernel)
theorem k4_52 : Cond.code yX5_baseOf cX5_baseOf 10 (some .int) ∈ WU := wu4 52 rfl rfl
theorem k4_53 : Cond.constantDouble RX5 110 4605380978949069210 ∈ WU := wu4 53 (by decide +kernel) (by decide +kernel)
theorem k4_54 : Cond.methodLink RX5 112 yX5_rint ∈ WU := wu4 54 (by decide +kernel) (by decide +kernel)
theorem k4_55 : Cond.static yX5_rint ∈ WU := wu4 55 (by decide +kernel) (by decide +kernel)
theorem k4_56 : Cond.code yX5_rint cX5_rint 8 (some .int) ∈ WU := wu4 56 rfl rfl
theorem k4_57 : Cond.constantDouble RX5 108 4602678819172646912 ∈ WU := wu4 57 (by decide +kernel) (by decide +kernel)
theorem k4_58 : Cond.constantDouble RX5 116 4607632778762754458 ∈ WU := wu4 58 (by decide +kernel) (by decide +kernel)
theorem k4_59 : Cond.methodLink RX5 150 yX5_scoreOf ∈ WU := wu4 59 (by decide +kernel) (by decide +kernel)
theorem k4_61 : Cond.instanceMethod yX5_scoreOf ∈ WU := wu4 61 (by decide +kernel) (by decide +kernel)
theorem k4_62 : Cond.code yX5_scoreOf cX5_scoreOf 5 (some .int) ∈ WU := wu4 62 rfl rfl
theorem k4_63 : Cond.methodLink RX5 144 yX5_meanOf ∈ WU := wu4 63 (by decide +kernel) (by decide +kernel)
theorem k4_65 : Cond.instanceMethod yX5_meanOf ∈ WU := wu4 65 (by decide +kernel) (by decide +kernel)
theorem k4_66 : Cond.code yX5_meanOf cX5_meanOf 4 (some .double) ∈ WU := wu4 66 rfl rfl
theorem k4_67 : Cond.methodLink RX5 130 yX5_clears ∈ WU := wu4 67 (by decide +kernel) (by decide +kernel)
theorem k4_69 : Cond.instanceMethod yX5_clears ∈ WU := wu4 69 (by decide +kernel) (by decide +kernel)
theorem k4_70 : Cond.code yX5_clears cX5_clears 1 none ∈ WU := wu4 70 rfl rfl
theorem k4_71 : Cond.methodLink RX5 133 yX5_counts ∈ WU := wu4 71 (by decide +kernel) (by decide +kernel)
theorem k4_73 : Cond.instanceMethod yX5_counts ∈ WU := wu4 73 (by decide +kernel) (by decide +kernel)
theorem k4_74 : Cond.code yX5_counts cX5_counts 2 none ∈ WU := wu4 74 rfl rfl
theorem k4_75 : Cond.methodLink RX5 137 yX5_trimmed ∈ WU := wu4 75 (by decide +kernel) (by decide +kernel)
theorem k4_77 : Cond.instanceMethod yX5_trimmed ∈ WU := wu4 77 (by decide +kernel) (by decide +kernel)
theorem k4_78 : Cond.code yX5_trimmed cX5_trimmed 1 (some .double) ∈ WU := wu4 78 rfl rfl
theorem k4_79 : Cond.constantDouble RX5 148 4621819117588971520 ∈ WU := wu4 79 (by decide +kernel) (by decide +kernel)
theorem k4_80 : Cond.methodLink RL 117 yX5_programme ∈ WU := wu4 80 (by decide +kernel) (by decide +kernel)
theorem k4_81 : Cond.instanceMethod yX5_programme ∈ WU := wu4 81 (by decide +kernel) (by decide +kernel)
theorem k4_82 : Cond.selects RX5 yX5_programme yX5_programme ∈ WU := wu4 82 (by decide +kernel) (by decide +kernel)
theorem k4_83 : Cond.code yX5_programme cX5_programme 4 (some .int) ∈ WU := wu4 83 rfl rfl
theorem k4_84 : Cond.methodLink RX5 155 yX5_elementsOf ∈ WU := wu4 84 (by decide +kernel) (by decide +kernel)
theorem k4_86 : Cond.instanceMethod yX5_elementsOf ∈ WU := wu4 86 (by decide +kernel) (by decide +kernel)
theorem k4_87 : Cond.code yX5_elementsOf cX5_elementsOf 5 (some .int) ∈ WU := wu4 87 rfl rfl
theorem k4_88 : Cond.methodLink RX5 158 yX5_componentsOf ∈ WU := wu4 88 (by decide +kernel) (by decide +kernel)
theorem k4_90 : Cond.instanceMethod yX5_componentsOf ∈ WU := wu4 90 (by decide +kernel) (by decide +kernel)
theorem k4_91 : Cond.code yX5_componentsOf cX5_componentsOf 5 (some .int) ∈ WU := wu4 91 rfl rfl
theorem k4_92 : Cond.constantDouble RX5 153 4627730092099895296 ∈ WU := wu4 92 (by decide +kernel) (by decide +kernel)
theorem k4_93 : Cond.methodLink RX5 161 yX5_fineOf ∈ WU := wu4 93 (by decide +kernel) (by decide +kernel)
theorem k4_95 : Cond.instanceMethod yX5_fineOf ∈ WU := wu4 95 (by decide +kernel) (by decide +kernel)
theorem k4_96 : Cond.code yX5_fineOf cX5_fineOf 4 (some .int) ∈ WU := wu4 96 rfl rfl
theorem k4_97 : Cond.methodLink RX5 164 yX5_totalOf ∈ WU := wu4 97 (by decide +kernel) (by decide +kernel)
theorem k4_99 : Cond.instanceMethod yX5_totalOf ∈ WU := wu4 99 (by decide +kernel) (by decide +kernel)
theorem k4_100 : Cond.code yX5_totalOf cX5_totalOf 4 (some .int) ∈ WU := wu4 100 rfl rfl
theorem k4_101 : Cond.methodLink RX5 170 yX5_rankOf ∈ WU := wu4 101 (by decide +kernel) (by decide +kernel)
theorem k4_103 : Cond.instanceMethod yX5_rankOf ∈ WU := wu4 103 (by decide +kernel) (by decide +kernel)
theorem k4_104 : Cond.code yX5_rankOf cX5_rankOf 5 (some .int) ∈ WU := wu4 104 rfl rfl
theorem k4_105 : Cond.methodLink RX5 167 yX5_isAhead ∈ WU := wu4 105 (by decide +kernel) (by decide +kernel)
theorem k4_107 : Cond.instanceMethod yX5_isAhead ∈ WU := wu4 107 (by decide +kernel) (by decide +kernel)
theorem k4_108 : Cond.code yX5_isAhead cX5_isAhead 5 (some .boolean) ∈ WU := wu4 108 rfl rfl
theorem k4_109 : Cond.methodLink RL 120 yX5_starts ∈ WU := wu4 109 (by decide +kernel) (by decide +kernel)
theorem k4_110 : Cond.instanceMethod yX5_starts ∈ WU := wu4 110 (by decide +kernel) (by decide +kernel)
theorem k4_111 : Cond.selects RX5 yX5_starts yX5_starts ∈ WU := wu4 111 (by decide +kernel) (by decide +kernel)
theorem k4_112 : Cond.code yX5_starts cX5_starts 9 (some .int) ∈ WU := wu4 112 rfl rfl
theorem k4_113 : Cond.methodLink RL 123 yX5_bias ∈ WU := wu4 113 (by decide +kernel) (by decide +kernel)
theorem k4_114 : Cond.instanceMethod yX5_bias ∈ WU := wu4 114 (by decide +kernel) (by decide +kernel)
theorem k4_115 : Cond.selects RX5 yX5_bias yX5_bias ∈ WU := wu4 115 (by decide +kernel) (by decide +kernel)
theorem k4_116 : Cond.code yX5_bias cX5_bias 8 (some .int) ∈ WU := wu4 116 rfl rfl
theorem k4_117 : Cond.constantDouble RX5 173 4636737291354636288 ∈ WU := wu4 117 (by decide +kernel) (by decide +kernel)
theorem k4_118 : Cond.methodLink RL 128 yX5_addsUp ∈ WU := wu4 118 (by decide +kernel) (by decide +kernel)
theorem k4_119 : Cond.instanceMethod yX5_addsUp ∈ WU := wu4 119 (by decide +kernel) (by decide +kernel)
theorem k4_120 : Cond.selects RX5 yX5_addsUp yX5_addsUp ∈ WU := wu4 120 (by decide +kernel) (by decide +kernel)
theorem k4_121 : Cond.code yX5_addsUp cX5_addsUp 1 (some .boolean) ∈ WU := wu4 121 rfl rfl
theorem k4_122 : Cond.arrayClass .long ∈ WU := wu4 122 (by decide +kernel) (by decide +kernel)
theorem k4_123 : Cond.sameMethod "java/lang/Throwable" "java/lang/Throwable" "fillInStackTrace" "(I)Ljava/lang/Throwable;" ∈ WU := wu4 123 (by decide +kernel) (by decide +kernel)
end
section
theorem dX0_init_0 : decode cX0_init 0 = .ok (.aload_n 0, 1) := by decide +kernel
theorem dX0_init_1 : decode cX0_init 1 = .ok (.invokespecial 3, 3) := by decide +kernel
theorem dX0_init_4 : decode cX0_init 4 = .ok (.aload_n 0, 1) := by decide +kernel
theorem dX0_init_5 : decode cX0_init 5 = .ok (.getstatic 9, 3) := by decide +kernel
theorem dX0_init_8 : decode cX0_init 8 = .ok (.invokevirtual 13, 3) := by decide +kernel
theorem dX0_init_11 : decode cX0_init 11 = .ok (.checkcast 14, 3) := by decide +kernel
theorem dX0_init_14 : decode cX0_init 14 = .ok (.putfield 18, 3) := by decide +kernel
theorem dX0_init_17 : decode cX0_init 17 = .ok (.return_, 1) := by decide +kernel
theorem dX0_hasValue_0 : decode cX0_hasValue 0 = .ok (.iload_n 0, 1) := by decide +kernel
theorem dX0_hasValue_1 : decode cX0_hasValue 1 = .ok (.bipush 6, 2) := by decide +kernel
theorem dX0_hasValue_3 : decode cX0_hasValue 3 = .ok (.if_icmp .ne 10, 3) := by decide +kernel
theorem dX0_hasValue_6 : decode cX0_hasValue 6 = .ok (.iload_n 1, 1) := by decide +kernel
theorem dX0_hasValue_7 : decode cX0_hasValue 7 = .ok (.iconst 0, 1) := by decide +kernel
theorem dX0_hasValue_8 : decode cX0_hasValue 8 = .ok (.iconst 4, 1) := by decide +kernel
theorem dX0_hasValue_9 : decode cX0_hasValue 9 = .ok (.invokestatic 23, 3) := by decide +kernel
theorem dX0_hasValue_12 : decode cX0_hasValue 12 = .ok (.ireturn, 1) := by decide +kernel
theorem dX0_hasValue_13 : decode cX0_hasValue 13 = .ok (.iload_n 0, 1) := by decide +kernel
theorem dX0_hasValue_14 : decode cX0_hasValue 14 = .ok (.iconst 0, 1) := by decide +kernel
theorem dX0_hasValue_15 : decode cX0_hasValue 15 = .ok (.iconst 5, 1) := by decide +kernel
theorem dX0_hasValue_16 : decode cX0_hasValue 16 = .ok (.invokestatic 23, 3) := by decide +kernel
theorem dX0_hasValue_19 : decode cX0_hasValue 19 = .ok (.ifCond .eq 16, 3) := by decide +kernel
theorem dX0_hasValue_22 : decode cX0_hasValue 22 = .ok (.iload_n 1, 1) := by decide +kernel
theorem dX0_hasValue_23 : decode cX0_hasValue 23 = .ok (.iconst 1, 1) := by decide +kernel
theorem dX0_hasValue_24 : decode cX0_hasValue 24 = .ok (.iconst 4, 1) := by decide +kernel
theorem dX0_hasValue_25 : decode cX0_hasValue 25 = .ok (.invokestatic 23, 3) := by decide +kernel
theorem dX0_hasValue_28 : decode cX0_hasValue 28 = .ok (.ifCond .eq 7, 3) := by decide +kernel
theorem dX0_hasValue_31 : decode cX0_hasValue 31 = .ok (.iconst 1, 1) := by decide +kernel
theorem dX0_hasValue_32 : decode cX0_hasValue 32 = .ok (.goto 4, 3) := by decide +kernel
theorem dX0_hasValue_35 : decode cX0_hasValue 35 = .ok (.iconst 0, 1) := by decide +kernel
theorem dX0_hasValue_36 : decode cX0_hasValue 36 = .ok (.ireturn, 1) := by decide +kernel
theorem dX0_valueOf_0 : decode cX0_valueOf 0 = .ok (.iload_n 1, 1) := by decide +kernel
theorem dX0_valueOf_1 : decode cX0_valueOf 1 = .ok (.iconst 5, 1) := by decide +kernel
theorem dX0_valueOf_2 : decode cX0_valueOf 2 = .ok (.imul, 1) := by decide +kernel
theorem dX0_valueOf_3 : decode cX0_valueOf 3 = .ok (.iload_n 2, 1) := by decide +kernel
theorem dX0_valueOf_4 : decode cX0_valueOf 4 = .ok (.iadd, 1) := by decide +kernel
theorem dX0_valueOf_5 : decode cX0_valueOf 5 = .ok (.istore_n 3, 1) := by decide +kernel
theorem dX0_valueOf_6 : decode cX0_valueOf 6 = .ok (.iload_n 3, 1) := by decide +kernel
theorem dX0_valueOf_7 : decode cX0_valueOf 7 = .ok (.ifCond .lt 21, 3) := by decide +kernel
theorem dX0_valueOf_10 : decode cX0_valueOf 10 = .ok (.iload_n 3, 1) := by decide +kernel
theorem dX0_valueOf_11 : decode cX0_valueOf 11 = .ok (.aload_n 0, 1) := by decide +kernel
theorem dX0_valueOf_12 : decode cX0_valueOf 12 = .ok (.getfield 18, 3) := by decide +kernel
theorem dX0_valueOf_15 : decode cX0_valueOf 15 = .ok (.arraylength, 1) := by decide +kernel
theorem dX0_valueOf_16 : decode cX0_valueOf 16 = .ok (.if_icmp .ge 12, 3) := by decide +kernel
theorem dX0_valueOf_19 : decode cX0_valueOf 19 = .ok (.aload_n 0, 1) := by decide +kernel
theorem dX0_valueOf_20 : decode cX0_valueOf 20 = .ok (.getfield 18, 3) := by decide +kernel
theorem dX0_valueOf_23 : decode cX0_valueOf 23 = .ok (.iload_n 3, 1) := by decide +kernel
theorem dX0_valueOf_24 : decode cX0_valueOf 24 = .ok (.iaload, 1) := by decide +kernel
theorem dX0_valueOf_25 : decode cX0_valueOf 25 = .ok (.goto 4, 3) := by decide +kernel
theorem dX0_valueOf_28 : decode cX0_valueOf 28 = .ok (.iconst 0, 1) := by decide +kernel
theorem dX0_valueOf_29 : decode cX0_valueOf 29 = .ok (.ireturn, 1) := by decide +kernel
theorem dX0_replace_0 : decode cX0_replace 0 = .ok (.iload_n 1, 1) := by decide +kernel
theorem dX0_replace_1 : decode cX0_replace 1 = .ok (.iconst 5, 1) := by decide +kernel
theorem dX0_replace_2 : decode cX0_replace 2 = .ok (.imul, 1) := by decide +kernel
theorem dX0_replace_3 : decode cX0_replace 3 = .ok (.iload_n 2, 1) := by decide +kernel
theorem dX0_replace_4 : decode cX0_replace 4 = .ok (.iadd, 1) := by decide +kernel
theorem dX0_replace_5 : decode cX0_replace 5 = .ok (.istore 4, 2) := by decide +kernel
theorem dX0_replace_7 : decode cX0_replace 7 = .ok (.iload 4, 2) := by decide +kernel
theorem dX0_replace_9 : decode cX0_replace 9 = .ok (.ifCond .lt 13, 3) := by decide +kernel
theorem dX0_replace_12 : decode cX0_replace 12 = .ok (.iload 4, 2) := by decide +kernel
theorem dX0_replace_14 : decode cX0_replace 14 = .ok (.aload_n 0, 1) := by decide +kernel
theorem dX0_replace_15 : decode cX0_replace 15 = .ok (.getfield 18, 3) := by decide +kernel
theorem dX0_replace_18 : decode cX0_replace 18 = .ok (.arraylength, 1) := by decide +kernel
theorem dX0_replace_19 : decode cX0_replace 19 = .ok (.if_icmp .lt 5, 3) := by decide +kernel
theorem dX0_replace_22 : decode cX0_replace 22 = .ok (.iconst 0, 1) := by decide +kernel
theorem dX0_replace_23 : decode cX0_replace 23 = .ok (.ireturn, 1) := by decide +kernel
theorem dX0_replace_24 : decode cX0_replace 24 = .ok (.aload_n 0, 1) := by decide +kernel
theorem dX0_replace_25 : decode cX0_replace 25 = .ok (.getfield 18, 3) := by decide +kernel
theorem dX0_replace_28 : decode cX0_replace 28 = .ok (.iload 4, 2) := by decide +kernel
theorem dX0_replace_30 : decode cX0_replace 30 = .ok (.iaload, 1) := by decide +kernel
theorem dX0_replace_31 : decode cX0_replace 31 = .ok (.istore 5, 2) := by decide +kernel
theorem dX0_replace_33 : decode cX0_replace 33 = .ok (.aload_n 0, 1) := by decide +kernel
theorem dX0_replace_34 : decode cX0_replace 34 = .ok (.getfield 18, 3) := by decide +kernel
theorem dX0_replace_37 : decode cX0_replace 37 = .ok (.iload 4, 2) := by decide +kernel
theorem dX0_replace_39 : decode cX0_replace 39 = .ok (.iload_n 3, 1) := by decide +kernel
theorem dX0_replace_40 : decode cX0_replace 40 = .ok (.iastore, 1) := by decide +kernel
theorem dX0_replace_41 : decode cX0_replace 41 = .ok (.iload 5, 2) := by decide +kernel
theorem dX0_replace_43 : decode cX0_replace 43 = .ok (.ireturn, 1) := by decide +kernel
theorem dX1_init_0 : decode cX1_init 0 = .ok (.aload_n 0, 1) := by decide +kernel
theorem dX1_init_1 : decode cX1_init 1 = .ok (.invokespecial 1, 3) := by decide +kernel
theorem dX1_init_4 : decode cX1_init 4 = .ok (.aload_n 0, 1) := by decide +kernel
theorem dX1_init_5 : decode cX1_init 5 = .ok (.new 7, 3) := by decide +kernel
theorem dX1_init_8 : decode cX1_init 8 = .ok (.dup, 1) := by decide +kernel
theorem dX1_init_9 : decode cX1_init 9 = .ok (.invokespecial 9, 3) := by decide +kernel
theorem dX1_init_12 : decode cX1_init 12 = .ok (.putfield 10, 3) := by decide +kernel
theorem dX1_init_15 : decode cX1_init 15 = .ok (.aload_n 0, 1) := by decide +kernel
theorem dX1_init_16 : decode cX1_init 16 = .ok (.new 7, 3) := by decide +kernel
theorem dX1_init_19 : decode cX1_init 19 = .ok (.dup, 1) := by decide +kernel
theorem dX1_init_20 : decode cX1_init 20 = .ok (.invokespecial 9, 3) := by decide +kernel
theorem dX1_init_23 : decode cX1_init 23 = .ok (.putfield 16, 3) := by decide +kernel
theorem dX1_init_26 : decode cX1_init 26 = .ok (.aload_n 0, 1) := by decide +kernel
theorem dX1_init_27 : decode cX1_init 27 = .ok (.iload_n 1, 1) := by decide +kernel
theorem dX1_init_28 : decode cX1_init 28 = .ok (.putfield 19, 3) := by decide +kernel
theorem dX1_init_31 : decode cX1_init 31 = .ok (.aload_n 0, 1) := by decide +kernel
theorem dX1_init_32 : decode cX1_init 32 = .ok (.iload_n 2, 1) := by decide +kernel
theorem dX1_init_33 : decode cX1_init 33 = .ok (.putfield 23, 3) := by decide +kernel
theorem dX1_init_36 : decode cX1_init 36 = .ok (.aload_n 0, 1) := by decide +kernel
theorem dX1_init_37 : decode cX1_init 37 = .ok (.iload_n 3, 1) := by decide +kernel
theorem dX1_init_38 : decode cX1_init 38 = .ok (.putfield 26, 3) := by decide +kernel
theorem dX1_init_41 : decode cX1_init 41 = .ok (.aload_n 0, 1) := by decide +kernel
theorem dX1_init_42 : decode cX1_init 42 = .ok (.iload 4, 2) := by decide +kernel
theorem dX1_init_44 : decode cX1_init 44 = .ok (.putfield 30, 3) := by decide +kernel
theorem dX1_init_47 : decode cX1_init 47 = .ok (.aload_n 0, 1) := by decide +kernel
theorem dX1_init_48 : decode cX1_init 48 = .ok (.iload 5, 2) := by decide +kernel
theorem dX1_init_50 : decode cX1_init 50 = .ok (.putfield 33, 3) := by decide +kernel
theorem dX1_init_53 : decode cX1_init 53 = .ok (.aload_n 0, 1) := by decide +kernel
theorem dX1_init_54 : decode cX1_init 54 = .ok (.iload 6, 2) := by decide +kernel
theorem dX1_init_56 : decode cX1_init 56 = .ok (.putfield 36, 3) := by decide +kernel
theorem dX1_init_59 : decode cX1_init 59 = .ok (.return_, 1) := by decide +kernel
theorem dX1_quarters_0 : decode cX1_quarters 0 = .ok (.aload_n 0, 1) := by decide +kernel
theorem dX1_quarters_1 : decode cX1_quarters 1 = .ok (.getfield 10, 3) := by decide +kernel
theorem dX1_quarters_4 : decode cX1_quarters 4 = .ok (.invokevirtual 39, 3) := by decide +kernel
theorem dX1_quarters_7 : decode cX1_quarters 7 = .ok (.ireturn, 1) := by decide +kernel
theorem dX1_baseBy_0 : decode cX1_baseBy 0 = .ok (.aload_n 0, 1) := by decide +kernel
theorem dX1_baseBy_1 : decode cX1_baseBy 1 = .ok (.getfield 36, 3) := by decide +kernel
theorem dX1_baseBy_4 : decode cX1_baseBy 4 = .ok (.ifCond .ne 5, 3) := by decide +kernel
theorem dX1_baseBy_7 : decode cX1_baseBy 7 = .ok (.iconst 0, 1) := by decide +kernel
theorem dX1_baseBy_8 : decode cX1_baseBy 8 = .ok (.ireturn, 1) := by decide +kernel
theorem dX1_baseBy_9 : decode cX1_baseBy 9 = .ok (.aload_n 0, 1) := by decide +kernel
theorem dX1_baseBy_10 : decode cX1_baseBy 10 = .ok (.getfield 10, 3) := by decide +kernel
theorem dX1_baseBy_13 : decode cX1_baseBy 13 = .ok (.invokevirtual 39, 3) := by decide +kernel
theorem dX1_baseBy_16 : decode cX1_baseBy 16 = .ok (.istore_n 2, 1) := by decide +kernel
theorem dX1_baseBy_17 : decode cX1_baseBy 17 = .ok (.aload_n 1, 1) := by decide +kernel
theorem dX1_baseBy_18 : decode cX1_baseBy 18 = .ok (.aload_n 0, 1) := by decide +kernel
theorem dX1_baseBy_19 : decode cX1_baseBy 19 = .ok (.getfield 19, 3) := by decide +kernel
theorem dX1_baseBy_22 : decode cX1_baseBy 22 = .ok (.iload_n 2, 1) := by decide +kernel
theorem dX1_baseBy_23 : decode cX1_baseBy 23 = .ok (.iconst 3, 1) := by decide +kernel
theorem dX1_baseBy_24 : decode cX1_baseBy 24 = .ok (.if_icmp .lt 12, 3) := by decide +kernel
theorem dX1_baseBy_27 : decode cX1_baseBy 27 = .ok (.aload_n 0, 1) := by decide +kernel
theorem dX1_baseBy_28 : decode cX1_baseBy 28 = .ok (.getfield 23, 3) := by decide +kernel
theorem dX1_baseBy_31 : decode cX1_baseBy 31 = .ok (.iconst 1, 1) := by decide +kernel
theorem dX1_baseBy_32 : decode cX1_baseBy 32 = .ok (.isub, 1) := by decide +kernel
theorem dX1_baseBy_33 : decode cX1_baseBy 33 = .ok (.goto 7, 3) := by decide +kernel
theorem dX1_baseBy_36 : decode cX1_baseBy 36 = .ok (.aload_n 0, 1) := by decide +kernel
theorem dX1_baseBy_37 : decode cX1_baseBy 37 = .ok (.getfield 23, 3) := by decide +kernel
theorem dX1_baseBy_40 : decode cX1_baseBy 40 = .ok (.invokevirtual 43, 3) := by decide +kernel
theorem dX1_baseBy_43 : decode cX1_baseBy 43 = .ok (.istore_n 3, 1) := by decide +kernel
theorem dX1_baseBy_44 : decode cX1_baseBy 44 = .ok (.iload_n 2, 1) := by decide +kernel
theorem dX1_baseBy_45 : decode cX1_baseBy 45 = .ok (.iconst 2, 1) := by decide +kernel
theorem dX1_baseBy_46 : decode cX1_baseBy 46 = .ok (.if_icmp .ne 13, 3) := by decide +kernel
theorem dX1_baseBy_49 : decode cX1_baseBy 49 = .ok (.iload_n 3, 1) := by decide +kernel
theorem dX1_baseBy_50 : decode cX1_baseBy 50 = .ok (.i2d, 1) := by decide +kernel
theorem dX1_baseBy_51 : decode cX1_baseBy 51 = .ok (.ldc2_w 49, 3) := by decide +kernel
theorem dX1_baseBy_54 : decode cX1_baseBy 54 = .ok (.dmul, 1) := by decide +kernel
theorem dX1_baseBy_55 : decode cX1_baseBy 55 = .ok (.invokestatic 51, 3) := by decide +kernel
theorem dX1_baseBy_58 : decode cX1_baseBy 58 = .ok (.istore_n 3, 1) := by decide +kernel
theorem dX1_baseBy_59 : decode cX1_baseBy 59 = .ok (.aload_n 0, 1) := by decide +kernel
theorem dX1_baseBy_60 : decode cX1_baseBy 60 = .ok (.getfield 26, 3) := by decide +kernel
theorem dX1_baseBy_63 : decode cX1_baseBy 63 = .ok (.ifCond .eq 13, 3) := by decide +kernel
theorem dX1_baseBy_66 : decode cX1_baseBy 66 = .ok (.iload_n 3, 1) := by decide +kernel
theorem dX1_baseBy_67 : decode cX1_baseBy 67 = .ok (.i2d, 1) := by decide +kernel
theorem dX1_baseBy_68 : decode cX1_baseBy 68 = .ok (.ldc2_w 49, 3) := by decide +kernel
theorem dX1_baseBy_71 : decode cX1_baseBy 71 = .ok (.dmul, 1) := by decide +kernel
theorem dX1_baseBy_72 : decode cX1_baseBy 72 = .ok (.invokestatic 51, 3) := by decide +kernel
theorem dX1_baseBy_75 : decode cX1_baseBy 75 = .ok (.istore_n 3, 1) := by decide +kernel
theorem dX1_baseBy_76 : decode cX1_baseBy 76 = .ok (.aload_n 0, 1) := by decide +kernel
theorem dX1_baseBy_77 : decode cX1_baseBy 77 = .ok (.getfield 30, 3) := by decide +kernel
theorem dX1_baseBy_80 : decode cX1_baseBy 80 = .ok (.ifCond .eq 13, 3) := by decide +kernel
theorem dX1_baseBy_83 : decode cX1_baseBy 83 = .ok (.iload_n 3, 1) := by decide +kernel
theorem dX1_baseBy_84 : decode cX1_baseBy 84 = .ok (.i2d, 1) := by decide +kernel
theorem dX1_baseBy_85 : decode cX1_baseBy 85 = .ok (.ldc2_w 57, 3) := by decide +kernel
theorem dX1_baseBy_88 : decode cX1_baseBy 88 = .ok (.dmul, 1) := by decide +kernel
theorem dX1_baseBy_89 : decode cX1_baseBy 89 = .ok (.invokestatic 51, 3) := by decide +kernel
theorem dX1_baseBy_92 : decode cX1_baseBy 92 = .ok (.istore_n 3, 1) := by decide +kernel
theorem dX1_baseBy_93 : decode cX1_baseBy 93 = .ok (.iload_n 3, 1) := by decide +kernel
theorem dX1_baseBy_94 : decode cX1_baseBy 94 = .ok (.ireturn, 1) := by decide +kernel
theorem dX1_scoreBy_0 : decode cX1_scoreBy 0 = .ok (.aload_n 0, 1) := by decide +kernel
theorem dX1_scoreBy_1 : decode cX1_scoreBy 1 = .ok (.aload_n 1, 1) := by decide +kernel
theorem dX1_scoreBy_2 : decode cX1_scoreBy 2 = .ok (.invokevirtual 59, 3) := by decide +kernel
theorem dX1_scoreBy_5 : decode cX1_scoreBy 5 = .ok (.istore_n 2, 1) := by decide +kernel
theorem dX1_scoreBy_6 : decode cX1_scoreBy 6 = .ok (.iload_n 2, 1) := by decide +kernel
theorem dX1_scoreBy_7 : decode cX1_scoreBy 7 = .ok (.iload_n 2, 1) := by decide +kernel
theorem dX1_scoreBy_8 : decode cX1_scoreBy 8 = .ok (.i2d, 1) := by decide +kernel
theorem dX1_scoreBy_9 : decode cX1_scoreBy 9 = .ok (.aload_n 0, 1) := by decide +kernel
theorem dX1_scoreBy_10 : decode cX1_scoreBy 10 = .ok (.getfield 16, 3) := by decide +kernel
theorem dX1_scoreBy_13 : decode cX1_scoreBy 13 = .ok (.invokevirtual 63, 3) := by decide +kernel
theorem dX1_scoreBy_16 : decode cX1_scoreBy 16 = .ok (.dmul, 1) := by decide +kernel
theorem dX1_scoreBy_17 : decode cX1_scoreBy 17 = .ok (.ldc2_w 67, 3) := by decide +kernel
theorem dX1_scoreBy_20 : decode cX1_scoreBy 20 = .ok (.ddiv, 1) := by decide +kernel
theorem dX1_scoreBy_21 : decode cX1_scoreBy 21 = .ok (.invokestatic 51, 3) := by decide +kernel
theorem dX1_scoreBy_24 : decode cX1_scoreBy 24 = .ok (.iadd, 1) := by decide +kernel
theorem dX1_scoreBy_25 : decode cX1_scoreBy 25 = .ok (.ireturn, 1) := by decide +kernel
theorem dX2_init_0 : decode cX2_init 0 = .ok (.aload_n 0, 1) := by decide +kernel
theorem dX2_init_1 : decode cX2_init 1 = .ok (.invokespecial 3, 3) := by decide +kernel
theorem dX2_init_4 : decode cX2_init 4 = .ok (.aload_n 0, 1) := by decide +kernel
theorem dX2_init_5 : decode cX2_init 5 = .ok (.bipush 12, 2) := by decide +kernel
theorem dX2_init_7 : decode cX2_init 7 = .ok (.anewarray 9, 3) := by decide +kernel
theorem dX2_init_10 : decode cX2_init 10 = .ok (.putfield 11, 3) := by decide +kernel
theorem dX2_init_13 : decode cX2_init 13 = .ok (.aload_n 0, 1) := by decide +kernel
theorem dX2_init_14 : decode cX2_init 14 = .ok (.iconst 3, 1) := by decide +kernel
theorem dX2_init_15 : decode cX2_init 15 = .ok (.anewarray 17, 3) := by decide +kernel
theorem dX2_init_18 : decode cX2_init 18 = .ok (.putfield 19, 3) := by decide +kernel
theorem dX2_init_21 : decode cX2_init 21 = .ok (.aload_n 0, 1) := by decide +kernel
theorem dX2_init_22 : decode cX2_init 22 = .ok (.iconst 0, 1) := by decide +kernel
theorem dX2_init_23 : decode cX2_init 23 = .ok (.putfield 23, 3) := by decide +kernel
theorem dX2_init_26 : decode cX2_init 26 = .ok (.aload_n 0, 1) := by decide +kernel
theorem dX2_init_27 : decode cX2_init 27 = .ok (.iconst 0, 1) := by decide +kernel
theorem dX2_init_28 : decode cX2_init 28 = .ok (.putfield 27, 3) := by decide +kernel
theorem dX2_init_31 : decode cX2_init 31 = .ok (.aload_n 0, 1) := by decide +kernel
theorem dX2_init_32 : decode cX2_init 32 = .ok (.iconst 0, 1) := by decide +kernel
theorem dX2_init_33 : decode cX2_init 33 = .ok (.putfield 30, 3) := by decide +kernel
theorem dX2_init_36 : decode cX2_init 36 = .ok (.aload_n 0, 1) := by decide +kernel
theorem dX2_init_37 : decode cX2_init 37 = .ok (.iconst 1, 1) := by decide +kernel
theorem dX2_init_38 : decode cX2_init 38 = .ok (.putfield 34, 3) := by decide +kernel
theorem dX2_init_41 : decode cX2_init 41 = .ok (.aload_n 0, 1) := by decide +kernel
theorem dX2_init_42 : decode cX2_init 42 = .ok (.iconst 0, 1) := by decide +kernel
theorem dX2_init_43 : decode cX2_init 43 = .ok (.putfield 37, 3) := by decide +kernel
theorem dX2_init_46 : decode cX2_init 46 = .ok (.aload_n 0, 1) := by decide +kernel
theorem dX2_init_47 : decode cX2_init 47 = .ok (.iconst 0, 1) := by decide +kernel
theorem dX2_init_48 : decode cX2_init 48 = .ok (.putfield 40, 3) := by decide +kernel
theorem dX2_init_51 : decode cX2_init 51 = .ok (.aload_n 0, 1) := by decide +kernel
theorem dX2_init_52 : decode cX2_init 52 = .ok (.iconst 0, 1) := by decide +kernel
theorem dX2_init_53 : decode cX2_init 53 = .ok (.putfield 43, 3) := by decide +kernel
theorem dX2_init_56 : decode cX2_init 56 = .ok (.aload_n 0, 1) := by decide +kernel
theorem dX2_init_57 : decode cX2_init 57 = .ok (.iconst 0, 1) := by decide +kernel
theorem dX2_init_58 : decode cX2_init 58 = .ok (.putfield 46, 3) := by decide +kernel
theorem dX2_init_61 : decode cX2_init 61 = .ok (.aload_n 0, 1) := by decide +kernel
theorem dX2_init_62 : decode cX2_init 62 = .ok (.iconst 0, 1) := by decide +kernel
theorem dX2_init_63 : decode cX2_init 63 = .ok (.putfield 49, 3) := by decide +kernel
theorem dX2_init_66 : decode cX2_init 66 = .ok (.aload_n 0, 1) := by decide +kernel
theorem dX2_init_67 : decode cX2_init 67 = .ok (.iconst 0, 1) := by decide +kernel
theorem dX2_init_68 : decode cX2_init 68 = .ok (.putfield 52, 3) := by decide +kernel
theorem dX2_init_71 : decode cX2_init 71 = .ok (.iconst 0, 1) := by decide +kernel
theorem dX2_init_72 : decode cX2_init 72 = .ok (.istore_n 1, 1) := by decide +kernel
theorem dX2_init_73 : decode cX2_init 73 = .ok (.iload_n 1, 1) := by decide +kernel
theorem dX2_init_74 : decode cX2_init 74 = .ok (.aload_n 0, 1) := by decide +kernel
theorem dX2_init_75 : decode cX2_init 75 = .ok (.getfield 19, 3) := by decide +kernel
theorem dX2_init_78 : decode cX2_init 78 = .ok (.arraylength, 1) := by decide +kernel
theorem dX2_init_79 : decode cX2_init 79 = .ok (.if_icmp .ge 22, 3) := by decide +kernel
theorem dX2_init_82 : decode cX2_init 82 = .ok (.aload_n 0, 1) := by decide +kernel
theorem dX2_init_83 : decode cX2_init 83 = .ok (.getfield 19, 3) := by decide +kernel
theorem dX2_init_86 : decode cX2_init 86 = .ok (.iload_n 1, 1) := by decide +kernel
theorem dX2_init_87 : decode cX2_init 87 = .ok (.new 17, 3) := by decide +kernel
theorem dX2_init_90 : decode cX2_init 90 = .ok (.dup, 1) := by decide +kernel
theorem dX2_init_91 : decode cX2_init 91 = .ok (.invokespecial 55, 3) := by decide +kernel
theorem dX2_init_94 : decode cX2_init 94 = .ok (.aastore, 1) := by decide +kernel
theorem dX2_init_95 : decode cX2_init 95 = .ok (.iinc 1 1, 3) := by decide +kernel
theorem dX2_init_98 : decode cX2_init 98 = .ok (.goto (-25), 3) := by decide +kernel
theorem dX2_init_101 : decode cX2_init 101 = .ok (.return_, 1) := by decide +kernel
theorem dX2_elementAt_0 : decode cX2_elementAt 0 = .ok (.iload_n 1, 1) := by decide +kernel
theorem dX2_elementAt_1 : decode cX2_elementAt 1 = .ok (.ifCond .lt 21, 3) := by decide +kernel
theorem dX2_elementAt_4 : decode cX2_elementAt 4 = .ok (.iload_n 1, 1) := by decide +kernel
theorem dX2_elementAt_5 : decode cX2_elementAt 5 = .ok (.aload_n 0, 1) := by decide +kernel
theorem dX2_elementAt_6 : decode cX2_elementAt 6 = .ok (.getfield 11, 3) := by decide +kernel
theorem dX2_elementAt_9 : decode cX2_elementAt 9 = .ok (.arraylength, 1) := by decide +kernel
theorem dX2_elementAt_10 : decode cX2_elementAt 10 = .ok (.if_icmp .ge 12, 3) := by decide +kernel
theorem dX2_elementAt_13 : decode cX2_elementAt 13 = .ok (.aload_n 0, 1) := by decide +kernel
theorem dX2_elementAt_14 : decode cX2_elementAt 14 = .ok (.getfield 11, 3) := by decide +kernel
theorem dX2_elementAt_17 : decode cX2_elementAt 17 = .ok (.iload_n 1, 1) := by decide +kernel
theorem dX2_elementAt_18 : decode cX2_elementAt 18 = .ok (.aaload, 1) := by decide +kernel
theorem dX2_elementAt_19 : decode cX2_elementAt 19 = .ok (.goto 4, 3) := by decide +kernel
theorem dX2_elementAt_22 : decode cX2_elementAt 22 = .ok (.aconst_null, 1) := by decide +kernel
theorem dX2_elementAt_23 : decode cX2_elementAt 23 = .ok (.areturn, 1) := by decide +kernel
theorem dX2_componentAt_0 : decode cX2_componentAt 0 = .ok (.iload_n 1, 1) := by decide +kernel
theorem dX2_componentAt_1 : decode cX2_componentAt 1 = .ok (.ifCond .lt 21, 3) := by decide +kernel
theorem dX2_componentAt_4 : decode cX2_componentAt 4 = .ok (.iload_n 1, 1) := by decide +kernel
theorem dX2_componentAt_5 : decode cX2_componentAt 5 = .ok (.aload_n 0, 1) := by decide +kernel
theorem dX2_componentAt_6 : decode cX2_componentAt 6 = .ok (.getfield 19, 3) := by decide +kernel
theorem dX2_componentAt_9 : decode cX2_componentAt 9 = .ok (.arraylength, 1) := by decide +kernel
theorem dX2_componentAt_10 : decode cX2_componentAt 10 = .ok (.if_icmp .ge 12, 3) := by decide +kernel
theorem dX2_componentAt_13 : decode cX2_componentAt 13 = .ok (.aload_n 0, 1) := by decide +kernel
theorem dX2_componentAt_14 : decode cX2_componentAt 14 = .ok (.getfield 19, 3) := by decide +kernel
theorem dX2_componentAt_17 : decode cX2_componentAt 17 = .ok (.iload_n 1, 1) := by decide +kernel
theorem dX2_componentAt_18 : decode cX2_componentAt 18 = .ok (.aaload, 1) := by decide +kernel
theorem dX2_componentAt_19 : decode cX2_componentAt 19 = .ok (.goto 4, 3) := by decide +kernel
theorem dX2_componentAt_22 : decode cX2_componentAt 22 = .ok (.aconst_null, 1) := by decide +kernel
theorem dX2_componentAt_23 : decode cX2_componentAt 23 = .ok (.areturn, 1) := by decide +kernel
theorem dX2_hasTime_0 : decode cX2_hasTime 0 = .ok (.aload_n 0, 1) := by decide +kernel
theorem dX2_hasTime_1 : decode cX2_hasTime 1 = .ok (.getfield 40, 3) := by decide +kernel
theorem dX2_hasTime_4 : decode cX2_hasTime 4 = .ok (.sipush 240, 3) := by decide +kernel
theorem dX2_hasTime_7 : decode cX2_hasTime 7 = .ok (.if_icmp .ge 7, 3) := by decide +kernel
theorem dX2_hasTime_10 : decode cX2_hasTime 10 = .ok (.iconst 1, 1) := by decide +kernel
theorem dX2_hasTime_11 : decode cX2_hasTime 11 = .ok (.goto 4, 3) := by decide +kernel
theorem dX2_hasTime_14 : decode cX2_hasTime 14 = .ok (.iconst 0, 1) := by decide +kernel
theorem dX2_hasTime_15 : decode cX2_hasTime 15 = .ok (.ireturn, 1) := by decide +kernel
theorem dX2_hasRoom_0 : decode cX2_hasRoom 0 = .ok (.aload_n 0, 1) := by decide +kernel
theorem dX2_hasRoom_1 : decode cX2_hasRoom 1 = .ok (.invokevirtual 56, 3) := by decide +kernel
theorem dX2_hasRoom_4 : decode cX2_hasRoom 4 = .ok (.ifCond .eq 19, 3) := by decide +kernel
theorem dX2_hasRoom_7 : decode cX2_hasRoom 7 = .ok (.aload_n 0, 1) := by decide +kernel
theorem dX2_hasRoom_8 : decode cX2_hasRoom 8 = .ok (.getfield 43, 3) := by decide +kernel
theorem dX2_hasRoom_11 : decode cX2_hasRoom 11 = .ok (.aload_n 0, 1) := by decide +kernel
theorem dX2_hasRoom_12 : decode cX2_hasRoom 12 = .ok (.getfield 11, 3) := by decide +kernel
theorem dX2_hasRoom_15 : decode cX2_hasRoom 15 = .ok (.arraylength, 1) := by decide +kernel
theorem dX2_hasRoom_16 : decode cX2_hasRoom 16 = .ok (.if_icmp .ge 7, 3) := by decide +kernel
theorem dX2_hasRoom_19 : decode cX2_hasRoom 19 = .ok (.iconst 1, 1) := by decide +kernel
theorem dX2_hasRoom_20 : decode cX2_hasRoom 20 = .ok (.goto 4, 3) := by decide +kernel
theorem dX2_hasRoom_23 : decode cX2_hasRoom 23 = .ok (.iconst 0, 1) := by decide +kernel
theorem dX2_hasRoom_24 : decode cX2_hasRoom 24 = .ok (.ireturn, 1) := by decide +kernel
theorem dX2_skateTurn_0 : decode cX2_skateTurn 0 = .ok (.iload_n 1, 1) := by decide +kernel
theorem dX2_skateTurn_1 : decode cX2_skateTurn 1 = .ok (.iconst 2, 1) := by decide +kernel
theorem dX2_skateTurn_2 : decode cX2_skateTurn 2 = .ok (.if_icmp .eq 13, 3) := by decide +kernel
theorem dX2_skateTurn_5 : decode cX2_skateTurn 5 = .ok (.iload_n 1, 1) := by decide +kernel
theorem dX2_skateTurn_6 : decode cX2_skateTurn 6 = .ok (.iconst 3, 1) := by decide +kernel
theorem dX2_skateTurn_7 : decode cX2_skateTurn 7 = .ok (.if_icmp .eq 8, 3) := by decide +kernel
theorem dX2_skateTurn_10 : decode cX2_skateTurn 10 = .ok (.iload_n 1, 1) := by decide +kernel
theorem dX2_skateTurn_11 : decode cX2_skateTurn 11 = .ok (.iconst 5, 1) := by decide +kernel
theorem dX2_skateTurn_12 : decode cX2_skateTurn 12 = .ok (.if_icmp .ne 13, 3) := by decide +kernel
theorem dX2_skateTurn_15 : decode cX2_skateTurn 15 = .ok (.aload_n 0, 1) := by decide +kernel
theorem dX2_skateTurn_16 : decode cX2_skateTurn 16 = .ok (.iconst 1, 1) := by decide +kernel
theorem dX2_skateTurn_17 : decode cX2_skateTurn 17 = .ok (.aload_n 0, 1) := by decide +kernel
theorem dX2_skateTurn_18 : decode cX2_skateTurn 18 = .ok (.getfield 30, 3) := by decide +kernel
theorem dX2_skateTurn_21 : decode cX2_skateTurn 21 = .ok (.isub, 1) := by decide +kernel
theorem dX2_skateTurn_22 : decode cX2_skateTurn 22 = .ok (.putfield 30, 3) := by decide +kernel
theorem dX2_skateTurn_25 : decode cX2_skateTurn 25 = .ok (.iload_n 1, 1) := by decide +kernel
theorem dX2_skateTurn_26 : decode cX2_skateTurn 26 = .ok (.ifCond .eq 13, 3) := by decide +kernel
theorem dX2_skateTurn_29 : decode cX2_skateTurn 29 = .ok (.iload_n 1, 1) := by decide +kernel
theorem dX2_skateTurn_30 : decode cX2_skateTurn 30 = .ok (.iconst 3, 1) := by decide +kernel
theorem dX2_skateTurn_31 : decode cX2_skateTurn 31 = .ok (.if_icmp .eq 8, 3) := by decide +kernel
theorem dX2_skateTurn_34 : decode cX2_skateTurn 34 = .ok (.iload_n 1, 1) := by decide +kernel
theorem dX2_skateTurn_35 : decode cX2_skateTurn 35 = .ok (.iconst 4, 1) := by decide +kernel
theorem dX2_skateTurn_36 : decode cX2_skateTurn 36 = .ok (.if_icmp .ne 13, 3) := by decide +kernel
theorem dX2_skateTurn_39 : decode cX2_skateTurn 39 = .ok (.aload_n 0, 1) := by decide +kernel
theorem dX2_skateTurn_40 : decode cX2_skateTurn 40 = .ok (.iconst 1, 1) := by decide +kernel
theorem dX2_skateTurn_41 : decode cX2_skateTurn 41 = .ok (.aload_n 0, 1) := by decide +kernel
theorem dX2_skateTurn_42 : decode cX2_skateTurn 42 = .ok (.getfield 34, 3) := by decide +kernel
theorem dX2_skateTurn_45 : decode cX2_skateTurn 45 = .ok (.isub, 1) := by decide +kernel
theorem dX2_skateTurn_46 : decode cX2_skateTurn 46 = .ok (.putfield 34, 3) := by decide +kernel
theorem dX2_skateTurn_49 : decode cX2_skateTurn 49 = .ok (.iload_n 1, 1) := by decide +kernel
theorem dX2_skateTurn_50 : decode cX2_skateTurn 50 = .ok (.ifCond .eq 18, 3) := by decide +kernel
theorem dX2_skateTurn_53 : decode cX2_skateTurn 53 = .ok (.iload_n 1, 1) := by decide +kernel
theorem dX2_skateTurn_54 : decode cX2_skateTurn 54 = .ok (.iconst 1, 1) := by decide +kernel
theorem dX2_skateTurn_55 : decode cX2_skateTurn 55 = .ok (.if_icmp .eq 13, 3) := by decide +kernel
theorem dX2_skateTurn_58 : decode cX2_skateTurn 58 = .ok (.iload_n 1, 1) := by decide +kernel
theorem dX2_skateTurn_59 : decode cX2_skateTurn 59 = .ok (.iconst 2, 1) := by decide +kernel
theorem dX2_skateTurn_60 : decode cX2_skateTurn 60 = .ok (.if_icmp .eq 8, 3) := by decide +kernel
theorem dX2_skateTurn_63 : decode cX2_skateTurn 63 = .ok (.iload_n 1, 1) := by decide +kernel
theorem dX2_skateTurn_64 : decode cX2_skateTurn 64 = .ok (.iconst 3, 1) := by decide +kernel
theorem dX2_skateTurn_65 : decode cX2_skateTurn 65 = .ok (.if_icmp .ne 13, 3) := by decide +kernel
theorem dX2_skateTurn_68 : decode cX2_skateTurn 68 = .ok (.aload_n 0, 1) := by decide +kernel
theorem dX2_skateTurn_69 : decode cX2_skateTurn 69 = .ok (.iconst 1, 1) := by decide +kernel
theorem dX2_skateTurn_70 : decode cX2_skateTurn 70 = .ok (.aload_n 0, 1) := by decide +kernel
theorem dX2_skateTurn_71 : decode cX2_skateTurn 71 = .ok (.getfield 37, 3) := by decide +kernel
theorem dX2_skateTurn_74 : decode cX2_skateTurn 74 = .ok (.isub, 1) := by decide +kernel
theorem dX2_skateTurn_75 : decode cX2_skateTurn 75 = .ok (.putfield 37, 3) := by decide +kernel
theorem dX2_skateTurn_78 : decode cX2_skateTurn 78 = .ok (.aload_n 0, 1) := by decide +kernel
theorem dX2_skateTurn_79 : decode cX2_skateTurn 79 = .ok (.dup, 1) := by decide +kernel
theorem dX2_skateTurn_80 : decode cX2_skateTurn 80 = .ok (.getfield 40, 3) := by decide +kernel
theorem dX2_skateTurn_83 : decode cX2_skateTurn 83 = .ok (.iconst 2, 1) := by decide +kernel
theorem dX2_skateTurn_84 : decode cX2_skateTurn 84 = .ok (.iadd, 1) := by decide +kernel
theorem dX2_skateTurn_85 : decode cX2_skateTurn 85 = .ok (.putfield 40, 3) := by decide +kernel
theorem dX2_skateTurn_88 : decode cX2_skateTurn 88 = .ok (.iconst 4, 1) := by decide +kernel
theorem dX2_skateTurn_89 : decode cX2_skateTurn 89 = .ok (.aload_n 0, 1) := by decide +kernel
theorem dX2_skateTurn_90 : decode cX2_skateTurn 90 = .ok (.getfield 30, 3) := by decide +kernel
theorem dX2_skateTurn_93 : decode cX2_skateTurn 93 = .ok (.imul, 1) := by decide +kernel
theorem dX2_skateTurn_94 : decode cX2_skateTurn 94 = .ok (.iconst 2, 1) := by decide +kernel
theorem dX2_skateTurn_95 : decode cX2_skateTurn 95 = .ok (.aload_n 0, 1) := by decide +kernel
theorem dX2_skateTurn_96 : decode cX2_skateTurn 96 = .ok (.getfield 34, 3) := by decide +kernel
theorem dX2_skateTurn_99 : decode cX2_skateTurn 99 = .ok (.imul, 1) := by decide +kernel
theorem dX2_skateTurn_100 : decode cX2_skateTurn 100 = .ok (.iadd, 1) := by decide +kernel
theorem dX2_skateTurn_101 : decode cX2_skateTurn 101 = .ok (.aload_n 0, 1) := by decide +kernel
theorem dX2_skateTurn_102 : decode cX2_skateTurn 102 = .ok (.getfield 37, 3) := by decide +kernel
theorem dX2_skateTurn_105 : decode cX2_skateTurn 105 = .ok (.iadd, 1) := by decide +kernel
theorem dX2_skateTurn_106 : decode cX2_skateTurn 106 = .ok (.ireturn, 1) := by decide +kernel
theorem dX2_canTakeOff_0 : decode cX2_canTakeOff 0 = .ok (.iload_n 1, 1) := by decide +kernel
theorem dX2_canTakeOff_1 : decode cX2_canTakeOff 1 = .ok (.ifCond .eq 8, 3) := by decide +kernel
theorem dX2_canTakeOff_4 : decode cX2_canTakeOff 4 = .ok (.iload_n 1, 1) := by decide +kernel
theorem dX2_canTakeOff_5 : decode cX2_canTakeOff 5 = .ok (.iconst 2, 1) := by decide +kernel
theorem dX2_canTakeOff_6 : decode cX2_canTakeOff 6 = .ok (.if_icmp .ne 7, 3) := by decide +kernel
theorem dX2_canTakeOff_9 : decode cX2_canTakeOff 9 = .ok (.iconst 1, 1) := by decide +kernel
theorem dX2_canTakeOff_10 : decode cX2_canTakeOff 10 = .ok (.goto 4, 3) := by decide +kernel
theorem dX2_canTakeOff_13 : decode cX2_canTakeOff 13 = .ok (.iconst 0, 1) := by decide +kernel
theorem dX2_canTakeOff_14 : decode cX2_canTakeOff 14 = .ok (.istore_n 2, 1) := by decide +kernel
theorem dX2_canTakeOff_15 : decode cX2_canTakeOff 15 = .ok (.iload_n 1, 1) := by decide +kernel
theorem dX2_canTakeOff_16 : decode cX2_canTakeOff 16 = .ok (.iconst 5, 1) := by decide +kernel
theorem dX2_canTakeOff_17 : decode cX2_canTakeOff 17 = .ok (.if_icmp .ne 7, 3) := by decide +kernel
theorem dX2_canTakeOff_20 : decode cX2_canTakeOff 20 = .ok (.iconst 0, 1) := by decide +kernel
theorem dX2_canTakeOff_21 : decode cX2_canTakeOff 21 = .ok (.goto 4, 3) := by decide +kernel
theorem dX2_canTakeOff_24 : decode cX2_canTakeOff 24 = .ok (.iconst 1, 1) := by decide +kernel
theorem dX2_canTakeOff_25 : decode cX2_canTakeOff 25 = .ok (.istore_n 3, 1) := by decide +kernel
theorem dX2_canTakeOff_26 : decode cX2_canTakeOff 26 = .ok (.iload_n 1, 1) := by decide +kernel
theorem dX2_canTakeOff_27 : decode cX2_canTakeOff 27 = .ok (.iconst 3, 1) := by decide +kernel
theorem dX2_canTakeOff_28 : decode cX2_canTakeOff 28 = .ok (.if_icmp .eq 8, 3) := by decide +kernel
theorem dX2_canTakeOff_31 : decode cX2_canTakeOff 31 = .ok (.iload_n 1, 1) := by decide +kernel
theorem dX2_canTakeOff_32 : decode cX2_canTakeOff 32 = .ok (.iconst 4, 1) := by decide +kernel
theorem dX2_canTakeOff_33 : decode cX2_canTakeOff 33 = .ok (.if_icmp .ne 7, 3) := by decide +kernel
theorem dX2_canTakeOff_36 : decode cX2_canTakeOff 36 = .ok (.iconst 1, 1) := by decide +kernel
theorem dX2_canTakeOff_37 : decode cX2_canTakeOff 37 = .ok (.goto 4, 3) := by decide +kernel
theorem dX2_canTakeOff_40 : decode cX2_canTakeOff 40 = .ok (.iconst 0, 1) := by decide +kernel
theorem dX2_canTakeOff_41 : decode cX2_canTakeOff 41 = .ok (.istore 4, 2) := by decide +kernel
theorem dX2_canTakeOff_43 : decode cX2_canTakeOff 43 = .ok (.aload_n 0, 1) := by decide +kernel
theorem dX2_canTakeOff_44 : decode cX2_canTakeOff 44 = .ok (.getfield 30, 3) := by decide +kernel
theorem dX2_canTakeOff_47 : decode cX2_canTakeOff 47 = .ok (.iload_n 2, 1) := by decide +kernel
theorem dX2_canTakeOff_48 : decode cX2_canTakeOff 48 = .ok (.if_icmp .ne 28, 3) := by decide +kernel
theorem dX2_canTakeOff_51 : decode cX2_canTakeOff 51 = .ok (.aload_n 0, 1) := by decide +kernel
theorem dX2_canTakeOff_52 : decode cX2_canTakeOff 52 = .ok (.getfield 37, 3) := by decide +kernel
theorem dX2_canTakeOff_55 : decode cX2_canTakeOff 55 = .ok (.iload_n 3, 1) := by decide +kernel
theorem dX2_canTakeOff_56 : decode cX2_canTakeOff 56 = .ok (.if_icmp .ne 20, 3) := by decide +kernel
theorem dX2_canTakeOff_59 : decode cX2_canTakeOff 59 = .ok (.iload 4, 2) := by decide +kernel
theorem dX2_canTakeOff_61 : decode cX2_canTakeOff 61 = .ok (.ifCond .ne 11, 3) := by decide +kernel
theorem dX2_canTakeOff_64 : decode cX2_canTakeOff 64 = .ok (.aload_n 0, 1) := by decide +kernel
theorem dX2_canTakeOff_65 : decode cX2_canTakeOff 65 = .ok (.iload_n 1, 1) := by decide +kernel
theorem dX2_canTakeOff_66 : decode cX2_canTakeOff 66 = .ok (.invokevirtual 60, 3) := by decide +kernel
theorem dX2_canTakeOff_69 : decode cX2_canTakeOff 69 = .ok (.ifCond .ne 7, 3) := by decide +kernel
theorem dX2_canTakeOff_72 : decode cX2_canTakeOff 72 = .ok (.iconst 1, 1) := by decide +kernel
theorem dX2_canTakeOff_73 : decode cX2_canTakeOff 73 = .ok (.goto 4, 3) := by decide +kernel
theorem dX2_canTakeOff_76 : decode cX2_canTakeOff 76 = .ok (.iconst 0, 1) := by decide +kernel
theorem dX2_canTakeOff_77 : decode cX2_canTakeOff 77 = .ok (.ireturn, 1) := by decide +kernel
theorem dX2_isWrongEdge_0 : decode cX2_isWrongEdge 0 = .ok (.aload_n 0, 1) := by decide +kernel
theorem dX2_isWrongEdge_1 : decode cX2_isWrongEdge 1 = .ok (.getfield 34, 3) := by decide +kernel
theorem dX2_isWrongEdge_4 : decode cX2_isWrongEdge 4 = .ok (.iload_n 1, 1) := by decide +kernel
theorem dX2_isWrongEdge_5 : decode cX2_isWrongEdge 5 = .ok (.iconst 1, 1) := by decide +kernel
theorem dX2_isWrongEdge_6 : decode cX2_isWrongEdge 6 = .ok (.if_icmp .eq 8, 3) := by decide +kernel
theorem dX2_isWrongEdge_9 : decode cX2_isWrongEdge 9 = .ok (.iload_n 1, 1) := by decide +kernel
theorem dX2_isWrongEdge_10 : decode cX2_isWrongEdge 10 = .ok (.iconst 3, 1) := by decide +kernel
theorem dX2_isWrongEdge_11 : decode cX2_isWrongEdge 11 = .ok (.if_icmp .ne 7, 3) := by decide +kernel
theorem dX2_isWrongEdge_14 : decode cX2_isWrongEdge 14 = .ok (.iconst 0, 1) := by decide +kernel
theorem dX2_isWrongEdge_15 : decode cX2_isWrongEdge 15 = .ok (.goto 4, 3) := by decide +kernel
theorem dX2_isWrongEdge_18 : decode cX2_isWrongEdge 18 = .ok (.iconst 1, 1) := by decide +kernel
theorem dX2_isWrongEdge_19 : decode cX2_isWrongEdge 19 = .ok (.if_icmp .eq 7, 3) := by decide +kernel
theorem dX2_isWrongEdge_22 : decode cX2_isWrongEdge 22 = .ok (.iconst 1, 1) := by decide +kernel
theorem dX2_isWrongEdge_23 : decode cX2_isWrongEdge 23 = .ok (.goto 4, 3) := by decide +kernel
theorem dX2_isWrongEdge_26 : decode cX2_isWrongEdge 26 = .ok (.iconst 0, 1) := by decide +kernel
theorem dX2_isWrongEdge_27 : decode cX2_isWrongEdge 27 = .ok (.ireturn, 1) := by decide +kernel
theorem dX2_skateJump_0 : decode cX2_skateJump 0 = .ok (.aload_n 0, 1) := by decide +kernel
theorem dX2_skateJump_1 : decode cX2_skateJump 1 = .ok (.getfield 46, 3) := by decide +kernel
theorem dX2_skateJump_4 : decode cX2_skateJump 4 = .ok (.bipush 7, 2) := by decide +kernel
theorem dX2_skateJump_6 : decode cX2_skateJump 6 = .ok (.if_icmp .ge 17, 3) := by decide +kernel
theorem dX2_skateJump_9 : decode cX2_skateJump 9 = .ok (.aload_n 0, 1) := by decide +kernel
theorem dX2_skateJump_10 : decode cX2_skateJump 10 = .ok (.iload_n 1, 1) := by decide +kernel
theorem dX2_skateJump_11 : decode cX2_skateJump 11 = .ok (.iload_n 2, 1) := by decide +kernel
theorem dX2_skateJump_12 : decode cX2_skateJump 12 = .ok (.invokevirtual 64, 3) := by decide +kernel
theorem dX2_skateJump_15 : decode cX2_skateJump 15 = .ok (.iconst 2, 1) := by decide +kernel
theorem dX2_skateJump_16 : decode cX2_skateJump 16 = .ok (.if_icmp .ge 7, 3) := by decide +kernel
theorem dX2_skateJump_19 : decode cX2_skateJump 19 = .ok (.iconst 1, 1) := by decide +kernel
theorem dX2_skateJump_20 : decode cX2_skateJump 20 = .ok (.goto 4, 3) := by decide +kernel
theorem dX2_skateJump_23 : decode cX2_skateJump 23 = .ok (.iconst 0, 1) := by decide +kernel
theorem dX2_skateJump_24 : decode cX2_skateJump 24 = .ok (.istore 4, 2) := by decide +kernel
theorem dX2_skateJump_26 : decode cX2_skateJump 26 = .ok (.aload_n 0, 1) := by decide +kernel
theorem dX2_skateJump_27 : decode cX2_skateJump 27 = .ok (.getfield 40, 3) := by decide +kernel
theorem dX2_skateJump_30 : decode cX2_skateJump 30 = .ok (.bipush 120, 2) := by decide +kernel
theorem dX2_skateJump_32 : decode cX2_skateJump 32 = .ok (.if_icmp .lt 7, 3) := by decide +kernel
theorem dX2_skateJump_35 : decode cX2_skateJump 35 = .ok (.iconst 1, 1) := by decide +kernel
theorem dX2_skateJump_36 : decode cX2_skateJump 36 = .ok (.goto 4, 3) := by decide +kernel
theorem dX2_skateJump_39 : decode cX2_skateJump 39 = .ok (.iconst 0, 1) := by decide +kernel
theorem dX2_skateJump_40 : decode cX2_skateJump 40 = .ok (.istore 5, 2) := by decide +kernel
theorem dX2_skateJump_42 : decode cX2_skateJump 42 = .ok (.aload_n 0, 1) := by decide +kernel
theorem dX2_skateJump_43 : decode cX2_skateJump 43 = .ok (.new 9, 3) := by decide +kernel
theorem dX2_skateJump_46 : decode cX2_skateJump 46 = .ok (.dup, 1) := by decide +kernel
theorem dX2_skateJump_47 : decode cX2_skateJump 47 = .ok (.iload_n 1, 1) := by decide +kernel
theorem dX2_skateJump_48 : decode cX2_skateJump 48 = .ok (.iload_n 2, 1) := by decide +kernel
theorem dX2_skateJump_49 : decode cX2_skateJump 49 = .ok (.aload_n 0, 1) := by decide +kernel
theorem dX2_skateJump_50 : decode cX2_skateJump 50 = .ok (.iload_n 1, 1) := by decide +kernel
theorem dX2_skateJump_51 : decode cX2_skateJump 51 = .ok (.invokevirtual 60, 3) := by decide +kernel
theorem dX2_skateJump_54 : decode cX2_skateJump 54 = .ok (.iload 5, 2) := by decide +kernel
theorem dX2_skateJump_56 : decode cX2_skateJump 56 = .ok (.iload_n 3, 1) := by decide +kernel
theorem dX2_skateJump_57 : decode cX2_skateJump 57 = .ok (.iload 4, 2) := by decide +kernel
theorem dX2_skateJump_59 : decode cX2_skateJump 59 = .ok (.invokespecial 68, 3) := by decide +kernel
theorem dX2_skateJump_62 : decode cX2_skateJump 62 = .ok (.invokevirtual 71, 3) := by decide +kernel
theorem dX2_skateJump_65 : decode cX2_skateJump 65 = .ok (.istore 6, 2) := by decide +kernel
theorem dX2_skateJump_67 : decode cX2_skateJump 67 = .ok (.aload_n 0, 1) := by decide +kernel
theorem dX2_skateJump_68 : decode cX2_skateJump 68 = .ok (.dup, 1) := by decide +kernel
theorem dX2_skateJump_69 : decode cX2_skateJump 69 = .ok (.getfield 46, 3) := by decide +kernel
theorem dX2_skateJump_72 : decode cX2_skateJump 72 = .ok (.iconst 1, 1) := by decide +kernel
theorem dX2_skateJump_73 : decode cX2_skateJump 73 = .ok (.iadd, 1) := by decide +kernel
theorem dX2_skateJump_74 : decode cX2_skateJump 74 = .ok (.putfield 46, 3) := by decide +kernel
theorem dX2_skateJump_77 : decode cX2_skateJump 77 = .ok (.iload_n 3, 1) := by decide +kernel
theorem dX2_skateJump_78 : decode cX2_skateJump 78 = .ok (.ifCond .eq 13, 3) := by decide +kernel
theorem dX2_skateJump_81 : decode cX2_skateJump 81 = .ok (.aload_n 0, 1) := by decide +kernel
theorem dX2_skateJump_82 : decode cX2_skateJump 82 = .ok (.dup, 1) := by decide +kernel
theorem dX2_skateJump_83 : decode cX2_skateJump 83 = .ok (.getfield 49, 3) := by decide +kernel
theorem dX2_skateJump_86 : decode cX2_skateJump 86 = .ok (.iconst 1, 1) := by decide +kernel
theorem dX2_skateJump_87 : decode cX2_skateJump 87 = .ok (.iadd, 1) := by decide +kernel
theorem dX2_skateJump_88 : decode cX2_skateJump 88 = .ok (.putfield 49, 3) := by decide +kernel
theorem dX2_skateJump_91 : decode cX2_skateJump 91 = .ok (.aload_n 0, 1) := by decide +kernel
theorem dX2_skateJump_92 : decode cX2_skateJump 92 = .ok (.dup, 1) := by decide +kernel
theorem dX2_skateJump_93 : decode cX2_skateJump 93 = .ok (.getfield 40, 3) := by decide +kernel
theorem dX2_skateJump_96 : decode cX2_skateJump 96 = .ok (.iconst 4, 1) := by decide +kernel
theorem dX2_skateJump_97 : decode cX2_skateJump 97 = .ok (.iadd, 1) := by decide +kernel
theorem dX2_skateJump_98 : decode cX2_skateJump 98 = .ok (.putfield 40, 3) := by decide +kernel
theorem dX2_skateJump_101 : decode cX2_skateJump 101 = .ok (.aload_n 0, 1) := by decide +kernel
theorem dX2_skateJump_102 : decode cX2_skateJump 102 = .ok (.iconst 1, 1) := by decide +kernel
theorem dX2_skateJump_103 : decode cX2_skateJump 103 = .ok (.invokevirtual 75, 3) := by decide +kernel
theorem dX2_skateJump_106 : decode cX2_skateJump 106 = .ok (.iload 6, 2) := by decide +kernel
theorem dX2_skateJump_108 : decode cX2_skateJump 108 = .ok (.ireturn, 1) := by decide +kernel
theorem dX2_skateSpin_0 : decode cX2_skateSpin 0 = .ok (.iload_n 2, 1) := by decide +kernel
theorem dX2_skateSpin_1 : decode cX2_skateSpin 1 = .ok (.bipush 6, 2) := by decide +kernel
theorem dX2_skateSpin_3 : decode cX2_skateSpin 3 = .ok (.if_icmp .ge 7, 3) := by decide +kernel
theorem dX2_skateSpin_6 : decode cX2_skateSpin 6 = .ok (.iconst 0, 1) := by decide +kernel
theorem dX2_skateSpin_7 : decode cX2_skateSpin 7 = .ok (.goto 18, 3) := by decide +kernel
theorem dX2_skateSpin_10 : decode cX2_skateSpin 10 = .ok (.iload_n 1, 1) := by decide +kernel
theorem dX2_skateSpin_11 : decode cX2_skateSpin 11 = .ok (.aload_n 0, 1) := by decide +kernel
theorem dX2_skateSpin_12 : decode cX2_skateSpin 12 = .ok (.getfield 52, 3) := by decide +kernel
theorem dX2_skateSpin_15 : decode cX2_skateSpin 15 = .ok (.iconst (-1), 1) := by decide +kernel
theorem dX2_skateSpin_16 : decode cX2_skateSpin 16 = .ok (.ixor, 1) := by decide +kernel
theorem dX2_skateSpin_17 : decode cX2_skateSpin 17 = .ok (.iand, 1) := by decide +kernel
theorem dX2_skateSpin_18 : decode cX2_skateSpin 18 = .ok (.invokestatic 79, 3) := by decide +kernel
theorem dX2_skateSpin_21 : decode cX2_skateSpin 21 = .ok (.iconst 4, 1) := by decide +kernel
theorem dX2_skateSpin_22 : decode cX2_skateSpin 22 = .ok (.invokestatic 85, 3) := by decide +kernel
theorem dX2_skateSpin_25 : decode cX2_skateSpin 25 = .ok (.istore_n 3, 1) := by decide +kernel
theorem dX2_skateSpin_26 : decode cX2_skateSpin 26 = .ok (.aload_n 0, 1) := by decide +kernel
theorem dX2_skateSpin_27 : decode cX2_skateSpin 27 = .ok (.getfield 43, 3) := by decide +kernel
theorem dX2_skateSpin_30 : decode cX2_skateSpin 30 = .ok (.aload_n 0, 1) := by decide +kernel
theorem dX2_skateSpin_31 : decode cX2_skateSpin 31 = .ok (.getfield 46, 3) := by decide +kernel
theorem dX2_skateSpin_34 : decode cX2_skateSpin 34 = .ok (.isub, 1) := by decide +kernel
theorem dX2_skateSpin_35 : decode cX2_skateSpin 35 = .ok (.iconst 3, 1) := by decide +kernel
theorem dX2_skateSpin_36 : decode cX2_skateSpin 36 = .ok (.if_icmp .ge 7, 3) := by decide +kernel
theorem dX2_skateSpin_39 : decode cX2_skateSpin 39 = .ok (.iconst 1, 1) := by decide +kernel
theorem dX2_skateSpin_40 : decode cX2_skateSpin 40 = .ok (.goto 4, 3) := by decide +kernel
theorem dX2_skateSpin_43 : decode cX2_skateSpin 43 = .ok (.iconst 0, 1) := by decide +kernel
theorem dX2_skateSpin_44 : decode cX2_skateSpin 44 = .ok (.istore 4, 2) := by decide +kernel
theorem dX2_skateSpin_46 : decode cX2_skateSpin 46 = .ok (.aload_n 0, 1) := by decide +kernel
theorem dX2_skateSpin_47 : decode cX2_skateSpin 47 = .ok (.new 9, 3) := by decide +kernel
theorem dX2_skateSpin_50 : decode cX2_skateSpin 50 = .ok (.dup, 1) := by decide +kernel
theorem dX2_skateSpin_51 : decode cX2_skateSpin 51 = .ok (.bipush 6, 2) := by decide +kernel
theorem dX2_skateSpin_53 : decode cX2_skateSpin 53 = .ok (.iload_n 3, 1) := by decide +kernel
theorem dX2_skateSpin_54 : decode cX2_skateSpin 54 = .ok (.iconst 0, 1) := by decide +kernel
theorem dX2_skateSpin_55 : decode cX2_skateSpin 55 = .ok (.iconst 0, 1) := by decide +kernel
theorem dX2_skateSpin_56 : decode cX2_skateSpin 56 = .ok (.iconst 0, 1) := by decide +kernel
theorem dX2_skateSpin_57 : decode cX2_skateSpin 57 = .ok (.iload 4, 2) := by decide +kernel
theorem dX2_skateSpin_59 : decode cX2_skateSpin 59 = .ok (.invokespecial 68, 3) := by decide +kernel
theorem dX2_skateSpin_62 : decode cX2_skateSpin 62 = .ok (.invokevirtual 71, 3) := by decide +kernel
theorem dX2_skateSpin_65 : decode cX2_skateSpin 65 = .ok (.istore 5, 2) := by decide +kernel
theorem dX2_skateSpin_67 : decode cX2_skateSpin 67 = .ok (.iload_n 3, 1) := by decide +kernel
theorem dX2_skateSpin_68 : decode cX2_skateSpin 68 = .ok (.ifCond .le 13, 3) := by decide +kernel
theorem dX2_skateSpin_71 : decode cX2_skateSpin 71 = .ok (.aload_n 0, 1) := by decide +kernel
theorem dX2_skateSpin_72 : decode cX2_skateSpin 72 = .ok (.dup, 1) := by decide +kernel
theorem dX2_skateSpin_73 : decode cX2_skateSpin 73 = .ok (.getfield 52, 3) := by decide +kernel
theorem dX2_skateSpin_76 : decode cX2_skateSpin 76 = .ok (.iload_n 1, 1) := by decide +kernel
theorem dX2_skateSpin_77 : decode cX2_skateSpin 77 = .ok (.ior, 1) := by decide +kernel
theorem dX2_skateSpin_78 : decode cX2_skateSpin 78 = .ok (.putfield 52, 3) := by decide +kernel
theorem dX2_skateSpin_81 : decode cX2_skateSpin 81 = .ok (.aload_n 0, 1) := by decide +kernel
theorem dX2_skateSpin_82 : decode cX2_skateSpin 82 = .ok (.dup, 1) := by decide +kernel
theorem dX2_skateSpin_83 : decode cX2_skateSpin 83 = .ok (.getfield 40, 3) := by decide +kernel
theorem dX2_skateSpin_86 : decode cX2_skateSpin 86 = .ok (.bipush 10, 2) := by decide +kernel
theorem dX2_skateSpin_88 : decode cX2_skateSpin 88 = .ok (.iadd, 1) := by decide +kernel
theorem dX2_skateSpin_89 : decode cX2_skateSpin 89 = .ok (.putfield 40, 3) := by decide +kernel
theorem dX2_skateSpin_92 : decode cX2_skateSpin 92 = .ok (.aload_n 0, 1) := by decide +kernel
theorem dX2_skateSpin_93 : decode cX2_skateSpin 93 = .ok (.iconst 0, 1) := by decide +kernel
theorem dX2_skateSpin_94 : decode cX2_skateSpin 94 = .ok (.invokevirtual 75, 3) := by decide +kernel
theorem dX2_skateSpin_97 : decode cX2_skateSpin 97 = .ok (.iload 5, 2) := by decide +kernel
theorem dX2_skateSpin_99 : decode cX2_skateSpin 99 = .ok (.ireturn, 1) := by decide +kernel
theorem dX2_add_0 : decode cX2_add 0 = .ok (.aload_n 0, 1) := by decide +kernel
theorem dX2_add_1 : decode cX2_add 1 = .ok (.getfield 43, 3) := by decide +kernel
theorem dX2_add_4 : decode cX2_add 4 = .ok (.istore_n 2, 1) := by decide +kernel
theorem dX2_add_5 : decode cX2_add 5 = .ok (.iload_n 2, 1) := by decide +kernel
theorem dX2_add_6 : decode cX2_add 6 = .ok (.ifCond .lt 12, 3) := by decide +kernel
theorem dX2_add_9 : decode cX2_add 9 = .ok (.iload_n 2, 1) := by decide +kernel
theorem dX2_add_10 : decode cX2_add 10 = .ok (.aload_n 0, 1) := by decide +kernel
theorem dX2_add_11 : decode cX2_add 11 = .ok (.getfield 11, 3) := by decide +kernel
theorem dX2_add_14 : decode cX2_add 14 = .ok (.arraylength, 1) := by decide +kernel
theorem dX2_add_15 : decode cX2_add 15 = .ok (.if_icmp .lt 5, 3) := by decide +kernel
theorem dX2_add_18 : decode cX2_add 18 = .ok (.iconst (-1), 1) := by decide +kernel
theorem dX2_add_19 : decode cX2_add 19 = .ok (.ireturn, 1) := by decide +kernel
theorem dX2_add_20 : decode cX2_add 20 = .ok (.aload_n 0, 1) := by decide +kernel
theorem dX2_add_21 : decode cX2_add 21 = .ok (.getfield 11, 3) := by decide +kernel
theorem dX2_add_24 : decode cX2_add 24 = .ok (.iload_n 2, 1) := by decide +kernel
theorem dX2_add_25 : decode cX2_add 25 = .ok (.aload_n 1, 1) := by decide +kernel
theorem dX2_add_26 : decode cX2_add 26 = .ok (.aastore, 1) := by decide +kernel
theorem dX2_add_27 : decode cX2_add 27 = .ok (.aload_n 0, 1) := by decide +kernel
theorem dX2_add_28 : decode cX2_add 28 = .ok (.iload_n 2, 1) := by decide +kernel
theorem dX2_add_29 : decode cX2_add 29 = .ok (.iconst 1, 1) := by decide +kernel
theorem dX2_add_30 : decode cX2_add 30 = .ok (.iadd, 1) := by decide +kernel
theorem dX2_add_31 : decode cX2_add 31 = .ok (.putfield 43, 3) := by decide +kernel
theorem dX2_add_34 : decode cX2_add 34 = .ok (.iload_n 2, 1) := by decide +kernel
theorem dX2_add_35 : decode cX2_add 35 = .ok (.ireturn, 1) := by decide +kernel
theorem dX2_landOn_0 : decode cX2_landOn 0 = .ok (.aload_n 0, 1) := by decide +kernel
theorem dX2_landOn_1 : decode cX2_landOn 1 = .ok (.iload_n 1, 1) := by decide +kernel
theorem dX2_landOn_2 : decode cX2_landOn 2 = .ok (.putfield 30, 3) := by decide +kernel
theorem dX2_landOn_5 : decode cX2_landOn 5 = .ok (.aload_n 0, 1) := by decide +kernel
theorem dX2_landOn_6 : decode cX2_landOn 6 = .ok (.iconst 1, 1) := by decide +kernel
theorem dX2_landOn_7 : decode cX2_landOn 7 = .ok (.putfield 34, 3) := by decide +kernel
theorem dX2_landOn_10 : decode cX2_landOn 10 = .ok (.aload_n 0, 1) := by decide +kernel
theorem dX2_landOn_11 : decode cX2_landOn 11 = .ok (.iconst 1, 1) := by decide +kernel
theorem dX2_landOn_12 : decode cX2_landOn 12 = .ok (.putfield 37, 3) := by decide +kernel
theorem dX2_landOn_15 : decode cX2_landOn 15 = .ok (.return_, 1) := by decide +kernel
theorem dX2_likeJumps_0 : decode cX2_likeJumps 0 = .ok (.iconst 0, 1) := by decide +kernel
theorem dX2_likeJumps_1 : decode cX2_likeJumps 1 = .ok (.istore_n 3, 1) := by decide +kernel
theorem dX2_likeJumps_2 : decode cX2_likeJumps 2 = .ok (.aload_n 0, 1) := by decide +kernel
theorem dX2_likeJumps_3 : decode cX2_likeJumps 3 = .ok (.getfield 11, 3) := by decide +kernel
theorem dX2_likeJumps_6 : decode cX2_likeJumps 6 = .ok (.astore 4, 2) := by decide +kernel
theorem dX2_likeJumps_8 : decode cX2_likeJumps 8 = .ok (.aload 4, 2) := by decide +kernel
theorem dX2_likeJumps_10 : decode cX2_likeJumps 10 = .ok (.arraylength, 1) := by decide +kernel
theorem dX2_likeJumps_11 : decode cX2_likeJumps 11 = .ok (.istore 5, 2) := by decide +kernel
theorem dX2_likeJumps_13 : decode cX2_likeJumps 13 = .ok (.iconst 0, 1) := by decide +kernel
theorem dX2_likeJumps_14 : decode cX2_likeJumps 14 = .ok (.istore 6, 2) := by decide +kernel
theorem dX2_likeJumps_16 : decode cX2_likeJumps 16 = .ok (.iload 6, 2) := by decide +kernel
theorem dX2_likeJumps_18 : decode cX2_likeJumps 18 = .ok (.iload 5, 2) := by decide +kernel
theorem dX2_likeJumps_20 : decode cX2_likeJumps 20 = .ok (.if_icmp .ge 42, 3) := by decide +kernel
theorem dX2_likeJumps_23 : decode cX2_likeJumps 23 = .ok (.aload 4, 2) := by decide +kernel
theorem dX2_likeJumps_25 : decode cX2_likeJumps 25 = .ok (.iload 6, 2) := by decide +kernel
theorem dX2_likeJumps_27 : decode cX2_likeJumps 27 = .ok (.aaload, 1) := by decide +kernel
theorem dX2_likeJumps_28 : decode cX2_likeJumps 28 = .ok (.astore 7, 2) := by decide +kernel
theorem dX2_likeJumps_30 : decode cX2_likeJumps 30 = .ok (.aload 7, 2) := by decide +kernel
theorem dX2_likeJumps_32 : decode cX2_likeJumps 32 = .ok (.ifnull 24, 3) := by decide +kernel
theorem dX2_likeJumps_35 : decode cX2_likeJumps 35 = .ok (.aload 7, 2) := by decide +kernel
theorem dX2_likeJumps_37 : decode cX2_likeJumps 37 = .ok (.getfield 90, 3) := by decide +kernel
theorem dX2_likeJumps_40 : decode cX2_likeJumps 40 = .ok (.iload_n 1, 1) := by decide +kernel
theorem dX2_likeJumps_41 : decode cX2_likeJumps 41 = .ok (.if_icmp .ne 15, 3) := by decide +kernel
theorem dX2_likeJumps_44 : decode cX2_likeJumps 44 = .ok (.aload 7, 2) := by decide +kernel
theorem dX2_likeJumps_46 : decode cX2_likeJumps 46 = .ok (.getfield 93, 3) := by decide +kernel
theorem dX2_likeJumps_49 : decode cX2_likeJumps 49 = .ok (.iload_n 2, 1) := by decide +kernel
theorem dX2_likeJumps_50 : decode cX2_likeJumps 50 = .ok (.if_icmp .ne 6, 3) := by decide +kernel
theorem dX2_likeJumps_53 : decode cX2_likeJumps 53 = .ok (.iinc 3 1, 3) := by decide +kernel
theorem dX2_likeJumps_56 : decode cX2_likeJumps 56 = .ok (.iinc 6 1, 3) := by decide +kernel
theorem dX2_likeJumps_59 : decode cX2_likeJumps 59 = .ok (.goto (-43), 3) := by decide +kernel
theorem dX2_likeJumps_62 : decode cX2_likeJumps 62 = .ok (.iload_n 3, 1) := by decide +kernel
theorem dX2_likeJumps_63 : decode cX2_likeJumps 63 = .ok (.ireturn, 1) := by decide +kernel
theorem dX2_elementScoresBy_0 : decode cX2_elementScoresBy 0 = .ok (.iconst 0, 1) := by decide +kernel
theorem dX2_elementScoresBy_1 : decode cX2_elementScoresBy 1 = .ok (.istore_n 2, 1) := by decide +kernel
theorem dX2_elementScoresBy_2 : decode cX2_elementScoresBy 2 = .ok (.aload_n 0, 1) := by decide +kernel
theorem dX2_elementScoresBy_3 : decode cX2_elementScoresBy 3 = .ok (.getfield 11, 3) := by decide +kernel
theorem dX2_elementScoresBy_6 : decode cX2_elementScoresBy 6 = .ok (.astore_n 3, 1) := by decide +kernel
theorem dX2_elementScoresBy_7 : decode cX2_elementScoresBy 7 = .ok (.aload_n 3, 1) := by decide +kernel
theorem dX2_elementScoresBy_8 : decode cX2_elementScoresBy 8 = .ok (.arraylength, 1) := by decide +kernel
theorem dX2_elementScoresBy_9 : decode cX2_elementScoresBy 9 = .ok (.istore 4, 2) := by decide +kernel
theorem dX2_elementScoresBy_11 : decode cX2_elementScoresBy 11 = .ok (.iconst 0, 1) := by decide +kernel
theorem dX2_elementScoresBy_12 : decode cX2_elementScoresBy 12 = .ok (.istore 5, 2) := by decide +kernel
theorem dX2_elementScoresBy_14 : decode cX2_elementScoresBy 14 = .ok (.iload 5, 2) := by decide +kernel
theorem dX2_elementScoresBy_16 : decode cX2_elementScoresBy 16 = .ok (.iload 4, 2) := by decide +kernel
theorem dX2_elementScoresBy_18 : decode cX2_elementScoresBy 18 = .ok (.if_icmp .ge 29, 3) := by decide +kernel
theorem dX2_elementScoresBy_21 : decode cX2_elementScoresBy 21 = .ok (.aload_n 3, 1) := by decide +kernel
theorem dX2_elementScoresBy_22 : decode cX2_elementScoresBy 22 = .ok (.iload 5, 2) := by decide +kernel
theorem dX2_elementScoresBy_24 : decode cX2_elementScoresBy 24 = .ok (.aaload, 1) := by decide +kernel
theorem dX2_elementScoresBy_25 : decode cX2_elementScoresBy 25 = .ok (.astore 6, 2) := by decide +kernel
theorem dX2_elementScoresBy_27 : decode cX2_elementScoresBy 27 = .ok (.aload 6, 2) := by decide +kernel
theorem dX2_elementScoresBy_29 : decode cX2_elementScoresBy 29 = .ok (.ifnull 12, 3) := by decide +kernel
theorem dX2_elementScoresBy_32 : decode cX2_elementScoresBy 32 = .ok (.iload_n 2, 1) := by decide +kernel
theorem dX2_elementScoresBy_33 : decode cX2_elementScoresBy 33 = .ok (.aload 6, 2) := by decide +kernel
theorem dX2_elementScoresBy_35 : decode cX2_elementScoresBy 35 = .ok (.aload_n 1, 1) := by decide +kernel
theorem dX2_elementScoresBy_36 : decode cX2_elementScoresBy 36 = .ok (.invokevirtual 96, 3) := by decide +kernel
theorem dX2_elementScoresBy_39 : decode cX2_elementScoresBy 39 = .ok (.iadd, 1) := by decide +kernel
theorem dX2_elementScoresBy_40 : decode cX2_elementScoresBy 40 = .ok (.istore_n 2, 1) := by decide +kernel
theorem dX2_elementScoresBy_41 : decode cX2_elementScoresBy 41 = .ok (.iinc 5 1, 3) := by decide +kernel
theorem dX2_elementScoresBy_44 : decode cX2_elementScoresBy 44 = .ok (.goto (-30), 3) := by decide +kernel
theorem dX2_elementScoresBy_47 : decode cX2_elementScoresBy 47 = .ok (.iload_n 2, 1) := by decide +kernel
theorem dX2_elementScoresBy_48 : decode cX2_elementScoresBy 48 = .ok (.ireturn, 1) := by decide +kernel
theorem dX2_componentScore_0 : decode cX2_componentScore 0 = .ok (.iconst 2, 1) := by decide +kernel
theorem dX2_componentScore_1 : decode cX2_componentScore 1 = .ok (.ldc2_w 100, 3) := by decide +kernel
theorem dX2_componentScore_4 : decode cX2_componentScore 4 = .ok (.aload_n 1, 1) := by decide +kernel
theorem dX2_componentScore_5 : decode cX2_componentScore 5 = .ok (.invokevirtual 102, 3) := by decide +kernel
theorem dX2_componentScore_8 : decode cX2_componentScore 8 = .ok (.dmul, 1) := by decide +kernel
theorem dX2_componentScore_9 : decode cX2_componentScore 9 = .ok (.invokestatic 106, 3) := by decide +kernel
theorem dX2_componentScore_12 : decode cX2_componentScore 12 = .ok (.imul, 1) := by decide +kernel
theorem dX2_componentScore_13 : decode cX2_componentScore 13 = .ok (.ireturn, 1) := by decide +kernel
theorem dX2_componentScores_0 : decode cX2_componentScores 0 = .ok (.iconst 0, 1) := by decide +kernel
theorem dX2_componentScores_1 : decode cX2_componentScores 1 = .ok (.istore_n 1, 1) := by decide +kernel
theorem dX2_componentScores_2 : decode cX2_componentScores 2 = .ok (.aload_n 0, 1) := by decide +kernel
theorem dX2_componentScores_3 : decode cX2_componentScores 3 = .ok (.getfield 19, 3) := by decide +kernel
theorem dX2_componentScores_6 : decode cX2_componentScores 6 = .ok (.astore_n 2, 1) := by decide +kernel
theorem dX2_componentScores_7 : decode cX2_componentScores 7 = .ok (.aload_n 2, 1) := by decide +kernel
theorem dX2_componentScores_8 : decode cX2_componentScores 8 = .ok (.arraylength, 1) := by decide +kernel
theorem dX2_componentScores_9 : decode cX2_componentScores 9 = .ok (.istore_n 3, 1) := by decide +kernel
theorem dX2_componentScores_10 : decode cX2_componentScores 10 = .ok (.iconst 0, 1) := by decide +kernel
theorem dX2_componentScores_11 : decode cX2_componentScores 11 = .ok (.istore 4, 2) := by decide +kernel
theorem dX2_componentScores_13 : decode cX2_componentScores 13 = .ok (.iload 4, 2) := by decide +kernel
theorem dX2_componentScores_15 : decode cX2_componentScores 15 = .ok (.iload_n 3, 1) := by decide +kernel
theorem dX2_componentScores_16 : decode cX2_componentScores 16 = .ok (.if_icmp .ge 29, 3) := by decide +kernel
theorem dX2_componentScores_19 : decode cX2_componentScores 19 = .ok (.aload_n 2, 1) := by decide +kernel
theorem dX2_componentScores_20 : decode cX2_componentScores 20 = .ok (.iload 4, 2) := by decide +kernel
theorem dX2_componentScores_22 : decode cX2_componentScores 22 = .ok (.aaload, 1) := by decide +kernel
theorem dX2_componentScores_23 : decode cX2_componentScores 23 = .ok (.astore 5, 2) := by decide +kernel
theorem dX2_componentScores_25 : decode cX2_componentScores 25 = .ok (.aload 5, 2) := by decide +kernel
theorem dX2_componentScores_27 : decode cX2_componentScores 27 = .ok (.ifnull 12, 3) := by decide +kernel
theorem dX2_componentScores_30 : decode cX2_componentScores 30 = .ok (.iload_n 1, 1) := by decide +kernel
theorem dX2_componentScores_31 : decode cX2_componentScores 31 = .ok (.aload_n 0, 1) := by decide +kernel
theorem dX2_componentScores_32 : decode cX2_componentScores 32 = .ok (.aload 5, 2) := by decide +kernel
theorem dX2_componentScores_34 : decode cX2_componentScores 34 = .ok (.invokevirtual 110, 3) := by decide +kernel
theorem dX2_componentScores_37 : decode cX2_componentScores 37 = .ok (.iadd, 1) := by decide +kernel
theorem dX2_componentScores_38 : decode cX2_componentScores 38 = .ok (.istore_n 1, 1) := by decide +kernel
theorem dX2_componentScores_39 : decode cX2_componentScores 39 = .ok (.iinc 4 1, 3) := by decide +kernel
theorem dX2_componentScores_42 : decode cX2_componentScores 42 = .ok (.goto (-29), 3) := by decide +kernel
theorem dX2_componentScores_45 : decode cX2_componentScores 45 = .ok (.iload_n 1, 1) := by decide +kernel
theorem dX2_componentScores_46 : decode cX2_componentScores 46 = .ok (.ireturn, 1) := by decide +kernel
theorem dX2_fine_0 : decode cX2_fine 0 = .ok (.bipush 100, 2) := by decide +kernel
theorem dX2_fine_2 : decode cX2_fine 2 = .ok (.aload_n 0, 1) := by decide +kernel
theorem dX2_fine_3 : decode cX2_fine 3 = .ok (.getfield 49, 3) := by decide +kernel
theorem dX2_fine_6 : decode cX2_fine 6 = .ok (.imul, 1) := by decide +kernel
theorem dX2_fine_7 : decode cX2_fine 7 = .ok (.bipush 100, 2) := by decide +kernel
theorem dX2_fine_9 : decode cX2_fine 9 = .ok (.iconst 0, 1) := by decide +kernel
theorem dX2_fine_10 : decode cX2_fine 10 = .ok (.aload_n 0, 1) := by decide +kernel
theorem dX2_fine_11 : decode cX2_fine 11 = .ok (.getfield 49, 3) := by decide +kernel
theorem dX2_fine_14 : decode cX2_fine 14 = .ok (.iconst 2, 1) := by decide +kernel
theorem dX2_fine_15 : decode cX2_fine 15 = .ok (.isub, 1) := by decide +kernel
theorem dX2_fine_16 : decode cX2_fine 16 = .ok (.invokestatic 114, 3) := by decide +kernel
theorem dX2_fine_19 : decode cX2_fine 19 = .ok (.imul, 1) := by decide +kernel
theorem dX2_fine_20 : decode cX2_fine 20 = .ok (.iadd, 1) := by decide +kernel
theorem dX2_fine_21 : decode cX2_fine 21 = .ok (.ireturn, 1) := by decide +kernel
theorem dX2_totalOf_0 : decode cX2_totalOf 0 = .ok (.iconst 0, 1) := by decide +kernel
theorem dX2_totalOf_1 : decode cX2_totalOf 1 = .ok (.iload_n 1, 1) := by decide +kernel
theorem dX2_totalOf_2 : decode cX2_totalOf 2 = .ok (.aload_n 0, 1) := by decide +kernel
theorem dX2_totalOf_3 : decode cX2_totalOf 3 = .ok (.invokevirtual 117, 3) := by decide +kernel
theorem dX2_totalOf_6 : decode cX2_totalOf 6 = .ok (.iadd, 1) := by decide +kernel
theorem dX2_totalOf_7 : decode cX2_totalOf 7 = .ok (.aload_n 0, 1) := by decide +kernel
theorem dX2_totalOf_8 : decode cX2_totalOf 8 = .ok (.invokevirtual 121, 3) := by decide +kernel
theorem dX2_totalOf_11 : decode cX2_totalOf 11 = .ok (.isub, 1) := by decide +kernel
theorem dX2_totalOf_12 : decode cX2_totalOf 12 = .ok (.invokestatic 114, 3) := by decide +kernel
theorem dX2_totalOf_15 : decode cX2_totalOf 15 = .ok (.ireturn, 1) := by decide +kernel
theorem dX2_isSumRight_0 : decode cX2_isSumRight 0 = .ok (.iconst 0, 1) := by decide +kernel
theorem dX2_isSumRight_1 : decode cX2_isSumRight 1 = .ok (.istore_n 2, 1) := by decide +kernel
theorem dX2_isSumRight_2 : decode cX2_isSumRight 2 = .ok (.aload_n 0, 1) := by decide +kernel
theorem dX2_isSumRight_3 : decode cX2_isSumRight 3 = .ok (.getfield 11, 3) := by decide +kernel
theorem dX2_isSumRight_6 : decode cX2_isSumRight 6 = .ok (.arraylength, 1) := by decide +kernel
theorem dX2_isSumRight_7 : decode cX2_isSumRight 7 = .ok (.iconst 1, 1) := by decide +kernel
theorem dX2_isSumRight_8 : decode cX2_isSumRight 8 = .ok (.isub, 1) := by decide +kernel
theorem dX2_isSumRight_9 : decode cX2_isSumRight 9 = .ok (.istore_n 3, 1) := by decide +kernel
theorem dX2_isSumRight_10 : decode cX2_isSumRight 10 = .ok (.iload_n 3, 1) := by decide +kernel
theorem dX2_isSumRight_11 : decode cX2_isSumRight 11 = .ok (.ifCond .lt 31, 3) := by decide +kernel
theorem dX2_isSumRight_14 : decode cX2_isSumRight 14 = .ok (.aload_n 0, 1) := by decide +kernel
theorem dX2_isSumRight_15 : decode cX2_isSumRight 15 = .ok (.getfield 11, 3) := by decide +kernel
theorem dX2_isSumRight_18 : decode cX2_isSumRight 18 = .ok (.iload_n 3, 1) := by decide +kernel
theorem dX2_isSumRight_19 : decode cX2_isSumRight 19 = .ok (.aaload, 1) := by decide +kernel
theorem dX2_isSumRight_20 : decode cX2_isSumRight 20 = .ok (.astore 4, 2) := by decide +kernel
theorem dX2_isSumRight_22 : decode cX2_isSumRight 22 = .ok (.aload 4, 2) := by decide +kernel
theorem dX2_isSumRight_24 : decode cX2_isSumRight 24 = .ok (.ifnull 12, 3) := by decide +kernel
theorem dX2_isSumRight_27 : decode cX2_isSumRight 27 = .ok (.iload_n 2, 1) := by decide +kernel
theorem dX2_isSumRight_28 : decode cX2_isSumRight 28 = .ok (.aload 4, 2) := by decide +kernel
theorem dX2_isSumRight_30 : decode cX2_isSumRight 30 = .ok (.aload_n 1, 1) := by decide +kernel
theorem dX2_isSumRight_31 : decode cX2_isSumRight 31 = .ok (.invokevirtual 96, 3) := by decide +kernel
theorem dX2_isSumRight_34 : decode cX2_isSumRight 34 = .ok (.iadd, 1) := by decide +kernel
theorem dX2_isSumRight_35 : decode cX2_isSumRight 35 = .ok (.istore_n 2, 1) := by decide +kernel
theorem dX2_isSumRight_36 : decode cX2_isSumRight 36 = .ok (.iinc 3 (-1), 3) := by decide +kernel
theorem dX2_isSumRight_39 : decode cX2_isSumRight 39 = .ok (.goto (-29), 3) := by decide +kernel
theorem dX2_isSumRight_42 : decode cX2_isSumRight 42 = .ok (.aload_n 0, 1) := by decide +kernel
theorem dX2_isSumRight_43 : decode cX2_isSumRight 43 = .ok (.getfield 19, 3) := by decide +kernel
theorem dX2_isSumRight_46 : decode cX2_isSumRight 46 = .ok (.arraylength, 1) := by decide +kernel
theorem dX2_isSumRight_47 : decode cX2_isSumRight 47 = .ok (.iconst 1, 1) := by decide +kernel
theorem dX2_isSumRight_48 : decode cX2_isSumRight 48 = .ok (.isub, 1) := by decide +kernel
theorem dX2_isSumRight_49 : decode cX2_isSumRight 49 = .ok (.istore_n 3, 1) := by decide +kernel
theorem dX2_isSumRight_50 : decode cX2_isSumRight 50 = .ok (.iload_n 3, 1) := by decide +kernel
theorem dX2_isSumRight_51 : decode cX2_isSumRight 51 = .ok (.ifCond .lt 31, 3) := by decide +kernel
theorem dX2_isSumRight_54 : decode cX2_isSumRight 54 = .ok (.aload_n 0, 1) := by decide +kernel
theorem dX2_isSumRight_55 : decode cX2_isSumRight 55 = .ok (.getfield 19, 3) := by decide +kernel
theorem dX2_isSumRight_58 : decode cX2_isSumRight 58 = .ok (.iload_n 3, 1) := by decide +kernel
theorem dX2_isSumRight_59 : decode cX2_isSumRight 59 = .ok (.aaload, 1) := by decide +kernel
theorem dX2_isSumRight_60 : decode cX2_isSumRight 60 = .ok (.astore 4, 2) := by decide +kernel
theorem dX2_isSumRight_62 : decode cX2_isSumRight 62 = .ok (.aload 4, 2) := by decide +kernel
theorem dX2_isSumRight_64 : decode cX2_isSumRight 64 = .ok (.ifnull 12, 3) := by decide +kernel
theorem dX2_isSumRight_67 : decode cX2_isSumRight 67 = .ok (.iload_n 2, 1) := by decide +kernel
theorem dX2_isSumRight_68 : decode cX2_isSumRight 68 = .ok (.aload_n 0, 1) := by decide +kernel
theorem dX2_isSumRight_69 : decode cX2_isSumRight 69 = .ok (.aload 4, 2) := by decide +kernel
theorem dX2_isSumRight_71 : decode cX2_isSumRight 71 = .ok (.invokevirtual 110, 3) := by decide +kernel
theorem dX2_isSumRight_74 : decode cX2_isSumRight 74 = .ok (.iadd, 1) := by decide +kernel
theorem dX2_isSumRight_75 : decode cX2_isSumRight 75 = .ok (.istore_n 2, 1) := by decide +kernel
theorem dX2_isSumRight_76 : decode cX2_isSumRight 76 = .ok (.iinc 3 (-1), 3) := by decide +kernel
theorem dX2_isSumRight_79 : decode cX2_isSumRight 79 = .ok (.goto (-29), 3) := by decide +kernel
theorem dX2_isSumRight_82 : decode cX2_isSumRight 82 = .ok (.iconst 0, 1) := by decide +kernel
theorem dX2_isSumRight_83 : decode cX2_isSumRight 83 = .ok (.iload_n 2, 1) := by decide +kernel
theorem dX2_isSumRight_84 : decode cX2_isSumRight 84 = .ok (.aload_n 0, 1) := by decide +kernel
theorem dX2_isSumRight_85 : decode cX2_isSumRight 85 = .ok (.invokevirtual 121, 3) := by decide +kernel
theorem dX2_isSumRight_88 : decode cX2_isSumRight 88 = .ok (.isub, 1) := by decide +kernel
theorem dX2_isSumRight_89 : decode cX2_isSumRight 89 = .ok (.invokestatic 114, 3) := by decide +kernel
theorem dX2_isSumRight_92 : decode cX2_isSumRight 92 = .ok (.aload_n 0, 1) := by decide +kernel
theorem dX2_isSumRight_93 : decode cX2_isSumRight 93 = .ok (.aload_n 0, 1) := by decide +kernel
theorem dX2_isSumRight_94 : decode cX2_isSumRight 94 = .ok (.aload_n 1, 1) := by decide +kernel
theorem dX2_isSumRight_95 : decode cX2_isSumRight 95 = .ok (.invokevirtual 124, 3) := by decide +kernel
theorem dX2_isSumRight_98 : decode cX2_isSumRight 98 = .ok (.invokevirtual 127, 3) := by decide +kernel
theorem dX2_isSumRight_101 : decode cX2_isSumRight 101 = .ok (.if_icmp .ne 7, 3) := by decide +kernel
theorem dX2_isSumRight_104 : decode cX2_isSumRight 104 = .ok (.iconst 1, 1) := by decide +kernel
theorem dX2_isSumRight_105 : decode cX2_isSumRight 105 = .ok (.goto 4, 3) := by decide +kernel
theorem dX2_isSumRight_108 : decode cX2_isSumRight 108 = .ok (.iconst 0, 1) := by decide +kernel
theorem dX2_isSumRight_109 : decode cX2_isSumRight 109 = .ok (.ireturn, 1) := by decide +kernel
theorem dX2_addBias_0 : decode cX2_addBias 0 = .ok (.dload_n 2, 1) := by decide +kernel
theorem dX2_addBias_1 : decode cX2_addBias 1 = .ok (.dstore 4, 2) := by decide +kernel
theorem dX2_addBias_3 : decode cX2_addBias 3 = .ok (.aload_n 0, 1) := by decide +kernel
theorem dX2_addBias_4 : decode cX2_addBias 4 = .ok (.getfield 11, 3) := by decide +kernel
theorem dX2_addBias_7 : decode cX2_addBias 7 = .ok (.astore 6, 2) := by decide +kernel
theorem dX2_addBias_9 : decode cX2_addBias 9 = .ok (.aload 6, 2) := by decide +kernel
theorem dX2_addBias_11 : decode cX2_addBias 11 = .ok (.arraylength, 1) := by decide +kernel
theorem dX2_addBias_12 : decode cX2_addBias 12 = .ok (.istore 7, 2) := by decide +kernel
theorem dX2_addBias_14 : decode cX2_addBias 14 = .ok (.iconst 0, 1) := by decide +kernel
theorem dX2_addBias_15 : decode cX2_addBias 15 = .ok (.istore 8, 2) := by decide +kernel
theorem dX2_addBias_17 : decode cX2_addBias 17 = .ok (.iload 8, 2) := by decide +kernel
theorem dX2_addBias_19 : decode cX2_addBias 19 = .ok (.iload 7, 2) := by decide +kernel
theorem dX2_addBias_21 : decode cX2_addBias 21 = .ok (.if_icmp .ge 68, 3) := by decide +kernel
theorem dX2_addBias_24 : decode cX2_addBias 24 = .ok (.aload 6, 2) := by decide +kernel
theorem dX2_addBias_26 : decode cX2_addBias 26 = .ok (.iload 8, 2) := by decide +kernel
theorem dX2_addBias_28 : decode cX2_addBias 28 = .ok (.aaload, 1) := by decide +kernel
theorem dX2_addBias_29 : decode cX2_addBias 29 = .ok (.astore 9, 2) := by decide +kernel
theorem dX2_addBias_31 : decode cX2_addBias 31 = .ok (.aload 9, 2) := by decide +kernel
theorem dX2_addBias_33 : decode cX2_addBias 33 = .ok (.ifnull 50, 3) := by decide +kernel
theorem dX2_addBias_36 : decode cX2_addBias 36 = .ok (.aload 9, 2) := by decide +kernel
theorem dX2_addBias_38 : decode cX2_addBias 38 = .ok (.getfield 130, 3) := by decide +kernel
theorem dX2_addBias_41 : decode cX2_addBias 41 = .ok (.invokevirtual 134, 3) := by decide +kernel
theorem dX2_addBias_44 : decode cX2_addBias 44 = .ok (.ifCond .eq 39, 3) := by decide +kernel
theorem dX2_addBias_47 : decode cX2_addBias 47 = .ok (.aload 9, 2) := by decide +kernel
theorem dX2_addBias_49 : decode cX2_addBias 49 = .ok (.getfield 130, 3) := by decide +kernel
theorem dX2_addBias_52 : decode cX2_addBias 52 = .ok (.iload_n 1, 1) := by decide +kernel
theorem dX2_addBias_53 : decode cX2_addBias 53 = .ok (.invokevirtual 137, 3) := by decide +kernel
theorem dX2_addBias_56 : decode cX2_addBias 56 = .ok (.ifCond .eq 27, 3) := by decide +kernel
theorem dX2_addBias_59 : decode cX2_addBias 59 = .ok (.dload 4, 2) := by decide +kernel
theorem dX2_addBias_61 : decode cX2_addBias 61 = .ok (.aload 9, 2) := by decide +kernel
theorem dX2_addBias_63 : decode cX2_addBias 63 = .ok (.getfield 130, 3) := by decide +kernel
theorem dX2_addBias_66 : decode cX2_addBias 66 = .ok (.iload_n 1, 1) := by decide +kernel
theorem dX2_addBias_67 : decode cX2_addBias 67 = .ok (.invokevirtual 140, 3) := by decide +kernel
theorem dX2_addBias_70 : decode cX2_addBias 70 = .ok (.i2d, 1) := by decide +kernel
theorem dX2_addBias_71 : decode cX2_addBias 71 = .ok (.aload 9, 2) := by decide +kernel
theorem dX2_addBias_73 : decode cX2_addBias 73 = .ok (.getfield 130, 3) := by decide +kernel
theorem dX2_addBias_76 : decode cX2_addBias 76 = .ok (.invokevirtual 102, 3) := by decide +kernel
theorem dX2_addBias_79 : decode cX2_addBias 79 = .ok (.dsub, 1) := by decide +kernel
theorem dX2_addBias_80 : decode cX2_addBias 80 = .ok (.dadd, 1) := by decide +kernel
theorem dX2_addBias_81 : decode cX2_addBias 81 = .ok (.dstore 4, 2) := by decide +kernel
theorem dX2_addBias_83 : decode cX2_addBias 83 = .ok (.iinc 8 1, 3) := by decide +kernel
theorem dX2_addBias_86 : decode cX2_addBias 86 = .ok (.goto (-69), 3) := by decide +kernel
theorem dX2_addBias_89 : decode cX2_addBias 89 = .ok (.dload 4, 2) := by decide +kernel
theorem dX2_addBias_91 : decode cX2_addBias 91 = .ok (.dreturn, 1) := by decide +kernel
theorem dX3_init_0 : decode cX3_init 0 = .ok (.aload_n 0, 1) := by decide +kernel
theorem dX3_init_1 : decode cX3_init 1 = .ok (.invokespecial 3, 3) := by decide +kernel
theorem dX3_init_4 : decode cX3_init 4 = .ok (.aload_n 0, 1) := by decide +kernel
theorem dX3_init_5 : decode cX3_init 5 = .ok (.bipush 7, 2) := by decide +kernel
theorem dX3_init_7 : decode cX3_init 7 = .ok (.newarray .int, 2) := by decide +kernel
theorem dX3_init_9 : decode cX3_init 9 = .ok (.putfield 9, 3) := by decide +kernel
theorem dX3_init_12 : decode cX3_init 12 = .ok (.aload_n 0, 1) := by decide +kernel
theorem dX3_init_13 : decode cX3_init 13 = .ok (.bipush 7, 2) := by decide +kernel
theorem dX3_init_15 : decode cX3_init 15 = .ok (.newarray .boolean, 2) := by decide +kernel
theorem dX3_init_17 : decode cX3_init 17 = .ok (.putfield 15, 3) := by decide +kernel
theorem dX3_init_20 : decode cX3_init 20 = .ok (.aload_n 0, 1) := by decide +kernel
theorem dX3_init_21 : decode cX3_init 21 = .ok (.iconst 0, 1) := by decide +kernel
theorem dX3_init_22 : decode cX3_init 22 = .ok (.putfield 19, 3) := by decide +kernel
theorem dX3_init_25 : decode cX3_init 25 = .ok (.aload_n 0, 1) := by decide +kernel
theorem dX3_init_26 : decode cX3_init 26 = .ok (.iconst 0, 1) := by decide +kernel
theorem dX3_init_27 : decode cX3_init 27 = .ok (.putfield 23, 3) := by decide +kernel
theorem dX3_init_30 : decode cX3_init 30 = .ok (.aload_n 0, 1) := by decide +kernel
theorem dX3_init_31 : decode cX3_init 31 = .ok (.iconst 0, 1) := by decide +kernel
theorem dX3_init_32 : decode cX3_init 32 = .ok (.putfield 26, 3) := by decide +kernel
theorem dX3_init_35 : decode cX3_init 35 = .ok (.aload_n 0, 1) := by decide +kernel
theorem dX3_init_36 : decode cX3_init 36 = .ok (.iconst 0, 1) := by decide +kernel
theorem dX3_init_37 : decode cX3_init 37 = .ok (.putfield 29, 3) := by decide +kernel
theorem dX3_init_40 : decode cX3_init 40 = .ok (.return_, 1) := by decide +kernel
theorem dX3_tell_0 : decode cX3_tell 0 = .ok (.iload_n 1, 1) := by decide +kernel
theorem dX3_tell_1 : decode cX3_tell 1 = .ok (.ifCond .lt 9, 3) := by decide +kernel
theorem dX3_tell_4 : decode cX3_tell 4 = .ok (.iload_n 1, 1) := by decide +kernel
theorem dX3_tell_5 : decode cX3_tell 5 = .ok (.bipush 7, 2) := by decide +kernel
theorem dX3_tell_7 : decode cX3_tell 7 = .ok (.if_icmp .lt 4, 3) := by decide +kernel
theorem dX3_tell_10 : decode cX3_tell 10 = .ok (.return_, 1) := by decide +kernel
theorem dX3_tell_11 : decode cX3_tell 11 = .ok (.aload_n 0, 1) := by decide +kernel
theorem dX3_tell_12 : decode cX3_tell 12 = .ok (.getfield 9, 3) := by decide +kernel
theorem dX3_tell_15 : decode cX3_tell 15 = .ok (.iload_n 1, 1) := by decide +kernel
theorem dX3_tell_16 : decode cX3_tell 16 = .ok (.iload_n 2, 1) := by decide +kernel
theorem dX3_tell_17 : decode cX3_tell 17 = .ok (.iastore, 1) := by decide +kernel
theorem dX3_tell_18 : decode cX3_tell 18 = .ok (.aload_n 0, 1) := by decide +kernel
theorem dX3_tell_19 : decode cX3_tell 19 = .ok (.getfield 15, 3) := by decide +kernel
theorem dX3_tell_22 : decode cX3_tell 22 = .ok (.iload_n 1, 1) := by decide +kernel
theorem dX3_tell_23 : decode cX3_tell 23 = .ok (.iconst 1, 1) := by decide +kernel
theorem dX3_tell_24 : decode cX3_tell 24 = .ok (.bastore, 1) := by decide +kernel
theorem dX3_tell_25 : decode cX3_tell 25 = .ok (.aload_n 0, 1) := by decide +kernel
theorem dX3_tell_26 : decode cX3_tell 26 = .ok (.invokevirtual 32, 3) := by decide +kernel
theorem dX3_tell_29 : decode cX3_tell 29 = .ok (.return_, 1) := by decide +kernel
theorem dX3_recount_0 : decode cX3_recount 0 = .ok (.aload_n 0, 1) := by decide +kernel
theorem dX3_recount_1 : decode cX3_recount 1 = .ok (.iconst 0, 1) := by decide +kernel
theorem dX3_recount_2 : decode cX3_recount 2 = .ok (.putfield 19, 3) := by decide +kernel
theorem dX3_recount_5 : decode cX3_recount 5 = .ok (.aload_n 0, 1) := by decide +kernel
theorem dX3_recount_6 : decode cX3_recount 6 = .ok (.iconst 0, 1) := by decide +kernel
theorem dX3_recount_7 : decode cX3_recount 7 = .ok (.putfield 23, 3) := by decide +kernel
theorem dX3_recount_10 : decode cX3_recount 10 = .ok (.iconst 0, 1) := by decide +kernel
theorem dX3_recount_11 : decode cX3_recount 11 = .ok (.istore_n 1, 1) := by decide +kernel
theorem dX3_recount_12 : decode cX3_recount 12 = .ok (.iload_n 1, 1) := by decide +kernel
theorem dX3_recount_13 : decode cX3_recount 13 = .ok (.bipush 7, 2) := by decide +kernel
theorem dX3_recount_15 : decode cX3_recount 15 = .ok (.if_icmp .ge 109, 3) := by decide +kernel
theorem dX3_recount_18 : decode cX3_recount 18 = .ok (.aload_n 0, 1) := by decide +kernel
theorem dX3_recount_19 : decode cX3_recount 19 = .ok (.getfield 15, 3) := by decide +kernel
theorem dX3_recount_22 : decode cX3_recount 22 = .ok (.iload_n 1, 1) := by decide +kernel
theorem dX3_recount_23 : decode cX3_recount 23 = .ok (.baload, 1) := by decide +kernel
theorem dX3_recount_24 : decode cX3_recount 24 = .ok (.ifCond .eq 94, 3) := by decide +kernel
theorem dX3_recount_27 : decode cX3_recount 27 = .ok (.aload_n 0, 1) := by decide +kernel
theorem dX3_recount_28 : decode cX3_recount 28 = .ok (.aload_n 0, 1) := by decide +kernel
theorem dX3_recount_29 : decode cX3_recount 29 = .ok (.getfield 19, 3) := by decide +kernel
theorem dX3_recount_32 : decode cX3_recount 32 = .ok (.ifCond .ne 12, 3) := by decide +kernel
theorem dX3_recount_35 : decode cX3_recount 35 = .ok (.aload_n 0, 1) := by decide +kernel
theorem dX3_recount_36 : decode cX3_recount 36 = .ok (.getfield 9, 3) := by decide +kernel
theorem dX3_recount_39 : decode cX3_recount 39 = .ok (.iload_n 1, 1) := by decide +kernel
theorem dX3_recount_40 : decode cX3_recount 40 = .ok (.iaload, 1) := by decide +kernel
theorem dX3_recount_41 : decode cX3_recount 41 = .ok (.goto 16, 3) := by decide +kernel
theorem dX3_recount_44 : decode cX3_recount 44 = .ok (.aload_n 0, 1) := by decide +kernel
theorem dX3_recount_45 : decode cX3_recount 45 = .ok (.getfield 26, 3) := by decide +kernel
theorem dX3_recount_48 : decode cX3_recount 48 = .ok (.aload_n 0, 1) := by decide +kernel
theorem dX3_recount_49 : decode cX3_recount 49 = .ok (.getfield 9, 3) := by decide +kernel
theorem dX3_recount_52 : decode cX3_recount 52 = .ok (.iload_n 1, 1) := by decide +kernel
theorem dX3_recount_53 : decode cX3_recount 53 = .ok (.iaload, 1) := by decide +kernel
theorem dX3_recount_54 : decode cX3_recount 54 = .ok (.invokestatic 35, 3) := by decide +kernel
theorem dX3_recount_57 : decode cX3_recount 57 = .ok (.putfield 26, 3) := by decide +kernel
theorem dX3_recount_60 : decode cX3_recount 60 = .ok (.aload_n 0, 1) := by decide +kernel
theorem dX3_recount_61 : decode cX3_recount 61 = .ok (.aload_n 0, 1) := by decide +kernel
theorem dX3_recount_62 : decode cX3_recount 62 = .ok (.getfield 19, 3) := by decide +kernel
theorem dX3_recount_65 : decode cX3_recount 65 = .ok (.ifCond .ne 12, 3) := by decide +kernel
theorem dX3_recount_68 : decode cX3_recount 68 = .ok (.aload_n 0, 1) := by decide +kernel
theorem dX3_recount_69 : decode cX3_recount 69 = .ok (.getfield 9, 3) := by decide +kernel
theorem dX3_recount_72 : decode cX3_recount 72 = .ok (.iload_n 1, 1) := by decide +kernel
theorem dX3_recount_73 : decode cX3_recount 73 = .ok (.iaload, 1) := by decide +kernel
theorem dX3_recount_74 : decode cX3_recount 74 = .ok (.goto 16, 3) := by decide +kernel
theorem dX3_recount_77 : decode cX3_recount 77 = .ok (.aload_n 0, 1) := by decide +kernel
theorem dX3_recount_78 : decode cX3_recount 78 = .ok (.getfield 29, 3) := by decide +kernel
theorem dX3_recount_81 : decode cX3_recount 81 = .ok (.aload_n 0, 1) := by decide +kernel
theorem dX3_recount_82 : decode cX3_recount 82 = .ok (.getfield 9, 3) := by decide +kernel
theorem dX3_recount_85 : decode cX3_recount 85 = .ok (.iload_n 1, 1) := by decide +kernel
theorem dX3_recount_86 : decode cX3_recount 86 = .ok (.iaload, 1) := by decide +kernel
theorem dX3_recount_87 : decode cX3_recount 87 = .ok (.invokestatic 41, 3) := by decide +kernel
theorem dX3_recount_90 : decode cX3_recount 90 = .ok (.putfield 29, 3) := by decide +kernel
theorem dX3_recount_93 : decode cX3_recount 93 = .ok (.aload_n 0, 1) := by decide +kernel
theorem dX3_recount_94 : decode cX3_recount 94 = .ok (.dup, 1) := by decide +kernel
theorem dX3_recount_95 : decode cX3_recount 95 = .ok (.getfield 23, 3) := by decide +kernel
theorem dX3_recount_98 : decode cX3_recount 98 = .ok (.aload_n 0, 1) := by decide +kernel
theorem dX3_recount_99 : decode cX3_recount 99 = .ok (.getfield 9, 3) := by decide +kernel
theorem dX3_recount_102 : decode cX3_recount 102 = .ok (.iload_n 1, 1) := by decide +kernel
theorem dX3_recount_103 : decode cX3_recount 103 = .ok (.iaload, 1) := by decide +kernel
theorem dX3_recount_104 : decode cX3_recount 104 = .ok (.iadd, 1) := by decide +kernel
theorem dX3_recount_105 : decode cX3_recount 105 = .ok (.putfield 23, 3) := by decide +kernel
theorem dX3_recount_108 : decode cX3_recount 108 = .ok (.aload_n 0, 1) := by decide +kernel
theorem dX3_recount_109 : decode cX3_recount 109 = .ok (.dup, 1) := by decide +kernel
theorem dX3_recount_110 : decode cX3_recount 110 = .ok (.getfield 19, 3) := by decide +kernel
theorem dX3_recount_113 : decode cX3_recount 113 = .ok (.iconst 1, 1) := by decide +kernel
theorem dX3_recount_114 : decode cX3_recount 114 = .ok (.iadd, 1) := by decide +kernel
theorem dX3_recount_115 : decode cX3_recount 115 = .ok (.putfield 19, 3) := by decide +kernel
theorem dX3_recount_118 : decode cX3_recount 118 = .ok (.iinc 1 1, 3) := by decide +kernel
theorem dX3_recount_121 : decode cX3_recount 121 = .ok (.goto (-109), 3) := by decide +kernel
theorem dX3_recount_124 : decode cX3_recount 124 = .ok (.return_, 1) := by decide +kernel
theorem dX3_hasMean_0 : decode cX3_hasMean 0 = .ok (.aload_n 0, 1) := by decide +kernel
theorem dX3_hasMean_1 : decode cX3_hasMean 1 = .ok (.getfield 19, 3) := by decide +kernel
theorem dX3_hasMean_4 : decode cX3_hasMean 4 = .ok (.iconst 3, 1) := by decide +kernel
theorem dX3_hasMean_5 : decode cX3_hasMean 5 = .ok (.if_icmp .lt 7, 3) := by decide +kernel
theorem dX3_hasMean_8 : decode cX3_hasMean 8 = .ok (.iconst 1, 1) := by decide +kernel
theorem dX3_hasMean_9 : decode cX3_hasMean 9 = .ok (.goto 4, 3) := by decide +kernel
theorem dX3_hasMean_12 : decode cX3_hasMean 12 = .ok (.iconst 0, 1) := by decide +kernel
theorem dX3_hasMean_13 : decode cX3_hasMean 13 = .ok (.ireturn, 1) := by decide +kernel
theorem dX3_trimmedMean_0 : decode cX3_trimmedMean 0 = .ok (.aload_n 0, 1) := by decide +kernel
theorem dX3_trimmedMean_1 : decode cX3_trimmedMean 1 = .ok (.getfield 19, 3) := by decide +kernel
theorem dX3_trimmedMean_4 : decode cX3_trimmedMean 4 = .ok (.iconst 3, 1) := by decide +kernel
theorem dX3_trimmedMean_5 : decode cX3_trimmedMean 5 = .ok (.if_icmp .ge 7, 3) := by decide +kernel
theorem dX3_trimmedMean_8 : decode cX3_trimmedMean 8 = .ok (.dconst 0, 1) := by decide +kernel
theorem dX3_trimmedMean_9 : decode cX3_trimmedMean 9 = .ok (.goto 26, 3) := by decide +kernel
theorem dX3_trimmedMean_12 : decode cX3_trimmedMean 12 = .ok (.aload_n 0, 1) := by decide +kernel
theorem dX3_trimmedMean_13 : decode cX3_trimmedMean 13 = .ok (.getfield 23, 3) := by decide +kernel
theorem dX3_trimmedMean_16 : decode cX3_trimmedMean 16 = .ok (.aload_n 0, 1) := by decide +kernel
theorem dX3_trimmedMean_17 : decode cX3_trimmedMean 17 = .ok (.getfield 26, 3) := by decide +kernel
theorem dX3_trimmedMean_20 : decode cX3_trimmedMean 20 = .ok (.isub, 1) := by decide +kernel
theorem dX3_trimmedMean_21 : decode cX3_trimmedMean 21 = .ok (.aload_n 0, 1) := by decide +kernel
theorem dX3_trimmedMean_22 : decode cX3_trimmedMean 22 = .ok (.getfield 29, 3) := by decide +kernel
theorem dX3_trimmedMean_25 : decode cX3_trimmedMean 25 = .ok (.isub, 1) := by decide +kernel
theorem dX3_trimmedMean_26 : decode cX3_trimmedMean 26 = .ok (.i2d, 1) := by decide +kernel
theorem dX3_trimmedMean_27 : decode cX3_trimmedMean 27 = .ok (.aload_n 0, 1) := by decide +kernel
theorem dX3_trimmedMean_28 : decode cX3_trimmedMean 28 = .ok (.getfield 19, 3) := by decide +kernel
theorem dX3_trimmedMean_31 : decode cX3_trimmedMean 31 = .ok (.iconst 2, 1) := by decide +kernel
theorem dX3_trimmedMean_32 : decode cX3_trimmedMean 32 = .ok (.isub, 1) := by decide +kernel
theorem dX3_trimmedMean_33 : decode cX3_trimmedMean 33 = .ok (.i2d, 1) := by decide +kernel
theorem dX3_trimmedMean_34 : decode cX3_trimmedMean 34 = .ok (.ddiv, 1) := by decide +kernel
theorem dX3_trimmedMean_35 : decode cX3_trimmedMean 35 = .ok (.dreturn, 1) := by decide +kernel
theorem dX3_middle_0 : decode cX3_middle 0 = .ok (.aload_n 0, 1) := by decide +kernel
theorem dX3_middle_1 : decode cX3_middle 1 = .ok (.getfield 19, 3) := by decide +kernel
theorem dX3_middle_4 : decode cX3_middle 4 = .ok (.ifCond .ne 5, 3) := by decide +kernel
theorem dX3_middle_7 : decode cX3_middle 7 = .ok (.iconst 0, 1) := by decide +kernel
theorem dX3_middle_8 : decode cX3_middle 8 = .ok (.ireturn, 1) := by decide +kernel
theorem dX3_middle_9 : decode cX3_middle 9 = .ok (.aload_n 0, 1) := by decide +kernel
theorem dX3_middle_10 : decode cX3_middle 10 = .ok (.getfield 19, 3) := by decide +kernel
theorem dX3_middle_13 : decode cX3_middle 13 = .ok (.iconst 3, 1) := by decide +kernel
theorem dX3_middle_14 : decode cX3_middle 14 = .ok (.if_icmp .ge 10, 3) := by decide +kernel
theorem dX3_middle_17 : decode cX3_middle 17 = .ok (.aload_n 0, 1) := by decide +kernel
theorem dX3_middle_18 : decode cX3_middle 18 = .ok (.getfield 26, 3) := by decide +kernel
theorem dX3_middle_21 : decode cX3_middle 21 = .ok (.goto 17, 3) := by decide +kernel
theorem dX3_middle_24 : decode cX3_middle 24 = .ok (.aload_n 0, 1) := by decide +kernel
theorem dX3_middle_25 : decode cX3_middle 25 = .ok (.getfield 23, 3) := by decide +kernel
theorem dX3_middle_28 : decode cX3_middle 28 = .ok (.aload_n 0, 1) := by decide +kernel
theorem dX3_middle_29 : decode cX3_middle 29 = .ok (.getfield 26, 3) := by decide +kernel
theorem dX3_middle_32 : decode cX3_middle 32 = .ok (.isub, 1) := by decide +kernel
theorem dX3_middle_33 : decode cX3_middle 33 = .ok (.aload_n 0, 1) := by decide +kernel
theorem dX3_middle_34 : decode cX3_middle 34 = .ok (.getfield 29, 3) := by decide +kernel
theorem dX3_middle_37 : decode cX3_middle 37 = .ok (.isub, 1) := by decide +kernel
theorem dX3_middle_38 : decode cX3_middle 38 = .ok (.ireturn, 1) := by decide +kernel
theorem dX3_hasTold_0 : decode cX3_hasTold 0 = .ok (.iload_n 1, 1) := by decide +kernel
theorem dX3_hasTold_1 : decode cX3_hasTold 1 = .ok (.ifCond .lt 22, 3) := by decide +kernel
theorem dX3_hasTold_4 : decode cX3_hasTold 4 = .ok (.iload_n 1, 1) := by decide +kernel
theorem dX3_hasTold_5 : decode cX3_hasTold 5 = .ok (.bipush 7, 2) := by decide +kernel
theorem dX3_hasTold_7 : decode cX3_hasTold 7 = .ok (.if_icmp .ge 16, 3) := by decide +kernel
theorem dX3_hasTold_10 : decode cX3_hasTold 10 = .ok (.aload_n 0, 1) := by decide +kernel
theorem dX3_hasTold_11 : decode cX3_hasTold 11 = .ok (.getfield 15, 3) := by decide +kernel
theorem dX3_hasTold_14 : decode cX3_hasTold 14 = .ok (.iload_n 1, 1) := by decide +kernel
theorem dX3_hasTold_15 : decode cX3_hasTold 15 = .ok (.baload, 1) := by decide +kernel
theorem dX3_hasTold_16 : decode cX3_hasTold 16 = .ok (.ifCond .eq 7, 3) := by decide +kernel
theorem dX3_hasTold_19 : decode cX3_hasTold 19 = .ok (.iconst 1, 1) := by decide +kernel
theorem dX3_hasTold_20 : decode cX3_hasTold 20 = .ok (.goto 4, 3) := by decide +kernel
theorem dX3_hasTold_23 : decode cX3_hasTold 23 = .ok (.iconst 0, 1) := by decide +kernel
theorem dX3_hasTold_24 : decode cX3_hasTold 24 = .ok (.ireturn, 1) := by decide +kernel
theorem dX3_numberOf_0 : decode cX3_numberOf 0 = .ok (.aload_n 0, 1) := by decide +kernel
theorem dX3_numberOf_1 : decode cX3_numberOf 1 = .ok (.iload_n 1, 1) := by decide +kernel
theorem dX3_numberOf_2 : decode cX3_numberOf 2 = .ok (.invokevirtual 44, 3) := by decide +kernel
theorem dX3_numberOf_5 : decode cX3_numberOf 5 = .ok (.ifCond .eq 12, 3) := by decide +kernel
theorem dX3_numberOf_8 : decode cX3_numberOf 8 = .ok (.aload_n 0, 1) := by decide +kernel
theorem dX3_numberOf_9 : decode cX3_numberOf 9 = .ok (.getfield 9, 3) := by decide +kernel
theorem dX3_numberOf_12 : decode cX3_numberOf 12 = .ok (.iload_n 1, 1) := by decide +kernel
theorem dX3_numberOf_13 : decode cX3_numberOf 13 = .ok (.iaload, 1) := by decide +kernel
theorem dX3_numberOf_14 : decode cX3_numberOf 14 = .ok (.goto 4, 3) := by decide +kernel
theorem dX3_numberOf_17 : decode cX3_numberOf 17 = .ok (.iconst 0, 1) := by decide +kernel
theorem dX3_numberOf_18 : decode cX3_numberOf 18 = .ok (.ireturn, 1) := by decide +kernel
theorem dX4_init_0 : decode cX4_init 0 = .ok (.aload_n 0, 1) := by decide +kernel
theorem dX4_init_1 : decode cX4_init 1 = .ok (.invokespecial 1, 3) := by decide +kernel
theorem dX4_init_4 : decode cX4_init 4 = .ok (.aload_n 0, 1) := by decide +kernel
theorem dX4_init_5 : decode cX4_init 5 = .ok (.bipush 12, 2) := by decide +kernel
theorem dX4_init_7 : decode cX4_init 7 = .ok (.anewarray 9, 3) := by decide +kernel
theorem dX4_init_10 : decode cX4_init 10 = .ok (.putfield 11, 3) := by decide +kernel
theorem dX4_init_13 : decode cX4_init 13 = .ok (.aload_n 0, 1) := by decide +kernel
theorem dX4_init_14 : decode cX4_init 14 = .ok (.iconst 3, 1) := by decide +kernel
theorem dX4_init_15 : decode cX4_init 15 = .ok (.anewarray 15, 3) := by decide +kernel
theorem dX4_init_18 : decode cX4_init 18 = .ok (.putfield 17, 3) := by decide +kernel
theorem dX4_init_21 : decode cX4_init 21 = .ok (.aload_n 0, 1) := by decide +kernel
theorem dX4_init_22 : decode cX4_init 22 = .ok (.bipush 12, 2) := by decide +kernel
theorem dX4_init_24 : decode cX4_init 24 = .ok (.newarray .int, 2) := by decide +kernel
theorem dX4_init_26 : decode cX4_init 26 = .ok (.putfield 21, 3) := by decide +kernel
theorem dX4_init_29 : decode cX4_init 29 = .ok (.aload_n 0, 1) := by decide +kernel
theorem dX4_init_30 : decode cX4_init 30 = .ok (.bipush 12, 2) := by decide +kernel
theorem dX4_init_32 : decode cX4_init 32 = .ok (.newarray .int, 2) := by decide +kernel
theorem dX4_init_34 : decode cX4_init 34 = .ok (.putfield 25, 3) := by decide +kernel
theorem dX4_init_37 : decode cX4_init 37 = .ok (.aload_n 0, 1) := by decide +kernel
theorem dX4_init_38 : decode cX4_init 38 = .ok (.iconst 0, 1) := by decide +kernel
theorem dX4_init_39 : decode cX4_init 39 = .ok (.putfield 28, 3) := by decide +kernel
theorem dX4_init_42 : decode cX4_init 42 = .ok (.aload_n 0, 1) := by decide +kernel
theorem dX4_init_43 : decode cX4_init 43 = .ok (.aconst_null, 1) := by decide +kernel
theorem dX4_init_44 : decode cX4_init 44 = .ok (.putfield 32, 3) := by decide +kernel
theorem dX4_init_47 : decode cX4_init 47 = .ok (.iconst 0, 1) := by decide +kernel
theorem dX4_init_48 : decode cX4_init 48 = .ok (.istore_n 1, 1) := by decide +kernel
theorem dX4_init_49 : decode cX4_init 49 = .ok (.iload_n 1, 1) := by decide +kernel
theorem dX4_init_50 : decode cX4_init 50 = .ok (.aload_n 0, 1) := by decide +kernel
theorem dX4_init_51 : decode cX4_init 51 = .ok (.getfield 17, 3) := by decide +kernel
theorem dX4_init_54 : decode cX4_init 54 = .ok (.arraylength, 1) := by decide +kernel
theorem dX4_init_55 : decode cX4_init 55 = .ok (.if_icmp .ge 22, 3) := by decide +kernel
theorem dX4_init_58 : decode cX4_init 58 = .ok (.aload_n 0, 1) := by decide +kernel
theorem dX4_init_59 : decode cX4_init 59 = .ok (.getfield 17, 3) := by decide +kernel
theorem dX4_init_62 : decode cX4_init 62 = .ok (.iload_n 1, 1) := by decide +kernel
theorem dX4_init_63 : decode cX4_init 63 = .ok (.new 15, 3) := by decide +kernel
theorem dX4_init_66 : decode cX4_init 66 = .ok (.dup, 1) := by decide +kernel
theorem dX4_init_67 : decode cX4_init 67 = .ok (.invokespecial 36, 3) := by decide +kernel
theorem dX4_init_70 : decode cX4_init 70 = .ok (.aastore, 1) := by decide +kernel
theorem dX4_init_71 : decode cX4_init 71 = .ok (.iinc 1 1, 3) := by decide +kernel
theorem dX4_init_74 : decode cX4_init 74 = .ok (.goto (-25), 3) := by decide +kernel
theorem dX4_init_77 : decode cX4_init 77 = .ok (.return_, 1) := by decide +kernel
theorem dX4_skater_0 : decode cX4_skater 0 = .ok (.aload_n 0, 1) := by decide +kernel
theorem dX4_skater_1 : decode cX4_skater 1 = .ok (.getfield 28, 3) := by decide +kernel
theorem dX4_skater_4 : decode cX4_skater 4 = .ok (.ifCond .lt 15, 3) := by decide +kernel
theorem dX4_skater_7 : decode cX4_skater 7 = .ok (.aload_n 0, 1) := by decide +kernel
theorem dX4_skater_8 : decode cX4_skater 8 = .ok (.getfield 28, 3) := by decide +kernel
theorem dX4_skater_11 : decode cX4_skater 11 = .ok (.aload_n 0, 1) := by decide +kernel
theorem dX4_skater_12 : decode cX4_skater 12 = .ok (.getfield 11, 3) := by decide +kernel
theorem dX4_skater_15 : decode cX4_skater 15 = .ok (.arraylength, 1) := by decide +kernel
theorem dX4_skater_16 : decode cX4_skater 16 = .ok (.if_icmp .lt 13, 3) := by decide +kernel
theorem dX4_skater_19 : decode cX4_skater 19 = .ok (.new 37, 3) := by decide +kernel
theorem dX4_skater_22 : decode cX4_skater 22 = .ok (.dup, 1) := by decide +kernel
theorem dX4_skater_23 : decode cX4_skater 23 = .ok (.ldc 39, 2) := by decide +kernel
theorem dX4_skater_25 : decode cX4_skater 25 = .ok (.invokespecial 41, 3) := by decide +kernel
theorem dX4_skater_28 : decode cX4_skater 28 = .ok (.athrow, 1) := by decide +kernel
theorem dX4_skater_29 : decode cX4_skater 29 = .ok (.aload_n 0, 1) := by decide +kernel
theorem dX4_skater_30 : decode cX4_skater 30 = .ok (.getfield 28, 3) := by decide +kernel
theorem dX4_skater_33 : decode cX4_skater 33 = .ok (.istore_n 1, 1) := by decide +kernel
theorem dX4_skater_34 : decode cX4_skater 34 = .ok (.aload_n 0, 1) := by decide +kernel
theorem dX4_skater_35 : decode cX4_skater 35 = .ok (.getfield 11, 3) := by decide +kernel
theorem dX4_skater_38 : decode cX4_skater 38 = .ok (.iload_n 1, 1) := by decide +kernel
theorem dX4_skater_39 : decode cX4_skater 39 = .ok (.new 9, 3) := by decide +kernel
theorem dX4_skater_42 : decode cX4_skater 42 = .ok (.dup, 1) := by decide +kernel
theorem dX4_skater_43 : decode cX4_skater 43 = .ok (.invokespecial 44, 3) := by decide +kernel
theorem dX4_skater_46 : decode cX4_skater 46 = .ok (.aastore, 1) := by decide +kernel
theorem dX4_skater_47 : decode cX4_skater 47 = .ok (.aload_n 0, 1) := by decide +kernel
theorem dX4_skater_48 : decode cX4_skater 48 = .ok (.iload_n 1, 1) := by decide +kernel
theorem dX4_skater_49 : decode cX4_skater 49 = .ok (.iconst 1, 1) := by decide +kernel
theorem dX4_skater_50 : decode cX4_skater 50 = .ok (.iadd, 1) := by decide +kernel
theorem dX4_skater_51 : decode cX4_skater 51 = .ok (.putfield 28, 3) := by decide +kernel
theorem dX4_skater_54 : decode cX4_skater 54 = .ok (.iload_n 1, 1) := by decide +kernel
theorem dX4_skater_55 : decode cX4_skater 55 = .ok (.ireturn, 1) := by decide +kernel
theorem dX4_begin_0 : decode cX4_begin 0 = .ok (.aload_n 0, 1) := by decide +kernel
theorem dX4_begin_1 : decode cX4_begin 1 = .ok (.iload_n 1, 1) := by decide +kernel
theorem dX4_begin_2 : decode cX4_begin 2 = .ok (.invokevirtual 45, 3) := by decide +kernel
theorem dX4_begin_5 : decode cX4_begin 5 = .ok (.astore_n 2, 1) := by decide +kernel
theorem dX4_begin_6 : decode cX4_begin 6 = .ok (.aload_n 2, 1) := by decide +kernel
theorem dX4_begin_7 : decode cX4_begin 7 = .ok (.ifnonnull 13, 3) := by decide +kernel
theorem dX4_begin_10 : decode cX4_begin 10 = .ok (.new 49, 3) := by decide +kernel
theorem dX4_begin_13 : decode cX4_begin 13 = .ok (.dup, 1) := by decide +kernel
theorem dX4_begin_14 : decode cX4_begin 14 = .ok (.ldc 51, 2) := by decide +kernel
theorem dX4_begin_16 : decode cX4_begin 16 = .ok (.invokespecial 53, 3) := by decide +kernel
theorem dX4_begin_19 : decode cX4_begin 19 = .ok (.athrow, 1) := by decide +kernel
theorem dX4_begin_20 : decode cX4_begin 20 = .ok (.aload_n 0, 1) := by decide +kernel
theorem dX4_begin_21 : decode cX4_begin 21 = .ok (.getfield 32, 3) := by decide +kernel
theorem dX4_begin_24 : decode cX4_begin 24 = .ok (.ifnonnull 10, 3) := by decide +kernel
theorem dX4_begin_27 : decode cX4_begin 27 = .ok (.aload_n 2, 1) := by decide +kernel
theorem dX4_begin_28 : decode cX4_begin 28 = .ok (.getfield 54, 3) := by decide +kernel
theorem dX4_begin_31 : decode cX4_begin 31 = .ok (.ifCond .eq 13, 3) := by decide +kernel
theorem dX4_begin_34 : decode cX4_begin 34 = .ok (.new 37, 3) := by decide +kernel
theorem dX4_begin_37 : decode cX4_begin 37 = .ok (.dup, 1) := by decide +kernel
theorem dX4_begin_38 : decode cX4_begin 38 = .ok (.ldc 58, 2) := by decide +kernel
theorem dX4_begin_40 : decode cX4_begin 40 = .ok (.invokespecial 41, 3) := by decide +kernel
theorem dX4_begin_43 : decode cX4_begin 43 = .ok (.athrow, 1) := by decide +kernel
theorem dX4_begin_44 : decode cX4_begin 44 = .ok (.aload_n 2, 1) := by decide +kernel
theorem dX4_begin_45 : decode cX4_begin 45 = .ok (.iconst 1, 1) := by decide +kernel
theorem dX4_begin_46 : decode cX4_begin 46 = .ok (.putfield 54, 3) := by decide +kernel
theorem dX4_begin_49 : decode cX4_begin 49 = .ok (.aload_n 0, 1) := by decide +kernel
theorem dX4_begin_50 : decode cX4_begin 50 = .ok (.aload_n 2, 1) := by decide +kernel
theorem dX4_begin_51 : decode cX4_begin 51 = .ok (.putfield 32, 3) := by decide +kernel
theorem dX4_begin_54 : decode cX4_begin 54 = .ok (.return_, 1) := by decide +kernel
theorem dX4_turn_0 : decode cX4_turn 0 = .ok (.iload_n 1, 1) := by decide +kernel
theorem dX4_turn_1 : decode cX4_turn 1 = .ok (.iconst 0, 1) := by decide +kernel
theorem dX4_turn_2 : decode cX4_turn 2 = .ok (.iconst 5, 1) := by decide +kernel
theorem dX4_turn_3 : decode cX4_turn 3 = .ok (.invokestatic 60, 3) := by decide +kernel
theorem dX4_turn_6 : decode cX4_turn 6 = .ok (.ifCond .ne 13, 3) := by decide +kernel
theorem dX4_turn_9 : decode cX4_turn 9 = .ok (.new 64, 3) := by decide +kernel
theorem dX4_turn_12 : decode cX4_turn 12 = .ok (.dup, 1) := by decide +kernel
theorem dX4_turn_13 : decode cX4_turn 13 = .ok (.ldc 66, 2) := by decide +kernel
theorem dX4_turn_15 : decode cX4_turn 15 = .ok (.invokespecial 68, 3) := by decide +kernel
theorem dX4_turn_18 : decode cX4_turn 18 = .ok (.athrow, 1) := by decide +kernel
theorem dX4_turn_19 : decode cX4_turn 19 = .ok (.aload_n 0, 1) := by decide +kernel
theorem dX4_turn_20 : decode cX4_turn 20 = .ok (.getfield 32, 3) := by decide +kernel
theorem dX4_turn_23 : decode cX4_turn 23 = .ok (.ifnull 13, 3) := by decide +kernel
theorem dX4_turn_26 : decode cX4_turn 26 = .ok (.aload_n 0, 1) := by decide +kernel
theorem dX4_turn_27 : decode cX4_turn 27 = .ok (.getfield 32, 3) := by decide +kernel
theorem dX4_turn_30 : decode cX4_turn 30 = .ok (.invokevirtual 69, 3) := by decide +kernel
theorem dX4_turn_33 : decode cX4_turn 33 = .ok (.ifCond .ne 13, 3) := by decide +kernel
theorem dX4_turn_36 : decode cX4_turn 36 = .ok (.new 37, 3) := by decide +kernel
theorem dX4_turn_39 : decode cX4_turn 39 = .ok (.dup, 1) := by decide +kernel
theorem dX4_turn_40 : decode cX4_turn 40 = .ok (.ldc 73, 2) := by decide +kernel
theorem dX4_turn_42 : decode cX4_turn 42 = .ok (.invokespecial 41, 3) := by decide +kernel
theorem dX4_turn_45 : decode cX4_turn 45 = .ok (.athrow, 1) := by decide +kernel
theorem dX4_turn_46 : decode cX4_turn 46 = .ok (.aload_n 0, 1) := by decide +kernel
theorem dX4_turn_47 : decode cX4_turn 47 = .ok (.getfield 32, 3) := by decide +kernel
theorem dX4_turn_50 : decode cX4_turn 50 = .ok (.iload_n 1, 1) := by decide +kernel
theorem dX4_turn_51 : decode cX4_turn 51 = .ok (.invokevirtual 75, 3) := by decide +kernel
theorem dX4_turn_54 : decode cX4_turn 54 = .ok (.ireturn, 1) := by decide +kernel
theorem dX4_jump_0 : decode cX4_jump 0 = .ok (.iload_n 1, 1) := by decide +kernel
theorem dX4_jump_1 : decode cX4_jump 1 = .ok (.iconst 0, 1) := by decide +kernel
theorem dX4_jump_2 : decode cX4_jump 2 = .ok (.iconst 5, 1) := by decide +kernel
theorem dX4_jump_3 : decode cX4_jump 3 = .ok (.invokestatic 60, 3) := by decide +kernel
theorem dX4_jump_6 : decode cX4_jump 6 = .ok (.ifCond .eq 12, 3) := by decide +kernel
theorem dX4_jump_9 : decode cX4_jump 9 = .ok (.iload_n 2, 1) := by decide +kernel
theorem dX4_jump_10 : decode cX4_jump 10 = .ok (.iconst 1, 1) := by decide +kernel
theorem dX4_jump_11 : decode cX4_jump 11 = .ok (.iconst 4, 1) := by decide +kernel
theorem dX4_jump_12 : decode cX4_jump 12 = .ok (.invokestatic 60, 3) := by decide +kernel
theorem dX4_jump_15 : decode cX4_jump 15 = .ok (.ifCond .ne 13, 3) := by decide +kernel
theorem dX4_jump_18 : decode cX4_jump 18 = .ok (.new 64, 3) := by decide +kernel
theorem dX4_jump_21 : decode cX4_jump 21 = .ok (.dup, 1) := by decide +kernel
theorem dX4_jump_22 : decode cX4_jump 22 = .ok (.ldc 79, 2) := by decide +kernel
theorem dX4_jump_24 : decode cX4_jump 24 = .ok (.invokespecial 68, 3) := by decide +kernel
theorem dX4_jump_27 : decode cX4_jump 27 = .ok (.athrow, 1) := by decide +kernel
theorem dX4_jump_28 : decode cX4_jump 28 = .ok (.aload_n 0, 1) := by decide +kernel
theorem dX4_jump_29 : decode cX4_jump 29 = .ok (.getfield 32, 3) := by decide +kernel
theorem dX4_jump_32 : decode cX4_jump 32 = .ok (.ifnull 24, 3) := by decide +kernel
theorem dX4_jump_35 : decode cX4_jump 35 = .ok (.aload_n 0, 1) := by decide +kernel
theorem dX4_jump_36 : decode cX4_jump 36 = .ok (.getfield 32, 3) := by decide +kernel
theorem dX4_jump_39 : decode cX4_jump 39 = .ok (.invokevirtual 81, 3) := by decide +kernel
theorem dX4_jump_42 : decode cX4_jump 42 = .ok (.ifCond .eq 14, 3) := by decide +kernel
theorem dX4_jump_45 : decode cX4_jump 45 = .ok (.aload_n 0, 1) := by decide +kernel
theorem dX4_jump_46 : decode cX4_jump 46 = .ok (.getfield 32, 3) := by decide +kernel
theorem dX4_jump_49 : decode cX4_jump 49 = .ok (.iload_n 1, 1) := by decide +kernel
theorem dX4_jump_50 : decode cX4_jump 50 = .ok (.invokevirtual 84, 3) := by decide +kernel
theorem dX4_jump_53 : decode cX4_jump 53 = .ok (.ifCond .ne 13, 3) := by decide +kernel
theorem dX4_jump_56 : decode cX4_jump 56 = .ok (.new 37, 3) := by decide +kernel
theorem dX4_jump_59 : decode cX4_jump 59 = .ok (.dup, 1) := by decide +kernel
theorem dX4_jump_60 : decode cX4_jump 60 = .ok (.ldc 88, 2) := by decide +kernel
theorem dX4_jump_62 : decode cX4_jump 62 = .ok (.invokespecial 41, 3) := by decide +kernel
theorem dX4_jump_65 : decode cX4_jump 65 = .ok (.athrow, 1) := by decide +kernel
theorem dX4_jump_66 : decode cX4_jump 66 = .ok (.aload_n 0, 1) := by decide +kernel
theorem dX4_jump_67 : decode cX4_jump 67 = .ok (.getfield 32, 3) := by decide +kernel
theorem dX4_jump_70 : decode cX4_jump 70 = .ok (.iload_n 1, 1) := by decide +kernel
theorem dX4_jump_71 : decode cX4_jump 71 = .ok (.iload_n 2, 1) := by decide +kernel
theorem dX4_jump_72 : decode cX4_jump 72 = .ok (.iload_n 3, 1) := by decide +kernel
theorem dX4_jump_73 : decode cX4_jump 73 = .ok (.invokevirtual 90, 3) := by decide +kernel
theorem dX4_jump_76 : decode cX4_jump 76 = .ok (.ireturn, 1) := by decide +kernel
theorem dX4_spin_0 : decode cX4_spin 0 = .ok (.iload_n 1, 1) := by decide +kernel
theorem dX4_spin_1 : decode cX4_spin 1 = .ok (.iconst 0, 1) := by decide +kernel
theorem dX4_spin_2 : decode cX4_spin 2 = .ok (.bipush 63, 2) := by decide +kernel
theorem dX4_spin_4 : decode cX4_spin 4 = .ok (.invokestatic 60, 3) := by decide +kernel
theorem dX4_spin_7 : decode cX4_spin 7 = .ok (.ifCond .eq 13, 3) := by decide +kernel
theorem dX4_spin_10 : decode cX4_spin 10 = .ok (.iload_n 2, 1) := by decide +kernel
theorem dX4_spin_11 : decode cX4_spin 11 = .ok (.iconst 1, 1) := by decide +kernel
theorem dX4_spin_12 : decode cX4_spin 12 = .ok (.bipush 20, 2) := by decide +kernel
theorem dX4_spin_14 : decode cX4_spin 14 = .ok (.invokestatic 60, 3) := by decide +kernel
theorem dX4_spin_17 : decode cX4_spin 17 = .ok (.ifCond .ne 13, 3) := by decide +kernel
theorem dX4_spin_20 : decode cX4_spin 20 = .ok (.new 64, 3) := by decide +kernel
theorem dX4_spin_23 : decode cX4_spin 23 = .ok (.dup, 1) := by decide +kernel
theorem dX4_spin_24 : decode cX4_spin 24 = .ok (.ldc 94, 2) := by decide +kernel
theorem dX4_spin_26 : decode cX4_spin 26 = .ok (.invokespecial 68, 3) := by decide +kernel
theorem dX4_spin_29 : decode cX4_spin 29 = .ok (.athrow, 1) := by decide +kernel
theorem dX4_spin_30 : decode cX4_spin 30 = .ok (.aload_n 0, 1) := by decide +kernel
theorem dX4_spin_31 : decode cX4_spin 31 = .ok (.getfield 32, 3) := by decide +kernel
theorem dX4_spin_34 : decode cX4_spin 34 = .ok (.ifnull 13, 3) := by decide +kernel
theorem dX4_spin_37 : decode cX4_spin 37 = .ok (.aload_n 0, 1) := by decide +kernel
theorem dX4_spin_38 : decode cX4_spin 38 = .ok (.getfield 32, 3) := by decide +kernel
theorem dX4_spin_41 : decode cX4_spin 41 = .ok (.invokevirtual 81, 3) := by decide +kernel
theorem dX4_spin_44 : decode cX4_spin 44 = .ok (.ifCond .ne 13, 3) := by decide +kernel
theorem dX4_spin_47 : decode cX4_spin 47 = .ok (.new 37, 3) := by decide +kernel
theorem dX4_spin_50 : decode cX4_spin 50 = .ok (.dup, 1) := by decide +kernel
theorem dX4_spin_51 : decode cX4_spin 51 = .ok (.ldc 96, 2) := by decide +kernel
theorem dX4_spin_53 : decode cX4_spin 53 = .ok (.invokespecial 41, 3) := by decide +kernel
theorem dX4_spin_56 : decode cX4_spin 56 = .ok (.athrow, 1) := by decide +kernel
theorem dX4_spin_57 : decode cX4_spin 57 = .ok (.aload_n 0, 1) := by decide +kernel
theorem dX4_spin_58 : decode cX4_spin 58 = .ok (.getfield 32, 3) := by decide +kernel
theorem dX4_spin_61 : decode cX4_spin 61 = .ok (.iload_n 1, 1) := by decide +kernel
theorem dX4_spin_62 : decode cX4_spin 62 = .ok (.iload_n 2, 1) := by decide +kernel
theorem dX4_spin_63 : decode cX4_spin 63 = .ok (.invokevirtual 98, 3) := by decide +kernel
theorem dX4_spin_66 : decode cX4_spin 66 = .ok (.ireturn, 1) := by decide +kernel
theorem dX4_end_0 : decode cX4_end 0 = .ok (.aload_n 0, 1) := by decide +kernel
theorem dX4_end_1 : decode cX4_end 1 = .ok (.getfield 32, 3) := by decide +kernel
theorem dX4_end_4 : decode cX4_end 4 = .ok (.ifnonnull 13, 3) := by decide +kernel
theorem dX4_end_7 : decode cX4_end 7 = .ok (.new 37, 3) := by decide +kernel
theorem dX4_end_10 : decode cX4_end 10 = .ok (.dup, 1) := by decide +kernel
theorem dX4_end_11 : decode cX4_end 11 = .ok (.ldc 102, 2) := by decide +kernel
theorem dX4_end_13 : decode cX4_end 13 = .ok (.invokespecial 41, 3) := by decide +kernel
theorem dX4_end_16 : decode cX4_end 16 = .ok (.athrow, 1) := by decide +kernel
theorem dX4_end_17 : decode cX4_end 17 = .ok (.aload_n 0, 1) := by decide +kernel
theorem dX4_end_18 : decode cX4_end 18 = .ok (.getfield 32, 3) := by decide +kernel
theorem dX4_end_21 : decode cX4_end 21 = .ok (.astore_n 1, 1) := by decide +kernel
theorem dX4_end_22 : decode cX4_end 22 = .ok (.aload_n 1, 1) := by decide +kernel
theorem dX4_end_23 : decode cX4_end 23 = .ok (.iconst 1, 1) := by decide +kernel
theorem dX4_end_24 : decode cX4_end 24 = .ok (.putfield 104, 3) := by decide +kernel
theorem dX4_end_27 : decode cX4_end 27 = .ok (.aload_n 0, 1) := by decide +kernel
theorem dX4_end_28 : decode cX4_end 28 = .ok (.aconst_null, 1) := by decide +kernel
theorem dX4_end_29 : decode cX4_end 29 = .ok (.putfield 32, 3) := by decide +kernel
theorem dX4_end_32 : decode cX4_end 32 = .ok (.aload_n 1, 1) := by decide +kernel
theorem dX4_end_33 : decode cX4_end 33 = .ok (.getfield 107, 3) := by decide +kernel
theorem dX4_end_36 : decode cX4_end 36 = .ok (.ireturn, 1) := by decide +kernel
theorem dX4_call_0 : decode cX4_call 0 = .ok (.aload_n 0, 1) := by decide +kernel
theorem dX4_call_1 : decode cX4_call 1 = .ok (.getfield 32, 3) := by decide +kernel
theorem dX4_call_4 : decode cX4_call 4 = .ok (.ifnonnull 7, 3) := by decide +kernel
theorem dX4_call_7 : decode cX4_call 7 = .ok (.aconst_null, 1) := by decide +kernel
theorem dX4_call_8 : decode cX4_call 8 = .ok (.goto 11, 3) := by decide +kernel
theorem dX4_call_11 : decode cX4_call 11 = .ok (.aload_n 0, 1) := by decide +kernel
theorem dX4_call_12 : decode cX4_call 12 = .ok (.getfield 32, 3) := by decide +kernel
theorem dX4_call_15 : decode cX4_call 15 = .ok (.iload_n 2, 1) := by decide +kernel
theorem dX4_call_16 : decode cX4_call 16 = .ok (.invokevirtual 110, 3) := by decide +kernel
theorem dX4_call_19 : decode cX4_call 19 = .ok (.astore 4, 2) := by decide +kernel
theorem dX4_call_21 : decode cX4_call 21 = .ok (.iload_n 1, 1) := by decide +kernel
theorem dX4_call_22 : decode cX4_call 22 = .ok (.iconst 0, 1) := by decide +kernel
theorem dX4_call_23 : decode cX4_call 23 = .ok (.iconst 2, 1) := by decide +kernel
theorem dX4_call_24 : decode cX4_call 24 = .ok (.invokestatic 60, 3) := by decide +kernel
theorem dX4_call_27 : decode cX4_call 27 = .ok (.ifCond .eq 15, 3) := by decide +kernel
theorem dX4_call_30 : decode cX4_call 30 = .ok (.aload_n 0, 1) := by decide +kernel
theorem dX4_call_31 : decode cX4_call 31 = .ok (.getfield 32, 3) := by decide +kernel
theorem dX4_call_34 : decode cX4_call 34 = .ok (.ifnull 18, 3) := by decide +kernel
theorem dX4_call_37 : decode cX4_call 37 = .ok (.aload 4, 2) := by decide +kernel
theorem dX4_call_39 : decode cX4_call 39 = .ok (.ifnonnull 13, 3) := by decide +kernel
theorem dX4_call_42 : decode cX4_call 42 = .ok (.new 49, 3) := by decide +kernel
theorem dX4_call_45 : decode cX4_call 45 = .ok (.dup, 1) := by decide +kernel
theorem dX4_call_46 : decode cX4_call 46 = .ok (.ldc 114, 2) := by decide +kernel
theorem dX4_call_48 : decode cX4_call 48 = .ok (.invokespecial 53, 3) := by decide +kernel
theorem dX4_call_51 : decode cX4_call 51 = .ok (.athrow, 1) := by decide +kernel
theorem dX4_call_52 : decode cX4_call 52 = .ok (.iload_n 3, 1) := by decide +kernel
theorem dX4_call_53 : decode cX4_call 53 = .ok (.iconst 0, 1) := by decide +kernel
theorem dX4_call_54 : decode cX4_call 54 = .ok (.iconst 4, 1) := by decide +kernel
theorem dX4_call_55 : decode cX4_call 55 = .ok (.invokestatic 60, 3) := by decide +kernel
theorem dX4_call_58 : decode cX4_call 58 = .ok (.ifCond .ne 13, 3) := by decide +kernel
theorem dX4_call_61 : decode cX4_call 61 = .ok (.new 64, 3) := by decide +kernel
theorem dX4_call_64 : decode cX4_call 64 = .ok (.dup, 1) := by decide +kernel
theorem dX4_call_65 : decode cX4_call 65 = .ok (.ldc 116, 2) := by decide +kernel
theorem dX4_call_67 : decode cX4_call 67 = .ok (.invokespecial 68, 3) := by decide +kernel
theorem dX4_call_70 : decode cX4_call 70 = .ok (.athrow, 1) := by decide +kernel
theorem dX4_call_71 : decode cX4_call 71 = .ok (.aload 4, 2) := by decide +kernel
theorem dX4_call_73 : decode cX4_call 73 = .ok (.ifnull 13, 3) := by decide +kernel
theorem dX4_call_76 : decode cX4_call 76 = .ok (.aload 4, 2) := by decide +kernel
theorem dX4_call_78 : decode cX4_call 78 = .ok (.getfield 118, 3) := by decide +kernel
theorem dX4_call_81 : decode cX4_call 81 = .ok (.bipush 6, 2) := by decide +kernel
theorem dX4_call_83 : decode cX4_call 83 = .ok (.if_icmp .ne 13, 3) := by decide +kernel
theorem dX4_call_86 : decode cX4_call 86 = .ok (.new 37, 3) := by decide +kernel
theorem dX4_call_89 : decode cX4_call 89 = .ok (.dup, 1) := by decide +kernel
theorem dX4_call_90 : decode cX4_call 90 = .ok (.ldc 123, 2) := by decide +kernel
theorem dX4_call_92 : decode cX4_call 92 = .ok (.invokespecial 41, 3) := by decide +kernel
theorem dX4_call_95 : decode cX4_call 95 = .ok (.athrow, 1) := by decide +kernel
theorem dX4_call_96 : decode cX4_call 96 = .ok (.aload 4, 2) := by decide +kernel
theorem dX4_call_98 : decode cX4_call 98 = .ok (.getfield 125, 3) := by decide +kernel
theorem dX4_call_101 : decode cX4_call 101 = .ok (.iload_n 1, 1) := by decide +kernel
theorem dX4_call_102 : decode cX4_call 102 = .ok (.iload_n 3, 1) := by decide +kernel
theorem dX4_call_103 : decode cX4_call 103 = .ok (.invokevirtual 129, 3) := by decide +kernel
theorem dX4_call_106 : decode cX4_call 106 = .ok (.aload 4, 2) := by decide +kernel
theorem dX4_call_108 : decode cX4_call 108 = .ok (.invokevirtual 135, 3) := by decide +kernel
theorem dX4_call_111 : decode cX4_call 111 = .ok (.ireturn, 1) := by decide +kernel
theorem dX4_grade_0 : decode cX4_grade 0 = .ok (.aload_n 0, 1) := by decide +kernel
theorem dX4_grade_1 : decode cX4_grade 1 = .ok (.iload_n 2, 1) := by decide +kernel
theorem dX4_grade_2 : decode cX4_grade 2 = .ok (.invokevirtual 45, 3) := by decide +kernel
theorem dX4_grade_5 : decode cX4_grade 5 = .ok (.astore 5, 2) := by decide +kernel
theorem dX4_grade_7 : decode cX4_grade 7 = .ok (.aload 5, 2) := by decide +kernel
theorem dX4_grade_9 : decode cX4_grade 9 = .ok (.ifnonnull 7, 3) := by decide +kernel
theorem dX4_grade_12 : decode cX4_grade 12 = .ok (.aconst_null, 1) := by decide +kernel
theorem dX4_grade_13 : decode cX4_grade 13 = .ok (.goto 9, 3) := by decide +kernel
theorem dX4_grade_16 : decode cX4_grade 16 = .ok (.aload 5, 2) := by decide +kernel
theorem dX4_grade_18 : decode cX4_grade 18 = .ok (.iload_n 3, 1) := by decide +kernel
theorem dX4_grade_19 : decode cX4_grade 19 = .ok (.invokevirtual 110, 3) := by decide +kernel
theorem dX4_grade_22 : decode cX4_grade 22 = .ok (.astore 6, 2) := by decide +kernel
theorem dX4_grade_24 : decode cX4_grade 24 = .ok (.iload_n 1, 1) := by decide +kernel
theorem dX4_grade_25 : decode cX4_grade 25 = .ok (.iconst 0, 1) := by decide +kernel
theorem dX4_grade_26 : decode cX4_grade 26 = .ok (.bipush 6, 2) := by decide +kernel
theorem dX4_grade_28 : decode cX4_grade 28 = .ok (.invokestatic 60, 3) := by decide +kernel
theorem dX4_grade_31 : decode cX4_grade 31 = .ok (.ifCond .eq 13, 3) := by decide +kernel
theorem dX4_grade_34 : decode cX4_grade 34 = .ok (.aload 5, 2) := by decide +kernel
theorem dX4_grade_36 : decode cX4_grade 36 = .ok (.ifnull 8, 3) := by decide +kernel
theorem dX4_grade_39 : decode cX4_grade 39 = .ok (.aload 6, 2) := by decide +kernel
theorem dX4_grade_41 : decode cX4_grade 41 = .ok (.ifnonnull 13, 3) := by decide +kernel
theorem dX4_grade_44 : decode cX4_grade 44 = .ok (.new 49, 3) := by decide +kernel
theorem dX4_grade_47 : decode cX4_grade 47 = .ok (.dup, 1) := by decide +kernel
theorem dX4_grade_48 : decode cX4_grade 48 = .ok (.ldc 139, 2) := by decide +kernel
theorem dX4_grade_50 : decode cX4_grade 50 = .ok (.invokespecial 53, 3) := by decide +kernel
theorem dX4_grade_53 : decode cX4_grade 53 = .ok (.athrow, 1) := by decide +kernel
theorem dX4_grade_54 : decode cX4_grade 54 = .ok (.iload 4, 2) := by decide +kernel
theorem dX4_grade_56 : decode cX4_grade 56 = .ok (.bipush (-5), 2) := by decide +kernel
theorem dX4_grade_58 : decode cX4_grade 58 = .ok (.iconst 5, 1) := by decide +kernel
theorem dX4_grade_59 : decode cX4_grade 59 = .ok (.invokestatic 60, 3) := by decide +kernel
theorem dX4_grade_62 : decode cX4_grade 62 = .ok (.ifCond .ne 13, 3) := by decide +kernel
theorem dX4_grade_65 : decode cX4_grade 65 = .ok (.new 64, 3) := by decide +kernel
theorem dX4_grade_68 : decode cX4_grade 68 = .ok (.dup, 1) := by decide +kernel
theorem dX4_grade_69 : decode cX4_grade 69 = .ok (.ldc 141, 2) := by decide +kernel
theorem dX4_grade_71 : decode cX4_grade 71 = .ok (.invokespecial 68, 3) := by decide +kernel
theorem dX4_grade_74 : decode cX4_grade 74 = .ok (.athrow, 1) := by decide +kernel
theorem dX4_grade_75 : decode cX4_grade 75 = .ok (.aload 5, 2) := by decide +kernel
theorem dX4_grade_77 : decode cX4_grade 77 = .ok (.getfield 104, 3) := by decide +kernel
theorem dX4_grade_80 : decode cX4_grade 80 = .ok (.ifCond .ne 13, 3) := by decide +kernel
theorem dX4_grade_83 : decode cX4_grade 83 = .ok (.new 37, 3) := by decide +kernel
theorem dX4_grade_86 : decode cX4_grade 86 = .ok (.dup, 1) := by decide +kernel
theorem dX4_grade_87 : decode cX4_grade 87 = .ok (.ldc 143, 2) := by decide +kernel
theorem dX4_grade_89 : decode cX4_grade 89 = .ok (.invokespecial 41, 3) := by decide +kernel
theorem dX4_grade_92 : decode cX4_grade 92 = .ok (.athrow, 1) := by decide +kernel
theorem dX4_grade_93 : decode cX4_grade 93 = .ok (.aload 6, 2) := by decide +kernel
theorem dX4_grade_95 : decode cX4_grade 95 = .ok (.getfield 145, 3) := by decide +kernel
theorem dX4_grade_98 : decode cX4_grade 98 = .ok (.iload_n 1, 1) := by decide +kernel
theorem dX4_grade_99 : decode cX4_grade 99 = .ok (.iload 4, 2) := by decide +kernel
theorem dX4_grade_101 : decode cX4_grade 101 = .ok (.invokevirtual 129, 3) := by decide +kernel
theorem dX4_grade_104 : decode cX4_grade 104 = .ok (.return_, 1) := by decide +kernel
theorem dX4_component_0 : decode cX4_component 0 = .ok (.aload_n 0, 1) := by decide +kernel
theorem dX4_component_1 : decode cX4_component 1 = .ok (.iload_n 2, 1) := by decide +kernel
theorem dX4_component_2 : decode cX4_component 2 = .ok (.invokevirtual 45, 3) := by decide +kernel
theorem dX4_component_5 : decode cX4_component 5 = .ok (.astore 5, 2) := by decide +kernel
theorem dX4_component_7 : decode cX4_component 7 = .ok (.aload 5, 2) := by decide +kernel
theorem dX4_component_9 : decode cX4_component 9 = .ok (.ifnonnull 7, 3) := by decide +kernel
theorem dX4_component_12 : decode cX4_component 12 = .ok (.aconst_null, 1) := by decide +kernel
theorem dX4_component_13 : decode cX4_component 13 = .ok (.goto 9, 3) := by decide +kernel
theorem dX4_component_16 : decode cX4_component 16 = .ok (.aload 5, 2) := by decide +kernel
theorem dX4_component_18 : decode cX4_component 18 = .ok (.iload_n 3, 1) := by decide +kernel
theorem dX4_component_19 : decode cX4_component 19 = .ok (.invokevirtual 148, 3) := by decide +kernel
theorem dX4_component_22 : decode cX4_component 22 = .ok (.astore 6, 2) := by decide +kernel
theorem dX4_component_24 : decode cX4_component 24 = .ok (.iload_n 1, 1) := by decide +kernel
theorem dX4_component_25 : decode cX4_component 25 = .ok (.iconst 0, 1) := by decide +kernel
theorem dX4_component_26 : decode cX4_component 26 = .ok (.bipush 6, 2) := by decide +kernel
theorem dX4_component_28 : decode cX4_component 28 = .ok (.invokestatic 60, 3) := by decide +kernel
theorem dX4_component_31 : decode cX4_component 31 = .ok (.ifCond .eq 13, 3) := by decide +kernel
theorem dX4_component_34 : decode cX4_component 34 = .ok (.aload 5, 2) := by decide +kernel
theorem dX4_component_36 : decode cX4_component 36 = .ok (.ifnull 8, 3) := by decide +kernel
theorem dX4_component_39 : decode cX4_component 39 = .ok (.aload 6, 2) := by decide +kernel
theorem dX4_component_41 : decode cX4_component 41 = .ok (.ifnonnull 13, 3) := by decide +kernel
theorem dX4_component_44 : decode cX4_component 44 = .ok (.new 49, 3) := by decide +kernel
theorem dX4_component_47 : decode cX4_component 47 = .ok (.dup, 1) := by decide +kernel
theorem dX4_component_48 : decode cX4_component 48 = .ok (.ldc 152, 2) := by decide +kernel
theorem dX4_component_50 : decode cX4_component 50 = .ok (.invokespecial 53, 3) := by decide +kernel
theorem dX4_component_53 : decode cX4_component 53 = .ok (.athrow, 1) := by decide +kernel
theorem dX4_component_54 : decode cX4_component 54 = .ok (.iload 4, 2) := by decide +kernel
theorem dX4_component_56 : decode cX4_component 56 = .ok (.iconst 0, 1) := by decide +kernel
theorem dX4_component_57 : decode cX4_component 57 = .ok (.bipush 40, 2) := by decide +kernel
theorem dX4_component_59 : decode cX4_component 59 = .ok (.invokestatic 60, 3) := by decide +kernel
theorem dX4_component_62 : decode cX4_component 62 = .ok (.ifCond .ne 13, 3) := by decide +kernel
theorem dX4_component_65 : decode cX4_component 65 = .ok (.new 64, 3) := by decide +kernel
theorem dX4_component_68 : decode cX4_component 68 = .ok (.dup, 1) := by decide +kernel
theorem dX4_component_69 : decode cX4_component 69 = .ok (.ldc 116, 2) := by decide +kernel
theorem dX4_component_71 : decode cX4_component 71 = .ok (.invokespecial 68, 3) := by decide +kernel
theorem dX4_component_74 : decode cX4_component 74 = .ok (.athrow, 1) := by decide +kernel
theorem dX4_component_75 : decode cX4_component 75 = .ok (.aload 5, 2) := by decide +kernel
theorem dX4_component_77 : decode cX4_component 77 = .ok (.getfield 104, 3) := by decide +kernel
theorem dX4_component_80 : decode cX4_component 80 = .ok (.ifCond .ne 13, 3) := by decide +kernel
theorem dX4_component_83 : decode cX4_component 83 = .ok (.new 37, 3) := by decide +kernel
theorem dX4_component_86 : decode cX4_component 86 = .ok (.dup, 1) := by decide +kernel
theorem dX4_component_87 : decode cX4_component 87 = .ok (.ldc 143, 2) := by decide +kernel
theorem dX4_component_89 : decode cX4_component 89 = .ok (.invokespecial 41, 3) := by decide +kernel
theorem dX4_component_92 : decode cX4_component 92 = .ok (.athrow, 1) := by decide +kernel
theorem dX4_component_93 : decode cX4_component 93 = .ok (.aload 6, 2) := by decide +kernel
theorem dX4_component_95 : decode cX4_component 95 = .ok (.iload_n 1, 1) := by decide +kernel
theorem dX4_component_96 : decode cX4_component 96 = .ok (.iload 4, 2) := by decide +kernel
theorem dX4_component_98 : decode cX4_component 98 = .ok (.invokevirtual 129, 3) := by decide +kernel
theorem dX4_component_101 : decode cX4_component 101 = .ok (.return_, 1) := by decide +kernel
theorem dX4_value_0 : decode cX4_value 0 = .ok (.aload_n 0, 1) := by decide +kernel
theorem dX4_value_1 : decode cX4_value 1 = .ok (.iload_n 1, 1) := by decide +kernel
theorem dX4_value_2 : decode cX4_value 2 = .ok (.invokevirtual 154, 3) := by decide +kernel
theorem dX4_value_5 : decode cX4_value 5 = .ok (.astore 5, 2) := by decide +kernel
theorem dX4_value_7 : decode cX4_value 7 = .ok (.aload 5, 2) := by decide +kernel
theorem dX4_value_9 : decode cX4_value 9 = .ok (.ifnull 23, 3) := by decide +kernel
theorem dX4_value_12 : decode cX4_value 12 = .ok (.iload_n 2, 1) := by decide +kernel
theorem dX4_value_13 : decode cX4_value 13 = .ok (.iload_n 3, 1) := by decide +kernel
theorem dX4_value_14 : decode cX4_value 14 = .ok (.invokestatic 158, 3) := by decide +kernel
theorem dX4_value_17 : decode cX4_value 17 = .ok (.ifCond .eq 15, 3) := by decide +kernel
theorem dX4_value_20 : decode cX4_value 20 = .ok (.iload 4, 2) := by decide +kernel
theorem dX4_value_22 : decode cX4_value 22 = .ok (.iconst 0, 1) := by decide +kernel
theorem dX4_value_23 : decode cX4_value 23 = .ok (.sipush 9999, 3) := by decide +kernel
theorem dX4_value_26 : decode cX4_value 26 = .ok (.invokestatic 60, 3) := by decide +kernel
theorem dX4_value_29 : decode cX4_value 29 = .ok (.ifCond .ne 13, 3) := by decide +kernel
theorem dX4_value_32 : decode cX4_value 32 = .ok (.new 64, 3) := by decide +kernel
theorem dX4_value_35 : decode cX4_value 35 = .ok (.dup, 1) := by decide +kernel
theorem dX4_value_36 : decode cX4_value 36 = .ok (.ldc 162, 2) := by decide +kernel
theorem dX4_value_38 : decode cX4_value 38 = .ok (.invokespecial 68, 3) := by decide +kernel
theorem dX4_value_41 : decode cX4_value 41 = .ok (.athrow, 1) := by decide +kernel
theorem dX4_value_42 : decode cX4_value 42 = .ok (.aload 5, 2) := by decide +kernel
theorem dX4_value_44 : decode cX4_value 44 = .ok (.iload_n 2, 1) := by decide +kernel
theorem dX4_value_45 : decode cX4_value 45 = .ok (.iload_n 3, 1) := by decide +kernel
theorem dX4_value_46 : decode cX4_value 46 = .ok (.iload 4, 2) := by decide +kernel
theorem dX4_value_48 : decode cX4_value 48 = .ok (.invokevirtual 164, 3) := by decide +kernel
theorem dX4_value_51 : decode cX4_value 51 = .ok (.ireturn, 1) := by decide +kernel
theorem dX4_element_0 : decode cX4_element 0 = .ok (.aload_n 0, 1) := by decide +kernel
theorem dX4_element_1 : decode cX4_element 1 = .ok (.iload_n 1, 1) := by decide +kernel
theorem dX4_element_2 : decode cX4_element 2 = .ok (.invokevirtual 45, 3) := by decide +kernel
theorem dX4_element_5 : decode cX4_element 5 = .ok (.astore 5, 2) := by decide +kernel
theorem dX4_element_7 : decode cX4_element 7 = .ok (.aload 5, 2) := by decide +kernel
theorem dX4_element_9 : decode cX4_element 9 = .ok (.ifnonnull 7, 3) := by decide +kernel
theorem dX4_element_12 : decode cX4_element 12 = .ok (.aconst_null, 1) := by decide +kernel
theorem dX4_element_13 : decode cX4_element 13 = .ok (.goto 9, 3) := by decide +kernel
theorem dX4_element_16 : decode cX4_element 16 = .ok (.aload 5, 2) := by decide +kernel
theorem dX4_element_18 : decode cX4_element 18 = .ok (.iload_n 2, 1) := by decide +kernel
theorem dX4_element_19 : decode cX4_element 19 = .ok (.invokevirtual 110, 3) := by decide +kernel
theorem dX4_element_22 : decode cX4_element 22 = .ok (.astore 6, 2) := by decide +kernel
theorem dX4_element_24 : decode cX4_element 24 = .ok (.aload 6, 2) := by decide +kernel
theorem dX4_element_26 : decode cX4_element 26 = .ok (.ifnonnull 13, 3) := by decide +kernel
theorem dX4_element_29 : decode cX4_element 29 = .ok (.new 49, 3) := by decide +kernel
theorem dX4_element_32 : decode cX4_element 32 = .ok (.dup, 1) := by decide +kernel
theorem dX4_element_33 : decode cX4_element 33 = .ok (.ldc 168, 2) := by decide +kernel
theorem dX4_element_35 : decode cX4_element 35 = .ok (.invokespecial 53, 3) := by decide +kernel
theorem dX4_element_38 : decode cX4_element 38 = .ok (.athrow, 1) := by decide +kernel
theorem dX4_element_39 : decode cX4_element 39 = .ok (.aload_n 0, 1) := by decide +kernel
theorem dX4_element_40 : decode cX4_element 40 = .ok (.iload_n 3, 1) := by decide +kernel
theorem dX4_element_41 : decode cX4_element 41 = .ok (.invokevirtual 154, 3) := by decide +kernel
theorem dX4_element_44 : decode cX4_element 44 = .ok (.astore 7, 2) := by decide +kernel
theorem dX4_element_46 : decode cX4_element 46 = .ok (.aload 7, 2) := by decide +kernel
theorem dX4_element_48 : decode cX4_element 48 = .ok (.ifnull 14, 3) := by decide +kernel
theorem dX4_element_51 : decode cX4_element 51 = .ok (.iload 4, 2) := by decide +kernel
theorem dX4_element_53 : decode cX4_element 53 = .ok (.iconst 0, 1) := by decide +kernel
theorem dX4_element_54 : decode cX4_element 54 = .ok (.bipush 7, 2) := by decide +kernel
theorem dX4_element_56 : decode cX4_element 56 = .ok (.invokestatic 60, 3) := by decide +kernel
theorem dX4_element_59 : decode cX4_element 59 = .ok (.ifCond .ne 13, 3) := by decide +kernel
theorem dX4_element_62 : decode cX4_element 62 = .ok (.new 64, 3) := by decide +kernel
theorem dX4_element_65 : decode cX4_element 65 = .ok (.dup, 1) := by decide +kernel
theorem dX4_element_66 : decode cX4_element 66 = .ok (.ldc 170, 2) := by decide +kernel
theorem dX4_element_68 : decode cX4_element 68 = .ok (.invokespecial 68, 3) := by decide +kernel
theorem dX4_element_71 : decode cX4_element 71 = .ok (.athrow, 1) := by decide +kernel
theorem dX4_element_72 : decode cX4_element 72 = .ok (.iload 4, 2) := by decide +kernel
theorem dX4_element_74 : decode cX4_element 74 = .ok (.tableswitch 110 0 6 #[42, 48, 54, 60, 74, 88, 102], 42) := by decide +kernel
theorem dX4_element_116 : decode cX4_element 116 = .ok (.aload 6, 2) := by decide +kernel
theorem dX4_element_118 : decode cX4_element 118 = .ok (.getfield 118, 3) := by decide +kernel
theorem dX4_element_121 : decode cX4_element 121 = .ok (.ireturn, 1) := by decide +kernel
theorem dX4_element_122 : decode cX4_element 122 = .ok (.aload 6, 2) := by decide +kernel
theorem dX4_element_124 : decode cX4_element 124 = .ok (.getfield 172, 3) := by decide +kernel
theorem dX4_element_127 : decode cX4_element 127 = .ok (.ireturn, 1) := by decide +kernel
theorem dX4_element_128 : decode cX4_element 128 = .ok (.aload 6, 2) := by decide +kernel
theorem dX4_element_130 : decode cX4_element 130 = .ok (.invokevirtual 135, 3) := by decide +kernel
theorem dX4_element_133 : decode cX4_element 133 = .ok (.ireturn, 1) := by decide +kernel
theorem dX4_element_134 : decode cX4_element 134 = .ok (.aload 6, 2) := by decide +kernel
theorem dX4_element_136 : decode cX4_element 136 = .ok (.getfield 175, 3) := by decide +kernel
theorem dX4_element_139 : decode cX4_element 139 = .ok (.ifCond .eq 7, 3) := by decide +kernel
theorem dX4_element_142 : decode cX4_element 142 = .ok (.iconst 1, 1) := by decide +kernel
theorem dX4_element_143 : decode cX4_element 143 = .ok (.goto 4, 3) := by decide +kernel
theorem dX4_element_146 : decode cX4_element 146 = .ok (.iconst 0, 1) := by decide +kernel
theorem dX4_element_147 : decode cX4_element 147 = .ok (.ireturn, 1) := by decide +kernel
theorem dX4_element_148 : decode cX4_element 148 = .ok (.aload 6, 2) := by decide +kernel
theorem dX4_element_150 : decode cX4_element 150 = .ok (.getfield 178, 3) := by decide +kernel
theorem dX4_element_153 : decode cX4_element 153 = .ok (.ifCond .eq 7, 3) := by decide +kernel
theorem dX4_element_156 : decode cX4_element 156 = .ok (.iconst 1, 1) := by decide +kernel
theorem dX4_element_157 : decode cX4_element 157 = .ok (.goto 4, 3) := by decide +kernel
theorem dX4_element_160 : decode cX4_element 160 = .ok (.iconst 0, 1) := by decide +kernel
theorem dX4_element_161 : decode cX4_element 161 = .ok (.ireturn, 1) := by decide +kernel
theorem dX4_element_162 : decode cX4_element 162 = .ok (.aload 6, 2) := by decide +kernel
theorem dX4_element_164 : decode cX4_element 164 = .ok (.getfield 181, 3) := by decide +kernel
theorem dX4_element_167 : decode cX4_element 167 = .ok (.ifCond .eq 7, 3) := by decide +kernel
theorem dX4_element_170 : decode cX4_element 170 = .ok (.iconst 1, 1) := by decide +kernel
theorem dX4_element_171 : decode cX4_element 171 = .ok (.goto 4, 3) := by decide +kernel
theorem dX4_element_174 : decode cX4_element 174 = .ok (.iconst 0, 1) := by decide +kernel
theorem dX4_element_175 : decode cX4_element 175 = .ok (.ireturn, 1) := by decide +kernel
theorem dX4_element_176 : decode cX4_element 176 = .ok (.aload 6, 2) := by decide +kernel
theorem dX4_element_178 : decode cX4_element 178 = .ok (.aload 7, 2) := by decide +kernel
theorem dX4_element_180 : decode cX4_element 180 = .ok (.invokevirtual 184, 3) := by decide +kernel
theorem dX4_element_183 : decode cX4_element 183 = .ok (.ireturn, 1) := by decide +kernel
theorem dX4_element_184 : decode cX4_element 184 = .ok (.aload 6, 2) := by decide +kernel
theorem dX4_element_186 : decode cX4_element 186 = .ok (.aload 7, 2) := by decide +kernel
theorem dX4_element_188 : decode cX4_element 188 = .ok (.invokevirtual 188, 3) := by decide +kernel
theorem dX4_element_191 : decode cX4_element 191 = .ok (.ireturn, 1) := by decide +kernel
theorem dX4_programme_0 : decode cX4_programme 0 = .ok (.aload_n 0, 1) := by decide +kernel
theorem dX4_programme_1 : decode cX4_programme 1 = .ok (.iload_n 1, 1) := by decide +kernel
theorem dX4_programme_2 : decode cX4_programme 2 = .ok (.invokevirtual 45, 3) := by decide +kernel
theorem dX4_programme_5 : decode cX4_programme 5 = .ok (.astore 4, 2) := by decide +kernel
theorem dX4_programme_7 : decode cX4_programme 7 = .ok (.aload 4, 2) := by decide +kernel
theorem dX4_programme_9 : decode cX4_programme 9 = .ok (.ifnonnull 13, 3) := by decide +kernel
theorem dX4_programme_12 : decode cX4_programme 12 = .ok (.new 49, 3) := by decide +kernel
theorem dX4_programme_15 : decode cX4_programme 15 = .ok (.dup, 1) := by decide +kernel
theorem dX4_programme_16 : decode cX4_programme 16 = .ok (.ldc 51, 2) := by decide +kernel
theorem dX4_programme_18 : decode cX4_programme 18 = .ok (.invokespecial 53, 3) := by decide +kernel
theorem dX4_programme_21 : decode cX4_programme 21 = .ok (.athrow, 1) := by decide +kernel
theorem dX4_programme_22 : decode cX4_programme 22 = .ok (.aload_n 0, 1) := by decide +kernel
theorem dX4_programme_23 : decode cX4_programme 23 = .ok (.iload_n 2, 1) := by decide +kernel
theorem dX4_programme_24 : decode cX4_programme 24 = .ok (.invokevirtual 154, 3) := by decide +kernel
theorem dX4_programme_27 : decode cX4_programme 27 = .ok (.astore 5, 2) := by decide +kernel
theorem dX4_programme_29 : decode cX4_programme 29 = .ok (.aload 5, 2) := by decide +kernel
theorem dX4_programme_31 : decode cX4_programme 31 = .ok (.ifnull 12, 3) := by decide +kernel
theorem dX4_programme_34 : decode cX4_programme 34 = .ok (.iload_n 3, 1) := by decide +kernel
theorem dX4_programme_35 : decode cX4_programme 35 = .ok (.iconst 0, 1) := by decide +kernel
theorem dX4_programme_36 : decode cX4_programme 36 = .ok (.iconst 5, 1) := by decide +kernel
theorem dX4_programme_37 : decode cX4_programme 37 = .ok (.invokestatic 60, 3) := by decide +kernel
theorem dX4_programme_40 : decode cX4_programme 40 = .ok (.ifCond .ne 13, 3) := by decide +kernel
theorem dX4_programme_43 : decode cX4_programme 43 = .ok (.new 64, 3) := by decide +kernel
theorem dX4_programme_46 : decode cX4_programme 46 = .ok (.dup, 1) := by decide +kernel
theorem dX4_programme_47 : decode cX4_programme 47 = .ok (.ldc 170, 2) := by decide +kernel
theorem dX4_programme_49 : decode cX4_programme 49 = .ok (.invokespecial 68, 3) := by decide +kernel
theorem dX4_programme_52 : decode cX4_programme 52 = .ok (.athrow, 1) := by decide +kernel
theorem dX4_programme_53 : decode cX4_programme 53 = .ok (.iload_n 3, 1) := by decide +kernel
theorem dX4_programme_54 : decode cX4_programme 54 = .ok (.tableswitch 73 0 4 #[34, 42, 48, 54, 67], 34) := by decide +kernel
theorem dX4_programme_88 : decode cX4_programme 88 = .ok (.aload 4, 2) := by decide +kernel
theorem dX4_programme_90 : decode cX4_programme 90 = .ok (.aload 5, 2) := by decide +kernel
theorem dX4_programme_92 : decode cX4_programme 92 = .ok (.invokevirtual 191, 3) := by decide +kernel
theorem dX4_programme_95 : decode cX4_programme 95 = .ok (.ireturn, 1) := by decide +kernel
theorem dX4_programme_96 : decode cX4_programme 96 = .ok (.aload 4, 2) := by decide +kernel
theorem dX4_programme_98 : decode cX4_programme 98 = .ok (.invokevirtual 194, 3) := by decide +kernel
theorem dX4_programme_101 : decode cX4_programme 101 = .ok (.ireturn, 1) := by decide +kernel
theorem dX4_programme_102 : decode cX4_programme 102 = .ok (.aload 4, 2) := by decide +kernel
theorem dX4_programme_104 : decode cX4_programme 104 = .ok (.invokevirtual 197, 3) := by decide +kernel
theorem dX4_programme_107 : decode cX4_programme 107 = .ok (.ireturn, 1) := by decide +kernel
theorem dX4_programme_108 : decode cX4_programme 108 = .ok (.aload 4, 2) := by decide +kernel
theorem dX4_programme_110 : decode cX4_programme 110 = .ok (.aload 4, 2) := by decide +kernel
theorem dX4_programme_112 : decode cX4_programme 112 = .ok (.aload 5, 2) := by decide +kernel
theorem dX4_programme_114 : decode cX4_programme 114 = .ok (.invokevirtual 191, 3) := by decide +kernel
theorem dX4_programme_117 : decode cX4_programme 117 = .ok (.invokevirtual 200, 3) := by decide +kernel
theorem dX4_programme_120 : decode cX4_programme 120 = .ok (.ireturn, 1) := by decide +kernel
theorem dX4_programme_121 : decode cX4_programme 121 = .ok (.aload 4, 2) := by decide +kernel
theorem dX4_programme_123 : decode cX4_programme 123 = .ok (.getfield 203, 3) := by decide +kernel
theorem dX4_programme_126 : decode cX4_programme 126 = .ok (.ireturn, 1) := by decide +kernel
theorem dX4_programme_127 : decode cX4_programme 127 = .ok (.aload_n 0, 1) := by decide +kernel
theorem dX4_programme_128 : decode cX4_programme 128 = .ok (.aload 5, 2) := by decide +kernel
theorem dX4_programme_130 : decode cX4_programme 130 = .ok (.invokevirtual 206, 3) := by decide +kernel
theorem dX4_programme_133 : decode cX4_programme 133 = .ok (.aload_n 0, 1) := by decide +kernel
theorem dX4_programme_134 : decode cX4_programme 134 = .ok (.iload_n 1, 1) := by decide +kernel
theorem dX4_programme_135 : decode cX4_programme 135 = .ok (.invokevirtual 210, 3) := by decide +kernel
theorem dX4_programme_138 : decode cX4_programme 138 = .ok (.ireturn, 1) := by decide +kernel
theorem dX4_starts_0 : decode cX4_starts 0 = .ok (.aload_n 0, 1) := by decide +kernel
theorem dX4_starts_1 : decode cX4_starts 1 = .ok (.iload_n 1, 1) := by decide +kernel
theorem dX4_starts_2 : decode cX4_starts 2 = .ok (.invokevirtual 154, 3) := by decide +kernel
theorem dX4_starts_5 : decode cX4_starts 5 = .ok (.astore_n 3, 1) := by decide +kernel
theorem dX4_starts_6 : decode cX4_starts 6 = .ok (.aload_n 3, 1) := by decide +kernel
theorem dX4_starts_7 : decode cX4_starts 7 = .ok (.ifnull 13, 3) := by decide +kernel
theorem dX4_starts_10 : decode cX4_starts 10 = .ok (.iload_n 2, 1) := by decide +kernel
theorem dX4_starts_11 : decode cX4_starts 11 = .ok (.iconst 0, 1) := by decide +kernel
theorem dX4_starts_12 : decode cX4_starts 12 = .ok (.bipush 11, 2) := by decide +kernel
theorem dX4_starts_14 : decode cX4_starts 14 = .ok (.invokestatic 60, 3) := by decide +kernel
theorem dX4_starts_17 : decode cX4_starts 17 = .ok (.ifCond .ne 13, 3) := by decide +kernel
theorem dX4_starts_20 : decode cX4_starts 20 = .ok (.new 64, 3) := by decide +kernel
theorem dX4_starts_23 : decode cX4_starts 23 = .ok (.dup, 1) := by decide +kernel
theorem dX4_starts_24 : decode cX4_starts 24 = .ok (.ldc 213, 2) := by decide +kernel
theorem dX4_starts_26 : decode cX4_starts 26 = .ok (.invokespecial 68, 3) := by decide +kernel
theorem dX4_starts_29 : decode cX4_starts 29 = .ok (.athrow, 1) := by decide +kernel
theorem dX4_starts_30 : decode cX4_starts 30 = .ok (.aload_n 0, 1) := by decide +kernel
theorem dX4_starts_31 : decode cX4_starts 31 = .ok (.aload_n 3, 1) := by decide +kernel
theorem dX4_starts_32 : decode cX4_starts 32 = .ok (.invokevirtual 206, 3) := by decide +kernel
theorem dX4_starts_35 : decode cX4_starts 35 = .ok (.aload_n 0, 1) := by decide +kernel
theorem dX4_starts_36 : decode cX4_starts 36 = .ok (.invokevirtual 215, 3) := by decide +kernel
theorem dX4_starts_39 : decode cX4_starts 39 = .ok (.istore 4, 2) := by decide +kernel
theorem dX4_starts_41 : decode cX4_starts 41 = .ok (.iload_n 2, 1) := by decide +kernel
theorem dX4_starts_42 : decode cX4_starts 42 = .ok (.iload 4, 2) := by decide +kernel
theorem dX4_starts_44 : decode cX4_starts 44 = .ok (.if_icmp .ge 16, 3) := by decide +kernel
theorem dX4_starts_47 : decode cX4_starts 47 = .ok (.aload_n 0, 1) := by decide +kernel
theorem dX4_starts_48 : decode cX4_starts 48 = .ok (.iload 4, 2) := by decide +kernel
theorem dX4_starts_50 : decode cX4_starts 50 = .ok (.iconst 1, 1) := by decide +kernel
theorem dX4_starts_51 : decode cX4_starts 51 = .ok (.isub, 1) := by decide +kernel
theorem dX4_starts_52 : decode cX4_starts 52 = .ok (.iload_n 2, 1) := by decide +kernel
theorem dX4_starts_53 : decode cX4_starts 53 = .ok (.isub, 1) := by decide +kernel
theorem dX4_starts_54 : decode cX4_starts 54 = .ok (.invokevirtual 218, 3) := by decide +kernel
theorem dX4_starts_57 : decode cX4_starts 57 = .ok (.goto 11, 3) := by decide +kernel
theorem dX4_starts_60 : decode cX4_starts 60 = .ok (.aload_n 0, 1) := by decide +kernel
theorem dX4_starts_61 : decode cX4_starts 61 = .ok (.iload_n 2, 1) := by decide +kernel
theorem dX4_starts_62 : decode cX4_starts 62 = .ok (.iload 4, 2) := by decide +kernel
theorem dX4_starts_64 : decode cX4_starts 64 = .ok (.isub, 1) := by decide +kernel
theorem dX4_starts_65 : decode cX4_starts 65 = .ok (.invokevirtual 221, 3) := by decide +kernel
theorem dX4_starts_68 : decode cX4_starts 68 = .ok (.ireturn, 1) := by decide +kernel
theorem dX4_bias_0 : decode cX4_bias 0 = .ok (.iload_n 1, 1) := by decide +kernel
theorem dX4_bias_1 : decode cX4_bias 1 = .ok (.iconst 0, 1) := by decide +kernel
theorem dX4_bias_2 : decode cX4_bias 2 = .ok (.bipush 6, 2) := by decide +kernel
theorem dX4_bias_4 : decode cX4_bias 4 = .ok (.invokestatic 60, 3) := by decide +kernel
theorem dX4_bias_7 : decode cX4_bias 7 = .ok (.ifCond .ne 13, 3) := by decide +kernel
theorem dX4_bias_10 : decode cX4_bias 10 = .ok (.new 49, 3) := by decide +kernel
theorem dX4_bias_13 : decode cX4_bias 13 = .ok (.dup, 1) := by decide +kernel
theorem dX4_bias_14 : decode cX4_bias 14 = .ok (.ldc 224, 2) := by decide +kernel
theorem dX4_bias_16 : decode cX4_bias 16 = .ok (.invokespecial 53, 3) := by decide +kernel
theorem dX4_bias_19 : decode cX4_bias 19 = .ok (.athrow, 1) := by decide +kernel
theorem dX4_bias_20 : decode cX4_bias 20 = .ok (.dconst 0, 1) := by decide +kernel
theorem dX4_bias_21 : decode cX4_bias 21 = .ok (.dstore_n 2, 1) := by decide +kernel
theorem dX4_bias_22 : decode cX4_bias 22 = .ok (.aload_n 0, 1) := by decide +kernel
theorem dX4_bias_23 : decode cX4_bias 23 = .ok (.getfield 11, 3) := by decide +kernel
theorem dX4_bias_26 : decode cX4_bias 26 = .ok (.astore 4, 2) := by decide +kernel
theorem dX4_bias_28 : decode cX4_bias 28 = .ok (.aload 4, 2) := by decide +kernel
theorem dX4_bias_30 : decode cX4_bias 30 = .ok (.arraylength, 1) := by decide +kernel
theorem dX4_bias_31 : decode cX4_bias 31 = .ok (.istore 5, 2) := by decide +kernel
theorem dX4_bias_33 : decode cX4_bias 33 = .ok (.iconst 0, 1) := by decide +kernel
theorem dX4_bias_34 : decode cX4_bias 34 = .ok (.istore 6, 2) := by decide +kernel
theorem dX4_bias_36 : decode cX4_bias 36 = .ok (.iload 6, 2) := by decide +kernel
theorem dX4_bias_38 : decode cX4_bias 38 = .ok (.iload 5, 2) := by decide +kernel
theorem dX4_bias_40 : decode cX4_bias 40 = .ok (.if_icmp .ge 29, 3) := by decide +kernel
theorem dX4_bias_43 : decode cX4_bias 43 = .ok (.aload 4, 2) := by decide +kernel
theorem dX4_bias_45 : decode cX4_bias 45 = .ok (.iload 6, 2) := by decide +kernel
theorem dX4_bias_47 : decode cX4_bias 47 = .ok (.aaload, 1) := by decide +kernel
theorem dX4_bias_48 : decode cX4_bias 48 = .ok (.astore 7, 2) := by decide +kernel
theorem dX4_bias_50 : decode cX4_bias 50 = .ok (.aload 7, 2) := by decide +kernel
theorem dX4_bias_52 : decode cX4_bias 52 = .ok (.ifnull 11, 3) := by decide +kernel
theorem dX4_bias_55 : decode cX4_bias 55 = .ok (.aload 7, 2) := by decide +kernel
theorem dX4_bias_57 : decode cX4_bias 57 = .ok (.iload_n 1, 1) := by decide +kernel
theorem dX4_bias_58 : decode cX4_bias 58 = .ok (.dload_n 2, 1) := by decide +kernel
theorem dX4_bias_59 : decode cX4_bias 59 = .ok (.invokevirtual 226, 3) := by decide +kernel
theorem dX4_bias_62 : decode cX4_bias 62 = .ok (.dstore_n 2, 1) := by decide +kernel
theorem dX4_bias_63 : decode cX4_bias 63 = .ok (.iinc 6 1, 3) := by decide +kernel
theorem dX4_bias_66 : decode cX4_bias 66 = .ok (.goto (-30), 3) := by decide +kernel
theorem dX4_bias_69 : decode cX4_bias 69 = .ok (.ldc2_w 230, 3) := by decide +kernel
theorem dX4_bias_72 : decode cX4_bias 72 = .ok (.dload_n 2, 1) := by decide +kernel
theorem dX4_bias_73 : decode cX4_bias 73 = .ok (.dmul, 1) := by decide +kernel
theorem dX4_bias_74 : decode cX4_bias 74 = .ok (.invokestatic 232, 3) := by decide +kernel
theorem dX4_bias_77 : decode cX4_bias 77 = .ok (.ireturn, 1) := by decide +kernel
theorem dX4_addsUp_0 : decode cX4_addsUp 0 = .ok (.aload_n 0, 1) := by decide +kernel
theorem dX4_addsUp_1 : decode cX4_addsUp 1 = .ok (.getfield 11, 3) := by decide +kernel
theorem dX4_addsUp_4 : decode cX4_addsUp 4 = .ok (.astore_n 1, 1) := by decide +kernel
theorem dX4_addsUp_5 : decode cX4_addsUp 5 = .ok (.aload_n 1, 1) := by decide +kernel
theorem dX4_addsUp_6 : decode cX4_addsUp 6 = .ok (.arraylength, 1) := by decide +kernel
theorem dX4_addsUp_7 : decode cX4_addsUp 7 = .ok (.istore_n 2, 1) := by decide +kernel
theorem dX4_addsUp_8 : decode cX4_addsUp 8 = .ok (.iconst 0, 1) := by decide +kernel
theorem dX4_addsUp_9 : decode cX4_addsUp 9 = .ok (.istore_n 3, 1) := by decide +kernel
theorem dX4_addsUp_10 : decode cX4_addsUp 10 = .ok (.iload_n 3, 1) := by decide +kernel
theorem dX4_addsUp_11 : decode cX4_addsUp 11 = .ok (.iload_n 2, 1) := by decide +kernel
theorem dX4_addsUp_12 : decode cX4_addsUp 12 = .ok (.if_icmp .ge 70, 3) := by decide +kernel
theorem dX4_addsUp_15 : decode cX4_addsUp 15 = .ok (.aload_n 1, 1) := by decide +kernel
theorem dX4_addsUp_16 : decode cX4_addsUp 16 = .ok (.iload_n 3, 1) := by decide +kernel
theorem dX4_addsUp_17 : decode cX4_addsUp 17 = .ok (.aaload, 1) := by decide +kernel
theorem dX4_addsUp_18 : decode cX4_addsUp 18 = .ok (.astore 4, 2) := by decide +kernel
theorem dX4_addsUp_20 : decode cX4_addsUp 20 = .ok (.aload_n 0, 1) := by decide +kernel
theorem dX4_addsUp_21 : decode cX4_addsUp 21 = .ok (.getfield 17, 3) := by decide +kernel
theorem dX4_addsUp_24 : decode cX4_addsUp 24 = .ok (.astore 5, 2) := by decide +kernel
theorem dX4_addsUp_26 : decode cX4_addsUp 26 = .ok (.aload 5, 2) := by decide +kernel
theorem dX4_addsUp_28 : decode cX4_addsUp 28 = .ok (.arraylength, 1) := by decide +kernel
theorem dX4_addsUp_29 : decode cX4_addsUp 29 = .ok (.istore 6, 2) := by decide +kernel
theorem dX4_addsUp_31 : decode cX4_addsUp 31 = .ok (.iconst 0, 1) := by decide +kernel
theorem dX4_addsUp_32 : decode cX4_addsUp 32 = .ok (.istore 7, 2) := by decide +kernel
theorem dX4_addsUp_34 : decode cX4_addsUp 34 = .ok (.iload 7, 2) := by decide +kernel
theorem dX4_addsUp_36 : decode cX4_addsUp 36 = .ok (.iload 6, 2) := by decide +kernel
theorem dX4_addsUp_38 : decode cX4_addsUp 38 = .ok (.if_icmp .ge 38, 3) := by decide +kernel
theorem dX4_addsUp_41 : decode cX4_addsUp 41 = .ok (.aload 5, 2) := by decide +kernel
theorem dX4_addsUp_43 : decode cX4_addsUp 43 = .ok (.iload 7, 2) := by decide +kernel
theorem dX4_addsUp_45 : decode cX4_addsUp 45 = .ok (.aaload, 1) := by decide +kernel
theorem dX4_addsUp_46 : decode cX4_addsUp 46 = .ok (.astore 8, 2) := by decide +kernel
theorem dX4_addsUp_48 : decode cX4_addsUp 48 = .ok (.aload 4, 2) := by decide +kernel
theorem dX4_addsUp_50 : decode cX4_addsUp 50 = .ok (.ifnull 20, 3) := by decide +kernel
theorem dX4_addsUp_53 : decode cX4_addsUp 53 = .ok (.aload 8, 2) := by decide +kernel
theorem dX4_addsUp_55 : decode cX4_addsUp 55 = .ok (.ifnull 15, 3) := by decide +kernel
theorem dX4_addsUp_58 : decode cX4_addsUp 58 = .ok (.aload 4, 2) := by decide +kernel
theorem dX4_addsUp_60 : decode cX4_addsUp 60 = .ok (.aload 8, 2) := by decide +kernel
theorem dX4_addsUp_62 : decode cX4_addsUp 62 = .ok (.invokevirtual 236, 3) := by decide +kernel
theorem dX4_addsUp_65 : decode cX4_addsUp 65 = .ok (.ifCond .ne 5, 3) := by decide +kernel
theorem dX4_addsUp_68 : decode cX4_addsUp 68 = .ok (.iconst 0, 1) := by decide +kernel
theorem dX4_addsUp_69 : decode cX4_addsUp 69 = .ok (.ireturn, 1) := by decide +kernel
theorem dX4_addsUp_70 : decode cX4_addsUp 70 = .ok (.iinc 7 1, 3) := by decide +kernel
theorem dX4_addsUp_73 : decode cX4_addsUp 73 = .ok (.goto (-39), 3) := by decide +kernel
theorem dX4_addsUp_76 : decode cX4_addsUp 76 = .ok (.iinc 3 1, 3) := by decide +kernel
theorem dX4_addsUp_79 : decode cX4_addsUp 79 = .ok (.goto (-69), 3) := by decide +kernel
theorem dX4_addsUp_82 : decode cX4_addsUp 82 = .ok (.iconst 1, 1) := by decide +kernel
theorem dX4_addsUp_83 : decode cX4_addsUp 83 = .ok (.ireturn, 1) := by decide +kernel
theorem dX4_isIn_0 : decode cX4_isIn 0 = .ok (.iload_n 0, 1) := by decide +kernel
theorem dX4_isIn_1 : decode cX4_isIn 1 = .ok (.iload_n 1, 1) := by decide +kernel
theorem dX4_isIn_2 : decode cX4_isIn 2 = .ok (.if_icmp .lt 12, 3) := by decide +kernel
theorem dX4_isIn_5 : decode cX4_isIn 5 = .ok (.iload_n 0, 1) := by decide +kernel
theorem dX4_isIn_6 : decode cX4_isIn 6 = .ok (.iload_n 2, 1) := by decide +kernel
end
section
theorem dX4_isIn_7 : decode cX4_isIn 7 = .ok (.if_icmp .gt 7, 3) := by decide +kernel
theorem dX4_isIn_10 : decode cX4_isIn 10 = .ok (.iconst 1, 1) := by decide +kernel
theorem dX4_isIn_11 : decode cX4_isIn 11 = .ok (.goto 4, 3) := by decide +kernel
theorem dX4_isIn_14 : decode cX4_isIn 14 = .ok (.iconst 0, 1) := by decide +kernel
theorem dX4_isIn_15 : decode cX4_isIn 15 = .ok (.ireturn, 1) := by decide +kernel
theorem dX4_nearest_0 : decode cX4_nearest 0 = .ok (.dload_n 0, 1) := by decide +kernel
theorem dX4_nearest_1 : decode cX4_nearest 1 = .ok (.d2i, 1) := by decide +kernel
theorem dX4_nearest_2 : decode cX4_nearest 2 = .ok (.istore_n 2, 1) := by decide +kernel
theorem dX4_nearest_3 : decode cX4_nearest 3 = .ok (.dload_n 0, 1) := by decide +kernel
theorem dX4_nearest_4 : decode cX4_nearest 4 = .ok (.iload_n 2, 1) := by decide +kernel
theorem dX4_nearest_5 : decode cX4_nearest 5 = .ok (.i2d, 1) := by decide +kernel
theorem dX4_nearest_6 : decode cX4_nearest 6 = .ok (.dsub, 1) := by decide +kernel
theorem dX4_nearest_7 : decode cX4_nearest 7 = .ok (.dstore_n 3, 1) := by decide +kernel
theorem dX4_nearest_8 : decode cX4_nearest 8 = .ok (.iload_n 2, 1) := by decide +kernel
theorem dX4_nearest_9 : decode cX4_nearest 9 = .ok (.iconst 1, 1) := by decide +kernel
theorem dX4_nearest_10 : decode cX4_nearest 10 = .ok (.iand, 1) := by decide +kernel
theorem dX4_nearest_11 : decode cX4_nearest 11 = .ok (.ifCond .eq 7, 3) := by decide +kernel
theorem dX4_nearest_14 : decode cX4_nearest 14 = .ok (.iconst 1, 1) := by decide +kernel
theorem dX4_nearest_15 : decode cX4_nearest 15 = .ok (.goto 4, 3) := by decide +kernel
theorem dX4_nearest_18 : decode cX4_nearest 18 = .ok (.iconst 0, 1) := by decide +kernel
theorem dX4_nearest_19 : decode cX4_nearest 19 = .ok (.istore 5, 2) := by decide +kernel
theorem dX4_nearest_21 : decode cX4_nearest 21 = .ok (.dload_n 3, 1) := by decide +kernel
theorem dX4_nearest_22 : decode cX4_nearest 22 = .ok (.ldc2_w 240, 3) := by decide +kernel
theorem dX4_nearest_25 : decode cX4_nearest 25 = .ok (.dcmp .l, 1) := by decide +kernel
theorem dX4_nearest_26 : decode cX4_nearest 26 = .ok (.ifCond .gt 16, 3) := by decide +kernel
theorem dX4_nearest_29 : decode cX4_nearest 29 = .ok (.dload_n 3, 1) := by decide +kernel
theorem dX4_nearest_30 : decode cX4_nearest 30 = .ok (.ldc2_w 240, 3) := by decide +kernel
theorem dX4_nearest_33 : decode cX4_nearest 33 = .ok (.dcmp .l, 1) := by decide +kernel
theorem dX4_nearest_34 : decode cX4_nearest 34 = .ok (.ifCond .ne 12, 3) := by decide +kernel
theorem dX4_nearest_37 : decode cX4_nearest 37 = .ok (.iload 5, 2) := by decide +kernel
theorem dX4_nearest_39 : decode cX4_nearest 39 = .ok (.ifCond .eq 7, 3) := by decide +kernel
theorem dX4_nearest_42 : decode cX4_nearest 42 = .ok (.iload_n 2, 1) := by decide +kernel
theorem dX4_nearest_43 : decode cX4_nearest 43 = .ok (.iconst 1, 1) := by decide +kernel
theorem dX4_nearest_44 : decode cX4_nearest 44 = .ok (.iadd, 1) := by decide +kernel
theorem dX4_nearest_45 : decode cX4_nearest 45 = .ok (.ireturn, 1) := by decide +kernel
theorem dX4_nearest_46 : decode cX4_nearest 46 = .ok (.dload_n 3, 1) := by decide +kernel
theorem dX4_nearest_47 : decode cX4_nearest 47 = .ok (.ldc2_w 242, 3) := by decide +kernel
theorem dX4_nearest_50 : decode cX4_nearest 50 = .ok (.dcmp .g, 1) := by decide +kernel
theorem dX4_nearest_51 : decode cX4_nearest 51 = .ok (.ifCond .lt 16, 3) := by decide +kernel
theorem dX4_nearest_54 : decode cX4_nearest 54 = .ok (.dload_n 3, 1) := by decide +kernel
theorem dX4_nearest_55 : decode cX4_nearest 55 = .ok (.ldc2_w 242, 3) := by decide +kernel
theorem dX4_nearest_58 : decode cX4_nearest 58 = .ok (.dcmp .l, 1) := by decide +kernel
theorem dX4_nearest_59 : decode cX4_nearest 59 = .ok (.ifCond .ne 12, 3) := by decide +kernel
theorem dX4_nearest_62 : decode cX4_nearest 62 = .ok (.iload 5, 2) := by decide +kernel
theorem dX4_nearest_64 : decode cX4_nearest 64 = .ok (.ifCond .eq 7, 3) := by decide +kernel
theorem dX4_nearest_67 : decode cX4_nearest 67 = .ok (.iload_n 2, 1) := by decide +kernel
theorem dX4_nearest_68 : decode cX4_nearest 68 = .ok (.iconst 1, 1) := by decide +kernel
theorem dX4_nearest_69 : decode cX4_nearest 69 = .ok (.isub, 1) := by decide +kernel
theorem dX4_nearest_70 : decode cX4_nearest 70 = .ok (.ireturn, 1) := by decide +kernel
theorem dX4_nearest_71 : decode cX4_nearest 71 = .ok (.iload_n 2, 1) := by decide +kernel
theorem dX4_nearest_72 : decode cX4_nearest 72 = .ok (.ireturn, 1) := by decide +kernel
theorem dX4_programmeOf_0 : decode cX4_programmeOf 0 = .ok (.iload_n 1, 1) := by decide +kernel
theorem dX4_programmeOf_1 : decode cX4_programmeOf 1 = .ok (.ifCond .lt 21, 3) := by decide +kernel
theorem dX4_programmeOf_4 : decode cX4_programmeOf 4 = .ok (.iload_n 1, 1) := by decide +kernel
theorem dX4_programmeOf_5 : decode cX4_programmeOf 5 = .ok (.aload_n 0, 1) := by decide +kernel
theorem dX4_programmeOf_6 : decode cX4_programmeOf 6 = .ok (.getfield 11, 3) := by decide +kernel
theorem dX4_programmeOf_9 : decode cX4_programmeOf 9 = .ok (.arraylength, 1) := by decide +kernel
theorem dX4_programmeOf_10 : decode cX4_programmeOf 10 = .ok (.if_icmp .ge 12, 3) := by decide +kernel
theorem dX4_programmeOf_13 : decode cX4_programmeOf 13 = .ok (.aload_n 0, 1) := by decide +kernel
theorem dX4_programmeOf_14 : decode cX4_programmeOf 14 = .ok (.getfield 11, 3) := by decide +kernel
theorem dX4_programmeOf_17 : decode cX4_programmeOf 17 = .ok (.iload_n 1, 1) := by decide +kernel
theorem dX4_programmeOf_18 : decode cX4_programmeOf 18 = .ok (.aaload, 1) := by decide +kernel
theorem dX4_programmeOf_19 : decode cX4_programmeOf 19 = .ok (.goto 4, 3) := by decide +kernel
theorem dX4_programmeOf_22 : decode cX4_programmeOf 22 = .ok (.aconst_null, 1) := by decide +kernel
theorem dX4_programmeOf_23 : decode cX4_programmeOf 23 = .ok (.areturn, 1) := by decide +kernel
theorem dX4_editionAt_0 : decode cX4_editionAt 0 = .ok (.iload_n 1, 1) := by decide +kernel
theorem dX4_editionAt_1 : decode cX4_editionAt 1 = .ok (.ifCond .lt 21, 3) := by decide +kernel
theorem dX4_editionAt_4 : decode cX4_editionAt 4 = .ok (.iload_n 1, 1) := by decide +kernel
theorem dX4_editionAt_5 : decode cX4_editionAt 5 = .ok (.aload_n 0, 1) := by decide +kernel
theorem dX4_editionAt_6 : decode cX4_editionAt 6 = .ok (.getfield 17, 3) := by decide +kernel
theorem dX4_editionAt_9 : decode cX4_editionAt 9 = .ok (.arraylength, 1) := by decide +kernel
theorem dX4_editionAt_10 : decode cX4_editionAt 10 = .ok (.if_icmp .ge 12, 3) := by decide +kernel
theorem dX4_editionAt_13 : decode cX4_editionAt 13 = .ok (.aload_n 0, 1) := by decide +kernel
theorem dX4_editionAt_14 : decode cX4_editionAt 14 = .ok (.getfield 17, 3) := by decide +kernel
theorem dX4_editionAt_17 : decode cX4_editionAt 17 = .ok (.iload_n 1, 1) := by decide +kernel
theorem dX4_editionAt_18 : decode cX4_editionAt 18 = .ok (.aaload, 1) := by decide +kernel
theorem dX4_editionAt_19 : decode cX4_editionAt 19 = .ok (.goto 4, 3) := by decide +kernel
theorem dX4_editionAt_22 : decode cX4_editionAt 22 = .ok (.aconst_null, 1) := by decide +kernel
theorem dX4_editionAt_23 : decode cX4_editionAt 23 = .ok (.areturn, 1) := by decide +kernel
theorem dX4_fillRanking_0 : decode cX4_fillRanking 0 = .ok (.iconst 0, 1) := by decide +kernel
theorem dX4_fillRanking_1 : decode cX4_fillRanking 1 = .ok (.istore_n 2, 1) := by decide +kernel
theorem dX4_fillRanking_2 : decode cX4_fillRanking 2 = .ok (.iload_n 2, 1) := by decide +kernel
theorem dX4_fillRanking_3 : decode cX4_fillRanking 3 = .ok (.bipush 12, 2) := by decide +kernel
theorem dX4_fillRanking_5 : decode cX4_fillRanking 5 = .ok (.if_icmp .ge 70, 3) := by decide +kernel
theorem dX4_fillRanking_8 : decode cX4_fillRanking 8 = .ok (.aload_n 0, 1) := by decide +kernel
theorem dX4_fillRanking_9 : decode cX4_fillRanking 9 = .ok (.iload_n 2, 1) := by decide +kernel
theorem dX4_fillRanking_10 : decode cX4_fillRanking 10 = .ok (.invokevirtual 45, 3) := by decide +kernel
theorem dX4_fillRanking_13 : decode cX4_fillRanking 13 = .ok (.astore_n 3, 1) := by decide +kernel
theorem dX4_fillRanking_14 : decode cX4_fillRanking 14 = .ok (.aload_n 3, 1) := by decide +kernel
theorem dX4_fillRanking_15 : decode cX4_fillRanking 15 = .ok (.ifnull 40, 3) := by decide +kernel
theorem dX4_fillRanking_18 : decode cX4_fillRanking 18 = .ok (.aload_n 3, 1) := by decide +kernel
theorem dX4_fillRanking_19 : decode cX4_fillRanking 19 = .ok (.getfield 104, 3) := by decide +kernel
theorem dX4_fillRanking_22 : decode cX4_fillRanking 22 = .ok (.ifCond .eq 33, 3) := by decide +kernel
theorem dX4_fillRanking_25 : decode cX4_fillRanking 25 = .ok (.aload_n 0, 1) := by decide +kernel
theorem dX4_fillRanking_26 : decode cX4_fillRanking 26 = .ok (.getfield 25, 3) := by decide +kernel
theorem dX4_fillRanking_29 : decode cX4_fillRanking 29 = .ok (.iload_n 2, 1) := by decide +kernel
theorem dX4_fillRanking_30 : decode cX4_fillRanking 30 = .ok (.aload_n 3, 1) := by decide +kernel
theorem dX4_fillRanking_31 : decode cX4_fillRanking 31 = .ok (.aload_n 1, 1) := by decide +kernel
theorem dX4_fillRanking_32 : decode cX4_fillRanking 32 = .ok (.invokevirtual 191, 3) := by decide +kernel
theorem dX4_fillRanking_35 : decode cX4_fillRanking 35 = .ok (.iastore, 1) := by decide +kernel
theorem dX4_fillRanking_36 : decode cX4_fillRanking 36 = .ok (.aload_n 0, 1) := by decide +kernel
theorem dX4_fillRanking_37 : decode cX4_fillRanking 37 = .ok (.getfield 21, 3) := by decide +kernel
theorem dX4_fillRanking_40 : decode cX4_fillRanking 40 = .ok (.iload_n 2, 1) := by decide +kernel
theorem dX4_fillRanking_41 : decode cX4_fillRanking 41 = .ok (.aload_n 3, 1) := by decide +kernel
theorem dX4_fillRanking_42 : decode cX4_fillRanking 42 = .ok (.aload_n 0, 1) := by decide +kernel
theorem dX4_fillRanking_43 : decode cX4_fillRanking 43 = .ok (.getfield 25, 3) := by decide +kernel
theorem dX4_fillRanking_46 : decode cX4_fillRanking 46 = .ok (.iload_n 2, 1) := by decide +kernel
theorem dX4_fillRanking_47 : decode cX4_fillRanking 47 = .ok (.iaload, 1) := by decide +kernel
theorem dX4_fillRanking_48 : decode cX4_fillRanking 48 = .ok (.invokevirtual 200, 3) := by decide +kernel
theorem dX4_fillRanking_51 : decode cX4_fillRanking 51 = .ok (.iastore, 1) := by decide +kernel
theorem dX4_fillRanking_52 : decode cX4_fillRanking 52 = .ok (.goto 17, 3) := by decide +kernel
theorem dX4_fillRanking_55 : decode cX4_fillRanking 55 = .ok (.aload_n 0, 1) := by decide +kernel
theorem dX4_fillRanking_56 : decode cX4_fillRanking 56 = .ok (.getfield 21, 3) := by decide +kernel
theorem dX4_fillRanking_59 : decode cX4_fillRanking 59 = .ok (.iload_n 2, 1) := by decide +kernel
theorem dX4_fillRanking_60 : decode cX4_fillRanking 60 = .ok (.iconst (-1), 1) := by decide +kernel
theorem dX4_fillRanking_61 : decode cX4_fillRanking 61 = .ok (.iastore, 1) := by decide +kernel
theorem dX4_fillRanking_62 : decode cX4_fillRanking 62 = .ok (.aload_n 0, 1) := by decide +kernel
theorem dX4_fillRanking_63 : decode cX4_fillRanking 63 = .ok (.getfield 25, 3) := by decide +kernel
theorem dX4_fillRanking_66 : decode cX4_fillRanking 66 = .ok (.iload_n 2, 1) := by decide +kernel
theorem dX4_fillRanking_67 : decode cX4_fillRanking 67 = .ok (.iconst 0, 1) := by decide +kernel
theorem dX4_fillRanking_68 : decode cX4_fillRanking 68 = .ok (.iastore, 1) := by decide +kernel
theorem dX4_fillRanking_69 : decode cX4_fillRanking 69 = .ok (.iinc 2 1, 3) := by decide +kernel
theorem dX4_fillRanking_72 : decode cX4_fillRanking 72 = .ok (.goto (-70), 3) := by decide +kernel
theorem dX4_fillRanking_75 : decode cX4_fillRanking 75 = .ok (.return_, 1) := by decide +kernel
theorem dX4_isRanked_0 : decode cX4_isRanked 0 = .ok (.iload_n 1, 1) := by decide +kernel
theorem dX4_isRanked_1 : decode cX4_isRanked 1 = .ok (.ifCond .lt 23, 3) := by decide +kernel
theorem dX4_isRanked_4 : decode cX4_isRanked 4 = .ok (.iload_n 1, 1) := by decide +kernel
theorem dX4_isRanked_5 : decode cX4_isRanked 5 = .ok (.bipush 12, 2) := by decide +kernel
theorem dX4_isRanked_7 : decode cX4_isRanked 7 = .ok (.if_icmp .ge 17, 3) := by decide +kernel
theorem dX4_isRanked_10 : decode cX4_isRanked 10 = .ok (.aload_n 0, 1) := by decide +kernel
theorem dX4_isRanked_11 : decode cX4_isRanked 11 = .ok (.getfield 21, 3) := by decide +kernel
theorem dX4_isRanked_14 : decode cX4_isRanked 14 = .ok (.iload_n 1, 1) := by decide +kernel
theorem dX4_isRanked_15 : decode cX4_isRanked 15 = .ok (.iaload, 1) := by decide +kernel
theorem dX4_isRanked_16 : decode cX4_isRanked 16 = .ok (.iconst (-1), 1) := by decide +kernel
theorem dX4_isRanked_17 : decode cX4_isRanked 17 = .ok (.if_icmp .eq 7, 3) := by decide +kernel
theorem dX4_isRanked_20 : decode cX4_isRanked 20 = .ok (.iconst 1, 1) := by decide +kernel
theorem dX4_isRanked_21 : decode cX4_isRanked 21 = .ok (.goto 4, 3) := by decide +kernel
theorem dX4_isRanked_24 : decode cX4_isRanked 24 = .ok (.iconst 0, 1) := by decide +kernel
theorem dX4_isRanked_25 : decode cX4_isRanked 25 = .ok (.ireturn, 1) := by decide +kernel
theorem dX4_isAhead_0 : decode cX4_isAhead 0 = .ok (.aload_n 0, 1) := by decide +kernel
theorem dX4_isAhead_1 : decode cX4_isAhead 1 = .ok (.iload_n 1, 1) := by decide +kernel
theorem dX4_isAhead_2 : decode cX4_isAhead 2 = .ok (.invokevirtual 244, 3) := by decide +kernel
theorem dX4_isAhead_5 : decode cX4_isAhead 5 = .ok (.ifCond .eq 11, 3) := by decide +kernel
theorem dX4_isAhead_8 : decode cX4_isAhead 8 = .ok (.aload_n 0, 1) := by decide +kernel
theorem dX4_isAhead_9 : decode cX4_isAhead 9 = .ok (.iload_n 2, 1) := by decide +kernel
theorem dX4_isAhead_10 : decode cX4_isAhead 10 = .ok (.invokevirtual 244, 3) := by decide +kernel
theorem dX4_isAhead_13 : decode cX4_isAhead 13 = .ok (.ifCond .ne 5, 3) := by decide +kernel
theorem dX4_isAhead_16 : decode cX4_isAhead 16 = .ok (.iconst 0, 1) := by decide +kernel
theorem dX4_isAhead_17 : decode cX4_isAhead 17 = .ok (.ireturn, 1) := by decide +kernel
theorem dX4_isAhead_18 : decode cX4_isAhead 18 = .ok (.aload_n 0, 1) := by decide +kernel
theorem dX4_isAhead_19 : decode cX4_isAhead 19 = .ok (.getfield 21, 3) := by decide +kernel
theorem dX4_isAhead_22 : decode cX4_isAhead 22 = .ok (.iload_n 1, 1) := by decide +kernel
theorem dX4_isAhead_23 : decode cX4_isAhead 23 = .ok (.iaload, 1) := by decide +kernel
theorem dX4_isAhead_24 : decode cX4_isAhead 24 = .ok (.aload_n 0, 1) := by decide +kernel
theorem dX4_isAhead_25 : decode cX4_isAhead 25 = .ok (.getfield 21, 3) := by decide +kernel
theorem dX4_isAhead_28 : decode cX4_isAhead 28 = .ok (.iload_n 2, 1) := by decide +kernel
theorem dX4_isAhead_29 : decode cX4_isAhead 29 = .ok (.iaload, 1) := by decide +kernel
theorem dX4_isAhead_30 : decode cX4_isAhead 30 = .ok (.if_icmp .eq 24, 3) := by decide +kernel
theorem dX4_isAhead_33 : decode cX4_isAhead 33 = .ok (.aload_n 0, 1) := by decide +kernel
theorem dX4_isAhead_34 : decode cX4_isAhead 34 = .ok (.getfield 21, 3) := by decide +kernel
theorem dX4_isAhead_37 : decode cX4_isAhead 37 = .ok (.iload_n 1, 1) := by decide +kernel
theorem dX4_isAhead_38 : decode cX4_isAhead 38 = .ok (.iaload, 1) := by decide +kernel
theorem dX4_isAhead_39 : decode cX4_isAhead 39 = .ok (.aload_n 0, 1) := by decide +kernel
theorem dX4_isAhead_40 : decode cX4_isAhead 40 = .ok (.getfield 21, 3) := by decide +kernel
theorem dX4_isAhead_43 : decode cX4_isAhead 43 = .ok (.iload_n 2, 1) := by decide +kernel
theorem dX4_isAhead_44 : decode cX4_isAhead 44 = .ok (.iaload, 1) := by decide +kernel
theorem dX4_isAhead_45 : decode cX4_isAhead 45 = .ok (.if_icmp .le 7, 3) := by decide +kernel
theorem dX4_isAhead_48 : decode cX4_isAhead 48 = .ok (.iconst 1, 1) := by decide +kernel
theorem dX4_isAhead_49 : decode cX4_isAhead 49 = .ok (.goto 4, 3) := by decide +kernel
theorem dX4_isAhead_52 : decode cX4_isAhead 52 = .ok (.iconst 0, 1) := by decide +kernel
theorem dX4_isAhead_53 : decode cX4_isAhead 53 = .ok (.ireturn, 1) := by decide +kernel
theorem dX4_isAhead_54 : decode cX4_isAhead 54 = .ok (.aload_n 0, 1) := by decide +kernel
theorem dX4_isAhead_55 : decode cX4_isAhead 55 = .ok (.getfield 25, 3) := by decide +kernel
theorem dX4_isAhead_58 : decode cX4_isAhead 58 = .ok (.iload_n 1, 1) := by decide +kernel
theorem dX4_isAhead_59 : decode cX4_isAhead 59 = .ok (.iaload, 1) := by decide +kernel
theorem dX4_isAhead_60 : decode cX4_isAhead 60 = .ok (.aload_n 0, 1) := by decide +kernel
theorem dX4_isAhead_61 : decode cX4_isAhead 61 = .ok (.getfield 25, 3) := by decide +kernel
theorem dX4_isAhead_64 : decode cX4_isAhead 64 = .ok (.iload_n 2, 1) := by decide +kernel
theorem dX4_isAhead_65 : decode cX4_isAhead 65 = .ok (.iaload, 1) := by decide +kernel
theorem dX4_isAhead_66 : decode cX4_isAhead 66 = .ok (.if_icmp .eq 24, 3) := by decide +kernel
theorem dX4_isAhead_69 : decode cX4_isAhead 69 = .ok (.aload_n 0, 1) := by decide +kernel
theorem dX4_isAhead_70 : decode cX4_isAhead 70 = .ok (.getfield 25, 3) := by decide +kernel
theorem dX4_isAhead_73 : decode cX4_isAhead 73 = .ok (.iload_n 1, 1) := by decide +kernel
theorem dX4_isAhead_74 : decode cX4_isAhead 74 = .ok (.iaload, 1) := by decide +kernel
theorem dX4_isAhead_75 : decode cX4_isAhead 75 = .ok (.aload_n 0, 1) := by decide +kernel
theorem dX4_isAhead_76 : decode cX4_isAhead 76 = .ok (.getfield 25, 3) := by decide +kernel
theorem dX4_isAhead_79 : decode cX4_isAhead 79 = .ok (.iload_n 2, 1) := by decide +kernel
theorem dX4_isAhead_80 : decode cX4_isAhead 80 = .ok (.iaload, 1) := by decide +kernel
theorem dX4_isAhead_81 : decode cX4_isAhead 81 = .ok (.if_icmp .le 7, 3) := by decide +kernel
theorem dX4_isAhead_84 : decode cX4_isAhead 84 = .ok (.iconst 1, 1) := by decide +kernel
theorem dX4_isAhead_85 : decode cX4_isAhead 85 = .ok (.goto 4, 3) := by decide +kernel
theorem dX4_isAhead_88 : decode cX4_isAhead 88 = .ok (.iconst 0, 1) := by decide +kernel
theorem dX4_isAhead_89 : decode cX4_isAhead 89 = .ok (.ireturn, 1) := by decide +kernel
theorem dX4_isAhead_90 : decode cX4_isAhead 90 = .ok (.iload_n 1, 1) := by decide +kernel
theorem dX4_isAhead_91 : decode cX4_isAhead 91 = .ok (.iload_n 2, 1) := by decide +kernel
theorem dX4_isAhead_92 : decode cX4_isAhead 92 = .ok (.if_icmp .ge 7, 3) := by decide +kernel
theorem dX4_isAhead_95 : decode cX4_isAhead 95 = .ok (.iconst 1, 1) := by decide +kernel
theorem dX4_isAhead_96 : decode cX4_isAhead 96 = .ok (.goto 4, 3) := by decide +kernel
theorem dX4_isAhead_99 : decode cX4_isAhead 99 = .ok (.iconst 0, 1) := by decide +kernel
theorem dX4_isAhead_100 : decode cX4_isAhead 100 = .ok (.ireturn, 1) := by decide +kernel
theorem dX4_rankOf_0 : decode cX4_rankOf 0 = .ok (.aload_n 0, 1) := by decide +kernel
theorem dX4_rankOf_1 : decode cX4_rankOf 1 = .ok (.iload_n 1, 1) := by decide +kernel
theorem dX4_rankOf_2 : decode cX4_rankOf 2 = .ok (.invokevirtual 244, 3) := by decide +kernel
theorem dX4_rankOf_5 : decode cX4_rankOf 5 = .ok (.ifCond .ne 5, 3) := by decide +kernel
theorem dX4_rankOf_8 : decode cX4_rankOf 8 = .ok (.iconst (-1), 1) := by decide +kernel
theorem dX4_rankOf_9 : decode cX4_rankOf 9 = .ok (.ireturn, 1) := by decide +kernel
theorem dX4_rankOf_10 : decode cX4_rankOf 10 = .ok (.iconst 0, 1) := by decide +kernel
theorem dX4_rankOf_11 : decode cX4_rankOf 11 = .ok (.istore_n 2, 1) := by decide +kernel
theorem dX4_rankOf_12 : decode cX4_rankOf 12 = .ok (.iconst 0, 1) := by decide +kernel
theorem dX4_rankOf_13 : decode cX4_rankOf 13 = .ok (.istore_n 3, 1) := by decide +kernel
theorem dX4_rankOf_14 : decode cX4_rankOf 14 = .ok (.iload_n 3, 1) := by decide +kernel
theorem dX4_rankOf_15 : decode cX4_rankOf 15 = .ok (.bipush 12, 2) := by decide +kernel
theorem dX4_rankOf_17 : decode cX4_rankOf 17 = .ok (.if_icmp .ge 21, 3) := by decide +kernel
theorem dX4_rankOf_20 : decode cX4_rankOf 20 = .ok (.aload_n 0, 1) := by decide +kernel
theorem dX4_rankOf_21 : decode cX4_rankOf 21 = .ok (.iload_n 3, 1) := by decide +kernel
theorem dX4_rankOf_22 : decode cX4_rankOf 22 = .ok (.iload_n 1, 1) := by decide +kernel
theorem dX4_rankOf_23 : decode cX4_rankOf 23 = .ok (.invokevirtual 247, 3) := by decide +kernel
theorem dX4_rankOf_26 : decode cX4_rankOf 26 = .ok (.ifCond .eq 6, 3) := by decide +kernel
theorem dX4_rankOf_29 : decode cX4_rankOf 29 = .ok (.iinc 2 1, 3) := by decide +kernel
theorem dX4_rankOf_32 : decode cX4_rankOf 32 = .ok (.iinc 3 1, 3) := by decide +kernel
theorem dX4_rankOf_35 : decode cX4_rankOf 35 = .ok (.goto (-21), 3) := by decide +kernel
theorem dX4_rankOf_38 : decode cX4_rankOf 38 = .ok (.iload_n 2, 1) := by decide +kernel
theorem dX4_rankOf_39 : decode cX4_rankOf 39 = .ok (.ireturn, 1) := by decide +kernel
theorem dX4_howManyRanked_0 : decode cX4_howManyRanked 0 = .ok (.iconst 0, 1) := by decide +kernel
theorem dX4_howManyRanked_1 : decode cX4_howManyRanked 1 = .ok (.istore_n 1, 1) := by decide +kernel
theorem dX4_howManyRanked_2 : decode cX4_howManyRanked 2 = .ok (.iconst 0, 1) := by decide +kernel
theorem dX4_howManyRanked_3 : decode cX4_howManyRanked 3 = .ok (.istore_n 2, 1) := by decide +kernel
theorem dX4_howManyRanked_4 : decode cX4_howManyRanked 4 = .ok (.iload_n 2, 1) := by decide +kernel
theorem dX4_howManyRanked_5 : decode cX4_howManyRanked 5 = .ok (.bipush 12, 2) := by decide +kernel
theorem dX4_howManyRanked_7 : decode cX4_howManyRanked 7 = .ok (.if_icmp .ge 20, 3) := by decide +kernel
theorem dX4_howManyRanked_10 : decode cX4_howManyRanked 10 = .ok (.aload_n 0, 1) := by decide +kernel
theorem dX4_howManyRanked_11 : decode cX4_howManyRanked 11 = .ok (.iload_n 2, 1) := by decide +kernel
theorem dX4_howManyRanked_12 : decode cX4_howManyRanked 12 = .ok (.invokevirtual 244, 3) := by decide +kernel
theorem dX4_howManyRanked_15 : decode cX4_howManyRanked 15 = .ok (.ifCond .eq 6, 3) := by decide +kernel
theorem dX4_howManyRanked_18 : decode cX4_howManyRanked 18 = .ok (.iinc 1 1, 3) := by decide +kernel
theorem dX4_howManyRanked_21 : decode cX4_howManyRanked 21 = .ok (.iinc 2 1, 3) := by decide +kernel
theorem dX4_howManyRanked_24 : decode cX4_howManyRanked 24 = .ok (.goto (-20), 3) := by decide +kernel
theorem dX4_howManyRanked_27 : decode cX4_howManyRanked 27 = .ok (.iload_n 1, 1) := by decide +kernel
theorem dX4_howManyRanked_28 : decode cX4_howManyRanked 28 = .ok (.ireturn, 1) := by decide +kernel
theorem dX4_skaterOfRank_0 : decode cX4_skaterOfRank 0 = .ok (.iconst 0, 1) := by decide +kernel
theorem dX4_skaterOfRank_1 : decode cX4_skaterOfRank 1 = .ok (.istore_n 2, 1) := by decide +kernel
theorem dX4_skaterOfRank_2 : decode cX4_skaterOfRank 2 = .ok (.iload_n 2, 1) := by decide +kernel
theorem dX4_skaterOfRank_3 : decode cX4_skaterOfRank 3 = .ok (.bipush 12, 2) := by decide +kernel
theorem dX4_skaterOfRank_5 : decode cX4_skaterOfRank 5 = .ok (.if_icmp .ge 28, 3) := by decide +kernel
theorem dX4_skaterOfRank_8 : decode cX4_skaterOfRank 8 = .ok (.aload_n 0, 1) := by decide +kernel
theorem dX4_skaterOfRank_9 : decode cX4_skaterOfRank 9 = .ok (.iload_n 2, 1) := by decide +kernel
theorem dX4_skaterOfRank_10 : decode cX4_skaterOfRank 10 = .ok (.invokevirtual 244, 3) := by decide +kernel
theorem dX4_skaterOfRank_13 : decode cX4_skaterOfRank 13 = .ok (.ifCond .eq 14, 3) := by decide +kernel
theorem dX4_skaterOfRank_16 : decode cX4_skaterOfRank 16 = .ok (.aload_n 0, 1) := by decide +kernel
theorem dX4_skaterOfRank_17 : decode cX4_skaterOfRank 17 = .ok (.iload_n 2, 1) := by decide +kernel
theorem dX4_skaterOfRank_18 : decode cX4_skaterOfRank 18 = .ok (.invokevirtual 210, 3) := by decide +kernel
theorem dX4_skaterOfRank_21 : decode cX4_skaterOfRank 21 = .ok (.iload_n 1, 1) := by decide +kernel
theorem dX4_skaterOfRank_22 : decode cX4_skaterOfRank 22 = .ok (.if_icmp .ne 5, 3) := by decide +kernel
theorem dX4_skaterOfRank_25 : decode cX4_skaterOfRank 25 = .ok (.iload_n 2, 1) := by decide +kernel
theorem dX4_skaterOfRank_26 : decode cX4_skaterOfRank 26 = .ok (.ireturn, 1) := by decide +kernel
theorem dX4_skaterOfRank_27 : decode cX4_skaterOfRank 27 = .ok (.iinc 2 1, 3) := by decide +kernel
theorem dX4_skaterOfRank_30 : decode cX4_skaterOfRank 30 = .ok (.goto (-28), 3) := by decide +kernel
theorem dX4_skaterOfRank_33 : decode cX4_skaterOfRank 33 = .ok (.iconst (-1), 1) := by decide +kernel
theorem dX4_skaterOfRank_34 : decode cX4_skaterOfRank 34 = .ok (.ireturn, 1) := by decide +kernel
theorem dX4_unrankedSkater_0 : decode cX4_unrankedSkater 0 = .ok (.iconst 0, 1) := by decide +kernel
theorem dX4_unrankedSkater_1 : decode cX4_unrankedSkater 1 = .ok (.istore_n 2, 1) := by decide +kernel
theorem dX4_unrankedSkater_2 : decode cX4_unrankedSkater 2 = .ok (.iconst 0, 1) := by decide +kernel
theorem dX4_unrankedSkater_3 : decode cX4_unrankedSkater 3 = .ok (.istore_n 3, 1) := by decide +kernel
theorem dX4_unrankedSkater_4 : decode cX4_unrankedSkater 4 = .ok (.iload_n 3, 1) := by decide +kernel
theorem dX4_unrankedSkater_5 : decode cX4_unrankedSkater 5 = .ok (.bipush 12, 2) := by decide +kernel
theorem dX4_unrankedSkater_7 : decode cX4_unrankedSkater 7 = .ok (.if_icmp .ge 35, 3) := by decide +kernel
theorem dX4_unrankedSkater_10 : decode cX4_unrankedSkater 10 = .ok (.aload_n 0, 1) := by decide +kernel
theorem dX4_unrankedSkater_11 : decode cX4_unrankedSkater 11 = .ok (.iload_n 3, 1) := by decide +kernel
theorem dX4_unrankedSkater_12 : decode cX4_unrankedSkater 12 = .ok (.invokevirtual 45, 3) := by decide +kernel
theorem dX4_unrankedSkater_15 : decode cX4_unrankedSkater 15 = .ok (.ifnull 21, 3) := by decide +kernel
theorem dX4_unrankedSkater_18 : decode cX4_unrankedSkater 18 = .ok (.aload_n 0, 1) := by decide +kernel
theorem dX4_unrankedSkater_19 : decode cX4_unrankedSkater 19 = .ok (.iload_n 3, 1) := by decide +kernel
theorem dX4_unrankedSkater_20 : decode cX4_unrankedSkater 20 = .ok (.invokevirtual 244, 3) := by decide +kernel
theorem dX4_unrankedSkater_23 : decode cX4_unrankedSkater 23 = .ok (.ifCond .ne 13, 3) := by decide +kernel
theorem dX4_unrankedSkater_26 : decode cX4_unrankedSkater 26 = .ok (.iload_n 2, 1) := by decide +kernel
theorem dX4_unrankedSkater_27 : decode cX4_unrankedSkater 27 = .ok (.iload_n 1, 1) := by decide +kernel
theorem dX4_unrankedSkater_28 : decode cX4_unrankedSkater 28 = .ok (.if_icmp .ne 5, 3) := by decide +kernel
theorem dX4_unrankedSkater_31 : decode cX4_unrankedSkater 31 = .ok (.iload_n 3, 1) := by decide +kernel
theorem dX4_unrankedSkater_32 : decode cX4_unrankedSkater 32 = .ok (.ireturn, 1) := by decide +kernel
theorem dX4_unrankedSkater_33 : decode cX4_unrankedSkater 33 = .ok (.iinc 2 1, 3) := by decide +kernel
theorem dX4_unrankedSkater_36 : decode cX4_unrankedSkater 36 = .ok (.iinc 3 1, 3) := by decide +kernel
theorem dX4_unrankedSkater_39 : decode cX4_unrankedSkater 39 = .ok (.goto (-35), 3) := by decide +kernel
theorem dX4_unrankedSkater_42 : decode cX4_unrankedSkater 42 = .ok (.iconst (-1), 1) := by decide +kernel
theorem dX4_unrankedSkater_43 : decode cX4_unrankedSkater 43 = .ok (.ireturn, 1) := by decide +kernel
theorem dX5_init_0 : decode cX5_init 0 = .ok (.aload_n 0, 1) := by decide +kernel
theorem dX5_init_1 : decode cX5_init 1 = .ok (.invokespecial 1, 3) := by decide +kernel
theorem dX5_init_4 : decode cX5_init 4 = .ok (.aload_n 0, 1) := by decide +kernel
theorem dX5_init_5 : decode cX5_init 5 = .ok (.iconst (-1), 1) := by decide +kernel
theorem dX5_init_6 : decode cX5_init 6 = .ok (.putfield 9, 3) := by decide +kernel
theorem dX5_init_9 : decode cX5_init 9 = .ok (.aload_n 0, 1) := by decide +kernel
theorem dX5_init_10 : decode cX5_init 10 = .ok (.bipush 12, 2) := by decide +kernel
theorem dX5_init_12 : decode cX5_init 12 = .ok (.newarray .int, 2) := by decide +kernel
theorem dX5_init_14 : decode cX5_init 14 = .ok (.putfield 13, 3) := by decide +kernel
theorem dX5_init_17 : decode cX5_init 17 = .ok (.aload_n 0, 1) := by decide +kernel
theorem dX5_init_18 : decode cX5_init 18 = .ok (.bipush 12, 2) := by decide +kernel
theorem dX5_init_20 : decode cX5_init 20 = .ok (.newarray .int, 2) := by decide +kernel
theorem dX5_init_22 : decode cX5_init 22 = .ok (.putfield 17, 3) := by decide +kernel
theorem dX5_init_25 : decode cX5_init 25 = .ok (.aload_n 0, 1) := by decide +kernel
theorem dX5_init_26 : decode cX5_init 26 = .ok (.bipush 12, 2) := by decide +kernel
theorem dX5_init_28 : decode cX5_init 28 = .ok (.newarray .int, 2) := by decide +kernel
theorem dX5_init_30 : decode cX5_init 30 = .ok (.putfield 20, 3) := by decide +kernel
theorem dX5_init_33 : decode cX5_init 33 = .ok (.aload_n 0, 1) := by decide +kernel
theorem dX5_init_34 : decode cX5_init 34 = .ok (.sipush 144, 3) := by decide +kernel
theorem dX5_init_37 : decode cX5_init 37 = .ok (.newarray .int, 2) := by decide +kernel
theorem dX5_init_39 : decode cX5_init 39 = .ok (.putfield 23, 3) := by decide +kernel
theorem dX5_init_42 : decode cX5_init 42 = .ok (.aload_n 0, 1) := by decide +kernel
theorem dX5_init_43 : decode cX5_init 43 = .ok (.sipush 144, 3) := by decide +kernel
theorem dX5_init_46 : decode cX5_init 46 = .ok (.newarray .int, 2) := by decide +kernel
theorem dX5_init_48 : decode cX5_init 48 = .ok (.putfield 26, 3) := by decide +kernel
theorem dX5_init_51 : decode cX5_init 51 = .ok (.aload_n 0, 1) := by decide +kernel
theorem dX5_init_52 : decode cX5_init 52 = .ok (.sipush 144, 3) := by decide +kernel
theorem dX5_init_55 : decode cX5_init 55 = .ok (.newarray .int, 2) := by decide +kernel
theorem dX5_init_57 : decode cX5_init 57 = .ok (.putfield 29, 3) := by decide +kernel
theorem dX5_init_60 : decode cX5_init 60 = .ok (.aload_n 0, 1) := by decide +kernel
theorem dX5_init_61 : decode cX5_init 61 = .ok (.sipush 432, 3) := by decide +kernel
theorem dX5_init_64 : decode cX5_init 64 = .ok (.newarray .int, 2) := by decide +kernel
theorem dX5_init_66 : decode cX5_init 66 = .ok (.putfield 32, 3) := by decide +kernel
theorem dX5_init_69 : decode cX5_init 69 = .ok (.aload_n 0, 1) := by decide +kernel
theorem dX5_init_70 : decode cX5_init 70 = .ok (.sipush 144, 3) := by decide +kernel
theorem dX5_init_73 : decode cX5_init 73 = .ok (.newarray .boolean, 2) := by decide +kernel
theorem dX5_init_75 : decode cX5_init 75 = .ok (.putfield 35, 3) := by decide +kernel
theorem dX5_init_78 : decode cX5_init 78 = .ok (.aload_n 0, 1) := by decide +kernel
theorem dX5_init_79 : decode cX5_init 79 = .ok (.sipush 144, 3) := by decide +kernel
theorem dX5_init_82 : decode cX5_init 82 = .ok (.newarray .boolean, 2) := by decide +kernel
theorem dX5_init_84 : decode cX5_init 84 = .ok (.putfield 39, 3) := by decide +kernel
theorem dX5_init_87 : decode cX5_init 87 = .ok (.aload_n 0, 1) := by decide +kernel
theorem dX5_init_88 : decode cX5_init 88 = .ok (.sipush 144, 3) := by decide +kernel
theorem dX5_init_91 : decode cX5_init 91 = .ok (.newarray .boolean, 2) := by decide +kernel
theorem dX5_init_93 : decode cX5_init 93 = .ok (.putfield 42, 3) := by decide +kernel
theorem dX5_init_96 : decode cX5_init 96 = .ok (.aload_n 0, 1) := by decide +kernel
theorem dX5_init_97 : decode cX5_init 97 = .ok (.sipush 1008, 3) := by decide +kernel
theorem dX5_init_100 : decode cX5_init 100 = .ok (.newarray .int, 2) := by decide +kernel
theorem dX5_init_102 : decode cX5_init 102 = .ok (.putfield 45, 3) := by decide +kernel
theorem dX5_init_105 : decode cX5_init 105 = .ok (.aload_n 0, 1) := by decide +kernel
theorem dX5_init_106 : decode cX5_init 106 = .ok (.sipush 252, 3) := by decide +kernel
theorem dX5_init_109 : decode cX5_init 109 = .ok (.newarray .int, 2) := by decide +kernel
theorem dX5_init_111 : decode cX5_init 111 = .ok (.putfield 48, 3) := by decide +kernel
theorem dX5_init_114 : decode cX5_init 114 = .ok (.aload_n 0, 1) := by decide +kernel
theorem dX5_init_115 : decode cX5_init 115 = .ok (.bipush 87, 2) := by decide +kernel
theorem dX5_init_117 : decode cX5_init 117 = .ok (.newarray .int, 2) := by decide +kernel
theorem dX5_init_119 : decode cX5_init 119 = .ok (.putfield 51, 3) := by decide +kernel
theorem dX5_init_122 : decode cX5_init 122 = .ok (.iconst 0, 1) := by decide +kernel
theorem dX5_init_123 : decode cX5_init 123 = .ok (.istore_n 1, 1) := by decide +kernel
theorem dX5_init_124 : decode cX5_init 124 = .ok (.iload_n 1, 1) := by decide +kernel
theorem dX5_init_125 : decode cX5_init 125 = .ok (.sipush 432, 3) := by decide +kernel
theorem dX5_init_128 : decode cX5_init 128 = .ok (.if_icmp .ge 17, 3) := by decide +kernel
theorem dX5_init_131 : decode cX5_init 131 = .ok (.aload_n 0, 1) := by decide +kernel
theorem dX5_init_132 : decode cX5_init 132 = .ok (.getfield 32, 3) := by decide +kernel
theorem dX5_init_135 : decode cX5_init 135 = .ok (.iload_n 1, 1) := by decide +kernel
theorem dX5_init_136 : decode cX5_init 136 = .ok (.bipush (-99), 2) := by decide +kernel
theorem dX5_init_138 : decode cX5_init 138 = .ok (.iastore, 1) := by decide +kernel
theorem dX5_init_139 : decode cX5_init 139 = .ok (.iinc 1 1, 3) := by decide +kernel
theorem dX5_init_142 : decode cX5_init 142 = .ok (.goto (-18), 3) := by decide +kernel
theorem dX5_init_145 : decode cX5_init 145 = .ok (.iconst 0, 1) := by decide +kernel
theorem dX5_init_146 : decode cX5_init 146 = .ok (.istore_n 1, 1) := by decide +kernel
theorem dX5_init_147 : decode cX5_init 147 = .ok (.iload_n 1, 1) := by decide +kernel
theorem dX5_init_148 : decode cX5_init 148 = .ok (.sipush 1008, 3) := by decide +kernel
theorem dX5_init_151 : decode cX5_init 151 = .ok (.if_icmp .ge 17, 3) := by decide +kernel
theorem dX5_init_154 : decode cX5_init 154 = .ok (.aload_n 0, 1) := by decide +kernel
theorem dX5_init_155 : decode cX5_init 155 = .ok (.getfield 45, 3) := by decide +kernel
theorem dX5_init_158 : decode cX5_init 158 = .ok (.iload_n 1, 1) := by decide +kernel
theorem dX5_init_159 : decode cX5_init 159 = .ok (.bipush (-99), 2) := by decide +kernel
theorem dX5_init_161 : decode cX5_init 161 = .ok (.iastore, 1) := by decide +kernel
theorem dX5_init_162 : decode cX5_init 162 = .ok (.iinc 1 1, 3) := by decide +kernel
theorem dX5_init_165 : decode cX5_init 165 = .ok (.goto (-18), 3) := by decide +kernel
theorem dX5_init_168 : decode cX5_init 168 = .ok (.iconst 0, 1) := by decide +kernel
theorem dX5_init_169 : decode cX5_init 169 = .ok (.istore_n 1, 1) := by decide +kernel
theorem dX5_init_170 : decode cX5_init 170 = .ok (.iload_n 1, 1) := by decide +kernel
theorem dX5_init_171 : decode cX5_init 171 = .ok (.sipush 252, 3) := by decide +kernel
theorem dX5_init_174 : decode cX5_init 174 = .ok (.if_icmp .ge 17, 3) := by decide +kernel
theorem dX5_init_177 : decode cX5_init 177 = .ok (.aload_n 0, 1) := by decide +kernel
theorem dX5_init_178 : decode cX5_init 178 = .ok (.getfield 48, 3) := by decide +kernel
theorem dX5_init_181 : decode cX5_init 181 = .ok (.iload_n 1, 1) := by decide +kernel
theorem dX5_init_182 : decode cX5_init 182 = .ok (.bipush (-99), 2) := by decide +kernel
theorem dX5_init_184 : decode cX5_init 184 = .ok (.iastore, 1) := by decide +kernel
theorem dX5_init_185 : decode cX5_init 185 = .ok (.iinc 1 1, 3) := by decide +kernel
theorem dX5_init_188 : decode cX5_init 188 = .ok (.goto (-18), 3) := by decide +kernel
theorem dX5_init_191 : decode cX5_init 191 = .ok (.iconst 0, 1) := by decide +kernel
theorem dX5_init_192 : decode cX5_init 192 = .ok (.istore_n 1, 1) := by decide +kernel
theorem dX5_init_193 : decode cX5_init 193 = .ok (.iload_n 1, 1) := by decide +kernel
theorem dX5_init_194 : decode cX5_init 194 = .ok (.iconst 3, 1) := by decide +kernel
theorem dX5_init_195 : decode cX5_init 195 = .ok (.if_icmp .ge 142, 3) := by decide +kernel
theorem dX5_init_198 : decode cX5_init 198 = .ok (.aload_n 0, 1) := by decide +kernel
theorem dX5_init_199 : decode cX5_init 199 = .ok (.iload_n 1, 1) := by decide +kernel
theorem dX5_init_200 : decode cX5_init 200 = .ok (.iconst 0, 1) := by decide +kernel
theorem dX5_init_201 : decode cX5_init 201 = .ok (.bipush 40, 2) := by decide +kernel
theorem dX5_init_203 : decode cX5_init 203 = .ok (.sipush 130, 3) := by decide +kernel
theorem dX5_init_206 : decode cX5_init 206 = .ok (.sipush 420, 3) := by decide +kernel
theorem dX5_init_209 : decode cX5_init 209 = .ok (.sipush 950, 3) := by decide +kernel
theorem dX5_init_212 : decode cX5_init 212 = .ok (.invokevirtual 54, 3) := by decide +kernel
theorem dX5_init_215 : decode cX5_init 215 = .ok (.aload_n 0, 1) := by decide +kernel
theorem dX5_init_216 : decode cX5_init 216 = .ok (.iload_n 1, 1) := by decide +kernel
theorem dX5_init_217 : decode cX5_init 217 = .ok (.iconst 1, 1) := by decide +kernel
theorem dX5_init_218 : decode cX5_init 218 = .ok (.bipush 40, 2) := by decide +kernel
theorem dX5_init_220 : decode cX5_init 220 = .ok (.sipush 130, 3) := by decide +kernel
theorem dX5_init_223 : decode cX5_init 223 = .ok (.sipush 430, 3) := by decide +kernel
theorem dX5_init_226 : decode cX5_init 226 = .ok (.sipush 970, 3) := by decide +kernel
theorem dX5_init_229 : decode cX5_init 229 = .ok (.invokevirtual 54, 3) := by decide +kernel
theorem dX5_init_232 : decode cX5_init 232 = .ok (.aload_n 0, 1) := by decide +kernel
theorem dX5_init_233 : decode cX5_init 233 = .ok (.iload_n 1, 1) := by decide +kernel
theorem dX5_init_234 : decode cX5_init 234 = .ok (.iconst 2, 1) := by decide +kernel
theorem dX5_init_235 : decode cX5_init 235 = .ok (.bipush 50, 2) := by decide +kernel
theorem dX5_init_237 : decode cX5_init 237 = .ok (.sipush 170, 3) := by decide +kernel
theorem dX5_init_240 : decode cX5_init 240 = .ok (.sipush 490, 3) := by decide +kernel
theorem dX5_init_243 : decode cX5_init 243 = .ok (.sipush 1050, 3) := by decide +kernel
theorem dX5_init_246 : decode cX5_init 246 = .ok (.invokevirtual 54, 3) := by decide +kernel
theorem dX5_init_249 : decode cX5_init 249 = .ok (.aload_n 0, 1) := by decide +kernel
theorem dX5_init_250 : decode cX5_init 250 = .ok (.iload_n 1, 1) := by decide +kernel
theorem dX5_init_251 : decode cX5_init 251 = .ok (.iconst 3, 1) := by decide +kernel
theorem dX5_init_252 : decode cX5_init 252 = .ok (.bipush 50, 2) := by decide +kernel
theorem dX5_init_254 : decode cX5_init 254 = .ok (.sipush 180, 3) := by decide +kernel
theorem dX5_init_257 : decode cX5_init 257 = .ok (.sipush 530, 3) := by decide +kernel
theorem dX5_init_260 : decode cX5_init 260 = .ok (.sipush 1100, 3) := by decide +kernel
theorem dX5_init_263 : decode cX5_init 263 = .ok (.invokevirtual 54, 3) := by decide +kernel
theorem dX5_init_266 : decode cX5_init 266 = .ok (.aload_n 0, 1) := by decide +kernel
theorem dX5_init_267 : decode cX5_init 267 = .ok (.iload_n 1, 1) := by decide +kernel
theorem dX5_init_268 : decode cX5_init 268 = .ok (.iconst 4, 1) := by decide +kernel
theorem dX5_init_269 : decode cX5_init 269 = .ok (.bipush 60, 2) := by decide +kernel
theorem dX5_init_271 : decode cX5_init 271 = .ok (.sipush 210, 3) := by decide +kernel
theorem dX5_init_274 : decode cX5_init 274 = .ok (.sipush 590, 3) := by decide +kernel
theorem dX5_init_277 : decode cX5_init 277 = .ok (.sipush 1150, 3) := by decide +kernel
theorem dX5_init_280 : decode cX5_init 280 = .ok (.invokevirtual 54, 3) := by decide +kernel
theorem dX5_init_283 : decode cX5_init 283 = .ok (.aload_n 0, 1) := by decide +kernel
theorem dX5_init_284 : decode cX5_init 284 = .ok (.iload_n 1, 1) := by decide +kernel
theorem dX5_init_285 : decode cX5_init 285 = .ok (.iconst 5, 1) := by decide +kernel
theorem dX5_init_286 : decode cX5_init 286 = .ok (.bipush 110, 2) := by decide +kernel
theorem dX5_init_288 : decode cX5_init 288 = .ok (.sipush 330, 3) := by decide +kernel
theorem dX5_init_291 : decode cX5_init 291 = .ok (.sipush 800, 3) := by decide +kernel
theorem dX5_init_294 : decode cX5_init 294 = .ok (.sipush 1250, 3) := by decide +kernel
theorem dX5_init_297 : decode cX5_init 297 = .ok (.invokevirtual 54, 3) := by decide +kernel
theorem dX5_init_300 : decode cX5_init 300 = .ok (.aload_n 0, 1) := by decide +kernel
theorem dX5_init_301 : decode cX5_init 301 = .ok (.iload_n 1, 1) := by decide +kernel
theorem dX5_init_302 : decode cX5_init 302 = .ok (.bipush 6, 2) := by decide +kernel
theorem dX5_init_304 : decode cX5_init 304 = .ok (.iconst 0, 1) := by decide +kernel
theorem dX5_init_305 : decode cX5_init 305 = .ok (.bipush 120, 2) := by decide +kernel
theorem dX5_init_307 : decode cX5_init 307 = .ok (.sipush 150, 3) := by decide +kernel
theorem dX5_init_310 : decode cX5_init 310 = .ok (.sipush 200, 3) := by decide +kernel
theorem dX5_init_313 : decode cX5_init 313 = .ok (.invokevirtual 54, 3) := by decide +kernel
theorem dX5_init_316 : decode cX5_init 316 = .ok (.aload_n 0, 1) := by decide +kernel
theorem dX5_init_317 : decode cX5_init 317 = .ok (.getfield 51, 3) := by decide +kernel
theorem dX5_init_320 : decode cX5_init 320 = .ok (.bipush 29, 2) := by decide +kernel
theorem dX5_init_322 : decode cX5_init 322 = .ok (.iload_n 1, 1) := by decide +kernel
theorem dX5_init_323 : decode cX5_init 323 = .ok (.imul, 1) := by decide +kernel
theorem dX5_init_324 : decode cX5_init 324 = .ok (.bipush 28, 2) := by decide +kernel
theorem dX5_init_326 : decode cX5_init 326 = .ok (.iadd, 1) := by decide +kernel
theorem dX5_init_327 : decode cX5_init 327 = .ok (.sipush 270, 3) := by decide +kernel
theorem dX5_init_330 : decode cX5_init 330 = .ok (.iastore, 1) := by decide +kernel
theorem dX5_init_331 : decode cX5_init 331 = .ok (.iinc 1 1, 3) := by decide +kernel
theorem dX5_init_334 : decode cX5_init 334 = .ok (.goto (-141), 3) := by decide +kernel
theorem dX5_init_337 : decode cX5_init 337 = .ok (.return_, 1) := by decide +kernel
theorem dX5_sets_0 : decode cX5_sets 0 = .ok (.aload_n 0, 1) := by decide +kernel
theorem dX5_sets_1 : decode cX5_sets 1 = .ok (.getfield 51, 3) := by decide +kernel
theorem dX5_sets_4 : decode cX5_sets 4 = .ok (.bipush 29, 2) := by decide +kernel
theorem dX5_sets_6 : decode cX5_sets 6 = .ok (.iload_n 1, 1) := by decide +kernel
theorem dX5_sets_7 : decode cX5_sets 7 = .ok (.imul, 1) := by decide +kernel
theorem dX5_sets_8 : decode cX5_sets 8 = .ok (.iconst 4, 1) := by decide +kernel
theorem dX5_sets_9 : decode cX5_sets 9 = .ok (.iload_n 2, 1) := by decide +kernel
theorem dX5_sets_10 : decode cX5_sets 10 = .ok (.imul, 1) := by decide +kernel
theorem dX5_sets_11 : decode cX5_sets 11 = .ok (.iadd, 1) := by decide +kernel
theorem dX5_sets_12 : decode cX5_sets 12 = .ok (.iload_n 3, 1) := by decide +kernel
theorem dX5_sets_13 : decode cX5_sets 13 = .ok (.iastore, 1) := by decide +kernel
theorem dX5_sets_14 : decode cX5_sets 14 = .ok (.aload_n 0, 1) := by decide +kernel
theorem dX5_sets_15 : decode cX5_sets 15 = .ok (.getfield 51, 3) := by decide +kernel
theorem dX5_sets_18 : decode cX5_sets 18 = .ok (.bipush 29, 2) := by decide +kernel
theorem dX5_sets_20 : decode cX5_sets 20 = .ok (.iload_n 1, 1) := by decide +kernel
theorem dX5_sets_21 : decode cX5_sets 21 = .ok (.imul, 1) := by decide +kernel
theorem dX5_sets_22 : decode cX5_sets 22 = .ok (.iconst 4, 1) := by decide +kernel
theorem dX5_sets_23 : decode cX5_sets 23 = .ok (.iload_n 2, 1) := by decide +kernel
theorem dX5_sets_24 : decode cX5_sets 24 = .ok (.imul, 1) := by decide +kernel
theorem dX5_sets_25 : decode cX5_sets 25 = .ok (.iadd, 1) := by decide +kernel
theorem dX5_sets_26 : decode cX5_sets 26 = .ok (.iconst 1, 1) := by decide +kernel
theorem dX5_sets_27 : decode cX5_sets 27 = .ok (.iadd, 1) := by decide +kernel
theorem dX5_sets_28 : decode cX5_sets 28 = .ok (.iload 4, 2) := by decide +kernel
theorem dX5_sets_30 : decode cX5_sets 30 = .ok (.iastore, 1) := by decide +kernel
theorem dX5_sets_31 : decode cX5_sets 31 = .ok (.aload_n 0, 1) := by decide +kernel
theorem dX5_sets_32 : decode cX5_sets 32 = .ok (.getfield 51, 3) := by decide +kernel
theorem dX5_sets_35 : decode cX5_sets 35 = .ok (.bipush 29, 2) := by decide +kernel
theorem dX5_sets_37 : decode cX5_sets 37 = .ok (.iload_n 1, 1) := by decide +kernel
theorem dX5_sets_38 : decode cX5_sets 38 = .ok (.imul, 1) := by decide +kernel
theorem dX5_sets_39 : decode cX5_sets 39 = .ok (.iconst 4, 1) := by decide +kernel
theorem dX5_sets_40 : decode cX5_sets 40 = .ok (.iload_n 2, 1) := by decide +kernel
theorem dX5_sets_41 : decode cX5_sets 41 = .ok (.imul, 1) := by decide +kernel
theorem dX5_sets_42 : decode cX5_sets 42 = .ok (.iadd, 1) := by decide +kernel
theorem dX5_sets_43 : decode cX5_sets 43 = .ok (.iconst 2, 1) := by decide +kernel
theorem dX5_sets_44 : decode cX5_sets 44 = .ok (.iadd, 1) := by decide +kernel
theorem dX5_sets_45 : decode cX5_sets 45 = .ok (.iload 5, 2) := by decide +kernel
theorem dX5_sets_47 : decode cX5_sets 47 = .ok (.iastore, 1) := by decide +kernel
theorem dX5_sets_48 : decode cX5_sets 48 = .ok (.aload_n 0, 1) := by decide +kernel
theorem dX5_sets_49 : decode cX5_sets 49 = .ok (.getfield 51, 3) := by decide +kernel
theorem dX5_sets_52 : decode cX5_sets 52 = .ok (.bipush 29, 2) := by decide +kernel
theorem dX5_sets_54 : decode cX5_sets 54 = .ok (.iload_n 1, 1) := by decide +kernel
theorem dX5_sets_55 : decode cX5_sets 55 = .ok (.imul, 1) := by decide +kernel
theorem dX5_sets_56 : decode cX5_sets 56 = .ok (.iconst 4, 1) := by decide +kernel
theorem dX5_sets_57 : decode cX5_sets 57 = .ok (.iload_n 2, 1) := by decide +kernel
theorem dX5_sets_58 : decode cX5_sets 58 = .ok (.imul, 1) := by decide +kernel
theorem dX5_sets_59 : decode cX5_sets 59 = .ok (.iadd, 1) := by decide +kernel
theorem dX5_sets_60 : decode cX5_sets 60 = .ok (.iconst 3, 1) := by decide +kernel
theorem dX5_sets_61 : decode cX5_sets 61 = .ok (.iadd, 1) := by decide +kernel
theorem dX5_sets_62 : decode cX5_sets 62 = .ok (.iload 6, 2) := by decide +kernel
theorem dX5_sets_64 : decode cX5_sets 64 = .ok (.iastore, 1) := by decide +kernel
theorem dX5_sets_65 : decode cX5_sets 65 = .ok (.return_, 1) := by decide +kernel
theorem dX5_thrown_0 : decode cX5_thrown 0 = .ok (.aload_n 0, 1) := by decide +kernel
theorem dX5_thrown_1 : decode cX5_thrown 1 = .ok (.getfield 58, 3) := by decide +kernel
theorem dX5_thrown_4 : decode cX5_thrown 4 = .ok (.ireturn, 1) := by decide +kernel
theorem dX5_in_0 : decode cX5_in 0 = .ok (.iload_n 0, 1) := by decide +kernel
theorem dX5_in_1 : decode cX5_in 1 = .ok (.iload_n 1, 1) := by decide +kernel
theorem dX5_in_2 : decode cX5_in 2 = .ok (.if_icmp .lt 12, 3) := by decide +kernel
theorem dX5_in_5 : decode cX5_in 5 = .ok (.iload_n 0, 1) := by decide +kernel
theorem dX5_in_6 : decode cX5_in 6 = .ok (.iload_n 2, 1) := by decide +kernel
theorem dX5_in_7 : decode cX5_in 7 = .ok (.if_icmp .gt 7, 3) := by decide +kernel
theorem dX5_in_10 : decode cX5_in 10 = .ok (.iconst 1, 1) := by decide +kernel
theorem dX5_in_11 : decode cX5_in 11 = .ok (.goto 4, 3) := by decide +kernel
theorem dX5_in_14 : decode cX5_in 14 = .ok (.iconst 0, 1) := by decide +kernel
theorem dX5_in_15 : decode cX5_in 15 = .ok (.ireturn, 1) := by decide +kernel
theorem dX5_isSkater_0 : decode cX5_isSkater 0 = .ok (.iload_n 1, 1) := by decide +kernel
theorem dX5_isSkater_1 : decode cX5_isSkater 1 = .ok (.iconst 0, 1) := by decide +kernel
theorem dX5_isSkater_2 : decode cX5_isSkater 2 = .ok (.aload_n 0, 1) := by decide +kernel
theorem dX5_isSkater_3 : decode cX5_isSkater 3 = .ok (.getfield 61, 3) := by decide +kernel
theorem dX5_isSkater_6 : decode cX5_isSkater 6 = .ok (.iconst 1, 1) := by decide +kernel
theorem dX5_isSkater_7 : decode cX5_isSkater 7 = .ok (.isub, 1) := by decide +kernel
theorem dX5_isSkater_8 : decode cX5_isSkater 8 = .ok (.invokestatic 64, 3) := by decide +kernel
theorem dX5_isSkater_11 : decode cX5_isSkater 11 = .ok (.ireturn, 1) := by decide +kernel
theorem dX5_isElement_0 : decode cX5_isElement 0 = .ok (.aload_n 0, 1) := by decide +kernel
theorem dX5_isElement_1 : decode cX5_isElement 1 = .ok (.iload_n 1, 1) := by decide +kernel
theorem dX5_isElement_2 : decode cX5_isElement 2 = .ok (.invokevirtual 68, 3) := by decide +kernel
theorem dX5_isElement_5 : decode cX5_isElement 5 = .ok (.ifCond .eq 23, 3) := by decide +kernel
theorem dX5_isElement_8 : decode cX5_isElement 8 = .ok (.iload_n 2, 1) := by decide +kernel
theorem dX5_isElement_9 : decode cX5_isElement 9 = .ok (.iconst 0, 1) := by decide +kernel
theorem dX5_isElement_10 : decode cX5_isElement 10 = .ok (.aload_n 0, 1) := by decide +kernel
theorem dX5_isElement_11 : decode cX5_isElement 11 = .ok (.getfield 20, 3) := by decide +kernel
theorem dX5_isElement_14 : decode cX5_isElement 14 = .ok (.iload_n 1, 1) := by decide +kernel
theorem dX5_isElement_15 : decode cX5_isElement 15 = .ok (.iaload, 1) := by decide +kernel
theorem dX5_isElement_16 : decode cX5_isElement 16 = .ok (.iconst 1, 1) := by decide +kernel
theorem dX5_isElement_17 : decode cX5_isElement 17 = .ok (.isub, 1) := by decide +kernel
theorem dX5_isElement_18 : decode cX5_isElement 18 = .ok (.invokestatic 64, 3) := by decide +kernel
theorem dX5_isElement_21 : decode cX5_isElement 21 = .ok (.ifCond .eq 7, 3) := by decide +kernel
theorem dX5_isElement_24 : decode cX5_isElement 24 = .ok (.iconst 1, 1) := by decide +kernel
theorem dX5_isElement_25 : decode cX5_isElement 25 = .ok (.goto 4, 3) := by decide +kernel
theorem dX5_isElement_28 : decode cX5_isElement 28 = .ok (.iconst 0, 1) := by decide +kernel
theorem dX5_isElement_29 : decode cX5_isElement 29 = .ok (.ireturn, 1) := by decide +kernel
theorem dX5_at_0 : decode cX5_at 0 = .ok (.bipush 12, 2) := by decide +kernel
theorem dX5_at_2 : decode cX5_at 2 = .ok (.iload_n 0, 1) := by decide +kernel
theorem dX5_at_3 : decode cX5_at 3 = .ok (.imul, 1) := by decide +kernel
theorem dX5_at_4 : decode cX5_at 4 = .ok (.iload_n 1, 1) := by decide +kernel
theorem dX5_at_5 : decode cX5_at 5 = .ok (.iadd, 1) := by decide +kernel
theorem dX5_at_6 : decode cX5_at 6 = .ok (.ireturn, 1) := by decide +kernel
theorem dX5_skater_0 : decode cX5_skater 0 = .ok (.aload_n 0, 1) := by decide +kernel
theorem dX5_skater_1 : decode cX5_skater 1 = .ok (.aload_n 0, 1) := by decide +kernel
theorem dX5_skater_2 : decode cX5_skater 2 = .ok (.getfield 61, 3) := by decide +kernel
theorem dX5_skater_5 : decode cX5_skater 5 = .ok (.bipush 12, 2) := by decide +kernel
theorem dX5_skater_7 : decode cX5_skater 7 = .ok (.if_icmp .ne 7, 3) := by decide +kernel
theorem dX5_skater_10 : decode cX5_skater 10 = .ok (.iconst 1, 1) := by decide +kernel
theorem dX5_skater_11 : decode cX5_skater 11 = .ok (.goto 4, 3) := by decide +kernel
theorem dX5_skater_14 : decode cX5_skater 14 = .ok (.iconst 0, 1) := by decide +kernel
theorem dX5_skater_15 : decode cX5_skater 15 = .ok (.putfield 58, 3) := by decide +kernel
theorem dX5_skater_18 : decode cX5_skater 18 = .ok (.aload_n 0, 1) := by decide +kernel
theorem dX5_skater_19 : decode cX5_skater 19 = .ok (.getfield 58, 3) := by decide +kernel
theorem dX5_skater_22 : decode cX5_skater 22 = .ok (.ifCond .le 5, 3) := by decide +kernel
theorem dX5_skater_25 : decode cX5_skater 25 = .ok (.iconst 0, 1) := by decide +kernel
theorem dX5_skater_26 : decode cX5_skater 26 = .ok (.ireturn, 1) := by decide +kernel
theorem dX5_skater_27 : decode cX5_skater 27 = .ok (.aload_n 0, 1) := by decide +kernel
theorem dX5_skater_28 : decode cX5_skater 28 = .ok (.dup, 1) := by decide +kernel
theorem dX5_skater_29 : decode cX5_skater 29 = .ok (.getfield 61, 3) := by decide +kernel
theorem dX5_skater_32 : decode cX5_skater 32 = .ok (.iconst 1, 1) := by decide +kernel
theorem dX5_skater_33 : decode cX5_skater 33 = .ok (.iadd, 1) := by decide +kernel
theorem dX5_skater_34 : decode cX5_skater 34 = .ok (.putfield 61, 3) := by decide +kernel
theorem dX5_skater_37 : decode cX5_skater 37 = .ok (.aload_n 0, 1) := by decide +kernel
theorem dX5_skater_38 : decode cX5_skater 38 = .ok (.getfield 61, 3) := by decide +kernel
theorem dX5_skater_41 : decode cX5_skater 41 = .ok (.iconst 1, 1) := by decide +kernel
theorem dX5_skater_42 : decode cX5_skater 42 = .ok (.isub, 1) := by decide +kernel
theorem dX5_skater_43 : decode cX5_skater 43 = .ok (.ireturn, 1) := by decide +kernel
theorem dX5_begin_0 : decode cX5_begin 0 = .ok (.aload_n 0, 1) := by decide +kernel
theorem dX5_begin_1 : decode cX5_begin 1 = .ok (.aload_n 0, 1) := by decide +kernel
theorem dX5_begin_2 : decode cX5_begin 2 = .ok (.iload_n 1, 1) := by decide +kernel
theorem dX5_begin_3 : decode cX5_begin 3 = .ok (.invokevirtual 68, 3) := by decide +kernel
theorem dX5_begin_6 : decode cX5_begin 6 = .ok (.ifCond .ne 7, 3) := by decide +kernel
theorem dX5_begin_9 : decode cX5_begin 9 = .ok (.iconst 1, 1) := by decide +kernel
theorem dX5_begin_10 : decode cX5_begin 10 = .ok (.goto 25, 3) := by decide +kernel
theorem dX5_begin_13 : decode cX5_begin 13 = .ok (.aload_n 0, 1) := by decide +kernel
theorem dX5_begin_14 : decode cX5_begin 14 = .ok (.getfield 13, 3) := by decide +kernel
theorem dX5_begin_17 : decode cX5_begin 17 = .ok (.iload_n 1, 1) := by decide +kernel
theorem dX5_begin_18 : decode cX5_begin 18 = .ok (.iaload, 1) := by decide +kernel
theorem dX5_begin_19 : decode cX5_begin 19 = .ok (.ifCond .gt 11, 3) := by decide +kernel
theorem dX5_begin_22 : decode cX5_begin 22 = .ok (.aload_n 0, 1) := by decide +kernel
theorem dX5_begin_23 : decode cX5_begin 23 = .ok (.getfield 9, 3) := by decide +kernel
theorem dX5_begin_26 : decode cX5_begin 26 = .ok (.iconst (-1), 1) := by decide +kernel
theorem dX5_begin_27 : decode cX5_begin 27 = .ok (.if_icmp .eq 7, 3) := by decide +kernel
theorem dX5_begin_30 : decode cX5_begin 30 = .ok (.iconst 2, 1) := by decide +kernel
theorem dX5_begin_31 : decode cX5_begin 31 = .ok (.goto 4, 3) := by decide +kernel
theorem dX5_begin_34 : decode cX5_begin 34 = .ok (.iconst 0, 1) := by decide +kernel
theorem dX5_begin_35 : decode cX5_begin 35 = .ok (.putfield 58, 3) := by decide +kernel
theorem dX5_begin_38 : decode cX5_begin 38 = .ok (.aload_n 0, 1) := by decide +kernel
theorem dX5_begin_39 : decode cX5_begin 39 = .ok (.getfield 58, 3) := by decide +kernel
theorem dX5_begin_42 : decode cX5_begin 42 = .ok (.ifCond .ne 22, 3) := by decide +kernel
theorem dX5_begin_45 : decode cX5_begin 45 = .ok (.aload_n 0, 1) := by decide +kernel
theorem dX5_begin_46 : decode cX5_begin 46 = .ok (.getfield 13, 3) := by decide +kernel
theorem dX5_begin_49 : decode cX5_begin 49 = .ok (.iload_n 1, 1) := by decide +kernel
theorem dX5_begin_50 : decode cX5_begin 50 = .ok (.iconst 1, 1) := by decide +kernel
theorem dX5_begin_51 : decode cX5_begin 51 = .ok (.iastore, 1) := by decide +kernel
theorem dX5_begin_52 : decode cX5_begin 52 = .ok (.aload_n 0, 1) := by decide +kernel
theorem dX5_begin_53 : decode cX5_begin 53 = .ok (.iload_n 1, 1) := by decide +kernel
theorem dX5_begin_54 : decode cX5_begin 54 = .ok (.putfield 9, 3) := by decide +kernel
theorem dX5_begin_57 : decode cX5_begin 57 = .ok (.aload_n 0, 1) := by decide +kernel
theorem dX5_begin_58 : decode cX5_begin 58 = .ok (.iconst 0, 1) := by decide +kernel
theorem dX5_begin_59 : decode cX5_begin 59 = .ok (.iconst 1, 1) := by decide +kernel
theorem dX5_begin_60 : decode cX5_begin 60 = .ok (.iconst 0, 1) := by decide +kernel
theorem dX5_begin_61 : decode cX5_begin 61 = .ok (.invokevirtual 72, 3) := by decide +kernel
theorem dX5_begin_64 : decode cX5_begin 64 = .ok (.return_, 1) := by decide +kernel
theorem dX5_stands_0 : decode cX5_stands 0 = .ok (.aload_n 0, 1) := by decide +kernel
theorem dX5_stands_1 : decode cX5_stands 1 = .ok (.iload_n 1, 1) := by decide +kernel
theorem dX5_stands_2 : decode cX5_stands 2 = .ok (.putfield 76, 3) := by decide +kernel
theorem dX5_stands_5 : decode cX5_stands 5 = .ok (.aload_n 0, 1) := by decide +kernel
theorem dX5_stands_6 : decode cX5_stands 6 = .ok (.iload_n 2, 1) := by decide +kernel
theorem dX5_stands_7 : decode cX5_stands 7 = .ok (.putfield 79, 3) := by decide +kernel
theorem dX5_stands_10 : decode cX5_stands 10 = .ok (.aload_n 0, 1) := by decide +kernel
theorem dX5_stands_11 : decode cX5_stands 11 = .ok (.iload_n 3, 1) := by decide +kernel
theorem dX5_stands_12 : decode cX5_stands 12 = .ok (.putfield 82, 3) := by decide +kernel
theorem dX5_stands_15 : decode cX5_stands 15 = .ok (.return_, 1) := by decide +kernel
theorem dX5_isOpen_0 : decode cX5_isOpen 0 = .ok (.aload_n 0, 1) := by decide +kernel
theorem dX5_isOpen_1 : decode cX5_isOpen 1 = .ok (.getfield 9, 3) := by decide +kernel
theorem dX5_isOpen_4 : decode cX5_isOpen 4 = .ok (.iconst (-1), 1) := by decide +kernel
theorem dX5_isOpen_5 : decode cX5_isOpen 5 = .ok (.if_icmp .eq 22, 3) := by decide +kernel
theorem dX5_isOpen_8 : decode cX5_isOpen 8 = .ok (.aload_n 0, 1) := by decide +kernel
theorem dX5_isOpen_9 : decode cX5_isOpen 9 = .ok (.getfield 17, 3) := by decide +kernel
theorem dX5_isOpen_12 : decode cX5_isOpen 12 = .ok (.aload_n 0, 1) := by decide +kernel
theorem dX5_isOpen_13 : decode cX5_isOpen 13 = .ok (.getfield 9, 3) := by decide +kernel
theorem dX5_isOpen_16 : decode cX5_isOpen 16 = .ok (.iaload, 1) := by decide +kernel
theorem dX5_isOpen_17 : decode cX5_isOpen 17 = .ok (.sipush 240, 3) := by decide +kernel
theorem dX5_isOpen_20 : decode cX5_isOpen 20 = .ok (.if_icmp .ge 7, 3) := by decide +kernel
theorem dX5_isOpen_23 : decode cX5_isOpen 23 = .ok (.iconst 1, 1) := by decide +kernel
theorem dX5_isOpen_24 : decode cX5_isOpen 24 = .ok (.goto 4, 3) := by decide +kernel
theorem dX5_isOpen_27 : decode cX5_isOpen 27 = .ok (.iconst 0, 1) := by decide +kernel
theorem dX5_isOpen_28 : decode cX5_isOpen 28 = .ok (.ireturn, 1) := by decide +kernel
theorem dX5_turn_0 : decode cX5_turn 0 = .ok (.aload_n 0, 1) := by decide +kernel
theorem dX5_turn_1 : decode cX5_turn 1 = .ok (.iload_n 1, 1) := by decide +kernel
theorem dX5_turn_2 : decode cX5_turn 2 = .ok (.iconst 0, 1) := by decide +kernel
theorem dX5_turn_3 : decode cX5_turn 3 = .ok (.iconst 5, 1) := by decide +kernel
theorem dX5_turn_4 : decode cX5_turn 4 = .ok (.invokestatic 64, 3) := by decide +kernel
theorem dX5_turn_7 : decode cX5_turn 7 = .ok (.ifCond .ne 7, 3) := by decide +kernel
theorem dX5_turn_10 : decode cX5_turn 10 = .ok (.iconst 1, 1) := by decide +kernel
theorem dX5_turn_11 : decode cX5_turn 11 = .ok (.goto 15, 3) := by decide +kernel
theorem dX5_turn_14 : decode cX5_turn 14 = .ok (.aload_n 0, 1) := by decide +kernel
theorem dX5_turn_15 : decode cX5_turn 15 = .ok (.invokevirtual 85, 3) := by decide +kernel
theorem dX5_turn_18 : decode cX5_turn 18 = .ok (.ifCond .eq 7, 3) := by decide +kernel
theorem dX5_turn_21 : decode cX5_turn 21 = .ok (.iconst 0, 1) := by decide +kernel
theorem dX5_turn_22 : decode cX5_turn 22 = .ok (.goto 4, 3) := by decide +kernel
theorem dX5_turn_25 : decode cX5_turn 25 = .ok (.iconst 2, 1) := by decide +kernel
theorem dX5_turn_26 : decode cX5_turn 26 = .ok (.putfield 58, 3) := by decide +kernel
theorem dX5_turn_29 : decode cX5_turn 29 = .ok (.aload_n 0, 1) := by decide +kernel
theorem dX5_turn_30 : decode cX5_turn 30 = .ok (.getfield 58, 3) := by decide +kernel
theorem dX5_turn_33 : decode cX5_turn 33 = .ok (.ifCond .le 5, 3) := by decide +kernel
theorem dX5_turn_36 : decode cX5_turn 36 = .ok (.iconst 0, 1) := by decide +kernel
theorem dX5_turn_37 : decode cX5_turn 37 = .ok (.ireturn, 1) := by decide +kernel
theorem dX5_turn_38 : decode cX5_turn 38 = .ok (.iload_n 1, 1) := by decide +kernel
theorem dX5_turn_39 : decode cX5_turn 39 = .ok (.iconst 2, 1) := by decide +kernel
theorem dX5_turn_40 : decode cX5_turn 40 = .ok (.if_icmp .eq 13, 3) := by decide +kernel
theorem dX5_turn_43 : decode cX5_turn 43 = .ok (.iload_n 1, 1) := by decide +kernel
theorem dX5_turn_44 : decode cX5_turn 44 = .ok (.iconst 3, 1) := by decide +kernel
theorem dX5_turn_45 : decode cX5_turn 45 = .ok (.if_icmp .eq 8, 3) := by decide +kernel
theorem dX5_turn_48 : decode cX5_turn 48 = .ok (.iload_n 1, 1) := by decide +kernel
theorem dX5_turn_49 : decode cX5_turn 49 = .ok (.iconst 5, 1) := by decide +kernel
theorem dX5_turn_50 : decode cX5_turn 50 = .ok (.if_icmp .ne 7, 3) := by decide +kernel
theorem dX5_turn_53 : decode cX5_turn 53 = .ok (.iconst 1, 1) := by decide +kernel
theorem dX5_turn_54 : decode cX5_turn 54 = .ok (.goto 4, 3) := by decide +kernel
theorem dX5_turn_57 : decode cX5_turn 57 = .ok (.iconst 0, 1) := by decide +kernel
theorem dX5_turn_58 : decode cX5_turn 58 = .ok (.istore_n 2, 1) := by decide +kernel
theorem dX5_turn_59 : decode cX5_turn 59 = .ok (.iload_n 1, 1) := by decide +kernel
theorem dX5_turn_60 : decode cX5_turn 60 = .ok (.ifCond .eq 13, 3) := by decide +kernel
theorem dX5_turn_63 : decode cX5_turn 63 = .ok (.iload_n 1, 1) := by decide +kernel
theorem dX5_turn_64 : decode cX5_turn 64 = .ok (.iconst 3, 1) := by decide +kernel
theorem dX5_turn_65 : decode cX5_turn 65 = .ok (.if_icmp .eq 8, 3) := by decide +kernel
theorem dX5_turn_68 : decode cX5_turn 68 = .ok (.iload_n 1, 1) := by decide +kernel
theorem dX5_turn_69 : decode cX5_turn 69 = .ok (.iconst 4, 1) := by decide +kernel
theorem dX5_turn_70 : decode cX5_turn 70 = .ok (.if_icmp .ne 7, 3) := by decide +kernel
theorem dX5_turn_73 : decode cX5_turn 73 = .ok (.iconst 1, 1) := by decide +kernel
theorem dX5_turn_74 : decode cX5_turn 74 = .ok (.goto 4, 3) := by decide +kernel
theorem dX5_turn_77 : decode cX5_turn 77 = .ok (.iconst 0, 1) := by decide +kernel
theorem dX5_turn_78 : decode cX5_turn 78 = .ok (.istore_n 3, 1) := by decide +kernel
theorem dX5_turn_79 : decode cX5_turn 79 = .ok (.iload_n 1, 1) := by decide +kernel
theorem dX5_turn_80 : decode cX5_turn 80 = .ok (.iconst 4, 1) := by decide +kernel
theorem dX5_turn_81 : decode cX5_turn 81 = .ok (.if_icmp .ge 7, 3) := by decide +kernel
theorem dX5_turn_84 : decode cX5_turn 84 = .ok (.iconst 1, 1) := by decide +kernel
theorem dX5_turn_85 : decode cX5_turn 85 = .ok (.goto 4, 3) := by decide +kernel
theorem dX5_turn_88 : decode cX5_turn 88 = .ok (.iconst 0, 1) := by decide +kernel
theorem dX5_turn_89 : decode cX5_turn 89 = .ok (.istore 4, 2) := by decide +kernel
theorem dX5_turn_91 : decode cX5_turn 91 = .ok (.aload_n 0, 1) := by decide +kernel
theorem dX5_turn_92 : decode cX5_turn 92 = .ok (.iload_n 2, 1) := by decide +kernel
theorem dX5_turn_93 : decode cX5_turn 93 = .ok (.ifCond .eq 12, 3) := by decide +kernel
theorem dX5_turn_96 : decode cX5_turn 96 = .ok (.iconst 1, 1) := by decide +kernel
theorem dX5_turn_97 : decode cX5_turn 97 = .ok (.aload_n 0, 1) := by decide +kernel
theorem dX5_turn_98 : decode cX5_turn 98 = .ok (.getfield 76, 3) := by decide +kernel
theorem dX5_turn_101 : decode cX5_turn 101 = .ok (.isub, 1) := by decide +kernel
theorem dX5_turn_102 : decode cX5_turn 102 = .ok (.goto 7, 3) := by decide +kernel
theorem dX5_turn_105 : decode cX5_turn 105 = .ok (.aload_n 0, 1) := by decide +kernel
theorem dX5_turn_106 : decode cX5_turn 106 = .ok (.getfield 76, 3) := by decide +kernel
theorem dX5_turn_109 : decode cX5_turn 109 = .ok (.iload_n 3, 1) := by decide +kernel
theorem dX5_turn_110 : decode cX5_turn 110 = .ok (.ifCond .eq 12, 3) := by decide +kernel
theorem dX5_turn_113 : decode cX5_turn 113 = .ok (.iconst 1, 1) := by decide +kernel
theorem dX5_turn_114 : decode cX5_turn 114 = .ok (.aload_n 0, 1) := by decide +kernel
theorem dX5_turn_115 : decode cX5_turn 115 = .ok (.getfield 79, 3) := by decide +kernel
theorem dX5_turn_118 : decode cX5_turn 118 = .ok (.isub, 1) := by decide +kernel
theorem dX5_turn_119 : decode cX5_turn 119 = .ok (.goto 7, 3) := by decide +kernel
theorem dX5_turn_122 : decode cX5_turn 122 = .ok (.aload_n 0, 1) := by decide +kernel
theorem dX5_turn_123 : decode cX5_turn 123 = .ok (.getfield 79, 3) := by decide +kernel
theorem dX5_turn_126 : decode cX5_turn 126 = .ok (.iload 4, 2) := by decide +kernel
theorem dX5_turn_128 : decode cX5_turn 128 = .ok (.ifCond .eq 12, 3) := by decide +kernel
theorem dX5_turn_131 : decode cX5_turn 131 = .ok (.iconst 1, 1) := by decide +kernel
theorem dX5_turn_132 : decode cX5_turn 132 = .ok (.aload_n 0, 1) := by decide +kernel
theorem dX5_turn_133 : decode cX5_turn 133 = .ok (.getfield 82, 3) := by decide +kernel
theorem dX5_turn_136 : decode cX5_turn 136 = .ok (.isub, 1) := by decide +kernel
theorem dX5_turn_137 : decode cX5_turn 137 = .ok (.goto 7, 3) := by decide +kernel
theorem dX5_turn_140 : decode cX5_turn 140 = .ok (.aload_n 0, 1) := by decide +kernel
theorem dX5_turn_141 : decode cX5_turn 141 = .ok (.getfield 82, 3) := by decide +kernel
theorem dX5_turn_144 : decode cX5_turn 144 = .ok (.invokevirtual 72, 3) := by decide +kernel
theorem dX5_turn_147 : decode cX5_turn 147 = .ok (.aload_n 0, 1) := by decide +kernel
theorem dX5_turn_148 : decode cX5_turn 148 = .ok (.getfield 17, 3) := by decide +kernel
theorem dX5_turn_151 : decode cX5_turn 151 = .ok (.aload_n 0, 1) := by decide +kernel
theorem dX5_turn_152 : decode cX5_turn 152 = .ok (.getfield 9, 3) := by decide +kernel
theorem dX5_turn_155 : decode cX5_turn 155 = .ok (.dup2, 1) := by decide +kernel
theorem dX5_turn_156 : decode cX5_turn 156 = .ok (.iaload, 1) := by decide +kernel
theorem dX5_turn_157 : decode cX5_turn 157 = .ok (.iconst 2, 1) := by decide +kernel
theorem dX5_turn_158 : decode cX5_turn 158 = .ok (.iadd, 1) := by decide +kernel
theorem dX5_turn_159 : decode cX5_turn 159 = .ok (.iastore, 1) := by decide +kernel
theorem dX5_turn_160 : decode cX5_turn 160 = .ok (.iconst 4, 1) := by decide +kernel
theorem dX5_turn_161 : decode cX5_turn 161 = .ok (.aload_n 0, 1) := by decide +kernel
theorem dX5_turn_162 : decode cX5_turn 162 = .ok (.getfield 76, 3) := by decide +kernel
theorem dX5_turn_165 : decode cX5_turn 165 = .ok (.imul, 1) := by decide +kernel
theorem dX5_turn_166 : decode cX5_turn 166 = .ok (.iconst 2, 1) := by decide +kernel
theorem dX5_turn_167 : decode cX5_turn 167 = .ok (.aload_n 0, 1) := by decide +kernel
theorem dX5_turn_168 : decode cX5_turn 168 = .ok (.getfield 79, 3) := by decide +kernel
theorem dX5_turn_171 : decode cX5_turn 171 = .ok (.imul, 1) := by decide +kernel
theorem dX5_turn_172 : decode cX5_turn 172 = .ok (.iadd, 1) := by decide +kernel
theorem dX5_turn_173 : decode cX5_turn 173 = .ok (.aload_n 0, 1) := by decide +kernel
theorem dX5_turn_174 : decode cX5_turn 174 = .ok (.getfield 82, 3) := by decide +kernel
theorem dX5_turn_177 : decode cX5_turn 177 = .ok (.iadd, 1) := by decide +kernel
theorem dX5_turn_178 : decode cX5_turn 178 = .ok (.ireturn, 1) := by decide +kernel
theorem dX5_canTakeOff_0 : decode cX5_canTakeOff 0 = .ok (.iload_n 1, 1) := by decide +kernel
theorem dX5_canTakeOff_1 : decode cX5_canTakeOff 1 = .ok (.ifCond .eq 8, 3) := by decide +kernel
theorem dX5_canTakeOff_4 : decode cX5_canTakeOff 4 = .ok (.iload_n 1, 1) := by decide +kernel
theorem dX5_canTakeOff_5 : decode cX5_canTakeOff 5 = .ok (.iconst 2, 1) := by decide +kernel
theorem dX5_canTakeOff_6 : decode cX5_canTakeOff 6 = .ok (.if_icmp .ne 33, 3) := by decide +kernel
theorem dX5_canTakeOff_9 : decode cX5_canTakeOff 9 = .ok (.aload_n 0, 1) := by decide +kernel
theorem dX5_canTakeOff_10 : decode cX5_canTakeOff 10 = .ok (.getfield 76, 3) := by decide +kernel
theorem dX5_canTakeOff_13 : decode cX5_canTakeOff 13 = .ok (.iconst 1, 1) := by decide +kernel
theorem dX5_canTakeOff_14 : decode cX5_canTakeOff 14 = .ok (.if_icmp .ne 23, 3) := by decide +kernel
theorem dX5_canTakeOff_17 : decode cX5_canTakeOff 17 = .ok (.aload_n 0, 1) := by decide +kernel
theorem dX5_canTakeOff_18 : decode cX5_canTakeOff 18 = .ok (.getfield 79, 3) := by decide +kernel
theorem dX5_canTakeOff_21 : decode cX5_canTakeOff 21 = .ok (.iconst 1, 1) := by decide +kernel
theorem dX5_canTakeOff_22 : decode cX5_canTakeOff 22 = .ok (.if_icmp .ne 15, 3) := by decide +kernel
theorem dX5_canTakeOff_25 : decode cX5_canTakeOff 25 = .ok (.aload_n 0, 1) := by decide +kernel
theorem dX5_canTakeOff_26 : decode cX5_canTakeOff 26 = .ok (.getfield 82, 3) := by decide +kernel
theorem dX5_canTakeOff_29 : decode cX5_canTakeOff 29 = .ok (.iconst 1, 1) := by decide +kernel
theorem dX5_canTakeOff_30 : decode cX5_canTakeOff 30 = .ok (.if_icmp .ne 7, 3) := by decide +kernel
theorem dX5_canTakeOff_33 : decode cX5_canTakeOff 33 = .ok (.iconst 1, 1) := by decide +kernel
theorem dX5_canTakeOff_34 : decode cX5_canTakeOff 34 = .ok (.goto 4, 3) := by decide +kernel
theorem dX5_canTakeOff_37 : decode cX5_canTakeOff 37 = .ok (.iconst 0, 1) := by decide +kernel
theorem dX5_canTakeOff_38 : decode cX5_canTakeOff 38 = .ok (.ireturn, 1) := by decide +kernel
theorem dX5_canTakeOff_39 : decode cX5_canTakeOff 39 = .ok (.iload_n 1, 1) := by decide +kernel
theorem dX5_canTakeOff_40 : decode cX5_canTakeOff 40 = .ok (.iconst 3, 1) := by decide +kernel
theorem dX5_canTakeOff_41 : decode cX5_canTakeOff 41 = .ok (.if_icmp .eq 8, 3) := by decide +kernel
theorem dX5_canTakeOff_44 : decode cX5_canTakeOff 44 = .ok (.iload_n 1, 1) := by decide +kernel
theorem dX5_canTakeOff_45 : decode cX5_canTakeOff 45 = .ok (.iconst 4, 1) := by decide +kernel
theorem dX5_canTakeOff_46 : decode cX5_canTakeOff 46 = .ok (.if_icmp .ne 25, 3) := by decide +kernel
theorem dX5_canTakeOff_49 : decode cX5_canTakeOff 49 = .ok (.aload_n 0, 1) := by decide +kernel
theorem dX5_canTakeOff_50 : decode cX5_canTakeOff 50 = .ok (.getfield 76, 3) := by decide +kernel
theorem dX5_canTakeOff_53 : decode cX5_canTakeOff 53 = .ok (.iconst 1, 1) := by decide +kernel
theorem dX5_canTakeOff_54 : decode cX5_canTakeOff 54 = .ok (.if_icmp .eq 15, 3) := by decide +kernel
theorem dX5_canTakeOff_57 : decode cX5_canTakeOff 57 = .ok (.aload_n 0, 1) := by decide +kernel
theorem dX5_canTakeOff_58 : decode cX5_canTakeOff 58 = .ok (.getfield 82, 3) := by decide +kernel
theorem dX5_canTakeOff_61 : decode cX5_canTakeOff 61 = .ok (.iconst 1, 1) := by decide +kernel
theorem dX5_canTakeOff_62 : decode cX5_canTakeOff 62 = .ok (.if_icmp .ne 7, 3) := by decide +kernel
theorem dX5_canTakeOff_65 : decode cX5_canTakeOff 65 = .ok (.iconst 1, 1) := by decide +kernel
theorem dX5_canTakeOff_66 : decode cX5_canTakeOff 66 = .ok (.goto 4, 3) := by decide +kernel
theorem dX5_canTakeOff_69 : decode cX5_canTakeOff 69 = .ok (.iconst 0, 1) := by decide +kernel
theorem dX5_canTakeOff_70 : decode cX5_canTakeOff 70 = .ok (.ireturn, 1) := by decide +kernel
theorem dX5_canTakeOff_71 : decode cX5_canTakeOff 71 = .ok (.aload_n 0, 1) := by decide +kernel
theorem dX5_canTakeOff_72 : decode cX5_canTakeOff 72 = .ok (.getfield 76, 3) := by decide +kernel
theorem dX5_canTakeOff_75 : decode cX5_canTakeOff 75 = .ok (.iconst 1, 1) := by decide +kernel
theorem dX5_canTakeOff_76 : decode cX5_canTakeOff 76 = .ok (.if_icmp .eq 47, 3) := by decide +kernel
theorem dX5_canTakeOff_79 : decode cX5_canTakeOff 79 = .ok (.iload_n 1, 1) := by decide +kernel
theorem dX5_canTakeOff_80 : decode cX5_canTakeOff 80 = .ok (.iconst 5, 1) := by decide +kernel
theorem dX5_canTakeOff_81 : decode cX5_canTakeOff 81 = .ok (.if_icmp .ne 22, 3) := by decide +kernel
theorem dX5_canTakeOff_84 : decode cX5_canTakeOff 84 = .ok (.aload_n 0, 1) := by decide +kernel
theorem dX5_canTakeOff_85 : decode cX5_canTakeOff 85 = .ok (.getfield 79, 3) := by decide +kernel
theorem dX5_canTakeOff_88 : decode cX5_canTakeOff 88 = .ok (.iconst 1, 1) := by decide +kernel
theorem dX5_canTakeOff_89 : decode cX5_canTakeOff 89 = .ok (.if_icmp .ne 34, 3) := by decide +kernel
theorem dX5_canTakeOff_92 : decode cX5_canTakeOff 92 = .ok (.aload_n 0, 1) := by decide +kernel
theorem dX5_canTakeOff_93 : decode cX5_canTakeOff 93 = .ok (.getfield 82, 3) := by decide +kernel
theorem dX5_canTakeOff_96 : decode cX5_canTakeOff 96 = .ok (.iconst 1, 1) := by decide +kernel
theorem dX5_canTakeOff_97 : decode cX5_canTakeOff 97 = .ok (.if_icmp .eq 26, 3) := by decide +kernel
theorem dX5_canTakeOff_100 : decode cX5_canTakeOff 100 = .ok (.goto 19, 3) := by decide +kernel
theorem dX5_canTakeOff_103 : decode cX5_canTakeOff 103 = .ok (.aload_n 0, 1) := by decide +kernel
theorem dX5_canTakeOff_104 : decode cX5_canTakeOff 104 = .ok (.getfield 79, 3) := by decide +kernel
theorem dX5_canTakeOff_107 : decode cX5_canTakeOff 107 = .ok (.iconst 1, 1) := by decide +kernel
theorem dX5_canTakeOff_108 : decode cX5_canTakeOff 108 = .ok (.if_icmp .eq 15, 3) := by decide +kernel
theorem dX5_canTakeOff_111 : decode cX5_canTakeOff 111 = .ok (.aload_n 0, 1) := by decide +kernel
theorem dX5_canTakeOff_112 : decode cX5_canTakeOff 112 = .ok (.getfield 82, 3) := by decide +kernel
theorem dX5_canTakeOff_115 : decode cX5_canTakeOff 115 = .ok (.iconst 1, 1) := by decide +kernel
theorem dX5_canTakeOff_116 : decode cX5_canTakeOff 116 = .ok (.if_icmp .ne 7, 3) := by decide +kernel
theorem dX5_canTakeOff_119 : decode cX5_canTakeOff 119 = .ok (.iconst 1, 1) := by decide +kernel
theorem dX5_canTakeOff_120 : decode cX5_canTakeOff 120 = .ok (.goto 4, 3) := by decide +kernel
theorem dX5_canTakeOff_123 : decode cX5_canTakeOff 123 = .ok (.iconst 0, 1) := by decide +kernel
theorem dX5_canTakeOff_124 : decode cX5_canTakeOff 124 = .ok (.ireturn, 1) := by decide +kernel
theorem dX5_jump_0 : decode cX5_jump 0 = .ok (.aload_n 0, 1) := by decide +kernel
theorem dX5_jump_1 : decode cX5_jump 1 = .ok (.iload_n 1, 1) := by decide +kernel
theorem dX5_jump_2 : decode cX5_jump 2 = .ok (.iconst 0, 1) := by decide +kernel
theorem dX5_jump_3 : decode cX5_jump 3 = .ok (.iconst 5, 1) := by decide +kernel
theorem dX5_jump_4 : decode cX5_jump 4 = .ok (.invokestatic 64, 3) := by decide +kernel
theorem dX5_jump_7 : decode cX5_jump 7 = .ok (.ifCond .eq 12, 3) := by decide +kernel
theorem dX5_jump_10 : decode cX5_jump 10 = .ok (.iload_n 2, 1) := by decide +kernel
theorem dX5_jump_11 : decode cX5_jump 11 = .ok (.iconst 1, 1) := by decide +kernel
theorem dX5_jump_12 : decode cX5_jump 12 = .ok (.iconst 4, 1) := by decide +kernel
theorem dX5_jump_13 : decode cX5_jump 13 = .ok (.invokestatic 64, 3) := by decide +kernel
theorem dX5_jump_16 : decode cX5_jump 16 = .ok (.ifCond .ne 7, 3) := by decide +kernel
theorem dX5_jump_19 : decode cX5_jump 19 = .ok (.iconst 1, 1) := by decide +kernel
theorem dX5_jump_20 : decode cX5_jump 20 = .ok (.goto 4, 3) := by decide +kernel
theorem dX5_jump_23 : decode cX5_jump 23 = .ok (.iconst 0, 1) := by decide +kernel
theorem dX5_jump_24 : decode cX5_jump 24 = .ok (.putfield 58, 3) := by decide +kernel
theorem dX5_jump_27 : decode cX5_jump 27 = .ok (.aload_n 0, 1) := by decide +kernel
theorem dX5_jump_28 : decode cX5_jump 28 = .ok (.getfield 58, 3) := by decide +kernel
theorem dX5_jump_31 : decode cX5_jump 31 = .ok (.ifCond .ne 41, 3) := by decide +kernel
theorem dX5_jump_34 : decode cX5_jump 34 = .ok (.aload_n 0, 1) := by decide +kernel
theorem dX5_jump_35 : decode cX5_jump 35 = .ok (.aload_n 0, 1) := by decide +kernel
theorem dX5_jump_36 : decode cX5_jump 36 = .ok (.invokevirtual 85, 3) := by decide +kernel
theorem dX5_jump_39 : decode cX5_jump 39 = .ok (.ifCond .eq 29, 3) := by decide +kernel
theorem dX5_jump_42 : decode cX5_jump 42 = .ok (.aload_n 0, 1) := by decide +kernel
theorem dX5_jump_43 : decode cX5_jump 43 = .ok (.getfield 20, 3) := by decide +kernel
theorem dX5_jump_46 : decode cX5_jump 46 = .ok (.aload_n 0, 1) := by decide +kernel
theorem dX5_jump_47 : decode cX5_jump 47 = .ok (.getfield 9, 3) := by decide +kernel
theorem dX5_jump_50 : decode cX5_jump 50 = .ok (.iaload, 1) := by decide +kernel
theorem dX5_jump_51 : decode cX5_jump 51 = .ok (.bipush 12, 2) := by decide +kernel
theorem dX5_jump_53 : decode cX5_jump 53 = .ok (.if_icmp .ge 15, 3) := by decide +kernel
theorem dX5_jump_56 : decode cX5_jump 56 = .ok (.aload_n 0, 1) := by decide +kernel
theorem dX5_jump_57 : decode cX5_jump 57 = .ok (.iload_n 1, 1) := by decide +kernel
theorem dX5_jump_58 : decode cX5_jump 58 = .ok (.invokevirtual 89, 3) := by decide +kernel
theorem dX5_jump_61 : decode cX5_jump 61 = .ok (.ifCond .eq 7, 3) := by decide +kernel
theorem dX5_jump_64 : decode cX5_jump 64 = .ok (.iconst 0, 1) := by decide +kernel
theorem dX5_jump_65 : decode cX5_jump 65 = .ok (.goto 4, 3) := by decide +kernel
theorem dX5_jump_68 : decode cX5_jump 68 = .ok (.iconst 2, 1) := by decide +kernel
theorem dX5_jump_69 : decode cX5_jump 69 = .ok (.putfield 58, 3) := by decide +kernel
theorem dX5_jump_72 : decode cX5_jump 72 = .ok (.aload_n 0, 1) := by decide +kernel
theorem dX5_jump_73 : decode cX5_jump 73 = .ok (.getfield 58, 3) := by decide +kernel
theorem dX5_jump_76 : decode cX5_jump 76 = .ok (.ifCond .le 5, 3) := by decide +kernel
theorem dX5_jump_79 : decode cX5_jump 79 = .ok (.iconst 0, 1) := by decide +kernel
theorem dX5_jump_80 : decode cX5_jump 80 = .ok (.ireturn, 1) := by decide +kernel
theorem dX5_jump_81 : decode cX5_jump 81 = .ok (.aload_n 0, 1) := by decide +kernel
theorem dX5_jump_82 : decode cX5_jump 82 = .ok (.getfield 9, 3) := by decide +kernel
theorem dX5_jump_85 : decode cX5_jump 85 = .ok (.aload_n 0, 1) := by decide +kernel
theorem dX5_jump_86 : decode cX5_jump 86 = .ok (.getfield 20, 3) := by decide +kernel
theorem dX5_jump_89 : decode cX5_jump 89 = .ok (.aload_n 0, 1) := by decide +kernel
theorem dX5_jump_90 : decode cX5_jump 90 = .ok (.getfield 9, 3) := by decide +kernel
theorem dX5_jump_93 : decode cX5_jump 93 = .ok (.iaload, 1) := by decide +kernel
theorem dX5_jump_94 : decode cX5_jump 94 = .ok (.invokestatic 92, 3) := by decide +kernel
theorem dX5_jump_97 : decode cX5_jump 97 = .ok (.istore 4, 2) := by decide +kernel
theorem dX5_jump_99 : decode cX5_jump 99 = .ok (.aload_n 0, 1) := by decide +kernel
theorem dX5_jump_100 : decode cX5_jump 100 = .ok (.getfield 23, 3) := by decide +kernel
theorem dX5_jump_103 : decode cX5_jump 103 = .ok (.iload 4, 2) := by decide +kernel
theorem dX5_jump_105 : decode cX5_jump 105 = .ok (.iload_n 1, 1) := by decide +kernel
theorem dX5_jump_106 : decode cX5_jump 106 = .ok (.iastore, 1) := by decide +kernel
theorem dX5_jump_107 : decode cX5_jump 107 = .ok (.aload_n 0, 1) := by decide +kernel
theorem dX5_jump_108 : decode cX5_jump 108 = .ok (.getfield 26, 3) := by decide +kernel
theorem dX5_jump_111 : decode cX5_jump 111 = .ok (.iload 4, 2) := by decide +kernel
theorem dX5_jump_113 : decode cX5_jump 113 = .ok (.iload_n 2, 1) := by decide +kernel
theorem dX5_jump_114 : decode cX5_jump 114 = .ok (.iastore, 1) := by decide +kernel
theorem dX5_jump_115 : decode cX5_jump 115 = .ok (.aload_n 0, 1) := by decide +kernel
theorem dX5_jump_116 : decode cX5_jump 116 = .ok (.getfield 35, 3) := by decide +kernel
theorem dX5_jump_119 : decode cX5_jump 119 = .ok (.iload 4, 2) := by decide +kernel
theorem dX5_jump_121 : decode cX5_jump 121 = .ok (.iload_n 1, 1) := by decide +kernel
theorem dX5_jump_122 : decode cX5_jump 122 = .ok (.iconst 3, 1) := by decide +kernel
theorem dX5_jump_123 : decode cX5_jump 123 = .ok (.if_icmp .ne 11, 3) := by decide +kernel
theorem dX5_jump_126 : decode cX5_jump 126 = .ok (.aload_n 0, 1) := by decide +kernel
theorem dX5_jump_127 : decode cX5_jump 127 = .ok (.getfield 79, 3) := by decide +kernel
theorem dX5_jump_130 : decode cX5_jump 130 = .ok (.iconst 1, 1) := by decide +kernel
theorem dX5_jump_131 : decode cX5_jump 131 = .ok (.if_icmp .eq 16, 3) := by decide +kernel
theorem dX5_jump_134 : decode cX5_jump 134 = .ok (.iload_n 1, 1) := by decide +kernel
theorem dX5_jump_135 : decode cX5_jump 135 = .ok (.iconst 4, 1) := by decide +kernel
theorem dX5_jump_136 : decode cX5_jump 136 = .ok (.if_icmp .ne 15, 3) := by decide +kernel
theorem dX5_jump_139 : decode cX5_jump 139 = .ok (.aload_n 0, 1) := by decide +kernel
theorem dX5_jump_140 : decode cX5_jump 140 = .ok (.getfield 79, 3) := by decide +kernel
theorem dX5_jump_143 : decode cX5_jump 143 = .ok (.iconst 1, 1) := by decide +kernel
theorem dX5_jump_144 : decode cX5_jump 144 = .ok (.if_icmp .eq 7, 3) := by decide +kernel
theorem dX5_jump_147 : decode cX5_jump 147 = .ok (.iconst 1, 1) := by decide +kernel
theorem dX5_jump_148 : decode cX5_jump 148 = .ok (.goto 4, 3) := by decide +kernel
theorem dX5_jump_151 : decode cX5_jump 151 = .ok (.iconst 0, 1) := by decide +kernel
theorem dX5_jump_152 : decode cX5_jump 152 = .ok (.bastore, 1) := by decide +kernel
theorem dX5_jump_153 : decode cX5_jump 153 = .ok (.aload_n 0, 1) := by decide +kernel
theorem dX5_jump_154 : decode cX5_jump 154 = .ok (.getfield 39, 3) := by decide +kernel
theorem dX5_jump_157 : decode cX5_jump 157 = .ok (.iload 4, 2) := by decide +kernel
theorem dX5_jump_159 : decode cX5_jump 159 = .ok (.aload_n 0, 1) := by decide +kernel
theorem dX5_jump_160 : decode cX5_jump 160 = .ok (.getfield 17, 3) := by decide +kernel
theorem dX5_jump_163 : decode cX5_jump 163 = .ok (.aload_n 0, 1) := by decide +kernel
theorem dX5_jump_164 : decode cX5_jump 164 = .ok (.getfield 9, 3) := by decide +kernel
theorem dX5_jump_167 : decode cX5_jump 167 = .ok (.iaload, 1) := by decide +kernel
theorem dX5_jump_168 : decode cX5_jump 168 = .ok (.bipush 120, 2) := by decide +kernel
theorem dX5_jump_170 : decode cX5_jump 170 = .ok (.if_icmp .lt 7, 3) := by decide +kernel
theorem dX5_jump_173 : decode cX5_jump 173 = .ok (.iconst 1, 1) := by decide +kernel
theorem dX5_jump_174 : decode cX5_jump 174 = .ok (.goto 4, 3) := by decide +kernel
theorem dX5_jump_177 : decode cX5_jump 177 = .ok (.iconst 0, 1) := by decide +kernel
theorem dX5_jump_178 : decode cX5_jump 178 = .ok (.bastore, 1) := by decide +kernel
theorem dX5_jump_179 : decode cX5_jump 179 = .ok (.aload_n 0, 1) := by decide +kernel
theorem dX5_jump_180 : decode cX5_jump 180 = .ok (.getfield 42, 3) := by decide +kernel
theorem dX5_jump_183 : decode cX5_jump 183 = .ok (.iload 4, 2) := by decide +kernel
theorem dX5_jump_185 : decode cX5_jump 185 = .ok (.iload_n 3, 1) := by decide +kernel
theorem dX5_jump_186 : decode cX5_jump 186 = .ok (.bastore, 1) := by decide +kernel
theorem dX5_jump_187 : decode cX5_jump 187 = .ok (.aload_n 0, 1) := by decide +kernel
theorem dX5_jump_188 : decode cX5_jump 188 = .ok (.getfield 17, 3) := by decide +kernel
theorem dX5_jump_191 : decode cX5_jump 191 = .ok (.aload_n 0, 1) := by decide +kernel
theorem dX5_jump_192 : decode cX5_jump 192 = .ok (.getfield 9, 3) := by decide +kernel
theorem dX5_jump_195 : decode cX5_jump 195 = .ok (.dup2, 1) := by decide +kernel
theorem dX5_jump_196 : decode cX5_jump 196 = .ok (.iaload, 1) := by decide +kernel
theorem dX5_jump_197 : decode cX5_jump 197 = .ok (.iconst 4, 1) := by decide +kernel
theorem dX5_jump_198 : decode cX5_jump 198 = .ok (.iadd, 1) := by decide +kernel
theorem dX5_jump_199 : decode cX5_jump 199 = .ok (.iastore, 1) := by decide +kernel
theorem dX5_jump_200 : decode cX5_jump 200 = .ok (.aload_n 0, 1) := by decide +kernel
theorem dX5_jump_201 : decode cX5_jump 201 = .ok (.iconst 1, 1) := by decide +kernel
theorem dX5_jump_202 : decode cX5_jump 202 = .ok (.iconst 1, 1) := by decide +kernel
theorem dX5_jump_203 : decode cX5_jump 203 = .ok (.iconst 1, 1) := by decide +kernel
theorem dX5_jump_204 : decode cX5_jump 204 = .ok (.invokevirtual 72, 3) := by decide +kernel
theorem dX5_jump_207 : decode cX5_jump 207 = .ok (.aload_n 0, 1) := by decide +kernel
theorem dX5_jump_208 : decode cX5_jump 208 = .ok (.getfield 20, 3) := by decide +kernel
theorem dX5_jump_211 : decode cX5_jump 211 = .ok (.aload_n 0, 1) := by decide +kernel
theorem dX5_jump_212 : decode cX5_jump 212 = .ok (.getfield 9, 3) := by decide +kernel
theorem dX5_jump_215 : decode cX5_jump 215 = .ok (.dup2, 1) := by decide +kernel
theorem dX5_jump_216 : decode cX5_jump 216 = .ok (.iaload, 1) := by decide +kernel
theorem dX5_jump_217 : decode cX5_jump 217 = .ok (.iconst 1, 1) := by decide +kernel
theorem dX5_jump_218 : decode cX5_jump 218 = .ok (.iadd, 1) := by decide +kernel
theorem dX5_jump_219 : decode cX5_jump 219 = .ok (.iastore, 1) := by decide +kernel
theorem dX5_jump_220 : decode cX5_jump 220 = .ok (.aload_n 0, 1) := by decide +kernel
theorem dX5_jump_221 : decode cX5_jump 221 = .ok (.getfield 20, 3) := by decide +kernel
theorem dX5_jump_224 : decode cX5_jump 224 = .ok (.aload_n 0, 1) := by decide +kernel
theorem dX5_jump_225 : decode cX5_jump 225 = .ok (.getfield 9, 3) := by decide +kernel
theorem dX5_jump_228 : decode cX5_jump 228 = .ok (.iaload, 1) := by decide +kernel
theorem dX5_jump_229 : decode cX5_jump 229 = .ok (.iconst 1, 1) := by decide +kernel
theorem dX5_jump_230 : decode cX5_jump 230 = .ok (.isub, 1) := by decide +kernel
theorem dX5_jump_231 : decode cX5_jump 231 = .ok (.ireturn, 1) := by decide +kernel
theorem dX5_spin_0 : decode cX5_spin 0 = .ok (.aload_n 0, 1) := by decide +kernel
theorem dX5_spin_1 : decode cX5_spin 1 = .ok (.iload_n 1, 1) := by decide +kernel
theorem dX5_spin_2 : decode cX5_spin 2 = .ok (.iconst 0, 1) := by decide +kernel
theorem dX5_spin_3 : decode cX5_spin 3 = .ok (.bipush 63, 2) := by decide +kernel
theorem dX5_spin_5 : decode cX5_spin 5 = .ok (.invokestatic 64, 3) := by decide +kernel
theorem dX5_spin_8 : decode cX5_spin 8 = .ok (.ifCond .eq 13, 3) := by decide +kernel
theorem dX5_spin_11 : decode cX5_spin 11 = .ok (.iload_n 2, 1) := by decide +kernel
theorem dX5_spin_12 : decode cX5_spin 12 = .ok (.iconst 1, 1) := by decide +kernel
theorem dX5_spin_13 : decode cX5_spin 13 = .ok (.bipush 20, 2) := by decide +kernel
theorem dX5_spin_15 : decode cX5_spin 15 = .ok (.invokestatic 64, 3) := by decide +kernel
theorem dX5_spin_18 : decode cX5_spin 18 = .ok (.ifCond .ne 7, 3) := by decide +kernel
theorem dX5_spin_21 : decode cX5_spin 21 = .ok (.iconst 1, 1) := by decide +kernel
theorem dX5_spin_22 : decode cX5_spin 22 = .ok (.goto 29, 3) := by decide +kernel
theorem dX5_spin_25 : decode cX5_spin 25 = .ok (.aload_n 0, 1) := by decide +kernel
theorem dX5_spin_26 : decode cX5_spin 26 = .ok (.invokevirtual 85, 3) := by decide +kernel
theorem dX5_spin_29 : decode cX5_spin 29 = .ok (.ifCond .eq 21, 3) := by decide +kernel
theorem dX5_spin_32 : decode cX5_spin 32 = .ok (.aload_n 0, 1) := by decide +kernel
theorem dX5_spin_33 : decode cX5_spin 33 = .ok (.getfield 20, 3) := by decide +kernel
theorem dX5_spin_36 : decode cX5_spin 36 = .ok (.aload_n 0, 1) := by decide +kernel
theorem dX5_spin_37 : decode cX5_spin 37 = .ok (.getfield 9, 3) := by decide +kernel
theorem dX5_spin_40 : decode cX5_spin 40 = .ok (.iaload, 1) := by decide +kernel
theorem dX5_spin_41 : decode cX5_spin 41 = .ok (.bipush 12, 2) := by decide +kernel
theorem dX5_spin_43 : decode cX5_spin 43 = .ok (.if_icmp .ge 7, 3) := by decide +kernel
theorem dX5_spin_46 : decode cX5_spin 46 = .ok (.iconst 0, 1) := by decide +kernel
theorem dX5_spin_47 : decode cX5_spin 47 = .ok (.goto 4, 3) := by decide +kernel
theorem dX5_spin_50 : decode cX5_spin 50 = .ok (.iconst 2, 1) := by decide +kernel
theorem dX5_spin_51 : decode cX5_spin 51 = .ok (.putfield 58, 3) := by decide +kernel
theorem dX5_spin_54 : decode cX5_spin 54 = .ok (.aload_n 0, 1) := by decide +kernel
theorem dX5_spin_55 : decode cX5_spin 55 = .ok (.getfield 58, 3) := by decide +kernel
theorem dX5_spin_58 : decode cX5_spin 58 = .ok (.ifCond .le 5, 3) := by decide +kernel
theorem dX5_spin_61 : decode cX5_spin 61 = .ok (.iconst 0, 1) := by decide +kernel
theorem dX5_spin_62 : decode cX5_spin 62 = .ok (.ireturn, 1) := by decide +kernel
theorem dX5_spin_63 : decode cX5_spin 63 = .ok (.aload_n 0, 1) := by decide +kernel
theorem dX5_spin_64 : decode cX5_spin 64 = .ok (.getfield 20, 3) := by decide +kernel
theorem dX5_spin_67 : decode cX5_spin 67 = .ok (.aload_n 0, 1) := by decide +kernel
theorem dX5_spin_68 : decode cX5_spin 68 = .ok (.getfield 9, 3) := by decide +kernel
theorem dX5_spin_71 : decode cX5_spin 71 = .ok (.iaload, 1) := by decide +kernel
theorem dX5_spin_72 : decode cX5_spin 72 = .ok (.istore_n 3, 1) := by decide +kernel
theorem dX5_spin_73 : decode cX5_spin 73 = .ok (.iconst 0, 1) := by decide +kernel
theorem dX5_spin_74 : decode cX5_spin 74 = .ok (.istore 4, 2) := by decide +kernel
theorem dX5_spin_76 : decode cX5_spin 76 = .ok (.iconst 0, 1) := by decide +kernel
theorem dX5_spin_77 : decode cX5_spin 77 = .ok (.istore 5, 2) := by decide +kernel
theorem dX5_spin_79 : decode cX5_spin 79 = .ok (.iload 5, 2) := by decide +kernel
theorem dX5_spin_81 : decode cX5_spin 81 = .ok (.iload_n 3, 1) := by decide +kernel
theorem dX5_spin_82 : decode cX5_spin 82 = .ok (.if_icmp .ge 68, 3) := by decide +kernel
theorem dX5_spin_85 : decode cX5_spin 85 = .ok (.iload 4, 2) := by decide +kernel
theorem dX5_spin_87 : decode cX5_spin 87 = .ok (.aload_n 0, 1) := by decide +kernel
theorem dX5_spin_88 : decode cX5_spin 88 = .ok (.getfield 23, 3) := by decide +kernel
theorem dX5_spin_91 : decode cX5_spin 91 = .ok (.aload_n 0, 1) := by decide +kernel
theorem dX5_spin_92 : decode cX5_spin 92 = .ok (.getfield 9, 3) := by decide +kernel
theorem dX5_spin_95 : decode cX5_spin 95 = .ok (.iload 5, 2) := by decide +kernel
theorem dX5_spin_97 : decode cX5_spin 97 = .ok (.invokestatic 92, 3) := by decide +kernel
theorem dX5_spin_100 : decode cX5_spin 100 = .ok (.iaload, 1) := by decide +kernel
theorem dX5_spin_101 : decode cX5_spin 101 = .ok (.bipush 6, 2) := by decide +kernel
theorem dX5_spin_103 : decode cX5_spin 103 = .ok (.if_icmp .ne 37, 3) := by decide +kernel
theorem dX5_spin_106 : decode cX5_spin 106 = .ok (.aload_n 0, 1) := by decide +kernel
theorem dX5_spin_107 : decode cX5_spin 107 = .ok (.getfield 26, 3) := by decide +kernel
theorem dX5_spin_110 : decode cX5_spin 110 = .ok (.aload_n 0, 1) := by decide +kernel
theorem dX5_spin_111 : decode cX5_spin 111 = .ok (.getfield 9, 3) := by decide +kernel
theorem dX5_spin_114 : decode cX5_spin 114 = .ok (.iload 5, 2) := by decide +kernel
theorem dX5_spin_116 : decode cX5_spin 116 = .ok (.invokestatic 92, 3) := by decide +kernel
theorem dX5_spin_119 : decode cX5_spin 119 = .ok (.iaload, 1) := by decide +kernel
theorem dX5_spin_120 : decode cX5_spin 120 = .ok (.ifCond .le 20, 3) := by decide +kernel
theorem dX5_spin_123 : decode cX5_spin 123 = .ok (.aload_n 0, 1) := by decide +kernel
theorem dX5_spin_124 : decode cX5_spin 124 = .ok (.getfield 29, 3) := by decide +kernel
theorem dX5_spin_127 : decode cX5_spin 127 = .ok (.aload_n 0, 1) := by decide +kernel
theorem dX5_spin_128 : decode cX5_spin 128 = .ok (.getfield 9, 3) := by decide +kernel
theorem dX5_spin_131 : decode cX5_spin 131 = .ok (.iload 5, 2) := by decide +kernel
theorem dX5_spin_133 : decode cX5_spin 133 = .ok (.invokestatic 92, 3) := by decide +kernel
theorem dX5_spin_136 : decode cX5_spin 136 = .ok (.iaload, 1) := by decide +kernel
theorem dX5_spin_137 : decode cX5_spin 137 = .ok (.goto 4, 3) := by decide +kernel
theorem dX5_spin_140 : decode cX5_spin 140 = .ok (.iconst 0, 1) := by decide +kernel
theorem dX5_spin_141 : decode cX5_spin 141 = .ok (.ior, 1) := by decide +kernel
theorem dX5_spin_142 : decode cX5_spin 142 = .ok (.istore 4, 2) := by decide +kernel
theorem dX5_spin_144 : decode cX5_spin 144 = .ok (.iinc 5 1, 3) := by decide +kernel
theorem dX5_spin_147 : decode cX5_spin 147 = .ok (.goto (-68), 3) := by decide +kernel
theorem dX5_spin_150 : decode cX5_spin 150 = .ok (.iconst 0, 1) := by decide +kernel
theorem dX5_spin_151 : decode cX5_spin 151 = .ok (.istore 5, 2) := by decide +kernel
theorem dX5_spin_153 : decode cX5_spin 153 = .ok (.iconst 0, 1) := by decide +kernel
theorem dX5_spin_154 : decode cX5_spin 154 = .ok (.istore 6, 2) := by decide +kernel
theorem dX5_spin_156 : decode cX5_spin 156 = .ok (.iload 6, 2) := by decide +kernel
theorem dX5_spin_158 : decode cX5_spin 158 = .ok (.bipush 6, 2) := by decide +kernel
theorem dX5_spin_160 : decode cX5_spin 160 = .ok (.if_icmp .ge 63, 3) := by decide +kernel
theorem dX5_spin_163 : decode cX5_spin 163 = .ok (.iload_n 2, 1) := by decide +kernel
theorem dX5_spin_164 : decode cX5_spin 164 = .ok (.bipush 6, 2) := by decide +kernel
theorem dX5_spin_166 : decode cX5_spin 166 = .ok (.if_icmp .lt 57, 3) := by decide +kernel
theorem dX5_spin_169 : decode cX5_spin 169 = .ok (.iload_n 1, 1) := by decide +kernel
theorem dX5_spin_170 : decode cX5_spin 170 = .ok (.iload 6, 2) := by decide +kernel
theorem dX5_spin_172 : decode cX5_spin 172 = .ok (.ishr, 1) := by decide +kernel
theorem dX5_spin_173 : decode cX5_spin 173 = .ok (.iconst 1, 1) := by decide +kernel
theorem dX5_spin_174 : decode cX5_spin 174 = .ok (.iand, 1) := by decide +kernel
theorem dX5_spin_175 : decode cX5_spin 175 = .ok (.iconst 1, 1) := by decide +kernel
theorem dX5_spin_176 : decode cX5_spin 176 = .ok (.if_icmp .ne 17, 3) := by decide +kernel
theorem dX5_spin_179 : decode cX5_spin 179 = .ok (.iload 4, 2) := by decide +kernel
theorem dX5_spin_181 : decode cX5_spin 181 = .ok (.iload 6, 2) := by decide +kernel
theorem dX5_spin_183 : decode cX5_spin 183 = .ok (.ishr, 1) := by decide +kernel
theorem dX5_spin_184 : decode cX5_spin 184 = .ok (.iconst 1, 1) := by decide +kernel
theorem dX5_spin_185 : decode cX5_spin 185 = .ok (.iand, 1) := by decide +kernel
theorem dX5_spin_186 : decode cX5_spin 186 = .ok (.ifCond .ne 7, 3) := by decide +kernel
theorem dX5_spin_189 : decode cX5_spin 189 = .ok (.iconst 1, 1) := by decide +kernel
theorem dX5_spin_190 : decode cX5_spin 190 = .ok (.goto 4, 3) := by decide +kernel
theorem dX5_spin_193 : decode cX5_spin 193 = .ok (.iconst 0, 1) := by decide +kernel
theorem dX5_spin_194 : decode cX5_spin 194 = .ok (.istore 7, 2) := by decide +kernel
theorem dX5_spin_196 : decode cX5_spin 196 = .ok (.iload 5, 2) := by decide +kernel
theorem dX5_spin_198 : decode cX5_spin 198 = .ok (.iload 7, 2) := by decide +kernel
theorem dX5_spin_200 : decode cX5_spin 200 = .ok (.ifCond .eq 13, 3) := by decide +kernel
theorem dX5_spin_203 : decode cX5_spin 203 = .ok (.iload 5, 2) := by decide +kernel
theorem dX5_spin_205 : decode cX5_spin 205 = .ok (.iconst 4, 1) := by decide +kernel
theorem dX5_spin_206 : decode cX5_spin 206 = .ok (.if_icmp .ge 7, 3) := by decide +kernel
theorem dX5_spin_209 : decode cX5_spin 209 = .ok (.iconst 1, 1) := by decide +kernel
theorem dX5_spin_210 : decode cX5_spin 210 = .ok (.goto 4, 3) := by decide +kernel
theorem dX5_spin_213 : decode cX5_spin 213 = .ok (.iconst 0, 1) := by decide +kernel
theorem dX5_spin_214 : decode cX5_spin 214 = .ok (.iadd, 1) := by decide +kernel
theorem dX5_spin_215 : decode cX5_spin 215 = .ok (.istore 5, 2) := by decide +kernel
theorem dX5_spin_217 : decode cX5_spin 217 = .ok (.iinc 6 1, 3) := by decide +kernel
theorem dX5_spin_220 : decode cX5_spin 220 = .ok (.goto (-64), 3) := by decide +kernel
theorem dX5_spin_223 : decode cX5_spin 223 = .ok (.aload_n 0, 1) := by decide +kernel
theorem dX5_spin_224 : decode cX5_spin 224 = .ok (.getfield 23, 3) := by decide +kernel
theorem dX5_spin_227 : decode cX5_spin 227 = .ok (.aload_n 0, 1) := by decide +kernel
theorem dX5_spin_228 : decode cX5_spin 228 = .ok (.getfield 9, 3) := by decide +kernel
theorem dX5_spin_231 : decode cX5_spin 231 = .ok (.iload_n 3, 1) := by decide +kernel
theorem dX5_spin_232 : decode cX5_spin 232 = .ok (.invokestatic 92, 3) := by decide +kernel
theorem dX5_spin_235 : decode cX5_spin 235 = .ok (.bipush 6, 2) := by decide +kernel
theorem dX5_spin_237 : decode cX5_spin 237 = .ok (.iastore, 1) := by decide +kernel
theorem dX5_spin_238 : decode cX5_spin 238 = .ok (.aload_n 0, 1) := by decide +kernel
theorem dX5_spin_239 : decode cX5_spin 239 = .ok (.getfield 26, 3) := by decide +kernel
theorem dX5_spin_242 : decode cX5_spin 242 = .ok (.aload_n 0, 1) := by decide +kernel
theorem dX5_spin_243 : decode cX5_spin 243 = .ok (.getfield 9, 3) := by decide +kernel
theorem dX5_spin_246 : decode cX5_spin 246 = .ok (.iload_n 3, 1) := by decide +kernel
theorem dX5_spin_247 : decode cX5_spin 247 = .ok (.invokestatic 92, 3) := by decide +kernel
theorem dX5_spin_250 : decode cX5_spin 250 = .ok (.iload 5, 2) := by decide +kernel
theorem dX5_spin_252 : decode cX5_spin 252 = .ok (.iastore, 1) := by decide +kernel
theorem dX5_spin_253 : decode cX5_spin 253 = .ok (.aload_n 0, 1) := by decide +kernel
theorem dX5_spin_254 : decode cX5_spin 254 = .ok (.getfield 29, 3) := by decide +kernel
theorem dX5_spin_257 : decode cX5_spin 257 = .ok (.aload_n 0, 1) := by decide +kernel
theorem dX5_spin_258 : decode cX5_spin 258 = .ok (.getfield 9, 3) := by decide +kernel
theorem dX5_spin_261 : decode cX5_spin 261 = .ok (.iload_n 3, 1) := by decide +kernel
theorem dX5_spin_262 : decode cX5_spin 262 = .ok (.invokestatic 92, 3) := by decide +kernel
theorem dX5_spin_265 : decode cX5_spin 265 = .ok (.iload_n 1, 1) := by decide +kernel
theorem dX5_spin_266 : decode cX5_spin 266 = .ok (.iastore, 1) := by decide +kernel
theorem dX5_spin_267 : decode cX5_spin 267 = .ok (.aload_n 0, 1) := by decide +kernel
theorem dX5_spin_268 : decode cX5_spin 268 = .ok (.getfield 17, 3) := by decide +kernel
theorem dX5_spin_271 : decode cX5_spin 271 = .ok (.aload_n 0, 1) := by decide +kernel
theorem dX5_spin_272 : decode cX5_spin 272 = .ok (.getfield 9, 3) := by decide +kernel
theorem dX5_spin_275 : decode cX5_spin 275 = .ok (.dup2, 1) := by decide +kernel
theorem dX5_spin_276 : decode cX5_spin 276 = .ok (.iaload, 1) := by decide +kernel
theorem dX5_spin_277 : decode cX5_spin 277 = .ok (.bipush 10, 2) := by decide +kernel
theorem dX5_spin_279 : decode cX5_spin 279 = .ok (.iadd, 1) := by decide +kernel
theorem dX5_spin_280 : decode cX5_spin 280 = .ok (.iastore, 1) := by decide +kernel
theorem dX5_spin_281 : decode cX5_spin 281 = .ok (.aload_n 0, 1) := by decide +kernel
theorem dX5_spin_282 : decode cX5_spin 282 = .ok (.iconst 0, 1) := by decide +kernel
theorem dX5_spin_283 : decode cX5_spin 283 = .ok (.iconst 1, 1) := by decide +kernel
theorem dX5_spin_284 : decode cX5_spin 284 = .ok (.iconst 1, 1) := by decide +kernel
theorem dX5_spin_285 : decode cX5_spin 285 = .ok (.invokevirtual 72, 3) := by decide +kernel
theorem dX5_spin_288 : decode cX5_spin 288 = .ok (.aload_n 0, 1) := by decide +kernel
theorem dX5_spin_289 : decode cX5_spin 289 = .ok (.getfield 20, 3) := by decide +kernel
theorem dX5_spin_292 : decode cX5_spin 292 = .ok (.aload_n 0, 1) := by decide +kernel
theorem dX5_spin_293 : decode cX5_spin 293 = .ok (.getfield 9, 3) := by decide +kernel
theorem dX5_spin_296 : decode cX5_spin 296 = .ok (.dup2, 1) := by decide +kernel
theorem dX5_spin_297 : decode cX5_spin 297 = .ok (.iaload, 1) := by decide +kernel
theorem dX5_spin_298 : decode cX5_spin 298 = .ok (.iconst 1, 1) := by decide +kernel
theorem dX5_spin_299 : decode cX5_spin 299 = .ok (.iadd, 1) := by decide +kernel
theorem dX5_spin_300 : decode cX5_spin 300 = .ok (.iastore, 1) := by decide +kernel
theorem dX5_spin_301 : decode cX5_spin 301 = .ok (.iload_n 3, 1) := by decide +kernel
theorem dX5_spin_302 : decode cX5_spin 302 = .ok (.ireturn, 1) := by decide +kernel
theorem dX5_end_0 : decode cX5_end 0 = .ok (.aload_n 0, 1) := by decide +kernel
theorem dX5_end_1 : decode cX5_end 1 = .ok (.aload_n 0, 1) := by decide +kernel
theorem dX5_end_2 : decode cX5_end 2 = .ok (.getfield 9, 3) := by decide +kernel
theorem dX5_end_5 : decode cX5_end 5 = .ok (.iconst (-1), 1) := by decide +kernel
theorem dX5_end_6 : decode cX5_end 6 = .ok (.if_icmp .ne 7, 3) := by decide +kernel
theorem dX5_end_9 : decode cX5_end 9 = .ok (.iconst 1, 1) := by decide +kernel
theorem dX5_end_10 : decode cX5_end 10 = .ok (.goto 4, 3) := by decide +kernel
theorem dX5_end_13 : decode cX5_end 13 = .ok (.iconst 0, 1) := by decide +kernel
theorem dX5_end_14 : decode cX5_end 14 = .ok (.putfield 58, 3) := by decide +kernel
theorem dX5_end_17 : decode cX5_end 17 = .ok (.aload_n 0, 1) := by decide +kernel
theorem dX5_end_18 : decode cX5_end 18 = .ok (.getfield 58, 3) := by decide +kernel
theorem dX5_end_21 : decode cX5_end 21 = .ok (.ifCond .le 5, 3) := by decide +kernel
theorem dX5_end_24 : decode cX5_end 24 = .ok (.iconst 0, 1) := by decide +kernel
theorem dX5_end_25 : decode cX5_end 25 = .ok (.ireturn, 1) := by decide +kernel
theorem dX5_end_26 : decode cX5_end 26 = .ok (.aload_n 0, 1) := by decide +kernel
theorem dX5_end_27 : decode cX5_end 27 = .ok (.getfield 20, 3) := by decide +kernel
theorem dX5_end_30 : decode cX5_end 30 = .ok (.aload_n 0, 1) := by decide +kernel
theorem dX5_end_31 : decode cX5_end 31 = .ok (.getfield 9, 3) := by decide +kernel
theorem dX5_end_34 : decode cX5_end 34 = .ok (.iaload, 1) := by decide +kernel
theorem dX5_end_35 : decode cX5_end 35 = .ok (.istore_n 1, 1) := by decide +kernel
theorem dX5_end_36 : decode cX5_end 36 = .ok (.aload_n 0, 1) := by decide +kernel
theorem dX5_end_37 : decode cX5_end 37 = .ok (.getfield 13, 3) := by decide +kernel
theorem dX5_end_40 : decode cX5_end 40 = .ok (.aload_n 0, 1) := by decide +kernel
theorem dX5_end_41 : decode cX5_end 41 = .ok (.getfield 9, 3) := by decide +kernel
theorem dX5_end_44 : decode cX5_end 44 = .ok (.iconst 2, 1) := by decide +kernel
theorem dX5_end_45 : decode cX5_end 45 = .ok (.iastore, 1) := by decide +kernel
theorem dX5_end_46 : decode cX5_end 46 = .ok (.aload_n 0, 1) := by decide +kernel
theorem dX5_end_47 : decode cX5_end 47 = .ok (.iconst (-1), 1) := by decide +kernel
theorem dX5_end_48 : decode cX5_end 48 = .ok (.putfield 9, 3) := by decide +kernel
theorem dX5_end_51 : decode cX5_end 51 = .ok (.iload_n 1, 1) := by decide +kernel
theorem dX5_end_52 : decode cX5_end 52 = .ok (.ireturn, 1) := by decide +kernel
theorem dX5_quartersOf_0 : decode cX5_quartersOf 0 = .ok (.iconst 0, 1) := by decide +kernel
theorem dX5_quartersOf_1 : decode cX5_quartersOf 1 = .ok (.istore_n 2, 1) := by decide +kernel
theorem dX5_quartersOf_2 : decode cX5_quartersOf 2 = .ok (.iconst 0, 1) := by decide +kernel
theorem dX5_quartersOf_3 : decode cX5_quartersOf 3 = .ok (.istore_n 3, 1) := by decide +kernel
theorem dX5_quartersOf_4 : decode cX5_quartersOf 4 = .ok (.bipush 99, 2) := by decide +kernel
theorem dX5_quartersOf_6 : decode cX5_quartersOf 6 = .ok (.istore 4, 2) := by decide +kernel
theorem dX5_quartersOf_8 : decode cX5_quartersOf 8 = .ok (.iconst 0, 1) := by decide +kernel
theorem dX5_quartersOf_9 : decode cX5_quartersOf 9 = .ok (.istore 5, 2) := by decide +kernel
theorem dX5_quartersOf_11 : decode cX5_quartersOf 11 = .ok (.iconst 0, 1) := by decide +kernel
theorem dX5_quartersOf_12 : decode cX5_quartersOf 12 = .ok (.istore 6, 2) := by decide +kernel
theorem dX5_quartersOf_14 : decode cX5_quartersOf 14 = .ok (.iload 6, 2) := by decide +kernel
theorem dX5_quartersOf_16 : decode cX5_quartersOf 16 = .ok (.iconst 3, 1) := by decide +kernel
theorem dX5_quartersOf_17 : decode cX5_quartersOf 17 = .ok (.if_icmp .ge 92, 3) := by decide +kernel
theorem dX5_quartersOf_20 : decode cX5_quartersOf 20 = .ok (.aload_n 0, 1) := by decide +kernel
theorem dX5_quartersOf_21 : decode cX5_quartersOf 21 = .ok (.getfield 32, 3) := by decide +kernel
theorem dX5_quartersOf_24 : decode cX5_quartersOf 24 = .ok (.iconst 3, 1) := by decide +kernel
theorem dX5_quartersOf_25 : decode cX5_quartersOf 25 = .ok (.iload_n 1, 1) := by decide +kernel
theorem dX5_quartersOf_26 : decode cX5_quartersOf 26 = .ok (.imul, 1) := by decide +kernel
theorem dX5_quartersOf_27 : decode cX5_quartersOf 27 = .ok (.iload 6, 2) := by decide +kernel
theorem dX5_quartersOf_29 : decode cX5_quartersOf 29 = .ok (.iadd, 1) := by decide +kernel
theorem dX5_quartersOf_30 : decode cX5_quartersOf 30 = .ok (.iaload, 1) := by decide +kernel
theorem dX5_quartersOf_31 : decode cX5_quartersOf 31 = .ok (.istore 7, 2) := by decide +kernel
theorem dX5_quartersOf_33 : decode cX5_quartersOf 33 = .ok (.iload_n 3, 1) := by decide +kernel
theorem dX5_quartersOf_34 : decode cX5_quartersOf 34 = .ok (.iload 7, 2) := by decide +kernel
theorem dX5_quartersOf_36 : decode cX5_quartersOf 36 = .ok (.bipush (-99), 2) := by decide +kernel
theorem dX5_quartersOf_38 : decode cX5_quartersOf 38 = .ok (.if_icmp .ne 7, 3) := by decide +kernel
theorem dX5_quartersOf_41 : decode cX5_quartersOf 41 = .ok (.iconst 0, 1) := by decide +kernel
theorem dX5_quartersOf_42 : decode cX5_quartersOf 42 = .ok (.goto 4, 3) := by decide +kernel
theorem dX5_quartersOf_45 : decode cX5_quartersOf 45 = .ok (.iconst 1, 1) := by decide +kernel
theorem dX5_quartersOf_46 : decode cX5_quartersOf 46 = .ok (.iadd, 1) := by decide +kernel
theorem dX5_quartersOf_47 : decode cX5_quartersOf 47 = .ok (.istore_n 3, 1) := by decide +kernel
theorem dX5_quartersOf_48 : decode cX5_quartersOf 48 = .ok (.iload_n 2, 1) := by decide +kernel
theorem dX5_quartersOf_49 : decode cX5_quartersOf 49 = .ok (.iload 7, 2) := by decide +kernel
theorem dX5_quartersOf_51 : decode cX5_quartersOf 51 = .ok (.bipush (-99), 2) := by decide +kernel
theorem dX5_quartersOf_53 : decode cX5_quartersOf 53 = .ok (.if_icmp .ne 7, 3) := by decide +kernel
theorem dX5_quartersOf_56 : decode cX5_quartersOf 56 = .ok (.iconst 0, 1) := by decide +kernel
theorem dX5_quartersOf_57 : decode cX5_quartersOf 57 = .ok (.goto 5, 3) := by decide +kernel
theorem dX5_quartersOf_60 : decode cX5_quartersOf 60 = .ok (.iload 7, 2) := by decide +kernel
theorem dX5_quartersOf_62 : decode cX5_quartersOf 62 = .ok (.iadd, 1) := by decide +kernel
theorem dX5_quartersOf_63 : decode cX5_quartersOf 63 = .ok (.istore_n 2, 1) := by decide +kernel
theorem dX5_quartersOf_64 : decode cX5_quartersOf 64 = .ok (.iload 7, 2) := by decide +kernel
theorem dX5_quartersOf_66 : decode cX5_quartersOf 66 = .ok (.bipush (-99), 2) := by decide +kernel
theorem dX5_quartersOf_68 : decode cX5_quartersOf 68 = .ok (.if_icmp .eq 15, 3) := by decide +kernel
theorem dX5_quartersOf_71 : decode cX5_quartersOf 71 = .ok (.iload 7, 2) := by decide +kernel
theorem dX5_quartersOf_73 : decode cX5_quartersOf 73 = .ok (.iload 4, 2) := by decide +kernel
theorem dX5_quartersOf_75 : decode cX5_quartersOf 75 = .ok (.if_icmp .ge 8, 3) := by decide +kernel
theorem dX5_quartersOf_78 : decode cX5_quartersOf 78 = .ok (.iload 7, 2) := by decide +kernel
theorem dX5_quartersOf_80 : decode cX5_quartersOf 80 = .ok (.goto 5, 3) := by decide +kernel
theorem dX5_quartersOf_83 : decode cX5_quartersOf 83 = .ok (.iload 4, 2) := by decide +kernel
theorem dX5_quartersOf_85 : decode cX5_quartersOf 85 = .ok (.istore 4, 2) := by decide +kernel
theorem dX5_quartersOf_87 : decode cX5_quartersOf 87 = .ok (.iload 7, 2) := by decide +kernel
theorem dX5_quartersOf_89 : decode cX5_quartersOf 89 = .ok (.iload 5, 2) := by decide +kernel
theorem dX5_quartersOf_91 : decode cX5_quartersOf 91 = .ok (.if_icmp .le 8, 3) := by decide +kernel
theorem dX5_quartersOf_94 : decode cX5_quartersOf 94 = .ok (.iload 7, 2) := by decide +kernel
theorem dX5_quartersOf_96 : decode cX5_quartersOf 96 = .ok (.goto 5, 3) := by decide +kernel
theorem dX5_quartersOf_99 : decode cX5_quartersOf 99 = .ok (.iload 5, 2) := by decide +kernel
theorem dX5_quartersOf_101 : decode cX5_quartersOf 101 = .ok (.istore 5, 2) := by decide +kernel
theorem dX5_quartersOf_103 : decode cX5_quartersOf 103 = .ok (.iinc 6 1, 3) := by decide +kernel
theorem dX5_quartersOf_106 : decode cX5_quartersOf 106 = .ok (.goto (-92), 3) := by decide +kernel
theorem dX5_quartersOf_109 : decode cX5_quartersOf 109 = .ok (.iload_n 3, 1) := by decide +kernel
theorem dX5_quartersOf_110 : decode cX5_quartersOf 110 = .ok (.ifCond .ne 7, 3) := by decide +kernel
theorem dX5_quartersOf_113 : decode cX5_quartersOf 113 = .ok (.iconst 0, 1) := by decide +kernel
theorem dX5_quartersOf_114 : decode cX5_quartersOf 114 = .ok (.goto 20, 3) := by decide +kernel
theorem dX5_quartersOf_117 : decode cX5_quartersOf 117 = .ok (.iload_n 3, 1) := by decide +kernel
theorem dX5_quartersOf_118 : decode cX5_quartersOf 118 = .ok (.iconst 3, 1) := by decide +kernel
theorem dX5_quartersOf_119 : decode cX5_quartersOf 119 = .ok (.if_icmp .ge 8, 3) := by decide +kernel
theorem dX5_quartersOf_122 : decode cX5_quartersOf 122 = .ok (.iload 4, 2) := by decide +kernel
theorem dX5_quartersOf_124 : decode cX5_quartersOf 124 = .ok (.goto 10, 3) := by decide +kernel
theorem dX5_quartersOf_127 : decode cX5_quartersOf 127 = .ok (.iload_n 2, 1) := by decide +kernel
theorem dX5_quartersOf_128 : decode cX5_quartersOf 128 = .ok (.iload 4, 2) := by decide +kernel
theorem dX5_quartersOf_130 : decode cX5_quartersOf 130 = .ok (.isub, 1) := by decide +kernel
theorem dX5_quartersOf_131 : decode cX5_quartersOf 131 = .ok (.iload 5, 2) := by decide +kernel
theorem dX5_quartersOf_133 : decode cX5_quartersOf 133 = .ok (.isub, 1) := by decide +kernel
theorem dX5_quartersOf_134 : decode cX5_quartersOf 134 = .ok (.ireturn, 1) := by decide +kernel
theorem dX5_call_0 : decode cX5_call 0 = .ok (.aload_n 0, 1) := by decide +kernel
theorem dX5_call_1 : decode cX5_call 1 = .ok (.iload_n 1, 1) := by decide +kernel
theorem dX5_call_2 : decode cX5_call 2 = .ok (.iconst 0, 1) := by decide +kernel
theorem dX5_call_3 : decode cX5_call 3 = .ok (.iconst 2, 1) := by decide +kernel
theorem dX5_call_4 : decode cX5_call 4 = .ok (.invokestatic 64, 3) := by decide +kernel
theorem dX5_call_7 : decode cX5_call 7 = .ok (.ifCond .eq 23, 3) := by decide +kernel
theorem dX5_call_10 : decode cX5_call 10 = .ok (.aload_n 0, 1) := by decide +kernel
theorem dX5_call_11 : decode cX5_call 11 = .ok (.getfield 9, 3) := by decide +kernel
theorem dX5_call_14 : decode cX5_call 14 = .ok (.iconst (-1), 1) := by decide +kernel
theorem dX5_call_15 : decode cX5_call 15 = .ok (.if_icmp .eq 19, 3) := by decide +kernel
theorem dX5_call_18 : decode cX5_call 18 = .ok (.aload_n 0, 1) := by decide +kernel
theorem dX5_call_19 : decode cX5_call 19 = .ok (.aload_n 0, 1) := by decide +kernel
theorem dX5_call_20 : decode cX5_call 20 = .ok (.getfield 9, 3) := by decide +kernel
theorem dX5_call_23 : decode cX5_call 23 = .ok (.iload_n 2, 1) := by decide +kernel
theorem dX5_call_24 : decode cX5_call 24 = .ok (.invokevirtual 96, 3) := by decide +kernel
theorem dX5_call_27 : decode cX5_call 27 = .ok (.ifCond .ne 7, 3) := by decide +kernel
theorem dX5_call_30 : decode cX5_call 30 = .ok (.iconst 1, 1) := by decide +kernel
theorem dX5_call_31 : decode cX5_call 31 = .ok (.goto 17, 3) := by decide +kernel
theorem dX5_call_34 : decode cX5_call 34 = .ok (.iload_n 3, 1) := by decide +kernel
theorem dX5_call_35 : decode cX5_call 35 = .ok (.iconst 0, 1) := by decide +kernel
theorem dX5_call_36 : decode cX5_call 36 = .ok (.iconst 4, 1) := by decide +kernel
theorem dX5_call_37 : decode cX5_call 37 = .ok (.invokestatic 64, 3) := by decide +kernel
theorem dX5_call_40 : decode cX5_call 40 = .ok (.ifCond .ne 7, 3) := by decide +kernel
theorem dX5_call_43 : decode cX5_call 43 = .ok (.iconst 2, 1) := by decide +kernel
theorem dX5_call_44 : decode cX5_call 44 = .ok (.goto 4, 3) := by decide +kernel
theorem dX5_call_47 : decode cX5_call 47 = .ok (.iconst 0, 1) := by decide +kernel
theorem dX5_call_48 : decode cX5_call 48 = .ok (.putfield 58, 3) := by decide +kernel
theorem dX5_call_51 : decode cX5_call 51 = .ok (.aload_n 0, 1) := by decide +kernel
theorem dX5_call_52 : decode cX5_call 52 = .ok (.getfield 58, 3) := by decide +kernel
theorem dX5_call_55 : decode cX5_call 55 = .ok (.ifCond .ne 38, 3) := by decide +kernel
theorem dX5_call_58 : decode cX5_call 58 = .ok (.aload_n 0, 1) := by decide +kernel
theorem dX5_call_59 : decode cX5_call 59 = .ok (.aload_n 0, 1) := by decide +kernel
theorem dX5_call_60 : decode cX5_call 60 = .ok (.getfield 9, 3) := by decide +kernel
theorem dX5_call_63 : decode cX5_call 63 = .ok (.iconst (-1), 1) := by decide +kernel
theorem dX5_call_64 : decode cX5_call 64 = .ok (.if_icmp .eq 21, 3) := by decide +kernel
theorem dX5_call_67 : decode cX5_call 67 = .ok (.aload_n 0, 1) := by decide +kernel
theorem dX5_call_68 : decode cX5_call 68 = .ok (.getfield 23, 3) := by decide +kernel
theorem dX5_call_71 : decode cX5_call 71 = .ok (.aload_n 0, 1) := by decide +kernel
theorem dX5_call_72 : decode cX5_call 72 = .ok (.getfield 9, 3) := by decide +kernel
theorem dX5_call_75 : decode cX5_call 75 = .ok (.iload_n 2, 1) := by decide +kernel
theorem dX5_call_76 : decode cX5_call 76 = .ok (.invokestatic 92, 3) := by decide +kernel
theorem dX5_call_79 : decode cX5_call 79 = .ok (.iaload, 1) := by decide +kernel
theorem dX5_call_80 : decode cX5_call 80 = .ok (.bipush 6, 2) := by decide +kernel
theorem dX5_call_82 : decode cX5_call 82 = .ok (.if_icmp .ne 7, 3) := by decide +kernel
theorem dX5_call_85 : decode cX5_call 85 = .ok (.iconst 3, 1) := by decide +kernel
theorem dX5_call_86 : decode cX5_call 86 = .ok (.goto 4, 3) := by decide +kernel
theorem dX5_call_89 : decode cX5_call 89 = .ok (.iconst 0, 1) := by decide +kernel
theorem dX5_call_90 : decode cX5_call 90 = .ok (.putfield 58, 3) := by decide +kernel
theorem dX5_call_93 : decode cX5_call 93 = .ok (.aload_n 0, 1) := by decide +kernel
theorem dX5_call_94 : decode cX5_call 94 = .ok (.getfield 58, 3) := by decide +kernel
theorem dX5_call_97 : decode cX5_call 97 = .ok (.ifCond .le 5, 3) := by decide +kernel
theorem dX5_call_100 : decode cX5_call 100 = .ok (.iconst 0, 1) := by decide +kernel
theorem dX5_call_101 : decode cX5_call 101 = .ok (.ireturn, 1) := by decide +kernel
theorem dX5_call_102 : decode cX5_call 102 = .ok (.aload_n 0, 1) := by decide +kernel
theorem dX5_call_103 : decode cX5_call 103 = .ok (.getfield 32, 3) := by decide +kernel
theorem dX5_call_106 : decode cX5_call 106 = .ok (.iconst 3, 1) := by decide +kernel
theorem dX5_call_107 : decode cX5_call 107 = .ok (.aload_n 0, 1) := by decide +kernel
theorem dX5_call_108 : decode cX5_call 108 = .ok (.getfield 9, 3) := by decide +kernel
theorem dX5_call_111 : decode cX5_call 111 = .ok (.iload_n 2, 1) := by decide +kernel
theorem dX5_call_112 : decode cX5_call 112 = .ok (.invokestatic 92, 3) := by decide +kernel
theorem dX5_call_115 : decode cX5_call 115 = .ok (.imul, 1) := by decide +kernel
theorem dX5_call_116 : decode cX5_call 116 = .ok (.iload_n 1, 1) := by decide +kernel
theorem dX5_call_117 : decode cX5_call 117 = .ok (.iadd, 1) := by decide +kernel
theorem dX5_call_118 : decode cX5_call 118 = .ok (.iload_n 3, 1) := by decide +kernel
theorem dX5_call_119 : decode cX5_call 119 = .ok (.iastore, 1) := by decide +kernel
theorem dX5_call_120 : decode cX5_call 120 = .ok (.aload_n 0, 1) := by decide +kernel
theorem dX5_call_121 : decode cX5_call 121 = .ok (.aload_n 0, 1) := by decide +kernel
theorem dX5_call_122 : decode cX5_call 122 = .ok (.getfield 9, 3) := by decide +kernel
theorem dX5_call_125 : decode cX5_call 125 = .ok (.iload_n 2, 1) := by decide +kernel
theorem dX5_call_126 : decode cX5_call 126 = .ok (.invokestatic 92, 3) := by decide +kernel
theorem dX5_call_129 : decode cX5_call 129 = .ok (.invokevirtual 100, 3) := by decide +kernel
theorem dX5_call_132 : decode cX5_call 132 = .ok (.ireturn, 1) := by decide +kernel
theorem dX5_grade_0 : decode cX5_grade 0 = .ok (.aload_n 0, 1) := by decide +kernel
theorem dX5_grade_1 : decode cX5_grade 1 = .ok (.iload_n 1, 1) := by decide +kernel
theorem dX5_grade_2 : decode cX5_grade 2 = .ok (.iconst 0, 1) := by decide +kernel
theorem dX5_grade_3 : decode cX5_grade 3 = .ok (.bipush 6, 2) := by decide +kernel
theorem dX5_grade_5 : decode cX5_grade 5 = .ok (.invokestatic 64, 3) := by decide +kernel
theorem dX5_grade_8 : decode cX5_grade 8 = .ok (.ifCond .eq 12, 3) := by decide +kernel
theorem dX5_grade_11 : decode cX5_grade 11 = .ok (.aload_n 0, 1) := by decide +kernel
theorem dX5_grade_12 : decode cX5_grade 12 = .ok (.iload_n 2, 1) := by decide +kernel
theorem dX5_grade_13 : decode cX5_grade 13 = .ok (.iload_n 3, 1) := by decide +kernel
theorem dX5_grade_14 : decode cX5_grade 14 = .ok (.invokevirtual 96, 3) := by decide +kernel
theorem dX5_grade_17 : decode cX5_grade 17 = .ok (.ifCond .ne 7, 3) := by decide +kernel
theorem dX5_grade_20 : decode cX5_grade 20 = .ok (.iconst 1, 1) := by decide +kernel
theorem dX5_grade_21 : decode cX5_grade 21 = .ok (.goto 33, 3) := by decide +kernel
theorem dX5_grade_24 : decode cX5_grade 24 = .ok (.iload 4, 2) := by decide +kernel
theorem dX5_grade_26 : decode cX5_grade 26 = .ok (.bipush (-5), 2) := by decide +kernel
theorem dX5_grade_28 : decode cX5_grade 28 = .ok (.iconst 5, 1) := by decide +kernel
theorem dX5_grade_29 : decode cX5_grade 29 = .ok (.invokestatic 64, 3) := by decide +kernel
theorem dX5_grade_32 : decode cX5_grade 32 = .ok (.ifCond .ne 7, 3) := by decide +kernel
theorem dX5_grade_35 : decode cX5_grade 35 = .ok (.iconst 2, 1) := by decide +kernel
theorem dX5_grade_36 : decode cX5_grade 36 = .ok (.goto 18, 3) := by decide +kernel
theorem dX5_grade_39 : decode cX5_grade 39 = .ok (.aload_n 0, 1) := by decide +kernel
theorem dX5_grade_40 : decode cX5_grade 40 = .ok (.getfield 13, 3) := by decide +kernel
theorem dX5_grade_43 : decode cX5_grade 43 = .ok (.iload_n 2, 1) := by decide +kernel
theorem dX5_grade_44 : decode cX5_grade 44 = .ok (.iaload, 1) := by decide +kernel
theorem dX5_grade_45 : decode cX5_grade 45 = .ok (.iconst 2, 1) := by decide +kernel
theorem dX5_grade_46 : decode cX5_grade 46 = .ok (.if_icmp .eq 7, 3) := by decide +kernel
theorem dX5_grade_49 : decode cX5_grade 49 = .ok (.iconst 3, 1) := by decide +kernel
theorem dX5_grade_50 : decode cX5_grade 50 = .ok (.goto 4, 3) := by decide +kernel
theorem dX5_grade_53 : decode cX5_grade 53 = .ok (.iconst 0, 1) := by decide +kernel
theorem dX5_grade_54 : decode cX5_grade 54 = .ok (.putfield 58, 3) := by decide +kernel
theorem dX5_grade_57 : decode cX5_grade 57 = .ok (.aload_n 0, 1) := by decide +kernel
theorem dX5_grade_58 : decode cX5_grade 58 = .ok (.getfield 58, 3) := by decide +kernel
theorem dX5_grade_61 : decode cX5_grade 61 = .ok (.ifCond .ne 21, 3) := by decide +kernel
theorem dX5_grade_64 : decode cX5_grade 64 = .ok (.aload_n 0, 1) := by decide +kernel
theorem dX5_grade_65 : decode cX5_grade 65 = .ok (.getfield 45, 3) := by decide +kernel
theorem dX5_grade_68 : decode cX5_grade 68 = .ok (.sipush 144, 3) := by decide +kernel
theorem dX5_grade_71 : decode cX5_grade 71 = .ok (.iload_n 1, 1) := by decide +kernel
theorem dX5_grade_72 : decode cX5_grade 72 = .ok (.imul, 1) := by decide +kernel
theorem dX5_grade_73 : decode cX5_grade 73 = .ok (.iload_n 2, 1) := by decide +kernel
theorem dX5_grade_74 : decode cX5_grade 74 = .ok (.iload_n 3, 1) := by decide +kernel
theorem dX5_grade_75 : decode cX5_grade 75 = .ok (.invokestatic 92, 3) := by decide +kernel
theorem dX5_grade_78 : decode cX5_grade 78 = .ok (.iadd, 1) := by decide +kernel
theorem dX5_grade_79 : decode cX5_grade 79 = .ok (.iload 4, 2) := by decide +kernel
theorem dX5_grade_81 : decode cX5_grade 81 = .ok (.iastore, 1) := by decide +kernel
theorem dX5_grade_82 : decode cX5_grade 82 = .ok (.return_, 1) := by decide +kernel
theorem dX5_component_0 : decode cX5_component 0 = .ok (.aload_n 0, 1) := by decide +kernel
theorem dX5_component_1 : decode cX5_component 1 = .ok (.iload_n 1, 1) := by decide +kernel
theorem dX5_component_2 : decode cX5_component 2 = .ok (.iconst 0, 1) := by decide +kernel
theorem dX5_component_3 : decode cX5_component 3 = .ok (.bipush 6, 2) := by decide +kernel
theorem dX5_component_5 : decode cX5_component 5 = .ok (.invokestatic 64, 3) := by decide +kernel
theorem dX5_component_8 : decode cX5_component 8 = .ok (.ifCond .eq 20, 3) := by decide +kernel
theorem dX5_component_11 : decode cX5_component 11 = .ok (.aload_n 0, 1) := by decide +kernel
theorem dX5_component_12 : decode cX5_component 12 = .ok (.iload_n 2, 1) := by decide +kernel
theorem dX5_component_13 : decode cX5_component 13 = .ok (.invokevirtual 68, 3) := by decide +kernel
theorem dX5_component_16 : decode cX5_component 16 = .ok (.ifCond .eq 12, 3) := by decide +kernel
theorem dX5_component_19 : decode cX5_component 19 = .ok (.iload_n 3, 1) := by decide +kernel
theorem dX5_component_20 : decode cX5_component 20 = .ok (.iconst 0, 1) := by decide +kernel
theorem dX5_component_21 : decode cX5_component 21 = .ok (.iconst 2, 1) := by decide +kernel
theorem dX5_component_22 : decode cX5_component 22 = .ok (.invokestatic 64, 3) := by decide +kernel
theorem dX5_component_25 : decode cX5_component 25 = .ok (.ifCond .ne 7, 3) := by decide +kernel
theorem dX5_component_28 : decode cX5_component 28 = .ok (.iconst 1, 1) := by decide +kernel
theorem dX5_component_29 : decode cX5_component 29 = .ok (.goto 33, 3) := by decide +kernel
theorem dX5_component_32 : decode cX5_component 32 = .ok (.iload 4, 2) := by decide +kernel
theorem dX5_component_34 : decode cX5_component 34 = .ok (.iconst 0, 1) := by decide +kernel
theorem dX5_component_35 : decode cX5_component 35 = .ok (.bipush 40, 2) := by decide +kernel
theorem dX5_component_37 : decode cX5_component 37 = .ok (.invokestatic 64, 3) := by decide +kernel
theorem dX5_component_40 : decode cX5_component 40 = .ok (.ifCond .ne 7, 3) := by decide +kernel
theorem dX5_component_43 : decode cX5_component 43 = .ok (.iconst 2, 1) := by decide +kernel
theorem dX5_component_44 : decode cX5_component 44 = .ok (.goto 18, 3) := by decide +kernel
theorem dX5_component_47 : decode cX5_component 47 = .ok (.aload_n 0, 1) := by decide +kernel
theorem dX5_component_48 : decode cX5_component 48 = .ok (.getfield 13, 3) := by decide +kernel
theorem dX5_component_51 : decode cX5_component 51 = .ok (.iload_n 2, 1) := by decide +kernel
theorem dX5_component_52 : decode cX5_component 52 = .ok (.iaload, 1) := by decide +kernel
theorem dX5_component_53 : decode cX5_component 53 = .ok (.iconst 2, 1) := by decide +kernel
theorem dX5_component_54 : decode cX5_component 54 = .ok (.if_icmp .eq 7, 3) := by decide +kernel
theorem dX5_component_57 : decode cX5_component 57 = .ok (.iconst 3, 1) := by decide +kernel
theorem dX5_component_58 : decode cX5_component 58 = .ok (.goto 4, 3) := by decide +kernel
theorem dX5_component_61 : decode cX5_component 61 = .ok (.iconst 0, 1) := by decide +kernel
theorem dX5_component_62 : decode cX5_component 62 = .ok (.putfield 58, 3) := by decide +kernel
theorem dX5_component_65 : decode cX5_component 65 = .ok (.aload_n 0, 1) := by decide +kernel
theorem dX5_component_66 : decode cX5_component 66 = .ok (.getfield 58, 3) := by decide +kernel
theorem dX5_component_69 : decode cX5_component 69 = .ok (.ifCond .ne 20, 3) := by decide +kernel
theorem dX5_component_72 : decode cX5_component 72 = .ok (.aload_n 0, 1) := by decide +kernel
theorem dX5_component_73 : decode cX5_component 73 = .ok (.getfield 48, 3) := by decide +kernel
theorem dX5_component_76 : decode cX5_component 76 = .ok (.bipush 36, 2) := by decide +kernel
theorem dX5_component_78 : decode cX5_component 78 = .ok (.iload_n 1, 1) := by decide +kernel
theorem dX5_component_79 : decode cX5_component 79 = .ok (.imul, 1) := by decide +kernel
theorem dX5_component_80 : decode cX5_component 80 = .ok (.iconst 3, 1) := by decide +kernel
theorem dX5_component_81 : decode cX5_component 81 = .ok (.iload_n 2, 1) := by decide +kernel
theorem dX5_component_82 : decode cX5_component 82 = .ok (.imul, 1) := by decide +kernel
theorem dX5_component_83 : decode cX5_component 83 = .ok (.iadd, 1) := by decide +kernel
theorem dX5_component_84 : decode cX5_component 84 = .ok (.iload_n 3, 1) := by decide +kernel
theorem dX5_component_85 : decode cX5_component 85 = .ok (.iadd, 1) := by decide +kernel
theorem dX5_component_86 : decode cX5_component 86 = .ok (.iload 4, 2) := by decide +kernel
theorem dX5_component_88 : decode cX5_component 88 = .ok (.iastore, 1) := by decide +kernel
theorem dX5_component_89 : decode cX5_component 89 = .ok (.return_, 1) := by decide +kernel
theorem dX5_value_0 : decode cX5_value 0 = .ok (.iload_n 1, 1) := by decide +kernel
theorem dX5_value_1 : decode cX5_value 1 = .ok (.iconst 0, 1) := by decide +kernel
theorem dX5_value_2 : decode cX5_value 2 = .ok (.iconst 2, 1) := by decide +kernel
theorem dX5_value_3 : decode cX5_value 3 = .ok (.invokestatic 64, 3) := by decide +kernel
theorem dX5_value_6 : decode cX5_value 6 = .ok (.ifCond .eq 48, 3) := by decide +kernel
theorem dX5_value_9 : decode cX5_value 9 = .ok (.iload_n 2, 1) := by decide +kernel
theorem dX5_value_10 : decode cX5_value 10 = .ok (.iconst 0, 1) := by decide +kernel
theorem dX5_value_11 : decode cX5_value 11 = .ok (.bipush 6, 2) := by decide +kernel
theorem dX5_value_13 : decode cX5_value 13 = .ok (.invokestatic 64, 3) := by decide +kernel
theorem dX5_value_16 : decode cX5_value 16 = .ok (.ifCond .eq 38, 3) := by decide +kernel
theorem dX5_value_19 : decode cX5_value 19 = .ok (.iload_n 3, 1) := by decide +kernel
theorem dX5_value_20 : decode cX5_value 20 = .ok (.iload_n 2, 1) := by decide +kernel
theorem dX5_value_21 : decode cX5_value 21 = .ok (.bipush 6, 2) := by decide +kernel
theorem dX5_value_23 : decode cX5_value 23 = .ok (.if_icmp .ne 7, 3) := by decide +kernel
theorem dX5_value_26 : decode cX5_value 26 = .ok (.iconst 0, 1) := by decide +kernel
theorem dX5_value_27 : decode cX5_value 27 = .ok (.goto 4, 3) := by decide +kernel
theorem dX5_value_30 : decode cX5_value 30 = .ok (.iconst 1, 1) := by decide +kernel
theorem dX5_value_31 : decode cX5_value 31 = .ok (.iconst 4, 1) := by decide +kernel
theorem dX5_value_32 : decode cX5_value 32 = .ok (.invokestatic 64, 3) := by decide +kernel
theorem dX5_value_35 : decode cX5_value 35 = .ok (.ifCond .eq 19, 3) := by decide +kernel
theorem dX5_value_38 : decode cX5_value 38 = .ok (.iload 4, 2) := by decide +kernel
theorem dX5_value_40 : decode cX5_value 40 = .ok (.iconst 0, 1) := by decide +kernel
theorem dX5_value_41 : decode cX5_value 41 = .ok (.sipush 9999, 3) := by decide +kernel
theorem dX5_value_44 : decode cX5_value 44 = .ok (.invokestatic 64, 3) := by decide +kernel
theorem dX5_value_47 : decode cX5_value 47 = .ok (.ifCond .eq 7, 3) := by decide +kernel
theorem dX5_value_50 : decode cX5_value 50 = .ok (.iconst 1, 1) := by decide +kernel
theorem dX5_value_51 : decode cX5_value 51 = .ok (.goto 4, 3) := by decide +kernel
theorem dX5_value_54 : decode cX5_value 54 = .ok (.iconst 0, 1) := by decide +kernel
theorem dX5_value_55 : decode cX5_value 55 = .ok (.istore 5, 2) := by decide +kernel
theorem dX5_value_57 : decode cX5_value 57 = .ok (.aload_n 0, 1) := by decide +kernel
theorem dX5_value_58 : decode cX5_value 58 = .ok (.iload 5, 2) := by decide +kernel
theorem dX5_value_60 : decode cX5_value 60 = .ok (.ifCond .eq 7, 3) := by decide +kernel
theorem dX5_value_63 : decode cX5_value 63 = .ok (.iconst 0, 1) := by decide +kernel
theorem dX5_value_64 : decode cX5_value 64 = .ok (.goto 4, 3) := by decide +kernel
theorem dX5_value_67 : decode cX5_value 67 = .ok (.iconst 1, 1) := by decide +kernel
theorem dX5_value_68 : decode cX5_value 68 = .ok (.putfield 58, 3) := by decide +kernel
theorem dX5_value_71 : decode cX5_value 71 = .ok (.aload_n 0, 1) := by decide +kernel
theorem dX5_value_72 : decode cX5_value 72 = .ok (.getfield 58, 3) := by decide +kernel
theorem dX5_value_75 : decode cX5_value 75 = .ok (.ifCond .le 5, 3) := by decide +kernel
theorem dX5_value_78 : decode cX5_value 78 = .ok (.iconst 0, 1) := by decide +kernel
theorem dX5_value_79 : decode cX5_value 79 = .ok (.ireturn, 1) := by decide +kernel
theorem dX5_value_80 : decode cX5_value 80 = .ok (.iload_n 1, 1) := by decide +kernel
theorem dX5_value_81 : decode cX5_value 81 = .ok (.iload_n 2, 1) := by decide +kernel
theorem dX5_value_82 : decode cX5_value 82 = .ok (.iload_n 3, 1) := by decide +kernel
theorem dX5_value_83 : decode cX5_value 83 = .ok (.invokestatic 104, 3) := by decide +kernel
theorem dX5_value_86 : decode cX5_value 86 = .ok (.istore 6, 2) := by decide +kernel
theorem dX5_value_88 : decode cX5_value 88 = .ok (.aload_n 0, 1) := by decide +kernel
theorem dX5_value_89 : decode cX5_value 89 = .ok (.getfield 51, 3) := by decide +kernel
theorem dX5_value_92 : decode cX5_value 92 = .ok (.iload 6, 2) := by decide +kernel
theorem dX5_value_94 : decode cX5_value 94 = .ok (.iaload, 1) := by decide +kernel
theorem dX5_value_95 : decode cX5_value 95 = .ok (.istore 7, 2) := by decide +kernel
theorem dX5_value_97 : decode cX5_value 97 = .ok (.aload_n 0, 1) := by decide +kernel
theorem dX5_value_98 : decode cX5_value 98 = .ok (.getfield 51, 3) := by decide +kernel
theorem dX5_value_101 : decode cX5_value 101 = .ok (.iload 6, 2) := by decide +kernel
theorem dX5_value_103 : decode cX5_value 103 = .ok (.iload 4, 2) := by decide +kernel
theorem dX5_value_105 : decode cX5_value 105 = .ok (.iastore, 1) := by decide +kernel
theorem dX5_value_106 : decode cX5_value 106 = .ok (.iload 7, 2) := by decide +kernel
theorem dX5_value_108 : decode cX5_value 108 = .ok (.ireturn, 1) := by decide +kernel
theorem dX5_valueAt_0 : decode cX5_valueAt 0 = .ok (.bipush 29, 2) := by decide +kernel
theorem dX5_valueAt_2 : decode cX5_valueAt 2 = .ok (.iload_n 0, 1) := by decide +kernel
theorem dX5_valueAt_3 : decode cX5_valueAt 3 = .ok (.imul, 1) := by decide +kernel
theorem dX5_valueAt_4 : decode cX5_valueAt 4 = .ok (.iload_n 1, 1) := by decide +kernel
theorem dX5_valueAt_5 : decode cX5_valueAt 5 = .ok (.bipush 6, 2) := by decide +kernel
theorem dX5_valueAt_7 : decode cX5_valueAt 7 = .ok (.if_icmp .ne 10, 3) := by decide +kernel
theorem dX5_valueAt_10 : decode cX5_valueAt 10 = .ok (.bipush 24, 2) := by decide +kernel
theorem dX5_valueAt_12 : decode cX5_valueAt 12 = .ok (.iload_n 2, 1) := by decide +kernel
theorem dX5_valueAt_13 : decode cX5_valueAt 13 = .ok (.iadd, 1) := by decide +kernel
theorem dX5_valueAt_14 : decode cX5_valueAt 14 = .ok (.goto 10, 3) := by decide +kernel
theorem dX5_valueAt_17 : decode cX5_valueAt 17 = .ok (.iconst 4, 1) := by decide +kernel
theorem dX5_valueAt_18 : decode cX5_valueAt 18 = .ok (.iload_n 1, 1) := by decide +kernel
theorem dX5_valueAt_19 : decode cX5_valueAt 19 = .ok (.imul, 1) := by decide +kernel
theorem dX5_valueAt_20 : decode cX5_valueAt 20 = .ok (.iload_n 2, 1) := by decide +kernel
theorem dX5_valueAt_21 : decode cX5_valueAt 21 = .ok (.iadd, 1) := by decide +kernel
theorem dX5_valueAt_22 : decode cX5_valueAt 22 = .ok (.iconst 1, 1) := by decide +kernel
theorem dX5_valueAt_23 : decode cX5_valueAt 23 = .ok (.isub, 1) := by decide +kernel
theorem dX5_valueAt_24 : decode cX5_valueAt 24 = .ok (.iadd, 1) := by decide +kernel
theorem dX5_valueAt_25 : decode cX5_valueAt 25 = .ok (.ireturn, 1) := by decide +kernel
theorem dX5_rint_0 : decode cX5_rint 0 = .ok (.dload_n 0, 1) := by decide +kernel
theorem dX5_rint_1 : decode cX5_rint 1 = .ok (.dconst 0, 1) := by decide +kernel
theorem dX5_rint_2 : decode cX5_rint 2 = .ok (.dcmp .g, 1) := by decide +kernel
theorem dX5_rint_3 : decode cX5_rint 3 = .ok (.ifCond .ge 8, 3) := by decide +kernel
theorem dX5_rint_6 : decode cX5_rint 6 = .ok (.dload_n 0, 1) := by decide +kernel
theorem dX5_rint_7 : decode cX5_rint 7 = .ok (.dneg, 1) := by decide +kernel
theorem dX5_rint_8 : decode cX5_rint 8 = .ok (.goto 4, 3) := by decide +kernel
theorem dX5_rint_11 : decode cX5_rint 11 = .ok (.dload_n 0, 1) := by decide +kernel
theorem dX5_rint_12 : decode cX5_rint 12 = .ok (.dstore_n 2, 1) := by decide +kernel
theorem dX5_rint_13 : decode cX5_rint 13 = .ok (.dload_n 2, 1) := by decide +kernel
theorem dX5_rint_14 : decode cX5_rint 14 = .ok (.d2i, 1) := by decide +kernel
theorem dX5_rint_15 : decode cX5_rint 15 = .ok (.istore 4, 2) := by decide +kernel
theorem dX5_rint_17 : decode cX5_rint 17 = .ok (.dload_n 2, 1) := by decide +kernel
theorem dX5_rint_18 : decode cX5_rint 18 = .ok (.iload 4, 2) := by decide +kernel
theorem dX5_rint_20 : decode cX5_rint 20 = .ok (.i2d, 1) := by decide +kernel
theorem dX5_rint_21 : decode cX5_rint 21 = .ok (.dsub, 1) := by decide +kernel
theorem dX5_rint_22 : decode cX5_rint 22 = .ok (.dstore 5, 2) := by decide +kernel
theorem dX5_rint_24 : decode cX5_rint 24 = .ok (.dload 5, 2) := by decide +kernel
theorem dX5_rint_26 : decode cX5_rint 26 = .ok (.ldc2_w 108, 3) := by decide +kernel
theorem dX5_rint_29 : decode cX5_rint 29 = .ok (.dcmp .l, 1) := by decide +kernel
theorem dX5_rint_30 : decode cX5_rint 30 = .ok (.ifCond .gt 20, 3) := by decide +kernel
theorem dX5_rint_33 : decode cX5_rint 33 = .ok (.dload 5, 2) := by decide +kernel
theorem dX5_rint_35 : decode cX5_rint 35 = .ok (.ldc2_w 108, 3) := by decide +kernel
theorem dX5_rint_38 : decode cX5_rint 38 = .ok (.dcmp .l, 1) := by decide +kernel
theorem dX5_rint_39 : decode cX5_rint 39 = .ok (.ifCond .ne 18, 3) := by decide +kernel
theorem dX5_rint_42 : decode cX5_rint 42 = .ok (.iload 4, 2) := by decide +kernel
theorem dX5_rint_44 : decode cX5_rint 44 = .ok (.iconst 2, 1) := by decide +kernel
theorem dX5_rint_45 : decode cX5_rint 45 = .ok (.irem, 1) := by decide +kernel
theorem dX5_rint_46 : decode cX5_rint 46 = .ok (.iconst 1, 1) := by decide +kernel
theorem dX5_rint_47 : decode cX5_rint 47 = .ok (.if_icmp .ne 10, 3) := by decide +kernel
theorem dX5_rint_50 : decode cX5_rint 50 = .ok (.iload 4, 2) := by decide +kernel
theorem dX5_rint_52 : decode cX5_rint 52 = .ok (.iconst 1, 1) := by decide +kernel
theorem dX5_rint_53 : decode cX5_rint 53 = .ok (.iadd, 1) := by decide +kernel
theorem dX5_rint_54 : decode cX5_rint 54 = .ok (.goto 5, 3) := by decide +kernel
theorem dX5_rint_57 : decode cX5_rint 57 = .ok (.iload 4, 2) := by decide +kernel
theorem dX5_rint_59 : decode cX5_rint 59 = .ok (.istore 7, 2) := by decide +kernel
theorem dX5_rint_61 : decode cX5_rint 61 = .ok (.dload_n 0, 1) := by decide +kernel
theorem dX5_rint_62 : decode cX5_rint 62 = .ok (.dconst 0, 1) := by decide +kernel
theorem dX5_rint_63 : decode cX5_rint 63 = .ok (.dcmp .g, 1) := by decide +kernel
theorem dX5_rint_64 : decode cX5_rint 64 = .ok (.ifCond .ge 9, 3) := by decide +kernel
theorem dX5_rint_67 : decode cX5_rint 67 = .ok (.iload 7, 2) := by decide +kernel
theorem dX5_rint_69 : decode cX5_rint 69 = .ok (.ineg, 1) := by decide +kernel
theorem dX5_rint_70 : decode cX5_rint 70 = .ok (.goto 5, 3) := by decide +kernel
theorem dX5_rint_73 : decode cX5_rint 73 = .ok (.iload 7, 2) := by decide +kernel
theorem dX5_rint_75 : decode cX5_rint 75 = .ok (.ireturn, 1) := by decide +kernel
theorem dX5_baseOf_0 : decode cX5_baseOf 0 = .ok (.iload_n 1, 1) := by decide +kernel
theorem dX5_baseOf_1 : decode cX5_baseOf 1 = .ok (.iload_n 2, 1) := by decide +kernel
theorem dX5_baseOf_2 : decode cX5_baseOf 2 = .ok (.invokestatic 92, 3) := by decide +kernel
theorem dX5_baseOf_5 : decode cX5_baseOf 5 = .ok (.istore 4, 2) := by decide +kernel
theorem dX5_baseOf_7 : decode cX5_baseOf 7 = .ok (.iconst 0, 1) := by decide +kernel
theorem dX5_baseOf_8 : decode cX5_baseOf 8 = .ok (.istore 5, 2) := by decide +kernel
theorem dX5_baseOf_10 : decode cX5_baseOf 10 = .ok (.iconst 0, 1) := by decide +kernel
theorem dX5_baseOf_11 : decode cX5_baseOf 11 = .ok (.istore 6, 2) := by decide +kernel
theorem dX5_baseOf_13 : decode cX5_baseOf 13 = .ok (.iconst 0, 1) := by decide +kernel
theorem dX5_baseOf_14 : decode cX5_baseOf 14 = .ok (.istore 7, 2) := by decide +kernel
theorem dX5_baseOf_16 : decode cX5_baseOf 16 = .ok (.iload 7, 2) := by decide +kernel
theorem dX5_baseOf_18 : decode cX5_baseOf 18 = .ok (.iload_n 2, 1) := by decide +kernel
theorem dX5_baseOf_19 : decode cX5_baseOf 19 = .ok (.if_icmp .ge 117, 3) := by decide +kernel
theorem dX5_baseOf_22 : decode cX5_baseOf 22 = .ok (.iload_n 1, 1) := by decide +kernel
theorem dX5_baseOf_23 : decode cX5_baseOf 23 = .ok (.iload 7, 2) := by decide +kernel
theorem dX5_baseOf_25 : decode cX5_baseOf 25 = .ok (.invokestatic 92, 3) := by decide +kernel
theorem dX5_baseOf_28 : decode cX5_baseOf 28 = .ok (.istore 8, 2) := by decide +kernel
theorem dX5_baseOf_30 : decode cX5_baseOf 30 = .ok (.aload_n 0, 1) := by decide +kernel
theorem dX5_baseOf_31 : decode cX5_baseOf 31 = .ok (.getfield 23, 3) := by decide +kernel
theorem dX5_baseOf_34 : decode cX5_baseOf 34 = .ok (.iload 8, 2) := by decide +kernel
theorem dX5_baseOf_36 : decode cX5_baseOf 36 = .ok (.iaload, 1) := by decide +kernel
theorem dX5_baseOf_37 : decode cX5_baseOf 37 = .ok (.bipush 6, 2) := by decide +kernel
theorem dX5_baseOf_39 : decode cX5_baseOf 39 = .ok (.if_icmp .ne 7, 3) := by decide +kernel
theorem dX5_baseOf_42 : decode cX5_baseOf 42 = .ok (.iconst 1, 1) := by decide +kernel
theorem dX5_baseOf_43 : decode cX5_baseOf 43 = .ok (.goto 4, 3) := by decide +kernel
theorem dX5_baseOf_46 : decode cX5_baseOf 46 = .ok (.iconst 0, 1) := by decide +kernel
theorem dX5_baseOf_47 : decode cX5_baseOf 47 = .ok (.istore 9, 2) := by decide +kernel
theorem dX5_baseOf_49 : decode cX5_baseOf 49 = .ok (.iload 6, 2) := by decide +kernel
theorem dX5_baseOf_51 : decode cX5_baseOf 51 = .ok (.iload 9, 2) := by decide +kernel
theorem dX5_baseOf_53 : decode cX5_baseOf 53 = .ok (.aload_n 0, 1) := by decide +kernel
theorem dX5_baseOf_54 : decode cX5_baseOf 54 = .ok (.getfield 23, 3) := by decide +kernel
theorem dX5_baseOf_57 : decode cX5_baseOf 57 = .ok (.iload 4, 2) := by decide +kernel
theorem dX5_baseOf_59 : decode cX5_baseOf 59 = .ok (.iaload, 1) := by decide +kernel
theorem dX5_baseOf_60 : decode cX5_baseOf 60 = .ok (.bipush 6, 2) := by decide +kernel
theorem dX5_baseOf_62 : decode cX5_baseOf 62 = .ok (.if_icmp .ne 7, 3) := by decide +kernel
theorem dX5_baseOf_65 : decode cX5_baseOf 65 = .ok (.iconst 1, 1) := by decide +kernel
theorem dX5_baseOf_66 : decode cX5_baseOf 66 = .ok (.goto 4, 3) := by decide +kernel
theorem dX5_baseOf_69 : decode cX5_baseOf 69 = .ok (.iconst 0, 1) := by decide +kernel
theorem dX5_baseOf_70 : decode cX5_baseOf 70 = .ok (.if_icmp .ne 7, 3) := by decide +kernel
theorem dX5_baseOf_73 : decode cX5_baseOf 73 = .ok (.iconst 1, 1) := by decide +kernel
theorem dX5_baseOf_74 : decode cX5_baseOf 74 = .ok (.goto 4, 3) := by decide +kernel
theorem dX5_baseOf_77 : decode cX5_baseOf 77 = .ok (.iconst 0, 1) := by decide +kernel
theorem dX5_baseOf_78 : decode cX5_baseOf 78 = .ok (.iadd, 1) := by decide +kernel
theorem dX5_baseOf_79 : decode cX5_baseOf 79 = .ok (.istore 6, 2) := by decide +kernel
theorem dX5_baseOf_81 : decode cX5_baseOf 81 = .ok (.iload 5, 2) := by decide +kernel
theorem dX5_baseOf_83 : decode cX5_baseOf 83 = .ok (.iload 9, 2) := by decide +kernel
theorem dX5_baseOf_85 : decode cX5_baseOf 85 = .ok (.ifCond .ne 41, 3) := by decide +kernel
theorem dX5_baseOf_88 : decode cX5_baseOf 88 = .ok (.aload_n 0, 1) := by decide +kernel
theorem dX5_baseOf_89 : decode cX5_baseOf 89 = .ok (.getfield 23, 3) := by decide +kernel
theorem dX5_baseOf_92 : decode cX5_baseOf 92 = .ok (.iload 8, 2) := by decide +kernel
theorem dX5_baseOf_94 : decode cX5_baseOf 94 = .ok (.iaload, 1) := by decide +kernel
theorem dX5_baseOf_95 : decode cX5_baseOf 95 = .ok (.aload_n 0, 1) := by decide +kernel
theorem dX5_baseOf_96 : decode cX5_baseOf 96 = .ok (.getfield 23, 3) := by decide +kernel
theorem dX5_baseOf_99 : decode cX5_baseOf 99 = .ok (.iload 4, 2) := by decide +kernel
theorem dX5_baseOf_101 : decode cX5_baseOf 101 = .ok (.iaload, 1) := by decide +kernel
theorem dX5_baseOf_102 : decode cX5_baseOf 102 = .ok (.if_icmp .ne 24, 3) := by decide +kernel
theorem dX5_baseOf_105 : decode cX5_baseOf 105 = .ok (.aload_n 0, 1) := by decide +kernel
theorem dX5_baseOf_106 : decode cX5_baseOf 106 = .ok (.getfield 26, 3) := by decide +kernel
theorem dX5_baseOf_109 : decode cX5_baseOf 109 = .ok (.iload 8, 2) := by decide +kernel
theorem dX5_baseOf_111 : decode cX5_baseOf 111 = .ok (.iaload, 1) := by decide +kernel
theorem dX5_baseOf_112 : decode cX5_baseOf 112 = .ok (.aload_n 0, 1) := by decide +kernel
theorem dX5_baseOf_113 : decode cX5_baseOf 113 = .ok (.getfield 26, 3) := by decide +kernel
theorem dX5_baseOf_116 : decode cX5_baseOf 116 = .ok (.iload 4, 2) := by decide +kernel
theorem dX5_baseOf_118 : decode cX5_baseOf 118 = .ok (.iaload, 1) := by decide +kernel
theorem dX5_baseOf_119 : decode cX5_baseOf 119 = .ok (.if_icmp .ne 7, 3) := by decide +kernel
theorem dX5_baseOf_122 : decode cX5_baseOf 122 = .ok (.iconst 1, 1) := by decide +kernel
theorem dX5_baseOf_123 : decode cX5_baseOf 123 = .ok (.goto 4, 3) := by decide +kernel
theorem dX5_baseOf_126 : decode cX5_baseOf 126 = .ok (.iconst 0, 1) := by decide +kernel
theorem dX5_baseOf_127 : decode cX5_baseOf 127 = .ok (.iadd, 1) := by decide +kernel
theorem dX5_baseOf_128 : decode cX5_baseOf 128 = .ok (.istore 5, 2) := by decide +kernel
theorem dX5_baseOf_130 : decode cX5_baseOf 130 = .ok (.iinc 7 1, 3) := by decide +kernel
theorem dX5_baseOf_133 : decode cX5_baseOf 133 = .ok (.goto (-117), 3) := by decide +kernel
theorem dX5_baseOf_136 : decode cX5_baseOf 136 = .ok (.aload_n 0, 1) := by decide +kernel
theorem dX5_baseOf_137 : decode cX5_baseOf 137 = .ok (.getfield 23, 3) := by decide +kernel
theorem dX5_baseOf_140 : decode cX5_baseOf 140 = .ok (.iload 4, 2) := by decide +kernel
theorem dX5_baseOf_142 : decode cX5_baseOf 142 = .ok (.iaload, 1) := by decide +kernel
theorem dX5_baseOf_143 : decode cX5_baseOf 143 = .ok (.bipush 6, 2) := by decide +kernel
theorem dX5_baseOf_145 : decode cX5_baseOf 145 = .ok (.if_icmp .ne 32, 3) := by decide +kernel
theorem dX5_baseOf_148 : decode cX5_baseOf 148 = .ok (.iload 6, 2) := by decide +kernel
theorem dX5_baseOf_150 : decode cX5_baseOf 150 = .ok (.iconst 3, 1) := by decide +kernel
theorem dX5_baseOf_151 : decode cX5_baseOf 151 = .ok (.if_icmp .lt 7, 3) := by decide +kernel
theorem dX5_baseOf_154 : decode cX5_baseOf 154 = .ok (.iconst 0, 1) := by decide +kernel
theorem dX5_baseOf_155 : decode cX5_baseOf 155 = .ok (.goto 21, 3) := by decide +kernel
theorem dX5_baseOf_158 : decode cX5_baseOf 158 = .ok (.aload_n 0, 1) := by decide +kernel
theorem dX5_baseOf_159 : decode cX5_baseOf 159 = .ok (.getfield 51, 3) := by decide +kernel
theorem dX5_baseOf_162 : decode cX5_baseOf 162 = .ok (.iload_n 3, 1) := by decide +kernel
theorem dX5_baseOf_163 : decode cX5_baseOf 163 = .ok (.bipush 6, 2) := by decide +kernel
theorem dX5_baseOf_165 : decode cX5_baseOf 165 = .ok (.aload_n 0, 1) := by decide +kernel
theorem dX5_baseOf_166 : decode cX5_baseOf 166 = .ok (.getfield 26, 3) := by decide +kernel
theorem dX5_baseOf_169 : decode cX5_baseOf 169 = .ok (.iload 4, 2) := by decide +kernel
theorem dX5_baseOf_171 : decode cX5_baseOf 171 = .ok (.iaload, 1) := by decide +kernel
theorem dX5_baseOf_172 : decode cX5_baseOf 172 = .ok (.invokestatic 104, 3) := by decide +kernel
theorem dX5_baseOf_175 : decode cX5_baseOf 175 = .ok (.iaload, 1) := by decide +kernel
theorem dX5_baseOf_176 : decode cX5_baseOf 176 = .ok (.ireturn, 1) := by decide +kernel
theorem dX5_baseOf_177 : decode cX5_baseOf 177 = .ok (.iload 5, 2) := by decide +kernel
theorem dX5_baseOf_179 : decode cX5_baseOf 179 = .ok (.iconst 2, 1) := by decide +kernel
theorem dX5_baseOf_180 : decode cX5_baseOf 180 = .ok (.if_icmp .ge 10, 3) := by decide +kernel
theorem dX5_baseOf_183 : decode cX5_baseOf 183 = .ok (.iload 6, 2) := by decide +kernel
theorem dX5_baseOf_185 : decode cX5_baseOf 185 = .ok (.bipush 7, 2) := by decide +kernel
theorem dX5_baseOf_187 : decode cX5_baseOf 187 = .ok (.if_icmp .lt 5, 3) := by decide +kernel
theorem dX5_baseOf_190 : decode cX5_baseOf 190 = .ok (.iconst 0, 1) := by decide +kernel
theorem dX5_baseOf_191 : decode cX5_baseOf 191 = .ok (.ireturn, 1) := by decide +kernel
theorem dX5_baseOf_192 : decode cX5_baseOf 192 = .ok (.aload_n 0, 1) := by decide +kernel
theorem dX5_baseOf_193 : decode cX5_baseOf 193 = .ok (.iload 4, 2) := by decide +kernel
theorem dX5_baseOf_195 : decode cX5_baseOf 195 = .ok (.invokevirtual 100, 3) := by decide +kernel
theorem dX5_baseOf_198 : decode cX5_baseOf 198 = .ok (.istore 7, 2) := by decide +kernel
theorem dX5_baseOf_200 : decode cX5_baseOf 200 = .ok (.iload 7, 2) := by decide +kernel
theorem dX5_baseOf_202 : decode cX5_baseOf 202 = .ok (.iconst 3, 1) := by decide +kernel
theorem dX5_baseOf_203 : decode cX5_baseOf 203 = .ok (.if_icmp .lt 15, 3) := by decide +kernel
theorem dX5_baseOf_206 : decode cX5_baseOf 206 = .ok (.aload_n 0, 1) := by decide +kernel
theorem dX5_baseOf_207 : decode cX5_baseOf 207 = .ok (.getfield 26, 3) := by decide +kernel
theorem dX5_baseOf_210 : decode cX5_baseOf 210 = .ok (.iload 4, 2) := by decide +kernel
theorem dX5_baseOf_212 : decode cX5_baseOf 212 = .ok (.iaload, 1) := by decide +kernel
theorem dX5_baseOf_213 : decode cX5_baseOf 213 = .ok (.iconst 1, 1) := by decide +kernel
theorem dX5_baseOf_214 : decode cX5_baseOf 214 = .ok (.isub, 1) := by decide +kernel
theorem dX5_baseOf_215 : decode cX5_baseOf 215 = .ok (.goto 10, 3) := by decide +kernel
theorem dX5_baseOf_218 : decode cX5_baseOf 218 = .ok (.aload_n 0, 1) := by decide +kernel
theorem dX5_baseOf_219 : decode cX5_baseOf 219 = .ok (.getfield 26, 3) := by decide +kernel
theorem dX5_baseOf_222 : decode cX5_baseOf 222 = .ok (.iload 4, 2) := by decide +kernel
theorem dX5_baseOf_224 : decode cX5_baseOf 224 = .ok (.iaload, 1) := by decide +kernel
theorem dX5_baseOf_225 : decode cX5_baseOf 225 = .ok (.istore 8, 2) := by decide +kernel
theorem dX5_baseOf_227 : decode cX5_baseOf 227 = .ok (.iload 8, 2) := by decide +kernel
theorem dX5_baseOf_229 : decode cX5_baseOf 229 = .ok (.ifCond .ne 7, 3) := by decide +kernel
theorem dX5_baseOf_232 : decode cX5_baseOf 232 = .ok (.iconst 0, 1) := by decide +kernel
theorem dX5_baseOf_233 : decode cX5_baseOf 233 = .ok (.goto 21, 3) := by decide +kernel
theorem dX5_baseOf_236 : decode cX5_baseOf 236 = .ok (.aload_n 0, 1) := by decide +kernel
theorem dX5_baseOf_237 : decode cX5_baseOf 237 = .ok (.getfield 51, 3) := by decide +kernel
theorem dX5_baseOf_240 : decode cX5_baseOf 240 = .ok (.iload_n 3, 1) := by decide +kernel
theorem dX5_baseOf_241 : decode cX5_baseOf 241 = .ok (.aload_n 0, 1) := by decide +kernel
theorem dX5_baseOf_242 : decode cX5_baseOf 242 = .ok (.getfield 23, 3) := by decide +kernel
theorem dX5_baseOf_245 : decode cX5_baseOf 245 = .ok (.iload 4, 2) := by decide +kernel
theorem dX5_baseOf_247 : decode cX5_baseOf 247 = .ok (.iaload, 1) := by decide +kernel
theorem dX5_baseOf_248 : decode cX5_baseOf 248 = .ok (.iload 8, 2) := by decide +kernel
theorem dX5_baseOf_250 : decode cX5_baseOf 250 = .ok (.invokestatic 104, 3) := by decide +kernel
theorem dX5_baseOf_253 : decode cX5_baseOf 253 = .ok (.iaload, 1) := by decide +kernel
theorem dX5_baseOf_254 : decode cX5_baseOf 254 = .ok (.istore 9, 2) := by decide +kernel
theorem dX5_baseOf_256 : decode cX5_baseOf 256 = .ok (.iload 7, 2) := by decide +kernel
theorem dX5_baseOf_258 : decode cX5_baseOf 258 = .ok (.iconst 2, 1) := by decide +kernel
theorem dX5_baseOf_259 : decode cX5_baseOf 259 = .ok (.if_icmp .ne 16, 3) := by decide +kernel
theorem dX5_baseOf_262 : decode cX5_baseOf 262 = .ok (.iload 9, 2) := by decide +kernel
theorem dX5_baseOf_264 : decode cX5_baseOf 264 = .ok (.i2d, 1) := by decide +kernel
theorem dX5_baseOf_265 : decode cX5_baseOf 265 = .ok (.ldc2_w 110, 3) := by decide +kernel
theorem dX5_baseOf_268 : decode cX5_baseOf 268 = .ok (.dmul, 1) := by decide +kernel
theorem dX5_baseOf_269 : decode cX5_baseOf 269 = .ok (.invokestatic 112, 3) := by decide +kernel
theorem dX5_baseOf_272 : decode cX5_baseOf 272 = .ok (.goto 5, 3) := by decide +kernel
end
section
theorem dX5_baseOf_275 : decode cX5_baseOf 275 = .ok (.iload 9, 2) := by decide +kernel
theorem dX5_baseOf_277 : decode cX5_baseOf 277 = .ok (.istore 9, 2) := by decide +kernel
theorem dX5_baseOf_279 : decode cX5_baseOf 279 = .ok (.aload_n 0, 1) := by decide +kernel
theorem dX5_baseOf_280 : decode cX5_baseOf 280 = .ok (.getfield 35, 3) := by decide +kernel
theorem dX5_baseOf_283 : decode cX5_baseOf 283 = .ok (.iload 4, 2) := by decide +kernel
theorem dX5_baseOf_285 : decode cX5_baseOf 285 = .ok (.baload, 1) := by decide +kernel
theorem dX5_baseOf_286 : decode cX5_baseOf 286 = .ok (.ifCond .eq 16, 3) := by decide +kernel
theorem dX5_baseOf_289 : decode cX5_baseOf 289 = .ok (.iload 9, 2) := by decide +kernel
theorem dX5_baseOf_291 : decode cX5_baseOf 291 = .ok (.i2d, 1) := by decide +kernel
theorem dX5_baseOf_292 : decode cX5_baseOf 292 = .ok (.ldc2_w 110, 3) := by decide +kernel
theorem dX5_baseOf_295 : decode cX5_baseOf 295 = .ok (.dmul, 1) := by decide +kernel
theorem dX5_baseOf_296 : decode cX5_baseOf 296 = .ok (.invokestatic 112, 3) := by decide +kernel
theorem dX5_baseOf_299 : decode cX5_baseOf 299 = .ok (.goto 5, 3) := by decide +kernel
theorem dX5_baseOf_302 : decode cX5_baseOf 302 = .ok (.iload 9, 2) := by decide +kernel
theorem dX5_baseOf_304 : decode cX5_baseOf 304 = .ok (.istore 9, 2) := by decide +kernel
theorem dX5_baseOf_306 : decode cX5_baseOf 306 = .ok (.aload_n 0, 1) := by decide +kernel
theorem dX5_baseOf_307 : decode cX5_baseOf 307 = .ok (.getfield 39, 3) := by decide +kernel
theorem dX5_baseOf_310 : decode cX5_baseOf 310 = .ok (.iload 4, 2) := by decide +kernel
theorem dX5_baseOf_312 : decode cX5_baseOf 312 = .ok (.baload, 1) := by decide +kernel
theorem dX5_baseOf_313 : decode cX5_baseOf 313 = .ok (.ifCond .eq 16, 3) := by decide +kernel
theorem dX5_baseOf_316 : decode cX5_baseOf 316 = .ok (.iload 9, 2) := by decide +kernel
theorem dX5_baseOf_318 : decode cX5_baseOf 318 = .ok (.i2d, 1) := by decide +kernel
theorem dX5_baseOf_319 : decode cX5_baseOf 319 = .ok (.ldc2_w 116, 3) := by decide +kernel
theorem dX5_baseOf_322 : decode cX5_baseOf 322 = .ok (.dmul, 1) := by decide +kernel
theorem dX5_baseOf_323 : decode cX5_baseOf 323 = .ok (.invokestatic 112, 3) := by decide +kernel
theorem dX5_baseOf_326 : decode cX5_baseOf 326 = .ok (.goto 5, 3) := by decide +kernel
theorem dX5_baseOf_329 : decode cX5_baseOf 329 = .ok (.iload 9, 2) := by decide +kernel
theorem dX5_baseOf_331 : decode cX5_baseOf 331 = .ok (.ireturn, 1) := by decide +kernel
theorem dX5_clears_0 : decode cX5_clears 0 = .ok (.aload_n 0, 1) := by decide +kernel
theorem dX5_clears_1 : decode cX5_clears 1 = .ok (.iconst 0, 1) := by decide +kernel
theorem dX5_clears_2 : decode cX5_clears 2 = .ok (.putfield 118, 3) := by decide +kernel
theorem dX5_clears_5 : decode cX5_clears 5 = .ok (.aload_n 0, 1) := by decide +kernel
theorem dX5_clears_6 : decode cX5_clears 6 = .ok (.iconst 0, 1) := by decide +kernel
theorem dX5_clears_7 : decode cX5_clears 7 = .ok (.putfield 121, 3) := by decide +kernel
theorem dX5_clears_10 : decode cX5_clears 10 = .ok (.aload_n 0, 1) := by decide +kernel
theorem dX5_clears_11 : decode cX5_clears 11 = .ok (.bipush 99, 2) := by decide +kernel
theorem dX5_clears_13 : decode cX5_clears 13 = .ok (.putfield 124, 3) := by decide +kernel
theorem dX5_clears_16 : decode cX5_clears 16 = .ok (.aload_n 0, 1) := by decide +kernel
theorem dX5_clears_17 : decode cX5_clears 17 = .ok (.bipush (-99), 2) := by decide +kernel
theorem dX5_clears_19 : decode cX5_clears 19 = .ok (.putfield 127, 3) := by decide +kernel
theorem dX5_clears_22 : decode cX5_clears 22 = .ok (.return_, 1) := by decide +kernel
theorem dX5_counts_0 : decode cX5_counts 0 = .ok (.iload_n 1, 1) := by decide +kernel
theorem dX5_counts_1 : decode cX5_counts 1 = .ok (.bipush (-99), 2) := by decide +kernel
theorem dX5_counts_3 : decode cX5_counts 3 = .ok (.if_icmp .eq 63, 3) := by decide +kernel
theorem dX5_counts_6 : decode cX5_counts 6 = .ok (.aload_n 0, 1) := by decide +kernel
theorem dX5_counts_7 : decode cX5_counts 7 = .ok (.dup, 1) := by decide +kernel
theorem dX5_counts_8 : decode cX5_counts 8 = .ok (.getfield 118, 3) := by decide +kernel
theorem dX5_counts_11 : decode cX5_counts 11 = .ok (.iconst 1, 1) := by decide +kernel
theorem dX5_counts_12 : decode cX5_counts 12 = .ok (.iadd, 1) := by decide +kernel
theorem dX5_counts_13 : decode cX5_counts 13 = .ok (.putfield 118, 3) := by decide +kernel
theorem dX5_counts_16 : decode cX5_counts 16 = .ok (.aload_n 0, 1) := by decide +kernel
theorem dX5_counts_17 : decode cX5_counts 17 = .ok (.dup, 1) := by decide +kernel
theorem dX5_counts_18 : decode cX5_counts 18 = .ok (.getfield 121, 3) := by decide +kernel
theorem dX5_counts_21 : decode cX5_counts 21 = .ok (.iload_n 1, 1) := by decide +kernel
theorem dX5_counts_22 : decode cX5_counts 22 = .ok (.iadd, 1) := by decide +kernel
theorem dX5_counts_23 : decode cX5_counts 23 = .ok (.putfield 121, 3) := by decide +kernel
theorem dX5_counts_26 : decode cX5_counts 26 = .ok (.aload_n 0, 1) := by decide +kernel
theorem dX5_counts_27 : decode cX5_counts 27 = .ok (.iload_n 1, 1) := by decide +kernel
theorem dX5_counts_28 : decode cX5_counts 28 = .ok (.aload_n 0, 1) := by decide +kernel
theorem dX5_counts_29 : decode cX5_counts 29 = .ok (.getfield 124, 3) := by decide +kernel
theorem dX5_counts_32 : decode cX5_counts 32 = .ok (.if_icmp .ge 7, 3) := by decide +kernel
theorem dX5_counts_35 : decode cX5_counts 35 = .ok (.iload_n 1, 1) := by decide +kernel
theorem dX5_counts_36 : decode cX5_counts 36 = .ok (.goto 7, 3) := by decide +kernel
theorem dX5_counts_39 : decode cX5_counts 39 = .ok (.aload_n 0, 1) := by decide +kernel
theorem dX5_counts_40 : decode cX5_counts 40 = .ok (.getfield 124, 3) := by decide +kernel
theorem dX5_counts_43 : decode cX5_counts 43 = .ok (.putfield 124, 3) := by decide +kernel
theorem dX5_counts_46 : decode cX5_counts 46 = .ok (.aload_n 0, 1) := by decide +kernel
theorem dX5_counts_47 : decode cX5_counts 47 = .ok (.iload_n 1, 1) := by decide +kernel
theorem dX5_counts_48 : decode cX5_counts 48 = .ok (.aload_n 0, 1) := by decide +kernel
theorem dX5_counts_49 : decode cX5_counts 49 = .ok (.getfield 127, 3) := by decide +kernel
theorem dX5_counts_52 : decode cX5_counts 52 = .ok (.if_icmp .le 7, 3) := by decide +kernel
theorem dX5_counts_55 : decode cX5_counts 55 = .ok (.iload_n 1, 1) := by decide +kernel
theorem dX5_counts_56 : decode cX5_counts 56 = .ok (.goto 7, 3) := by decide +kernel
theorem dX5_counts_59 : decode cX5_counts 59 = .ok (.aload_n 0, 1) := by decide +kernel
theorem dX5_counts_60 : decode cX5_counts 60 = .ok (.getfield 127, 3) := by decide +kernel
theorem dX5_counts_63 : decode cX5_counts 63 = .ok (.putfield 127, 3) := by decide +kernel
theorem dX5_counts_66 : decode cX5_counts 66 = .ok (.return_, 1) := by decide +kernel
theorem dX5_trimmed_0 : decode cX5_trimmed 0 = .ok (.aload_n 0, 1) := by decide +kernel
theorem dX5_trimmed_1 : decode cX5_trimmed 1 = .ok (.getfield 118, 3) := by decide +kernel
theorem dX5_trimmed_4 : decode cX5_trimmed 4 = .ok (.iconst 3, 1) := by decide +kernel
theorem dX5_trimmed_5 : decode cX5_trimmed 5 = .ok (.if_icmp .ge 7, 3) := by decide +kernel
theorem dX5_trimmed_8 : decode cX5_trimmed 8 = .ok (.dconst 0, 1) := by decide +kernel
theorem dX5_trimmed_9 : decode cX5_trimmed 9 = .ok (.goto 26, 3) := by decide +kernel
theorem dX5_trimmed_12 : decode cX5_trimmed 12 = .ok (.aload_n 0, 1) := by decide +kernel
theorem dX5_trimmed_13 : decode cX5_trimmed 13 = .ok (.getfield 121, 3) := by decide +kernel
theorem dX5_trimmed_16 : decode cX5_trimmed 16 = .ok (.aload_n 0, 1) := by decide +kernel
theorem dX5_trimmed_17 : decode cX5_trimmed 17 = .ok (.getfield 124, 3) := by decide +kernel
theorem dX5_trimmed_20 : decode cX5_trimmed 20 = .ok (.isub, 1) := by decide +kernel
theorem dX5_trimmed_21 : decode cX5_trimmed 21 = .ok (.aload_n 0, 1) := by decide +kernel
theorem dX5_trimmed_22 : decode cX5_trimmed 22 = .ok (.getfield 127, 3) := by decide +kernel
theorem dX5_trimmed_25 : decode cX5_trimmed 25 = .ok (.isub, 1) := by decide +kernel
theorem dX5_trimmed_26 : decode cX5_trimmed 26 = .ok (.i2d, 1) := by decide +kernel
theorem dX5_trimmed_27 : decode cX5_trimmed 27 = .ok (.aload_n 0, 1) := by decide +kernel
theorem dX5_trimmed_28 : decode cX5_trimmed 28 = .ok (.getfield 118, 3) := by decide +kernel
theorem dX5_trimmed_31 : decode cX5_trimmed 31 = .ok (.iconst 2, 1) := by decide +kernel
theorem dX5_trimmed_32 : decode cX5_trimmed 32 = .ok (.isub, 1) := by decide +kernel
theorem dX5_trimmed_33 : decode cX5_trimmed 33 = .ok (.i2d, 1) := by decide +kernel
theorem dX5_trimmed_34 : decode cX5_trimmed 34 = .ok (.ddiv, 1) := by decide +kernel
theorem dX5_trimmed_35 : decode cX5_trimmed 35 = .ok (.dreturn, 1) := by decide +kernel
theorem dX5_meanOf_0 : decode cX5_meanOf 0 = .ok (.aload_n 0, 1) := by decide +kernel
theorem dX5_meanOf_1 : decode cX5_meanOf 1 = .ok (.invokevirtual 130, 3) := by decide +kernel
theorem dX5_meanOf_4 : decode cX5_meanOf 4 = .ok (.iconst 0, 1) := by decide +kernel
theorem dX5_meanOf_5 : decode cX5_meanOf 5 = .ok (.istore_n 3, 1) := by decide +kernel
theorem dX5_meanOf_6 : decode cX5_meanOf 6 = .ok (.iload_n 3, 1) := by decide +kernel
theorem dX5_meanOf_7 : decode cX5_meanOf 7 = .ok (.bipush 7, 2) := by decide +kernel
theorem dX5_meanOf_9 : decode cX5_meanOf 9 = .ok (.if_icmp .ge 29, 3) := by decide +kernel
theorem dX5_meanOf_12 : decode cX5_meanOf 12 = .ok (.aload_n 0, 1) := by decide +kernel
theorem dX5_meanOf_13 : decode cX5_meanOf 13 = .ok (.aload_n 0, 1) := by decide +kernel
theorem dX5_meanOf_14 : decode cX5_meanOf 14 = .ok (.getfield 45, 3) := by decide +kernel
theorem dX5_meanOf_17 : decode cX5_meanOf 17 = .ok (.sipush 144, 3) := by decide +kernel
theorem dX5_meanOf_20 : decode cX5_meanOf 20 = .ok (.iload_n 3, 1) := by decide +kernel
theorem dX5_meanOf_21 : decode cX5_meanOf 21 = .ok (.imul, 1) := by decide +kernel
theorem dX5_meanOf_22 : decode cX5_meanOf 22 = .ok (.iload_n 1, 1) := by decide +kernel
theorem dX5_meanOf_23 : decode cX5_meanOf 23 = .ok (.iload_n 2, 1) := by decide +kernel
theorem dX5_meanOf_24 : decode cX5_meanOf 24 = .ok (.invokestatic 92, 3) := by decide +kernel
theorem dX5_meanOf_27 : decode cX5_meanOf 27 = .ok (.iadd, 1) := by decide +kernel
theorem dX5_meanOf_28 : decode cX5_meanOf 28 = .ok (.iaload, 1) := by decide +kernel
theorem dX5_meanOf_29 : decode cX5_meanOf 29 = .ok (.invokevirtual 133, 3) := by decide +kernel
theorem dX5_meanOf_32 : decode cX5_meanOf 32 = .ok (.iinc 3 1, 3) := by decide +kernel
theorem dX5_meanOf_35 : decode cX5_meanOf 35 = .ok (.goto (-29), 3) := by decide +kernel
theorem dX5_meanOf_38 : decode cX5_meanOf 38 = .ok (.aload_n 0, 1) := by decide +kernel
theorem dX5_meanOf_39 : decode cX5_meanOf 39 = .ok (.invokevirtual 137, 3) := by decide +kernel
theorem dX5_meanOf_42 : decode cX5_meanOf 42 = .ok (.dreturn, 1) := by decide +kernel
theorem dX5_scoreOf_0 : decode cX5_scoreOf 0 = .ok (.aload_n 0, 1) := by decide +kernel
theorem dX5_scoreOf_1 : decode cX5_scoreOf 1 = .ok (.iload_n 1, 1) := by decide +kernel
theorem dX5_scoreOf_2 : decode cX5_scoreOf 2 = .ok (.iload_n 2, 1) := by decide +kernel
theorem dX5_scoreOf_3 : decode cX5_scoreOf 3 = .ok (.iload_n 3, 1) := by decide +kernel
theorem dX5_scoreOf_4 : decode cX5_scoreOf 4 = .ok (.invokevirtual 141, 3) := by decide +kernel
theorem dX5_scoreOf_7 : decode cX5_scoreOf 7 = .ok (.istore 4, 2) := by decide +kernel
theorem dX5_scoreOf_9 : decode cX5_scoreOf 9 = .ok (.iload 4, 2) := by decide +kernel
theorem dX5_scoreOf_11 : decode cX5_scoreOf 11 = .ok (.iload 4, 2) := by decide +kernel
theorem dX5_scoreOf_13 : decode cX5_scoreOf 13 = .ok (.i2d, 1) := by decide +kernel
theorem dX5_scoreOf_14 : decode cX5_scoreOf 14 = .ok (.aload_n 0, 1) := by decide +kernel
theorem dX5_scoreOf_15 : decode cX5_scoreOf 15 = .ok (.iload_n 1, 1) := by decide +kernel
theorem dX5_scoreOf_16 : decode cX5_scoreOf 16 = .ok (.iload_n 2, 1) := by decide +kernel
theorem dX5_scoreOf_17 : decode cX5_scoreOf 17 = .ok (.invokevirtual 144, 3) := by decide +kernel
theorem dX5_scoreOf_20 : decode cX5_scoreOf 20 = .ok (.dmul, 1) := by decide +kernel
theorem dX5_scoreOf_21 : decode cX5_scoreOf 21 = .ok (.ldc2_w 148, 3) := by decide +kernel
theorem dX5_scoreOf_24 : decode cX5_scoreOf 24 = .ok (.ddiv, 1) := by decide +kernel
theorem dX5_scoreOf_25 : decode cX5_scoreOf 25 = .ok (.invokestatic 112, 3) := by decide +kernel
theorem dX5_scoreOf_28 : decode cX5_scoreOf 28 = .ok (.iadd, 1) := by decide +kernel
theorem dX5_scoreOf_29 : decode cX5_scoreOf 29 = .ok (.ireturn, 1) := by decide +kernel
theorem dX5_elementsOf_0 : decode cX5_elementsOf 0 = .ok (.iconst 0, 1) := by decide +kernel
theorem dX5_elementsOf_1 : decode cX5_elementsOf 1 = .ok (.istore_n 3, 1) := by decide +kernel
theorem dX5_elementsOf_2 : decode cX5_elementsOf 2 = .ok (.iconst 0, 1) := by decide +kernel
theorem dX5_elementsOf_3 : decode cX5_elementsOf 3 = .ok (.istore 4, 2) := by decide +kernel
theorem dX5_elementsOf_5 : decode cX5_elementsOf 5 = .ok (.iload 4, 2) := by decide +kernel
theorem dX5_elementsOf_7 : decode cX5_elementsOf 7 = .ok (.aload_n 0, 1) := by decide +kernel
theorem dX5_elementsOf_8 : decode cX5_elementsOf 8 = .ok (.getfield 20, 3) := by decide +kernel
theorem dX5_elementsOf_11 : decode cX5_elementsOf 11 = .ok (.iload_n 1, 1) := by decide +kernel
theorem dX5_elementsOf_12 : decode cX5_elementsOf 12 = .ok (.iaload, 1) := by decide +kernel
theorem dX5_elementsOf_13 : decode cX5_elementsOf 13 = .ok (.if_icmp .ge 20, 3) := by decide +kernel
theorem dX5_elementsOf_16 : decode cX5_elementsOf 16 = .ok (.iload_n 3, 1) := by decide +kernel
theorem dX5_elementsOf_17 : decode cX5_elementsOf 17 = .ok (.aload_n 0, 1) := by decide +kernel
theorem dX5_elementsOf_18 : decode cX5_elementsOf 18 = .ok (.iload_n 1, 1) := by decide +kernel
theorem dX5_elementsOf_19 : decode cX5_elementsOf 19 = .ok (.iload 4, 2) := by decide +kernel
theorem dX5_elementsOf_21 : decode cX5_elementsOf 21 = .ok (.iload_n 2, 1) := by decide +kernel
theorem dX5_elementsOf_22 : decode cX5_elementsOf 22 = .ok (.invokevirtual 150, 3) := by decide +kernel
theorem dX5_elementsOf_25 : decode cX5_elementsOf 25 = .ok (.iadd, 1) := by decide +kernel
theorem dX5_elementsOf_26 : decode cX5_elementsOf 26 = .ok (.istore_n 3, 1) := by decide +kernel
theorem dX5_elementsOf_27 : decode cX5_elementsOf 27 = .ok (.iinc 4 1, 3) := by decide +kernel
theorem dX5_elementsOf_30 : decode cX5_elementsOf 30 = .ok (.goto (-25), 3) := by decide +kernel
theorem dX5_elementsOf_33 : decode cX5_elementsOf 33 = .ok (.iload_n 3, 1) := by decide +kernel
theorem dX5_elementsOf_34 : decode cX5_elementsOf 34 = .ok (.ireturn, 1) := by decide +kernel
theorem dX5_componentsOf_0 : decode cX5_componentsOf 0 = .ok (.iconst 0, 1) := by decide +kernel
theorem dX5_componentsOf_1 : decode cX5_componentsOf 1 = .ok (.istore_n 2, 1) := by decide +kernel
theorem dX5_componentsOf_2 : decode cX5_componentsOf 2 = .ok (.iconst 0, 1) := by decide +kernel
theorem dX5_componentsOf_3 : decode cX5_componentsOf 3 = .ok (.istore_n 3, 1) := by decide +kernel
theorem dX5_componentsOf_4 : decode cX5_componentsOf 4 = .ok (.iload_n 3, 1) := by decide +kernel
theorem dX5_componentsOf_5 : decode cX5_componentsOf 5 = .ok (.iconst 3, 1) := by decide +kernel
theorem dX5_componentsOf_6 : decode cX5_componentsOf 6 = .ok (.if_icmp .ge 65, 3) := by decide +kernel
theorem dX5_componentsOf_9 : decode cX5_componentsOf 9 = .ok (.aload_n 0, 1) := by decide +kernel
theorem dX5_componentsOf_10 : decode cX5_componentsOf 10 = .ok (.invokevirtual 130, 3) := by decide +kernel
theorem dX5_componentsOf_13 : decode cX5_componentsOf 13 = .ok (.iconst 0, 1) := by decide +kernel
theorem dX5_componentsOf_14 : decode cX5_componentsOf 14 = .ok (.istore 4, 2) := by decide +kernel
theorem dX5_componentsOf_16 : decode cX5_componentsOf 16 = .ok (.iload 4, 2) := by decide +kernel
theorem dX5_componentsOf_18 : decode cX5_componentsOf 18 = .ok (.bipush 7, 2) := by decide +kernel
theorem dX5_componentsOf_20 : decode cX5_componentsOf 20 = .ok (.if_icmp .ge 29, 3) := by decide +kernel
theorem dX5_componentsOf_23 : decode cX5_componentsOf 23 = .ok (.aload_n 0, 1) := by decide +kernel
theorem dX5_componentsOf_24 : decode cX5_componentsOf 24 = .ok (.aload_n 0, 1) := by decide +kernel
theorem dX5_componentsOf_25 : decode cX5_componentsOf 25 = .ok (.getfield 48, 3) := by decide +kernel
theorem dX5_componentsOf_28 : decode cX5_componentsOf 28 = .ok (.bipush 36, 2) := by decide +kernel
theorem dX5_componentsOf_30 : decode cX5_componentsOf 30 = .ok (.iload 4, 2) := by decide +kernel
theorem dX5_componentsOf_32 : decode cX5_componentsOf 32 = .ok (.imul, 1) := by decide +kernel
theorem dX5_componentsOf_33 : decode cX5_componentsOf 33 = .ok (.iconst 3, 1) := by decide +kernel
theorem dX5_componentsOf_34 : decode cX5_componentsOf 34 = .ok (.iload_n 1, 1) := by decide +kernel
theorem dX5_componentsOf_35 : decode cX5_componentsOf 35 = .ok (.imul, 1) := by decide +kernel
theorem dX5_componentsOf_36 : decode cX5_componentsOf 36 = .ok (.iadd, 1) := by decide +kernel
theorem dX5_componentsOf_37 : decode cX5_componentsOf 37 = .ok (.iload_n 3, 1) := by decide +kernel
theorem dX5_componentsOf_38 : decode cX5_componentsOf 38 = .ok (.iadd, 1) := by decide +kernel
theorem dX5_componentsOf_39 : decode cX5_componentsOf 39 = .ok (.iaload, 1) := by decide +kernel
theorem dX5_componentsOf_40 : decode cX5_componentsOf 40 = .ok (.invokevirtual 133, 3) := by decide +kernel
theorem dX5_componentsOf_43 : decode cX5_componentsOf 43 = .ok (.iinc 4 1, 3) := by decide +kernel
theorem dX5_componentsOf_46 : decode cX5_componentsOf 46 = .ok (.goto (-30), 3) := by decide +kernel
theorem dX5_componentsOf_49 : decode cX5_componentsOf 49 = .ok (.iload_n 2, 1) := by decide +kernel
theorem dX5_componentsOf_50 : decode cX5_componentsOf 50 = .ok (.ldc2_w 153, 3) := by decide +kernel
theorem dX5_componentsOf_53 : decode cX5_componentsOf 53 = .ok (.aload_n 0, 1) := by decide +kernel
theorem dX5_componentsOf_54 : decode cX5_componentsOf 54 = .ok (.invokevirtual 137, 3) := by decide +kernel
theorem dX5_componentsOf_57 : decode cX5_componentsOf 57 = .ok (.dmul, 1) := by decide +kernel
theorem dX5_componentsOf_58 : decode cX5_componentsOf 58 = .ok (.invokestatic 112, 3) := by decide +kernel
theorem dX5_componentsOf_61 : decode cX5_componentsOf 61 = .ok (.iconst 2, 1) := by decide +kernel
theorem dX5_componentsOf_62 : decode cX5_componentsOf 62 = .ok (.imul, 1) := by decide +kernel
theorem dX5_componentsOf_63 : decode cX5_componentsOf 63 = .ok (.iadd, 1) := by decide +kernel
theorem dX5_componentsOf_64 : decode cX5_componentsOf 64 = .ok (.istore_n 2, 1) := by decide +kernel
theorem dX5_componentsOf_65 : decode cX5_componentsOf 65 = .ok (.iinc 3 1, 3) := by decide +kernel
theorem dX5_componentsOf_68 : decode cX5_componentsOf 68 = .ok (.goto (-64), 3) := by decide +kernel
theorem dX5_componentsOf_71 : decode cX5_componentsOf 71 = .ok (.iload_n 2, 1) := by decide +kernel
theorem dX5_componentsOf_72 : decode cX5_componentsOf 72 = .ok (.ireturn, 1) := by decide +kernel
theorem dX5_fineOf_0 : decode cX5_fineOf 0 = .ok (.iconst 0, 1) := by decide +kernel
theorem dX5_fineOf_1 : decode cX5_fineOf 1 = .ok (.istore_n 2, 1) := by decide +kernel
theorem dX5_fineOf_2 : decode cX5_fineOf 2 = .ok (.iconst 0, 1) := by decide +kernel
theorem dX5_fineOf_3 : decode cX5_fineOf 3 = .ok (.istore_n 3, 1) := by decide +kernel
theorem dX5_fineOf_4 : decode cX5_fineOf 4 = .ok (.iload_n 3, 1) := by decide +kernel
theorem dX5_fineOf_5 : decode cX5_fineOf 5 = .ok (.aload_n 0, 1) := by decide +kernel
theorem dX5_fineOf_6 : decode cX5_fineOf 6 = .ok (.getfield 20, 3) := by decide +kernel
theorem dX5_fineOf_9 : decode cX5_fineOf 9 = .ok (.iload_n 1, 1) := by decide +kernel
theorem dX5_fineOf_10 : decode cX5_fineOf 10 = .ok (.iaload, 1) := by decide +kernel
theorem dX5_fineOf_11 : decode cX5_fineOf 11 = .ok (.if_icmp .ge 30, 3) := by decide +kernel
theorem dX5_fineOf_14 : decode cX5_fineOf 14 = .ok (.iload_n 2, 1) := by decide +kernel
theorem dX5_fineOf_15 : decode cX5_fineOf 15 = .ok (.aload_n 0, 1) := by decide +kernel
theorem dX5_fineOf_16 : decode cX5_fineOf 16 = .ok (.getfield 42, 3) := by decide +kernel
theorem dX5_fineOf_19 : decode cX5_fineOf 19 = .ok (.iload_n 1, 1) := by decide +kernel
theorem dX5_fineOf_20 : decode cX5_fineOf 20 = .ok (.iload_n 3, 1) := by decide +kernel
theorem dX5_fineOf_21 : decode cX5_fineOf 21 = .ok (.invokestatic 92, 3) := by decide +kernel
theorem dX5_fineOf_24 : decode cX5_fineOf 24 = .ok (.baload, 1) := by decide +kernel
theorem dX5_fineOf_25 : decode cX5_fineOf 25 = .ok (.ifCond .eq 7, 3) := by decide +kernel
theorem dX5_fineOf_28 : decode cX5_fineOf 28 = .ok (.iconst 1, 1) := by decide +kernel
theorem dX5_fineOf_29 : decode cX5_fineOf 29 = .ok (.goto 4, 3) := by decide +kernel
theorem dX5_fineOf_32 : decode cX5_fineOf 32 = .ok (.iconst 0, 1) := by decide +kernel
theorem dX5_fineOf_33 : decode cX5_fineOf 33 = .ok (.iadd, 1) := by decide +kernel
theorem dX5_fineOf_34 : decode cX5_fineOf 34 = .ok (.istore_n 2, 1) := by decide +kernel
theorem dX5_fineOf_35 : decode cX5_fineOf 35 = .ok (.iinc 3 1, 3) := by decide +kernel
theorem dX5_fineOf_38 : decode cX5_fineOf 38 = .ok (.goto (-34), 3) := by decide +kernel
theorem dX5_fineOf_41 : decode cX5_fineOf 41 = .ok (.iload_n 2, 1) := by decide +kernel
theorem dX5_fineOf_42 : decode cX5_fineOf 42 = .ok (.iconst 3, 1) := by decide +kernel
theorem dX5_fineOf_43 : decode cX5_fineOf 43 = .ok (.if_icmp .ge 10, 3) := by decide +kernel
theorem dX5_fineOf_46 : decode cX5_fineOf 46 = .ok (.bipush 100, 2) := by decide +kernel
theorem dX5_fineOf_48 : decode cX5_fineOf 48 = .ok (.iload_n 2, 1) := by decide +kernel
theorem dX5_fineOf_49 : decode cX5_fineOf 49 = .ok (.imul, 1) := by decide +kernel
theorem dX5_fineOf_50 : decode cX5_fineOf 50 = .ok (.goto 12, 3) := by decide +kernel
theorem dX5_fineOf_53 : decode cX5_fineOf 53 = .ok (.sipush 200, 3) := by decide +kernel
theorem dX5_fineOf_56 : decode cX5_fineOf 56 = .ok (.iload_n 2, 1) := by decide +kernel
theorem dX5_fineOf_57 : decode cX5_fineOf 57 = .ok (.imul, 1) := by decide +kernel
theorem dX5_fineOf_58 : decode cX5_fineOf 58 = .ok (.sipush 200, 3) := by decide +kernel
theorem dX5_fineOf_61 : decode cX5_fineOf 61 = .ok (.isub, 1) := by decide +kernel
theorem dX5_fineOf_62 : decode cX5_fineOf 62 = .ok (.ireturn, 1) := by decide +kernel
theorem dX5_totalOf_0 : decode cX5_totalOf 0 = .ok (.aload_n 0, 1) := by decide +kernel
theorem dX5_totalOf_1 : decode cX5_totalOf 1 = .ok (.iload_n 1, 1) := by decide +kernel
theorem dX5_totalOf_2 : decode cX5_totalOf 2 = .ok (.iload_n 2, 1) := by decide +kernel
theorem dX5_totalOf_3 : decode cX5_totalOf 3 = .ok (.invokevirtual 155, 3) := by decide +kernel
theorem dX5_totalOf_6 : decode cX5_totalOf 6 = .ok (.aload_n 0, 1) := by decide +kernel
theorem dX5_totalOf_7 : decode cX5_totalOf 7 = .ok (.iload_n 1, 1) := by decide +kernel
theorem dX5_totalOf_8 : decode cX5_totalOf 8 = .ok (.invokevirtual 158, 3) := by decide +kernel
theorem dX5_totalOf_11 : decode cX5_totalOf 11 = .ok (.iadd, 1) := by decide +kernel
theorem dX5_totalOf_12 : decode cX5_totalOf 12 = .ok (.aload_n 0, 1) := by decide +kernel
theorem dX5_totalOf_13 : decode cX5_totalOf 13 = .ok (.iload_n 1, 1) := by decide +kernel
theorem dX5_totalOf_14 : decode cX5_totalOf 14 = .ok (.invokevirtual 161, 3) := by decide +kernel
theorem dX5_totalOf_17 : decode cX5_totalOf 17 = .ok (.isub, 1) := by decide +kernel
theorem dX5_totalOf_18 : decode cX5_totalOf 18 = .ok (.istore_n 3, 1) := by decide +kernel
theorem dX5_totalOf_19 : decode cX5_totalOf 19 = .ok (.iload_n 3, 1) := by decide +kernel
theorem dX5_totalOf_20 : decode cX5_totalOf 20 = .ok (.ifCond .ge 7, 3) := by decide +kernel
theorem dX5_totalOf_23 : decode cX5_totalOf 23 = .ok (.iconst 0, 1) := by decide +kernel
theorem dX5_totalOf_24 : decode cX5_totalOf 24 = .ok (.goto 4, 3) := by decide +kernel
theorem dX5_totalOf_27 : decode cX5_totalOf 27 = .ok (.iload_n 3, 1) := by decide +kernel
theorem dX5_totalOf_28 : decode cX5_totalOf 28 = .ok (.ireturn, 1) := by decide +kernel
theorem dX5_isAhead_0 : decode cX5_isAhead 0 = .ok (.aload_n 0, 1) := by decide +kernel
theorem dX5_isAhead_1 : decode cX5_isAhead 1 = .ok (.iload_n 1, 1) := by decide +kernel
theorem dX5_isAhead_2 : decode cX5_isAhead 2 = .ok (.iload_n 3, 1) := by decide +kernel
theorem dX5_isAhead_3 : decode cX5_isAhead 3 = .ok (.invokevirtual 164, 3) := by decide +kernel
theorem dX5_isAhead_6 : decode cX5_isAhead 6 = .ok (.aload_n 0, 1) := by decide +kernel
theorem dX5_isAhead_7 : decode cX5_isAhead 7 = .ok (.iload_n 2, 1) := by decide +kernel
theorem dX5_isAhead_8 : decode cX5_isAhead 8 = .ok (.iload_n 3, 1) := by decide +kernel
theorem dX5_isAhead_9 : decode cX5_isAhead 9 = .ok (.invokevirtual 164, 3) := by decide +kernel
theorem dX5_isAhead_12 : decode cX5_isAhead 12 = .ok (.isub, 1) := by decide +kernel
theorem dX5_isAhead_13 : decode cX5_isAhead 13 = .ok (.istore 4, 2) := by decide +kernel
theorem dX5_isAhead_15 : decode cX5_isAhead 15 = .ok (.iload 4, 2) := by decide +kernel
theorem dX5_isAhead_17 : decode cX5_isAhead 17 = .ok (.ifCond .ne 19, 3) := by decide +kernel
theorem dX5_isAhead_20 : decode cX5_isAhead 20 = .ok (.aload_n 0, 1) := by decide +kernel
theorem dX5_isAhead_21 : decode cX5_isAhead 21 = .ok (.iload_n 1, 1) := by decide +kernel
theorem dX5_isAhead_22 : decode cX5_isAhead 22 = .ok (.iload_n 3, 1) := by decide +kernel
theorem dX5_isAhead_23 : decode cX5_isAhead 23 = .ok (.invokevirtual 155, 3) := by decide +kernel
theorem dX5_isAhead_26 : decode cX5_isAhead 26 = .ok (.aload_n 0, 1) := by decide +kernel
theorem dX5_isAhead_27 : decode cX5_isAhead 27 = .ok (.iload_n 2, 1) := by decide +kernel
theorem dX5_isAhead_28 : decode cX5_isAhead 28 = .ok (.iload_n 3, 1) := by decide +kernel
theorem dX5_isAhead_29 : decode cX5_isAhead 29 = .ok (.invokevirtual 155, 3) := by decide +kernel
theorem dX5_isAhead_32 : decode cX5_isAhead 32 = .ok (.isub, 1) := by decide +kernel
theorem dX5_isAhead_33 : decode cX5_isAhead 33 = .ok (.goto 5, 3) := by decide +kernel
theorem dX5_isAhead_36 : decode cX5_isAhead 36 = .ok (.iload 4, 2) := by decide +kernel
theorem dX5_isAhead_38 : decode cX5_isAhead 38 = .ok (.istore 4, 2) := by decide +kernel
theorem dX5_isAhead_40 : decode cX5_isAhead 40 = .ok (.iload 4, 2) := by decide +kernel
theorem dX5_isAhead_42 : decode cX5_isAhead 42 = .ok (.ifCond .gt 13, 3) := by decide +kernel
theorem dX5_isAhead_45 : decode cX5_isAhead 45 = .ok (.iload 4, 2) := by decide +kernel
theorem dX5_isAhead_47 : decode cX5_isAhead 47 = .ok (.ifCond .ne 12, 3) := by decide +kernel
theorem dX5_isAhead_50 : decode cX5_isAhead 50 = .ok (.iload_n 1, 1) := by decide +kernel
theorem dX5_isAhead_51 : decode cX5_isAhead 51 = .ok (.iload_n 2, 1) := by decide +kernel
theorem dX5_isAhead_52 : decode cX5_isAhead 52 = .ok (.if_icmp .ge 7, 3) := by decide +kernel
theorem dX5_isAhead_55 : decode cX5_isAhead 55 = .ok (.iconst 1, 1) := by decide +kernel
theorem dX5_isAhead_56 : decode cX5_isAhead 56 = .ok (.goto 4, 3) := by decide +kernel
theorem dX5_isAhead_59 : decode cX5_isAhead 59 = .ok (.iconst 0, 1) := by decide +kernel
theorem dX5_isAhead_60 : decode cX5_isAhead 60 = .ok (.ireturn, 1) := by decide +kernel
theorem dX5_rankOf_0 : decode cX5_rankOf 0 = .ok (.iconst 0, 1) := by decide +kernel
theorem dX5_rankOf_1 : decode cX5_rankOf 1 = .ok (.istore_n 3, 1) := by decide +kernel
theorem dX5_rankOf_2 : decode cX5_rankOf 2 = .ok (.iconst 0, 1) := by decide +kernel
theorem dX5_rankOf_3 : decode cX5_rankOf 3 = .ok (.istore 4, 2) := by decide +kernel
theorem dX5_rankOf_5 : decode cX5_rankOf 5 = .ok (.iload 4, 2) := by decide +kernel
theorem dX5_rankOf_7 : decode cX5_rankOf 7 = .ok (.aload_n 0, 1) := by decide +kernel
theorem dX5_rankOf_8 : decode cX5_rankOf 8 = .ok (.getfield 61, 3) := by decide +kernel
theorem dX5_rankOf_11 : decode cX5_rankOf 11 = .ok (.if_icmp .ge 45, 3) := by decide +kernel
theorem dX5_rankOf_14 : decode cX5_rankOf 14 = .ok (.iload_n 3, 1) := by decide +kernel
theorem dX5_rankOf_15 : decode cX5_rankOf 15 = .ok (.aload_n 0, 1) := by decide +kernel
theorem dX5_rankOf_16 : decode cX5_rankOf 16 = .ok (.getfield 13, 3) := by decide +kernel
theorem dX5_rankOf_19 : decode cX5_rankOf 19 = .ok (.iload 4, 2) := by decide +kernel
theorem dX5_rankOf_21 : decode cX5_rankOf 21 = .ok (.iaload, 1) := by decide +kernel
theorem dX5_rankOf_22 : decode cX5_rankOf 22 = .ok (.iconst 2, 1) := by decide +kernel
theorem dX5_rankOf_23 : decode cX5_rankOf 23 = .ok (.if_icmp .ne 24, 3) := by decide +kernel
theorem dX5_rankOf_26 : decode cX5_rankOf 26 = .ok (.iload 4, 2) := by decide +kernel
theorem dX5_rankOf_28 : decode cX5_rankOf 28 = .ok (.iload_n 1, 1) := by decide +kernel
theorem dX5_rankOf_29 : decode cX5_rankOf 29 = .ok (.if_icmp .eq 18, 3) := by decide +kernel
theorem dX5_rankOf_32 : decode cX5_rankOf 32 = .ok (.aload_n 0, 1) := by decide +kernel
theorem dX5_rankOf_33 : decode cX5_rankOf 33 = .ok (.iload 4, 2) := by decide +kernel
theorem dX5_rankOf_35 : decode cX5_rankOf 35 = .ok (.iload_n 1, 1) := by decide +kernel
theorem dX5_rankOf_36 : decode cX5_rankOf 36 = .ok (.iload_n 2, 1) := by decide +kernel
theorem dX5_rankOf_37 : decode cX5_rankOf 37 = .ok (.invokevirtual 167, 3) := by decide +kernel
theorem dX5_rankOf_40 : decode cX5_rankOf 40 = .ok (.ifCond .eq 7, 3) := by decide +kernel
theorem dX5_rankOf_43 : decode cX5_rankOf 43 = .ok (.iconst 1, 1) := by decide +kernel
theorem dX5_rankOf_44 : decode cX5_rankOf 44 = .ok (.goto 4, 3) := by decide +kernel
theorem dX5_rankOf_47 : decode cX5_rankOf 47 = .ok (.iconst 0, 1) := by decide +kernel
theorem dX5_rankOf_48 : decode cX5_rankOf 48 = .ok (.iadd, 1) := by decide +kernel
theorem dX5_rankOf_49 : decode cX5_rankOf 49 = .ok (.istore_n 3, 1) := by decide +kernel
theorem dX5_rankOf_50 : decode cX5_rankOf 50 = .ok (.iinc 4 1, 3) := by decide +kernel
theorem dX5_rankOf_53 : decode cX5_rankOf 53 = .ok (.goto (-48), 3) := by decide +kernel
theorem dX5_rankOf_56 : decode cX5_rankOf 56 = .ok (.aload_n 0, 1) := by decide +kernel
theorem dX5_rankOf_57 : decode cX5_rankOf 57 = .ok (.getfield 13, 3) := by decide +kernel
theorem dX5_rankOf_60 : decode cX5_rankOf 60 = .ok (.iload_n 1, 1) := by decide +kernel
theorem dX5_rankOf_61 : decode cX5_rankOf 61 = .ok (.iaload, 1) := by decide +kernel
theorem dX5_rankOf_62 : decode cX5_rankOf 62 = .ok (.iconst 2, 1) := by decide +kernel
theorem dX5_rankOf_63 : decode cX5_rankOf 63 = .ok (.if_icmp .ne 7, 3) := by decide +kernel
theorem dX5_rankOf_66 : decode cX5_rankOf 66 = .ok (.iload_n 3, 1) := by decide +kernel
theorem dX5_rankOf_67 : decode cX5_rankOf 67 = .ok (.goto 4, 3) := by decide +kernel
theorem dX5_rankOf_70 : decode cX5_rankOf 70 = .ok (.iconst (-1), 1) := by decide +kernel
theorem dX5_rankOf_71 : decode cX5_rankOf 71 = .ok (.ireturn, 1) := by decide +kernel
theorem dX5_element_0 : decode cX5_element 0 = .ok (.aload_n 0, 1) := by decide +kernel
theorem dX5_element_1 : decode cX5_element 1 = .ok (.aload_n 0, 1) := by decide +kernel
theorem dX5_element_2 : decode cX5_element 2 = .ok (.iload_n 1, 1) := by decide +kernel
theorem dX5_element_3 : decode cX5_element 3 = .ok (.iload_n 2, 1) := by decide +kernel
theorem dX5_element_4 : decode cX5_element 4 = .ok (.invokevirtual 96, 3) := by decide +kernel
theorem dX5_element_7 : decode cX5_element 7 = .ok (.ifCond .ne 7, 3) := by decide +kernel
theorem dX5_element_10 : decode cX5_element 10 = .ok (.iconst 1, 1) := by decide +kernel
theorem dX5_element_11 : decode cX5_element 11 = .ok (.goto 28, 3) := by decide +kernel
theorem dX5_element_14 : decode cX5_element 14 = .ok (.iload_n 3, 1) := by decide +kernel
theorem dX5_element_15 : decode cX5_element 15 = .ok (.iconst 0, 1) := by decide +kernel
theorem dX5_element_16 : decode cX5_element 16 = .ok (.iconst 2, 1) := by decide +kernel
theorem dX5_element_17 : decode cX5_element 17 = .ok (.invokestatic 64, 3) := by decide +kernel
theorem dX5_element_20 : decode cX5_element 20 = .ok (.ifCond .eq 18, 3) := by decide +kernel
theorem dX5_element_23 : decode cX5_element 23 = .ok (.iload 4, 2) := by decide +kernel
theorem dX5_element_25 : decode cX5_element 25 = .ok (.iconst 0, 1) := by decide +kernel
theorem dX5_element_26 : decode cX5_element 26 = .ok (.bipush 7, 2) := by decide +kernel
theorem dX5_element_28 : decode cX5_element 28 = .ok (.invokestatic 64, 3) := by decide +kernel
theorem dX5_element_31 : decode cX5_element 31 = .ok (.ifCond .eq 7, 3) := by decide +kernel
theorem dX5_element_34 : decode cX5_element 34 = .ok (.iconst 0, 1) := by decide +kernel
theorem dX5_element_35 : decode cX5_element 35 = .ok (.goto 4, 3) := by decide +kernel
theorem dX5_element_38 : decode cX5_element 38 = .ok (.iconst 2, 1) := by decide +kernel
theorem dX5_element_39 : decode cX5_element 39 = .ok (.putfield 58, 3) := by decide +kernel
theorem dX5_element_42 : decode cX5_element 42 = .ok (.aload_n 0, 1) := by decide +kernel
theorem dX5_element_43 : decode cX5_element 43 = .ok (.getfield 58, 3) := by decide +kernel
theorem dX5_element_46 : decode cX5_element 46 = .ok (.ifCond .le 5, 3) := by decide +kernel
theorem dX5_element_49 : decode cX5_element 49 = .ok (.iconst 0, 1) := by decide +kernel
theorem dX5_element_50 : decode cX5_element 50 = .ok (.ireturn, 1) := by decide +kernel
theorem dX5_element_51 : decode cX5_element 51 = .ok (.iload_n 1, 1) := by decide +kernel
theorem dX5_element_52 : decode cX5_element 52 = .ok (.iload_n 2, 1) := by decide +kernel
theorem dX5_element_53 : decode cX5_element 53 = .ok (.invokestatic 92, 3) := by decide +kernel
theorem dX5_element_56 : decode cX5_element 56 = .ok (.istore 5, 2) := by decide +kernel
theorem dX5_element_58 : decode cX5_element 58 = .ok (.iload 4, 2) := by decide +kernel
theorem dX5_element_60 : decode cX5_element 60 = .ok (.iconst 3, 1) := by decide +kernel
theorem dX5_element_61 : decode cX5_element 61 = .ok (.if_icmp .ge 41, 3) := by decide +kernel
theorem dX5_element_64 : decode cX5_element 64 = .ok (.iload 4, 2) := by decide +kernel
theorem dX5_element_66 : decode cX5_element 66 = .ok (.ifCond .ne 13, 3) := by decide +kernel
theorem dX5_element_69 : decode cX5_element 69 = .ok (.aload_n 0, 1) := by decide +kernel
theorem dX5_element_70 : decode cX5_element 70 = .ok (.getfield 23, 3) := by decide +kernel
theorem dX5_element_73 : decode cX5_element 73 = .ok (.iload 5, 2) := by decide +kernel
theorem dX5_element_75 : decode cX5_element 75 = .ok (.iaload, 1) := by decide +kernel
theorem dX5_element_76 : decode cX5_element 76 = .ok (.goto 25, 3) := by decide +kernel
theorem dX5_element_79 : decode cX5_element 79 = .ok (.iload 4, 2) := by decide +kernel
theorem dX5_element_81 : decode cX5_element 81 = .ok (.iconst 1, 1) := by decide +kernel
theorem dX5_element_82 : decode cX5_element 82 = .ok (.if_icmp .ne 13, 3) := by decide +kernel
theorem dX5_element_85 : decode cX5_element 85 = .ok (.aload_n 0, 1) := by decide +kernel
theorem dX5_element_86 : decode cX5_element 86 = .ok (.getfield 26, 3) := by decide +kernel
theorem dX5_element_89 : decode cX5_element 89 = .ok (.iload 5, 2) := by decide +kernel
theorem dX5_element_91 : decode cX5_element 91 = .ok (.iaload, 1) := by decide +kernel
theorem dX5_element_92 : decode cX5_element 92 = .ok (.goto 9, 3) := by decide +kernel
theorem dX5_element_95 : decode cX5_element 95 = .ok (.aload_n 0, 1) := by decide +kernel
theorem dX5_element_96 : decode cX5_element 96 = .ok (.iload 5, 2) := by decide +kernel
theorem dX5_element_98 : decode cX5_element 98 = .ok (.invokevirtual 100, 3) := by decide +kernel
theorem dX5_element_101 : decode cX5_element 101 = .ok (.ireturn, 1) := by decide +kernel
theorem dX5_element_102 : decode cX5_element 102 = .ok (.iload 4, 2) := by decide +kernel
theorem dX5_element_104 : decode cX5_element 104 = .ok (.bipush 6, 2) := by decide +kernel
theorem dX5_element_106 : decode cX5_element 106 = .ok (.if_icmp .ge 57, 3) := by decide +kernel
theorem dX5_element_109 : decode cX5_element 109 = .ok (.iload 4, 2) := by decide +kernel
theorem dX5_element_111 : decode cX5_element 111 = .ok (.iconst 3, 1) := by decide +kernel
theorem dX5_element_112 : decode cX5_element 112 = .ok (.if_icmp .ne 16, 3) := by decide +kernel
theorem dX5_element_115 : decode cX5_element 115 = .ok (.aload_n 0, 1) := by decide +kernel
theorem dX5_element_116 : decode cX5_element 116 = .ok (.getfield 35, 3) := by decide +kernel
theorem dX5_element_119 : decode cX5_element 119 = .ok (.iload 5, 2) := by decide +kernel
theorem dX5_element_121 : decode cX5_element 121 = .ok (.baload, 1) := by decide +kernel
theorem dX5_element_122 : decode cX5_element 122 = .ok (.ifCond .eq 39, 3) := by decide +kernel
theorem dX5_element_125 : decode cX5_element 125 = .ok (.goto 32, 3) := by decide +kernel
theorem dX5_element_128 : decode cX5_element 128 = .ok (.iload 4, 2) := by decide +kernel
theorem dX5_element_130 : decode cX5_element 130 = .ok (.iconst 4, 1) := by decide +kernel
theorem dX5_element_131 : decode cX5_element 131 = .ok (.if_icmp .ne 16, 3) := by decide +kernel
theorem dX5_element_134 : decode cX5_element 134 = .ok (.aload_n 0, 1) := by decide +kernel
theorem dX5_element_135 : decode cX5_element 135 = .ok (.getfield 39, 3) := by decide +kernel
theorem dX5_element_138 : decode cX5_element 138 = .ok (.iload 5, 2) := by decide +kernel
theorem dX5_element_140 : decode cX5_element 140 = .ok (.baload, 1) := by decide +kernel
theorem dX5_element_141 : decode cX5_element 141 = .ok (.ifCond .eq 20, 3) := by decide +kernel
theorem dX5_element_144 : decode cX5_element 144 = .ok (.goto 13, 3) := by decide +kernel
theorem dX5_element_147 : decode cX5_element 147 = .ok (.aload_n 0, 1) := by decide +kernel
theorem dX5_element_148 : decode cX5_element 148 = .ok (.getfield 42, 3) := by decide +kernel
theorem dX5_element_151 : decode cX5_element 151 = .ok (.iload 5, 2) := by decide +kernel
theorem dX5_element_153 : decode cX5_element 153 = .ok (.baload, 1) := by decide +kernel
theorem dX5_element_154 : decode cX5_element 154 = .ok (.ifCond .eq 7, 3) := by decide +kernel
theorem dX5_element_157 : decode cX5_element 157 = .ok (.iconst 1, 1) := by decide +kernel
theorem dX5_element_158 : decode cX5_element 158 = .ok (.goto 4, 3) := by decide +kernel
theorem dX5_element_161 : decode cX5_element 161 = .ok (.iconst 0, 1) := by decide +kernel
theorem dX5_element_162 : decode cX5_element 162 = .ok (.ireturn, 1) := by decide +kernel
theorem dX5_element_163 : decode cX5_element 163 = .ok (.iload 4, 2) := by decide +kernel
theorem dX5_element_165 : decode cX5_element 165 = .ok (.bipush 6, 2) := by decide +kernel
theorem dX5_element_167 : decode cX5_element 167 = .ok (.if_icmp .ne 13, 3) := by decide +kernel
theorem dX5_element_170 : decode cX5_element 170 = .ok (.aload_n 0, 1) := by decide +kernel
theorem dX5_element_171 : decode cX5_element 171 = .ok (.iload_n 1, 1) := by decide +kernel
theorem dX5_element_172 : decode cX5_element 172 = .ok (.iload_n 2, 1) := by decide +kernel
theorem dX5_element_173 : decode cX5_element 173 = .ok (.iload_n 3, 1) := by decide +kernel
theorem dX5_element_174 : decode cX5_element 174 = .ok (.invokevirtual 141, 3) := by decide +kernel
theorem dX5_element_177 : decode cX5_element 177 = .ok (.goto 10, 3) := by decide +kernel
theorem dX5_element_180 : decode cX5_element 180 = .ok (.aload_n 0, 1) := by decide +kernel
theorem dX5_element_181 : decode cX5_element 181 = .ok (.iload_n 1, 1) := by decide +kernel
theorem dX5_element_182 : decode cX5_element 182 = .ok (.iload_n 2, 1) := by decide +kernel
theorem dX5_element_183 : decode cX5_element 183 = .ok (.iload_n 3, 1) := by decide +kernel
theorem dX5_element_184 : decode cX5_element 184 = .ok (.invokevirtual 150, 3) := by decide +kernel
theorem dX5_element_187 : decode cX5_element 187 = .ok (.ireturn, 1) := by decide +kernel
theorem dX5_programme_0 : decode cX5_programme 0 = .ok (.aload_n 0, 1) := by decide +kernel
theorem dX5_programme_1 : decode cX5_programme 1 = .ok (.aload_n 0, 1) := by decide +kernel
theorem dX5_programme_2 : decode cX5_programme 2 = .ok (.iload_n 1, 1) := by decide +kernel
theorem dX5_programme_3 : decode cX5_programme 3 = .ok (.invokevirtual 68, 3) := by decide +kernel
theorem dX5_programme_6 : decode cX5_programme 6 = .ok (.ifCond .ne 7, 3) := by decide +kernel
theorem dX5_programme_9 : decode cX5_programme 9 = .ok (.iconst 1, 1) := by decide +kernel
theorem dX5_programme_10 : decode cX5_programme 10 = .ok (.goto 26, 3) := by decide +kernel
theorem dX5_programme_13 : decode cX5_programme 13 = .ok (.iload_n 2, 1) := by decide +kernel
theorem dX5_programme_14 : decode cX5_programme 14 = .ok (.iconst 0, 1) := by decide +kernel
theorem dX5_programme_15 : decode cX5_programme 15 = .ok (.iconst 2, 1) := by decide +kernel
theorem dX5_programme_16 : decode cX5_programme 16 = .ok (.invokestatic 64, 3) := by decide +kernel
theorem dX5_programme_19 : decode cX5_programme 19 = .ok (.ifCond .eq 16, 3) := by decide +kernel
theorem dX5_programme_22 : decode cX5_programme 22 = .ok (.iload_n 3, 1) := by decide +kernel
theorem dX5_programme_23 : decode cX5_programme 23 = .ok (.iconst 0, 1) := by decide +kernel
theorem dX5_programme_24 : decode cX5_programme 24 = .ok (.iconst 5, 1) := by decide +kernel
theorem dX5_programme_25 : decode cX5_programme 25 = .ok (.invokestatic 64, 3) := by decide +kernel
theorem dX5_programme_28 : decode cX5_programme 28 = .ok (.ifCond .eq 7, 3) := by decide +kernel
theorem dX5_programme_31 : decode cX5_programme 31 = .ok (.iconst 0, 1) := by decide +kernel
theorem dX5_programme_32 : decode cX5_programme 32 = .ok (.goto 4, 3) := by decide +kernel
theorem dX5_programme_35 : decode cX5_programme 35 = .ok (.iconst 2, 1) := by decide +kernel
theorem dX5_programme_36 : decode cX5_programme 36 = .ok (.putfield 58, 3) := by decide +kernel
theorem dX5_programme_39 : decode cX5_programme 39 = .ok (.aload_n 0, 1) := by decide +kernel
theorem dX5_programme_40 : decode cX5_programme 40 = .ok (.getfield 58, 3) := by decide +kernel
theorem dX5_programme_43 : decode cX5_programme 43 = .ok (.ifCond .le 5, 3) := by decide +kernel
theorem dX5_programme_46 : decode cX5_programme 46 = .ok (.iconst 0, 1) := by decide +kernel
theorem dX5_programme_47 : decode cX5_programme 47 = .ok (.ireturn, 1) := by decide +kernel
theorem dX5_programme_48 : decode cX5_programme 48 = .ok (.iload_n 3, 1) := by decide +kernel
theorem dX5_programme_49 : decode cX5_programme 49 = .ok (.iconst 3, 1) := by decide +kernel
theorem dX5_programme_50 : decode cX5_programme 50 = .ok (.if_icmp .ge 35, 3) := by decide +kernel
theorem dX5_programme_53 : decode cX5_programme 53 = .ok (.iload_n 3, 1) := by decide +kernel
theorem dX5_programme_54 : decode cX5_programme 54 = .ok (.ifCond .ne 12, 3) := by decide +kernel
theorem dX5_programme_57 : decode cX5_programme 57 = .ok (.aload_n 0, 1) := by decide +kernel
theorem dX5_programme_58 : decode cX5_programme 58 = .ok (.iload_n 1, 1) := by decide +kernel
theorem dX5_programme_59 : decode cX5_programme 59 = .ok (.iload_n 2, 1) := by decide +kernel
theorem dX5_programme_60 : decode cX5_programme 60 = .ok (.invokevirtual 155, 3) := by decide +kernel
theorem dX5_programme_63 : decode cX5_programme 63 = .ok (.goto 21, 3) := by decide +kernel
theorem dX5_programme_66 : decode cX5_programme 66 = .ok (.iload_n 3, 1) := by decide +kernel
theorem dX5_programme_67 : decode cX5_programme 67 = .ok (.iconst 1, 1) := by decide +kernel
theorem dX5_programme_68 : decode cX5_programme 68 = .ok (.if_icmp .ne 11, 3) := by decide +kernel
theorem dX5_programme_71 : decode cX5_programme 71 = .ok (.aload_n 0, 1) := by decide +kernel
theorem dX5_programme_72 : decode cX5_programme 72 = .ok (.iload_n 1, 1) := by decide +kernel
theorem dX5_programme_73 : decode cX5_programme 73 = .ok (.invokevirtual 158, 3) := by decide +kernel
theorem dX5_programme_76 : decode cX5_programme 76 = .ok (.goto 8, 3) := by decide +kernel
theorem dX5_programme_79 : decode cX5_programme 79 = .ok (.aload_n 0, 1) := by decide +kernel
theorem dX5_programme_80 : decode cX5_programme 80 = .ok (.iload_n 1, 1) := by decide +kernel
theorem dX5_programme_81 : decode cX5_programme 81 = .ok (.invokevirtual 161, 3) := by decide +kernel
theorem dX5_programme_84 : decode cX5_programme 84 = .ok (.ireturn, 1) := by decide +kernel
theorem dX5_programme_85 : decode cX5_programme 85 = .ok (.iload_n 3, 1) := by decide +kernel
theorem dX5_programme_86 : decode cX5_programme 86 = .ok (.iconst 3, 1) := by decide +kernel
theorem dX5_programme_87 : decode cX5_programme 87 = .ok (.if_icmp .ne 12, 3) := by decide +kernel
theorem dX5_programme_90 : decode cX5_programme 90 = .ok (.aload_n 0, 1) := by decide +kernel
theorem dX5_programme_91 : decode cX5_programme 91 = .ok (.iload_n 1, 1) := by decide +kernel
theorem dX5_programme_92 : decode cX5_programme 92 = .ok (.iload_n 2, 1) := by decide +kernel
theorem dX5_programme_93 : decode cX5_programme 93 = .ok (.invokevirtual 164, 3) := by decide +kernel
theorem dX5_programme_96 : decode cX5_programme 96 = .ok (.goto 23, 3) := by decide +kernel
theorem dX5_programme_99 : decode cX5_programme 99 = .ok (.iload_n 3, 1) := by decide +kernel
theorem dX5_programme_100 : decode cX5_programme 100 = .ok (.iconst 4, 1) := by decide +kernel
theorem dX5_programme_101 : decode cX5_programme 101 = .ok (.if_icmp .ne 12, 3) := by decide +kernel
theorem dX5_programme_104 : decode cX5_programme 104 = .ok (.aload_n 0, 1) := by decide +kernel
theorem dX5_programme_105 : decode cX5_programme 105 = .ok (.getfield 17, 3) := by decide +kernel
theorem dX5_programme_108 : decode cX5_programme 108 = .ok (.iload_n 1, 1) := by decide +kernel
theorem dX5_programme_109 : decode cX5_programme 109 = .ok (.iaload, 1) := by decide +kernel
theorem dX5_programme_110 : decode cX5_programme 110 = .ok (.goto 9, 3) := by decide +kernel
theorem dX5_programme_113 : decode cX5_programme 113 = .ok (.aload_n 0, 1) := by decide +kernel
theorem dX5_programme_114 : decode cX5_programme 114 = .ok (.iload_n 1, 1) := by decide +kernel
theorem dX5_programme_115 : decode cX5_programme 115 = .ok (.iload_n 2, 1) := by decide +kernel
theorem dX5_programme_116 : decode cX5_programme 116 = .ok (.invokevirtual 170, 3) := by decide +kernel
theorem dX5_programme_119 : decode cX5_programme 119 = .ok (.ireturn, 1) := by decide +kernel
theorem dX5_starts_0 : decode cX5_starts 0 = .ok (.aload_n 0, 1) := by decide +kernel
theorem dX5_starts_1 : decode cX5_starts 1 = .ok (.iload_n 1, 1) := by decide +kernel
theorem dX5_starts_2 : decode cX5_starts 2 = .ok (.iconst 0, 1) := by decide +kernel
theorem dX5_starts_3 : decode cX5_starts 3 = .ok (.iconst 2, 1) := by decide +kernel
theorem dX5_starts_4 : decode cX5_starts 4 = .ok (.invokestatic 64, 3) := by decide +kernel
theorem dX5_starts_7 : decode cX5_starts 7 = .ok (.ifCond .eq 17, 3) := by decide +kernel
theorem dX5_starts_10 : decode cX5_starts 10 = .ok (.iload_n 2, 1) := by decide +kernel
theorem dX5_starts_11 : decode cX5_starts 11 = .ok (.iconst 0, 1) := by decide +kernel
theorem dX5_starts_12 : decode cX5_starts 12 = .ok (.bipush 11, 2) := by decide +kernel
theorem dX5_starts_14 : decode cX5_starts 14 = .ok (.invokestatic 64, 3) := by decide +kernel
theorem dX5_starts_17 : decode cX5_starts 17 = .ok (.ifCond .eq 7, 3) := by decide +kernel
theorem dX5_starts_20 : decode cX5_starts 20 = .ok (.iconst 0, 1) := by decide +kernel
theorem dX5_starts_21 : decode cX5_starts 21 = .ok (.goto 4, 3) := by decide +kernel
theorem dX5_starts_24 : decode cX5_starts 24 = .ok (.iconst 1, 1) := by decide +kernel
theorem dX5_starts_25 : decode cX5_starts 25 = .ok (.putfield 58, 3) := by decide +kernel
theorem dX5_starts_28 : decode cX5_starts 28 = .ok (.aload_n 0, 1) := by decide +kernel
theorem dX5_starts_29 : decode cX5_starts 29 = .ok (.getfield 58, 3) := by decide +kernel
theorem dX5_starts_32 : decode cX5_starts 32 = .ok (.ifCond .le 5, 3) := by decide +kernel
theorem dX5_starts_35 : decode cX5_starts 35 = .ok (.iconst 0, 1) := by decide +kernel
theorem dX5_starts_36 : decode cX5_starts 36 = .ok (.ireturn, 1) := by decide +kernel
theorem dX5_starts_37 : decode cX5_starts 37 = .ok (.iconst 0, 1) := by decide +kernel
theorem dX5_starts_38 : decode cX5_starts 38 = .ok (.istore_n 3, 1) := by decide +kernel
theorem dX5_starts_39 : decode cX5_starts 39 = .ok (.iconst 0, 1) := by decide +kernel
theorem dX5_starts_40 : decode cX5_starts 40 = .ok (.istore 4, 2) := by decide +kernel
theorem dX5_starts_42 : decode cX5_starts 42 = .ok (.iload 4, 2) := by decide +kernel
theorem dX5_starts_44 : decode cX5_starts 44 = .ok (.aload_n 0, 1) := by decide +kernel
theorem dX5_starts_45 : decode cX5_starts 45 = .ok (.getfield 61, 3) := by decide +kernel
theorem dX5_starts_48 : decode cX5_starts 48 = .ok (.if_icmp .ge 28, 3) := by decide +kernel
theorem dX5_starts_51 : decode cX5_starts 51 = .ok (.iload_n 3, 1) := by decide +kernel
theorem dX5_starts_52 : decode cX5_starts 52 = .ok (.aload_n 0, 1) := by decide +kernel
theorem dX5_starts_53 : decode cX5_starts 53 = .ok (.getfield 13, 3) := by decide +kernel
theorem dX5_starts_56 : decode cX5_starts 56 = .ok (.iload 4, 2) := by decide +kernel
theorem dX5_starts_58 : decode cX5_starts 58 = .ok (.iaload, 1) := by decide +kernel
theorem dX5_starts_59 : decode cX5_starts 59 = .ok (.iconst 2, 1) := by decide +kernel
theorem dX5_starts_60 : decode cX5_starts 60 = .ok (.if_icmp .ne 7, 3) := by decide +kernel
theorem dX5_starts_63 : decode cX5_starts 63 = .ok (.iconst 1, 1) := by decide +kernel
theorem dX5_starts_64 : decode cX5_starts 64 = .ok (.goto 4, 3) := by decide +kernel
theorem dX5_starts_67 : decode cX5_starts 67 = .ok (.iconst 0, 1) := by decide +kernel
theorem dX5_starts_68 : decode cX5_starts 68 = .ok (.iadd, 1) := by decide +kernel
theorem dX5_starts_69 : decode cX5_starts 69 = .ok (.istore_n 3, 1) := by decide +kernel
theorem dX5_starts_70 : decode cX5_starts 70 = .ok (.iinc 4 1, 3) := by decide +kernel
theorem dX5_starts_73 : decode cX5_starts 73 = .ok (.goto (-31), 3) := by decide +kernel
theorem dX5_starts_76 : decode cX5_starts 76 = .ok (.iload_n 2, 1) := by decide +kernel
theorem dX5_starts_77 : decode cX5_starts 77 = .ok (.iload_n 3, 1) := by decide +kernel
theorem dX5_starts_78 : decode cX5_starts 78 = .ok (.isub, 1) := by decide +kernel
theorem dX5_starts_79 : decode cX5_starts 79 = .ok (.istore 4, 2) := by decide +kernel
theorem dX5_starts_81 : decode cX5_starts 81 = .ok (.iconst (-1), 1) := by decide +kernel
theorem dX5_starts_82 : decode cX5_starts 82 = .ok (.istore 5, 2) := by decide +kernel
theorem dX5_starts_84 : decode cX5_starts 84 = .ok (.iconst 0, 1) := by decide +kernel
theorem dX5_starts_85 : decode cX5_starts 85 = .ok (.istore 6, 2) := by decide +kernel
theorem dX5_starts_87 : decode cX5_starts 87 = .ok (.iload 6, 2) := by decide +kernel
theorem dX5_starts_89 : decode cX5_starts 89 = .ok (.aload_n 0, 1) := by decide +kernel
theorem dX5_starts_90 : decode cX5_starts 90 = .ok (.getfield 61, 3) := by decide +kernel
theorem dX5_starts_93 : decode cX5_starts 93 = .ok (.if_icmp .ge 101, 3) := by decide +kernel
theorem dX5_starts_96 : decode cX5_starts 96 = .ok (.aload_n 0, 1) := by decide +kernel
theorem dX5_starts_97 : decode cX5_starts 97 = .ok (.getfield 13, 3) := by decide +kernel
theorem dX5_starts_100 : decode cX5_starts 100 = .ok (.iload 6, 2) := by decide +kernel
theorem dX5_starts_102 : decode cX5_starts 102 = .ok (.iaload, 1) := by decide +kernel
theorem dX5_starts_103 : decode cX5_starts 103 = .ok (.iconst 2, 1) := by decide +kernel
theorem dX5_starts_104 : decode cX5_starts 104 = .ok (.if_icmp .ne 7, 3) := by decide +kernel
theorem dX5_starts_107 : decode cX5_starts 107 = .ok (.iconst 1, 1) := by decide +kernel
theorem dX5_starts_108 : decode cX5_starts 108 = .ok (.goto 4, 3) := by decide +kernel
theorem dX5_starts_111 : decode cX5_starts 111 = .ok (.iconst 0, 1) := by decide +kernel
theorem dX5_starts_112 : decode cX5_starts 112 = .ok (.istore 7, 2) := by decide +kernel
theorem dX5_starts_114 : decode cX5_starts 114 = .ok (.iload 7, 2) := by decide +kernel
theorem dX5_starts_116 : decode cX5_starts 116 = .ok (.ifCond .eq 31, 3) := by decide +kernel
theorem dX5_starts_119 : decode cX5_starts 119 = .ok (.iload_n 2, 1) := by decide +kernel
theorem dX5_starts_120 : decode cX5_starts 120 = .ok (.iload_n 3, 1) := by decide +kernel
theorem dX5_starts_121 : decode cX5_starts 121 = .ok (.if_icmp .ge 22, 3) := by decide +kernel
theorem dX5_starts_124 : decode cX5_starts 124 = .ok (.aload_n 0, 1) := by decide +kernel
theorem dX5_starts_125 : decode cX5_starts 125 = .ok (.iload 6, 2) := by decide +kernel
theorem dX5_starts_127 : decode cX5_starts 127 = .ok (.iload_n 1, 1) := by decide +kernel
theorem dX5_starts_128 : decode cX5_starts 128 = .ok (.invokevirtual 170, 3) := by decide +kernel
theorem dX5_starts_131 : decode cX5_starts 131 = .ok (.iload_n 3, 1) := by decide +kernel
theorem dX5_starts_132 : decode cX5_starts 132 = .ok (.iconst 1, 1) := by decide +kernel
theorem dX5_starts_133 : decode cX5_starts 133 = .ok (.isub, 1) := by decide +kernel
theorem dX5_starts_134 : decode cX5_starts 134 = .ok (.iload_n 2, 1) := by decide +kernel
theorem dX5_starts_135 : decode cX5_starts 135 = .ok (.isub, 1) := by decide +kernel
theorem dX5_starts_136 : decode cX5_starts 136 = .ok (.if_icmp .ne 7, 3) := by decide +kernel
theorem dX5_starts_139 : decode cX5_starts 139 = .ok (.iconst 1, 1) := by decide +kernel
theorem dX5_starts_140 : decode cX5_starts 140 = .ok (.goto 17, 3) := by decide +kernel
theorem dX5_starts_143 : decode cX5_starts 143 = .ok (.iconst 0, 1) := by decide +kernel
theorem dX5_starts_144 : decode cX5_starts 144 = .ok (.goto 13, 3) := by decide +kernel
theorem dX5_starts_147 : decode cX5_starts 147 = .ok (.iload 4, 2) := by decide +kernel
theorem dX5_starts_149 : decode cX5_starts 149 = .ok (.ifCond .ne 7, 3) := by decide +kernel
theorem dX5_starts_152 : decode cX5_starts 152 = .ok (.iconst 1, 1) := by decide +kernel
theorem dX5_starts_153 : decode cX5_starts 153 = .ok (.goto 4, 3) := by decide +kernel
theorem dX5_starts_156 : decode cX5_starts 156 = .ok (.iconst 0, 1) := by decide +kernel
theorem dX5_starts_157 : decode cX5_starts 157 = .ok (.istore 8, 2) := by decide +kernel
theorem dX5_starts_159 : decode cX5_starts 159 = .ok (.iload 8, 2) := by decide +kernel
theorem dX5_starts_161 : decode cX5_starts 161 = .ok (.ifCond .eq 8, 3) := by decide +kernel
theorem dX5_starts_164 : decode cX5_starts 164 = .ok (.iload 6, 2) := by decide +kernel
theorem dX5_starts_166 : decode cX5_starts 166 = .ok (.goto 5, 3) := by decide +kernel
theorem dX5_starts_169 : decode cX5_starts 169 = .ok (.iload 5, 2) := by decide +kernel
theorem dX5_starts_171 : decode cX5_starts 171 = .ok (.istore 5, 2) := by decide +kernel
theorem dX5_starts_173 : decode cX5_starts 173 = .ok (.iload 4, 2) := by decide +kernel
theorem dX5_starts_175 : decode cX5_starts 175 = .ok (.iload 7, 2) := by decide +kernel
theorem dX5_starts_177 : decode cX5_starts 177 = .ok (.ifCond .eq 7, 3) := by decide +kernel
theorem dX5_starts_180 : decode cX5_starts 180 = .ok (.iconst 0, 1) := by decide +kernel
theorem dX5_starts_181 : decode cX5_starts 181 = .ok (.goto 4, 3) := by decide +kernel
theorem dX5_starts_184 : decode cX5_starts 184 = .ok (.iconst 1, 1) := by decide +kernel
theorem dX5_starts_185 : decode cX5_starts 185 = .ok (.isub, 1) := by decide +kernel
theorem dX5_starts_186 : decode cX5_starts 186 = .ok (.istore 4, 2) := by decide +kernel
theorem dX5_starts_188 : decode cX5_starts 188 = .ok (.iinc 6 1, 3) := by decide +kernel
theorem dX5_starts_191 : decode cX5_starts 191 = .ok (.goto (-104), 3) := by decide +kernel
theorem dX5_starts_194 : decode cX5_starts 194 = .ok (.iload 5, 2) := by decide +kernel
theorem dX5_starts_196 : decode cX5_starts 196 = .ok (.ireturn, 1) := by decide +kernel
theorem dX5_bias_0 : decode cX5_bias 0 = .ok (.aload_n 0, 1) := by decide +kernel
theorem dX5_bias_1 : decode cX5_bias 1 = .ok (.iload_n 1, 1) := by decide +kernel
theorem dX5_bias_2 : decode cX5_bias 2 = .ok (.iconst 0, 1) := by decide +kernel
theorem dX5_bias_3 : decode cX5_bias 3 = .ok (.bipush 6, 2) := by decide +kernel
theorem dX5_bias_5 : decode cX5_bias 5 = .ok (.invokestatic 64, 3) := by decide +kernel
theorem dX5_bias_8 : decode cX5_bias 8 = .ok (.ifCond .eq 7, 3) := by decide +kernel
theorem dX5_bias_11 : decode cX5_bias 11 = .ok (.iconst 0, 1) := by decide +kernel
theorem dX5_bias_12 : decode cX5_bias 12 = .ok (.goto 4, 3) := by decide +kernel
theorem dX5_bias_15 : decode cX5_bias 15 = .ok (.iconst 1, 1) := by decide +kernel
theorem dX5_bias_16 : decode cX5_bias 16 = .ok (.putfield 58, 3) := by decide +kernel
theorem dX5_bias_19 : decode cX5_bias 19 = .ok (.dconst 0, 1) := by decide +kernel
theorem dX5_bias_20 : decode cX5_bias 20 = .ok (.dstore_n 2, 1) := by decide +kernel
theorem dX5_bias_21 : decode cX5_bias 21 = .ok (.iconst 0, 1) := by decide +kernel
theorem dX5_bias_22 : decode cX5_bias 22 = .ok (.istore 4, 2) := by decide +kernel
theorem dX5_bias_24 : decode cX5_bias 24 = .ok (.iload 4, 2) := by decide +kernel
theorem dX5_bias_26 : decode cX5_bias 26 = .ok (.sipush 144, 3) := by decide +kernel
theorem dX5_bias_29 : decode cX5_bias 29 = .ok (.if_icmp .ge 71, 3) := by decide +kernel
theorem dX5_bias_32 : decode cX5_bias 32 = .ok (.aload_n 0, 1) := by decide +kernel
theorem dX5_bias_33 : decode cX5_bias 33 = .ok (.getfield 58, 3) := by decide +kernel
theorem dX5_bias_36 : decode cX5_bias 36 = .ok (.ifCond .ne 64, 3) := by decide +kernel
theorem dX5_bias_39 : decode cX5_bias 39 = .ok (.aload_n 0, 1) := by decide +kernel
theorem dX5_bias_40 : decode cX5_bias 40 = .ok (.getfield 45, 3) := by decide +kernel
theorem dX5_bias_43 : decode cX5_bias 43 = .ok (.sipush 144, 3) := by decide +kernel
theorem dX5_bias_46 : decode cX5_bias 46 = .ok (.iload_n 1, 1) := by decide +kernel
theorem dX5_bias_47 : decode cX5_bias 47 = .ok (.imul, 1) := by decide +kernel
theorem dX5_bias_48 : decode cX5_bias 48 = .ok (.iload 4, 2) := by decide +kernel
theorem dX5_bias_50 : decode cX5_bias 50 = .ok (.iadd, 1) := by decide +kernel
theorem dX5_bias_51 : decode cX5_bias 51 = .ok (.iaload, 1) := by decide +kernel
theorem dX5_bias_52 : decode cX5_bias 52 = .ok (.istore 5, 2) := by decide +kernel
theorem dX5_bias_54 : decode cX5_bias 54 = .ok (.aload_n 0, 1) := by decide +kernel
theorem dX5_bias_55 : decode cX5_bias 55 = .ok (.iload 4, 2) := by decide +kernel
theorem dX5_bias_57 : decode cX5_bias 57 = .ok (.bipush 12, 2) := by decide +kernel
theorem dX5_bias_59 : decode cX5_bias 59 = .ok (.idiv, 1) := by decide +kernel
theorem dX5_bias_60 : decode cX5_bias 60 = .ok (.iload 4, 2) := by decide +kernel
theorem dX5_bias_62 : decode cX5_bias 62 = .ok (.bipush 12, 2) := by decide +kernel
theorem dX5_bias_64 : decode cX5_bias 64 = .ok (.irem, 1) := by decide +kernel
theorem dX5_bias_65 : decode cX5_bias 65 = .ok (.invokevirtual 144, 3) := by decide +kernel
theorem dX5_bias_68 : decode cX5_bias 68 = .ok (.dstore 6, 2) := by decide +kernel
theorem dX5_bias_70 : decode cX5_bias 70 = .ok (.iload 5, 2) := by decide +kernel
theorem dX5_bias_72 : decode cX5_bias 72 = .ok (.bipush (-99), 2) := by decide +kernel
theorem dX5_bias_74 : decode cX5_bias 74 = .ok (.if_icmp .eq 20, 3) := by decide +kernel
theorem dX5_bias_77 : decode cX5_bias 77 = .ok (.aload_n 0, 1) := by decide +kernel
theorem dX5_bias_78 : decode cX5_bias 78 = .ok (.getfield 118, 3) := by decide +kernel
theorem dX5_bias_81 : decode cX5_bias 81 = .ok (.iconst 3, 1) := by decide +kernel
theorem dX5_bias_82 : decode cX5_bias 82 = .ok (.if_icmp .lt 12, 3) := by decide +kernel
theorem dX5_bias_85 : decode cX5_bias 85 = .ok (.dload_n 2, 1) := by decide +kernel
theorem dX5_bias_86 : decode cX5_bias 86 = .ok (.iload 5, 2) := by decide +kernel
theorem dX5_bias_88 : decode cX5_bias 88 = .ok (.i2d, 1) := by decide +kernel
theorem dX5_bias_89 : decode cX5_bias 89 = .ok (.dload 6, 2) := by decide +kernel
theorem dX5_bias_91 : decode cX5_bias 91 = .ok (.dsub, 1) := by decide +kernel
theorem dX5_bias_92 : decode cX5_bias 92 = .ok (.dadd, 1) := by decide +kernel
theorem dX5_bias_93 : decode cX5_bias 93 = .ok (.dstore_n 2, 1) := by decide +kernel
theorem dX5_bias_94 : decode cX5_bias 94 = .ok (.iinc 4 1, 3) := by decide +kernel
theorem dX5_bias_97 : decode cX5_bias 97 = .ok (.goto (-73), 3) := by decide +kernel
theorem dX5_bias_100 : decode cX5_bias 100 = .ok (.aload_n 0, 1) := by decide +kernel
theorem dX5_bias_101 : decode cX5_bias 101 = .ok (.getfield 58, 3) := by decide +kernel
theorem dX5_bias_104 : decode cX5_bias 104 = .ok (.ifCond .le 7, 3) := by decide +kernel
theorem dX5_bias_107 : decode cX5_bias 107 = .ok (.iconst 0, 1) := by decide +kernel
theorem dX5_bias_108 : decode cX5_bias 108 = .ok (.goto 11, 3) := by decide +kernel
theorem dX5_bias_111 : decode cX5_bias 111 = .ok (.ldc2_w 173, 3) := by decide +kernel
theorem dX5_bias_114 : decode cX5_bias 114 = .ok (.dload_n 2, 1) := by decide +kernel
theorem dX5_bias_115 : decode cX5_bias 115 = .ok (.dmul, 1) := by decide +kernel
theorem dX5_bias_116 : decode cX5_bias 116 = .ok (.invokestatic 112, 3) := by decide +kernel
theorem dX5_bias_119 : decode cX5_bias 119 = .ok (.ireturn, 1) := by decide +kernel
theorem dX5_addsUp_0 : decode cX5_addsUp 0 = .ok (.aload_n 0, 1) := by decide +kernel
theorem dX5_addsUp_1 : decode cX5_addsUp 1 = .ok (.iconst 0, 1) := by decide +kernel
theorem dX5_addsUp_2 : decode cX5_addsUp 2 = .ok (.putfield 58, 3) := by decide +kernel
theorem dX5_addsUp_5 : decode cX5_addsUp 5 = .ok (.iconst 1, 1) := by decide +kernel
theorem dX5_addsUp_6 : decode cX5_addsUp 6 = .ok (.ireturn, 1) := by decide +kernel
theorem dJ6_bitCount_0f7a4_0 : decode cJ6_bitCount_0f7a4 0 = .ok (.iload_n 0, 1) := by decide +kernel
theorem dJ6_bitCount_0f7a4_1 : decode cJ6_bitCount_0f7a4 1 = .ok (.iload_n 0, 1) := by decide +kernel
theorem dJ6_bitCount_0f7a4_2 : decode cJ6_bitCount_0f7a4 2 = .ok (.iconst 1, 1) := by decide +kernel
theorem dJ6_bitCount_0f7a4_3 : decode cJ6_bitCount_0f7a4 3 = .ok (.iushr, 1) := by decide +kernel
theorem dJ6_bitCount_0f7a4_4 : decode cJ6_bitCount_0f7a4 4 = .ok (.ldc_w 265, 3) := by decide +kernel
theorem dJ6_bitCount_0f7a4_7 : decode cJ6_bitCount_0f7a4 7 = .ok (.iand, 1) := by decide +kernel
theorem dJ6_bitCount_0f7a4_8 : decode cJ6_bitCount_0f7a4 8 = .ok (.isub, 1) := by decide +kernel
theorem dJ6_bitCount_0f7a4_9 : decode cJ6_bitCount_0f7a4 9 = .ok (.istore_n 0, 1) := by decide +kernel
theorem dJ6_bitCount_0f7a4_10 : decode cJ6_bitCount_0f7a4 10 = .ok (.iload_n 0, 1) := by decide +kernel
theorem dJ6_bitCount_0f7a4_11 : decode cJ6_bitCount_0f7a4 11 = .ok (.ldc_w 266, 3) := by decide +kernel
theorem dJ6_bitCount_0f7a4_14 : decode cJ6_bitCount_0f7a4 14 = .ok (.iand, 1) := by decide +kernel
theorem dJ6_bitCount_0f7a4_15 : decode cJ6_bitCount_0f7a4 15 = .ok (.iload_n 0, 1) := by decide +kernel
theorem dJ6_bitCount_0f7a4_16 : decode cJ6_bitCount_0f7a4 16 = .ok (.iconst 2, 1) := by decide +kernel
theorem dJ6_bitCount_0f7a4_17 : decode cJ6_bitCount_0f7a4 17 = .ok (.iushr, 1) := by decide +kernel
theorem dJ6_bitCount_0f7a4_18 : decode cJ6_bitCount_0f7a4 18 = .ok (.ldc_w 266, 3) := by decide +kernel
theorem dJ6_bitCount_0f7a4_21 : decode cJ6_bitCount_0f7a4 21 = .ok (.iand, 1) := by decide +kernel
theorem dJ6_bitCount_0f7a4_22 : decode cJ6_bitCount_0f7a4 22 = .ok (.iadd, 1) := by decide +kernel
theorem dJ6_bitCount_0f7a4_23 : decode cJ6_bitCount_0f7a4 23 = .ok (.istore_n 0, 1) := by decide +kernel
theorem dJ6_bitCount_0f7a4_24 : decode cJ6_bitCount_0f7a4 24 = .ok (.iload_n 0, 1) := by decide +kernel
theorem dJ6_bitCount_0f7a4_25 : decode cJ6_bitCount_0f7a4 25 = .ok (.iload_n 0, 1) := by decide +kernel
theorem dJ6_bitCount_0f7a4_26 : decode cJ6_bitCount_0f7a4 26 = .ok (.iconst 4, 1) := by decide +kernel
theorem dJ6_bitCount_0f7a4_27 : decode cJ6_bitCount_0f7a4 27 = .ok (.iushr, 1) := by decide +kernel
theorem dJ6_bitCount_0f7a4_28 : decode cJ6_bitCount_0f7a4 28 = .ok (.iadd, 1) := by decide +kernel
theorem dJ6_bitCount_0f7a4_29 : decode cJ6_bitCount_0f7a4 29 = .ok (.ldc_w 267, 3) := by decide +kernel
theorem dJ6_bitCount_0f7a4_32 : decode cJ6_bitCount_0f7a4 32 = .ok (.iand, 1) := by decide +kernel
theorem dJ6_bitCount_0f7a4_33 : decode cJ6_bitCount_0f7a4 33 = .ok (.istore_n 0, 1) := by decide +kernel
theorem dJ6_bitCount_0f7a4_34 : decode cJ6_bitCount_0f7a4 34 = .ok (.iload_n 0, 1) := by decide +kernel
theorem dJ6_bitCount_0f7a4_35 : decode cJ6_bitCount_0f7a4 35 = .ok (.iload_n 0, 1) := by decide +kernel
theorem dJ6_bitCount_0f7a4_36 : decode cJ6_bitCount_0f7a4 36 = .ok (.bipush 8, 2) := by decide +kernel
theorem dJ6_bitCount_0f7a4_38 : decode cJ6_bitCount_0f7a4 38 = .ok (.iushr, 1) := by decide +kernel
theorem dJ6_bitCount_0f7a4_39 : decode cJ6_bitCount_0f7a4 39 = .ok (.iadd, 1) := by decide +kernel
theorem dJ6_bitCount_0f7a4_40 : decode cJ6_bitCount_0f7a4 40 = .ok (.istore_n 0, 1) := by decide +kernel
theorem dJ6_bitCount_0f7a4_41 : decode cJ6_bitCount_0f7a4 41 = .ok (.iload_n 0, 1) := by decide +kernel
theorem dJ6_bitCount_0f7a4_42 : decode cJ6_bitCount_0f7a4 42 = .ok (.iload_n 0, 1) := by decide +kernel
theorem dJ6_bitCount_0f7a4_43 : decode cJ6_bitCount_0f7a4 43 = .ok (.bipush 16, 2) := by decide +kernel
theorem dJ6_bitCount_0f7a4_45 : decode cJ6_bitCount_0f7a4 45 = .ok (.iushr, 1) := by decide +kernel
theorem dJ6_bitCount_0f7a4_46 : decode cJ6_bitCount_0f7a4 46 = .ok (.iadd, 1) := by decide +kernel
theorem dJ6_bitCount_0f7a4_47 : decode cJ6_bitCount_0f7a4 47 = .ok (.istore_n 0, 1) := by decide +kernel
theorem dJ6_bitCount_0f7a4_48 : decode cJ6_bitCount_0f7a4 48 = .ok (.iload_n 0, 1) := by decide +kernel
theorem dJ6_bitCount_0f7a4_49 : decode cJ6_bitCount_0f7a4 49 = .ok (.bipush 63, 2) := by decide +kernel
theorem dJ6_bitCount_0f7a4_51 : decode cJ6_bitCount_0f7a4 51 = .ok (.iand, 1) := by decide +kernel
theorem dJ6_bitCount_0f7a4_52 : decode cJ6_bitCount_0f7a4 52 = .ok (.ireturn, 1) := by decide +kernel
theorem dJ9_max_7cf53_0 : decode cJ9_max_7cf53 0 = .ok (.iload_n 0, 1) := by decide +kernel
theorem dJ9_max_7cf53_1 : decode cJ9_max_7cf53 1 = .ok (.iload_n 1, 1) := by decide +kernel
theorem dJ9_max_7cf53_2 : decode cJ9_max_7cf53 2 = .ok (.if_icmp .lt 7, 3) := by decide +kernel
theorem dJ9_max_7cf53_5 : decode cJ9_max_7cf53 5 = .ok (.iload_n 0, 1) := by decide +kernel
theorem dJ9_max_7cf53_6 : decode cJ9_max_7cf53 6 = .ok (.goto 4, 3) := by decide +kernel
theorem dJ9_max_7cf53_9 : decode cJ9_max_7cf53 9 = .ok (.iload_n 1, 1) := by decide +kernel
theorem dJ9_max_7cf53_10 : decode cJ9_max_7cf53 10 = .ok (.ireturn, 1) := by decide +kernel
theorem dJ9_min_7cf53_0 : decode cJ9_min_7cf53 0 = .ok (.iload_n 0, 1) := by decide +kernel
theorem dJ9_min_7cf53_1 : decode cJ9_min_7cf53 1 = .ok (.iload_n 1, 1) := by decide +kernel
theorem dJ9_min_7cf53_2 : decode cJ9_min_7cf53 2 = .ok (.if_icmp .gt 7, 3) := by decide +kernel
theorem dJ9_min_7cf53_5 : decode cJ9_min_7cf53 5 = .ok (.iload_n 0, 1) := by decide +kernel
theorem dJ9_min_7cf53_6 : decode cJ9_min_7cf53 6 = .ok (.goto 4, 3) := by decide +kernel
theorem dJ9_min_7cf53_9 : decode cJ9_min_7cf53 9 = .ok (.iload_n 1, 1) := by decide +kernel
theorem dJ9_min_7cf53_10 : decode cJ9_min_7cf53 10 = .ok (.ireturn, 1) := by decide +kernel
theorem dL_skater_0 : decode cL_skater 0 = .ok (.aload_n 1, 1) := by decide +kernel
theorem dL_skater_1 : decode cL_skater 1 = .ok (.iconst 0, 1) := by decide +kernel
theorem dL_skater_2 : decode cL_skater 2 = .ok (.aload_n 0, 1) := by decide +kernel
theorem dL_skater_3 : decode cL_skater 3 = .ok (.invokevirtual 7, 3) := by decide +kernel
theorem dL_skater_6 : decode cL_skater 6 = .ok (.i2l, 1) := by decide +kernel
theorem dL_skater_7 : decode cL_skater 7 = .ok (.lastore, 1) := by decide +kernel
theorem dL_skater_8 : decode cL_skater 8 = .ok (.goto 6, 3) := by decide +kernel
theorem dL_skater_11 : decode cL_skater 11 = .ok (.astore_n 2, 1) := by decide +kernel
theorem dL_skater_12 : decode cL_skater 12 = .ok (.iconst 1, 1) := by decide +kernel
theorem dL_skater_13 : decode cL_skater 13 = .ok (.ireturn, 1) := by decide +kernel
theorem dL_skater_14 : decode cL_skater 14 = .ok (.iconst 0, 1) := by decide +kernel
theorem dL_skater_15 : decode cL_skater 15 = .ok (.ireturn, 1) := by decide +kernel
theorem dL_begin_0 : decode cL_begin 0 = .ok (.aload_n 0, 1) := by decide +kernel
theorem dL_begin_1 : decode cL_begin 1 = .ok (.iload_n 1, 1) := by decide +kernel
theorem dL_begin_2 : decode cL_begin 2 = .ok (.invokevirtual 15, 3) := by decide +kernel
theorem dL_begin_5 : decode cL_begin 5 = .ok (.goto 9, 3) := by decide +kernel
theorem dL_begin_8 : decode cL_begin 8 = .ok (.astore_n 2, 1) := by decide +kernel
theorem dL_begin_9 : decode cL_begin 9 = .ok (.iconst 1, 1) := by decide +kernel
theorem dL_begin_10 : decode cL_begin 10 = .ok (.ireturn, 1) := by decide +kernel
theorem dL_begin_11 : decode cL_begin 11 = .ok (.astore_n 2, 1) := by decide +kernel
theorem dL_begin_12 : decode cL_begin 12 = .ok (.iconst 2, 1) := by decide +kernel
theorem dL_begin_13 : decode cL_begin 13 = .ok (.ireturn, 1) := by decide +kernel
theorem dL_begin_14 : decode cL_begin 14 = .ok (.iconst 0, 1) := by decide +kernel
theorem dL_begin_15 : decode cL_begin 15 = .ok (.ireturn, 1) := by decide +kernel
theorem dL_turn_0 : decode cL_turn 0 = .ok (.aload_n 2, 1) := by decide +kernel
theorem dL_turn_1 : decode cL_turn 1 = .ok (.iconst 0, 1) := by decide +kernel
theorem dL_turn_2 : decode cL_turn 2 = .ok (.aload_n 0, 1) := by decide +kernel
theorem dL_turn_3 : decode cL_turn 3 = .ok (.iload_n 1, 1) := by decide +kernel
theorem dL_turn_4 : decode cL_turn 4 = .ok (.invokevirtual 21, 3) := by decide +kernel
theorem dL_turn_7 : decode cL_turn 7 = .ok (.i2l, 1) := by decide +kernel
theorem dL_turn_8 : decode cL_turn 8 = .ok (.lastore, 1) := by decide +kernel
theorem dL_turn_9 : decode cL_turn 9 = .ok (.goto 9, 3) := by decide +kernel
theorem dL_turn_12 : decode cL_turn 12 = .ok (.astore_n 3, 1) := by decide +kernel
theorem dL_turn_13 : decode cL_turn 13 = .ok (.iconst 1, 1) := by decide +kernel
theorem dL_turn_14 : decode cL_turn 14 = .ok (.ireturn, 1) := by decide +kernel
theorem dL_turn_15 : decode cL_turn 15 = .ok (.astore_n 3, 1) := by decide +kernel
theorem dL_turn_16 : decode cL_turn 16 = .ok (.iconst 2, 1) := by decide +kernel
theorem dL_turn_17 : decode cL_turn 17 = .ok (.ireturn, 1) := by decide +kernel
theorem dL_turn_18 : decode cL_turn 18 = .ok (.iconst 0, 1) := by decide +kernel
theorem dL_turn_19 : decode cL_turn 19 = .ok (.ireturn, 1) := by decide +kernel
theorem dL_jump_0 : decode cL_jump 0 = .ok (.aload 4, 2) := by decide +kernel
theorem dL_jump_2 : decode cL_jump 2 = .ok (.iconst 0, 1) := by decide +kernel
theorem dL_jump_3 : decode cL_jump 3 = .ok (.aload_n 0, 1) := by decide +kernel
theorem dL_jump_4 : decode cL_jump 4 = .ok (.iload_n 1, 1) := by decide +kernel
theorem dL_jump_5 : decode cL_jump 5 = .ok (.iload_n 2, 1) := by decide +kernel
theorem dL_jump_6 : decode cL_jump 6 = .ok (.iload_n 3, 1) := by decide +kernel
theorem dL_jump_7 : decode cL_jump 7 = .ok (.invokevirtual 27, 3) := by decide +kernel
theorem dL_jump_10 : decode cL_jump 10 = .ok (.i2l, 1) := by decide +kernel
theorem dL_jump_11 : decode cL_jump 11 = .ok (.lastore, 1) := by decide +kernel
theorem dL_jump_12 : decode cL_jump 12 = .ok (.goto 11, 3) := by decide +kernel
theorem dL_jump_15 : decode cL_jump 15 = .ok (.astore 5, 2) := by decide +kernel
theorem dL_jump_17 : decode cL_jump 17 = .ok (.iconst 1, 1) := by decide +kernel
theorem dL_jump_18 : decode cL_jump 18 = .ok (.ireturn, 1) := by decide +kernel
theorem dL_jump_19 : decode cL_jump 19 = .ok (.astore 5, 2) := by decide +kernel
theorem dL_jump_21 : decode cL_jump 21 = .ok (.iconst 2, 1) := by decide +kernel
theorem dL_jump_22 : decode cL_jump 22 = .ok (.ireturn, 1) := by decide +kernel
theorem dL_jump_23 : decode cL_jump 23 = .ok (.iconst 0, 1) := by decide +kernel
theorem dL_jump_24 : decode cL_jump 24 = .ok (.ireturn, 1) := by decide +kernel
theorem dL_spin_0 : decode cL_spin 0 = .ok (.aload_n 3, 1) := by decide +kernel
theorem dL_spin_1 : decode cL_spin 1 = .ok (.iconst 0, 1) := by decide +kernel
theorem dL_spin_2 : decode cL_spin 2 = .ok (.aload_n 0, 1) := by decide +kernel
theorem dL_spin_3 : decode cL_spin 3 = .ok (.iload_n 1, 1) := by decide +kernel
theorem dL_spin_4 : decode cL_spin 4 = .ok (.iload_n 2, 1) := by decide +kernel
theorem dL_spin_5 : decode cL_spin 5 = .ok (.invokevirtual 31, 3) := by decide +kernel
theorem dL_spin_8 : decode cL_spin 8 = .ok (.i2l, 1) := by decide +kernel
theorem dL_spin_9 : decode cL_spin 9 = .ok (.lastore, 1) := by decide +kernel
theorem dL_spin_10 : decode cL_spin 10 = .ok (.goto 11, 3) := by decide +kernel
theorem dL_spin_13 : decode cL_spin 13 = .ok (.astore 4, 2) := by decide +kernel
theorem dL_spin_15 : decode cL_spin 15 = .ok (.iconst 1, 1) := by decide +kernel
theorem dL_spin_16 : decode cL_spin 16 = .ok (.ireturn, 1) := by decide +kernel
theorem dL_spin_17 : decode cL_spin 17 = .ok (.astore 4, 2) := by decide +kernel
theorem dL_spin_19 : decode cL_spin 19 = .ok (.iconst 2, 1) := by decide +kernel
theorem dL_spin_20 : decode cL_spin 20 = .ok (.ireturn, 1) := by decide +kernel
theorem dL_spin_21 : decode cL_spin 21 = .ok (.iconst 0, 1) := by decide +kernel
theorem dL_spin_22 : decode cL_spin 22 = .ok (.ireturn, 1) := by decide +kernel
theorem dL_end_0 : decode cL_end 0 = .ok (.aload_n 1, 1) := by decide +kernel
theorem dL_end_1 : decode cL_end 1 = .ok (.iconst 0, 1) := by decide +kernel
theorem dL_end_2 : decode cL_end 2 = .ok (.aload_n 0, 1) := by decide +kernel
theorem dL_end_3 : decode cL_end 3 = .ok (.invokevirtual 35, 3) := by decide +kernel
theorem dL_end_6 : decode cL_end 6 = .ok (.i2l, 1) := by decide +kernel
theorem dL_end_7 : decode cL_end 7 = .ok (.lastore, 1) := by decide +kernel
theorem dL_end_8 : decode cL_end 8 = .ok (.goto 6, 3) := by decide +kernel
theorem dL_end_11 : decode cL_end 11 = .ok (.astore_n 2, 1) := by decide +kernel
theorem dL_end_12 : decode cL_end 12 = .ok (.iconst 1, 1) := by decide +kernel
theorem dL_end_13 : decode cL_end 13 = .ok (.ireturn, 1) := by decide +kernel
theorem dL_end_14 : decode cL_end 14 = .ok (.iconst 0, 1) := by decide +kernel
theorem dL_end_15 : decode cL_end 15 = .ok (.ireturn, 1) := by decide +kernel
theorem dL_call_0 : decode cL_call 0 = .ok (.aload 4, 2) := by decide +kernel
theorem dL_call_2 : decode cL_call 2 = .ok (.iconst 0, 1) := by decide +kernel
theorem dL_call_3 : decode cL_call 3 = .ok (.aload_n 0, 1) := by decide +kernel
theorem dL_call_4 : decode cL_call 4 = .ok (.iload_n 1, 1) := by decide +kernel
theorem dL_call_5 : decode cL_call 5 = .ok (.iload_n 2, 1) := by decide +kernel
theorem dL_call_6 : decode cL_call 6 = .ok (.iload_n 3, 1) := by decide +kernel
theorem dL_call_7 : decode cL_call 7 = .ok (.invokevirtual 38, 3) := by decide +kernel
theorem dL_call_10 : decode cL_call 10 = .ok (.i2l, 1) := by decide +kernel
theorem dL_call_11 : decode cL_call 11 = .ok (.lastore, 1) := by decide +kernel
theorem dL_call_12 : decode cL_call 12 = .ok (.goto 15, 3) := by decide +kernel
theorem dL_call_15 : decode cL_call 15 = .ok (.astore 5, 2) := by decide +kernel
theorem dL_call_17 : decode cL_call 17 = .ok (.iconst 1, 1) := by decide +kernel
theorem dL_call_18 : decode cL_call 18 = .ok (.ireturn, 1) := by decide +kernel
theorem dL_call_19 : decode cL_call 19 = .ok (.astore 5, 2) := by decide +kernel
theorem dL_call_21 : decode cL_call 21 = .ok (.iconst 2, 1) := by decide +kernel
theorem dL_call_22 : decode cL_call 22 = .ok (.ireturn, 1) := by decide +kernel
theorem dL_call_23 : decode cL_call 23 = .ok (.astore 5, 2) := by decide +kernel
theorem dL_call_25 : decode cL_call 25 = .ok (.iconst 3, 1) := by decide +kernel
theorem dL_call_26 : decode cL_call 26 = .ok (.ireturn, 1) := by decide +kernel
theorem dL_call_27 : decode cL_call 27 = .ok (.iconst 0, 1) := by decide +kernel
theorem dL_call_28 : decode cL_call 28 = .ok (.ireturn, 1) := by decide +kernel
theorem dL_grade_0 : decode cL_grade 0 = .ok (.aload_n 0, 1) := by decide +kernel
theorem dL_grade_1 : decode cL_grade 1 = .ok (.iload_n 1, 1) := by decide +kernel
theorem dL_grade_2 : decode cL_grade 2 = .ok (.iload_n 2, 1) := by decide +kernel
theorem dL_grade_3 : decode cL_grade 3 = .ok (.iload_n 3, 1) := by decide +kernel
theorem dL_grade_4 : decode cL_grade 4 = .ok (.iload 4, 2) := by decide +kernel
theorem dL_grade_6 : decode cL_grade 6 = .ok (.invokevirtual 42, 3) := by decide +kernel
theorem dL_grade_9 : decode cL_grade 9 = .ok (.goto 15, 3) := by decide +kernel
theorem dL_grade_12 : decode cL_grade 12 = .ok (.astore 5, 2) := by decide +kernel
theorem dL_grade_14 : decode cL_grade 14 = .ok (.iconst 1, 1) := by decide +kernel
theorem dL_grade_15 : decode cL_grade 15 = .ok (.ireturn, 1) := by decide +kernel
theorem dL_grade_16 : decode cL_grade 16 = .ok (.astore 5, 2) := by decide +kernel
theorem dL_grade_18 : decode cL_grade 18 = .ok (.iconst 2, 1) := by decide +kernel
theorem dL_grade_19 : decode cL_grade 19 = .ok (.ireturn, 1) := by decide +kernel
theorem dL_grade_20 : decode cL_grade 20 = .ok (.astore 5, 2) := by decide +kernel
theorem dL_grade_22 : decode cL_grade 22 = .ok (.iconst 3, 1) := by decide +kernel
theorem dL_grade_23 : decode cL_grade 23 = .ok (.ireturn, 1) := by decide +kernel
theorem dL_grade_24 : decode cL_grade 24 = .ok (.iconst 0, 1) := by decide +kernel
theorem dL_grade_25 : decode cL_grade 25 = .ok (.ireturn, 1) := by decide +kernel
theorem dL_component_0 : decode cL_component 0 = .ok (.aload_n 0, 1) := by decide +kernel
theorem dL_component_1 : decode cL_component 1 = .ok (.iload_n 1, 1) := by decide +kernel
theorem dL_component_2 : decode cL_component 2 = .ok (.iload_n 2, 1) := by decide +kernel
theorem dL_component_3 : decode cL_component 3 = .ok (.iload_n 3, 1) := by decide +kernel
theorem dL_component_4 : decode cL_component 4 = .ok (.iload 4, 2) := by decide +kernel
theorem dL_component_6 : decode cL_component 6 = .ok (.invokevirtual 46, 3) := by decide +kernel
theorem dL_component_9 : decode cL_component 9 = .ok (.goto 15, 3) := by decide +kernel
theorem dL_component_12 : decode cL_component 12 = .ok (.astore 5, 2) := by decide +kernel
theorem dL_component_14 : decode cL_component 14 = .ok (.iconst 1, 1) := by decide +kernel
theorem dL_component_15 : decode cL_component 15 = .ok (.ireturn, 1) := by decide +kernel
theorem dL_component_16 : decode cL_component 16 = .ok (.astore 5, 2) := by decide +kernel
theorem dL_component_18 : decode cL_component 18 = .ok (.iconst 2, 1) := by decide +kernel
theorem dL_component_19 : decode cL_component 19 = .ok (.ireturn, 1) := by decide +kernel
theorem dL_component_20 : decode cL_component 20 = .ok (.astore 5, 2) := by decide +kernel
theorem dL_component_22 : decode cL_component 22 = .ok (.iconst 3, 1) := by decide +kernel
theorem dL_component_23 : decode cL_component 23 = .ok (.ireturn, 1) := by decide +kernel
theorem dL_component_24 : decode cL_component 24 = .ok (.iconst 0, 1) := by decide +kernel
theorem dL_component_25 : decode cL_component 25 = .ok (.ireturn, 1) := by decide +kernel
theorem dL_value_0 : decode cL_value 0 = .ok (.aload 5, 2) := by decide +kernel
theorem dL_value_2 : decode cL_value 2 = .ok (.iconst 0, 1) := by decide +kernel
theorem dL_value_3 : decode cL_value 3 = .ok (.aload_n 0, 1) := by decide +kernel
theorem dL_value_4 : decode cL_value 4 = .ok (.iload_n 1, 1) := by decide +kernel
theorem dL_value_5 : decode cL_value 5 = .ok (.iload_n 2, 1) := by decide +kernel
theorem dL_value_6 : decode cL_value 6 = .ok (.iload_n 3, 1) := by decide +kernel
theorem dL_value_7 : decode cL_value 7 = .ok (.iload 4, 2) := by decide +kernel
theorem dL_value_9 : decode cL_value 9 = .ok (.invokevirtual 49, 3) := by decide +kernel
theorem dL_value_12 : decode cL_value 12 = .ok (.i2l, 1) := by decide +kernel
theorem dL_value_13 : decode cL_value 13 = .ok (.lastore, 1) := by decide +kernel
theorem dL_value_14 : decode cL_value 14 = .ok (.goto 7, 3) := by decide +kernel
theorem dL_value_17 : decode cL_value 17 = .ok (.astore 6, 2) := by decide +kernel
theorem dL_value_19 : decode cL_value 19 = .ok (.iconst 1, 1) := by decide +kernel
theorem dL_value_20 : decode cL_value 20 = .ok (.ireturn, 1) := by decide +kernel
theorem dL_value_21 : decode cL_value 21 = .ok (.iconst 0, 1) := by decide +kernel
theorem dL_value_22 : decode cL_value 22 = .ok (.ireturn, 1) := by decide +kernel
theorem dL_element_0 : decode cL_element 0 = .ok (.aload 5, 2) := by decide +kernel
theorem dL_element_2 : decode cL_element 2 = .ok (.iconst 0, 1) := by decide +kernel
theorem dL_element_3 : decode cL_element 3 = .ok (.aload_n 0, 1) := by decide +kernel
theorem dL_element_4 : decode cL_element 4 = .ok (.iload_n 1, 1) := by decide +kernel
theorem dL_element_5 : decode cL_element 5 = .ok (.iload_n 2, 1) := by decide +kernel
theorem dL_element_6 : decode cL_element 6 = .ok (.iload_n 3, 1) := by decide +kernel
theorem dL_element_7 : decode cL_element 7 = .ok (.iload 4, 2) := by decide +kernel
theorem dL_element_9 : decode cL_element 9 = .ok (.invokevirtual 53, 3) := by decide +kernel
theorem dL_element_12 : decode cL_element 12 = .ok (.i2l, 1) := by decide +kernel
theorem dL_element_13 : decode cL_element 13 = .ok (.lastore, 1) := by decide +kernel
theorem dL_element_14 : decode cL_element 14 = .ok (.goto 11, 3) := by decide +kernel
theorem dL_element_17 : decode cL_element 17 = .ok (.astore 6, 2) := by decide +kernel
theorem dL_element_19 : decode cL_element 19 = .ok (.iconst 1, 1) := by decide +kernel
theorem dL_element_20 : decode cL_element 20 = .ok (.ireturn, 1) := by decide +kernel
theorem dL_element_21 : decode cL_element 21 = .ok (.astore 6, 2) := by decide +kernel
theorem dL_element_23 : decode cL_element 23 = .ok (.iconst 2, 1) := by decide +kernel
theorem dL_element_24 : decode cL_element 24 = .ok (.ireturn, 1) := by decide +kernel
theorem dL_element_25 : decode cL_element 25 = .ok (.iconst 0, 1) := by decide +kernel
theorem dL_element_26 : decode cL_element 26 = .ok (.ireturn, 1) := by decide +kernel
theorem dL_programme_0 : decode cL_programme 0 = .ok (.aload 4, 2) := by decide +kernel
theorem dL_programme_2 : decode cL_programme 2 = .ok (.iconst 0, 1) := by decide +kernel
theorem dL_programme_3 : decode cL_programme 3 = .ok (.aload_n 0, 1) := by decide +kernel
theorem dL_programme_4 : decode cL_programme 4 = .ok (.iload_n 1, 1) := by decide +kernel
theorem dL_programme_5 : decode cL_programme 5 = .ok (.iload_n 2, 1) := by decide +kernel
theorem dL_programme_6 : decode cL_programme 6 = .ok (.iload_n 3, 1) := by decide +kernel
theorem dL_programme_7 : decode cL_programme 7 = .ok (.invokevirtual 56, 3) := by decide +kernel
theorem dL_programme_10 : decode cL_programme 10 = .ok (.i2l, 1) := by decide +kernel
theorem dL_programme_11 : decode cL_programme 11 = .ok (.lastore, 1) := by decide +kernel
theorem dL_programme_12 : decode cL_programme 12 = .ok (.goto 11, 3) := by decide +kernel
theorem dL_programme_15 : decode cL_programme 15 = .ok (.astore 5, 2) := by decide +kernel
theorem dL_programme_17 : decode cL_programme 17 = .ok (.iconst 1, 1) := by decide +kernel
theorem dL_programme_18 : decode cL_programme 18 = .ok (.ireturn, 1) := by decide +kernel
theorem dL_programme_19 : decode cL_programme 19 = .ok (.astore 5, 2) := by decide +kernel
theorem dL_programme_21 : decode cL_programme 21 = .ok (.iconst 2, 1) := by decide +kernel
theorem dL_programme_22 : decode cL_programme 22 = .ok (.ireturn, 1) := by decide +kernel
theorem dL_programme_23 : decode cL_programme 23 = .ok (.iconst 0, 1) := by decide +kernel
theorem dL_programme_24 : decode cL_programme 24 = .ok (.ireturn, 1) := by decide +kernel
theorem dL_starts_0 : decode cL_starts 0 = .ok (.aload_n 3, 1) := by decide +kernel
theorem dL_starts_1 : decode cL_starts 1 = .ok (.iconst 0, 1) := by decide +kernel
theorem dL_starts_2 : decode cL_starts 2 = .ok (.aload_n 0, 1) := by decide +kernel
theorem dL_starts_3 : decode cL_starts 3 = .ok (.iload_n 1, 1) := by decide +kernel
theorem dL_starts_4 : decode cL_starts 4 = .ok (.iload_n 2, 1) := by decide +kernel
theorem dL_starts_5 : decode cL_starts 5 = .ok (.invokevirtual 59, 3) := by decide +kernel
theorem dL_starts_8 : decode cL_starts 8 = .ok (.i2l, 1) := by decide +kernel
theorem dL_starts_9 : decode cL_starts 9 = .ok (.lastore, 1) := by decide +kernel
theorem dL_starts_10 : decode cL_starts 10 = .ok (.goto 7, 3) := by decide +kernel
theorem dL_starts_13 : decode cL_starts 13 = .ok (.astore 4, 2) := by decide +kernel
theorem dL_starts_15 : decode cL_starts 15 = .ok (.iconst 1, 1) := by decide +kernel
theorem dL_starts_16 : decode cL_starts 16 = .ok (.ireturn, 1) := by decide +kernel
theorem dL_starts_17 : decode cL_starts 17 = .ok (.iconst 0, 1) := by decide +kernel
theorem dL_starts_18 : decode cL_starts 18 = .ok (.ireturn, 1) := by decide +kernel
theorem dL_bias_0 : decode cL_bias 0 = .ok (.aload_n 2, 1) := by decide +kernel
theorem dL_bias_1 : decode cL_bias 1 = .ok (.iconst 0, 1) := by decide +kernel
theorem dL_bias_2 : decode cL_bias 2 = .ok (.aload_n 0, 1) := by decide +kernel
theorem dL_bias_3 : decode cL_bias 3 = .ok (.iload_n 1, 1) := by decide +kernel
theorem dL_bias_4 : decode cL_bias 4 = .ok (.invokevirtual 62, 3) := by decide +kernel
theorem dL_bias_7 : decode cL_bias 7 = .ok (.i2l, 1) := by decide +kernel
theorem dL_bias_8 : decode cL_bias 8 = .ok (.lastore, 1) := by decide +kernel
theorem dL_bias_9 : decode cL_bias 9 = .ok (.goto 6, 3) := by decide +kernel
theorem dL_bias_12 : decode cL_bias 12 = .ok (.astore_n 3, 1) := by decide +kernel
theorem dL_bias_13 : decode cL_bias 13 = .ok (.iconst 1, 1) := by decide +kernel
theorem dL_bias_14 : decode cL_bias 14 = .ok (.ireturn, 1) := by decide +kernel
theorem dL_bias_15 : decode cL_bias 15 = .ok (.iconst 0, 1) := by decide +kernel
theorem dL_bias_16 : decode cL_bias 16 = .ok (.ireturn, 1) := by decide +kernel
theorem dL_law_0 : decode cL_law 0 = .ok (.new 8, 3) := by decide +kernel
theorem dL_law_3 : decode cL_law 3 = .ok (.dup, 1) := by decide +kernel
theorem dL_law_4 : decode cL_law 4 = .ok (.invokespecial 65, 3) := by decide +kernel
theorem dL_law_7 : decode cL_law 7 = .ok (.astore_n 1, 1) := by decide +kernel
theorem dL_law_8 : decode cL_law 8 = .ok (.new 66, 3) := by decide +kernel
theorem dL_law_11 : decode cL_law 11 = .ok (.dup, 1) := by decide +kernel
theorem dL_law_12 : decode cL_law 12 = .ok (.invokespecial 68, 3) := by decide +kernel
theorem dL_law_15 : decode cL_law 15 = .ok (.astore_n 2, 1) := by decide +kernel
theorem dL_law_16 : decode cL_law 16 = .ok (.iconst 1, 1) := by decide +kernel
theorem dL_law_17 : decode cL_law 17 = .ok (.newarray .long, 2) := by decide +kernel
theorem dL_law_19 : decode cL_law 19 = .ok (.astore_n 3, 1) := by decide +kernel
theorem dL_law_20 : decode cL_law 20 = .ok (.iconst 0, 1) := by decide +kernel
theorem dL_law_21 : decode cL_law 21 = .ok (.istore 4, 2) := by decide +kernel
theorem dL_law_23 : decode cL_law 23 = .ok (.iload 4, 2) := by decide +kernel
theorem dL_law_25 : decode cL_law 25 = .ok (.aload_n 0, 1) := by decide +kernel
theorem dL_law_26 : decode cL_law 26 = .ok (.arraylength, 1) := by decide +kernel
theorem dL_law_27 : decode cL_law 27 = .ok (.iconst 5, 1) := by decide +kernel
theorem dL_law_28 : decode cL_law 28 = .ok (.isub, 1) := by decide +kernel
theorem dL_law_29 : decode cL_law 29 = .ok (.if_icmp .gt 1058, 3) := by decide +kernel
theorem dL_law_32 : decode cL_law 32 = .ok (.aload_n 0, 1) := by decide +kernel
theorem dL_law_33 : decode cL_law 33 = .ok (.iload 4, 2) := by decide +kernel
theorem dL_law_35 : decode cL_law 35 = .ok (.iaload, 1) := by decide +kernel
theorem dL_law_36 : decode cL_law 36 = .ok (.bipush 15, 2) := by decide +kernel
theorem dL_law_38 : decode cL_law 38 = .ok (.iand, 1) := by decide +kernel
theorem dL_law_39 : decode cL_law 39 = .ok (.tableswitch 1042 0 14 #[73, 117, 153, 209, 305, 373, 417, 497, 569, 641, 733, 825, 905, 973, 1029], 73) := by decide +kernel
theorem dL_law_112 : decode cL_law 112 = .ok (.aload_n 1, 1) := by decide +kernel
theorem dL_law_113 : decode cL_law 113 = .ok (.aload_n 3, 1) := by decide +kernel
theorem dL_law_114 : decode cL_law 114 = .ok (.invokestatic 69, 3) := by decide +kernel
theorem dL_law_117 : decode cL_law 117 = .ok (.istore 5, 2) := by decide +kernel
theorem dL_law_119 : decode cL_law 119 = .ok (.aload_n 2, 1) := by decide +kernel
theorem dL_law_120 : decode cL_law 120 = .ok (.invokevirtual 74, 3) := by decide +kernel
theorem dL_law_123 : decode cL_law 123 = .ok (.istore 6, 2) := by decide +kernel
theorem dL_law_125 : decode cL_law 125 = .ok (.aload_n 2, 1) := by decide +kernel
theorem dL_law_126 : decode cL_law 126 = .ok (.invokevirtual 75, 3) := by decide +kernel
theorem dL_law_129 : decode cL_law 129 = .ok (.iload 5, 2) := by decide +kernel
theorem dL_law_131 : decode cL_law 131 = .ok (.if_icmp .eq 5, 3) := by decide +kernel
theorem dL_law_134 : decode cL_law 134 = .ok (.iconst 0, 1) := by decide +kernel
theorem dL_law_135 : decode cL_law 135 = .ok (.ireturn, 1) := by decide +kernel
theorem dL_law_136 : decode cL_law 136 = .ok (.iload 5, 2) := by decide +kernel
theorem dL_law_138 : decode cL_law 138 = .ok (.ifCond .ne 15, 3) := by decide +kernel
theorem dL_law_141 : decode cL_law 141 = .ok (.aload_n 3, 1) := by decide +kernel
theorem dL_law_142 : decode cL_law 142 = .ok (.iconst 0, 1) := by decide +kernel
theorem dL_law_143 : decode cL_law 143 = .ok (.laload, 1) := by decide +kernel
theorem dL_law_144 : decode cL_law 144 = .ok (.iload 6, 2) := by decide +kernel
theorem dL_law_146 : decode cL_law 146 = .ok (.i2l, 1) := by decide +kernel
theorem dL_law_147 : decode cL_law 147 = .ok (.lcmp, 1) := by decide +kernel
theorem dL_law_148 : decode cL_law 148 = .ok (.ifCond .eq 5, 3) := by decide +kernel
theorem dL_law_151 : decode cL_law 151 = .ok (.iconst 0, 1) := by decide +kernel
theorem dL_law_152 : decode cL_law 152 = .ok (.ireturn, 1) := by decide +kernel
theorem dL_law_153 : decode cL_law 153 = .ok (.goto 928, 3) := by decide +kernel
theorem dL_law_156 : decode cL_law 156 = .ok (.aload_n 1, 1) := by decide +kernel
theorem dL_law_157 : decode cL_law 157 = .ok (.aload_n 0, 1) := by decide +kernel
theorem dL_law_158 : decode cL_law 158 = .ok (.iload 4, 2) := by decide +kernel
theorem dL_law_160 : decode cL_law 160 = .ok (.iconst 1, 1) := by decide +kernel
theorem dL_law_161 : decode cL_law 161 = .ok (.iadd, 1) := by decide +kernel
theorem dL_law_162 : decode cL_law 162 = .ok (.iaload, 1) := by decide +kernel
theorem dL_law_163 : decode cL_law 163 = .ok (.invokestatic 78, 3) := by decide +kernel
theorem dL_law_166 : decode cL_law 166 = .ok (.istore 5, 2) := by decide +kernel
theorem dL_law_168 : decode cL_law 168 = .ok (.aload_n 2, 1) := by decide +kernel
theorem dL_law_169 : decode cL_law 169 = .ok (.aload_n 0, 1) := by decide +kernel
theorem dL_law_170 : decode cL_law 170 = .ok (.iload 4, 2) := by decide +kernel
theorem dL_law_172 : decode cL_law 172 = .ok (.iconst 1, 1) := by decide +kernel
theorem dL_law_173 : decode cL_law 173 = .ok (.iadd, 1) := by decide +kernel
theorem dL_law_174 : decode cL_law 174 = .ok (.iaload, 1) := by decide +kernel
theorem dL_law_175 : decode cL_law 175 = .ok (.invokevirtual 81, 3) := by decide +kernel
theorem dL_law_178 : decode cL_law 178 = .ok (.aload_n 2, 1) := by decide +kernel
theorem dL_law_179 : decode cL_law 179 = .ok (.invokevirtual 75, 3) := by decide +kernel
theorem dL_law_182 : decode cL_law 182 = .ok (.iload 5, 2) := by decide +kernel
theorem dL_law_184 : decode cL_law 184 = .ok (.if_icmp .eq 5, 3) := by decide +kernel
theorem dL_law_187 : decode cL_law 187 = .ok (.iconst 0, 1) := by decide +kernel
theorem dL_law_188 : decode cL_law 188 = .ok (.ireturn, 1) := by decide +kernel
theorem dL_law_189 : decode cL_law 189 = .ok (.goto 892, 3) := by decide +kernel
theorem dL_law_192 : decode cL_law 192 = .ok (.aload_n 1, 1) := by decide +kernel
theorem dL_law_193 : decode cL_law 193 = .ok (.aload_n 0, 1) := by decide +kernel
theorem dL_law_194 : decode cL_law 194 = .ok (.iload 4, 2) := by decide +kernel
theorem dL_law_196 : decode cL_law 196 = .ok (.iconst 1, 1) := by decide +kernel
theorem dL_law_197 : decode cL_law 197 = .ok (.iadd, 1) := by decide +kernel
theorem dL_law_198 : decode cL_law 198 = .ok (.iaload, 1) := by decide +kernel
theorem dL_law_199 : decode cL_law 199 = .ok (.aload_n 3, 1) := by decide +kernel
theorem dL_law_200 : decode cL_law 200 = .ok (.invokestatic 82, 3) := by decide +kernel
theorem dL_law_203 : decode cL_law 203 = .ok (.istore 5, 2) := by decide +kernel
theorem dL_law_205 : decode cL_law 205 = .ok (.aload_n 2, 1) := by decide +kernel
theorem dL_law_206 : decode cL_law 206 = .ok (.aload_n 0, 1) := by decide +kernel
theorem dL_law_207 : decode cL_law 207 = .ok (.iload 4, 2) := by decide +kernel
theorem dL_law_209 : decode cL_law 209 = .ok (.iconst 1, 1) := by decide +kernel
theorem dL_law_210 : decode cL_law 210 = .ok (.iadd, 1) := by decide +kernel
theorem dL_law_211 : decode cL_law 211 = .ok (.iaload, 1) := by decide +kernel
theorem dL_law_212 : decode cL_law 212 = .ok (.invokevirtual 85, 3) := by decide +kernel
theorem dL_law_215 : decode cL_law 215 = .ok (.istore 6, 2) := by decide +kernel
theorem dL_law_217 : decode cL_law 217 = .ok (.aload_n 2, 1) := by decide +kernel
theorem dL_law_218 : decode cL_law 218 = .ok (.invokevirtual 75, 3) := by decide +kernel
theorem dL_law_221 : decode cL_law 221 = .ok (.iload 5, 2) := by decide +kernel
theorem dL_law_223 : decode cL_law 223 = .ok (.if_icmp .eq 5, 3) := by decide +kernel
theorem dL_law_226 : decode cL_law 226 = .ok (.iconst 0, 1) := by decide +kernel
theorem dL_law_227 : decode cL_law 227 = .ok (.ireturn, 1) := by decide +kernel
theorem dL_law_228 : decode cL_law 228 = .ok (.iload 5, 2) := by decide +kernel
theorem dL_law_230 : decode cL_law 230 = .ok (.ifCond .ne 15, 3) := by decide +kernel
theorem dL_law_233 : decode cL_law 233 = .ok (.aload_n 3, 1) := by decide +kernel
theorem dL_law_234 : decode cL_law 234 = .ok (.iconst 0, 1) := by decide +kernel
theorem dL_law_235 : decode cL_law 235 = .ok (.laload, 1) := by decide +kernel
theorem dL_law_236 : decode cL_law 236 = .ok (.iload 6, 2) := by decide +kernel
theorem dL_law_238 : decode cL_law 238 = .ok (.i2l, 1) := by decide +kernel
theorem dL_law_239 : decode cL_law 239 = .ok (.lcmp, 1) := by decide +kernel
theorem dL_law_240 : decode cL_law 240 = .ok (.ifCond .eq 5, 3) := by decide +kernel
theorem dL_law_243 : decode cL_law 243 = .ok (.iconst 0, 1) := by decide +kernel
theorem dL_law_244 : decode cL_law 244 = .ok (.ireturn, 1) := by decide +kernel
theorem dL_law_245 : decode cL_law 245 = .ok (.goto 836, 3) := by decide +kernel
theorem dL_law_248 : decode cL_law 248 = .ok (.aload_n 1, 1) := by decide +kernel
theorem dL_law_249 : decode cL_law 249 = .ok (.aload_n 0, 1) := by decide +kernel
theorem dL_law_250 : decode cL_law 250 = .ok (.iload 4, 2) := by decide +kernel
theorem dL_law_252 : decode cL_law 252 = .ok (.iconst 1, 1) := by decide +kernel
theorem dL_law_253 : decode cL_law 253 = .ok (.iadd, 1) := by decide +kernel
theorem dL_law_254 : decode cL_law 254 = .ok (.iaload, 1) := by decide +kernel
theorem dL_law_255 : decode cL_law 255 = .ok (.aload_n 0, 1) := by decide +kernel
theorem dL_law_256 : decode cL_law 256 = .ok (.iload 4, 2) := by decide +kernel
theorem dL_law_258 : decode cL_law 258 = .ok (.iconst 2, 1) := by decide +kernel
theorem dL_law_259 : decode cL_law 259 = .ok (.iadd, 1) := by decide +kernel
theorem dL_law_260 : decode cL_law 260 = .ok (.iaload, 1) := by decide +kernel
theorem dL_law_261 : decode cL_law 261 = .ok (.aload_n 0, 1) := by decide +kernel
theorem dL_law_262 : decode cL_law 262 = .ok (.iload 4, 2) := by decide +kernel
theorem dL_law_264 : decode cL_law 264 = .ok (.iconst 3, 1) := by decide +kernel
theorem dL_law_265 : decode cL_law 265 = .ok (.iadd, 1) := by decide +kernel
theorem dL_law_266 : decode cL_law 266 = .ok (.iaload, 1) := by decide +kernel
theorem dL_law_267 : decode cL_law 267 = .ok (.ifCond .eq 7, 3) := by decide +kernel
theorem dL_law_270 : decode cL_law 270 = .ok (.iconst 1, 1) := by decide +kernel
theorem dL_law_271 : decode cL_law 271 = .ok (.goto 4, 3) := by decide +kernel
theorem dL_law_274 : decode cL_law 274 = .ok (.iconst 0, 1) := by decide +kernel
theorem dL_law_275 : decode cL_law 275 = .ok (.aload_n 3, 1) := by decide +kernel
theorem dL_law_276 : decode cL_law 276 = .ok (.invokestatic 86, 3) := by decide +kernel
theorem dL_law_279 : decode cL_law 279 = .ok (.istore 5, 2) := by decide +kernel
theorem dL_law_281 : decode cL_law 281 = .ok (.aload_n 2, 1) := by decide +kernel
theorem dL_law_282 : decode cL_law 282 = .ok (.aload_n 0, 1) := by decide +kernel
theorem dL_law_283 : decode cL_law 283 = .ok (.iload 4, 2) := by decide +kernel
theorem dL_law_285 : decode cL_law 285 = .ok (.iconst 1, 1) := by decide +kernel
theorem dL_law_286 : decode cL_law 286 = .ok (.iadd, 1) := by decide +kernel
theorem dL_law_287 : decode cL_law 287 = .ok (.iaload, 1) := by decide +kernel
theorem dL_law_288 : decode cL_law 288 = .ok (.aload_n 0, 1) := by decide +kernel
theorem dL_law_289 : decode cL_law 289 = .ok (.iload 4, 2) := by decide +kernel
theorem dL_law_291 : decode cL_law 291 = .ok (.iconst 2, 1) := by decide +kernel
theorem dL_law_292 : decode cL_law 292 = .ok (.iadd, 1) := by decide +kernel
theorem dL_law_293 : decode cL_law 293 = .ok (.iaload, 1) := by decide +kernel
theorem dL_law_294 : decode cL_law 294 = .ok (.aload_n 0, 1) := by decide +kernel
theorem dL_law_295 : decode cL_law 295 = .ok (.iload 4, 2) := by decide +kernel
theorem dL_law_297 : decode cL_law 297 = .ok (.iconst 3, 1) := by decide +kernel
theorem dL_law_298 : decode cL_law 298 = .ok (.iadd, 1) := by decide +kernel
theorem dL_law_299 : decode cL_law 299 = .ok (.iaload, 1) := by decide +kernel
theorem dL_law_300 : decode cL_law 300 = .ok (.ifCond .eq 7, 3) := by decide +kernel
theorem dL_law_303 : decode cL_law 303 = .ok (.iconst 1, 1) := by decide +kernel
theorem dL_law_304 : decode cL_law 304 = .ok (.goto 4, 3) := by decide +kernel
theorem dL_law_307 : decode cL_law 307 = .ok (.iconst 0, 1) := by decide +kernel
theorem dL_law_308 : decode cL_law 308 = .ok (.invokevirtual 89, 3) := by decide +kernel
theorem dL_law_311 : decode cL_law 311 = .ok (.istore 6, 2) := by decide +kernel
theorem dL_law_313 : decode cL_law 313 = .ok (.aload_n 2, 1) := by decide +kernel
theorem dL_law_314 : decode cL_law 314 = .ok (.invokevirtual 75, 3) := by decide +kernel
theorem dL_law_317 : decode cL_law 317 = .ok (.iload 5, 2) := by decide +kernel
theorem dL_law_319 : decode cL_law 319 = .ok (.if_icmp .eq 5, 3) := by decide +kernel
theorem dL_law_322 : decode cL_law 322 = .ok (.iconst 0, 1) := by decide +kernel
theorem dL_law_323 : decode cL_law 323 = .ok (.ireturn, 1) := by decide +kernel
theorem dL_law_324 : decode cL_law 324 = .ok (.iload 5, 2) := by decide +kernel
theorem dL_law_326 : decode cL_law 326 = .ok (.ifCond .ne 15, 3) := by decide +kernel
theorem dL_law_329 : decode cL_law 329 = .ok (.aload_n 3, 1) := by decide +kernel
theorem dL_law_330 : decode cL_law 330 = .ok (.iconst 0, 1) := by decide +kernel
theorem dL_law_331 : decode cL_law 331 = .ok (.laload, 1) := by decide +kernel
theorem dL_law_332 : decode cL_law 332 = .ok (.iload 6, 2) := by decide +kernel
theorem dL_law_334 : decode cL_law 334 = .ok (.i2l, 1) := by decide +kernel
theorem dL_law_335 : decode cL_law 335 = .ok (.lcmp, 1) := by decide +kernel
theorem dL_law_336 : decode cL_law 336 = .ok (.ifCond .eq 5, 3) := by decide +kernel
theorem dL_law_339 : decode cL_law 339 = .ok (.iconst 0, 1) := by decide +kernel
theorem dL_law_340 : decode cL_law 340 = .ok (.ireturn, 1) := by decide +kernel
theorem dL_law_341 : decode cL_law 341 = .ok (.goto 740, 3) := by decide +kernel
theorem dL_law_344 : decode cL_law 344 = .ok (.aload_n 1, 1) := by decide +kernel
theorem dL_law_345 : decode cL_law 345 = .ok (.aload_n 0, 1) := by decide +kernel
theorem dL_law_346 : decode cL_law 346 = .ok (.iload 4, 2) := by decide +kernel
theorem dL_law_348 : decode cL_law 348 = .ok (.iconst 1, 1) := by decide +kernel
theorem dL_law_349 : decode cL_law 349 = .ok (.iadd, 1) := by decide +kernel
theorem dL_law_350 : decode cL_law 350 = .ok (.iaload, 1) := by decide +kernel
theorem dL_law_351 : decode cL_law 351 = .ok (.aload_n 0, 1) := by decide +kernel
theorem dL_law_352 : decode cL_law 352 = .ok (.iload 4, 2) := by decide +kernel
theorem dL_law_354 : decode cL_law 354 = .ok (.iconst 2, 1) := by decide +kernel
theorem dL_law_355 : decode cL_law 355 = .ok (.iadd, 1) := by decide +kernel
theorem dL_law_356 : decode cL_law 356 = .ok (.iaload, 1) := by decide +kernel
theorem dL_law_357 : decode cL_law 357 = .ok (.aload_n 3, 1) := by decide +kernel
theorem dL_law_358 : decode cL_law 358 = .ok (.invokestatic 90, 3) := by decide +kernel
theorem dL_law_361 : decode cL_law 361 = .ok (.istore 5, 2) := by decide +kernel
theorem dL_law_363 : decode cL_law 363 = .ok (.aload_n 2, 1) := by decide +kernel
theorem dL_law_364 : decode cL_law 364 = .ok (.aload_n 0, 1) := by decide +kernel
theorem dL_law_365 : decode cL_law 365 = .ok (.iload 4, 2) := by decide +kernel
theorem dL_law_367 : decode cL_law 367 = .ok (.iconst 1, 1) := by decide +kernel
theorem dL_law_368 : decode cL_law 368 = .ok (.iadd, 1) := by decide +kernel
theorem dL_law_369 : decode cL_law 369 = .ok (.iaload, 1) := by decide +kernel
theorem dL_law_370 : decode cL_law 370 = .ok (.aload_n 0, 1) := by decide +kernel
theorem dL_law_371 : decode cL_law 371 = .ok (.iload 4, 2) := by decide +kernel
theorem dL_law_373 : decode cL_law 373 = .ok (.iconst 2, 1) := by decide +kernel
theorem dL_law_374 : decode cL_law 374 = .ok (.iadd, 1) := by decide +kernel
theorem dL_law_375 : decode cL_law 375 = .ok (.iaload, 1) := by decide +kernel
theorem dL_law_376 : decode cL_law 376 = .ok (.invokevirtual 93, 3) := by decide +kernel
theorem dL_law_379 : decode cL_law 379 = .ok (.istore 6, 2) := by decide +kernel
theorem dL_law_381 : decode cL_law 381 = .ok (.aload_n 2, 1) := by decide +kernel
theorem dL_law_382 : decode cL_law 382 = .ok (.invokevirtual 75, 3) := by decide +kernel
theorem dL_law_385 : decode cL_law 385 = .ok (.iload 5, 2) := by decide +kernel
theorem dL_law_387 : decode cL_law 387 = .ok (.if_icmp .eq 5, 3) := by decide +kernel
theorem dL_law_390 : decode cL_law 390 = .ok (.iconst 0, 1) := by decide +kernel
theorem dL_law_391 : decode cL_law 391 = .ok (.ireturn, 1) := by decide +kernel
theorem dL_law_392 : decode cL_law 392 = .ok (.iload 5, 2) := by decide +kernel
theorem dL_law_394 : decode cL_law 394 = .ok (.ifCond .ne 15, 3) := by decide +kernel
theorem dL_law_397 : decode cL_law 397 = .ok (.aload_n 3, 1) := by decide +kernel
theorem dL_law_398 : decode cL_law 398 = .ok (.iconst 0, 1) := by decide +kernel
theorem dL_law_399 : decode cL_law 399 = .ok (.laload, 1) := by decide +kernel
theorem dL_law_400 : decode cL_law 400 = .ok (.iload 6, 2) := by decide +kernel
theorem dL_law_402 : decode cL_law 402 = .ok (.i2l, 1) := by decide +kernel
theorem dL_law_403 : decode cL_law 403 = .ok (.lcmp, 1) := by decide +kernel
theorem dL_law_404 : decode cL_law 404 = .ok (.ifCond .eq 5, 3) := by decide +kernel
theorem dL_law_407 : decode cL_law 407 = .ok (.iconst 0, 1) := by decide +kernel
theorem dL_law_408 : decode cL_law 408 = .ok (.ireturn, 1) := by decide +kernel
theorem dL_law_409 : decode cL_law 409 = .ok (.goto 672, 3) := by decide +kernel
theorem dL_law_412 : decode cL_law 412 = .ok (.aload_n 1, 1) := by decide +kernel
theorem dL_law_413 : decode cL_law 413 = .ok (.aload_n 3, 1) := by decide +kernel
theorem dL_law_414 : decode cL_law 414 = .ok (.invokestatic 94, 3) := by decide +kernel
theorem dL_law_417 : decode cL_law 417 = .ok (.istore 5, 2) := by decide +kernel
theorem dL_law_419 : decode cL_law 419 = .ok (.aload_n 2, 1) := by decide +kernel
theorem dL_law_420 : decode cL_law 420 = .ok (.invokevirtual 96, 3) := by decide +kernel
theorem dL_law_423 : decode cL_law 423 = .ok (.istore 6, 2) := by decide +kernel
theorem dL_law_425 : decode cL_law 425 = .ok (.aload_n 2, 1) := by decide +kernel
theorem dL_law_426 : decode cL_law 426 = .ok (.invokevirtual 75, 3) := by decide +kernel
theorem dL_law_429 : decode cL_law 429 = .ok (.iload 5, 2) := by decide +kernel
theorem dL_law_431 : decode cL_law 431 = .ok (.if_icmp .eq 5, 3) := by decide +kernel
theorem dL_law_434 : decode cL_law 434 = .ok (.iconst 0, 1) := by decide +kernel
theorem dL_law_435 : decode cL_law 435 = .ok (.ireturn, 1) := by decide +kernel
theorem dL_law_436 : decode cL_law 436 = .ok (.iload 5, 2) := by decide +kernel
theorem dL_law_438 : decode cL_law 438 = .ok (.ifCond .ne 15, 3) := by decide +kernel
theorem dL_law_441 : decode cL_law 441 = .ok (.aload_n 3, 1) := by decide +kernel
theorem dL_law_442 : decode cL_law 442 = .ok (.iconst 0, 1) := by decide +kernel
theorem dL_law_443 : decode cL_law 443 = .ok (.laload, 1) := by decide +kernel
theorem dL_law_444 : decode cL_law 444 = .ok (.iload 6, 2) := by decide +kernel
theorem dL_law_446 : decode cL_law 446 = .ok (.i2l, 1) := by decide +kernel
theorem dL_law_447 : decode cL_law 447 = .ok (.lcmp, 1) := by decide +kernel
theorem dL_law_448 : decode cL_law 448 = .ok (.ifCond .eq 5, 3) := by decide +kernel
theorem dL_law_451 : decode cL_law 451 = .ok (.iconst 0, 1) := by decide +kernel
theorem dL_law_452 : decode cL_law 452 = .ok (.ireturn, 1) := by decide +kernel
theorem dL_law_453 : decode cL_law 453 = .ok (.goto 628, 3) := by decide +kernel
theorem dL_law_456 : decode cL_law 456 = .ok (.aload_n 1, 1) := by decide +kernel
theorem dL_law_457 : decode cL_law 457 = .ok (.aload_n 0, 1) := by decide +kernel
theorem dL_law_458 : decode cL_law 458 = .ok (.iload 4, 2) := by decide +kernel
theorem dL_law_460 : decode cL_law 460 = .ok (.iconst 1, 1) := by decide +kernel
theorem dL_law_461 : decode cL_law 461 = .ok (.iadd, 1) := by decide +kernel
theorem dL_law_462 : decode cL_law 462 = .ok (.iaload, 1) := by decide +kernel
theorem dL_law_463 : decode cL_law 463 = .ok (.aload_n 0, 1) := by decide +kernel
theorem dL_law_464 : decode cL_law 464 = .ok (.iload 4, 2) := by decide +kernel
theorem dL_law_466 : decode cL_law 466 = .ok (.iconst 2, 1) := by decide +kernel
theorem dL_law_467 : decode cL_law 467 = .ok (.iadd, 1) := by decide +kernel
theorem dL_law_468 : decode cL_law 468 = .ok (.iaload, 1) := by decide +kernel
theorem dL_law_469 : decode cL_law 469 = .ok (.aload_n 0, 1) := by decide +kernel
theorem dL_law_470 : decode cL_law 470 = .ok (.iload 4, 2) := by decide +kernel
theorem dL_law_472 : decode cL_law 472 = .ok (.iconst 3, 1) := by decide +kernel
theorem dL_law_473 : decode cL_law 473 = .ok (.iadd, 1) := by decide +kernel
theorem dL_law_474 : decode cL_law 474 = .ok (.iaload, 1) := by decide +kernel
theorem dL_law_475 : decode cL_law 475 = .ok (.aload_n 3, 1) := by decide +kernel
theorem dL_law_476 : decode cL_law 476 = .ok (.invokestatic 97, 3) := by decide +kernel
theorem dL_law_479 : decode cL_law 479 = .ok (.istore 5, 2) := by decide +kernel
theorem dL_law_481 : decode cL_law 481 = .ok (.aload_n 2, 1) := by decide +kernel
theorem dL_law_482 : decode cL_law 482 = .ok (.aload_n 0, 1) := by decide +kernel
theorem dL_law_483 : decode cL_law 483 = .ok (.iload 4, 2) := by decide +kernel
theorem dL_law_485 : decode cL_law 485 = .ok (.iconst 1, 1) := by decide +kernel
theorem dL_law_486 : decode cL_law 486 = .ok (.iadd, 1) := by decide +kernel
theorem dL_law_487 : decode cL_law 487 = .ok (.iaload, 1) := by decide +kernel
theorem dL_law_488 : decode cL_law 488 = .ok (.aload_n 0, 1) := by decide +kernel
theorem dL_law_489 : decode cL_law 489 = .ok (.iload 4, 2) := by decide +kernel
theorem dL_law_491 : decode cL_law 491 = .ok (.iconst 2, 1) := by decide +kernel
theorem dL_law_492 : decode cL_law 492 = .ok (.iadd, 1) := by decide +kernel
theorem dL_law_493 : decode cL_law 493 = .ok (.iaload, 1) := by decide +kernel
theorem dL_law_494 : decode cL_law 494 = .ok (.aload_n 0, 1) := by decide +kernel
theorem dL_law_495 : decode cL_law 495 = .ok (.iload 4, 2) := by decide +kernel
theorem dL_law_497 : decode cL_law 497 = .ok (.iconst 3, 1) := by decide +kernel
theorem dL_law_498 : decode cL_law 498 = .ok (.iadd, 1) := by decide +kernel
theorem dL_law_499 : decode cL_law 499 = .ok (.iaload, 1) := by decide +kernel
theorem dL_law_500 : decode cL_law 500 = .ok (.invokevirtual 100, 3) := by decide +kernel
theorem dL_law_503 : decode cL_law 503 = .ok (.istore 6, 2) := by decide +kernel
theorem dL_law_505 : decode cL_law 505 = .ok (.aload_n 2, 1) := by decide +kernel
theorem dL_law_506 : decode cL_law 506 = .ok (.invokevirtual 75, 3) := by decide +kernel
theorem dL_law_509 : decode cL_law 509 = .ok (.iload 5, 2) := by decide +kernel
theorem dL_law_511 : decode cL_law 511 = .ok (.if_icmp .eq 5, 3) := by decide +kernel
theorem dL_law_514 : decode cL_law 514 = .ok (.iconst 0, 1) := by decide +kernel
theorem dL_law_515 : decode cL_law 515 = .ok (.ireturn, 1) := by decide +kernel
theorem dL_law_516 : decode cL_law 516 = .ok (.iload 5, 2) := by decide +kernel
theorem dL_law_518 : decode cL_law 518 = .ok (.ifCond .ne 15, 3) := by decide +kernel
theorem dL_law_521 : decode cL_law 521 = .ok (.aload_n 3, 1) := by decide +kernel
theorem dL_law_522 : decode cL_law 522 = .ok (.iconst 0, 1) := by decide +kernel
theorem dL_law_523 : decode cL_law 523 = .ok (.laload, 1) := by decide +kernel
theorem dL_law_524 : decode cL_law 524 = .ok (.iload 6, 2) := by decide +kernel
theorem dL_law_526 : decode cL_law 526 = .ok (.i2l, 1) := by decide +kernel
theorem dL_law_527 : decode cL_law 527 = .ok (.lcmp, 1) := by decide +kernel
theorem dL_law_528 : decode cL_law 528 = .ok (.ifCond .eq 5, 3) := by decide +kernel
theorem dL_law_531 : decode cL_law 531 = .ok (.iconst 0, 1) := by decide +kernel
theorem dL_law_532 : decode cL_law 532 = .ok (.ireturn, 1) := by decide +kernel
theorem dL_law_533 : decode cL_law 533 = .ok (.goto 548, 3) := by decide +kernel
theorem dL_law_536 : decode cL_law 536 = .ok (.aload_n 1, 1) := by decide +kernel
theorem dL_law_537 : decode cL_law 537 = .ok (.aload_n 0, 1) := by decide +kernel
theorem dL_law_538 : decode cL_law 538 = .ok (.iload 4, 2) := by decide +kernel
theorem dL_law_540 : decode cL_law 540 = .ok (.iconst 1, 1) := by decide +kernel
theorem dL_law_541 : decode cL_law 541 = .ok (.iadd, 1) := by decide +kernel
theorem dL_law_542 : decode cL_law 542 = .ok (.iaload, 1) := by decide +kernel
theorem dL_law_543 : decode cL_law 543 = .ok (.aload_n 0, 1) := by decide +kernel
theorem dL_law_544 : decode cL_law 544 = .ok (.iload 4, 2) := by decide +kernel
theorem dL_law_546 : decode cL_law 546 = .ok (.iconst 2, 1) := by decide +kernel
theorem dL_law_547 : decode cL_law 547 = .ok (.iadd, 1) := by decide +kernel
theorem dL_law_548 : decode cL_law 548 = .ok (.iaload, 1) := by decide +kernel
theorem dL_law_549 : decode cL_law 549 = .ok (.aload_n 0, 1) := by decide +kernel
theorem dL_law_550 : decode cL_law 550 = .ok (.iload 4, 2) := by decide +kernel
theorem dL_law_552 : decode cL_law 552 = .ok (.iconst 3, 1) := by decide +kernel
theorem dL_law_553 : decode cL_law 553 = .ok (.iadd, 1) := by decide +kernel
theorem dL_law_554 : decode cL_law 554 = .ok (.iaload, 1) := by decide +kernel
theorem dL_law_555 : decode cL_law 555 = .ok (.aload_n 0, 1) := by decide +kernel
theorem dL_law_556 : decode cL_law 556 = .ok (.iload 4, 2) := by decide +kernel
theorem dL_law_558 : decode cL_law 558 = .ok (.iconst 4, 1) := by decide +kernel
theorem dL_law_559 : decode cL_law 559 = .ok (.iadd, 1) := by decide +kernel
theorem dL_law_560 : decode cL_law 560 = .ok (.iaload, 1) := by decide +kernel
theorem dL_law_561 : decode cL_law 561 = .ok (.invokestatic 101, 3) := by decide +kernel
theorem dL_law_564 : decode cL_law 564 = .ok (.istore 5, 2) := by decide +kernel
theorem dL_law_566 : decode cL_law 566 = .ok (.aload_n 2, 1) := by decide +kernel
theorem dL_law_567 : decode cL_law 567 = .ok (.aload_n 0, 1) := by decide +kernel
theorem dL_law_568 : decode cL_law 568 = .ok (.iload 4, 2) := by decide +kernel
theorem dL_law_570 : decode cL_law 570 = .ok (.iconst 1, 1) := by decide +kernel
theorem dL_law_571 : decode cL_law 571 = .ok (.iadd, 1) := by decide +kernel
theorem dL_law_572 : decode cL_law 572 = .ok (.iaload, 1) := by decide +kernel
theorem dL_law_573 : decode cL_law 573 = .ok (.aload_n 0, 1) := by decide +kernel
theorem dL_law_574 : decode cL_law 574 = .ok (.iload 4, 2) := by decide +kernel
theorem dL_law_576 : decode cL_law 576 = .ok (.iconst 2, 1) := by decide +kernel
theorem dL_law_577 : decode cL_law 577 = .ok (.iadd, 1) := by decide +kernel
theorem dL_law_578 : decode cL_law 578 = .ok (.iaload, 1) := by decide +kernel
theorem dL_law_579 : decode cL_law 579 = .ok (.aload_n 0, 1) := by decide +kernel
theorem dL_law_580 : decode cL_law 580 = .ok (.iload 4, 2) := by decide +kernel
theorem dL_law_582 : decode cL_law 582 = .ok (.iconst 3, 1) := by decide +kernel
theorem dL_law_583 : decode cL_law 583 = .ok (.iadd, 1) := by decide +kernel
theorem dL_law_584 : decode cL_law 584 = .ok (.iaload, 1) := by decide +kernel
theorem dL_law_585 : decode cL_law 585 = .ok (.aload_n 0, 1) := by decide +kernel
theorem dL_law_586 : decode cL_law 586 = .ok (.iload 4, 2) := by decide +kernel
theorem dL_law_588 : decode cL_law 588 = .ok (.iconst 4, 1) := by decide +kernel
theorem dL_law_589 : decode cL_law 589 = .ok (.iadd, 1) := by decide +kernel
theorem dL_law_590 : decode cL_law 590 = .ok (.iaload, 1) := by decide +kernel
theorem dL_law_591 : decode cL_law 591 = .ok (.invokevirtual 104, 3) := by decide +kernel
theorem dL_law_594 : decode cL_law 594 = .ok (.aload_n 2, 1) := by decide +kernel
theorem dL_law_595 : decode cL_law 595 = .ok (.invokevirtual 75, 3) := by decide +kernel
theorem dL_law_598 : decode cL_law 598 = .ok (.iload 5, 2) := by decide +kernel
theorem dL_law_600 : decode cL_law 600 = .ok (.if_icmp .eq 5, 3) := by decide +kernel
theorem dL_law_603 : decode cL_law 603 = .ok (.iconst 0, 1) := by decide +kernel
theorem dL_law_604 : decode cL_law 604 = .ok (.ireturn, 1) := by decide +kernel
theorem dL_law_605 : decode cL_law 605 = .ok (.goto 476, 3) := by decide +kernel
theorem dL_law_608 : decode cL_law 608 = .ok (.aload_n 1, 1) := by decide +kernel
theorem dL_law_609 : decode cL_law 609 = .ok (.aload_n 0, 1) := by decide +kernel
theorem dL_law_610 : decode cL_law 610 = .ok (.iload 4, 2) := by decide +kernel
theorem dL_law_612 : decode cL_law 612 = .ok (.iconst 1, 1) := by decide +kernel
theorem dL_law_613 : decode cL_law 613 = .ok (.iadd, 1) := by decide +kernel
theorem dL_law_614 : decode cL_law 614 = .ok (.iaload, 1) := by decide +kernel
theorem dL_law_615 : decode cL_law 615 = .ok (.aload_n 0, 1) := by decide +kernel
theorem dL_law_616 : decode cL_law 616 = .ok (.iload 4, 2) := by decide +kernel
theorem dL_law_618 : decode cL_law 618 = .ok (.iconst 2, 1) := by decide +kernel
theorem dL_law_619 : decode cL_law 619 = .ok (.iadd, 1) := by decide +kernel
theorem dL_law_620 : decode cL_law 620 = .ok (.iaload, 1) := by decide +kernel
theorem dL_law_621 : decode cL_law 621 = .ok (.aload_n 0, 1) := by decide +kernel
theorem dL_law_622 : decode cL_law 622 = .ok (.iload 4, 2) := by decide +kernel
theorem dL_law_624 : decode cL_law 624 = .ok (.iconst 3, 1) := by decide +kernel
theorem dL_law_625 : decode cL_law 625 = .ok (.iadd, 1) := by decide +kernel
theorem dL_law_626 : decode cL_law 626 = .ok (.iaload, 1) := by decide +kernel
theorem dL_law_627 : decode cL_law 627 = .ok (.aload_n 0, 1) := by decide +kernel
theorem dL_law_628 : decode cL_law 628 = .ok (.iload 4, 2) := by decide +kernel
theorem dL_law_630 : decode cL_law 630 = .ok (.iconst 4, 1) := by decide +kernel
theorem dL_law_631 : decode cL_law 631 = .ok (.iadd, 1) := by decide +kernel
theorem dL_law_632 : decode cL_law 632 = .ok (.iaload, 1) := by decide +kernel
theorem dL_law_633 : decode cL_law 633 = .ok (.invokestatic 105, 3) := by decide +kernel
theorem dL_law_636 : decode cL_law 636 = .ok (.istore 5, 2) := by decide +kernel
theorem dL_law_638 : decode cL_law 638 = .ok (.aload_n 2, 1) := by decide +kernel
theorem dL_law_639 : decode cL_law 639 = .ok (.aload_n 0, 1) := by decide +kernel
theorem dL_law_640 : decode cL_law 640 = .ok (.iload 4, 2) := by decide +kernel
theorem dL_law_642 : decode cL_law 642 = .ok (.iconst 1, 1) := by decide +kernel
theorem dL_law_643 : decode cL_law 643 = .ok (.iadd, 1) := by decide +kernel
theorem dL_law_644 : decode cL_law 644 = .ok (.iaload, 1) := by decide +kernel
theorem dL_law_645 : decode cL_law 645 = .ok (.aload_n 0, 1) := by decide +kernel
theorem dL_law_646 : decode cL_law 646 = .ok (.iload 4, 2) := by decide +kernel
theorem dL_law_648 : decode cL_law 648 = .ok (.iconst 2, 1) := by decide +kernel
theorem dL_law_649 : decode cL_law 649 = .ok (.iadd, 1) := by decide +kernel
theorem dL_law_650 : decode cL_law 650 = .ok (.iaload, 1) := by decide +kernel
theorem dL_law_651 : decode cL_law 651 = .ok (.aload_n 0, 1) := by decide +kernel
theorem dL_law_652 : decode cL_law 652 = .ok (.iload 4, 2) := by decide +kernel
theorem dL_law_654 : decode cL_law 654 = .ok (.iconst 3, 1) := by decide +kernel
theorem dL_law_655 : decode cL_law 655 = .ok (.iadd, 1) := by decide +kernel
theorem dL_law_656 : decode cL_law 656 = .ok (.iaload, 1) := by decide +kernel
theorem dL_law_657 : decode cL_law 657 = .ok (.aload_n 0, 1) := by decide +kernel
theorem dL_law_658 : decode cL_law 658 = .ok (.iload 4, 2) := by decide +kernel
theorem dL_law_660 : decode cL_law 660 = .ok (.iconst 4, 1) := by decide +kernel
theorem dL_law_661 : decode cL_law 661 = .ok (.iadd, 1) := by decide +kernel
theorem dL_law_662 : decode cL_law 662 = .ok (.iaload, 1) := by decide +kernel
theorem dL_law_663 : decode cL_law 663 = .ok (.invokevirtual 107, 3) := by decide +kernel
theorem dL_law_666 : decode cL_law 666 = .ok (.aload_n 2, 1) := by decide +kernel
theorem dL_law_667 : decode cL_law 667 = .ok (.invokevirtual 75, 3) := by decide +kernel
theorem dL_law_670 : decode cL_law 670 = .ok (.iload 5, 2) := by decide +kernel
theorem dL_law_672 : decode cL_law 672 = .ok (.if_icmp .eq 5, 3) := by decide +kernel
theorem dL_law_675 : decode cL_law 675 = .ok (.iconst 0, 1) := by decide +kernel
theorem dL_law_676 : decode cL_law 676 = .ok (.ireturn, 1) := by decide +kernel
theorem dL_law_677 : decode cL_law 677 = .ok (.goto 404, 3) := by decide +kernel
theorem dL_law_680 : decode cL_law 680 = .ok (.aload_n 1, 1) := by decide +kernel
theorem dL_law_681 : decode cL_law 681 = .ok (.aload_n 0, 1) := by decide +kernel
theorem dL_law_682 : decode cL_law 682 = .ok (.iload 4, 2) := by decide +kernel
theorem dL_law_684 : decode cL_law 684 = .ok (.iconst 1, 1) := by decide +kernel
theorem dL_law_685 : decode cL_law 685 = .ok (.iadd, 1) := by decide +kernel
theorem dL_law_686 : decode cL_law 686 = .ok (.iaload, 1) := by decide +kernel
theorem dL_law_687 : decode cL_law 687 = .ok (.aload_n 0, 1) := by decide +kernel
theorem dL_law_688 : decode cL_law 688 = .ok (.iload 4, 2) := by decide +kernel
theorem dL_law_690 : decode cL_law 690 = .ok (.iconst 2, 1) := by decide +kernel
theorem dL_law_691 : decode cL_law 691 = .ok (.iadd, 1) := by decide +kernel
theorem dL_law_692 : decode cL_law 692 = .ok (.iaload, 1) := by decide +kernel
theorem dL_law_693 : decode cL_law 693 = .ok (.aload_n 0, 1) := by decide +kernel
theorem dL_law_694 : decode cL_law 694 = .ok (.iload 4, 2) := by decide +kernel
theorem dL_law_696 : decode cL_law 696 = .ok (.iconst 3, 1) := by decide +kernel
theorem dL_law_697 : decode cL_law 697 = .ok (.iadd, 1) := by decide +kernel
theorem dL_law_698 : decode cL_law 698 = .ok (.iaload, 1) := by decide +kernel
theorem dL_law_699 : decode cL_law 699 = .ok (.aload_n 0, 1) := by decide +kernel
theorem dL_law_700 : decode cL_law 700 = .ok (.iload 4, 2) := by decide +kernel
theorem dL_law_702 : decode cL_law 702 = .ok (.iconst 4, 1) := by decide +kernel
theorem dL_law_703 : decode cL_law 703 = .ok (.iadd, 1) := by decide +kernel
theorem dL_law_704 : decode cL_law 704 = .ok (.iaload, 1) := by decide +kernel
theorem dL_law_705 : decode cL_law 705 = .ok (.aload_n 3, 1) := by decide +kernel
theorem dL_law_706 : decode cL_law 706 = .ok (.invokestatic 108, 3) := by decide +kernel
theorem dL_law_709 : decode cL_law 709 = .ok (.istore 5, 2) := by decide +kernel
theorem dL_law_711 : decode cL_law 711 = .ok (.aload_n 2, 1) := by decide +kernel
theorem dL_law_712 : decode cL_law 712 = .ok (.aload_n 0, 1) := by decide +kernel
theorem dL_law_713 : decode cL_law 713 = .ok (.iload 4, 2) := by decide +kernel
theorem dL_law_715 : decode cL_law 715 = .ok (.iconst 1, 1) := by decide +kernel
theorem dL_law_716 : decode cL_law 716 = .ok (.iadd, 1) := by decide +kernel
theorem dL_law_717 : decode cL_law 717 = .ok (.iaload, 1) := by decide +kernel
theorem dL_law_718 : decode cL_law 718 = .ok (.aload_n 0, 1) := by decide +kernel
theorem dL_law_719 : decode cL_law 719 = .ok (.iload 4, 2) := by decide +kernel
theorem dL_law_721 : decode cL_law 721 = .ok (.iconst 2, 1) := by decide +kernel
theorem dL_law_722 : decode cL_law 722 = .ok (.iadd, 1) := by decide +kernel
theorem dL_law_723 : decode cL_law 723 = .ok (.iaload, 1) := by decide +kernel
theorem dL_law_724 : decode cL_law 724 = .ok (.aload_n 0, 1) := by decide +kernel
theorem dL_law_725 : decode cL_law 725 = .ok (.iload 4, 2) := by decide +kernel
theorem dL_law_727 : decode cL_law 727 = .ok (.iconst 3, 1) := by decide +kernel
theorem dL_law_728 : decode cL_law 728 = .ok (.iadd, 1) := by decide +kernel
theorem dL_law_729 : decode cL_law 729 = .ok (.iaload, 1) := by decide +kernel
theorem dL_law_730 : decode cL_law 730 = .ok (.aload_n 0, 1) := by decide +kernel
theorem dL_law_731 : decode cL_law 731 = .ok (.iload 4, 2) := by decide +kernel
theorem dL_law_733 : decode cL_law 733 = .ok (.iconst 4, 1) := by decide +kernel
theorem dL_law_734 : decode cL_law 734 = .ok (.iadd, 1) := by decide +kernel
theorem dL_law_735 : decode cL_law 735 = .ok (.iaload, 1) := by decide +kernel
theorem dL_law_736 : decode cL_law 736 = .ok (.invokevirtual 111, 3) := by decide +kernel
theorem dL_law_739 : decode cL_law 739 = .ok (.istore 6, 2) := by decide +kernel
theorem dL_law_741 : decode cL_law 741 = .ok (.aload_n 2, 1) := by decide +kernel
theorem dL_law_742 : decode cL_law 742 = .ok (.invokevirtual 75, 3) := by decide +kernel
theorem dL_law_745 : decode cL_law 745 = .ok (.iload 5, 2) := by decide +kernel
theorem dL_law_747 : decode cL_law 747 = .ok (.if_icmp .eq 5, 3) := by decide +kernel
theorem dL_law_750 : decode cL_law 750 = .ok (.iconst 0, 1) := by decide +kernel
theorem dL_law_751 : decode cL_law 751 = .ok (.ireturn, 1) := by decide +kernel
theorem dL_law_752 : decode cL_law 752 = .ok (.iload 5, 2) := by decide +kernel
theorem dL_law_754 : decode cL_law 754 = .ok (.ifCond .ne 15, 3) := by decide +kernel
theorem dL_law_757 : decode cL_law 757 = .ok (.aload_n 3, 1) := by decide +kernel
theorem dL_law_758 : decode cL_law 758 = .ok (.iconst 0, 1) := by decide +kernel
theorem dL_law_759 : decode cL_law 759 = .ok (.laload, 1) := by decide +kernel
theorem dL_law_760 : decode cL_law 760 = .ok (.iload 6, 2) := by decide +kernel
theorem dL_law_762 : decode cL_law 762 = .ok (.i2l, 1) := by decide +kernel
theorem dL_law_763 : decode cL_law 763 = .ok (.lcmp, 1) := by decide +kernel
theorem dL_law_764 : decode cL_law 764 = .ok (.ifCond .eq 5, 3) := by decide +kernel
theorem dL_law_767 : decode cL_law 767 = .ok (.iconst 0, 1) := by decide +kernel
theorem dL_law_768 : decode cL_law 768 = .ok (.ireturn, 1) := by decide +kernel
theorem dL_law_769 : decode cL_law 769 = .ok (.goto 312, 3) := by decide +kernel
theorem dL_law_772 : decode cL_law 772 = .ok (.aload_n 1, 1) := by decide +kernel
theorem dL_law_773 : decode cL_law 773 = .ok (.aload_n 0, 1) := by decide +kernel
theorem dL_law_774 : decode cL_law 774 = .ok (.iload 4, 2) := by decide +kernel
theorem dL_law_776 : decode cL_law 776 = .ok (.iconst 1, 1) := by decide +kernel
theorem dL_law_777 : decode cL_law 777 = .ok (.iadd, 1) := by decide +kernel
theorem dL_law_778 : decode cL_law 778 = .ok (.iaload, 1) := by decide +kernel
theorem dL_law_779 : decode cL_law 779 = .ok (.aload_n 0, 1) := by decide +kernel
theorem dL_law_780 : decode cL_law 780 = .ok (.iload 4, 2) := by decide +kernel
theorem dL_law_782 : decode cL_law 782 = .ok (.iconst 2, 1) := by decide +kernel
theorem dL_law_783 : decode cL_law 783 = .ok (.iadd, 1) := by decide +kernel
theorem dL_law_784 : decode cL_law 784 = .ok (.iaload, 1) := by decide +kernel
theorem dL_law_785 : decode cL_law 785 = .ok (.aload_n 0, 1) := by decide +kernel
theorem dL_law_786 : decode cL_law 786 = .ok (.iload 4, 2) := by decide +kernel
theorem dL_law_788 : decode cL_law 788 = .ok (.iconst 3, 1) := by decide +kernel
theorem dL_law_789 : decode cL_law 789 = .ok (.iadd, 1) := by decide +kernel
theorem dL_law_790 : decode cL_law 790 = .ok (.iaload, 1) := by decide +kernel
theorem dL_law_791 : decode cL_law 791 = .ok (.aload_n 0, 1) := by decide +kernel
theorem dL_law_792 : decode cL_law 792 = .ok (.iload 4, 2) := by decide +kernel
theorem dL_law_794 : decode cL_law 794 = .ok (.iconst 4, 1) := by decide +kernel
theorem dL_law_795 : decode cL_law 795 = .ok (.iadd, 1) := by decide +kernel
theorem dL_law_796 : decode cL_law 796 = .ok (.iaload, 1) := by decide +kernel
theorem dL_law_797 : decode cL_law 797 = .ok (.aload_n 3, 1) := by decide +kernel
theorem dL_law_798 : decode cL_law 798 = .ok (.invokestatic 112, 3) := by decide +kernel
theorem dL_law_801 : decode cL_law 801 = .ok (.istore 5, 2) := by decide +kernel
theorem dL_law_803 : decode cL_law 803 = .ok (.aload_n 2, 1) := by decide +kernel
theorem dL_law_804 : decode cL_law 804 = .ok (.aload_n 0, 1) := by decide +kernel
theorem dL_law_805 : decode cL_law 805 = .ok (.iload 4, 2) := by decide +kernel
theorem dL_law_807 : decode cL_law 807 = .ok (.iconst 1, 1) := by decide +kernel
theorem dL_law_808 : decode cL_law 808 = .ok (.iadd, 1) := by decide +kernel
theorem dL_law_809 : decode cL_law 809 = .ok (.iaload, 1) := by decide +kernel
theorem dL_law_810 : decode cL_law 810 = .ok (.aload_n 0, 1) := by decide +kernel
theorem dL_law_811 : decode cL_law 811 = .ok (.iload 4, 2) := by decide +kernel
theorem dL_law_813 : decode cL_law 813 = .ok (.iconst 2, 1) := by decide +kernel
theorem dL_law_814 : decode cL_law 814 = .ok (.iadd, 1) := by decide +kernel
theorem dL_law_815 : decode cL_law 815 = .ok (.iaload, 1) := by decide +kernel
theorem dL_law_816 : decode cL_law 816 = .ok (.aload_n 0, 1) := by decide +kernel
theorem dL_law_817 : decode cL_law 817 = .ok (.iload 4, 2) := by decide +kernel
theorem dL_law_819 : decode cL_law 819 = .ok (.iconst 3, 1) := by decide +kernel
theorem dL_law_820 : decode cL_law 820 = .ok (.iadd, 1) := by decide +kernel
theorem dL_law_821 : decode cL_law 821 = .ok (.iaload, 1) := by decide +kernel
theorem dL_law_822 : decode cL_law 822 = .ok (.aload_n 0, 1) := by decide +kernel
theorem dL_law_823 : decode cL_law 823 = .ok (.iload 4, 2) := by decide +kernel
theorem dL_law_825 : decode cL_law 825 = .ok (.iconst 4, 1) := by decide +kernel
theorem dL_law_826 : decode cL_law 826 = .ok (.iadd, 1) := by decide +kernel
theorem dL_law_827 : decode cL_law 827 = .ok (.iaload, 1) := by decide +kernel
theorem dL_law_828 : decode cL_law 828 = .ok (.invokevirtual 114, 3) := by decide +kernel
theorem dL_law_831 : decode cL_law 831 = .ok (.istore 6, 2) := by decide +kernel
theorem dL_law_833 : decode cL_law 833 = .ok (.aload_n 2, 1) := by decide +kernel
theorem dL_law_834 : decode cL_law 834 = .ok (.invokevirtual 75, 3) := by decide +kernel
theorem dL_law_837 : decode cL_law 837 = .ok (.iload 5, 2) := by decide +kernel
theorem dL_law_839 : decode cL_law 839 = .ok (.if_icmp .eq 5, 3) := by decide +kernel
theorem dL_law_842 : decode cL_law 842 = .ok (.iconst 0, 1) := by decide +kernel
theorem dL_law_843 : decode cL_law 843 = .ok (.ireturn, 1) := by decide +kernel
theorem dL_law_844 : decode cL_law 844 = .ok (.iload 5, 2) := by decide +kernel
theorem dL_law_846 : decode cL_law 846 = .ok (.ifCond .ne 15, 3) := by decide +kernel
theorem dL_law_849 : decode cL_law 849 = .ok (.aload_n 3, 1) := by decide +kernel
theorem dL_law_850 : decode cL_law 850 = .ok (.iconst 0, 1) := by decide +kernel
theorem dL_law_851 : decode cL_law 851 = .ok (.laload, 1) := by decide +kernel
theorem dL_law_852 : decode cL_law 852 = .ok (.iload 6, 2) := by decide +kernel
theorem dL_law_854 : decode cL_law 854 = .ok (.i2l, 1) := by decide +kernel
theorem dL_law_855 : decode cL_law 855 = .ok (.lcmp, 1) := by decide +kernel
theorem dL_law_856 : decode cL_law 856 = .ok (.ifCond .eq 5, 3) := by decide +kernel
theorem dL_law_859 : decode cL_law 859 = .ok (.iconst 0, 1) := by decide +kernel
theorem dL_law_860 : decode cL_law 860 = .ok (.ireturn, 1) := by decide +kernel
theorem dL_law_861 : decode cL_law 861 = .ok (.goto 220, 3) := by decide +kernel
theorem dL_law_864 : decode cL_law 864 = .ok (.aload_n 1, 1) := by decide +kernel
theorem dL_law_865 : decode cL_law 865 = .ok (.aload_n 0, 1) := by decide +kernel
theorem dL_law_866 : decode cL_law 866 = .ok (.iload 4, 2) := by decide +kernel
theorem dL_law_868 : decode cL_law 868 = .ok (.iconst 1, 1) := by decide +kernel
theorem dL_law_869 : decode cL_law 869 = .ok (.iadd, 1) := by decide +kernel
theorem dL_law_870 : decode cL_law 870 = .ok (.iaload, 1) := by decide +kernel
theorem dL_law_871 : decode cL_law 871 = .ok (.aload_n 0, 1) := by decide +kernel
theorem dL_law_872 : decode cL_law 872 = .ok (.iload 4, 2) := by decide +kernel
theorem dL_law_874 : decode cL_law 874 = .ok (.iconst 2, 1) := by decide +kernel
theorem dL_law_875 : decode cL_law 875 = .ok (.iadd, 1) := by decide +kernel
theorem dL_law_876 : decode cL_law 876 = .ok (.iaload, 1) := by decide +kernel
theorem dL_law_877 : decode cL_law 877 = .ok (.aload_n 0, 1) := by decide +kernel
theorem dL_law_878 : decode cL_law 878 = .ok (.iload 4, 2) := by decide +kernel
theorem dL_law_880 : decode cL_law 880 = .ok (.iconst 3, 1) := by decide +kernel
theorem dL_law_881 : decode cL_law 881 = .ok (.iadd, 1) := by decide +kernel
theorem dL_law_882 : decode cL_law 882 = .ok (.iaload, 1) := by decide +kernel
theorem dL_law_883 : decode cL_law 883 = .ok (.aload_n 3, 1) := by decide +kernel
theorem dL_law_884 : decode cL_law 884 = .ok (.invokestatic 115, 3) := by decide +kernel
theorem dL_law_887 : decode cL_law 887 = .ok (.istore 5, 2) := by decide +kernel
theorem dL_law_889 : decode cL_law 889 = .ok (.aload_n 2, 1) := by decide +kernel
theorem dL_law_890 : decode cL_law 890 = .ok (.aload_n 0, 1) := by decide +kernel
theorem dL_law_891 : decode cL_law 891 = .ok (.iload 4, 2) := by decide +kernel
theorem dL_law_893 : decode cL_law 893 = .ok (.iconst 1, 1) := by decide +kernel
theorem dL_law_894 : decode cL_law 894 = .ok (.iadd, 1) := by decide +kernel
theorem dL_law_895 : decode cL_law 895 = .ok (.iaload, 1) := by decide +kernel
theorem dL_law_896 : decode cL_law 896 = .ok (.aload_n 0, 1) := by decide +kernel
theorem dL_law_897 : decode cL_law 897 = .ok (.iload 4, 2) := by decide +kernel
theorem dL_law_899 : decode cL_law 899 = .ok (.iconst 2, 1) := by decide +kernel
theorem dL_law_900 : decode cL_law 900 = .ok (.iadd, 1) := by decide +kernel
theorem dL_law_901 : decode cL_law 901 = .ok (.iaload, 1) := by decide +kernel
theorem dL_law_902 : decode cL_law 902 = .ok (.aload_n 0, 1) := by decide +kernel
theorem dL_law_903 : decode cL_law 903 = .ok (.iload 4, 2) := by decide +kernel
theorem dL_law_905 : decode cL_law 905 = .ok (.iconst 3, 1) := by decide +kernel
theorem dL_law_906 : decode cL_law 906 = .ok (.iadd, 1) := by decide +kernel
theorem dL_law_907 : decode cL_law 907 = .ok (.iaload, 1) := by decide +kernel
theorem dL_law_908 : decode cL_law 908 = .ok (.invokevirtual 117, 3) := by decide +kernel
theorem dL_law_911 : decode cL_law 911 = .ok (.istore 6, 2) := by decide +kernel
theorem dL_law_913 : decode cL_law 913 = .ok (.aload_n 2, 1) := by decide +kernel
theorem dL_law_914 : decode cL_law 914 = .ok (.invokevirtual 75, 3) := by decide +kernel
theorem dL_law_917 : decode cL_law 917 = .ok (.iload 5, 2) := by decide +kernel
theorem dL_law_919 : decode cL_law 919 = .ok (.if_icmp .eq 5, 3) := by decide +kernel
theorem dL_law_922 : decode cL_law 922 = .ok (.iconst 0, 1) := by decide +kernel
theorem dL_law_923 : decode cL_law 923 = .ok (.ireturn, 1) := by decide +kernel
theorem dL_law_924 : decode cL_law 924 = .ok (.iload 5, 2) := by decide +kernel
theorem dL_law_926 : decode cL_law 926 = .ok (.ifCond .ne 15, 3) := by decide +kernel
theorem dL_law_929 : decode cL_law 929 = .ok (.aload_n 3, 1) := by decide +kernel
theorem dL_law_930 : decode cL_law 930 = .ok (.iconst 0, 1) := by decide +kernel
theorem dL_law_931 : decode cL_law 931 = .ok (.laload, 1) := by decide +kernel
theorem dL_law_932 : decode cL_law 932 = .ok (.iload 6, 2) := by decide +kernel
theorem dL_law_934 : decode cL_law 934 = .ok (.i2l, 1) := by decide +kernel
theorem dL_law_935 : decode cL_law 935 = .ok (.lcmp, 1) := by decide +kernel
theorem dL_law_936 : decode cL_law 936 = .ok (.ifCond .eq 5, 3) := by decide +kernel
theorem dL_law_939 : decode cL_law 939 = .ok (.iconst 0, 1) := by decide +kernel
theorem dL_law_940 : decode cL_law 940 = .ok (.ireturn, 1) := by decide +kernel
theorem dL_law_941 : decode cL_law 941 = .ok (.goto 140, 3) := by decide +kernel
theorem dL_law_944 : decode cL_law 944 = .ok (.aload_n 1, 1) := by decide +kernel
theorem dL_law_945 : decode cL_law 945 = .ok (.aload_n 0, 1) := by decide +kernel
theorem dL_law_946 : decode cL_law 946 = .ok (.iload 4, 2) := by decide +kernel
theorem dL_law_948 : decode cL_law 948 = .ok (.iconst 1, 1) := by decide +kernel
theorem dL_law_949 : decode cL_law 949 = .ok (.iadd, 1) := by decide +kernel
theorem dL_law_950 : decode cL_law 950 = .ok (.iaload, 1) := by decide +kernel
theorem dL_law_951 : decode cL_law 951 = .ok (.aload_n 0, 1) := by decide +kernel
theorem dL_law_952 : decode cL_law 952 = .ok (.iload 4, 2) := by decide +kernel
theorem dL_law_954 : decode cL_law 954 = .ok (.iconst 2, 1) := by decide +kernel
theorem dL_law_955 : decode cL_law 955 = .ok (.iadd, 1) := by decide +kernel
theorem dL_law_956 : decode cL_law 956 = .ok (.iaload, 1) := by decide +kernel
theorem dL_law_957 : decode cL_law 957 = .ok (.aload_n 3, 1) := by decide +kernel
theorem dL_law_958 : decode cL_law 958 = .ok (.invokestatic 118, 3) := by decide +kernel
theorem dL_law_961 : decode cL_law 961 = .ok (.istore 5, 2) := by decide +kernel
theorem dL_law_963 : decode cL_law 963 = .ok (.aload_n 2, 1) := by decide +kernel
theorem dL_law_964 : decode cL_law 964 = .ok (.aload_n 0, 1) := by decide +kernel
theorem dL_law_965 : decode cL_law 965 = .ok (.iload 4, 2) := by decide +kernel
theorem dL_law_967 : decode cL_law 967 = .ok (.iconst 1, 1) := by decide +kernel
theorem dL_law_968 : decode cL_law 968 = .ok (.iadd, 1) := by decide +kernel
theorem dL_law_969 : decode cL_law 969 = .ok (.iaload, 1) := by decide +kernel
theorem dL_law_970 : decode cL_law 970 = .ok (.aload_n 0, 1) := by decide +kernel
theorem dL_law_971 : decode cL_law 971 = .ok (.iload 4, 2) := by decide +kernel
theorem dL_law_973 : decode cL_law 973 = .ok (.iconst 2, 1) := by decide +kernel
theorem dL_law_974 : decode cL_law 974 = .ok (.iadd, 1) := by decide +kernel
theorem dL_law_975 : decode cL_law 975 = .ok (.iaload, 1) := by decide +kernel
theorem dL_law_976 : decode cL_law 976 = .ok (.invokevirtual 120, 3) := by decide +kernel
theorem dL_law_979 : decode cL_law 979 = .ok (.istore 6, 2) := by decide +kernel
theorem dL_law_981 : decode cL_law 981 = .ok (.aload_n 2, 1) := by decide +kernel
theorem dL_law_982 : decode cL_law 982 = .ok (.invokevirtual 75, 3) := by decide +kernel
theorem dL_law_985 : decode cL_law 985 = .ok (.iload 5, 2) := by decide +kernel
theorem dL_law_987 : decode cL_law 987 = .ok (.if_icmp .eq 5, 3) := by decide +kernel
theorem dL_law_990 : decode cL_law 990 = .ok (.iconst 0, 1) := by decide +kernel
theorem dL_law_991 : decode cL_law 991 = .ok (.ireturn, 1) := by decide +kernel
theorem dL_law_992 : decode cL_law 992 = .ok (.iload 5, 2) := by decide +kernel
theorem dL_law_994 : decode cL_law 994 = .ok (.ifCond .ne 15, 3) := by decide +kernel
theorem dL_law_997 : decode cL_law 997 = .ok (.aload_n 3, 1) := by decide +kernel
theorem dL_law_998 : decode cL_law 998 = .ok (.iconst 0, 1) := by decide +kernel
theorem dL_law_999 : decode cL_law 999 = .ok (.laload, 1) := by decide +kernel
theorem dL_law_1000 : decode cL_law 1000 = .ok (.iload 6, 2) := by decide +kernel
theorem dL_law_1002 : decode cL_law 1002 = .ok (.i2l, 1) := by decide +kernel
theorem dL_law_1003 : decode cL_law 1003 = .ok (.lcmp, 1) := by decide +kernel
theorem dL_law_1004 : decode cL_law 1004 = .ok (.ifCond .eq 5, 3) := by decide +kernel
theorem dL_law_1007 : decode cL_law 1007 = .ok (.iconst 0, 1) := by decide +kernel
theorem dL_law_1008 : decode cL_law 1008 = .ok (.ireturn, 1) := by decide +kernel
theorem dL_law_1009 : decode cL_law 1009 = .ok (.goto 72, 3) := by decide +kernel
theorem dL_law_1012 : decode cL_law 1012 = .ok (.aload_n 1, 1) := by decide +kernel
theorem dL_law_1013 : decode cL_law 1013 = .ok (.aload_n 0, 1) := by decide +kernel
theorem dL_law_1014 : decode cL_law 1014 = .ok (.iload 4, 2) := by decide +kernel
theorem dL_law_1016 : decode cL_law 1016 = .ok (.iconst 1, 1) := by decide +kernel
theorem dL_law_1017 : decode cL_law 1017 = .ok (.iadd, 1) := by decide +kernel
theorem dL_law_1018 : decode cL_law 1018 = .ok (.iaload, 1) := by decide +kernel
theorem dL_law_1019 : decode cL_law 1019 = .ok (.aload_n 3, 1) := by decide +kernel
theorem dL_law_1020 : decode cL_law 1020 = .ok (.invokestatic 121, 3) := by decide +kernel
theorem dL_law_1023 : decode cL_law 1023 = .ok (.istore 5, 2) := by decide +kernel
theorem dL_law_1025 : decode cL_law 1025 = .ok (.aload_n 2, 1) := by decide +kernel
theorem dL_law_1026 : decode cL_law 1026 = .ok (.aload_n 0, 1) := by decide +kernel
theorem dL_law_1027 : decode cL_law 1027 = .ok (.iload 4, 2) := by decide +kernel
theorem dL_law_1029 : decode cL_law 1029 = .ok (.iconst 1, 1) := by decide +kernel
theorem dL_law_1030 : decode cL_law 1030 = .ok (.iadd, 1) := by decide +kernel
theorem dL_law_1031 : decode cL_law 1031 = .ok (.iaload, 1) := by decide +kernel
theorem dL_law_1032 : decode cL_law 1032 = .ok (.invokevirtual 123, 3) := by decide +kernel
theorem dL_law_1035 : decode cL_law 1035 = .ok (.istore 6, 2) := by decide +kernel
theorem dL_law_1037 : decode cL_law 1037 = .ok (.aload_n 2, 1) := by decide +kernel
theorem dL_law_1038 : decode cL_law 1038 = .ok (.invokevirtual 75, 3) := by decide +kernel
theorem dL_law_1041 : decode cL_law 1041 = .ok (.iload 5, 2) := by decide +kernel
theorem dL_law_1043 : decode cL_law 1043 = .ok (.if_icmp .eq 5, 3) := by decide +kernel
theorem dL_law_1046 : decode cL_law 1046 = .ok (.iconst 0, 1) := by decide +kernel
theorem dL_law_1047 : decode cL_law 1047 = .ok (.ireturn, 1) := by decide +kernel
theorem dL_law_1048 : decode cL_law 1048 = .ok (.iload 5, 2) := by decide +kernel
theorem dL_law_1050 : decode cL_law 1050 = .ok (.ifCond .ne 15, 3) := by decide +kernel
theorem dL_law_1053 : decode cL_law 1053 = .ok (.aload_n 3, 1) := by decide +kernel
theorem dL_law_1054 : decode cL_law 1054 = .ok (.iconst 0, 1) := by decide +kernel
theorem dL_law_1055 : decode cL_law 1055 = .ok (.laload, 1) := by decide +kernel
theorem dL_law_1056 : decode cL_law 1056 = .ok (.iload 6, 2) := by decide +kernel
theorem dL_law_1058 : decode cL_law 1058 = .ok (.i2l, 1) := by decide +kernel
theorem dL_law_1059 : decode cL_law 1059 = .ok (.lcmp, 1) := by decide +kernel
theorem dL_law_1060 : decode cL_law 1060 = .ok (.ifCond .eq 5, 3) := by decide +kernel
theorem dL_law_1063 : decode cL_law 1063 = .ok (.iconst 0, 1) := by decide +kernel
theorem dL_law_1064 : decode cL_law 1064 = .ok (.ireturn, 1) := by decide +kernel
theorem dL_law_1065 : decode cL_law 1065 = .ok (.goto 16, 3) := by decide +kernel
theorem dL_law_1068 : decode cL_law 1068 = .ok (.aload_n 1, 1) := by decide +kernel
theorem dL_law_1069 : decode cL_law 1069 = .ok (.invokevirtual 124, 3) := by decide +kernel
theorem dL_law_1072 : decode cL_law 1072 = .ok (.aload_n 2, 1) := by decide +kernel
theorem dL_law_1073 : decode cL_law 1073 = .ok (.invokevirtual 128, 3) := by decide +kernel
theorem dL_law_1076 : decode cL_law 1076 = .ok (.if_icmp .eq 5, 3) := by decide +kernel
theorem dL_law_1079 : decode cL_law 1079 = .ok (.iconst 0, 1) := by decide +kernel
theorem dL_law_1080 : decode cL_law 1080 = .ok (.ireturn, 1) := by decide +kernel
theorem dL_law_1081 : decode cL_law 1081 = .ok (.iinc 4 5, 3) := by decide +kernel
theorem dL_law_1084 : decode cL_law 1084 = .ok (.goto (-1061), 3) := by decide +kernel
theorem dL_law_1087 : decode cL_law 1087 = .ok (.iconst 1, 1) := by decide +kernel
theorem dL_law_1088 : decode cL_law 1088 = .ok (.ireturn, 1) := by decide +kernel
end
section
/-! THE NAMED HEAP: every cell of the class, of the reference and of the law has a number of its own (a role);
dom: the roles that lie in the heap, ad: their addresses, all from B on and apart; E: what each holds -/
def nh (D : va_G) (B : Nat) (dom : Nat → Prop) (ad : Nat → Nat) (E : Nat → va_E) (H : Heap) : Prop :=
  (∀ r, dom r → va_at D vwCl (ad r, E r) H ∧ B ≤ ad r) ∧ ∀ r r', dom r → dom r' → ad r = ad r' → r = r'
theorem nh_one {D : va_G} {B : Nat} {dom : Nat → Prop} {ad : Nat → Nat} {E : Nat → va_E} {H : Heap} (h : nh D B dom ad E H) {r : Nat} (hr : dom r) {x : va_E} (hE : E r = x) : va_P D vwCl [(ad r, x)] H := by
  intro k q hk
  cases k with
  | zero =>
    cases hk
    rw [← hE]
    exact (h.1 r hr).1
  | succ k => simp at hk
theorem nh_two {D : va_G} {B : Nat} {dom : Nat → Prop} {ad : Nat → Nat} {E : Nat → va_E} {H : Heap} (h : nh D B dom ad E H) {r r2 : Nat} (hr : dom r) (hr2 : dom r2) {x y : va_E} (hE : E r = x) (hE2 : E r2 = y) : va_P D vwCl [(ad r, x), (ad r2, y)] H := by
  intro k q hk
  match k, hk with
  | 0, hk => cases hk; rw [← hE]; exact (h.1 r hr).1
  | 1, hk => cases hk; rw [← hE2]; exact (h.1 r2 hr2).1
  | k + 2, hk => simp at hk
theorem nh_upd {D : va_G} {B : Nat} {dom : Nat → Prop} {ad : Nat → Nat} {E : Nat → va_E} {H H1 : Heap} (h : nh D B dom ad E H) {r : Nat} (hr : dom r) {x : va_E} (hx : va_at D vwCl (ad r, x) H1) (oq : ∀ q : Nat, q ≠ ad r → H1[q]? = H[q]?) : nh D B dom ad (va_up E r x) H1 := by
  refine ⟨fun r' h' => ⟨?_, (h.1 r' h').2⟩, h.2⟩
  by_cases e : r' = r
  · subst e
    rw [va_up_self]
    exact hx
  · rw [va_up_ne E x e]
    exact (h.1 r' h').1.kept (oq _ (fun z => e (h.2 r' r h' hr z)))
theorem nh_kept {D : va_G} {B : Nat} {dom : Nat → Prop} {ad : Nat → Nat} {E : Nat → va_E} {H H1 : Heap} (h : nh D B dom ad E H) (oq : ∀ q : Nat, q < H.size → H1[q]? = H[q]?) : nh D B dom ad E H1 :=
  ⟨fun r hr => ⟨(h.1 r hr).1.kept (oq _ (h.1 r hr).1.lt), (h.1 r hr).2⟩, h.2⟩
theorem nh_new {D : va_G} {B : Nat} {dom : Nat → Prop} {ad : Nat → Nat} {E : Nat → va_E} {H H1 : Heap} (h : nh D B dom ad E H) {r : Nat} (hr : ¬ dom r) (ha : ad r = H.size) (hB : B ≤ H.size) {x : va_E} (hx : va_at D vwCl (ad r, x) H1) (oq : ∀ q : Nat, q < H.size → H1[q]? = H[q]?) : nh D B (fun q => dom q ∨ q = r) ad (va_up E r x) H1 := by
  refine ⟨fun r' h' => ?_, fun a b h1 h2 hab => ?_⟩
  · rcases h' with h' | h'
    · have e : r' ≠ r := fun e => hr (by rw [← e]; exact h')
      rw [va_up_ne E x e]
      exact ⟨(h.1 r' h').1.kept (oq _ (h.1 r' h').1.lt), (h.1 r' h').2⟩
    · subst h'
      rw [va_up_self]
      exact ⟨hx, by rw [ha]; exact hB⟩
  · rcases h1 with h1 | h1 <;> rcases h2 with h2 | h2
    · exact h.2 a b h1 h2 hab
    · subst h2
      have := (h.1 a h1).1.lt
      dsimp only at this
      omega
    · subst h1
      have := (h.1 b h2).1.lt
      dsimp only at this
      omega
    · rw [h1, h2]
theorem nh_sub {D : va_G} {B : Nat} {dom dom' : Nat → Prop} {ad : Nat → Nat} {E : Nat → va_E} {H : Heap} (h : nh D B dom ad E H) (hd : ∀ r, dom' r → dom r) : nh D B dom' ad E H :=
  ⟨fun r hr => h.1 r (hd r hr), fun a b h1 h2 => h.2 a b (hd a h1) (hd b h2)⟩
theorem nh_congr {D : va_G} {B : Nat} {dom : Nat → Prop} {ad ad' : Nat → Nat} {E E' : Nat → va_E} {H : Heap} (h : nh D B dom ad E H) (ha : ∀ r, dom r → ad' r = ad r) (hE : ∀ r, dom r → E' r = E r) : nh D B dom ad' E' H :=
  ⟨fun r hr => by rw [ha r hr, hE r hr]; exact h.1 r hr, fun a b h1 h2 e => h.2 a b h1 h2 (by rw [← ha a h1, ← ha b h2]; exact e)⟩
theorem nh_lt {D : va_G} {B : Nat} {dom : Nat → Prop} {ad : Nat → Nat} {E : Nat → va_E} {H : Heap} (h : nh D B dom ad E H) {r : Nat} (hr : dom r) : ad r < H.size := (h.1 r hr).1.lt
/-- the array classes in use -/
def ntys (cA : Nat → ClassId) : List (ClassId × FieldType) := [(cA 0, .int), (cA 1, .boolean), (cA 2, .long), (cA 3, .object RX1), (cA 4, .object RX3), (cA 5, .object RX2), (cA 6, .object RX0)]
def nwF : List (String × Nat × String × String × String) := [(RX0, 9, RX4, "FIRST_VALUES", "[I"), (RX4, 54, RX2, "hasBegun", "Z"), (RX4, 104, RX2, "hasEnded", "Z"), (RX4, 203, RX2, "seconds", "I"), (RX4, 107, RX2, "count", "I"), (RX4, 118, RX1, "kind", "I"), (RX2, 90, RX1, "kind", "I"), (RX4, 172, RX1, "turns", "I"), (RX2, 93, RX1, "turns", "I"), (RX4, 175, RX1, "isWrongEdge", "Z"), (RX4, 178, RX1, "isLate", "Z"), (RX4, 181, RX1, "isFall", "Z"), (RX4, 125, RX1, "calls", "LEdgeCode$Votes;"), (RX4, 145, RX1, "grades", "LEdgeCode$Votes;"), (RX2, 130, RX1, "grades", "LEdgeCode$Votes;")]
def nwM : List (String × Nat × MethodName) := [(RX4, 36, yX0_init), (RX1, 51, yX4_nearest), (RX2, 106, yX4_nearest), (RX2, 55, yX3_init), (RX1, 9, yX3_init), (RX0, 23, yX4_isIn)]
def nwS : List (Nat × String) := [(39, "there are 12 skaters"), (51, "no such skater"), (58, "it began, or another one goes on"), (66, "no such turn"), (73, "no programme goes on, or its time is over"), (79, "no such jump"), (88, "no programme goes on, it has no room, or no such take-off"), (94, "no such spin"), (96, "no programme goes on, or it has no room"), (102, "no programme goes on"), (114, "no such caller or element"), (116, "no such quarters"), (123, "no programme goes on, or the element is a spin"), (139, "no such judge, skater or element"), (141, "no such grade"), (143, "the programme has not ended"), (152, "no such judge, skater or component"), (162, "no such edition, jump, level or value"), (168, "no such skater or element"), (170, "no such edition or question"), (213, "no such edition or place"), (224, "no such judge")]
/-- what each method is told of the machine it starts in, beside its words -/
def KK (D : va_G) (cA : Nat → ClassId) (B : Nat) (U : State) : Prop :=
  va_K D vwCl (ntys cA) U ∧ (∀ q ∈ nwF, va_Nw (.fieldLinkNest q.1 q.2.1 q.2.2.1 q.2.2.2.1 q.2.2.2.2 "EdgeCode") U) ∧ (∀ q ∈ nwM, va_Nw (.methodLinkNest q.1 q.2.1 q.2.2 "EdgeCode") U) ∧ (∀ q ∈ nwS, ∃ sa, vk_R RX4 q.1 q.2 sa U) ∧
  vx_Zq Bundle.tN "UNASSIGNED_STACK" Bundle.steD (fun q => B ≤ q) U U.heap ∧ vx_Zq Bundle.tN "SUPPRESSED_SENTINEL" Bundle.listD (fun q => B ≤ q) U U.heap ∧ B ≤ U.heap.size ∧
  (va_AO RX0 U ∧ va_AO RX1 U ∧ va_AO RX2 U ∧ va_AO RX3 U)
theorem KK.blind {D : va_G} {cA : Nat → ClassId} {B : Nat} {U : State} (g : JFrame) (mk : MethodId) (a : Array Value) (h : KK D cA B U) : KK D cA B (U.calling g mk a) := by
  obtain ⟨h1, h2, h3, h4, h5, h6, h7, h8⟩ := h
  refine ⟨va_K.moved (u := U) (U := U.calling g mk a) (Vm.Alike.refl U.vm) h1, fun q hq => va_Nw.same rfl (u := U) rfl (h2 q hq), fun q hq => va_Nw.same rfl (u := U) rfl (h3 q hq), fun q hq => ?_, vx_Zq.moved (u := U) (U := U.calling g mk a) (Vm.Alike.refl U.vm) h5, vx_Zq.moved (u := U) (U := U.calling g mk a) (Vm.Alike.refl U.vm) h6, h7, ?_⟩
  · obtain ⟨sa, hs⟩ := h4 q hq
    exact ⟨sa, vk_R.same (u := U) rfl hs⟩
  · exact ⟨va_AO.moved (u := U) (U := U.calling g mk a) (Vm.Alike.refl U.vm) h8.1, va_AO.moved (u := U) (U := U.calling g mk a) (Vm.Alike.refl U.vm) h8.2.1, va_AO.moved (u := U) (U := U.calling g mk a) (Vm.Alike.refl U.vm) h8.2.2.1, va_AO.moved (u := U) (U := U.calling g mk a) (Vm.Alike.refl U.vm) h8.2.2.2⟩
theorem KK.moved {D : va_G} {cA : Nat → ClassId} {B : Nat} {s U : State} {locs : List Loc} (h : KK D cA B s) (hS : va_S (fun q => B ≤ q) s.heap U.heap locs) (hW : s.WarmedH U.vm) : KK D cA B U := by
  obtain ⟨h1, h2, h3, h4, h5, h6, h7, h8⟩ := h
  refine ⟨va_K.moved hW.alike h1, fun q hq => va_Nw.warmF hW (h2 q hq), fun q hq => va_Nw.warmM hW (h3 q hq), fun q hq => ?_, vx_Zq.moved hW.alike (h5.kept hS.2.1), vx_Zq.moved hW.alike (h6.kept hS.2.1), Nat.le_trans h7 hS.1, va_AO.moved hW.alike h8.1, va_AO.moved hW.alike h8.2.1, va_AO.moved hW.alike h8.2.2.1, va_AO.moved hW.alike h8.2.2.2⟩
  obtain ⟨sa, hs⟩ := h4 q hq
  exact ⟨sa, vk_R.warm hW hs⟩
/-- a method's start: its arguments, the heap, what KK says -/
def Pn (D : va_G) (cA : Nat → ClassId) (B : Nat) (As : List Value) (H0 : Heap) : Array Value → State → Prop := va_Pc As (fun U => U.heap = H0 ∧ KK D cA B U)
/-- the end of a method that only reads -/
def Qro (v : Option Value) : Array Value → State → Outcome → State → Prop := fun _ st o t => o = .returned v ∧ t.heap = st.heap
/-- the end of a method that may write: what it answers and the heap behind it -/
def Qrw (B : Nat) (P : Option Value → Heap → Prop) : Array Value → State → Outcome → State → Prop := fun _ st o t => (∃ v, o = .returned v ∧ P v t.heap) ∧ va_F (fun q => B ≤ q) st t
/-- where it throws -/
def Xrw (B : Nat) (P : String → Heap → Prop) : String → State → State → Prop := fun E st t => P E t.heap ∧ va_F (fun q => B ≤ q) st t
theorem Pn.blind {D : va_G} {cA : Nat → ClassId} {B : Nat} {As : List Value} {H0 : Heap} : FrameBlind (Pn D cA B As H0) := fun _ _ g mk h => ⟨h.1, h.2.1, h.2.2.blind g mk _⟩
abbrev rmOf (f l : Nat) : Room := { frames := f, cells := 0, slots := 0, locals := l }
/-- contracts: a method that only reads; one that writes; one that may throw -/
def MetR (D : va_G) (cA : Nat → ClassId) (B : Nat) (l : Launch) (y : MethodName) (cc : ByteArray) (n : Nat) (ret : Option FieldType) (f lo : Nat) (As : List Value) (H0 : Heap) (v : Option Value) : Prop :=
  Met l y (.code y cc n ret :: WU) (rmOf f lo) (Pn D cA B As H0) (Qro v) 0 0 (fun _ => False)
def MetW (D : va_G) (cA : Nat → ClassId) (B : Nat) (l : Launch) (y : MethodName) (cc : ByteArray) (n : Nat) (ret : Option FieldType) (f lo mc ms : Nat) (As : List Value) (H0 : Heap) (P : Option Value → Heap → Prop) : Prop :=
  Met l y (.code y cc n ret :: WU) ({ frames := f, cells := mc, slots := ms, locals := lo }) (Pn D cA B As H0) (Qrw B P) mc ms (fun q => B ≤ q)
def MetX (D : va_G) (cA : Nat → ClassId) (B : Nat) (l : Launch) (y : MethodName) (cc : ByteArray) (n : Nat) (ret : Option FieldType) (f lo mc ms : Nat) (As : List Value) (H0 : Heap) (P : Option Value → Heap → Prop) (X : String → Heap → Prop) : Prop :=
  vx_Met l y (.code y cc n ret :: WU) ({ frames := f, cells := mc, slots := ms, locals := lo }) (Pn D cA B As H0) (Qrw B P) (Xrw B X) mc ms (fun q => B ≤ q)
end
section
theorem iWX0 : ∀ w ∈ wsX00, w ∈ WU := by
  intro w hw
  obtain ⟨k, hk, rfl⟩ := List.mem_map.mp hw
  have hk := List.mem_range.mp hk
  match k, hk with
  | 0, _ => exact k1_42
  | k + 1, hk => omega
theorem iWX1 : ∀ w ∈ wsX10, w ∈ WU := by
  intro w hw
  obtain ⟨k, hk, rfl⟩ := List.mem_map.mp hw
  have hk := List.mem_range.mp hk
  match k, hk with
  | 0, _ => exact k2_158
  | 1, _ => exact k2_160
  | 2, _ => exact k2_162
  | 3, _ => exact k2_164
  | 4, _ => exact k2_166
  | 5, _ => exact k2_168
  | 6, _ => exact k2_170
  | 7, _ => exact k2_172
  | k + 8, hk => omega
theorem iWX2 : ∀ w ∈ wsX20, w ∈ WU := by
  intro w hw
  obtain ⟨k, hk, rfl⟩ := List.mem_map.mp hw
  have hk := List.mem_range.mp hk
  match k, hk with
  | 0, _ => exact k2_13
  | 1, _ => exact k2_15
  | 2, _ => exact k2_17
  | 3, _ => exact k2_19
  | 4, _ => exact k2_21
  | 5, _ => exact k2_23
  | 6, _ => exact k2_25
  | 7, _ => exact k2_27
  | 8, _ => exact k2_29
  | 9, _ => exact k2_31
  | 10, _ => exact k2_33
  | 11, _ => exact k2_35
  | k + 12, hk => omega
theorem iWX3 : ∀ w ∈ wsX30, w ∈ WU := by
  intro w hw
  obtain ⟨k, hk, rfl⟩ := List.mem_map.mp hw
  have hk := List.mem_range.mp hk
  match k, hk with
  | 0, _ => exact k1_223
  | 1, _ => exact k1_225
  | 2, _ => exact k1_227
  | 3, _ => exact k1_229
  | 4, _ => exact k1_231
  | 5, _ => exact k1_233
  | k + 6, hk => omega
theorem iWX4 : ∀ w ∈ wsX40, w ∈ WU := by
  intro w hw
  obtain ⟨k, hk, rfl⟩ := List.mem_map.mp hw
  have hk := List.mem_range.mp hk
  match k, hk with
  | 0, _ => exact k1_52
  | 1, _ => exact k1_54
  | 2, _ => exact k1_56
  | 3, _ => exact k1_58
  | 4, _ => exact k1_60
  | 5, _ => exact k1_62
  | k + 6, hk => omega
theorem iWX5 : ∀ w ∈ wsX50, w ∈ WU := by
  intro w hw
  obtain ⟨k, hk, rfl⟩ := List.mem_map.mp hw
  have hk := List.mem_range.mp hk
  match k, hk with
  | 0, _ => exact k3_161
  | 1, _ => exact k3_163
  | 2, _ => exact k3_165
  | 3, _ => exact k3_167
  | 4, _ => exact k3_169
  | 5, _ => exact k3_171
  | 6, _ => exact k3_173
  | 7, _ => exact k3_175
  | 8, _ => exact k3_177
  | 9, _ => exact k3_179
  | 10, _ => exact k3_181
  | 11, _ => exact k3_183
  | 12, _ => exact k3_185
  | 13, _ => exact k3_187
  | 14, _ => exact k3_189
  | 15, _ => exact k3_191
  | 16, _ => exact k3_193
  | 17, _ => exact k3_195
  | 18, _ => exact k3_197
  | 19, _ => exact k3_199
  | 20, _ => exact k3_201
  | 21, _ => exact k3_203
  | 22, _ => exact k3_205
  | k + 23, hk => omega
section NR
variable {p : Program} {l : Launch} {e : Env} {R : Room} {s : State} {m : MethodId} {args : Array Value} {below : List Frame} {meth : Method} {c : Code} {H : Heap} {locs : List Loc} {cells slots : Nat} {Q : State → Prop}
variable {cc : ByteArray} {nL : Nat} {own : String} {pc : Nat} {ls : Array Slot} {rest : List Value} {D : va_G} {cA : Nat → ClassId} {B : Nat} {dom : Nat → Prop} {ad : Nat → Nat} {E : Nat → va_E}
/-- a field is read -/
theorem nr_get (S : CallFix p m c cc nL s args WU own) (K : KK D cA B s) (N : nh D B dom ad E H) (r : Nat) (hr : dom r) {ci : Nat} {fs : List Value} (hE : E r = .inr (ci, fs)) {C ref : String} {T : u_T} {n : Nat} (hc : vwCl[ci]? = some (C, T, n)) (hin : ∀ w ∈ u_ws C T n, w ∈ WU) (k : Nat) (hk : k < n) {index : Nat} (hlink : Cond.fieldLink own index ref (T k).2.1 (T k).2.2.1 ∈ WU) (href : ref = (T k).1) {v : Value} (hv : fs[k]? = some v) (hdg : decode cc pc = .ok (.getfield index, 3))
    (kk : W p l e R s m args below meth c H locs cells slots Q (F0 m (pc + 3) ls (v :: rest))) : W p l e R s m args below meth c H locs cells slots Q (F0 m pc ls (.ref (ad r) :: rest)) := by
  subst href
  exact va_get (D := D) (ci := ci) (C := C) (T := T) (N := n) S.1 S.2.1 S.2.2.2.2 hin S.2.2.2.1 K.1 (nh_one N hr hE) 0 rfl hc k hk (S.2.2.2.2 _ hlink) (fun _ h => h) hv hdg kk
theorem nr_getN (S : CallFix p m c cc nL s args WU own) (K : KK D cA B s) (N : nh D B dom ad E H) (r : Nat) (hr : dom r) {ci : Nat} {fs : List Value} (hE : E r = .inr (ci, fs)) {C ref : String} {T : u_T} {n : Nat} (hc : vwCl[ci]? = some (C, T, n)) (hin : ∀ w ∈ u_ws C T n, w ∈ WU) (k : Nat) (hk : k < n) {index : Nat} (hlink : (own, index, ref, (T k).2.1, (T k).2.2.1) ∈ nwF) (href : ref = (T k).1) {v : Value} (hv : fs[k]? = some v) (hdg : decode cc pc = .ok (.getfield index, 3))
    (kk : W p l e R s m args below meth c H locs cells slots Q (F0 m (pc + 3) ls (v :: rest))) : W p l e R s m args below meth c H locs cells slots Q (F0 m pc ls (.ref (ad r) :: rest)) := by
  subst href
  exact va_getN (D := D) (ci := ci) (C := C) (T := T) (N := n) S.1 S.2.1 S.2.2.2.2 hin S.2.2.2.1 K.1 (nh_one N hr hE) 0 rfl hc k hk (va_Nw.use rfl (K.2.1 _ hlink)) (fun _ h => h) hv hdg kk
/-- a field is written -/
theorem nr_put (S : CallFix p m c cc nL s args WU own) (K : KK D cA B s) (N : nh D B dom ad E H) (hS : va_S (fun q => B ≤ q) s.heap H locs) (r : Nat) (hr : dom r) {ci : Nat} {fs : List Value} (hE : E r = .inr (ci, fs)) {C ref : String} {T : u_T} {n : Nat} (hc : vwCl[ci]? = some (C, T, n)) (hin : ∀ w ∈ u_ws C T n, w ∈ WU) (ty0 : Nat → FieldType) (hty : ∀ k, k < n → parseFieldDescriptor (T k).2.2.1 = some (ty0 k)) (hnm : ∀ a, a < n → ∀ b, b < n → a ≠ b → (T a).2.1 ≠ (T b).2.1) (k : Nat) (hk : k < n) {index : Nat} (hlink : Cond.fieldLink own index ref (T k).2.1 (T k).2.2.1 ∈ WU) (href : ref = (T k).1) (hfin : (T k).2.2.2 = false) {v : Value} (hn : narrow (ty0 k) v = v) (hfit : fits (ty0 k) v = true) (hl : k < fs.length) (hdg : decode cc pc = .ok (.putfield index, 3))
    (kk : ∀ (H1 : Heap) (locs1 : List Loc), nh D B dom ad (va_up E r (.inr (ci, fs.set k v))) H1 → va_S (fun q => B ≤ q) s.heap H1 locs1 → H1.size = H.size → W p l e R s m args below meth c H1 locs1 cells slots Q (F0 m (pc + 3) ls rest)) : W p l e R s m args below meth c H locs cells slots Q (F0 m pc ls (v :: .ref (ad r) :: rest)) := by
  subst href
  have hap := va_apart (own := own) S.2.2.2.2 hin ty0 hty hnm K.1 hc
  obtain ⟨r0, h1, cell, q1, q2, q3, q4⟩ := nh_one N hr hE 0 _ rfl
  have hr0 : r0 = (C, T, n) := Option.some.inj (h1.symm.trans hc)
  subst hr0
  obtain ⟨hSl, hfc, kC, hkC, hkind⟩ := K.1.1 ci _ hc
  obtain ⟨cf, kf, fi, f, hi, hsl⟩ := hSl k hk
  have hlay := S.2.2.2.2 _ (hin _ (u_in_lay hk))
  unfold u_lay at hlay
  rw [if_neg (by rw [hfin]; decide)] at hlay
  have hst := (u_facts hfc hkC (u_lays S.2.2.2.2 hin hk) hi).1
  have h6 := u_store hfc hkC hkind hlay hi (hty k hk) hn hfit
  refine W.putK S.1 S.2.1 (f := f) ⟨S.2.2.2.1, S.2.2.2.2 _ hlink, ⟨_, _, _, hi⟩, hst⟩ (by rw [q2]; exact h6) q1 q3 (by rw [hsl]; exact k2_hasslot (q4 k hk)) rfl rfl hdg fun H' e1 e2 e3 => ?_
  rw [hsl] at e1 ⊢
  exact kk H' _ (nh_upd N hr ⟨_, hc, t_OB.to (V := updV (vp_V fs) k v) ⟨_, e1, q2, q3, t_set q4 hap hk v⟩ (fun j _ => vp_updV_set hl v j)⟩ e3) (hS.put e2 e3 (N.1 r hr).2) e2
theorem nr_putN (S : CallFix p m c cc nL s args WU own) (K : KK D cA B s) (N : nh D B dom ad E H) (hS : va_S (fun q => B ≤ q) s.heap H locs) (r : Nat) (hr : dom r) {ci : Nat} {fs : List Value} (hE : E r = .inr (ci, fs)) {C ref : String} {T : u_T} {n : Nat} (hc : vwCl[ci]? = some (C, T, n)) (hin : ∀ w ∈ u_ws C T n, w ∈ WU) (ty0 : Nat → FieldType) (hty : ∀ k, k < n → parseFieldDescriptor (T k).2.2.1 = some (ty0 k)) (hnm : ∀ a, a < n → ∀ b, b < n → a ≠ b → (T a).2.1 ≠ (T b).2.1) (k : Nat) (hk : k < n) {index : Nat} (hlink : (own, index, ref, (T k).2.1, (T k).2.2.1) ∈ nwF) (href : ref = (T k).1) (hfin : (T k).2.2.2 = false) {v : Value} (hn : narrow (ty0 k) v = v) (hfit : fits (ty0 k) v = true) (hl : k < fs.length) (hdg : decode cc pc = .ok (.putfield index, 3))
    (kk : ∀ (H1 : Heap) (locs1 : List Loc), nh D B dom ad (va_up E r (.inr (ci, fs.set k v))) H1 → va_S (fun q => B ≤ q) s.heap H1 locs1 → H1.size = H.size → W p l e R s m args below meth c H1 locs1 cells slots Q (F0 m (pc + 3) ls rest)) : W p l e R s m args below meth c H locs cells slots Q (F0 m pc ls (v :: .ref (ad r) :: rest)) := by
  subst href
  have hap := va_apart (own := own) S.2.2.2.2 hin ty0 hty hnm K.1 hc
  obtain ⟨r0, h1, cell, q1, q2, q3, q4⟩ := nh_one N hr hE 0 _ rfl
  have hr0 : r0 = (C, T, n) := Option.some.inj (h1.symm.trans hc)
  subst hr0
  obtain ⟨hSl, hfc, kC, hkC, hkind⟩ := K.1.1 ci _ hc
  obtain ⟨cf, kf, fi, f, hi, hsl⟩ := hSl k hk
  have hlay := S.2.2.2.2 _ (hin _ (u_in_lay hk))
  unfold u_lay at hlay
  rw [if_neg (by rw [hfin]; decide)] at hlay
  have hst := (u_facts hfc hkC (u_lays S.2.2.2.2 hin hk) hi).1
  have h6 := u_store hfc hkC hkind hlay hi (hty k hk) hn hfit
  refine va_WputK S.1 S.2.1 (f := f) S.2.2.2.1 (va_Nw.use rfl (K.2.1 _ hlink)) hi hst (by rw [q2]; exact h6) q1 q3 (by rw [hsl]; exact k2_hasslot (q4 k hk)) rfl rfl hdg fun H' e1 e2 e3 => ?_
  rw [hsl] at e1 ⊢
  exact kk H' _ (nh_upd N hr ⟨_, hc, t_OB.to (V := updV (vp_V fs) k v) ⟨_, e1, q2, q3, t_set q4 hap hk v⟩ (fun j _ => vp_updV_set hl v j)⟩ e3) (hS.put e2 e3 (N.1 r hr).2) e2
/-- a final field, in its constructor -/
theorem nr_putF (S : CallFix p m c cc nL s args WU own) (K : KK D cA B s) (N : nh D B dom ad E H) (hS : va_S (fun q => B ≤ q) s.heap H locs) (r : Nat) (hr : dom r) {ci : Nat} {fs : List Value} (hE : E r = .inr (ci, fs)) {C ref : String} {T : u_T} {n : Nat} (hc : vwCl[ci]? = some (C, T, n)) (hin : ∀ w ∈ u_ws C T n, w ∈ WU) (ty0 : Nat → FieldType) (hty : ∀ k, k < n → parseFieldDescriptor (T k).2.2.1 = some (ty0 k)) (hnm : ∀ a, a < n → ∀ b, b < n → a ≠ b → (T a).2.1 ≠ (T b).2.1) (k : Nat) (hk : k < n) {index : Nat} (hlink : Cond.fieldLink own index ref (T k).2.1 (T k).2.2.1 ∈ WU) (href : ref = (T k).1) (hfin : (T k).2.2.2 = true) (hi0 : meth.name = "<init>") (hdecl : (T k).1 = own) {v : Value} (hn : narrow (ty0 k) v = v) (hfit : fits (ty0 k) v = true) (hl : k < fs.length) (hdg : decode cc pc = .ok (.putfield index, 3))
    (kk : ∀ (H1 : Heap) (locs1 : List Loc), nh D B dom ad (va_up E r (.inr (ci, fs.set k v))) H1 → va_S (fun q => B ≤ q) s.heap H1 locs1 → H1.size = H.size → W p l e R s m args below meth c H1 locs1 cells slots Q (F0 m (pc + 3) ls rest)) : W p l e R s m args below meth c H locs cells slots Q (F0 m pc ls (v :: .ref (ad r) :: rest)) := by
  subst href
  have hap := va_apart (own := own) S.2.2.2.2 hin ty0 hty hnm K.1 hc
  obtain ⟨r0, h1, cell, q1, q2, q3, q4⟩ := nh_one N hr hE 0 _ rfl
  have hr0 : r0 = (C, T, n) := Option.some.inj (h1.symm.trans hc)
  subst hr0
  obtain ⟨hSl, hfc, kC, hkC, hkind⟩ := K.1.1 ci _ hc
  obtain ⟨cf, kf, fi, f, hi, hsl⟩ := hSl k hk
  have hlay := S.2.2.2.2 _ (hin _ (u_in_lay hk))
  unfold u_lay at hlay
  rw [if_pos hfin] at hlay
  have hst := (u_facts hfc hkC (u_lays S.2.2.2.2 hin hk) hi).1
  have hcf : m.cls = cf := by
    obtain ⟨_, _, c', _, _, _, -, -, hf', -, -, -, hown2, -⟩ := Cond.laysFinal_spec hlay
    have e1 : c' = cf := by have := hi.symm.trans hf'; simp at this; exact this.1.symm
    rw [hdecl] at hown2
    rw [← e1]; exact Option.some.inj (S.2.2.2.1.symm.trans hown2)
  have h6 := u_fits hfc hkC hkind (Or.inr hlay) hi (hty k hk) hn hfit
  refine W.putFinK S.1 S.2.1 S.2.2.2.1 (S.2.2.2.2 _ hlink) hi hst hcf hi0 (by rw [q2]; exact h6) q1 q3 (by rw [hsl]; exact k2_hasslot (q4 k hk)) rfl rfl hdg fun H' e1 e2 e3 => ?_
  rw [hsl] at e1 ⊢
  exact kk H' _ (nh_upd N hr ⟨_, hc, t_OB.to (V := updV (vp_V fs) k v) ⟨_, e1, q2, q3, t_set q4 hap hk v⟩ (fun j _ => vp_updV_set hl v j)⟩ e3) (hS.put e2 e3 (N.1 r hr).2) e2
/-- arrays are read -/
theorem nr_iald (S : CallFix p m c cc nL s args WU own) (K : KK D cA B s) (N : nh D B dom ad E H) (r : Nat) (hr : dom r) {n : Nat} {f : Nat → Int32} (hE : E r = .inl (cA 0, n, .inl f)) {i x : Int32} (hin : vp_in i n) (hv : f i.toNatClampNeg = x) (hdg : decode cc pc = .ok (.iaload, 1))
    (kk : W p l e R s m args below meth c H locs cells slots Q (F0 m (pc + 1) ls (.int x :: rest))) : W p l e R s m args below meth c H locs cells slots Q (F0 m pc ls (.int i :: .ref (ad r) :: rest)) := by
  subst hv
  exact va_iald (tys := ntys cA) S.1 S.2.1 K.1 (nh_one N hr hE) 0 0 rfl rfl hin hdg kk
theorem nr_zald (S : CallFix p m c cc nL s args WU own) (K : KK D cA B s) (N : nh D B dom ad E H) (r : Nat) (hr : dom r) {n : Nat} {f : Nat → Int32} (hE : E r = .inl (cA 1, n, .inl f)) {i x : Int32} (hin : vp_in i n) (hv : f i.toNatClampNeg = x) (hdg : decode cc pc = .ok (.baload, 1))
    (kk : W p l e R s m args below meth c H locs cells slots Q (F0 m (pc + 1) ls (.int x :: rest))) : W p l e R s m args below meth c H locs cells slots Q (F0 m pc ls (.int i :: .ref (ad r) :: rest)) := by
  subst hv
  exact va_zald (tys := ntys cA) S.1 S.2.1 K.1 (nh_one N hr hE) 0 1 rfl rfl hin hdg kk
theorem nr_lald (S : CallFix p m c cc nL s args WU own) (K : KK D cA B s) (N : nh D B dom ad E H) (r : Nat) (hr : dom r) {n : Nat} {f : Nat → Int64} (hE : E r = .inl (cA 2, n, .inr (.inl f))) {i : Int32} {x : Int64} (hin : vp_in i n) (hv : f i.toNatClampNeg = x) (hdg : decode cc pc = .ok (.laload, 1))
    (kk : W p l e R s m args below meth c H locs cells slots Q (F0 m (pc + 1) ls (.long x :: rest))) : W p l e R s m args below meth c H locs cells slots Q (F0 m pc ls (.int i :: .ref (ad r) :: rest)) := by
  subst hv
  exact va_lald (tys := ntys cA) S.1 S.2.1 K.1 (nh_one N hr hE) 0 2 rfl rfl hin hdg kk
theorem nr_aald (S : CallFix p m c cc nL s args WU own) (K : KK D cA B s) (N : nh D B dom ad E H) (r : Nat) (hr : dom r) (t0 : Nat) {C : String} (ht : (ntys cA)[t0]? = some (cA t0, .object C)) {n : Nat} {f : Nat → Option Nat} (hE : E r = .inl (cA t0, n, .inr (.inr (.inr (.inr f))))) {i : Int32} {v : Value} (hin : vp_in i n) (hv : va_rf (f i.toNatClampNeg) = v) (hdg : decode cc pc = .ok (.aaload, 1))
    (kk : W p l e R s m args below meth c H locs cells slots Q (F0 m (pc + 1) ls (v :: rest))) : W p l e R s m args below meth c H locs cells slots Q (F0 m pc ls (.int i :: .ref (ad r) :: rest)) := by
  subst hv
  exact va_aldq (tys := ntys cA) S.1 S.2.1 K.1 (nh_one N hr hE) 0 t0 rfl ht hin hdg kk
theorem nr_alen (S : CallFix p m c cc nL s args WU own) (K : KK D cA B s) (N : nh D B dom ad E H) (r : Nat) (hr : dom r) (t0 : Nat) {ty : FieldType} (ht : (ntys cA)[t0]? = some (cA t0, ty)) {x : vp_A} (hE : E r = .inl (cA t0, x)) {v : Int32} (hv : Int32.ofNat x.1 = v) (hdg : decode cc pc = .ok (.arraylength, 1))
    (kk : W p l e R s m args below meth c H locs cells slots Q (F0 m (pc + 1) ls (.int v :: rest))) : W p l e R s m args below meth c H locs cells slots Q (F0 m pc ls (.ref (ad r) :: rest)) :=
  va_alen (tys := ntys cA) S.1 S.2.1 K.1 (nh_one N hr hE) 0 t0 rfl ht hv hdg kk
/-- arrays are written -/
theorem nr_iast (S : CallFix p m c cc nL s args WU own) (K : KK D cA B s) (N : nh D B dom ad E H) (hS : va_S (fun q => B ≤ q) s.heap H locs) (r : Nat) (hr : dom r) {n : Nat} {f : Nat → Int32} (hE : E r = .inl (cA 0, n, .inl f)) {i x : Int32} (hin : vp_in i n) (hdg : decode cc pc = .ok (.iastore, 1))
    (kk : ∀ (H1 : Heap) (locs1 : List Loc), nh D B dom ad (va_up E r (.inl (cA 0, n, .inl (upd f i.toNatClampNeg x)))) H1 → va_S (fun q => B ≤ q) s.heap H1 locs1 → H1.size = H.size → W p l e R s m args below meth c H1 locs1 cells slots Q (F0 m (pc + 1) ls rest)) : W p l e R s m args below meth c H locs cells slots Q (F0 m pc ls (.int x :: .int i :: .ref (ad r) :: rest)) := by
  refine W.iast S.1 S.2.1 (nh_one N hr hE 0 _ rfl) ((K.1.2 0 _ rfl).1 n (fun j => .int (f j))) (fun q => by cases q) (by show ¬ (i < 0 ∨ (arrV _ _ _).slots.size ≤ _); rw [arrV_size]; exact hin) rfl rfl hdg fun H1 e z oq => ?_
  refine kk H1 _ (nh_upd N hr ?_ oq) (hS.put z oq (N.1 r hr).2) z
  show H1[ad r]? = some (vp_cell _ _)
  rw [e, vp_cell_i, vp_cell_i, arrV_store]
  congr 2
  funext q
  by_cases hq : q = i.toNatClampNeg
  · subst hq
    simp [updV, upd]
  · simp [updV, upd, hq]
theorem nr_zast (S : CallFix p m c cc nL s args WU own) (K : KK D cA B s) (N : nh D B dom ad E H) (hS : va_S (fun q => B ≤ q) s.heap H locs) (r : Nat) (hr : dom r) {n : Nat} {f : Nat → Int32} (hE : E r = .inl (cA 1, n, .inl f)) {i x : Int32} (hin : vp_in i n) (hx : vp_nar .boolean x = x) (hdg : decode cc pc = .ok (.bastore, 1))
    (kk : ∀ (H1 : Heap) (locs1 : List Loc), nh D B dom ad (va_up E r (.inl (cA 1, n, .inl (upd f i.toNatClampNeg x)))) H1 → va_S (fun q => B ≤ q) s.heap H1 locs1 → H1.size = H.size → W p l e R s m args below meth c H1 locs1 cells slots Q (F0 m (pc + 1) ls rest)) : W p l e R s m args below meth c H locs cells slots Q (F0 m pc ls (.int x :: .int i :: .ref (ad r) :: rest)) := by
  refine W.zast S.1 S.2.1 (nh_one N hr hE 0 _ rfl) ((K.1.2 1 _ rfl).1 n (fun j => .int (f j))) (fun q => by cases q) (by show ¬ (i < 0 ∨ (arrV _ _ _).slots.size ≤ _); rw [arrV_size]; exact hin) rfl rfl hdg fun H1 e z oq => ?_
  refine kk H1 _ (nh_upd N hr ?_ oq) (hS.put z oq (N.1 r hr).2) z
  have hx2 : narrow .boolean (.int x) = .int x := by
    have h9 : narrow .boolean (.int x) = .int (vp_nar .boolean x) := rfl
    rw [h9, hx]
  show H1[ad r]? = some (vp_cell _ _)
  rw [e, hx2, vp_cell_i, vp_cell_i, arrV_store]
  congr 2
  funext q
  by_cases hq : q = i.toNatClampNeg
  · subst hq
    simp [updV, upd]
  · simp [updV, upd, hq]
theorem nr_last (S : CallFix p m c cc nL s args WU own) (K : KK D cA B s) (N : nh D B dom ad E H) (hS : va_S (fun q => B ≤ q) s.heap H locs) (r : Nat) (hr : dom r) {n : Nat} {f : Nat → Int64} (hE : E r = .inl (cA 2, n, .inr (.inl f))) {i : Int32} {x : Int64} (hin : vp_in i n) (hdg : decode cc pc = .ok (.lastore, 1))
    (kk : ∀ (H1 : Heap) (locs1 : List Loc), nh D B dom ad (va_up E r (.inl (cA 2, n, .inr (.inl (vp_updL f i.toNatClampNeg x))))) H1 → va_S (fun q => B ≤ q) s.heap H1 locs1 → H1.size = H.size → W p l e R s m args below meth c H1 locs1 cells slots Q (F0 m (pc + 1) ls rest)) : W p l e R s m args below meth c H locs cells slots Q (F0 m pc ls (.long x :: .int i :: .ref (ad r) :: rest)) := by
  refine W.last S.1 S.2.1 (nh_one N hr hE 0 _ rfl) ((K.1.2 2 _ rfl).1 n (fun j => .long (f j))) (fun q => by cases q) (by show ¬ (i < 0 ∨ (arrV _ _ _).slots.size ≤ _); rw [arrV_size]; exact hin) rfl rfl hdg fun H1 e z oq => ?_
  refine kk H1 _ (nh_upd N hr ?_ oq) (hS.put z oq (N.1 r hr).2) z
  show H1[ad r]? = some (vp_cell _ _)
  rw [e]
  show some ((arrV (cA 2) n (fun j => .long (f j))).setSlot _ _) = some (arrV (cA 2) n (fun j => .long (vp_updL f _ x j)))
  rw [arrV_store]
  congr 2
  funext q
  by_cases hq : q = i.toNatClampNeg
  · subst hq
    simp [updV, vp_updL]
  · simp [updV, vp_updL, hq]
theorem nr_aast (S : CallFix p m c cc nL s args WU own) (K : KK D cA B s) (N : nh D B dom ad E H) (hS : va_S (fun q => B ≤ q) s.heap H locs) (r : Nat) (hr : dom r) (t0 : Nat) {q9 : vw_C} (ht : (ntys cA)[t0]? = some (cA t0, .object q9.1)) {n : Nat} {f : Nat → Option Nat} (hE : E r = .inl (cA t0, n, .inr (.inr (.inr (.inr f))))) (r2 : Nat) (hr2 : dom r2) {ci : Nat} {vs : List Value} (hE2 : E r2 = .inr (ci, vs)) (hc : vwCl[ci]? = some q9) {i : Int32} (hin : vp_in i n) (hdg : decode cc pc = .ok (.aastore, 1))
    (kk : ∀ (H1 : Heap) (locs1 : List Loc), nh D B dom ad (va_up E r (.inl (cA t0, n, .inr (.inr (.inr (.inr (va_up f i.toNatClampNeg (some (ad r2))))))))) H1 → va_S (fun q => B ≤ q) s.heap H1 locs1 → H1.size = H.size → W p l e R s m args below meth c H1 locs1 cells slots Q (F0 m (pc + 1) ls rest)) : W p l e R s m args below meth c H locs cells slots Q (F0 m pc ls (.ref (ad r2) :: .int i :: .ref (ad r) :: rest)) := by
  have hlt : i.toNatClampNeg < n := Nat.not_le.mp fun q => hin (Or.inr q)
  have h0 : ¬ i < 0 := fun q => hin (Or.inl q)
  obtain ⟨r', hr', cellV, g1, g2, g3, -⟩ := nh_one N hr2 hE2 0 _ rfl
  have hcls := (K.1.1 ci q9 hc).2
  obtain ⟨kA, comp, k1, k2, k3, -⟩ := (K.1.2 t0 _ ht).2
  have hcomp : comp = D.1 ci := Option.some.inj (k3.symm.trans hcls.1)
  subst hcomp
  obtain ⟨kC, hkC, -⟩ := id hcls.2
  refine W.aast S.1 S.2.1 (nh_one N hr hE 0 _ rfl) (fun q h => by cases h) (fun h => by cases h) k1 k2 rfl hkC ⟨h0, by show _ < (arrV _ _ _).slots.size; rw [arrV_size]; exact hlt⟩ g1 (fun q h => by rw [g3] at h; cases h) (by rw [g2]; exact hkC) (by rw [g2]; exact va_assign hcls) rfl rfl hdg fun H1 e z oq => ?_
  refine kk H1 _ (nh_upd N hr ?_ oq) (hS.put z oq (N.1 r hr).2) z
  show H1[ad r]? = some (vp_cell _ _)
  rw [e, vp_cell_q, vp_cell_q, arrV_store]
  congr 2
  funext q
  by_cases hq : q = i.toNatClampNeg
  · subst hq
    simp [updV, va_up, va_rf]
  · simp [updV, va_up, hq]
/-- cells are made: the next address is the one that ad foresaw -/
theorem nr_new (S : CallFix p m c cc nL s args WU own) (K : KK D cA B s) (N : nh D B dom ad E H) (hS : va_S (fun q => B ≤ q) s.heap H locs) (r : Nat) (hr : ¬ dom r) (ha : ad r = H.size) {ci : Nat} {C : String} {T : u_T} {n : Nat} (hc : vwCl[ci]? = some (C, T, n)) (hin : ∀ w ∈ u_ws C T n, w ∈ WU) (ty0 : Nat → FieldType) (hty : ∀ k, k < n → parseFieldDescriptor (T k).2.2.1 = some (ty0 k)) {index : Nat} (hcl : Cond.classLink own index C ∈ WU) (hinst : Cond.instantiable C n ∈ WU) (hini : Cond.initialized C ∈ WU) (fs : List Value) (hfs : ∀ j, j < n → defaultValue (ty0 j) = vp_V fs j) (hcells : cells + 1 ≤ R.cells) (hslots : slots + n ≤ R.slots) (hdg : decode cc pc = .ok (.new index, 3))
    (kk : ∀ (H1 : Heap), nh D B (fun q => dom q ∨ q = r) ad (va_up E r (.inr (ci, fs))) H1 → va_S (fun q => B ≤ q) s.heap H1 locs → H1.size = H.size + 1 → W p l e R s m args below meth c H1 locs (cells + 1) (slots + n) Q (F0 m (pc + 3) ls (.ref (ad r) :: rest))) : W p l e R s m args below meth c H locs cells slots Q (F0 m pc ls rest) := by
  have hKn := K.1.1 ci _ hc
  refine W.newcK S.1 S.2.1 S.2.2.2.1 (S.2.2.2.2 _ hcl) (S.2.2.2.2 _ hinst) (S.2.2.2.2 _ hini) rfl hdg hcells hslots hKn.2.1 rfl fun H1 kC hkC e1 z1 o1 => ?_
  have hBs : B ≤ s.heap.size := K.2.2.2.2.2.2.1
  have hBH : B ≤ H.size := Nat.le_trans hBs hS.1
  rw [← ha]
  refine kk H1 (nh_new N hr ha hBH ?_ o1) ⟨Nat.le_trans hS.1 (by omega), fun x h1 h2 => (o1 x (Nat.lt_of_lt_of_le h1 hS.1)).trans (hS.2.1 x h1 h2), hS.2.2⟩ z1
  rw [ha]
  exact ⟨_, hc, (u_born ty0 S.2.2.2.2 hin hKn hkC e1 hty).to hfs⟩
theorem nr_newa (S : CallFix p m c cc nL s args WU own) (K : KK D cA B s) (N : nh D B dom ad E H) (hS : va_S (fun q => B ≤ q) s.heap H locs) (r : Nat) (hr : ¬ dom r) (ha : ad r = H.size) {atype : ArrayType} {ty : FieldType} (hty : newarray.typeOf atype = ty) (hno : ∀ C, ty ≠ .object C) (harr : Cond.arrayClass ty ∈ WU) (t0 : Nat) (ht : (ntys cA)[t0]? = some (cA t0, ty)) {i : Int32} {n : Nat} (hn : ¬ i < 0) (hN : i.toNatClampNeg = n) (hbytes : n * componentBytes ty ≤ 536870912) (a0 : vp_A) (ha0 : ∀ cA : ClassId, vp_cell cA a0 = arrV cA n (fun _ => defaultValue ty)) (hcells : cells + 1 ≤ R.cells) (hslots : slots + n ≤ R.slots) (hdg : decode cc pc = .ok (.newarray atype, 2))
    (kk : ∀ (H1 : Heap), nh D B (fun q => dom q ∨ q = r) ad (va_up E r (.inl (cA t0, a0))) H1 → va_S (fun q => B ≤ q) s.heap H1 locs → H1.size = H.size + 1 → W p l e R s m args below meth c H1 locs (cells + 1) (slots + n) Q (F0 m (pc + 2) ls (.ref (ad r) :: rest))) : W p l e R s m args below meth c H locs cells slots Q (F0 m pc ls (.int i :: rest)) := by
  subst hty
  refine va_newaK S.1 S.2.1 (S.2.2.2.2 _ harr) rfl hdg rfl hn hN hbytes hcells hslots rfl fun H1 c1 e1 z1 o1 hAr hNm => ?_
  have hBH : B ≤ H.size := Nat.le_trans K.2.2.2.2.2.2.1 hS.1
  have hc1 : c1 = cA t0 := by
    have h9 := (K.1.2 t0 _ ht).2
    have h8 : s.vm.findClass ("[" ++ (newarray.typeOf atype).toString) = some (cA t0) := by
      cases atype <;> exact h9
    exact Option.some.inj (hNm.symm.trans h8)
  subst hc1
  rw [← ha]
  refine kk H1 (nh_new N hr ha hBH ?_ o1) ⟨Nat.le_trans hS.1 (by omega), fun x h1 h2 => (o1 x (Nat.lt_of_lt_of_le h1 hS.1)).trans (hS.2.1 x h1 h2), hS.2.2⟩ z1
  show H1[ad r]? = some (vp_cell _ _)
  rw [ha0, ha]
  exact e1
theorem nr_newq (S : CallFix p m c cc nL s args WU own) (K : KK D cA B s) (N : nh D B dom ad E H) (hS : va_S (fun q => B ≤ q) s.heap H locs) (r : Nat) (hr : ¬ dom r) (ha : ad r = H.size) {C : String} {index : Nat} (hcl : Cond.classLink own index C ∈ WU) (hover : va_AO C s) (t0 : Nat) (ht : (ntys cA)[t0]? = some (cA t0, .object C)) {i : Int32} {n : Nat} (hn : ¬ i < 0) (hN : i.toNatClampNeg = n) (hbytes : n * 4 ≤ 536870912) (hcells : cells + 1 ≤ R.cells) (hslots : slots + n ≤ R.slots) (hdg : decode cc pc = .ok (.anewarray index, 3))
    (kk : ∀ (H1 : Heap), nh D B (fun q => dom q ∨ q = r) ad (va_up E r (.inl (cA t0, n, .inr (.inr (.inr (.inr (fun _ => none))))))) H1 → va_S (fun q => B ≤ q) s.heap H1 locs → H1.size = H.size + 1 → W p l e R s m args below meth c H1 locs (cells + 1) (slots + n) Q (F0 m (pc + 3) ls (.ref (ad r) :: rest))) : W p l e R s m args below meth c H locs cells slots Q (F0 m pc ls (.int i :: rest)) := by
  subst hN
  refine W.anew S.1 S.2.1 S.2.2.2.1 (S.2.2.2.2 _ hcl) (va_AO.use hover) rfl hdg rfl hn hbytes hcells hslots fun c1 kA comp f1 f2 f3 f4 => ?_
  generalize hH1 : H.push ({ cls := c1, slots := Array.replicate i.toNatClampNeg .null, vm := .none } : Cell) = H1
  have z1 : H1.size = H.size + 1 := by rw [← hH1, Array.size_push]
  have e1 : H1[H.size]? = some (arrV c1 i.toNatClampNeg (fun _ => .null)) := by rw [← hH1, Array.getElem?_push_size, ← arrV_new]
  have o1 : ∀ q : Nat, q < H.size → H1[q]? = H[q]? := fun q hq => by rw [← hH1, Array.getElem?_push, if_neg (Nat.ne_of_lt hq)]
  have hBH : B ≤ H.size := Nat.le_trans K.2.2.2.2.2.2.1 hS.1
  have hc1 : c1 = cA t0 := by
    obtain ⟨_, _, _, _, _, h9⟩ := (K.1.2 t0 _ ht).2
    exact Option.some.inj (f1.symm.trans h9)
  subst hc1
  rw [← ha]
  refine kk H1 (nh_new N hr ha hBH ?_ o1) ⟨Nat.le_trans hS.1 (by omega), fun x h1 h2 => (o1 x (Nat.lt_of_lt_of_le h1 hS.1)).trans (hS.2.1 x h1 h2), hS.2.2⟩ z1
  show H1[ad r]? = some (vp_cell _ _)
  rw [vp_cell_q, ha]
  exact e1
end NR
end
section
/-! METHODS AND CALLS over the named heap -/
theorem nb_self {D : va_G} {cA : Nat → ClassId} {B : Nat} {s : State} {H : Heap} {locs : List Loc} (K : KK D cA B s) (hS : va_S (fun q => B ≤ q) s.heap H locs) {As : List Value} : FrameBlind (Pn D cA B As H) ∧ ∀ U : State, U.heap = H → s.WarmedH U.vm → Pn D cA B As H As.toArray U :=
  ⟨Pn.blind, fun U hU hW => ⟨rfl, hU, K.moved (by rw [hU]; exact hS) hW⟩⟩
theorem MetR.of {D : va_G} {cA : Nat → ClassId} {B : Nat} {l : Launch} {y : MethodName} {cc : ByteArray} {n : Nat} {ret : Option FieldType} {f lo : Nat} {As : List Value} {H0 : Heap} {v : Option Value} (hy : plainName y.cls = true) (hn : (lg_sl As).length ≤ n)
    (body : ∀ (p : Program) (e : Env) (s : State) (m : MethodId) (args : Array Value) (below : List Frame) (meth : Method) (c : Code), CallFix p m c cc n s args WU y.cls → meth.sig.returnType = ret → meth.locks = false → s.heap = H0 → KK D cA B s → ∀ ls : Array Slot, lv_has ls n (lv_args 0 As) →
      W p l e (rmOf f lo) s m args below meth c s.heap [] 0 0 (MQ below (Qro v) args s 0 0 (fun _ => False)) (F0 m 0 ls [])) : MetR D cA B l y cc n ret f lo As H0 v := by
  refine Met.ofW (cc := cc) (maxL := n) (ret := ret) hy rfl ?_
  intro p e s m args below meth c s₁ Bo hml hv
  obtain ⟨rfl, hh, K⟩ := hv
  have hts := atoms_spec (ws := Cond.code y cc n ret :: WU) Bo.pre
  have hl := lv_entry As (n := n) hn
  rw [lg_entry_eq]
  generalize (lg_sl As ++ List.replicate (n - (lg_sl As).length) Slot.unset).toArray = ls at hl ⊢
  exact body p e s m _ below meth c ⟨Bo.exec, Bo.bytes, hml, findClass_of_methodNamed Bo.named, fun w h => hts w (List.mem_cons_of_mem _ h)⟩ Bo.returns Bo.notSynchronized hh K ls hl
theorem MetW.of {D : va_G} {cA : Nat → ClassId} {B : Nat} {l : Launch} {y : MethodName} {cc : ByteArray} {n : Nat} {ret : Option FieldType} {f lo mc ms : Nat} {As : List Value} {H0 : Heap} {P : Option Value → Heap → Prop} (hy : plainName y.cls = true) (hn : (lg_sl As).length ≤ n)
    (body : ∀ (p : Program) (e : Env) (s : State) (m : MethodId) (args : Array Value) (below : List Frame) (meth : Method) (c : Code), CallFix p m c cc n s args WU y.cls → meth.sig.returnType = ret → meth.locks = false → meth.name = y.name → s.heap = H0 → KK D cA B s → ∀ ls : Array Slot, lv_has ls n (lv_args 0 As) →
      W p l e ({ frames := f, cells := mc, slots := ms, locals := lo }) s m args below meth c s.heap [] 0 0 (MQ below (Qrw B P) args s mc ms (fun q => B ≤ q)) (F0 m 0 ls [])) : MetW D cA B l y cc n ret f lo mc ms As H0 P := by
  refine Met.ofW (cc := cc) (maxL := n) (ret := ret) hy rfl ?_
  intro p e s m args below meth c s₁ Bo hml hv
  obtain ⟨rfl, hh, K⟩ := hv
  have hts := atoms_spec (ws := Cond.code y cc n ret :: WU) Bo.pre
  have hl := lv_entry As (n := n) hn
  rw [lg_entry_eq]
  generalize (lg_sl As ++ List.replicate (n - (lg_sl As).length) Slot.unset).toArray = ls at hl ⊢
  exact body p e s m _ below meth c ⟨Bo.exec, Bo.bytes, hml, findClass_of_methodNamed Bo.named, fun w h => hts w (List.mem_cons_of_mem _ h)⟩ Bo.returns Bo.notSynchronized (name_of_methodNamed Bo.named Bo.method).1 hh K ls hl
theorem MetX.of {D : va_G} {cA : Nat → ClassId} {B : Nat} {l : Launch} {y : MethodName} {cc : ByteArray} {n : Nat} {ret : Option FieldType} {f lo mc ms : Nat} {As : List Value} {H0 : Heap} {P : Option Value → Heap → Prop} {X : String → Heap → Prop} (hy : plainName y.cls = true) (hn : (lg_sl As).length ≤ n)
    (body : ∀ (p : Program) (e : Env) (s : State) (m : MethodId) (args : Array Value) (below : List Frame) (meth : Method) (c : Code), CallFix p m c cc n s args WU y.cls → meth.sig.returnType = ret → meth.locks = false → (∀ x ∈ c.exceptionTable.toList, False) → s.heap = H0 → KK D cA B s → ∀ ls : Array Slot, lv_has ls n (lv_args 0 As) →
      W p l e ({ frames := f, cells := mc, slots := ms, locals := lo }) s m args below meth c s.heap [] 0 0 (vx_MQ below (Qrw B P) (Xrw B X) args s mc ms (fun q => B ≤ q)) (F0 m 0 ls [])) : MetX D cA B l y cc n ret f lo mc ms As H0 P X := by
  refine vx_ofW (cc := cc) (maxL := n) (ret := ret) hy rfl ?_
  intro p e s m args below meth c s₁ Bo hml ht hv
  obtain ⟨rfl, hh, K⟩ := hv
  have hts := atoms_spec (ws := Cond.code y cc n ret :: WU) Bo.pre
  have hl := lv_entry As (n := n) hn
  rw [lg_entry_eq]
  generalize (lg_sl As ++ List.replicate (n - (lg_sl As).length) Slot.unset).toArray = ls at hl ⊢
  exact body p e s m _ below meth c ⟨Bo.exec, Bo.bytes, hml, findClass_of_methodNamed Bo.named, fun w h => hts w (List.mem_cons_of_mem _ h)⟩ Bo.returns Bo.notSynchronized ht hh K ls hl
section NC
variable {p : Program} {l : Launch} {e : Env} {R : Room} {s : State} {m : MethodId} {args : Array Value} {below : List Frame} {meth : Method} {c : Code} {H : Heap} {locs : List Loc} {cells slots : Nat} {Q : State → Prop}
variable {cc ycc : ByteArray} {nL : Nat} {own : String} {pc : Nat} {ls : Array Slot} {rest st0 : List Value} {D : va_G} {cA : Nat → ClassId} {B : Nat} {dom : Nat → Prop} {ad : Nat → Nat} {E : Nat → va_E}
variable {y : MethodName} {yn idx f lo mc ms num : Nat} {ret : Option FieldType} {As : List Value}
/-- behind a call that only reads: all is as it was -/
theorem nc_ro {v : Value} {a : Array Value} (hr : va_Run p l e R s m args below meth c H locs cells slots 0 0 (F0 m pc ls st0) rest (Qro (some v) a) (fun _ => False))
    (kk : W p l e R s m args below meth c H locs cells slots Q (F0 m (pc + 3) ls (v :: rest))) : W p l e R s m args below meth c H locs cells slots Q (F0 m pc ls st0) := by
  intro T hT X
  obtain ⟨w, st₀, t, T', L, h0, X', hL, e1, e2, ⟨hv, hh⟩, st⟩ := hr T hT X
  cases hv
  obtain ⟨t2, a1, b1⟩ := kk T' (by rw [e1, hh, h0]) (Stand.forget X' (fun q h => (hL q h).elim))
  exact ⟨t2, st t2 a1, b1⟩
/-- behind a call that writes -/
theorem nc_rw {P : Option Value → Heap → Prop} {a : Array Value} (hr : va_Run p l e R s m args below meth c H locs cells slots mc ms (F0 m pc ls st0) rest (Qrw B P a) (fun q => B ≤ q)) (hS : va_S (fun q => B ≤ q) s.heap H locs)
    (kk : ∀ (v : Option Value) (H1 : Heap) (locs1 : List Loc), P v H1 → va_S (fun q => B ≤ q) s.heap H1 locs1 → W p l e R s m args below meth c H1 locs1 (cells + mc) (slots + ms) Q (F0 m (pc + 3) ls (v.toList ++ rest))) : W p l e R s m args below meth c H locs cells slots Q (F0 m pc ls st0) := by
  intro T hT X
  obtain ⟨w, st₀, t, T', L, h0, X', hL, e1, e2, ⟨⟨v, hv, hP⟩, hz, hk⟩, st⟩ := hr T hT X
  cases hv
  rw [h0] at hz hk
  have hS1 : va_S (fun q => B ≤ q) s.heap t.heap (locs ++ L) := ⟨Nat.le_trans hS.1 hz, fun q h1 h2 => (hk q (Nat.lt_of_lt_of_le h1 hS.1) h2).trans (hS.2.1 q h1 h2), fun q hq => (List.mem_append.mp hq).elim (hS.2.2 q) (hL q)⟩
  obtain ⟨t2, a1, b1⟩ := kk w t.heap (locs ++ L) hP hS1 T' e1 X'
  exact ⟨t2, st t2 a1, b1⟩
abbrev okN (y : MethodName) (num : Nat) : Prop := y.cls ≠ "java/lang/invoke/MethodHandle" ∧ y.cls ≠ "java/lang/invoke/VarHandle" ∧ (parseMethodDescriptor y.desc).map (fun d => d.parameters.length) = some num
theorem nc_rV (S : CallFix p m c cc nL s args WU own) (K : KK D cA B s) (N : nh D B dom ad E H) (hS : va_S (fun q => B ≤ q) s.heap H locs) (r : Nat) (hr : dom r) {ci : Nat} {fs : List Value} (hE : E r = .inr (ci, fs)) {T : u_T} {n : Nat} (hc : vwCl[ci]? = some (y.cls, T, n)) {v : Value}
    (hM : MetR D cA B l y ycc yn ret f lo (.ref (ad r) :: As) H (some v)) (w1 : Cond.methodLink own idx y ∈ WU) (w2 : Cond.instanceMethod y ∈ WU) (w3 : Cond.selects y.cls y y ∈ WU) (w4 : Cond.initialized y.cls ∈ WU) (w5 : Cond.code y ycc yn ret ∈ WU) (hd : okN y num) (hlen : As.length = num) (hR : f + 1 ≤ R.frames ∧ 8 + (yn + 11) + lo ≤ R.locals) (hz : ls.size = nL) (hst : st0 = As.reverse ++ .ref (ad r) :: rest) (hw : (rest.map fun v => v.category).sum ≤ 8) (hdg : decode cc pc = .ok (.invokevirtual idx, 3)) (hf : cells ≤ R.cells ∧ slots ≤ R.slots)
    (kk : W p l e R s m args below meth c H locs cells slots Q (F0 m (pc + 3) ls (v :: rest))) : W p l e R s m args below meth c H locs cells slots Q (F0 m pc ls st0) :=
  nc_ro (va_runV (As := As) (rest := rest) S hM (cwV num S.2.2.2.2 (wu_V w1 w2 w3 w4 (wu_cons w5)) rfl rfl rfl ⟨rfl, hd⟩ hR) ⟨(nb_self K hS).1, va_recv K.1 (nh_one N hr hE) hc (q0 := 0) rfl, (nb_self K hS).2⟩ rfl hlen hz hst (lv_room hw) hdg hf) kk
theorem nc_rS (S : CallFix p m c cc nL s args WU own) (K : KK D cA B s) (hS : va_S (fun q => B ≤ q) s.heap H locs) {v : Value}
    (hM : MetR D cA B l y ycc yn ret f lo As H (some v)) (w1 : Cond.methodLink own idx y ∈ WU) (w2 : Cond.static y ∈ WU) (w4 : Cond.initialized y.cls ∈ WU) (w5 : Cond.code y ycc yn ret ∈ WU) (hd : okN y num) (hlen : As.length = num) (hR : f + 1 ≤ R.frames ∧ 8 + (yn + 11) + lo ≤ R.locals) (hz : ls.size = nL) (hst : st0 = As.reverse ++ rest) (hw : (rest.map fun v => v.category).sum ≤ 8) (hdg : decode cc pc = .ok (.invokestatic idx, 3)) (hf : cells ≤ R.cells ∧ slots ≤ R.slots)
    (kk : W p l e R s m args below meth c H locs cells slots Q (F0 m (pc + 3) ls (v :: rest))) : W p l e R s m args below meth c H locs cells slots Q (F0 m pc ls st0) :=
  nc_ro (va_runS (As := As) (rest := rest) S hM (va_cwS num S.2.2.2.2 (wu_S w1 w2 w4 (wu_cons w5)) rfl rfl rfl hd hR) (nb_self K hS) rfl hlen hz hst (lv_room hw) hdg hf) kk
theorem nc_rSN (S : CallFix p m c cc nL s args WU own) (K : KK D cA B s) (hS : va_S (fun q => B ≤ q) s.heap H locs) {v : Value}
    (hM : MetR D cA B l y ycc yn ret f lo As H (some v)) (w1 : (own, idx, y) ∈ nwM) (w2 : Cond.static y ∈ WU) (w4 : Cond.initialized y.cls ∈ WU) (w5 : Cond.code y ycc yn ret ∈ WU) (hd : okN y num) (hlen : As.length = num) (hR : f + 1 ≤ R.frames ∧ 8 + (yn + 11) + lo ≤ R.locals) (hz : ls.size = nL) (hst : st0 = As.reverse ++ rest) (hw : (rest.map fun v => v.category).sum ≤ 8) (hdg : decode cc pc = .ok (.invokestatic idx, 3)) (hf : cells ≤ R.cells ∧ slots ≤ R.slots)
    (kk : W p l e R s m args below meth c H locs cells slots Q (F0 m (pc + 3) ls (v :: rest))) : W p l e R s m args below meth c H locs cells slots Q (F0 m pc ls st0) :=
  nc_ro (va_runSN (As := As) (rest := rest) S hM ⟨va_cnB num S.2.2.2.2 (wu_cons w5) rfl rfl rfl (K.2.2.1 _ w1) (S.2.2.2.2 _ w4) hd hR, S.2.2.2.2 _ w2, trivial⟩ (nb_self K hS) rfl hlen hz hst (lv_room hw) hdg hf) kk
theorem nc_wV {P : Option Value → Heap → Prop} (S : CallFix p m c cc nL s args WU own) (K : KK D cA B s) (N : nh D B dom ad E H) (hS : va_S (fun q => B ≤ q) s.heap H locs) (r : Nat) (hr : dom r) {ci : Nat} {fs : List Value} (hE : E r = .inr (ci, fs)) {T : u_T} {n : Nat} (hc : vwCl[ci]? = some (y.cls, T, n))
    (hM : MetW D cA B l y ycc yn ret f lo mc ms (.ref (ad r) :: As) H P) (w1 : Cond.methodLink own idx y ∈ WU) (w2 : Cond.instanceMethod y ∈ WU) (w3 : Cond.selects y.cls y y ∈ WU) (w4 : Cond.initialized y.cls ∈ WU) (w5 : Cond.code y ycc yn ret ∈ WU) (hd : okN y num) (hlen : As.length = num) (hR : f + 1 ≤ R.frames ∧ 8 + (yn + 11) + lo ≤ R.locals) (hz : ls.size = nL) (hst : st0 = As.reverse ++ .ref (ad r) :: rest) (hw : (rest.map fun v => v.category).sum ≤ 8) (hdg : decode cc pc = .ok (.invokevirtual idx, 3)) (hf : cells + mc ≤ R.cells ∧ slots + ms ≤ R.slots)
    (kk : ∀ (v : Option Value) (H1 : Heap) (locs1 : List Loc), P v H1 → va_S (fun q => B ≤ q) s.heap H1 locs1 → W p l e R s m args below meth c H1 locs1 (cells + mc) (slots + ms) Q (F0 m (pc + 3) ls (v.toList ++ rest))) : W p l e R s m args below meth c H locs cells slots Q (F0 m pc ls st0) :=
  nc_rw (va_runV (As := As) (rest := rest) S hM (cwV num S.2.2.2.2 (wu_V w1 w2 w3 w4 (wu_cons w5)) rfl rfl rfl ⟨rfl, hd⟩ hR) ⟨(nb_self K hS).1, va_recv K.1 (nh_one N hr hE) hc (q0 := 0) rfl, (nb_self K hS).2⟩ rfl hlen hz hst (lv_room hw) hdg hf) hS kk
theorem nc_wI {P : Option Value → Heap → Prop} {b : Nat} (S : CallFix p m c cc nL s args WU own) (K : KK D cA B s) (hS : va_S (fun q => B ≤ q) s.heap H locs)
    (hM : MetW D cA B l y ycc yn none f lo mc ms (.ref b :: As) H P) (w1 : Cond.methodLink own idx y ∈ WU) (w2 : Cond.instanceMethod y ∈ WU) (hi : y.name = "<init>") (w4 : Cond.initialized y.cls ∈ WU) (w5 : Cond.code y ycc yn none ∈ WU) (hd : okN y num) (hlen : As.length = num) (hR : f + 1 ≤ R.frames ∧ 8 + (yn + 11) + lo ≤ R.locals) (hz : ls.size = nL) (hst : st0 = As.reverse ++ .ref b :: rest) (hw : (rest.map fun v => v.category).sum ≤ 8) (hdg : decode cc pc = .ok (.invokespecial idx, 3)) (hf : cells + mc ≤ R.cells ∧ slots + ms ≤ R.slots)
    (kk : ∀ (v : Option Value) (H1 : Heap) (locs1 : List Loc), P v H1 → va_S (fun q => B ≤ q) s.heap H1 locs1 → W p l e R s m args below meth c H1 locs1 (cells + mc) (slots + ms) Q (F0 m (pc + 3) ls (v.toList ++ rest))) : W p l e R s m args below meth c H locs cells slots Q (F0 m pc ls st0) :=
  nc_rw (va_runI (As := As) (rest := rest) S hM (cwI num S.2.2.2.2 (wu_cons w5) rfl rfl rfl (S.2.2.2.2 _ w4) (S.2.2.2.2 _ w1) (S.2.2.2.2 _ w2) hi hd hR) (nb_self K hS) rfl hlen hz hst (lv_room hw) hdg hf) hS kk
theorem nc_wIN {P : Option Value → Heap → Prop} {b : Nat} (S : CallFix p m c cc nL s args WU own) (K : KK D cA B s) (hS : va_S (fun q => B ≤ q) s.heap H locs)
    (hM : MetW D cA B l y ycc yn none f lo mc ms (.ref b :: As) H P) (w1 : (own, idx, y) ∈ nwM) (w2 : Cond.instanceMethod y ∈ WU) (hi : y.name = "<init>") (w4 : Cond.initialized y.cls ∈ WU) (w5 : Cond.code y ycc yn none ∈ WU) (hd : okN y num) (hlen : As.length = num) (hR : f + 1 ≤ R.frames ∧ 8 + (yn + 11) + lo ≤ R.locals) (hz : ls.size = nL) (hst : st0 = As.reverse ++ .ref b :: rest) (hw : (rest.map fun v => v.category).sum ≤ 8) (hdg : decode cc pc = .ok (.invokespecial idx, 3)) (hf : cells + mc ≤ R.cells ∧ slots + ms ≤ R.slots)
    (kk : ∀ (v : Option Value) (H1 : Heap) (locs1 : List Loc), P v H1 → va_S (fun q => B ≤ q) s.heap H1 locs1 → W p l e R s m args below meth c H1 locs1 (cells + mc) (slots + ms) Q (F0 m (pc + 3) ls (v.toList ++ rest))) : W p l e R s m args below meth c H locs cells slots Q (F0 m pc ls st0) :=
  nc_rw (va_runIN (As := As) (rest := rest) S hM ⟨va_cnB num S.2.2.2.2 (wu_cons w5) rfl rfl rfl (K.2.2.1 _ w1) (S.2.2.2.2 _ w4) hd hR, hi, S.2.2.2.2 _ w2⟩ (nb_self K hS) rfl hlen hz hst (lv_room hw) hdg hf) hS kk
/-- ends of methods that only read -/
theorem ne_rI {v : Int32} (S : CallFix p m c cc nL s args WU own) (hr : meth.sig.returnType = some .int) (hlk : meth.locks = false) (hdg : decode cc pc = .ok (.ireturn, 1)) : W p l e R s m args below meth c s.heap [] 0 0 (MQ below (Qro (some (.int v))) args s 0 0 (fun _ => False)) (F0 m pc ls [.int v]) :=
  W.iret S.1 S.2.1 hr (fun _ ht _ => ⟨rfl, ht⟩) (fun _ h => absurd h List.not_mem_nil) hdg hlk
theorem ne_rZ {v : Int32} (S : CallFix p m c cc nL s args WU own) (hr : meth.sig.returnType = some .boolean) (hlk : meth.locks = false) (hv : vp_nar .boolean v = v) (hdg : decode cc pc = .ok (.ireturn, 1)) : W p l e R s m args below meth c s.heap [] 0 0 (MQ below (Qro (some (.int v))) args s 0 0 (fun _ => False)) (F0 m pc ls [.int v]) :=
  W.zret S.1 S.2.1 hr (show narrow .boolean (.int v) = .int v from (show narrow .boolean (.int v) = .int (vp_nar .boolean v) from rfl).trans (by rw [hv])) (fun _ ht _ => ⟨rfl, ht⟩) (fun _ h => absurd h List.not_mem_nil) hdg hlk
theorem ne_rD {v : UInt64} (S : CallFix p m c cc nL s args WU own) (hr : meth.sig.returnType = some .double) (hlk : meth.locks = false) (hdg : decode cc pc = .ok (.dreturn, 1)) : W p l e R s m args below meth c s.heap [] 0 0 (MQ below (Qro (some (.double v))) args s 0 0 (fun _ => False)) (F0 m pc ls [.double v]) :=
  W.dret S.1 S.2.1 hr (fun _ ht _ => ⟨rfl, ht⟩) (fun _ h => absurd h List.not_mem_nil) hdg hlk
theorem ne_rA {v : Value} {C : String} (S : CallFix p m c cc nL s args WU own) (hr : meth.sig.returnType = some (.object C)) (hlk : meth.locks = false) (hv : v = .null ∨ ∃ a, v = .ref a) (hdg : decode cc pc = .ok (.areturn, 1)) : W p l e R s m args below meth c s.heap [] 0 0 (MQ below (Qro (some v)) args s 0 0 (fun _ => False)) (F0 m pc ls [v]) :=
  W.aret S.1 S.2.1 hr (Or.inl ⟨_, rfl⟩) hv (fun _ ht _ => ⟨rfl, ht⟩) (fun _ h => absurd h List.not_mem_nil) hdg hlk
/-- ends of methods that write -/
theorem ne_wI {v : Int32} {P : Option Value → Heap → Prop} (S : CallFix p m c cc nL s args WU own) (hS : va_S (fun q => B ≤ q) s.heap H locs) (hr : meth.sig.returnType = some .int) (hlk : meth.locks = false) (hP : P (some (.int v)) H) (hdg : decode cc pc = .ok (.ireturn, 1)) : W p l e R s m args below meth c H locs cells slots (MQ below (Qrw B P) args s cells slots (fun q => B ≤ q)) (F0 m pc ls [.int v]) :=
  W.iret S.1 S.2.1 hr (fun _ ht _ => ⟨⟨_, rfl, by rw [ht]; exact hP⟩, hS.F ht⟩) hS.2.2 hdg hlk
theorem ne_wZ {v : Int32} {P : Option Value → Heap → Prop} (S : CallFix p m c cc nL s args WU own) (hS : va_S (fun q => B ≤ q) s.heap H locs) (hr : meth.sig.returnType = some .boolean) (hlk : meth.locks = false) (hv : vp_nar .boolean v = v) (hP : P (some (.int v)) H) (hdg : decode cc pc = .ok (.ireturn, 1)) : W p l e R s m args below meth c H locs cells slots (MQ below (Qrw B P) args s cells slots (fun q => B ≤ q)) (F0 m pc ls [.int v]) :=
  W.zret S.1 S.2.1 hr (show narrow .boolean (.int v) = .int v from (show narrow .boolean (.int v) = .int (vp_nar .boolean v) from rfl).trans (by rw [hv])) (fun _ ht _ => ⟨⟨_, rfl, by rw [ht]; exact hP⟩, hS.F ht⟩) hS.2.2 hdg hlk
theorem ne_wD {v : UInt64} {P : Option Value → Heap → Prop} (S : CallFix p m c cc nL s args WU own) (hS : va_S (fun q => B ≤ q) s.heap H locs) (hr : meth.sig.returnType = some .double) (hlk : meth.locks = false) (hP : P (some (.double v)) H) (hdg : decode cc pc = .ok (.dreturn, 1)) : W p l e R s m args below meth c H locs cells slots (MQ below (Qrw B P) args s cells slots (fun q => B ≤ q)) (F0 m pc ls [.double v]) :=
  W.dret S.1 S.2.1 hr (fun _ ht _ => ⟨⟨_, rfl, by rw [ht]; exact hP⟩, hS.F ht⟩) hS.2.2 hdg hlk
theorem ne_wV {P : Option Value → Heap → Prop} (S : CallFix p m c cc nL s args WU own) (hS : va_S (fun q => B ≤ q) s.heap H locs) (hr : meth.sig.returnType = none) (hlk : meth.locks = false) (hP : P none H) (hdg : decode cc pc = .ok (.return_, 1)) : W p l e R s m args below meth c H locs cells slots (MQ below (Qrw B P) args s cells slots (fun q => B ≤ q)) (F0 m pc ls []) :=
  W.vret S.1 S.2.1 hr (fun _ ht _ => ⟨⟨_, rfl, by rw [ht]; exact hP⟩, hS.F ht⟩) hS.2.2 hdg hlk
/-- super(), of java/lang/Object -/
theorem nc_obj {b : Nat} (S : CallFix p m c cc nL s args WU own) (w1 : Cond.methodLink own idx objectInit ∈ WU) (w2 : Cond.instanceMethod objectInit ∈ WU) (w3 : Cond.code objectInit ⟨#[0xb1]⟩ 1 none ∈ WU) (hz : ls.size = nL) (hw : (rest.map fun v => v.category).sum ≤ 8) (hdg : decode cc pc = .ok (.invokespecial idx, 3)) (hR : 1 ≤ R.frames ∧ 20 ≤ R.locals)
    (kk : W p l e R s m args below meth c H locs cells slots Q (F0 m (pc + 3) ls rest)) : W p l e R s m args below meth c H locs cells slots Q (F0 m pc ls (.ref b :: rest)) := by
  refine W.objInit S.1 S.2.1 S.2.2.2.1 (S.2.2.2.2 _ w1) (S.2.2.2.2 _ w2) (S.2.2.2.2 _ w3) rfl (by rw [S.2.2.1]; exact hz) rfl hdg hR.1 (by have h9 := lv_room (m := m) (pc := pc) (ls := ls) (rest := .ref b :: rest) hw; omega) ?_
  exact kk
end NC
end
section
/-! THE REFERENCE'S WORLD: its object is role 5, its arrays are the roles 16 to 28; M 0 k: the field k, M i j: what the array of the field i holds at j -/
def mlen (i : Nat) : Nat := if i ≤ 8 then 12 else if i ≤ 11 then 144 else if i = 12 then 432 else if i ≤ 15 then 144 else if i = 16 then 1008 else if i = 17 then 252 else 87
def mcls (i : Nat) : Nat := if 13 ≤ i ∧ i ≤ 15 then 1 else 0
def mfl (ad : Nat → Nat) (M : Nat → Nat → Int32) : List Value := [.int (M 0 0), .int (M 0 1), .int (M 0 2), .int (M 0 3), .int (M 0 4), .int (M 0 5), .ref (ad 16), .ref (ad 17), .ref (ad 18), .ref (ad 19), .ref (ad 20), .ref (ad 21), .ref (ad 22), .ref (ad 23), .ref (ad 24), .ref (ad 25), .ref (ad 26), .ref (ad 27), .ref (ad 28), .int (M 0 19), .int (M 0 20), .int (M 0 21), .int (M 0 22)]
def mrole (r : Nat) : Prop := r = 5 ∨ (16 ≤ r ∧ r ≤ 28)
def mi (cA : Nat → ClassId) (ad : Nat → Nat) (M : Nat → Nat → Int32) (E : Nat → va_E) : Prop := E 5 = .inr (5, mfl ad M) ∧ ∀ i, 6 ≤ i → i ≤ 18 → E (10 + i) = .inl (cA (mcls i), mlen i, .inl (M i))
def mw (D : va_G) (cA : Nat → ClassId) (B : Nat) (dom : Nat → Prop) (ad : Nat → Nat) (X : Nat → va_E) (M : Nat → Nat → Int32) (H : Heap) : Prop :=
  ∃ E, nh D B dom ad E H ∧ mi cA ad M E ∧ (∀ r, ¬ mrole r → E r = X r) ∧ ∀ r, mrole r → dom r
def up2 (M : Nat → Nat → Int32) (i j : Nat) (x : Int32) : Nat → Nat → Int32 := fun a b => if a = i ∧ b = j then x else M a b
theorem up2_row (M : Nat → Nat → Int32) (i j : Nat) (x : Int32) : up2 M i j x i = upd (M i) j x := by
  funext b
  simp [up2, upd]
theorem up2_ne (M : Nat → Nat → Int32) {i a : Nat} (j : Nat) (x : Int32) (h : a ≠ i) : up2 M i j x a = M a := by
  funext b
  simp [up2, h]
theorem mrole_5 : mrole 5 := Or.inl rfl
theorem mrole_a {i : Nat} (h : 6 ≤ i) (h2 : i ≤ 18) : mrole (10 + i) := Or.inr ⟨by omega, by omega⟩
/-- the scalar fields -/
def mscal (k : Nat) : Prop := k ≤ 5 ∨ (19 ≤ k ∧ k ≤ 22)
theorem mfl_set (ad : Nat → Nat) (M : Nat → Nat → Int32) (k : Nat) (x : Int32) (hk : mscal k) : (mfl ad M).set k (.int x) = mfl ad (up2 M 0 k x) := by
  have h : k = 0 ∨ k = 1 ∨ k = 2 ∨ k = 3 ∨ k = 4 ∨ k = 5 ∨ k = 19 ∨ k = 20 ∨ k = 21 ∨ k = 22 := by
    unfold mscal at hk
    omega
  rcases h with rfl | rfl | rfl | rfl | rfl | rfl | rfl | rfl | rfl | rfl <;> simp [mfl, up2]
theorem mfl_arr (ad : Nat → Nat) (M : Nat → Nat → Int32) {i : Nat} (j : Nat) (x : Int32) (hi : 6 ≤ i) : mfl ad (up2 M i j x) = mfl ad M := by
  have h : (0 : Nat) ≠ i := by omega
  simp [mfl, up2_ne M j x h]
section MR
variable {p : Program} {l : Launch} {e : Env} {R : Room} {s : State} {m : MethodId} {args : Array Value} {below : List Frame} {meth : Method} {c : Code} {H : Heap} {locs : List Loc} {cells slots : Nat} {Q : State → Prop}
variable {cc : ByteArray} {nL : Nat} {own : String} {pc : Nat} {ls : Array Slot} {rest : List Value} {D : va_G} {cA : Nat → ClassId} {B : Nat} {dom : Nat → Prop} {ad : Nat → Nat} {X : Nat → va_E} {M : Nat → Nat → Int32}
theorem mr_get (S : CallFix p m c cc nL s args WU own) (K : KK D cA B s) (N : mw D cA B dom ad X M H) (k : Nat) (hk : k < 23) {index : Nat} (hlink : Cond.fieldLink own index (TX5 k).1 (TX5 k).2.1 (TX5 k).2.2.1 ∈ WU) {v : Value} (hv : (mfl ad M)[k]? = some v) (hdg : decode cc pc = .ok (.getfield index, 3))
    (kk : W p l e R s m args below meth c H locs cells slots Q (F0 m (pc + 3) ls (v :: rest))) : W p l e R s m args below meth c H locs cells slots Q (F0 m pc ls (.ref (ad 5) :: rest)) := by
  obtain ⟨E, h1, h2, -, h4⟩ := N
  exact nr_get S K h1 5 (h4 5 mrole_5) h2.1 (C := RX5) (T := TX5) (n := 23) rfl iWX5 k hk hlink rfl hv hdg kk
theorem mr_put (S : CallFix p m c cc nL s args WU own) (K : KK D cA B s) (N : mw D cA B dom ad X M H) (hS : va_S (fun q => B ≤ q) s.heap H locs) (k : Nat) (hk : k < 23) (hsc : mscal k) {index : Nat} (hlink : Cond.fieldLink own index (TX5 k).1 (TX5 k).2.1 (TX5 k).2.2.1 ∈ WU) (hfin : (TX5 k).2.2.2 = false) (hty : tyX5 k = .int) {x : Int32} (hdg : decode cc pc = .ok (.putfield index, 3))
    (kk : ∀ (H1 : Heap) (locs1 : List Loc), mw D cA B dom ad X (up2 M 0 k x) H1 → va_S (fun q => B ≤ q) s.heap H1 locs1 → W p l e R s m args below meth c H1 locs1 cells slots Q (F0 m (pc + 3) ls rest)) : W p l e R s m args below meth c H locs cells slots Q (F0 m pc ls (.int x :: .ref (ad 5) :: rest)) := by
  obtain ⟨E, h1, h2, h3, h4⟩ := N
  refine nr_put S K h1 hS 5 (h4 5 mrole_5) h2.1 (C := RX5) (T := TX5) (n := 23) rfl iWX5 tyX5 tyX5_ok nmX5 k hk hlink rfl hfin (by rw [hty]; rfl) (by rw [hty]; rfl) hk hdg (fun H1 locs1 g1 g2 _ => ?_)
  refine kk H1 locs1 ⟨_, g1, ⟨?_, fun i h5 h6 => ?_⟩, fun r hr => ?_, h4⟩ g2
  · rw [va_up_self, mfl_set ad M k x hsc]
  · rw [va_up_ne _ _ (by omega), h2.2 i h5 h6, up2_ne M k x (by omega)]
  · rw [va_up_ne _ _ (fun h => hr (Or.inl h))]
    exact h3 r hr
theorem mr_iald (S : CallFix p m c cc nL s args WU own) (K : KK D cA B s) (N : mw D cA B dom ad X M H) (i : Nat) (h6 : 6 ≤ i) (h18 : i ≤ 18) (hc : mcls i = 0) {j v : Int32} (hin : vp_in j (mlen i)) (hv : M i j.toNatClampNeg = v) (hdg : decode cc pc = .ok (.iaload, 1))
    (kk : W p l e R s m args below meth c H locs cells slots Q (F0 m (pc + 1) ls (.int v :: rest))) : W p l e R s m args below meth c H locs cells slots Q (F0 m pc ls (.int j :: .ref (ad (10 + i)) :: rest)) := by
  obtain ⟨E, h1, h2, -, h4⟩ := N
  have hE := h2.2 i h6 h18
  rw [hc] at hE
  exact nr_iald S K h1 (10 + i) (h4 _ (mrole_a h6 h18)) hE hin hv hdg kk
theorem mr_zald (S : CallFix p m c cc nL s args WU own) (K : KK D cA B s) (N : mw D cA B dom ad X M H) (i : Nat) (h6 : 6 ≤ i) (h18 : i ≤ 18) (hc : mcls i = 1) {j v : Int32} (hin : vp_in j (mlen i)) (hv : M i j.toNatClampNeg = v) (hdg : decode cc pc = .ok (.baload, 1))
    (kk : W p l e R s m args below meth c H locs cells slots Q (F0 m (pc + 1) ls (.int v :: rest))) : W p l e R s m args below meth c H locs cells slots Q (F0 m pc ls (.int j :: .ref (ad (10 + i)) :: rest)) := by
  obtain ⟨E, h1, h2, -, h4⟩ := N
  have hE := h2.2 i h6 h18
  rw [hc] at hE
  exact nr_zald S K h1 (10 + i) (h4 _ (mrole_a h6 h18)) hE hin hv hdg kk
theorem mw_arr {H1 : Heap} {E : Nat → va_E} {i : Nat} (h6 : 6 ≤ i) (h18 : i ≤ 18) {j : Nat} {x : Int32} (h2 : mi cA ad M E) (h3 : ∀ r, ¬ mrole r → E r = X r) (h4 : ∀ r, mrole r → dom r) (g1 : nh D B dom ad (va_up E (10 + i) (.inl (cA (mcls i), mlen i, .inl (upd (M i) j x)))) H1) : mw D cA B dom ad X (up2 M i j x) H1 := by
  refine ⟨_, g1, ⟨?_, fun i2 h5 h7 => ?_⟩, fun r hr => ?_, h4⟩
  · rw [va_up_ne _ _ (by omega), mfl_arr ad M j x h6]
    exact h2.1
  · by_cases hii : i2 = i
    · subst hii
      rw [va_up_self, up2_row]
    · rw [va_up_ne _ _ (by omega), up2_ne M j x hii]
      exact h2.2 i2 h5 h7
  · rw [va_up_ne _ _ (fun h => hr (by rw [h]; exact mrole_a h6 h18))]
    exact h3 r hr
theorem mr_iast (S : CallFix p m c cc nL s args WU own) (K : KK D cA B s) (N : mw D cA B dom ad X M H) (hS : va_S (fun q => B ≤ q) s.heap H locs) (i : Nat) (h6 : 6 ≤ i) (h18 : i ≤ 18) (hc : mcls i = 0) {j x : Int32} (hin : vp_in j (mlen i)) (j0 : Nat) (hj : j.toNatClampNeg = j0) (hdg : decode cc pc = .ok (.iastore, 1))
    (kk : ∀ (H1 : Heap) (locs1 : List Loc), mw D cA B dom ad X (up2 M i j0 x) H1 → va_S (fun q => B ≤ q) s.heap H1 locs1 → W p l e R s m args below meth c H1 locs1 cells slots Q (F0 m (pc + 1) ls rest)) : W p l e R s m args below meth c H locs cells slots Q (F0 m pc ls (.int x :: .int j :: .ref (ad (10 + i)) :: rest)) := by
  subst hj
  obtain ⟨E, h1, h2, h3, h4⟩ := N
  have hE := h2.2 i h6 h18
  rw [hc] at hE
  refine nr_iast S K h1 hS (10 + i) (h4 _ (mrole_a h6 h18)) hE hin hdg (fun H1 locs1 g1 g2 _ => ?_)
  exact kk H1 locs1 (mw_arr h6 h18 h2 h3 h4 (by rw [hc]; exact g1)) g2
theorem mr_zast (S : CallFix p m c cc nL s args WU own) (K : KK D cA B s) (N : mw D cA B dom ad X M H) (hS : va_S (fun q => B ≤ q) s.heap H locs) (i : Nat) (h6 : 6 ≤ i) (h18 : i ≤ 18) (hc : mcls i = 1) {j x : Int32} (hin : vp_in j (mlen i)) (hx : vp_nar .boolean x = x) (j0 : Nat) (hj : j.toNatClampNeg = j0) (hdg : decode cc pc = .ok (.bastore, 1))
    (kk : ∀ (H1 : Heap) (locs1 : List Loc), mw D cA B dom ad X (up2 M i j0 x) H1 → va_S (fun q => B ≤ q) s.heap H1 locs1 → W p l e R s m args below meth c H1 locs1 cells slots Q (F0 m (pc + 1) ls rest)) : W p l e R s m args below meth c H locs cells slots Q (F0 m pc ls (.int x :: .int j :: .ref (ad (10 + i)) :: rest)) := by
  subst hj
  obtain ⟨E, h1, h2, h3, h4⟩ := N
  have hE := h2.2 i h6 h18
  rw [hc] at hE
  refine nr_zast S K h1 hS (10 + i) (h4 _ (mrole_a h6 h18)) hE hin hx hdg (fun H1 locs1 g1 g2 _ => ?_)
  exact kk H1 locs1 (mw_arr h6 h18 h2 h3 h4 (by rw [hc]; exact g1)) g2
/-- a call on the reference's object -/
theorem mc_rV {y : MethodName} {ycc : ByteArray} {yn idx f lo num : Nat} {ret : Option FieldType} {As st0 : List Value} {v : Value} (S : CallFix p m c cc nL s args WU own) (K : KK D cA B s) (N : mw D cA B dom ad X M H) (hS : va_S (fun q => B ≤ q) s.heap H locs) (hy : y.cls = RX5)
    (hM : MetR D cA B l y ycc yn ret f lo (.ref (ad 5) :: As) H (some v)) (w1 : Cond.methodLink own idx y ∈ WU) (w2 : Cond.instanceMethod y ∈ WU) (w3 : Cond.selects y.cls y y ∈ WU) (w4 : Cond.initialized y.cls ∈ WU) (w5 : Cond.code y ycc yn ret ∈ WU) (hd : okN y num) (hlen : As.length = num) (hR : f + 1 ≤ R.frames ∧ 8 + (yn + 11) + lo ≤ R.locals) (hz : ls.size = nL) (hst : st0 = As.reverse ++ .ref (ad 5) :: rest) (hw : (rest.map fun v => v.category).sum ≤ 8) (hdg : decode cc pc = .ok (.invokevirtual idx, 3)) (hf : cells ≤ R.cells ∧ slots ≤ R.slots)
    (kk : W p l e R s m args below meth c H locs cells slots Q (F0 m (pc + 3) ls (v :: rest))) : W p l e R s m args below meth c H locs cells slots Q (F0 m pc ls st0) := by
  obtain ⟨E, h1, h2, -, h4⟩ := N
  exact nc_rV S K h1 hS 5 (h4 5 mrole_5) h2.1 (T := TX5) (n := 23) (by rw [hy]; rfl) hM w1 w2 w3 w4 w5 hd hlen hR hz hst hw hdg hf kk
theorem mc_wV {y : MethodName} {ycc : ByteArray} {yn idx f lo mc ms num : Nat} {ret : Option FieldType} {As st0 : List Value} {P : Option Value → Heap → Prop} (S : CallFix p m c cc nL s args WU own) (K : KK D cA B s) (N : mw D cA B dom ad X M H) (hS : va_S (fun q => B ≤ q) s.heap H locs) (hy : y.cls = RX5)
    (hM : MetW D cA B l y ycc yn ret f lo mc ms (.ref (ad 5) :: As) H P) (w1 : Cond.methodLink own idx y ∈ WU) (w2 : Cond.instanceMethod y ∈ WU) (w3 : Cond.selects y.cls y y ∈ WU) (w4 : Cond.initialized y.cls ∈ WU) (w5 : Cond.code y ycc yn ret ∈ WU) (hd : okN y num) (hlen : As.length = num) (hR : f + 1 ≤ R.frames ∧ 8 + (yn + 11) + lo ≤ R.locals) (hz : ls.size = nL) (hst : st0 = As.reverse ++ .ref (ad 5) :: rest) (hw : (rest.map fun v => v.category).sum ≤ 8) (hdg : decode cc pc = .ok (.invokevirtual idx, 3)) (hf : cells + mc ≤ R.cells ∧ slots + ms ≤ R.slots)
    (kk : ∀ (v : Option Value) (H1 : Heap) (locs1 : List Loc), P v H1 → va_S (fun q => B ≤ q) s.heap H1 locs1 → W p l e R s m args below meth c H1 locs1 (cells + mc) (slots + ms) Q (F0 m (pc + 3) ls (v.toList ++ rest))) : W p l e R s m args below meth c H locs cells slots Q (F0 m pc ls st0) := by
  obtain ⟨E, h1, h2, -, h4⟩ := N
  exact nc_wV S K h1 hS 5 (h4 5 mrole_5) h2.1 (T := TX5) (n := 23) (by rw [hy]; rfl) hM w1 w2 w3 w4 w5 hd hlen hR hz hst hw hdg hf kk
/-- a name for what is equal -/
theorem nt_i {x y : Int32} (h : x = y) (k : W p l e R s m args below meth c H locs cells slots Q (F0 m pc ls (.int y :: rest))) : W p l e R s m args below meth c H locs cells slots Q (F0 m pc ls (.int x :: rest)) := by subst h; exact k
theorem nt_2 {x y : Int32} {v : Value} (h : x = y) (k : W p l e R s m args below meth c H locs cells slots Q (F0 m pc ls (v :: .int y :: rest))) : W p l e R s m args below meth c H locs cells slots Q (F0 m pc ls (v :: .int x :: rest)) := by subst h; exact k
/-- ends, with an answer that is said otherwise -/
theorem ee_rI {v x : Int32} (S : CallFix p m c cc nL s args WU own) (hr : meth.sig.returnType = some .int) (hlk : meth.locks = false) (h : v = x) (hdg : decode cc pc = .ok (.ireturn, 1)) : W p l e R s m args below meth c s.heap [] 0 0 (MQ below (Qro (some (.int v))) args s 0 0 (fun _ => False)) (F0 m pc ls [.int x]) := by
  subst h
  exact ne_rI S hr hlk hdg
theorem ee_rZ {v x : Int32} (S : CallFix p m c cc nL s args WU own) (hr : meth.sig.returnType = some .boolean) (hlk : meth.locks = false) (hx : vp_nar .boolean x = x) (h : v = x) (hdg : decode cc pc = .ok (.ireturn, 1)) : W p l e R s m args below meth c s.heap [] 0 0 (MQ below (Qro (some (.int v))) args s 0 0 (fun _ => False)) (F0 m pc ls [.int x]) := by
  subst h
  exact ne_rZ S hr hlk hx hdg
theorem ee_rD {v x : UInt64} (S : CallFix p m c cc nL s args WU own) (hr : meth.sig.returnType = some .double) (hlk : meth.locks = false) (h : v = x) (hdg : decode cc pc = .ok (.dreturn, 1)) : W p l e R s m args below meth c s.heap [] 0 0 (MQ below (Qro (some (.double v))) args s 0 0 (fun _ => False)) (F0 m pc ls [.double x]) := by
  subst h
  exact ne_rD S hr hlk hdg
theorem zb_0 : vp_nar .boolean 0 = 0 := by decide
theorem zb_1 : vp_nar .boolean 1 = 1 := by decide
end MR
end
section
section NJ
variable {p : Program} {l : Launch} {e : Env} {R : Room} {s : State} {m : MethodId} {args : Array Value} {below : List Frame} {meth : Method} {c : Code} {H : Heap} {locs : List Loc} {cells slots : Nat} {Q : State → Prop}
/-- paths that meet again: what differs gets a name -/
theorem nj {α : Type} {J n b : Nat} {V : α} {L : α → List (Nat × Value)} {St : α → List Value} {ls : Array Slot} {st : List Value}
    (k : ∀ (v : α) (ls2 : Array Slot), v = V → lv_has ls2 n (L v) → W p l e R s m args below meth c H locs cells slots Q (F0 m J ls2 (St v)))
    (bb : (∀ (v : α) (ls2 : Array Slot), v = V → lv_has ls2 n (L v) → W p l e R s m args below meth c H locs cells slots Q (F0 m J ls2 (St v))) → W p l e R s m args below meth c H locs cells slots Q (F0 m b ls st)) : W p l e R s m args below meth c H locs cells slots Q (F0 m b ls st) := bb k
/-- a loop that counts up to N -/
theorem nl {h N n : Nat} {L : Nat → List (Nat × Value)} (base : ∀ ls : Array Slot, lv_has ls n (L N) → W p l e R s m args below meth c H locs cells slots Q (F0 m h ls []))
    (step : ∀ i, i < N → (∀ ls : Array Slot, lv_has ls n (L (i + 1)) → W p l e R s m args below meth c H locs cells slots Q (F0 m h ls [])) → ∀ ls : Array Slot, lv_has ls n (L i) → W p l e R s m args below meth c H locs cells slots Q (F0 m h ls [])) : ∀ ls : Array Slot, lv_has ls n (L 0) → W p l e R s m args below meth c H locs cells slots Q (F0 m h ls []) := by
  have key : ∀ k i, i + k = N → ∀ ls : Array Slot, lv_has ls n (L i) → W p l e R s m args below meth c H locs cells slots Q (F0 m h ls []) := by
    intro k
    induction k with
    | zero =>
      intro i hi
      have : i = N := by omega
      subst this
      exact base
    | succ k ih =>
      intro i hi
      exact step i (by omega) (ih (i + 1) (by omega))
  exact key N 0 (by omega)
theorem nlM {B h N n : Nat} {PH : Nat → Heap → Prop} {L : Nat → List (Nat × Value)} (base : ∀ (ls : Array Slot) (H : Heap) (locs : List Loc), PH N H → va_S (fun q => B ≤ q) s.heap H locs → lv_has ls n (L N) → W p l e R s m args below meth c H locs cells slots Q (F0 m h ls []))
    (step : ∀ i, i < N → (∀ (ls : Array Slot) (H : Heap) (locs : List Loc), PH (i + 1) H → va_S (fun q => B ≤ q) s.heap H locs → lv_has ls n (L (i + 1)) → W p l e R s m args below meth c H locs cells slots Q (F0 m h ls [])) → ∀ (ls : Array Slot) (H : Heap) (locs : List Loc), PH i H → va_S (fun q => B ≤ q) s.heap H locs → lv_has ls n (L i) → W p l e R s m args below meth c H locs cells slots Q (F0 m h ls [])) :
    ∀ (ls : Array Slot) (H : Heap) (locs : List Loc), PH 0 H → va_S (fun q => B ≤ q) s.heap H locs → lv_has ls n (L 0) → W p l e R s m args below meth c H locs cells slots Q (F0 m h ls []) := by
  have key : ∀ k i, i + k = N → ∀ (ls : Array Slot) (H : Heap) (locs : List Loc), PH i H → va_S (fun q => B ≤ q) s.heap H locs → lv_has ls n (L i) → W p l e R s m args below meth c H locs cells slots Q (F0 m h ls []) := by
    intro k
    induction k with
    | zero =>
      intro i hi
      have : i = N := by omega
      subst this
      exact base
    | succ k ih =>
      intro i hi
      exact step i (by omega) (ih (i + 1) (by omega))
  exact key N 0 (by omega)
end NJ
def f_X5_in (v : Int32) (lo : Int32) (hi : Int32) : Int32 :=
  if v < lo then 0
  else if hi < v then 0
  else 1
set_option maxHeartbeats 4000000 in
set_option maxRecDepth 100000 in
theorem m_X5_in {D : va_G} {cA : Nat → ClassId} {B : Nat} (l : Launch) {H0 : Heap} (v : Int32) (lo : Int32) (hi : Int32) : MetR D cA B l yX5_in cX5_in 3 (some .boolean) 0 0 [.int v, .int lo, .int hi] H0 (some (.int (f_X5_in v lo hi))) := by
  refine MetR.of (by decide) (Nat.le_of_ble_eq_true rfl) ?_
  intro p e s m args below meth c S hr hlk hh K ls hl
  subst hh
  have hS : va_S (fun q => B ≤ q) s.heap s.heap [] := va_S.rf
  have hl : lv_has ls 3 [(0, .int v), (1, .int lo), (2, .int hi)] := hl
  refine lv_iload_n S.1 S.2.1 dX5_in_0 rfl (lv_at hl 0 rfl) ?_
  refine lv_iload_n S.1 S.2.1 dX5_in_1 rfl (lv_at hl 1 rfl) ?_
  refine lv_icmp_lt (tgt := 14) S.1 S.2.1 dX5_in_2 (by decide) (fun c2_1 => ?_) (fun c2_1 => ?_)
  · refine lv_iconst (v := 0) S.1 S.2.1 dX5_in_14 (by decide) ?_
    exact ee_rZ S hr hlk (zb_0) (by unfold f_X5_in; first | rfl | (rw [if_pos c2_1]) | (simp only [if_pos c2_1])) dX5_in_15
  · refine lv_iload_n S.1 S.2.1 dX5_in_5 rfl (lv_at hl 0 rfl) ?_
    refine lv_iload_n S.1 S.2.1 dX5_in_6 rfl (lv_at hl 2 rfl) ?_
    refine lv_icmp_gt (tgt := 14) S.1 S.2.1 dX5_in_7 (by decide) (fun c7_2 => ?_) (fun c7_2 => ?_)
    · refine lv_iconst (v := 0) S.1 S.2.1 dX5_in_14 (by decide) ?_
      exact ee_rZ S hr hlk (zb_0) (by unfold f_X5_in; first | rfl | (rw [if_neg c2_1, if_pos c7_2]) | (simp only [if_neg c2_1, if_pos c7_2])) dX5_in_15
    · refine lv_iconst (v := 1) S.1 S.2.1 dX5_in_10 (by decide) ?_
      refine lv_goto (tgt := 15) S.1 S.2.1 dX5_in_11 (by decide) ?_
      exact ee_rZ S hr hlk (zb_1) (by unfold f_X5_in; first | rfl | (rw [if_neg c2_1, if_neg c7_2]) | (simp only [if_neg c2_1, if_neg c7_2])) dX5_in_15


theorem zb_in (v lo hi : Int32) : vp_nar .boolean (f_X5_in v lo hi) = f_X5_in v lo hi := by
  unfold f_X5_in
  split
  · exact zb_0
  · split
    · exact zb_0
    · exact zb_1
/-- the reference's numbers but those that it counts with / and but what it threw -/
def sq (M M1 : Nat → Nat → Int32) : Prop := ∀ a j, (a = 0 → j < 19) → M1 a j = M a j
def sr (M M1 : Nat → Nat → Int32) : Prop := ∀ a j, (a = 0 → 1 ≤ j ∧ j < 19) → M1 a j = M a j
theorem sq_refl (M : Nat → Nat → Int32) : sq M M := fun _ _ _ => rfl
theorem sq_trans {M M1 M2 : Nat → Nat → Int32} (h : sq M M1) (h2 : sq M1 M2) : sq M M2 := fun a j q => (h2 a j q).trans (h a j q)
theorem sr_0 {M M1 : Nat → Nat → Int32} (h : sq M M1) : sr M M1 := fun a j q => h a j (fun z => (q z).2)
theorem sr_t {M M1 : Nat → Nat → Int32} {t : Int32} (h : sq (up2 M 0 0 t) M1) : sr M M1 := fun a j q => by
  rw [h a j (fun z => (q z).2)]
  unfold up2
  rw [if_neg]
  intro z
  have := q z.1
  omega
theorem nt_d {p : Program} {l : Launch} {e : Env} {R : Room} {s : State} {m : MethodId} {args : Array Value} {below : List Frame} {meth : Method} {c : Code} {H : Heap} {locs : List Loc} {cells slots : Nat} {Q : State → Prop} {pc : Nat} {ls : Array Slot} {rest : List Value} {x y : UInt64} (h : x = y) (k : W p l e R s m args below meth c H locs cells slots Q (F0 m pc ls (.double y :: rest))) : W p l e R s m args below meth c H locs cells slots Q (F0 m pc ls (.double x :: rest)) := by subst h; exact k
theorem nlt_nat {a n : Nat} (h : ¬ nI a ≤ nI n) (hn : n < 2 ^ 31) : n < a := Nat.lt_of_not_le (fun q => h (nI_le q hn))
theorem vn_of {r : UInt64} (h : FP.dIsNaN r = false) : vf_n64 r := by
  unfold vf_n64
  rw [UInt64.le_iff_toNat_le, FP.Core.mask_toNat]
  have h2 : ¬ 9218868437227405312 < r.toNat % 2 ^ 63 := fun q => by
    have h3 := (FP.Core.isNaN_bits r).mpr q
    have h4 : FP.Core.dIsNaN r = false := h
    rw [h4] at h3
    cases h3
  exact Nat.le_of_not_lt h2
theorem nan_size {P : Prop} [Decidable P] {x : UInt64} (h : FP.dIsNaN x = false) : FP.dIsNaN (if P then x else FP.dneg x) = false := by
  split
  · exact h
  · rw [FP.dneg_nan]
    exact h
theorem fin_08 : FP.Core.DFin 4605380978949069210 := by rw [FP.Core.fin_bits]; decide
theorem fin_11 : FP.Core.DFin 4607632778762754458 := by rw [FP.Core.fin_bits]; decide
theorem fin_10 : FP.Core.DFin 4621819117588971520 := by rw [FP.Core.fin_bits]; decide
theorem fin_25 : FP.Core.DFin 4627730092099895296 := by rw [FP.Core.fin_bits]; decide
theorem fin_100 : FP.Core.DFin 4636737291354636288 := by rw [FP.Core.fin_bits]; decide
theorem nz_10 : ¬ FP.Core.DZero 4621819117588971520 := by rw [FP.Core.zero_bits2]; decide
theorem nan_08 (x : Int32) : FP.dIsNaN (FP.dmul (FP.i2d x) 4605380978949069210) = false := FP.Core.dmul_out (FP.Core.i2d_fin x) fin_08
theorem nan_11 (x : Int32) : FP.dIsNaN (FP.dmul (FP.i2d x) 4607632778762754458) = false := FP.Core.dmul_out (FP.Core.i2d_fin x) fin_11

def f_X5_at (sk : Nat) (el : Nat) : Int32 :=
  (nI ((12 * sk) + el))
set_option maxHeartbeats 4000000 in
set_option maxRecDepth 100000 in
theorem m_X5_at {D : va_G} {cA : Nat → ClassId} {B : Nat} (l : Launch) {H0 : Heap} (sk : Nat) (el : Nat) : MetR D cA B l yX5_at cX5_at 2 (some .int) 0 0 [.int (nI sk), .int (nI el)] H0 (some (.int (f_X5_at sk el))) := by
  refine MetR.of (by decide) (Nat.le_of_ble_eq_true rfl) ?_
  intro p e s m args below meth c S hr hlk hh K ls hl
  subst hh
  have hS : va_S (fun q => B ≤ q) s.heap s.heap [] := va_S.rf
  have hl : lv_has ls 2 [(0, .int (nI sk)), (1, .int (nI el))] := hl
  refine lv_bipush (v := 12) S.1 S.2.1 dX5_at_0 (by decide) ?_
  refine lv_iload_n S.1 S.2.1 dX5_at_2 rfl (lv_at hl 0 rfl) ?_
  refine lv_imul S.1 S.2.1 dX5_at_3 ?_
  refine nt_i (y := nI (12 * sk)) (pk_mul 12 sk) ?_
  refine lv_iload_n S.1 S.2.1 dX5_at_4 rfl (lv_at hl 1 rfl) ?_
  refine lv_iadd S.1 S.2.1 dX5_at_5 ?_
  refine nt_i (y := nI ((12 * sk) + el)) (nI_add (12 * sk) el) ?_
  exact ee_rI S hr hlk (rfl) dX5_at_6

def f_X5_thrown (M : Nat → Nat → Int32) : Int32 :=
  (M 0 0)
set_option maxHeartbeats 4000000 in
set_option maxRecDepth 100000 in
theorem m_X5_thrown {D : va_G} {cA : Nat → ClassId} {B : Nat} (l : Launch) {dom : Nat → Prop} {ad : Nat → Nat} {X : Nat → va_E} {H0 : Heap} (M : Nat → Nat → Int32) (N : mw D cA B dom ad X M H0) : MetR D cA B l yX5_thrown cX5_thrown 1 (some .int) 0 0 [.ref (ad 5)] H0 (some (.int (f_X5_thrown M))) := by
  refine MetR.of (by decide) (Nat.le_of_ble_eq_true rfl) ?_
  intro p e s m args below meth c S hr hlk hh K ls hl
  subst hh
  have hS : va_S (fun q => B ≤ q) s.heap s.heap [] := va_S.rf
  have hl : lv_has ls 1 [(0, .ref (ad 5))] := hl
  refine lv_aload_n S.1 S.2.1 dX5_thrown_0 rfl (lv_at hl 0 rfl) ?_
  refine mr_get S K N 0 (by decide) k3_138 (v := .int (M 0 0)) rfl dX5_thrown_1 ?_
  exact ee_rI S hr hlk (rfl) dX5_thrown_4

def f_X5_skater (M : Nat → Nat → Int32) : Int32 :=
  if (M 0 1) = 12 then 0
  else (((M 0 1) + 1) - 1)
def g_X5_skater (M : Nat → Nat → Int32) : Nat → Nat → Int32 :=
  if (M 0 1) = 12 then (up2 M 0 0 1)
  else (up2 (up2 M 0 0 0) 0 1 ((M 0 1) + 1))
set_option maxHeartbeats 4000000 in
set_option maxRecDepth 100000 in
theorem m_X5_skater {D : va_G} {cA : Nat → ClassId} {B : Nat} (l : Launch) {dom : Nat → Prop} {ad : Nat → Nat} {X : Nat → va_E} {H0 : Heap} (M : Nat → Nat → Int32) (N : mw D cA B dom ad X M H0) : MetW D cA B l yX5_skater cX5_skater 1 (some .int) 0 0 0 0 [.ref (ad 5)] H0 (fun o h => o = some (.int (f_X5_skater M)) ∧ mw D cA B dom ad X (g_X5_skater M) h) := by
  refine MetW.of (by decide) (Nat.le_of_ble_eq_true rfl) ?_
  intro p e s m args below meth c S hr hlk hin hh K ls hl
  subst hh
  have hS : va_S (fun q => B ≤ q) s.heap s.heap [] := va_S.rf
  have hl : lv_has ls 1 [(0, .ref (ad 5))] := hl
  refine lv_aload_n S.1 S.2.1 dX5_skater_0 rfl (lv_at hl 0 rfl) ?_
  refine lv_aload_n S.1 S.2.1 dX5_skater_1 rfl (lv_at hl 0 rfl) ?_
  refine mr_get S K N 1 (by decide) k3_139 (v := .int (M 0 1)) rfl dX5_skater_2 ?_
  refine lv_bipush (v := 12) S.1 S.2.1 dX5_skater_5 (by decide) ?_
  refine lv_icmp_ne (tgt := 14) S.1 S.2.1 dX5_skater_7 (by decide) (fun c7_1 => ?_) (fun c7_1 => ?_)
  · refine lv_iconst (v := 0) S.1 S.2.1 dX5_skater_14 (by decide) ?_
    refine mr_put S K N hS 0 (by decide) (by unfold mscal; omega) k3_138 rfl rfl dX5_skater_15 (fun H locs N hS => ?_)
    refine lv_aload_n S.1 S.2.1 dX5_skater_18 rfl (lv_at hl 0 rfl) ?_
    refine mr_get S K N 0 (by decide) k3_138 (v := .int 0) rfl dX5_skater_19 ?_
    refine lv_if_le (tgt := 27) S.1 S.2.1 dX5_skater_22 (by decide) (fun _ => ?_) (fun c9 => absurd (by decide) c9)
    refine lv_aload_n S.1 S.2.1 dX5_skater_27 rfl (lv_at hl 0 rfl) ?_
    refine lv_dup S.1 S.2.1 dX5_skater_28 rfl ?_
    refine mr_get S K N 1 (by decide) k3_139 (v := .int (M 0 1)) rfl dX5_skater_29 ?_
    refine lv_iconst (v := 1) S.1 S.2.1 dX5_skater_32 (by decide) ?_
    refine lv_iadd S.1 S.2.1 dX5_skater_33 ?_
    refine mr_put S K N hS 1 (by decide) (by unfold mscal; omega) k3_139 rfl rfl dX5_skater_34 (fun H locs N hS => ?_)
    refine lv_aload_n S.1 S.2.1 dX5_skater_37 rfl (lv_at hl 0 rfl) ?_
    refine mr_get S K N 1 (by decide) k3_139 (v := .int ((M 0 1) + 1)) rfl dX5_skater_38 ?_
    refine lv_iconst (v := 1) S.1 S.2.1 dX5_skater_41 (by decide) ?_
    refine lv_isub S.1 S.2.1 dX5_skater_42 ?_
    exact ne_wI S hS hr hlk ⟨congrArg (fun z => some (Value.int z)) (Eq.symm (by unfold f_X5_skater; first | rfl | (rw [if_neg c7_1]) | (simp only [if_neg c7_1]))), (by unfold g_X5_skater; first | exact N | (rw [if_neg c7_1]; exact N) | (simp only [if_neg c7_1]; exact N))⟩ dX5_skater_43
  · refine lv_iconst (v := 1) S.1 S.2.1 dX5_skater_10 (by decide) ?_
    refine lv_goto (tgt := 15) S.1 S.2.1 dX5_skater_11 (by decide) ?_
    refine mr_put S K N hS 0 (by decide) (by unfold mscal; omega) k3_138 rfl rfl dX5_skater_15 (fun H locs N hS => ?_)
    refine lv_aload_n S.1 S.2.1 dX5_skater_18 rfl (lv_at hl 0 rfl) ?_
    refine mr_get S K N 0 (by decide) k3_138 (v := .int 1) rfl dX5_skater_19 ?_
    refine lv_if_le (tgt := 27) S.1 S.2.1 dX5_skater_22 (by decide) (fun c9 => absurd c9 (by decide)) (fun _ => ?_)
    refine lv_iconst (v := 0) S.1 S.2.1 dX5_skater_25 (by decide) ?_
    exact ne_wI S hS hr hlk ⟨congrArg (fun z => some (Value.int z)) (Eq.symm (by unfold f_X5_skater; first | rfl | (rw [if_pos c7_1]) | (simp only [if_pos c7_1]))), (by unfold g_X5_skater; first | exact N | (rw [if_pos c7_1]; exact N) | (simp only [if_pos c7_1]; exact N))⟩ dX5_skater_26

def g_X5_stands (M : Nat → Nat → Int32) (p0 : Int32) (p1 : Int32) (p2 : Int32) : Nat → Nat → Int32 :=
  (up2 (up2 (up2 M 0 3 p0) 0 4 p1) 0 5 p2)
set_option maxHeartbeats 4000000 in
set_option maxRecDepth 100000 in
theorem m_X5_stands {D : va_G} {cA : Nat → ClassId} {B : Nat} (l : Launch) {dom : Nat → Prop} {ad : Nat → Nat} {X : Nat → va_E} {H0 : Heap} (M : Nat → Nat → Int32) (p0 : Int32) (p1 : Int32) (p2 : Int32) (N : mw D cA B dom ad X M H0) : MetW D cA B l yX5_stands cX5_stands 4 none 0 0 0 0 [.ref (ad 5), .int p0, .int p1, .int p2] H0 (fun o h => o = none ∧ mw D cA B dom ad X (g_X5_stands M p0 p1 p2) h) := by
  refine MetW.of (by decide) (Nat.le_of_ble_eq_true rfl) ?_
  intro p e s m args below meth c S hr hlk hin hh K ls hl
  subst hh
  have hS : va_S (fun q => B ≤ q) s.heap s.heap [] := va_S.rf
  have hl : lv_has ls 4 [(0, .ref (ad 5)), (1, .int p0), (2, .int p1), (3, .int p2)] := hl
  refine lv_aload_n S.1 S.2.1 dX5_stands_0 rfl (lv_at hl 0 rfl) ?_
  refine lv_iload_n S.1 S.2.1 dX5_stands_1 rfl (lv_at hl 1 rfl) ?_
  refine mr_put S K N hS 3 (by decide) (by unfold mscal; omega) k3_141 rfl rfl dX5_stands_2 (fun H locs N hS => ?_)
  refine lv_aload_n S.1 S.2.1 dX5_stands_5 rfl (lv_at hl 0 rfl) ?_
  refine lv_iload_n S.1 S.2.1 dX5_stands_6 rfl (lv_at hl 2 rfl) ?_
  refine mr_put S K N hS 4 (by decide) (by unfold mscal; omega) k3_142 rfl rfl dX5_stands_7 (fun H locs N hS => ?_)
  refine lv_aload_n S.1 S.2.1 dX5_stands_10 rfl (lv_at hl 0 rfl) ?_
  refine lv_iload_n S.1 S.2.1 dX5_stands_11 rfl (lv_at hl 3 rfl) ?_
  refine mr_put S K N hS 5 (by decide) (by unfold mscal; omega) k3_143 rfl rfl dX5_stands_12 (fun H locs N hS => ?_)
  exact ne_wV S hS hr hlk ⟨rfl, N⟩ dX5_stands_15

def f_X5_isSkater (M : Nat → Nat → Int32) (p0 : Int32) : Int32 :=
  (f_X5_in p0 0 ((M 0 1) - 1))
set_option maxHeartbeats 4000000 in
set_option maxRecDepth 100000 in
theorem m_X5_isSkater {D : va_G} {cA : Nat → ClassId} {B : Nat} (l : Launch) {dom : Nat → Prop} {ad : Nat → Nat} {X : Nat → va_E} {H0 : Heap} (M : Nat → Nat → Int32) (p0 : Int32) (N : mw D cA B dom ad X M H0) : MetR D cA B l yX5_isSkater cX5_isSkater 2 (some .boolean) 1 22 [.ref (ad 5), .int p0] H0 (some (.int (f_X5_isSkater M p0))) := by
  refine MetR.of (by decide) (Nat.le_of_ble_eq_true rfl) ?_
  intro p e s m args below meth c S hr hlk hh K ls hl
  subst hh
  have hS : va_S (fun q => B ≤ q) s.heap s.heap [] := va_S.rf
  have hl : lv_has ls 2 [(0, .ref (ad 5)), (1, .int p0)] := hl
  refine lv_iload_n S.1 S.2.1 dX5_isSkater_0 rfl (lv_at hl 1 rfl) ?_
  refine lv_iconst (v := 0) S.1 S.2.1 dX5_isSkater_1 (by decide) ?_
  refine lv_aload_n S.1 S.2.1 dX5_isSkater_2 rfl (lv_at hl 0 rfl) ?_
  refine mr_get S K N 1 (by decide) k3_139 (v := .int (M 0 1)) rfl dX5_isSkater_3 ?_
  refine lv_iconst (v := 1) S.1 S.2.1 dX5_isSkater_6 (by decide) ?_
  refine lv_isub S.1 S.2.1 dX5_isSkater_7 ?_
  refine nc_rS S K hS (As := [.int p0, .int 0, .int ((M 0 1) - 1)]) (m_X5_in l p0 0 ((M 0 1) - 1)) k3_224 k3_225 k1_3 k3_226 (num := 3) (by decide +kernel) rfl ⟨Nat.le_of_ble_eq_true rfl, Nat.le_of_ble_eq_true rfl⟩ hl.1 rfl (Nat.le_of_ble_eq_true rfl) dX5_isSkater_8 ⟨Nat.le_of_ble_eq_true rfl, Nat.le_of_ble_eq_true rfl⟩ ?_
  exact ee_rZ S hr hlk (zb_in _ _ _) (rfl) dX5_isSkater_11

def f_X5_isOpen (M : Nat → Nat → Int32) : Int32 :=
  if (M 0 2) = (-1) then 0
  else if 240 ≤ (M 7 (M 0 2).toNatClampNeg) then 0
  else 1
set_option maxHeartbeats 4000000 in
set_option maxRecDepth 100000 in
theorem m_X5_isOpen {D : va_G} {cA : Nat → ClassId} {B : Nat} (l : Launch) {dom : Nat → Prop} {ad : Nat → Nat} {X : Nat → va_E} {H0 : Heap} (M : Nat → Nat → Int32) (N : mw D cA B dom ad X M H0) (hg : ¬ M 0 2 = (-1) → vp_in (M 0 2) 12) : MetR D cA B l yX5_isOpen cX5_isOpen 1 (some .boolean) 0 0 [.ref (ad 5)] H0 (some (.int (f_X5_isOpen M))) := by
  refine MetR.of (by decide) (Nat.le_of_ble_eq_true rfl) ?_
  intro p e s m args below meth c S hr hlk hh K ls hl
  subst hh
  have hS : va_S (fun q => B ≤ q) s.heap s.heap [] := va_S.rf
  have hl : lv_has ls 1 [(0, .ref (ad 5))] := hl
  refine lv_aload_n S.1 S.2.1 dX5_isOpen_0 rfl (lv_at hl 0 rfl) ?_
  refine mr_get S K N 2 (by decide) k3_140 (v := .int (M 0 2)) rfl dX5_isOpen_1 ?_
  refine lv_iconst (v := (-1)) S.1 S.2.1 dX5_isOpen_4 (by decide) ?_
  refine lv_icmp_eq (tgt := 27) S.1 S.2.1 dX5_isOpen_5 (by decide) (fun c5_1 => ?_) (fun c5_1 => ?_)
  · refine lv_iconst (v := 0) S.1 S.2.1 dX5_isOpen_27 (by decide) ?_
    exact ee_rZ S hr hlk (zb_0) (by unfold f_X5_isOpen; first | rfl | (rw [if_pos c5_1]) | (simp only [if_pos c5_1])) dX5_isOpen_28
  · refine lv_aload_n S.1 S.2.1 dX5_isOpen_8 rfl (lv_at hl 0 rfl) ?_
    refine mr_get S K N 7 (by decide) k3_145 (v := .ref (ad 17)) rfl dX5_isOpen_9 ?_
    refine lv_aload_n S.1 S.2.1 dX5_isOpen_12 rfl (lv_at hl 0 rfl) ?_
    refine mr_get S K N 2 (by decide) k3_140 (v := .int (M 0 2)) rfl dX5_isOpen_13 ?_
    refine mr_iald S K N 7 (by decide) (by decide) rfl (v := (M 7 (M 0 2).toNatClampNeg)) (hg c5_1) (rfl) dX5_isOpen_16 ?_
    refine lv_sipush (v := 240) S.1 S.2.1 dX5_isOpen_17 (by decide) ?_
    refine lv_icmp_ge (tgt := 27) S.1 S.2.1 dX5_isOpen_20 (by decide) (fun c20_2 => ?_) (fun c20_2 => ?_)
    · refine lv_iconst (v := 0) S.1 S.2.1 dX5_isOpen_27 (by decide) ?_
      exact ee_rZ S hr hlk (zb_0) (by unfold f_X5_isOpen; first | rfl | (rw [if_neg c5_1, if_pos c20_2]) | (simp only [if_neg c5_1, if_pos c20_2])) dX5_isOpen_28
    · refine lv_iconst (v := 1) S.1 S.2.1 dX5_isOpen_23 (by decide) ?_
      refine lv_goto (tgt := 28) S.1 S.2.1 dX5_isOpen_24 (by decide) ?_
      exact ee_rZ S hr hlk (zb_1) (by unfold f_X5_isOpen; first | rfl | (rw [if_neg c5_1, if_neg c20_2]) | (simp only [if_neg c5_1, if_neg c20_2])) dX5_isOpen_28

def f_X5_canTakeOff (M : Nat → Nat → Int32) (p0 : Int32) : Int32 :=
  if p0 = 0 then (if (M 0 3) = 1 then (if (M 0 4) = 1 then (if (M 0 5) = 1 then 1
        else 0)
      else 0)
    else 0)
  else if p0 = 2 then (if (M 0 3) = 1 then (if (M 0 4) = 1 then (if (M 0 5) = 1 then 1
        else 0)
      else 0)
    else 0)
  else if p0 = 3 then (if (M 0 3) = 1 then 0
    else if (M 0 5) = 1 then 1
    else 0)
  else if p0 = 4 then (if (M 0 3) = 1 then 0
    else if (M 0 5) = 1 then 1
    else 0)
  else if (M 0 3) = 1 then 0
  else if p0 = 5 then (if (M 0 4) = 1 then (if (M 0 5) = 1 then 0
      else 1)
    else 0)
  else if (M 0 4) = 1 then 0
  else if (M 0 5) = 1 then 1
  else 0
set_option maxHeartbeats 4000000 in
set_option maxRecDepth 100000 in
theorem m_X5_canTakeOff {D : va_G} {cA : Nat → ClassId} {B : Nat} (l : Launch) {dom : Nat → Prop} {ad : Nat → Nat} {X : Nat → va_E} {H0 : Heap} (M : Nat → Nat → Int32) (p0 : Int32) (N : mw D cA B dom ad X M H0) : MetR D cA B l yX5_canTakeOff cX5_canTakeOff 2 (some .boolean) 0 0 [.ref (ad 5), .int p0] H0 (some (.int (f_X5_canTakeOff M p0))) := by
  refine MetR.of (by decide) (Nat.le_of_ble_eq_true rfl) ?_
  intro p e s m args below meth c S hr hlk hh K ls hl
  subst hh
  have hS : va_S (fun q => B ≤ q) s.heap s.heap [] := va_S.rf
  have hl : lv_has ls 2 [(0, .ref (ad 5)), (1, .int p0)] := hl
  refine lv_iload_n S.1 S.2.1 dX5_canTakeOff_0 rfl (lv_at hl 1 rfl) ?_
  refine lv_if_eq (tgt := 9) S.1 S.2.1 dX5_canTakeOff_1 (by decide) (fun c1_1 => ?_) (fun c1_1 => ?_)
  · refine lv_aload_n S.1 S.2.1 dX5_canTakeOff_9 rfl (lv_at hl 0 rfl) ?_
    refine mr_get S K N 3 (by decide) k3_141 (v := .int (M 0 3)) rfl dX5_canTakeOff_10 ?_
    refine lv_iconst (v := 1) S.1 S.2.1 dX5_canTakeOff_13 (by decide) ?_
    refine lv_icmp_ne (tgt := 37) S.1 S.2.1 dX5_canTakeOff_14 (by decide) (fun c14_2 => ?_) (fun c14_2 => ?_)
    · refine lv_iconst (v := 0) S.1 S.2.1 dX5_canTakeOff_37 (by decide) ?_
      exact ee_rZ S hr hlk (zb_0) (by unfold f_X5_canTakeOff; first | rfl | (rw [if_pos c1_1, if_neg c14_2]) | (simp only [if_pos c1_1, if_neg c14_2])) dX5_canTakeOff_38
    · refine lv_aload_n S.1 S.2.1 dX5_canTakeOff_17 rfl (lv_at hl 0 rfl) ?_
      refine mr_get S K N 4 (by decide) k3_142 (v := .int (M 0 4)) rfl dX5_canTakeOff_18 ?_
      refine lv_iconst (v := 1) S.1 S.2.1 dX5_canTakeOff_21 (by decide) ?_
      refine lv_icmp_ne (tgt := 37) S.1 S.2.1 dX5_canTakeOff_22 (by decide) (fun c22_3 => ?_) (fun c22_3 => ?_)
      · refine lv_iconst (v := 0) S.1 S.2.1 dX5_canTakeOff_37 (by decide) ?_
        exact ee_rZ S hr hlk (zb_0) (by unfold f_X5_canTakeOff; first | rfl | (rw [if_pos c1_1, if_pos c14_2, if_neg c22_3]) | (simp only [if_pos c1_1, if_pos c14_2, if_neg c22_3])) dX5_canTakeOff_38
      · refine lv_aload_n S.1 S.2.1 dX5_canTakeOff_25 rfl (lv_at hl 0 rfl) ?_
        refine mr_get S K N 5 (by decide) k3_143 (v := .int (M 0 5)) rfl dX5_canTakeOff_26 ?_
        refine lv_iconst (v := 1) S.1 S.2.1 dX5_canTakeOff_29 (by decide) ?_
        refine lv_icmp_ne (tgt := 37) S.1 S.2.1 dX5_canTakeOff_30 (by decide) (fun c30_4 => ?_) (fun c30_4 => ?_)
        · refine lv_iconst (v := 0) S.1 S.2.1 dX5_canTakeOff_37 (by decide) ?_
          exact ee_rZ S hr hlk (zb_0) (by unfold f_X5_canTakeOff; first | rfl | (rw [if_pos c1_1, if_pos c14_2, if_pos c22_3, if_neg c30_4]) | (simp only [if_pos c1_1, if_pos c14_2, if_pos c22_3, if_neg c30_4])) dX5_canTakeOff_38
        · refine lv_iconst (v := 1) S.1 S.2.1 dX5_canTakeOff_33 (by decide) ?_
          refine lv_goto (tgt := 38) S.1 S.2.1 dX5_canTakeOff_34 (by decide) ?_
          exact ee_rZ S hr hlk (zb_1) (by unfold f_X5_canTakeOff; first | rfl | (rw [if_pos c1_1, if_pos c14_2, if_pos c22_3, if_pos c30_4]) | (simp only [if_pos c1_1, if_pos c14_2, if_pos c22_3, if_pos c30_4])) dX5_canTakeOff_38
  · refine lv_iload_n S.1 S.2.1 dX5_canTakeOff_4 rfl (lv_at hl 1 rfl) ?_
    refine lv_iconst (v := 2) S.1 S.2.1 dX5_canTakeOff_5 (by decide) ?_
    refine lv_icmp_ne (tgt := 39) S.1 S.2.1 dX5_canTakeOff_6 (by decide) (fun c6_5 => ?_) (fun c6_5 => ?_)
    · refine lv_iload_n S.1 S.2.1 dX5_canTakeOff_39 rfl (lv_at hl 1 rfl) ?_
      refine lv_iconst (v := 3) S.1 S.2.1 dX5_canTakeOff_40 (by decide) ?_
      refine lv_icmp_eq (tgt := 49) S.1 S.2.1 dX5_canTakeOff_41 (by decide) (fun c41_6 => ?_) (fun c41_6 => ?_)
      · refine lv_aload_n S.1 S.2.1 dX5_canTakeOff_49 rfl (lv_at hl 0 rfl) ?_
        refine mr_get S K N 3 (by decide) k3_141 (v := .int (M 0 3)) rfl dX5_canTakeOff_50 ?_
        refine lv_iconst (v := 1) S.1 S.2.1 dX5_canTakeOff_53 (by decide) ?_
        refine lv_icmp_eq (tgt := 69) S.1 S.2.1 dX5_canTakeOff_54 (by decide) (fun c54_7 => ?_) (fun c54_7 => ?_)
        · refine lv_iconst (v := 0) S.1 S.2.1 dX5_canTakeOff_69 (by decide) ?_
          exact ee_rZ S hr hlk (zb_0) (by unfold f_X5_canTakeOff; first | rfl | (rw [if_neg c1_1, if_neg c6_5, if_pos c41_6, if_pos c54_7]) | (simp only [if_neg c1_1, if_neg c6_5, if_pos c41_6, if_pos c54_7])) dX5_canTakeOff_70
        · refine lv_aload_n S.1 S.2.1 dX5_canTakeOff_57 rfl (lv_at hl 0 rfl) ?_
          refine mr_get S K N 5 (by decide) k3_143 (v := .int (M 0 5)) rfl dX5_canTakeOff_58 ?_
          refine lv_iconst (v := 1) S.1 S.2.1 dX5_canTakeOff_61 (by decide) ?_
          refine lv_icmp_ne (tgt := 69) S.1 S.2.1 dX5_canTakeOff_62 (by decide) (fun c62_8 => ?_) (fun c62_8 => ?_)
          · refine lv_iconst (v := 0) S.1 S.2.1 dX5_canTakeOff_69 (by decide) ?_
            exact ee_rZ S hr hlk (zb_0) (by unfold f_X5_canTakeOff; first | rfl | (rw [if_neg c1_1, if_neg c6_5, if_pos c41_6, if_neg c54_7, if_neg c62_8]) | (simp only [if_neg c1_1, if_neg c6_5, if_pos c41_6, if_neg c54_7, if_neg c62_8])) dX5_canTakeOff_70
          · refine lv_iconst (v := 1) S.1 S.2.1 dX5_canTakeOff_65 (by decide) ?_
            refine lv_goto (tgt := 70) S.1 S.2.1 dX5_canTakeOff_66 (by decide) ?_
            exact ee_rZ S hr hlk (zb_1) (by unfold f_X5_canTakeOff; first | rfl | (rw [if_neg c1_1, if_neg c6_5, if_pos c41_6, if_neg c54_7, if_pos c62_8]) | (simp only [if_neg c1_1, if_neg c6_5, if_pos c41_6, if_neg c54_7, if_pos c62_8])) dX5_canTakeOff_70
      · refine lv_iload_n S.1 S.2.1 dX5_canTakeOff_44 rfl (lv_at hl 1 rfl) ?_
        refine lv_iconst (v := 4) S.1 S.2.1 dX5_canTakeOff_45 (by decide) ?_
        refine lv_icmp_ne (tgt := 71) S.1 S.2.1 dX5_canTakeOff_46 (by decide) (fun c46_9 => ?_) (fun c46_9 => ?_)
        · refine lv_aload_n S.1 S.2.1 dX5_canTakeOff_71 rfl (lv_at hl 0 rfl) ?_
          refine mr_get S K N 3 (by decide) k3_141 (v := .int (M 0 3)) rfl dX5_canTakeOff_72 ?_
          refine lv_iconst (v := 1) S.1 S.2.1 dX5_canTakeOff_75 (by decide) ?_
          refine lv_icmp_eq (tgt := 123) S.1 S.2.1 dX5_canTakeOff_76 (by decide) (fun c76_10 => ?_) (fun c76_10 => ?_)
          · refine lv_iconst (v := 0) S.1 S.2.1 dX5_canTakeOff_123 (by decide) ?_
            exact ee_rZ S hr hlk (zb_0) (by unfold f_X5_canTakeOff; first | rfl | (rw [if_neg c1_1, if_neg c6_5, if_neg c41_6, if_neg c46_9, if_pos c76_10]) | (simp only [if_neg c1_1, if_neg c6_5, if_neg c41_6, if_neg c46_9, if_pos c76_10])) dX5_canTakeOff_124
          · refine lv_iload_n S.1 S.2.1 dX5_canTakeOff_79 rfl (lv_at hl 1 rfl) ?_
            refine lv_iconst (v := 5) S.1 S.2.1 dX5_canTakeOff_80 (by decide) ?_
            refine lv_icmp_ne (tgt := 103) S.1 S.2.1 dX5_canTakeOff_81 (by decide) (fun c81_11 => ?_) (fun c81_11 => ?_)
            · refine lv_aload_n S.1 S.2.1 dX5_canTakeOff_103 rfl (lv_at hl 0 rfl) ?_
              refine mr_get S K N 4 (by decide) k3_142 (v := .int (M 0 4)) rfl dX5_canTakeOff_104 ?_
              refine lv_iconst (v := 1) S.1 S.2.1 dX5_canTakeOff_107 (by decide) ?_
              refine lv_icmp_eq (tgt := 123) S.1 S.2.1 dX5_canTakeOff_108 (by decide) (fun c108_12 => ?_) (fun c108_12 => ?_)
              · refine lv_iconst (v := 0) S.1 S.2.1 dX5_canTakeOff_123 (by decide) ?_
                exact ee_rZ S hr hlk (zb_0) (by unfold f_X5_canTakeOff; first | rfl | (rw [if_neg c1_1, if_neg c6_5, if_neg c41_6, if_neg c46_9, if_neg c76_10, if_neg c81_11, if_pos c108_12]) | (simp only [if_neg c1_1, if_neg c6_5, if_neg c41_6, if_neg c46_9, if_neg c76_10, if_neg c81_11, if_pos c108_12])) dX5_canTakeOff_124
              · refine lv_aload_n S.1 S.2.1 dX5_canTakeOff_111 rfl (lv_at hl 0 rfl) ?_
                refine mr_get S K N 5 (by decide) k3_143 (v := .int (M 0 5)) rfl dX5_canTakeOff_112 ?_
                refine lv_iconst (v := 1) S.1 S.2.1 dX5_canTakeOff_115 (by decide) ?_
                refine lv_icmp_ne (tgt := 123) S.1 S.2.1 dX5_canTakeOff_116 (by decide) (fun c116_13 => ?_) (fun c116_13 => ?_)
                · refine lv_iconst (v := 0) S.1 S.2.1 dX5_canTakeOff_123 (by decide) ?_
                  exact ee_rZ S hr hlk (zb_0) (by unfold f_X5_canTakeOff; first | rfl | (rw [if_neg c1_1, if_neg c6_5, if_neg c41_6, if_neg c46_9, if_neg c76_10, if_neg c81_11, if_neg c108_12, if_neg c116_13]) | (simp only [if_neg c1_1, if_neg c6_5, if_neg c41_6, if_neg c46_9, if_neg c76_10, if_neg c81_11, if_neg c108_12, if_neg c116_13])) dX5_canTakeOff_124
                · refine lv_iconst (v := 1) S.1 S.2.1 dX5_canTakeOff_119 (by decide) ?_
                  refine lv_goto (tgt := 124) S.1 S.2.1 dX5_canTakeOff_120 (by decide) ?_
                  exact ee_rZ S hr hlk (zb_1) (by unfold f_X5_canTakeOff; first | rfl | (rw [if_neg c1_1, if_neg c6_5, if_neg c41_6, if_neg c46_9, if_neg c76_10, if_neg c81_11, if_neg c108_12, if_pos c116_13]) | (simp only [if_neg c1_1, if_neg c6_5, if_neg c41_6, if_neg c46_9, if_neg c76_10, if_neg c81_11, if_neg c108_12, if_pos c116_13])) dX5_canTakeOff_124
            · refine lv_aload_n S.1 S.2.1 dX5_canTakeOff_84 rfl (lv_at hl 0 rfl) ?_
              refine mr_get S K N 4 (by decide) k3_142 (v := .int (M 0 4)) rfl dX5_canTakeOff_85 ?_
              refine lv_iconst (v := 1) S.1 S.2.1 dX5_canTakeOff_88 (by decide) ?_
              refine lv_icmp_ne (tgt := 123) S.1 S.2.1 dX5_canTakeOff_89 (by decide) (fun c89_14 => ?_) (fun c89_14 => ?_)
              · refine lv_iconst (v := 0) S.1 S.2.1 dX5_canTakeOff_123 (by decide) ?_
                exact ee_rZ S hr hlk (zb_0) (by unfold f_X5_canTakeOff; first | rfl | (rw [if_neg c1_1, if_neg c6_5, if_neg c41_6, if_neg c46_9, if_neg c76_10, if_pos c81_11, if_neg c89_14]) | (simp only [if_neg c1_1, if_neg c6_5, if_neg c41_6, if_neg c46_9, if_neg c76_10, if_pos c81_11, if_neg c89_14])) dX5_canTakeOff_124
              · refine lv_aload_n S.1 S.2.1 dX5_canTakeOff_92 rfl (lv_at hl 0 rfl) ?_
                refine mr_get S K N 5 (by decide) k3_143 (v := .int (M 0 5)) rfl dX5_canTakeOff_93 ?_
                refine lv_iconst (v := 1) S.1 S.2.1 dX5_canTakeOff_96 (by decide) ?_
                refine lv_icmp_eq (tgt := 123) S.1 S.2.1 dX5_canTakeOff_97 (by decide) (fun c97_15 => ?_) (fun c97_15 => ?_)
                · refine lv_iconst (v := 0) S.1 S.2.1 dX5_canTakeOff_123 (by decide) ?_
                  exact ee_rZ S hr hlk (zb_0) (by unfold f_X5_canTakeOff; first | rfl | (rw [if_neg c1_1, if_neg c6_5, if_neg c41_6, if_neg c46_9, if_neg c76_10, if_pos c81_11, if_pos c89_14, if_pos c97_15]) | (simp only [if_neg c1_1, if_neg c6_5, if_neg c41_6, if_neg c46_9, if_neg c76_10, if_pos c81_11, if_pos c89_14, if_pos c97_15])) dX5_canTakeOff_124
                · refine lv_goto (tgt := 119) S.1 S.2.1 dX5_canTakeOff_100 (by decide) ?_
                  refine lv_iconst (v := 1) S.1 S.2.1 dX5_canTakeOff_119 (by decide) ?_
                  refine lv_goto (tgt := 124) S.1 S.2.1 dX5_canTakeOff_120 (by decide) ?_
                  exact ee_rZ S hr hlk (zb_1) (by unfold f_X5_canTakeOff; first | rfl | (rw [if_neg c1_1, if_neg c6_5, if_neg c41_6, if_neg c46_9, if_neg c76_10, if_pos c81_11, if_pos c89_14, if_neg c97_15]) | (simp only [if_neg c1_1, if_neg c6_5, if_neg c41_6, if_neg c46_9, if_neg c76_10, if_pos c81_11, if_pos c89_14, if_neg c97_15])) dX5_canTakeOff_124
        · refine lv_aload_n S.1 S.2.1 dX5_canTakeOff_49 rfl (lv_at hl 0 rfl) ?_
          refine mr_get S K N 3 (by decide) k3_141 (v := .int (M 0 3)) rfl dX5_canTakeOff_50 ?_
          refine lv_iconst (v := 1) S.1 S.2.1 dX5_canTakeOff_53 (by decide) ?_
          refine lv_icmp_eq (tgt := 69) S.1 S.2.1 dX5_canTakeOff_54 (by decide) (fun c54_16 => ?_) (fun c54_16 => ?_)
          · refine lv_iconst (v := 0) S.1 S.2.1 dX5_canTakeOff_69 (by decide) ?_
            exact ee_rZ S hr hlk (zb_0) (by unfold f_X5_canTakeOff; first | rfl | (rw [if_neg c1_1, if_neg c6_5, if_neg c41_6, if_pos c46_9, if_pos c54_16]) | (simp only [if_neg c1_1, if_neg c6_5, if_neg c41_6, if_pos c46_9, if_pos c54_16])) dX5_canTakeOff_70
          · refine lv_aload_n S.1 S.2.1 dX5_canTakeOff_57 rfl (lv_at hl 0 rfl) ?_
            refine mr_get S K N 5 (by decide) k3_143 (v := .int (M 0 5)) rfl dX5_canTakeOff_58 ?_
            refine lv_iconst (v := 1) S.1 S.2.1 dX5_canTakeOff_61 (by decide) ?_
            refine lv_icmp_ne (tgt := 69) S.1 S.2.1 dX5_canTakeOff_62 (by decide) (fun c62_17 => ?_) (fun c62_17 => ?_)
            · refine lv_iconst (v := 0) S.1 S.2.1 dX5_canTakeOff_69 (by decide) ?_
              exact ee_rZ S hr hlk (zb_0) (by unfold f_X5_canTakeOff; first | rfl | (rw [if_neg c1_1, if_neg c6_5, if_neg c41_6, if_pos c46_9, if_neg c54_16, if_neg c62_17]) | (simp only [if_neg c1_1, if_neg c6_5, if_neg c41_6, if_pos c46_9, if_neg c54_16, if_neg c62_17])) dX5_canTakeOff_70
            · refine lv_iconst (v := 1) S.1 S.2.1 dX5_canTakeOff_65 (by decide) ?_
              refine lv_goto (tgt := 70) S.1 S.2.1 dX5_canTakeOff_66 (by decide) ?_
              exact ee_rZ S hr hlk (zb_1) (by unfold f_X5_canTakeOff; first | rfl | (rw [if_neg c1_1, if_neg c6_5, if_neg c41_6, if_pos c46_9, if_neg c54_16, if_pos c62_17]) | (simp only [if_neg c1_1, if_neg c6_5, if_neg c41_6, if_pos c46_9, if_neg c54_16, if_pos c62_17])) dX5_canTakeOff_70
    · refine lv_aload_n S.1 S.2.1 dX5_canTakeOff_9 rfl (lv_at hl 0 rfl) ?_
      refine mr_get S K N 3 (by decide) k3_141 (v := .int (M 0 3)) rfl dX5_canTakeOff_10 ?_
      refine lv_iconst (v := 1) S.1 S.2.1 dX5_canTakeOff_13 (by decide) ?_
      refine lv_icmp_ne (tgt := 37) S.1 S.2.1 dX5_canTakeOff_14 (by decide) (fun c14_18 => ?_) (fun c14_18 => ?_)
      · refine lv_iconst (v := 0) S.1 S.2.1 dX5_canTakeOff_37 (by decide) ?_
        exact ee_rZ S hr hlk (zb_0) (by unfold f_X5_canTakeOff; first | rfl | (rw [if_neg c1_1, if_pos c6_5, if_neg c14_18]) | (simp only [if_neg c1_1, if_pos c6_5, if_neg c14_18])) dX5_canTakeOff_38
      · refine lv_aload_n S.1 S.2.1 dX5_canTakeOff_17 rfl (lv_at hl 0 rfl) ?_
        refine mr_get S K N 4 (by decide) k3_142 (v := .int (M 0 4)) rfl dX5_canTakeOff_18 ?_
        refine lv_iconst (v := 1) S.1 S.2.1 dX5_canTakeOff_21 (by decide) ?_
        refine lv_icmp_ne (tgt := 37) S.1 S.2.1 dX5_canTakeOff_22 (by decide) (fun c22_19 => ?_) (fun c22_19 => ?_)
        · refine lv_iconst (v := 0) S.1 S.2.1 dX5_canTakeOff_37 (by decide) ?_
          exact ee_rZ S hr hlk (zb_0) (by unfold f_X5_canTakeOff; first | rfl | (rw [if_neg c1_1, if_pos c6_5, if_pos c14_18, if_neg c22_19]) | (simp only [if_neg c1_1, if_pos c6_5, if_pos c14_18, if_neg c22_19])) dX5_canTakeOff_38
        · refine lv_aload_n S.1 S.2.1 dX5_canTakeOff_25 rfl (lv_at hl 0 rfl) ?_
          refine mr_get S K N 5 (by decide) k3_143 (v := .int (M 0 5)) rfl dX5_canTakeOff_26 ?_
          refine lv_iconst (v := 1) S.1 S.2.1 dX5_canTakeOff_29 (by decide) ?_
          refine lv_icmp_ne (tgt := 37) S.1 S.2.1 dX5_canTakeOff_30 (by decide) (fun c30_20 => ?_) (fun c30_20 => ?_)
          · refine lv_iconst (v := 0) S.1 S.2.1 dX5_canTakeOff_37 (by decide) ?_
            exact ee_rZ S hr hlk (zb_0) (by unfold f_X5_canTakeOff; first | rfl | (rw [if_neg c1_1, if_pos c6_5, if_pos c14_18, if_pos c22_19, if_neg c30_20]) | (simp only [if_neg c1_1, if_pos c6_5, if_pos c14_18, if_pos c22_19, if_neg c30_20])) dX5_canTakeOff_38
          · refine lv_iconst (v := 1) S.1 S.2.1 dX5_canTakeOff_33 (by decide) ?_
            refine lv_goto (tgt := 38) S.1 S.2.1 dX5_canTakeOff_34 (by decide) ?_
            exact ee_rZ S hr hlk (zb_1) (by unfold f_X5_canTakeOff; first | rfl | (rw [if_neg c1_1, if_pos c6_5, if_pos c14_18, if_pos c22_19, if_pos c30_20]) | (simp only [if_neg c1_1, if_pos c6_5, if_pos c14_18, if_pos c22_19, if_pos c30_20])) dX5_canTakeOff_38

def g_X5_begin (M : Nat → Nat → Int32) (p0 : Int32) : Nat → Nat → Int32 :=
  if (f_X5_isSkater M p0) = 0 then (up2 M 0 0 1)
  else if 0 < (M 6 p0.toNatClampNeg) then (up2 M 0 0 2)
  else if (M 0 2) = (-1) then (up2 (up2 (up2 (up2 (up2 (up2 M 0 0 0) 6 p0.toNatClampNeg 1) 0 2 p0) 0 3 0) 0 4 1) 0 5 0)
  else (up2 M 0 0 2)
set_option maxHeartbeats 4000000 in
set_option maxRecDepth 100000 in
theorem m_X5_begin {D : va_G} {cA : Nat → ClassId} {B : Nat} (l : Launch) {dom : Nat → Prop} {ad : Nat → Nat} {X : Nat → va_E} {H0 : Heap} (M : Nat → Nat → Int32) (p0 : Int32) (N : mw D cA B dom ad X M H0) (hsk : ∀ x, ¬ f_X5_isSkater M x = 0 → vp_in x 12) : MetW D cA B l yX5_begin cX5_begin 2 none 2 43 0 0 [.ref (ad 5), .int p0] H0 (fun o h => o = none ∧ mw D cA B dom ad X (g_X5_begin M p0) h) := by
  refine MetW.of (by decide) (Nat.le_of_ble_eq_true rfl) ?_
  intro p e s m args below meth c S hr hlk hin hh K ls hl
  subst hh
  have hS : va_S (fun q => B ≤ q) s.heap s.heap [] := va_S.rf
  have hl : lv_has ls 2 [(0, .ref (ad 5)), (1, .int p0)] := hl
  refine lv_aload_n S.1 S.2.1 dX5_begin_0 rfl (lv_at hl 0 rfl) ?_
  refine lv_aload_n S.1 S.2.1 dX5_begin_1 rfl (lv_at hl 0 rfl) ?_
  refine lv_iload_n S.1 S.2.1 dX5_begin_2 rfl (lv_at hl 1 rfl) ?_
  refine mc_rV S K N hS rfl (As := [.int p0]) (m_X5_isSkater l M p0 N) k3_220 k3_222 kS_17 k1_3 k3_223 (num := 1) (by decide +kernel) rfl ⟨Nat.le_of_ble_eq_true rfl, Nat.le_of_ble_eq_true rfl⟩ hl.1 rfl (Nat.le_of_ble_eq_true rfl) dX5_begin_3 ⟨Nat.le_of_ble_eq_true rfl, Nat.le_of_ble_eq_true rfl⟩ ?_
  refine lv_if_ne (tgt := 13) S.1 S.2.1 dX5_begin_6 (by decide) (fun c6_1 => ?_) (fun c6_1 => ?_)
  · refine lv_aload_n S.1 S.2.1 dX5_begin_13 rfl (lv_at hl 0 rfl) ?_
    refine mr_get S K N 6 (by decide) k3_144 (v := .ref (ad 16)) rfl dX5_begin_14 ?_
    refine lv_iload_n S.1 S.2.1 dX5_begin_17 rfl (lv_at hl 1 rfl) ?_
    refine mr_iald S K N 6 (by decide) (by decide) rfl (v := (M 6 p0.toNatClampNeg)) (hsk _ c6_1) (rfl) dX5_begin_18 ?_
    refine lv_if_gt (tgt := 30) S.1 S.2.1 dX5_begin_19 (by decide) (fun c19_2 => ?_) (fun c19_2 => ?_)
    · refine lv_iconst (v := 2) S.1 S.2.1 dX5_begin_30 (by decide) ?_
      refine lv_goto (tgt := 35) S.1 S.2.1 dX5_begin_31 (by decide) ?_
      refine mr_put S K N hS 0 (by decide) (by unfold mscal; omega) k3_138 rfl rfl dX5_begin_35 (fun H locs N hS => ?_)
      refine lv_aload_n S.1 S.2.1 dX5_begin_38 rfl (lv_at hl 0 rfl) ?_
      refine mr_get S K N 0 (by decide) k3_138 (v := .int 2) rfl dX5_begin_39 ?_
      refine lv_if_ne (tgt := 64) S.1 S.2.1 dX5_begin_42 (by decide) (fun _ => ?_) (fun c9 => absurd c9 (by decide))
      exact ne_wV S hS hr hlk ⟨rfl, (by unfold g_X5_begin; first | exact N | (rw [if_neg c6_1, if_pos c19_2]; exact N) | (simp only [if_neg c6_1, if_pos c19_2]; exact N))⟩ dX5_begin_64
    · refine lv_aload_n S.1 S.2.1 dX5_begin_22 rfl (lv_at hl 0 rfl) ?_
      refine mr_get S K N 2 (by decide) k3_140 (v := .int (M 0 2)) rfl dX5_begin_23 ?_
      refine lv_iconst (v := (-1)) S.1 S.2.1 dX5_begin_26 (by decide) ?_
      refine lv_icmp_eq (tgt := 34) S.1 S.2.1 dX5_begin_27 (by decide) (fun c27_3 => ?_) (fun c27_3 => ?_)
      · refine lv_iconst (v := 0) S.1 S.2.1 dX5_begin_34 (by decide) ?_
        refine mr_put S K N hS 0 (by decide) (by unfold mscal; omega) k3_138 rfl rfl dX5_begin_35 (fun H locs N hS => ?_)
        refine lv_aload_n S.1 S.2.1 dX5_begin_38 rfl (lv_at hl 0 rfl) ?_
        refine mr_get S K N 0 (by decide) k3_138 (v := .int 0) rfl dX5_begin_39 ?_
        refine lv_if_ne (tgt := 64) S.1 S.2.1 dX5_begin_42 (by decide) (fun c9 => absurd (by decide) c9) (fun _ => ?_)
        refine lv_aload_n S.1 S.2.1 dX5_begin_45 rfl (lv_at hl 0 rfl) ?_
        refine mr_get S K N 6 (by decide) k3_144 (v := .ref (ad 16)) rfl dX5_begin_46 ?_
        refine lv_iload_n S.1 S.2.1 dX5_begin_49 rfl (lv_at hl 1 rfl) ?_
        refine lv_iconst (v := 1) S.1 S.2.1 dX5_begin_50 (by decide) ?_
        refine mr_iast S K N hS 6 (by decide) (by decide) rfl (hsk _ c6_1) p0.toNatClampNeg (rfl) dX5_begin_51 (fun H locs N hS => ?_)
        refine lv_aload_n S.1 S.2.1 dX5_begin_52 rfl (lv_at hl 0 rfl) ?_
        refine lv_iload_n S.1 S.2.1 dX5_begin_53 rfl (lv_at hl 1 rfl) ?_
        refine mr_put S K N hS 2 (by decide) (by unfold mscal; omega) k3_140 rfl rfl dX5_begin_54 (fun H locs N hS => ?_)
        refine lv_aload_n S.1 S.2.1 dX5_begin_57 rfl (lv_at hl 0 rfl) ?_
        refine lv_iconst (v := 0) S.1 S.2.1 dX5_begin_58 (by decide) ?_
        refine lv_iconst (v := 1) S.1 S.2.1 dX5_begin_59 (by decide) ?_
        refine lv_iconst (v := 0) S.1 S.2.1 dX5_begin_60 (by decide) ?_
        refine mc_wV S K N hS rfl (As := [.int 0, .int 1, .int 0]) (m_X5_stands l (up2 (up2 (up2 M 0 0 0) 6 p0.toNatClampNeg 1) 0 2 p0) 0 1 0 N) k3_227 k3_229 kS_18 k1_3 k3_230 (num := 3) (by decide +kernel) rfl ⟨Nat.le_of_ble_eq_true rfl, Nat.le_of_ble_eq_true rfl⟩ hl.1 rfl (Nat.le_of_ble_eq_true rfl) dX5_begin_61 ⟨Nat.le_of_ble_eq_true rfl, Nat.le_of_ble_eq_true rfl⟩ (fun v9 H locs hP hS => ?_)
        obtain ⟨rfl, N⟩ := hP
        have N : mw D cA B dom ad X (up2 (up2 (up2 (up2 (up2 (up2 M 0 0 0) 6 p0.toNatClampNeg 1) 0 2 p0) 0 3 0) 0 4 1) 0 5 0) H := N
        refine W.eq (g2 := F0 m 64 ls []) rfl ?_
        exact ne_wV S hS hr hlk ⟨rfl, (by unfold g_X5_begin; first | exact N | (rw [if_neg c6_1, if_neg c19_2, if_pos c27_3]; exact N) | (simp only [if_neg c6_1, if_neg c19_2, if_pos c27_3]; exact N))⟩ dX5_begin_64
      · refine lv_iconst (v := 2) S.1 S.2.1 dX5_begin_30 (by decide) ?_
        refine lv_goto (tgt := 35) S.1 S.2.1 dX5_begin_31 (by decide) ?_
        refine mr_put S K N hS 0 (by decide) (by unfold mscal; omega) k3_138 rfl rfl dX5_begin_35 (fun H locs N hS => ?_)
        refine lv_aload_n S.1 S.2.1 dX5_begin_38 rfl (lv_at hl 0 rfl) ?_
        refine mr_get S K N 0 (by decide) k3_138 (v := .int 2) rfl dX5_begin_39 ?_
        refine lv_if_ne (tgt := 64) S.1 S.2.1 dX5_begin_42 (by decide) (fun _ => ?_) (fun c9 => absurd c9 (by decide))
        exact ne_wV S hS hr hlk ⟨rfl, (by unfold g_X5_begin; first | exact N | (rw [if_neg c6_1, if_neg c19_2, if_neg c27_3]; exact N) | (simp only [if_neg c6_1, if_neg c19_2, if_neg c27_3]; exact N))⟩ dX5_begin_64
  · refine lv_iconst (v := 1) S.1 S.2.1 dX5_begin_9 (by decide) ?_
    refine lv_goto (tgt := 35) S.1 S.2.1 dX5_begin_10 (by decide) ?_
    refine mr_put S K N hS 0 (by decide) (by unfold mscal; omega) k3_138 rfl rfl dX5_begin_35 (fun H locs N hS => ?_)
    refine lv_aload_n S.1 S.2.1 dX5_begin_38 rfl (lv_at hl 0 rfl) ?_
    refine mr_get S K N 0 (by decide) k3_138 (v := .int 1) rfl dX5_begin_39 ?_
    refine lv_if_ne (tgt := 64) S.1 S.2.1 dX5_begin_42 (by decide) (fun _ => ?_) (fun c9 => absurd c9 (by decide))
    exact ne_wV S hS hr hlk ⟨rfl, (by unfold g_X5_begin; first | exact N | (rw [if_pos c6_1]; exact N) | (simp only [if_pos c6_1]; exact N))⟩ dX5_begin_64

def f_X5_isElement (M : Nat → Nat → Int32) (p0 : Int32) (p1 : Int32) : Int32 :=
  if (f_X5_isSkater M p0) = 0 then 0
  else if (f_X5_in p1 0 ((M 8 p0.toNatClampNeg) - 1)) = 0 then 0
  else 1
set_option maxHeartbeats 4000000 in
set_option maxRecDepth 100000 in
theorem m_X5_isElement {D : va_G} {cA : Nat → ClassId} {B : Nat} (l : Launch) {dom : Nat → Prop} {ad : Nat → Nat} {X : Nat → va_E} {H0 : Heap} (M : Nat → Nat → Int32) (p0 : Int32) (p1 : Int32) (N : mw D cA B dom ad X M H0) (hsk : ∀ x, ¬ f_X5_isSkater M x = 0 → vp_in x 12) : MetR D cA B l yX5_isElement cX5_isElement 3 (some .boolean) 2 43 [.ref (ad 5), .int p0, .int p1] H0 (some (.int (f_X5_isElement M p0 p1))) := by
  refine MetR.of (by decide) (Nat.le_of_ble_eq_true rfl) ?_
  intro p e s m args below meth c S hr hlk hh K ls hl
  subst hh
  have hS : va_S (fun q => B ≤ q) s.heap s.heap [] := va_S.rf
  have hl : lv_has ls 3 [(0, .ref (ad 5)), (1, .int p0), (2, .int p1)] := hl
  refine lv_aload_n S.1 S.2.1 dX5_isElement_0 rfl (lv_at hl 0 rfl) ?_
  refine lv_iload_n S.1 S.2.1 dX5_isElement_1 rfl (lv_at hl 1 rfl) ?_
  refine mc_rV S K N hS rfl (As := [.int p0]) (m_X5_isSkater l M p0 N) k3_220 k3_222 kS_17 k1_3 k3_223 (num := 1) (by decide +kernel) rfl ⟨Nat.le_of_ble_eq_true rfl, Nat.le_of_ble_eq_true rfl⟩ hl.1 rfl (Nat.le_of_ble_eq_true rfl) dX5_isElement_2 ⟨Nat.le_of_ble_eq_true rfl, Nat.le_of_ble_eq_true rfl⟩ ?_
  refine lv_if_eq (tgt := 28) S.1 S.2.1 dX5_isElement_5 (by decide) (fun c5_1 => ?_) (fun c5_1 => ?_)
  · refine lv_iconst (v := 0) S.1 S.2.1 dX5_isElement_28 (by decide) ?_
    exact ee_rZ S hr hlk (zb_0) (by unfold f_X5_isElement; first | rfl | (rw [if_pos c5_1]) | (simp only [if_pos c5_1])) dX5_isElement_29
  · refine lv_iload_n S.1 S.2.1 dX5_isElement_8 rfl (lv_at hl 2 rfl) ?_
    refine lv_iconst (v := 0) S.1 S.2.1 dX5_isElement_9 (by decide) ?_
    refine lv_aload_n S.1 S.2.1 dX5_isElement_10 rfl (lv_at hl 0 rfl) ?_
    refine mr_get S K N 8 (by decide) k3_146 (v := .ref (ad 18)) rfl dX5_isElement_11 ?_
    refine lv_iload_n S.1 S.2.1 dX5_isElement_14 rfl (lv_at hl 1 rfl) ?_
    refine mr_iald S K N 8 (by decide) (by decide) rfl (v := (M 8 p0.toNatClampNeg)) (hsk _ c5_1) (rfl) dX5_isElement_15 ?_
    refine lv_iconst (v := 1) S.1 S.2.1 dX5_isElement_16 (by decide) ?_
    refine lv_isub S.1 S.2.1 dX5_isElement_17 ?_
    refine nc_rS S K hS (As := [.int p1, .int 0, .int ((M 8 p0.toNatClampNeg) - 1)]) (m_X5_in l p1 0 ((M 8 p0.toNatClampNeg) - 1)) k3_224 k3_225 k1_3 k3_226 (num := 3) (by decide +kernel) rfl ⟨Nat.le_of_ble_eq_true rfl, Nat.le_of_ble_eq_true rfl⟩ hl.1 rfl (Nat.le_of_ble_eq_true rfl) dX5_isElement_18 ⟨Nat.le_of_ble_eq_true rfl, Nat.le_of_ble_eq_true rfl⟩ ?_
    refine lv_if_eq (tgt := 28) S.1 S.2.1 dX5_isElement_21 (by decide) (fun c21_2 => ?_) (fun c21_2 => ?_)
    · refine lv_iconst (v := 0) S.1 S.2.1 dX5_isElement_28 (by decide) ?_
      exact ee_rZ S hr hlk (zb_0) (by unfold f_X5_isElement; first | rfl | (rw [if_neg c5_1, if_pos c21_2]) | (simp only [if_neg c5_1, if_pos c21_2])) dX5_isElement_29
    · refine lv_iconst (v := 1) S.1 S.2.1 dX5_isElement_24 (by decide) ?_
      refine lv_goto (tgt := 29) S.1 S.2.1 dX5_isElement_25 (by decide) ?_
      exact ee_rZ S hr hlk (zb_1) (by unfold f_X5_isElement; first | rfl | (rw [if_neg c5_1, if_neg c21_2]) | (simp only [if_neg c5_1, if_neg c21_2])) dX5_isElement_29

def f_X5_turn (M : Nat → Nat → Int32) (p0 : Int32) (g : Nat) : Int32 :=
  if (f_X5_in p0 0 5) = 0 then 0
  else if (f_X5_isOpen M) = 0 then 0
  else (((4 * ((if ((if p0 = 2 then 1 else ((if p0 = 3 then 1 else ((if p0 = 5 then 1 else 0) : Int32)) : Int32)) : Int32) = 0 then (M 0 3) else (1 - (M 0 3))) : Int32)) + (2 * ((if ((if p0 = 0 then 1 else ((if p0 = 3 then 1 else ((if p0 = 4 then 1 else 0) : Int32)) : Int32)) : Int32) = 0 then (M 0 4) else (1 - (M 0 4))) : Int32))) + ((if ((if 4 ≤ p0 then 0 else 1) : Int32) = 0 then (M 0 5) else (1 - (M 0 5))) : Int32))
def g_X5_turn (M : Nat → Nat → Int32) (p0 : Int32) (g : Nat) : Nat → Nat → Int32 :=
  if (f_X5_in p0 0 5) = 0 then (up2 M 0 0 1)
  else if (f_X5_isOpen M) = 0 then (up2 M 0 0 2)
  else (up2 (up2 (up2 (up2 (up2 M 0 0 0) 0 3 ((if ((if p0 = 2 then 1 else ((if p0 = 3 then 1 else ((if p0 = 5 then 1 else 0) : Int32)) : Int32)) : Int32) = 0 then (M 0 3) else (1 - (M 0 3))) : Int32)) 0 4 ((if ((if p0 = 0 then 1 else ((if p0 = 3 then 1 else ((if p0 = 4 then 1 else 0) : Int32)) : Int32)) : Int32) = 0 then (M 0 4) else (1 - (M 0 4))) : Int32)) 0 5 ((if ((if 4 ≤ p0 then 0 else 1) : Int32) = 0 then (M 0 5) else (1 - (M 0 5))) : Int32)) 7 g ((M 7 g) + 2))
set_option maxHeartbeats 4000000 in
set_option maxRecDepth 100000 in
theorem m_X5_turn {D : va_G} {cA : Nat → ClassId} {B : Nat} (l : Launch) {dom : Nat → Prop} {ad : Nat → Nat} {X : Nat → va_E} {H0 : Heap} (M : Nat → Nat → Int32) (p0 : Int32) (g : Nat) (N : mw D cA B dom ad X M H0) (hg : ¬ M 0 2 = (-1) → vp_in (M 0 2) 12) (hop : ¬ f_X5_isOpen M = 0 → M 0 2 = nI g ∧ g < 12) : MetW D cA B l yX5_turn cX5_turn 5 (some .int) 1 23 0 0 [.ref (ad 5), .int p0] H0 (fun o h => o = some (.int (f_X5_turn M p0 g)) ∧ mw D cA B dom ad X (g_X5_turn M p0 g) h) := by
  refine MetW.of (by decide) (Nat.le_of_ble_eq_true rfl) ?_
  intro p e s m args below meth c S hr hlk hin hh K ls hl
  subst hh
  have hS : va_S (fun q => B ≤ q) s.heap s.heap [] := va_S.rf
  have hl : lv_has ls 5 [(0, .ref (ad 5)), (1, .int p0)] := hl
  refine lv_aload_n S.1 S.2.1 dX5_turn_0 rfl (lv_at hl 0 rfl) ?_
  refine lv_iload_n S.1 S.2.1 dX5_turn_1 rfl (lv_at hl 1 rfl) ?_
  refine lv_iconst (v := 0) S.1 S.2.1 dX5_turn_2 (by decide) ?_
  refine lv_iconst (v := 5) S.1 S.2.1 dX5_turn_3 (by decide) ?_
  refine nc_rS S K hS (As := [.int p0, .int 0, .int 5]) (m_X5_in l p0 0 5) k3_224 k3_225 k1_3 k3_226 (num := 3) (by decide +kernel) rfl ⟨Nat.le_of_ble_eq_true rfl, Nat.le_of_ble_eq_true rfl⟩ hl.1 rfl (Nat.le_of_ble_eq_true rfl) dX5_turn_4 ⟨Nat.le_of_ble_eq_true rfl, Nat.le_of_ble_eq_true rfl⟩ ?_
  refine lv_if_ne (tgt := 14) S.1 S.2.1 dX5_turn_7 (by decide) (fun c7_1 => ?_) (fun c7_1 => ?_)
  · refine lv_aload_n S.1 S.2.1 dX5_turn_14 rfl (lv_at hl 0 rfl) ?_
    refine mc_rV S K N hS rfl (As := []) (m_X5_isOpen l M N hg) k3_235 k3_237 kS_19 k1_3 k3_238 (num := 0) (by decide +kernel) rfl ⟨Nat.le_of_ble_eq_true rfl, Nat.le_of_ble_eq_true rfl⟩ hl.1 rfl (Nat.le_of_ble_eq_true rfl) dX5_turn_15 ⟨Nat.le_of_ble_eq_true rfl, Nat.le_of_ble_eq_true rfl⟩ ?_
    refine lv_if_eq (tgt := 25) S.1 S.2.1 dX5_turn_18 (by decide) (fun c18_2 => ?_) (fun c18_2 => ?_)
    · refine lv_iconst (v := 2) S.1 S.2.1 dX5_turn_25 (by decide) ?_
      refine mr_put S K N hS 0 (by decide) (by unfold mscal; omega) k3_138 rfl rfl dX5_turn_26 (fun H locs N hS => ?_)
      refine lv_aload_n S.1 S.2.1 dX5_turn_29 rfl (lv_at hl 0 rfl) ?_
      refine mr_get S K N 0 (by decide) k3_138 (v := .int 2) rfl dX5_turn_30 ?_
      refine lv_if_le (tgt := 38) S.1 S.2.1 dX5_turn_33 (by decide) (fun c9 => absurd c9 (by decide)) (fun _ => ?_)
      refine lv_iconst (v := 0) S.1 S.2.1 dX5_turn_36 (by decide) ?_
      exact ne_wI S hS hr hlk ⟨congrArg (fun z => some (Value.int z)) (Eq.symm (by unfold f_X5_turn; first | rfl | (rw [if_neg c7_1, if_pos c18_2]) | (simp only [if_neg c7_1, if_pos c18_2]))), (by unfold g_X5_turn; first | exact N | (rw [if_neg c7_1, if_pos c18_2]; exact N) | (simp only [if_neg c7_1, if_pos c18_2]; exact N))⟩ dX5_turn_37
    · obtain ⟨hg1, hg2⟩ := hop c18_2
      refine lv_iconst (v := 0) S.1 S.2.1 dX5_turn_21 (by decide) ?_
      refine lv_goto (tgt := 26) S.1 S.2.1 dX5_turn_22 (by decide) ?_
      refine mr_put S K N hS 0 (by decide) (by unfold mscal; omega) k3_138 rfl rfl dX5_turn_26 (fun H locs N hS => ?_)
      refine lv_aload_n S.1 S.2.1 dX5_turn_29 rfl (lv_at hl 0 rfl) ?_
      refine mr_get S K N 0 (by decide) k3_138 (v := .int 0) rfl dX5_turn_30 ?_
      refine lv_if_le (tgt := 38) S.1 S.2.1 dX5_turn_33 (by decide) (fun _ => ?_) (fun c9 => absurd (by decide) c9)
      refine lv_iload_n S.1 S.2.1 dX5_turn_38 rfl (lv_at hl 1 rfl) ?_
      refine lv_iconst (v := 2) S.1 S.2.1 dX5_turn_39 (by decide) ?_
      refine nj (J := 58) (V := ((if p0 = 2 then 1 else ((if p0 = 3 then 1 else ((if p0 = 5 then 1 else 0) : Int32)) : Int32)) : Int32)) (L := fun v40_3 => [(0, .ref (ad 5)), (1, .int p0)]) (St := fun v40_3 => [.int v40_3]) (n := 5) (fun v40_3 ls h40_5 hl => ?_) (fun j40_4 => ?_)
      · try dsimp only at hl ⊢
        subst h40_5
        refine lv_istore_n (lv' := [(2, .int ((if p0 = 2 then 1 else ((if p0 = 3 then 1 else ((if p0 = 5 then 1 else 0) : Int32)) : Int32)) : Int32)), (0, .ref (ad 5)), (1, .int p0)]) S.1 S.2.1 dX5_turn_58 rfl hl (by decide) rfl (fun ls hl => ?_)
        refine lv_iload_n S.1 S.2.1 dX5_turn_59 rfl (lv_at hl 2 rfl) ?_
        refine nj (J := 78) (V := ((if p0 = 0 then 1 else ((if p0 = 3 then 1 else ((if p0 = 4 then 1 else 0) : Int32)) : Int32)) : Int32)) (L := fun v60_6 => [(2, .int ((if p0 = 2 then 1 else ((if p0 = 3 then 1 else ((if p0 = 5 then 1 else 0) : Int32)) : Int32)) : Int32)), (0, .ref (ad 5)), (1, .int p0)]) (St := fun v60_6 => [.int v60_6]) (n := 5) (fun v60_6 ls h60_8 hl => ?_) (fun j60_7 => ?_)
        · try dsimp only at hl ⊢
          subst h60_8
          refine lv_istore_n (lv' := [(3, .int ((if p0 = 0 then 1 else ((if p0 = 3 then 1 else ((if p0 = 4 then 1 else 0) : Int32)) : Int32)) : Int32)), (2, .int ((if p0 = 2 then 1 else ((if p0 = 3 then 1 else ((if p0 = 5 then 1 else 0) : Int32)) : Int32)) : Int32)), (0, .ref (ad 5)), (1, .int p0)]) S.1 S.2.1 dX5_turn_78 rfl hl (by decide) rfl (fun ls hl => ?_)
          refine lv_iload_n S.1 S.2.1 dX5_turn_79 rfl (lv_at hl 3 rfl) ?_
          refine lv_iconst (v := 4) S.1 S.2.1 dX5_turn_80 (by decide) ?_
          refine nj (J := 89) (V := ((if 4 ≤ p0 then 0 else 1) : Int32)) (L := fun v81_9 => [(3, .int ((if p0 = 0 then 1 else ((if p0 = 3 then 1 else ((if p0 = 4 then 1 else 0) : Int32)) : Int32)) : Int32)), (2, .int ((if p0 = 2 then 1 else ((if p0 = 3 then 1 else ((if p0 = 5 then 1 else 0) : Int32)) : Int32)) : Int32)), (0, .ref (ad 5)), (1, .int p0)]) (St := fun v81_9 => [.int v81_9]) (n := 5) (fun v81_9 ls h81_11 hl => ?_) (fun j81_10 => ?_)
          · try dsimp only at hl ⊢
            subst h81_11
            refine lv_istore (lv' := [(4, .int ((if 4 ≤ p0 then 0 else 1) : Int32)), (3, .int ((if p0 = 0 then 1 else ((if p0 = 3 then 1 else ((if p0 = 4 then 1 else 0) : Int32)) : Int32)) : Int32)), (2, .int ((if p0 = 2 then 1 else ((if p0 = 3 then 1 else ((if p0 = 5 then 1 else 0) : Int32)) : Int32)) : Int32)), (0, .ref (ad 5)), (1, .int p0)]) S.1 S.2.1 dX5_turn_89 hl (by decide) rfl (fun ls hl => ?_)
            refine lv_aload_n S.1 S.2.1 dX5_turn_91 rfl (lv_at hl 3 rfl) ?_
            refine lv_iload_n S.1 S.2.1 dX5_turn_92 rfl (lv_at hl 2 rfl) ?_
            refine nj (J := 109) (V := ((if ((if p0 = 2 then 1 else ((if p0 = 3 then 1 else ((if p0 = 5 then 1 else 0) : Int32)) : Int32)) : Int32) = 0 then (M 0 3) else (1 - (M 0 3))) : Int32)) (L := fun v93_12 => [(4, .int ((if 4 ≤ p0 then 0 else 1) : Int32)), (3, .int ((if p0 = 0 then 1 else ((if p0 = 3 then 1 else ((if p0 = 4 then 1 else 0) : Int32)) : Int32)) : Int32)), (2, .int ((if p0 = 2 then 1 else ((if p0 = 3 then 1 else ((if p0 = 5 then 1 else 0) : Int32)) : Int32)) : Int32)), (0, .ref (ad 5)), (1, .int p0)]) (St := fun v93_12 => [.int v93_12, .ref (ad 5)]) (n := 5) (fun v93_12 ls h93_14 hl => ?_) (fun j93_13 => ?_)
            · try dsimp only at hl ⊢
              subst h93_14
              refine lv_iload_n S.1 S.2.1 dX5_turn_109 rfl (lv_at hl 1 rfl) ?_
              refine nj (J := 126) (V := ((if ((if p0 = 0 then 1 else ((if p0 = 3 then 1 else ((if p0 = 4 then 1 else 0) : Int32)) : Int32)) : Int32) = 0 then (M 0 4) else (1 - (M 0 4))) : Int32)) (L := fun v110_15 => [(4, .int ((if 4 ≤ p0 then 0 else 1) : Int32)), (3, .int ((if p0 = 0 then 1 else ((if p0 = 3 then 1 else ((if p0 = 4 then 1 else 0) : Int32)) : Int32)) : Int32)), (2, .int ((if p0 = 2 then 1 else ((if p0 = 3 then 1 else ((if p0 = 5 then 1 else 0) : Int32)) : Int32)) : Int32)), (0, .ref (ad 5)), (1, .int p0)]) (St := fun v110_15 => [.int v110_15, .int ((if ((if p0 = 2 then 1 else ((if p0 = 3 then 1 else ((if p0 = 5 then 1 else 0) : Int32)) : Int32)) : Int32) = 0 then (M 0 3) else (1 - (M 0 3))) : Int32), .ref (ad 5)]) (n := 5) (fun v110_15 ls h110_17 hl => ?_) (fun j110_16 => ?_)
              · try dsimp only at hl ⊢
                subst h110_17
                refine lv_iload S.1 S.2.1 dX5_turn_126 (lv_at hl 0 rfl) ?_
                refine nj (J := 144) (V := ((if ((if 4 ≤ p0 then 0 else 1) : Int32) = 0 then (M 0 5) else (1 - (M 0 5))) : Int32)) (L := fun v128_18 => [(4, .int ((if 4 ≤ p0 then 0 else 1) : Int32)), (3, .int ((if p0 = 0 then 1 else ((if p0 = 3 then 1 else ((if p0 = 4 then 1 else 0) : Int32)) : Int32)) : Int32)), (2, .int ((if p0 = 2 then 1 else ((if p0 = 3 then 1 else ((if p0 = 5 then 1 else 0) : Int32)) : Int32)) : Int32)), (0, .ref (ad 5)), (1, .int p0)]) (St := fun v128_18 => [.int v128_18, .int ((if ((if p0 = 0 then 1 else ((if p0 = 3 then 1 else ((if p0 = 4 then 1 else 0) : Int32)) : Int32)) : Int32) = 0 then (M 0 4) else (1 - (M 0 4))) : Int32), .int ((if ((if p0 = 2 then 1 else ((if p0 = 3 then 1 else ((if p0 = 5 then 1 else 0) : Int32)) : Int32)) : Int32) = 0 then (M 0 3) else (1 - (M 0 3))) : Int32), .ref (ad 5)]) (n := 5) (fun v128_18 ls h128_20 hl => ?_) (fun j128_19 => ?_)
                · try dsimp only at hl ⊢
                  subst h128_20
                  refine mc_wV S K N hS rfl (As := [.int ((if ((if p0 = 2 then 1 else ((if p0 = 3 then 1 else ((if p0 = 5 then 1 else 0) : Int32)) : Int32)) : Int32) = 0 then (M 0 3) else (1 - (M 0 3))) : Int32), .int ((if ((if p0 = 0 then 1 else ((if p0 = 3 then 1 else ((if p0 = 4 then 1 else 0) : Int32)) : Int32)) : Int32) = 0 then (M 0 4) else (1 - (M 0 4))) : Int32), .int ((if ((if 4 ≤ p0 then 0 else 1) : Int32) = 0 then (M 0 5) else (1 - (M 0 5))) : Int32)]) (m_X5_stands l (up2 M 0 0 0) ((if ((if p0 = 2 then 1 else ((if p0 = 3 then 1 else ((if p0 = 5 then 1 else 0) : Int32)) : Int32)) : Int32) = 0 then (M 0 3) else (1 - (M 0 3))) : Int32) ((if ((if p0 = 0 then 1 else ((if p0 = 3 then 1 else ((if p0 = 4 then 1 else 0) : Int32)) : Int32)) : Int32) = 0 then (M 0 4) else (1 - (M 0 4))) : Int32) ((if ((if 4 ≤ p0 then 0 else 1) : Int32) = 0 then (M 0 5) else (1 - (M 0 5))) : Int32) N) k3_227 k3_229 kS_18 k1_3 k3_230 (num := 3) (by decide +kernel) rfl ⟨Nat.le_of_ble_eq_true rfl, Nat.le_of_ble_eq_true rfl⟩ hl.1 rfl (Nat.le_of_ble_eq_true rfl) dX5_turn_144 ⟨Nat.le_of_ble_eq_true rfl, Nat.le_of_ble_eq_true rfl⟩ (fun v9 H locs hP hS => ?_)
                  obtain ⟨rfl, N⟩ := hP
                  have N : mw D cA B dom ad X (up2 (up2 (up2 (up2 M 0 0 0) 0 3 ((if ((if p0 = 2 then 1 else ((if p0 = 3 then 1 else ((if p0 = 5 then 1 else 0) : Int32)) : Int32)) : Int32) = 0 then (M 0 3) else (1 - (M 0 3))) : Int32)) 0 4 ((if ((if p0 = 0 then 1 else ((if p0 = 3 then 1 else ((if p0 = 4 then 1 else 0) : Int32)) : Int32)) : Int32) = 0 then (M 0 4) else (1 - (M 0 4))) : Int32)) 0 5 ((if ((if 4 ≤ p0 then 0 else 1) : Int32) = 0 then (M 0 5) else (1 - (M 0 5))) : Int32)) H := N
                  refine W.eq (g2 := F0 m 147 ls []) rfl ?_
                  refine lv_aload_n S.1 S.2.1 dX5_turn_147 rfl (lv_at hl 3 rfl) ?_
                  refine mr_get S K N 7 (by decide) k3_145 (v := .ref (ad 17)) rfl dX5_turn_148 ?_
                  refine lv_aload_n S.1 S.2.1 dX5_turn_151 rfl (lv_at hl 3 rfl) ?_
                  refine mr_get S K N 2 (by decide) k3_140 (v := .int (M 0 2)) rfl dX5_turn_152 ?_
                  refine nt_i (y := nI g) (hg1) ?_
                  refine lv_dup2_11 S.1 S.2.1 dX5_turn_155 rfl rfl ?_
                  refine mr_iald S K N 7 (by decide) (by decide) rfl (v := (M 7 g)) (vp_in_nI (show g < mlen 7 by show _ < 12; omega) (by decide)) ((congrArg ((up2 (up2 (up2 (up2 M 0 0 0) 0 3 ((if ((if p0 = 2 then 1 else ((if p0 = 3 then 1 else ((if p0 = 5 then 1 else 0) : Int32)) : Int32)) : Int32) = 0 then (M 0 3) else (1 - (M 0 3))) : Int32)) 0 4 ((if ((if p0 = 0 then 1 else ((if p0 = 3 then 1 else ((if p0 = 4 then 1 else 0) : Int32)) : Int32)) : Int32) = 0 then (M 0 4) else (1 - (M 0 4))) : Int32)) 0 5 ((if ((if 4 ≤ p0 then 0 else 1) : Int32) = 0 then (M 0 5) else (1 - (M 0 5))) : Int32)) 7) (nI_clamp (show g < 2 ^ 31 by omega))).trans rfl) dX5_turn_156 ?_
                  refine lv_iconst (v := 2) S.1 S.2.1 dX5_turn_157 (by decide) ?_
                  refine lv_iadd S.1 S.2.1 dX5_turn_158 ?_
                  refine mr_iast S K N hS 7 (by decide) (by decide) rfl (vp_in_nI (show g < mlen 7 by show _ < 12; omega) (by decide)) g (nI_clamp (show g < 2 ^ 31 by omega)) dX5_turn_159 (fun H locs N hS => ?_)
                  refine lv_iconst (v := 4) S.1 S.2.1 dX5_turn_160 (by decide) ?_
                  refine lv_aload_n S.1 S.2.1 dX5_turn_161 rfl (lv_at hl 3 rfl) ?_
                  refine mr_get S K N 3 (by decide) k3_141 (v := .int ((if ((if p0 = 2 then 1 else ((if p0 = 3 then 1 else ((if p0 = 5 then 1 else 0) : Int32)) : Int32)) : Int32) = 0 then (M 0 3) else (1 - (M 0 3))) : Int32)) rfl dX5_turn_162 ?_
                  refine lv_imul S.1 S.2.1 dX5_turn_165 ?_
                  refine lv_iconst (v := 2) S.1 S.2.1 dX5_turn_166 (by decide) ?_
                  refine lv_aload_n S.1 S.2.1 dX5_turn_167 rfl (lv_at hl 3 rfl) ?_
                  refine mr_get S K N 4 (by decide) k3_142 (v := .int ((if ((if p0 = 0 then 1 else ((if p0 = 3 then 1 else ((if p0 = 4 then 1 else 0) : Int32)) : Int32)) : Int32) = 0 then (M 0 4) else (1 - (M 0 4))) : Int32)) rfl dX5_turn_168 ?_
                  refine lv_imul S.1 S.2.1 dX5_turn_171 ?_
                  refine lv_iadd S.1 S.2.1 dX5_turn_172 ?_
                  refine lv_aload_n S.1 S.2.1 dX5_turn_173 rfl (lv_at hl 3 rfl) ?_
                  refine mr_get S K N 5 (by decide) k3_143 (v := .int ((if ((if 4 ≤ p0 then 0 else 1) : Int32) = 0 then (M 0 5) else (1 - (M 0 5))) : Int32)) rfl dX5_turn_174 ?_
                  refine lv_iadd S.1 S.2.1 dX5_turn_177 ?_
                  exact ne_wI S hS hr hlk ⟨congrArg (fun z => some (Value.int z)) (Eq.symm (by unfold f_X5_turn; first | rfl | (rw [if_neg c7_1, if_neg c18_2]) | (simp only [if_neg c7_1, if_neg c18_2]))), (by unfold g_X5_turn; first | exact N | (rw [if_neg c7_1, if_neg c18_2]; exact N) | (simp only [if_neg c7_1, if_neg c18_2]; exact N))⟩ dX5_turn_178
                · refine lv_if_eq (tgt := 140) S.1 S.2.1 dX5_turn_128 (by decide) (fun c128_21 => ?_) (fun c128_21 => ?_)
                  · refine lv_aload_n S.1 S.2.1 dX5_turn_140 rfl (lv_at hl 3 rfl) ?_
                    refine mr_get S K N 5 (by decide) k3_143 (v := .int (M 0 5)) rfl dX5_turn_141 ?_
                    exact j128_19 _ _ (by first | rfl | (rw [if_pos c128_21]) | (simp only [if_pos c128_21])) (lv_sub hl [0, 1, 2, 3, 4] rfl)
                  · refine lv_iconst (v := 1) S.1 S.2.1 dX5_turn_131 (by decide) ?_
                    refine lv_aload_n S.1 S.2.1 dX5_turn_132 rfl (lv_at hl 3 rfl) ?_
                    refine mr_get S K N 5 (by decide) k3_143 (v := .int (M 0 5)) rfl dX5_turn_133 ?_
                    refine lv_isub S.1 S.2.1 dX5_turn_136 ?_
                    refine lv_goto (tgt := 144) S.1 S.2.1 dX5_turn_137 (by decide) ?_
                    exact j128_19 _ _ (by first | rfl | (rw [if_neg c128_21]) | (simp only [if_neg c128_21])) (lv_sub hl [0, 1, 2, 3, 4] rfl)
              · refine lv_if_eq (tgt := 122) S.1 S.2.1 dX5_turn_110 (by decide) (fun c110_22 => ?_) (fun c110_22 => ?_)
                · refine lv_aload_n S.1 S.2.1 dX5_turn_122 rfl (lv_at hl 3 rfl) ?_
                  refine mr_get S K N 4 (by decide) k3_142 (v := .int (M 0 4)) rfl dX5_turn_123 ?_
                  exact j110_16 _ _ (by first | rfl | (rw [if_pos c110_22]) | (simp only [if_pos c110_22])) (lv_sub hl [0, 1, 2, 3, 4] rfl)
                · refine lv_iconst (v := 1) S.1 S.2.1 dX5_turn_113 (by decide) ?_
                  refine lv_aload_n S.1 S.2.1 dX5_turn_114 rfl (lv_at hl 3 rfl) ?_
                  refine mr_get S K N 4 (by decide) k3_142 (v := .int (M 0 4)) rfl dX5_turn_115 ?_
                  refine lv_isub S.1 S.2.1 dX5_turn_118 ?_
                  refine lv_goto (tgt := 126) S.1 S.2.1 dX5_turn_119 (by decide) ?_
                  exact j110_16 _ _ (by first | rfl | (rw [if_neg c110_22]) | (simp only [if_neg c110_22])) (lv_sub hl [0, 1, 2, 3, 4] rfl)
            · refine lv_if_eq (tgt := 105) S.1 S.2.1 dX5_turn_93 (by decide) (fun c93_23 => ?_) (fun c93_23 => ?_)
              · refine lv_aload_n S.1 S.2.1 dX5_turn_105 rfl (lv_at hl 3 rfl) ?_
                refine mr_get S K N 3 (by decide) k3_141 (v := .int (M 0 3)) rfl dX5_turn_106 ?_
                exact j93_13 _ _ (by first | rfl | (rw [if_pos c93_23]) | (simp only [if_pos c93_23])) (lv_sub hl [0, 1, 2, 3, 4] rfl)
              · refine lv_iconst (v := 1) S.1 S.2.1 dX5_turn_96 (by decide) ?_
                refine lv_aload_n S.1 S.2.1 dX5_turn_97 rfl (lv_at hl 3 rfl) ?_
                refine mr_get S K N 3 (by decide) k3_141 (v := .int (M 0 3)) rfl dX5_turn_98 ?_
                refine lv_isub S.1 S.2.1 dX5_turn_101 ?_
                refine lv_goto (tgt := 109) S.1 S.2.1 dX5_turn_102 (by decide) ?_
                exact j93_13 _ _ (by first | rfl | (rw [if_neg c93_23]) | (simp only [if_neg c93_23])) (lv_sub hl [0, 1, 2, 3, 4] rfl)
          · refine lv_icmp_ge (tgt := 88) S.1 S.2.1 dX5_turn_81 (by decide) (fun c81_24 => ?_) (fun c81_24 => ?_)
            · refine lv_iconst (v := 0) S.1 S.2.1 dX5_turn_88 (by decide) ?_
              exact j81_10 _ _ (by first | rfl | (rw [if_pos c81_24]) | (simp only [if_pos c81_24])) (lv_sub hl [0, 1, 2, 3] rfl)
            · refine lv_iconst (v := 1) S.1 S.2.1 dX5_turn_84 (by decide) ?_
              refine lv_goto (tgt := 89) S.1 S.2.1 dX5_turn_85 (by decide) ?_
              exact j81_10 _ _ (by first | rfl | (rw [if_neg c81_24]) | (simp only [if_neg c81_24])) (lv_sub hl [0, 1, 2, 3] rfl)
        · refine lv_if_eq (tgt := 73) S.1 S.2.1 dX5_turn_60 (by decide) (fun c60_25 => ?_) (fun c60_25 => ?_)
          · refine lv_iconst (v := 1) S.1 S.2.1 dX5_turn_73 (by decide) ?_
            refine lv_goto (tgt := 78) S.1 S.2.1 dX5_turn_74 (by decide) ?_
            exact j60_7 _ _ (by first | rfl | (rw [if_pos c60_25]) | (simp only [if_pos c60_25])) (lv_sub hl [0, 1, 2] rfl)
          · refine lv_iload_n S.1 S.2.1 dX5_turn_63 rfl (lv_at hl 2 rfl) ?_
            refine lv_iconst (v := 3) S.1 S.2.1 dX5_turn_64 (by decide) ?_
            refine lv_icmp_eq (tgt := 73) S.1 S.2.1 dX5_turn_65 (by decide) (fun c65_26 => ?_) (fun c65_26 => ?_)
            · refine lv_iconst (v := 1) S.1 S.2.1 dX5_turn_73 (by decide) ?_
              refine lv_goto (tgt := 78) S.1 S.2.1 dX5_turn_74 (by decide) ?_
              exact j60_7 _ _ (by first | rfl | (rw [if_neg c60_25, if_pos c65_26]) | (simp only [if_neg c60_25, if_pos c65_26])) (lv_sub hl [0, 1, 2] rfl)
            · refine lv_iload_n S.1 S.2.1 dX5_turn_68 rfl (lv_at hl 2 rfl) ?_
              refine lv_iconst (v := 4) S.1 S.2.1 dX5_turn_69 (by decide) ?_
              refine lv_icmp_ne (tgt := 77) S.1 S.2.1 dX5_turn_70 (by decide) (fun c70_27 => ?_) (fun c70_27 => ?_)
              · refine lv_iconst (v := 0) S.1 S.2.1 dX5_turn_77 (by decide) ?_
                exact j60_7 _ _ (by first | rfl | (rw [if_neg c60_25, if_neg c65_26, if_neg c70_27]) | (simp only [if_neg c60_25, if_neg c65_26, if_neg c70_27])) (lv_sub hl [0, 1, 2] rfl)
              · refine lv_iconst (v := 1) S.1 S.2.1 dX5_turn_73 (by decide) ?_
                refine lv_goto (tgt := 78) S.1 S.2.1 dX5_turn_74 (by decide) ?_
                exact j60_7 _ _ (by first | rfl | (rw [if_neg c60_25, if_neg c65_26, if_pos c70_27]) | (simp only [if_neg c60_25, if_neg c65_26, if_pos c70_27])) (lv_sub hl [0, 1, 2] rfl)
      · refine lv_icmp_eq (tgt := 53) S.1 S.2.1 dX5_turn_40 (by decide) (fun c40_28 => ?_) (fun c40_28 => ?_)
        · refine lv_iconst (v := 1) S.1 S.2.1 dX5_turn_53 (by decide) ?_
          refine lv_goto (tgt := 58) S.1 S.2.1 dX5_turn_54 (by decide) ?_
          exact j40_4 _ _ (by first | rfl | (rw [if_pos c40_28]) | (simp only [if_pos c40_28])) (lv_sub hl [0, 1] rfl)
        · refine lv_iload_n S.1 S.2.1 dX5_turn_43 rfl (lv_at hl 1 rfl) ?_
          refine lv_iconst (v := 3) S.1 S.2.1 dX5_turn_44 (by decide) ?_
          refine lv_icmp_eq (tgt := 53) S.1 S.2.1 dX5_turn_45 (by decide) (fun c45_29 => ?_) (fun c45_29 => ?_)
          · refine lv_iconst (v := 1) S.1 S.2.1 dX5_turn_53 (by decide) ?_
            refine lv_goto (tgt := 58) S.1 S.2.1 dX5_turn_54 (by decide) ?_
            exact j40_4 _ _ (by first | rfl | (rw [if_neg c40_28, if_pos c45_29]) | (simp only [if_neg c40_28, if_pos c45_29])) (lv_sub hl [0, 1] rfl)
          · refine lv_iload_n S.1 S.2.1 dX5_turn_48 rfl (lv_at hl 1 rfl) ?_
            refine lv_iconst (v := 5) S.1 S.2.1 dX5_turn_49 (by decide) ?_
            refine lv_icmp_ne (tgt := 57) S.1 S.2.1 dX5_turn_50 (by decide) (fun c50_30 => ?_) (fun c50_30 => ?_)
            · refine lv_iconst (v := 0) S.1 S.2.1 dX5_turn_57 (by decide) ?_
              exact j40_4 _ _ (by first | rfl | (rw [if_neg c40_28, if_neg c45_29, if_neg c50_30]) | (simp only [if_neg c40_28, if_neg c45_29, if_neg c50_30])) (lv_sub hl [0, 1] rfl)
            · refine lv_iconst (v := 1) S.1 S.2.1 dX5_turn_53 (by decide) ?_
              refine lv_goto (tgt := 58) S.1 S.2.1 dX5_turn_54 (by decide) ?_
              exact j40_4 _ _ (by first | rfl | (rw [if_neg c40_28, if_neg c45_29, if_pos c50_30]) | (simp only [if_neg c40_28, if_neg c45_29, if_pos c50_30])) (lv_sub hl [0, 1] rfl)
  · refine lv_iconst (v := 1) S.1 S.2.1 dX5_turn_10 (by decide) ?_
    refine lv_goto (tgt := 26) S.1 S.2.1 dX5_turn_11 (by decide) ?_
    refine mr_put S K N hS 0 (by decide) (by unfold mscal; omega) k3_138 rfl rfl dX5_turn_26 (fun H locs N hS => ?_)
    refine lv_aload_n S.1 S.2.1 dX5_turn_29 rfl (lv_at hl 0 rfl) ?_
    refine mr_get S K N 0 (by decide) k3_138 (v := .int 1) rfl dX5_turn_30 ?_
    refine lv_if_le (tgt := 38) S.1 S.2.1 dX5_turn_33 (by decide) (fun c9 => absurd c9 (by decide)) (fun _ => ?_)
    refine lv_iconst (v := 0) S.1 S.2.1 dX5_turn_36 (by decide) ?_
    exact ne_wI S hS hr hlk ⟨congrArg (fun z => some (Value.int z)) (Eq.symm (by unfold f_X5_turn; first | rfl | (rw [if_pos c7_1]) | (simp only [if_pos c7_1]))), (by unfold g_X5_turn; first | exact N | (rw [if_pos c7_1]; exact N) | (simp only [if_pos c7_1]; exact N))⟩ dX5_turn_37

def f_X5_jump (M : Nat → Nat → Int32) (p0 : Int32) (p1 : Int32) (p2 : Int32) (g : Nat) (n : Nat) : Int32 :=
  if (f_X5_in p0 0 5) = 0 then 0
  else if (f_X5_in p1 1 4) = 0 then 0
  else if (f_X5_isOpen (up2 M 0 0 0)) = 0 then 0
  else if 12 ≤ (nI n) then 0
  else if (f_X5_canTakeOff (up2 M 0 0 0) p0) = 0 then 0
  else ((nI (n + 1)) - 1)
def g_X5_jump (M : Nat → Nat → Int32) (p0 : Int32) (p1 : Int32) (p2 : Int32) (g : Nat) (n : Nat) : Nat → Nat → Int32 :=
  if (f_X5_in p0 0 5) = 0 then (up2 M 0 0 1)
  else if (f_X5_in p1 1 4) = 0 then (up2 M 0 0 1)
  else if (f_X5_isOpen (up2 M 0 0 0)) = 0 then (up2 (up2 M 0 0 0) 0 0 2)
  else if 12 ≤ (nI n) then (up2 (up2 M 0 0 0) 0 0 2)
  else if (f_X5_canTakeOff (up2 M 0 0 0) p0) = 0 then (up2 (up2 M 0 0 0) 0 0 2)
  else (up2 (up2 (up2 (up2 (up2 (up2 (up2 (up2 (up2 (up2 (up2 (up2 M 0 0 0) 0 0 0) 9 (12 * g + n) p0) 10 (12 * g + n) p1) 13 (12 * g + n) ((if p0 = 3 then ((if (M 0 4) = 1 then 1 else ((if p0 = 4 then 1 else 0) : Int32)) : Int32) else ((if p0 = 4 then ((if (M 0 4) = 1 then 0 else 1) : Int32) else 0) : Int32)) : Int32)) 14 (12 * g + n) ((if (M 7 g) < 120 then 0 else 1) : Int32)) 15 (12 * g + n) p2) 7 g ((M 7 g) + 4)) 0 3 1) 0 4 1) 0 5 1) 8 g (nI (n + 1)))
set_option maxHeartbeats 4000000 in
set_option maxRecDepth 100000 in
theorem m_X5_jump {D : va_G} {cA : Nat → ClassId} {B : Nat} (l : Launch) {dom : Nat → Prop} {ad : Nat → Nat} {X : Nat → va_E} {H0 : Heap} (M : Nat → Nat → Int32) (p0 : Int32) (p1 : Int32) (p2 : Int32) (g : Nat) (n : Nat) (N : mw D cA B dom ad X M H0) (hg : ¬ M 0 2 = (-1) → vp_in (M 0 2) 12) (hop : ¬ f_X5_isOpen (up2 M 0 0 0) = 0 → M 0 2 = nI g ∧ g < 12 ∧ M 8 g = nI n ∧ n ≤ 12) (hz : vp_nar .boolean p2 = p2) : MetW D cA B l yX5_jump cX5_jump 5 (some .int) 1 23 0 0 [.ref (ad 5), .int p0, .int p1, .int p2] H0 (fun o h => o = some (.int (f_X5_jump M p0 p1 p2 g n)) ∧ mw D cA B dom ad X (g_X5_jump M p0 p1 p2 g n) h) := by
  refine MetW.of (by decide) (Nat.le_of_ble_eq_true rfl) ?_
  intro p e s m args below meth c S hr hlk hin hh K ls hl
  subst hh
  have hS : va_S (fun q => B ≤ q) s.heap s.heap [] := va_S.rf
  have hl : lv_has ls 5 [(0, .ref (ad 5)), (1, .int p0), (2, .int p1), (3, .int p2)] := hl
  refine lv_aload_n S.1 S.2.1 dX5_jump_0 rfl (lv_at hl 0 rfl) ?_
  refine lv_iload_n S.1 S.2.1 dX5_jump_1 rfl (lv_at hl 1 rfl) ?_
  refine lv_iconst (v := 0) S.1 S.2.1 dX5_jump_2 (by decide) ?_
  refine lv_iconst (v := 5) S.1 S.2.1 dX5_jump_3 (by decide) ?_
  refine nc_rS S K hS (As := [.int p0, .int 0, .int 5]) (m_X5_in l p0 0 5) k3_224 k3_225 k1_3 k3_226 (num := 3) (by decide +kernel) rfl ⟨Nat.le_of_ble_eq_true rfl, Nat.le_of_ble_eq_true rfl⟩ hl.1 rfl (Nat.le_of_ble_eq_true rfl) dX5_jump_4 ⟨Nat.le_of_ble_eq_true rfl, Nat.le_of_ble_eq_true rfl⟩ ?_
  refine lv_if_eq (tgt := 19) S.1 S.2.1 dX5_jump_7 (by decide) (fun c7_1 => ?_) (fun c7_1 => ?_)
  · refine lv_iconst (v := 1) S.1 S.2.1 dX5_jump_19 (by decide) ?_
    refine lv_goto (tgt := 24) S.1 S.2.1 dX5_jump_20 (by decide) ?_
    refine mr_put S K N hS 0 (by decide) (by unfold mscal; omega) k3_138 rfl rfl dX5_jump_24 (fun H locs N hS => ?_)
    refine lv_aload_n S.1 S.2.1 dX5_jump_27 rfl (lv_at hl 0 rfl) ?_
    refine mr_get S K N 0 (by decide) k3_138 (v := .int 1) rfl dX5_jump_28 ?_
    refine lv_if_ne (tgt := 72) S.1 S.2.1 dX5_jump_31 (by decide) (fun _ => ?_) (fun c9 => absurd c9 (by decide))
    refine lv_aload_n S.1 S.2.1 dX5_jump_72 rfl (lv_at hl 0 rfl) ?_
    refine mr_get S K N 0 (by decide) k3_138 (v := .int 1) rfl dX5_jump_73 ?_
    refine lv_if_le (tgt := 81) S.1 S.2.1 dX5_jump_76 (by decide) (fun c9 => absurd c9 (by decide)) (fun _ => ?_)
    refine lv_iconst (v := 0) S.1 S.2.1 dX5_jump_79 (by decide) ?_
    exact ne_wI S hS hr hlk ⟨congrArg (fun z => some (Value.int z)) (Eq.symm (by unfold f_X5_jump; first | rfl | (rw [if_pos c7_1]) | (simp only [if_pos c7_1]))), (by unfold g_X5_jump; first | exact N | (rw [if_pos c7_1]; exact N) | (simp only [if_pos c7_1]; exact N))⟩ dX5_jump_80
  · refine lv_iload_n S.1 S.2.1 dX5_jump_10 rfl (lv_at hl 2 rfl) ?_
    refine lv_iconst (v := 1) S.1 S.2.1 dX5_jump_11 (by decide) ?_
    refine lv_iconst (v := 4) S.1 S.2.1 dX5_jump_12 (by decide) ?_
    refine nc_rS S K hS (As := [.int p1, .int 1, .int 4]) (m_X5_in l p1 1 4) k3_224 k3_225 k1_3 k3_226 (num := 3) (by decide +kernel) rfl ⟨Nat.le_of_ble_eq_true rfl, Nat.le_of_ble_eq_true rfl⟩ hl.1 rfl (Nat.le_of_ble_eq_true rfl) dX5_jump_13 ⟨Nat.le_of_ble_eq_true rfl, Nat.le_of_ble_eq_true rfl⟩ ?_
    refine lv_if_ne (tgt := 23) S.1 S.2.1 dX5_jump_16 (by decide) (fun c16_2 => ?_) (fun c16_2 => ?_)
    · refine lv_iconst (v := 0) S.1 S.2.1 dX5_jump_23 (by decide) ?_
      refine mr_put S K N hS 0 (by decide) (by unfold mscal; omega) k3_138 rfl rfl dX5_jump_24 (fun H locs N hS => ?_)
      refine lv_aload_n S.1 S.2.1 dX5_jump_27 rfl (lv_at hl 0 rfl) ?_
      refine mr_get S K N 0 (by decide) k3_138 (v := .int 0) rfl dX5_jump_28 ?_
      refine lv_if_ne (tgt := 72) S.1 S.2.1 dX5_jump_31 (by decide) (fun c9 => absurd (by decide) c9) (fun _ => ?_)
      refine lv_aload_n S.1 S.2.1 dX5_jump_34 rfl (lv_at hl 0 rfl) ?_
      refine lv_aload_n S.1 S.2.1 dX5_jump_35 rfl (lv_at hl 0 rfl) ?_
      refine mc_rV S K N hS rfl (As := []) (m_X5_isOpen l (up2 M 0 0 0) N hg) k3_235 k3_237 kS_19 k1_3 k3_238 (num := 0) (by decide +kernel) rfl ⟨Nat.le_of_ble_eq_true rfl, Nat.le_of_ble_eq_true rfl⟩ hl.1 rfl (Nat.le_of_ble_eq_true rfl) dX5_jump_36 ⟨Nat.le_of_ble_eq_true rfl, Nat.le_of_ble_eq_true rfl⟩ ?_
      refine lv_if_eq (tgt := 68) S.1 S.2.1 dX5_jump_39 (by decide) (fun c39_3 => ?_) (fun c39_3 => ?_)
      · refine lv_iconst (v := 2) S.1 S.2.1 dX5_jump_68 (by decide) ?_
        refine mr_put S K N hS 0 (by decide) (by unfold mscal; omega) k3_138 rfl rfl dX5_jump_69 (fun H locs N hS => ?_)
        refine lv_aload_n S.1 S.2.1 dX5_jump_72 rfl (lv_at hl 0 rfl) ?_
        refine mr_get S K N 0 (by decide) k3_138 (v := .int 2) rfl dX5_jump_73 ?_
        refine lv_if_le (tgt := 81) S.1 S.2.1 dX5_jump_76 (by decide) (fun c9 => absurd c9 (by decide)) (fun _ => ?_)
        refine lv_iconst (v := 0) S.1 S.2.1 dX5_jump_79 (by decide) ?_
        exact ne_wI S hS hr hlk ⟨congrArg (fun z => some (Value.int z)) (Eq.symm (by unfold f_X5_jump; first | rfl | (rw [if_neg c7_1, if_neg c16_2, if_pos c39_3]) | (simp only [if_neg c7_1, if_neg c16_2, if_pos c39_3]))), (by unfold g_X5_jump; first | exact N | (rw [if_neg c7_1, if_neg c16_2, if_pos c39_3]; exact N) | (simp only [if_neg c7_1, if_neg c16_2, if_pos c39_3]; exact N))⟩ dX5_jump_80
      · obtain ⟨hg1, hg2, hn1, hn2⟩ := hop c39_3
        refine lv_aload_n S.1 S.2.1 dX5_jump_42 rfl (lv_at hl 0 rfl) ?_
        refine mr_get S K N 8 (by decide) k3_146 (v := .ref (ad 18)) rfl dX5_jump_43 ?_
        refine lv_aload_n S.1 S.2.1 dX5_jump_46 rfl (lv_at hl 0 rfl) ?_
        refine mr_get S K N 2 (by decide) k3_140 (v := .int (M 0 2)) rfl dX5_jump_47 ?_
        refine nt_i (y := nI g) (hg1) ?_
        refine mr_iald S K N 8 (by decide) (by decide) rfl (v := (M 8 g)) (vp_in_nI (show g < mlen 8 by show _ < 12; omega) (by decide)) ((congrArg ((up2 M 0 0 0) 8) (nI_clamp (show g < 2 ^ 31 by omega))).trans rfl) dX5_jump_50 ?_
        refine nt_i (y := nI n) (hn1) ?_
        refine lv_bipush (v := 12) S.1 S.2.1 dX5_jump_51 (by decide) ?_
        refine lv_icmp_ge (tgt := 68) S.1 S.2.1 dX5_jump_53 (by decide) (fun c53_4 => ?_) (fun c53_4 => ?_)
        · refine lv_iconst (v := 2) S.1 S.2.1 dX5_jump_68 (by decide) ?_
          refine mr_put S K N hS 0 (by decide) (by unfold mscal; omega) k3_138 rfl rfl dX5_jump_69 (fun H locs N hS => ?_)
          refine lv_aload_n S.1 S.2.1 dX5_jump_72 rfl (lv_at hl 0 rfl) ?_
          refine mr_get S K N 0 (by decide) k3_138 (v := .int 2) rfl dX5_jump_73 ?_
          refine lv_if_le (tgt := 81) S.1 S.2.1 dX5_jump_76 (by decide) (fun c9 => absurd c9 (by decide)) (fun _ => ?_)
          refine lv_iconst (v := 0) S.1 S.2.1 dX5_jump_79 (by decide) ?_
          exact ne_wI S hS hr hlk ⟨congrArg (fun z => some (Value.int z)) (Eq.symm (by unfold f_X5_jump; first | rfl | (rw [if_neg c7_1, if_neg c16_2, if_neg c39_3, if_pos c53_4]) | (simp only [if_neg c7_1, if_neg c16_2, if_neg c39_3, if_pos c53_4]))), (by unfold g_X5_jump; first | exact N | (rw [if_neg c7_1, if_neg c16_2, if_neg c39_3, if_pos c53_4]; exact N) | (simp only [if_neg c7_1, if_neg c16_2, if_neg c39_3, if_pos c53_4]; exact N))⟩ dX5_jump_80
        · have hn3 := nlt_nat (a := 12) c53_4 (by omega)
          refine lv_aload_n S.1 S.2.1 dX5_jump_56 rfl (lv_at hl 0 rfl) ?_
          refine lv_iload_n S.1 S.2.1 dX5_jump_57 rfl (lv_at hl 1 rfl) ?_
          refine mc_rV S K N hS rfl (As := [.int p0]) (m_X5_canTakeOff l (up2 M 0 0 0) p0 N) k4_3 k4_5 kS_20 k1_3 k4_6 (num := 1) (by decide +kernel) rfl ⟨Nat.le_of_ble_eq_true rfl, Nat.le_of_ble_eq_true rfl⟩ hl.1 rfl (Nat.le_of_ble_eq_true rfl) dX5_jump_58 ⟨Nat.le_of_ble_eq_true rfl, Nat.le_of_ble_eq_true rfl⟩ ?_
          refine lv_if_eq (tgt := 68) S.1 S.2.1 dX5_jump_61 (by decide) (fun c61_5 => ?_) (fun c61_5 => ?_)
          · refine lv_iconst (v := 2) S.1 S.2.1 dX5_jump_68 (by decide) ?_
            refine mr_put S K N hS 0 (by decide) (by unfold mscal; omega) k3_138 rfl rfl dX5_jump_69 (fun H locs N hS => ?_)
            refine lv_aload_n S.1 S.2.1 dX5_jump_72 rfl (lv_at hl 0 rfl) ?_
            refine mr_get S K N 0 (by decide) k3_138 (v := .int 2) rfl dX5_jump_73 ?_
            refine lv_if_le (tgt := 81) S.1 S.2.1 dX5_jump_76 (by decide) (fun c9 => absurd c9 (by decide)) (fun _ => ?_)
            refine lv_iconst (v := 0) S.1 S.2.1 dX5_jump_79 (by decide) ?_
            exact ne_wI S hS hr hlk ⟨congrArg (fun z => some (Value.int z)) (Eq.symm (by unfold f_X5_jump; first | rfl | (rw [if_neg c7_1, if_neg c16_2, if_neg c39_3, if_neg c53_4, if_pos c61_5]) | (simp only [if_neg c7_1, if_neg c16_2, if_neg c39_3, if_neg c53_4, if_pos c61_5]))), (by unfold g_X5_jump; first | exact N | (rw [if_neg c7_1, if_neg c16_2, if_neg c39_3, if_neg c53_4, if_pos c61_5]; exact N) | (simp only [if_neg c7_1, if_neg c16_2, if_neg c39_3, if_neg c53_4, if_pos c61_5]; exact N))⟩ dX5_jump_80
          · refine lv_iconst (v := 0) S.1 S.2.1 dX5_jump_64 (by decide) ?_
            refine lv_goto (tgt := 69) S.1 S.2.1 dX5_jump_65 (by decide) ?_
            refine mr_put S K N hS 0 (by decide) (by unfold mscal; omega) k3_138 rfl rfl dX5_jump_69 (fun H locs N hS => ?_)
            refine lv_aload_n S.1 S.2.1 dX5_jump_72 rfl (lv_at hl 0 rfl) ?_
            refine mr_get S K N 0 (by decide) k3_138 (v := .int 0) rfl dX5_jump_73 ?_
            refine lv_if_le (tgt := 81) S.1 S.2.1 dX5_jump_76 (by decide) (fun _ => ?_) (fun c9 => absurd (by decide) c9)
            refine lv_aload_n S.1 S.2.1 dX5_jump_81 rfl (lv_at hl 0 rfl) ?_
            refine mr_get S K N 2 (by decide) k3_140 (v := .int (M 0 2)) rfl dX5_jump_82 ?_
            refine nt_i (y := nI g) (hg1) ?_
            refine lv_aload_n S.1 S.2.1 dX5_jump_85 rfl (lv_at hl 0 rfl) ?_
            refine mr_get S K N 8 (by decide) k3_146 (v := .ref (ad 18)) rfl dX5_jump_86 ?_
            refine lv_aload_n S.1 S.2.1 dX5_jump_89 rfl (lv_at hl 0 rfl) ?_
            refine mr_get S K N 2 (by decide) k3_140 (v := .int (M 0 2)) rfl dX5_jump_90 ?_
            refine nt_i (y := nI g) (hg1) ?_
            refine mr_iald S K N 8 (by decide) (by decide) rfl (v := (M 8 g)) (vp_in_nI (show g < mlen 8 by show _ < 12; omega) (by decide)) ((congrArg ((up2 (up2 M 0 0 0) 0 0 0) 8) (nI_clamp (show g < 2 ^ 31 by omega))).trans rfl) dX5_jump_93 ?_
            refine nt_i (y := nI n) (hn1) ?_
            refine nc_rS S K hS (As := [.int (nI g), .int (nI n)]) (m_X5_at l g n) k4_7 k4_8 k1_3 k4_9 (num := 2) (by decide +kernel) rfl ⟨Nat.le_of_ble_eq_true rfl, Nat.le_of_ble_eq_true rfl⟩ hl.1 rfl (Nat.le_of_ble_eq_true rfl) dX5_jump_94 ⟨Nat.le_of_ble_eq_true rfl, Nat.le_of_ble_eq_true rfl⟩ ?_
            refine nt_i (y := nI (12 * g + n)) (rfl) ?_
            refine lv_istore (lv' := [(4, .int (nI (12 * g + n))), (0, .ref (ad 5)), (1, .int p0), (2, .int p1), (3, .int p2)]) S.1 S.2.1 dX5_jump_97 hl (by decide) rfl (fun ls hl => ?_)
            refine lv_aload_n S.1 S.2.1 dX5_jump_99 rfl (lv_at hl 1 rfl) ?_
            refine mr_get S K N 9 (by decide) k3_147 (v := .ref (ad 19)) rfl dX5_jump_100 ?_
            refine lv_iload S.1 S.2.1 dX5_jump_103 (lv_at hl 0 rfl) ?_
            refine lv_iload_n S.1 S.2.1 dX5_jump_105 rfl (lv_at hl 2 rfl) ?_
            refine mr_iast S K N hS 9 (by decide) (by decide) rfl (vp_in_nI (show (12 * g + n) < mlen 9 by show _ < 144; omega) (by decide)) (12 * g + n) (nI_clamp (show (12 * g + n) < 2 ^ 31 by omega)) dX5_jump_106 (fun H locs N hS => ?_)
            refine lv_aload_n S.1 S.2.1 dX5_jump_107 rfl (lv_at hl 1 rfl) ?_
            refine mr_get S K N 10 (by decide) k3_148 (v := .ref (ad 20)) rfl dX5_jump_108 ?_
            refine lv_iload S.1 S.2.1 dX5_jump_111 (lv_at hl 0 rfl) ?_
            refine lv_iload_n S.1 S.2.1 dX5_jump_113 rfl (lv_at hl 3 rfl) ?_
            refine mr_iast S K N hS 10 (by decide) (by decide) rfl (vp_in_nI (show (12 * g + n) < mlen 10 by show _ < 144; omega) (by decide)) (12 * g + n) (nI_clamp (show (12 * g + n) < 2 ^ 31 by omega)) dX5_jump_114 (fun H locs N hS => ?_)
            refine lv_aload_n S.1 S.2.1 dX5_jump_115 rfl (lv_at hl 1 rfl) ?_
            refine mr_get S K N 13 (by decide) k3_151 (v := .ref (ad 23)) rfl dX5_jump_116 ?_
            refine lv_iload S.1 S.2.1 dX5_jump_119 (lv_at hl 0 rfl) ?_
            refine lv_iload_n S.1 S.2.1 dX5_jump_121 rfl (lv_at hl 2 rfl) ?_
            refine lv_iconst (v := 3) S.1 S.2.1 dX5_jump_122 (by decide) ?_
            refine nj (J := 152) (V := ((if p0 = 3 then ((if (M 0 4) = 1 then 1 else ((if p0 = 4 then 1 else 0) : Int32)) : Int32) else ((if p0 = 4 then ((if (M 0 4) = 1 then 0 else 1) : Int32) else 0) : Int32)) : Int32)) (L := fun v123_6 => [(4, .int (nI (12 * g + n))), (0, .ref (ad 5)), (1, .int p0), (2, .int p1), (3, .int p2)]) (St := fun v123_6 => [.int v123_6, .int (nI (12 * g + n)), .ref (ad 23)]) (n := 5) (fun v123_6 ls h123_8 hl => ?_) (fun j123_7 => ?_)
            · try dsimp only at hl ⊢
              subst h123_8
              refine mr_zast S K N hS 13 (by decide) (by decide) rfl (vp_in_nI (show (12 * g + n) < mlen 13 by show _ < 144; omega) (by decide)) (by repeat (first | exact zb_0 | exact zb_1 | split)) (12 * g + n) (nI_clamp (show (12 * g + n) < 2 ^ 31 by omega)) dX5_jump_152 (fun H locs N hS => ?_)
              refine lv_aload_n S.1 S.2.1 dX5_jump_153 rfl (lv_at hl 1 rfl) ?_
              refine mr_get S K N 14 (by decide) k3_152 (v := .ref (ad 24)) rfl dX5_jump_154 ?_
              refine lv_iload S.1 S.2.1 dX5_jump_157 (lv_at hl 0 rfl) ?_
              refine lv_aload_n S.1 S.2.1 dX5_jump_159 rfl (lv_at hl 1 rfl) ?_
              refine mr_get S K N 7 (by decide) k3_145 (v := .ref (ad 17)) rfl dX5_jump_160 ?_
              refine lv_aload_n S.1 S.2.1 dX5_jump_163 rfl (lv_at hl 1 rfl) ?_
              refine mr_get S K N 2 (by decide) k3_140 (v := .int (M 0 2)) rfl dX5_jump_164 ?_
              refine nt_i (y := nI g) (hg1) ?_
              refine mr_iald S K N 7 (by decide) (by decide) rfl (v := (M 7 g)) (vp_in_nI (show g < mlen 7 by show _ < 12; omega) (by decide)) ((congrArg ((up2 (up2 (up2 (up2 (up2 M 0 0 0) 0 0 0) 9 (12 * g + n) p0) 10 (12 * g + n) p1) 13 (12 * g + n) ((if p0 = 3 then ((if (M 0 4) = 1 then 1 else ((if p0 = 4 then 1 else 0) : Int32)) : Int32) else ((if p0 = 4 then ((if (M 0 4) = 1 then 0 else 1) : Int32) else 0) : Int32)) : Int32)) 7) (nI_clamp (show g < 2 ^ 31 by omega))).trans rfl) dX5_jump_167 ?_
              refine lv_bipush (v := 120) S.1 S.2.1 dX5_jump_168 (by decide) ?_
              refine nj (J := 178) (V := ((if (M 7 g) < 120 then 0 else 1) : Int32)) (L := fun v170_9 => [(4, .int (nI (12 * g + n))), (0, .ref (ad 5)), (1, .int p0), (2, .int p1), (3, .int p2)]) (St := fun v170_9 => [.int v170_9, .int (nI (12 * g + n)), .ref (ad 24)]) (n := 5) (fun v170_9 ls h170_11 hl => ?_) (fun j170_10 => ?_)
              · try dsimp only at hl ⊢
                subst h170_11
                refine mr_zast S K N hS 14 (by decide) (by decide) rfl (vp_in_nI (show (12 * g + n) < mlen 14 by show _ < 144; omega) (by decide)) (by repeat (first | exact zb_0 | exact zb_1 | split)) (12 * g + n) (nI_clamp (show (12 * g + n) < 2 ^ 31 by omega)) dX5_jump_178 (fun H locs N hS => ?_)
                refine lv_aload_n S.1 S.2.1 dX5_jump_179 rfl (lv_at hl 1 rfl) ?_
                refine mr_get S K N 15 (by decide) k3_153 (v := .ref (ad 25)) rfl dX5_jump_180 ?_
                refine lv_iload S.1 S.2.1 dX5_jump_183 (lv_at hl 0 rfl) ?_
                refine lv_iload_n S.1 S.2.1 dX5_jump_185 rfl (lv_at hl 4 rfl) ?_
                refine mr_zast S K N hS 15 (by decide) (by decide) rfl (vp_in_nI (show (12 * g + n) < mlen 15 by show _ < 144; omega) (by decide)) (hz) (12 * g + n) (nI_clamp (show (12 * g + n) < 2 ^ 31 by omega)) dX5_jump_186 (fun H locs N hS => ?_)
                refine lv_aload_n S.1 S.2.1 dX5_jump_187 rfl (lv_at hl 1 rfl) ?_
                refine mr_get S K N 7 (by decide) k3_145 (v := .ref (ad 17)) rfl dX5_jump_188 ?_
                refine lv_aload_n S.1 S.2.1 dX5_jump_191 rfl (lv_at hl 1 rfl) ?_
                refine mr_get S K N 2 (by decide) k3_140 (v := .int (M 0 2)) rfl dX5_jump_192 ?_
                refine nt_i (y := nI g) (hg1) ?_
                refine lv_dup2_11 S.1 S.2.1 dX5_jump_195 rfl rfl ?_
                refine mr_iald S K N 7 (by decide) (by decide) rfl (v := (M 7 g)) (vp_in_nI (show g < mlen 7 by show _ < 12; omega) (by decide)) ((congrArg ((up2 (up2 (up2 (up2 (up2 (up2 (up2 M 0 0 0) 0 0 0) 9 (12 * g + n) p0) 10 (12 * g + n) p1) 13 (12 * g + n) ((if p0 = 3 then ((if (M 0 4) = 1 then 1 else ((if p0 = 4 then 1 else 0) : Int32)) : Int32) else ((if p0 = 4 then ((if (M 0 4) = 1 then 0 else 1) : Int32) else 0) : Int32)) : Int32)) 14 (12 * g + n) ((if (M 7 g) < 120 then 0 else 1) : Int32)) 15 (12 * g + n) p2) 7) (nI_clamp (show g < 2 ^ 31 by omega))).trans rfl) dX5_jump_196 ?_
                refine lv_iconst (v := 4) S.1 S.2.1 dX5_jump_197 (by decide) ?_
                refine lv_iadd S.1 S.2.1 dX5_jump_198 ?_
                refine mr_iast S K N hS 7 (by decide) (by decide) rfl (vp_in_nI (show g < mlen 7 by show _ < 12; omega) (by decide)) g (nI_clamp (show g < 2 ^ 31 by omega)) dX5_jump_199 (fun H locs N hS => ?_)
                refine lv_aload_n S.1 S.2.1 dX5_jump_200 rfl (lv_at hl 1 rfl) ?_
                refine lv_iconst (v := 1) S.1 S.2.1 dX5_jump_201 (by decide) ?_
                refine lv_iconst (v := 1) S.1 S.2.1 dX5_jump_202 (by decide) ?_
                refine lv_iconst (v := 1) S.1 S.2.1 dX5_jump_203 (by decide) ?_
                refine mc_wV S K N hS rfl (As := [.int 1, .int 1, .int 1]) (m_X5_stands l (up2 (up2 (up2 (up2 (up2 (up2 (up2 (up2 M 0 0 0) 0 0 0) 9 (12 * g + n) p0) 10 (12 * g + n) p1) 13 (12 * g + n) ((if p0 = 3 then ((if (M 0 4) = 1 then 1 else ((if p0 = 4 then 1 else 0) : Int32)) : Int32) else ((if p0 = 4 then ((if (M 0 4) = 1 then 0 else 1) : Int32) else 0) : Int32)) : Int32)) 14 (12 * g + n) ((if (M 7 g) < 120 then 0 else 1) : Int32)) 15 (12 * g + n) p2) 7 g ((M 7 g) + 4)) 1 1 1 N) k3_227 k3_229 kS_18 k1_3 k3_230 (num := 3) (by decide +kernel) rfl ⟨Nat.le_of_ble_eq_true rfl, Nat.le_of_ble_eq_true rfl⟩ hl.1 rfl (Nat.le_of_ble_eq_true rfl) dX5_jump_204 ⟨Nat.le_of_ble_eq_true rfl, Nat.le_of_ble_eq_true rfl⟩ (fun v9 H locs hP hS => ?_)
                obtain ⟨rfl, N⟩ := hP
                have N : mw D cA B dom ad X (up2 (up2 (up2 (up2 (up2 (up2 (up2 (up2 (up2 (up2 (up2 M 0 0 0) 0 0 0) 9 (12 * g + n) p0) 10 (12 * g + n) p1) 13 (12 * g + n) ((if p0 = 3 then ((if (M 0 4) = 1 then 1 else ((if p0 = 4 then 1 else 0) : Int32)) : Int32) else ((if p0 = 4 then ((if (M 0 4) = 1 then 0 else 1) : Int32) else 0) : Int32)) : Int32)) 14 (12 * g + n) ((if (M 7 g) < 120 then 0 else 1) : Int32)) 15 (12 * g + n) p2) 7 g ((M 7 g) + 4)) 0 3 1) 0 4 1) 0 5 1) H := N
                refine W.eq (g2 := F0 m 207 ls []) rfl ?_
                refine lv_aload_n S.1 S.2.1 dX5_jump_207 rfl (lv_at hl 1 rfl) ?_
                refine mr_get S K N 8 (by decide) k3_146 (v := .ref (ad 18)) rfl dX5_jump_208 ?_
                refine lv_aload_n S.1 S.2.1 dX5_jump_211 rfl (lv_at hl 1 rfl) ?_
                refine mr_get S K N 2 (by decide) k3_140 (v := .int (M 0 2)) rfl dX5_jump_212 ?_
                refine nt_i (y := nI g) (hg1) ?_
                refine lv_dup2_11 S.1 S.2.1 dX5_jump_215 rfl rfl ?_
                refine mr_iald S K N 8 (by decide) (by decide) rfl (v := (M 8 g)) (vp_in_nI (show g < mlen 8 by show _ < 12; omega) (by decide)) ((congrArg ((up2 (up2 (up2 (up2 (up2 (up2 (up2 (up2 (up2 (up2 (up2 M 0 0 0) 0 0 0) 9 (12 * g + n) p0) 10 (12 * g + n) p1) 13 (12 * g + n) ((if p0 = 3 then ((if (M 0 4) = 1 then 1 else ((if p0 = 4 then 1 else 0) : Int32)) : Int32) else ((if p0 = 4 then ((if (M 0 4) = 1 then 0 else 1) : Int32) else 0) : Int32)) : Int32)) 14 (12 * g + n) ((if (M 7 g) < 120 then 0 else 1) : Int32)) 15 (12 * g + n) p2) 7 g ((M 7 g) + 4)) 0 3 1) 0 4 1) 0 5 1) 8) (nI_clamp (show g < 2 ^ 31 by omega))).trans rfl) dX5_jump_216 ?_
                refine nt_i (y := nI n) (hn1) ?_
                refine lv_iconst (v := 1) S.1 S.2.1 dX5_jump_217 (by decide) ?_
                refine lv_iadd S.1 S.2.1 dX5_jump_218 ?_
                refine nt_i (y := nI (n + 1)) (nI_add n 1) ?_
                refine mr_iast S K N hS 8 (by decide) (by decide) rfl (vp_in_nI (show g < mlen 8 by show _ < 12; omega) (by decide)) g (nI_clamp (show g < 2 ^ 31 by omega)) dX5_jump_219 (fun H locs N hS => ?_)
                refine lv_aload_n S.1 S.2.1 dX5_jump_220 rfl (lv_at hl 1 rfl) ?_
                refine mr_get S K N 8 (by decide) k3_146 (v := .ref (ad 18)) rfl dX5_jump_221 ?_
                refine lv_aload_n S.1 S.2.1 dX5_jump_224 rfl (lv_at hl 1 rfl) ?_
                refine mr_get S K N 2 (by decide) k3_140 (v := .int (M 0 2)) rfl dX5_jump_225 ?_
                refine nt_i (y := nI g) (hg1) ?_
                refine mr_iald S K N 8 (by decide) (by decide) rfl (v := (nI (n + 1))) (vp_in_nI (show g < mlen 8 by show _ < 12; omega) (by decide)) ((congrArg ((up2 (up2 (up2 (up2 (up2 (up2 (up2 (up2 (up2 (up2 (up2 (up2 M 0 0 0) 0 0 0) 9 (12 * g + n) p0) 10 (12 * g + n) p1) 13 (12 * g + n) ((if p0 = 3 then ((if (M 0 4) = 1 then 1 else ((if p0 = 4 then 1 else 0) : Int32)) : Int32) else ((if p0 = 4 then ((if (M 0 4) = 1 then 0 else 1) : Int32) else 0) : Int32)) : Int32)) 14 (12 * g + n) ((if (M 7 g) < 120 then 0 else 1) : Int32)) 15 (12 * g + n) p2) 7 g ((M 7 g) + 4)) 0 3 1) 0 4 1) 0 5 1) 8 g (nI (n + 1))) 8) (nI_clamp (show g < 2 ^ 31 by omega))).trans (by simp [up2])) dX5_jump_228 ?_
                refine lv_iconst (v := 1) S.1 S.2.1 dX5_jump_229 (by decide) ?_
                refine lv_isub S.1 S.2.1 dX5_jump_230 ?_
                exact ne_wI S hS hr hlk ⟨congrArg (fun z => some (Value.int z)) (Eq.symm (by unfold f_X5_jump; first | rfl | (rw [if_neg c7_1, if_neg c16_2, if_neg c39_3, if_neg c53_4, if_neg c61_5]) | (simp only [if_neg c7_1, if_neg c16_2, if_neg c39_3, if_neg c53_4, if_neg c61_5]))), (by unfold g_X5_jump; first | exact N | (rw [if_neg c7_1, if_neg c16_2, if_neg c39_3, if_neg c53_4, if_neg c61_5]; exact N) | (simp only [if_neg c7_1, if_neg c16_2, if_neg c39_3, if_neg c53_4, if_neg c61_5]; exact N))⟩ dX5_jump_231
              · refine lv_icmp_lt (tgt := 177) S.1 S.2.1 dX5_jump_170 (by decide) (fun c170_12 => ?_) (fun c170_12 => ?_)
                · refine lv_iconst (v := 0) S.1 S.2.1 dX5_jump_177 (by decide) ?_
                  exact j170_10 _ _ (by first | rfl | (rw [if_pos c170_12]) | (simp only [if_pos c170_12])) (lv_sub hl [0, 1, 2, 3, 4] rfl)
                · refine lv_iconst (v := 1) S.1 S.2.1 dX5_jump_173 (by decide) ?_
                  refine lv_goto (tgt := 178) S.1 S.2.1 dX5_jump_174 (by decide) ?_
                  exact j170_10 _ _ (by first | rfl | (rw [if_neg c170_12]) | (simp only [if_neg c170_12])) (lv_sub hl [0, 1, 2, 3, 4] rfl)
            · refine lv_icmp_ne (tgt := 134) S.1 S.2.1 dX5_jump_123 (by decide) (fun c123_13 => ?_) (fun c123_13 => ?_)
              · refine lv_iload_n S.1 S.2.1 dX5_jump_134 rfl (lv_at hl 2 rfl) ?_
                refine lv_iconst (v := 4) S.1 S.2.1 dX5_jump_135 (by decide) ?_
                refine lv_icmp_ne (tgt := 151) S.1 S.2.1 dX5_jump_136 (by decide) (fun c136_14 => ?_) (fun c136_14 => ?_)
                · refine lv_iconst (v := 0) S.1 S.2.1 dX5_jump_151 (by decide) ?_
                  exact j123_7 _ _ (by first | rfl | (rw [if_neg c123_13, if_neg c136_14]) | (simp only [if_neg c123_13, if_neg c136_14])) (lv_sub hl [0, 1, 2, 3, 4] rfl)
                · refine lv_aload_n S.1 S.2.1 dX5_jump_139 rfl (lv_at hl 1 rfl) ?_
                  refine mr_get S K N 4 (by decide) k3_142 (v := .int (M 0 4)) rfl dX5_jump_140 ?_
                  refine lv_iconst (v := 1) S.1 S.2.1 dX5_jump_143 (by decide) ?_
                  refine lv_icmp_eq (tgt := 151) S.1 S.2.1 dX5_jump_144 (by decide) (fun c144_15 => ?_) (fun c144_15 => ?_)
                  · refine lv_iconst (v := 0) S.1 S.2.1 dX5_jump_151 (by decide) ?_
                    exact j123_7 _ _ (by first | rfl | (rw [if_neg c123_13, if_pos c136_14, if_pos c144_15]) | (simp only [if_neg c123_13, if_pos c136_14, if_pos c144_15])) (lv_sub hl [0, 1, 2, 3, 4] rfl)
                  · refine lv_iconst (v := 1) S.1 S.2.1 dX5_jump_147 (by decide) ?_
                    refine lv_goto (tgt := 152) S.1 S.2.1 dX5_jump_148 (by decide) ?_
                    exact j123_7 _ _ (by first | rfl | (rw [if_neg c123_13, if_pos c136_14, if_neg c144_15]) | (simp only [if_neg c123_13, if_pos c136_14, if_neg c144_15])) (lv_sub hl [0, 1, 2, 3, 4] rfl)
              · refine lv_aload_n S.1 S.2.1 dX5_jump_126 rfl (lv_at hl 1 rfl) ?_
                refine mr_get S K N 4 (by decide) k3_142 (v := .int (M 0 4)) rfl dX5_jump_127 ?_
                refine lv_iconst (v := 1) S.1 S.2.1 dX5_jump_130 (by decide) ?_
                refine lv_icmp_eq (tgt := 147) S.1 S.2.1 dX5_jump_131 (by decide) (fun c131_16 => ?_) (fun c131_16 => ?_)
                · refine lv_iconst (v := 1) S.1 S.2.1 dX5_jump_147 (by decide) ?_
                  refine lv_goto (tgt := 152) S.1 S.2.1 dX5_jump_148 (by decide) ?_
                  exact j123_7 _ _ (by first | rfl | (rw [if_pos c123_13, if_pos c131_16]) | (simp only [if_pos c123_13, if_pos c131_16])) (lv_sub hl [0, 1, 2, 3, 4] rfl)
                · refine lv_iload_n S.1 S.2.1 dX5_jump_134 rfl (lv_at hl 2 rfl) ?_
                  refine lv_iconst (v := 4) S.1 S.2.1 dX5_jump_135 (by decide) ?_
                  refine lv_icmp_ne (tgt := 151) S.1 S.2.1 dX5_jump_136 (by decide) (fun c136_17 => ?_) (fun c136_17 => ?_)
                  · refine lv_iconst (v := 0) S.1 S.2.1 dX5_jump_151 (by decide) ?_
                    exact j123_7 _ _ (by first | rfl | (rw [if_pos c123_13, if_neg c131_16, if_neg c136_17]) | (simp only [if_pos c123_13, if_neg c131_16, if_neg c136_17])) (lv_sub hl [0, 1, 2, 3, 4] rfl)
                  · refine lv_aload_n S.1 S.2.1 dX5_jump_139 rfl (lv_at hl 1 rfl) ?_
                    refine mr_get S K N 4 (by decide) k3_142 (v := .int (M 0 4)) rfl dX5_jump_140 ?_
                    refine lv_iconst (v := 1) S.1 S.2.1 dX5_jump_143 (by decide) ?_
                    refine lv_icmp_eq (tgt := 151) S.1 S.2.1 dX5_jump_144 (by decide) (fun c9 => absurd c9 (c131_16)) (fun _ => ?_)
                    refine lv_iconst (v := 1) S.1 S.2.1 dX5_jump_147 (by decide) ?_
                    refine lv_goto (tgt := 152) S.1 S.2.1 dX5_jump_148 (by decide) ?_
                    exact j123_7 _ _ (by first | rfl | (rw [if_pos c123_13, if_neg c131_16, if_pos c136_17]) | (simp only [if_pos c123_13, if_neg c131_16, if_pos c136_17])) (lv_sub hl [0, 1, 2, 3, 4] rfl)
    · refine lv_iconst (v := 1) S.1 S.2.1 dX5_jump_19 (by decide) ?_
      refine lv_goto (tgt := 24) S.1 S.2.1 dX5_jump_20 (by decide) ?_
      refine mr_put S K N hS 0 (by decide) (by unfold mscal; omega) k3_138 rfl rfl dX5_jump_24 (fun H locs N hS => ?_)
      refine lv_aload_n S.1 S.2.1 dX5_jump_27 rfl (lv_at hl 0 rfl) ?_
      refine mr_get S K N 0 (by decide) k3_138 (v := .int 1) rfl dX5_jump_28 ?_
      refine lv_if_ne (tgt := 72) S.1 S.2.1 dX5_jump_31 (by decide) (fun _ => ?_) (fun c9 => absurd c9 (by decide))
      refine lv_aload_n S.1 S.2.1 dX5_jump_72 rfl (lv_at hl 0 rfl) ?_
      refine mr_get S K N 0 (by decide) k3_138 (v := .int 1) rfl dX5_jump_73 ?_
      refine lv_if_le (tgt := 81) S.1 S.2.1 dX5_jump_76 (by decide) (fun c9 => absurd c9 (by decide)) (fun _ => ?_)
      refine lv_iconst (v := 0) S.1 S.2.1 dX5_jump_79 (by decide) ?_
      exact ne_wI S hS hr hlk ⟨congrArg (fun z => some (Value.int z)) (Eq.symm (by unfold f_X5_jump; first | rfl | (rw [if_neg c7_1, if_pos c16_2]) | (simp only [if_neg c7_1, if_pos c16_2]))), (by unfold g_X5_jump; first | exact N | (rw [if_neg c7_1, if_pos c16_2]; exact N) | (simp only [if_neg c7_1, if_pos c16_2]; exact N))⟩ dX5_jump_80

def it79_X5_spin (M : Nat → Nat → Int32) (p0 : Int32) (p1 : Int32) (g : Nat) (n : Nat) : Nat → Int32
  | 0 => 0
  | n79 + 1 => ((it79_X5_spin M p0 p1 g n n79) ||| ((if (M 9 (12 * g + n79)) = 6 then ((if (M 10 (12 * g + n79)) ≤ 0 then 0 else (M 11 (12 * g + n79))) : Int32) else 0) : Int32))
def it156_X5_spin (M : Nat → Nat → Int32) (p0 : Int32) (p1 : Int32) (g : Nat) (n : Nat) : Nat → Int32
  | 0 => 0
  | n156 + 1 => ((it156_X5_spin M p0 p1 g n n156) + ((if ((if ((p0 >>> ((nI n156) &&& 31)) &&& 1) = 1 then ((if (((it79_X5_spin M p0 p1 g n n) >>> ((nI n156) &&& 31)) &&& 1) = 0 then 1 else 0) : Int32) else 0) : Int32) = 0 then 0 else ((if 4 ≤ (it156_X5_spin M p0 p1 g n n156) then 0 else 1) : Int32)) : Int32))
def f_X5_spin (M : Nat → Nat → Int32) (p0 : Int32) (p1 : Int32) (g : Nat) (n : Nat) : Int32 :=
  if (f_X5_in p0 0 63) = 0 then 0
  else if (f_X5_in p1 1 20) = 0 then 0
  else if (f_X5_isOpen M) = 0 then 0
  else if 12 ≤ (nI n) then 0
  else if p1 < 6 then (nI n)
  else (nI n)
def g_X5_spin (M : Nat → Nat → Int32) (p0 : Int32) (p1 : Int32) (g : Nat) (n : Nat) : Nat → Nat → Int32 :=
  if (f_X5_in p0 0 63) = 0 then (up2 M 0 0 1)
  else if (f_X5_in p1 1 20) = 0 then (up2 M 0 0 1)
  else if (f_X5_isOpen M) = 0 then (up2 M 0 0 2)
  else if 12 ≤ (nI n) then (up2 M 0 0 2)
  else if p1 < 6 then (up2 (up2 (up2 (up2 (up2 (up2 (up2 (up2 (up2 M 0 0 0) 9 (12 * g + n) 6) 10 (12 * g + n) 0) 11 (12 * g + n) p0) 7 g ((M 7 g) + 10)) 0 3 0) 0 4 1) 0 5 1) 8 g (nI (n + 1)))
  else (up2 (up2 (up2 (up2 (up2 (up2 (up2 (up2 (up2 M 0 0 0) 9 (12 * g + n) 6) 10 (12 * g + n) (it156_X5_spin M p0 p1 g n 6)) 11 (12 * g + n) p0) 7 g ((M 7 g) + 10)) 0 3 0) 0 4 1) 0 5 1) 8 g (nI (n + 1)))
set_option maxHeartbeats 4000000 in
set_option maxRecDepth 100000 in
theorem m_X5_spin {D : va_G} {cA : Nat → ClassId} {B : Nat} (l : Launch) {dom : Nat → Prop} {ad : Nat → Nat} {X : Nat → va_E} {H0 : Heap} (M : Nat → Nat → Int32) (p0 : Int32) (p1 : Int32) (g : Nat) (n : Nat) (N : mw D cA B dom ad X M H0) (hg : ¬ M 0 2 = (-1) → vp_in (M 0 2) 12) (hop : ¬ f_X5_isOpen M = 0 → M 0 2 = nI g ∧ g < 12 ∧ M 8 g = nI n ∧ n ≤ 12) : MetW D cA B l yX5_spin cX5_spin 8 (some .int) 1 23 0 0 [.ref (ad 5), .int p0, .int p1] H0 (fun o h => o = some (.int (f_X5_spin M p0 p1 g n)) ∧ mw D cA B dom ad X (g_X5_spin M p0 p1 g n) h) := by
  refine MetW.of (by decide) (Nat.le_of_ble_eq_true rfl) ?_
  intro p e s m args below meth c S hr hlk hin hh K ls hl
  subst hh
  have hS : va_S (fun q => B ≤ q) s.heap s.heap [] := va_S.rf
  have hl : lv_has ls 8 [(0, .ref (ad 5)), (1, .int p0), (2, .int p1)] := hl
  refine lv_aload_n S.1 S.2.1 dX5_spin_0 rfl (lv_at hl 0 rfl) ?_
  refine lv_iload_n S.1 S.2.1 dX5_spin_1 rfl (lv_at hl 1 rfl) ?_
  refine lv_iconst (v := 0) S.1 S.2.1 dX5_spin_2 (by decide) ?_
  refine lv_bipush (v := 63) S.1 S.2.1 dX5_spin_3 (by decide) ?_
  refine nc_rS S K hS (As := [.int p0, .int 0, .int 63]) (m_X5_in l p0 0 63) k3_224 k3_225 k1_3 k3_226 (num := 3) (by decide +kernel) rfl ⟨Nat.le_of_ble_eq_true rfl, Nat.le_of_ble_eq_true rfl⟩ hl.1 rfl (Nat.le_of_ble_eq_true rfl) dX5_spin_5 ⟨Nat.le_of_ble_eq_true rfl, Nat.le_of_ble_eq_true rfl⟩ ?_
  refine lv_if_eq (tgt := 21) S.1 S.2.1 dX5_spin_8 (by decide) (fun c8_1 => ?_) (fun c8_1 => ?_)
  · refine lv_iconst (v := 1) S.1 S.2.1 dX5_spin_21 (by decide) ?_
    refine lv_goto (tgt := 51) S.1 S.2.1 dX5_spin_22 (by decide) ?_
    refine mr_put S K N hS 0 (by decide) (by unfold mscal; omega) k3_138 rfl rfl dX5_spin_51 (fun H locs N hS => ?_)
    refine lv_aload_n S.1 S.2.1 dX5_spin_54 rfl (lv_at hl 0 rfl) ?_
    refine mr_get S K N 0 (by decide) k3_138 (v := .int 1) rfl dX5_spin_55 ?_
    refine lv_if_le (tgt := 63) S.1 S.2.1 dX5_spin_58 (by decide) (fun c9 => absurd c9 (by decide)) (fun _ => ?_)
    refine lv_iconst (v := 0) S.1 S.2.1 dX5_spin_61 (by decide) ?_
    exact ne_wI S hS hr hlk ⟨congrArg (fun z => some (Value.int z)) (Eq.symm (by unfold f_X5_spin; first | rfl | (rw [if_pos c8_1]) | (simp only [if_pos c8_1]))), (by unfold g_X5_spin; first | exact N | (rw [if_pos c8_1]; exact N) | (simp only [if_pos c8_1]; exact N))⟩ dX5_spin_62
  · refine lv_iload_n S.1 S.2.1 dX5_spin_11 rfl (lv_at hl 2 rfl) ?_
    refine lv_iconst (v := 1) S.1 S.2.1 dX5_spin_12 (by decide) ?_
    refine lv_bipush (v := 20) S.1 S.2.1 dX5_spin_13 (by decide) ?_
    refine nc_rS S K hS (As := [.int p1, .int 1, .int 20]) (m_X5_in l p1 1 20) k3_224 k3_225 k1_3 k3_226 (num := 3) (by decide +kernel) rfl ⟨Nat.le_of_ble_eq_true rfl, Nat.le_of_ble_eq_true rfl⟩ hl.1 rfl (Nat.le_of_ble_eq_true rfl) dX5_spin_15 ⟨Nat.le_of_ble_eq_true rfl, Nat.le_of_ble_eq_true rfl⟩ ?_
    refine lv_if_ne (tgt := 25) S.1 S.2.1 dX5_spin_18 (by decide) (fun c18_2 => ?_) (fun c18_2 => ?_)
    · refine lv_aload_n S.1 S.2.1 dX5_spin_25 rfl (lv_at hl 0 rfl) ?_
      refine mc_rV S K N hS rfl (As := []) (m_X5_isOpen l M N hg) k3_235 k3_237 kS_19 k1_3 k3_238 (num := 0) (by decide +kernel) rfl ⟨Nat.le_of_ble_eq_true rfl, Nat.le_of_ble_eq_true rfl⟩ hl.1 rfl (Nat.le_of_ble_eq_true rfl) dX5_spin_26 ⟨Nat.le_of_ble_eq_true rfl, Nat.le_of_ble_eq_true rfl⟩ ?_
      refine lv_if_eq (tgt := 50) S.1 S.2.1 dX5_spin_29 (by decide) (fun c29_3 => ?_) (fun c29_3 => ?_)
      · refine lv_iconst (v := 2) S.1 S.2.1 dX5_spin_50 (by decide) ?_
        refine mr_put S K N hS 0 (by decide) (by unfold mscal; omega) k3_138 rfl rfl dX5_spin_51 (fun H locs N hS => ?_)
        refine lv_aload_n S.1 S.2.1 dX5_spin_54 rfl (lv_at hl 0 rfl) ?_
        refine mr_get S K N 0 (by decide) k3_138 (v := .int 2) rfl dX5_spin_55 ?_
        refine lv_if_le (tgt := 63) S.1 S.2.1 dX5_spin_58 (by decide) (fun c9 => absurd c9 (by decide)) (fun _ => ?_)
        refine lv_iconst (v := 0) S.1 S.2.1 dX5_spin_61 (by decide) ?_
        exact ne_wI S hS hr hlk ⟨congrArg (fun z => some (Value.int z)) (Eq.symm (by unfold f_X5_spin; first | rfl | (rw [if_neg c8_1, if_neg c18_2, if_pos c29_3]) | (simp only [if_neg c8_1, if_neg c18_2, if_pos c29_3]))), (by unfold g_X5_spin; first | exact N | (rw [if_neg c8_1, if_neg c18_2, if_pos c29_3]; exact N) | (simp only [if_neg c8_1, if_neg c18_2, if_pos c29_3]; exact N))⟩ dX5_spin_62
      · obtain ⟨hg1, hg2, hn1, hn2⟩ := hop c29_3
        refine lv_aload_n S.1 S.2.1 dX5_spin_32 rfl (lv_at hl 0 rfl) ?_
        refine mr_get S K N 8 (by decide) k3_146 (v := .ref (ad 18)) rfl dX5_spin_33 ?_
        refine lv_aload_n S.1 S.2.1 dX5_spin_36 rfl (lv_at hl 0 rfl) ?_
        refine mr_get S K N 2 (by decide) k3_140 (v := .int (M 0 2)) rfl dX5_spin_37 ?_
        refine nt_i (y := nI g) (hg1) ?_
        refine mr_iald S K N 8 (by decide) (by decide) rfl (v := (M 8 g)) (vp_in_nI (show g < mlen 8 by show _ < 12; omega) (by decide)) (congrArg (M 8) (nI_clamp (show g < 2 ^ 31 by omega))) dX5_spin_40 ?_
        refine nt_i (y := nI n) (hn1) ?_
        refine lv_bipush (v := 12) S.1 S.2.1 dX5_spin_41 (by decide) ?_
        refine lv_icmp_ge (tgt := 50) S.1 S.2.1 dX5_spin_43 (by decide) (fun c43_4 => ?_) (fun c43_4 => ?_)
        · refine lv_iconst (v := 2) S.1 S.2.1 dX5_spin_50 (by decide) ?_
          refine mr_put S K N hS 0 (by decide) (by unfold mscal; omega) k3_138 rfl rfl dX5_spin_51 (fun H locs N hS => ?_)
          refine lv_aload_n S.1 S.2.1 dX5_spin_54 rfl (lv_at hl 0 rfl) ?_
          refine mr_get S K N 0 (by decide) k3_138 (v := .int 2) rfl dX5_spin_55 ?_
          refine lv_if_le (tgt := 63) S.1 S.2.1 dX5_spin_58 (by decide) (fun c9 => absurd c9 (by decide)) (fun _ => ?_)
          refine lv_iconst (v := 0) S.1 S.2.1 dX5_spin_61 (by decide) ?_
          exact ne_wI S hS hr hlk ⟨congrArg (fun z => some (Value.int z)) (Eq.symm (by unfold f_X5_spin; first | rfl | (rw [if_neg c8_1, if_neg c18_2, if_neg c29_3, if_pos c43_4]) | (simp only [if_neg c8_1, if_neg c18_2, if_neg c29_3, if_pos c43_4]))), (by unfold g_X5_spin; first | exact N | (rw [if_neg c8_1, if_neg c18_2, if_neg c29_3, if_pos c43_4]; exact N) | (simp only [if_neg c8_1, if_neg c18_2, if_neg c29_3, if_pos c43_4]; exact N))⟩ dX5_spin_62
        · have hn3 := nlt_nat (a := 12) c43_4 (by omega)
          refine lv_iconst (v := 0) S.1 S.2.1 dX5_spin_46 (by decide) ?_
          refine lv_goto (tgt := 51) S.1 S.2.1 dX5_spin_47 (by decide) ?_
          refine mr_put S K N hS 0 (by decide) (by unfold mscal; omega) k3_138 rfl rfl dX5_spin_51 (fun H locs N hS => ?_)
          refine lv_aload_n S.1 S.2.1 dX5_spin_54 rfl (lv_at hl 0 rfl) ?_
          refine mr_get S K N 0 (by decide) k3_138 (v := .int 0) rfl dX5_spin_55 ?_
          refine lv_if_le (tgt := 63) S.1 S.2.1 dX5_spin_58 (by decide) (fun _ => ?_) (fun c9 => absurd (by decide) c9)
          refine lv_aload_n S.1 S.2.1 dX5_spin_63 rfl (lv_at hl 0 rfl) ?_
          refine mr_get S K N 8 (by decide) k3_146 (v := .ref (ad 18)) rfl dX5_spin_64 ?_
          refine lv_aload_n S.1 S.2.1 dX5_spin_67 rfl (lv_at hl 0 rfl) ?_
          refine mr_get S K N 2 (by decide) k3_140 (v := .int (M 0 2)) rfl dX5_spin_68 ?_
          refine nt_i (y := nI g) (hg1) ?_
          refine mr_iald S K N 8 (by decide) (by decide) rfl (v := (M 8 g)) (vp_in_nI (show g < mlen 8 by show _ < 12; omega) (by decide)) ((congrArg ((up2 M 0 0 0) 8) (nI_clamp (show g < 2 ^ 31 by omega))).trans rfl) dX5_spin_71 ?_
          refine nt_i (y := nI n) (hn1) ?_
          refine lv_istore_n (lv' := [(3, .int (nI n)), (0, .ref (ad 5)), (1, .int p0), (2, .int p1)]) S.1 S.2.1 dX5_spin_72 rfl hl (by decide) rfl (fun ls hl => ?_)
          refine lv_iconst (v := 0) S.1 S.2.1 dX5_spin_73 (by decide) ?_
          refine lv_istore (lv' := [(4, .int 0), (3, .int (nI n)), (0, .ref (ad 5)), (1, .int p0), (2, .int p1)]) S.1 S.2.1 dX5_spin_74 hl (by decide) rfl (fun ls hl => ?_)
          refine lv_iconst (v := 0) S.1 S.2.1 dX5_spin_76 (by decide) ?_
          refine lv_istore (lv' := [(5, .int 0), (4, .int 0), (3, .int (nI n)), (0, .ref (ad 5)), (1, .int p0), (2, .int p1)]) S.1 S.2.1 dX5_spin_77 hl (by decide) rfl (fun ls hl => ?_)
          refine nl (h := 79) (N := n) (n := 8) (L := fun i79 : Nat => [(5, .int (nI i79)), (4, .int (it79_X5_spin M p0 p1 g n i79)), (3, .int (nI n)), (0, .ref (ad 5)), (1, .int p0), (2, .int p1)]) (fun ls hl => ?_) (fun i79 hi79 ih79 ls hl => ?_) ls (lv_sub hl [0, 1, 2, 3, 4, 5] rfl)
          · try dsimp only at hl
            refine lv_iload S.1 S.2.1 dX5_spin_79 (lv_at hl 0 rfl) ?_
            refine lv_iload_n S.1 S.2.1 dX5_spin_81 rfl (lv_at hl 2 rfl) ?_
            refine lv_icmp_ge (tgt := 150) S.1 S.2.1 dX5_spin_82 (by decide) (fun _ => ?_) (fun c9 => absurd (nI_le (Nat.le_refl _) (by first | omega | decide)) c9)
            refine lv_iconst (v := 0) S.1 S.2.1 dX5_spin_150 (by decide) ?_
            refine lv_istore (lv' := [(5, .int 0), (4, .int (it79_X5_spin M p0 p1 g n n)), (3, .int (nI n)), (0, .ref (ad 5)), (1, .int p0), (2, .int p1)]) S.1 S.2.1 dX5_spin_151 hl (by decide) rfl (fun ls hl => ?_)
            refine lv_iconst (v := 0) S.1 S.2.1 dX5_spin_153 (by decide) ?_
            refine lv_istore (lv' := [(6, .int 0), (5, .int 0), (4, .int (it79_X5_spin M p0 p1 g n n)), (3, .int (nI n)), (0, .ref (ad 5)), (1, .int p0), (2, .int p1)]) S.1 S.2.1 dX5_spin_154 hl (by decide) rfl (fun ls hl => ?_)
            by_cases hrd : p1 < 6
            · refine lv_iload S.1 S.2.1 dX5_spin_156 (lv_at hl 0 rfl) ?_
              refine lv_bipush (v := 6) S.1 S.2.1 dX5_spin_158 (by decide) ?_
              refine lv_icmp_ge (tgt := 223) S.1 S.2.1 dX5_spin_160 (by decide) (fun c9 => absurd c9 (by decide)) (fun _ => ?_)
              refine lv_iload_n S.1 S.2.1 dX5_spin_163 rfl (lv_at hl 6 rfl) ?_
              refine lv_bipush (v := 6) S.1 S.2.1 dX5_spin_164 (by decide) ?_
              refine lv_icmp_lt (tgt := 223) S.1 S.2.1 dX5_spin_166 (by decide) (fun _ => ?_) (fun c9 => absurd (hrd) c9)
              refine lv_aload_n S.1 S.2.1 dX5_spin_223 rfl (lv_at hl 4 rfl) ?_
              refine mr_get S K N 9 (by decide) k3_147 (v := .ref (ad 19)) rfl dX5_spin_224 ?_
              refine lv_aload_n S.1 S.2.1 dX5_spin_227 rfl (lv_at hl 4 rfl) ?_
              refine mr_get S K N 2 (by decide) k3_140 (v := .int (M 0 2)) rfl dX5_spin_228 ?_
              refine nt_i (y := nI g) (hg1) ?_
              refine lv_iload_n S.1 S.2.1 dX5_spin_231 rfl (lv_at hl 3 rfl) ?_
              refine nc_rS S K hS (As := [.int (nI g), .int (nI n)]) (m_X5_at l g n) k4_7 k4_8 k1_3 k4_9 (num := 2) (by decide +kernel) rfl ⟨Nat.le_of_ble_eq_true rfl, Nat.le_of_ble_eq_true rfl⟩ hl.1 rfl (Nat.le_of_ble_eq_true rfl) dX5_spin_232 ⟨Nat.le_of_ble_eq_true rfl, Nat.le_of_ble_eq_true rfl⟩ ?_
              refine nt_i (y := nI (12 * g + n)) (rfl) ?_
              refine lv_bipush (v := 6) S.1 S.2.1 dX5_spin_235 (by decide) ?_
              refine mr_iast S K N hS 9 (by decide) (by decide) rfl (vp_in_nI (show (12 * g + n) < mlen 9 by show _ < 144; omega) (by decide)) (12 * g + n) (nI_clamp (show (12 * g + n) < 2 ^ 31 by omega)) dX5_spin_237 (fun H locs N hS => ?_)
              refine lv_aload_n S.1 S.2.1 dX5_spin_238 rfl (lv_at hl 4 rfl) ?_
              refine mr_get S K N 10 (by decide) k3_148 (v := .ref (ad 20)) rfl dX5_spin_239 ?_
              refine lv_aload_n S.1 S.2.1 dX5_spin_242 rfl (lv_at hl 4 rfl) ?_
              refine mr_get S K N 2 (by decide) k3_140 (v := .int (M 0 2)) rfl dX5_spin_243 ?_
              refine nt_i (y := nI g) (hg1) ?_
              refine lv_iload_n S.1 S.2.1 dX5_spin_246 rfl (lv_at hl 3 rfl) ?_
              refine nc_rS S K hS (As := [.int (nI g), .int (nI n)]) (m_X5_at l g n) k4_7 k4_8 k1_3 k4_9 (num := 2) (by decide +kernel) rfl ⟨Nat.le_of_ble_eq_true rfl, Nat.le_of_ble_eq_true rfl⟩ hl.1 rfl (Nat.le_of_ble_eq_true rfl) dX5_spin_247 ⟨Nat.le_of_ble_eq_true rfl, Nat.le_of_ble_eq_true rfl⟩ ?_
              refine nt_i (y := nI (12 * g + n)) (rfl) ?_
              refine lv_iload S.1 S.2.1 dX5_spin_250 (lv_at hl 1 rfl) ?_
              refine mr_iast S K N hS 10 (by decide) (by decide) rfl (vp_in_nI (show (12 * g + n) < mlen 10 by show _ < 144; omega) (by decide)) (12 * g + n) (nI_clamp (show (12 * g + n) < 2 ^ 31 by omega)) dX5_spin_252 (fun H locs N hS => ?_)
              refine lv_aload_n S.1 S.2.1 dX5_spin_253 rfl (lv_at hl 4 rfl) ?_
              refine mr_get S K N 11 (by decide) k3_149 (v := .ref (ad 21)) rfl dX5_spin_254 ?_
              refine lv_aload_n S.1 S.2.1 dX5_spin_257 rfl (lv_at hl 4 rfl) ?_
              refine mr_get S K N 2 (by decide) k3_140 (v := .int (M 0 2)) rfl dX5_spin_258 ?_
              refine nt_i (y := nI g) (hg1) ?_
              refine lv_iload_n S.1 S.2.1 dX5_spin_261 rfl (lv_at hl 3 rfl) ?_
              refine nc_rS S K hS (As := [.int (nI g), .int (nI n)]) (m_X5_at l g n) k4_7 k4_8 k1_3 k4_9 (num := 2) (by decide +kernel) rfl ⟨Nat.le_of_ble_eq_true rfl, Nat.le_of_ble_eq_true rfl⟩ hl.1 rfl (Nat.le_of_ble_eq_true rfl) dX5_spin_262 ⟨Nat.le_of_ble_eq_true rfl, Nat.le_of_ble_eq_true rfl⟩ ?_
              refine nt_i (y := nI (12 * g + n)) (rfl) ?_
              refine lv_iload_n S.1 S.2.1 dX5_spin_265 rfl (lv_at hl 5 rfl) ?_
              refine mr_iast S K N hS 11 (by decide) (by decide) rfl (vp_in_nI (show (12 * g + n) < mlen 11 by show _ < 144; omega) (by decide)) (12 * g + n) (nI_clamp (show (12 * g + n) < 2 ^ 31 by omega)) dX5_spin_266 (fun H locs N hS => ?_)
              refine lv_aload_n S.1 S.2.1 dX5_spin_267 rfl (lv_at hl 4 rfl) ?_
              refine mr_get S K N 7 (by decide) k3_145 (v := .ref (ad 17)) rfl dX5_spin_268 ?_
              refine lv_aload_n S.1 S.2.1 dX5_spin_271 rfl (lv_at hl 4 rfl) ?_
              refine mr_get S K N 2 (by decide) k3_140 (v := .int (M 0 2)) rfl dX5_spin_272 ?_
              refine nt_i (y := nI g) (hg1) ?_
              refine lv_dup2_11 S.1 S.2.1 dX5_spin_275 rfl rfl ?_
              refine mr_iald S K N 7 (by decide) (by decide) rfl (v := (M 7 g)) (vp_in_nI (show g < mlen 7 by show _ < 12; omega) (by decide)) ((congrArg ((up2 (up2 (up2 (up2 M 0 0 0) 9 (12 * g + n) 6) 10 (12 * g + n) 0) 11 (12 * g + n) p0) 7) (nI_clamp (show g < 2 ^ 31 by omega))).trans rfl) dX5_spin_276 ?_
              refine lv_bipush (v := 10) S.1 S.2.1 dX5_spin_277 (by decide) ?_
              refine lv_iadd S.1 S.2.1 dX5_spin_279 ?_
              refine mr_iast S K N hS 7 (by decide) (by decide) rfl (vp_in_nI (show g < mlen 7 by show _ < 12; omega) (by decide)) g (nI_clamp (show g < 2 ^ 31 by omega)) dX5_spin_280 (fun H locs N hS => ?_)
              refine lv_aload_n S.1 S.2.1 dX5_spin_281 rfl (lv_at hl 4 rfl) ?_
              refine lv_iconst (v := 0) S.1 S.2.1 dX5_spin_282 (by decide) ?_
              refine lv_iconst (v := 1) S.1 S.2.1 dX5_spin_283 (by decide) ?_
              refine lv_iconst (v := 1) S.1 S.2.1 dX5_spin_284 (by decide) ?_
              refine mc_wV S K N hS rfl (As := [.int 0, .int 1, .int 1]) (m_X5_stands l (up2 (up2 (up2 (up2 (up2 M 0 0 0) 9 (12 * g + n) 6) 10 (12 * g + n) 0) 11 (12 * g + n) p0) 7 g ((M 7 g) + 10)) 0 1 1 N) k3_227 k3_229 kS_18 k1_3 k3_230 (num := 3) (by decide +kernel) rfl ⟨Nat.le_of_ble_eq_true rfl, Nat.le_of_ble_eq_true rfl⟩ hl.1 rfl (Nat.le_of_ble_eq_true rfl) dX5_spin_285 ⟨Nat.le_of_ble_eq_true rfl, Nat.le_of_ble_eq_true rfl⟩ (fun v9 H locs hP hS => ?_)
              obtain ⟨rfl, N⟩ := hP
              have N : mw D cA B dom ad X (up2 (up2 (up2 (up2 (up2 (up2 (up2 (up2 M 0 0 0) 9 (12 * g + n) 6) 10 (12 * g + n) 0) 11 (12 * g + n) p0) 7 g ((M 7 g) + 10)) 0 3 0) 0 4 1) 0 5 1) H := N
              refine W.eq (g2 := F0 m 288 ls []) rfl ?_
              refine lv_aload_n S.1 S.2.1 dX5_spin_288 rfl (lv_at hl 4 rfl) ?_
              refine mr_get S K N 8 (by decide) k3_146 (v := .ref (ad 18)) rfl dX5_spin_289 ?_
              refine lv_aload_n S.1 S.2.1 dX5_spin_292 rfl (lv_at hl 4 rfl) ?_
              refine mr_get S K N 2 (by decide) k3_140 (v := .int (M 0 2)) rfl dX5_spin_293 ?_
              refine nt_i (y := nI g) (hg1) ?_
              refine lv_dup2_11 S.1 S.2.1 dX5_spin_296 rfl rfl ?_
              refine mr_iald S K N 8 (by decide) (by decide) rfl (v := (M 8 g)) (vp_in_nI (show g < mlen 8 by show _ < 12; omega) (by decide)) ((congrArg ((up2 (up2 (up2 (up2 (up2 (up2 (up2 (up2 M 0 0 0) 9 (12 * g + n) 6) 10 (12 * g + n) 0) 11 (12 * g + n) p0) 7 g ((M 7 g) + 10)) 0 3 0) 0 4 1) 0 5 1) 8) (nI_clamp (show g < 2 ^ 31 by omega))).trans rfl) dX5_spin_297 ?_
              refine nt_i (y := nI n) (hn1) ?_
              refine lv_iconst (v := 1) S.1 S.2.1 dX5_spin_298 (by decide) ?_
              refine lv_iadd S.1 S.2.1 dX5_spin_299 ?_
              refine nt_i (y := nI (n + 1)) (nI_add n 1) ?_
              refine mr_iast S K N hS 8 (by decide) (by decide) rfl (vp_in_nI (show g < mlen 8 by show _ < 12; omega) (by decide)) g (nI_clamp (show g < 2 ^ 31 by omega)) dX5_spin_300 (fun H locs N hS => ?_)
              refine lv_iload_n S.1 S.2.1 dX5_spin_301 rfl (lv_at hl 3 rfl) ?_
              exact ne_wI S hS hr hlk ⟨congrArg (fun z => some (Value.int z)) (Eq.symm (by unfold f_X5_spin; first | rfl | (rw [if_neg c8_1, if_neg c18_2, if_neg c29_3, if_neg c43_4, if_pos hrd]) | (simp only [if_neg c8_1, if_neg c18_2, if_neg c29_3, if_neg c43_4, if_pos hrd]))), (by unfold g_X5_spin; first | exact N | (rw [if_neg c8_1, if_neg c18_2, if_neg c29_3, if_neg c43_4, if_pos hrd]; exact N) | (simp only [if_neg c8_1, if_neg c18_2, if_neg c29_3, if_neg c43_4, if_pos hrd]; exact N))⟩ dX5_spin_302
            · refine nl (h := 156) (N := 6) (n := 8) (L := fun i156 : Nat => [(6, .int (nI i156)), (5, .int (it156_X5_spin M p0 p1 g n i156)), (4, .int (it79_X5_spin M p0 p1 g n n)), (3, .int (nI n)), (0, .ref (ad 5)), (1, .int p0), (2, .int p1)]) (fun ls hl => ?_) (fun i156 hi156 ih156 ls hl => ?_) ls (lv_sub hl [0, 1, 2, 3, 4, 5, 6] rfl)
              · try dsimp only at hl
                refine lv_iload S.1 S.2.1 dX5_spin_156 (lv_at hl 0 rfl) ?_
                refine lv_bipush (v := 6) S.1 S.2.1 dX5_spin_158 (by decide) ?_
                refine lv_icmp_ge (tgt := 223) S.1 S.2.1 dX5_spin_160 (by decide) (fun _ => ?_) (fun c9 => absurd (nI_le (Nat.le_refl _) (by first | omega | decide)) c9)
                refine lv_aload_n S.1 S.2.1 dX5_spin_223 rfl (lv_at hl 4 rfl) ?_
                refine mr_get S K N 9 (by decide) k3_147 (v := .ref (ad 19)) rfl dX5_spin_224 ?_
                refine lv_aload_n S.1 S.2.1 dX5_spin_227 rfl (lv_at hl 4 rfl) ?_
                refine mr_get S K N 2 (by decide) k3_140 (v := .int (M 0 2)) rfl dX5_spin_228 ?_
                refine nt_i (y := nI g) (hg1) ?_
                refine lv_iload_n S.1 S.2.1 dX5_spin_231 rfl (lv_at hl 3 rfl) ?_
                refine nc_rS S K hS (As := [.int (nI g), .int (nI n)]) (m_X5_at l g n) k4_7 k4_8 k1_3 k4_9 (num := 2) (by decide +kernel) rfl ⟨Nat.le_of_ble_eq_true rfl, Nat.le_of_ble_eq_true rfl⟩ hl.1 rfl (Nat.le_of_ble_eq_true rfl) dX5_spin_232 ⟨Nat.le_of_ble_eq_true rfl, Nat.le_of_ble_eq_true rfl⟩ ?_
                refine nt_i (y := nI (12 * g + n)) (rfl) ?_
                refine lv_bipush (v := 6) S.1 S.2.1 dX5_spin_235 (by decide) ?_
                refine mr_iast S K N hS 9 (by decide) (by decide) rfl (vp_in_nI (show (12 * g + n) < mlen 9 by show _ < 144; omega) (by decide)) (12 * g + n) (nI_clamp (show (12 * g + n) < 2 ^ 31 by omega)) dX5_spin_237 (fun H locs N hS => ?_)
                refine lv_aload_n S.1 S.2.1 dX5_spin_238 rfl (lv_at hl 4 rfl) ?_
                refine mr_get S K N 10 (by decide) k3_148 (v := .ref (ad 20)) rfl dX5_spin_239 ?_
                refine lv_aload_n S.1 S.2.1 dX5_spin_242 rfl (lv_at hl 4 rfl) ?_
                refine mr_get S K N 2 (by decide) k3_140 (v := .int (M 0 2)) rfl dX5_spin_243 ?_
                refine nt_i (y := nI g) (hg1) ?_
                refine lv_iload_n S.1 S.2.1 dX5_spin_246 rfl (lv_at hl 3 rfl) ?_
                refine nc_rS S K hS (As := [.int (nI g), .int (nI n)]) (m_X5_at l g n) k4_7 k4_8 k1_3 k4_9 (num := 2) (by decide +kernel) rfl ⟨Nat.le_of_ble_eq_true rfl, Nat.le_of_ble_eq_true rfl⟩ hl.1 rfl (Nat.le_of_ble_eq_true rfl) dX5_spin_247 ⟨Nat.le_of_ble_eq_true rfl, Nat.le_of_ble_eq_true rfl⟩ ?_
                refine nt_i (y := nI (12 * g + n)) (rfl) ?_
                refine lv_iload S.1 S.2.1 dX5_spin_250 (lv_at hl 1 rfl) ?_
                refine mr_iast S K N hS 10 (by decide) (by decide) rfl (vp_in_nI (show (12 * g + n) < mlen 10 by show _ < 144; omega) (by decide)) (12 * g + n) (nI_clamp (show (12 * g + n) < 2 ^ 31 by omega)) dX5_spin_252 (fun H locs N hS => ?_)
                refine lv_aload_n S.1 S.2.1 dX5_spin_253 rfl (lv_at hl 4 rfl) ?_
                refine mr_get S K N 11 (by decide) k3_149 (v := .ref (ad 21)) rfl dX5_spin_254 ?_
                refine lv_aload_n S.1 S.2.1 dX5_spin_257 rfl (lv_at hl 4 rfl) ?_
                refine mr_get S K N 2 (by decide) k3_140 (v := .int (M 0 2)) rfl dX5_spin_258 ?_
                refine nt_i (y := nI g) (hg1) ?_
                refine lv_iload_n S.1 S.2.1 dX5_spin_261 rfl (lv_at hl 3 rfl) ?_
                refine nc_rS S K hS (As := [.int (nI g), .int (nI n)]) (m_X5_at l g n) k4_7 k4_8 k1_3 k4_9 (num := 2) (by decide +kernel) rfl ⟨Nat.le_of_ble_eq_true rfl, Nat.le_of_ble_eq_true rfl⟩ hl.1 rfl (Nat.le_of_ble_eq_true rfl) dX5_spin_262 ⟨Nat.le_of_ble_eq_true rfl, Nat.le_of_ble_eq_true rfl⟩ ?_
                refine nt_i (y := nI (12 * g + n)) (rfl) ?_
                refine lv_iload_n S.1 S.2.1 dX5_spin_265 rfl (lv_at hl 5 rfl) ?_
                refine mr_iast S K N hS 11 (by decide) (by decide) rfl (vp_in_nI (show (12 * g + n) < mlen 11 by show _ < 144; omega) (by decide)) (12 * g + n) (nI_clamp (show (12 * g + n) < 2 ^ 31 by omega)) dX5_spin_266 (fun H locs N hS => ?_)
                refine lv_aload_n S.1 S.2.1 dX5_spin_267 rfl (lv_at hl 4 rfl) ?_
                refine mr_get S K N 7 (by decide) k3_145 (v := .ref (ad 17)) rfl dX5_spin_268 ?_
                refine lv_aload_n S.1 S.2.1 dX5_spin_271 rfl (lv_at hl 4 rfl) ?_
                refine mr_get S K N 2 (by decide) k3_140 (v := .int (M 0 2)) rfl dX5_spin_272 ?_
                refine nt_i (y := nI g) (hg1) ?_
                refine lv_dup2_11 S.1 S.2.1 dX5_spin_275 rfl rfl ?_
                refine mr_iald S K N 7 (by decide) (by decide) rfl (v := (M 7 g)) (vp_in_nI (show g < mlen 7 by show _ < 12; omega) (by decide)) ((congrArg ((up2 (up2 (up2 (up2 M 0 0 0) 9 (12 * g + n) 6) 10 (12 * g + n) (it156_X5_spin M p0 p1 g n 6)) 11 (12 * g + n) p0) 7) (nI_clamp (show g < 2 ^ 31 by omega))).trans rfl) dX5_spin_276 ?_
                refine lv_bipush (v := 10) S.1 S.2.1 dX5_spin_277 (by decide) ?_
                refine lv_iadd S.1 S.2.1 dX5_spin_279 ?_
                refine mr_iast S K N hS 7 (by decide) (by decide) rfl (vp_in_nI (show g < mlen 7 by show _ < 12; omega) (by decide)) g (nI_clamp (show g < 2 ^ 31 by omega)) dX5_spin_280 (fun H locs N hS => ?_)
                refine lv_aload_n S.1 S.2.1 dX5_spin_281 rfl (lv_at hl 4 rfl) ?_
                refine lv_iconst (v := 0) S.1 S.2.1 dX5_spin_282 (by decide) ?_
                refine lv_iconst (v := 1) S.1 S.2.1 dX5_spin_283 (by decide) ?_
                refine lv_iconst (v := 1) S.1 S.2.1 dX5_spin_284 (by decide) ?_
                refine mc_wV S K N hS rfl (As := [.int 0, .int 1, .int 1]) (m_X5_stands l (up2 (up2 (up2 (up2 (up2 M 0 0 0) 9 (12 * g + n) 6) 10 (12 * g + n) (it156_X5_spin M p0 p1 g n 6)) 11 (12 * g + n) p0) 7 g ((M 7 g) + 10)) 0 1 1 N) k3_227 k3_229 kS_18 k1_3 k3_230 (num := 3) (by decide +kernel) rfl ⟨Nat.le_of_ble_eq_true rfl, Nat.le_of_ble_eq_true rfl⟩ hl.1 rfl (Nat.le_of_ble_eq_true rfl) dX5_spin_285 ⟨Nat.le_of_ble_eq_true rfl, Nat.le_of_ble_eq_true rfl⟩ (fun v9 H locs hP hS => ?_)
                obtain ⟨rfl, N⟩ := hP
                have N : mw D cA B dom ad X (up2 (up2 (up2 (up2 (up2 (up2 (up2 (up2 M 0 0 0) 9 (12 * g + n) 6) 10 (12 * g + n) (it156_X5_spin M p0 p1 g n 6)) 11 (12 * g + n) p0) 7 g ((M 7 g) + 10)) 0 3 0) 0 4 1) 0 5 1) H := N
                refine W.eq (g2 := F0 m 288 ls []) rfl ?_
                refine lv_aload_n S.1 S.2.1 dX5_spin_288 rfl (lv_at hl 4 rfl) ?_
                refine mr_get S K N 8 (by decide) k3_146 (v := .ref (ad 18)) rfl dX5_spin_289 ?_
                refine lv_aload_n S.1 S.2.1 dX5_spin_292 rfl (lv_at hl 4 rfl) ?_
                refine mr_get S K N 2 (by decide) k3_140 (v := .int (M 0 2)) rfl dX5_spin_293 ?_
                refine nt_i (y := nI g) (hg1) ?_
                refine lv_dup2_11 S.1 S.2.1 dX5_spin_296 rfl rfl ?_
                refine mr_iald S K N 8 (by decide) (by decide) rfl (v := (M 8 g)) (vp_in_nI (show g < mlen 8 by show _ < 12; omega) (by decide)) ((congrArg ((up2 (up2 (up2 (up2 (up2 (up2 (up2 (up2 M 0 0 0) 9 (12 * g + n) 6) 10 (12 * g + n) (it156_X5_spin M p0 p1 g n 6)) 11 (12 * g + n) p0) 7 g ((M 7 g) + 10)) 0 3 0) 0 4 1) 0 5 1) 8) (nI_clamp (show g < 2 ^ 31 by omega))).trans rfl) dX5_spin_297 ?_
                refine nt_i (y := nI n) (hn1) ?_
                refine lv_iconst (v := 1) S.1 S.2.1 dX5_spin_298 (by decide) ?_
                refine lv_iadd S.1 S.2.1 dX5_spin_299 ?_
                refine nt_i (y := nI (n + 1)) (nI_add n 1) ?_
                refine mr_iast S K N hS 8 (by decide) (by decide) rfl (vp_in_nI (show g < mlen 8 by show _ < 12; omega) (by decide)) g (nI_clamp (show g < 2 ^ 31 by omega)) dX5_spin_300 (fun H locs N hS => ?_)
                refine lv_iload_n S.1 S.2.1 dX5_spin_301 rfl (lv_at hl 3 rfl) ?_
                exact ne_wI S hS hr hlk ⟨congrArg (fun z => some (Value.int z)) (Eq.symm (by unfold f_X5_spin; first | rfl | (rw [if_neg c8_1, if_neg c18_2, if_neg c29_3, if_neg c43_4, if_neg hrd]) | (simp only [if_neg c8_1, if_neg c18_2, if_neg c29_3, if_neg c43_4, if_neg hrd]))), (by unfold g_X5_spin; first | exact N | (rw [if_neg c8_1, if_neg c18_2, if_neg c29_3, if_neg c43_4, if_neg hrd]; exact N) | (simp only [if_neg c8_1, if_neg c18_2, if_neg c29_3, if_neg c43_4, if_neg hrd]; exact N))⟩ dX5_spin_302
              · try dsimp only at hl
                refine lv_iload S.1 S.2.1 dX5_spin_156 (lv_at hl 0 rfl) ?_
                refine lv_bipush (v := 6) S.1 S.2.1 dX5_spin_158 (by decide) ?_
                refine lv_icmp_ge (tgt := 223) S.1 S.2.1 dX5_spin_160 (by decide) (fun c9 => absurd c9 (nI_ge (hi156) (by first | omega | decide))) (fun _ => ?_)
                refine lv_iload_n S.1 S.2.1 dX5_spin_163 rfl (lv_at hl 6 rfl) ?_
                refine lv_bipush (v := 6) S.1 S.2.1 dX5_spin_164 (by decide) ?_
                refine lv_icmp_lt (tgt := 223) S.1 S.2.1 dX5_spin_166 (by decide) (fun c9 => absurd c9 (hrd)) (fun _ => ?_)
                refine lv_iload_n S.1 S.2.1 dX5_spin_169 rfl (lv_at hl 5 rfl) ?_
                refine lv_iload S.1 S.2.1 dX5_spin_170 (lv_at hl 0 rfl) ?_
                refine lv_ishr S.1 S.2.1 dX5_spin_172 ?_
                refine lv_iconst (v := 1) S.1 S.2.1 dX5_spin_173 (by decide) ?_
                refine lv_iand S.1 S.2.1 dX5_spin_174 ?_
                refine lv_iconst (v := 1) S.1 S.2.1 dX5_spin_175 (by decide) ?_
                refine nj (J := 194) (V := ((if ((p0 >>> ((nI i156) &&& 31)) &&& 1) = 1 then ((if (((it79_X5_spin M p0 p1 g n n) >>> ((nI i156) &&& 31)) &&& 1) = 0 then 1 else 0) : Int32) else 0) : Int32)) (L := fun v176_5 => [(6, .int (nI i156)), (5, .int (it156_X5_spin M p0 p1 g n i156)), (4, .int (it79_X5_spin M p0 p1 g n n)), (3, .int (nI n)), (0, .ref (ad 5)), (1, .int p0), (2, .int p1)]) (St := fun v176_5 => [.int v176_5]) (n := 8) (fun v176_5 ls h176_7 hl => ?_) (fun j176_6 => ?_)
                · try dsimp only at hl ⊢
                  subst h176_7
                  refine lv_istore (lv' := [(7, .int ((if ((p0 >>> ((nI i156) &&& 31)) &&& 1) = 1 then ((if (((it79_X5_spin M p0 p1 g n n) >>> ((nI i156) &&& 31)) &&& 1) = 0 then 1 else 0) : Int32) else 0) : Int32)), (6, .int (nI i156)), (5, .int (it156_X5_spin M p0 p1 g n i156)), (4, .int (it79_X5_spin M p0 p1 g n n)), (3, .int (nI n)), (0, .ref (ad 5)), (1, .int p0), (2, .int p1)]) S.1 S.2.1 dX5_spin_194 hl (by decide) rfl (fun ls hl => ?_)
                  refine lv_iload S.1 S.2.1 dX5_spin_196 (lv_at hl 2 rfl) ?_
                  refine lv_iload S.1 S.2.1 dX5_spin_198 (lv_at hl 0 rfl) ?_
                  refine nj (J := 214) (V := ((if ((if ((p0 >>> ((nI i156) &&& 31)) &&& 1) = 1 then ((if (((it79_X5_spin M p0 p1 g n n) >>> ((nI i156) &&& 31)) &&& 1) = 0 then 1 else 0) : Int32) else 0) : Int32) = 0 then 0 else ((if 4 ≤ (it156_X5_spin M p0 p1 g n i156) then 0 else 1) : Int32)) : Int32)) (L := fun v200_8 => [(7, .int ((if ((p0 >>> ((nI i156) &&& 31)) &&& 1) = 1 then ((if (((it79_X5_spin M p0 p1 g n n) >>> ((nI i156) &&& 31)) &&& 1) = 0 then 1 else 0) : Int32) else 0) : Int32)), (6, .int (nI i156)), (5, .int (it156_X5_spin M p0 p1 g n i156)), (4, .int (it79_X5_spin M p0 p1 g n n)), (3, .int (nI n)), (0, .ref (ad 5)), (1, .int p0), (2, .int p1)]) (St := fun v200_8 => [.int v200_8, .int (it156_X5_spin M p0 p1 g n i156)]) (n := 8) (fun v200_8 ls h200_10 hl => ?_) (fun j200_9 => ?_)
                  · try dsimp only at hl ⊢
                    subst h200_10
                    refine lv_iadd S.1 S.2.1 dX5_spin_214 ?_
                    refine lv_istore (lv' := [(5, .int ((it156_X5_spin M p0 p1 g n i156) + ((if ((if ((p0 >>> ((nI i156) &&& 31)) &&& 1) = 1 then ((if (((it79_X5_spin M p0 p1 g n n) >>> ((nI i156) &&& 31)) &&& 1) = 0 then 1 else 0) : Int32) else 0) : Int32) = 0 then 0 else ((if 4 ≤ (it156_X5_spin M p0 p1 g n i156) then 0 else 1) : Int32)) : Int32))), (7, .int ((if ((p0 >>> ((nI i156) &&& 31)) &&& 1) = 1 then ((if (((it79_X5_spin M p0 p1 g n n) >>> ((nI i156) &&& 31)) &&& 1) = 0 then 1 else 0) : Int32) else 0) : Int32)), (6, .int (nI i156)), (4, .int (it79_X5_spin M p0 p1 g n n)), (3, .int (nI n)), (0, .ref (ad 5)), (1, .int p0), (2, .int p1)]) S.1 S.2.1 dX5_spin_215 hl (by decide) rfl (fun ls hl => ?_)
                    refine lv_iinc (v := nI (i156 + 1)) (lv' := [(6, .int (nI (i156 + 1))), (5, .int ((it156_X5_spin M p0 p1 g n i156) + ((if ((if ((p0 >>> ((nI i156) &&& 31)) &&& 1) = 1 then ((if (((it79_X5_spin M p0 p1 g n n) >>> ((nI i156) &&& 31)) &&& 1) = 0 then 1 else 0) : Int32) else 0) : Int32) = 0 then 0 else ((if 4 ≤ (it156_X5_spin M p0 p1 g n i156) then 0 else 1) : Int32)) : Int32))), (7, .int ((if ((p0 >>> ((nI i156) &&& 31)) &&& 1) = 1 then ((if (((it79_X5_spin M p0 p1 g n n) >>> ((nI i156) &&& 31)) &&& 1) = 0 then 1 else 0) : Int32) else 0) : Int32)), (4, .int (it79_X5_spin M p0 p1 g n n)), (3, .int (nI n)), (0, .ref (ad 5)), (1, .int p0), (2, .int p1)]) S.1 S.2.1 dX5_spin_217 hl (k := 2) rfl (nI_add i156 1) (by decide) rfl (fun ls hl => ?_)
                    refine lv_goto (tgt := 156) S.1 S.2.1 dX5_spin_220 (by decide) ?_
                    exact ih156 ls (lv_sub hl [0, 1, 3, 4, 5, 6, 7] rfl)
                  · refine lv_if_eq (tgt := 213) S.1 S.2.1 dX5_spin_200 (by decide) (fun c200_11 => ?_) (fun c200_11 => ?_)
                    · refine lv_iconst (v := 0) S.1 S.2.1 dX5_spin_213 (by decide) ?_
                      exact j200_9 _ _ (by first | rfl | (rw [if_pos c200_11]) | (simp only [if_pos c200_11])) (lv_sub hl [0, 1, 2, 3, 4, 5, 6, 7] rfl)
                    · refine lv_iload S.1 S.2.1 dX5_spin_203 (lv_at hl 2 rfl) ?_
                      refine lv_iconst (v := 4) S.1 S.2.1 dX5_spin_205 (by decide) ?_
                      refine lv_icmp_ge (tgt := 213) S.1 S.2.1 dX5_spin_206 (by decide) (fun c206_12 => ?_) (fun c206_12 => ?_)
                      · refine lv_iconst (v := 0) S.1 S.2.1 dX5_spin_213 (by decide) ?_
                        exact j200_9 _ _ (by first | rfl | (rw [if_neg c200_11, if_pos c206_12]) | (simp only [if_neg c200_11, if_pos c206_12])) (lv_sub hl [0, 1, 2, 3, 4, 5, 6, 7] rfl)
                      · refine lv_iconst (v := 1) S.1 S.2.1 dX5_spin_209 (by decide) ?_
                        refine lv_goto (tgt := 214) S.1 S.2.1 dX5_spin_210 (by decide) ?_
                        exact j200_9 _ _ (by first | rfl | (rw [if_neg c200_11, if_neg c206_12]) | (simp only [if_neg c200_11, if_neg c206_12])) (lv_sub hl [0, 1, 2, 3, 4, 5, 6, 7] rfl)
                · refine lv_icmp_ne (tgt := 193) S.1 S.2.1 dX5_spin_176 (by decide) (fun c176_13 => ?_) (fun c176_13 => ?_)
                  · refine lv_iconst (v := 0) S.1 S.2.1 dX5_spin_193 (by decide) ?_
                    exact j176_6 _ _ (by first | rfl | (rw [if_neg c176_13]) | (simp only [if_neg c176_13])) (lv_sub hl [0, 1, 2, 3, 4, 5, 6] rfl)
                  · refine lv_iload S.1 S.2.1 dX5_spin_179 (lv_at hl 2 rfl) ?_
                    refine lv_iload S.1 S.2.1 dX5_spin_181 (lv_at hl 0 rfl) ?_
                    refine lv_ishr S.1 S.2.1 dX5_spin_183 ?_
                    refine lv_iconst (v := 1) S.1 S.2.1 dX5_spin_184 (by decide) ?_
                    refine lv_iand S.1 S.2.1 dX5_spin_185 ?_
                    refine lv_if_ne (tgt := 193) S.1 S.2.1 dX5_spin_186 (by decide) (fun c186_14 => ?_) (fun c186_14 => ?_)
                    · refine lv_iconst (v := 0) S.1 S.2.1 dX5_spin_193 (by decide) ?_
                      exact j176_6 _ _ (by first | rfl | (rw [if_pos c176_13, if_neg c186_14]) | (simp only [if_pos c176_13, if_neg c186_14])) (lv_sub hl [0, 1, 2, 3, 4, 5, 6] rfl)
                    · refine lv_iconst (v := 1) S.1 S.2.1 dX5_spin_189 (by decide) ?_
                      refine lv_goto (tgt := 194) S.1 S.2.1 dX5_spin_190 (by decide) ?_
                      exact j176_6 _ _ (by first | rfl | (rw [if_pos c176_13, if_pos c186_14]) | (simp only [if_pos c176_13, if_pos c186_14])) (lv_sub hl [0, 1, 2, 3, 4, 5, 6] rfl)
          · try dsimp only at hl
            refine lv_iload S.1 S.2.1 dX5_spin_79 (lv_at hl 0 rfl) ?_
            refine lv_iload_n S.1 S.2.1 dX5_spin_81 rfl (lv_at hl 2 rfl) ?_
            refine lv_icmp_ge (tgt := 150) S.1 S.2.1 dX5_spin_82 (by decide) (fun c9 => absurd c9 (nI_ge (hi79) (by first | omega | decide))) (fun _ => ?_)
            refine lv_iload S.1 S.2.1 dX5_spin_85 (lv_at hl 1 rfl) ?_
            refine lv_aload_n S.1 S.2.1 dX5_spin_87 rfl (lv_at hl 3 rfl) ?_
            refine mr_get S K N 9 (by decide) k3_147 (v := .ref (ad 19)) rfl dX5_spin_88 ?_
            refine lv_aload_n S.1 S.2.1 dX5_spin_91 rfl (lv_at hl 3 rfl) ?_
            refine mr_get S K N 2 (by decide) k3_140 (v := .int (M 0 2)) rfl dX5_spin_92 ?_
            refine nt_i (y := nI g) (hg1) ?_
            refine lv_iload S.1 S.2.1 dX5_spin_95 (lv_at hl 0 rfl) ?_
            refine nc_rS S K hS (As := [.int (nI g), .int (nI i79)]) (m_X5_at l g i79) k4_7 k4_8 k1_3 k4_9 (num := 2) (by decide +kernel) rfl ⟨Nat.le_of_ble_eq_true rfl, Nat.le_of_ble_eq_true rfl⟩ hl.1 rfl (Nat.le_of_ble_eq_true rfl) dX5_spin_97 ⟨Nat.le_of_ble_eq_true rfl, Nat.le_of_ble_eq_true rfl⟩ ?_
            refine nt_i (y := nI (12 * g + i79)) (rfl) ?_
            refine mr_iald S K N 9 (by decide) (by decide) rfl (v := (M 9 (12 * g + i79))) (vp_in_nI (show (12 * g + i79) < mlen 9 by show _ < 144; omega) (by decide)) ((congrArg ((up2 M 0 0 0) 9) (nI_clamp (show (12 * g + i79) < 2 ^ 31 by omega))).trans rfl) dX5_spin_100 ?_
            refine lv_bipush (v := 6) S.1 S.2.1 dX5_spin_101 (by decide) ?_
            refine nj (J := 141) (V := ((if (M 9 (12 * g + i79)) = 6 then ((if (M 10 (12 * g + i79)) ≤ 0 then 0 else (M 11 (12 * g + i79))) : Int32) else 0) : Int32)) (L := fun v103_15 => [(5, .int (nI i79)), (4, .int (it79_X5_spin M p0 p1 g n i79)), (3, .int (nI n)), (0, .ref (ad 5)), (1, .int p0), (2, .int p1)]) (St := fun v103_15 => [.int v103_15, .int (it79_X5_spin M p0 p1 g n i79)]) (n := 8) (fun v103_15 ls h103_17 hl => ?_) (fun j103_16 => ?_)
            · try dsimp only at hl ⊢
              subst h103_17
              refine lv_ior S.1 S.2.1 dX5_spin_141 ?_
              refine lv_istore (lv' := [(4, .int ((it79_X5_spin M p0 p1 g n i79) ||| ((if (M 9 (12 * g + i79)) = 6 then ((if (M 10 (12 * g + i79)) ≤ 0 then 0 else (M 11 (12 * g + i79))) : Int32) else 0) : Int32))), (5, .int (nI i79)), (3, .int (nI n)), (0, .ref (ad 5)), (1, .int p0), (2, .int p1)]) S.1 S.2.1 dX5_spin_142 hl (by decide) rfl (fun ls hl => ?_)
              refine lv_iinc (v := nI (i79 + 1)) (lv' := [(5, .int (nI (i79 + 1))), (4, .int ((it79_X5_spin M p0 p1 g n i79) ||| ((if (M 9 (12 * g + i79)) = 6 then ((if (M 10 (12 * g + i79)) ≤ 0 then 0 else (M 11 (12 * g + i79))) : Int32) else 0) : Int32))), (3, .int (nI n)), (0, .ref (ad 5)), (1, .int p0), (2, .int p1)]) S.1 S.2.1 dX5_spin_144 hl (k := 1) rfl (nI_add i79 1) (by decide) rfl (fun ls hl => ?_)
              refine lv_goto (tgt := 79) S.1 S.2.1 dX5_spin_147 (by decide) ?_
              exact ih79 ls (lv_sub hl [0, 1, 2, 3, 4, 5] rfl)
            · refine lv_icmp_ne (tgt := 140) S.1 S.2.1 dX5_spin_103 (by decide) (fun c103_18 => ?_) (fun c103_18 => ?_)
              · refine lv_iconst (v := 0) S.1 S.2.1 dX5_spin_140 (by decide) ?_
                exact j103_16 _ _ (by first | rfl | (rw [if_neg c103_18]) | (simp only [if_neg c103_18])) (lv_sub hl [0, 1, 2, 3, 4, 5] rfl)
              · refine lv_aload_n S.1 S.2.1 dX5_spin_106 rfl (lv_at hl 3 rfl) ?_
                refine mr_get S K N 10 (by decide) k3_148 (v := .ref (ad 20)) rfl dX5_spin_107 ?_
                refine lv_aload_n S.1 S.2.1 dX5_spin_110 rfl (lv_at hl 3 rfl) ?_
                refine mr_get S K N 2 (by decide) k3_140 (v := .int (M 0 2)) rfl dX5_spin_111 ?_
                refine nt_i (y := nI g) (hg1) ?_
                refine lv_iload S.1 S.2.1 dX5_spin_114 (lv_at hl 0 rfl) ?_
                refine nc_rS S K hS (As := [.int (nI g), .int (nI i79)]) (m_X5_at l g i79) k4_7 k4_8 k1_3 k4_9 (num := 2) (by decide +kernel) rfl ⟨Nat.le_of_ble_eq_true rfl, Nat.le_of_ble_eq_true rfl⟩ hl.1 rfl (Nat.le_of_ble_eq_true rfl) dX5_spin_116 ⟨Nat.le_of_ble_eq_true rfl, Nat.le_of_ble_eq_true rfl⟩ ?_
                refine nt_i (y := nI (12 * g + i79)) (rfl) ?_
                refine mr_iald S K N 10 (by decide) (by decide) rfl (v := (M 10 (12 * g + i79))) (vp_in_nI (show (12 * g + i79) < mlen 10 by show _ < 144; omega) (by decide)) ((congrArg ((up2 M 0 0 0) 10) (nI_clamp (show (12 * g + i79) < 2 ^ 31 by omega))).trans rfl) dX5_spin_119 ?_
                refine lv_if_le (tgt := 140) S.1 S.2.1 dX5_spin_120 (by decide) (fun c120_19 => ?_) (fun c120_19 => ?_)
                · refine lv_iconst (v := 0) S.1 S.2.1 dX5_spin_140 (by decide) ?_
                  exact j103_16 _ _ (by first | rfl | (rw [if_pos c103_18, if_pos c120_19]) | (simp only [if_pos c103_18, if_pos c120_19])) (lv_sub hl [0, 1, 2, 3, 4, 5] rfl)
                · refine lv_aload_n S.1 S.2.1 dX5_spin_123 rfl (lv_at hl 3 rfl) ?_
                  refine mr_get S K N 11 (by decide) k3_149 (v := .ref (ad 21)) rfl dX5_spin_124 ?_
                  refine lv_aload_n S.1 S.2.1 dX5_spin_127 rfl (lv_at hl 3 rfl) ?_
                  refine mr_get S K N 2 (by decide) k3_140 (v := .int (M 0 2)) rfl dX5_spin_128 ?_
                  refine nt_i (y := nI g) (hg1) ?_
                  refine lv_iload S.1 S.2.1 dX5_spin_131 (lv_at hl 0 rfl) ?_
                  refine nc_rS S K hS (As := [.int (nI g), .int (nI i79)]) (m_X5_at l g i79) k4_7 k4_8 k1_3 k4_9 (num := 2) (by decide +kernel) rfl ⟨Nat.le_of_ble_eq_true rfl, Nat.le_of_ble_eq_true rfl⟩ hl.1 rfl (Nat.le_of_ble_eq_true rfl) dX5_spin_133 ⟨Nat.le_of_ble_eq_true rfl, Nat.le_of_ble_eq_true rfl⟩ ?_
                  refine nt_i (y := nI (12 * g + i79)) (rfl) ?_
                  refine mr_iald S K N 11 (by decide) (by decide) rfl (v := (M 11 (12 * g + i79))) (vp_in_nI (show (12 * g + i79) < mlen 11 by show _ < 144; omega) (by decide)) ((congrArg ((up2 M 0 0 0) 11) (nI_clamp (show (12 * g + i79) < 2 ^ 31 by omega))).trans rfl) dX5_spin_136 ?_
                  refine lv_goto (tgt := 141) S.1 S.2.1 dX5_spin_137 (by decide) ?_
                  exact j103_16 _ _ (by first | rfl | (rw [if_pos c103_18, if_neg c120_19]) | (simp only [if_pos c103_18, if_neg c120_19])) (lv_sub hl [0, 1, 2, 3, 4, 5] rfl)
    · refine lv_iconst (v := 1) S.1 S.2.1 dX5_spin_21 (by decide) ?_
      refine lv_goto (tgt := 51) S.1 S.2.1 dX5_spin_22 (by decide) ?_
      refine mr_put S K N hS 0 (by decide) (by unfold mscal; omega) k3_138 rfl rfl dX5_spin_51 (fun H locs N hS => ?_)
      refine lv_aload_n S.1 S.2.1 dX5_spin_54 rfl (lv_at hl 0 rfl) ?_
      refine mr_get S K N 0 (by decide) k3_138 (v := .int 1) rfl dX5_spin_55 ?_
      refine lv_if_le (tgt := 63) S.1 S.2.1 dX5_spin_58 (by decide) (fun c9 => absurd c9 (by decide)) (fun _ => ?_)
      refine lv_iconst (v := 0) S.1 S.2.1 dX5_spin_61 (by decide) ?_
      exact ne_wI S hS hr hlk ⟨congrArg (fun z => some (Value.int z)) (Eq.symm (by unfold f_X5_spin; first | rfl | (rw [if_neg c8_1, if_pos c18_2]) | (simp only [if_neg c8_1, if_pos c18_2]))), (by unfold g_X5_spin; first | exact N | (rw [if_neg c8_1, if_pos c18_2]; exact N) | (simp only [if_neg c8_1, if_pos c18_2]; exact N))⟩ dX5_spin_62

def f_X5_end (M : Nat → Nat → Int32) (g : Nat) : Int32 :=
  if (M 0 2) = (-1) then 0
  else (M 8 g)
def g_X5_end (M : Nat → Nat → Int32) (g : Nat) : Nat → Nat → Int32 :=
  if (M 0 2) = (-1) then (up2 M 0 0 1)
  else (up2 (up2 (up2 M 0 0 0) 6 g 2) 0 2 (-1))
set_option maxHeartbeats 4000000 in
set_option maxRecDepth 100000 in
theorem m_X5_end {D : va_G} {cA : Nat → ClassId} {B : Nat} (l : Launch) {dom : Nat → Prop} {ad : Nat → Nat} {X : Nat → va_E} {H0 : Heap} (M : Nat → Nat → Int32) (g : Nat) (N : mw D cA B dom ad X M H0) (hgo : ¬ M 0 2 = (-1) → M 0 2 = nI g ∧ g < 12) : MetW D cA B l yX5_end cX5_end 2 (some .int) 0 0 0 0 [.ref (ad 5)] H0 (fun o h => o = some (.int (f_X5_end M g)) ∧ mw D cA B dom ad X (g_X5_end M g) h) := by
  refine MetW.of (by decide) (Nat.le_of_ble_eq_true rfl) ?_
  intro p e s m args below meth c S hr hlk hin hh K ls hl
  subst hh
  have hS : va_S (fun q => B ≤ q) s.heap s.heap [] := va_S.rf
  have hl : lv_has ls 2 [(0, .ref (ad 5))] := hl
  refine lv_aload_n S.1 S.2.1 dX5_end_0 rfl (lv_at hl 0 rfl) ?_
  refine lv_aload_n S.1 S.2.1 dX5_end_1 rfl (lv_at hl 0 rfl) ?_
  refine mr_get S K N 2 (by decide) k3_140 (v := .int (M 0 2)) rfl dX5_end_2 ?_
  refine lv_iconst (v := (-1)) S.1 S.2.1 dX5_end_5 (by decide) ?_
  refine lv_icmp_ne (tgt := 13) S.1 S.2.1 dX5_end_6 (by decide) (fun c6_1 => ?_) (fun c6_1 => ?_)
  · obtain ⟨hg1, hg2⟩ := hgo c6_1
    refine lv_iconst (v := 0) S.1 S.2.1 dX5_end_13 (by decide) ?_
    refine mr_put S K N hS 0 (by decide) (by unfold mscal; omega) k3_138 rfl rfl dX5_end_14 (fun H locs N hS => ?_)
    refine lv_aload_n S.1 S.2.1 dX5_end_17 rfl (lv_at hl 0 rfl) ?_
    refine mr_get S K N 0 (by decide) k3_138 (v := .int 0) rfl dX5_end_18 ?_
    refine lv_if_le (tgt := 26) S.1 S.2.1 dX5_end_21 (by decide) (fun _ => ?_) (fun c9 => absurd (by decide) c9)
    refine lv_aload_n S.1 S.2.1 dX5_end_26 rfl (lv_at hl 0 rfl) ?_
    refine mr_get S K N 8 (by decide) k3_146 (v := .ref (ad 18)) rfl dX5_end_27 ?_
    refine lv_aload_n S.1 S.2.1 dX5_end_30 rfl (lv_at hl 0 rfl) ?_
    refine mr_get S K N 2 (by decide) k3_140 (v := .int (M 0 2)) rfl dX5_end_31 ?_
    refine nt_i (y := nI g) (hg1) ?_
    refine mr_iald S K N 8 (by decide) (by decide) rfl (v := (M 8 g)) (vp_in_nI (show g < mlen 8 by show _ < 12; omega) (by decide)) ((congrArg ((up2 M 0 0 0) 8) (nI_clamp (show g < 2 ^ 31 by omega))).trans rfl) dX5_end_34 ?_
    refine lv_istore_n (lv' := [(1, .int (M 8 g)), (0, .ref (ad 5))]) S.1 S.2.1 dX5_end_35 rfl hl (by decide) rfl (fun ls hl => ?_)
    refine lv_aload_n S.1 S.2.1 dX5_end_36 rfl (lv_at hl 1 rfl) ?_
    refine mr_get S K N 6 (by decide) k3_144 (v := .ref (ad 16)) rfl dX5_end_37 ?_
    refine lv_aload_n S.1 S.2.1 dX5_end_40 rfl (lv_at hl 1 rfl) ?_
    refine mr_get S K N 2 (by decide) k3_140 (v := .int (M 0 2)) rfl dX5_end_41 ?_
    refine nt_i (y := nI g) (hg1) ?_
    refine lv_iconst (v := 2) S.1 S.2.1 dX5_end_44 (by decide) ?_
    refine mr_iast S K N hS 6 (by decide) (by decide) rfl (vp_in_nI (show g < mlen 6 by show _ < 12; omega) (by decide)) g (nI_clamp (show g < 2 ^ 31 by omega)) dX5_end_45 (fun H locs N hS => ?_)
    refine lv_aload_n S.1 S.2.1 dX5_end_46 rfl (lv_at hl 1 rfl) ?_
    refine lv_iconst (v := (-1)) S.1 S.2.1 dX5_end_47 (by decide) ?_
    refine mr_put S K N hS 2 (by decide) (by unfold mscal; omega) k3_140 rfl rfl dX5_end_48 (fun H locs N hS => ?_)
    refine lv_iload_n S.1 S.2.1 dX5_end_51 rfl (lv_at hl 0 rfl) ?_
    exact ne_wI S hS hr hlk ⟨congrArg (fun z => some (Value.int z)) (Eq.symm (by unfold f_X5_end; first | rfl | (rw [if_neg c6_1]) | (simp only [if_neg c6_1]))), (by unfold g_X5_end; first | exact N | (rw [if_neg c6_1]; exact N) | (simp only [if_neg c6_1]; exact N))⟩ dX5_end_52
  · refine lv_iconst (v := 1) S.1 S.2.1 dX5_end_9 (by decide) ?_
    refine lv_goto (tgt := 14) S.1 S.2.1 dX5_end_10 (by decide) ?_
    refine mr_put S K N hS 0 (by decide) (by unfold mscal; omega) k3_138 rfl rfl dX5_end_14 (fun H locs N hS => ?_)
    refine lv_aload_n S.1 S.2.1 dX5_end_17 rfl (lv_at hl 0 rfl) ?_
    refine mr_get S K N 0 (by decide) k3_138 (v := .int 1) rfl dX5_end_18 ?_
    refine lv_if_le (tgt := 26) S.1 S.2.1 dX5_end_21 (by decide) (fun c9 => absurd c9 (by decide)) (fun _ => ?_)
    refine lv_iconst (v := 0) S.1 S.2.1 dX5_end_24 (by decide) ?_
    exact ne_wI S hS hr hlk ⟨congrArg (fun z => some (Value.int z)) (Eq.symm (by unfold f_X5_end; first | rfl | (rw [if_pos c6_1]) | (simp only [if_pos c6_1]))), (by unfold g_X5_end; first | exact N | (rw [if_pos c6_1]; exact N) | (simp only [if_pos c6_1]; exact N))⟩ dX5_end_25
end
